section
-- ===== PART A: goes FIRST, ahead of the names: the tables' words, and 'selects' of the private methods out of them =====
/-- a private method of a class that the tables say can be made, by its rows of tables_1 -/
def lw_okq (q : MethodName × Nat) : Prop := (q.1.cls ≠ "java/lang/invoke/MethodHandle" ∧ q.1.cls ≠ "java/lang/invoke/VarHandle") ∧ Cond.instantiable q.1.cls q.2 ∈ tables_1 ∧ Cond.privateMethod q.1 ∈ tables_1 ∧ Cond.instanceMethod q.1 ∈ tables_1
theorem lw_p0 : lw_okq (⟨"EscapeMill", "settle", "()V"⟩, 5) := ⟨⟨by decide +kernel, by decide +kernel⟩, List.mem_of_getElem? (i := 15) (by decide +kernel), List.mem_of_getElem? (i := 206) (by decide +kernel), List.mem_of_getElem? (i := 207) (by decide +kernel)⟩
theorem lw_p1 : lw_okq (⟨"EscapeMill$Facts", "forget", "()V"⟩, 8) := ⟨⟨by decide +kernel, by decide +kernel⟩, List.mem_of_getElem? (i := 139) (by decide +kernel), List.mem_of_getElem? (i := 214) (by decide +kernel), List.mem_of_getElem? (i := 215) (by decide +kernel)⟩
theorem lw_p2 : lw_okq (⟨"EscapeMill$Facts", "begin", "(I)V"⟩, 8) := ⟨⟨by decide +kernel, by decide +kernel⟩, List.mem_of_getElem? (i := 139) (by decide +kernel), List.mem_of_getElem? (i := 221) (by decide +kernel), List.mem_of_getElem? (i := 222) (by decide +kernel)⟩
theorem lw_p3 : lw_okq (⟨"EscapeMill$Facts", "refer", "(II)V"⟩, 8) := ⟨⟨by decide +kernel, by decide +kernel⟩, List.mem_of_getElem? (i := 139) (by decide +kernel), List.mem_of_getElem? (i := 226) (by decide +kernel), List.mem_of_getElem? (i := 227) (by decide +kernel)⟩
theorem lw_p4 : lw_okq (⟨"EscapeMill$Facts", "holdInBoth", "(II)V"⟩, 8) := ⟨⟨by decide +kernel, by decide +kernel⟩, List.mem_of_getElem? (i := 139) (by decide +kernel), List.mem_of_getElem? (i := 230) (by decide +kernel), List.mem_of_getElem? (i := 231) (by decide +kernel)⟩
theorem lw_p5 : lw_okq (⟨"EscapeMill$Facts", "holdIn", "(III)V"⟩, 8) := ⟨⟨by decide +kernel, by decide +kernel⟩, List.mem_of_getElem? (i := 139) (by decide +kernel), List.mem_of_getElem? (i := 234) (by decide +kernel), List.mem_of_getElem? (i := 235) (by decide +kernel)⟩
theorem lw_p6 : lw_okq (⟨"EscapeMill$Facts", "applyCall", "([LEscapeMill$Code;[LEscapeMill$Facts;II)V"⟩, 8) := ⟨⟨by decide +kernel, by decide +kernel⟩, List.mem_of_getElem? (i := 139) (by decide +kernel), List.mem_of_getElem? (i := 239) (by decide +kernel), List.mem_of_getElem? (i := 240) (by decide +kernel)⟩
theorem lw_p7 : lw_okq (⟨"EscapeMill$Facts", "reached", "(I)I"⟩, 8) := ⟨⟨by decide +kernel, by decide +kernel⟩, List.mem_of_getElem? (i := 139) (by decide +kernel), List.mem_of_getElem? (i := 243) (by decide +kernel), List.mem_of_getElem? (i := 244) (by decide +kernel)⟩
theorem lw_p8 : lw_okq (⟨"EscapeMill$Facts", "heldBy", "(II)I"⟩, 8) := ⟨⟨by decide +kernel, by decide +kernel⟩, List.mem_of_getElem? (i := 139) (by decide +kernel), List.mem_of_getElem? (i := 247) (by decide +kernel), List.mem_of_getElem? (i := 248) (by decide +kernel)⟩
theorem lw_p9 : lw_okq (⟨"EscapeMill$Facts", "apply", "(LEscapeMill$Code;I)V"⟩, 8) := ⟨⟨by decide +kernel, by decide +kernel⟩, List.mem_of_getElem? (i := 139) (by decide +kernel), List.mem_of_getElem? (i := 251) (by decide +kernel), List.mem_of_getElem? (i := 252) (by decide +kernel)⟩
theorem lw_p10 : lw_okq (⟨"EscapeMill$Facts", "hold", "(III)V"⟩, 8) := ⟨⟨by decide +kernel, by decide +kernel⟩, List.mem_of_getElem? (i := 139) (by decide +kernel), List.mem_of_getElem? (i := 255) (by decide +kernel), List.mem_of_getElem? (i := 256) (by decide +kernel)⟩
theorem lw_p11 : lw_okq (⟨"EscapeMill$Facts", "sumUp", "(I)V"⟩, 8) := ⟨⟨by decide +kernel, by decide +kernel⟩, List.mem_of_getElem? (i := 139) (by decide +kernel), List.mem_of_getElem? (i := 260) (by decide +kernel), List.mem_of_getElem? (i := 261) (by decide +kernel)⟩
theorem lw_p12 : lw_okq (⟨"EscapeMill$Code", "bit", "(I)I"⟩, 7) := ⟨⟨by decide +kernel, by decide +kernel⟩, List.mem_of_getElem? (i := 90) (by decide +kernel), List.mem_of_getElem? (i := 280) (by decide +kernel), List.mem_of_getElem? (i := 281) (by decide +kernel)⟩
theorem lw_p13 : lw_okq (⟨"EscapeMill$Code", "behind", "(I)I"⟩, 7) := ⟨⟨by decide +kernel, by decide +kernel⟩, List.mem_of_getElem? (i := 90) (by decide +kernel), List.mem_of_getElem? (i := 288) (by decide +kernel), List.mem_of_getElem? (i := 289) (by decide +kernel)⟩
theorem lw_p14 : lw_okq (⟨"EscapeMill$Plan", "takeApart", "(LEscapeMill$Code;II)V"⟩, 1) := ⟨⟨by decide +kernel, by decide +kernel⟩, List.mem_of_getElem? (i := 174) (by decide +kernel), List.mem_of_getElem? (i := 310) (by decide +kernel), List.mem_of_getElem? (i := 311) (by decide +kernel)⟩
theorem lw_p15 : lw_okq (⟨"EscapeMill$Plan", "pairLocks", "(LEscapeMill$Code;II)V"⟩, 1) := ⟨⟨by decide +kernel, by decide +kernel⟩, List.mem_of_getElem? (i := 174) (by decide +kernel), List.mem_of_getElem? (i := 318) (by decide +kernel), List.mem_of_getElem? (i := 319) (by decide +kernel)⟩
def lw_privs_1 : List (MethodName × Nat) := [(⟨"EscapeMill", "settle", "()V"⟩, 5), (⟨"EscapeMill$Facts", "forget", "()V"⟩, 8), (⟨"EscapeMill$Facts", "begin", "(I)V"⟩, 8), (⟨"EscapeMill$Facts", "refer", "(II)V"⟩, 8), (⟨"EscapeMill$Facts", "holdInBoth", "(II)V"⟩, 8), (⟨"EscapeMill$Facts", "holdIn", "(III)V"⟩, 8), (⟨"EscapeMill$Facts", "applyCall", "([LEscapeMill$Code;[LEscapeMill$Facts;II)V"⟩, 8), (⟨"EscapeMill$Facts", "reached", "(I)I"⟩, 8), (⟨"EscapeMill$Facts", "heldBy", "(II)I"⟩, 8), (⟨"EscapeMill$Facts", "apply", "(LEscapeMill$Code;I)V"⟩, 8), (⟨"EscapeMill$Facts", "hold", "(III)V"⟩, 8), (⟨"EscapeMill$Facts", "sumUp", "(I)V"⟩, 8), (⟨"EscapeMill$Code", "bit", "(I)I"⟩, 7), (⟨"EscapeMill$Code", "behind", "(I)I"⟩, 7), (⟨"EscapeMill$Plan", "takeApart", "(LEscapeMill$Code;II)V"⟩, 1), (⟨"EscapeMill$Plan", "pairLocks", "(LEscapeMill$Code;II)V"⟩, 1)]
theorem lw_r1 : ∀ q ∈ lw_privs_1, lw_okq q := List.forall_mem_cons.mpr ⟨lw_p0, List.forall_mem_cons.mpr ⟨lw_p1, List.forall_mem_cons.mpr ⟨lw_p2, List.forall_mem_cons.mpr ⟨lw_p3, List.forall_mem_cons.mpr ⟨lw_p4, List.forall_mem_cons.mpr ⟨lw_p5, List.forall_mem_cons.mpr ⟨lw_p6, List.forall_mem_cons.mpr ⟨lw_p7, List.forall_mem_cons.mpr ⟨lw_p8, List.forall_mem_cons.mpr ⟨lw_p9, List.forall_mem_cons.mpr ⟨lw_p10, List.forall_mem_cons.mpr ⟨lw_p11, List.forall_mem_cons.mpr ⟨lw_p12, List.forall_mem_cons.mpr ⟨lw_p13, List.forall_mem_cons.mpr ⟨lw_p14, List.forall_mem_cons.mpr ⟨lw_p15, fun _ h => absurd h List.not_mem_nil⟩⟩⟩⟩⟩⟩⟩⟩⟩⟩⟩⟩⟩⟩⟩⟩
theorem lw_p16 : lw_okq (⟨"EscapeMill$Machine", "begin", "()V"⟩, 16) := ⟨⟨by decide +kernel, by decide +kernel⟩, List.mem_of_getElem? (i := 29) (by decide +kernel), List.mem_of_getElem? (i := 336) (by decide +kernel), List.mem_of_getElem? (i := 337) (by decide +kernel)⟩
theorem lw_p17 : lw_okq (⟨"EscapeMill$Machine", "enter", "(IIII)V"⟩, 16) := ⟨⟨by decide +kernel, by decide +kernel⟩, List.mem_of_getElem? (i := 29) (by decide +kernel), List.mem_of_getElem? (i := 341) (by decide +kernel), List.mem_of_getElem? (i := 342) (by decide +kernel)⟩
theorem lw_p18 : lw_okq (⟨"EscapeMill$Machine", "base", "()I"⟩, 16) := ⟨⟨by decide +kernel, by decide +kernel⟩, List.mem_of_getElem? (i := 29) (by decide +kernel), List.mem_of_getElem? (i := 345) (by decide +kernel), List.mem_of_getElem? (i := 346) (by decide +kernel)⟩
theorem lw_p19 : lw_okq (⟨"EscapeMill$Machine", "leave", "(I)V"⟩, 16) := ⟨⟨by decide +kernel, by decide +kernel⟩, List.mem_of_getElem? (i := 29) (by decide +kernel), List.mem_of_getElem? (i := 350) (by decide +kernel), List.mem_of_getElem? (i := 351) (by decide +kernel)⟩
theorem lw_p20 : lw_okq (⟨"EscapeMill$Machine", "perform", "([LEscapeMill$Code;III)V"⟩, 16) := ⟨⟨by decide +kernel, by decide +kernel⟩, List.mem_of_getElem? (i := 29) (by decide +kernel), List.mem_of_getElem? (i := 354) (by decide +kernel), List.mem_of_getElem? (i := 355) (by decide +kernel)⟩
theorem lw_p21 : lw_okq (⟨"EscapeMill$Machine", "cellOf", "(I)I"⟩, 16) := ⟨⟨by decide +kernel, by decide +kernel⟩, List.mem_of_getElem? (i := 29) (by decide +kernel), List.mem_of_getElem? (i := 358) (by decide +kernel), List.mem_of_getElem? (i := 359) (by decide +kernel)⟩
theorem lw_p22 : lw_okq (⟨"EscapeMill$Machine", "workOnField", "(IIIII)V"⟩, 16) := ⟨⟨by decide +kernel, by decide +kernel⟩, List.mem_of_getElem? (i := 29) (by decide +kernel), List.mem_of_getElem? (i := 362) (by decide +kernel), List.mem_of_getElem? (i := 363) (by decide +kernel)⟩
theorem lw_p23 : lw_okq (⟨"EscapeMill$Machine", "changeCount", "(II)V"⟩, 16) := ⟨⟨by decide +kernel, by decide +kernel⟩, List.mem_of_getElem? (i := 29) (by decide +kernel), List.mem_of_getElem? (i := 366) (by decide +kernel), List.mem_of_getElem? (i := 367) (by decide +kernel)⟩
theorem lw_p24 : lw_okq (⟨"EscapeMill$Machine", "call", "([LEscapeMill$Code;II)V"⟩, 16) := ⟨⟨by decide +kernel, by decide +kernel⟩, List.mem_of_getElem? (i := 29) (by decide +kernel), List.mem_of_getElem? (i := 370) (by decide +kernel), List.mem_of_getElem? (i := 371) (by decide +kernel)⟩
theorem lw_p25 : lw_okq (⟨"EscapeMill$Machine", "newParts", "(I)I"⟩, 16) := ⟨⟨by decide +kernel, by decide +kernel⟩, List.mem_of_getElem? (i := 29) (by decide +kernel), List.mem_of_getElem? (i := 374) (by decide +kernel), List.mem_of_getElem? (i := 375) (by decide +kernel)⟩
theorem lw_p26 : lw_okq (⟨"EscapeMill$Machine", "emptied", "(I)I"⟩, 16) := ⟨⟨by decide +kernel, by decide +kernel⟩, List.mem_of_getElem? (i := 29) (by decide +kernel), List.mem_of_getElem? (i := 378) (by decide +kernel), List.mem_of_getElem? (i := 379) (by decide +kernel)⟩
theorem lw_p27 : lw_okq (⟨"EscapeMill$Machine", "newObject", "()I"⟩, 16) := ⟨⟨by decide +kernel, by decide +kernel⟩, List.mem_of_getElem? (i := 29) (by decide +kernel), List.mem_of_getElem? (i := 382) (by decide +kernel), List.mem_of_getElem? (i := 383) (by decide +kernel)⟩
theorem lw_p28 : lw_okq (⟨"EscapeMill$Machine", "move", "(LEscapeMill$Code;I)V"⟩, 16) := ⟨⟨by decide +kernel, by decide +kernel⟩, List.mem_of_getElem? (i := 29) (by decide +kernel), List.mem_of_getElem? (i := 386) (by decide +kernel), List.mem_of_getElem? (i := 387) (by decide +kernel)⟩
theorem lw_p29 : lw_okq (⟨"EscapeMill$Machine", "show", "(I)V"⟩, 16) := ⟨⟨by decide +kernel, by decide +kernel⟩, List.mem_of_getElem? (i := 29) (by decide +kernel), List.mem_of_getElem? (i := 390) (by decide +kernel), List.mem_of_getElem? (i := 391) (by decide +kernel)⟩
theorem lw_p30 : lw_okq (⟨"java/lang/Throwable", "fillInStackTrace", "(I)Ljava/lang/Throwable;"⟩, 6) := ⟨⟨by decide +kernel, by decide +kernel⟩, List.mem_of_getElem? (i := 469) (by decide +kernel), List.mem_of_getElem? (i := 467) (by decide +kernel), List.mem_of_getElem? (i := 468) (by decide +kernel)⟩
theorem lw_p31 : lw_okq (⟨"EscapeMillModel", "know", "()V"⟩, 30) := ⟨⟨by decide +kernel, by decide +kernel⟩, List.mem_of_getElem? (i := 557) (by decide +kernel), List.mem_of_getElem? (i := 680) (by decide +kernel), List.mem_of_getElem? (i := 681) (by decide +kernel)⟩
def lw_privs_2 : List (MethodName × Nat) := [(⟨"EscapeMill$Machine", "begin", "()V"⟩, 16), (⟨"EscapeMill$Machine", "enter", "(IIII)V"⟩, 16), (⟨"EscapeMill$Machine", "base", "()I"⟩, 16), (⟨"EscapeMill$Machine", "leave", "(I)V"⟩, 16), (⟨"EscapeMill$Machine", "perform", "([LEscapeMill$Code;III)V"⟩, 16), (⟨"EscapeMill$Machine", "cellOf", "(I)I"⟩, 16), (⟨"EscapeMill$Machine", "workOnField", "(IIIII)V"⟩, 16), (⟨"EscapeMill$Machine", "changeCount", "(II)V"⟩, 16), (⟨"EscapeMill$Machine", "call", "([LEscapeMill$Code;II)V"⟩, 16), (⟨"EscapeMill$Machine", "newParts", "(I)I"⟩, 16), (⟨"EscapeMill$Machine", "emptied", "(I)I"⟩, 16), (⟨"EscapeMill$Machine", "newObject", "()I"⟩, 16), (⟨"EscapeMill$Machine", "move", "(LEscapeMill$Code;I)V"⟩, 16), (⟨"EscapeMill$Machine", "show", "(I)V"⟩, 16), (⟨"java/lang/Throwable", "fillInStackTrace", "(I)Ljava/lang/Throwable;"⟩, 6), (⟨"EscapeMillModel", "know", "()V"⟩, 30)]
theorem lw_r2 : ∀ q ∈ lw_privs_2, lw_okq q := List.forall_mem_cons.mpr ⟨lw_p16, List.forall_mem_cons.mpr ⟨lw_p17, List.forall_mem_cons.mpr ⟨lw_p18, List.forall_mem_cons.mpr ⟨lw_p19, List.forall_mem_cons.mpr ⟨lw_p20, List.forall_mem_cons.mpr ⟨lw_p21, List.forall_mem_cons.mpr ⟨lw_p22, List.forall_mem_cons.mpr ⟨lw_p23, List.forall_mem_cons.mpr ⟨lw_p24, List.forall_mem_cons.mpr ⟨lw_p25, List.forall_mem_cons.mpr ⟨lw_p26, List.forall_mem_cons.mpr ⟨lw_p27, List.forall_mem_cons.mpr ⟨lw_p28, List.forall_mem_cons.mpr ⟨lw_p29, List.forall_mem_cons.mpr ⟨lw_p30, List.forall_mem_cons.mpr ⟨lw_p31, fun _ h => absurd h List.not_mem_nil⟩⟩⟩⟩⟩⟩⟩⟩⟩⟩⟩⟩⟩⟩⟩⟩
theorem lw_p32 : lw_okq (⟨"EscapeMillModel", "analyse", "(I)V"⟩, 30) := ⟨⟨by decide +kernel, by decide +kernel⟩, List.mem_of_getElem? (i := 557) (by decide +kernel), List.mem_of_getElem? (i := 684) (by decide +kernel), List.mem_of_getElem? (i := 685) (by decide +kernel)⟩
theorem lw_p33 : lw_okq (⟨"EscapeMillModel", "holds", "(IIII)V"⟩, 30) := ⟨⟨by decide +kernel, by decide +kernel⟩, List.mem_of_getElem? (i := 557) (by decide +kernel), List.mem_of_getElem? (i := 689) (by decide +kernel), List.mem_of_getElem? (i := 690) (by decide +kernel)⟩
theorem lw_p34 : lw_okq (⟨"EscapeMillModel", "weight", "(I)I"⟩, 30) := ⟨⟨by decide +kernel, by decide +kernel⟩, List.mem_of_getElem? (i := 557) (by decide +kernel), List.mem_of_getElem? (i := 693) (by decide +kernel), List.mem_of_getElem? (i := 694) (by decide +kernel)⟩
theorem lw_p35 : lw_okq (⟨"EscapeMillModel", "adds", "(II)V"⟩, 30) := ⟨⟨by decide +kernel, by decide +kernel⟩, List.mem_of_getElem? (i := 557) (by decide +kernel), List.mem_of_getElem? (i := 697) (by decide +kernel), List.mem_of_getElem? (i := 698) (by decide +kernel)⟩
theorem lw_p36 : lw_okq (⟨"EscapeMillModel", "held", "(III)I"⟩, 30) := ⟨⟨by decide +kernel, by decide +kernel⟩, List.mem_of_getElem? (i := 557) (by decide +kernel), List.mem_of_getElem? (i := 701) (by decide +kernel), List.mem_of_getElem? (i := 702) (by decide +kernel)⟩
theorem lw_p37 : lw_okq (⟨"EscapeMillModel", "calls", "(II)V"⟩, 30) := ⟨⟨by decide +kernel, by decide +kernel⟩, List.mem_of_getElem? (i := 557) (by decide +kernel), List.mem_of_getElem? (i := 705) (by decide +kernel), List.mem_of_getElem? (i := 706) (by decide +kernel)⟩
theorem lw_p38 : lw_okq (⟨"EscapeMillModel", "reached", "(II)I"⟩, 30) := ⟨⟨by decide +kernel, by decide +kernel⟩, List.mem_of_getElem? (i := 557) (by decide +kernel), List.mem_of_getElem? (i := 709) (by decide +kernel), List.mem_of_getElem? (i := 710) (by decide +kernel)⟩
theorem lw_p39 : lw_okq (⟨"EscapeMillModel", "stateOf", "(III)I"⟩, 30) := ⟨⟨by decide +kernel, by decide +kernel⟩, List.mem_of_getElem? (i := 557) (by decide +kernel), List.mem_of_getElem? (i := 713) (by decide +kernel), List.mem_of_getElem? (i := 714) (by decide +kernel)⟩
theorem lw_p40 : lw_okq (⟨"EscapeMillModel", "fateOf", "(II)I"⟩, 30) := ⟨⟨by decide +kernel, by decide +kernel⟩, List.mem_of_getElem? (i := 557) (by decide +kernel), List.mem_of_getElem? (i := 717) (by decide +kernel), List.mem_of_getElem? (i := 718) (by decide +kernel)⟩
theorem lw_p41 : lw_okq (⟨"EscapeMillModel", "worksOn", "(III)Z"⟩, 30) := ⟨⟨by decide +kernel, by decide +kernel⟩, List.mem_of_getElem? (i := 557) (by decide +kernel), List.mem_of_getElem? (i := 721) (by decide +kernel), List.mem_of_getElem? (i := 722) (by decide +kernel)⟩
theorem lw_p42 : lw_okq (⟨"EscapeMillModel", "apart", "(II)Z"⟩, 30) := ⟨⟨by decide +kernel, by decide +kernel⟩, List.mem_of_getElem? (i := 557) (by decide +kernel), List.mem_of_getElem? (i := 725) (by decide +kernel), List.mem_of_getElem? (i := 726) (by decide +kernel)⟩
theorem lw_p43 : lw_okq (⟨"EscapeMillModel", "onlyNew", "(II)I"⟩, 30) := ⟨⟨by decide +kernel, by decide +kernel⟩, List.mem_of_getElem? (i := 557) (by decide +kernel), List.mem_of_getElem? (i := 729) (by decide +kernel), List.mem_of_getElem? (i := 730) (by decide +kernel)⟩
theorem lw_p44 : lw_okq (⟨"EscapeMillModel", "gives", "(III)Z"⟩, 30) := ⟨⟨by decide +kernel, by decide +kernel⟩, List.mem_of_getElem? (i := 557) (by decide +kernel), List.mem_of_getElem? (i := 736) (by decide +kernel), List.mem_of_getElem? (i := 737) (by decide +kernel)⟩
theorem lw_p45 : lw_okq (⟨"EscapeMillModel", "dominates", "(III)Z"⟩, 30) := ⟨⟨by decide +kernel, by decide +kernel⟩, List.mem_of_getElem? (i := 557) (by decide +kernel), List.mem_of_getElem? (i := 740) (by decide +kernel), List.mem_of_getElem? (i := 741) (by decide +kernel)⟩
theorem lw_p46 : lw_okq (⟨"EscapeMillModel", "isInstruction", "(II)Z"⟩, 30) := ⟨⟨by decide +kernel, by decide +kernel⟩, List.mem_of_getElem? (i := 557) (by decide +kernel), List.mem_of_getElem? (i := 744) (by decide +kernel), List.mem_of_getElem? (i := 745) (by decide +kernel)⟩
theorem lw_p47 : lw_okq (⟨"EscapeMillModel", "pair", "(III)Z"⟩, 30) := ⟨⟨by decide +kernel, by decide +kernel⟩, List.mem_of_getElem? (i := 557) (by decide +kernel), List.mem_of_getElem? (i := 748) (by decide +kernel), List.mem_of_getElem? (i := 749) (by decide +kernel)⟩
def lw_privs_3 : List (MethodName × Nat) := [(⟨"EscapeMillModel", "analyse", "(I)V"⟩, 30), (⟨"EscapeMillModel", "holds", "(IIII)V"⟩, 30), (⟨"EscapeMillModel", "weight", "(I)I"⟩, 30), (⟨"EscapeMillModel", "adds", "(II)V"⟩, 30), (⟨"EscapeMillModel", "held", "(III)I"⟩, 30), (⟨"EscapeMillModel", "calls", "(II)V"⟩, 30), (⟨"EscapeMillModel", "reached", "(II)I"⟩, 30), (⟨"EscapeMillModel", "stateOf", "(III)I"⟩, 30), (⟨"EscapeMillModel", "fateOf", "(II)I"⟩, 30), (⟨"EscapeMillModel", "worksOn", "(III)Z"⟩, 30), (⟨"EscapeMillModel", "apart", "(II)Z"⟩, 30), (⟨"EscapeMillModel", "onlyNew", "(II)I"⟩, 30), (⟨"EscapeMillModel", "gives", "(III)Z"⟩, 30), (⟨"EscapeMillModel", "dominates", "(III)Z"⟩, 30), (⟨"EscapeMillModel", "isInstruction", "(II)Z"⟩, 30), (⟨"EscapeMillModel", "pair", "(III)Z"⟩, 30)]
theorem lw_r3 : ∀ q ∈ lw_privs_3, lw_okq q := List.forall_mem_cons.mpr ⟨lw_p32, List.forall_mem_cons.mpr ⟨lw_p33, List.forall_mem_cons.mpr ⟨lw_p34, List.forall_mem_cons.mpr ⟨lw_p35, List.forall_mem_cons.mpr ⟨lw_p36, List.forall_mem_cons.mpr ⟨lw_p37, List.forall_mem_cons.mpr ⟨lw_p38, List.forall_mem_cons.mpr ⟨lw_p39, List.forall_mem_cons.mpr ⟨lw_p40, List.forall_mem_cons.mpr ⟨lw_p41, List.forall_mem_cons.mpr ⟨lw_p42, List.forall_mem_cons.mpr ⟨lw_p43, List.forall_mem_cons.mpr ⟨lw_p44, List.forall_mem_cons.mpr ⟨lw_p45, List.forall_mem_cons.mpr ⟨lw_p46, List.forall_mem_cons.mpr ⟨lw_p47, fun _ h => absurd h List.not_mem_nil⟩⟩⟩⟩⟩⟩⟩⟩⟩⟩⟩⟩⟩⟩⟩⟩
theorem lw_p48 : lw_okq (⟨"EscapeMillModel", "escapeOf", "(II)I"⟩, 30) := ⟨⟨by decide +kernel, by decide +kernel⟩, List.mem_of_getElem? (i := 557) (by decide +kernel), List.mem_of_getElem? (i := 752) (by decide +kernel), List.mem_of_getElem? (i := 753) (by decide +kernel)⟩
theorem lw_p49 : lw_okq (⟨"EscapeMillModel", "argsOf", "(I)I"⟩, 30) := ⟨⟨by decide +kernel, by decide +kernel⟩, List.mem_of_getElem? (i := 557) (by decide +kernel), List.mem_of_getElem? (i := 756) (by decide +kernel), List.mem_of_getElem? (i := 757) (by decide +kernel)⟩
theorem lw_p50 : lw_okq (⟨"EscapeMillModel", "enter", "(IIII)V"⟩, 30) := ⟨⟨by decide +kernel, by decide +kernel⟩, List.mem_of_getElem? (i := 557) (by decide +kernel), List.mem_of_getElem? (i := 762) (by decide +kernel), List.mem_of_getElem? (i := 763) (by decide +kernel)⟩
theorem lw_p51 : lw_okq (⟨"EscapeMillModel", "leave", "(I)V"⟩, 30) := ⟨⟨by decide +kernel, by decide +kernel⟩, List.mem_of_getElem? (i := 557) (by decide +kernel), List.mem_of_getElem? (i := 766) (by decide +kernel), List.mem_of_getElem? (i := 767) (by decide +kernel)⟩
theorem lw_p52 : lw_okq (⟨"EscapeMillModel", "does", "(II)V"⟩, 30) := ⟨⟨by decide +kernel, by decide +kernel⟩, List.mem_of_getElem? (i := 557) (by decide +kernel), List.mem_of_getElem? (i := 770) (by decide +kernel), List.mem_of_getElem? (i := 771) (by decide +kernel)⟩
theorem lw_p53 : lw_okq (⟨"EscapeMillModel", "makes", "(IZ)V"⟩, 30) := ⟨⟨by decide +kernel, by decide +kernel⟩, List.mem_of_getElem? (i := 557) (by decide +kernel), List.mem_of_getElem? (i := 774) (by decide +kernel), List.mem_of_getElem? (i := 775) (by decide +kernel)⟩
theorem lw_p54 : lw_okq (⟨"EscapeMillModel", "fields", "(IZ)V"⟩, 30) := ⟨⟨by decide +kernel, by decide +kernel⟩, List.mem_of_getElem? (i := 557) (by decide +kernel), List.mem_of_getElem? (i := 778) (by decide +kernel), List.mem_of_getElem? (i := 779) (by decide +kernel)⟩
theorem lw_p55 : lw_okq (⟨"EscapeMillModel", "set", "(ZII)V"⟩, 30) := ⟨⟨by decide +kernel, by decide +kernel⟩, List.mem_of_getElem? (i := 557) (by decide +kernel), List.mem_of_getElem? (i := 782) (by decide +kernel), List.mem_of_getElem? (i := 783) (by decide +kernel)⟩
theorem lw_p56 : lw_okq (⟨"EscapeMillModel", "call", "(I)V"⟩, 30) := ⟨⟨by decide +kernel, by decide +kernel⟩, List.mem_of_getElem? (i := 557) (by decide +kernel), List.mem_of_getElem? (i := 786) (by decide +kernel), List.mem_of_getElem? (i := 787) (by decide +kernel)⟩
theorem lw_p57 : lw_okq (⟨"EscapeMillModel", "moves", "(I)V"⟩, 30) := ⟨⟨by decide +kernel, by decide +kernel⟩, List.mem_of_getElem? (i := 557) (by decide +kernel), List.mem_of_getElem? (i := 790) (by decide +kernel), List.mem_of_getElem? (i := 791) (by decide +kernel)⟩
def lw_privs_4 : List (MethodName × Nat) := [(⟨"EscapeMillModel", "escapeOf", "(II)I"⟩, 30), (⟨"EscapeMillModel", "argsOf", "(I)I"⟩, 30), (⟨"EscapeMillModel", "enter", "(IIII)V"⟩, 30), (⟨"EscapeMillModel", "leave", "(I)V"⟩, 30), (⟨"EscapeMillModel", "does", "(II)V"⟩, 30), (⟨"EscapeMillModel", "makes", "(IZ)V"⟩, 30), (⟨"EscapeMillModel", "fields", "(IZ)V"⟩, 30), (⟨"EscapeMillModel", "set", "(ZII)V"⟩, 30), (⟨"EscapeMillModel", "call", "(I)V"⟩, 30), (⟨"EscapeMillModel", "moves", "(I)V"⟩, 30)]
theorem lw_r4 : ∀ q ∈ lw_privs_4, lw_okq q := List.forall_mem_cons.mpr ⟨lw_p48, List.forall_mem_cons.mpr ⟨lw_p49, List.forall_mem_cons.mpr ⟨lw_p50, List.forall_mem_cons.mpr ⟨lw_p51, List.forall_mem_cons.mpr ⟨lw_p52, List.forall_mem_cons.mpr ⟨lw_p53, List.forall_mem_cons.mpr ⟨lw_p54, List.forall_mem_cons.mpr ⟨lw_p55, List.forall_mem_cons.mpr ⟨lw_p56, List.forall_mem_cons.mpr ⟨lw_p57, fun _ h => absurd h List.not_mem_nil⟩⟩⟩⟩⟩⟩⟩⟩⟩⟩
def lw_privs : List (MethodName × Nat) := lw_privs_1 ++ (lw_privs_2 ++ (lw_privs_3 ++ (lw_privs_4)))
def lw_tbl : List Cond := k2_sels lw_privs ++ tables_1
theorem lw_privs_ok : ∀ q ∈ lw_privs, lw_okq q := by
  show ∀ q ∈ lw_privs_1 ++ (lw_privs_2 ++ (lw_privs_3 ++ (lw_privs_4))), lw_okq q
  exact List.forall_mem_append.mpr ⟨lw_r1, List.forall_mem_append.mpr ⟨lw_r2, List.forall_mem_append.mpr ⟨lw_r3, lw_r4⟩⟩⟩
-- ===== end of PART A; then your names; then what follows =====
end
section
/-! ===== Int32 by its bits: bt x i ===== -/
def bt (x : Int32) (i : Nat) : Bool := x.toBitVec.getLsbD i
theorem b_ext {x y : Int32} (h : ∀ i, i < 32 → bt x i = bt y i) : x = y := Int32.toBitVec_inj.mp (BitVec.eq_of_getLsbD_eq (fun i hi => h i hi))
theorem b_or (x y : Int32) (i : Nat) : bt (x ||| y) i = (bt x i || bt y i) := by unfold bt; rw [Int32.toBitVec_or, BitVec.getLsbD_or]
theorem b_and (x y : Int32) (i : Nat) : bt (x &&& y) i = (bt x i && bt y i) := by unfold bt; rw [Int32.toBitVec_and, BitVec.getLsbD_and]
theorem b_xor (x y : Int32) (i : Nat) : bt (x ^^^ y) i = (bt x i ^^ bt y i) := by unfold bt; rw [Int32.toBitVec_xor, BitVec.getLsbD_xor]
theorem b_big {x : Int32} {i : Nat} (h : 32 ≤ i) : bt x i = false := BitVec.getLsbD_of_ge _ _ h
theorem b_255 (i : Nat) : bt 255 i = decide (i < 8) := by
  rcases Nat.lt_or_ge i 32 with h | h
  · exact (by decide +kernel : ∀ i, i < 32 → bt 255 i = decide (i < 8)) i h
  · rw [b_big h, decide_eq_false (by omega)]
theorem b_65535 (i : Nat) : bt 65535 i = decide (i < 16) := by
  rcases Nat.lt_or_ge i 32 with h | h
  · exact (by decide +kernel : ∀ i, i < 32 → bt 65535 i = decide (i < 16)) i h
  · rw [b_big h, decide_eq_false (by omega)]
theorem b_m1 : ∀ i, i < 32 → bt (-1) i = true := by decide +kernel
theorem b_0 (i : Nat) : bt 0 i = false := BitVec.getLsbD_zero
theorem s_l : ∀ n, n < 32 → ((nI n &&& 31).toBitVec.smod 32).toNat = n := by decide +kernel
theorem s_u : ∀ n, n < 32 → (((nI n).toUInt32 &&& Int32.toUInt32 31).toBitVec % 32).toNat = n := by decide +kernel
theorem b_shl (n : Nat) (hn : n < 32) (x : Int32) {i : Nat} (hi : i < 32) : bt (x <<< (nI n &&& 31)) i = (decide (n ≤ i) && bt x (i - n)) := by
  unfold bt
  rw [Int32.toBitVec_shiftLeft]
  show (x.toBitVec <<< ((nI n &&& 31).toBitVec.smod 32).toNat).getLsbD i = _
  rw [s_l n hn, BitVec.getLsbD_shiftLeft]
  rcases Nat.lt_or_ge i n with h | h
  · simp [h, Nat.not_le.mpr h]
  · simp [hi, h, Nat.not_lt.mpr h]
theorem b_ushr (n : Nat) (hn : n < 32) (x : Int32) (i : Nat) : bt ((x.toUInt32 >>> ((nI n).toUInt32 &&& Int32.toUInt32 31)).toInt32) i = bt x (n + i) := by
  show (x.toUInt32 >>> ((nI n).toUInt32 &&& Int32.toUInt32 31)).toBitVec.getLsbD i = x.toUInt32.toBitVec.getLsbD (n + i)
  rw [UInt32.toBitVec_shiftRight]
  show (x.toUInt32.toBitVec >>> (((nI n).toUInt32 &&& Int32.toUInt32 31).toBitVec % 32).toNat).getLsbD i = _
  rw [s_u n hn, BitVec.getLsbD_ushiftRight]
theorem b_sshr (n : Nat) (hn : n < 32) (x : Int32) {i : Nat} (hi : i < 32) : bt (x >>> (nI n &&& 31)) i = if n + i < 32 then bt x (n + i) else bt x 31 := by
  unfold bt
  rw [Int32.toBitVec_shiftRight]
  show (x.toBitVec.sshiftRight ((nI n &&& 31).toBitVec.smod 32).toNat).getLsbD i = _
  rw [s_l n hn, BitVec.getLsbD_sshiftRight, BitVec.msb_eq_getLsbD_last]
  simp [hi]
theorem b_shl8 (x : Int32) {i : Nat} (hi : i < 32) : bt (x <<< ((8 : Int32) &&& 31)) i = (decide (8 ≤ i) && bt x (i - 8)) := b_shl 8 (by omega) x hi
theorem b_shl16 (x : Int32) {i : Nat} (hi : i < 32) : bt (x <<< ((16 : Int32) &&& 31)) i = (decide (16 ≤ i) && bt x (i - 16)) := b_shl 16 (by omega) x hi
theorem b_shl24 (x : Int32) {i : Nat} (hi : i < 32) : bt (x <<< ((24 : Int32) &&& 31)) i = (decide (24 ≤ i) && bt x (i - 24)) := b_shl 24 (by omega) x hi
theorem b_sshr8 (x : Int32) {i : Nat} (hi : i < 32) : bt (x >>> ((8 : Int32) &&& 31)) i = if 8 + i < 32 then bt x (8 + i) else bt x 31 := b_sshr 8 (by omega) x hi
end
section
/-! THE ANALYSIS, 1: sets of bits, states, what is reached -/
def an_sub (x y : Int32) : Prop := ∀ b, bt x b = true → bt y b = true
theorem an_sub_rf (x : Int32) : an_sub x x := fun _ h => h
theorem an_sub_tr {x y z : Int32} (h : an_sub x y) (k : an_sub y z) : an_sub x z := fun b q => k b (h b q)
theorem an_sub_0 (x : Int32) : an_sub 0 x := fun b h => by rw [b_0] at h; exact absurd h (by decide)
theorem an_sub_orl (x y : Int32) : an_sub x (x ||| y) := fun b h => by rw [b_or, h, Bool.true_or]
theorem an_sub_orr (x y : Int32) : an_sub y (x ||| y) := fun b h => by rw [b_or, h, Bool.or_true]
theorem an_or_sub {x y z : Int32} (h : an_sub x z) (k : an_sub y z) : an_sub (x ||| y) z := fun b q => by
  rw [b_or, Bool.or_eq_true] at q
  exact q.elim (h b) (k b)
theorem an_eq {x y : Int32} (h : an_sub x y) (k : an_sub y x) : x = y := b_ext (fun b _ => by
  cases hx : bt x b with
  | true => exact (h b hx).symm
  | false =>
    cases hy : bt y b with
    | false => rfl
    | true => rw [k b hy] at hx; exact absurd hx (by decide))
theorem an_or_eq {x y : Int32} : (x ||| y) = x ↔ an_sub y x :=
  ⟨fun h b q => by rw [← h, b_or, q, Bool.or_true], fun h => an_eq (an_or_sub (an_sub_rf x) h) (an_sub_orl x y)⟩
theorem an_and0 {x y : Int32} : (x &&& y) ≠ 0 ↔ ∃ b, bt x b = true ∧ bt y b = true := by
  constructor
  · intro h
    apply Classical.byContradiction
    intro q
    apply h
    apply b_ext
    intro b _
    rw [b_and, b_0]
    cases hx : bt x b with
    | false => rfl
    | true =>
      cases hy : bt y b with
      | false => rfl
      | true => exact absurd ⟨b, hx, hy⟩ q
  · rintro ⟨b, hx, hy⟩ h
    have := b_and x y b
    rw [h, b_0, hx, hy] at this
    exact absurd this (by decide)
/-- the set of one bit -/
def an_1 (n : Nat) : Int32 := (1 : Int32) <<< (nI n &&& 31)
theorem an_bt1 : ∀ i, i < 32 → bt 1 i = decide (i = 0) := by decide +kernel
theorem an_1_bt {n : Nat} (hn : n < 32) (i : Nat) : bt (an_1 n) i = decide (i = n) := by
  rcases Nat.lt_or_ge i 32 with h | h
  · rw [an_1, b_shl n hn 1 h, an_bt1 (i - n) (by omega)]
    by_cases q : n ≤ i
    · simp only [q, decide_true, Bool.true_and]
      by_cases z : i = n
      · simp [z]
      · rw [decide_eq_false z, decide_eq_false (by omega)]
    · rw [decide_eq_false q, Bool.false_and, decide_eq_false (by omega)]
  · rw [b_big h, decide_eq_false (by omega)]
theorem an_1_sub {n : Nat} (hn : n < 32) {s : Int32} : an_sub (an_1 n) s ↔ bt s n = true :=
  ⟨fun h => h n (by rw [an_1_bt hn]; simp), fun h b q => by rw [an_1_bt hn, decide_eq_true_eq] at q; rw [q]; exact h⟩
theorem an_1_self {n : Nat} (hn : n < 32) : bt (an_1 n) n = true := by rw [an_1_bt hn]; simp
/-- a state of the analysis of a method: what each reference may be, what each abstract object holds in each field, what is given -/
abbrev an_T : Type := (Nat → Int32) × (Nat → Nat → Int32) × Int32
def an_le (σ τ : an_T) : Prop := (∀ r, an_sub (σ.1 r) (τ.1 r)) ∧ (∀ a g, an_sub (σ.2.1 a g) (τ.2.1 a g)) ∧ an_sub σ.2.2 τ.2.2
theorem an_le_rf (σ : an_T) : an_le σ σ := ⟨fun _ => an_sub_rf _, fun _ _ => an_sub_rf _, an_sub_rf _⟩
theorem an_le_tr {σ τ υ : an_T} (h : an_le σ τ) (k : an_le τ υ) : an_le σ υ :=
  ⟨fun r => an_sub_tr (h.1 r) (k.1 r), fun a g => an_sub_tr (h.2.1 a g) (k.2.1 a g), an_sub_tr h.2.2 k.2.2⟩
theorem an_le_eq {σ τ : an_T} (h : an_le σ τ) (k : an_le τ σ) : σ = τ :=
  Prod.ext (funext fun r => an_eq (h.1 r) (k.1 r)) (Prod.ext (funext fun a => funext fun g => an_eq (h.2.1 a g) (k.2.1 a g)) (an_eq h.2.2 k.2.2))
/-- a reference may be more -/
def an_m (σ : an_T) (x : Nat) (s : Int32) : an_T := (fun r => if r = x then σ.1 r ||| s else σ.1 r, σ.2.1, σ.2.2)
/-- some objects hold more in some fields -/
def an_h (σ : an_T) (who : Int32) (sel : Nat → Nat → Bool) (s : Int32) : an_T :=
  (σ.1, fun a g => if a < 27 ∧ g < 2 ∧ bt who a = true ∧ sel a g = true then σ.2.1 a g ||| s else σ.2.1 a g, σ.2.2)
/-- more is given -/
def an_g (σ : an_T) (s : Int32) : an_T := (σ.1, σ.2.1, σ.2.2 ||| s)
def an_al : Nat → Nat → Bool := fun _ _ => true
theorem an_m_up (σ : an_T) (x : Nat) (s : Int32) : an_le σ (an_m σ x s) := by
  refine ⟨fun r => ?_, fun a g => an_sub_rf _, an_sub_rf _⟩
  show an_sub (σ.1 r) (if r = x then σ.1 r ||| s else σ.1 r)
  split
  · exact an_sub_orl _ _
  · exact an_sub_rf _
theorem an_m_le {σ τ : an_T} {x : Nat} {s : Int32} (h : an_le σ τ) (k : an_sub s (τ.1 x)) : an_le (an_m σ x s) τ := by
  refine ⟨fun r => ?_, h.2.1, h.2.2⟩
  show an_sub (if r = x then σ.1 r ||| s else σ.1 r) (τ.1 r)
  split
  · next e => subst e; exact an_or_sub (h.1 r) k
  · exact h.1 r
theorem an_m_fix {σ : an_T} {x : Nat} {s : Int32} (h : an_le (an_m σ x s) σ) : an_sub s (σ.1 x) := by
  have q := h.1 x
  have e : (an_m σ x s).1 x = σ.1 x ||| s := if_pos rfl
  rw [e] at q
  exact an_sub_tr (an_sub_orr _ _) q
theorem an_h_up (σ : an_T) (who : Int32) (sel : Nat → Nat → Bool) (s : Int32) : an_le σ (an_h σ who sel s) := by
  refine ⟨fun r => an_sub_rf _, fun a g => ?_, an_sub_rf _⟩
  show an_sub (σ.2.1 a g) (if a < 27 ∧ g < 2 ∧ bt who a = true ∧ sel a g = true then σ.2.1 a g ||| s else σ.2.1 a g)
  split
  · exact an_sub_orl _ _
  · exact an_sub_rf _
theorem an_h_le {σ τ : an_T} {who : Int32} {sel : Nat → Nat → Bool} {s : Int32} (h : an_le σ τ)
    (k : ∀ a, a < 27 → ∀ g, g < 2 → bt who a = true → sel a g = true → an_sub s (τ.2.1 a g)) : an_le (an_h σ who sel s) τ := by
  refine ⟨h.1, fun a g => ?_, h.2.2⟩
  show an_sub (if a < 27 ∧ g < 2 ∧ bt who a = true ∧ sel a g = true then σ.2.1 a g ||| s else σ.2.1 a g) (τ.2.1 a g)
  split
  · next e => exact an_or_sub (h.2.1 a g) (k a e.1 g e.2.1 e.2.2.1 e.2.2.2)
  · exact h.2.1 a g
theorem an_h_fix {σ : an_T} {who : Int32} {sel : Nat → Nat → Bool} {s : Int32} (h : an_le (an_h σ who sel s) σ) {a : Nat} (ha : a < 27) {g : Nat} (hg : g < 2) (hw : bt who a = true) (hs : sel a g = true) : an_sub s (σ.2.1 a g) := by
  have q := h.2.1 a g
  have e : (an_h σ who sel s).2.1 a g = σ.2.1 a g ||| s := if_pos ⟨ha, hg, hw, hs⟩
  rw [e] at q
  exact an_sub_tr (an_sub_orr _ _) q
theorem an_g_up (σ : an_T) (s : Int32) : an_le σ (an_g σ s) := ⟨fun r => an_sub_rf _, fun a g => an_sub_rf _, an_sub_orl _ _⟩
theorem an_g_le {σ τ : an_T} {s : Int32} (h : an_le σ τ) (k : an_sub s τ.2.2) : an_le (an_g σ s) τ := ⟨h.1, h.2.1, an_or_sub h.2.2 k⟩
theorem an_g_fix {σ : an_T} {s : Int32} (h : an_le (an_g σ s) σ) : an_sub s σ.2.2 := an_sub_tr (an_sub_orr _ _) h.2.2
/-- what is reached: the least set -/
def an_R (h : Nat → Nat → Int32) (s : Int32) (b : Nat) : Prop :=
  ∀ S : Nat → Prop, (∀ b, bt s b = true → S b) → (∀ a, a < 27 → S a → ∀ g, g < 2 → ∀ b, bt (h a g) b = true → S b) → S b
theorem an_R_0 {h : Nat → Nat → Int32} {s : Int32} {b : Nat} (hb : bt s b = true) : an_R h s b := fun _ h0 _ => h0 b hb
theorem an_R_s {h : Nat → Nat → Int32} {s : Int32} {a g b : Nat} (hr : an_R h s a) (ha : a < 27) (hg : g < 2) (hb : bt (h a g) b = true) : an_R h s b :=
  fun S h0 hs => hs a ha (hr S h0 hs) g hg b hb
theorem an_R_mono {h k : Nat → Nat → Int32} {s t : Int32} (hh : ∀ a g, an_sub (h a g) (k a g)) (hs : an_sub s t) {b : Nat} (hr : an_R h s b) : an_R k t b :=
  hr (an_R k t) (fun b q => an_R_0 (hs b q)) (fun a ha q g hg b z => an_R_s q ha hg (hh a g b z))
/-- from a set that is reached nothing more is reached -/
theorem an_R_tr {h : Nat → Nat → Int32} {s t : Int32} (hs : ∀ b, bt t b = true → an_R h s b) {b : Nat} (hr : an_R h t b) : an_R h s b :=
  hr (an_R h s) hs (fun _ ha q _ hg _ z => an_R_s q ha hg z)
theorem an_R_or {h : Nat → Nat → Int32} {s t : Int32} {b : Nat} : an_R h (s ||| t) b ↔ an_R h s b ∨ an_R h t b := by
  constructor
  · intro hr
    refine hr (fun b => an_R h s b ∨ an_R h t b) (fun b q => ?_) (fun a ha q g hg b z => ?_)
    · rw [b_or, Bool.or_eq_true] at q
      exact q.imp an_R_0 an_R_0
    · exact q.imp (fun q => an_R_s q ha hg z) (fun q => an_R_s q ha hg z)
  · rintro (q | q)
    · exact an_R_mono (fun _ _ => an_sub_rf _) (an_sub_orl _ _) q
    · exact an_R_mono (fun _ _ => an_sub_rf _) (an_sub_orr _ _) q
/-- a set that holds all that its own hold -/
def an_C (h : Nat → Nat → Int32) (s : Int32) : Prop := ∀ a, a < 27 → bt s a = true → ∀ g, g < 2 → an_sub (h a g) s
theorem an_C_R {h : Nat → Nat → Int32} {s t : Int32} (hc : an_C h t) (hs : an_sub s t) {b : Nat} (hr : an_R h s b) : bt t b = true :=
  hr (fun b => bt t b = true) hs (fun a ha q g hg b z => hc a ha q g hg b z)
/-- how many of the first n bits are there -/
def an_cnt (s : Int32) : Nat → Nat
  | 0 => 0
  | n + 1 => an_cnt s n + (if bt s n = true then 1 else 0)
theorem an_cnt_n (s : Int32) : ∀ n, an_cnt s n ≤ n := by
  intro n
  induction n with
  | zero => exact Nat.le_refl _
  | succ n ih => simp only [an_cnt]; split <;> omega
theorem an_cnt_le {s t : Int32} (h : an_sub s t) : ∀ n, an_cnt s n ≤ an_cnt t n := by
  intro n
  induction n with
  | zero => exact Nat.le_refl _
  | succ n ih =>
    simp only [an_cnt]
    by_cases q : bt s n = true
    · rw [if_pos q, if_pos (h n q)]; omega
    · rw [if_neg q]; omega
theorem an_cnt_eq {s t : Int32} (h : an_sub s t) : ∀ n, an_cnt t n ≤ an_cnt s n → ∀ a, a < n → bt t a = true → bt s a = true := by
  intro n
  induction n with
  | zero => intro _ a ha; omega
  | succ n ih =>
    intro hc a ha hb
    have hn := an_cnt_le h n
    simp only [an_cnt] at hc
    by_cases q : bt s n = true
    · rw [if_pos q, if_pos (h n q)] at hc
      by_cases z : a = n
      · rw [z]; exact q
      · exact ih (by omega) a (by omega) hb
    · rw [if_neg q] at hc
      by_cases w : bt t n = true
      · rw [if_pos w] at hc; omega
      · by_cases z : a = n
        · rw [z] at hb; exact absurd hb w
        · exact ih (by rw [if_neg w] at hc; omega) a (by omega) hb
theorem an_cnt_pos {s : Int32} {a : Nat} (hb : bt s a = true) : ∀ n, a < n → 0 < an_cnt s n := by
  intro n
  induction n with
  | zero => intro h; omega
  | succ n ih =>
    intro h
    simp only [an_cnt]
    by_cases z : a = n
    · rw [← z, if_pos hb]; omega
    · have := ih (by omega); omega
/-- the class: what these hold in one field -/
def an_hb (row : Nat → Int32) (who : Int32) : Nat → Int32
  | 0 => 0
  | a + 1 => if bt who a = true then an_hb row who a ||| row a else an_hb row who a
theorem an_hb_bt (row : Nat → Int32) (who : Int32) (b : Nat) : ∀ n, bt (an_hb row who n) b = true ↔ ∃ a, a < n ∧ bt who a = true ∧ bt (row a) b = true := by
  intro n
  induction n with
  | zero => simp [an_hb, b_0]
  | succ n ih =>
    simp only [an_hb]
    by_cases q : bt who n = true
    · rw [if_pos q, b_or, Bool.or_eq_true, ih]
      constructor
      · rintro (⟨a, h1, h2, h3⟩ | h)
        · exact ⟨a, by omega, h2, h3⟩
        · exact ⟨n, by omega, q, h⟩
      · rintro ⟨a, h1, h2, h3⟩
        by_cases z : a = n
        · rw [z] at h3; exact Or.inr h3
        · exact Or.inl ⟨a, by omega, h2, h3⟩
    · rw [if_neg q, ih]
      constructor
      · rintro ⟨a, h1, h2, h3⟩
        exact ⟨a, by omega, h2, h3⟩
      · rintro ⟨a, h1, h2, h3⟩
        by_cases z : a = n
        · rw [z] at h2; exact absurd h2 q
        · exact ⟨a, by omega, h2, h3⟩
/-- one round of the class -/
def an_rnd (h : Nat → Nat → Int32) (s : Int32) : Int32 := s ||| an_hb (fun a => h a 0) s 27 ||| an_hb (fun a => h a 1) s 27
def an_rcn (h : Nat → Nat → Int32) : Nat → Int32 → Int32
  | 0, s => s
  | n + 1, s => if an_rnd h s = s then s else an_rcn h n (an_rnd h s)
/-- what the class finds reached -/
def an_rc (h : Nat → Nat → Int32) (s : Int32) : Int32 := an_rcn h 27 s
theorem an_rnd_up (h : Nat → Nat → Int32) (s : Int32) : an_sub s (an_rnd h s) := an_sub_tr (an_sub_orl _ _) (an_sub_orl _ _)
theorem an_rnd_in {h : Nat → Nat → Int32} {s : Int32} {a g : Nat} (ha : a < 27) (hg : g < 2) (hs : bt s a = true) : an_sub (h a g) (an_rnd h s) := by
  intro b hb
  simp only [an_rnd, b_or, Bool.or_eq_true, an_hb_bt]
  rcases (show g = 0 ∨ g = 1 by omega) with e | e
  · subst e; exact Or.inl (Or.inr ⟨a, ha, hs, hb⟩)
  · subst e; exact Or.inr ⟨a, ha, hs, hb⟩
theorem an_rnd_R {h : Nat → Nat → Int32} {s : Int32} {b : Nat} (hb : bt (an_rnd h s) b = true) : an_R h s b := by
  simp only [an_rnd, b_or, Bool.or_eq_true, an_hb_bt] at hb
  rcases hb with (hb | ⟨a, ha, hs, hb⟩) | ⟨a, ha, hs, hb⟩
  · exact an_R_0 hb
  · exact an_R_s (g := 0) (an_R_0 hs) ha (by omega) hb
  · exact an_R_s (g := 1) (an_R_0 hs) ha (by omega) hb
theorem an_rnd_C {h : Nat → Nat → Int32} {s : Int32} (e : an_C h s) : an_rnd h s = s := by
  refine an_eq (fun b hb => ?_) (an_rnd_up h s)
  exact an_C_R e (an_sub_rf s) (an_rnd_R hb)
theorem an_rnd_cnt {h : Nat → Nat → Int32} {s : Int32} (e : an_cnt (an_rnd h s) 27 ≤ an_cnt s 27) : an_C h (an_rnd h s) :=
  fun a ha hs _ hg => an_rnd_in ha hg (an_cnt_eq (an_rnd_up h s) 27 e a ha hs)
theorem an_rcn_C {h : Nat → Nat → Int32} : ∀ n s, an_C h s → an_rcn h n s = s := by
  intro n
  cases n with
  | zero => intro s _; rfl
  | succ n => intro s e; simp only [an_rcn]; rw [if_pos (an_rnd_C e)]
theorem an_rcn_cl {h : Nat → Nat → Int32} : ∀ n s, 28 ≤ n + an_cnt s 27 → an_C h (an_rcn h n s) := by
  intro n
  induction n with
  | zero => intro s q; have := an_cnt_n s 27; omega
  | succ n ih =>
    intro s q
    simp only [an_rcn]
    by_cases e : an_rnd h s = s
    · rw [if_pos e]
      intro a ha hs g hg
      have := an_rnd_in (h := h) ha hg hs
      rw [e] at this
      exact this
    · rw [if_neg e]
      by_cases z : an_cnt (an_rnd h s) 27 ≤ an_cnt s 27
      · have c := an_rnd_cnt z
        rw [an_rcn_C n _ c]
        exact c
      · exact ih _ (by omega)
theorem an_rcn_up {h : Nat → Nat → Int32} : ∀ n s, an_sub s (an_rcn h n s) := by
  intro n
  induction n with
  | zero => intro s; exact an_sub_rf s
  | succ n ih =>
    intro s
    simp only [an_rcn]
    split
    · exact an_sub_rf s
    · exact an_sub_tr (an_rnd_up h s) (ih _)
theorem an_rcn_R {h : Nat → Nat → Int32} : ∀ n s b, bt (an_rcn h n s) b = true → an_R h s b := by
  intro n
  induction n with
  | zero => intro s b q; exact an_R_0 q
  | succ n ih =>
    intro s b q
    simp only [an_rcn] at q
    by_cases e : an_rnd h s = s
    · rw [if_pos e] at q; exact an_R_0 q
    · rw [if_neg e] at q; exact an_R_tr (fun b z => an_rnd_R z) (ih _ b q)
theorem an_rc_cl (h : Nat → Nat → Int32) (s : Int32) : an_C h (an_rc h s) := by
  by_cases q : ∃ a, a < 27 ∧ bt s a = true
  · obtain ⟨a, ha, hb⟩ := q
    exact an_rcn_cl 27 s (by have := an_cnt_pos hb 27 ha; omega)
  · have c : an_C h s := fun a ha hb _ _ => absurd ⟨a, ha, hb⟩ q
    rw [an_rc, an_rcn_C 27 s c]
    exact c
theorem an_rc_bt (h : Nat → Nat → Int32) (s : Int32) (b : Nat) : bt (an_rc h s) b = true ↔ an_R h s b :=
  ⟨an_rcn_R 27 s b, an_C_R (an_rc_cl h s) (an_rcn_up 27 s)⟩
/-- the reference: one turn -/
def an_rt (h : Nat → Nat → Int32) (s : Int32) : Nat → Int32
  | 0 => s
  | o + 1 => if bt (an_rt h s o) o = true then an_rt h s o ||| h o 0 ||| h o 1 else an_rt h s o
theorem an_rt_up (h : Nat → Nat → Int32) (s : Int32) : ∀ n, an_sub (an_rt h s n) (an_rt h s (n + 1)) := by
  intro n
  simp only [an_rt]
  split
  · exact an_sub_tr (an_sub_orl _ _) (an_sub_orl _ _)
  · exact an_sub_rf _
theorem an_rt_le (h : Nat → Nat → Int32) (s : Int32) {k n : Nat} (hk : k ≤ n) : an_sub (an_rt h s k) (an_rt h s n) := by
  induction n with
  | zero => have e : k = 0 := by omega
            subst e; exact an_sub_rf _
  | succ n ih =>
    by_cases e : k = n + 1
    · subst e; exact an_sub_rf _
    · exact an_sub_tr (ih (by omega)) (an_rt_up h s n)
theorem an_rt_R {h : Nat → Nat → Int32} {s : Int32} : ∀ n, n ≤ 27 → ∀ b, bt (an_rt h s n) b = true → an_R h s b := by
  intro n
  induction n with
  | zero => intro _ b q; exact an_R_0 q
  | succ n ih =>
    intro hn b q
    simp only [an_rt] at q
    by_cases e : bt (an_rt h s n) n = true
    · rw [if_pos e, b_or, b_or, Bool.or_eq_true, Bool.or_eq_true] at q
      rcases q with (q | q) | q
      · exact ih (by omega) b q
      · exact an_R_s (g := 0) (ih (by omega) n e) (by omega) (by omega) q
      · exact an_R_s (g := 1) (ih (by omega) n e) (by omega) (by omega) q
    · rw [if_neg e] at q; exact ih (by omega) b q
theorem an_rt_cnt {h : Nat → Nat → Int32} {s : Int32} (e : an_cnt (an_rt h s 27) 27 ≤ an_cnt s 27) : an_C h (an_rt h s 27) := by
  intro a ha hs g hg b hb
  have h0 : bt s a = true := an_cnt_eq (an_rt_le h s (Nat.zero_le 27)) 27 e a ha hs
  have h1 : bt (an_rt h s a) a = true := an_rt_le h s (Nat.zero_le a) a h0
  have h2 : bt (an_rt h s (a + 1)) b = true := by
    simp only [an_rt]
    rw [if_pos h1, b_or, b_or, Bool.or_eq_true, Bool.or_eq_true]
    rcases (show g = 0 ∨ g = 1 by omega) with z | z
    · subst z; exact Or.inl (Or.inr hb)
    · subst z; exact Or.inr hb
  exact an_rt_le h s (by omega : a + 1 ≤ 27) b h2
theorem an_rt_C {h : Nat → Nat → Int32} {s : Int32} (c : an_C h s) : an_rt h s 27 = s :=
  an_eq (fun b hb => an_C_R c (an_sub_rf s) (an_rt_R 27 (by omega) b hb)) (an_rt_le h s (Nat.zero_le 27))
def an_rr (h : Nat → Nat → Int32) : Nat → Int32 → Int32
  | 0, s => s
  | n + 1, s => an_rr h n (an_rt h s 27)
theorem an_rr_C {h : Nat → Nat → Int32} : ∀ n s, an_C h s → an_rr h n s = s := by
  intro n
  induction n with
  | zero => intro s _; rfl
  | succ n ih => intro s c; simp only [an_rr]; rw [an_rt_C c]; exact ih s c
theorem an_rr_cl {h : Nat → Nat → Int32} : ∀ n s, 28 ≤ n + an_cnt s 27 → an_C h (an_rr h n s) := by
  intro n
  induction n with
  | zero => intro s q; have := an_cnt_n s 27; omega
  | succ n ih =>
    intro s q
    simp only [an_rr]
    by_cases z : an_cnt (an_rt h s 27) 27 ≤ an_cnt s 27
    · have c := an_rt_cnt z
      rw [an_rr_C n _ c]
      exact c
    · exact ih _ (by omega)
theorem an_rr_up {h : Nat → Nat → Int32} : ∀ n s, an_sub s (an_rr h n s) := by
  intro n
  induction n with
  | zero => intro s; exact an_sub_rf s
  | succ n ih => intro s; simp only [an_rr]; exact an_sub_tr (an_rt_le h s (Nat.zero_le 27)) (ih _)
theorem an_rr_R {h : Nat → Nat → Int32} : ∀ n s b, bt (an_rr h n s) b = true → an_R h s b := by
  intro n
  induction n with
  | zero => intro s b q; exact an_R_0 q
  | succ n ih => intro s b q; simp only [an_rr] at q; exact an_R_tr (fun b z => an_rt_R 27 (by omega) b z) (ih _ b q)
/-- what the reference finds reached is what the class finds -/
theorem an_rr_eq (h : Nat → Nat → Int32) (s : Int32) : an_rr h 28 s = an_rc h s := by
  refine an_eq (fun b q => (an_rc_bt h s b).mpr (an_rr_R 28 s b q)) (fun b q => ?_)
  exact an_C_R (an_rr_cl 28 s (by omega)) (an_rr_up 28 s) ((an_rc_bt h s b).mp q)
end
section
/-! THE ANALYSIS, 2: what each instruction asks, what each step adds -/
/-- an instruction: op, x, y, z, n -/
abbrev an_I : Type := Nat × Nat × Nat × Nat × Int32
/-- what is known of the callees: inputs, the state of an argument, whether it meets the world -/
abbrev an_E : Type := (Nat → Nat) × (Nat → Nat → Nat) × (Nat → Nat → Bool)
def an_W : Int32 := an_1 26
theorem an_W_bt (i : Nat) : bt an_W i = decide (i = 26) := an_1_bt (by omega) i
theorem an_W_26 : bt an_W 26 = true := by rw [an_W_bt]; rfl
def an_ag (σ : an_T) (y z p : Nat) : Int32 := σ.1 (if p = 0 then y else z)
def an_bo (σ : an_T) (k y z : Nat) : Int32 := if k = 2 then σ.1 y ||| σ.1 z else σ.1 y
theorem an_ag_le {σ τ : an_T} (h : an_le σ τ) (y z p : Nat) : an_sub (an_ag σ y z p) (an_ag τ y z p) := h.1 _
theorem an_bo_le {σ τ : an_T} (h : an_le σ τ) (k y z : Nat) : an_sub (an_bo σ k y z) (an_bo τ k y z) := by
  unfold an_bo
  split
  · exact an_or_sub (an_sub_tr (h.1 y) (an_sub_orl _ _)) (an_sub_tr (h.1 z) (an_sub_orr _ _))
  · exact h.1 y
/-- what a CALL asks of argument p: first -/
def an_o1 (E : an_E) (τ : an_T) (y z n p : Nat) : Prop :=
  ∀ a, a < 27 → an_R τ.2.1 (an_ag τ y z p) a → ∀ g, g < 2 → (∀ b, an_R τ.2.1 (an_ag τ y z p) b → bt (τ.2.1 a g) b = true) ∧ (E.2.2 n p = true → bt (τ.2.1 a g) 26 = true)
/-- then -/
def an_o2 (E : an_E) (τ : an_T) (x y z n p : Nat) (bo : Int32) : Prop :=
  (E.2.1 n p = 2 → ∀ g, g < 2 → an_sub (an_ag τ y z p) (τ.2.1 26 g)) ∧
  (E.2.1 n p = 1 → (∀ a, a < 27 → an_R τ.2.1 bo a → ∀ g, g < 2 → ∀ b, an_R τ.2.1 bo b → bt (τ.2.1 a g) b = true) ∧ ∀ b, an_R τ.2.1 bo b → bt (τ.1 x) b = true)
def an_o0 (τ : an_T) (x : Nat) : Prop :=
  (∀ a, a < 27 → an_R τ.2.1 an_W a → ∀ g, g < 2 → bt (τ.2.1 a g) 26 = true) ∧ an_sub (τ.2.1 26 0) (τ.1 x)
def an_okc (E : an_E) (τ : an_T) (x y z n : Nat) : Prop :=
  an_o0 τ x ∧ ∀ p, p < E.1 n → an_o1 E τ y z n p ∧ an_o2 E τ x y z n p (an_bo τ (E.1 n) y z)
/-- what an instruction asks -/
def an_ok (E : an_E) (i : Nat) (I : an_I) (τ : an_T) : Prop :=
  if I.1 = 0 then bt (τ.1 I.2.1) i = true
  else if I.1 = 1 then an_sub (τ.1 I.2.2.1) (τ.1 I.2.1)
  else if I.1 = 3 then ∀ a, a < 27 → bt (τ.1 I.2.2.1) a = true → an_sub (τ.2.1 a I.2.2.2.1) (τ.1 I.2.1)
  else if I.1 = 4 then ∀ a, a < 27 → ∀ g, g < 2 → bt (τ.1 I.2.1) a = true → (23 < a ∨ g = I.2.2.2.1) → an_sub (τ.1 I.2.2.1) (τ.2.1 a g)
  else if I.1 = 12 then ∀ g, g < 2 → an_sub (τ.1 I.2.1) (τ.2.1 26 g)
  else if I.1 = 13 then an_sub (τ.2.1 26 0) (τ.1 I.2.1)
  else if I.1 = 16 then an_okc E τ I.2.1 I.2.2.1 I.2.2.2.1 I.2.2.2.2.toNatClampNeg
  else if I.1 = 17 then an_sub (τ.1 I.2.1) τ.2.2
  else True
/-- a step is good for what is asked: it only adds, it adds nothing that is not asked for, and when it adds nothing, what is asked holds -/
def an_good (ok : an_T → Prop) (f : an_T → an_T) : Prop :=
  (∀ σ, an_le σ (f σ)) ∧ (∀ σ τ, ok τ → an_le σ τ → an_le (f σ) τ) ∧ (∀ σ, an_le (f σ) σ → ok σ)
/-- the steps of a CALL -/
def an_c0 (x : Nat) (σ : an_T) : an_T := an_m (an_h σ (an_rc σ.2.1 an_W) an_al an_W) x ((an_h σ (an_rc σ.2.1 an_W) an_al an_W).2.1 26 0)
def an_r1 (E : an_E) (y z n p : Nat) (σ : an_T) : an_T :=
  an_h σ (an_rc σ.2.1 (an_ag σ y z p)) an_al (if E.2.2 n p = true then an_rc σ.2.1 (an_ag σ y z p) ||| an_W else an_rc σ.2.1 (an_ag σ y z p))
def an_r2 (E : an_E) (x y z n : Nat) (bo : Int32) (p : Nat) (σ : an_T) : an_T :=
  if E.2.1 n p = 2 then an_h σ an_W an_al (an_ag σ y z p)
  else if E.2.1 n p = 1 then an_m (an_h σ (an_rc σ.2.1 bo) an_al (an_rc σ.2.1 bo)) x (an_rc σ.2.1 bo)
  else σ
theorem an_c0_good (x : Nat) : an_good (fun τ => an_o0 τ x) (an_c0 x) := by
  refine ⟨fun σ => an_le_tr (an_h_up _ _ _ _) (an_m_up _ _ _), fun σ τ ho h => ?_, fun σ h => ?_⟩
  · have h1 : an_le (an_h σ (an_rc σ.2.1 an_W) an_al an_W) τ := by
      refine an_h_le h (fun a ha g hg hw _ => (an_1_sub (by omega)).mpr ?_)
      exact ho.1 a ha (an_R_mono h.2.1 (an_sub_rf _) ((an_rc_bt _ _ _).mp hw)) g hg
    exact an_m_le h1 (an_sub_tr (h1.2.1 26 0) ho.2)
  · have e : an_h σ (an_rc σ.2.1 an_W) an_al an_W = σ := an_le_eq (an_le_tr (an_m_up _ _ _) h) (an_h_up _ _ _ _)
    refine ⟨fun a ha hr g hg => (an_1_sub (n := 26) (by omega)).mp ?_, ?_⟩
    · exact an_h_fix (who := an_rc σ.2.1 an_W) (sel := an_al) (by show an_le (an_h σ (an_rc σ.2.1 an_W) an_al an_W) σ; rw [e]; exact an_le_rf σ) ha hg ((an_rc_bt _ _ _).mpr hr) rfl
    · have q := an_m_fix (σ := an_h σ (an_rc σ.2.1 an_W) an_al an_W) (x := x) (s := (an_h σ (an_rc σ.2.1 an_W) an_al an_W).2.1 26 0) (an_le_tr h (an_h_up _ _ _ _))
      rw [e] at q
      exact q
theorem an_r1_good (E : an_E) (y z n p : Nat) : an_good (fun τ => an_o1 E τ y z n p) (an_r1 E y z n p) := by
  refine ⟨fun σ => an_h_up _ _ _ _, fun σ τ ho h => an_h_le h (fun a ha g hg hw _ => ?_), fun σ h a ha hr g hg => ?_⟩
  · have hm : ∀ b, bt (an_rc σ.2.1 (an_ag σ y z p)) b = true → an_R τ.2.1 (an_ag τ y z p) b := fun b q => an_R_mono h.2.1 (an_ag_le h y z p) ((an_rc_bt _ _ _).mp q)
    have o := ho a ha (hm a hw) g hg
    split
    · next k => exact an_or_sub (fun b q => o.1 b (hm b q)) ((an_1_sub (by omega)).mpr (o.2 k))
    · exact fun b q => o.1 b (hm b q)
  · have q := an_h_fix h ha hg ((an_rc_bt _ _ _).mpr hr) rfl
    constructor
    · intro b hb
      have hb' := (an_rc_bt _ _ _).mpr hb
      split at q
      · exact q b (an_sub_orl _ _ b hb')
      · exact q b hb'
    · intro k
      rw [if_pos k] at q
      exact q 26 (an_sub_orr _ _ 26 an_W_26)
theorem an_r2_up (E : an_E) (x y z n : Nat) (bo : Int32) (p : Nat) (σ : an_T) : an_le σ (an_r2 E x y z n bo p σ) := by
  unfold an_r2
  split
  · exact an_h_up _ _ _ _
  · split
    · exact an_le_tr (an_h_up _ _ _ _) (an_m_up _ _ _)
    · exact an_le_rf σ
theorem an_r2_le {E : an_E} {x y z n : Nat} {bo bo' : Int32} {p : Nat} {σ τ : an_T} (hb : an_sub bo bo') (ho : an_o2 E τ x y z n p bo') (h : an_le σ τ) : an_le (an_r2 E x y z n bo p σ) τ := by
  unfold an_r2
  split
  · next k =>
    refine an_h_le h (fun a ha g hg hw _ => ?_)
    rw [an_W_bt, decide_eq_true_eq] at hw
    subst hw
    exact an_sub_tr (an_ag_le h y z p) (ho.1 k g hg)
  · split
    · next k =>
      have hm : ∀ b, bt (an_rc σ.2.1 bo) b = true → an_R τ.2.1 bo' b := fun b q => an_R_mono h.2.1 hb ((an_rc_bt _ _ _).mp q)
      refine an_m_le (an_h_le h (fun a ha g hg hw _ b q => ?_)) (fun b q => ?_)
      · exact (ho.2 k).1 a ha (hm a hw) g hg b (hm b q)
      · exact (ho.2 k).2 b (hm b q)
    · exact h
theorem an_r2_fix {E : an_E} {x y z n : Nat} {bo : Int32} {p : Nat} {σ : an_T} (h : an_le (an_r2 E x y z n bo p σ) σ) : an_o2 E σ x y z n p bo := by
  unfold an_r2 at h
  constructor
  · intro k
    rw [if_pos k] at h
    intro g hg
    exact an_h_fix h (by omega) hg an_W_26 rfl
  · intro k
    rw [if_neg (by omega), if_pos k] at h
    have h1 : an_le (an_h σ (an_rc σ.2.1 bo) an_al (an_rc σ.2.1 bo)) σ := an_le_tr (an_m_up _ _ _) h
    refine ⟨fun a ha hr g hg b hb => ?_, fun b hb => ?_⟩
    · exact an_h_fix h1 ha hg ((an_rc_bt _ _ _).mpr hr) rfl b ((an_rc_bt _ _ _).mpr hb)
    · have e := an_le_eq h1 (an_h_up _ _ _ _)
      have q := an_m_fix (σ := an_h σ (an_rc σ.2.1 bo) an_al (an_rc σ.2.1 bo)) (x := x) (s := an_rc σ.2.1 bo) (an_le_tr h (an_h_up _ _ _ _))
      rw [e] at q
      exact q b ((an_rc_bt _ _ _).mpr hb)
/-- CALL in the class: argument by argument -/
def an_ca (E : an_E) (x y z n p : Nat) (σ : an_T) : an_T := an_r2 E x y z n (an_bo (an_r1 E y z n p σ) (E.1 n) y z) p (an_r1 E y z n p σ)
def an_cn (E : an_E) (x y z n : Nat) : Nat → an_T → an_T
  | 0, σ => an_c0 x σ
  | p + 1, σ => an_ca E x y z n p (an_cn E x y z n p σ)
/-- CALL in the reference: first all arguments, then all arguments again -/
def an_rn1 (E : an_E) (x y z n : Nat) : Nat → an_T → an_T
  | 0, σ => an_c0 x σ
  | p + 1, σ => an_r1 E y z n p (an_rn1 E x y z n p σ)
def an_rn2 (E : an_E) (x y z n : Nat) (bo : Int32) : Nat → an_T → an_T
  | 0, σ => σ
  | p + 1, σ => an_r2 E x y z n bo p (an_rn2 E x y z n bo p σ)
def an_rn (E : an_E) (x y z n : Nat) (σ : an_T) : an_T := an_rn2 E x y z n (an_bo (an_rn1 E x y z n (E.1 n) σ) (E.1 n) y z) (E.1 n) (an_rn1 E x y z n (E.1 n) σ)
theorem an_cn_good (E : an_E) (x y z n : Nat) : ∀ k, an_good (fun τ => an_o0 τ x ∧ ∀ p, p < k → an_o1 E τ y z n p ∧ an_o2 E τ x y z n p (an_bo τ (E.1 n) y z)) (an_cn E x y z n k) := by
  intro k
  induction k with
  | zero =>
    have g := an_c0_good x
    exact ⟨g.1, fun σ τ ho h => g.2.1 σ τ ho.1 h, fun σ h => ⟨g.2.2 σ h, fun p hp => absurd hp (by omega)⟩⟩
  | succ k ih =>
    have g1 := an_r1_good E y z n k
    refine ⟨fun σ => ?_, fun σ τ ho h => ?_, fun σ h => ?_⟩
    · exact an_le_tr (ih.1 σ) (an_le_tr (g1.1 _) (an_r2_up _ _ _ _ _ _ _ _))
    · have h1 := ih.2.1 σ τ ⟨ho.1, fun p hp => ho.2 p (by omega)⟩ h
      have h2 := g1.2.1 _ τ (ho.2 k (by omega)).1 h1
      exact an_r2_le (an_bo_le h2 _ _ _) (ho.2 k (by omega)).2 h2
    · have u1 := ih.1 σ
      have u2 := g1.1 (an_cn E x y z n k σ)
      have u3 := an_r2_up E x y z n (an_bo (an_r1 E y z n k (an_cn E x y z n k σ)) (E.1 n) y z) k (an_r1 E y z n k (an_cn E x y z n k σ))
      have e1 : an_cn E x y z n k σ = σ := an_le_eq (an_le_tr u2 (an_le_tr u3 h)) u1
      have h' : an_le (an_ca E x y z n k (an_cn E x y z n k σ)) σ := h
      rw [e1] at h' u2 u3
      have e2 : an_r1 E y z n k σ = σ := an_le_eq (an_le_tr u3 h') u2
      have h3 : an_le (an_r2 E x y z n (an_bo σ (E.1 n) y z) k σ) σ := by
        have := h'
        unfold an_ca at this
        rw [e2] at this
        exact this
      have hk := ih.2.2 σ (by rw [e1]; exact an_le_rf σ)
      refine ⟨hk.1, fun p hp => ?_⟩
      by_cases z0 : p = k
      · subst z0
        exact ⟨g1.2.2 σ (by rw [e2]; exact an_le_rf σ), an_r2_fix h3⟩
      · exact hk.2 p (by omega)
theorem an_rn1_good (E : an_E) (x y z n : Nat) : ∀ k, an_good (fun τ => an_o0 τ x ∧ ∀ p, p < k → an_o1 E τ y z n p) (an_rn1 E x y z n k) := by
  intro k
  induction k with
  | zero =>
    have g := an_c0_good x
    exact ⟨g.1, fun σ τ ho h => g.2.1 σ τ ho.1 h, fun σ h => ⟨g.2.2 σ h, fun p hp => absurd hp (by omega)⟩⟩
  | succ k ih =>
    have g1 := an_r1_good E y z n k
    refine ⟨fun σ => an_le_tr (ih.1 σ) (g1.1 _), fun σ τ ho h => ?_, fun σ h => ?_⟩
    · exact g1.2.1 _ τ (ho.2 k (by omega)) (ih.2.1 σ τ ⟨ho.1, fun p hp => ho.2 p (by omega)⟩ h)
    · have u1 := ih.1 σ
      have u2 := g1.1 (an_rn1 E x y z n k σ)
      have e1 : an_rn1 E x y z n k σ = σ := an_le_eq (an_le_tr u2 h) u1
      have h' : an_le (an_r1 E y z n k (an_rn1 E x y z n k σ)) σ := h
      rw [e1] at h'
      have hk := ih.2.2 σ (by rw [e1]; exact an_le_rf σ)
      refine ⟨hk.1, fun p hp => ?_⟩
      by_cases z0 : p = k
      · subst z0; exact g1.2.2 σ h'
      · exact hk.2 p (by omega)
theorem an_rn2_up (E : an_E) (x y z n : Nat) (bo : Int32) (σ : an_T) : ∀ k, an_le σ (an_rn2 E x y z n bo k σ) := by
  intro k
  induction k with
  | zero => exact an_le_rf σ
  | succ k ih => exact an_le_tr ih (an_r2_up _ _ _ _ _ _ _ _)
theorem an_rn2_le {E : an_E} {x y z n : Nat} {bo bo' : Int32} {σ τ : an_T} (hb : an_sub bo bo') (h : an_le σ τ) : ∀ k, (∀ p, p < k → an_o2 E τ x y z n p bo') → an_le (an_rn2 E x y z n bo k σ) τ := by
  intro k
  induction k with
  | zero => intro _; exact h
  | succ k ih => intro ho; exact an_r2_le hb (ho k (by omega)) (ih (fun p hp => ho p (by omega)))
theorem an_rn2_fix {E : an_E} {x y z n : Nat} {bo : Int32} {σ : an_T} : ∀ k, an_le (an_rn2 E x y z n bo k σ) σ → ∀ p, p < k → an_o2 E σ x y z n p bo := by
  intro k
  induction k with
  | zero => intro _ p hp; omega
  | succ k ih =>
    intro h p hp
    have u := an_r2_up E x y z n bo k (an_rn2 E x y z n bo k σ)
    have h1 : an_le (an_rn2 E x y z n bo k σ) σ := an_le_tr u h
    by_cases z0 : p = k
    · subst z0
      have e := an_le_eq h1 (an_rn2_up E x y z n bo σ p)
      have h' : an_le (an_r2 E x y z n bo p (an_rn2 E x y z n bo p σ)) σ := h
      rw [e] at h'
      exact an_r2_fix h'
    · exact ih h1 p (by omega)
theorem an_rn_good (E : an_E) (x y z n : Nat) : an_good (fun τ => an_okc E τ x y z n) (an_rn E x y z n) := by
  have g1 := an_rn1_good E x y z n (E.1 n)
  refine ⟨fun σ => an_le_tr (g1.1 σ) (an_rn2_up _ _ _ _ _ _ _ _), fun σ τ ho h => ?_, fun σ h => ?_⟩
  · have h1 := g1.2.1 σ τ ⟨ho.1, fun p hp => (ho.2 p hp).1⟩ h
    exact an_rn2_le (an_bo_le h1 _ _ _) h1 _ (fun p hp => (ho.2 p hp).2)
  · have u1 := g1.1 σ
    have u2 := an_rn2_up E x y z n (an_bo (an_rn1 E x y z n (E.1 n) σ) (E.1 n) y z) (an_rn1 E x y z n (E.1 n) σ) (E.1 n)
    have e1 : an_rn1 E x y z n (E.1 n) σ = σ := an_le_eq (an_le_tr u2 h) u1
    have k1 := g1.2.2 σ (by rw [e1]; exact an_le_rf σ)
    have h' : an_le (an_rn2 E x y z n (an_bo (an_rn1 E x y z n (E.1 n) σ) (E.1 n) y z) (E.1 n) (an_rn1 E x y z n (E.1 n) σ)) σ := h
    rw [e1] at h'
    exact ⟨k1.1, fun p hp => ⟨k1.2 p hp, an_rn2_fix _ h' p hp⟩⟩
/-- a step, the CALL being 'call' -/
def an_st (call : Nat → Nat → Nat → Nat → an_T → an_T) (i : Nat) (I : an_I) (σ : an_T) : an_T :=
  if I.1 = 0 then an_m σ I.2.1 (an_1 i)
  else if I.1 = 1 then an_m σ I.2.1 (σ.1 I.2.2.1)
  else if I.1 = 3 then an_m σ I.2.1 (an_hb (fun a => σ.2.1 a I.2.2.2.1) (σ.1 I.2.2.1) 27)
  else if I.1 = 4 then an_h σ (σ.1 I.2.1) (fun a g => decide (23 < a) || decide (g = I.2.2.2.1)) (σ.1 I.2.2.1)
  else if I.1 = 12 then an_h σ an_W an_al (σ.1 I.2.1)
  else if I.1 = 13 then an_m σ I.2.1 (σ.2.1 26 0)
  else if I.1 = 16 then call I.2.1 I.2.2.1 I.2.2.2.1 I.2.2.2.2.toNatClampNeg σ
  else if I.1 = 17 then an_g σ (σ.1 I.2.1)
  else σ
theorem an_good_m {ok : an_T → Prop} {x : Nat} {s : an_T → Int32} (mono : ∀ σ τ, an_le σ τ → an_sub (s σ) (s τ)) (e : ∀ τ, ok τ ↔ an_sub (s τ) (τ.1 x)) : an_good ok (fun σ => an_m σ x (s σ)) :=
  ⟨fun _ => an_m_up _ _ _, fun σ τ ho h => an_m_le h (an_sub_tr (mono σ τ h) ((e τ).mp ho)), fun σ h => (e σ).mpr (an_m_fix h)⟩
theorem an_st_good (E : an_E) {call : Nat → Nat → Nat → Nat → an_T → an_T} (hc : ∀ x y z n, an_good (fun τ => an_okc E τ x y z n) (call x y z n)) (i : Nat) (hi : i < 32) (I : an_I) : an_good (an_ok E i I) (an_st call i I) := by
  obtain ⟨o, x, y, z, n⟩ := I
  by_cases h0 : o = 0
  · subst h0
    exact an_good_m (s := fun _ => an_1 i) (fun _ _ _ => an_sub_rf _) (fun τ => (an_1_sub hi).symm)
  by_cases h1 : o = 1
  · subst h1
    exact an_good_m (s := fun σ => σ.1 y) (fun _ _ h => h.1 y) (fun τ => Iff.rfl)
  by_cases h3 : o = 3
  · subst h3
    refine an_good_m (s := fun σ => an_hb (fun a => σ.2.1 a z) (σ.1 y) 27) (fun σ τ h b q => ?_) (fun τ => ⟨fun q b w => ?_, fun q a ha hb b w => ?_⟩)
    · obtain ⟨a, ha, hw, hb⟩ := (an_hb_bt _ _ _ _).mp q
      exact (an_hb_bt _ _ _ _).mpr ⟨a, ha, h.1 y a hw, h.2.1 a z b hb⟩
    · obtain ⟨a, ha, hw, hb⟩ := (an_hb_bt _ _ _ _).mp w
      exact q a ha hw b hb
    · exact q b ((an_hb_bt _ _ _ _).mpr ⟨a, ha, hb, w⟩)
  by_cases h4 : o = 4
  · subst h4
    refine ⟨fun σ => an_h_up _ _ _ _, fun σ τ ho h => an_h_le h (fun a ha g hg hw hs => ?_), fun σ h a ha g hg hw hs => ?_⟩
    · rw [Bool.or_eq_true, decide_eq_true_eq, decide_eq_true_eq] at hs
      exact an_sub_tr (h.1 y) (ho a ha g hg (h.1 x a hw) hs)
    · refine an_h_fix h ha hg hw ?_
      rw [Bool.or_eq_true, decide_eq_true_eq, decide_eq_true_eq]
      exact hs
  by_cases h12 : o = 12
  · subst h12
    refine ⟨fun σ => an_h_up _ _ _ _, fun σ τ ho h => an_h_le h (fun a ha g hg hw hs => ?_), fun σ h g hg => ?_⟩
    · rw [an_W_bt, decide_eq_true_eq] at hw
      subst hw
      exact an_sub_tr (h.1 x) (ho g hg)
    · exact an_h_fix h (by omega) hg an_W_26 rfl
  by_cases h13 : o = 13
  · subst h13
    exact an_good_m (s := fun σ => σ.2.1 26 0) (fun _ _ h => h.2.1 26 0) (fun τ => Iff.rfl)
  by_cases h16 : o = 16
  · subst h16
    exact hc x y z n.toNatClampNeg
  by_cases h17 : o = 17
  · subst h17
    exact ⟨fun σ => an_g_up _ _, fun σ τ ho h => an_g_le h (an_sub_tr (h.1 x) ho), fun σ h => an_g_fix h⟩
  · have e1 : an_st call i (o, x, y, z, n) = fun σ => σ := by
      funext σ
      simp [an_st, h0, h1, h3, h4, h12, h13, h16, h17]
    have e2 : ∀ τ, an_ok E i (o, x, y, z, n) τ := by
      intro τ
      simp [an_ok, h0, h1, h3, h4, h12, h13, h16, h17]
    rw [e1]
    exact ⟨fun σ => an_le_rf σ, fun σ τ _ h => h, fun σ _ => e2 σ⟩
/-- a pass over all instructions -/
def an_pass (f : Nat → an_T → an_T) : Nat → an_T → an_T
  | 0, σ => σ
  | i + 1, σ => f i (an_pass f i σ)
theorem an_pass_up {f : Nat → an_T → an_T} {ok : Nat → an_T → Prop} : ∀ n, (∀ i, i < n → an_good (ok i) (f i)) → ∀ σ, an_le σ (an_pass f n σ) := by
  intro n
  induction n with
  | zero => intro _ σ; exact an_le_rf σ
  | succ n ih => intro h σ; exact an_le_tr (ih (fun i hi => h i (by omega)) σ) ((h n (by omega)).1 _)
theorem an_pass_le {f : Nat → an_T → an_T} {ok : Nat → an_T → Prop} : ∀ n, (∀ i, i < n → an_good (ok i) (f i)) → ∀ σ τ, (∀ i, i < n → ok i τ) → an_le σ τ → an_le (an_pass f n σ) τ := by
  intro n
  induction n with
  | zero => intro _ σ τ _ h; exact h
  | succ n ih => intro h σ τ ho k; exact (h n (by omega)).2.1 _ τ (ho n (by omega)) (ih (fun i hi => h i (by omega)) σ τ (fun i hi => ho i (by omega)) k)
theorem an_pass_at {f : Nat → an_T → an_T} {ok : Nat → an_T → Prop} {n : Nat} (h : ∀ i, i < n → an_good (ok i) (f i)) {i : Nat} (hi : i ≤ n) (σ : an_T) : an_le (an_pass f i σ) (an_pass f n σ) := by
  induction n with
  | zero => have e : i = 0 := by omega
            subst e; exact an_le_rf _
  | succ n ih =>
    by_cases e : i = n + 1
    · subst e; exact an_le_rf _
    · exact an_le_tr (ih (fun i hi => h i (by omega)) (by omega)) ((h n (by omega)).1 _)
/-- a pass that adds nothing: all that is asked holds -/
theorem an_pass_fix {f : Nat → an_T → an_T} {ok : Nat → an_T → Prop} {n : Nat} (h : ∀ i, i < n → an_good (ok i) (f i)) {σ : an_T} (k : an_le (an_pass f n σ) σ) : ∀ i, i < n → ok i σ := by
  intro i hi
  have e : an_pass f i σ = σ := an_le_eq (an_le_tr (an_pass_at h (by omega) σ) k) (an_pass_up i (fun j hj => h j (by omega)) σ)
  have q := an_le_tr (an_pass_at h (by omega : i + 1 ≤ n) σ) k
  have q' : an_le (f i (an_pass f i σ)) σ := q
  rw [e] at q'
  exact (h i hi).2.2 σ q'
end
section
/-! THE ANALYSIS, 3: the least solution, weights, programs -/
theorem an_c0_g (x : Nat) (σ : an_T) : (an_c0 x σ).2.2 = σ.2.2 := rfl
theorem an_r1_g (E : an_E) (y z n p : Nat) (σ : an_T) : (an_r1 E y z n p σ).2.2 = σ.2.2 := rfl
theorem an_r2_g (E : an_E) (x y z n : Nat) (bo : Int32) (p : Nat) (σ : an_T) : (an_r2 E x y z n bo p σ).2.2 = σ.2.2 := by
  unfold an_r2
  split
  · rfl
  · split <;> rfl
theorem an_cn_g (E : an_E) (x y z n : Nat) (σ : an_T) : ∀ k, (an_cn E x y z n k σ).2.2 = σ.2.2 := by
  intro k
  induction k with
  | zero => rfl
  | succ k ih => rw [← ih]; exact an_r2_g _ _ _ _ _ _ _ _
theorem an_st_g {call : Nat → Nat → Nat → Nat → an_T → an_T} (hc : ∀ x y z n σ, (call x y z n σ).2.2 = σ.2.2) {i : Nat} {I : an_I} (h : I.1 ≠ 17) (σ : an_T) : (an_st call i I σ).2.2 = σ.2.2 := by
  unfold an_st
  split
  · rfl
  split
  · rfl
  split
  · rfl
  split
  · rfl
  split
  · rfl
  split
  · rfl
  split
  · exact hc _ _ _ _ _
  first | rfl | rw [if_neg h]
theorem an_ok_cg {E : an_E} {i : Nat} {I : an_I} (h : I.1 ≠ 17) {τ υ : an_T} (e1 : τ.1 = υ.1) (e2 : τ.2.1 = υ.2.1) (q : an_ok E i I τ) : an_ok E i I υ := by
  obtain ⟨m1, h1, g1⟩ := τ
  obtain ⟨m2, h2, g2⟩ := υ
  simp only at e1 e2
  subst e1; subst e2
  unfold an_ok at q ⊢
  rw [if_neg h] at q ⊢
  exact q
/-- what a reference may be, and what is held, are the same -/
def an_same (σ τ : an_T) : Prop := σ.1 = τ.1 ∧ σ.2.1 = τ.2.1
theorem an_same_mid {σ τ υ : an_T} (h1 : an_le σ τ) (h2 : an_le τ υ) (h : an_same σ υ) : an_same σ τ ∧ an_same τ υ := by
  have e1 : σ.1 = τ.1 := funext fun r => an_eq (h1.1 r) (by rw [h.1]; exact h2.1 r)
  have e2 : σ.2.1 = τ.2.1 := funext fun a => funext fun g => an_eq (h1.2.1 a g) (by rw [h.2]; exact h2.2.1 a g)
  exact ⟨⟨e1, e2⟩, e1 ▸ h.1, e2 ▸ h.2⟩
/-- a pass of the class that changes nothing but what is given: all that is asked holds behind it -/
theorem an_pass_fixC {E : an_E} {call : Nat → Nat → Nat → Nat → an_T → an_T} {Is : Nat → an_I} {n : Nat} (hn : n ≤ 24) (hc : ∀ x y z n, an_good (fun τ => an_okc E τ x y z n) (call x y z n)) (hg : ∀ x y z n σ, (call x y z n σ).2.2 = σ.2.2)
    {σ : an_T} (k : an_same σ (an_pass (fun i => an_st call i (Is i)) n σ)) : ∀ i, i < n → an_ok E i (Is i) (an_pass (fun i => an_st call i (Is i)) n σ) := by
  intro i hi
  have h : ∀ i, i < n → an_good (an_ok E i (Is i)) (an_st call i (Is i)) := fun i hi => an_st_good E hc i (by omega) (Is i)
  have a0 := an_pass_up (f := fun i => an_st call i (Is i)) (ok := fun i => an_ok E i (Is i)) i (fun j hj => h j (by omega)) σ
  have a1 := (h i hi).1 (an_pass (fun i => an_st call i (Is i)) i σ)
  have a2 := an_pass_at (f := fun i => an_st call i (Is i)) (ok := fun i => an_ok E i (Is i)) h (by omega : i + 1 ≤ n) σ
  have s1 := an_same_mid (an_le_tr a0 a1) a2 k
  have s2 := an_same_mid a0 a1 s1.1
  by_cases q : (Is i).1 = 17
  · have a2' : an_le (an_st call i (Is i) (an_pass (fun i => an_st call i (Is i)) i σ)) (an_pass (fun i => an_st call i (Is i)) n σ) := a2
    have e : an_st call i (Is i) (an_pass (fun i => an_st call i (Is i)) i σ) = an_g (an_pass (fun i => an_st call i (Is i)) i σ) ((an_pass (fun i => an_st call i (Is i)) i σ).1 (Is i).2.1) := by
      simp [an_st, q]
    rw [e] at a2'
    have e3 : (an_pass (fun i => an_st call i (Is i)) i σ).1 = (an_pass (fun i => an_st call i (Is i)) n σ).1 := s2.1.1.symm.trans k.1
    have : an_sub ((an_pass (fun i => an_st call i (Is i)) n σ).1 (Is i).2.1) (an_pass (fun i => an_st call i (Is i)) n σ).2.2 := by
      rw [← e3]
      exact an_sub_tr (an_sub_orr _ _) a2'.2.2
    simp [an_ok, q]
    exact this
  · have e : an_st call i (Is i) (an_pass (fun i => an_st call i (Is i)) i σ) = an_pass (fun i => an_st call i (Is i)) i σ :=
      Prod.ext s2.2.1.symm (Prod.ext s2.2.2.symm (an_st_g hg q _))
    have o := (h i hi).2.2 (an_pass (fun i => an_st call i (Is i)) i σ) (by rw [e]; exact an_le_rf _)
    exact an_ok_cg q (s2.1.1.symm.trans k.1) (s2.1.2.symm.trans k.2) o
/-- from the start, below every solution -/
def an_inv (st : an_T) (n : Nat) (ok : Nat → an_T → Prop) (σ : an_T) : Prop := an_le st σ ∧ ∀ τ, an_le st τ → (∀ i, i < n → ok i τ) → an_le σ τ
/-- the least solution -/
def an_sol (st : an_T) (n : Nat) (ok : Nat → an_T → Prop) (σ : an_T) : Prop := an_inv st n ok σ ∧ ∀ i, i < n → ok i σ
theorem an_sol_uq {st : an_T} {n : Nat} {ok : Nat → an_T → Prop} {σ τ : an_T} (h : an_sol st n ok σ) (k : an_sol st n ok τ) : σ = τ :=
  an_le_eq (h.1.2 τ k.1.1 k.2) (k.1.2 σ h.1.1 h.2)
theorem an_inv_0 (st : an_T) (n : Nat) (ok : Nat → an_T → Prop) : an_inv st n ok st := ⟨an_le_rf st, fun _ h _ => h⟩
theorem an_inv_p {st : an_T} {n : Nat} {ok : Nat → an_T → Prop} {f : Nat → an_T → an_T} (h : ∀ i, i < n → an_good (ok i) (f i)) {σ : an_T} (k : an_inv st n ok σ) : an_inv st n ok (an_pass f n σ) :=
  ⟨an_le_tr k.1 (an_pass_up n h σ), fun τ h1 h2 => an_pass_le n h σ τ h2 (k.2 τ h1 h2)⟩
/-- all bits -/
def an_F : Int32 := 134217727
theorem an_F_bt (b : Nat) : bt an_F b = decide (b < 27) := by
  rcases Nat.lt_or_ge b 32 with h | h
  · exact (by decide +kernel : ∀ i, i < 32 → bt an_F i = decide (i < 27)) b h
  · rw [b_big h, decide_eq_false (by omega)]
def an_top : an_T := (fun r => if r < 4 then an_F else 0, fun a g => if a < 27 ∧ g < 2 then an_F else 0, an_F)
theorem an_top_m (r : Nat) : an_sub (an_top.1 r) an_F := by
  show an_sub (if r < 4 then an_F else 0) an_F
  split
  · exact an_sub_rf _
  · exact an_sub_0 _
theorem an_top_h (a g : Nat) : an_sub (an_top.2.1 a g) an_F := by
  show an_sub (if a < 27 ∧ g < 2 then an_F else 0) an_F
  split
  · exact an_sub_rf _
  · exact an_sub_0 _
theorem an_top_R {s : Int32} (hs : an_sub s an_F) {b : Nat} (hr : an_R an_top.2.1 s b) : bt an_F b = true :=
  an_C_R (fun a _ _ g _ => an_top_h a g) hs hr
theorem an_top_x {x : Nat} (hx : x < 4) : an_top.1 x = an_F := if_pos hx
theorem an_top_a {a g : Nat} (ha : a < 27) (hg : g < 2) : an_top.2.1 a g = an_F := if_pos ⟨ha, hg⟩
/-- an instruction that the program may hold -/
def an_wf (I : an_I) : Prop := I.1 ≤ 18 ∧ I.2.1 < 4 ∧ I.2.2.1 < 4 ∧ I.2.2.2.1 < 4 ∧ (3 ≤ I.1 → I.1 ≤ 6 → I.2.2.2.1 < 2) ∧ (I.1 = 16 → ∃ n, n < 5 ∧ I.2.2.2.2 = nI n)
theorem an_top_ok (E : an_E) {i : Nat} (hi : i < 24) {I : an_I} (w : an_wf I) : an_ok E i I an_top := by
  obtain ⟨o, x, y, z, n⟩ := I
  obtain ⟨w1, w2, w3, w4, w5, w6⟩ := w
  simp only at w1 w2 w3 w4 w5 w6
  have hag : ∀ p, an_sub (an_ag an_top y z p) an_F := fun p => an_top_m _
  have hbo : ∀ k, an_sub (an_bo an_top k y z) an_F := fun k => by
    unfold an_bo
    split
    · exact an_or_sub (an_top_m _) (an_top_m _)
    · exact an_top_m _
  have h26 : bt an_F 26 = true := by rw [an_F_bt]; rfl
  have hW : an_sub an_W an_F := (an_1_sub (by omega)).mpr h26
  unfold an_ok
  simp only
  split
  · rw [an_top_x w2, an_F_bt]; simp; omega
  split
  · rw [an_top_x w2]; exact an_top_m _
  split
  · intro a ha _; rw [an_top_x w2]; exact an_top_h _ _
  split
  · intro a ha g hg _ _; rw [an_top_a ha hg]; exact an_top_m _
  split
  · intro g hg; rw [an_top_a (by omega) hg]; exact an_top_m _
  split
  · rw [an_top_x w2]; exact an_top_h _ _
  split
  · refine ⟨⟨fun a ha _ g hg => ?_, ?_⟩, fun p _ => ⟨fun a ha _ g hg => ⟨fun b hb => ?_, fun _ => ?_⟩, fun _ g hg => ?_, fun _ => ⟨fun a ha _ g hg b hb => ?_, fun b hb => ?_⟩⟩⟩
    · rw [an_top_a ha hg]; exact h26
    · rw [an_top_x w2]; exact an_top_h _ _
    · rw [an_top_a ha hg]; exact an_top_R (hag p) hb
    · rw [an_top_a ha hg]; exact h26
    · rw [an_top_a (by omega) hg]; exact hag p
    · rw [an_top_a ha hg]; exact an_top_R (hbo _) hb
    · rw [an_top_x w2]; exact an_top_R (hbo _) hb
  split
  · rw [an_top_x w2]; exact an_sub_rf _
  · trivial
/-- sums and weights -/
def an_sum (f : Nat → Nat) : Nat → Nat
  | 0 => 0
  | n + 1 => an_sum f n + f n
theorem an_sum_le {f g : Nat → Nat} : ∀ n, (∀ i, i < n → f i ≤ g i) → an_sum f n ≤ an_sum g n := by
  intro n
  induction n with
  | zero => intro _; exact Nat.le_refl _
  | succ n ih =>
    intro h
    have a := ih (fun i hi => h i (by omega))
    have b := h n (by omega)
    simp only [an_sum]; omega
theorem an_sum_eq {f g : Nat → Nat} : ∀ n, (∀ i, i < n → f i ≤ g i) → an_sum g n ≤ an_sum f n → ∀ i, i < n → f i = g i := by
  intro n
  induction n with
  | zero => intro _ _ i hi; omega
  | succ n ih =>
    intro h k i hi
    have a := an_sum_le n (fun i hi => h i (by omega))
    have b := h n (by omega)
    simp only [an_sum] at k
    by_cases e : i = n
    · subst e; omega
    · exact ih (fun i hi => h i (by omega)) (by omega) i (by omega)
theorem an_sum_bd {f : Nat → Nat} {c : Nat} : ∀ n, (∀ i, i < n → f i ≤ c) → an_sum f n ≤ n * c := by
  intro n
  induction n with
  | zero => intro _; exact Nat.zero_le _
  | succ n ih =>
    intro h
    have a := ih (fun i hi => h i (by omega))
    have b := h n (by omega)
    simp only [an_sum]
    rw [Nat.succ_mul]
    omega
def an_bit (s : Int32) (b : Nat) : Nat := if bt s b = true then 1 else 0
theorem an_bit_1 (s : Int32) (b : Nat) : an_bit s b ≤ 1 := by unfold an_bit; split <;> omega
theorem an_bit_le {s t : Int32} (h : an_sub s t) (b : Nat) : an_bit s b ≤ an_bit t b := by
  unfold an_bit
  by_cases q : bt s b = true
  · rw [if_pos q, if_pos (h b q)]; exact Nat.le_refl _
  · rw [if_neg q]; omega
theorem an_bit_eq {s t : Int32} {b : Nat} (h : an_bit s b = an_bit t b) (q : bt t b = true) : bt s b = true := by
  unfold an_bit at h
  rw [if_pos q] at h
  by_cases w : bt s b = true
  · exact w
  · rw [if_neg w] at h; omega
def an_wtb (σ : an_T) (b : Nat) : Nat := an_bit σ.2.2 b + an_sum (fun k => an_bit (σ.1 k) b) 4 + an_sum (fun k => an_bit (σ.2.1 (k / 2) (k % 2)) b) 54
def an_wt (σ : an_T) : Nat := an_sum (an_wtb σ) 27
theorem an_wtb_le {σ τ : an_T} (h : an_le σ τ) (b : Nat) : an_wtb σ b ≤ an_wtb τ b := by
  have a := an_bit_le h.2.2 b
  have c := an_sum_le (f := fun k => an_bit (σ.1 k) b) (g := fun k => an_bit (τ.1 k) b) 4 (fun i _ => an_bit_le (h.1 i) b)
  have d := an_sum_le (f := fun k => an_bit (σ.2.1 (k / 2) (k % 2)) b) (g := fun k => an_bit (τ.2.1 (k / 2) (k % 2)) b) 54 (fun i _ => an_bit_le (h.2.1 _ _) b)
  unfold an_wtb
  omega
theorem an_wt_le {σ τ : an_T} (h : an_le σ τ) : an_wt σ ≤ an_wt τ := an_sum_le 27 (fun b _ => an_wtb_le h b)
theorem an_wt_bd (σ : an_T) : an_wt σ ≤ 1593 := by
  refine an_sum_bd (c := 59) 27 (fun b _ => ?_)
  have a := an_bit_1 σ.2.2 b
  have c := an_sum_bd (f := fun k => an_bit (σ.1 k) b) (c := 1) 4 (fun i _ => an_bit_1 _ b)
  have d := an_sum_bd (f := fun k => an_bit (σ.2.1 (k / 2) (k % 2)) b) (c := 1) 54 (fun i _ => an_bit_1 _ b)
  unfold an_wtb
  omega
theorem an_wt_eq {σ τ : an_T} (h : an_le σ τ) (ht : an_le τ an_top) (k : an_wt τ ≤ an_wt σ) : τ = σ := by
  have hb := an_sum_eq 27 (fun b _ => an_wtb_le h b) k
  have h27 : ∀ b, bt an_F b = true → b < 27 := fun b q => by rw [an_F_bt, decide_eq_true_eq] at q; exact q
  have key : ∀ b, b < 27 → an_bit σ.2.2 b = an_bit τ.2.2 b ∧ (∀ i, i < 4 → an_bit (σ.1 i) b = an_bit (τ.1 i) b) ∧ (∀ i, i < 54 → an_bit (σ.2.1 (i / 2) (i % 2)) b = an_bit (τ.2.1 (i / 2) (i % 2)) b) := by
    intro b hb27
    have e := hb b hb27
    have a := an_bit_le h.2.2 b
    have c := an_sum_le (f := fun k => an_bit (σ.1 k) b) (g := fun k => an_bit (τ.1 k) b) 4 (fun i _ => an_bit_le (h.1 i) b)
    have d := an_sum_le (f := fun k => an_bit (σ.2.1 (k / 2) (k % 2)) b) (g := fun k => an_bit (τ.2.1 (k / 2) (k % 2)) b) 54 (fun i _ => an_bit_le (h.2.1 _ _) b)
    unfold an_wtb at e
    refine ⟨by omega, ?_, ?_⟩
    · exact an_sum_eq 4 (fun i _ => an_bit_le (h.1 i) b) (by omega)
    · exact an_sum_eq (f := fun k => an_bit (σ.2.1 (k / 2) (k % 2)) b) (g := fun k => an_bit (τ.2.1 (k / 2) (k % 2)) b) 54 (fun i _ => an_bit_le (h.2.1 _ _) b) (by omega)
  refine an_le_eq ⟨fun r b q => ?_, fun a g b q => ?_, fun b q => ?_⟩ h
  · have q1 := ht.1 r b q
    by_cases hr : r < 4
    · rw [an_top_x hr] at q1
      exact an_bit_eq ((key b (h27 b q1)).2.1 r hr) q
    · have e : an_top.1 r = 0 := if_neg hr
      rw [e, b_0] at q1
      exact absurd q1 (by decide)
  · have q1 := ht.2.1 a g b q
    by_cases hr : a < 27 ∧ g < 2
    · rw [an_top_a hr.1 hr.2] at q1
      have e := (key b (h27 b q1)).2.2 (2 * a + g) (by omega)
      rw [show (2 * a + g) / 2 = a by omega, show (2 * a + g) % 2 = g by omega] at e
      exact an_bit_eq e q
    · have e : an_top.2.1 a g = 0 := if_neg hr
      rw [e, b_0] at q1
      exact absurd q1 (by decide)
  · exact an_bit_eq (key b (h27 b (ht.2.2 b q))).1 q
theorem an_wt_lt {σ τ : an_T} (h : an_le σ τ) (ht : an_le τ an_top) (k : σ ≠ τ) : an_wt σ < an_wt τ :=
  Nat.lt_of_not_le (fun q => k (an_wt_eq h ht q).symm)
/-- a program: how many instructions, how many inputs, the instructions -/
abbrev pr_T : Type := (Nat → Nat) × (Nat → Nat) × (Nat → Nat → an_I)
def pr_wf (P : pr_T) : Prop := ∀ m, m < 5 → P.1 m ≤ 24 ∧ P.2.1 m ≤ 2 ∧ ∀ i, i < P.1 m → an_wf (P.2.2 m i)
/-- where the analysis of a method with k inputs begins -/
def an_s0 (k : Nat) : an_T := (fun r => if r < k then an_1 (24 + r) else 0, fun a g => if g < 2 then (if a = 26 then an_W else if 24 ≤ a ∧ a < 24 + k then an_1 a else 0) else 0, 0)
theorem an_s0_top {k : Nat} (hk : k ≤ 2) : an_le (an_s0 k) an_top := by
  refine ⟨fun r => ?_, fun a g => ?_, an_sub_0 _⟩
  · show an_sub (if r < k then an_1 (24 + r) else 0) _
    split
    · rw [an_top_x (by omega)]
      refine (an_1_sub (by omega)).mpr ?_
      rw [an_F_bt]; simp; omega
    · exact an_sub_0 _
  · show an_sub (if g < 2 then (if a = 26 then an_W else if 24 ≤ a ∧ a < 24 + k then an_1 a else 0) else 0) _
    split
    · split
      · rw [an_top_a (by omega) (by omega)]
        refine (an_1_sub (by omega)).mpr ?_
        rw [an_F_bt]; rfl
      · split
        · rw [an_top_a (by omega) (by omega)]
          refine (an_1_sub (by omega)).mpr ?_
          rw [an_F_bt]; simp; omega
        · exact an_sub_0 _
    · exact an_sub_0 _
def an_z : an_T := (fun _ => 0, fun _ _ => 0, 0)
/-- what becomes of argument p -/
def an_sm (σ : an_T) (k p : Nat) : Nat :=
  if bt (an_rc σ.2.1 an_W) (24 + p) = true then 2
  else if (an_rc σ.2.1 (an_1 (24 + p)) &&& (an_rc σ.2.1 σ.2.2 ||| (if k = 2 then an_rc σ.2.1 (an_1 (25 - p)) else 0))) ≠ 0 then 1 else 0
def an_mx (σ : an_T) (p : Nat) : Bool := decide ((an_rc σ.2.1 (an_1 (24 + p)) &&& an_rc σ.2.1 an_W) ≠ 0)
/-- how callers of method n see argument p, from method m -/
def an_sx (P : pr_T) (m : Nat) (S : Nat → an_T) (n p : Nat) : Nat := if n ≤ m ∨ 5 ≤ n ∨ P.1 n = 0 then 2 else an_sm (S n) (P.2.1 n) p
def an_kx (P : pr_T) (m : Nat) (S : Nat → an_T) (n p : Nat) : Bool := if n ≤ m ∨ 5 ≤ n ∨ P.1 n = 0 then true else (decide (an_sm (S n) (P.2.1 n) p = 2) || an_mx (S n) p)
def an_env (P : pr_T) (m : Nat) (S : Nat → an_T) : an_E := (P.2.1, an_sx P m S, an_kx P m S)
/-- the analysis of one method, given the others -/
def an_is1 (P : pr_T) (S : Nat → an_T) (m : Nat) : Prop := if P.1 m = 0 then S m = an_z else an_sol (an_s0 (P.2.1 m)) (P.1 m) (fun i => an_ok (an_env P m S) i (P.2.2 m i)) (S m)
/-- the analysis of a program -/
def an_is (P : pr_T) (S : Nat → an_T) : Prop := ∀ m, m < 5 → an_is1 P S m
theorem an_env_cg {P : pr_T} {m : Nat} {S T : Nat → an_T} (h : ∀ n, m < n → n < 5 → S n = T n) : an_env P m S = an_env P m T := by
  have e1 : an_sx P m S = an_sx P m T := by
    funext n p
    unfold an_sx
    split
    · rfl
    · next q => rw [h n (by omega) (by omega)]
  have e2 : an_kx P m S = an_kx P m T := by
    funext n p
    unfold an_kx
    split
    · rfl
    · next q => rw [h n (by omega) (by omega)]
  unfold an_env
  rw [e1, e2]
theorem an_is1_cg {P : pr_T} {m : Nat} {S T : Nat → an_T} (h : ∀ n, m ≤ n → n < 5 → S n = T n) (hm : m < 5) (q : an_is1 P S m) : an_is1 P T m := by
  unfold an_is1 at q ⊢
  rw [← an_env_cg (fun n h1 h2 => h n (by omega) h2), ← h m (by omega) hm]
  exact q
theorem an_is1_uq {P : pr_T} {m : Nat} {S T : Nat → an_T} (h : ∀ n, m < n → n < 5 → S n = T n) (q : an_is1 P S m) (r : an_is1 P T m) : S m = T m := by
  unfold an_is1 at q r
  by_cases e : P.1 m = 0
  · rw [if_pos e] at q r; rw [q, r]
  · rw [if_neg e] at q r
    rw [← an_env_cg h] at r
    exact an_sol_uq q r
theorem an_is_uq {P : pr_T} {S T : Nat → an_T} (h : an_is P S) (k : an_is P T) : ∀ m, m < 5 → S m = T m := by
  have key : ∀ d m, m < 5 → 5 ≤ m + d → S m = T m := by
    intro d
    induction d with
    | zero => intro m h1 h2; omega
    | succ d ih => intro m h1 h2; exact an_is1_uq (fun n h3 h4 => ih n h4 (by omega)) (h m h1) (k m h1)
  exact fun m hm => key 5 m hm (by omega)
end
section
/-! DOMINANCE: ways that don't go over a hole -/
/-- from instruction i to instruction j -/
abbrev dm_e (n : Nat) (c : Nat → an_I) (i j : Nat) : Prop :=
  j < n ∧ (((c i).1 ≠ 14 ∧ (c i).1 ≠ 17 ∧ j = i + 1) ∨ (((c i).1 = 14 ∨ (c i).1 = 15) ∧ (c i).2.2.2.2 = nI j))
/-- a way from 0 leads there that doesn't go over the hole -/
def dm_R (n : Nat) (c : Nat → an_I) (hole j : Nat) : Prop :=
  ∀ S : Nat → Prop, (0 < n → 0 ≠ hole → S 0) → (∀ i, i < n → S i → ∀ j, j ≠ hole → dm_e n c i j → S j) → S j
theorem dm_R_0 {n : Nat} {c : Nat → an_I} {hole : Nat} (h : 0 < n) (k : 0 ≠ hole) : dm_R n c hole 0 := fun _ h0 _ => h0 h k
theorem dm_R_s {n : Nat} {c : Nat → an_I} {hole i j : Nat} (h : dm_R n c hole i) (hi : i < n) (hj : j ≠ hole) (e : dm_e n c i j) : dm_R n c hole j :=
  fun S h0 hs => hs i hi (h S h0 hs) j hj e
theorem dm_R_ne {n : Nat} {c : Nat → an_I} {hole j : Nat} (h : dm_R n c hole j) : j ≠ hole := h (fun j => j ≠ hole) (fun _ k => k) (fun _ _ _ _ k _ => k)
theorem dm_R_lt {n : Nat} {c : Nat → an_I} {hole j : Nat} (h : dm_R n c hole j) : j < n := h (fun j => j < n) (fun k _ => k) (fun _ _ _ _ _ e => e.1)
/-- the class -/
def dm_bit (n : Nat) (v : Int32) : Int32 := if 0 ≤ v ∧ v < nI n then (1 : Int32) <<< (v &&& 31) else 0
theorem dm_bit_bt {n : Nat} (hn : n ≤ 24) (v : Int32) (j : Nat) : bt (dm_bit n v) j = true ↔ j < n ∧ v = nI j := by
  unfold dm_bit
  by_cases h : 0 ≤ v ∧ v < nI n
  · rw [if_pos h]
    obtain ⟨k, hk, e⟩ := nI_of (x := v) (by rw [Int32.not_lt]; exact h.1)
    subst e
    have hkn : k < n := (nI_ltI hk (by omega)).mp h.2
    show bt (an_1 k) j = true ↔ _
    rw [an_1_bt (by omega), decide_eq_true_eq]
    constructor
    · intro q; subst q; exact ⟨hkn, rfl⟩
    · rintro ⟨q1, q2⟩
      exact ((nI_eq hk (by omega)).mp q2).symm
  · rw [if_neg h, b_0]
    constructor
    · intro q; exact absurd q (by decide)
    · rintro ⟨q1, q2⟩
      subst q2
      exact absurd ⟨nI_pos' (by omega), nI_lt q1 (by omega)⟩ h
def dm_nx (n : Nat) (c : Nat → an_I) (i : Nat) (a : Int32) : Int32 := if (c i).1 ≠ 14 ∧ (c i).1 ≠ 17 then a ||| dm_bit n (nI (i + 1)) else a
def dm_jm (n : Nat) (c : Nat → an_I) (i : Nat) (a : Int32) : Int32 := if (c i).1 = 14 ∨ (c i).1 = 15 then a ||| dm_bit n (c i).2.2.2.2 else a
def dm_bh (n : Nat) (c : Nat → an_I) (s : Int32) : Nat → Int32
  | 0 => 0
  | i + 1 => if bt s i = true then dm_jm n c i (dm_nx n c i (dm_bh n c s i)) else dm_bh n c s i
theorem dm_nx_bt {n : Nat} (hn : n ≤ 24) (c : Nat → an_I) (i : Nat) (hi : i < 32) (a : Int32) (j : Nat) : bt (dm_jm n c i (dm_nx n c i a)) j = true ↔ bt a j = true ∨ dm_e n c i j := by
  have e1 : bt (dm_nx n c i a) j = true ↔ bt a j = true ∨ (j < n ∧ (c i).1 ≠ 14 ∧ (c i).1 ≠ 17 ∧ j = i + 1) := by
    unfold dm_nx
    by_cases q : (c i).1 ≠ 14 ∧ (c i).1 ≠ 17
    · rw [if_pos q, b_or, Bool.or_eq_true, dm_bit_bt hn]
      constructor
      · rintro (h | ⟨h1, h2⟩)
        · exact Or.inl h
        · exact Or.inr ⟨h1, q.1, q.2, ((nI_eq (by omega) (by omega)).mp h2).symm⟩
      · rintro (h | ⟨h1, _, _, h4⟩)
        · exact Or.inl h
        · exact Or.inr ⟨h1, by rw [h4]⟩
    · rw [if_neg q]
      constructor
      · exact Or.inl
      · rintro (h | ⟨_, h2, h3, _⟩)
        · exact h
        · exact absurd ⟨h2, h3⟩ q
  unfold dm_jm
  by_cases q : (c i).1 = 14 ∨ (c i).1 = 15
  · rw [if_pos q, b_or, Bool.or_eq_true, dm_bit_bt hn, e1]
    constructor
    · rintro ((h | ⟨h1, h2, h3, h4⟩) | ⟨h1, h2⟩)
      · exact Or.inl h
      · exact Or.inr ⟨h1, Or.inl ⟨h2, h3, h4⟩⟩
      · exact Or.inr ⟨h1, Or.inr ⟨q, h2⟩⟩
    · rintro (h | ⟨h1, ⟨h2, h3, h4⟩ | ⟨_, h3⟩⟩)
      · exact Or.inl (Or.inl h)
      · exact Or.inl (Or.inr ⟨h1, h2, h3, h4⟩)
      · exact Or.inr ⟨h1, h3⟩
  · rw [if_neg q, e1]
    constructor
    · rintro (h | ⟨h1, h2, h3, h4⟩)
      · exact Or.inl h
      · exact Or.inr ⟨h1, Or.inl ⟨h2, h3, h4⟩⟩
    · rintro (h | ⟨h1, ⟨h2, h3, h4⟩ | ⟨h2, _⟩⟩)
      · exact Or.inl h
      · exact Or.inr ⟨h1, h2, h3, h4⟩
      · exact absurd h2 q
theorem dm_bh_bt {n : Nat} (hn : n ≤ 24) (c : Nat → an_I) (s : Int32) (j : Nat) : ∀ k, k ≤ 32 → (bt (dm_bh n c s k) j = true ↔ ∃ i, i < k ∧ bt s i = true ∧ dm_e n c i j) := by
  intro k
  induction k with
  | zero => intro _; simp [dm_bh, b_0]
  | succ k ih =>
    intro hk
    simp only [dm_bh]
    by_cases q : bt s k = true
    · rw [if_pos q, dm_nx_bt hn c k (by omega), ih (by omega)]
      constructor
      · rintro (⟨i, h1, h2, h3⟩ | h)
        · exact ⟨i, by omega, h2, h3⟩
        · exact ⟨k, by omega, q, h⟩
      · rintro ⟨i, h1, h2, h3⟩
        by_cases z : i = k
        · rw [z] at h3; exact Or.inr h3
        · exact Or.inl ⟨i, by omega, h2, h3⟩
    · rw [if_neg q, ih (by omega)]
      constructor
      · rintro ⟨i, h1, h2, h3⟩
        exact ⟨i, by omega, h2, h3⟩
      · rintro ⟨i, h1, h2, h3⟩
        by_cases z : i = k
        · rw [z] at h2; exact absurd h2 q
        · exact ⟨i, by omega, h2, h3⟩
/-- all but the hole -/
def dm_al (hole : Nat) : Int32 := an_1 hole ^^^ (-1)
theorem dm_al_bt {hole : Nat} (hh : hole < 24) {j : Nat} (hj : j < 32) : bt (dm_al hole) j = true ↔ j ≠ hole := by
  unfold dm_al
  rw [b_xor, b_m1 j hj, an_1_bt (by omega)]
  by_cases q : j = hole <;> simp [q]
def dm_rd (n : Nat) (c : Nat → an_I) (hole : Nat) (s : Int32) : Int32 := (s ||| dm_bh n c s n) &&& dm_al hole
def dm_go (n : Nat) (c : Nat → an_I) (hole : Nat) : Nat → Int32 → Int32
  | 0, s => s
  | k + 1, s => if dm_rd n c hole s = s then s else dm_go n c hole k (dm_rd n c hole s)
/-- what the class finds free of the hole -/
def dm_free (n : Nat) (c : Nat → an_I) (hole : Nat) : Int32 := dm_go n c hole 24 (dm_bit n 0 &&& dm_al hole)
/-- inside: bits below n, not the hole -/
def dm_in (n hole : Nat) (s : Int32) : Prop := ∀ j, bt s j = true → j < n ∧ j ≠ hole
def dm_C (n : Nat) (c : Nat → an_I) (hole : Nat) (s : Int32) : Prop := ∀ i, i < n → bt s i = true → ∀ j, j ≠ hole → dm_e n c i j → bt s j = true
section DM
variable {n : Nat} {c : Nat → an_I} {hole : Nat}
theorem dm_rd_bt (hn : n ≤ 24) (hh : hole < 24) {s : Int32} (hs : dm_in n hole s) (j : Nat) : bt (dm_rd n c hole s) j = true ↔ bt s j = true ∨ (j ≠ hole ∧ ∃ i, i < n ∧ bt s i = true ∧ dm_e n c i j) := by
  unfold dm_rd
  rw [b_and, b_or, Bool.and_eq_true, Bool.or_eq_true, dm_bh_bt hn c s j n (by omega)]
  constructor
  · rintro ⟨h1 | h1, h2⟩
    · exact Or.inl h1
    · obtain ⟨i, a1, a2, a3⟩ := h1
      exact Or.inr ⟨(dm_al_bt hh (by have := a3.1; omega)).mp h2, i, a1, a2, a3⟩
  · rintro (h | ⟨h1, i, a1, a2, a3⟩)
    · have := hs j h
      exact ⟨Or.inl h, (dm_al_bt hh (by omega)).mpr this.2⟩
    · exact ⟨Or.inr ⟨i, a1, a2, a3⟩, (dm_al_bt hh (by have := a3.1; omega)).mpr h1⟩
theorem dm_rd_in (hn : n ≤ 24) (hh : hole < 24) {s : Int32} (hs : dm_in n hole s) : dm_in n hole (dm_rd n c hole s) := by
  intro j hj
  rcases (dm_rd_bt hn hh hs j).mp hj with h | ⟨h1, i, _, _, h4⟩
  · exact hs j h
  · exact ⟨h4.1, h1⟩
theorem dm_rd_up (hn : n ≤ 24) (hh : hole < 24) {s : Int32} (hs : dm_in n hole s) : an_sub s (dm_rd n c hole s) := fun j hj => (dm_rd_bt hn hh hs j).mpr (Or.inl hj)
theorem dm_rd_C (hn : n ≤ 24) (hh : hole < 24) {s : Int32} (hs : dm_in n hole s) (k : dm_C n c hole s) : dm_rd n c hole s = s := by
  refine an_eq (fun j hj => ?_) (dm_rd_up hn hh hs)
  rcases (dm_rd_bt hn hh hs j).mp hj with h | ⟨h1, i, h2, h3, h4⟩
  · exact h
  · exact k i h2 h3 j h1 h4
theorem dm_go_C (hn : n ≤ 24) (hh : hole < 24) {s : Int32} (hs : dm_in n hole s) (k : dm_C n c hole s) : ∀ t, dm_go n c hole t s = s := by
  intro t
  cases t with
  | zero => rfl
  | succ t => simp only [dm_go]; rw [if_pos (dm_rd_C hn hh hs k)]
theorem dm_go_cl (hn : n ≤ 24) (hh : hole < 24) : ∀ t s, dm_in n hole s → 25 ≤ t + an_cnt s 24 → dm_C n c hole (dm_go n c hole t s) := by
  intro t
  induction t with
  | zero => intro s _ q; have := an_cnt_n s 24; omega
  | succ t ih =>
    intro s hs q
    simp only [dm_go]
    by_cases e : dm_rd n c hole s = s
    · rw [if_pos e]
      intro i hi hb j hj he
      have : bt (dm_rd n c hole s) j = true := (dm_rd_bt hn hh hs j).mpr (Or.inr ⟨hj, i, hi, hb, he⟩)
      rw [e] at this
      exact this
    · rw [if_neg e]
      by_cases z : an_cnt (dm_rd n c hole s) 24 ≤ an_cnt s 24
      · have k : dm_C n c hole (dm_rd n c hole s) := by
          intro i hi hb j hj he
          have hb' := an_cnt_eq (dm_rd_up (c := c) hn hh hs) 24 z i (by omega) hb
          exact (dm_rd_bt hn hh hs j).mpr (Or.inr ⟨hj, i, hi, hb', he⟩)
        rw [dm_go_C hn hh (dm_rd_in hn hh hs) k]
        exact k
      · exact ih _ (dm_rd_in hn hh hs) (by omega)
theorem dm_go_up (hn : n ≤ 24) (hh : hole < 24) : ∀ t s, dm_in n hole s → an_sub s (dm_go n c hole t s) := by
  intro t
  induction t with
  | zero => intro s _; exact an_sub_rf s
  | succ t ih =>
    intro s hs
    simp only [dm_go]
    split
    · exact an_sub_rf s
    · exact an_sub_tr (dm_rd_up hn hh hs) (ih _ (dm_rd_in hn hh hs))
theorem dm_go_R (hn : n ≤ 24) (hh : hole < 24) : ∀ t s, dm_in n hole s → (∀ j, bt s j = true → dm_R n c hole j) → ∀ j, bt (dm_go n c hole t s) j = true → dm_R n c hole j := by
  intro t
  induction t with
  | zero => intro s _ h j q; exact h j q
  | succ t ih =>
    intro s hs h j q
    simp only [dm_go] at q
    by_cases e : dm_rd n c hole s = s
    · rw [if_pos e] at q; exact h j q
    · rw [if_neg e] at q
      refine ih _ (dm_rd_in hn hh hs) (fun j q => ?_) j q
      rcases (dm_rd_bt hn hh hs j).mp q with w | ⟨h1, i, h2, h3, h4⟩
      · exact h j w
      · exact dm_R_s (h i h3) h2 h1 h4
theorem dm_free_bt (hn : n ≤ 24) (hh : hole < 24) (j : Nat) : bt (dm_free n c hole) j = true ↔ dm_R n c hole j := by
  have e0 : ∀ j, bt (dm_bit n 0 &&& dm_al hole) j = true ↔ (j = 0 ∧ 0 < n ∧ 0 ≠ hole) := by
    intro j
    rw [b_and, Bool.and_eq_true, dm_bit_bt hn]
    constructor
    · rintro ⟨⟨h1, h2⟩, h3⟩
      have hj : j = 0 := ((nI_eq (a := 0) (b := j) (by omega) (by omega)).mp (nI_0.trans h2)).symm
      subst hj
      exact ⟨rfl, h1, (dm_al_bt hh (by omega)).mp h3⟩
    · rintro ⟨h1, h2, h3⟩
      subst h1
      exact ⟨⟨h2, nI_0.symm⟩, (dm_al_bt hh (by omega)).mpr h3⟩
  have hs : dm_in n hole (dm_bit n 0 &&& dm_al hole) := by
    intro j hj
    obtain ⟨h1, h2, h3⟩ := (e0 j).mp hj
    subst h1
    exact ⟨h2, h3⟩
  have hr : ∀ j, bt (dm_bit n 0 &&& dm_al hole) j = true → dm_R n c hole j := by
    intro j hj
    obtain ⟨h1, h2, h3⟩ := (e0 j).mp hj
    subst h1
    exact dm_R_0 h2 h3
  have hc : dm_C n c hole (dm_free n c hole) := by
    by_cases q : 0 < n ∧ 0 ≠ hole
    · exact dm_go_cl hn hh 24 _ hs (by have := an_cnt_pos ((e0 0).mpr ⟨rfl, q⟩) 24 (by omega); omega)
    · have k : dm_C n c hole (dm_bit n 0 &&& dm_al hole) := fun i _ hb => absurd ((e0 i).mp hb).2 q
      unfold dm_free
      rw [dm_go_C hn hh hs k]
      exact k
  constructor
  · exact dm_go_R hn hh 24 _ hs hr j
  · intro h
    refine h (fun j => bt (dm_free n c hole) j = true) (fun h1 h2 => ?_) (fun i hi hb j hj he => hc i hi hb j hj he)
    exact dm_go_up hn hh 24 _ hs 0 ((e0 0).mpr ⟨rfl, h1, h2⟩)
end DM
/-! the reference -/
def dm_cb (f : Nat → Bool) : Nat → Nat
  | 0 => 0
  | n + 1 => dm_cb f n + (if f n = true then 1 else 0)
theorem dm_cb_n (f : Nat → Bool) : ∀ n, dm_cb f n ≤ n := by
  intro n
  induction n with
  | zero => exact Nat.le_refl _
  | succ n ih => simp only [dm_cb]; split <;> omega
theorem dm_cb_le {f g : Nat → Bool} (h : ∀ i, f i = true → g i = true) : ∀ n, dm_cb f n ≤ dm_cb g n := by
  intro n
  induction n with
  | zero => exact Nat.le_refl _
  | succ n ih =>
    simp only [dm_cb]
    by_cases q : f n = true
    · rw [if_pos q, if_pos (h n q)]; omega
    · rw [if_neg q]; omega
theorem dm_cb_eq {f g : Nat → Bool} (h : ∀ i, f i = true → g i = true) : ∀ n, dm_cb g n ≤ dm_cb f n → ∀ a, a < n → g a = true → f a = true := by
  intro n
  induction n with
  | zero => intro _ a ha; omega
  | succ n ih =>
    intro hc a ha hb
    have hn := dm_cb_le h n
    simp only [dm_cb] at hc
    by_cases q : f n = true
    · rw [if_pos q, if_pos (h n q)] at hc
      by_cases z : a = n
      · rw [z]; exact q
      · exact ih (by omega) a (by omega) hb
    · rw [if_neg q] at hc
      by_cases w : g n = true
      · rw [if_pos w] at hc; omega
      · by_cases z : a = n
        · rw [z] at hb; exact absurd hb w
        · exact ih (by rw [if_neg w] at hc; omega) a (by omega) hb
/-- instruction k is looked at -/
def dm_tk (n : Nat) (c : Nat → an_I) (hole : Nat) (o : Nat → Bool) (k : Nat) : Nat → Bool := fun j => o j || (o k && decide (k ≠ hole) && decide (dm_e n c k j))
def dm_tn (n : Nat) (c : Nat → an_I) (hole : Nat) (o : Nat → Bool) : Nat → Nat → Bool
  | 0 => o
  | k + 1 => dm_tk n c hole (dm_tn n c hole o k) k
def dm_rr (n : Nat) (c : Nat → an_I) (hole : Nat) : Nat → (Nat → Bool) → Nat → Bool
  | 0, o => o
  | t + 1, o => dm_rr n c hole t (dm_tn n c hole o n)
def dm_o0 (hole : Nat) : Nat → Bool := fun k => decide (k = 0) && decide (hole ≠ 0)
/-- closed, the hole may be in it -/
def dm_D (n : Nat) (c : Nat → an_I) (hole : Nat) (o : Nat → Bool) : Prop := ∀ i, i < n → o i = true → i ≠ hole → ∀ j, dm_e n c i j → o j = true
section DM2
variable {n : Nat} {c : Nat → an_I} {hole : Nat}
theorem dm_tk_iff (o : Nat → Bool) (k j : Nat) : dm_tk n c hole o k j = true ↔ o j = true ∨ (o k = true ∧ k ≠ hole ∧ dm_e n c k j) := by
  unfold dm_tk
  rw [Bool.or_eq_true, Bool.and_eq_true, Bool.and_eq_true, decide_eq_true_eq, decide_eq_true_eq, and_assoc]
theorem dm_tn_le (o : Nat → Bool) {a b : Nat} (h : a ≤ b) (j : Nat) (q : dm_tn n c hole o a j = true) : dm_tn n c hole o b j = true := by
  induction b with
  | zero => have e : a = 0 := by omega
            subst e; exact q
  | succ b ih =>
    by_cases e : a = b + 1
    · subst e; exact q
    · exact (dm_tk_iff _ _ _).mpr (Or.inl (ih (by omega)))
theorem dm_tn_D {o : Nat → Bool} (k : dm_D n c hole o) : ∀ t, t ≤ n → dm_tn n c hole o t = o := by
  intro t
  induction t with
  | zero => intro _; rfl
  | succ t ih =>
    intro ht
    funext j
    show dm_tk n c hole (dm_tn n c hole o t) t j = o j
    rw [ih (by omega)]
    cases q : o j with
    | true => exact (dm_tk_iff _ _ _).mpr (Or.inl q)
    | false =>
      cases w : dm_tk n c hole o t j with
      | false => rfl
      | true =>
        rcases (dm_tk_iff _ _ _).mp w with h | ⟨h1, h2, h3⟩
        · rw [h] at q; exact absurd q (by decide)
        · rw [k t (by omega) h1 h2 j h3] at q; exact absurd q (by decide)
theorem dm_tn_cnt {o : Nat → Bool} (hn : n ≤ 24) (e : dm_cb (dm_tn n c hole o n) 24 ≤ dm_cb o 24) : dm_D n c hole (dm_tn n c hole o n) := by
  intro i hi hb hh j he
  have h0 : o i = true := dm_cb_eq (fun j q => dm_tn_le o (Nat.zero_le n) j q) 24 e i (by omega) hb
  have h1 : dm_tn n c hole o i i = true := dm_tn_le o (Nat.zero_le i) i h0
  have h2 : dm_tn n c hole o (i + 1) j = true := (dm_tk_iff _ _ _).mpr (Or.inr ⟨h1, hh, he⟩)
  exact dm_tn_le o (by omega : i + 1 ≤ n) j h2
theorem dm_rr_D {o : Nat → Bool} (k : dm_D n c hole o) : ∀ t, dm_rr n c hole t o = o := by
  intro t
  induction t with
  | zero => rfl
  | succ t ih => simp only [dm_rr]; rw [dm_tn_D k n (Nat.le_refl n)]; exact ih
theorem dm_rr_cl (hn : n ≤ 24) : ∀ t o, 25 ≤ t + dm_cb o 24 → dm_D n c hole (dm_rr n c hole t o) := by
  intro t
  induction t with
  | zero => intro o q; have := dm_cb_n o 24; omega
  | succ t ih =>
    intro o q
    simp only [dm_rr]
    by_cases z : dm_cb (dm_tn n c hole o n) 24 ≤ dm_cb o 24
    · have k := dm_tn_cnt hn z
      rw [dm_rr_D k]
      exact k
    · exact ih _ (by omega)
theorem dm_rr_up : ∀ t o j, o j = true → dm_rr n c hole t o j = true := by
  intro t
  induction t with
  | zero => intro o j q; exact q
  | succ t ih => intro o j q; exact ih _ j (dm_tn_le o (Nat.zero_le n) j q)
/-- the hole, or reached without it -/
theorem dm_tn_R {o : Nat → Bool} (h : ∀ j, o j = true → j = hole ∨ dm_R n c hole j) : ∀ t, t ≤ n → ∀ j, dm_tn n c hole o t j = true → j = hole ∨ dm_R n c hole j := by
  intro t
  induction t with
  | zero => intro _ j q; exact h j q
  | succ t ih =>
    intro ht j q
    rcases (dm_tk_iff _ _ _).mp q with w | ⟨h1, h2, h3⟩
    · exact ih (by omega) j w
    · by_cases e : j = hole
      · exact Or.inl e
      · rcases ih (by omega) t h1 with w | w
        · exact absurd w h2
        · exact Or.inr (dm_R_s w (by omega) e h3)
theorem dm_rr_R : ∀ t o, (∀ j, o j = true → j = hole ∨ dm_R n c hole j) → ∀ j, dm_rr n c hole t o j = true → j = hole ∨ dm_R n c hole j := by
  intro t
  induction t with
  | zero => intro o h j q; exact h j q
  | succ t ih => intro o h j q; exact ih _ (dm_tn_R h n (Nat.le_refl n)) j q
/-- what the reference finds open is what is reached without the hole -/
theorem dm_rr_iff (hn : n ≤ 24) (h0 : 0 < n) {j : Nat} (hj : j ≠ hole) : dm_rr n c hole 25 (dm_o0 hole) j = true ↔ dm_R n c hole j := by
  constructor
  · intro q
    have h1 : ∀ j, dm_o0 hole j = true → j = hole ∨ dm_R n c hole j := fun j q => by
      unfold dm_o0 at q
      rw [Bool.and_eq_true, decide_eq_true_eq, decide_eq_true_eq] at q
      rw [q.1]
      exact Or.inr (dm_R_0 h0 q.2.symm)
    exact (dm_rr_R 25 (dm_o0 hole) h1 j q).resolve_left hj
  · intro h
    refine (h (fun j => j ≠ hole ∧ dm_rr n c hole 25 (dm_o0 hole) j = true) (fun _ h2 => ⟨h2, ?_⟩) (fun i hi hb j hj he => ⟨hj, ?_⟩)).2
    · refine dm_rr_up 25 _ 0 ?_
      unfold dm_o0
      rw [Bool.and_eq_true, decide_eq_true_eq, decide_eq_true_eq]
      exact ⟨rfl, h2.symm⟩
    · exact dm_rr_cl hn 25 (dm_o0 hole) (by omega) i hi hb.2 hb.1 j he
end DM2
end
section
/-! FATES: what milling makes of each instruction -/
/-- instruction I sets reference r -/
abbrev fa_df (I : an_I) (r : Nat) : Prop := (I.1 ≤ 3 ∨ I.1 = 13 ∨ I.1 = 16) ∧ I.2.1 = r
/-- it works on the object in r -/
abbrev fa_wk (I : an_I) (r : Nat) : Prop := ((I.1 = 3 ∨ I.1 = 5) ∧ I.2.2.1 = r) ∨ ((I.1 = 4 ∨ I.1 = 6 ∨ I.1 = 10 ∨ I.1 = 11) ∧ I.2.1 = r) ∨ (I.1 = 9 ∧ (I.2.2.1 = r ∨ I.2.2.2.1 = r))
/-- it hands on what is in r; k: the callee's inputs -/
abbrev fa_hd (k : Nat) (I : an_I) (r : Nat) : Prop := ((I.1 = 1 ∨ I.1 = 4) ∧ I.2.2.1 = r) ∨ ((I.1 = 12 ∨ I.1 = 17) ∧ I.2.1 = r) ∨ (I.1 = 16 ∧ ((1 ≤ k ∧ I.2.2.1 = r) ∨ (2 ≤ k ∧ I.2.2.2.1 = r)))
/-- the inputs of an instruction's callee -/
def fa_k (P : pr_T) (I : an_I) : Nat := if I.1 = 16 then P.2.1 I.2.2.2.2.toNatClampNeg else 0
/-- the NEW at k alone sets r -/
def fa_nw (n : Nat) (c : Nat → an_I) (r k : Nat) : Prop := k < n ∧ (c k).1 = 0 ∧ (c k).2.1 = r ∧ ∀ i, i < n → fa_df (c i) r → i = k
theorem fa_nw_uq {n : Nat} {c : Nat → an_I} {r k l : Nat} (h : fa_nw n c r k) (g : fa_nw n c r l) : k = l :=
  g.2.2.2 k h.1 ⟨Or.inl (by have := h.2.1; omega), h.2.2.1⟩
/-- r, made at k, is taken apart in method m -/
def fa_ap (P : pr_T) (m r k : Nat) : Prop := P.2.1 m ≤ r ∧ fa_nw (P.1 m) (P.2.2 m) r k ∧ ∀ i, i < P.1 m → ¬ fa_hd (fa_k P (P.2.2 m i)) (P.2.2 m i) r ∧ (fa_wk (P.2.2 m i) r → ¬ dm_R (P.1 m) (P.2.2 m) k i)
/-- what no pair has inside -/
abbrev fa_in (I : an_I) : Prop := I.1 = 0 ∨ I.1 = 10 ∨ I.1 = 11 ∨ I.1 = 14 ∨ I.1 = 15 ∨ I.1 = 17 ∨ I.1 = 16
/-- LOCK at i and UNLOCK at j are a pair; es k: the object made at k stays unseen -/
def fa_pr (P : pr_T) (m : Nat) (es : Nat → Prop) (i j : Nat) : Prop :=
  i < j ∧ j < P.1 m ∧ (P.2.2 m i).1 = 10 ∧ (P.2.2 m j).1 = 11 ∧ (P.2.2 m i).2.1 = (P.2.2 m j).2.1 ∧
  (∃ k, P.2.1 m ≤ (P.2.2 m i).2.1 ∧ fa_nw (P.1 m) (P.2.2 m) (P.2.2 m i).2.1 k ∧ ¬ fa_ap P m (P.2.2 m i).2.1 k ∧ es k ∧ ¬ dm_R (P.1 m) (P.2.2 m) k i) ∧
  (∀ q, i < q → q < j → ¬ fa_in (P.2.2 m q)) ∧
  (∀ q, q < P.1 m → ((P.2.2 m q).1 = 14 ∨ (P.2.2 m q).1 = 15) → ¬ (nI i < (P.2.2 m q).2.2.2.2 ∧ (P.2.2 m q).2.2.2.2 ≤ nI j))
def fa_A (P : pr_T) (m i : Nat) : Prop := ∃ r k, fa_ap P m r k ∧ (i = k ∨ fa_wk (P.2.2 m i) r)
def fa_B (P : pr_T) (m : Nat) (es : Nat → Prop) (i : Nat) : Prop := ∃ j, fa_pr P m es i j ∨ fa_pr P m es j i
/-- the fate of instruction i -/
def fa_is (P : pr_T) (m : Nat) (es : Nat → Prop) (i : Nat) (v : Int32) : Prop := (fa_A P m i → v = 1) ∧ (¬ fa_A P m i → fa_B P m es i → v = 2) ∧ (¬ fa_A P m i → ¬ fa_B P m es i → v = 0)
theorem fa_is_uq {P : pr_T} {m : Nat} {es : Nat → Prop} {i : Nat} {v w : Int32} (h : fa_is P m es i v) (k : fa_is P m es i w) : v = w := by
  by_cases a : fa_A P m i
  · rw [h.1 a, k.1 a]
  · by_cases b : fa_B P m es i
    · rw [h.2.1 a b, k.2.1 a b]
    · rw [h.2.2 a b, k.2.2 a b]
/-- an object made at k stays unseen -/
def fa_es (σ : an_T) (k0 : Nat) (k : Nat) : Prop := bt (an_rc σ.2.1 an_W) k = false ∧ ¬ (an_R σ.2.1 σ.2.2 k ∨ ∃ p, p < k0 ∧ an_R σ.2.1 (an_1 (24 + p)) k)
/-- of a pair both have the fate 2 only if they are LOCK and UNLOCK -/
theorem fa_is_2 {P : pr_T} {m : Nat} {es : Nat → Prop} {i : Nat} {v : Int32} (h : fa_is P m es i v) (k : v = 2) : (P.2.2 m i).1 = 10 ∨ (P.2.2 m i).1 = 11 := by
  by_cases a : fa_A P m i
  · have := h.1 a
    rw [k] at this
    exact absurd this (by decide)
  · by_cases b : fa_B P m es i
    · obtain ⟨j, b | b⟩ := b
      · exact Or.inl b.2.2.1
      · exact Or.inr b.2.2.2.1
    · have := h.2.2 a b
      rw [k] at this
      exact absurd this (by decide)
theorem fa_is_1 {P : pr_T} {m : Nat} {es : Nat → Prop} {i : Nat} {v : Int32} (h : fa_is P m es i v) : v = 1 ↔ fa_A P m i := by
  constructor
  · intro k
    apply Classical.byContradiction
    intro a
    by_cases b : fa_B P m es i
    · have := h.2.1 a b
      rw [k] at this
      exact absurd this (by decide)
    · have := h.2.2 a b
      rw [k] at this
      exact absurd this (by decide)
  · exact h.1
end
section
/-! FLAT MEMORY. A system whose heap keeps its shape: numbers by cell and place. -/
abbrev fm_M : Type := Nat → Nat → Int32
abbrev fm_V : Type := Int32 ⊕ Nat
/-- a cell of the shape: an array (which array class, its length, the cells that it refers to), or an object (which class; field by field: none: a number; some k: the cell k) -/
abbrev fm_C : Type := (Nat × Nat × List Nat) ⊕ (Nat × List (Option Nat))
def fm_v (ad : Nat → Nat) (v : fm_V) : Value := match v with
  | .inl x => .int x
  | .inr k => .ref (ad k)
theorem fm_v_cat (ad : Nat → Nat) (v : fm_V) : (fm_v ad v).category = 1 := by
  rcases v with x | k <;> rfl
def fm_f (ad : Nat → Nat) (M : fm_M) (k j : Nat) (f : Option Nat) : Value := match f with
  | none => .int (M k j)
  | some q => .ref (ad q)
def fm_cell (ad : Nat → Nat) (tA : Nat → ClassId) (M : fm_M) (k : Nat) (c : fm_C) : va_E := match c with
  | .inl (t, n, rf) => .inl (tA t, n, if t < 2 then .inl (M k) else .inr (.inr (.inr (.inr (fun i => (rf[i]?).map ad)))))
  | .inr (ci, l) => .inr (ci, l.mapIdx (fm_f ad M k))
def fm_W (ad : Nat → Nat) (tA : Nat → ClassId) (Sh : List fm_C) (M : fm_M) : va_W := Sh.mapIdx (fun k c => (ad k, fm_cell ad tA M k c))
def fm_up (M : fm_M) (k j : Nat) (x : Int32) : fm_M := fun a b => if a = k ∧ b = j then x else M a b
theorem fm_up_s {M : fm_M} {k j : Nat} {x : Int32} : fm_up M k j x k j = x := by simp [fm_up]
theorem fm_up_n {M : fm_M} {k j a b : Nat} {x : Int32} (h : ¬ (a = k ∧ b = j)) : fm_up M k j x a b = M a b := by simp [fm_up, h]
theorem fm_up_c {M : fm_M} {k j a : Nat} {x : Int32} (h : a ≠ k) : fm_up M k j x a = M a := by funext b; simp [fm_up, h]
theorem fm_W_at {ad : Nat → Nat} {tA : Nat → ClassId} {Sh : List fm_C} {M : fm_M} {k : Nat} {c : fm_C} (h : Sh[k]? = some c) : (fm_W ad tA Sh M)[k]? = some (ad k, fm_cell ad tA M k c) := by
  simp [fm_W, List.getElem?_mapIdx, h]
theorem fm_cell_eq {ad : Nat → Nat} {tA : Nat → ClassId} {M M' : fm_M} {k : Nat} (h : M k = M' k) (c : fm_C) : fm_cell ad tA M k c = fm_cell ad tA M' k c := by
  rcases c with ⟨t, n, rf⟩ | ⟨ci, l⟩
  · simp only [fm_cell, h]
  · have e : fm_f ad M k = fm_f ad M' k := by
      funext j f
      cases f <;> simp [fm_f, h]
    simp only [fm_cell, e]
/-- an array's element is written -/
theorem fm_W_arr {ad : Nat → Nat} {tA : Nat → ClassId} {Sh : List fm_C} {M : fm_M} {k t n j : Nat} {rf : List Nat} {x : Int32} (h : Sh[k]? = some (.inl (t, n, rf))) (ht : t < 2) :
    (fm_W ad tA Sh M).set k (ad k, .inl (tA t, n, .inl (upd (M k) j x))) = fm_W ad tA Sh (fm_up M k j x) := by
  have hk : k < Sh.length := (List.getElem?_eq_some_iff.mp h).1
  apply List.ext_getElem?
  intro i
  by_cases hi : i = k
  · subst hi
    rw [fm_W_at h, List.getElem?_set_self (by simpa [fm_W] using hk)]
    have e : upd (M i) j x = fm_up M i j x i := by
      funext b
      simp [upd, fm_up]
    simp only [fm_cell, if_pos ht, e]
  · rw [List.getElem?_set_ne (fun q => hi q.symm)]
    simp only [fm_W, List.getElem?_mapIdx]
    cases Sh[i]? with
    | none => rfl
    | some c => simp only [Option.map_some]; rw [fm_cell_eq (fm_up_c hi)]
/-- a field is written -/
theorem fm_W_obj {ad : Nat → Nat} {tA : Nat → ClassId} {Sh : List fm_C} {M : fm_M} {k ci j : Nat} {l : List (Option Nat)} {x : Int32} (h : Sh[k]? = some (.inr (ci, l))) (hj : l[j]? = some none) :
    (fm_W ad tA Sh M).set k (ad k, .inr (ci, (l.mapIdx (fm_f ad M k)).set j (.int x))) = fm_W ad tA Sh (fm_up M k j x) := by
  have hk : k < Sh.length := (List.getElem?_eq_some_iff.mp h).1
  have hjl : j < l.length := (List.getElem?_eq_some_iff.mp hj).1
  apply List.ext_getElem?
  intro i
  by_cases hi : i = k
  · subst hi
    rw [fm_W_at h, List.getElem?_set_self (by simpa [fm_W] using hk)]
    have e : (l.mapIdx (fm_f ad M i)).set j (.int x) = l.mapIdx (fm_f ad (fm_up M i j x) i) := by
      apply List.ext_getElem?
      intro b
      by_cases hb : b = j
      · subst hb
        rw [List.getElem?_set_self (by simpa using hjl)]
        simp [List.getElem?_mapIdx, hj, fm_f, fm_up]
      · rw [List.getElem?_set_ne (fun q => hb q.symm)]
        simp only [List.getElem?_mapIdx]
        cases l[b]? with
        | none => rfl
        | some f => cases f <;> simp [fm_f, fm_up, hb]
    simp only [fm_cell, e]
  · rw [List.getElem?_set_ne (fun q => hi q.symm)]
    simp only [fm_W, List.getElem?_mapIdx]
    cases Sh[i]? with
    | none => rfl
    | some c => simp only [Option.map_some]; rw [fm_cell_eq (fm_up_c hi)]
/-- the locals, by their places; none: nothing is known of it -/
abbrev fm_L : Type := List (Option fm_V)
def fm_lv (ad : Nat → Nat) (ls : fm_L) : List (Nat × Value) := (List.range ls.length).filterMap (fun i => (ls[i]?.join).map (fun v => (i, fm_v ad v)))
theorem fm_lv_mem {ad : Nat → Nat} {ls : fm_L} {i : Nat} {w : Value} : (i, w) ∈ fm_lv ad ls ↔ ∃ v, ls[i]? = some (some v) ∧ fm_v ad v = w := by
  simp only [fm_lv, List.mem_filterMap, List.mem_range]
  constructor
  · rintro ⟨j, hj, h⟩
    cases hl : ls[j]? with
    | none => rw [hl] at h; simp at h
    | some o =>
      cases o with
      | none => rw [hl] at h; simp at h
      | some v =>
        rw [hl] at h
        simp only [Option.join, Option.bind_some, id, Option.map_some, Option.some.injEq, Prod.mk.injEq] at h
        obtain ⟨h1, h2⟩ := h
        subst h1
        exact ⟨v, hl, h2⟩
  · rintro ⟨v, hl, hw⟩
    refine ⟨i, (List.getElem?_eq_some_iff.mp hl).1, ?_⟩
    rw [hl, ← hw]
    rfl
theorem fm_lv_at {ad : Nat → Nat} {la : Array Slot} {nL : Nat} {ls : fm_L} (h : lv_has la nL (fm_lv ad ls)) {i : Nat} {v : fm_V} (hi : ls[i]? = some (some v)) : la[i]? = some (.val (fm_v ad v)) := h.2.2 (i, fm_v ad v) (fm_lv_mem.mpr ⟨v, hi, rfl⟩)
theorem fm_lv_set {ad : Nat → Nat} {la : Array Slot} {nL : Nat} {ls : fm_L} {i : Nat} {v : fm_V} (h : lv_has la nL ((i, fm_v ad v) :: (fm_lv ad ls).filter (fun q => !(q.1 == i) && !(q.1 + 1 == i && q.2.category == 2)))) : lv_has la nL (fm_lv ad (ls.set i (some v))) := by
  refine ⟨h.1, h.2.1, fun q hq => h.2.2 q ?_⟩
  obtain ⟨j, x⟩ := q
  obtain ⟨u, hu, hx⟩ := fm_lv_mem.mp hq
  by_cases hj : j = i
  · subst hj
    have hlt : j < ls.length := by
      have := (List.getElem?_eq_some_iff.mp hu).1
      simpa using this
    rw [List.getElem?_set_self hlt] at hu
    have hvu : v = u := by simpa using hu
    subst hvu; subst hx
    exact List.mem_cons_self
  · rw [List.getElem?_set_ne (fun q => hj q.symm)] at hu
    refine List.mem_cons_of_mem _ (List.mem_filter.mpr ⟨fm_lv_mem.mpr ⟨u, hu, hx⟩, ?_⟩)
    subst hx
    simp [hj, fm_v_cat]
/-- fewer are known -/
theorem fm_lv_sub {ad : Nat → Nat} {la : Array Slot} {nL : Nat} {ls ls' : fm_L} (h : lv_has la nL (fm_lv ad ls)) (hs : ∀ (i : Nat) (v : fm_V), ls'[i]? = some (some v) → ls[i]? = some (some v)) : lv_has la nL (fm_lv ad ls') := by
  refine ⟨h.1, h.2.1, fun q hq => h.2.2 q ?_⟩
  obtain ⟨j, x⟩ := q
  obtain ⟨u, hu, hx⟩ := fm_lv_mem.mp hq
  exact fm_lv_mem.mpr ⟨u, hs j u hu, hx⟩
/-- a system: its classes, its shape, the element types of its array classes (0: int, 1: boolean), its words -/
abbrev fm_S : Type := List vw_C × List fm_C × List FieldType × List Cond
def fm_tys (S : fm_S) (tA : Nat → ClassId) : List (ClassId × FieldType) := S.2.2.1.mapIdx (fun t ty => (tA t, ty))
theorem fm_tys_at {S : fm_S} {tA : Nat → ClassId} {t : Nat} {ty : FieldType} (h : S.2.2.1[t]? = some ty) : (fm_tys S tA)[t]? = some (tA t, ty) := by
  simp [fm_tys, List.getElem?_mapIdx, h]
/-- a method's end: what it answers, the memory behind it -/
def fm_Q (S : fm_S) (D : va_G) (ad : Nat → Nat) (tA : Nat → ClassId) (A : Nat → Prop) (post : Option Int32 → fm_M → Prop) : Array Value → State → Outcome → State → Prop := fun _ st oc t =>
  (∃ (r : Option Int32) (M : fm_M), oc = .returned (r.map Value.int) ∧ post r M ∧ va_P D S.1 (fm_W ad tA S.2.1 M) t.heap ∧ va_K D S.1 (fm_tys S tA) t ∧ va_D A (fm_W ad tA S.2.1 M)) ∧ va_F A st t
def fm_rm (d : Nat) : Room := { frames := d, cells := 0, slots := 0, locals := 64 * d }
def fm_Pc (S : fm_S) (D : va_G) (ad : Nat → Nat) (tA : Nat → ClassId) (sz : Nat) (as : List fm_V) (M : fm_M) : Array Value → State → Prop :=
  va_Pc (as.map (fm_v ad)) (fun U => U.heap.size = sz ∧ va_P D S.1 (fm_W ad tA S.2.1 M) U.heap ∧ va_K D S.1 (fm_tys S tA) U ∧ va_D (fun _ => True) (fm_W ad tA S.2.1 M))
/-- A METHOD'S CONTRACT over flat memory -/
def fm_ct (S : fm_S) (y : MethodName) (cc : ByteArray) (maxL : Nat) (ret : Option FieldType) (d : Nat) (as : List fm_V) (M : fm_M) (post : Option Int32 → fm_M → Prop) : Prop :=
  ∀ (l : Launch) (D : va_G) (ad : Nat → Nat) (tA : Nat → ClassId) (sz : Nat), Met l y (Cond.code y cc maxL ret :: S.2.2.2) (fm_rm d) (fm_Pc S D ad tA sz as M) (fm_Q S D ad tA (va_A (fm_W ad tA S.2.1 M) sz) post) 0 0 (va_A (fm_W ad tA S.2.1 M) sz)
/-- where a walk stands: the machine's parts -/
abbrev fm_X : Type _ := Program × Launch × Env × State × MethodId × Array Value × List Frame × Method × Code × va_G × (Nat → Nat) × (Nat → ClassId)
/-- the method: its class, code, locals, answer, depth -/
abbrev fm_Y : Type := String × ByteArray × Nat × Option FieldType × Nat
def fm_Ctx (S : fm_S) (Y : fm_Y) (X : fm_X) : Prop := match X with
  | (p, l, e, s, m, args, below, meth, c, D, ad, tA) =>
    p.tables.exec = Jvm.exec ∧ c.code = Y.2.1 ∧ c.maxLocals = Y.2.2.1 ∧ meth.sig.returnType = Y.2.2.2.1 ∧ s.vm.findClass Y.1 = some m.cls ∧ (∀ w ∈ S.2.2.2, w.before args s = true) ∧ va_K D S.1 (fm_tys S tA) s ∧ meth.locks = false ∧ S.2.2.2.all goodWord = true
def fm_G (S : fm_S) (Y : fm_Y) (X : fm_X) (M0 : fm_M) (post : Option Int32 → fm_M → Prop) (pc : Nat) (ls : fm_L) (st : List fm_V) (M : fm_M) : Prop := match X with
  | (p, l, e, s, m, args, below, meth, c, D, ad, tA) =>
    ∀ (la : Array Slot) (H : Heap) (locs : List Loc), lv_has la Y.2.2.1 (fm_lv ad ls) → va_P D S.1 (fm_W ad tA S.2.1 M) H → va_D (va_A (fm_W ad tA S.2.1 M0) s.heap.size) (fm_W ad tA S.2.1 M) → va_S (va_A (fm_W ad tA S.2.1 M0) s.heap.size) s.heap H locs →
      W p l e (fm_rm Y.2.2.2.2) s m args below meth c H locs 0 0 (MQ below (fm_Q S D ad tA (va_A (fm_W ad tA S.2.1 M0) s.heap.size) post) args s 0 0 (va_A (fm_W ad tA S.2.1 M0) s.heap.size)) (F0 m pc la (st.map (fm_v ad)))
section FM
variable {S : fm_S} {Y : fm_Y} {X : fm_X} {M0 M : fm_M} {post : Option Int32 → fm_M → Prop} {pc : Nat} {ls : fm_L} {st : List fm_V}
/-- fewer locals are known -/
theorem fm_less {ls' : fm_L} (hs : ∀ (i : Nat) (v : fm_V), ls'[i]? = some (some v) → ls[i]? = some (some v)) (h : fm_G S Y X M0 post pc ls' st M) : fm_G S Y X M0 post pc ls st M := by
  obtain ⟨p, l, e, s, m, args, below, meth, c, D, ad, tA⟩ := X
  intro la H locs hl hP hD hS
  exact h la H locs (fm_lv_sub hl hs) hP hD hS
theorem fm_top {x y : Int32} (e : x = y) (h : fm_G S Y X M0 post pc ls (.inl y :: st) M) : fm_G S Y X M0 post pc ls (.inl x :: st) M := e ▸ h
theorem fm_mem {M' : fm_M} (e : M = M') (h : fm_G S Y X M0 post pc ls st M') : fm_G S Y X M0 post pc ls st M := e ▸ h

theorem fm_iconst (hX : fm_Ctx S Y X) {pq : Nat} {n : Int} {v : Int32} (hd : decode Y.2.1 pc = .ok (.iconst n, 1)) (hv : Int32.ofInt n = v) (hq : pc + 1 = pq)
    (k : fm_G S Y X M0 post (pq) ls (.inl v :: st) M) : fm_G S Y X M0 post pc ls (st) M := by
  subst hq
  obtain ⟨p, l, e, s, m, args, below, meth, c, D, ad, tA⟩ := X
  obtain ⟨hx, hb, hml, hr, hown, hts, hK, hlk, hgd⟩ := hX
  intro la H locs hl hP hD hS
  exact lv_iconst hx hb hd hv (k la H locs hl hP hD hS)
theorem fm_bipush (hX : fm_Ctx S Y X) {pq : Nat} {n : Int} {v : Int32} (hd : decode Y.2.1 pc = .ok (.bipush n, 2)) (hv : (Int8.ofInt n).toInt32 = v) (hq : pc + 2 = pq)
    (k : fm_G S Y X M0 post (pq) ls (.inl v :: st) M) : fm_G S Y X M0 post pc ls (st) M := by
  subst hq
  obtain ⟨p, l, e, s, m, args, below, meth, c, D, ad, tA⟩ := X
  obtain ⟨hx, hb, hml, hr, hown, hts, hK, hlk, hgd⟩ := hX
  intro la H locs hl hP hD hS
  exact lv_bipush hx hb hd hv (k la H locs hl hP hD hS)
theorem fm_sipush (hX : fm_Ctx S Y X) {pq : Nat} {n : Int} {v : Int32} (hd : decode Y.2.1 pc = .ok (.sipush n, 3)) (hv : (Int16.ofInt n).toInt32 = v) (hq : pc + 3 = pq)
    (k : fm_G S Y X M0 post (pq) ls (.inl v :: st) M) : fm_G S Y X M0 post pc ls (st) M := by
  subst hq
  obtain ⟨p, l, e, s, m, args, below, meth, c, D, ad, tA⟩ := X
  obtain ⟨hx, hb, hml, hr, hown, hts, hK, hlk, hgd⟩ := hX
  intro la H locs hl hP hD hS
  exact lv_sipush hx hb hd hv (k la H locs hl hP hD hS)
theorem fm_ldc (hX : fm_Ctx S Y X) {pq : Nat} {index : Nat} {v : Int32} (hd : decode Y.2.1 pc = .ok (.ldc index, 2)) (hw : Cond.constant Y.1 index v ∈ S.2.2.2) (hq : pc + 2 = pq)
    (k : fm_G S Y X M0 post (pq) ls (.inl v :: st) M) : fm_G S Y X M0 post pc ls (st) M := by
  subst hq
  obtain ⟨p, l, e, s, m, args, below, meth, c, D, ad, tA⟩ := X
  obtain ⟨hx, hb, hml, hr, hown, hts, hK, hlk, hgd⟩ := hX
  intro la H locs hl hP hD hS
  exact lv_ldc hx hb hown (hts _ hw) hd (k la H locs hl hP hD hS)
theorem fm_iload_n (hX : fm_Ctx S Y X) {pq : Nat} {k0 : Fin 4} {i : Nat} {x : Int32} (hd : decode Y.2.1 pc = .ok (.iload_n k0, 1)) (hi : (k0 : Nat) = i) (hg : ls[i]? = some (some (.inl x))) (hq : pc + 1 = pq)
    (k : fm_G S Y X M0 post (pq) ls (.inl x :: st) M) : fm_G S Y X M0 post pc ls (st) M := by
  subst hq
  obtain ⟨p, l, e, s, m, args, below, meth, c, D, ad, tA⟩ := X
  obtain ⟨hx, hb, hml, hr, hown, hts, hK, hlk, hgd⟩ := hX
  intro la H locs hl hP hD hS
  exact lv_iload_n hx hb hd hi (fm_lv_at hl hg) (k la H locs hl hP hD hS)
theorem fm_iload (hX : fm_Ctx S Y X) {pq : Nat} {i : Nat} {x : Int32} (hd : decode Y.2.1 pc = .ok (.iload i, 2)) (hg : ls[i]? = some (some (.inl x))) (hq : pc + 2 = pq)
    (k : fm_G S Y X M0 post (pq) ls (.inl x :: st) M) : fm_G S Y X M0 post pc ls (st) M := by
  subst hq
  obtain ⟨p, l, e, s, m, args, below, meth, c, D, ad, tA⟩ := X
  obtain ⟨hx, hb, hml, hr, hown, hts, hK, hlk, hgd⟩ := hX
  intro la H locs hl hP hD hS
  exact lv_iload hx hb hd (fm_lv_at hl hg) (k la H locs hl hP hD hS)
theorem fm_aload_n (hX : fm_Ctx S Y X) {pq : Nat} {k0 : Fin 4} {i : Nat} {x : Nat} (hd : decode Y.2.1 pc = .ok (.aload_n k0, 1)) (hi : (k0 : Nat) = i) (hg : ls[i]? = some (some (.inr x))) (hq : pc + 1 = pq)
    (k : fm_G S Y X M0 post (pq) ls (.inr x :: st) M) : fm_G S Y X M0 post pc ls (st) M := by
  subst hq
  obtain ⟨p, l, e, s, m, args, below, meth, c, D, ad, tA⟩ := X
  obtain ⟨hx, hb, hml, hr, hown, hts, hK, hlk, hgd⟩ := hX
  intro la H locs hl hP hD hS
  exact lv_aload_n hx hb hd hi (fm_lv_at hl hg) (k la H locs hl hP hD hS)
theorem fm_aload (hX : fm_Ctx S Y X) {pq : Nat} {i : Nat} {x : Nat} (hd : decode Y.2.1 pc = .ok (.aload i, 2)) (hg : ls[i]? = some (some (.inr x))) (hq : pc + 2 = pq)
    (k : fm_G S Y X M0 post (pq) ls (.inr x :: st) M) : fm_G S Y X M0 post pc ls (st) M := by
  subst hq
  obtain ⟨p, l, e, s, m, args, below, meth, c, D, ad, tA⟩ := X
  obtain ⟨hx, hb, hml, hr, hown, hts, hK, hlk, hgd⟩ := hX
  intro la H locs hl hP hD hS
  exact lv_aload hx hb hd (fm_lv_at hl hg) (k la H locs hl hP hD hS)
theorem fm_istore_n (hX : fm_Ctx S Y X) {ls1 : fm_L} {pq : Nat} {k0 : Fin 4} {i : Nat} {x : Int32} (hd : decode Y.2.1 pc = .ok (.istore_n k0, 1)) (hi : (k0 : Nat) = i) (hn : i < Y.2.2.1) (hq : pc + 1 = pq) (hs : (ls.set i (some (.inl x))) = ls1)
    (k : fm_G S Y X M0 post (pq) ls1 (st) M) : fm_G S Y X M0 post pc ls (.inl x :: st) M := by
  subst hq
  subst hs
  obtain ⟨p, l, e, s, m, args, below, meth, c, D, ad, tA⟩ := X
  obtain ⟨hx, hb, hml, hr, hown, hts, hK, hlk, hgd⟩ := hX
  intro la H locs hl hP hD hS
  exact lv_istore_n hx hb hd hi hl hn rfl (fun la1 hl1 => k la1 H locs (fm_lv_set (v := .inl x) hl1) hP hD hS)
theorem fm_istore (hX : fm_Ctx S Y X) {ls1 : fm_L} {pq : Nat} {i : Nat} {x : Int32} (hd : decode Y.2.1 pc = .ok (.istore i, 2)) (hn : i < Y.2.2.1) (hq : pc + 2 = pq) (hs : (ls.set i (some (.inl x))) = ls1)
    (k : fm_G S Y X M0 post (pq) ls1 (st) M) : fm_G S Y X M0 post pc ls (.inl x :: st) M := by
  subst hq
  subst hs
  obtain ⟨p, l, e, s, m, args, below, meth, c, D, ad, tA⟩ := X
  obtain ⟨hx, hb, hml, hr, hown, hts, hK, hlk, hgd⟩ := hX
  intro la H locs hl hP hD hS
  exact lv_istore hx hb hd hl hn rfl (fun la1 hl1 => k la1 H locs (fm_lv_set (v := .inl x) hl1) hP hD hS)
theorem fm_astore_n (hX : fm_Ctx S Y X) {ls1 : fm_L} {pq : Nat} {k0 : Fin 4} {i : Nat} {x : Nat} (hd : decode Y.2.1 pc = .ok (.astore_n k0, 1)) (hi : (k0 : Nat) = i) (hn : i < Y.2.2.1) (hq : pc + 1 = pq) (hs : (ls.set i (some (.inr x))) = ls1)
    (k : fm_G S Y X M0 post (pq) ls1 (st) M) : fm_G S Y X M0 post pc ls (.inr x :: st) M := by
  subst hq
  subst hs
  obtain ⟨p, l, e, s, m, args, below, meth, c, D, ad, tA⟩ := X
  obtain ⟨hx, hb, hml, hr, hown, hts, hK, hlk, hgd⟩ := hX
  intro la H locs hl hP hD hS
  exact lv_astore_n hx hb hd hi hl hn rfl (fun la1 hl1 => k la1 H locs (fm_lv_set (v := .inr x) hl1) hP hD hS)
theorem fm_astore (hX : fm_Ctx S Y X) {ls1 : fm_L} {pq : Nat} {i : Nat} {x : Nat} (hd : decode Y.2.1 pc = .ok (.astore i, 2)) (hn : i < Y.2.2.1) (hq : pc + 2 = pq) (hs : (ls.set i (some (.inr x))) = ls1)
    (k : fm_G S Y X M0 post (pq) ls1 (st) M) : fm_G S Y X M0 post pc ls (.inr x :: st) M := by
  subst hq
  subst hs
  obtain ⟨p, l, e, s, m, args, below, meth, c, D, ad, tA⟩ := X
  obtain ⟨hx, hb, hml, hr, hown, hts, hK, hlk, hgd⟩ := hX
  intro la H locs hl hP hD hS
  exact lv_astore hx hb hd hl hn rfl (fun la1 hl1 => k la1 H locs (fm_lv_set (v := .inr x) hl1) hP hD hS)
theorem fm_iinc (hX : fm_Ctx S Y X) {ls1 : fm_L} {pq : Nat} {i : Nat} {n : Int} {x v : Int32} (hd : decode Y.2.1 pc = .ok (.iinc i n, 3)) (hg : ls[i]? = some (some (.inl x))) (hv : x + Int32.ofInt n = v) (hn : i < Y.2.2.1) (hq : pc + 3 = pq) (hs : (ls.set i (some (.inl v))) = ls1)
    (k : fm_G S Y X M0 post (pq) ls1 (st) M) : fm_G S Y X M0 post pc ls (st) M := by
  subst hq
  subst hs
  obtain ⟨p, l, e, s, m, args, below, meth, c, D, ad, tA⟩ := X
  obtain ⟨hx, hb, hml, hr, hown, hts, hK, hlk, hgd⟩ := hX
  intro la H locs hl hP hD hS
  obtain ⟨q, hq⟩ := List.getElem?_of_mem (fm_lv_mem (ad := ad).mpr ⟨.inl x, hg, rfl⟩)
  exact lv_iinc hx hb hd hl hq hv hn rfl (fun la1 hl1 => k la1 H locs (fm_lv_set (v := .inl v) hl1) hP hD hS)
theorem fm_iadd (hX : fm_Ctx S Y X) {pq : Nat} {x y v : Int32} (hd : decode Y.2.1 pc = .ok (.iadd, 1)) (hv : x + y = v) (hq : pc + 1 = pq)
    (k : fm_G S Y X M0 post (pq) ls (.inl v :: st) M) : fm_G S Y X M0 post pc ls (.inl y :: .inl x :: st) M := by
  subst hq
  obtain ⟨p, l, e, s, m, args, below, meth, c, D, ad, tA⟩ := X
  obtain ⟨hx, hb, hml, hr, hown, hts, hK, hlk, hgd⟩ := hX
  intro la H locs hl hP hD hS
  subst hv
  exact lv_iadd hx hb hd (k la H locs hl hP hD hS)
theorem fm_isub (hX : fm_Ctx S Y X) {pq : Nat} {x y v : Int32} (hd : decode Y.2.1 pc = .ok (.isub, 1)) (hv : x - y = v) (hq : pc + 1 = pq)
    (k : fm_G S Y X M0 post (pq) ls (.inl v :: st) M) : fm_G S Y X M0 post pc ls (.inl y :: .inl x :: st) M := by
  subst hq
  obtain ⟨p, l, e, s, m, args, below, meth, c, D, ad, tA⟩ := X
  obtain ⟨hx, hb, hml, hr, hown, hts, hK, hlk, hgd⟩ := hX
  intro la H locs hl hP hD hS
  subst hv
  exact lv_isub hx hb hd (k la H locs hl hP hD hS)
theorem fm_imul (hX : fm_Ctx S Y X) {pq : Nat} {x y v : Int32} (hd : decode Y.2.1 pc = .ok (.imul, 1)) (hv : x * y = v) (hq : pc + 1 = pq)
    (k : fm_G S Y X M0 post (pq) ls (.inl v :: st) M) : fm_G S Y X M0 post pc ls (.inl y :: .inl x :: st) M := by
  subst hq
  obtain ⟨p, l, e, s, m, args, below, meth, c, D, ad, tA⟩ := X
  obtain ⟨hx, hb, hml, hr, hown, hts, hK, hlk, hgd⟩ := hX
  intro la H locs hl hP hD hS
  subst hv
  exact lv_imul hx hb hd (k la H locs hl hP hD hS)
theorem fm_iand (hX : fm_Ctx S Y X) {pq : Nat} {x y v : Int32} (hd : decode Y.2.1 pc = .ok (.iand, 1)) (hv : x &&& y = v) (hq : pc + 1 = pq)
    (k : fm_G S Y X M0 post (pq) ls (.inl v :: st) M) : fm_G S Y X M0 post pc ls (.inl y :: .inl x :: st) M := by
  subst hq
  obtain ⟨p, l, e, s, m, args, below, meth, c, D, ad, tA⟩ := X
  obtain ⟨hx, hb, hml, hr, hown, hts, hK, hlk, hgd⟩ := hX
  intro la H locs hl hP hD hS
  subst hv
  exact lv_iand hx hb hd (k la H locs hl hP hD hS)
theorem fm_ior (hX : fm_Ctx S Y X) {pq : Nat} {x y v : Int32} (hd : decode Y.2.1 pc = .ok (.ior, 1)) (hv : x ||| y = v) (hq : pc + 1 = pq)
    (k : fm_G S Y X M0 post (pq) ls (.inl v :: st) M) : fm_G S Y X M0 post pc ls (.inl y :: .inl x :: st) M := by
  subst hq
  obtain ⟨p, l, e, s, m, args, below, meth, c, D, ad, tA⟩ := X
  obtain ⟨hx, hb, hml, hr, hown, hts, hK, hlk, hgd⟩ := hX
  intro la H locs hl hP hD hS
  subst hv
  exact lv_ior hx hb hd (k la H locs hl hP hD hS)
theorem fm_ixor (hX : fm_Ctx S Y X) {pq : Nat} {x y v : Int32} (hd : decode Y.2.1 pc = .ok (.ixor, 1)) (hv : x ^^^ y = v) (hq : pc + 1 = pq)
    (k : fm_G S Y X M0 post (pq) ls (.inl v :: st) M) : fm_G S Y X M0 post pc ls (.inl y :: .inl x :: st) M := by
  subst hq
  obtain ⟨p, l, e, s, m, args, below, meth, c, D, ad, tA⟩ := X
  obtain ⟨hx, hb, hml, hr, hown, hts, hK, hlk, hgd⟩ := hX
  intro la H locs hl hP hD hS
  subst hv
  exact lv_ixor hx hb hd (k la H locs hl hP hD hS)
theorem fm_ishl (hX : fm_Ctx S Y X) {pq : Nat} {x y v : Int32} (hd : decode Y.2.1 pc = .ok (.ishl, 1)) (hv : x <<< (y &&& 31) = v) (hq : pc + 1 = pq)
    (k : fm_G S Y X M0 post (pq) ls (.inl v :: st) M) : fm_G S Y X M0 post pc ls (.inl y :: .inl x :: st) M := by
  subst hq
  obtain ⟨p, l, e, s, m, args, below, meth, c, D, ad, tA⟩ := X
  obtain ⟨hx, hb, hml, hr, hown, hts, hK, hlk, hgd⟩ := hX
  intro la H locs hl hP hD hS
  subst hv
  exact lv_ishl hx hb hd (k la H locs hl hP hD hS)
theorem fm_ishr (hX : fm_Ctx S Y X) {pq : Nat} {x y v : Int32} (hd : decode Y.2.1 pc = .ok (.ishr, 1)) (hv : x >>> (y &&& 31) = v) (hq : pc + 1 = pq)
    (k : fm_G S Y X M0 post (pq) ls (.inl v :: st) M) : fm_G S Y X M0 post pc ls (.inl y :: .inl x :: st) M := by
  subst hq
  obtain ⟨p, l, e, s, m, args, below, meth, c, D, ad, tA⟩ := X
  obtain ⟨hx, hb, hml, hr, hown, hts, hK, hlk, hgd⟩ := hX
  intro la H locs hl hP hD hS
  subst hv
  exact lv_ishr hx hb hd (k la H locs hl hP hD hS)
theorem fm_dup (hX : fm_Ctx S Y X) {pq : Nat} {v : fm_V} (hd : decode Y.2.1 pc = .ok (.dup, 1)) (hq : pc + 1 = pq)
    (k : fm_G S Y X M0 post (pq) ls (v :: v :: st) M) : fm_G S Y X M0 post pc ls (v :: st) M := by
  subst hq
  obtain ⟨p, l, e, s, m, args, below, meth, c, D, ad, tA⟩ := X
  obtain ⟨hx, hb, hml, hr, hown, hts, hK, hlk, hgd⟩ := hX
  intro la H locs hl hP hD hS
  exact lv_dup hx hb hd (fm_v_cat ad v) (k la H locs hl hP hD hS)
theorem fm_pop (hX : fm_Ctx S Y X) {pq : Nat} {v : fm_V} (hd : decode Y.2.1 pc = .ok (.pop, 1)) (hq : pc + 1 = pq)
    (k : fm_G S Y X M0 post (pq) ls (st) M) : fm_G S Y X M0 post pc ls (v :: st) M := by
  subst hq
  obtain ⟨p, l, e, s, m, args, below, meth, c, D, ad, tA⟩ := X
  obtain ⟨hx, hb, hml, hr, hown, hts, hK, hlk, hgd⟩ := hX
  intro la H locs hl hP hD hS
  exact lv_pop hx hb hd (fm_v_cat ad v) (k la H locs hl hP hD hS)
theorem fm_dup_x1 (hX : fm_Ctx S Y X) {pq : Nat} {v u : fm_V} (hd : decode Y.2.1 pc = .ok (.dup_x1, 1)) (hq : pc + 1 = pq)
    (k : fm_G S Y X M0 post (pq) ls (v :: u :: v :: st) M) : fm_G S Y X M0 post pc ls (v :: u :: st) M := by
  subst hq
  obtain ⟨p, l, e, s, m, args, below, meth, c, D, ad, tA⟩ := X
  obtain ⟨hx, hb, hml, hr, hown, hts, hK, hlk, hgd⟩ := hX
  intro la H locs hl hP hD hS
  exact lv_dup_x1 hx hb hd (fm_v_cat ad v) (fm_v_cat ad u) (k la H locs hl hP hD hS)
theorem fm_dup_x2 (hX : fm_Ctx S Y X) {pq : Nat} {v u t : fm_V} (hd : decode Y.2.1 pc = .ok (.dup_x2, 1)) (hq : pc + 1 = pq)
    (k : fm_G S Y X M0 post (pq) ls (v :: u :: t :: v :: st) M) : fm_G S Y X M0 post pc ls (v :: u :: t :: st) M := by
  subst hq
  obtain ⟨p, l, e, s, m, args, below, meth, c, D, ad, tA⟩ := X
  obtain ⟨hx, hb, hml, hr, hown, hts, hK, hlk, hgd⟩ := hX
  intro la H locs hl hP hD hS
  exact lv_dup_x2 hx hb hd (fm_v_cat ad v) (fm_v_cat ad u) (fm_v_cat ad t) (k la H locs hl hP hD hS)
theorem fm_dup2 (hX : fm_Ctx S Y X) {pq : Nat} {v u : fm_V} (hd : decode Y.2.1 pc = .ok (.dup2, 1)) (hq : pc + 1 = pq)
    (k : fm_G S Y X M0 post (pq) ls (v :: u :: v :: u :: st) M) : fm_G S Y X M0 post pc ls (v :: u :: st) M := by
  subst hq
  obtain ⟨p, l, e, s, m, args, below, meth, c, D, ad, tA⟩ := X
  obtain ⟨hx, hb, hml, hr, hown, hts, hK, hlk, hgd⟩ := hX
  intro la H locs hl hP hD hS
  exact lv_dup2_11 hx hb hd (fm_v_cat ad v) (fm_v_cat ad u) (k la H locs hl hP hD hS)
theorem fm_if_eq (hX : fm_Ctx S Y X) {x : Int32} {off : Int} {tgt pq : Nat} (hd : decode Y.2.1 pc = .ok (.ifCond .eq off, 3)) (ht : (pc : Int) + off = (tgt : Int)) (hq : pc + 3 = pq)
    (kt : x = 0 → fm_G S Y X M0 post tgt ls st M) (kf : ¬ (x = 0) → fm_G S Y X M0 post pq ls st M) : fm_G S Y X M0 post pc ls (.inl x :: st) M := by
  subst hq
  obtain ⟨p, l, e, s, m, args, below, meth, c, D, ad, tA⟩ := X
  obtain ⟨hx, hb, hml, hr, hown, hts, hK, hlk, hgd⟩ := hX
  intro la H locs hl hP hD hS
  exact lv_if_eq hx hb hd ht (fun h => kt h la H locs hl hP hD hS) (fun h => kf h la H locs hl hP hD hS)
theorem fm_icmp_eq (hX : fm_Ctx S Y X) {x y : Int32} {off : Int} {tgt pq : Nat} (hd : decode Y.2.1 pc = .ok (.if_icmp .eq off, 3)) (ht : (pc : Int) + off = (tgt : Int)) (hq : pc + 3 = pq)
    (kt : x = y → fm_G S Y X M0 post tgt ls st M) (kf : ¬ (x = y) → fm_G S Y X M0 post pq ls st M) : fm_G S Y X M0 post pc ls (.inl y :: .inl x :: st) M := by
  subst hq
  obtain ⟨p, l, e, s, m, args, below, meth, c, D, ad, tA⟩ := X
  obtain ⟨hx, hb, hml, hr, hown, hts, hK, hlk, hgd⟩ := hX
  intro la H locs hl hP hD hS
  exact lv_icmp_eq hx hb hd ht (fun h => kt h la H locs hl hP hD hS) (fun h => kf h la H locs hl hP hD hS)
theorem fm_if_ne (hX : fm_Ctx S Y X) {x : Int32} {off : Int} {tgt pq : Nat} (hd : decode Y.2.1 pc = .ok (.ifCond .ne off, 3)) (ht : (pc : Int) + off = (tgt : Int)) (hq : pc + 3 = pq)
    (kt : ¬ x = 0 → fm_G S Y X M0 post tgt ls st M) (kf : x = 0 → fm_G S Y X M0 post pq ls st M) : fm_G S Y X M0 post pc ls (.inl x :: st) M := by
  subst hq
  obtain ⟨p, l, e, s, m, args, below, meth, c, D, ad, tA⟩ := X
  obtain ⟨hx, hb, hml, hr, hown, hts, hK, hlk, hgd⟩ := hX
  intro la H locs hl hP hD hS
  exact lv_if_ne hx hb hd ht (fun h => kt h la H locs hl hP hD hS) (fun h => kf h la H locs hl hP hD hS)
theorem fm_icmp_ne (hX : fm_Ctx S Y X) {x y : Int32} {off : Int} {tgt pq : Nat} (hd : decode Y.2.1 pc = .ok (.if_icmp .ne off, 3)) (ht : (pc : Int) + off = (tgt : Int)) (hq : pc + 3 = pq)
    (kt : ¬ x = y → fm_G S Y X M0 post tgt ls st M) (kf : x = y → fm_G S Y X M0 post pq ls st M) : fm_G S Y X M0 post pc ls (.inl y :: .inl x :: st) M := by
  subst hq
  obtain ⟨p, l, e, s, m, args, below, meth, c, D, ad, tA⟩ := X
  obtain ⟨hx, hb, hml, hr, hown, hts, hK, hlk, hgd⟩ := hX
  intro la H locs hl hP hD hS
  exact lv_icmp_ne hx hb hd ht (fun h => kt h la H locs hl hP hD hS) (fun h => kf h la H locs hl hP hD hS)
theorem fm_if_lt (hX : fm_Ctx S Y X) {x : Int32} {off : Int} {tgt pq : Nat} (hd : decode Y.2.1 pc = .ok (.ifCond .lt off, 3)) (ht : (pc : Int) + off = (tgt : Int)) (hq : pc + 3 = pq)
    (kt : x < 0 → fm_G S Y X M0 post tgt ls st M) (kf : ¬ (x < 0) → fm_G S Y X M0 post pq ls st M) : fm_G S Y X M0 post pc ls (.inl x :: st) M := by
  subst hq
  obtain ⟨p, l, e, s, m, args, below, meth, c, D, ad, tA⟩ := X
  obtain ⟨hx, hb, hml, hr, hown, hts, hK, hlk, hgd⟩ := hX
  intro la H locs hl hP hD hS
  exact lv_if_lt hx hb hd ht (fun h => kt h la H locs hl hP hD hS) (fun h => kf h la H locs hl hP hD hS)
theorem fm_icmp_lt (hX : fm_Ctx S Y X) {x y : Int32} {off : Int} {tgt pq : Nat} (hd : decode Y.2.1 pc = .ok (.if_icmp .lt off, 3)) (ht : (pc : Int) + off = (tgt : Int)) (hq : pc + 3 = pq)
    (kt : x < y → fm_G S Y X M0 post tgt ls st M) (kf : ¬ (x < y) → fm_G S Y X M0 post pq ls st M) : fm_G S Y X M0 post pc ls (.inl y :: .inl x :: st) M := by
  subst hq
  obtain ⟨p, l, e, s, m, args, below, meth, c, D, ad, tA⟩ := X
  obtain ⟨hx, hb, hml, hr, hown, hts, hK, hlk, hgd⟩ := hX
  intro la H locs hl hP hD hS
  exact lv_icmp_lt hx hb hd ht (fun h => kt h la H locs hl hP hD hS) (fun h => kf h la H locs hl hP hD hS)
theorem fm_if_ge (hX : fm_Ctx S Y X) {x : Int32} {off : Int} {tgt pq : Nat} (hd : decode Y.2.1 pc = .ok (.ifCond .ge off, 3)) (ht : (pc : Int) + off = (tgt : Int)) (hq : pc + 3 = pq)
    (kt : 0 ≤ x → fm_G S Y X M0 post tgt ls st M) (kf : ¬ (0 ≤ x) → fm_G S Y X M0 post pq ls st M) : fm_G S Y X M0 post pc ls (.inl x :: st) M := by
  subst hq
  obtain ⟨p, l, e, s, m, args, below, meth, c, D, ad, tA⟩ := X
  obtain ⟨hx, hb, hml, hr, hown, hts, hK, hlk, hgd⟩ := hX
  intro la H locs hl hP hD hS
  exact lv_if_ge hx hb hd ht (fun h => kt h la H locs hl hP hD hS) (fun h => kf h la H locs hl hP hD hS)
theorem fm_icmp_ge (hX : fm_Ctx S Y X) {x y : Int32} {off : Int} {tgt pq : Nat} (hd : decode Y.2.1 pc = .ok (.if_icmp .ge off, 3)) (ht : (pc : Int) + off = (tgt : Int)) (hq : pc + 3 = pq)
    (kt : y ≤ x → fm_G S Y X M0 post tgt ls st M) (kf : ¬ (y ≤ x) → fm_G S Y X M0 post pq ls st M) : fm_G S Y X M0 post pc ls (.inl y :: .inl x :: st) M := by
  subst hq
  obtain ⟨p, l, e, s, m, args, below, meth, c, D, ad, tA⟩ := X
  obtain ⟨hx, hb, hml, hr, hown, hts, hK, hlk, hgd⟩ := hX
  intro la H locs hl hP hD hS
  exact lv_icmp_ge hx hb hd ht (fun h => kt h la H locs hl hP hD hS) (fun h => kf h la H locs hl hP hD hS)
theorem fm_if_gt (hX : fm_Ctx S Y X) {x : Int32} {off : Int} {tgt pq : Nat} (hd : decode Y.2.1 pc = .ok (.ifCond .gt off, 3)) (ht : (pc : Int) + off = (tgt : Int)) (hq : pc + 3 = pq)
    (kt : 0 < x → fm_G S Y X M0 post tgt ls st M) (kf : ¬ (0 < x) → fm_G S Y X M0 post pq ls st M) : fm_G S Y X M0 post pc ls (.inl x :: st) M := by
  subst hq
  obtain ⟨p, l, e, s, m, args, below, meth, c, D, ad, tA⟩ := X
  obtain ⟨hx, hb, hml, hr, hown, hts, hK, hlk, hgd⟩ := hX
  intro la H locs hl hP hD hS
  exact lv_if_gt hx hb hd ht (fun h => kt h la H locs hl hP hD hS) (fun h => kf h la H locs hl hP hD hS)
theorem fm_icmp_gt (hX : fm_Ctx S Y X) {x y : Int32} {off : Int} {tgt pq : Nat} (hd : decode Y.2.1 pc = .ok (.if_icmp .gt off, 3)) (ht : (pc : Int) + off = (tgt : Int)) (hq : pc + 3 = pq)
    (kt : y < x → fm_G S Y X M0 post tgt ls st M) (kf : ¬ (y < x) → fm_G S Y X M0 post pq ls st M) : fm_G S Y X M0 post pc ls (.inl y :: .inl x :: st) M := by
  subst hq
  obtain ⟨p, l, e, s, m, args, below, meth, c, D, ad, tA⟩ := X
  obtain ⟨hx, hb, hml, hr, hown, hts, hK, hlk, hgd⟩ := hX
  intro la H locs hl hP hD hS
  exact lv_icmp_gt hx hb hd ht (fun h => kt h la H locs hl hP hD hS) (fun h => kf h la H locs hl hP hD hS)
theorem fm_if_le (hX : fm_Ctx S Y X) {x : Int32} {off : Int} {tgt pq : Nat} (hd : decode Y.2.1 pc = .ok (.ifCond .le off, 3)) (ht : (pc : Int) + off = (tgt : Int)) (hq : pc + 3 = pq)
    (kt : x ≤ 0 → fm_G S Y X M0 post tgt ls st M) (kf : ¬ (x ≤ 0) → fm_G S Y X M0 post pq ls st M) : fm_G S Y X M0 post pc ls (.inl x :: st) M := by
  subst hq
  obtain ⟨p, l, e, s, m, args, below, meth, c, D, ad, tA⟩ := X
  obtain ⟨hx, hb, hml, hr, hown, hts, hK, hlk, hgd⟩ := hX
  intro la H locs hl hP hD hS
  exact lv_if_le hx hb hd ht (fun h => kt h la H locs hl hP hD hS) (fun h => kf h la H locs hl hP hD hS)
theorem fm_icmp_le (hX : fm_Ctx S Y X) {x y : Int32} {off : Int} {tgt pq : Nat} (hd : decode Y.2.1 pc = .ok (.if_icmp .le off, 3)) (ht : (pc : Int) + off = (tgt : Int)) (hq : pc + 3 = pq)
    (kt : x ≤ y → fm_G S Y X M0 post tgt ls st M) (kf : ¬ (x ≤ y) → fm_G S Y X M0 post pq ls st M) : fm_G S Y X M0 post pc ls (.inl y :: .inl x :: st) M := by
  subst hq
  obtain ⟨p, l, e, s, m, args, below, meth, c, D, ad, tA⟩ := X
  obtain ⟨hx, hb, hml, hr, hown, hts, hK, hlk, hgd⟩ := hX
  intro la H locs hl hP hD hS
  exact lv_icmp_le hx hb hd ht (fun h => kt h la H locs hl hP hD hS) (fun h => kf h la H locs hl hP hD hS)
theorem fm_goto (hX : fm_Ctx S Y X) {off : Int} {tgt : Nat} (hd : decode Y.2.1 pc = .ok (.goto off, 3)) (ht : (pc : Int) + off = (tgt : Int))
    (k : fm_G S Y X M0 post (tgt) ls (st) M) : fm_G S Y X M0 post pc ls (st) M := by
  obtain ⟨p, l, e, s, m, args, below, meth, c, D, ad, tA⟩ := X
  obtain ⟨hx, hb, hml, hr, hown, hts, hK, hlk, hgd⟩ := hX
  intro la H locs hl hP hD hS
  exact lv_goto hx hb hd ht (k la H locs hl hP hD hS)
theorem fm_tableIn (hX : fm_Ctx S Y X) {dflt lo hi : Int} {offs : Array Int} {len : Nat} {x : Int32} {off : Int} {tgt : Nat} (hd : decode Y.2.1 pc = .ok (.tableswitch dflt lo hi offs, len)) (h1 : ¬ x.toInt < lo) (h2 : ¬ hi < x.toInt) (ho : offs[(x.toInt - lo).toNat]? = some off) (ht : (pc : Int) + off = (tgt : Int))
    (k : fm_G S Y X M0 post (tgt) ls (st) M) : fm_G S Y X M0 post pc ls (.inl x :: st) M := by
  obtain ⟨p, l, e, s, m, args, below, meth, c, D, ad, tA⟩ := X
  obtain ⟨hx, hb, hml, hr, hown, hts, hK, hlk, hgd⟩ := hX
  intro la H locs hl hP hD hS
  exact lv_tableIn hx hb hd h1 h2 ho ht (k la H locs hl hP hD hS)
theorem fm_tableOut (hX : fm_Ctx S Y X) {dflt lo hi : Int} {offs : Array Int} {len : Nat} {x : Int32} {tgt : Nat} (hd : decode Y.2.1 pc = .ok (.tableswitch dflt lo hi offs, len)) (h : x.toInt < lo ∨ hi < x.toInt) (ht : (pc : Int) + dflt = (tgt : Int))
    (k : fm_G S Y X M0 post (tgt) ls (st) M) : fm_G S Y X M0 post pc ls (.inl x :: st) M := by
  obtain ⟨p, l, e, s, m, args, below, meth, c, D, ad, tA⟩ := X
  obtain ⟨hx, hb, hml, hr, hown, hts, hK, hlk, hgd⟩ := hX
  intro la H locs hl hP hD hS
  exact lv_tableOut hx hb hd h ht (k la H locs hl hP hD hS)
theorem fm_lookup (hX : fm_Ctx S Y X) {dflt : Int} {ps : Array (Int × Int)} {len : Nat} {x : Int32} {off : Int} {tgt : Nat} (hd : decode Y.2.1 pc = .ok (.lookupswitch dflt ps, len)) (hp : (ps.toList.zip (ps.toList.drop 1)).all (fun (a, next) => a.1 < next.1) = true) (ho : Op.lookupswitch.offset ps.toList dflt x.toInt = off) (ht : (pc : Int) + off = (tgt : Int))
    (k : fm_G S Y X M0 post (tgt) ls (st) M) : fm_G S Y X M0 post pc ls (.inl x :: st) M := by
  obtain ⟨p, l, e, s, m, args, below, meth, c, D, ad, tA⟩ := X
  obtain ⟨hx, hb, hml, hr, hown, hts, hK, hlk, hgd⟩ := hX
  intro la H locs hl hP hD hS
  exact lv_lookup hx hb hd hp ho ht (k la H locs hl hP hD hS)
/-- a field instruction's words: the field j of class ci at the constant 'index' of class own -/
def fm_fl (ws : List Cond) (own : String) (index : Nat) (cls : List vw_C) (ci j : Nat) : Prop :=
  ∃ (C : String) (T : u_T) (n : Nat), cls[ci]? = some (C, T, n) ∧ j < n ∧ (∀ w ∈ u_ws C T n, w ∈ ws) ∧ Cond.fieldLink own index C (T j).2.1 (T j).2.2.1 ∈ ws ∧ (T j).1 = C
/-- a field that is written -/
def fm_fp (cls : List vw_C) (ci j : Nat) (ty : FieldType) : Prop :=
  ∃ (C : String) (T : u_T) (n : Nat) (ty0 : Nat → FieldType), cls[ci]? = some (C, T, n) ∧ (∀ k, k < n → parseFieldDescriptor (T k).2.2.1 = some (ty0 k)) ∧ (∀ a, a < n → ∀ b, b < n → a ≠ b → (T a).2.1 ≠ (T b).2.1) ∧ (T j).2.2.2 = false ∧ ty0 j = ty
theorem fm_getr (hX : fm_Ctx S Y X) {pq : Nat} {ci j index : Nat} {a : Nat} {l : List (Option Nat)} (hf : fm_fl S.2.2.2 Y.1 index S.1 ci j) (ha : S.2.1[a]? = some (.inr (ci, l))) {q : Nat} (hv : l[j]? = some (some q)) (hd : decode Y.2.1 pc = .ok (.getfield index, 3)) (hq : pc + 3 = pq)
    (k : fm_G S Y X M0 post (pq) ls (.inr q :: st) M) : fm_G S Y X M0 post pc ls (.inr a :: st) M := by
  subst hq
  obtain ⟨p, l, e, s, m, args, below, meth, c, D, ad, tA⟩ := X
  obtain ⟨hx, hb, hml, hr, hown, hts, hK, hlk, hgd⟩ := hX
  intro la H locs hl hP hD hS
  obtain ⟨C, T, n, hc, hj, hin, hlink, howner⟩ := hf
  exact va_get hx hb hts hin hown hK hP a (fm_W_at ha) hc j hj (hts _ hlink) (fun x h => by rw [howner] at h; exact h) (v := .ref (ad q)) (by simp [List.getElem?_mapIdx, hv, fm_f]) hd (k la H locs hl hP hD hS)
theorem fm_geti (hX : fm_Ctx S Y X) {pq : Nat} {ci j index : Nat} {a : Nat} {l : List (Option Nat)} (hf : fm_fl S.2.2.2 Y.1 index S.1 ci j) (ha : S.2.1[a]? = some (.inr (ci, l))) (hv : l[j]? = some none) {v : Int32} (hm : M a j = v) (hd : decode Y.2.1 pc = .ok (.getfield index, 3)) (hq : pc + 3 = pq)
    (k : fm_G S Y X M0 post (pq) ls (.inl v :: st) M) : fm_G S Y X M0 post pc ls (.inr a :: st) M := by
  subst hq
  obtain ⟨p, l, e, s, m, args, below, meth, c, D, ad, tA⟩ := X
  obtain ⟨hx, hb, hml, hr, hown, hts, hK, hlk, hgd⟩ := hX
  intro la H locs hl hP hD hS
  obtain ⟨C, T, n, hc, hj, hin, hlink, howner⟩ := hf
  subst hm
  exact va_get hx hb hts hin hown hK hP a (fm_W_at ha) hc j hj (hts _ hlink) (fun x h => by rw [howner] at h; exact h) (v := .int (M a j)) (by simp [List.getElem?_mapIdx, hv, fm_f]) hd (k la H locs hl hP hD hS)
theorem fm_puti (hX : fm_Ctx S Y X) {pq : Nat} {ci j index : Nat} {a : Nat} {l : List (Option Nat)} (hf : fm_fl S.2.2.2 Y.1 index S.1 ci j) {ty : FieldType} (hp : fm_fp S.1 ci j ty) (ha : S.2.1[a]? = some (.inr (ci, l))) (hv : l[j]? = some none) {x : Int32} (hnar : narrow ty (.int x) = .int x) (hfit : fits ty (.int x) = true) (hd : decode Y.2.1 pc = .ok (.putfield index, 3)) (hq : pc + 3 = pq)
    (k : fm_G S Y X M0 post (pq) ls (st) (fm_up M a j x)) : fm_G S Y X M0 post pc ls (.inl x :: .inr a :: st) M := by
  subst hq
  obtain ⟨p, l, e, s, m, args, below, meth, c, D, ad, tA⟩ := X
  obtain ⟨hx, hb, hml, hr, hown, hts, hK, hlk, hgd⟩ := hX
  intro la H locs hl hP hD hS
  obtain ⟨C, T, n, hc, hj, hin, hlink, howner⟩ := hf
  obtain ⟨C', T', n', ty0, hc', hty, hnm, hfin, hty0⟩ := hp
  rw [hc] at hc'
  obtain ⟨rfl, rfl, rfl⟩ : C = C' ∧ T = T' ∧ n = n' := by
    have := Option.some.inj hc'
    exact ⟨congrArg (·.1) this, congrArg (·.2.1) this, congrArg (·.2.2) this⟩
  subst hty0
  exact va_put hx hb hts hin ty0 hty hnm hown hK hP hD hS a (fm_W_at ha) hc j hj (hts _ hlink) (fun x h => by rw [howner] at h; exact h) hfin (hty j hj) hnar hfit (by simpa using (List.getElem?_eq_some_iff.mp hv).1) hd
    (fun H1 locs1 hP1 hD1 hS1 => k la H1 locs1 hl (fm_W_obj ha hv ▸ hP1) (fm_W_obj ha hv ▸ hD1) hS1)
theorem fm_iald (hX : fm_Ctx S Y X) {pq : Nat} {a n j : Nat} {rf : List Nat} {i : Int32} (ha : S.2.1[a]? = some (.inl (0, n, rf))) (ht : S.2.2.1[0]? = some .int) (hi : i = nI j) (hj : j < n) (hn : n < 2 ^ 31) {v : Int32} (hm : M a j = v) (hd : decode Y.2.1 pc = .ok (.iaload, 1)) (hq : pc + 1 = pq)
    (k : fm_G S Y X M0 post (pq) ls (.inl v :: st) M) : fm_G S Y X M0 post pc ls (.inl i :: .inr a :: st) M := by
  subst hq
  obtain ⟨p, l, e, s, m, args, below, meth, c, D, ad, tA⟩ := X
  obtain ⟨hx, hb, hml, hr, hown, hts, hK, hlk, hgd⟩ := hX
  intro la H locs hl hP hD hS
  subst hi
  have hin : vp_in (nI j) n := vp_in_nI hj hn
  have hcl : (nI j).toNatClampNeg = j := nI_clamp (Nat.lt_trans hj hn)
  have hw := fm_W_at (ad := ad) (tA := tA) (M := M) ha
  subst hm
  refine va_iald hx hb hK hP a 0 hw (fm_tys_at ht) hin hd ?_
  rw [hcl]
  exact k la H locs hl hP hD hS
theorem fm_zald (hX : fm_Ctx S Y X) {pq : Nat} {a n j : Nat} {rf : List Nat} {i : Int32} (ha : S.2.1[a]? = some (.inl (1, n, rf))) (ht : S.2.2.1[1]? = some .boolean) (hi : i = nI j) (hj : j < n) (hn : n < 2 ^ 31) {v : Int32} (hm : M a j = v) (hd : decode Y.2.1 pc = .ok (.baload, 1)) (hq : pc + 1 = pq)
    (k : fm_G S Y X M0 post (pq) ls (.inl v :: st) M) : fm_G S Y X M0 post pc ls (.inl i :: .inr a :: st) M := by
  subst hq
  obtain ⟨p, l, e, s, m, args, below, meth, c, D, ad, tA⟩ := X
  obtain ⟨hx, hb, hml, hr, hown, hts, hK, hlk, hgd⟩ := hX
  intro la H locs hl hP hD hS
  subst hi
  have hin : vp_in (nI j) n := vp_in_nI hj hn
  have hcl : (nI j).toNatClampNeg = j := nI_clamp (Nat.lt_trans hj hn)
  have hw := fm_W_at (ad := ad) (tA := tA) (M := M) ha
  subst hm
  refine va_zald hx hb hK hP a 1 hw (fm_tys_at ht) hin hd ?_
  rw [hcl]
  exact k la H locs hl hP hD hS
theorem fm_iast (hX : fm_Ctx S Y X) {pq : Nat} {a n j : Nat} {rf : List Nat} {i : Int32} (ha : S.2.1[a]? = some (.inl (0, n, rf))) (ht : S.2.2.1[0]? = some .int) (hi : i = nI j) (hj : j < n) (hn : n < 2 ^ 31) {x : Int32} (hd : decode Y.2.1 pc = .ok (.iastore, 1)) (hq : pc + 1 = pq)
    (k : fm_G S Y X M0 post (pq) ls (st) (fm_up M a j x)) : fm_G S Y X M0 post pc ls (.inl x :: .inl i :: .inr a :: st) M := by
  subst hq
  obtain ⟨p, l, e, s, m, args, below, meth, c, D, ad, tA⟩ := X
  obtain ⟨hx, hb, hml, hr, hown, hts, hK, hlk, hgd⟩ := hX
  intro la H locs hl hP hD hS
  subst hi
  have hin : vp_in (nI j) n := vp_in_nI hj hn
  have hcl : (nI j).toNatClampNeg = j := nI_clamp (Nat.lt_trans hj hn)
  have hw := fm_W_at (ad := ad) (tA := tA) (M := M) ha
  refine va_iast hx hb hK hP hD hS a 0 hw (fm_tys_at ht) hin hd (fun H1 locs1 hP1 hD1 hS1 => ?_)
  rw [hcl] at hP1 hD1
  exact k la H1 locs1 hl (fm_W_arr ha (by decide) ▸ hP1) (fm_W_arr ha (by decide) ▸ hD1) hS1
theorem fm_zast (hX : fm_Ctx S Y X) {pq : Nat} {a n j : Nat} {rf : List Nat} {i : Int32} (ha : S.2.1[a]? = some (.inl (1, n, rf))) (ht : S.2.2.1[1]? = some .boolean) (hi : i = nI j) (hj : j < n) (hn : n < 2 ^ 31) {x : Int32} (hx1 : vp_nar .boolean x = x) (hd : decode Y.2.1 pc = .ok (.bastore, 1)) (hq : pc + 1 = pq)
    (k : fm_G S Y X M0 post (pq) ls (st) (fm_up M a j x)) : fm_G S Y X M0 post pc ls (.inl x :: .inl i :: .inr a :: st) M := by
  subst hq
  obtain ⟨p, l, e, s, m, args, below, meth, c, D, ad, tA⟩ := X
  obtain ⟨hx, hb, hml, hr, hown, hts, hK, hlk, hgd⟩ := hX
  intro la H locs hl hP hD hS
  subst hi
  have hin : vp_in (nI j) n := vp_in_nI hj hn
  have hcl : (nI j).toNatClampNeg = j := nI_clamp (Nat.lt_trans hj hn)
  have hw := fm_W_at (ad := ad) (tA := tA) (M := M) ha
  refine va_zast hx hb hK hP hD hS a 1 hw (fm_tys_at ht) hin hd (fun H1 locs1 hP1 hD1 hS1 => ?_)
  rw [hcl, hx1] at hP1 hD1
  exact k la H1 locs1 hl (fm_W_arr ha (by decide) ▸ hP1) (fm_W_arr ha (by decide) ▸ hD1) hS1
theorem fm_aald (hX : fm_Ctx S Y X) {pq : Nat} {a n j t q : Nat} {rf : List Nat} {i : Int32} {ty : FieldType} (ha : S.2.1[a]? = some (.inl (t, n, rf))) (h2 : ¬ t < 2) (ht : S.2.2.1[t]? = some ty) (hty : ty.isReference = true) (hi : i = nI j) (hj : j < n) (hn : n < 2 ^ 31) (hv : rf[j]? = some q) (hd : decode Y.2.1 pc = .ok (.aaload, 1)) (hq : pc + 1 = pq)
    (k : fm_G S Y X M0 post (pq) ls (.inr q :: st) M) : fm_G S Y X M0 post pc ls (.inl i :: .inr a :: st) M := by
  subst hq
  obtain ⟨p, l, e, s, m, args, below, meth, c, D, ad, tA⟩ := X
  obtain ⟨hx, hb, hml, hr, hown, hts, hK, hlk, hgd⟩ := hX
  intro la H locs hl hP hD hS
  subst hi
  have hin : vp_in (nI j) n := vp_in_nI hj hn
  have hcl : (nI j).toNatClampNeg = j := nI_clamp (Nat.lt_trans hj hn)
  have hw := fm_W_at (ad := ad) (tA := tA) (M := M) ha
  simp only [fm_cell, if_neg h2] at hw
  refine W.aald (v := .ref (ad q)) (ty := ty) hx hb (hP a _ hw) ((hK.2 t _ (fm_tys_at ht)).1 n (fun j => va_rf ((rf[j]?).map ad))) hty (fun z => by cases z) (by show ¬ (nI j < 0 ∨ (arrV _ _ _).slots.size ≤ _); rw [arrV_size]; exact hin) (by show (arrV _ _ _).slots[_]? = _; rw [arrV_read _ _ (by rw [hcl]; exact hj), hcl]; show some (va_rf (Option.map ad rf[j]?)) = _; rw [hv]; rfl) rfl rfl hd ?_
  exact k la H locs hl hP hD hS
theorem fm_alen (hX : fm_Ctx S Y X) {pq : Nat} {a n t : Nat} {rf : List Nat} {ty : FieldType} (ha : S.2.1[a]? = some (.inl (t, n, rf))) (ht : S.2.2.1[t]? = some ty) (hd : decode Y.2.1 pc = .ok (.arraylength, 1)) (hq : pc + 1 = pq)
    (k : fm_G S Y X M0 post (pq) ls (.inl (nI n) :: st) M) : fm_G S Y X M0 post pc ls (.inr a :: st) M := by
  subst hq
  obtain ⟨p, l, e, s, m, args, below, meth, c, D, ad, tA⟩ := X
  obtain ⟨hx, hb, hml, hr, hown, hts, hK, hlk, hgd⟩ := hX
  intro la H locs hl hP hD hS
  exact va_alen hx hb hK hP a t (fm_W_at ha) (fm_tys_at ht) rfl hd (k la H locs hl hP hD hS)
theorem fm_iret (hX : fm_Ctx S Y X) {x : Int32} (hr0 : Y.2.2.2.1 = some .int) (hd : decode Y.2.1 pc = .ok (.ireturn, 1)) (k : post (some x) M) : fm_G S Y X M0 post pc ls [.inl x] M := by
  obtain ⟨p, l, e, s, m, args, below, meth, c, D, ad, tA⟩ := X
  obtain ⟨hx, hb, hml, hr, hown, hts, hK, hlk, hgd⟩ := hX
  intro la H locs hl hP hD hS
  exact W.iret hx hb (hr.trans hr0) (fun t ht hW => ⟨⟨some x, M, rfl, k, by rw [ht]; exact hP, va_K.moved hW.alike hK, hD⟩, hS.F ht⟩) hS.2.2 hd hlk
theorem fm_zret (hX : fm_Ctx S Y X) {x : Int32} (hr0 : Y.2.2.2.1 = some .boolean) (hn : narrow .boolean (.int x) = .int x) (hd : decode Y.2.1 pc = .ok (.ireturn, 1)) (k : post (some x) M) : fm_G S Y X M0 post pc ls [.inl x] M := by
  obtain ⟨p, l, e, s, m, args, below, meth, c, D, ad, tA⟩ := X
  obtain ⟨hx, hb, hml, hr, hown, hts, hK, hlk, hgd⟩ := hX
  intro la H locs hl hP hD hS
  exact W.zret hx hb (hr.trans hr0) hn (fun t ht hW => ⟨⟨some x, M, rfl, k, by rw [ht]; exact hP, va_K.moved hW.alike hK, hD⟩, hS.F ht⟩) hS.2.2 hd hlk
theorem fm_vret (hX : fm_Ctx S Y X) (hr0 : Y.2.2.2.1 = none) (hd : decode Y.2.1 pc = .ok (.return_, 1)) (k : post none M) : fm_G S Y X M0 post pc ls [] M := by
  obtain ⟨p, l, e, s, m, args, below, meth, c, D, ad, tA⟩ := X
  obtain ⟨hx, hb, hml, hr, hown, hts, hK, hlk, hgd⟩ := hX
  intro la H locs hl hP hD hS
  exact W.vret hx hb (hr.trans hr0) (fun t ht hW => ⟨⟨none, M, rfl, k, by rw [ht]; exact hP, va_K.moved hW.alike hK, hD⟩, hS.F ht⟩) hS.2.2 hd hlk
/-- the addresses of a world are its shape's: another memory has the same -/
theorem fm_D {A : Nat → Prop} {ad : Nat → Nat} {tA : Nat → ClassId} {Sh : List fm_C} {M M' : fm_M} (h : va_D A (fm_W ad tA Sh M)) : va_D A (fm_W ad tA Sh M') := by
  have key : ∀ (k : Nat) (q : Nat × va_E), (fm_W ad tA Sh M')[k]? = some q → ∃ e, (fm_W ad tA Sh M)[k]? = some (q.1, e) := by
    intro k q hq
    cases hk : Sh[k]? with
    | none => simp [fm_W, List.getElem?_mapIdx, hk] at hq
    | some c =>
      rw [fm_W_at hk] at hq
      have := Option.some.inj hq
      subst this
      exact ⟨_, fm_W_at hk⟩
  refine ⟨fun i j a b ha hb hab => ?_, fun k q hq => ?_⟩
  · obtain ⟨e1, h1⟩ := key i a ha
    obtain ⟨e2, h2⟩ := key j b hb
    exact h.1 i j _ _ h1 h2 hab
  · obtain ⟨e1, h1⟩ := key k q hq
    exact h.2 k (q.1, e1) h1
theorem fm_A {ad : Nat → Nat} {tA : Nat → ClassId} {Sh : List fm_C} {M M' : fm_M} {sz sz' q : Nat} (hs : sz ≤ sz') (h : va_A (fm_W ad tA Sh M) sz' q) : va_A (fm_W ad tA Sh M') sz q := by
  rcases h with ⟨k, e, h⟩ | h
  · cases hk : Sh[k]? with
    | none => simp [fm_W, List.getElem?_mapIdx, hk] at h
    | some c =>
      rw [fm_W_at hk] at h
      have := Option.some.inj h
      refine Or.inl ⟨k, fm_cell ad tA M' k c, ?_⟩
      rw [fm_W_at hk]
      have h1 : ad k = q := congrArg Prod.fst this
      rw [h1]
  · exact Or.inr (Nat.le_trans hs h)
theorem fm_blind (S : fm_S) (D : va_G) (ad : Nat → Nat) (tA : Nat → ClassId) (sz : Nat) (as : List fm_V) (M : fm_M) : FrameBlind (fm_Pc S D ad tA sz as M) := by
  intro a U g mk q
  obtain ⟨q0, q1, qP, qK, qD⟩ := q
  exact ⟨q0, q1, qP, va_K.moved (u := U) (U := U.calling g mk a) (Vm.Alike.refl U.vm) qK, qD⟩
theorem fm_cats (ad : Nat → Nat) (st : List fm_V) : ((st.map (fm_v ad)).map fun v => v.category).sum = st.length := by
  induction st with
  | nil => rfl
  | cons v r ih => simp only [List.map_cons, List.sum_cons, ih, fm_v_cat, List.length_cons]; omega
theorem fm_lv_args (ad : Nat → Nat) : ∀ (as : List fm_V) (n i : Nat) (v : fm_V), as[i]? = some v → (n + i, fm_v ad v) ∈ lv_args n (as.map (fm_v ad)) := by
  intro as
  induction as with
  | nil => intro n i v h; simp at h
  | cons a r ih =>
    intro n i v h
    simp only [List.map_cons, lv_args]
    rw [if_neg (by rw [fm_v_cat]; decide)]
    cases i with
    | zero =>
      simp only [List.getElem?_cons_zero, Option.some.injEq] at h
      subst h
      exact List.mem_cons_self
    | succ i =>
      simp only [List.getElem?_cons_succ] at h
      have := ih (n + 1) i v h
      refine List.mem_cons_of_mem _ ?_
      rw [show n + (i + 1) = n + 1 + i by omega]
      exact this
def fm_entry (as : List fm_V) (n : Nat) : fm_L := as.map some ++ List.replicate (n - as.length) none
/-- THE HEAD OF A METHOD -/
theorem fm_of {S : fm_S} {y : MethodName} {d maxL : Nat} {cc : ByteArray} {ret : Option FieldType} {as : List fm_V} {M : fm_M} {post : Option Int32 → fm_M → Prop} {ls : fm_L}
    (hy : plainName y.cls = true) (hgd : S.2.2.2.all goodWord = true) (hn : as.length ≤ maxL) (he : fm_entry as maxL = ls)
    (body : ∀ X, fm_Ctx S (y.cls, cc, maxL, ret, d) X → fm_G S (y.cls, cc, maxL, ret, d) X M post 0 ls [] M) : fm_ct S y cc maxL ret d as M post := by
  subst he
  intro l D ad tA sz
  refine Met.ofW (cc := cc) (maxL := maxL) (ret := ret) hy rfl ?_
  intro p e s m args below meth c s₁ B hml hv
  obtain ⟨rfl, hsz, hP, hK, hD0⟩ := hv
  subst hsz
  have hlen : (lg_sl (as.map (fm_v ad))).length = as.length := by
    clear hP hK hD0 B hn body
    induction as with
    | nil => rfl
    | cons a r ih =>
      simp only [List.map_cons, lg_sl, List.flatMap_cons] at ih ⊢
      rw [if_neg (by rw [fm_v_cat]; decide)]
      simp only [List.length_append, List.length_cons, List.length_nil, ih]
      omega
  have hl := lv_entry (as.map (fm_v ad)) (n := maxL) (by rw [hlen]; exact hn)
  rw [lg_entry_eq]
  refine body (p, l, e, s, m, _, below, meth, c, D, ad, tA) ⟨B.exec, B.bytes, hml, B.returns, findClass_of_methodNamed B.named, fun w h => atoms_spec (ws := Cond.code y cc maxL ret :: S.2.2.2) B.pre w (List.mem_cons_of_mem _ h), hK, B.notSynchronized, hgd⟩ _ _ [] ⟨hl.1, hl.2.1, fun q hq => ?_⟩ hP (hD0.self) va_S.rf
  obtain ⟨j, x⟩ := q
  obtain ⟨v, hv, hx⟩ := fm_lv_mem.mp hq
  subst hx
  refine hl.2.2 (j, fm_v ad v) ?_
  have h1 : as[j]? = some v := by
    simp only [fm_entry] at hv
    by_cases hj : j < as.length
    · rw [List.getElem?_append_left (by simpa using hj), List.getElem?_map] at hv
      cases ha : as[j]? with
      | none => rw [ha] at hv; simp at hv
      | some u => rw [ha] at hv; simpa using hv
    · rw [List.getElem?_append_right (by simpa using hj)] at hv
      have := List.mem_of_getElem? hv
      rw [List.mem_replicate] at this
      exact absurd this.2 (by simp)
  have h2 := fm_lv_args ad as 0 j v h1
  rw [Nat.zero_add] at h2
  exact h2
/-- behind a call -/
theorem fm_back {S : fm_S} {Y : fm_Y} {M0 M : fm_M} {post : Option Int32 → fm_M → Prop} {pc : Nat} {ls : fm_L} {st : List fm_V} {p : Program} {l : Launch} {e : Env} {s : State} {m : MethodId} {args : Array Value} {below : List Frame} {meth : Method} {c : Code} {D : va_G} {ad : Nat → Nat} {tA : Nat → ClassId}
    {post1 : Option Int32 → fm_M → Prop} {la : Array Slot} {H : Heap} {locs : List Loc} {st0 : List Value} {a : Array Value}
    (hr : va_Run p l e (fm_rm Y.2.2.2.2) s m args below meth c H locs 0 0 0 0 (F0 m pc la st0) (st.map (fm_v ad)) (fm_Q S D ad tA (va_A (fm_W ad tA S.2.1 M) H.size) post1 a) (va_A (fm_W ad tA S.2.1 M) H.size))
    (hl : lv_has la Y.2.2.1 (fm_lv ad ls)) (hD : va_D (va_A (fm_W ad tA S.2.1 M0) s.heap.size) (fm_W ad tA S.2.1 M)) (hS : va_S (va_A (fm_W ad tA S.2.1 M0) s.heap.size) s.heap H locs)
    (k : ∀ (r : Option Int32) (M1 : fm_M), post1 r M1 → fm_G S Y (p, l, e, s, m, args, below, meth, c, D, ad, tA) M0 post (pc + 3) ls (r.toList.map Sum.inl ++ st) M1) :
    W p l e (fm_rm Y.2.2.2.2) s m args below meth c H locs 0 0 (MQ below (fm_Q S D ad tA (va_A (fm_W ad tA S.2.1 M0) s.heap.size) post) args s 0 0 (va_A (fm_W ad tA S.2.1 M0) s.heap.size)) (F0 m pc la st0) := by
  intro T hT X
  obtain ⟨v, st₀, t, T', L, h0, X', hL, e1, e2, ⟨⟨r, M1, hv, hp, hP1, hK1, hD1⟩, hz, hk⟩, stp⟩ := hr T hT X
  have hv : v = r.map Value.int := by
    injection hv
  rw [h0] at hz hk
  have hfree : ∀ q, va_A (fm_W ad tA S.2.1 M) H.size q → va_A (fm_W ad tA S.2.1 M0) s.heap.size q := fun q h => fm_A hS.1 h
  have hS1 : va_S (va_A (fm_W ad tA S.2.1 M0) s.heap.size) s.heap T'.heap (locs ++ L) := by
    refine ⟨Nat.le_trans hS.1 (by rw [e1]; exact hz), fun q h1 h2 => ?_, fun q hq => ?_⟩
    · rw [e1, hk q (Nat.lt_of_lt_of_le h1 hS.1) (fun z => h2 (hfree q z))]
      exact hS.2.1 q h1 h2
    · rcases List.mem_append.mp hq with h | h
      · exact hS.2.2 q h
      · exact hfree _ (hL q h)
  obtain ⟨t2, a1, b1⟩ := k r M1 hp la T'.heap (locs ++ L) hl (by rw [e1]; exact hP1) (fm_D hD) hS1 T' rfl X'
  refine ⟨t2, stp t2 ?_, b1⟩
  have hst : v.toList ++ st.map (fm_v ad) = (r.toList.map Sum.inl ++ st).map (fm_v ad) := by
    rw [hv]
    cases r <;> simp [fm_v]
  rw [hst]
  exact a1

/-- a call's words -/
def fm_cs (ws : List Cond) (own : String) (index : Nat) (y : MethodName) (bytes : ByteArray) (maxL : Nat) (ret : Option FieldType) (n : Nat) : Prop :=
  Cond.code y bytes maxL ret ∈ ws ∧ Cond.methodLink own index y ∈ ws ∧ Cond.initialized y.cls ∈ ws ∧
  (y.cls ≠ "java/lang/invoke/MethodHandle" ∧ y.cls ≠ "java/lang/invoke/VarHandle" ∧ (parseMethodDescriptor y.desc).map (fun d => d.parameters.length) = some n) ∧ maxL ≤ 45
theorem fm_good {ws : List Cond} (hg : ws.all goodWord = true) {w : Cond} (hw : w ∈ ws) : GoodIn ws (w :: ws) := fun u hu => by
  have hm : u ∈ ws := (List.mem_cons.mp hu).elim (fun e => e ▸ hw) id
  exact ⟨hm, good_of_word (List.all_eq_true.mp hg u hm)⟩
theorem fm_callS (hX : fm_Ctx S Y X) {pq : Nat} {y : MethodName} {bytes : ByteArray} {maxL d1 index n : Nat} {ret : Option FieldType} {as : List fm_V} {post1 : Option Int32 → fm_M → Prop} (hcs : fm_cs S.2.2.2 Y.1 index y bytes maxL ret n) (hstt : Cond.static y ∈ S.2.2.2) (hM : fm_ct S y bytes maxL ret d1 as M post1) (hlen : as.length = n) {stk : List fm_V} (hstk : stk = as.reverse ++ st) (hdp : d1 + 1 ≤ Y.2.2.2.2) (hst8 : st.length ≤ 8) (hd : decode Y.2.1 pc = .ok (.invokestatic index, 3)) (hq : pc + 3 = pq)
    (k : ∀ (r : Option Int32) (M1 : fm_M), post1 r M1 → fm_G S Y X M0 post pq ls (r.toList.map Sum.inl ++ st) M1) : fm_G S Y X M0 post pc ls stk M := by
  subst hstk
  subst hlen
  subst hq
  obtain ⟨hcode, hlink, hini, hdc, hmL⟩ := hcs
  obtain ⟨p, l, e, s, m, args, below, meth, c, D, ad, tA⟩ := X
  obtain ⟨hx, hb, hml, hr, hown, hts, hK, hlk, hgd⟩ := hX
  intro la H locs hl hP hD hS
  refine fm_back (M := M) (va_runS (nL := Y.2.2.1) (As := as.map (fm_v ad)) (rest := st.map (fm_v ad)) ⟨hx, hb, hml, hown, hts⟩ (hM l D ad tA H.size) ⟨callB_of as.length hts (fm_good hgd hcode) rfl rfl rfl (hts _ hini) (hts _ hlink) hdc ⟨hdp, by show 8 + (maxL + 11) + 64 * d1 ≤ 64 * Y.2.2.2.2; omega⟩, hts _ hstt⟩ ⟨fm_blind S D ad tA H.size as M, fun U hU hW => ⟨rfl, by rw [hU], by rw [hU]; exact hP, va_K.moved hW.alike hK, hD.weaken (fun _ _ _ _ => trivial)⟩⟩ rfl (by simp) hl.1 (by simp) (lv_room (by rw [fm_cats]; exact hst8)) hd ⟨Nat.le_refl _, Nat.le_refl _⟩) hl hD hS k
theorem fm_callV (hX : fm_Ctx S Y X) {pq : Nat} {b ci : Nat} {lb : List (Option Nat)} {C : String} {T : u_T} {N : Nat} (hb1 : S.2.1[b]? = some (.inr (ci, lb))) (hc : S.1[ci]? = some (C, T, N)) {y : MethodName} {bytes : ByteArray} {maxL d1 index n : Nat} {ret : Option FieldType} {as : List fm_V} {post1 : Option Int32 → fm_M → Prop} (hcs : fm_cs S.2.2.2 Y.1 index y bytes maxL ret n) (hC : y.cls = C) (hinm : Cond.instanceMethod y ∈ S.2.2.2) (hsel : Cond.selects C y y ∈ S.2.2.2) (hM : fm_ct S y bytes maxL ret d1 (.inr b :: as) M post1) (hlen : as.length = n) {stk : List fm_V} (hstk : stk = as.reverse ++ .inr b :: st) (hdp : d1 + 1 ≤ Y.2.2.2.2) (hst8 : st.length ≤ 8) (hd : decode Y.2.1 pc = .ok (.invokevirtual index, 3)) (hq : pc + 3 = pq)
    (k : ∀ (r : Option Int32) (M1 : fm_M), post1 r M1 → fm_G S Y X M0 post pq ls (r.toList.map Sum.inl ++ st) M1) : fm_G S Y X M0 post pc ls stk M := by
  subst hstk
  subst hlen
  subst hq
  obtain ⟨hcode, hlink, hini, hdc, hmL⟩ := hcs
  obtain ⟨p, l, e, s, m, args, below, meth, c, D, ad, tA⟩ := X
  obtain ⟨hx, hb, hml, hr, hown, hts, hK, hlk, hgd⟩ := hX
  intro la H locs hl hP hD hS
  refine fm_back (M := M) (va_runV (nL := Y.2.2.1) (C := C) (b := ad b) (As := as.map (fm_v ad)) (rest := st.map (fm_v ad)) ⟨hx, hb, hml, hown, hts⟩ (hM l D ad tA H.size) ⟨callB_of as.length hts (fm_good hgd hcode) rfl rfl rfl (hts _ hini) (hts _ hlink) hdc ⟨hdp, by show 8 + (maxL + 11) + 64 * d1 ≤ 64 * Y.2.2.2.2; omega⟩, hts _ hinm, hts _ hsel⟩ ⟨fm_blind S D ad tA H.size (.inr b :: as) M, va_recv hK hP hc (fm_W_at hb1), fun U hU hW => ⟨rfl, by rw [hU], by rw [hU]; exact hP, va_K.moved hW.alike hK, hD.weaken (fun _ _ _ _ => trivial)⟩⟩ rfl (by simp) hl.1 (by simp [fm_v]) (lv_room (by rw [fm_cats]; exact hst8)) hd ⟨Nat.le_refl _, Nat.le_refl _⟩) hl hD hS k
def bI (b : Bool) : Int32 := if b then 1 else 0
theorem bI_t : bI true = 1 := rfl
theorem bI_f : bI false = 0 := rfl
theorem bI_0 {b : Bool} : bI b = 0 ↔ b = false := by cases b <;> decide
theorem bI_1 {b : Bool} : bI b = 1 ↔ b = true := by cases b <;> decide
theorem fm_nb (b : Bool) : narrow .boolean (.int (bI b)) = .int (bI b) := by cases b <;> rfl
theorem fm_fb (b : Bool) : fits .boolean (.int (bI b)) = true := by cases b <;> rfl
theorem fm_vb (b : Bool) : vp_nar .boolean (bI b) = bI b := by cases b <;> rfl
theorem fm_bit (x : Int32) {a : Nat} (h : a < 32) : (x >>> (nI a &&& 31)) &&& nI 1 = bI (bt x a) := by
  apply b_ext
  intro i hi
  have e1 : ∀ i, i < 32 → bt (nI 1) i = decide (i = 0) := by decide +kernel
  have e2 : ∀ i, i < 32 → bt (1 : Int32) i = decide (i = 0) := by decide +kernel
  rw [b_and, b_sshr a h x hi, e1 i hi]
  by_cases z : i = 0
  · subst z
    rw [Nat.add_zero, if_pos h]
    cases bt x a
    · rw [bI_f, b_0]; rfl
    · rw [bI_t, e2 0 (by omega)]; rfl
  · rw [decide_eq_false z, Bool.and_false]
    cases bt x a
    · rw [bI_f, b_0]
    · rw [bI_t, e2 i hi, decide_eq_false z]
theorem fm_dec {n : Nat} (h : 0 < n) : nI n + Int32.ofInt (-1) = nI (n - 1) := by
  obtain ⟨k, rfl⟩ : ∃ k, n = k + 1 := ⟨n - 1, by omega⟩
  exact pk_m1 k
/-- a loop that counts up -/
theorem fm_ind {Q : Nat → Prop} (n : Nat) (h : ∀ i, i ≤ n → (i < n → Q (i + 1)) → Q i) : ∀ i, i ≤ n → Q i := by
  have key : ∀ d i, i + d = n → Q i := by
    intro d
    induction d with
    | zero => intro i hi; exact h i (by omega) (fun z => absurd z (by omega))
    | succ d ih => intro i hi; exact h i (by omega) (fun _ => ih (i + 1) (by omega))
  exact fun i hi => key (n - i) i (by omega)
theorem fm_n_eq (hX : fm_Ctx S Y X) {a b : Nat} {off : Int} {tgt pq : Nat} (hd : decode Y.2.1 pc = .ok (.if_icmp .eq off, 3)) (ht : (pc : Int) + off = (tgt : Int)) (hq : pc + 3 = pq) (ha : a < 2 ^ 31) (hb : b < 2 ^ 31)
    (kt : a = b → fm_G S Y X M0 post tgt ls st M) (kf : ¬ (a = b) → fm_G S Y X M0 post pq ls st M) : fm_G S Y X M0 post pc ls (.inl (nI b) :: .inl (nI a) :: st) M :=
  fm_icmp_eq hX hd ht hq (fun h => kt ((nI_eq ha hb).mp h)) (fun h => kf (fun z => h ((nI_eq ha hb).mpr z)))
theorem fm_z_eq (hX : fm_Ctx S Y X) {a : Nat} {off : Int} {tgt pq : Nat} (hd : decode Y.2.1 pc = .ok (.ifCond .eq off, 3)) (ht : (pc : Int) + off = (tgt : Int)) (hq : pc + 3 = pq) (ha : a < 2 ^ 31)
    (kt : a = 0 → fm_G S Y X M0 post tgt ls st M) (kf : ¬ (a = 0) → fm_G S Y X M0 post pq ls st M) : fm_G S Y X M0 post pc ls (.inl (nI a) :: st) M := by
  have hb : (0 : Nat) < 2 ^ 31 := by decide
  exact fm_if_eq hX hd ht hq (fun h => kt ((nI_eq ha hb).mp (by rw [nI_0]; exact h))) (fun h => kf (fun z => h (by have := (nI_eq ha hb).mpr z; rw [nI_0] at this; exact this)))
theorem fm_n_ne (hX : fm_Ctx S Y X) {a b : Nat} {off : Int} {tgt pq : Nat} (hd : decode Y.2.1 pc = .ok (.if_icmp .ne off, 3)) (ht : (pc : Int) + off = (tgt : Int)) (hq : pc + 3 = pq) (ha : a < 2 ^ 31) (hb : b < 2 ^ 31)
    (kt : ¬ a = b → fm_G S Y X M0 post tgt ls st M) (kf : a = b → fm_G S Y X M0 post pq ls st M) : fm_G S Y X M0 post pc ls (.inl (nI b) :: .inl (nI a) :: st) M :=
  fm_icmp_ne hX hd ht hq (fun h => kt ((not_congr (nI_eq ha hb)).mp h)) (fun h => kf ((nI_eq ha hb).mp h))
theorem fm_z_ne (hX : fm_Ctx S Y X) {a : Nat} {off : Int} {tgt pq : Nat} (hd : decode Y.2.1 pc = .ok (.ifCond .ne off, 3)) (ht : (pc : Int) + off = (tgt : Int)) (hq : pc + 3 = pq) (ha : a < 2 ^ 31)
    (kt : ¬ a = 0 → fm_G S Y X M0 post tgt ls st M) (kf : a = 0 → fm_G S Y X M0 post pq ls st M) : fm_G S Y X M0 post pc ls (.inl (nI a) :: st) M := by
  have hb : (0 : Nat) < 2 ^ 31 := by decide
  exact fm_if_ne hX hd ht hq (fun h => kt ((not_congr (nI_eq ha hb)).mp (by rw [nI_0]; exact h))) (fun h => kf ((nI_eq ha hb).mp (by rw [nI_0]; exact h)))
theorem fm_n_lt (hX : fm_Ctx S Y X) {a b : Nat} {off : Int} {tgt pq : Nat} (hd : decode Y.2.1 pc = .ok (.if_icmp .lt off, 3)) (ht : (pc : Int) + off = (tgt : Int)) (hq : pc + 3 = pq) (ha : a < 2 ^ 31) (hb : b < 2 ^ 31)
    (kt : a < b → fm_G S Y X M0 post tgt ls st M) (kf : ¬ (a < b) → fm_G S Y X M0 post pq ls st M) : fm_G S Y X M0 post pc ls (.inl (nI b) :: .inl (nI a) :: st) M :=
  fm_icmp_lt hX hd ht hq (fun h => kt ((nI_ltI ha hb).mp h)) (fun h => kf (fun z => h ((nI_ltI ha hb).mpr z)))
theorem fm_z_lt (hX : fm_Ctx S Y X) {a : Nat} {off : Int} {tgt pq : Nat} (hd : decode Y.2.1 pc = .ok (.ifCond .lt off, 3)) (ht : (pc : Int) + off = (tgt : Int)) (hq : pc + 3 = pq) (ha : a < 2 ^ 31)
    (kt : a < 0 → fm_G S Y X M0 post tgt ls st M) (kf : ¬ (a < 0) → fm_G S Y X M0 post pq ls st M) : fm_G S Y X M0 post pc ls (.inl (nI a) :: st) M := by
  have hb : (0 : Nat) < 2 ^ 31 := by decide
  exact fm_if_lt hX hd ht hq (fun h => kt ((nI_ltI ha hb).mp (by rw [nI_0]; exact h))) (fun h => kf (fun z => h (by have := (nI_ltI ha hb).mpr z; rw [nI_0] at this; exact this)))
theorem fm_n_ge (hX : fm_Ctx S Y X) {a b : Nat} {off : Int} {tgt pq : Nat} (hd : decode Y.2.1 pc = .ok (.if_icmp .ge off, 3)) (ht : (pc : Int) + off = (tgt : Int)) (hq : pc + 3 = pq) (ha : a < 2 ^ 31) (hb : b < 2 ^ 31)
    (kt : b ≤ a → fm_G S Y X M0 post tgt ls st M) (kf : ¬ (b ≤ a) → fm_G S Y X M0 post pq ls st M) : fm_G S Y X M0 post pc ls (.inl (nI b) :: .inl (nI a) :: st) M :=
  fm_icmp_ge hX hd ht hq (fun h => kt ((nI_leI hb ha).mp h)) (fun h => kf (fun z => h ((nI_leI hb ha).mpr z)))
theorem fm_z_ge (hX : fm_Ctx S Y X) {a : Nat} {off : Int} {tgt pq : Nat} (hd : decode Y.2.1 pc = .ok (.ifCond .ge off, 3)) (ht : (pc : Int) + off = (tgt : Int)) (hq : pc + 3 = pq) (ha : a < 2 ^ 31)
    (kt : 0 ≤ a → fm_G S Y X M0 post tgt ls st M) (kf : ¬ (0 ≤ a) → fm_G S Y X M0 post pq ls st M) : fm_G S Y X M0 post pc ls (.inl (nI a) :: st) M := by
  have hb : (0 : Nat) < 2 ^ 31 := by decide
  exact fm_if_ge hX hd ht hq (fun h => kt ((nI_leI hb ha).mp (by rw [nI_0]; exact h))) (fun h => kf (fun z => h (by have := (nI_leI hb ha).mpr z; rw [nI_0] at this; exact this)))
theorem fm_n_gt (hX : fm_Ctx S Y X) {a b : Nat} {off : Int} {tgt pq : Nat} (hd : decode Y.2.1 pc = .ok (.if_icmp .gt off, 3)) (ht : (pc : Int) + off = (tgt : Int)) (hq : pc + 3 = pq) (ha : a < 2 ^ 31) (hb : b < 2 ^ 31)
    (kt : b < a → fm_G S Y X M0 post tgt ls st M) (kf : ¬ (b < a) → fm_G S Y X M0 post pq ls st M) : fm_G S Y X M0 post pc ls (.inl (nI b) :: .inl (nI a) :: st) M :=
  fm_icmp_gt hX hd ht hq (fun h => kt ((nI_ltI hb ha).mp h)) (fun h => kf (fun z => h ((nI_ltI hb ha).mpr z)))
theorem fm_z_gt (hX : fm_Ctx S Y X) {a : Nat} {off : Int} {tgt pq : Nat} (hd : decode Y.2.1 pc = .ok (.ifCond .gt off, 3)) (ht : (pc : Int) + off = (tgt : Int)) (hq : pc + 3 = pq) (ha : a < 2 ^ 31)
    (kt : 0 < a → fm_G S Y X M0 post tgt ls st M) (kf : ¬ (0 < a) → fm_G S Y X M0 post pq ls st M) : fm_G S Y X M0 post pc ls (.inl (nI a) :: st) M := by
  have hb : (0 : Nat) < 2 ^ 31 := by decide
  exact fm_if_gt hX hd ht hq (fun h => kt ((nI_ltI hb ha).mp (by rw [nI_0]; exact h))) (fun h => kf (fun z => h (by have := (nI_ltI hb ha).mpr z; rw [nI_0] at this; exact this)))
theorem fm_n_le (hX : fm_Ctx S Y X) {a b : Nat} {off : Int} {tgt pq : Nat} (hd : decode Y.2.1 pc = .ok (.if_icmp .le off, 3)) (ht : (pc : Int) + off = (tgt : Int)) (hq : pc + 3 = pq) (ha : a < 2 ^ 31) (hb : b < 2 ^ 31)
    (kt : a ≤ b → fm_G S Y X M0 post tgt ls st M) (kf : ¬ (a ≤ b) → fm_G S Y X M0 post pq ls st M) : fm_G S Y X M0 post pc ls (.inl (nI b) :: .inl (nI a) :: st) M :=
  fm_icmp_le hX hd ht hq (fun h => kt ((nI_leI ha hb).mp h)) (fun h => kf (fun z => h ((nI_leI ha hb).mpr z)))
theorem fm_z_le (hX : fm_Ctx S Y X) {a : Nat} {off : Int} {tgt pq : Nat} (hd : decode Y.2.1 pc = .ok (.ifCond .le off, 3)) (ht : (pc : Int) + off = (tgt : Int)) (hq : pc + 3 = pq) (ha : a < 2 ^ 31)
    (kt : a ≤ 0 → fm_G S Y X M0 post tgt ls st M) (kf : ¬ (a ≤ 0) → fm_G S Y X M0 post pq ls st M) : fm_G S Y X M0 post pc ls (.inl (nI a) :: st) M := by
  have hb : (0 : Nat) < 2 ^ 31 := by decide
  exact fm_if_le hX hd ht hq (fun h => kt ((nI_leI ha hb).mp (by rw [nI_0]; exact h))) (fun h => kf (fun z => h (by have := (nI_leI ha hb).mpr z; rw [nI_0] at this; exact this)))
theorem fm_b1_eq (hX : fm_Ctx S Y X) {b : Bool} {off : Int} {tgt pq : Nat} (hd : decode Y.2.1 pc = .ok (.ifCond .eq off, 3)) (ht : (pc : Int) + off = (tgt : Int)) (hq : pc + 3 = pq)
    (kt : b = false → fm_G S Y X M0 post tgt ls st M) (kf : b = true → fm_G S Y X M0 post pq ls st M) : fm_G S Y X M0 post pc ls (.inl (bI b) :: st) M := by
  refine fm_if_eq hX hd ht hq (fun h => kt ?_) (fun h => kf ?_)
  all_goals (cases hb : (b) <;> rw [hb] at h <;> first | exact (fun h => h) hb | exact (fun h => h) hb | exact absurd h (by decide))
theorem fm_b2_eq0 (hX : fm_Ctx S Y X) {b : Bool} {off : Int} {tgt pq : Nat} (hd : decode Y.2.1 pc = .ok (.if_icmp .eq off, 3)) (ht : (pc : Int) + off = (tgt : Int)) (hq : pc + 3 = pq)
    (kt : b = false → fm_G S Y X M0 post tgt ls st M) (kf : b = true → fm_G S Y X M0 post pq ls st M) : fm_G S Y X M0 post pc ls (.inl (nI 0) :: .inl (bI b) :: st) M := by
  refine fm_icmp_eq hX hd ht hq (fun h => kt ?_) (fun h => kf ?_)
  all_goals (cases hb : (b) <;> rw [hb] at h <;> first | exact (fun h => h) hb | exact (fun h => h) hb | exact absurd h (by decide))
theorem fm_b2_eq1 (hX : fm_Ctx S Y X) {b : Bool} {off : Int} {tgt pq : Nat} (hd : decode Y.2.1 pc = .ok (.if_icmp .eq off, 3)) (ht : (pc : Int) + off = (tgt : Int)) (hq : pc + 3 = pq)
    (kt : b = true → fm_G S Y X M0 post tgt ls st M) (kf : b = false → fm_G S Y X M0 post pq ls st M) : fm_G S Y X M0 post pc ls (.inl (nI 1) :: .inl (bI b) :: st) M := by
  refine fm_icmp_eq hX hd ht hq (fun h => kt ?_) (fun h => kf ?_)
  all_goals (cases hb : (b) <;> rw [hb] at h <;> first | exact (fun h => h) hb | exact (fun h => h) hb | exact absurd h (by decide))
theorem fm_b1_ne (hX : fm_Ctx S Y X) {b : Bool} {off : Int} {tgt pq : Nat} (hd : decode Y.2.1 pc = .ok (.ifCond .ne off, 3)) (ht : (pc : Int) + off = (tgt : Int)) (hq : pc + 3 = pq)
    (kt : b = true → fm_G S Y X M0 post tgt ls st M) (kf : b = false → fm_G S Y X M0 post pq ls st M) : fm_G S Y X M0 post pc ls (.inl (bI b) :: st) M := by
  refine fm_if_ne hX hd ht hq (fun h => kt ?_) (fun h => kf ?_)
  all_goals (cases hb : (b) <;> rw [hb] at h <;> first | exact (fun h => h) hb | exact (fun h => h) hb | exact absurd h (by decide))
theorem fm_b2_ne0 (hX : fm_Ctx S Y X) {b : Bool} {off : Int} {tgt pq : Nat} (hd : decode Y.2.1 pc = .ok (.if_icmp .ne off, 3)) (ht : (pc : Int) + off = (tgt : Int)) (hq : pc + 3 = pq)
    (kt : b = true → fm_G S Y X M0 post tgt ls st M) (kf : b = false → fm_G S Y X M0 post pq ls st M) : fm_G S Y X M0 post pc ls (.inl (nI 0) :: .inl (bI b) :: st) M := by
  refine fm_icmp_ne hX hd ht hq (fun h => kt ?_) (fun h => kf ?_)
  all_goals (cases hb : (b) <;> rw [hb] at h <;> first | exact (fun h => h) hb | exact (fun h => h) hb | exact absurd h (by decide))
theorem fm_b2_ne1 (hX : fm_Ctx S Y X) {b : Bool} {off : Int} {tgt pq : Nat} (hd : decode Y.2.1 pc = .ok (.if_icmp .ne off, 3)) (ht : (pc : Int) + off = (tgt : Int)) (hq : pc + 3 = pq)
    (kt : b = false → fm_G S Y X M0 post tgt ls st M) (kf : b = true → fm_G S Y X M0 post pq ls st M) : fm_G S Y X M0 post pc ls (.inl (nI 1) :: .inl (bI b) :: st) M := by
  refine fm_icmp_ne hX hd ht hq (fun h => kt ?_) (fun h => kf ?_)
  all_goals (cases hb : (b) <;> rw [hb] at h <;> first | exact (fun h => h) hb | exact (fun h => h) hb | exact absurd h (by decide))
theorem fm_p1_eq (hX : fm_Ctx S Y X) {p : Prop} [Decidable p] {off : Int} {tgt pq : Nat} (hd : decode Y.2.1 pc = .ok (.ifCond .eq off, 3)) (ht : (pc : Int) + off = (tgt : Int)) (hq : pc + 3 = pq)
    (kt : ¬ p → fm_G S Y X M0 post tgt ls st M) (kf : p → fm_G S Y X M0 post pq ls st M) : fm_G S Y X M0 post pc ls (.inl (bI (decide p)) :: st) M := by
  refine fm_if_eq hX hd ht hq (fun h => kt ?_) (fun h => kf ?_)
  all_goals (cases hb : (decide p) <;> rw [hb] at h <;> first | exact of_decide_eq_true hb | exact of_decide_eq_false hb | exact absurd h (by decide))
theorem fm_p2_eq0 (hX : fm_Ctx S Y X) {p : Prop} [Decidable p] {off : Int} {tgt pq : Nat} (hd : decode Y.2.1 pc = .ok (.if_icmp .eq off, 3)) (ht : (pc : Int) + off = (tgt : Int)) (hq : pc + 3 = pq)
    (kt : ¬ p → fm_G S Y X M0 post tgt ls st M) (kf : p → fm_G S Y X M0 post pq ls st M) : fm_G S Y X M0 post pc ls (.inl (nI 0) :: .inl (bI (decide p)) :: st) M := by
  refine fm_icmp_eq hX hd ht hq (fun h => kt ?_) (fun h => kf ?_)
  all_goals (cases hb : (decide p) <;> rw [hb] at h <;> first | exact of_decide_eq_true hb | exact of_decide_eq_false hb | exact absurd h (by decide))
theorem fm_p2_eq1 (hX : fm_Ctx S Y X) {p : Prop} [Decidable p] {off : Int} {tgt pq : Nat} (hd : decode Y.2.1 pc = .ok (.if_icmp .eq off, 3)) (ht : (pc : Int) + off = (tgt : Int)) (hq : pc + 3 = pq)
    (kt : p → fm_G S Y X M0 post tgt ls st M) (kf : ¬ p → fm_G S Y X M0 post pq ls st M) : fm_G S Y X M0 post pc ls (.inl (nI 1) :: .inl (bI (decide p)) :: st) M := by
  refine fm_icmp_eq hX hd ht hq (fun h => kt ?_) (fun h => kf ?_)
  all_goals (cases hb : (decide p) <;> rw [hb] at h <;> first | exact of_decide_eq_true hb | exact of_decide_eq_false hb | exact absurd h (by decide))
theorem fm_p1_ne (hX : fm_Ctx S Y X) {p : Prop} [Decidable p] {off : Int} {tgt pq : Nat} (hd : decode Y.2.1 pc = .ok (.ifCond .ne off, 3)) (ht : (pc : Int) + off = (tgt : Int)) (hq : pc + 3 = pq)
    (kt : p → fm_G S Y X M0 post tgt ls st M) (kf : ¬ p → fm_G S Y X M0 post pq ls st M) : fm_G S Y X M0 post pc ls (.inl (bI (decide p)) :: st) M := by
  refine fm_if_ne hX hd ht hq (fun h => kt ?_) (fun h => kf ?_)
  all_goals (cases hb : (decide p) <;> rw [hb] at h <;> first | exact of_decide_eq_true hb | exact of_decide_eq_false hb | exact absurd h (by decide))
theorem fm_p2_ne0 (hX : fm_Ctx S Y X) {p : Prop} [Decidable p] {off : Int} {tgt pq : Nat} (hd : decode Y.2.1 pc = .ok (.if_icmp .ne off, 3)) (ht : (pc : Int) + off = (tgt : Int)) (hq : pc + 3 = pq)
    (kt : p → fm_G S Y X M0 post tgt ls st M) (kf : ¬ p → fm_G S Y X M0 post pq ls st M) : fm_G S Y X M0 post pc ls (.inl (nI 0) :: .inl (bI (decide p)) :: st) M := by
  refine fm_icmp_ne hX hd ht hq (fun h => kt ?_) (fun h => kf ?_)
  all_goals (cases hb : (decide p) <;> rw [hb] at h <;> first | exact of_decide_eq_true hb | exact of_decide_eq_false hb | exact absurd h (by decide))
theorem fm_p2_ne1 (hX : fm_Ctx S Y X) {p : Prop} [Decidable p] {off : Int} {tgt pq : Nat} (hd : decode Y.2.1 pc = .ok (.if_icmp .ne off, 3)) (ht : (pc : Int) + off = (tgt : Int)) (hq : pc + 3 = pq)
    (kt : ¬ p → fm_G S Y X M0 post tgt ls st M) (kf : p → fm_G S Y X M0 post pq ls st M) : fm_G S Y X M0 post pc ls (.inl (nI 1) :: .inl (bI (decide p)) :: st) M := by
  refine fm_icmp_ne hX hd ht hq (fun h => kt ?_) (fun h => kf ?_)
  all_goals (cases hb : (decide p) <;> rw [hb] at h <;> first | exact of_decide_eq_true hb | exact of_decide_eq_false hb | exact absurd h (by decide))
end FM
end
section
/-! NAMES: classes, fields in the order of their slots, methods, the words of both systems (written by program) -/
def nC : String := "EscapeMill$Code"
def tC : u_T := fun k => match k with
  | 0 => ("EscapeMill$Code", "ops", "[I", true)
  | 1 => ("EscapeMill$Code", "xs", "[I", true)
  | 2 => ("EscapeMill$Code", "ys", "[I", true)
  | 3 => ("EscapeMill$Code", "zs", "[I", true)
  | 4 => ("EscapeMill$Code", "ns", "[I", true)
  | 5 => ("EscapeMill$Code", "size", "I", false)
  | _ => ("EscapeMill$Code", "inputs", "I", false)
def uC : Nat → FieldType := fun k => match k with
  | 0 => .array .int
  | 1 => .array .int
  | 2 => .array .int
  | 3 => .array .int
  | 4 => .array .int
  | 5 => .int
  | _ => .int
theorem nmC : ∀ a, a < 7 → ∀ b, b < 7 → a ≠ b → (tC a).2.1 ≠ (tC b).2.1 := by decide +kernel
theorem tyC : ∀ k, k < 7 → parseFieldDescriptor (tC k).2.2.1 = some (uC k) := by decide +kernel
def nF : String := "EscapeMill$Facts"
def tF : u_T := fun k => match k with
  | 0 => ("EscapeMill$Facts", "mayBe", "[I", true)
  | 1 => ("EscapeMill$Facts", "held", "[[I", true)
  | 2 => ("EscapeMill$Facts", "states", "[I", true)
  | 3 => ("EscapeMill$Facts", "mixed", "[Z", true)
  | 4 => ("EscapeMill$Facts", "given", "I", false)
  | 5 => ("EscapeMill$Facts", "fromWorld", "I", false)
  | 6 => ("EscapeMill$Facts", "fromCaller", "I", false)
  | _ => ("EscapeMill$Facts", "grown", "Z", false)
def uF : Nat → FieldType := fun k => match k with
  | 0 => .array .int
  | 1 => .array (.array .int)
  | 2 => .array .int
  | 3 => .array .boolean
  | 4 => .int
  | 5 => .int
  | 6 => .int
  | _ => .boolean
theorem nmF : ∀ a, a < 8 → ∀ b, b < 8 → a ≠ b → (tF a).2.1 ≠ (tF b).2.1 := by decide +kernel
theorem tyF : ∀ k, k < 8 → parseFieldDescriptor (tF k).2.2.1 = some (uF k) := by decide +kernel
def nM : String := "EscapeMill$Machine"
def tM : u_T := fun k => match k with
  | 0 => ("EscapeMill$Machine", "refs", "[I", true)
  | 1 => ("EscapeMill$Machine", "ints", "[I", true)
  | 2 => ("EscapeMill$Machine", "counts", "[I", true)
  | 3 => ("EscapeMill$Machine", "globals", "[I", true)
  | 4 => ("EscapeMill$Machine", "methods", "[I", true)
  | 5 => ("EscapeMill$Machine", "places", "[I", true)
  | 6 => ("EscapeMill$Machine", "targets", "[I", true)
  | 7 => ("EscapeMill$Machine", "rs", "[I", true)
  | 8 => ("EscapeMill$Machine", "is", "[I", true)
  | 9 => ("EscapeMill$Machine", "running", "I", false)
  | 10 => ("EscapeMill$Machine", "kept", "[I", true)
  | 11 => ("EscapeMill$Machine", "failure", "I", false)
  | 12 => ("EscapeMill$Machine", "showed", "I", false)
  | 13 => ("EscapeMill$Machine", "done", "I", false)
  | 14 => ("EscapeMill$Machine", "made", "I", false)
  | _ => ("EscapeMill$Machine", "locked", "I", false)
def uM : Nat → FieldType := fun k => match k with
  | 0 => .array .int
  | 1 => .array .int
  | 2 => .array .int
  | 3 => .array .int
  | 4 => .array .int
  | 5 => .array .int
  | 6 => .array .int
  | 7 => .array .int
  | 8 => .array .int
  | 9 => .int
  | 10 => .array .int
  | 11 => .int
  | 12 => .int
  | 13 => .int
  | 14 => .int
  | _ => .int
theorem nmM : ∀ a, a < 16 → ∀ b, b < 16 → a ≠ b → (tM a).2.1 ≠ (tM b).2.1 := by decide +kernel
theorem tyM : ∀ k, k < 16 → parseFieldDescriptor (tM k).2.2.1 = some (uM k) := by decide +kernel
def nP : String := "EscapeMill$Plan"
def tP : u_T := fun k => match k with
  | _ => ("EscapeMill$Plan", "fates", "[I", true)
def uP : Nat → FieldType := fun k => match k with
  | _ => .array .int
theorem nmP : ∀ a, a < 1 → ∀ b, b < 1 → a ≠ b → (tP a).2.1 ≠ (tP b).2.1 := by decide +kernel
theorem tyP : ∀ k, k < 1 → parseFieldDescriptor (tP k).2.2.1 = some (uP k) := by decide +kernel
def nE : String := "EscapeMill"
def tE : u_T := fun k => match k with
  | 0 => ("EscapeMill", "codes", "[LEscapeMill$Code;", true)
  | 1 => ("EscapeMill", "facts", "[LEscapeMill$Facts;", true)
  | 2 => ("EscapeMill", "plans", "[LEscapeMill$Plan;", true)
  | 3 => ("EscapeMill", "machine", "LEscapeMill$Machine;", true)
  | _ => ("EscapeMill", "stale", "Z", false)
def uE : Nat → FieldType := fun k => match k with
  | 0 => .array (.object "EscapeMill$Code")
  | 1 => .array (.object "EscapeMill$Facts")
  | 2 => .array (.object "EscapeMill$Plan")
  | 3 => .object "EscapeMill$Machine"
  | _ => .boolean
theorem nmE : ∀ a, a < 5 → ∀ b, b < 5 → a ≠ b → (tE a).2.1 ≠ (tE b).2.1 := by decide +kernel
theorem tyE : ∀ k, k < 5 → parseFieldDescriptor (tE k).2.2.1 = some (uE k) := by decide +kernel
def nR : String := "EscapeMillModel"
def tR : u_T := fun k => match k with
  | 0 => ("EscapeMillModel", "threw", "I", false)
  | 1 => ("EscapeMillModel", "params", "[I", true)
  | 2 => ("EscapeMillModel", "lengths", "[I", true)
  | 3 => ("EscapeMillModel", "op", "[I", true)
  | 4 => ("EscapeMillModel", "xs", "[I", true)
  | 5 => ("EscapeMillModel", "ys", "[I", true)
  | 6 => ("EscapeMillModel", "zs", "[I", true)
  | 7 => ("EscapeMillModel", "ns", "[I", true)
  | 8 => ("EscapeMillModel", "known", "Z", false)
  | 9 => ("EscapeMillModel", "may", "[I", true)
  | 10 => ("EscapeMillModel", "hold", "[I", true)
  | 11 => ("EscapeMillModel", "given", "[I", true)
  | 12 => ("EscapeMillModel", "summary", "[I", true)
  | 13 => ("EscapeMillModel", "open", "[Z", true)
  | 14 => ("EscapeMillModel", "running", "I", false)
  | 15 => ("EscapeMillModel", "method", "[I", true)
  | 16 => ("EscapeMillModel", "place", "[I", true)
  | 17 => ("EscapeMillModel", "goal", "[I", true)
  | 18 => ("EscapeMillModel", "refs", "[I", true)
  | 19 => ("EscapeMillModel", "ints", "[I", true)
  | 20 => ("EscapeMillModel", "parts", "[I", true)
  | 21 => ("EscapeMillModel", "objects", "[I", true)
  | 22 => ("EscapeMillModel", "made", "I", false)
  | 23 => ("EscapeMillModel", "globals", "[I", true)
  | 24 => ("EscapeMillModel", "failure", "I", false)
  | 25 => ("EscapeMillModel", "shows", "I", false)
  | 26 => ("EscapeMillModel", "done", "I", false)
  | 27 => ("EscapeMillModel", "locks", "I", false)
  | 28 => ("EscapeMillModel", "shown", "[I", true)
  | _ => ("EscapeMillModel", "fates", "[I", true)
def uR : Nat → FieldType := fun k => match k with
  | 0 => .int
  | 1 => .array .int
  | 2 => .array .int
  | 3 => .array .int
  | 4 => .array .int
  | 5 => .array .int
  | 6 => .array .int
  | 7 => .array .int
  | 8 => .boolean
  | 9 => .array .int
  | 10 => .array .int
  | 11 => .array .int
  | 12 => .array .int
  | 13 => .array .boolean
  | 14 => .int
  | 15 => .array .int
  | 16 => .array .int
  | 17 => .array .int
  | 18 => .array .int
  | 19 => .array .int
  | 20 => .array .int
  | 21 => .array .int
  | 22 => .int
  | 23 => .array .int
  | 24 => .int
  | 25 => .int
  | 26 => .int
  | 27 => .int
  | 28 => .array .int
  | _ => .array .int
theorem nmR : ∀ a, a < 30 → ∀ b, b < 30 → a ≠ b → (tR a).2.1 ≠ (tR b).2.1 := by decide +kernel
theorem tyR : ∀ k, k < 30 → parseFieldDescriptor (tR k).2.2.1 = some (uR k) := by decide +kernel
def nA : String := "java/util/Arrays"
abbrev vwA : List vw_C := [(nC, tC, 7), (nF, tF, 8), (nM, tM, 16), (nP, tP, 1), (nE, tE, 5), (nR, tR, 30)]
abbrev b_E_init : ByteArray := prog_1_method_1_code
def y_E_init : MethodName := ⟨"EscapeMill", "<init>", "()V"⟩
abbrev b_M_init : ByteArray := prog_4_method_1_code
def y_M_init : MethodName := ⟨"EscapeMill$Machine", "<init>", "()V"⟩
abbrev b_C_init : ByteArray := prog_2_method_1_code
def y_C_init : MethodName := ⟨"EscapeMill$Code", "<init>", "()V"⟩
abbrev b_F_init : ByteArray := prog_3_method_1_code
def y_F_init : MethodName := ⟨"EscapeMill$Facts", "<init>", "()V"⟩
abbrev b_P_init : ByteArray := prog_5_method_1_code
def y_P_init : MethodName := ⟨"EscapeMill$Plan", "<init>", "()V"⟩
abbrev b_E_run : ByteArray := prog_1_method_5_code
def y_E_run : MethodName := ⟨"EscapeMill", "run", "(Z)I"⟩
abbrev b_E_settle : ByteArray := prog_1_method_16_code
def y_E_settle : MethodName := ⟨"EscapeMill", "settle", "()V"⟩
abbrev b_F_gather : ByteArray := prog_3_method_3_code
def y_F_gather : MethodName := ⟨"EscapeMill$Facts", "gather", "([LEscapeMill$Code;[LEscapeMill$Facts;I)V"⟩
abbrev b_F_forget : ByteArray := prog_3_method_4_code
def y_F_forget : MethodName := ⟨"EscapeMill$Facts", "forget", "()V"⟩
abbrev b_A_fill : ByteArray := prog_14_method_103_code
def y_A_fill : MethodName := ⟨"java/util/Arrays", "fill", "([II)V"⟩
abbrev b_F_begin : ByteArray := prog_3_method_5_code
def y_F_begin : MethodName := ⟨"EscapeMill$Facts", "begin", "(I)V"⟩
abbrev b_F_refer : ByteArray := prog_3_method_9_code
def y_F_refer : MethodName := ⟨"EscapeMill$Facts", "refer", "(II)V"⟩
abbrev b_F_holdInBoth : ByteArray := prog_3_method_11_code
def y_F_holdInBoth : MethodName := ⟨"EscapeMill$Facts", "holdInBoth", "(II)V"⟩
abbrev b_F_holdIn : ByteArray := prog_3_method_12_code
def y_F_holdIn : MethodName := ⟨"EscapeMill$Facts", "holdIn", "(III)V"⟩
abbrev b_F_applyCall : ByteArray := prog_3_method_7_code
def y_F_applyCall : MethodName := ⟨"EscapeMill$Facts", "applyCall", "([LEscapeMill$Code;[LEscapeMill$Facts;II)V"⟩
abbrev b_F_reached : ByteArray := prog_3_method_14_code
def y_F_reached : MethodName := ⟨"EscapeMill$Facts", "reached", "(I)I"⟩
abbrev b_F_heldBy : ByteArray := prog_3_method_13_code
def y_F_heldBy : MethodName := ⟨"EscapeMill$Facts", "heldBy", "(II)I"⟩
abbrev b_F_apply : ByteArray := prog_3_method_6_code
def y_F_apply : MethodName := ⟨"EscapeMill$Facts", "apply", "(LEscapeMill$Code;I)V"⟩
abbrev b_F_hold : ByteArray := prog_3_method_10_code
def y_F_hold : MethodName := ⟨"EscapeMill$Facts", "hold", "(III)V"⟩
abbrev b_F_sumUp : ByteArray := prog_3_method_8_code
def y_F_sumUp : MethodName := ⟨"EscapeMill$Facts", "sumUp", "(I)V"⟩
abbrev b_P_draw : ByteArray := prog_5_method_2_code
def y_P_draw : MethodName := ⟨"EscapeMill$Plan", "draw", "([LEscapeMill$Code;LEscapeMill$Facts;I)V"⟩
abbrev b_P_soleNew : ByteArray := prog_5_method_3_code
def y_P_soleNew : MethodName := ⟨"EscapeMill$Plan", "soleNew", "(LEscapeMill$Code;I)I"⟩
abbrev b_C_defines : ByteArray := prog_2_method_4_code
def y_C_defines : MethodName := ⟨"EscapeMill$Code", "defines", "(II)Z"⟩
abbrev b_C_reachedWithout : ByteArray := prog_2_method_8_code
def y_C_reachedWithout : MethodName := ⟨"EscapeMill$Code", "reachedWithout", "(I)I"⟩
abbrev b_C_bit : ByteArray := prog_2_method_10_code
def y_C_bit : MethodName := ⟨"EscapeMill$Code", "bit", "(I)I"⟩
abbrev b_C_has : ByteArray := prog_2_method_2_code
def y_C_has : MethodName := ⟨"EscapeMill$Code", "has", "(I)Z"⟩
abbrev b_C_behind : ByteArray := prog_2_method_9_code
def y_C_behind : MethodName := ⟨"EscapeMill$Code", "behind", "(I)I"⟩
abbrev b_C_jumps : ByteArray := prog_2_method_7_code
def y_C_jumps : MethodName := ⟨"EscapeMill$Code", "jumps", "(I)Z"⟩
abbrev b_P_staysInside : ByteArray := prog_5_method_4_code
def y_P_staysInside : MethodName := ⟨"EscapeMill$Plan", "staysInside", "([LEscapeMill$Code;II)Z"⟩
abbrev b_C_handsOn : ByteArray := prog_2_method_6_code
def y_C_handsOn : MethodName := ⟨"EscapeMill$Code", "handsOn", "(III)Z"⟩
abbrev b_P_isMadeFirst : ByteArray := prog_5_method_5_code
def y_P_isMadeFirst : MethodName := ⟨"EscapeMill$Plan", "isMadeFirst", "(LEscapeMill$Code;II)Z"⟩
abbrev b_C_worksOn : ByteArray := prog_2_method_5_code
def y_C_worksOn : MethodName := ⟨"EscapeMill$Code", "worksOn", "(II)Z"⟩
abbrev b_P_takeApart : ByteArray := prog_5_method_6_code
def y_P_takeApart : MethodName := ⟨"EscapeMill$Plan", "takeApart", "(LEscapeMill$Code;II)V"⟩
abbrev b_F_escapeOf : ByteArray := prog_3_method_2_code
def y_F_escapeOf : MethodName := ⟨"EscapeMill$Facts", "escapeOf", "(I)I"⟩
abbrev b_P_pairLocks : ByteArray := prog_5_method_7_code
def y_P_pairLocks : MethodName := ⟨"EscapeMill$Plan", "pairLocks", "(LEscapeMill$Code;II)V"⟩
abbrev b_P_partner : ByteArray := prog_5_method_8_code
def y_P_partner : MethodName := ⟨"EscapeMill$Plan", "partner", "(LEscapeMill$Code;I)I"⟩
abbrev b_P_isJumpedInto : ByteArray := prog_5_method_10_code
def y_P_isJumpedInto : MethodName := ⟨"EscapeMill$Plan", "isJumpedInto", "(LEscapeMill$Code;II)Z"⟩
abbrev b_P_endsPairing : ByteArray := prog_5_method_9_code
def y_P_endsPairing : MethodName := ⟨"EscapeMill$Plan", "endsPairing", "(I)Z"⟩
abbrev b_M_go : ByteArray := prog_4_method_2_code
def y_M_go : MethodName := ⟨"EscapeMill$Machine", "go", "([LEscapeMill$Code;[LEscapeMill$Plan;Z)I"⟩
abbrev b_M_begin : ByteArray := prog_4_method_3_code
def y_M_begin : MethodName := ⟨"EscapeMill$Machine", "begin", "()V"⟩
abbrev b_M_enter : ByteArray := prog_4_method_15_code
def y_M_enter : MethodName := ⟨"EscapeMill$Machine", "enter", "(IIII)V"⟩
abbrev b_M_base : ByteArray := prog_4_method_6_code
def y_M_base : MethodName := ⟨"EscapeMill$Machine", "base", "()I"⟩
abbrev b_M_leave : ByteArray := prog_4_method_16_code
def y_M_leave : MethodName := ⟨"EscapeMill$Machine", "leave", "(I)V"⟩
abbrev b_M_perform : ByteArray := prog_4_method_4_code
def y_M_perform : MethodName := ⟨"EscapeMill$Machine", "perform", "([LEscapeMill$Code;III)V"⟩
abbrev b_M_cellOf : ByteArray := prog_4_method_7_code
def y_M_cellOf : MethodName := ⟨"EscapeMill$Machine", "cellOf", "(I)I"⟩
abbrev b_M_workOnField : ByteArray := prog_4_method_11_code
def y_M_workOnField : MethodName := ⟨"EscapeMill$Machine", "workOnField", "(IIIII)V"⟩
abbrev b_M_changeCount : ByteArray := prog_4_method_12_code
def y_M_changeCount : MethodName := ⟨"EscapeMill$Machine", "changeCount", "(II)V"⟩
abbrev b_M_call : ByteArray := prog_4_method_14_code
def y_M_call : MethodName := ⟨"EscapeMill$Machine", "call", "([LEscapeMill$Code;II)V"⟩
abbrev b_M_newParts : ByteArray := prog_4_method_9_code
def y_M_newParts : MethodName := ⟨"EscapeMill$Machine", "newParts", "(I)I"⟩
abbrev b_M_emptied : ByteArray := prog_4_method_10_code
def y_M_emptied : MethodName := ⟨"EscapeMill$Machine", "emptied", "(I)I"⟩
abbrev b_M_newObject : ByteArray := prog_4_method_8_code
def y_M_newObject : MethodName := ⟨"EscapeMill$Machine", "newObject", "()I"⟩
abbrev b_M_move : ByteArray := prog_4_method_5_code
def y_M_move : MethodName := ⟨"EscapeMill$Machine", "move", "(LEscapeMill$Code;I)V"⟩
abbrev b_M_show : ByteArray := prog_4_method_13_code
def y_M_show : MethodName := ⟨"EscapeMill$Machine", "show", "(I)V"⟩
abbrev b_E_latest : ByteArray := prog_1_method_7_code
def y_E_latest : MethodName := ⟨"EscapeMill", "latest", "(I)I"⟩
abbrev b_E_escape : ByteArray := prog_1_method_8_code
def y_E_escape : MethodName := ⟨"EscapeMill", "escape", "(II)I"⟩
abbrev b_E_isMethod : ByteArray := prog_1_method_13_code
def y_E_isMethod : MethodName := ⟨"EscapeMill", "isMethod", "(I)Z"⟩
abbrev b_E_summary : ByteArray := prog_1_method_9_code
def y_E_summary : MethodName := ⟨"EscapeMill", "summary", "(II)I"⟩
abbrev b_E_fate : ByteArray := prog_1_method_10_code
def y_E_fate : MethodName := ⟨"EscapeMill", "fate", "(II)I"⟩
abbrev b_E_may : ByteArray := prog_1_method_11_code
def y_E_may : MethodName := ⟨"EscapeMill", "may", "(II)I"⟩
abbrev b_E_length : ByteArray := prog_1_method_12_code
def y_E_length : MethodName := ⟨"EscapeMill", "length", "(I)I"⟩
abbrev b_E_parameters : ByteArray := prog_1_method_2_code
def y_E_parameters : MethodName := ⟨"EscapeMill", "parameters", "(II)Z"⟩
abbrev b_E_put : ByteArray := prog_1_method_3_code
def y_E_put : MethodName := ⟨"EscapeMill", "put", "(IIIIII)I"⟩
abbrev b_E_isInstruction : ByteArray := prog_1_method_15_code
def y_E_isInstruction : MethodName := ⟨"EscapeMill", "isInstruction", "(IIIII)Z"⟩
abbrev b_E_isVariable : ByteArray := prog_1_method_14_code
def y_E_isVariable : MethodName := ⟨"EscapeMill", "isVariable", "(I)Z"⟩
abbrev b_C_append : ByteArray := prog_2_method_3_code
def y_C_append : MethodName := ⟨"EscapeMill$Code", "append", "(IIIII)I"⟩
abbrev b_E_clear : ByteArray := prog_1_method_4_code
def y_E_clear : MethodName := ⟨"EscapeMill", "clear", "(I)I"⟩
abbrev b_E_shown : ByteArray := prog_1_method_6_code
def y_E_shown : MethodName := ⟨"EscapeMill", "shown", "(I)I"⟩
abbrev b_R_init : ByteArray := prog_7_method_1_code
def y_R_init : MethodName := ⟨"EscapeMillModel", "<init>", "()V"⟩
abbrev b_R_thrown : ByteArray := prog_7_method_2_code
def y_R_thrown : MethodName := ⟨"EscapeMillModel", "thrown", "()I"⟩
abbrev b_R_parameters : ByteArray := prog_7_method_4_code
def y_R_parameters : MethodName := ⟨"EscapeMillModel", "parameters", "(II)Z"⟩
abbrev b_R_isMethod : ByteArray := prog_7_method_3_code
def y_R_isMethod : MethodName := ⟨"EscapeMillModel", "isMethod", "(I)Z"⟩
abbrev b_R_put : ByteArray := prog_7_method_6_code
def y_R_put : MethodName := ⟨"EscapeMillModel", "put", "(IIIIII)I"⟩
abbrev b_R_four : ByteArray := prog_7_method_5_code
def y_R_four : MethodName := ⟨"EscapeMillModel", "four", "(I)Z"⟩
abbrev b_R_clear : ByteArray := prog_7_method_7_code
def y_R_clear : MethodName := ⟨"EscapeMillModel", "clear", "(I)I"⟩
abbrev b_R_run : ByteArray := prog_7_method_36_code
def y_R_run : MethodName := ⟨"EscapeMillModel", "run", "(Z)I"⟩
abbrev b_R_know : ByteArray := prog_7_method_17_code
def y_R_know : MethodName := ⟨"EscapeMillModel", "know", "()V"⟩
abbrev b_R_analyse : ByteArray := prog_7_method_16_code
def y_R_analyse : MethodName := ⟨"EscapeMillModel", "analyse", "(I)V"⟩
abbrev b_R_holds : ByteArray := prog_7_method_9_code
def y_R_holds : MethodName := ⟨"EscapeMillModel", "holds", "(IIII)V"⟩
abbrev b_R_weight : ByteArray := prog_7_method_14_code
def y_R_weight : MethodName := ⟨"EscapeMillModel", "weight", "(I)I"⟩
abbrev b_R_adds : ByteArray := prog_7_method_13_code
def y_R_adds : MethodName := ⟨"EscapeMillModel", "adds", "(II)V"⟩
abbrev b_R_held : ByteArray := prog_7_method_10_code
def y_R_held : MethodName := ⟨"EscapeMillModel", "held", "(III)I"⟩
abbrev b_R_calls : ByteArray := prog_7_method_12_code
def y_R_calls : MethodName := ⟨"EscapeMillModel", "calls", "(II)V"⟩
abbrev b_R_reached : ByteArray := prog_7_method_8_code
def y_R_reached : MethodName := ⟨"EscapeMillModel", "reached", "(II)I"⟩
abbrev b_R_stateOf : ByteArray := prog_7_method_11_code
def y_R_stateOf : MethodName := ⟨"EscapeMillModel", "stateOf", "(III)I"⟩
abbrev b_R_fateOf : ByteArray := prog_7_method_27_code
def y_R_fateOf : MethodName := ⟨"EscapeMillModel", "fateOf", "(II)I"⟩
abbrev b_R_worksOn : ByteArray := prog_7_method_23_code
def y_R_worksOn : MethodName := ⟨"EscapeMillModel", "worksOn", "(III)Z"⟩
abbrev b_R_apart : ByteArray := prog_7_method_25_code
def y_R_apart : MethodName := ⟨"EscapeMillModel", "apart", "(II)Z"⟩
abbrev b_R_onlyNew : ByteArray := prog_7_method_22_code
def y_R_onlyNew : MethodName := ⟨"EscapeMillModel", "onlyNew", "(II)I"⟩
abbrev b_R_defines : ByteArray := prog_7_method_21_code
def y_R_defines : MethodName := ⟨"EscapeMillModel", "defines", "(I)Z"⟩
abbrev b_R_gives : ByteArray := prog_7_method_24_code
def y_R_gives : MethodName := ⟨"EscapeMillModel", "gives", "(III)Z"⟩
abbrev b_R_dominates : ByteArray := prog_7_method_20_code
def y_R_dominates : MethodName := ⟨"EscapeMillModel", "dominates", "(III)Z"⟩
abbrev b_R_isInstruction : ByteArray := prog_7_method_18_code
def y_R_isInstruction : MethodName := ⟨"EscapeMillModel", "isInstruction", "(II)Z"⟩
abbrev b_R_pair : ByteArray := prog_7_method_26_code
def y_R_pair : MethodName := ⟨"EscapeMillModel", "pair", "(III)Z"⟩
abbrev b_R_escapeOf : ByteArray := prog_7_method_19_code
def y_R_escapeOf : MethodName := ⟨"EscapeMillModel", "escapeOf", "(II)I"⟩
abbrev b_R_argsOf : ByteArray := prog_7_method_15_code
def y_R_argsOf : MethodName := ⟨"EscapeMillModel", "argsOf", "(I)I"⟩
abbrev b_R_enter : ByteArray := prog_7_method_28_code
def y_R_enter : MethodName := ⟨"EscapeMillModel", "enter", "(IIII)V"⟩
abbrev b_R_leave : ByteArray := prog_7_method_29_code
def y_R_leave : MethodName := ⟨"EscapeMillModel", "leave", "(I)V"⟩
abbrev b_R_does : ByteArray := prog_7_method_35_code
def y_R_does : MethodName := ⟨"EscapeMillModel", "does", "(II)V"⟩
abbrev b_R_makes : ByteArray := prog_7_method_32_code
def y_R_makes : MethodName := ⟨"EscapeMillModel", "makes", "(IZ)V"⟩
abbrev b_R_fields : ByteArray := prog_7_method_30_code
def y_R_fields : MethodName := ⟨"EscapeMillModel", "fields", "(IZ)V"⟩
abbrev b_R_set : ByteArray := prog_7_method_31_code
def y_R_set : MethodName := ⟨"EscapeMillModel", "set", "(ZII)V"⟩
abbrev b_R_call : ByteArray := prog_7_method_33_code
def y_R_call : MethodName := ⟨"EscapeMillModel", "call", "(I)V"⟩
abbrev b_R_moves : ByteArray := prog_7_method_34_code
def y_R_moves : MethodName := ⟨"EscapeMillModel", "moves", "(I)V"⟩
abbrev b_R_shown : ByteArray := prog_7_method_37_code
def y_R_shown : MethodName := ⟨"EscapeMillModel", "shown", "(I)I"⟩
abbrev b_R_latest : ByteArray := prog_7_method_38_code
def y_R_latest : MethodName := ⟨"EscapeMillModel", "latest", "(I)I"⟩
abbrev b_R_escape : ByteArray := prog_7_method_39_code
def y_R_escape : MethodName := ⟨"EscapeMillModel", "escape", "(II)I"⟩
abbrev b_R_summary : ByteArray := prog_7_method_40_code
def y_R_summary : MethodName := ⟨"EscapeMillModel", "summary", "(II)I"⟩
abbrev b_R_fate : ByteArray := prog_7_method_41_code
def y_R_fate : MethodName := ⟨"EscapeMillModel", "fate", "(II)I"⟩
abbrev b_R_may : ByteArray := prog_7_method_42_code
def y_R_may : MethodName := ⟨"EscapeMillModel", "may", "(II)I"⟩
abbrev b_R_length : ByteArray := prog_7_method_43_code
def y_R_length : MethodName := ⟨"EscapeMillModel", "length", "(I)I"⟩
def wA_0 : List Cond := [(Cond.initialized "EscapeMill"), (Cond.initialized "EscapeMill$Machine"), (Cond.initialized "EscapeMill$Code"), (Cond.initialized "EscapeMill$Facts"), (Cond.initialized "EscapeMill$Plan"), (Cond.initialized "EscapeMillModel"), (Cond.initialized "java/util/Arrays"), (Cond.instanceMethod y_E_init), (Cond.code y_E_init b_E_init 2 none), (Cond.methodLink "EscapeMill" 3 (⟨"java/lang/Object", "<init>", "()V"⟩ : MethodName)), (Cond.instanceMethod y_M_init), (Cond.code y_M_init b_M_init 1 none), (Cond.methodLink "EscapeMill$Machine" 5 (⟨"java/lang/Object", "<init>", "()V"⟩ : MethodName)), (Cond.fieldLink "EscapeMill$Machine" 11 "EscapeMill$Machine" "refs" "[I"), (Cond.fieldLink "EscapeMill$Machine" 15 "EscapeMill$Machine" "ints" "[I"), (Cond.fieldLink "EscapeMill$Machine" 18 "EscapeMill$Machine" "counts" "[I"), (Cond.fieldLink "EscapeMill$Machine" 21 "EscapeMill$Machine" "globals" "[I"), (Cond.fieldLink "EscapeMill$Machine" 24 "EscapeMill$Machine" "methods" "[I"), (Cond.fieldLink "EscapeMill$Machine" 27 "EscapeMill$Machine" "places" "[I"), (Cond.fieldLink "EscapeMill$Machine" 30 "EscapeMill$Machine" "targets" "[I"), (Cond.fieldLink "EscapeMill$Machine" 33 "EscapeMill$Machine" "rs" "[I"), (Cond.fieldLink "EscapeMill$Machine" 36 "EscapeMill$Machine" "is" "[I"), (Cond.fieldLink "EscapeMill$Machine" 39 "EscapeMill$Machine" "running" "I"), (Cond.fieldLink "EscapeMill$Machine" 43 "EscapeMill$Machine" "kept" "[I"), (Cond.fieldLink "EscapeMill" 79 "EscapeMill$Machine" "kept" "[I"), (Cond.fieldLink "EscapeMill$Machine" 46 "EscapeMill$Machine" "failure" "I"), (Cond.fieldLink "EscapeMill" 83 "EscapeMill$Machine" "failure" "I"), (Cond.fieldLink "EscapeMill$Machine" 49 "EscapeMill$Machine" "showed" "I"), (Cond.fieldLink "EscapeMill" 73 "EscapeMill$Machine" "showed" "I"), (Cond.fieldLink "EscapeMill$Machine" 52 "EscapeMill$Machine" "done" "I"), (Cond.fieldLink "EscapeMill" 86 "EscapeMill$Machine" "done" "I"), (Cond.fieldLink "EscapeMill$Machine" 55 "EscapeMill$Machine" "made" "I"), (Cond.fieldLink "EscapeMill" 89 "EscapeMill$Machine" "made" "I"), (Cond.fieldLink "EscapeMill$Machine" 58 "EscapeMill$Machine" "locked" "I"), (Cond.fieldLink "EscapeMill" 92 "EscapeMill$Machine" "locked" "I"), (Cond.laysFinal "EscapeMill$Machine" "EscapeMill$Machine" "refs" "[I"), (Cond.laysFinal "EscapeMill$Machine" "EscapeMill$Machine" "ints" "[I"), (Cond.laysFinal "EscapeMill$Machine" "EscapeMill$Machine" "counts" "[I"), (Cond.laysFinal "EscapeMill$Machine" "EscapeMill$Machine" "globals" "[I"), (Cond.laysFinal "EscapeMill$Machine" "EscapeMill$Machine" "methods" "[I")]
def wA_1 : List Cond := [(Cond.laysFinal "EscapeMill$Machine" "EscapeMill$Machine" "places" "[I"), (Cond.laysFinal "EscapeMill$Machine" "EscapeMill$Machine" "targets" "[I"), (Cond.laysFinal "EscapeMill$Machine" "EscapeMill$Machine" "rs" "[I"), (Cond.laysFinal "EscapeMill$Machine" "EscapeMill$Machine" "is" "[I"), (Cond.lays "EscapeMill$Machine" "EscapeMill$Machine" "running" "I"), (Cond.laysFinal "EscapeMill$Machine" "EscapeMill$Machine" "kept" "[I"), (Cond.lays "EscapeMill$Machine" "EscapeMill$Machine" "failure" "I"), (Cond.lays "EscapeMill$Machine" "EscapeMill$Machine" "showed" "I"), (Cond.lays "EscapeMill$Machine" "EscapeMill$Machine" "done" "I"), (Cond.lays "EscapeMill$Machine" "EscapeMill$Machine" "made" "I"), (Cond.lays "EscapeMill$Machine" "EscapeMill$Machine" "locked" "I"), (Cond.instanceMethod y_C_init), (Cond.code y_C_init b_C_init 1 none), (Cond.methodLink "EscapeMill$Code" 3 (⟨"java/lang/Object", "<init>", "()V"⟩ : MethodName)), (Cond.fieldLink "EscapeMill$Code" 9 "EscapeMill$Code" "ops" "[I"), (Cond.fieldLink "EscapeMill$Plan" 62 "EscapeMill$Code" "ops" "[I"), (Cond.fieldLink "EscapeMill$Facts" 56 "EscapeMill$Code" "ops" "[I"), (Cond.fieldLink "EscapeMill$Machine" 93 "EscapeMill$Code" "ops" "[I"), (Cond.fieldLink "EscapeMill" 98 "EscapeMill$Code" "ops" "[I"), (Cond.fieldLink "EscapeMill$Code" 15 "EscapeMill$Code" "xs" "[I"), (Cond.fieldLink "EscapeMill$Machine" 96 "EscapeMill$Code" "xs" "[I"), (Cond.fieldLink "EscapeMill$Facts" 85 "EscapeMill$Code" "xs" "[I"), (Cond.fieldLink "EscapeMill$Plan" 75 "EscapeMill$Code" "xs" "[I"), (Cond.fieldLink "EscapeMill$Code" 18 "EscapeMill$Code" "ys" "[I"), (Cond.fieldLink "EscapeMill$Machine" 99 "EscapeMill$Code" "ys" "[I"), (Cond.fieldLink "EscapeMill$Facts" 88 "EscapeMill$Code" "ys" "[I"), (Cond.fieldLink "EscapeMill$Code" 21 "EscapeMill$Code" "zs" "[I"), (Cond.fieldLink "EscapeMill$Machine" 102 "EscapeMill$Code" "zs" "[I"), (Cond.fieldLink "EscapeMill$Facts" 91 "EscapeMill$Code" "zs" "[I"), (Cond.fieldLink "EscapeMill$Code" 24 "EscapeMill$Code" "ns" "[I"), (Cond.fieldLink "EscapeMill$Plan" 65 "EscapeMill$Code" "ns" "[I"), (Cond.fieldLink "EscapeMill$Machine" 121 "EscapeMill$Code" "ns" "[I"), (Cond.fieldLink "EscapeMill$Facts" 102 "EscapeMill$Code" "ns" "[I"), (Cond.fieldLink "EscapeMill$Code" 27 "EscapeMill$Code" "size" "I"), (Cond.fieldLink "EscapeMill$Plan" 55 "EscapeMill$Code" "size" "I"), (Cond.fieldLink "EscapeMill$Facts" 44 "EscapeMill$Code" "size" "I"), (Cond.fieldLink "EscapeMill" 56 "EscapeMill$Code" "size" "I"), (Cond.fieldLink "EscapeMill$Machine" 144 "EscapeMill$Code" "size" "I"), (Cond.fieldLink "EscapeMill$Code" 31 "EscapeMill$Code" "inputs" "I"), (Cond.fieldLink "EscapeMill$Plan" 21 "EscapeMill$Code" "inputs" "I")]
def wA_2 : List Cond := [(Cond.fieldLink "EscapeMill" 48 "EscapeMill$Code" "inputs" "I"), (Cond.fieldLink "EscapeMill$Facts" 49 "EscapeMill$Code" "inputs" "I"), (Cond.fieldLink "EscapeMill$Machine" 147 "EscapeMill$Code" "inputs" "I"), (Cond.laysFinal "EscapeMill$Code" "EscapeMill$Code" "ops" "[I"), (Cond.laysFinal "EscapeMill$Code" "EscapeMill$Code" "xs" "[I"), (Cond.laysFinal "EscapeMill$Code" "EscapeMill$Code" "ys" "[I"), (Cond.laysFinal "EscapeMill$Code" "EscapeMill$Code" "zs" "[I"), (Cond.laysFinal "EscapeMill$Code" "EscapeMill$Code" "ns" "[I"), (Cond.lays "EscapeMill$Code" "EscapeMill$Code" "size" "I"), (Cond.lays "EscapeMill$Code" "EscapeMill$Code" "inputs" "I"), (Cond.instanceMethod y_F_init), (Cond.code y_F_init b_F_init 1 none), (Cond.methodLink "EscapeMill$Facts" 3 (⟨"java/lang/Object", "<init>", "()V"⟩ : MethodName)), (Cond.fieldLink "EscapeMill$Facts" 9 "EscapeMill$Facts" "mayBe" "[I"), (Cond.fieldLink "EscapeMill" 111 "EscapeMill$Facts" "mayBe" "[I"), (Cond.fieldLink "EscapeMill$Facts" 17 "EscapeMill$Facts" "held" "[[I"), (Cond.fieldLink "EscapeMill$Facts" 20 "EscapeMill$Facts" "states" "[I"), (Cond.fieldLink "EscapeMill" 105 "EscapeMill$Facts" "states" "[I"), (Cond.fieldLink "EscapeMill$Facts" 23 "EscapeMill$Facts" "mixed" "[Z"), (Cond.fieldLink "EscapeMill$Facts" 27 "EscapeMill$Facts" "given" "I"), (Cond.fieldLink "EscapeMill$Facts" 31 "EscapeMill$Facts" "fromWorld" "I"), (Cond.fieldLink "EscapeMill$Facts" 34 "EscapeMill$Facts" "fromCaller" "I"), (Cond.fieldLink "EscapeMill$Facts" 37 "EscapeMill$Facts" "grown" "Z"), (Cond.laysFinal "EscapeMill$Facts" "EscapeMill$Facts" "mayBe" "[I"), (Cond.laysFinal "EscapeMill$Facts" "EscapeMill$Facts" "held" "[[I"), (Cond.laysFinal "EscapeMill$Facts" "EscapeMill$Facts" "states" "[I"), (Cond.laysFinal "EscapeMill$Facts" "EscapeMill$Facts" "mixed" "[Z"), (Cond.lays "EscapeMill$Facts" "EscapeMill$Facts" "given" "I"), (Cond.lays "EscapeMill$Facts" "EscapeMill$Facts" "fromWorld" "I"), (Cond.lays "EscapeMill$Facts" "EscapeMill$Facts" "fromCaller" "I"), (Cond.lays "EscapeMill$Facts" "EscapeMill$Facts" "grown" "Z"), (Cond.instanceMethod y_P_init), (Cond.code y_P_init b_P_init 1 none), (Cond.methodLink "EscapeMill$Plan" 3 (⟨"java/lang/Object", "<init>", "()V"⟩ : MethodName)), (Cond.fieldLink "EscapeMill$Plan" 9 "EscapeMill$Plan" "fates" "[I"), (Cond.fieldLink "EscapeMill$Machine" 74 "EscapeMill$Plan" "fates" "[I"), (Cond.fieldLink "EscapeMill" 108 "EscapeMill$Plan" "fates" "[I"), (Cond.laysFinal "EscapeMill$Plan" "EscapeMill$Plan" "fates" "[I"), (Cond.fieldLink "EscapeMill" 11 "EscapeMill" "codes" "[LEscapeMill$Code;"), (Cond.fieldLink "EscapeMill" 17 "EscapeMill" "facts" "[LEscapeMill$Facts;")]
def wA_3 : List Cond := [(Cond.fieldLink "EscapeMill" 23 "EscapeMill" "plans" "[LEscapeMill$Plan;"), (Cond.fieldLink "EscapeMill" 30 "EscapeMill" "machine" "LEscapeMill$Machine;"), (Cond.fieldLink "EscapeMill" 34 "EscapeMill" "stale" "Z"), (Cond.laysFinal "EscapeMill" "EscapeMill" "codes" "[LEscapeMill$Code;"), (Cond.laysFinal "EscapeMill" "EscapeMill" "facts" "[LEscapeMill$Facts;"), (Cond.laysFinal "EscapeMill" "EscapeMill" "plans" "[LEscapeMill$Plan;"), (Cond.laysFinal "EscapeMill" "EscapeMill" "machine" "LEscapeMill$Machine;"), (Cond.lays "EscapeMill" "EscapeMill" "stale" "Z"), (Cond.instanceMethod y_E_run), (Cond.selects "EscapeMill" y_E_run y_E_run), (Cond.code y_E_run b_E_run 2 (some FieldType.int)), (Cond.methodLink "EscapeMill" 66 y_E_settle), (Cond.instanceMethod y_E_settle), (Cond.code y_E_settle b_E_settle 2 none), (Cond.methodLink "EscapeMill" 117 y_F_gather), (Cond.instanceMethod y_F_gather), (Cond.selects "EscapeMill$Facts" y_F_gather y_F_gather), (Cond.code y_F_gather b_F_gather 7 none), (Cond.methodLink "EscapeMill$Facts" 41 y_F_forget), (Cond.instanceMethod y_F_forget), (Cond.code y_F_forget b_F_forget 2 none), (Cond.methodLink "EscapeMill$Facts" 70 y_A_fill), (Cond.static y_A_fill), (Cond.code y_A_fill b_A_fill 4 none), (Cond.methodLink "EscapeMill$Facts" 52 y_F_begin), (Cond.instanceMethod y_F_begin), (Cond.code y_F_begin b_F_begin 3 none), (Cond.constant "EscapeMill$Facts" 76 (16777216 : Int32)), (Cond.methodLink "EscapeMill$Facts" 77 y_F_refer), (Cond.instanceMethod y_F_refer), (Cond.code y_F_refer b_F_refer 3 none), (Cond.methodLink "EscapeMill$Facts" 81 y_F_holdInBoth), (Cond.instanceMethod y_F_holdInBoth), (Cond.code y_F_holdInBoth b_F_holdInBoth 3 none), (Cond.methodLink "EscapeMill$Facts" 110 y_F_holdIn), (Cond.instanceMethod y_F_holdIn), (Cond.code y_F_holdIn b_F_holdIn 6 none), (Cond.constant "EscapeMill$Facts" 84 (67108864 : Int32)), (Cond.methodLink "EscapeMill$Facts" 59 y_F_applyCall), (Cond.instanceMethod y_F_applyCall)]
def wA_4 : List Cond := [(Cond.code y_F_applyCall b_F_applyCall 17 none), (Cond.methodLink "EscapeMill$Facts" 105 y_F_reached), (Cond.instanceMethod y_F_reached), (Cond.code y_F_reached b_F_reached 5 (some FieldType.int)), (Cond.methodLink "EscapeMill$Facts" 94 y_F_heldBy), (Cond.instanceMethod y_F_heldBy), (Cond.code y_F_heldBy b_F_heldBy 6 (some FieldType.int)), (Cond.methodLink "EscapeMill$Facts" 63 y_F_apply), (Cond.instanceMethod y_F_apply), (Cond.code y_F_apply b_F_apply 6 none), (Cond.methodLink "EscapeMill$Facts" 98 y_F_hold), (Cond.instanceMethod y_F_hold), (Cond.code y_F_hold b_F_hold 5 none), (Cond.constant "EscapeMill$Facts" 109 (16777215 : Int32)), (Cond.methodLink "EscapeMill$Facts" 67 y_F_sumUp), (Cond.instanceMethod y_F_sumUp), (Cond.code y_F_sumUp b_F_sumUp 6 none), (Cond.methodLink "EscapeMill" 121 y_P_draw), (Cond.instanceMethod y_P_draw), (Cond.selects "EscapeMill$Plan" y_P_draw y_P_draw), (Cond.code y_P_draw b_P_draw 8 none), (Cond.methodLink "EscapeMill$Plan" 15 y_A_fill), (Cond.methodLink "EscapeMill$Plan" 27 y_P_soleNew), (Cond.static y_P_soleNew), (Cond.code y_P_soleNew b_P_soleNew 4 (some FieldType.int)), (Cond.methodLink "EscapeMill$Plan" 58 y_C_defines), (Cond.instanceMethod y_C_defines), (Cond.selects "EscapeMill$Code" y_C_defines y_C_defines), (Cond.code y_C_defines b_C_defines 3 (some FieldType.boolean)), (Cond.methodLink "EscapeMill$Plan" 31 y_C_reachedWithout), (Cond.instanceMethod y_C_reachedWithout), (Cond.selects "EscapeMill$Code" y_C_reachedWithout y_C_reachedWithout), (Cond.code y_C_reachedWithout b_C_reachedWithout 6 (some FieldType.int)), (Cond.methodLink "EscapeMill$Code" 34 y_C_bit), (Cond.instanceMethod y_C_bit), (Cond.code y_C_bit b_C_bit 2 (some FieldType.int)), (Cond.methodLink "EscapeMill$Code" 45 y_C_has), (Cond.instanceMethod y_C_has), (Cond.selects "EscapeMill$Code" y_C_has y_C_has), (Cond.code y_C_has b_C_has 2 (some FieldType.boolean))]
def wA_5 : List Cond := [(Cond.methodLink "EscapeMill$Code" 38 y_C_behind), (Cond.instanceMethod y_C_behind), (Cond.code y_C_behind b_C_behind 4 (some FieldType.int)), (Cond.methodLink "EscapeMill$Code" 41 y_C_jumps), (Cond.instanceMethod y_C_jumps), (Cond.selects "EscapeMill$Code" y_C_jumps y_C_jumps), (Cond.code y_C_jumps b_C_jumps 2 (some FieldType.boolean)), (Cond.methodLink "EscapeMill$Plan" 35 y_P_staysInside), (Cond.static y_P_staysInside), (Cond.code y_P_staysInside b_P_staysInside 6 (some FieldType.boolean)), (Cond.methodLink "EscapeMill$Plan" 68 y_C_handsOn), (Cond.instanceMethod y_C_handsOn), (Cond.selects "EscapeMill$Code" y_C_handsOn y_C_handsOn), (Cond.code y_C_handsOn b_C_handsOn 4 (some FieldType.boolean)), (Cond.methodLink "EscapeMill$Plan" 39 y_P_isMadeFirst), (Cond.static y_P_isMadeFirst), (Cond.code y_P_isMadeFirst b_P_isMadeFirst 4 (some FieldType.boolean)), (Cond.methodLink "EscapeMill$Plan" 72 y_C_worksOn), (Cond.instanceMethod y_C_worksOn), (Cond.selects "EscapeMill$Code" y_C_worksOn y_C_worksOn), (Cond.code y_C_worksOn b_C_worksOn 3 (some FieldType.boolean)), (Cond.methodLink "EscapeMill$Plan" 43 y_P_takeApart), (Cond.instanceMethod y_P_takeApart), (Cond.code y_P_takeApart b_P_takeApart 5 none), (Cond.methodLink "EscapeMill$Plan" 47 y_F_escapeOf), (Cond.instanceMethod y_F_escapeOf), (Cond.selects "EscapeMill$Facts" y_F_escapeOf y_F_escapeOf), (Cond.code y_F_escapeOf b_F_escapeOf 2 (some FieldType.int)), (Cond.methodLink "EscapeMill$Plan" 52 y_P_pairLocks), (Cond.instanceMethod y_P_pairLocks), (Cond.code y_P_pairLocks b_P_pairLocks 6 none), (Cond.methodLink "EscapeMill$Plan" 78 y_P_partner), (Cond.static y_P_partner), (Cond.code y_P_partner b_P_partner 3 (some FieldType.int)), (Cond.methodLink "EscapeMill$Plan" 81 y_P_isJumpedInto), (Cond.static y_P_isJumpedInto), (Cond.code y_P_isJumpedInto b_P_isJumpedInto 4 (some FieldType.boolean)), (Cond.methodLink "EscapeMill$Plan" 88 y_C_jumps), (Cond.methodLink "EscapeMill$Plan" 84 y_P_endsPairing), (Cond.static y_P_endsPairing)]
def wA_6 : List Cond := [(Cond.code y_P_endsPairing b_P_endsPairing 1 (some FieldType.boolean)), (Cond.methodLink "EscapeMill" 69 y_M_go), (Cond.instanceMethod y_M_go), (Cond.selects "EscapeMill$Machine" y_M_go y_M_go), (Cond.code y_M_go b_M_go 8 (some FieldType.int)), (Cond.methodLink "EscapeMill$Machine" 61 y_M_begin), (Cond.instanceMethod y_M_begin), (Cond.code y_M_begin b_M_begin 1 none), (Cond.methodLink "EscapeMill$Machine" 83 y_A_fill), (Cond.methodLink "EscapeMill$Machine" 89 y_M_enter), (Cond.instanceMethod y_M_enter), (Cond.code y_M_enter b_M_enter 7 none), (Cond.methodLink "EscapeMill$Machine" 124 y_M_base), (Cond.instanceMethod y_M_base), (Cond.code y_M_base b_M_base 1 (some FieldType.int)), (Cond.methodLink "EscapeMill$Machine" 64 y_C_has), (Cond.methodLink "EscapeMill$Machine" 70 y_M_leave), (Cond.instanceMethod y_M_leave), (Cond.code y_M_leave b_M_leave 2 none), (Cond.methodLink "EscapeMill$Machine" 79 y_M_perform), (Cond.instanceMethod y_M_perform), (Cond.code y_M_perform b_M_perform 8 none), (Cond.methodLink "EscapeMill$Machine" 105 y_M_cellOf), (Cond.instanceMethod y_M_cellOf), (Cond.code y_M_cellOf b_M_cellOf 2 (some FieldType.int)), (Cond.methodLink "EscapeMill$Machine" 109 y_M_workOnField), (Cond.instanceMethod y_M_workOnField), (Cond.code y_M_workOnField b_M_workOnField 8 none), (Cond.methodLink "EscapeMill$Machine" 113 y_M_changeCount), (Cond.instanceMethod y_M_changeCount), (Cond.code y_M_changeCount b_M_changeCount 3 none), (Cond.methodLink "EscapeMill$Machine" 117 y_M_call), (Cond.instanceMethod y_M_call), (Cond.code y_M_call b_M_call 9 none), (Cond.methodLink "EscapeMill$Machine" 128 y_M_newParts), (Cond.instanceMethod y_M_newParts), (Cond.code y_M_newParts b_M_newParts 2 (some FieldType.int)), (Cond.methodLink "EscapeMill$Machine" 141 y_M_emptied), (Cond.instanceMethod y_M_emptied), (Cond.code y_M_emptied b_M_emptied 3 (some FieldType.int))]
def wA_7 : List Cond := [(Cond.methodLink "EscapeMill$Machine" 131 y_M_newObject), (Cond.instanceMethod y_M_newObject), (Cond.code y_M_newObject b_M_newObject 1 (some FieldType.int)), (Cond.methodLink "EscapeMill$Machine" 134 y_M_move), (Cond.instanceMethod y_M_move), (Cond.code y_M_move b_M_move 7 none), (Cond.methodLink "EscapeMill$Machine" 138 y_M_show), (Cond.instanceMethod y_M_show), (Cond.code y_M_show b_M_show 2 none), (Cond.instanceMethod y_E_latest), (Cond.selects "EscapeMill" y_E_latest y_E_latest), (Cond.code y_E_latest b_E_latest 2 (some FieldType.int)), (Cond.instanceMethod y_E_escape), (Cond.selects "EscapeMill" y_E_escape y_E_escape), (Cond.code y_E_escape b_E_escape 3 (some FieldType.int)), (Cond.methodLink "EscapeMill" 41 y_E_isMethod), (Cond.static y_E_isMethod), (Cond.code y_E_isMethod b_E_isMethod 1 (some FieldType.boolean)), (Cond.methodLink "EscapeMill" 95 y_C_has), (Cond.methodLink "EscapeMill" 101 y_F_escapeOf), (Cond.instanceMethod y_E_summary), (Cond.selects "EscapeMill" y_E_summary y_E_summary), (Cond.code y_E_summary b_E_summary 3 (some FieldType.int)), (Cond.instanceMethod y_E_fate), (Cond.selects "EscapeMill" y_E_fate y_E_fate), (Cond.code y_E_fate b_E_fate 3 (some FieldType.int)), (Cond.instanceMethod y_E_may), (Cond.selects "EscapeMill" y_E_may y_E_may), (Cond.code y_E_may b_E_may 3 (some FieldType.int)), (Cond.instanceMethod y_E_length), (Cond.selects "EscapeMill" y_E_length y_E_length), (Cond.code y_E_length b_E_length 2 (some FieldType.int)), (Cond.instanceMethod y_E_parameters), (Cond.selects "EscapeMill" y_E_parameters y_E_parameters), (Cond.code y_E_parameters b_E_parameters 3 (some FieldType.boolean)), (Cond.methodLink "EscapeMill" 47 (⟨"java/lang/IllegalArgumentException", "<init>", "()V"⟩ : MethodName)), (Cond.instanceMethod y_E_put), (Cond.selects "EscapeMill" y_E_put y_E_put), (Cond.code y_E_put b_E_put 7 (some FieldType.int)), (Cond.methodLink "EscapeMill" 52 y_E_isInstruction)]
def wA_8 : List Cond := [(Cond.static y_E_isInstruction), (Cond.code y_E_isInstruction b_E_isInstruction 6 (some FieldType.boolean)), (Cond.methodLink "EscapeMill" 114 y_E_isVariable), (Cond.static y_E_isVariable), (Cond.code y_E_isVariable b_E_isVariable 1 (some FieldType.boolean)), (Cond.methodLink "EscapeMill" 61 (⟨"java/lang/IllegalStateException", "<init>", "()V"⟩ : MethodName)), (Cond.methodLink "EscapeMill" 62 y_C_append), (Cond.instanceMethod y_C_append), (Cond.selects "EscapeMill$Code" y_C_append y_C_append), (Cond.code y_C_append b_C_append 7 (some FieldType.int)), (Cond.instanceMethod y_E_clear), (Cond.selects "EscapeMill" y_E_clear y_E_clear), (Cond.code y_E_clear b_E_clear 3 (some FieldType.int)), (Cond.instanceMethod y_E_shown), (Cond.selects "EscapeMill" y_E_shown y_E_shown), (Cond.code y_E_shown b_E_shown 2 (some FieldType.int)), (Cond.methodLink "EscapeMill" 78 (⟨"java/lang/IndexOutOfBoundsException", "<init>", "()V"⟩ : MethodName)), (Cond.instanceMethod y_R_init), (Cond.code y_R_init b_R_init 1 none), (Cond.methodLink "EscapeMillModel" 1 (⟨"java/lang/Object", "<init>", "()V"⟩ : MethodName)), (Cond.fieldLink "EscapeMillModel" 77 "EscapeMillModel" "threw" "I"), (Cond.fieldLink "EscapeMillModel" 7 "EscapeMillModel" "params" "[I"), (Cond.fieldLink "EscapeMillModel" 13 "EscapeMillModel" "lengths" "[I"), (Cond.fieldLink "EscapeMillModel" 16 "EscapeMillModel" "op" "[I"), (Cond.fieldLink "EscapeMillModel" 19 "EscapeMillModel" "xs" "[I"), (Cond.fieldLink "EscapeMillModel" 22 "EscapeMillModel" "ys" "[I"), (Cond.fieldLink "EscapeMillModel" 25 "EscapeMillModel" "zs" "[I"), (Cond.fieldLink "EscapeMillModel" 28 "EscapeMillModel" "ns" "[I"), (Cond.fieldLink "EscapeMillModel" 85 "EscapeMillModel" "known" "Z"), (Cond.fieldLink "EscapeMillModel" 31 "EscapeMillModel" "may" "[I"), (Cond.fieldLink "EscapeMillModel" 34 "EscapeMillModel" "hold" "[I"), (Cond.fieldLink "EscapeMillModel" 37 "EscapeMillModel" "given" "[I"), (Cond.fieldLink "EscapeMillModel" 40 "EscapeMillModel" "summary" "[I"), (Cond.fieldLink "EscapeMillModel" 43 "EscapeMillModel" "open" "[Z"), (Cond.fieldLink "EscapeMillModel" 157 "EscapeMillModel" "running" "I"), (Cond.fieldLink "EscapeMillModel" 47 "EscapeMillModel" "method" "[I"), (Cond.fieldLink "EscapeMillModel" 50 "EscapeMillModel" "place" "[I"), (Cond.fieldLink "EscapeMillModel" 53 "EscapeMillModel" "goal" "[I"), (Cond.fieldLink "EscapeMillModel" 56 "EscapeMillModel" "refs" "[I"), (Cond.fieldLink "EscapeMillModel" 59 "EscapeMillModel" "ints" "[I")]
def wA_9 : List Cond := [(Cond.fieldLink "EscapeMillModel" 62 "EscapeMillModel" "parts" "[I"), (Cond.fieldLink "EscapeMillModel" 65 "EscapeMillModel" "objects" "[I"), (Cond.fieldLink "EscapeMillModel" 170 "EscapeMillModel" "made" "I"), (Cond.fieldLink "EscapeMillModel" 68 "EscapeMillModel" "globals" "[I"), (Cond.fieldLink "EscapeMillModel" 160 "EscapeMillModel" "failure" "I"), (Cond.fieldLink "EscapeMillModel" 179 "EscapeMillModel" "shows" "I"), (Cond.fieldLink "EscapeMillModel" 201 "EscapeMillModel" "done" "I"), (Cond.fieldLink "EscapeMillModel" 167 "EscapeMillModel" "locks" "I"), (Cond.fieldLink "EscapeMillModel" 71 "EscapeMillModel" "shown" "[I"), (Cond.fieldLink "EscapeMillModel" 74 "EscapeMillModel" "fates" "[I"), (Cond.lays "EscapeMillModel" "EscapeMillModel" "threw" "I"), (Cond.laysFinal "EscapeMillModel" "EscapeMillModel" "params" "[I"), (Cond.laysFinal "EscapeMillModel" "EscapeMillModel" "lengths" "[I"), (Cond.laysFinal "EscapeMillModel" "EscapeMillModel" "op" "[I"), (Cond.laysFinal "EscapeMillModel" "EscapeMillModel" "xs" "[I"), (Cond.laysFinal "EscapeMillModel" "EscapeMillModel" "ys" "[I"), (Cond.laysFinal "EscapeMillModel" "EscapeMillModel" "zs" "[I"), (Cond.laysFinal "EscapeMillModel" "EscapeMillModel" "ns" "[I"), (Cond.lays "EscapeMillModel" "EscapeMillModel" "known" "Z"), (Cond.laysFinal "EscapeMillModel" "EscapeMillModel" "may" "[I"), (Cond.laysFinal "EscapeMillModel" "EscapeMillModel" "hold" "[I"), (Cond.laysFinal "EscapeMillModel" "EscapeMillModel" "given" "[I"), (Cond.laysFinal "EscapeMillModel" "EscapeMillModel" "summary" "[I"), (Cond.laysFinal "EscapeMillModel" "EscapeMillModel" "open" "[Z"), (Cond.lays "EscapeMillModel" "EscapeMillModel" "running" "I"), (Cond.laysFinal "EscapeMillModel" "EscapeMillModel" "method" "[I"), (Cond.laysFinal "EscapeMillModel" "EscapeMillModel" "place" "[I"), (Cond.laysFinal "EscapeMillModel" "EscapeMillModel" "goal" "[I"), (Cond.laysFinal "EscapeMillModel" "EscapeMillModel" "refs" "[I"), (Cond.laysFinal "EscapeMillModel" "EscapeMillModel" "ints" "[I"), (Cond.laysFinal "EscapeMillModel" "EscapeMillModel" "parts" "[I"), (Cond.laysFinal "EscapeMillModel" "EscapeMillModel" "objects" "[I"), (Cond.lays "EscapeMillModel" "EscapeMillModel" "made" "I"), (Cond.laysFinal "EscapeMillModel" "EscapeMillModel" "globals" "[I"), (Cond.lays "EscapeMillModel" "EscapeMillModel" "failure" "I"), (Cond.lays "EscapeMillModel" "EscapeMillModel" "shows" "I"), (Cond.lays "EscapeMillModel" "EscapeMillModel" "done" "I"), (Cond.lays "EscapeMillModel" "EscapeMillModel" "locks" "I"), (Cond.laysFinal "EscapeMillModel" "EscapeMillModel" "shown" "[I"), (Cond.laysFinal "EscapeMillModel" "EscapeMillModel" "fates" "[I")]
def wA_10 : List Cond := [(Cond.instanceMethod y_R_thrown), (Cond.selects "EscapeMillModel" y_R_thrown y_R_thrown), (Cond.code y_R_thrown b_R_thrown 1 (some FieldType.int)), (Cond.instanceMethod y_R_parameters), (Cond.selects "EscapeMillModel" y_R_parameters y_R_parameters), (Cond.code y_R_parameters b_R_parameters 3 (some FieldType.boolean)), (Cond.methodLink "EscapeMillModel" 81 y_R_isMethod), (Cond.static y_R_isMethod), (Cond.code y_R_isMethod b_R_isMethod 1 (some FieldType.boolean)), (Cond.instanceMethod y_R_put), (Cond.selects "EscapeMillModel" y_R_put y_R_put), (Cond.code y_R_put b_R_put 9 (some FieldType.int)), (Cond.methodLink "EscapeMillModel" 89 y_R_four), (Cond.static y_R_four), (Cond.code y_R_four b_R_four 1 (some FieldType.boolean)), (Cond.instanceMethod y_R_clear), (Cond.selects "EscapeMillModel" y_R_clear y_R_clear), (Cond.code y_R_clear b_R_clear 3 (some FieldType.int)), (Cond.instanceMethod y_R_run), (Cond.selects "EscapeMillModel" y_R_run y_R_run), (Cond.code y_R_run b_R_run 5 (some FieldType.int)), (Cond.methodLink "EscapeMillModel" 195 y_R_know), (Cond.instanceMethod y_R_know), (Cond.code y_R_know b_R_know 2 none), (Cond.methodLink "EscapeMillModel" 121 y_R_analyse), (Cond.instanceMethod y_R_analyse), (Cond.code y_R_analyse b_R_analyse 8 none), (Cond.constant "EscapeMillModel" 92 (67108864 : Int32)), (Cond.methodLink "EscapeMillModel" 97 y_R_holds), (Cond.instanceMethod y_R_holds), (Cond.code y_R_holds b_R_holds 8 none), (Cond.methodLink "EscapeMillModel" 114 y_R_weight), (Cond.instanceMethod y_R_weight), (Cond.code y_R_weight b_R_weight 5 (some FieldType.int)), (Cond.methodLink "EscapeMillModel" 118 y_R_adds), (Cond.instanceMethod y_R_adds), (Cond.code y_R_adds b_R_adds 6 none), (Cond.methodLink "EscapeMillModel" 101 y_R_held), (Cond.instanceMethod y_R_held), (Cond.code y_R_held b_R_held 6 (some FieldType.int))]
def wA_11 : List Cond := [(Cond.methodLink "EscapeMillModel" 108 y_R_calls), (Cond.instanceMethod y_R_calls), (Cond.code y_R_calls b_R_calls 11 none), (Cond.methodLink "EscapeMillModel" 93 y_R_reached), (Cond.instanceMethod y_R_reached), (Cond.code y_R_reached b_R_reached 6 (some FieldType.int)), (Cond.methodLink "EscapeMillModel" 105 y_R_stateOf), (Cond.instanceMethod y_R_stateOf), (Cond.code y_R_stateOf b_R_stateOf 4 (some FieldType.int)), (Cond.methodLink "EscapeMillModel" 198 y_R_fateOf), (Cond.instanceMethod y_R_fateOf), (Cond.code y_R_fateOf b_R_fateOf 6 (some FieldType.int)), (Cond.methodLink "EscapeMillModel" 138 y_R_worksOn), (Cond.instanceMethod y_R_worksOn), (Cond.code y_R_worksOn b_R_worksOn 8 (some FieldType.boolean)), (Cond.methodLink "EscapeMillModel" 148 y_R_apart), (Cond.instanceMethod y_R_apart), (Cond.code y_R_apart b_R_apart 8 (some FieldType.boolean)), (Cond.methodLink "EscapeMillModel" 135 y_R_onlyNew), (Cond.instanceMethod y_R_onlyNew), (Cond.code y_R_onlyNew b_R_onlyNew 7 (some FieldType.int)), (Cond.methodLink "EscapeMillModel" 132 y_R_defines), (Cond.static y_R_defines), (Cond.code y_R_defines b_R_defines 1 (some FieldType.boolean)), (Cond.methodLink "EscapeMillModel" 142 y_R_gives), (Cond.instanceMethod y_R_gives), (Cond.code y_R_gives b_R_gives 9 (some FieldType.boolean)), (Cond.methodLink "EscapeMillModel" 145 y_R_dominates), (Cond.instanceMethod y_R_dominates), (Cond.code y_R_dominates b_R_dominates 9 (some FieldType.boolean)), (Cond.methodLink "EscapeMillModel" 128 y_R_isInstruction), (Cond.instanceMethod y_R_isInstruction), (Cond.code y_R_isInstruction b_R_isInstruction 3 (some FieldType.boolean)), (Cond.methodLink "EscapeMillModel" 154 y_R_pair), (Cond.instanceMethod y_R_pair), (Cond.code y_R_pair b_R_pair 12 (some FieldType.boolean)), (Cond.methodLink "EscapeMillModel" 151 y_R_escapeOf), (Cond.instanceMethod y_R_escapeOf), (Cond.code y_R_escapeOf b_R_escapeOf 5 (some FieldType.int)), (Cond.methodLink "EscapeMillModel" 125 y_R_argsOf)]
def wA_12 : List Cond := [(Cond.instanceMethod y_R_argsOf), (Cond.code y_R_argsOf b_R_argsOf 2 (some FieldType.int)), (Cond.constant "EscapeMillModel" 112 (16777216 : Int32)), (Cond.constant "EscapeMillModel" 113 (50331648 : Int32)), (Cond.methodLink "EscapeMillModel" 173 y_R_enter), (Cond.instanceMethod y_R_enter), (Cond.code y_R_enter b_R_enter 7 none), (Cond.methodLink "EscapeMillModel" 176 y_R_leave), (Cond.instanceMethod y_R_leave), (Cond.code y_R_leave b_R_leave 2 none), (Cond.methodLink "EscapeMillModel" 204 y_R_does), (Cond.instanceMethod y_R_does), (Cond.code y_R_does b_R_does 6 none), (Cond.methodLink "EscapeMillModel" 182 y_R_makes), (Cond.instanceMethod y_R_makes), (Cond.code y_R_makes b_R_makes 5 none), (Cond.methodLink "EscapeMillModel" 186 y_R_fields), (Cond.instanceMethod y_R_fields), (Cond.code y_R_fields b_R_fields 10 none), (Cond.methodLink "EscapeMillModel" 163 y_R_set), (Cond.instanceMethod y_R_set), (Cond.code y_R_set b_R_set 4 none), (Cond.methodLink "EscapeMillModel" 189 y_R_call), (Cond.instanceMethod y_R_call), (Cond.code y_R_call b_R_call 4 none), (Cond.methodLink "EscapeMillModel" 192 y_R_moves), (Cond.instanceMethod y_R_moves), (Cond.code y_R_moves b_R_moves 5 none), (Cond.instanceMethod y_R_shown), (Cond.selects "EscapeMillModel" y_R_shown y_R_shown), (Cond.code y_R_shown b_R_shown 2 (some FieldType.int)), (Cond.instanceMethod y_R_latest), (Cond.selects "EscapeMillModel" y_R_latest y_R_latest), (Cond.code y_R_latest b_R_latest 2 (some FieldType.int)), (Cond.instanceMethod y_R_escape), (Cond.selects "EscapeMillModel" y_R_escape y_R_escape), (Cond.code y_R_escape b_R_escape 3 (some FieldType.int)), (Cond.instanceMethod y_R_summary), (Cond.selects "EscapeMillModel" y_R_summary y_R_summary), (Cond.code y_R_summary b_R_summary 3 (some FieldType.int))]
def wA_13 : List Cond := [(Cond.instanceMethod y_R_fate), (Cond.selects "EscapeMillModel" y_R_fate y_R_fate), (Cond.code y_R_fate b_R_fate 3 (some FieldType.int)), (Cond.instanceMethod y_R_may), (Cond.selects "EscapeMillModel" y_R_may y_R_may), (Cond.code y_R_may b_R_may 3 (some FieldType.int)), (Cond.instanceMethod y_R_length), (Cond.selects "EscapeMillModel" y_R_length y_R_length), (Cond.code y_R_length b_R_length 2 (some FieldType.int)), (Cond.selects y_E_settle.cls y_E_settle y_E_settle), (Cond.selects y_F_forget.cls y_F_forget y_F_forget), (Cond.selects y_F_begin.cls y_F_begin y_F_begin), (Cond.selects y_F_refer.cls y_F_refer y_F_refer), (Cond.selects y_F_holdInBoth.cls y_F_holdInBoth y_F_holdInBoth), (Cond.selects y_F_holdIn.cls y_F_holdIn y_F_holdIn), (Cond.selects y_F_applyCall.cls y_F_applyCall y_F_applyCall), (Cond.selects y_F_reached.cls y_F_reached y_F_reached), (Cond.selects y_F_heldBy.cls y_F_heldBy y_F_heldBy), (Cond.selects y_F_apply.cls y_F_apply y_F_apply), (Cond.selects y_F_hold.cls y_F_hold y_F_hold), (Cond.selects y_F_sumUp.cls y_F_sumUp y_F_sumUp), (Cond.selects y_C_bit.cls y_C_bit y_C_bit), (Cond.selects y_C_behind.cls y_C_behind y_C_behind), (Cond.selects y_P_takeApart.cls y_P_takeApart y_P_takeApart), (Cond.selects y_P_pairLocks.cls y_P_pairLocks y_P_pairLocks), (Cond.selects y_M_begin.cls y_M_begin y_M_begin), (Cond.selects y_M_enter.cls y_M_enter y_M_enter), (Cond.selects y_M_base.cls y_M_base y_M_base), (Cond.selects y_M_leave.cls y_M_leave y_M_leave), (Cond.selects y_M_perform.cls y_M_perform y_M_perform), (Cond.selects y_M_cellOf.cls y_M_cellOf y_M_cellOf), (Cond.selects y_M_workOnField.cls y_M_workOnField y_M_workOnField), (Cond.selects y_M_changeCount.cls y_M_changeCount y_M_changeCount), (Cond.selects y_M_call.cls y_M_call y_M_call), (Cond.selects y_M_newParts.cls y_M_newParts y_M_newParts), (Cond.selects y_M_emptied.cls y_M_emptied y_M_emptied), (Cond.selects y_M_newObject.cls y_M_newObject y_M_newObject), (Cond.selects y_M_move.cls y_M_move y_M_move), (Cond.selects y_M_show.cls y_M_show y_M_show), (Cond.selects y_R_know.cls y_R_know y_R_know)]
def wA_14 : List Cond := [(Cond.selects y_R_analyse.cls y_R_analyse y_R_analyse), (Cond.selects y_R_holds.cls y_R_holds y_R_holds), (Cond.selects y_R_weight.cls y_R_weight y_R_weight), (Cond.selects y_R_adds.cls y_R_adds y_R_adds), (Cond.selects y_R_held.cls y_R_held y_R_held), (Cond.selects y_R_calls.cls y_R_calls y_R_calls), (Cond.selects y_R_reached.cls y_R_reached y_R_reached), (Cond.selects y_R_stateOf.cls y_R_stateOf y_R_stateOf), (Cond.selects y_R_fateOf.cls y_R_fateOf y_R_fateOf), (Cond.selects y_R_worksOn.cls y_R_worksOn y_R_worksOn), (Cond.selects y_R_apart.cls y_R_apart y_R_apart), (Cond.selects y_R_onlyNew.cls y_R_onlyNew y_R_onlyNew), (Cond.selects y_R_gives.cls y_R_gives y_R_gives), (Cond.selects y_R_dominates.cls y_R_dominates y_R_dominates), (Cond.selects y_R_isInstruction.cls y_R_isInstruction y_R_isInstruction), (Cond.selects y_R_pair.cls y_R_pair y_R_pair), (Cond.selects y_R_escapeOf.cls y_R_escapeOf y_R_escapeOf), (Cond.selects y_R_argsOf.cls y_R_argsOf y_R_argsOf), (Cond.selects y_R_enter.cls y_R_enter y_R_enter), (Cond.selects y_R_leave.cls y_R_leave y_R_leave), (Cond.selects y_R_does.cls y_R_does y_R_does), (Cond.selects y_R_makes.cls y_R_makes y_R_makes), (Cond.selects y_R_fields.cls y_R_fields y_R_fields), (Cond.selects y_R_set.cls y_R_set y_R_set), (Cond.selects y_R_call.cls y_R_call y_R_call), (Cond.selects y_R_moves.cls y_R_moves y_R_moves)]
def wsA : List Cond := wA_0 ++ (wA_1 ++ (wA_2 ++ (wA_3 ++ (wA_4 ++ (wA_5 ++ (wA_6 ++ (wA_7 ++ (wA_8 ++ (wA_9 ++ (wA_10 ++ (wA_11 ++ (wA_12 ++ (wA_13 ++ (wA_14))))))))))))))
theorem iA_0 {w : Cond} (h : w ∈ wA_0) : w ∈ wsA := List.mem_append_left _ h
theorem iA_1 {w : Cond} (h : w ∈ wA_1) : w ∈ wsA := List.mem_append_right _ (List.mem_append_left _ h)
theorem iA_2 {w : Cond} (h : w ∈ wA_2) : w ∈ wsA := List.mem_append_right _ (List.mem_append_right _ (List.mem_append_left _ h))
theorem iA_3 {w : Cond} (h : w ∈ wA_3) : w ∈ wsA := List.mem_append_right _ (List.mem_append_right _ (List.mem_append_right _ (List.mem_append_left _ h)))
theorem iA_4 {w : Cond} (h : w ∈ wA_4) : w ∈ wsA := List.mem_append_right _ (List.mem_append_right _ (List.mem_append_right _ (List.mem_append_right _ (List.mem_append_left _ h))))
theorem iA_5 {w : Cond} (h : w ∈ wA_5) : w ∈ wsA := List.mem_append_right _ (List.mem_append_right _ (List.mem_append_right _ (List.mem_append_right _ (List.mem_append_right _ (List.mem_append_left _ h)))))
theorem iA_6 {w : Cond} (h : w ∈ wA_6) : w ∈ wsA := List.mem_append_right _ (List.mem_append_right _ (List.mem_append_right _ (List.mem_append_right _ (List.mem_append_right _ (List.mem_append_right _ (List.mem_append_left _ h))))))
theorem iA_7 {w : Cond} (h : w ∈ wA_7) : w ∈ wsA := List.mem_append_right _ (List.mem_append_right _ (List.mem_append_right _ (List.mem_append_right _ (List.mem_append_right _ (List.mem_append_right _ (List.mem_append_right _ (List.mem_append_left _ h)))))))
theorem iA_8 {w : Cond} (h : w ∈ wA_8) : w ∈ wsA := List.mem_append_right _ (List.mem_append_right _ (List.mem_append_right _ (List.mem_append_right _ (List.mem_append_right _ (List.mem_append_right _ (List.mem_append_right _ (List.mem_append_right _ (List.mem_append_left _ h))))))))
theorem iA_9 {w : Cond} (h : w ∈ wA_9) : w ∈ wsA := List.mem_append_right _ (List.mem_append_right _ (List.mem_append_right _ (List.mem_append_right _ (List.mem_append_right _ (List.mem_append_right _ (List.mem_append_right _ (List.mem_append_right _ (List.mem_append_right _ (List.mem_append_left _ h)))))))))
theorem iA_10 {w : Cond} (h : w ∈ wA_10) : w ∈ wsA := List.mem_append_right _ (List.mem_append_right _ (List.mem_append_right _ (List.mem_append_right _ (List.mem_append_right _ (List.mem_append_right _ (List.mem_append_right _ (List.mem_append_right _ (List.mem_append_right _ (List.mem_append_right _ (List.mem_append_left _ h))))))))))
theorem iA_11 {w : Cond} (h : w ∈ wA_11) : w ∈ wsA := List.mem_append_right _ (List.mem_append_right _ (List.mem_append_right _ (List.mem_append_right _ (List.mem_append_right _ (List.mem_append_right _ (List.mem_append_right _ (List.mem_append_right _ (List.mem_append_right _ (List.mem_append_right _ (List.mem_append_right _ (List.mem_append_left _ h)))))))))))
theorem iA_12 {w : Cond} (h : w ∈ wA_12) : w ∈ wsA := List.mem_append_right _ (List.mem_append_right _ (List.mem_append_right _ (List.mem_append_right _ (List.mem_append_right _ (List.mem_append_right _ (List.mem_append_right _ (List.mem_append_right _ (List.mem_append_right _ (List.mem_append_right _ (List.mem_append_right _ (List.mem_append_right _ (List.mem_append_left _ h))))))))))))
theorem iA_13 {w : Cond} (h : w ∈ wA_13) : w ∈ wsA := List.mem_append_right _ (List.mem_append_right _ (List.mem_append_right _ (List.mem_append_right _ (List.mem_append_right _ (List.mem_append_right _ (List.mem_append_right _ (List.mem_append_right _ (List.mem_append_right _ (List.mem_append_right _ (List.mem_append_right _ (List.mem_append_right _ (List.mem_append_right _ (List.mem_append_left _ h)))))))))))))
theorem iA_14 {w : Cond} (h : w ∈ wA_14) : w ∈ wsA := List.mem_append_right _ (List.mem_append_right _ (List.mem_append_right _ (List.mem_append_right _ (List.mem_append_right _ (List.mem_append_right _ (List.mem_append_right _ (List.mem_append_right _ (List.mem_append_right _ (List.mem_append_right _ (List.mem_append_right _ (List.mem_append_right _ (List.mem_append_right _ (List.mem_append_right _ (h))))))))))))))
set_option maxRecDepth 20000 in
theorem wsA_good : wsA.all goodWord = true := by decide +kernel
theorem mem_i {l : List Cond} (i : Nat) {w : Cond} (h : l[i]? = some w) : w ∈ l := List.mem_of_getElem? h
theorem usC : ∀ w ∈ u_ws nC tC 7, w ∈ wsA := by
  show ∀ w ∈ [u_lay nC tC 0, u_lay nC tC 1, u_lay nC tC 2, u_lay nC tC 3, u_lay nC tC 4, u_lay nC tC 5, u_lay nC tC 6], w ∈ wsA
  exact List.forall_mem_cons.mpr ⟨(iA_2 (mem_i 3 rfl)), List.forall_mem_cons.mpr ⟨(iA_2 (mem_i 4 rfl)), List.forall_mem_cons.mpr ⟨(iA_2 (mem_i 5 rfl)), List.forall_mem_cons.mpr ⟨(iA_2 (mem_i 6 rfl)), List.forall_mem_cons.mpr ⟨(iA_2 (mem_i 7 rfl)), List.forall_mem_cons.mpr ⟨(iA_2 (mem_i 8 rfl)), List.forall_mem_cons.mpr ⟨(iA_2 (mem_i 9 rfl)), fun _ h => absurd h List.not_mem_nil⟩⟩⟩⟩⟩⟩⟩
theorem usF : ∀ w ∈ u_ws nF tF 8, w ∈ wsA := by
  show ∀ w ∈ [u_lay nF tF 0, u_lay nF tF 1, u_lay nF tF 2, u_lay nF tF 3, u_lay nF tF 4, u_lay nF tF 5, u_lay nF tF 6, u_lay nF tF 7], w ∈ wsA
  exact List.forall_mem_cons.mpr ⟨(iA_2 (mem_i 23 rfl)), List.forall_mem_cons.mpr ⟨(iA_2 (mem_i 24 rfl)), List.forall_mem_cons.mpr ⟨(iA_2 (mem_i 25 rfl)), List.forall_mem_cons.mpr ⟨(iA_2 (mem_i 26 rfl)), List.forall_mem_cons.mpr ⟨(iA_2 (mem_i 27 rfl)), List.forall_mem_cons.mpr ⟨(iA_2 (mem_i 28 rfl)), List.forall_mem_cons.mpr ⟨(iA_2 (mem_i 29 rfl)), List.forall_mem_cons.mpr ⟨(iA_2 (mem_i 30 rfl)), fun _ h => absurd h List.not_mem_nil⟩⟩⟩⟩⟩⟩⟩⟩
theorem usM : ∀ w ∈ u_ws nM tM 16, w ∈ wsA := by
  show ∀ w ∈ [u_lay nM tM 0, u_lay nM tM 1, u_lay nM tM 2, u_lay nM tM 3, u_lay nM tM 4, u_lay nM tM 5, u_lay nM tM 6, u_lay nM tM 7, u_lay nM tM 8, u_lay nM tM 9, u_lay nM tM 10, u_lay nM tM 11, u_lay nM tM 12, u_lay nM tM 13, u_lay nM tM 14, u_lay nM tM 15], w ∈ wsA
  exact List.forall_mem_cons.mpr ⟨(iA_0 (mem_i 35 rfl)), List.forall_mem_cons.mpr ⟨(iA_0 (mem_i 36 rfl)), List.forall_mem_cons.mpr ⟨(iA_0 (mem_i 37 rfl)), List.forall_mem_cons.mpr ⟨(iA_0 (mem_i 38 rfl)), List.forall_mem_cons.mpr ⟨(iA_0 (mem_i 39 rfl)), List.forall_mem_cons.mpr ⟨(iA_1 (mem_i 0 rfl)), List.forall_mem_cons.mpr ⟨(iA_1 (mem_i 1 rfl)), List.forall_mem_cons.mpr ⟨(iA_1 (mem_i 2 rfl)), List.forall_mem_cons.mpr ⟨(iA_1 (mem_i 3 rfl)), List.forall_mem_cons.mpr ⟨(iA_1 (mem_i 4 rfl)), List.forall_mem_cons.mpr ⟨(iA_1 (mem_i 5 rfl)), List.forall_mem_cons.mpr ⟨(iA_1 (mem_i 6 rfl)), List.forall_mem_cons.mpr ⟨(iA_1 (mem_i 7 rfl)), List.forall_mem_cons.mpr ⟨(iA_1 (mem_i 8 rfl)), List.forall_mem_cons.mpr ⟨(iA_1 (mem_i 9 rfl)), List.forall_mem_cons.mpr ⟨(iA_1 (mem_i 10 rfl)), fun _ h => absurd h List.not_mem_nil⟩⟩⟩⟩⟩⟩⟩⟩⟩⟩⟩⟩⟩⟩⟩⟩
theorem usP : ∀ w ∈ u_ws nP tP 1, w ∈ wsA := by
  show ∀ w ∈ [u_lay nP tP 0], w ∈ wsA
  exact List.forall_mem_cons.mpr ⟨(iA_2 (mem_i 37 rfl)), fun _ h => absurd h List.not_mem_nil⟩
theorem usE : ∀ w ∈ u_ws nE tE 5, w ∈ wsA := by
  show ∀ w ∈ [u_lay nE tE 0, u_lay nE tE 1, u_lay nE tE 2, u_lay nE tE 3, u_lay nE tE 4], w ∈ wsA
  exact List.forall_mem_cons.mpr ⟨(iA_3 (mem_i 3 rfl)), List.forall_mem_cons.mpr ⟨(iA_3 (mem_i 4 rfl)), List.forall_mem_cons.mpr ⟨(iA_3 (mem_i 5 rfl)), List.forall_mem_cons.mpr ⟨(iA_3 (mem_i 6 rfl)), List.forall_mem_cons.mpr ⟨(iA_3 (mem_i 7 rfl)), fun _ h => absurd h List.not_mem_nil⟩⟩⟩⟩⟩
theorem usR : ∀ w ∈ u_ws nR tR 30, w ∈ wsA := by
  show ∀ w ∈ [u_lay nR tR 0, u_lay nR tR 1, u_lay nR tR 2, u_lay nR tR 3, u_lay nR tR 4, u_lay nR tR 5, u_lay nR tR 6, u_lay nR tR 7, u_lay nR tR 8, u_lay nR tR 9, u_lay nR tR 10, u_lay nR tR 11, u_lay nR tR 12, u_lay nR tR 13, u_lay nR tR 14, u_lay nR tR 15, u_lay nR tR 16, u_lay nR tR 17, u_lay nR tR 18, u_lay nR tR 19, u_lay nR tR 20, u_lay nR tR 21, u_lay nR tR 22, u_lay nR tR 23, u_lay nR tR 24, u_lay nR tR 25, u_lay nR tR 26, u_lay nR tR 27, u_lay nR tR 28, u_lay nR tR 29], w ∈ wsA
  exact List.forall_mem_cons.mpr ⟨(iA_9 (mem_i 10 rfl)), List.forall_mem_cons.mpr ⟨(iA_9 (mem_i 11 rfl)), List.forall_mem_cons.mpr ⟨(iA_9 (mem_i 12 rfl)), List.forall_mem_cons.mpr ⟨(iA_9 (mem_i 13 rfl)), List.forall_mem_cons.mpr ⟨(iA_9 (mem_i 14 rfl)), List.forall_mem_cons.mpr ⟨(iA_9 (mem_i 15 rfl)), List.forall_mem_cons.mpr ⟨(iA_9 (mem_i 16 rfl)), List.forall_mem_cons.mpr ⟨(iA_9 (mem_i 17 rfl)), List.forall_mem_cons.mpr ⟨(iA_9 (mem_i 18 rfl)), List.forall_mem_cons.mpr ⟨(iA_9 (mem_i 19 rfl)), List.forall_mem_cons.mpr ⟨(iA_9 (mem_i 20 rfl)), List.forall_mem_cons.mpr ⟨(iA_9 (mem_i 21 rfl)), List.forall_mem_cons.mpr ⟨(iA_9 (mem_i 22 rfl)), List.forall_mem_cons.mpr ⟨(iA_9 (mem_i 23 rfl)), List.forall_mem_cons.mpr ⟨(iA_9 (mem_i 24 rfl)), List.forall_mem_cons.mpr ⟨(iA_9 (mem_i 25 rfl)), List.forall_mem_cons.mpr ⟨(iA_9 (mem_i 26 rfl)), List.forall_mem_cons.mpr ⟨(iA_9 (mem_i 27 rfl)), List.forall_mem_cons.mpr ⟨(iA_9 (mem_i 28 rfl)), List.forall_mem_cons.mpr ⟨(iA_9 (mem_i 29 rfl)), List.forall_mem_cons.mpr ⟨(iA_9 (mem_i 30 rfl)), List.forall_mem_cons.mpr ⟨(iA_9 (mem_i 31 rfl)), List.forall_mem_cons.mpr ⟨(iA_9 (mem_i 32 rfl)), List.forall_mem_cons.mpr ⟨(iA_9 (mem_i 33 rfl)), List.forall_mem_cons.mpr ⟨(iA_9 (mem_i 34 rfl)), List.forall_mem_cons.mpr ⟨(iA_9 (mem_i 35 rfl)), List.forall_mem_cons.mpr ⟨(iA_9 (mem_i 36 rfl)), List.forall_mem_cons.mpr ⟨(iA_9 (mem_i 37 rfl)), List.forall_mem_cons.mpr ⟨(iA_9 (mem_i 38 rfl)), List.forall_mem_cons.mpr ⟨(iA_9 (mem_i 39 rfl)), fun _ h => absurd h List.not_mem_nil⟩⟩⟩⟩⟩⟩⟩⟩⟩⟩⟩⟩⟩⟩⟩⟩⟩⟩⟩⟩⟩⟩⟩⟩⟩⟩⟩⟩⟩⟩
theorem fM_11 : fm_fl wsA "EscapeMill$Machine" 11 vwA 2 0 := ⟨nM, tM, 16, rfl, by decide, usM, (iA_0 (mem_i 13 rfl)), rfl⟩
theorem fM_15 : fm_fl wsA "EscapeMill$Machine" 15 vwA 2 1 := ⟨nM, tM, 16, rfl, by decide, usM, (iA_0 (mem_i 14 rfl)), rfl⟩
theorem fM_18 : fm_fl wsA "EscapeMill$Machine" 18 vwA 2 2 := ⟨nM, tM, 16, rfl, by decide, usM, (iA_0 (mem_i 15 rfl)), rfl⟩
theorem fM_21 : fm_fl wsA "EscapeMill$Machine" 21 vwA 2 3 := ⟨nM, tM, 16, rfl, by decide, usM, (iA_0 (mem_i 16 rfl)), rfl⟩
theorem fM_24 : fm_fl wsA "EscapeMill$Machine" 24 vwA 2 4 := ⟨nM, tM, 16, rfl, by decide, usM, (iA_0 (mem_i 17 rfl)), rfl⟩
theorem fM_27 : fm_fl wsA "EscapeMill$Machine" 27 vwA 2 5 := ⟨nM, tM, 16, rfl, by decide, usM, (iA_0 (mem_i 18 rfl)), rfl⟩
theorem fM_30 : fm_fl wsA "EscapeMill$Machine" 30 vwA 2 6 := ⟨nM, tM, 16, rfl, by decide, usM, (iA_0 (mem_i 19 rfl)), rfl⟩
theorem fM_33 : fm_fl wsA "EscapeMill$Machine" 33 vwA 2 7 := ⟨nM, tM, 16, rfl, by decide, usM, (iA_0 (mem_i 20 rfl)), rfl⟩
theorem fM_36 : fm_fl wsA "EscapeMill$Machine" 36 vwA 2 8 := ⟨nM, tM, 16, rfl, by decide, usM, (iA_0 (mem_i 21 rfl)), rfl⟩
theorem fM_39 : fm_fl wsA "EscapeMill$Machine" 39 vwA 2 9 := ⟨nM, tM, 16, rfl, by decide, usM, (iA_0 (mem_i 22 rfl)), rfl⟩
theorem fM_43 : fm_fl wsA "EscapeMill$Machine" 43 vwA 2 10 := ⟨nM, tM, 16, rfl, by decide, usM, (iA_0 (mem_i 23 rfl)), rfl⟩
theorem fE_79 : fm_fl wsA "EscapeMill" 79 vwA 2 10 := ⟨nM, tM, 16, rfl, by decide, usM, (iA_0 (mem_i 24 rfl)), rfl⟩
theorem fM_46 : fm_fl wsA "EscapeMill$Machine" 46 vwA 2 11 := ⟨nM, tM, 16, rfl, by decide, usM, (iA_0 (mem_i 25 rfl)), rfl⟩
theorem fE_83 : fm_fl wsA "EscapeMill" 83 vwA 2 11 := ⟨nM, tM, 16, rfl, by decide, usM, (iA_0 (mem_i 26 rfl)), rfl⟩
theorem fM_49 : fm_fl wsA "EscapeMill$Machine" 49 vwA 2 12 := ⟨nM, tM, 16, rfl, by decide, usM, (iA_0 (mem_i 27 rfl)), rfl⟩
theorem fE_73 : fm_fl wsA "EscapeMill" 73 vwA 2 12 := ⟨nM, tM, 16, rfl, by decide, usM, (iA_0 (mem_i 28 rfl)), rfl⟩
theorem fM_52 : fm_fl wsA "EscapeMill$Machine" 52 vwA 2 13 := ⟨nM, tM, 16, rfl, by decide, usM, (iA_0 (mem_i 29 rfl)), rfl⟩
theorem fE_86 : fm_fl wsA "EscapeMill" 86 vwA 2 13 := ⟨nM, tM, 16, rfl, by decide, usM, (iA_0 (mem_i 30 rfl)), rfl⟩
theorem fM_55 : fm_fl wsA "EscapeMill$Machine" 55 vwA 2 14 := ⟨nM, tM, 16, rfl, by decide, usM, (iA_0 (mem_i 31 rfl)), rfl⟩
theorem fE_89 : fm_fl wsA "EscapeMill" 89 vwA 2 14 := ⟨nM, tM, 16, rfl, by decide, usM, (iA_0 (mem_i 32 rfl)), rfl⟩
theorem fM_58 : fm_fl wsA "EscapeMill$Machine" 58 vwA 2 15 := ⟨nM, tM, 16, rfl, by decide, usM, (iA_0 (mem_i 33 rfl)), rfl⟩
theorem fE_92 : fm_fl wsA "EscapeMill" 92 vwA 2 15 := ⟨nM, tM, 16, rfl, by decide, usM, (iA_0 (mem_i 34 rfl)), rfl⟩
theorem fC_9 : fm_fl wsA "EscapeMill$Code" 9 vwA 0 0 := ⟨nC, tC, 7, rfl, by decide, usC, (iA_1 (mem_i 14 rfl)), rfl⟩
theorem fP_62 : fm_fl wsA "EscapeMill$Plan" 62 vwA 0 0 := ⟨nC, tC, 7, rfl, by decide, usC, (iA_1 (mem_i 15 rfl)), rfl⟩
theorem fF_56 : fm_fl wsA "EscapeMill$Facts" 56 vwA 0 0 := ⟨nC, tC, 7, rfl, by decide, usC, (iA_1 (mem_i 16 rfl)), rfl⟩
theorem fM_93 : fm_fl wsA "EscapeMill$Machine" 93 vwA 0 0 := ⟨nC, tC, 7, rfl, by decide, usC, (iA_1 (mem_i 17 rfl)), rfl⟩
theorem fE_98 : fm_fl wsA "EscapeMill" 98 vwA 0 0 := ⟨nC, tC, 7, rfl, by decide, usC, (iA_1 (mem_i 18 rfl)), rfl⟩
theorem fC_15 : fm_fl wsA "EscapeMill$Code" 15 vwA 0 1 := ⟨nC, tC, 7, rfl, by decide, usC, (iA_1 (mem_i 19 rfl)), rfl⟩
theorem fM_96 : fm_fl wsA "EscapeMill$Machine" 96 vwA 0 1 := ⟨nC, tC, 7, rfl, by decide, usC, (iA_1 (mem_i 20 rfl)), rfl⟩
theorem fF_85 : fm_fl wsA "EscapeMill$Facts" 85 vwA 0 1 := ⟨nC, tC, 7, rfl, by decide, usC, (iA_1 (mem_i 21 rfl)), rfl⟩
theorem fP_75 : fm_fl wsA "EscapeMill$Plan" 75 vwA 0 1 := ⟨nC, tC, 7, rfl, by decide, usC, (iA_1 (mem_i 22 rfl)), rfl⟩
theorem fC_18 : fm_fl wsA "EscapeMill$Code" 18 vwA 0 2 := ⟨nC, tC, 7, rfl, by decide, usC, (iA_1 (mem_i 23 rfl)), rfl⟩
theorem fM_99 : fm_fl wsA "EscapeMill$Machine" 99 vwA 0 2 := ⟨nC, tC, 7, rfl, by decide, usC, (iA_1 (mem_i 24 rfl)), rfl⟩
theorem fF_88 : fm_fl wsA "EscapeMill$Facts" 88 vwA 0 2 := ⟨nC, tC, 7, rfl, by decide, usC, (iA_1 (mem_i 25 rfl)), rfl⟩
theorem fC_21 : fm_fl wsA "EscapeMill$Code" 21 vwA 0 3 := ⟨nC, tC, 7, rfl, by decide, usC, (iA_1 (mem_i 26 rfl)), rfl⟩
theorem fM_102 : fm_fl wsA "EscapeMill$Machine" 102 vwA 0 3 := ⟨nC, tC, 7, rfl, by decide, usC, (iA_1 (mem_i 27 rfl)), rfl⟩
theorem fF_91 : fm_fl wsA "EscapeMill$Facts" 91 vwA 0 3 := ⟨nC, tC, 7, rfl, by decide, usC, (iA_1 (mem_i 28 rfl)), rfl⟩
theorem fC_24 : fm_fl wsA "EscapeMill$Code" 24 vwA 0 4 := ⟨nC, tC, 7, rfl, by decide, usC, (iA_1 (mem_i 29 rfl)), rfl⟩
theorem fP_65 : fm_fl wsA "EscapeMill$Plan" 65 vwA 0 4 := ⟨nC, tC, 7, rfl, by decide, usC, (iA_1 (mem_i 30 rfl)), rfl⟩
theorem fM_121 : fm_fl wsA "EscapeMill$Machine" 121 vwA 0 4 := ⟨nC, tC, 7, rfl, by decide, usC, (iA_1 (mem_i 31 rfl)), rfl⟩
theorem fF_102 : fm_fl wsA "EscapeMill$Facts" 102 vwA 0 4 := ⟨nC, tC, 7, rfl, by decide, usC, (iA_1 (mem_i 32 rfl)), rfl⟩
theorem fC_27 : fm_fl wsA "EscapeMill$Code" 27 vwA 0 5 := ⟨nC, tC, 7, rfl, by decide, usC, (iA_1 (mem_i 33 rfl)), rfl⟩
theorem fP_55 : fm_fl wsA "EscapeMill$Plan" 55 vwA 0 5 := ⟨nC, tC, 7, rfl, by decide, usC, (iA_1 (mem_i 34 rfl)), rfl⟩
theorem fF_44 : fm_fl wsA "EscapeMill$Facts" 44 vwA 0 5 := ⟨nC, tC, 7, rfl, by decide, usC, (iA_1 (mem_i 35 rfl)), rfl⟩
theorem fE_56 : fm_fl wsA "EscapeMill" 56 vwA 0 5 := ⟨nC, tC, 7, rfl, by decide, usC, (iA_1 (mem_i 36 rfl)), rfl⟩
theorem fM_144 : fm_fl wsA "EscapeMill$Machine" 144 vwA 0 5 := ⟨nC, tC, 7, rfl, by decide, usC, (iA_1 (mem_i 37 rfl)), rfl⟩
theorem fC_31 : fm_fl wsA "EscapeMill$Code" 31 vwA 0 6 := ⟨nC, tC, 7, rfl, by decide, usC, (iA_1 (mem_i 38 rfl)), rfl⟩
theorem fP_21 : fm_fl wsA "EscapeMill$Plan" 21 vwA 0 6 := ⟨nC, tC, 7, rfl, by decide, usC, (iA_1 (mem_i 39 rfl)), rfl⟩
theorem fE_48 : fm_fl wsA "EscapeMill" 48 vwA 0 6 := ⟨nC, tC, 7, rfl, by decide, usC, (iA_2 (mem_i 0 rfl)), rfl⟩
theorem fF_49 : fm_fl wsA "EscapeMill$Facts" 49 vwA 0 6 := ⟨nC, tC, 7, rfl, by decide, usC, (iA_2 (mem_i 1 rfl)), rfl⟩
theorem fM_147 : fm_fl wsA "EscapeMill$Machine" 147 vwA 0 6 := ⟨nC, tC, 7, rfl, by decide, usC, (iA_2 (mem_i 2 rfl)), rfl⟩
theorem fF_9 : fm_fl wsA "EscapeMill$Facts" 9 vwA 1 0 := ⟨nF, tF, 8, rfl, by decide, usF, (iA_2 (mem_i 13 rfl)), rfl⟩
theorem fE_111 : fm_fl wsA "EscapeMill" 111 vwA 1 0 := ⟨nF, tF, 8, rfl, by decide, usF, (iA_2 (mem_i 14 rfl)), rfl⟩
theorem fF_17 : fm_fl wsA "EscapeMill$Facts" 17 vwA 1 1 := ⟨nF, tF, 8, rfl, by decide, usF, (iA_2 (mem_i 15 rfl)), rfl⟩
theorem fF_20 : fm_fl wsA "EscapeMill$Facts" 20 vwA 1 2 := ⟨nF, tF, 8, rfl, by decide, usF, (iA_2 (mem_i 16 rfl)), rfl⟩
theorem fE_105 : fm_fl wsA "EscapeMill" 105 vwA 1 2 := ⟨nF, tF, 8, rfl, by decide, usF, (iA_2 (mem_i 17 rfl)), rfl⟩
theorem fF_23 : fm_fl wsA "EscapeMill$Facts" 23 vwA 1 3 := ⟨nF, tF, 8, rfl, by decide, usF, (iA_2 (mem_i 18 rfl)), rfl⟩
theorem fF_27 : fm_fl wsA "EscapeMill$Facts" 27 vwA 1 4 := ⟨nF, tF, 8, rfl, by decide, usF, (iA_2 (mem_i 19 rfl)), rfl⟩
theorem fF_31 : fm_fl wsA "EscapeMill$Facts" 31 vwA 1 5 := ⟨nF, tF, 8, rfl, by decide, usF, (iA_2 (mem_i 20 rfl)), rfl⟩
theorem fF_34 : fm_fl wsA "EscapeMill$Facts" 34 vwA 1 6 := ⟨nF, tF, 8, rfl, by decide, usF, (iA_2 (mem_i 21 rfl)), rfl⟩
theorem fF_37 : fm_fl wsA "EscapeMill$Facts" 37 vwA 1 7 := ⟨nF, tF, 8, rfl, by decide, usF, (iA_2 (mem_i 22 rfl)), rfl⟩
theorem fP_9 : fm_fl wsA "EscapeMill$Plan" 9 vwA 3 0 := ⟨nP, tP, 1, rfl, by decide, usP, (iA_2 (mem_i 34 rfl)), rfl⟩
theorem fM_74 : fm_fl wsA "EscapeMill$Machine" 74 vwA 3 0 := ⟨nP, tP, 1, rfl, by decide, usP, (iA_2 (mem_i 35 rfl)), rfl⟩
theorem fE_108 : fm_fl wsA "EscapeMill" 108 vwA 3 0 := ⟨nP, tP, 1, rfl, by decide, usP, (iA_2 (mem_i 36 rfl)), rfl⟩
theorem fE_11 : fm_fl wsA "EscapeMill" 11 vwA 4 0 := ⟨nE, tE, 5, rfl, by decide, usE, (iA_2 (mem_i 38 rfl)), rfl⟩
theorem fE_17 : fm_fl wsA "EscapeMill" 17 vwA 4 1 := ⟨nE, tE, 5, rfl, by decide, usE, (iA_2 (mem_i 39 rfl)), rfl⟩
theorem fE_23 : fm_fl wsA "EscapeMill" 23 vwA 4 2 := ⟨nE, tE, 5, rfl, by decide, usE, (iA_3 (mem_i 0 rfl)), rfl⟩
theorem fE_30 : fm_fl wsA "EscapeMill" 30 vwA 4 3 := ⟨nE, tE, 5, rfl, by decide, usE, (iA_3 (mem_i 1 rfl)), rfl⟩
theorem fE_34 : fm_fl wsA "EscapeMill" 34 vwA 4 4 := ⟨nE, tE, 5, rfl, by decide, usE, (iA_3 (mem_i 2 rfl)), rfl⟩
theorem fR_77 : fm_fl wsA "EscapeMillModel" 77 vwA 5 0 := ⟨nR, tR, 30, rfl, by decide, usR, (iA_8 (mem_i 20 rfl)), rfl⟩
theorem fR_7 : fm_fl wsA "EscapeMillModel" 7 vwA 5 1 := ⟨nR, tR, 30, rfl, by decide, usR, (iA_8 (mem_i 21 rfl)), rfl⟩
theorem fR_13 : fm_fl wsA "EscapeMillModel" 13 vwA 5 2 := ⟨nR, tR, 30, rfl, by decide, usR, (iA_8 (mem_i 22 rfl)), rfl⟩
theorem fR_16 : fm_fl wsA "EscapeMillModel" 16 vwA 5 3 := ⟨nR, tR, 30, rfl, by decide, usR, (iA_8 (mem_i 23 rfl)), rfl⟩
theorem fR_19 : fm_fl wsA "EscapeMillModel" 19 vwA 5 4 := ⟨nR, tR, 30, rfl, by decide, usR, (iA_8 (mem_i 24 rfl)), rfl⟩
theorem fR_22 : fm_fl wsA "EscapeMillModel" 22 vwA 5 5 := ⟨nR, tR, 30, rfl, by decide, usR, (iA_8 (mem_i 25 rfl)), rfl⟩
theorem fR_25 : fm_fl wsA "EscapeMillModel" 25 vwA 5 6 := ⟨nR, tR, 30, rfl, by decide, usR, (iA_8 (mem_i 26 rfl)), rfl⟩
theorem fR_28 : fm_fl wsA "EscapeMillModel" 28 vwA 5 7 := ⟨nR, tR, 30, rfl, by decide, usR, (iA_8 (mem_i 27 rfl)), rfl⟩
theorem fR_85 : fm_fl wsA "EscapeMillModel" 85 vwA 5 8 := ⟨nR, tR, 30, rfl, by decide, usR, (iA_8 (mem_i 28 rfl)), rfl⟩
theorem fR_31 : fm_fl wsA "EscapeMillModel" 31 vwA 5 9 := ⟨nR, tR, 30, rfl, by decide, usR, (iA_8 (mem_i 29 rfl)), rfl⟩
theorem fR_34 : fm_fl wsA "EscapeMillModel" 34 vwA 5 10 := ⟨nR, tR, 30, rfl, by decide, usR, (iA_8 (mem_i 30 rfl)), rfl⟩
theorem fR_37 : fm_fl wsA "EscapeMillModel" 37 vwA 5 11 := ⟨nR, tR, 30, rfl, by decide, usR, (iA_8 (mem_i 31 rfl)), rfl⟩
theorem fR_40 : fm_fl wsA "EscapeMillModel" 40 vwA 5 12 := ⟨nR, tR, 30, rfl, by decide, usR, (iA_8 (mem_i 32 rfl)), rfl⟩
theorem fR_43 : fm_fl wsA "EscapeMillModel" 43 vwA 5 13 := ⟨nR, tR, 30, rfl, by decide, usR, (iA_8 (mem_i 33 rfl)), rfl⟩
theorem fR_157 : fm_fl wsA "EscapeMillModel" 157 vwA 5 14 := ⟨nR, tR, 30, rfl, by decide, usR, (iA_8 (mem_i 34 rfl)), rfl⟩
theorem fR_47 : fm_fl wsA "EscapeMillModel" 47 vwA 5 15 := ⟨nR, tR, 30, rfl, by decide, usR, (iA_8 (mem_i 35 rfl)), rfl⟩
theorem fR_50 : fm_fl wsA "EscapeMillModel" 50 vwA 5 16 := ⟨nR, tR, 30, rfl, by decide, usR, (iA_8 (mem_i 36 rfl)), rfl⟩
theorem fR_53 : fm_fl wsA "EscapeMillModel" 53 vwA 5 17 := ⟨nR, tR, 30, rfl, by decide, usR, (iA_8 (mem_i 37 rfl)), rfl⟩
theorem fR_56 : fm_fl wsA "EscapeMillModel" 56 vwA 5 18 := ⟨nR, tR, 30, rfl, by decide, usR, (iA_8 (mem_i 38 rfl)), rfl⟩
theorem fR_59 : fm_fl wsA "EscapeMillModel" 59 vwA 5 19 := ⟨nR, tR, 30, rfl, by decide, usR, (iA_8 (mem_i 39 rfl)), rfl⟩
theorem fR_62 : fm_fl wsA "EscapeMillModel" 62 vwA 5 20 := ⟨nR, tR, 30, rfl, by decide, usR, (iA_9 (mem_i 0 rfl)), rfl⟩
theorem fR_65 : fm_fl wsA "EscapeMillModel" 65 vwA 5 21 := ⟨nR, tR, 30, rfl, by decide, usR, (iA_9 (mem_i 1 rfl)), rfl⟩
theorem fR_170 : fm_fl wsA "EscapeMillModel" 170 vwA 5 22 := ⟨nR, tR, 30, rfl, by decide, usR, (iA_9 (mem_i 2 rfl)), rfl⟩
theorem fR_68 : fm_fl wsA "EscapeMillModel" 68 vwA 5 23 := ⟨nR, tR, 30, rfl, by decide, usR, (iA_9 (mem_i 3 rfl)), rfl⟩
theorem fR_160 : fm_fl wsA "EscapeMillModel" 160 vwA 5 24 := ⟨nR, tR, 30, rfl, by decide, usR, (iA_9 (mem_i 4 rfl)), rfl⟩
theorem fR_179 : fm_fl wsA "EscapeMillModel" 179 vwA 5 25 := ⟨nR, tR, 30, rfl, by decide, usR, (iA_9 (mem_i 5 rfl)), rfl⟩
theorem fR_201 : fm_fl wsA "EscapeMillModel" 201 vwA 5 26 := ⟨nR, tR, 30, rfl, by decide, usR, (iA_9 (mem_i 6 rfl)), rfl⟩
theorem fR_167 : fm_fl wsA "EscapeMillModel" 167 vwA 5 27 := ⟨nR, tR, 30, rfl, by decide, usR, (iA_9 (mem_i 7 rfl)), rfl⟩
theorem fR_71 : fm_fl wsA "EscapeMillModel" 71 vwA 5 28 := ⟨nR, tR, 30, rfl, by decide, usR, (iA_9 (mem_i 8 rfl)), rfl⟩
theorem fR_74 : fm_fl wsA "EscapeMillModel" 74 vwA 5 29 := ⟨nR, tR, 30, rfl, by decide, usR, (iA_9 (mem_i 9 rfl)), rfl⟩
theorem pC_5 : fm_fp vwA 0 5 .int := ⟨nC, tC, 7, uC, rfl, tyC, nmC, rfl, rfl⟩
theorem pC_6 : fm_fp vwA 0 6 .int := ⟨nC, tC, 7, uC, rfl, tyC, nmC, rfl, rfl⟩
theorem pF_4 : fm_fp vwA 1 4 .int := ⟨nF, tF, 8, uF, rfl, tyF, nmF, rfl, rfl⟩
theorem pF_5 : fm_fp vwA 1 5 .int := ⟨nF, tF, 8, uF, rfl, tyF, nmF, rfl, rfl⟩
theorem pF_6 : fm_fp vwA 1 6 .int := ⟨nF, tF, 8, uF, rfl, tyF, nmF, rfl, rfl⟩
theorem pF_7 : fm_fp vwA 1 7 .boolean := ⟨nF, tF, 8, uF, rfl, tyF, nmF, rfl, rfl⟩
theorem pM_9 : fm_fp vwA 2 9 .int := ⟨nM, tM, 16, uM, rfl, tyM, nmM, rfl, rfl⟩
theorem pM_11 : fm_fp vwA 2 11 .int := ⟨nM, tM, 16, uM, rfl, tyM, nmM, rfl, rfl⟩
theorem pM_12 : fm_fp vwA 2 12 .int := ⟨nM, tM, 16, uM, rfl, tyM, nmM, rfl, rfl⟩
theorem pM_13 : fm_fp vwA 2 13 .int := ⟨nM, tM, 16, uM, rfl, tyM, nmM, rfl, rfl⟩
theorem pM_14 : fm_fp vwA 2 14 .int := ⟨nM, tM, 16, uM, rfl, tyM, nmM, rfl, rfl⟩
theorem pM_15 : fm_fp vwA 2 15 .int := ⟨nM, tM, 16, uM, rfl, tyM, nmM, rfl, rfl⟩
theorem pE_4 : fm_fp vwA 4 4 .boolean := ⟨nE, tE, 5, uE, rfl, tyE, nmE, rfl, rfl⟩
theorem pR_0 : fm_fp vwA 5 0 .int := ⟨nR, tR, 30, uR, rfl, tyR, nmR, rfl, rfl⟩
theorem pR_8 : fm_fp vwA 5 8 .boolean := ⟨nR, tR, 30, uR, rfl, tyR, nmR, rfl, rfl⟩
theorem pR_14 : fm_fp vwA 5 14 .int := ⟨nR, tR, 30, uR, rfl, tyR, nmR, rfl, rfl⟩
theorem pR_22 : fm_fp vwA 5 22 .int := ⟨nR, tR, 30, uR, rfl, tyR, nmR, rfl, rfl⟩
theorem pR_24 : fm_fp vwA 5 24 .int := ⟨nR, tR, 30, uR, rfl, tyR, nmR, rfl, rfl⟩
theorem pR_25 : fm_fp vwA 5 25 .int := ⟨nR, tR, 30, uR, rfl, tyR, nmR, rfl, rfl⟩
theorem pR_26 : fm_fp vwA 5 26 .int := ⟨nR, tR, 30, uR, rfl, tyR, nmR, rfl, rfl⟩
theorem pR_27 : fm_fp vwA 5 27 .int := ⟨nR, tR, 30, uR, rfl, tyR, nmR, rfl, rfl⟩
theorem kF_76 : Cond.constant "EscapeMill$Facts" 76 16777216 ∈ wsA := (iA_3 (mem_i 27 rfl))
theorem kF_84 : Cond.constant "EscapeMill$Facts" 84 67108864 ∈ wsA := (iA_3 (mem_i 37 rfl))
theorem kF_109 : Cond.constant "EscapeMill$Facts" 109 16777215 ∈ wsA := (iA_4 (mem_i 13 rfl))
theorem kR_92 : Cond.constant "EscapeMillModel" 92 67108864 ∈ wsA := (iA_10 (mem_i 27 rfl))
theorem kR_112 : Cond.constant "EscapeMillModel" 112 16777216 ∈ wsA := (iA_12 (mem_i 2 rfl))
theorem kR_113 : Cond.constant "EscapeMillModel" 113 50331648 ∈ wsA := (iA_12 (mem_i 3 rfl))
theorem im_E_run : Cond.instanceMethod y_E_run ∈ wsA := (iA_3 (mem_i 8 rfl))
theorem se_E_run : Cond.selects "EscapeMill" y_E_run y_E_run ∈ wsA := (iA_3 (mem_i 9 rfl))
theorem im_E_settle : Cond.instanceMethod y_E_settle ∈ wsA := (iA_3 (mem_i 12 rfl))
theorem se_E_settle : Cond.selects "EscapeMill" y_E_settle y_E_settle ∈ wsA := (iA_13 (mem_i 9 rfl))
theorem im_F_gather : Cond.instanceMethod y_F_gather ∈ wsA := (iA_3 (mem_i 15 rfl))
theorem se_F_gather : Cond.selects "EscapeMill$Facts" y_F_gather y_F_gather ∈ wsA := (iA_3 (mem_i 16 rfl))
theorem im_F_forget : Cond.instanceMethod y_F_forget ∈ wsA := (iA_3 (mem_i 19 rfl))
theorem se_F_forget : Cond.selects "EscapeMill$Facts" y_F_forget y_F_forget ∈ wsA := (iA_13 (mem_i 10 rfl))
theorem st_A_fill : Cond.static y_A_fill ∈ wsA := (iA_3 (mem_i 22 rfl))
theorem im_F_begin : Cond.instanceMethod y_F_begin ∈ wsA := (iA_3 (mem_i 25 rfl))
theorem se_F_begin : Cond.selects "EscapeMill$Facts" y_F_begin y_F_begin ∈ wsA := (iA_13 (mem_i 11 rfl))
theorem im_F_refer : Cond.instanceMethod y_F_refer ∈ wsA := (iA_3 (mem_i 29 rfl))
theorem se_F_refer : Cond.selects "EscapeMill$Facts" y_F_refer y_F_refer ∈ wsA := (iA_13 (mem_i 12 rfl))
theorem im_F_holdInBoth : Cond.instanceMethod y_F_holdInBoth ∈ wsA := (iA_3 (mem_i 32 rfl))
theorem se_F_holdInBoth : Cond.selects "EscapeMill$Facts" y_F_holdInBoth y_F_holdInBoth ∈ wsA := (iA_13 (mem_i 13 rfl))
theorem im_F_holdIn : Cond.instanceMethod y_F_holdIn ∈ wsA := (iA_3 (mem_i 35 rfl))
theorem se_F_holdIn : Cond.selects "EscapeMill$Facts" y_F_holdIn y_F_holdIn ∈ wsA := (iA_13 (mem_i 14 rfl))
theorem im_F_applyCall : Cond.instanceMethod y_F_applyCall ∈ wsA := (iA_3 (mem_i 39 rfl))
theorem se_F_applyCall : Cond.selects "EscapeMill$Facts" y_F_applyCall y_F_applyCall ∈ wsA := (iA_13 (mem_i 15 rfl))
theorem im_F_reached : Cond.instanceMethod y_F_reached ∈ wsA := (iA_4 (mem_i 2 rfl))
theorem se_F_reached : Cond.selects "EscapeMill$Facts" y_F_reached y_F_reached ∈ wsA := (iA_13 (mem_i 16 rfl))
theorem im_F_heldBy : Cond.instanceMethod y_F_heldBy ∈ wsA := (iA_4 (mem_i 5 rfl))
theorem se_F_heldBy : Cond.selects "EscapeMill$Facts" y_F_heldBy y_F_heldBy ∈ wsA := (iA_13 (mem_i 17 rfl))
theorem im_F_apply : Cond.instanceMethod y_F_apply ∈ wsA := (iA_4 (mem_i 8 rfl))
theorem se_F_apply : Cond.selects "EscapeMill$Facts" y_F_apply y_F_apply ∈ wsA := (iA_13 (mem_i 18 rfl))
theorem im_F_hold : Cond.instanceMethod y_F_hold ∈ wsA := (iA_4 (mem_i 11 rfl))
theorem se_F_hold : Cond.selects "EscapeMill$Facts" y_F_hold y_F_hold ∈ wsA := (iA_13 (mem_i 19 rfl))
theorem im_F_sumUp : Cond.instanceMethod y_F_sumUp ∈ wsA := (iA_4 (mem_i 15 rfl))
theorem se_F_sumUp : Cond.selects "EscapeMill$Facts" y_F_sumUp y_F_sumUp ∈ wsA := (iA_13 (mem_i 20 rfl))
theorem im_P_draw : Cond.instanceMethod y_P_draw ∈ wsA := (iA_4 (mem_i 18 rfl))
theorem se_P_draw : Cond.selects "EscapeMill$Plan" y_P_draw y_P_draw ∈ wsA := (iA_4 (mem_i 19 rfl))
theorem st_P_soleNew : Cond.static y_P_soleNew ∈ wsA := (iA_4 (mem_i 23 rfl))
theorem im_C_defines : Cond.instanceMethod y_C_defines ∈ wsA := (iA_4 (mem_i 26 rfl))
theorem se_C_defines : Cond.selects "EscapeMill$Code" y_C_defines y_C_defines ∈ wsA := (iA_4 (mem_i 27 rfl))
theorem im_C_reachedWithout : Cond.instanceMethod y_C_reachedWithout ∈ wsA := (iA_4 (mem_i 30 rfl))
theorem se_C_reachedWithout : Cond.selects "EscapeMill$Code" y_C_reachedWithout y_C_reachedWithout ∈ wsA := (iA_4 (mem_i 31 rfl))
theorem im_C_bit : Cond.instanceMethod y_C_bit ∈ wsA := (iA_4 (mem_i 34 rfl))
theorem se_C_bit : Cond.selects "EscapeMill$Code" y_C_bit y_C_bit ∈ wsA := (iA_13 (mem_i 21 rfl))
theorem im_C_has : Cond.instanceMethod y_C_has ∈ wsA := (iA_4 (mem_i 37 rfl))
theorem se_C_has : Cond.selects "EscapeMill$Code" y_C_has y_C_has ∈ wsA := (iA_4 (mem_i 38 rfl))
theorem im_C_behind : Cond.instanceMethod y_C_behind ∈ wsA := (iA_5 (mem_i 1 rfl))
theorem se_C_behind : Cond.selects "EscapeMill$Code" y_C_behind y_C_behind ∈ wsA := (iA_13 (mem_i 22 rfl))
theorem im_C_jumps : Cond.instanceMethod y_C_jumps ∈ wsA := (iA_5 (mem_i 4 rfl))
theorem se_C_jumps : Cond.selects "EscapeMill$Code" y_C_jumps y_C_jumps ∈ wsA := (iA_5 (mem_i 5 rfl))
theorem st_P_staysInside : Cond.static y_P_staysInside ∈ wsA := (iA_5 (mem_i 8 rfl))
theorem im_C_handsOn : Cond.instanceMethod y_C_handsOn ∈ wsA := (iA_5 (mem_i 11 rfl))
theorem se_C_handsOn : Cond.selects "EscapeMill$Code" y_C_handsOn y_C_handsOn ∈ wsA := (iA_5 (mem_i 12 rfl))
theorem st_P_isMadeFirst : Cond.static y_P_isMadeFirst ∈ wsA := (iA_5 (mem_i 15 rfl))
theorem im_C_worksOn : Cond.instanceMethod y_C_worksOn ∈ wsA := (iA_5 (mem_i 18 rfl))
theorem se_C_worksOn : Cond.selects "EscapeMill$Code" y_C_worksOn y_C_worksOn ∈ wsA := (iA_5 (mem_i 19 rfl))
theorem im_P_takeApart : Cond.instanceMethod y_P_takeApart ∈ wsA := (iA_5 (mem_i 22 rfl))
theorem se_P_takeApart : Cond.selects "EscapeMill$Plan" y_P_takeApart y_P_takeApart ∈ wsA := (iA_13 (mem_i 23 rfl))
theorem im_F_escapeOf : Cond.instanceMethod y_F_escapeOf ∈ wsA := (iA_5 (mem_i 25 rfl))
theorem se_F_escapeOf : Cond.selects "EscapeMill$Facts" y_F_escapeOf y_F_escapeOf ∈ wsA := (iA_5 (mem_i 26 rfl))
theorem im_P_pairLocks : Cond.instanceMethod y_P_pairLocks ∈ wsA := (iA_5 (mem_i 29 rfl))
theorem se_P_pairLocks : Cond.selects "EscapeMill$Plan" y_P_pairLocks y_P_pairLocks ∈ wsA := (iA_13 (mem_i 24 rfl))
theorem st_P_partner : Cond.static y_P_partner ∈ wsA := (iA_5 (mem_i 32 rfl))
theorem st_P_isJumpedInto : Cond.static y_P_isJumpedInto ∈ wsA := (iA_5 (mem_i 35 rfl))
theorem st_P_endsPairing : Cond.static y_P_endsPairing ∈ wsA := (iA_5 (mem_i 39 rfl))
theorem im_M_go : Cond.instanceMethod y_M_go ∈ wsA := (iA_6 (mem_i 2 rfl))
theorem se_M_go : Cond.selects "EscapeMill$Machine" y_M_go y_M_go ∈ wsA := (iA_6 (mem_i 3 rfl))
theorem im_M_begin : Cond.instanceMethod y_M_begin ∈ wsA := (iA_6 (mem_i 6 rfl))
theorem se_M_begin : Cond.selects "EscapeMill$Machine" y_M_begin y_M_begin ∈ wsA := (iA_13 (mem_i 25 rfl))
theorem im_M_enter : Cond.instanceMethod y_M_enter ∈ wsA := (iA_6 (mem_i 10 rfl))
theorem se_M_enter : Cond.selects "EscapeMill$Machine" y_M_enter y_M_enter ∈ wsA := (iA_13 (mem_i 26 rfl))
theorem im_M_base : Cond.instanceMethod y_M_base ∈ wsA := (iA_6 (mem_i 13 rfl))
theorem se_M_base : Cond.selects "EscapeMill$Machine" y_M_base y_M_base ∈ wsA := (iA_13 (mem_i 27 rfl))
theorem im_M_leave : Cond.instanceMethod y_M_leave ∈ wsA := (iA_6 (mem_i 17 rfl))
theorem se_M_leave : Cond.selects "EscapeMill$Machine" y_M_leave y_M_leave ∈ wsA := (iA_13 (mem_i 28 rfl))
theorem im_M_perform : Cond.instanceMethod y_M_perform ∈ wsA := (iA_6 (mem_i 20 rfl))
theorem se_M_perform : Cond.selects "EscapeMill$Machine" y_M_perform y_M_perform ∈ wsA := (iA_13 (mem_i 29 rfl))
theorem im_M_cellOf : Cond.instanceMethod y_M_cellOf ∈ wsA := (iA_6 (mem_i 23 rfl))
theorem se_M_cellOf : Cond.selects "EscapeMill$Machine" y_M_cellOf y_M_cellOf ∈ wsA := (iA_13 (mem_i 30 rfl))
theorem im_M_workOnField : Cond.instanceMethod y_M_workOnField ∈ wsA := (iA_6 (mem_i 26 rfl))
theorem se_M_workOnField : Cond.selects "EscapeMill$Machine" y_M_workOnField y_M_workOnField ∈ wsA := (iA_13 (mem_i 31 rfl))
theorem im_M_changeCount : Cond.instanceMethod y_M_changeCount ∈ wsA := (iA_6 (mem_i 29 rfl))
theorem se_M_changeCount : Cond.selects "EscapeMill$Machine" y_M_changeCount y_M_changeCount ∈ wsA := (iA_13 (mem_i 32 rfl))
theorem im_M_call : Cond.instanceMethod y_M_call ∈ wsA := (iA_6 (mem_i 32 rfl))
theorem se_M_call : Cond.selects "EscapeMill$Machine" y_M_call y_M_call ∈ wsA := (iA_13 (mem_i 33 rfl))
theorem im_M_newParts : Cond.instanceMethod y_M_newParts ∈ wsA := (iA_6 (mem_i 35 rfl))
theorem se_M_newParts : Cond.selects "EscapeMill$Machine" y_M_newParts y_M_newParts ∈ wsA := (iA_13 (mem_i 34 rfl))
theorem im_M_emptied : Cond.instanceMethod y_M_emptied ∈ wsA := (iA_6 (mem_i 38 rfl))
theorem se_M_emptied : Cond.selects "EscapeMill$Machine" y_M_emptied y_M_emptied ∈ wsA := (iA_13 (mem_i 35 rfl))
theorem im_M_newObject : Cond.instanceMethod y_M_newObject ∈ wsA := (iA_7 (mem_i 1 rfl))
theorem se_M_newObject : Cond.selects "EscapeMill$Machine" y_M_newObject y_M_newObject ∈ wsA := (iA_13 (mem_i 36 rfl))
theorem im_M_move : Cond.instanceMethod y_M_move ∈ wsA := (iA_7 (mem_i 4 rfl))
theorem se_M_move : Cond.selects "EscapeMill$Machine" y_M_move y_M_move ∈ wsA := (iA_13 (mem_i 37 rfl))
theorem im_M_show : Cond.instanceMethod y_M_show ∈ wsA := (iA_7 (mem_i 7 rfl))
theorem se_M_show : Cond.selects "EscapeMill$Machine" y_M_show y_M_show ∈ wsA := (iA_13 (mem_i 38 rfl))
theorem im_E_latest : Cond.instanceMethod y_E_latest ∈ wsA := (iA_7 (mem_i 9 rfl))
theorem se_E_latest : Cond.selects "EscapeMill" y_E_latest y_E_latest ∈ wsA := (iA_7 (mem_i 10 rfl))
theorem im_E_escape : Cond.instanceMethod y_E_escape ∈ wsA := (iA_7 (mem_i 12 rfl))
theorem se_E_escape : Cond.selects "EscapeMill" y_E_escape y_E_escape ∈ wsA := (iA_7 (mem_i 13 rfl))
theorem st_E_isMethod : Cond.static y_E_isMethod ∈ wsA := (iA_7 (mem_i 16 rfl))
theorem im_E_summary : Cond.instanceMethod y_E_summary ∈ wsA := (iA_7 (mem_i 20 rfl))
theorem se_E_summary : Cond.selects "EscapeMill" y_E_summary y_E_summary ∈ wsA := (iA_7 (mem_i 21 rfl))
theorem im_E_fate : Cond.instanceMethod y_E_fate ∈ wsA := (iA_7 (mem_i 23 rfl))
theorem se_E_fate : Cond.selects "EscapeMill" y_E_fate y_E_fate ∈ wsA := (iA_7 (mem_i 24 rfl))
theorem im_E_may : Cond.instanceMethod y_E_may ∈ wsA := (iA_7 (mem_i 26 rfl))
theorem se_E_may : Cond.selects "EscapeMill" y_E_may y_E_may ∈ wsA := (iA_7 (mem_i 27 rfl))
theorem im_E_length : Cond.instanceMethod y_E_length ∈ wsA := (iA_7 (mem_i 29 rfl))
theorem se_E_length : Cond.selects "EscapeMill" y_E_length y_E_length ∈ wsA := (iA_7 (mem_i 30 rfl))
theorem im_E_parameters : Cond.instanceMethod y_E_parameters ∈ wsA := (iA_7 (mem_i 32 rfl))
theorem se_E_parameters : Cond.selects "EscapeMill" y_E_parameters y_E_parameters ∈ wsA := (iA_7 (mem_i 33 rfl))
theorem im_E_put : Cond.instanceMethod y_E_put ∈ wsA := (iA_7 (mem_i 36 rfl))
theorem se_E_put : Cond.selects "EscapeMill" y_E_put y_E_put ∈ wsA := (iA_7 (mem_i 37 rfl))
theorem st_E_isInstruction : Cond.static y_E_isInstruction ∈ wsA := (iA_8 (mem_i 0 rfl))
theorem st_E_isVariable : Cond.static y_E_isVariable ∈ wsA := (iA_8 (mem_i 3 rfl))
theorem im_C_append : Cond.instanceMethod y_C_append ∈ wsA := (iA_8 (mem_i 7 rfl))
theorem se_C_append : Cond.selects "EscapeMill$Code" y_C_append y_C_append ∈ wsA := (iA_8 (mem_i 8 rfl))
theorem im_E_clear : Cond.instanceMethod y_E_clear ∈ wsA := (iA_8 (mem_i 10 rfl))
theorem se_E_clear : Cond.selects "EscapeMill" y_E_clear y_E_clear ∈ wsA := (iA_8 (mem_i 11 rfl))
theorem im_E_shown : Cond.instanceMethod y_E_shown ∈ wsA := (iA_8 (mem_i 13 rfl))
theorem se_E_shown : Cond.selects "EscapeMill" y_E_shown y_E_shown ∈ wsA := (iA_8 (mem_i 14 rfl))
theorem im_R_thrown : Cond.instanceMethod y_R_thrown ∈ wsA := (iA_10 (mem_i 0 rfl))
theorem se_R_thrown : Cond.selects "EscapeMillModel" y_R_thrown y_R_thrown ∈ wsA := (iA_10 (mem_i 1 rfl))
theorem im_R_parameters : Cond.instanceMethod y_R_parameters ∈ wsA := (iA_10 (mem_i 3 rfl))
theorem se_R_parameters : Cond.selects "EscapeMillModel" y_R_parameters y_R_parameters ∈ wsA := (iA_10 (mem_i 4 rfl))
theorem st_R_isMethod : Cond.static y_R_isMethod ∈ wsA := (iA_10 (mem_i 7 rfl))
theorem im_R_put : Cond.instanceMethod y_R_put ∈ wsA := (iA_10 (mem_i 9 rfl))
theorem se_R_put : Cond.selects "EscapeMillModel" y_R_put y_R_put ∈ wsA := (iA_10 (mem_i 10 rfl))
theorem st_R_four : Cond.static y_R_four ∈ wsA := (iA_10 (mem_i 13 rfl))
theorem im_R_clear : Cond.instanceMethod y_R_clear ∈ wsA := (iA_10 (mem_i 15 rfl))
theorem se_R_clear : Cond.selects "EscapeMillModel" y_R_clear y_R_clear ∈ wsA := (iA_10 (mem_i 16 rfl))
theorem im_R_run : Cond.instanceMethod y_R_run ∈ wsA := (iA_10 (mem_i 18 rfl))
theorem se_R_run : Cond.selects "EscapeMillModel" y_R_run y_R_run ∈ wsA := (iA_10 (mem_i 19 rfl))
theorem im_R_know : Cond.instanceMethod y_R_know ∈ wsA := (iA_10 (mem_i 22 rfl))
theorem se_R_know : Cond.selects "EscapeMillModel" y_R_know y_R_know ∈ wsA := (iA_13 (mem_i 39 rfl))
theorem im_R_analyse : Cond.instanceMethod y_R_analyse ∈ wsA := (iA_10 (mem_i 25 rfl))
theorem se_R_analyse : Cond.selects "EscapeMillModel" y_R_analyse y_R_analyse ∈ wsA := (iA_14 (mem_i 0 rfl))
theorem im_R_holds : Cond.instanceMethod y_R_holds ∈ wsA := (iA_10 (mem_i 29 rfl))
theorem se_R_holds : Cond.selects "EscapeMillModel" y_R_holds y_R_holds ∈ wsA := (iA_14 (mem_i 1 rfl))
theorem im_R_weight : Cond.instanceMethod y_R_weight ∈ wsA := (iA_10 (mem_i 32 rfl))
theorem se_R_weight : Cond.selects "EscapeMillModel" y_R_weight y_R_weight ∈ wsA := (iA_14 (mem_i 2 rfl))
theorem im_R_adds : Cond.instanceMethod y_R_adds ∈ wsA := (iA_10 (mem_i 35 rfl))
theorem se_R_adds : Cond.selects "EscapeMillModel" y_R_adds y_R_adds ∈ wsA := (iA_14 (mem_i 3 rfl))
theorem im_R_held : Cond.instanceMethod y_R_held ∈ wsA := (iA_10 (mem_i 38 rfl))
theorem se_R_held : Cond.selects "EscapeMillModel" y_R_held y_R_held ∈ wsA := (iA_14 (mem_i 4 rfl))
theorem im_R_calls : Cond.instanceMethod y_R_calls ∈ wsA := (iA_11 (mem_i 1 rfl))
theorem se_R_calls : Cond.selects "EscapeMillModel" y_R_calls y_R_calls ∈ wsA := (iA_14 (mem_i 5 rfl))
theorem im_R_reached : Cond.instanceMethod y_R_reached ∈ wsA := (iA_11 (mem_i 4 rfl))
theorem se_R_reached : Cond.selects "EscapeMillModel" y_R_reached y_R_reached ∈ wsA := (iA_14 (mem_i 6 rfl))
theorem im_R_stateOf : Cond.instanceMethod y_R_stateOf ∈ wsA := (iA_11 (mem_i 7 rfl))
theorem se_R_stateOf : Cond.selects "EscapeMillModel" y_R_stateOf y_R_stateOf ∈ wsA := (iA_14 (mem_i 7 rfl))
theorem im_R_fateOf : Cond.instanceMethod y_R_fateOf ∈ wsA := (iA_11 (mem_i 10 rfl))
theorem se_R_fateOf : Cond.selects "EscapeMillModel" y_R_fateOf y_R_fateOf ∈ wsA := (iA_14 (mem_i 8 rfl))
theorem im_R_worksOn : Cond.instanceMethod y_R_worksOn ∈ wsA := (iA_11 (mem_i 13 rfl))
theorem se_R_worksOn : Cond.selects "EscapeMillModel" y_R_worksOn y_R_worksOn ∈ wsA := (iA_14 (mem_i 9 rfl))
theorem im_R_apart : Cond.instanceMethod y_R_apart ∈ wsA := (iA_11 (mem_i 16 rfl))
theorem se_R_apart : Cond.selects "EscapeMillModel" y_R_apart y_R_apart ∈ wsA := (iA_14 (mem_i 10 rfl))
theorem im_R_onlyNew : Cond.instanceMethod y_R_onlyNew ∈ wsA := (iA_11 (mem_i 19 rfl))
theorem se_R_onlyNew : Cond.selects "EscapeMillModel" y_R_onlyNew y_R_onlyNew ∈ wsA := (iA_14 (mem_i 11 rfl))
theorem st_R_defines : Cond.static y_R_defines ∈ wsA := (iA_11 (mem_i 22 rfl))
theorem im_R_gives : Cond.instanceMethod y_R_gives ∈ wsA := (iA_11 (mem_i 25 rfl))
theorem se_R_gives : Cond.selects "EscapeMillModel" y_R_gives y_R_gives ∈ wsA := (iA_14 (mem_i 12 rfl))
theorem im_R_dominates : Cond.instanceMethod y_R_dominates ∈ wsA := (iA_11 (mem_i 28 rfl))
theorem se_R_dominates : Cond.selects "EscapeMillModel" y_R_dominates y_R_dominates ∈ wsA := (iA_14 (mem_i 13 rfl))
theorem im_R_isInstruction : Cond.instanceMethod y_R_isInstruction ∈ wsA := (iA_11 (mem_i 31 rfl))
theorem se_R_isInstruction : Cond.selects "EscapeMillModel" y_R_isInstruction y_R_isInstruction ∈ wsA := (iA_14 (mem_i 14 rfl))
theorem im_R_pair : Cond.instanceMethod y_R_pair ∈ wsA := (iA_11 (mem_i 34 rfl))
theorem se_R_pair : Cond.selects "EscapeMillModel" y_R_pair y_R_pair ∈ wsA := (iA_14 (mem_i 15 rfl))
theorem im_R_escapeOf : Cond.instanceMethod y_R_escapeOf ∈ wsA := (iA_11 (mem_i 37 rfl))
theorem se_R_escapeOf : Cond.selects "EscapeMillModel" y_R_escapeOf y_R_escapeOf ∈ wsA := (iA_14 (mem_i 16 rfl))
theorem im_R_argsOf : Cond.instanceMethod y_R_argsOf ∈ wsA := (iA_12 (mem_i 0 rfl))
theorem se_R_argsOf : Cond.selects "EscapeMillModel" y_R_argsOf y_R_argsOf ∈ wsA := (iA_14 (mem_i 17 rfl))
theorem im_R_enter : Cond.instanceMethod y_R_enter ∈ wsA := (iA_12 (mem_i 5 rfl))
theorem se_R_enter : Cond.selects "EscapeMillModel" y_R_enter y_R_enter ∈ wsA := (iA_14 (mem_i 18 rfl))
theorem im_R_leave : Cond.instanceMethod y_R_leave ∈ wsA := (iA_12 (mem_i 8 rfl))
theorem se_R_leave : Cond.selects "EscapeMillModel" y_R_leave y_R_leave ∈ wsA := (iA_14 (mem_i 19 rfl))
theorem im_R_does : Cond.instanceMethod y_R_does ∈ wsA := (iA_12 (mem_i 11 rfl))
theorem se_R_does : Cond.selects "EscapeMillModel" y_R_does y_R_does ∈ wsA := (iA_14 (mem_i 20 rfl))
theorem im_R_makes : Cond.instanceMethod y_R_makes ∈ wsA := (iA_12 (mem_i 14 rfl))
theorem se_R_makes : Cond.selects "EscapeMillModel" y_R_makes y_R_makes ∈ wsA := (iA_14 (mem_i 21 rfl))
theorem im_R_fields : Cond.instanceMethod y_R_fields ∈ wsA := (iA_12 (mem_i 17 rfl))
theorem se_R_fields : Cond.selects "EscapeMillModel" y_R_fields y_R_fields ∈ wsA := (iA_14 (mem_i 22 rfl))
theorem im_R_set : Cond.instanceMethod y_R_set ∈ wsA := (iA_12 (mem_i 20 rfl))
theorem se_R_set : Cond.selects "EscapeMillModel" y_R_set y_R_set ∈ wsA := (iA_14 (mem_i 23 rfl))
theorem im_R_call : Cond.instanceMethod y_R_call ∈ wsA := (iA_12 (mem_i 23 rfl))
theorem se_R_call : Cond.selects "EscapeMillModel" y_R_call y_R_call ∈ wsA := (iA_14 (mem_i 24 rfl))
theorem im_R_moves : Cond.instanceMethod y_R_moves ∈ wsA := (iA_12 (mem_i 26 rfl))
theorem se_R_moves : Cond.selects "EscapeMillModel" y_R_moves y_R_moves ∈ wsA := (iA_14 (mem_i 25 rfl))
theorem im_R_shown : Cond.instanceMethod y_R_shown ∈ wsA := (iA_12 (mem_i 28 rfl))
theorem se_R_shown : Cond.selects "EscapeMillModel" y_R_shown y_R_shown ∈ wsA := (iA_12 (mem_i 29 rfl))
theorem im_R_latest : Cond.instanceMethod y_R_latest ∈ wsA := (iA_12 (mem_i 31 rfl))
theorem se_R_latest : Cond.selects "EscapeMillModel" y_R_latest y_R_latest ∈ wsA := (iA_12 (mem_i 32 rfl))
theorem im_R_escape : Cond.instanceMethod y_R_escape ∈ wsA := (iA_12 (mem_i 34 rfl))
theorem se_R_escape : Cond.selects "EscapeMillModel" y_R_escape y_R_escape ∈ wsA := (iA_12 (mem_i 35 rfl))
theorem im_R_summary : Cond.instanceMethod y_R_summary ∈ wsA := (iA_12 (mem_i 37 rfl))
theorem se_R_summary : Cond.selects "EscapeMillModel" y_R_summary y_R_summary ∈ wsA := (iA_12 (mem_i 38 rfl))
theorem im_R_fate : Cond.instanceMethod y_R_fate ∈ wsA := (iA_13 (mem_i 0 rfl))
theorem se_R_fate : Cond.selects "EscapeMillModel" y_R_fate y_R_fate ∈ wsA := (iA_13 (mem_i 1 rfl))
theorem im_R_may : Cond.instanceMethod y_R_may ∈ wsA := (iA_13 (mem_i 3 rfl))
theorem se_R_may : Cond.selects "EscapeMillModel" y_R_may y_R_may ∈ wsA := (iA_13 (mem_i 4 rfl))
theorem im_R_length : Cond.instanceMethod y_R_length ∈ wsA := (iA_13 (mem_i 6 rfl))
theorem se_R_length : Cond.selects "EscapeMillModel" y_R_length y_R_length ∈ wsA := (iA_13 (mem_i 7 rfl))
theorem cE_66 : fm_cs wsA "EscapeMill" 66 y_E_settle b_E_settle 2 none 0 := ⟨(iA_3 (mem_i 13 rfl)), (iA_3 (mem_i 11 rfl)), (iA_0 (mem_i 0 rfl)), ⟨by decide, by decide, by decide +kernel⟩, by decide⟩
theorem cE_117 : fm_cs wsA "EscapeMill" 117 y_F_gather b_F_gather 7 none 3 := ⟨(iA_3 (mem_i 17 rfl)), (iA_3 (mem_i 14 rfl)), (iA_0 (mem_i 3 rfl)), ⟨by decide, by decide, by decide +kernel⟩, by decide⟩
theorem cF_41 : fm_cs wsA "EscapeMill$Facts" 41 y_F_forget b_F_forget 2 none 0 := ⟨(iA_3 (mem_i 20 rfl)), (iA_3 (mem_i 18 rfl)), (iA_0 (mem_i 3 rfl)), ⟨by decide, by decide, by decide +kernel⟩, by decide⟩
theorem cF_70 : fm_cs wsA "EscapeMill$Facts" 70 y_A_fill b_A_fill 4 none 2 := ⟨(iA_3 (mem_i 23 rfl)), (iA_3 (mem_i 21 rfl)), (iA_0 (mem_i 6 rfl)), ⟨by decide, by decide, by decide +kernel⟩, by decide⟩
theorem cF_52 : fm_cs wsA "EscapeMill$Facts" 52 y_F_begin b_F_begin 3 none 1 := ⟨(iA_3 (mem_i 26 rfl)), (iA_3 (mem_i 24 rfl)), (iA_0 (mem_i 3 rfl)), ⟨by decide, by decide, by decide +kernel⟩, by decide⟩
theorem cF_77 : fm_cs wsA "EscapeMill$Facts" 77 y_F_refer b_F_refer 3 none 2 := ⟨(iA_3 (mem_i 30 rfl)), (iA_3 (mem_i 28 rfl)), (iA_0 (mem_i 3 rfl)), ⟨by decide, by decide, by decide +kernel⟩, by decide⟩
theorem cF_81 : fm_cs wsA "EscapeMill$Facts" 81 y_F_holdInBoth b_F_holdInBoth 3 none 2 := ⟨(iA_3 (mem_i 33 rfl)), (iA_3 (mem_i 31 rfl)), (iA_0 (mem_i 3 rfl)), ⟨by decide, by decide, by decide +kernel⟩, by decide⟩
theorem cF_110 : fm_cs wsA "EscapeMill$Facts" 110 y_F_holdIn b_F_holdIn 6 none 3 := ⟨(iA_3 (mem_i 36 rfl)), (iA_3 (mem_i 34 rfl)), (iA_0 (mem_i 3 rfl)), ⟨by decide, by decide, by decide +kernel⟩, by decide⟩
theorem cF_59 : fm_cs wsA "EscapeMill$Facts" 59 y_F_applyCall b_F_applyCall 17 none 4 := ⟨(iA_4 (mem_i 0 rfl)), (iA_3 (mem_i 38 rfl)), (iA_0 (mem_i 3 rfl)), ⟨by decide, by decide, by decide +kernel⟩, by decide⟩
theorem cF_105 : fm_cs wsA "EscapeMill$Facts" 105 y_F_reached b_F_reached 5 (some .int) 1 := ⟨(iA_4 (mem_i 3 rfl)), (iA_4 (mem_i 1 rfl)), (iA_0 (mem_i 3 rfl)), ⟨by decide, by decide, by decide +kernel⟩, by decide⟩
theorem cF_94 : fm_cs wsA "EscapeMill$Facts" 94 y_F_heldBy b_F_heldBy 6 (some .int) 2 := ⟨(iA_4 (mem_i 6 rfl)), (iA_4 (mem_i 4 rfl)), (iA_0 (mem_i 3 rfl)), ⟨by decide, by decide, by decide +kernel⟩, by decide⟩
theorem cF_63 : fm_cs wsA "EscapeMill$Facts" 63 y_F_apply b_F_apply 6 none 2 := ⟨(iA_4 (mem_i 9 rfl)), (iA_4 (mem_i 7 rfl)), (iA_0 (mem_i 3 rfl)), ⟨by decide, by decide, by decide +kernel⟩, by decide⟩
theorem cF_98 : fm_cs wsA "EscapeMill$Facts" 98 y_F_hold b_F_hold 5 none 3 := ⟨(iA_4 (mem_i 12 rfl)), (iA_4 (mem_i 10 rfl)), (iA_0 (mem_i 3 rfl)), ⟨by decide, by decide, by decide +kernel⟩, by decide⟩
theorem cF_67 : fm_cs wsA "EscapeMill$Facts" 67 y_F_sumUp b_F_sumUp 6 none 1 := ⟨(iA_4 (mem_i 16 rfl)), (iA_4 (mem_i 14 rfl)), (iA_0 (mem_i 3 rfl)), ⟨by decide, by decide, by decide +kernel⟩, by decide⟩
theorem cE_121 : fm_cs wsA "EscapeMill" 121 y_P_draw b_P_draw 8 none 3 := ⟨(iA_4 (mem_i 20 rfl)), (iA_4 (mem_i 17 rfl)), (iA_0 (mem_i 4 rfl)), ⟨by decide, by decide, by decide +kernel⟩, by decide⟩
theorem cP_15 : fm_cs wsA "EscapeMill$Plan" 15 y_A_fill b_A_fill 4 none 2 := ⟨(iA_3 (mem_i 23 rfl)), (iA_4 (mem_i 21 rfl)), (iA_0 (mem_i 6 rfl)), ⟨by decide, by decide, by decide +kernel⟩, by decide⟩
theorem cP_27 : fm_cs wsA "EscapeMill$Plan" 27 y_P_soleNew b_P_soleNew 4 (some .int) 2 := ⟨(iA_4 (mem_i 24 rfl)), (iA_4 (mem_i 22 rfl)), (iA_0 (mem_i 4 rfl)), ⟨by decide, by decide, by decide +kernel⟩, by decide⟩
theorem cP_58 : fm_cs wsA "EscapeMill$Plan" 58 y_C_defines b_C_defines 3 (some .boolean) 2 := ⟨(iA_4 (mem_i 28 rfl)), (iA_4 (mem_i 25 rfl)), (iA_0 (mem_i 2 rfl)), ⟨by decide, by decide, by decide +kernel⟩, by decide⟩
theorem cP_31 : fm_cs wsA "EscapeMill$Plan" 31 y_C_reachedWithout b_C_reachedWithout 6 (some .int) 1 := ⟨(iA_4 (mem_i 32 rfl)), (iA_4 (mem_i 29 rfl)), (iA_0 (mem_i 2 rfl)), ⟨by decide, by decide, by decide +kernel⟩, by decide⟩
theorem cC_34 : fm_cs wsA "EscapeMill$Code" 34 y_C_bit b_C_bit 2 (some .int) 1 := ⟨(iA_4 (mem_i 35 rfl)), (iA_4 (mem_i 33 rfl)), (iA_0 (mem_i 2 rfl)), ⟨by decide, by decide, by decide +kernel⟩, by decide⟩
theorem cC_45 : fm_cs wsA "EscapeMill$Code" 45 y_C_has b_C_has 2 (some .boolean) 1 := ⟨(iA_4 (mem_i 39 rfl)), (iA_4 (mem_i 36 rfl)), (iA_0 (mem_i 2 rfl)), ⟨by decide, by decide, by decide +kernel⟩, by decide⟩
theorem cC_38 : fm_cs wsA "EscapeMill$Code" 38 y_C_behind b_C_behind 4 (some .int) 1 := ⟨(iA_5 (mem_i 2 rfl)), (iA_5 (mem_i 0 rfl)), (iA_0 (mem_i 2 rfl)), ⟨by decide, by decide, by decide +kernel⟩, by decide⟩
theorem cC_41 : fm_cs wsA "EscapeMill$Code" 41 y_C_jumps b_C_jumps 2 (some .boolean) 1 := ⟨(iA_5 (mem_i 6 rfl)), (iA_5 (mem_i 3 rfl)), (iA_0 (mem_i 2 rfl)), ⟨by decide, by decide, by decide +kernel⟩, by decide⟩
theorem cP_35 : fm_cs wsA "EscapeMill$Plan" 35 y_P_staysInside b_P_staysInside 6 (some .boolean) 3 := ⟨(iA_5 (mem_i 9 rfl)), (iA_5 (mem_i 7 rfl)), (iA_0 (mem_i 4 rfl)), ⟨by decide, by decide, by decide +kernel⟩, by decide⟩
theorem cP_68 : fm_cs wsA "EscapeMill$Plan" 68 y_C_handsOn b_C_handsOn 4 (some .boolean) 3 := ⟨(iA_5 (mem_i 13 rfl)), (iA_5 (mem_i 10 rfl)), (iA_0 (mem_i 2 rfl)), ⟨by decide, by decide, by decide +kernel⟩, by decide⟩
theorem cP_39 : fm_cs wsA "EscapeMill$Plan" 39 y_P_isMadeFirst b_P_isMadeFirst 4 (some .boolean) 3 := ⟨(iA_5 (mem_i 16 rfl)), (iA_5 (mem_i 14 rfl)), (iA_0 (mem_i 4 rfl)), ⟨by decide, by decide, by decide +kernel⟩, by decide⟩
theorem cP_72 : fm_cs wsA "EscapeMill$Plan" 72 y_C_worksOn b_C_worksOn 3 (some .boolean) 2 := ⟨(iA_5 (mem_i 20 rfl)), (iA_5 (mem_i 17 rfl)), (iA_0 (mem_i 2 rfl)), ⟨by decide, by decide, by decide +kernel⟩, by decide⟩
theorem cP_43 : fm_cs wsA "EscapeMill$Plan" 43 y_P_takeApart b_P_takeApart 5 none 3 := ⟨(iA_5 (mem_i 23 rfl)), (iA_5 (mem_i 21 rfl)), (iA_0 (mem_i 4 rfl)), ⟨by decide, by decide, by decide +kernel⟩, by decide⟩
theorem cP_47 : fm_cs wsA "EscapeMill$Plan" 47 y_F_escapeOf b_F_escapeOf 2 (some .int) 1 := ⟨(iA_5 (mem_i 27 rfl)), (iA_5 (mem_i 24 rfl)), (iA_0 (mem_i 3 rfl)), ⟨by decide, by decide, by decide +kernel⟩, by decide⟩
theorem cP_52 : fm_cs wsA "EscapeMill$Plan" 52 y_P_pairLocks b_P_pairLocks 6 none 3 := ⟨(iA_5 (mem_i 30 rfl)), (iA_5 (mem_i 28 rfl)), (iA_0 (mem_i 4 rfl)), ⟨by decide, by decide, by decide +kernel⟩, by decide⟩
theorem cP_78 : fm_cs wsA "EscapeMill$Plan" 78 y_P_partner b_P_partner 3 (some .int) 2 := ⟨(iA_5 (mem_i 33 rfl)), (iA_5 (mem_i 31 rfl)), (iA_0 (mem_i 4 rfl)), ⟨by decide, by decide, by decide +kernel⟩, by decide⟩
theorem cP_81 : fm_cs wsA "EscapeMill$Plan" 81 y_P_isJumpedInto b_P_isJumpedInto 4 (some .boolean) 3 := ⟨(iA_5 (mem_i 36 rfl)), (iA_5 (mem_i 34 rfl)), (iA_0 (mem_i 4 rfl)), ⟨by decide, by decide, by decide +kernel⟩, by decide⟩
theorem cP_88 : fm_cs wsA "EscapeMill$Plan" 88 y_C_jumps b_C_jumps 2 (some .boolean) 1 := ⟨(iA_5 (mem_i 6 rfl)), (iA_5 (mem_i 37 rfl)), (iA_0 (mem_i 2 rfl)), ⟨by decide, by decide, by decide +kernel⟩, by decide⟩
theorem cP_84 : fm_cs wsA "EscapeMill$Plan" 84 y_P_endsPairing b_P_endsPairing 1 (some .boolean) 1 := ⟨(iA_6 (mem_i 0 rfl)), (iA_5 (mem_i 38 rfl)), (iA_0 (mem_i 4 rfl)), ⟨by decide, by decide, by decide +kernel⟩, by decide⟩
theorem cE_69 : fm_cs wsA "EscapeMill" 69 y_M_go b_M_go 8 (some .int) 3 := ⟨(iA_6 (mem_i 4 rfl)), (iA_6 (mem_i 1 rfl)), (iA_0 (mem_i 1 rfl)), ⟨by decide, by decide, by decide +kernel⟩, by decide⟩
theorem cM_61 : fm_cs wsA "EscapeMill$Machine" 61 y_M_begin b_M_begin 1 none 0 := ⟨(iA_6 (mem_i 7 rfl)), (iA_6 (mem_i 5 rfl)), (iA_0 (mem_i 1 rfl)), ⟨by decide, by decide, by decide +kernel⟩, by decide⟩
theorem cM_83 : fm_cs wsA "EscapeMill$Machine" 83 y_A_fill b_A_fill 4 none 2 := ⟨(iA_3 (mem_i 23 rfl)), (iA_6 (mem_i 8 rfl)), (iA_0 (mem_i 6 rfl)), ⟨by decide, by decide, by decide +kernel⟩, by decide⟩
theorem cM_89 : fm_cs wsA "EscapeMill$Machine" 89 y_M_enter b_M_enter 7 none 4 := ⟨(iA_6 (mem_i 11 rfl)), (iA_6 (mem_i 9 rfl)), (iA_0 (mem_i 1 rfl)), ⟨by decide, by decide, by decide +kernel⟩, by decide⟩
theorem cM_124 : fm_cs wsA "EscapeMill$Machine" 124 y_M_base b_M_base 1 (some .int) 0 := ⟨(iA_6 (mem_i 14 rfl)), (iA_6 (mem_i 12 rfl)), (iA_0 (mem_i 1 rfl)), ⟨by decide, by decide, by decide +kernel⟩, by decide⟩
theorem cM_64 : fm_cs wsA "EscapeMill$Machine" 64 y_C_has b_C_has 2 (some .boolean) 1 := ⟨(iA_4 (mem_i 39 rfl)), (iA_6 (mem_i 15 rfl)), (iA_0 (mem_i 2 rfl)), ⟨by decide, by decide, by decide +kernel⟩, by decide⟩
theorem cM_70 : fm_cs wsA "EscapeMill$Machine" 70 y_M_leave b_M_leave 2 none 1 := ⟨(iA_6 (mem_i 18 rfl)), (iA_6 (mem_i 16 rfl)), (iA_0 (mem_i 1 rfl)), ⟨by decide, by decide, by decide +kernel⟩, by decide⟩
theorem cM_79 : fm_cs wsA "EscapeMill$Machine" 79 y_M_perform b_M_perform 8 none 4 := ⟨(iA_6 (mem_i 21 rfl)), (iA_6 (mem_i 19 rfl)), (iA_0 (mem_i 1 rfl)), ⟨by decide, by decide, by decide +kernel⟩, by decide⟩
theorem cM_105 : fm_cs wsA "EscapeMill$Machine" 105 y_M_cellOf b_M_cellOf 2 (some .int) 1 := ⟨(iA_6 (mem_i 24 rfl)), (iA_6 (mem_i 22 rfl)), (iA_0 (mem_i 1 rfl)), ⟨by decide, by decide, by decide +kernel⟩, by decide⟩
theorem cM_109 : fm_cs wsA "EscapeMill$Machine" 109 y_M_workOnField b_M_workOnField 8 none 5 := ⟨(iA_6 (mem_i 27 rfl)), (iA_6 (mem_i 25 rfl)), (iA_0 (mem_i 1 rfl)), ⟨by decide, by decide, by decide +kernel⟩, by decide⟩
theorem cM_113 : fm_cs wsA "EscapeMill$Machine" 113 y_M_changeCount b_M_changeCount 3 none 2 := ⟨(iA_6 (mem_i 30 rfl)), (iA_6 (mem_i 28 rfl)), (iA_0 (mem_i 1 rfl)), ⟨by decide, by decide, by decide +kernel⟩, by decide⟩
theorem cM_117 : fm_cs wsA "EscapeMill$Machine" 117 y_M_call b_M_call 9 none 3 := ⟨(iA_6 (mem_i 33 rfl)), (iA_6 (mem_i 31 rfl)), (iA_0 (mem_i 1 rfl)), ⟨by decide, by decide, by decide +kernel⟩, by decide⟩
theorem cM_128 : fm_cs wsA "EscapeMill$Machine" 128 y_M_newParts b_M_newParts 2 (some .int) 1 := ⟨(iA_6 (mem_i 36 rfl)), (iA_6 (mem_i 34 rfl)), (iA_0 (mem_i 1 rfl)), ⟨by decide, by decide, by decide +kernel⟩, by decide⟩
theorem cM_141 : fm_cs wsA "EscapeMill$Machine" 141 y_M_emptied b_M_emptied 3 (some .int) 1 := ⟨(iA_6 (mem_i 39 rfl)), (iA_6 (mem_i 37 rfl)), (iA_0 (mem_i 1 rfl)), ⟨by decide, by decide, by decide +kernel⟩, by decide⟩
theorem cM_131 : fm_cs wsA "EscapeMill$Machine" 131 y_M_newObject b_M_newObject 1 (some .int) 0 := ⟨(iA_7 (mem_i 2 rfl)), (iA_7 (mem_i 0 rfl)), (iA_0 (mem_i 1 rfl)), ⟨by decide, by decide, by decide +kernel⟩, by decide⟩
theorem cM_134 : fm_cs wsA "EscapeMill$Machine" 134 y_M_move b_M_move 7 none 2 := ⟨(iA_7 (mem_i 5 rfl)), (iA_7 (mem_i 3 rfl)), (iA_0 (mem_i 1 rfl)), ⟨by decide, by decide, by decide +kernel⟩, by decide⟩
theorem cM_138 : fm_cs wsA "EscapeMill$Machine" 138 y_M_show b_M_show 2 none 1 := ⟨(iA_7 (mem_i 8 rfl)), (iA_7 (mem_i 6 rfl)), (iA_0 (mem_i 1 rfl)), ⟨by decide, by decide, by decide +kernel⟩, by decide⟩
theorem cE_41 : fm_cs wsA "EscapeMill" 41 y_E_isMethod b_E_isMethod 1 (some .boolean) 1 := ⟨(iA_7 (mem_i 17 rfl)), (iA_7 (mem_i 15 rfl)), (iA_0 (mem_i 0 rfl)), ⟨by decide, by decide, by decide +kernel⟩, by decide⟩
theorem cE_95 : fm_cs wsA "EscapeMill" 95 y_C_has b_C_has 2 (some .boolean) 1 := ⟨(iA_4 (mem_i 39 rfl)), (iA_7 (mem_i 18 rfl)), (iA_0 (mem_i 2 rfl)), ⟨by decide, by decide, by decide +kernel⟩, by decide⟩
theorem cE_101 : fm_cs wsA "EscapeMill" 101 y_F_escapeOf b_F_escapeOf 2 (some .int) 1 := ⟨(iA_5 (mem_i 27 rfl)), (iA_7 (mem_i 19 rfl)), (iA_0 (mem_i 3 rfl)), ⟨by decide, by decide, by decide +kernel⟩, by decide⟩
theorem cE_52 : fm_cs wsA "EscapeMill" 52 y_E_isInstruction b_E_isInstruction 6 (some .boolean) 5 := ⟨(iA_8 (mem_i 1 rfl)), (iA_7 (mem_i 39 rfl)), (iA_0 (mem_i 0 rfl)), ⟨by decide, by decide, by decide +kernel⟩, by decide⟩
theorem cE_114 : fm_cs wsA "EscapeMill" 114 y_E_isVariable b_E_isVariable 1 (some .boolean) 1 := ⟨(iA_8 (mem_i 4 rfl)), (iA_8 (mem_i 2 rfl)), (iA_0 (mem_i 0 rfl)), ⟨by decide, by decide, by decide +kernel⟩, by decide⟩
theorem cE_62 : fm_cs wsA "EscapeMill" 62 y_C_append b_C_append 7 (some .int) 5 := ⟨(iA_8 (mem_i 9 rfl)), (iA_8 (mem_i 6 rfl)), (iA_0 (mem_i 2 rfl)), ⟨by decide, by decide, by decide +kernel⟩, by decide⟩
theorem cR_81 : fm_cs wsA "EscapeMillModel" 81 y_R_isMethod b_R_isMethod 1 (some .boolean) 1 := ⟨(iA_10 (mem_i 8 rfl)), (iA_10 (mem_i 6 rfl)), (iA_0 (mem_i 5 rfl)), ⟨by decide, by decide, by decide +kernel⟩, by decide⟩
theorem cR_89 : fm_cs wsA "EscapeMillModel" 89 y_R_four b_R_four 1 (some .boolean) 1 := ⟨(iA_10 (mem_i 14 rfl)), (iA_10 (mem_i 12 rfl)), (iA_0 (mem_i 5 rfl)), ⟨by decide, by decide, by decide +kernel⟩, by decide⟩
theorem cR_195 : fm_cs wsA "EscapeMillModel" 195 y_R_know b_R_know 2 none 0 := ⟨(iA_10 (mem_i 23 rfl)), (iA_10 (mem_i 21 rfl)), (iA_0 (mem_i 5 rfl)), ⟨by decide, by decide, by decide +kernel⟩, by decide⟩
theorem cR_121 : fm_cs wsA "EscapeMillModel" 121 y_R_analyse b_R_analyse 8 none 1 := ⟨(iA_10 (mem_i 26 rfl)), (iA_10 (mem_i 24 rfl)), (iA_0 (mem_i 5 rfl)), ⟨by decide, by decide, by decide +kernel⟩, by decide⟩
theorem cR_97 : fm_cs wsA "EscapeMillModel" 97 y_R_holds b_R_holds 8 none 4 := ⟨(iA_10 (mem_i 30 rfl)), (iA_10 (mem_i 28 rfl)), (iA_0 (mem_i 5 rfl)), ⟨by decide, by decide, by decide +kernel⟩, by decide⟩
theorem cR_114 : fm_cs wsA "EscapeMillModel" 114 y_R_weight b_R_weight 5 (some .int) 1 := ⟨(iA_10 (mem_i 33 rfl)), (iA_10 (mem_i 31 rfl)), (iA_0 (mem_i 5 rfl)), ⟨by decide, by decide, by decide +kernel⟩, by decide⟩
theorem cR_118 : fm_cs wsA "EscapeMillModel" 118 y_R_adds b_R_adds 6 none 2 := ⟨(iA_10 (mem_i 36 rfl)), (iA_10 (mem_i 34 rfl)), (iA_0 (mem_i 5 rfl)), ⟨by decide, by decide, by decide +kernel⟩, by decide⟩
theorem cR_101 : fm_cs wsA "EscapeMillModel" 101 y_R_held b_R_held 6 (some .int) 3 := ⟨(iA_10 (mem_i 39 rfl)), (iA_10 (mem_i 37 rfl)), (iA_0 (mem_i 5 rfl)), ⟨by decide, by decide, by decide +kernel⟩, by decide⟩
theorem cR_108 : fm_cs wsA "EscapeMillModel" 108 y_R_calls b_R_calls 11 none 2 := ⟨(iA_11 (mem_i 2 rfl)), (iA_11 (mem_i 0 rfl)), (iA_0 (mem_i 5 rfl)), ⟨by decide, by decide, by decide +kernel⟩, by decide⟩
theorem cR_93 : fm_cs wsA "EscapeMillModel" 93 y_R_reached b_R_reached 6 (some .int) 2 := ⟨(iA_11 (mem_i 5 rfl)), (iA_11 (mem_i 3 rfl)), (iA_0 (mem_i 5 rfl)), ⟨by decide, by decide, by decide +kernel⟩, by decide⟩
theorem cR_105 : fm_cs wsA "EscapeMillModel" 105 y_R_stateOf b_R_stateOf 4 (some .int) 3 := ⟨(iA_11 (mem_i 8 rfl)), (iA_11 (mem_i 6 rfl)), (iA_0 (mem_i 5 rfl)), ⟨by decide, by decide, by decide +kernel⟩, by decide⟩
theorem cR_198 : fm_cs wsA "EscapeMillModel" 198 y_R_fateOf b_R_fateOf 6 (some .int) 2 := ⟨(iA_11 (mem_i 11 rfl)), (iA_11 (mem_i 9 rfl)), (iA_0 (mem_i 5 rfl)), ⟨by decide, by decide, by decide +kernel⟩, by decide⟩
theorem cR_138 : fm_cs wsA "EscapeMillModel" 138 y_R_worksOn b_R_worksOn 8 (some .boolean) 3 := ⟨(iA_11 (mem_i 14 rfl)), (iA_11 (mem_i 12 rfl)), (iA_0 (mem_i 5 rfl)), ⟨by decide, by decide, by decide +kernel⟩, by decide⟩
theorem cR_148 : fm_cs wsA "EscapeMillModel" 148 y_R_apart b_R_apart 8 (some .boolean) 2 := ⟨(iA_11 (mem_i 17 rfl)), (iA_11 (mem_i 15 rfl)), (iA_0 (mem_i 5 rfl)), ⟨by decide, by decide, by decide +kernel⟩, by decide⟩
theorem cR_135 : fm_cs wsA "EscapeMillModel" 135 y_R_onlyNew b_R_onlyNew 7 (some .int) 2 := ⟨(iA_11 (mem_i 20 rfl)), (iA_11 (mem_i 18 rfl)), (iA_0 (mem_i 5 rfl)), ⟨by decide, by decide, by decide +kernel⟩, by decide⟩
theorem cR_132 : fm_cs wsA "EscapeMillModel" 132 y_R_defines b_R_defines 1 (some .boolean) 1 := ⟨(iA_11 (mem_i 23 rfl)), (iA_11 (mem_i 21 rfl)), (iA_0 (mem_i 5 rfl)), ⟨by decide, by decide, by decide +kernel⟩, by decide⟩
theorem cR_142 : fm_cs wsA "EscapeMillModel" 142 y_R_gives b_R_gives 9 (some .boolean) 3 := ⟨(iA_11 (mem_i 26 rfl)), (iA_11 (mem_i 24 rfl)), (iA_0 (mem_i 5 rfl)), ⟨by decide, by decide, by decide +kernel⟩, by decide⟩
theorem cR_145 : fm_cs wsA "EscapeMillModel" 145 y_R_dominates b_R_dominates 9 (some .boolean) 3 := ⟨(iA_11 (mem_i 29 rfl)), (iA_11 (mem_i 27 rfl)), (iA_0 (mem_i 5 rfl)), ⟨by decide, by decide, by decide +kernel⟩, by decide⟩
theorem cR_128 : fm_cs wsA "EscapeMillModel" 128 y_R_isInstruction b_R_isInstruction 3 (some .boolean) 2 := ⟨(iA_11 (mem_i 32 rfl)), (iA_11 (mem_i 30 rfl)), (iA_0 (mem_i 5 rfl)), ⟨by decide, by decide, by decide +kernel⟩, by decide⟩
theorem cR_154 : fm_cs wsA "EscapeMillModel" 154 y_R_pair b_R_pair 12 (some .boolean) 3 := ⟨(iA_11 (mem_i 35 rfl)), (iA_11 (mem_i 33 rfl)), (iA_0 (mem_i 5 rfl)), ⟨by decide, by decide, by decide +kernel⟩, by decide⟩
theorem cR_151 : fm_cs wsA "EscapeMillModel" 151 y_R_escapeOf b_R_escapeOf 5 (some .int) 2 := ⟨(iA_11 (mem_i 38 rfl)), (iA_11 (mem_i 36 rfl)), (iA_0 (mem_i 5 rfl)), ⟨by decide, by decide, by decide +kernel⟩, by decide⟩
theorem cR_125 : fm_cs wsA "EscapeMillModel" 125 y_R_argsOf b_R_argsOf 2 (some .int) 1 := ⟨(iA_12 (mem_i 1 rfl)), (iA_11 (mem_i 39 rfl)), (iA_0 (mem_i 5 rfl)), ⟨by decide, by decide, by decide +kernel⟩, by decide⟩
theorem cR_173 : fm_cs wsA "EscapeMillModel" 173 y_R_enter b_R_enter 7 none 4 := ⟨(iA_12 (mem_i 6 rfl)), (iA_12 (mem_i 4 rfl)), (iA_0 (mem_i 5 rfl)), ⟨by decide, by decide, by decide +kernel⟩, by decide⟩
theorem cR_176 : fm_cs wsA "EscapeMillModel" 176 y_R_leave b_R_leave 2 none 1 := ⟨(iA_12 (mem_i 9 rfl)), (iA_12 (mem_i 7 rfl)), (iA_0 (mem_i 5 rfl)), ⟨by decide, by decide, by decide +kernel⟩, by decide⟩
theorem cR_204 : fm_cs wsA "EscapeMillModel" 204 y_R_does b_R_does 6 none 2 := ⟨(iA_12 (mem_i 12 rfl)), (iA_12 (mem_i 10 rfl)), (iA_0 (mem_i 5 rfl)), ⟨by decide, by decide, by decide +kernel⟩, by decide⟩
theorem cR_182 : fm_cs wsA "EscapeMillModel" 182 y_R_makes b_R_makes 5 none 2 := ⟨(iA_12 (mem_i 15 rfl)), (iA_12 (mem_i 13 rfl)), (iA_0 (mem_i 5 rfl)), ⟨by decide, by decide, by decide +kernel⟩, by decide⟩
theorem cR_186 : fm_cs wsA "EscapeMillModel" 186 y_R_fields b_R_fields 10 none 2 := ⟨(iA_12 (mem_i 18 rfl)), (iA_12 (mem_i 16 rfl)), (iA_0 (mem_i 5 rfl)), ⟨by decide, by decide, by decide +kernel⟩, by decide⟩
theorem cR_163 : fm_cs wsA "EscapeMillModel" 163 y_R_set b_R_set 4 none 3 := ⟨(iA_12 (mem_i 21 rfl)), (iA_12 (mem_i 19 rfl)), (iA_0 (mem_i 5 rfl)), ⟨by decide, by decide, by decide +kernel⟩, by decide⟩
theorem cR_189 : fm_cs wsA "EscapeMillModel" 189 y_R_call b_R_call 4 none 1 := ⟨(iA_12 (mem_i 24 rfl)), (iA_12 (mem_i 22 rfl)), (iA_0 (mem_i 5 rfl)), ⟨by decide, by decide, by decide +kernel⟩, by decide⟩
theorem cR_192 : fm_cs wsA "EscapeMillModel" 192 y_R_moves b_R_moves 5 none 1 := ⟨(iA_12 (mem_i 27 rfl)), (iA_12 (mem_i 25 rfl)), (iA_0 (mem_i 5 rfl)), ⟨by decide, by decide, by decide +kernel⟩, by decide⟩
end
section
/-! decode rows (written by program) -/
theorem d_E_run_0 : decode b_E_run 0 = .ok (.iload_n 1, 1) := by decide +kernel
theorem d_E_run_1 : decode b_E_run 1 = .ok (.ifCond .eq (7), 3) := by decide +kernel
theorem d_E_run_4 : decode b_E_run 4 = .ok (.aload_n 0, 1) := by decide +kernel
theorem d_E_run_5 : decode b_E_run 5 = .ok (.invokevirtual 66, 3) := by decide +kernel
theorem d_E_run_8 : decode b_E_run 8 = .ok (.aload_n 0, 1) := by decide +kernel
theorem d_E_run_9 : decode b_E_run 9 = .ok (.getfield 30, 3) := by decide +kernel
theorem d_E_run_12 : decode b_E_run 12 = .ok (.aload_n 0, 1) := by decide +kernel
theorem d_E_run_13 : decode b_E_run 13 = .ok (.getfield 11, 3) := by decide +kernel
theorem d_E_run_16 : decode b_E_run 16 = .ok (.aload_n 0, 1) := by decide +kernel
theorem d_E_run_17 : decode b_E_run 17 = .ok (.getfield 23, 3) := by decide +kernel
theorem d_E_run_20 : decode b_E_run 20 = .ok (.iload_n 1, 1) := by decide +kernel
theorem d_E_run_21 : decode b_E_run 21 = .ok (.invokevirtual 69, 3) := by decide +kernel
theorem d_E_run_24 : decode b_E_run 24 = .ok (.ireturn, 1) := by decide +kernel
theorem d_E_settle_0 : decode b_E_settle 0 = .ok (.aload_n 0, 1) := by decide +kernel
theorem d_E_settle_1 : decode b_E_settle 1 = .ok (.getfield 34, 3) := by decide +kernel
theorem d_E_settle_4 : decode b_E_settle 4 = .ok (.ifCond .ne (4), 3) := by decide +kernel
theorem d_E_settle_7 : decode b_E_settle 7 = .ok (.return_, 1) := by decide +kernel
theorem d_E_settle_8 : decode b_E_settle 8 = .ok (.iconst 4, 1) := by decide +kernel
theorem d_E_settle_9 : decode b_E_settle 9 = .ok (.istore_n 1, 1) := by decide +kernel
theorem d_E_settle_10 : decode b_E_settle 10 = .ok (.iload_n 1, 1) := by decide +kernel
theorem d_E_settle_11 : decode b_E_settle 11 = .ok (.ifCond .lt (47), 3) := by decide +kernel
theorem d_E_settle_14 : decode b_E_settle 14 = .ok (.aload_n 0, 1) := by decide +kernel
theorem d_E_settle_15 : decode b_E_settle 15 = .ok (.getfield 17, 3) := by decide +kernel
theorem d_E_settle_18 : decode b_E_settle 18 = .ok (.iload_n 1, 1) := by decide +kernel
theorem d_E_settle_19 : decode b_E_settle 19 = .ok (.aaload, 1) := by decide +kernel
theorem d_E_settle_20 : decode b_E_settle 20 = .ok (.aload_n 0, 1) := by decide +kernel
theorem d_E_settle_21 : decode b_E_settle 21 = .ok (.getfield 11, 3) := by decide +kernel
theorem d_E_settle_24 : decode b_E_settle 24 = .ok (.aload_n 0, 1) := by decide +kernel
theorem d_E_settle_25 : decode b_E_settle 25 = .ok (.getfield 17, 3) := by decide +kernel
theorem d_E_settle_28 : decode b_E_settle 28 = .ok (.iload_n 1, 1) := by decide +kernel
theorem d_E_settle_29 : decode b_E_settle 29 = .ok (.invokevirtual 117, 3) := by decide +kernel
theorem d_E_settle_32 : decode b_E_settle 32 = .ok (.aload_n 0, 1) := by decide +kernel
theorem d_E_settle_33 : decode b_E_settle 33 = .ok (.getfield 23, 3) := by decide +kernel
theorem d_E_settle_36 : decode b_E_settle 36 = .ok (.iload_n 1, 1) := by decide +kernel
theorem d_E_settle_37 : decode b_E_settle 37 = .ok (.aaload, 1) := by decide +kernel
theorem d_E_settle_38 : decode b_E_settle 38 = .ok (.aload_n 0, 1) := by decide +kernel
theorem d_E_settle_39 : decode b_E_settle 39 = .ok (.getfield 11, 3) := by decide +kernel
theorem d_E_settle_42 : decode b_E_settle 42 = .ok (.aload_n 0, 1) := by decide +kernel
theorem d_E_settle_43 : decode b_E_settle 43 = .ok (.getfield 17, 3) := by decide +kernel
theorem d_E_settle_46 : decode b_E_settle 46 = .ok (.iload_n 1, 1) := by decide +kernel
theorem d_E_settle_47 : decode b_E_settle 47 = .ok (.aaload, 1) := by decide +kernel
theorem d_E_settle_48 : decode b_E_settle 48 = .ok (.iload_n 1, 1) := by decide +kernel
theorem d_E_settle_49 : decode b_E_settle 49 = .ok (.invokevirtual 121, 3) := by decide +kernel
theorem d_E_settle_52 : decode b_E_settle 52 = .ok (.iinc 1 (-1), 3) := by decide +kernel
theorem d_E_settle_55 : decode b_E_settle 55 = .ok (.goto (-45), 3) := by decide +kernel
theorem d_E_settle_58 : decode b_E_settle 58 = .ok (.aload_n 0, 1) := by decide +kernel
theorem d_E_settle_59 : decode b_E_settle 59 = .ok (.iconst 0, 1) := by decide +kernel
theorem d_E_settle_60 : decode b_E_settle 60 = .ok (.putfield 34, 3) := by decide +kernel
theorem d_E_settle_63 : decode b_E_settle 63 = .ok (.return_, 1) := by decide +kernel
theorem d_F_gather_0 : decode b_F_gather 0 = .ok (.aload_n 0, 1) := by decide +kernel
theorem d_F_gather_1 : decode b_F_gather 1 = .ok (.invokevirtual 41, 3) := by decide +kernel
theorem d_F_gather_4 : decode b_F_gather 4 = .ok (.aload_n 1, 1) := by decide +kernel
theorem d_F_gather_5 : decode b_F_gather 5 = .ok (.iload_n 3, 1) := by decide +kernel
theorem d_F_gather_6 : decode b_F_gather 6 = .ok (.aaload, 1) := by decide +kernel
theorem d_F_gather_7 : decode b_F_gather 7 = .ok (.astore 4, 2) := by decide +kernel
theorem d_F_gather_9 : decode b_F_gather 9 = .ok (.aload 4, 2) := by decide +kernel
theorem d_F_gather_11 : decode b_F_gather 11 = .ok (.getfield 44, 3) := by decide +kernel
theorem d_F_gather_14 : decode b_F_gather 14 = .ok (.ifCond .ne (4), 3) := by decide +kernel
theorem d_F_gather_17 : decode b_F_gather 17 = .ok (.return_, 1) := by decide +kernel
theorem d_F_gather_18 : decode b_F_gather 18 = .ok (.aload_n 0, 1) := by decide +kernel
theorem d_F_gather_19 : decode b_F_gather 19 = .ok (.aload 4, 2) := by decide +kernel
theorem d_F_gather_21 : decode b_F_gather 21 = .ok (.getfield 49, 3) := by decide +kernel
theorem d_F_gather_24 : decode b_F_gather 24 = .ok (.invokevirtual 52, 3) := by decide +kernel
theorem d_F_gather_27 : decode b_F_gather 27 = .ok (.aload_n 0, 1) := by decide +kernel
theorem d_F_gather_28 : decode b_F_gather 28 = .ok (.iconst 1, 1) := by decide +kernel
theorem d_F_gather_29 : decode b_F_gather 29 = .ok (.putfield 37, 3) := by decide +kernel
theorem d_F_gather_32 : decode b_F_gather 32 = .ok (.iconst 0, 1) := by decide +kernel
theorem d_F_gather_33 : decode b_F_gather 33 = .ok (.istore 5, 2) := by decide +kernel
theorem d_F_gather_35 : decode b_F_gather 35 = .ok (.iload 5, 2) := by decide +kernel
theorem d_F_gather_37 : decode b_F_gather 37 = .ok (.sipush (2000), 3) := by decide +kernel
theorem d_F_gather_40 : decode b_F_gather 40 = .ok (.if_icmp .ge (73), 3) := by decide +kernel
theorem d_F_gather_43 : decode b_F_gather 43 = .ok (.aload_n 0, 1) := by decide +kernel
theorem d_F_gather_44 : decode b_F_gather 44 = .ok (.getfield 37, 3) := by decide +kernel
theorem d_F_gather_47 : decode b_F_gather 47 = .ok (.ifCond .eq (66), 3) := by decide +kernel
theorem d_F_gather_50 : decode b_F_gather 50 = .ok (.aload_n 0, 1) := by decide +kernel
theorem d_F_gather_51 : decode b_F_gather 51 = .ok (.iconst 0, 1) := by decide +kernel
theorem d_F_gather_52 : decode b_F_gather 52 = .ok (.putfield 37, 3) := by decide +kernel
theorem d_F_gather_55 : decode b_F_gather 55 = .ok (.iconst 0, 1) := by decide +kernel
theorem d_F_gather_56 : decode b_F_gather 56 = .ok (.istore 6, 2) := by decide +kernel
theorem d_F_gather_58 : decode b_F_gather 58 = .ok (.iload 6, 2) := by decide +kernel
theorem d_F_gather_60 : decode b_F_gather 60 = .ok (.aload 4, 2) := by decide +kernel
theorem d_F_gather_62 : decode b_F_gather 62 = .ok (.getfield 44, 3) := by decide +kernel
theorem d_F_gather_65 : decode b_F_gather 65 = .ok (.if_icmp .ge (42), 3) := by decide +kernel
theorem d_F_gather_68 : decode b_F_gather 68 = .ok (.aload 4, 2) := by decide +kernel
theorem d_F_gather_70 : decode b_F_gather 70 = .ok (.getfield 56, 3) := by decide +kernel
theorem d_F_gather_73 : decode b_F_gather 73 = .ok (.iload 6, 2) := by decide +kernel
theorem d_F_gather_75 : decode b_F_gather 75 = .ok (.iaload, 1) := by decide +kernel
theorem d_F_gather_76 : decode b_F_gather 76 = .ok (.bipush (16), 2) := by decide +kernel
theorem d_F_gather_78 : decode b_F_gather 78 = .ok (.if_icmp .ne (15), 3) := by decide +kernel
theorem d_F_gather_81 : decode b_F_gather 81 = .ok (.aload_n 0, 1) := by decide +kernel
theorem d_F_gather_82 : decode b_F_gather 82 = .ok (.aload_n 1, 1) := by decide +kernel
theorem d_F_gather_83 : decode b_F_gather 83 = .ok (.aload_n 2, 1) := by decide +kernel
theorem d_F_gather_84 : decode b_F_gather 84 = .ok (.iload_n 3, 1) := by decide +kernel
theorem d_F_gather_85 : decode b_F_gather 85 = .ok (.iload 6, 2) := by decide +kernel
theorem d_F_gather_87 : decode b_F_gather 87 = .ok (.invokevirtual 59, 3) := by decide +kernel
theorem d_F_gather_90 : decode b_F_gather 90 = .ok (.goto (11), 3) := by decide +kernel
theorem d_F_gather_93 : decode b_F_gather 93 = .ok (.aload_n 0, 1) := by decide +kernel
theorem d_F_gather_94 : decode b_F_gather 94 = .ok (.aload 4, 2) := by decide +kernel
theorem d_F_gather_96 : decode b_F_gather 96 = .ok (.iload 6, 2) := by decide +kernel
theorem d_F_gather_98 : decode b_F_gather 98 = .ok (.invokevirtual 63, 3) := by decide +kernel
theorem d_F_gather_101 : decode b_F_gather 101 = .ok (.iinc 6 (1), 3) := by decide +kernel
theorem d_F_gather_104 : decode b_F_gather 104 = .ok (.goto (-46), 3) := by decide +kernel
theorem d_F_gather_107 : decode b_F_gather 107 = .ok (.iinc 5 (1), 3) := by decide +kernel
theorem d_F_gather_110 : decode b_F_gather 110 = .ok (.goto (-75), 3) := by decide +kernel
theorem d_F_gather_113 : decode b_F_gather 113 = .ok (.aload_n 0, 1) := by decide +kernel
theorem d_F_gather_114 : decode b_F_gather 114 = .ok (.aload 4, 2) := by decide +kernel
theorem d_F_gather_116 : decode b_F_gather 116 = .ok (.getfield 49, 3) := by decide +kernel
theorem d_F_gather_119 : decode b_F_gather 119 = .ok (.invokevirtual 67, 3) := by decide +kernel
theorem d_F_gather_122 : decode b_F_gather 122 = .ok (.return_, 1) := by decide +kernel
theorem d_F_forget_0 : decode b_F_forget 0 = .ok (.aload_n 0, 1) := by decide +kernel
theorem d_F_forget_1 : decode b_F_forget 1 = .ok (.getfield 9, 3) := by decide +kernel
theorem d_F_forget_4 : decode b_F_forget 4 = .ok (.iconst 0, 1) := by decide +kernel
theorem d_F_forget_5 : decode b_F_forget 5 = .ok (.invokestatic 70, 3) := by decide +kernel
theorem d_F_forget_8 : decode b_F_forget 8 = .ok (.aload_n 0, 1) := by decide +kernel
theorem d_F_forget_9 : decode b_F_forget 9 = .ok (.getfield 17, 3) := by decide +kernel
theorem d_F_forget_12 : decode b_F_forget 12 = .ok (.iconst 0, 1) := by decide +kernel
theorem d_F_forget_13 : decode b_F_forget 13 = .ok (.aaload, 1) := by decide +kernel
theorem d_F_forget_14 : decode b_F_forget 14 = .ok (.iconst 0, 1) := by decide +kernel
theorem d_F_forget_15 : decode b_F_forget 15 = .ok (.invokestatic 70, 3) := by decide +kernel
theorem d_F_forget_18 : decode b_F_forget 18 = .ok (.aload_n 0, 1) := by decide +kernel
theorem d_F_forget_19 : decode b_F_forget 19 = .ok (.getfield 17, 3) := by decide +kernel
theorem d_F_forget_22 : decode b_F_forget 22 = .ok (.iconst 1, 1) := by decide +kernel
theorem d_F_forget_23 : decode b_F_forget 23 = .ok (.aaload, 1) := by decide +kernel
theorem d_F_forget_24 : decode b_F_forget 24 = .ok (.iconst 0, 1) := by decide +kernel
theorem d_F_forget_25 : decode b_F_forget 25 = .ok (.invokestatic 70, 3) := by decide +kernel
theorem d_F_forget_28 : decode b_F_forget 28 = .ok (.aload_n 0, 1) := by decide +kernel
theorem d_F_forget_29 : decode b_F_forget 29 = .ok (.getfield 20, 3) := by decide +kernel
theorem d_F_forget_32 : decode b_F_forget 32 = .ok (.iconst 0, 1) := by decide +kernel
theorem d_F_forget_33 : decode b_F_forget 33 = .ok (.invokestatic 70, 3) := by decide +kernel
theorem d_F_forget_36 : decode b_F_forget 36 = .ok (.iconst 0, 1) := by decide +kernel
theorem d_F_forget_37 : decode b_F_forget 37 = .ok (.istore_n 1, 1) := by decide +kernel
theorem d_F_forget_38 : decode b_F_forget 38 = .ok (.iload_n 1, 1) := by decide +kernel
theorem d_F_forget_39 : decode b_F_forget 39 = .ok (.iconst 2, 1) := by decide +kernel
theorem d_F_forget_40 : decode b_F_forget 40 = .ok (.if_icmp .ge (16), 3) := by decide +kernel
theorem d_F_forget_43 : decode b_F_forget 43 = .ok (.aload_n 0, 1) := by decide +kernel
theorem d_F_forget_44 : decode b_F_forget 44 = .ok (.getfield 23, 3) := by decide +kernel
theorem d_F_forget_47 : decode b_F_forget 47 = .ok (.iload_n 1, 1) := by decide +kernel
theorem d_F_forget_48 : decode b_F_forget 48 = .ok (.iconst 0, 1) := by decide +kernel
theorem d_F_forget_49 : decode b_F_forget 49 = .ok (.bastore, 1) := by decide +kernel
theorem d_F_forget_50 : decode b_F_forget 50 = .ok (.iinc 1 (1), 3) := by decide +kernel
theorem d_F_forget_53 : decode b_F_forget 53 = .ok (.goto (-15), 3) := by decide +kernel
theorem d_F_forget_56 : decode b_F_forget 56 = .ok (.aload_n 0, 1) := by decide +kernel
theorem d_F_forget_57 : decode b_F_forget 57 = .ok (.iconst 0, 1) := by decide +kernel
theorem d_F_forget_58 : decode b_F_forget 58 = .ok (.putfield 27, 3) := by decide +kernel
theorem d_F_forget_61 : decode b_F_forget 61 = .ok (.aload_n 0, 1) := by decide +kernel
theorem d_F_forget_62 : decode b_F_forget 62 = .ok (.iconst 0, 1) := by decide +kernel
theorem d_F_forget_63 : decode b_F_forget 63 = .ok (.putfield 31, 3) := by decide +kernel
theorem d_F_forget_66 : decode b_F_forget 66 = .ok (.aload_n 0, 1) := by decide +kernel
theorem d_F_forget_67 : decode b_F_forget 67 = .ok (.iconst 0, 1) := by decide +kernel
theorem d_F_forget_68 : decode b_F_forget 68 = .ok (.putfield 34, 3) := by decide +kernel
theorem d_F_forget_71 : decode b_F_forget 71 = .ok (.return_, 1) := by decide +kernel
theorem d_A_fill_0 : decode b_A_fill 0 = .ok (.iconst 0, 1) := by decide +kernel
theorem d_A_fill_1 : decode b_A_fill 1 = .ok (.istore_n 2, 1) := by decide +kernel
theorem d_A_fill_2 : decode b_A_fill 2 = .ok (.aload_n 0, 1) := by decide +kernel
theorem d_A_fill_3 : decode b_A_fill 3 = .ok (.arraylength, 1) := by decide +kernel
theorem d_A_fill_4 : decode b_A_fill 4 = .ok (.istore_n 3, 1) := by decide +kernel
theorem d_A_fill_5 : decode b_A_fill 5 = .ok (.iload_n 2, 1) := by decide +kernel
theorem d_A_fill_6 : decode b_A_fill 6 = .ok (.iload_n 3, 1) := by decide +kernel
theorem d_A_fill_7 : decode b_A_fill 7 = .ok (.if_icmp .ge (13), 3) := by decide +kernel
theorem d_A_fill_10 : decode b_A_fill 10 = .ok (.aload_n 0, 1) := by decide +kernel
theorem d_A_fill_11 : decode b_A_fill 11 = .ok (.iload_n 2, 1) := by decide +kernel
theorem d_A_fill_12 : decode b_A_fill 12 = .ok (.iload_n 1, 1) := by decide +kernel
theorem d_A_fill_13 : decode b_A_fill 13 = .ok (.iastore, 1) := by decide +kernel
theorem d_A_fill_14 : decode b_A_fill 14 = .ok (.iinc 2 (1), 3) := by decide +kernel
theorem d_A_fill_17 : decode b_A_fill 17 = .ok (.goto (-12), 3) := by decide +kernel
theorem d_A_fill_20 : decode b_A_fill 20 = .ok (.return_, 1) := by decide +kernel
theorem d_F_begin_0 : decode b_F_begin 0 = .ok (.iconst 0, 1) := by decide +kernel
theorem d_F_begin_1 : decode b_F_begin 1 = .ok (.istore_n 2, 1) := by decide +kernel
theorem d_F_begin_2 : decode b_F_begin 2 = .ok (.iload_n 2, 1) := by decide +kernel
theorem d_F_begin_3 : decode b_F_begin 3 = .ok (.iload_n 1, 1) := by decide +kernel
theorem d_F_begin_4 : decode b_F_begin 4 = .ok (.if_icmp .ge (30), 3) := by decide +kernel
theorem d_F_begin_7 : decode b_F_begin 7 = .ok (.aload_n 0, 1) := by decide +kernel
theorem d_F_begin_8 : decode b_F_begin 8 = .ok (.iload_n 2, 1) := by decide +kernel
theorem d_F_begin_9 : decode b_F_begin 9 = .ok (.ldc 76, 2) := by decide +kernel
theorem d_F_begin_11 : decode b_F_begin 11 = .ok (.iload_n 2, 1) := by decide +kernel
theorem d_F_begin_12 : decode b_F_begin 12 = .ok (.ishl, 1) := by decide +kernel
theorem d_F_begin_13 : decode b_F_begin 13 = .ok (.invokevirtual 77, 3) := by decide +kernel
theorem d_F_begin_16 : decode b_F_begin 16 = .ok (.aload_n 0, 1) := by decide +kernel
theorem d_F_begin_17 : decode b_F_begin 17 = .ok (.ldc 76, 2) := by decide +kernel
theorem d_F_begin_19 : decode b_F_begin 19 = .ok (.iload_n 2, 1) := by decide +kernel
theorem d_F_begin_20 : decode b_F_begin 20 = .ok (.ishl, 1) := by decide +kernel
theorem d_F_begin_21 : decode b_F_begin 21 = .ok (.ldc 76, 2) := by decide +kernel
theorem d_F_begin_23 : decode b_F_begin 23 = .ok (.iload_n 2, 1) := by decide +kernel
theorem d_F_begin_24 : decode b_F_begin 24 = .ok (.ishl, 1) := by decide +kernel
theorem d_F_begin_25 : decode b_F_begin 25 = .ok (.invokevirtual 81, 3) := by decide +kernel
theorem d_F_begin_28 : decode b_F_begin 28 = .ok (.iinc 2 (1), 3) := by decide +kernel
theorem d_F_begin_31 : decode b_F_begin 31 = .ok (.goto (-29), 3) := by decide +kernel
theorem d_F_begin_34 : decode b_F_begin 34 = .ok (.aload_n 0, 1) := by decide +kernel
theorem d_F_begin_35 : decode b_F_begin 35 = .ok (.ldc 84, 2) := by decide +kernel
theorem d_F_begin_37 : decode b_F_begin 37 = .ok (.ldc 84, 2) := by decide +kernel
theorem d_F_begin_39 : decode b_F_begin 39 = .ok (.invokevirtual 81, 3) := by decide +kernel
theorem d_F_begin_42 : decode b_F_begin 42 = .ok (.return_, 1) := by decide +kernel
theorem d_F_refer_0 : decode b_F_refer 0 = .ok (.aload_n 0, 1) := by decide +kernel
theorem d_F_refer_1 : decode b_F_refer 1 = .ok (.getfield 9, 3) := by decide +kernel
theorem d_F_refer_4 : decode b_F_refer 4 = .ok (.iload_n 1, 1) := by decide +kernel
theorem d_F_refer_5 : decode b_F_refer 5 = .ok (.iaload, 1) := by decide +kernel
theorem d_F_refer_6 : decode b_F_refer 6 = .ok (.iload_n 2, 1) := by decide +kernel
theorem d_F_refer_7 : decode b_F_refer 7 = .ok (.ior, 1) := by decide +kernel
theorem d_F_refer_8 : decode b_F_refer 8 = .ok (.aload_n 0, 1) := by decide +kernel
theorem d_F_refer_9 : decode b_F_refer 9 = .ok (.getfield 9, 3) := by decide +kernel
theorem d_F_refer_12 : decode b_F_refer 12 = .ok (.iload_n 1, 1) := by decide +kernel
theorem d_F_refer_13 : decode b_F_refer 13 = .ok (.iaload, 1) := by decide +kernel
theorem d_F_refer_14 : decode b_F_refer 14 = .ok (.if_icmp .eq (18), 3) := by decide +kernel
theorem d_F_refer_17 : decode b_F_refer 17 = .ok (.aload_n 0, 1) := by decide +kernel
theorem d_F_refer_18 : decode b_F_refer 18 = .ok (.getfield 9, 3) := by decide +kernel
theorem d_F_refer_21 : decode b_F_refer 21 = .ok (.iload_n 1, 1) := by decide +kernel
theorem d_F_refer_22 : decode b_F_refer 22 = .ok (.dup2, 1) := by decide +kernel
theorem d_F_refer_23 : decode b_F_refer 23 = .ok (.iaload, 1) := by decide +kernel
theorem d_F_refer_24 : decode b_F_refer 24 = .ok (.iload_n 2, 1) := by decide +kernel
theorem d_F_refer_25 : decode b_F_refer 25 = .ok (.ior, 1) := by decide +kernel
theorem d_F_refer_26 : decode b_F_refer 26 = .ok (.iastore, 1) := by decide +kernel
theorem d_F_refer_27 : decode b_F_refer 27 = .ok (.aload_n 0, 1) := by decide +kernel
theorem d_F_refer_28 : decode b_F_refer 28 = .ok (.iconst 1, 1) := by decide +kernel
theorem d_F_refer_29 : decode b_F_refer 29 = .ok (.putfield 37, 3) := by decide +kernel
theorem d_F_refer_32 : decode b_F_refer 32 = .ok (.return_, 1) := by decide +kernel
theorem d_F_holdInBoth_0 : decode b_F_holdInBoth 0 = .ok (.aload_n 0, 1) := by decide +kernel
theorem d_F_holdInBoth_1 : decode b_F_holdInBoth 1 = .ok (.iconst 0, 1) := by decide +kernel
theorem d_F_holdInBoth_2 : decode b_F_holdInBoth 2 = .ok (.iload_n 1, 1) := by decide +kernel
theorem d_F_holdInBoth_3 : decode b_F_holdInBoth 3 = .ok (.iload_n 2, 1) := by decide +kernel
theorem d_F_holdInBoth_4 : decode b_F_holdInBoth 4 = .ok (.invokevirtual 110, 3) := by decide +kernel
theorem d_F_holdInBoth_7 : decode b_F_holdInBoth 7 = .ok (.aload_n 0, 1) := by decide +kernel
theorem d_F_holdInBoth_8 : decode b_F_holdInBoth 8 = .ok (.iconst 1, 1) := by decide +kernel
theorem d_F_holdInBoth_9 : decode b_F_holdInBoth 9 = .ok (.iload_n 1, 1) := by decide +kernel
theorem d_F_holdInBoth_10 : decode b_F_holdInBoth 10 = .ok (.iload_n 2, 1) := by decide +kernel
theorem d_F_holdInBoth_11 : decode b_F_holdInBoth 11 = .ok (.invokevirtual 110, 3) := by decide +kernel
theorem d_F_holdInBoth_14 : decode b_F_holdInBoth 14 = .ok (.return_, 1) := by decide +kernel
theorem d_F_holdIn_0 : decode b_F_holdIn 0 = .ok (.aload_n 0, 1) := by decide +kernel
theorem d_F_holdIn_1 : decode b_F_holdIn 1 = .ok (.getfield 17, 3) := by decide +kernel
theorem d_F_holdIn_4 : decode b_F_holdIn 4 = .ok (.iload_n 1, 1) := by decide +kernel
theorem d_F_holdIn_5 : decode b_F_holdIn 5 = .ok (.aaload, 1) := by decide +kernel
theorem d_F_holdIn_6 : decode b_F_holdIn 6 = .ok (.astore 4, 2) := by decide +kernel
theorem d_F_holdIn_8 : decode b_F_holdIn 8 = .ok (.iconst 0, 1) := by decide +kernel
theorem d_F_holdIn_9 : decode b_F_holdIn 9 = .ok (.istore 5, 2) := by decide +kernel
theorem d_F_holdIn_11 : decode b_F_holdIn 11 = .ok (.iload 5, 2) := by decide +kernel
theorem d_F_holdIn_13 : decode b_F_holdIn 13 = .ok (.bipush (27), 2) := by decide +kernel
theorem d_F_holdIn_15 : decode b_F_holdIn 15 = .ok (.if_icmp .ge (48), 3) := by decide +kernel
theorem d_F_holdIn_18 : decode b_F_holdIn 18 = .ok (.iload_n 2, 1) := by decide +kernel
theorem d_F_holdIn_19 : decode b_F_holdIn 19 = .ok (.iload 5, 2) := by decide +kernel
theorem d_F_holdIn_21 : decode b_F_holdIn 21 = .ok (.ishr, 1) := by decide +kernel
theorem d_F_holdIn_22 : decode b_F_holdIn 22 = .ok (.iconst 1, 1) := by decide +kernel
theorem d_F_holdIn_23 : decode b_F_holdIn 23 = .ok (.iand, 1) := by decide +kernel
theorem d_F_holdIn_24 : decode b_F_holdIn 24 = .ok (.iconst 1, 1) := by decide +kernel
theorem d_F_holdIn_25 : decode b_F_holdIn 25 = .ok (.if_icmp .ne (32), 3) := by decide +kernel
theorem d_F_holdIn_28 : decode b_F_holdIn 28 = .ok (.aload 4, 2) := by decide +kernel
theorem d_F_holdIn_30 : decode b_F_holdIn 30 = .ok (.iload 5, 2) := by decide +kernel
theorem d_F_holdIn_32 : decode b_F_holdIn 32 = .ok (.iaload, 1) := by decide +kernel
theorem d_F_holdIn_33 : decode b_F_holdIn 33 = .ok (.iload_n 3, 1) := by decide +kernel
theorem d_F_holdIn_34 : decode b_F_holdIn 34 = .ok (.ior, 1) := by decide +kernel
theorem d_F_holdIn_35 : decode b_F_holdIn 35 = .ok (.aload 4, 2) := by decide +kernel
theorem d_F_holdIn_37 : decode b_F_holdIn 37 = .ok (.iload 5, 2) := by decide +kernel
theorem d_F_holdIn_39 : decode b_F_holdIn 39 = .ok (.iaload, 1) := by decide +kernel
theorem d_F_holdIn_40 : decode b_F_holdIn 40 = .ok (.if_icmp .eq (17), 3) := by decide +kernel
theorem d_F_holdIn_43 : decode b_F_holdIn 43 = .ok (.aload 4, 2) := by decide +kernel
theorem d_F_holdIn_45 : decode b_F_holdIn 45 = .ok (.iload 5, 2) := by decide +kernel
theorem d_F_holdIn_47 : decode b_F_holdIn 47 = .ok (.dup2, 1) := by decide +kernel
theorem d_F_holdIn_48 : decode b_F_holdIn 48 = .ok (.iaload, 1) := by decide +kernel
theorem d_F_holdIn_49 : decode b_F_holdIn 49 = .ok (.iload_n 3, 1) := by decide +kernel
theorem d_F_holdIn_50 : decode b_F_holdIn 50 = .ok (.ior, 1) := by decide +kernel
theorem d_F_holdIn_51 : decode b_F_holdIn 51 = .ok (.iastore, 1) := by decide +kernel
theorem d_F_holdIn_52 : decode b_F_holdIn 52 = .ok (.aload_n 0, 1) := by decide +kernel
theorem d_F_holdIn_53 : decode b_F_holdIn 53 = .ok (.iconst 1, 1) := by decide +kernel
theorem d_F_holdIn_54 : decode b_F_holdIn 54 = .ok (.putfield 37, 3) := by decide +kernel
theorem d_F_holdIn_57 : decode b_F_holdIn 57 = .ok (.iinc 5 (1), 3) := by decide +kernel
theorem d_F_holdIn_60 : decode b_F_holdIn 60 = .ok (.goto (-49), 3) := by decide +kernel
theorem d_F_holdIn_63 : decode b_F_holdIn 63 = .ok (.return_, 1) := by decide +kernel
theorem d_F_applyCall_0 : decode b_F_applyCall 0 = .ok (.aload_n 1, 1) := by decide +kernel
theorem d_F_applyCall_1 : decode b_F_applyCall 1 = .ok (.iload_n 3, 1) := by decide +kernel
theorem d_F_applyCall_2 : decode b_F_applyCall 2 = .ok (.aaload, 1) := by decide +kernel
theorem d_F_applyCall_3 : decode b_F_applyCall 3 = .ok (.getfield 85, 3) := by decide +kernel
theorem d_F_applyCall_6 : decode b_F_applyCall 6 = .ok (.iload 4, 2) := by decide +kernel
theorem d_F_applyCall_8 : decode b_F_applyCall 8 = .ok (.iaload, 1) := by decide +kernel
theorem d_F_applyCall_9 : decode b_F_applyCall 9 = .ok (.istore 5, 2) := by decide +kernel
theorem d_F_applyCall_11 : decode b_F_applyCall 11 = .ok (.aload_n 1, 1) := by decide +kernel
theorem d_F_applyCall_12 : decode b_F_applyCall 12 = .ok (.iload_n 3, 1) := by decide +kernel
theorem d_F_applyCall_13 : decode b_F_applyCall 13 = .ok (.aaload, 1) := by decide +kernel
theorem d_F_applyCall_14 : decode b_F_applyCall 14 = .ok (.getfield 88, 3) := by decide +kernel
theorem d_F_applyCall_17 : decode b_F_applyCall 17 = .ok (.iload 4, 2) := by decide +kernel
theorem d_F_applyCall_19 : decode b_F_applyCall 19 = .ok (.iaload, 1) := by decide +kernel
theorem d_F_applyCall_20 : decode b_F_applyCall 20 = .ok (.istore 6, 2) := by decide +kernel
theorem d_F_applyCall_22 : decode b_F_applyCall 22 = .ok (.aload_n 1, 1) := by decide +kernel
theorem d_F_applyCall_23 : decode b_F_applyCall 23 = .ok (.iload_n 3, 1) := by decide +kernel
theorem d_F_applyCall_24 : decode b_F_applyCall 24 = .ok (.aaload, 1) := by decide +kernel
theorem d_F_applyCall_25 : decode b_F_applyCall 25 = .ok (.getfield 91, 3) := by decide +kernel
theorem d_F_applyCall_28 : decode b_F_applyCall 28 = .ok (.iload 4, 2) := by decide +kernel
theorem d_F_applyCall_30 : decode b_F_applyCall 30 = .ok (.iaload, 1) := by decide +kernel
theorem d_F_applyCall_31 : decode b_F_applyCall 31 = .ok (.istore 7, 2) := by decide +kernel
theorem d_F_applyCall_33 : decode b_F_applyCall 33 = .ok (.aload_n 1, 1) := by decide +kernel
theorem d_F_applyCall_34 : decode b_F_applyCall 34 = .ok (.iload_n 3, 1) := by decide +kernel
theorem d_F_applyCall_35 : decode b_F_applyCall 35 = .ok (.aaload, 1) := by decide +kernel
theorem d_F_applyCall_36 : decode b_F_applyCall 36 = .ok (.getfield 102, 3) := by decide +kernel
theorem d_F_applyCall_39 : decode b_F_applyCall 39 = .ok (.iload 4, 2) := by decide +kernel
theorem d_F_applyCall_41 : decode b_F_applyCall 41 = .ok (.iaload, 1) := by decide +kernel
theorem d_F_applyCall_42 : decode b_F_applyCall 42 = .ok (.istore 8, 2) := by decide +kernel
theorem d_F_applyCall_44 : decode b_F_applyCall 44 = .ok (.aload_n 1, 1) := by decide +kernel
theorem d_F_applyCall_45 : decode b_F_applyCall 45 = .ok (.iload 8, 2) := by decide +kernel
theorem d_F_applyCall_47 : decode b_F_applyCall 47 = .ok (.aaload, 1) := by decide +kernel
theorem d_F_applyCall_48 : decode b_F_applyCall 48 = .ok (.getfield 49, 3) := by decide +kernel
theorem d_F_applyCall_51 : decode b_F_applyCall 51 = .ok (.istore 9, 2) := by decide +kernel
theorem d_F_applyCall_53 : decode b_F_applyCall 53 = .ok (.iload 8, 2) := by decide +kernel
theorem d_F_applyCall_55 : decode b_F_applyCall 55 = .ok (.iload_n 3, 1) := by decide +kernel
theorem d_F_applyCall_56 : decode b_F_applyCall 56 = .ok (.if_icmp .le (13), 3) := by decide +kernel
theorem d_F_applyCall_59 : decode b_F_applyCall 59 = .ok (.aload_n 1, 1) := by decide +kernel
theorem d_F_applyCall_60 : decode b_F_applyCall 60 = .ok (.iload 8, 2) := by decide +kernel
theorem d_F_applyCall_62 : decode b_F_applyCall 62 = .ok (.aaload, 1) := by decide +kernel
theorem d_F_applyCall_63 : decode b_F_applyCall 63 = .ok (.getfield 44, 3) := by decide +kernel
theorem d_F_applyCall_66 : decode b_F_applyCall 66 = .ok (.ifCond .ne (7), 3) := by decide +kernel
theorem d_F_applyCall_69 : decode b_F_applyCall 69 = .ok (.iconst 1, 1) := by decide +kernel
theorem d_F_applyCall_70 : decode b_F_applyCall 70 = .ok (.goto (4), 3) := by decide +kernel
theorem d_F_applyCall_73 : decode b_F_applyCall 73 = .ok (.iconst 0, 1) := by decide +kernel
theorem d_F_applyCall_74 : decode b_F_applyCall 74 = .ok (.istore 10, 2) := by decide +kernel
theorem d_F_applyCall_76 : decode b_F_applyCall 76 = .ok (.aload_n 0, 1) := by decide +kernel
theorem d_F_applyCall_77 : decode b_F_applyCall 77 = .ok (.aload_n 0, 1) := by decide +kernel
theorem d_F_applyCall_78 : decode b_F_applyCall 78 = .ok (.ldc 84, 2) := by decide +kernel
theorem d_F_applyCall_80 : decode b_F_applyCall 80 = .ok (.invokevirtual 105, 3) := by decide +kernel
theorem d_F_applyCall_83 : decode b_F_applyCall 83 = .ok (.ldc 84, 2) := by decide +kernel
theorem d_F_applyCall_85 : decode b_F_applyCall 85 = .ok (.invokevirtual 81, 3) := by decide +kernel
theorem d_F_applyCall_88 : decode b_F_applyCall 88 = .ok (.aload_n 0, 1) := by decide +kernel
theorem d_F_applyCall_89 : decode b_F_applyCall 89 = .ok (.iload 5, 2) := by decide +kernel
theorem d_F_applyCall_91 : decode b_F_applyCall 91 = .ok (.aload_n 0, 1) := by decide +kernel
theorem d_F_applyCall_92 : decode b_F_applyCall 92 = .ok (.getfield 17, 3) := by decide +kernel
theorem d_F_applyCall_95 : decode b_F_applyCall 95 = .ok (.iconst 0, 1) := by decide +kernel
theorem d_F_applyCall_96 : decode b_F_applyCall 96 = .ok (.aaload, 1) := by decide +kernel
theorem d_F_applyCall_97 : decode b_F_applyCall 97 = .ok (.bipush (26), 2) := by decide +kernel
theorem d_F_applyCall_99 : decode b_F_applyCall 99 = .ok (.iaload, 1) := by decide +kernel
theorem d_F_applyCall_100 : decode b_F_applyCall 100 = .ok (.invokevirtual 77, 3) := by decide +kernel
theorem d_F_applyCall_103 : decode b_F_applyCall 103 = .ok (.iconst 0, 1) := by decide +kernel
theorem d_F_applyCall_104 : decode b_F_applyCall 104 = .ok (.istore 11, 2) := by decide +kernel
theorem d_F_applyCall_106 : decode b_F_applyCall 106 = .ok (.iload 11, 2) := by decide +kernel
theorem d_F_applyCall_108 : decode b_F_applyCall 108 = .ok (.iload 9, 2) := by decide +kernel
theorem d_F_applyCall_110 : decode b_F_applyCall 110 = .ok (.if_icmp .ge (175), 3) := by decide +kernel
theorem d_F_applyCall_113 : decode b_F_applyCall 113 = .ok (.iload 10, 2) := by decide +kernel
theorem d_F_applyCall_115 : decode b_F_applyCall 115 = .ok (.ifCond .eq (7), 3) := by decide +kernel
theorem d_F_applyCall_118 : decode b_F_applyCall 118 = .ok (.iconst 2, 1) := by decide +kernel
theorem d_F_applyCall_119 : decode b_F_applyCall 119 = .ok (.goto (13), 3) := by decide +kernel
theorem d_F_applyCall_122 : decode b_F_applyCall 122 = .ok (.aload_n 2, 1) := by decide +kernel
theorem d_F_applyCall_123 : decode b_F_applyCall 123 = .ok (.iload 8, 2) := by decide +kernel
theorem d_F_applyCall_125 : decode b_F_applyCall 125 = .ok (.aaload, 1) := by decide +kernel
theorem d_F_applyCall_126 : decode b_F_applyCall 126 = .ok (.getfield 20, 3) := by decide +kernel
theorem d_F_applyCall_129 : decode b_F_applyCall 129 = .ok (.iload 11, 2) := by decide +kernel
theorem d_F_applyCall_131 : decode b_F_applyCall 131 = .ok (.iaload, 1) := by decide +kernel
theorem d_F_applyCall_132 : decode b_F_applyCall 132 = .ok (.istore 12, 2) := by decide +kernel
theorem d_F_applyCall_134 : decode b_F_applyCall 134 = .ok (.aload_n 0, 1) := by decide +kernel
theorem d_F_applyCall_135 : decode b_F_applyCall 135 = .ok (.getfield 9, 3) := by decide +kernel
theorem d_F_applyCall_138 : decode b_F_applyCall 138 = .ok (.iload 11, 2) := by decide +kernel
theorem d_F_applyCall_140 : decode b_F_applyCall 140 = .ok (.ifCond .ne (8), 3) := by decide +kernel
theorem d_F_applyCall_143 : decode b_F_applyCall 143 = .ok (.iload 6, 2) := by decide +kernel
theorem d_F_applyCall_145 : decode b_F_applyCall 145 = .ok (.goto (5), 3) := by decide +kernel
theorem d_F_applyCall_148 : decode b_F_applyCall 148 = .ok (.iload 7, 2) := by decide +kernel
theorem d_F_applyCall_150 : decode b_F_applyCall 150 = .ok (.iaload, 1) := by decide +kernel
theorem d_F_applyCall_151 : decode b_F_applyCall 151 = .ok (.istore 13, 2) := by decide +kernel
theorem d_F_applyCall_153 : decode b_F_applyCall 153 = .ok (.aload_n 0, 1) := by decide +kernel
theorem d_F_applyCall_154 : decode b_F_applyCall 154 = .ok (.iload 13, 2) := by decide +kernel
theorem d_F_applyCall_156 : decode b_F_applyCall 156 = .ok (.invokevirtual 105, 3) := by decide +kernel
theorem d_F_applyCall_159 : decode b_F_applyCall 159 = .ok (.istore 14, 2) := by decide +kernel
theorem d_F_applyCall_161 : decode b_F_applyCall 161 = .ok (.iload 12, 2) := by decide +kernel
theorem d_F_applyCall_163 : decode b_F_applyCall 163 = .ok (.iconst 2, 1) := by decide +kernel
theorem d_F_applyCall_164 : decode b_F_applyCall 164 = .ok (.if_icmp .eq (16), 3) := by decide +kernel
theorem d_F_applyCall_167 : decode b_F_applyCall 167 = .ok (.aload_n 2, 1) := by decide +kernel
theorem d_F_applyCall_168 : decode b_F_applyCall 168 = .ok (.iload 8, 2) := by decide +kernel
theorem d_F_applyCall_170 : decode b_F_applyCall 170 = .ok (.aaload, 1) := by decide +kernel
theorem d_F_applyCall_171 : decode b_F_applyCall 171 = .ok (.getfield 23, 3) := by decide +kernel
theorem d_F_applyCall_174 : decode b_F_applyCall 174 = .ok (.iload 11, 2) := by decide +kernel
theorem d_F_applyCall_176 : decode b_F_applyCall 176 = .ok (.baload, 1) := by decide +kernel
theorem d_F_applyCall_177 : decode b_F_applyCall 177 = .ok (.ifCond .eq (7), 3) := by decide +kernel
theorem d_F_applyCall_180 : decode b_F_applyCall 180 = .ok (.iconst 1, 1) := by decide +kernel
theorem d_F_applyCall_181 : decode b_F_applyCall 181 = .ok (.goto (4), 3) := by decide +kernel
theorem d_F_applyCall_184 : decode b_F_applyCall 184 = .ok (.iconst 0, 1) := by decide +kernel
theorem d_F_applyCall_185 : decode b_F_applyCall 185 = .ok (.istore 15, 2) := by decide +kernel
theorem d_F_applyCall_187 : decode b_F_applyCall 187 = .ok (.aload_n 0, 1) := by decide +kernel
theorem d_F_applyCall_188 : decode b_F_applyCall 188 = .ok (.iload 14, 2) := by decide +kernel
theorem d_F_applyCall_190 : decode b_F_applyCall 190 = .ok (.iload 15, 2) := by decide +kernel
theorem d_F_applyCall_192 : decode b_F_applyCall 192 = .ok (.ifCond .eq (11), 3) := by decide +kernel
theorem d_F_applyCall_195 : decode b_F_applyCall 195 = .ok (.iload 14, 2) := by decide +kernel
theorem d_F_applyCall_197 : decode b_F_applyCall 197 = .ok (.ldc 84, 2) := by decide +kernel
theorem d_F_applyCall_199 : decode b_F_applyCall 199 = .ok (.ior, 1) := by decide +kernel
theorem d_F_applyCall_200 : decode b_F_applyCall 200 = .ok (.goto (5), 3) := by decide +kernel
theorem d_F_applyCall_203 : decode b_F_applyCall 203 = .ok (.iload 14, 2) := by decide +kernel
theorem d_F_applyCall_205 : decode b_F_applyCall 205 = .ok (.invokevirtual 81, 3) := by decide +kernel
theorem d_F_applyCall_208 : decode b_F_applyCall 208 = .ok (.iload 12, 2) := by decide +kernel
theorem d_F_applyCall_210 : decode b_F_applyCall 210 = .ok (.iconst 2, 1) := by decide +kernel
theorem d_F_applyCall_211 : decode b_F_applyCall 211 = .ok (.if_icmp .ne (14), 3) := by decide +kernel
theorem d_F_applyCall_214 : decode b_F_applyCall 214 = .ok (.aload_n 0, 1) := by decide +kernel
theorem d_F_applyCall_215 : decode b_F_applyCall 215 = .ok (.ldc 84, 2) := by decide +kernel
theorem d_F_applyCall_217 : decode b_F_applyCall 217 = .ok (.iload 13, 2) := by decide +kernel
theorem d_F_applyCall_219 : decode b_F_applyCall 219 = .ok (.invokevirtual 81, 3) := by decide +kernel
theorem d_F_applyCall_222 : decode b_F_applyCall 222 = .ok (.goto (57), 3) := by decide +kernel
theorem d_F_applyCall_225 : decode b_F_applyCall 225 = .ok (.iload 12, 2) := by decide +kernel
theorem d_F_applyCall_227 : decode b_F_applyCall 227 = .ok (.iconst 1, 1) := by decide +kernel
theorem d_F_applyCall_228 : decode b_F_applyCall 228 = .ok (.if_icmp .ne (51), 3) := by decide +kernel
theorem d_F_applyCall_231 : decode b_F_applyCall 231 = .ok (.aload_n 0, 1) := by decide +kernel
theorem d_F_applyCall_232 : decode b_F_applyCall 232 = .ok (.iload 9, 2) := by decide +kernel
theorem d_F_applyCall_234 : decode b_F_applyCall 234 = .ok (.iconst 2, 1) := by decide +kernel
theorem d_F_applyCall_235 : decode b_F_applyCall 235 = .ok (.if_icmp .ne (21), 3) := by decide +kernel
theorem d_F_applyCall_238 : decode b_F_applyCall 238 = .ok (.aload_n 0, 1) := by decide +kernel
theorem d_F_applyCall_239 : decode b_F_applyCall 239 = .ok (.getfield 9, 3) := by decide +kernel
theorem d_F_applyCall_242 : decode b_F_applyCall 242 = .ok (.iload 6, 2) := by decide +kernel
theorem d_F_applyCall_244 : decode b_F_applyCall 244 = .ok (.iaload, 1) := by decide +kernel
theorem d_F_applyCall_245 : decode b_F_applyCall 245 = .ok (.aload_n 0, 1) := by decide +kernel
theorem d_F_applyCall_246 : decode b_F_applyCall 246 = .ok (.getfield 9, 3) := by decide +kernel
theorem d_F_applyCall_249 : decode b_F_applyCall 249 = .ok (.iload 7, 2) := by decide +kernel
theorem d_F_applyCall_251 : decode b_F_applyCall 251 = .ok (.iaload, 1) := by decide +kernel
theorem d_F_applyCall_252 : decode b_F_applyCall 252 = .ok (.ior, 1) := by decide +kernel
theorem d_F_applyCall_253 : decode b_F_applyCall 253 = .ok (.goto (5), 3) := by decide +kernel
theorem d_F_applyCall_256 : decode b_F_applyCall 256 = .ok (.iload 13, 2) := by decide +kernel
theorem d_F_applyCall_258 : decode b_F_applyCall 258 = .ok (.invokevirtual 105, 3) := by decide +kernel
theorem d_F_applyCall_261 : decode b_F_applyCall 261 = .ok (.istore 16, 2) := by decide +kernel
theorem d_F_applyCall_263 : decode b_F_applyCall 263 = .ok (.aload_n 0, 1) := by decide +kernel
theorem d_F_applyCall_264 : decode b_F_applyCall 264 = .ok (.iload 16, 2) := by decide +kernel
theorem d_F_applyCall_266 : decode b_F_applyCall 266 = .ok (.iload 16, 2) := by decide +kernel
theorem d_F_applyCall_268 : decode b_F_applyCall 268 = .ok (.invokevirtual 81, 3) := by decide +kernel
theorem d_F_applyCall_271 : decode b_F_applyCall 271 = .ok (.aload_n 0, 1) := by decide +kernel
theorem d_F_applyCall_272 : decode b_F_applyCall 272 = .ok (.iload 5, 2) := by decide +kernel
theorem d_F_applyCall_274 : decode b_F_applyCall 274 = .ok (.iload 16, 2) := by decide +kernel
theorem d_F_applyCall_276 : decode b_F_applyCall 276 = .ok (.invokevirtual 77, 3) := by decide +kernel
theorem d_F_applyCall_279 : decode b_F_applyCall 279 = .ok (.iinc 11 (1), 3) := by decide +kernel
theorem d_F_applyCall_282 : decode b_F_applyCall 282 = .ok (.goto (-176), 3) := by decide +kernel
theorem d_F_applyCall_285 : decode b_F_applyCall 285 = .ok (.return_, 1) := by decide +kernel
theorem d_F_reached_0 : decode b_F_reached 0 = .ok (.iload_n 1, 1) := by decide +kernel
theorem d_F_reached_1 : decode b_F_reached 1 = .ok (.istore_n 2, 1) := by decide +kernel
theorem d_F_reached_2 : decode b_F_reached 2 = .ok (.iconst 0, 1) := by decide +kernel
theorem d_F_reached_3 : decode b_F_reached 3 = .ok (.istore_n 3, 1) := by decide +kernel
theorem d_F_reached_4 : decode b_F_reached 4 = .ok (.iload_n 3, 1) := by decide +kernel
theorem d_F_reached_5 : decode b_F_reached 5 = .ok (.bipush (27), 2) := by decide +kernel
theorem d_F_reached_7 : decode b_F_reached 7 = .ok (.if_icmp .ge (38), 3) := by decide +kernel
theorem d_F_reached_10 : decode b_F_reached 10 = .ok (.iload_n 2, 1) := by decide +kernel
theorem d_F_reached_11 : decode b_F_reached 11 = .ok (.aload_n 0, 1) := by decide +kernel
theorem d_F_reached_12 : decode b_F_reached 12 = .ok (.iload_n 2, 1) := by decide +kernel
theorem d_F_reached_13 : decode b_F_reached 13 = .ok (.iconst 0, 1) := by decide +kernel
theorem d_F_reached_14 : decode b_F_reached 14 = .ok (.invokevirtual 94, 3) := by decide +kernel
theorem d_F_reached_17 : decode b_F_reached 17 = .ok (.ior, 1) := by decide +kernel
theorem d_F_reached_18 : decode b_F_reached 18 = .ok (.aload_n 0, 1) := by decide +kernel
theorem d_F_reached_19 : decode b_F_reached 19 = .ok (.iload_n 2, 1) := by decide +kernel
theorem d_F_reached_20 : decode b_F_reached 20 = .ok (.iconst 1, 1) := by decide +kernel
theorem d_F_reached_21 : decode b_F_reached 21 = .ok (.invokevirtual 94, 3) := by decide +kernel
theorem d_F_reached_24 : decode b_F_reached 24 = .ok (.ior, 1) := by decide +kernel
theorem d_F_reached_25 : decode b_F_reached 25 = .ok (.istore 4, 2) := by decide +kernel
theorem d_F_reached_27 : decode b_F_reached 27 = .ok (.iload 4, 2) := by decide +kernel
theorem d_F_reached_29 : decode b_F_reached 29 = .ok (.iload_n 2, 1) := by decide +kernel
theorem d_F_reached_30 : decode b_F_reached 30 = .ok (.if_icmp .ne (6), 3) := by decide +kernel
theorem d_F_reached_33 : decode b_F_reached 33 = .ok (.goto (12), 3) := by decide +kernel
theorem d_F_reached_36 : decode b_F_reached 36 = .ok (.iload 4, 2) := by decide +kernel
theorem d_F_reached_38 : decode b_F_reached 38 = .ok (.istore_n 2, 1) := by decide +kernel
theorem d_F_reached_39 : decode b_F_reached 39 = .ok (.iinc 3 (1), 3) := by decide +kernel
theorem d_F_reached_42 : decode b_F_reached 42 = .ok (.goto (-38), 3) := by decide +kernel
theorem d_F_reached_45 : decode b_F_reached 45 = .ok (.iload_n 2, 1) := by decide +kernel
theorem d_F_reached_46 : decode b_F_reached 46 = .ok (.ireturn, 1) := by decide +kernel
theorem d_F_heldBy_0 : decode b_F_heldBy 0 = .ok (.aload_n 0, 1) := by decide +kernel
theorem d_F_heldBy_1 : decode b_F_heldBy 1 = .ok (.getfield 17, 3) := by decide +kernel
theorem d_F_heldBy_4 : decode b_F_heldBy 4 = .ok (.iload_n 2, 1) := by decide +kernel
theorem d_F_heldBy_5 : decode b_F_heldBy 5 = .ok (.aaload, 1) := by decide +kernel
theorem d_F_heldBy_6 : decode b_F_heldBy 6 = .ok (.astore_n 3, 1) := by decide +kernel
theorem d_F_heldBy_7 : decode b_F_heldBy 7 = .ok (.iconst 0, 1) := by decide +kernel
theorem d_F_heldBy_8 : decode b_F_heldBy 8 = .ok (.istore 4, 2) := by decide +kernel
theorem d_F_heldBy_10 : decode b_F_heldBy 10 = .ok (.iconst 0, 1) := by decide +kernel
theorem d_F_heldBy_11 : decode b_F_heldBy 11 = .ok (.istore 5, 2) := by decide +kernel
theorem d_F_heldBy_13 : decode b_F_heldBy 13 = .ok (.iload 5, 2) := by decide +kernel
theorem d_F_heldBy_15 : decode b_F_heldBy 15 = .ok (.bipush (27), 2) := by decide +kernel
theorem d_F_heldBy_17 : decode b_F_heldBy 17 = .ok (.if_icmp .ge (28), 3) := by decide +kernel
theorem d_F_heldBy_20 : decode b_F_heldBy 20 = .ok (.iload_n 1, 1) := by decide +kernel
theorem d_F_heldBy_21 : decode b_F_heldBy 21 = .ok (.iload 5, 2) := by decide +kernel
theorem d_F_heldBy_23 : decode b_F_heldBy 23 = .ok (.ishr, 1) := by decide +kernel
theorem d_F_heldBy_24 : decode b_F_heldBy 24 = .ok (.iconst 1, 1) := by decide +kernel
theorem d_F_heldBy_25 : decode b_F_heldBy 25 = .ok (.iand, 1) := by decide +kernel
theorem d_F_heldBy_26 : decode b_F_heldBy 26 = .ok (.iconst 1, 1) := by decide +kernel
theorem d_F_heldBy_27 : decode b_F_heldBy 27 = .ok (.if_icmp .ne (12), 3) := by decide +kernel
theorem d_F_heldBy_30 : decode b_F_heldBy 30 = .ok (.iload 4, 2) := by decide +kernel
theorem d_F_heldBy_32 : decode b_F_heldBy 32 = .ok (.aload_n 3, 1) := by decide +kernel
theorem d_F_heldBy_33 : decode b_F_heldBy 33 = .ok (.iload 5, 2) := by decide +kernel
theorem d_F_heldBy_35 : decode b_F_heldBy 35 = .ok (.iaload, 1) := by decide +kernel
theorem d_F_heldBy_36 : decode b_F_heldBy 36 = .ok (.ior, 1) := by decide +kernel
theorem d_F_heldBy_37 : decode b_F_heldBy 37 = .ok (.istore 4, 2) := by decide +kernel
theorem d_F_heldBy_39 : decode b_F_heldBy 39 = .ok (.iinc 5 (1), 3) := by decide +kernel
theorem d_F_heldBy_42 : decode b_F_heldBy 42 = .ok (.goto (-29), 3) := by decide +kernel
theorem d_F_heldBy_45 : decode b_F_heldBy 45 = .ok (.iload 4, 2) := by decide +kernel
theorem d_F_heldBy_47 : decode b_F_heldBy 47 = .ok (.ireturn, 1) := by decide +kernel
theorem d_F_apply_0 : decode b_F_apply 0 = .ok (.aload_n 1, 1) := by decide +kernel
theorem d_F_apply_1 : decode b_F_apply 1 = .ok (.getfield 85, 3) := by decide +kernel
theorem d_F_apply_4 : decode b_F_apply 4 = .ok (.iload_n 2, 1) := by decide +kernel
theorem d_F_apply_5 : decode b_F_apply 5 = .ok (.iaload, 1) := by decide +kernel
theorem d_F_apply_6 : decode b_F_apply 6 = .ok (.istore_n 3, 1) := by decide +kernel
theorem d_F_apply_7 : decode b_F_apply 7 = .ok (.aload_n 1, 1) := by decide +kernel
theorem d_F_apply_8 : decode b_F_apply 8 = .ok (.getfield 88, 3) := by decide +kernel
theorem d_F_apply_11 : decode b_F_apply 11 = .ok (.iload_n 2, 1) := by decide +kernel
theorem d_F_apply_12 : decode b_F_apply 12 = .ok (.iaload, 1) := by decide +kernel
theorem d_F_apply_13 : decode b_F_apply 13 = .ok (.istore 4, 2) := by decide +kernel
theorem d_F_apply_15 : decode b_F_apply 15 = .ok (.aload_n 1, 1) := by decide +kernel
theorem d_F_apply_16 : decode b_F_apply 16 = .ok (.getfield 91, 3) := by decide +kernel
theorem d_F_apply_19 : decode b_F_apply 19 = .ok (.iload_n 2, 1) := by decide +kernel
theorem d_F_apply_20 : decode b_F_apply 20 = .ok (.iaload, 1) := by decide +kernel
theorem d_F_apply_21 : decode b_F_apply 21 = .ok (.istore 5, 2) := by decide +kernel
theorem d_F_apply_23 : decode b_F_apply 23 = .ok (.aload_n 1, 1) := by decide +kernel
theorem d_F_apply_24 : decode b_F_apply 24 = .ok (.getfield 56, 3) := by decide +kernel
theorem d_F_apply_27 : decode b_F_apply 27 = .ok (.iload_n 2, 1) := by decide +kernel
theorem d_F_apply_28 : decode b_F_apply 28 = .ok (.iaload, 1) := by decide +kernel
theorem d_F_apply_29 : decode b_F_apply 29 = .ok (.tableswitch (206) (0) (17) #[87, 98, 206, 113, 134, 206, 206, 206, 206, 206, 206, 206, 156, 171, 206, 206, 206, 188], 87) := by decide +kernel
theorem d_F_apply_116 : decode b_F_apply 116 = .ok (.aload_n 0, 1) := by decide +kernel
theorem d_F_apply_117 : decode b_F_apply 117 = .ok (.iload_n 3, 1) := by decide +kernel
theorem d_F_apply_118 : decode b_F_apply 118 = .ok (.iconst 1, 1) := by decide +kernel
theorem d_F_apply_119 : decode b_F_apply 119 = .ok (.iload_n 2, 1) := by decide +kernel
theorem d_F_apply_120 : decode b_F_apply 120 = .ok (.ishl, 1) := by decide +kernel
theorem d_F_apply_121 : decode b_F_apply 121 = .ok (.invokevirtual 77, 3) := by decide +kernel
theorem d_F_apply_124 : decode b_F_apply 124 = .ok (.goto (111), 3) := by decide +kernel
theorem d_F_apply_127 : decode b_F_apply 127 = .ok (.aload_n 0, 1) := by decide +kernel
theorem d_F_apply_128 : decode b_F_apply 128 = .ok (.iload_n 3, 1) := by decide +kernel
theorem d_F_apply_129 : decode b_F_apply 129 = .ok (.aload_n 0, 1) := by decide +kernel
theorem d_F_apply_130 : decode b_F_apply 130 = .ok (.getfield 9, 3) := by decide +kernel
theorem d_F_apply_133 : decode b_F_apply 133 = .ok (.iload 4, 2) := by decide +kernel
theorem d_F_apply_135 : decode b_F_apply 135 = .ok (.iaload, 1) := by decide +kernel
theorem d_F_apply_136 : decode b_F_apply 136 = .ok (.invokevirtual 77, 3) := by decide +kernel
theorem d_F_apply_139 : decode b_F_apply 139 = .ok (.goto (96), 3) := by decide +kernel
theorem d_F_apply_142 : decode b_F_apply 142 = .ok (.aload_n 0, 1) := by decide +kernel
theorem d_F_apply_143 : decode b_F_apply 143 = .ok (.iload_n 3, 1) := by decide +kernel
theorem d_F_apply_144 : decode b_F_apply 144 = .ok (.aload_n 0, 1) := by decide +kernel
theorem d_F_apply_145 : decode b_F_apply 145 = .ok (.aload_n 0, 1) := by decide +kernel
theorem d_F_apply_146 : decode b_F_apply 146 = .ok (.getfield 9, 3) := by decide +kernel
theorem d_F_apply_149 : decode b_F_apply 149 = .ok (.iload 4, 2) := by decide +kernel
theorem d_F_apply_151 : decode b_F_apply 151 = .ok (.iaload, 1) := by decide +kernel
theorem d_F_apply_152 : decode b_F_apply 152 = .ok (.iload 5, 2) := by decide +kernel
theorem d_F_apply_154 : decode b_F_apply 154 = .ok (.invokevirtual 94, 3) := by decide +kernel
theorem d_F_apply_157 : decode b_F_apply 157 = .ok (.invokevirtual 77, 3) := by decide +kernel
theorem d_F_apply_160 : decode b_F_apply 160 = .ok (.goto (75), 3) := by decide +kernel
theorem d_F_apply_163 : decode b_F_apply 163 = .ok (.aload_n 0, 1) := by decide +kernel
theorem d_F_apply_164 : decode b_F_apply 164 = .ok (.aload_n 0, 1) := by decide +kernel
theorem d_F_apply_165 : decode b_F_apply 165 = .ok (.getfield 9, 3) := by decide +kernel
theorem d_F_apply_168 : decode b_F_apply 168 = .ok (.iload_n 3, 1) := by decide +kernel
theorem d_F_apply_169 : decode b_F_apply 169 = .ok (.iaload, 1) := by decide +kernel
theorem d_F_apply_170 : decode b_F_apply 170 = .ok (.iload 5, 2) := by decide +kernel
theorem d_F_apply_172 : decode b_F_apply 172 = .ok (.aload_n 0, 1) := by decide +kernel
theorem d_F_apply_173 : decode b_F_apply 173 = .ok (.getfield 9, 3) := by decide +kernel
theorem d_F_apply_176 : decode b_F_apply 176 = .ok (.iload 4, 2) := by decide +kernel
theorem d_F_apply_178 : decode b_F_apply 178 = .ok (.iaload, 1) := by decide +kernel
theorem d_F_apply_179 : decode b_F_apply 179 = .ok (.invokevirtual 98, 3) := by decide +kernel
theorem d_F_apply_182 : decode b_F_apply 182 = .ok (.goto (53), 3) := by decide +kernel
theorem d_F_apply_185 : decode b_F_apply 185 = .ok (.aload_n 0, 1) := by decide +kernel
theorem d_F_apply_186 : decode b_F_apply 186 = .ok (.ldc 84, 2) := by decide +kernel
theorem d_F_apply_188 : decode b_F_apply 188 = .ok (.aload_n 0, 1) := by decide +kernel
theorem d_F_apply_189 : decode b_F_apply 189 = .ok (.getfield 9, 3) := by decide +kernel
theorem d_F_apply_192 : decode b_F_apply 192 = .ok (.iload_n 3, 1) := by decide +kernel
theorem d_F_apply_193 : decode b_F_apply 193 = .ok (.iaload, 1) := by decide +kernel
theorem d_F_apply_194 : decode b_F_apply 194 = .ok (.invokevirtual 81, 3) := by decide +kernel
theorem d_F_apply_197 : decode b_F_apply 197 = .ok (.goto (38), 3) := by decide +kernel
theorem d_F_apply_200 : decode b_F_apply 200 = .ok (.aload_n 0, 1) := by decide +kernel
theorem d_F_apply_201 : decode b_F_apply 201 = .ok (.iload_n 3, 1) := by decide +kernel
theorem d_F_apply_202 : decode b_F_apply 202 = .ok (.aload_n 0, 1) := by decide +kernel
theorem d_F_apply_203 : decode b_F_apply 203 = .ok (.getfield 17, 3) := by decide +kernel
theorem d_F_apply_206 : decode b_F_apply 206 = .ok (.iconst 0, 1) := by decide +kernel
theorem d_F_apply_207 : decode b_F_apply 207 = .ok (.aaload, 1) := by decide +kernel
theorem d_F_apply_208 : decode b_F_apply 208 = .ok (.bipush (26), 2) := by decide +kernel
theorem d_F_apply_210 : decode b_F_apply 210 = .ok (.iaload, 1) := by decide +kernel
theorem d_F_apply_211 : decode b_F_apply 211 = .ok (.invokevirtual 77, 3) := by decide +kernel
theorem d_F_apply_214 : decode b_F_apply 214 = .ok (.goto (21), 3) := by decide +kernel
theorem d_F_apply_217 : decode b_F_apply 217 = .ok (.aload_n 0, 1) := by decide +kernel
theorem d_F_apply_218 : decode b_F_apply 218 = .ok (.dup, 1) := by decide +kernel
theorem d_F_apply_219 : decode b_F_apply 219 = .ok (.getfield 27, 3) := by decide +kernel
theorem d_F_apply_222 : decode b_F_apply 222 = .ok (.aload_n 0, 1) := by decide +kernel
theorem d_F_apply_223 : decode b_F_apply 223 = .ok (.getfield 9, 3) := by decide +kernel
theorem d_F_apply_226 : decode b_F_apply 226 = .ok (.iload_n 3, 1) := by decide +kernel
theorem d_F_apply_227 : decode b_F_apply 227 = .ok (.iaload, 1) := by decide +kernel
theorem d_F_apply_228 : decode b_F_apply 228 = .ok (.ior, 1) := by decide +kernel
theorem d_F_apply_229 : decode b_F_apply 229 = .ok (.putfield 27, 3) := by decide +kernel
theorem d_F_apply_232 : decode b_F_apply 232 = .ok (.goto (3), 3) := by decide +kernel
theorem d_F_apply_235 : decode b_F_apply 235 = .ok (.return_, 1) := by decide +kernel
theorem d_F_hold_0 : decode b_F_hold 0 = .ok (.iload_n 1, 1) := by decide +kernel
theorem d_F_hold_1 : decode b_F_hold 1 = .ok (.ldc 109, 2) := by decide +kernel
theorem d_F_hold_3 : decode b_F_hold 3 = .ok (.iand, 1) := by decide +kernel
theorem d_F_hold_4 : decode b_F_hold 4 = .ok (.istore 4, 2) := by decide +kernel
theorem d_F_hold_6 : decode b_F_hold 6 = .ok (.aload_n 0, 1) := by decide +kernel
theorem d_F_hold_7 : decode b_F_hold 7 = .ok (.iload_n 2, 1) := by decide +kernel
theorem d_F_hold_8 : decode b_F_hold 8 = .ok (.iload 4, 2) := by decide +kernel
theorem d_F_hold_10 : decode b_F_hold 10 = .ok (.iload_n 3, 1) := by decide +kernel
theorem d_F_hold_11 : decode b_F_hold 11 = .ok (.invokevirtual 110, 3) := by decide +kernel
theorem d_F_hold_14 : decode b_F_hold 14 = .ok (.aload_n 0, 1) := by decide +kernel
theorem d_F_hold_15 : decode b_F_hold 15 = .ok (.iload_n 1, 1) := by decide +kernel
theorem d_F_hold_16 : decode b_F_hold 16 = .ok (.iload 4, 2) := by decide +kernel
theorem d_F_hold_18 : decode b_F_hold 18 = .ok (.iconst (-1), 1) := by decide +kernel
theorem d_F_hold_19 : decode b_F_hold 19 = .ok (.ixor, 1) := by decide +kernel
theorem d_F_hold_20 : decode b_F_hold 20 = .ok (.iand, 1) := by decide +kernel
theorem d_F_hold_21 : decode b_F_hold 21 = .ok (.iload_n 3, 1) := by decide +kernel
theorem d_F_hold_22 : decode b_F_hold 22 = .ok (.invokevirtual 81, 3) := by decide +kernel
theorem d_F_hold_25 : decode b_F_hold 25 = .ok (.return_, 1) := by decide +kernel
theorem d_F_sumUp_0 : decode b_F_sumUp 0 = .ok (.aload_n 0, 1) := by decide +kernel
theorem d_F_sumUp_1 : decode b_F_sumUp 1 = .ok (.aload_n 0, 1) := by decide +kernel
theorem d_F_sumUp_2 : decode b_F_sumUp 2 = .ok (.getfield 27, 3) := by decide +kernel
theorem d_F_sumUp_5 : decode b_F_sumUp 5 = .ok (.invokevirtual 105, 3) := by decide +kernel
theorem d_F_sumUp_8 : decode b_F_sumUp 8 = .ok (.istore_n 2, 1) := by decide +kernel
theorem d_F_sumUp_9 : decode b_F_sumUp 9 = .ok (.aload_n 0, 1) := by decide +kernel
theorem d_F_sumUp_10 : decode b_F_sumUp 10 = .ok (.aload_n 0, 1) := by decide +kernel
theorem d_F_sumUp_11 : decode b_F_sumUp 11 = .ok (.ldc 84, 2) := by decide +kernel
theorem d_F_sumUp_13 : decode b_F_sumUp 13 = .ok (.invokevirtual 105, 3) := by decide +kernel
theorem d_F_sumUp_16 : decode b_F_sumUp 16 = .ok (.putfield 31, 3) := by decide +kernel
theorem d_F_sumUp_19 : decode b_F_sumUp 19 = .ok (.aload_n 0, 1) := by decide +kernel
theorem d_F_sumUp_20 : decode b_F_sumUp 20 = .ok (.iload_n 2, 1) := by decide +kernel
theorem d_F_sumUp_21 : decode b_F_sumUp 21 = .ok (.putfield 34, 3) := by decide +kernel
theorem d_F_sumUp_24 : decode b_F_sumUp 24 = .ok (.iconst 0, 1) := by decide +kernel
theorem d_F_sumUp_25 : decode b_F_sumUp 25 = .ok (.istore_n 3, 1) := by decide +kernel
theorem d_F_sumUp_26 : decode b_F_sumUp 26 = .ok (.iload_n 3, 1) := by decide +kernel
theorem d_F_sumUp_27 : decode b_F_sumUp 27 = .ok (.iload_n 1, 1) := by decide +kernel
theorem d_F_sumUp_28 : decode b_F_sumUp 28 = .ok (.if_icmp .ge (111), 3) := by decide +kernel
theorem d_F_sumUp_31 : decode b_F_sumUp 31 = .ok (.aload_n 0, 1) := by decide +kernel
theorem d_F_sumUp_32 : decode b_F_sumUp 32 = .ok (.ldc 76, 2) := by decide +kernel
theorem d_F_sumUp_34 : decode b_F_sumUp 34 = .ok (.iload_n 3, 1) := by decide +kernel
theorem d_F_sumUp_35 : decode b_F_sumUp 35 = .ok (.ishl, 1) := by decide +kernel
theorem d_F_sumUp_36 : decode b_F_sumUp 36 = .ok (.invokevirtual 105, 3) := by decide +kernel
theorem d_F_sumUp_39 : decode b_F_sumUp 39 = .ok (.istore 4, 2) := by decide +kernel
theorem d_F_sumUp_41 : decode b_F_sumUp 41 = .ok (.iload_n 1, 1) := by decide +kernel
theorem d_F_sumUp_42 : decode b_F_sumUp 42 = .ok (.iconst 2, 1) := by decide +kernel
theorem d_F_sumUp_43 : decode b_F_sumUp 43 = .ok (.if_icmp .ne (16), 3) := by decide +kernel
theorem d_F_sumUp_46 : decode b_F_sumUp 46 = .ok (.aload_n 0, 1) := by decide +kernel
theorem d_F_sumUp_47 : decode b_F_sumUp 47 = .ok (.ldc 76, 2) := by decide +kernel
theorem d_F_sumUp_49 : decode b_F_sumUp 49 = .ok (.iconst 1, 1) := by decide +kernel
theorem d_F_sumUp_50 : decode b_F_sumUp 50 = .ok (.iload_n 3, 1) := by decide +kernel
theorem d_F_sumUp_51 : decode b_F_sumUp 51 = .ok (.isub, 1) := by decide +kernel
theorem d_F_sumUp_52 : decode b_F_sumUp 52 = .ok (.ishl, 1) := by decide +kernel
theorem d_F_sumUp_53 : decode b_F_sumUp 53 = .ok (.invokevirtual 105, 3) := by decide +kernel
theorem d_F_sumUp_56 : decode b_F_sumUp 56 = .ok (.goto (4), 3) := by decide +kernel
theorem d_F_sumUp_59 : decode b_F_sumUp 59 = .ok (.iconst 0, 1) := by decide +kernel
theorem d_F_sumUp_60 : decode b_F_sumUp 60 = .ok (.istore 5, 2) := by decide +kernel
theorem d_F_sumUp_62 : decode b_F_sumUp 62 = .ok (.aload_n 0, 1) := by decide +kernel
theorem d_F_sumUp_63 : decode b_F_sumUp 63 = .ok (.getfield 23, 3) := by decide +kernel
theorem d_F_sumUp_66 : decode b_F_sumUp 66 = .ok (.iload_n 3, 1) := by decide +kernel
theorem d_F_sumUp_67 : decode b_F_sumUp 67 = .ok (.iload 4, 2) := by decide +kernel
theorem d_F_sumUp_69 : decode b_F_sumUp 69 = .ok (.aload_n 0, 1) := by decide +kernel
theorem d_F_sumUp_70 : decode b_F_sumUp 70 = .ok (.getfield 31, 3) := by decide +kernel
theorem d_F_sumUp_73 : decode b_F_sumUp 73 = .ok (.iand, 1) := by decide +kernel
theorem d_F_sumUp_74 : decode b_F_sumUp 74 = .ok (.ifCond .eq (7), 3) := by decide +kernel
theorem d_F_sumUp_77 : decode b_F_sumUp 77 = .ok (.iconst 1, 1) := by decide +kernel
theorem d_F_sumUp_78 : decode b_F_sumUp 78 = .ok (.goto (4), 3) := by decide +kernel
theorem d_F_sumUp_81 : decode b_F_sumUp 81 = .ok (.iconst 0, 1) := by decide +kernel
theorem d_F_sumUp_82 : decode b_F_sumUp 82 = .ok (.bastore, 1) := by decide +kernel
theorem d_F_sumUp_83 : decode b_F_sumUp 83 = .ok (.aload_n 0, 1) := by decide +kernel
theorem d_F_sumUp_84 : decode b_F_sumUp 84 = .ok (.getfield 31, 3) := by decide +kernel
theorem d_F_sumUp_87 : decode b_F_sumUp 87 = .ok (.ldc 76, 2) := by decide +kernel
theorem d_F_sumUp_89 : decode b_F_sumUp 89 = .ok (.iload_n 3, 1) := by decide +kernel
theorem d_F_sumUp_90 : decode b_F_sumUp 90 = .ok (.ishl, 1) := by decide +kernel
theorem d_F_sumUp_91 : decode b_F_sumUp 91 = .ok (.iand, 1) := by decide +kernel
theorem d_F_sumUp_92 : decode b_F_sumUp 92 = .ok (.ifCond .eq (13), 3) := by decide +kernel
theorem d_F_sumUp_95 : decode b_F_sumUp 95 = .ok (.aload_n 0, 1) := by decide +kernel
theorem d_F_sumUp_96 : decode b_F_sumUp 96 = .ok (.getfield 20, 3) := by decide +kernel
theorem d_F_sumUp_99 : decode b_F_sumUp 99 = .ok (.iload_n 3, 1) := by decide +kernel
theorem d_F_sumUp_100 : decode b_F_sumUp 100 = .ok (.iconst 2, 1) := by decide +kernel
theorem d_F_sumUp_101 : decode b_F_sumUp 101 = .ok (.iastore, 1) := by decide +kernel
theorem d_F_sumUp_102 : decode b_F_sumUp 102 = .ok (.goto (20), 3) := by decide +kernel
theorem d_F_sumUp_105 : decode b_F_sumUp 105 = .ok (.iload 4, 2) := by decide +kernel
theorem d_F_sumUp_107 : decode b_F_sumUp 107 = .ok (.iload_n 2, 1) := by decide +kernel
theorem d_F_sumUp_108 : decode b_F_sumUp 108 = .ok (.iload 5, 2) := by decide +kernel
theorem d_F_sumUp_110 : decode b_F_sumUp 110 = .ok (.ior, 1) := by decide +kernel
theorem d_F_sumUp_111 : decode b_F_sumUp 111 = .ok (.iand, 1) := by decide +kernel
theorem d_F_sumUp_112 : decode b_F_sumUp 112 = .ok (.ifCond .eq (10), 3) := by decide +kernel
theorem d_F_sumUp_115 : decode b_F_sumUp 115 = .ok (.aload_n 0, 1) := by decide +kernel
theorem d_F_sumUp_116 : decode b_F_sumUp 116 = .ok (.getfield 20, 3) := by decide +kernel
theorem d_F_sumUp_119 : decode b_F_sumUp 119 = .ok (.iload_n 3, 1) := by decide +kernel
theorem d_F_sumUp_120 : decode b_F_sumUp 120 = .ok (.iconst 1, 1) := by decide +kernel
theorem d_F_sumUp_121 : decode b_F_sumUp 121 = .ok (.iastore, 1) := by decide +kernel
theorem d_F_sumUp_122 : decode b_F_sumUp 122 = .ok (.aload_n 0, 1) := by decide +kernel
theorem d_F_sumUp_123 : decode b_F_sumUp 123 = .ok (.dup, 1) := by decide +kernel
theorem d_F_sumUp_124 : decode b_F_sumUp 124 = .ok (.getfield 34, 3) := by decide +kernel
theorem d_F_sumUp_127 : decode b_F_sumUp 127 = .ok (.iload 4, 2) := by decide +kernel
theorem d_F_sumUp_129 : decode b_F_sumUp 129 = .ok (.ior, 1) := by decide +kernel
theorem d_F_sumUp_130 : decode b_F_sumUp 130 = .ok (.putfield 34, 3) := by decide +kernel
theorem d_F_sumUp_133 : decode b_F_sumUp 133 = .ok (.iinc 3 (1), 3) := by decide +kernel
theorem d_F_sumUp_136 : decode b_F_sumUp 136 = .ok (.goto (-110), 3) := by decide +kernel
theorem d_F_sumUp_139 : decode b_F_sumUp 139 = .ok (.return_, 1) := by decide +kernel
theorem d_P_draw_0 : decode b_P_draw 0 = .ok (.aload_n 0, 1) := by decide +kernel
theorem d_P_draw_1 : decode b_P_draw 1 = .ok (.getfield 9, 3) := by decide +kernel
theorem d_P_draw_4 : decode b_P_draw 4 = .ok (.iconst 0, 1) := by decide +kernel
theorem d_P_draw_5 : decode b_P_draw 5 = .ok (.invokestatic 15, 3) := by decide +kernel
theorem d_P_draw_8 : decode b_P_draw 8 = .ok (.aload_n 1, 1) := by decide +kernel
theorem d_P_draw_9 : decode b_P_draw 9 = .ok (.iload_n 3, 1) := by decide +kernel
theorem d_P_draw_10 : decode b_P_draw 10 = .ok (.aaload, 1) := by decide +kernel
theorem d_P_draw_11 : decode b_P_draw 11 = .ok (.astore 4, 2) := by decide +kernel
theorem d_P_draw_13 : decode b_P_draw 13 = .ok (.aload 4, 2) := by decide +kernel
theorem d_P_draw_15 : decode b_P_draw 15 = .ok (.getfield 21, 3) := by decide +kernel
theorem d_P_draw_18 : decode b_P_draw 18 = .ok (.istore 5, 2) := by decide +kernel
theorem d_P_draw_20 : decode b_P_draw 20 = .ok (.iload 5, 2) := by decide +kernel
theorem d_P_draw_22 : decode b_P_draw 22 = .ok (.iconst 4, 1) := by decide +kernel
theorem d_P_draw_23 : decode b_P_draw 23 = .ok (.if_icmp .ge (90), 3) := by decide +kernel
theorem d_P_draw_26 : decode b_P_draw 26 = .ok (.aload 4, 2) := by decide +kernel
theorem d_P_draw_28 : decode b_P_draw 28 = .ok (.iload 5, 2) := by decide +kernel
theorem d_P_draw_30 : decode b_P_draw 30 = .ok (.invokestatic 27, 3) := by decide +kernel
theorem d_P_draw_33 : decode b_P_draw 33 = .ok (.istore 6, 2) := by decide +kernel
theorem d_P_draw_35 : decode b_P_draw 35 = .ok (.iload 6, 2) := by decide +kernel
theorem d_P_draw_37 : decode b_P_draw 37 = .ok (.iconst (-1), 1) := by decide +kernel
theorem d_P_draw_38 : decode b_P_draw 38 = .ok (.if_icmp .ne (6), 3) := by decide +kernel
theorem d_P_draw_41 : decode b_P_draw 41 = .ok (.goto (66), 3) := by decide +kernel
theorem d_P_draw_44 : decode b_P_draw 44 = .ok (.aload 4, 2) := by decide +kernel
theorem d_P_draw_46 : decode b_P_draw 46 = .ok (.iload 6, 2) := by decide +kernel
theorem d_P_draw_48 : decode b_P_draw 48 = .ok (.invokevirtual 31, 3) := by decide +kernel
theorem d_P_draw_51 : decode b_P_draw 51 = .ok (.istore 7, 2) := by decide +kernel
theorem d_P_draw_53 : decode b_P_draw 53 = .ok (.aload_n 1, 1) := by decide +kernel
theorem d_P_draw_54 : decode b_P_draw 54 = .ok (.iload_n 3, 1) := by decide +kernel
theorem d_P_draw_55 : decode b_P_draw 55 = .ok (.iload 5, 2) := by decide +kernel
theorem d_P_draw_57 : decode b_P_draw 57 = .ok (.invokestatic 35, 3) := by decide +kernel
theorem d_P_draw_60 : decode b_P_draw 60 = .ok (.ifCond .eq (28), 3) := by decide +kernel
theorem d_P_draw_63 : decode b_P_draw 63 = .ok (.aload 4, 2) := by decide +kernel
theorem d_P_draw_65 : decode b_P_draw 65 = .ok (.iload 5, 2) := by decide +kernel
theorem d_P_draw_67 : decode b_P_draw 67 = .ok (.iload 7, 2) := by decide +kernel
theorem d_P_draw_69 : decode b_P_draw 69 = .ok (.invokestatic 39, 3) := by decide +kernel
theorem d_P_draw_72 : decode b_P_draw 72 = .ok (.ifCond .eq (16), 3) := by decide +kernel
theorem d_P_draw_75 : decode b_P_draw 75 = .ok (.aload_n 0, 1) := by decide +kernel
theorem d_P_draw_76 : decode b_P_draw 76 = .ok (.aload 4, 2) := by decide +kernel
theorem d_P_draw_78 : decode b_P_draw 78 = .ok (.iload 5, 2) := by decide +kernel
theorem d_P_draw_80 : decode b_P_draw 80 = .ok (.iload 6, 2) := by decide +kernel
theorem d_P_draw_82 : decode b_P_draw 82 = .ok (.invokevirtual 43, 3) := by decide +kernel
theorem d_P_draw_85 : decode b_P_draw 85 = .ok (.goto (22), 3) := by decide +kernel
theorem d_P_draw_88 : decode b_P_draw 88 = .ok (.aload_n 2, 1) := by decide +kernel
theorem d_P_draw_89 : decode b_P_draw 89 = .ok (.iload 6, 2) := by decide +kernel
theorem d_P_draw_91 : decode b_P_draw 91 = .ok (.invokevirtual 47, 3) := by decide +kernel
theorem d_P_draw_94 : decode b_P_draw 94 = .ok (.ifCond .ne (13), 3) := by decide +kernel
theorem d_P_draw_97 : decode b_P_draw 97 = .ok (.aload_n 0, 1) := by decide +kernel
theorem d_P_draw_98 : decode b_P_draw 98 = .ok (.aload 4, 2) := by decide +kernel
theorem d_P_draw_100 : decode b_P_draw 100 = .ok (.iload 5, 2) := by decide +kernel
theorem d_P_draw_102 : decode b_P_draw 102 = .ok (.iload 7, 2) := by decide +kernel
theorem d_P_draw_104 : decode b_P_draw 104 = .ok (.invokevirtual 52, 3) := by decide +kernel
theorem d_P_draw_107 : decode b_P_draw 107 = .ok (.iinc 5 (1), 3) := by decide +kernel
theorem d_P_draw_110 : decode b_P_draw 110 = .ok (.goto (-90), 3) := by decide +kernel
theorem d_P_draw_113 : decode b_P_draw 113 = .ok (.return_, 1) := by decide +kernel
theorem d_P_soleNew_0 : decode b_P_soleNew 0 = .ok (.iconst (-1), 1) := by decide +kernel
theorem d_P_soleNew_1 : decode b_P_soleNew 1 = .ok (.istore_n 2, 1) := by decide +kernel
theorem d_P_soleNew_2 : decode b_P_soleNew 2 = .ok (.iconst 0, 1) := by decide +kernel
theorem d_P_soleNew_3 : decode b_P_soleNew 3 = .ok (.istore_n 3, 1) := by decide +kernel
theorem d_P_soleNew_4 : decode b_P_soleNew 4 = .ok (.iload_n 3, 1) := by decide +kernel
theorem d_P_soleNew_5 : decode b_P_soleNew 5 = .ok (.aload_n 0, 1) := by decide +kernel
theorem d_P_soleNew_6 : decode b_P_soleNew 6 = .ok (.getfield 55, 3) := by decide +kernel
theorem d_P_soleNew_9 : decode b_P_soleNew 9 = .ok (.if_icmp .ge (39), 3) := by decide +kernel
theorem d_P_soleNew_12 : decode b_P_soleNew 12 = .ok (.aload_n 0, 1) := by decide +kernel
theorem d_P_soleNew_13 : decode b_P_soleNew 13 = .ok (.iload_n 3, 1) := by decide +kernel
theorem d_P_soleNew_14 : decode b_P_soleNew 14 = .ok (.iload_n 1, 1) := by decide +kernel
theorem d_P_soleNew_15 : decode b_P_soleNew 15 = .ok (.invokevirtual 58, 3) := by decide +kernel
theorem d_P_soleNew_18 : decode b_P_soleNew 18 = .ok (.ifCond .ne (6), 3) := by decide +kernel
theorem d_P_soleNew_21 : decode b_P_soleNew 21 = .ok (.goto (21), 3) := by decide +kernel
theorem d_P_soleNew_24 : decode b_P_soleNew 24 = .ok (.aload_n 0, 1) := by decide +kernel
theorem d_P_soleNew_25 : decode b_P_soleNew 25 = .ok (.getfield 62, 3) := by decide +kernel
theorem d_P_soleNew_28 : decode b_P_soleNew 28 = .ok (.iload_n 3, 1) := by decide +kernel
theorem d_P_soleNew_29 : decode b_P_soleNew 29 = .ok (.iaload, 1) := by decide +kernel
theorem d_P_soleNew_30 : decode b_P_soleNew 30 = .ok (.ifCond .ne (8), 3) := by decide +kernel
theorem d_P_soleNew_33 : decode b_P_soleNew 33 = .ok (.iload_n 2, 1) := by decide +kernel
theorem d_P_soleNew_34 : decode b_P_soleNew 34 = .ok (.iconst (-1), 1) := by decide +kernel
theorem d_P_soleNew_35 : decode b_P_soleNew 35 = .ok (.if_icmp .eq (5), 3) := by decide +kernel
theorem d_P_soleNew_38 : decode b_P_soleNew 38 = .ok (.iconst (-1), 1) := by decide +kernel
theorem d_P_soleNew_39 : decode b_P_soleNew 39 = .ok (.ireturn, 1) := by decide +kernel
theorem d_P_soleNew_40 : decode b_P_soleNew 40 = .ok (.iload_n 3, 1) := by decide +kernel
theorem d_P_soleNew_41 : decode b_P_soleNew 41 = .ok (.istore_n 2, 1) := by decide +kernel
theorem d_P_soleNew_42 : decode b_P_soleNew 42 = .ok (.iinc 3 (1), 3) := by decide +kernel
theorem d_P_soleNew_45 : decode b_P_soleNew 45 = .ok (.goto (-41), 3) := by decide +kernel
theorem d_P_soleNew_48 : decode b_P_soleNew 48 = .ok (.iload_n 2, 1) := by decide +kernel
theorem d_P_soleNew_49 : decode b_P_soleNew 49 = .ok (.ireturn, 1) := by decide +kernel
theorem d_C_defines_0 : decode b_C_defines 0 = .ok (.aload_n 0, 1) := by decide +kernel
theorem d_C_defines_1 : decode b_C_defines 1 = .ok (.getfield 9, 3) := by decide +kernel
theorem d_C_defines_4 : decode b_C_defines 4 = .ok (.iload_n 1, 1) := by decide +kernel
theorem d_C_defines_5 : decode b_C_defines 5 = .ok (.iaload, 1) := by decide +kernel
theorem d_C_defines_6 : decode b_C_defines 6 = .ok (.tableswitch (98) (0) (16) #[82, 82, 82, 82, 98, 98, 98, 98, 98, 98, 98, 98, 98, 82, 98, 98, 82], 82) := by decide +kernel
theorem d_C_defines_88 : decode b_C_defines 88 = .ok (.aload_n 0, 1) := by decide +kernel
theorem d_C_defines_89 : decode b_C_defines 89 = .ok (.getfield 15, 3) := by decide +kernel
theorem d_C_defines_92 : decode b_C_defines 92 = .ok (.iload_n 1, 1) := by decide +kernel
theorem d_C_defines_93 : decode b_C_defines 93 = .ok (.iaload, 1) := by decide +kernel
theorem d_C_defines_94 : decode b_C_defines 94 = .ok (.iload_n 2, 1) := by decide +kernel
theorem d_C_defines_95 : decode b_C_defines 95 = .ok (.if_icmp .ne (7), 3) := by decide +kernel
theorem d_C_defines_98 : decode b_C_defines 98 = .ok (.iconst 1, 1) := by decide +kernel
theorem d_C_defines_99 : decode b_C_defines 99 = .ok (.goto (4), 3) := by decide +kernel
theorem d_C_defines_102 : decode b_C_defines 102 = .ok (.iconst 0, 1) := by decide +kernel
theorem d_C_defines_103 : decode b_C_defines 103 = .ok (.ireturn, 1) := by decide +kernel
theorem d_C_defines_104 : decode b_C_defines 104 = .ok (.iconst 0, 1) := by decide +kernel
theorem d_C_defines_105 : decode b_C_defines 105 = .ok (.ireturn, 1) := by decide +kernel
theorem d_C_reachedWithout_0 : decode b_C_reachedWithout 0 = .ok (.iconst 1, 1) := by decide +kernel
theorem d_C_reachedWithout_1 : decode b_C_reachedWithout 1 = .ok (.iload_n 1, 1) := by decide +kernel
theorem d_C_reachedWithout_2 : decode b_C_reachedWithout 2 = .ok (.ishl, 1) := by decide +kernel
theorem d_C_reachedWithout_3 : decode b_C_reachedWithout 3 = .ok (.iconst (-1), 1) := by decide +kernel
theorem d_C_reachedWithout_4 : decode b_C_reachedWithout 4 = .ok (.ixor, 1) := by decide +kernel
theorem d_C_reachedWithout_5 : decode b_C_reachedWithout 5 = .ok (.istore_n 2, 1) := by decide +kernel
theorem d_C_reachedWithout_6 : decode b_C_reachedWithout 6 = .ok (.aload_n 0, 1) := by decide +kernel
theorem d_C_reachedWithout_7 : decode b_C_reachedWithout 7 = .ok (.iconst 0, 1) := by decide +kernel
theorem d_C_reachedWithout_8 : decode b_C_reachedWithout 8 = .ok (.invokevirtual 34, 3) := by decide +kernel
theorem d_C_reachedWithout_11 : decode b_C_reachedWithout 11 = .ok (.iload_n 2, 1) := by decide +kernel
theorem d_C_reachedWithout_12 : decode b_C_reachedWithout 12 = .ok (.iand, 1) := by decide +kernel
theorem d_C_reachedWithout_13 : decode b_C_reachedWithout 13 = .ok (.istore_n 3, 1) := by decide +kernel
theorem d_C_reachedWithout_14 : decode b_C_reachedWithout 14 = .ok (.iconst 0, 1) := by decide +kernel
theorem d_C_reachedWithout_15 : decode b_C_reachedWithout 15 = .ok (.istore 4, 2) := by decide +kernel
theorem d_C_reachedWithout_17 : decode b_C_reachedWithout 17 = .ok (.iload 4, 2) := by decide +kernel
theorem d_C_reachedWithout_19 : decode b_C_reachedWithout 19 = .ok (.bipush (24), 2) := by decide +kernel
theorem d_C_reachedWithout_21 : decode b_C_reachedWithout 21 = .ok (.if_icmp .ge (32), 3) := by decide +kernel
theorem d_C_reachedWithout_24 : decode b_C_reachedWithout 24 = .ok (.iload_n 3, 1) := by decide +kernel
theorem d_C_reachedWithout_25 : decode b_C_reachedWithout 25 = .ok (.aload_n 0, 1) := by decide +kernel
theorem d_C_reachedWithout_26 : decode b_C_reachedWithout 26 = .ok (.iload_n 3, 1) := by decide +kernel
theorem d_C_reachedWithout_27 : decode b_C_reachedWithout 27 = .ok (.invokevirtual 38, 3) := by decide +kernel
theorem d_C_reachedWithout_30 : decode b_C_reachedWithout 30 = .ok (.ior, 1) := by decide +kernel
theorem d_C_reachedWithout_31 : decode b_C_reachedWithout 31 = .ok (.iload_n 2, 1) := by decide +kernel
theorem d_C_reachedWithout_32 : decode b_C_reachedWithout 32 = .ok (.iand, 1) := by decide +kernel
theorem d_C_reachedWithout_33 : decode b_C_reachedWithout 33 = .ok (.istore 5, 2) := by decide +kernel
theorem d_C_reachedWithout_35 : decode b_C_reachedWithout 35 = .ok (.iload 5, 2) := by decide +kernel
theorem d_C_reachedWithout_37 : decode b_C_reachedWithout 37 = .ok (.iload_n 3, 1) := by decide +kernel
theorem d_C_reachedWithout_38 : decode b_C_reachedWithout 38 = .ok (.if_icmp .ne (6), 3) := by decide +kernel
theorem d_C_reachedWithout_41 : decode b_C_reachedWithout 41 = .ok (.goto (12), 3) := by decide +kernel
theorem d_C_reachedWithout_44 : decode b_C_reachedWithout 44 = .ok (.iload 5, 2) := by decide +kernel
theorem d_C_reachedWithout_46 : decode b_C_reachedWithout 46 = .ok (.istore_n 3, 1) := by decide +kernel
theorem d_C_reachedWithout_47 : decode b_C_reachedWithout 47 = .ok (.iinc 4 (1), 3) := by decide +kernel
theorem d_C_reachedWithout_50 : decode b_C_reachedWithout 50 = .ok (.goto (-33), 3) := by decide +kernel
theorem d_C_reachedWithout_53 : decode b_C_reachedWithout 53 = .ok (.iload_n 3, 1) := by decide +kernel
theorem d_C_reachedWithout_54 : decode b_C_reachedWithout 54 = .ok (.ireturn, 1) := by decide +kernel
theorem d_C_bit_0 : decode b_C_bit 0 = .ok (.aload_n 0, 1) := by decide +kernel
theorem d_C_bit_1 : decode b_C_bit 1 = .ok (.iload_n 1, 1) := by decide +kernel
theorem d_C_bit_2 : decode b_C_bit 2 = .ok (.invokevirtual 45, 3) := by decide +kernel
theorem d_C_bit_5 : decode b_C_bit 5 = .ok (.ifCond .eq (9), 3) := by decide +kernel
theorem d_C_bit_8 : decode b_C_bit 8 = .ok (.iconst 1, 1) := by decide +kernel
theorem d_C_bit_9 : decode b_C_bit 9 = .ok (.iload_n 1, 1) := by decide +kernel
theorem d_C_bit_10 : decode b_C_bit 10 = .ok (.ishl, 1) := by decide +kernel
theorem d_C_bit_11 : decode b_C_bit 11 = .ok (.goto (4), 3) := by decide +kernel
theorem d_C_bit_14 : decode b_C_bit 14 = .ok (.iconst 0, 1) := by decide +kernel
theorem d_C_bit_15 : decode b_C_bit 15 = .ok (.ireturn, 1) := by decide +kernel
theorem d_C_has_0 : decode b_C_has 0 = .ok (.iload_n 1, 1) := by decide +kernel
theorem d_C_has_1 : decode b_C_has 1 = .ok (.ifCond .lt (15), 3) := by decide +kernel
theorem d_C_has_4 : decode b_C_has 4 = .ok (.iload_n 1, 1) := by decide +kernel
theorem d_C_has_5 : decode b_C_has 5 = .ok (.aload_n 0, 1) := by decide +kernel
theorem d_C_has_6 : decode b_C_has 6 = .ok (.getfield 27, 3) := by decide +kernel
theorem d_C_has_9 : decode b_C_has 9 = .ok (.if_icmp .ge (7), 3) := by decide +kernel
theorem d_C_has_12 : decode b_C_has 12 = .ok (.iconst 1, 1) := by decide +kernel
theorem d_C_has_13 : decode b_C_has 13 = .ok (.goto (4), 3) := by decide +kernel
theorem d_C_has_16 : decode b_C_has 16 = .ok (.iconst 0, 1) := by decide +kernel
theorem d_C_has_17 : decode b_C_has 17 = .ok (.ireturn, 1) := by decide +kernel
theorem d_C_behind_0 : decode b_C_behind 0 = .ok (.iconst 0, 1) := by decide +kernel
theorem d_C_behind_1 : decode b_C_behind 1 = .ok (.istore_n 2, 1) := by decide +kernel
theorem d_C_behind_2 : decode b_C_behind 2 = .ok (.iconst 0, 1) := by decide +kernel
theorem d_C_behind_3 : decode b_C_behind 3 = .ok (.istore_n 3, 1) := by decide +kernel
theorem d_C_behind_4 : decode b_C_behind 4 = .ok (.iload_n 3, 1) := by decide +kernel
theorem d_C_behind_5 : decode b_C_behind 5 = .ok (.aload_n 0, 1) := by decide +kernel
theorem d_C_behind_6 : decode b_C_behind 6 = .ok (.getfield 27, 3) := by decide +kernel
theorem d_C_behind_9 : decode b_C_behind 9 = .ok (.if_icmp .ge (73), 3) := by decide +kernel
theorem d_C_behind_12 : decode b_C_behind 12 = .ok (.iload_n 1, 1) := by decide +kernel
theorem d_C_behind_13 : decode b_C_behind 13 = .ok (.iload_n 3, 1) := by decide +kernel
theorem d_C_behind_14 : decode b_C_behind 14 = .ok (.ishr, 1) := by decide +kernel
theorem d_C_behind_15 : decode b_C_behind 15 = .ok (.iconst 1, 1) := by decide +kernel
theorem d_C_behind_16 : decode b_C_behind 16 = .ok (.iand, 1) := by decide +kernel
theorem d_C_behind_17 : decode b_C_behind 17 = .ok (.ifCond .ne (6), 3) := by decide +kernel
theorem d_C_behind_20 : decode b_C_behind 20 = .ok (.goto (56), 3) := by decide +kernel
theorem d_C_behind_23 : decode b_C_behind 23 = .ok (.aload_n 0, 1) := by decide +kernel
theorem d_C_behind_24 : decode b_C_behind 24 = .ok (.getfield 9, 3) := by decide +kernel
theorem d_C_behind_27 : decode b_C_behind 27 = .ok (.iload_n 3, 1) := by decide +kernel
theorem d_C_behind_28 : decode b_C_behind 28 = .ok (.iaload, 1) := by decide +kernel
theorem d_C_behind_29 : decode b_C_behind 29 = .ok (.bipush (14), 2) := by decide +kernel
theorem d_C_behind_31 : decode b_C_behind 31 = .ok (.if_icmp .eq (24), 3) := by decide +kernel
theorem d_C_behind_34 : decode b_C_behind 34 = .ok (.aload_n 0, 1) := by decide +kernel
theorem d_C_behind_35 : decode b_C_behind 35 = .ok (.getfield 9, 3) := by decide +kernel
theorem d_C_behind_38 : decode b_C_behind 38 = .ok (.iload_n 3, 1) := by decide +kernel
theorem d_C_behind_39 : decode b_C_behind 39 = .ok (.iaload, 1) := by decide +kernel
theorem d_C_behind_40 : decode b_C_behind 40 = .ok (.bipush (17), 2) := by decide +kernel
theorem d_C_behind_42 : decode b_C_behind 42 = .ok (.if_icmp .eq (13), 3) := by decide +kernel
theorem d_C_behind_45 : decode b_C_behind 45 = .ok (.iload_n 2, 1) := by decide +kernel
theorem d_C_behind_46 : decode b_C_behind 46 = .ok (.aload_n 0, 1) := by decide +kernel
theorem d_C_behind_47 : decode b_C_behind 47 = .ok (.iload_n 3, 1) := by decide +kernel
theorem d_C_behind_48 : decode b_C_behind 48 = .ok (.iconst 1, 1) := by decide +kernel
theorem d_C_behind_49 : decode b_C_behind 49 = .ok (.iadd, 1) := by decide +kernel
theorem d_C_behind_50 : decode b_C_behind 50 = .ok (.invokevirtual 34, 3) := by decide +kernel
theorem d_C_behind_53 : decode b_C_behind 53 = .ok (.ior, 1) := by decide +kernel
theorem d_C_behind_54 : decode b_C_behind 54 = .ok (.istore_n 2, 1) := by decide +kernel
theorem d_C_behind_55 : decode b_C_behind 55 = .ok (.aload_n 0, 1) := by decide +kernel
theorem d_C_behind_56 : decode b_C_behind 56 = .ok (.iload_n 3, 1) := by decide +kernel
theorem d_C_behind_57 : decode b_C_behind 57 = .ok (.invokevirtual 41, 3) := by decide +kernel
theorem d_C_behind_60 : decode b_C_behind 60 = .ok (.ifCond .eq (16), 3) := by decide +kernel
theorem d_C_behind_63 : decode b_C_behind 63 = .ok (.iload_n 2, 1) := by decide +kernel
theorem d_C_behind_64 : decode b_C_behind 64 = .ok (.aload_n 0, 1) := by decide +kernel
theorem d_C_behind_65 : decode b_C_behind 65 = .ok (.aload_n 0, 1) := by decide +kernel
theorem d_C_behind_66 : decode b_C_behind 66 = .ok (.getfield 24, 3) := by decide +kernel
theorem d_C_behind_69 : decode b_C_behind 69 = .ok (.iload_n 3, 1) := by decide +kernel
theorem d_C_behind_70 : decode b_C_behind 70 = .ok (.iaload, 1) := by decide +kernel
theorem d_C_behind_71 : decode b_C_behind 71 = .ok (.invokevirtual 34, 3) := by decide +kernel
theorem d_C_behind_74 : decode b_C_behind 74 = .ok (.ior, 1) := by decide +kernel
theorem d_C_behind_75 : decode b_C_behind 75 = .ok (.istore_n 2, 1) := by decide +kernel
theorem d_C_behind_76 : decode b_C_behind 76 = .ok (.iinc 3 (1), 3) := by decide +kernel
theorem d_C_behind_79 : decode b_C_behind 79 = .ok (.goto (-75), 3) := by decide +kernel
theorem d_C_behind_82 : decode b_C_behind 82 = .ok (.iload_n 2, 1) := by decide +kernel
theorem d_C_behind_83 : decode b_C_behind 83 = .ok (.ireturn, 1) := by decide +kernel
theorem d_C_jumps_0 : decode b_C_jumps 0 = .ok (.aload_n 0, 1) := by decide +kernel
theorem d_C_jumps_1 : decode b_C_jumps 1 = .ok (.getfield 9, 3) := by decide +kernel
theorem d_C_jumps_4 : decode b_C_jumps 4 = .ok (.iload_n 1, 1) := by decide +kernel
theorem d_C_jumps_5 : decode b_C_jumps 5 = .ok (.iaload, 1) := by decide +kernel
theorem d_C_jumps_6 : decode b_C_jumps 6 = .ok (.bipush (14), 2) := by decide +kernel
theorem d_C_jumps_8 : decode b_C_jumps 8 = .ok (.if_icmp .eq (14), 3) := by decide +kernel
theorem d_C_jumps_11 : decode b_C_jumps 11 = .ok (.aload_n 0, 1) := by decide +kernel
theorem d_C_jumps_12 : decode b_C_jumps 12 = .ok (.getfield 9, 3) := by decide +kernel
theorem d_C_jumps_15 : decode b_C_jumps 15 = .ok (.iload_n 1, 1) := by decide +kernel
theorem d_C_jumps_16 : decode b_C_jumps 16 = .ok (.iaload, 1) := by decide +kernel
theorem d_C_jumps_17 : decode b_C_jumps 17 = .ok (.bipush (15), 2) := by decide +kernel
theorem d_C_jumps_19 : decode b_C_jumps 19 = .ok (.if_icmp .ne (7), 3) := by decide +kernel
theorem d_C_jumps_22 : decode b_C_jumps 22 = .ok (.iconst 1, 1) := by decide +kernel
theorem d_C_jumps_23 : decode b_C_jumps 23 = .ok (.goto (4), 3) := by decide +kernel
theorem d_C_jumps_26 : decode b_C_jumps 26 = .ok (.iconst 0, 1) := by decide +kernel
theorem d_C_jumps_27 : decode b_C_jumps 27 = .ok (.ireturn, 1) := by decide +kernel
theorem d_P_staysInside_0 : decode b_P_staysInside 0 = .ok (.aload_n 0, 1) := by decide +kernel
theorem d_P_staysInside_1 : decode b_P_staysInside 1 = .ok (.iload_n 1, 1) := by decide +kernel
theorem d_P_staysInside_2 : decode b_P_staysInside 2 = .ok (.aaload, 1) := by decide +kernel
theorem d_P_staysInside_3 : decode b_P_staysInside 3 = .ok (.astore_n 3, 1) := by decide +kernel
theorem d_P_staysInside_4 : decode b_P_staysInside 4 = .ok (.iconst 0, 1) := by decide +kernel
theorem d_P_staysInside_5 : decode b_P_staysInside 5 = .ok (.istore 4, 2) := by decide +kernel
theorem d_P_staysInside_7 : decode b_P_staysInside 7 = .ok (.iload 4, 2) := by decide +kernel
theorem d_P_staysInside_9 : decode b_P_staysInside 9 = .ok (.aload_n 3, 1) := by decide +kernel
theorem d_P_staysInside_10 : decode b_P_staysInside 10 = .ok (.getfield 55, 3) := by decide +kernel
theorem d_P_staysInside_13 : decode b_P_staysInside 13 = .ok (.if_icmp .ge (53), 3) := by decide +kernel
theorem d_P_staysInside_16 : decode b_P_staysInside 16 = .ok (.aload_n 3, 1) := by decide +kernel
theorem d_P_staysInside_17 : decode b_P_staysInside 17 = .ok (.getfield 62, 3) := by decide +kernel
theorem d_P_staysInside_20 : decode b_P_staysInside 20 = .ok (.iload 4, 2) := by decide +kernel
theorem d_P_staysInside_22 : decode b_P_staysInside 22 = .ok (.iaload, 1) := by decide +kernel
theorem d_P_staysInside_23 : decode b_P_staysInside 23 = .ok (.bipush (16), 2) := by decide +kernel
theorem d_P_staysInside_25 : decode b_P_staysInside 25 = .ok (.if_icmp .ne (18), 3) := by decide +kernel
theorem d_P_staysInside_28 : decode b_P_staysInside 28 = .ok (.aload_n 0, 1) := by decide +kernel
theorem d_P_staysInside_29 : decode b_P_staysInside 29 = .ok (.aload_n 3, 1) := by decide +kernel
theorem d_P_staysInside_30 : decode b_P_staysInside 30 = .ok (.getfield 65, 3) := by decide +kernel
theorem d_P_staysInside_33 : decode b_P_staysInside 33 = .ok (.iload 4, 2) := by decide +kernel
theorem d_P_staysInside_35 : decode b_P_staysInside 35 = .ok (.iaload, 1) := by decide +kernel
theorem d_P_staysInside_36 : decode b_P_staysInside 36 = .ok (.aaload, 1) := by decide +kernel
theorem d_P_staysInside_37 : decode b_P_staysInside 37 = .ok (.getfield 21, 3) := by decide +kernel
theorem d_P_staysInside_40 : decode b_P_staysInside 40 = .ok (.goto (4), 3) := by decide +kernel
theorem d_P_staysInside_43 : decode b_P_staysInside 43 = .ok (.iconst 0, 1) := by decide +kernel
theorem d_P_staysInside_44 : decode b_P_staysInside 44 = .ok (.istore 5, 2) := by decide +kernel
theorem d_P_staysInside_46 : decode b_P_staysInside 46 = .ok (.aload_n 3, 1) := by decide +kernel
theorem d_P_staysInside_47 : decode b_P_staysInside 47 = .ok (.iload 4, 2) := by decide +kernel
theorem d_P_staysInside_49 : decode b_P_staysInside 49 = .ok (.iload_n 2, 1) := by decide +kernel
theorem d_P_staysInside_50 : decode b_P_staysInside 50 = .ok (.iload 5, 2) := by decide +kernel
theorem d_P_staysInside_52 : decode b_P_staysInside 52 = .ok (.invokevirtual 68, 3) := by decide +kernel
theorem d_P_staysInside_55 : decode b_P_staysInside 55 = .ok (.ifCond .eq (5), 3) := by decide +kernel
theorem d_P_staysInside_58 : decode b_P_staysInside 58 = .ok (.iconst 0, 1) := by decide +kernel
theorem d_P_staysInside_59 : decode b_P_staysInside 59 = .ok (.ireturn, 1) := by decide +kernel
theorem d_P_staysInside_60 : decode b_P_staysInside 60 = .ok (.iinc 4 (1), 3) := by decide +kernel
theorem d_P_staysInside_63 : decode b_P_staysInside 63 = .ok (.goto (-56), 3) := by decide +kernel
theorem d_P_staysInside_66 : decode b_P_staysInside 66 = .ok (.iconst 1, 1) := by decide +kernel
theorem d_P_staysInside_67 : decode b_P_staysInside 67 = .ok (.ireturn, 1) := by decide +kernel
theorem d_C_handsOn_0 : decode b_C_handsOn 0 = .ok (.aload_n 0, 1) := by decide +kernel
theorem d_C_handsOn_1 : decode b_C_handsOn 1 = .ok (.getfield 9, 3) := by decide +kernel
theorem d_C_handsOn_4 : decode b_C_handsOn 4 = .ok (.iload_n 1, 1) := by decide +kernel
theorem d_C_handsOn_5 : decode b_C_handsOn 5 = .ok (.iaload, 1) := by decide +kernel
theorem d_C_handsOn_6 : decode b_C_handsOn 6 = .ok (.lookupswitch (118) #[(1, 50), (4, 50), (12, 66), (16, 82), (17, 66)], 50) := by decide +kernel
theorem d_C_handsOn_56 : decode b_C_handsOn 56 = .ok (.aload_n 0, 1) := by decide +kernel
theorem d_C_handsOn_57 : decode b_C_handsOn 57 = .ok (.getfield 18, 3) := by decide +kernel
theorem d_C_handsOn_60 : decode b_C_handsOn 60 = .ok (.iload_n 1, 1) := by decide +kernel
theorem d_C_handsOn_61 : decode b_C_handsOn 61 = .ok (.iaload, 1) := by decide +kernel
theorem d_C_handsOn_62 : decode b_C_handsOn 62 = .ok (.iload_n 2, 1) := by decide +kernel
theorem d_C_handsOn_63 : decode b_C_handsOn 63 = .ok (.if_icmp .ne (7), 3) := by decide +kernel
theorem d_C_handsOn_66 : decode b_C_handsOn 66 = .ok (.iconst 1, 1) := by decide +kernel
theorem d_C_handsOn_67 : decode b_C_handsOn 67 = .ok (.goto (4), 3) := by decide +kernel
theorem d_C_handsOn_70 : decode b_C_handsOn 70 = .ok (.iconst 0, 1) := by decide +kernel
theorem d_C_handsOn_71 : decode b_C_handsOn 71 = .ok (.ireturn, 1) := by decide +kernel
theorem d_C_handsOn_72 : decode b_C_handsOn 72 = .ok (.aload_n 0, 1) := by decide +kernel
theorem d_C_handsOn_73 : decode b_C_handsOn 73 = .ok (.getfield 15, 3) := by decide +kernel
theorem d_C_handsOn_76 : decode b_C_handsOn 76 = .ok (.iload_n 1, 1) := by decide +kernel
theorem d_C_handsOn_77 : decode b_C_handsOn 77 = .ok (.iaload, 1) := by decide +kernel
theorem d_C_handsOn_78 : decode b_C_handsOn 78 = .ok (.iload_n 2, 1) := by decide +kernel
theorem d_C_handsOn_79 : decode b_C_handsOn 79 = .ok (.if_icmp .ne (7), 3) := by decide +kernel
theorem d_C_handsOn_82 : decode b_C_handsOn 82 = .ok (.iconst 1, 1) := by decide +kernel
theorem d_C_handsOn_83 : decode b_C_handsOn 83 = .ok (.goto (4), 3) := by decide +kernel
theorem d_C_handsOn_86 : decode b_C_handsOn 86 = .ok (.iconst 0, 1) := by decide +kernel
theorem d_C_handsOn_87 : decode b_C_handsOn 87 = .ok (.ireturn, 1) := by decide +kernel
theorem d_C_handsOn_88 : decode b_C_handsOn 88 = .ok (.iload_n 3, 1) := by decide +kernel
theorem d_C_handsOn_89 : decode b_C_handsOn 89 = .ok (.iconst 1, 1) := by decide +kernel
theorem d_C_handsOn_90 : decode b_C_handsOn 90 = .ok (.if_icmp .lt (13), 3) := by decide +kernel
theorem d_C_handsOn_93 : decode b_C_handsOn 93 = .ok (.aload_n 0, 1) := by decide +kernel
theorem d_C_handsOn_94 : decode b_C_handsOn 94 = .ok (.getfield 18, 3) := by decide +kernel
theorem d_C_handsOn_97 : decode b_C_handsOn 97 = .ok (.iload_n 1, 1) := by decide +kernel
theorem d_C_handsOn_98 : decode b_C_handsOn 98 = .ok (.iaload, 1) := by decide +kernel
theorem d_C_handsOn_99 : decode b_C_handsOn 99 = .ok (.iload_n 2, 1) := by decide +kernel
theorem d_C_handsOn_100 : decode b_C_handsOn 100 = .ok (.if_icmp .eq (18), 3) := by decide +kernel
theorem d_C_handsOn_103 : decode b_C_handsOn 103 = .ok (.iload_n 3, 1) := by decide +kernel
theorem d_C_handsOn_104 : decode b_C_handsOn 104 = .ok (.iconst 2, 1) := by decide +kernel
theorem d_C_handsOn_105 : decode b_C_handsOn 105 = .ok (.if_icmp .lt (17), 3) := by decide +kernel
theorem d_C_handsOn_108 : decode b_C_handsOn 108 = .ok (.aload_n 0, 1) := by decide +kernel
theorem d_C_handsOn_109 : decode b_C_handsOn 109 = .ok (.getfield 21, 3) := by decide +kernel
theorem d_C_handsOn_112 : decode b_C_handsOn 112 = .ok (.iload_n 1, 1) := by decide +kernel
theorem d_C_handsOn_113 : decode b_C_handsOn 113 = .ok (.iaload, 1) := by decide +kernel
theorem d_C_handsOn_114 : decode b_C_handsOn 114 = .ok (.iload_n 2, 1) := by decide +kernel
theorem d_C_handsOn_115 : decode b_C_handsOn 115 = .ok (.if_icmp .ne (7), 3) := by decide +kernel
theorem d_C_handsOn_118 : decode b_C_handsOn 118 = .ok (.iconst 1, 1) := by decide +kernel
theorem d_C_handsOn_119 : decode b_C_handsOn 119 = .ok (.goto (4), 3) := by decide +kernel
theorem d_C_handsOn_122 : decode b_C_handsOn 122 = .ok (.iconst 0, 1) := by decide +kernel
theorem d_C_handsOn_123 : decode b_C_handsOn 123 = .ok (.ireturn, 1) := by decide +kernel
theorem d_C_handsOn_124 : decode b_C_handsOn 124 = .ok (.iconst 0, 1) := by decide +kernel
theorem d_C_handsOn_125 : decode b_C_handsOn 125 = .ok (.ireturn, 1) := by decide +kernel
theorem d_P_isMadeFirst_0 : decode b_P_isMadeFirst 0 = .ok (.iconst 0, 1) := by decide +kernel
theorem d_P_isMadeFirst_1 : decode b_P_isMadeFirst 1 = .ok (.istore_n 3, 1) := by decide +kernel
theorem d_P_isMadeFirst_2 : decode b_P_isMadeFirst 2 = .ok (.iload_n 3, 1) := by decide +kernel
theorem d_P_isMadeFirst_3 : decode b_P_isMadeFirst 3 = .ok (.aload_n 0, 1) := by decide +kernel
theorem d_P_isMadeFirst_4 : decode b_P_isMadeFirst 4 = .ok (.getfield 55, 3) := by decide +kernel
theorem d_P_isMadeFirst_7 : decode b_P_isMadeFirst 7 = .ok (.if_icmp .ge (29), 3) := by decide +kernel
theorem d_P_isMadeFirst_10 : decode b_P_isMadeFirst 10 = .ok (.aload_n 0, 1) := by decide +kernel
theorem d_P_isMadeFirst_11 : decode b_P_isMadeFirst 11 = .ok (.iload_n 3, 1) := by decide +kernel
theorem d_P_isMadeFirst_12 : decode b_P_isMadeFirst 12 = .ok (.iload_n 1, 1) := by decide +kernel
theorem d_P_isMadeFirst_13 : decode b_P_isMadeFirst 13 = .ok (.invokevirtual 72, 3) := by decide +kernel
theorem d_P_isMadeFirst_16 : decode b_P_isMadeFirst 16 = .ok (.ifCond .eq (14), 3) := by decide +kernel
theorem d_P_isMadeFirst_19 : decode b_P_isMadeFirst 19 = .ok (.iload_n 2, 1) := by decide +kernel
theorem d_P_isMadeFirst_20 : decode b_P_isMadeFirst 20 = .ok (.iload_n 3, 1) := by decide +kernel
theorem d_P_isMadeFirst_21 : decode b_P_isMadeFirst 21 = .ok (.ishr, 1) := by decide +kernel
theorem d_P_isMadeFirst_22 : decode b_P_isMadeFirst 22 = .ok (.iconst 1, 1) := by decide +kernel
theorem d_P_isMadeFirst_23 : decode b_P_isMadeFirst 23 = .ok (.iand, 1) := by decide +kernel
theorem d_P_isMadeFirst_24 : decode b_P_isMadeFirst 24 = .ok (.iconst 1, 1) := by decide +kernel
theorem d_P_isMadeFirst_25 : decode b_P_isMadeFirst 25 = .ok (.if_icmp .ne (5), 3) := by decide +kernel
theorem d_P_isMadeFirst_28 : decode b_P_isMadeFirst 28 = .ok (.iconst 0, 1) := by decide +kernel
theorem d_P_isMadeFirst_29 : decode b_P_isMadeFirst 29 = .ok (.ireturn, 1) := by decide +kernel
theorem d_P_isMadeFirst_30 : decode b_P_isMadeFirst 30 = .ok (.iinc 3 (1), 3) := by decide +kernel
theorem d_P_isMadeFirst_33 : decode b_P_isMadeFirst 33 = .ok (.goto (-31), 3) := by decide +kernel
theorem d_P_isMadeFirst_36 : decode b_P_isMadeFirst 36 = .ok (.iconst 1, 1) := by decide +kernel
theorem d_P_isMadeFirst_37 : decode b_P_isMadeFirst 37 = .ok (.ireturn, 1) := by decide +kernel
theorem d_C_worksOn_0 : decode b_C_worksOn 0 = .ok (.aload_n 0, 1) := by decide +kernel
theorem d_C_worksOn_1 : decode b_C_worksOn 1 = .ok (.getfield 9, 3) := by decide +kernel
theorem d_C_worksOn_4 : decode b_C_worksOn 4 = .ok (.iload_n 1, 1) := by decide +kernel
theorem d_C_worksOn_5 : decode b_C_worksOn 5 = .ok (.iaload, 1) := by decide +kernel
theorem d_C_worksOn_6 : decode b_C_worksOn 6 = .ok (.tableswitch (108) (3) (11) #[50, 66, 50, 66, 108, 108, 82, 66, 66], 50) := by decide +kernel
theorem d_C_worksOn_56 : decode b_C_worksOn 56 = .ok (.aload_n 0, 1) := by decide +kernel
theorem d_C_worksOn_57 : decode b_C_worksOn 57 = .ok (.getfield 18, 3) := by decide +kernel
theorem d_C_worksOn_60 : decode b_C_worksOn 60 = .ok (.iload_n 1, 1) := by decide +kernel
theorem d_C_worksOn_61 : decode b_C_worksOn 61 = .ok (.iaload, 1) := by decide +kernel
theorem d_C_worksOn_62 : decode b_C_worksOn 62 = .ok (.iload_n 2, 1) := by decide +kernel
theorem d_C_worksOn_63 : decode b_C_worksOn 63 = .ok (.if_icmp .ne (7), 3) := by decide +kernel
theorem d_C_worksOn_66 : decode b_C_worksOn 66 = .ok (.iconst 1, 1) := by decide +kernel
theorem d_C_worksOn_67 : decode b_C_worksOn 67 = .ok (.goto (4), 3) := by decide +kernel
theorem d_C_worksOn_70 : decode b_C_worksOn 70 = .ok (.iconst 0, 1) := by decide +kernel
theorem d_C_worksOn_71 : decode b_C_worksOn 71 = .ok (.ireturn, 1) := by decide +kernel
theorem d_C_worksOn_72 : decode b_C_worksOn 72 = .ok (.aload_n 0, 1) := by decide +kernel
theorem d_C_worksOn_73 : decode b_C_worksOn 73 = .ok (.getfield 15, 3) := by decide +kernel
theorem d_C_worksOn_76 : decode b_C_worksOn 76 = .ok (.iload_n 1, 1) := by decide +kernel
theorem d_C_worksOn_77 : decode b_C_worksOn 77 = .ok (.iaload, 1) := by decide +kernel
theorem d_C_worksOn_78 : decode b_C_worksOn 78 = .ok (.iload_n 2, 1) := by decide +kernel
theorem d_C_worksOn_79 : decode b_C_worksOn 79 = .ok (.if_icmp .ne (7), 3) := by decide +kernel
theorem d_C_worksOn_82 : decode b_C_worksOn 82 = .ok (.iconst 1, 1) := by decide +kernel
theorem d_C_worksOn_83 : decode b_C_worksOn 83 = .ok (.goto (4), 3) := by decide +kernel
theorem d_C_worksOn_86 : decode b_C_worksOn 86 = .ok (.iconst 0, 1) := by decide +kernel
theorem d_C_worksOn_87 : decode b_C_worksOn 87 = .ok (.ireturn, 1) := by decide +kernel
theorem d_C_worksOn_88 : decode b_C_worksOn 88 = .ok (.aload_n 0, 1) := by decide +kernel
theorem d_C_worksOn_89 : decode b_C_worksOn 89 = .ok (.getfield 18, 3) := by decide +kernel
theorem d_C_worksOn_92 : decode b_C_worksOn 92 = .ok (.iload_n 1, 1) := by decide +kernel
theorem d_C_worksOn_93 : decode b_C_worksOn 93 = .ok (.iaload, 1) := by decide +kernel
theorem d_C_worksOn_94 : decode b_C_worksOn 94 = .ok (.iload_n 2, 1) := by decide +kernel
theorem d_C_worksOn_95 : decode b_C_worksOn 95 = .ok (.if_icmp .eq (13), 3) := by decide +kernel
theorem d_C_worksOn_98 : decode b_C_worksOn 98 = .ok (.aload_n 0, 1) := by decide +kernel
theorem d_C_worksOn_99 : decode b_C_worksOn 99 = .ok (.getfield 21, 3) := by decide +kernel
theorem d_C_worksOn_102 : decode b_C_worksOn 102 = .ok (.iload_n 1, 1) := by decide +kernel
theorem d_C_worksOn_103 : decode b_C_worksOn 103 = .ok (.iaload, 1) := by decide +kernel
theorem d_C_worksOn_104 : decode b_C_worksOn 104 = .ok (.iload_n 2, 1) := by decide +kernel
theorem d_C_worksOn_105 : decode b_C_worksOn 105 = .ok (.if_icmp .ne (7), 3) := by decide +kernel
theorem d_C_worksOn_108 : decode b_C_worksOn 108 = .ok (.iconst 1, 1) := by decide +kernel
theorem d_C_worksOn_109 : decode b_C_worksOn 109 = .ok (.goto (4), 3) := by decide +kernel
theorem d_C_worksOn_112 : decode b_C_worksOn 112 = .ok (.iconst 0, 1) := by decide +kernel
theorem d_C_worksOn_113 : decode b_C_worksOn 113 = .ok (.ireturn, 1) := by decide +kernel
theorem d_C_worksOn_114 : decode b_C_worksOn 114 = .ok (.iconst 0, 1) := by decide +kernel
theorem d_C_worksOn_115 : decode b_C_worksOn 115 = .ok (.ireturn, 1) := by decide +kernel
theorem d_P_takeApart_0 : decode b_P_takeApart 0 = .ok (.aload_n 0, 1) := by decide +kernel
theorem d_P_takeApart_1 : decode b_P_takeApart 1 = .ok (.getfield 9, 3) := by decide +kernel
theorem d_P_takeApart_4 : decode b_P_takeApart 4 = .ok (.iload_n 3, 1) := by decide +kernel
theorem d_P_takeApart_5 : decode b_P_takeApart 5 = .ok (.iconst 1, 1) := by decide +kernel
theorem d_P_takeApart_6 : decode b_P_takeApart 6 = .ok (.iastore, 1) := by decide +kernel
theorem d_P_takeApart_7 : decode b_P_takeApart 7 = .ok (.iconst 0, 1) := by decide +kernel
theorem d_P_takeApart_8 : decode b_P_takeApart 8 = .ok (.istore 4, 2) := by decide +kernel
theorem d_P_takeApart_10 : decode b_P_takeApart 10 = .ok (.iload 4, 2) := by decide +kernel
theorem d_P_takeApart_12 : decode b_P_takeApart 12 = .ok (.aload_n 1, 1) := by decide +kernel
theorem d_P_takeApart_13 : decode b_P_takeApart 13 = .ok (.getfield 55, 3) := by decide +kernel
theorem d_P_takeApart_16 : decode b_P_takeApart 16 = .ok (.if_icmp .ge (27), 3) := by decide +kernel
theorem d_P_takeApart_19 : decode b_P_takeApart 19 = .ok (.aload_n 1, 1) := by decide +kernel
theorem d_P_takeApart_20 : decode b_P_takeApart 20 = .ok (.iload 4, 2) := by decide +kernel
theorem d_P_takeApart_22 : decode b_P_takeApart 22 = .ok (.iload_n 2, 1) := by decide +kernel
theorem d_P_takeApart_23 : decode b_P_takeApart 23 = .ok (.invokevirtual 72, 3) := by decide +kernel
theorem d_P_takeApart_26 : decode b_P_takeApart 26 = .ok (.ifCond .eq (11), 3) := by decide +kernel
theorem d_P_takeApart_29 : decode b_P_takeApart 29 = .ok (.aload_n 0, 1) := by decide +kernel
theorem d_P_takeApart_30 : decode b_P_takeApart 30 = .ok (.getfield 9, 3) := by decide +kernel
theorem d_P_takeApart_33 : decode b_P_takeApart 33 = .ok (.iload 4, 2) := by decide +kernel
theorem d_P_takeApart_35 : decode b_P_takeApart 35 = .ok (.iconst 1, 1) := by decide +kernel
theorem d_P_takeApart_36 : decode b_P_takeApart 36 = .ok (.iastore, 1) := by decide +kernel
theorem d_P_takeApart_37 : decode b_P_takeApart 37 = .ok (.iinc 4 (1), 3) := by decide +kernel
theorem d_P_takeApart_40 : decode b_P_takeApart 40 = .ok (.goto (-30), 3) := by decide +kernel
theorem d_P_takeApart_43 : decode b_P_takeApart 43 = .ok (.return_, 1) := by decide +kernel
theorem d_F_escapeOf_0 : decode b_F_escapeOf 0 = .ok (.aload_n 0, 1) := by decide +kernel
theorem d_F_escapeOf_1 : decode b_F_escapeOf 1 = .ok (.getfield 31, 3) := by decide +kernel
theorem d_F_escapeOf_4 : decode b_F_escapeOf 4 = .ok (.iload_n 1, 1) := by decide +kernel
theorem d_F_escapeOf_5 : decode b_F_escapeOf 5 = .ok (.ishr, 1) := by decide +kernel
theorem d_F_escapeOf_6 : decode b_F_escapeOf 6 = .ok (.iconst 1, 1) := by decide +kernel
theorem d_F_escapeOf_7 : decode b_F_escapeOf 7 = .ok (.iand, 1) := by decide +kernel
theorem d_F_escapeOf_8 : decode b_F_escapeOf 8 = .ok (.iconst 1, 1) := by decide +kernel
theorem d_F_escapeOf_9 : decode b_F_escapeOf 9 = .ok (.if_icmp .ne (5), 3) := by decide +kernel
theorem d_F_escapeOf_12 : decode b_F_escapeOf 12 = .ok (.iconst 2, 1) := by decide +kernel
theorem d_F_escapeOf_13 : decode b_F_escapeOf 13 = .ok (.ireturn, 1) := by decide +kernel
theorem d_F_escapeOf_14 : decode b_F_escapeOf 14 = .ok (.aload_n 0, 1) := by decide +kernel
theorem d_F_escapeOf_15 : decode b_F_escapeOf 15 = .ok (.getfield 34, 3) := by decide +kernel
theorem d_F_escapeOf_18 : decode b_F_escapeOf 18 = .ok (.iload_n 1, 1) := by decide +kernel
theorem d_F_escapeOf_19 : decode b_F_escapeOf 19 = .ok (.ishr, 1) := by decide +kernel
theorem d_F_escapeOf_20 : decode b_F_escapeOf 20 = .ok (.iconst 1, 1) := by decide +kernel
theorem d_F_escapeOf_21 : decode b_F_escapeOf 21 = .ok (.iand, 1) := by decide +kernel
theorem d_F_escapeOf_22 : decode b_F_escapeOf 22 = .ok (.iconst 1, 1) := by decide +kernel
theorem d_F_escapeOf_23 : decode b_F_escapeOf 23 = .ok (.if_icmp .ne (7), 3) := by decide +kernel
theorem d_F_escapeOf_26 : decode b_F_escapeOf 26 = .ok (.iconst 1, 1) := by decide +kernel
theorem d_F_escapeOf_27 : decode b_F_escapeOf 27 = .ok (.goto (4), 3) := by decide +kernel
theorem d_F_escapeOf_30 : decode b_F_escapeOf 30 = .ok (.iconst 0, 1) := by decide +kernel
theorem d_F_escapeOf_31 : decode b_F_escapeOf 31 = .ok (.ireturn, 1) := by decide +kernel
theorem d_P_pairLocks_0 : decode b_P_pairLocks 0 = .ok (.iconst 0, 1) := by decide +kernel
theorem d_P_pairLocks_1 : decode b_P_pairLocks 1 = .ok (.istore 4, 2) := by decide +kernel
theorem d_P_pairLocks_3 : decode b_P_pairLocks 3 = .ok (.iload 4, 2) := by decide +kernel
theorem d_P_pairLocks_5 : decode b_P_pairLocks 5 = .ok (.aload_n 1, 1) := by decide +kernel
theorem d_P_pairLocks_6 : decode b_P_pairLocks 6 = .ok (.getfield 55, 3) := by decide +kernel
theorem d_P_pairLocks_9 : decode b_P_pairLocks 9 = .ok (.if_icmp .ge (75), 3) := by decide +kernel
theorem d_P_pairLocks_12 : decode b_P_pairLocks 12 = .ok (.aload_n 1, 1) := by decide +kernel
theorem d_P_pairLocks_13 : decode b_P_pairLocks 13 = .ok (.getfield 62, 3) := by decide +kernel
theorem d_P_pairLocks_16 : decode b_P_pairLocks 16 = .ok (.iload 4, 2) := by decide +kernel
theorem d_P_pairLocks_18 : decode b_P_pairLocks 18 = .ok (.iaload, 1) := by decide +kernel
theorem d_P_pairLocks_19 : decode b_P_pairLocks 19 = .ok (.bipush (10), 2) := by decide +kernel
theorem d_P_pairLocks_21 : decode b_P_pairLocks 21 = .ok (.if_icmp .ne (57), 3) := by decide +kernel
theorem d_P_pairLocks_24 : decode b_P_pairLocks 24 = .ok (.aload_n 1, 1) := by decide +kernel
theorem d_P_pairLocks_25 : decode b_P_pairLocks 25 = .ok (.getfield 75, 3) := by decide +kernel
theorem d_P_pairLocks_28 : decode b_P_pairLocks 28 = .ok (.iload 4, 2) := by decide +kernel
theorem d_P_pairLocks_30 : decode b_P_pairLocks 30 = .ok (.iaload, 1) := by decide +kernel
theorem d_P_pairLocks_31 : decode b_P_pairLocks 31 = .ok (.iload_n 2, 1) := by decide +kernel
theorem d_P_pairLocks_32 : decode b_P_pairLocks 32 = .ok (.if_icmp .ne (46), 3) := by decide +kernel
theorem d_P_pairLocks_35 : decode b_P_pairLocks 35 = .ok (.iload_n 3, 1) := by decide +kernel
theorem d_P_pairLocks_36 : decode b_P_pairLocks 36 = .ok (.iload 4, 2) := by decide +kernel
theorem d_P_pairLocks_38 : decode b_P_pairLocks 38 = .ok (.ishr, 1) := by decide +kernel
theorem d_P_pairLocks_39 : decode b_P_pairLocks 39 = .ok (.iconst 1, 1) := by decide +kernel
theorem d_P_pairLocks_40 : decode b_P_pairLocks 40 = .ok (.iand, 1) := by decide +kernel
theorem d_P_pairLocks_41 : decode b_P_pairLocks 41 = .ok (.iconst 1, 1) := by decide +kernel
theorem d_P_pairLocks_42 : decode b_P_pairLocks 42 = .ok (.if_icmp .ne (6), 3) := by decide +kernel
theorem d_P_pairLocks_45 : decode b_P_pairLocks 45 = .ok (.goto (33), 3) := by decide +kernel
theorem d_P_pairLocks_48 : decode b_P_pairLocks 48 = .ok (.aload_n 1, 1) := by decide +kernel
theorem d_P_pairLocks_49 : decode b_P_pairLocks 49 = .ok (.iload 4, 2) := by decide +kernel
theorem d_P_pairLocks_51 : decode b_P_pairLocks 51 = .ok (.invokestatic 78, 3) := by decide +kernel
theorem d_P_pairLocks_54 : decode b_P_pairLocks 54 = .ok (.istore 5, 2) := by decide +kernel
theorem d_P_pairLocks_56 : decode b_P_pairLocks 56 = .ok (.iload 5, 2) := by decide +kernel
theorem d_P_pairLocks_58 : decode b_P_pairLocks 58 = .ok (.iconst (-1), 1) := by decide +kernel
theorem d_P_pairLocks_59 : decode b_P_pairLocks 59 = .ok (.if_icmp .eq (19), 3) := by decide +kernel
theorem d_P_pairLocks_62 : decode b_P_pairLocks 62 = .ok (.aload_n 0, 1) := by decide +kernel
theorem d_P_pairLocks_63 : decode b_P_pairLocks 63 = .ok (.getfield 9, 3) := by decide +kernel
theorem d_P_pairLocks_66 : decode b_P_pairLocks 66 = .ok (.iload 4, 2) := by decide +kernel
theorem d_P_pairLocks_68 : decode b_P_pairLocks 68 = .ok (.iconst 2, 1) := by decide +kernel
theorem d_P_pairLocks_69 : decode b_P_pairLocks 69 = .ok (.iastore, 1) := by decide +kernel
theorem d_P_pairLocks_70 : decode b_P_pairLocks 70 = .ok (.aload_n 0, 1) := by decide +kernel
theorem d_P_pairLocks_71 : decode b_P_pairLocks 71 = .ok (.getfield 9, 3) := by decide +kernel
theorem d_P_pairLocks_74 : decode b_P_pairLocks 74 = .ok (.iload 5, 2) := by decide +kernel
theorem d_P_pairLocks_76 : decode b_P_pairLocks 76 = .ok (.iconst 2, 1) := by decide +kernel
theorem d_P_pairLocks_77 : decode b_P_pairLocks 77 = .ok (.iastore, 1) := by decide +kernel
theorem d_P_pairLocks_78 : decode b_P_pairLocks 78 = .ok (.iinc 4 (1), 3) := by decide +kernel
theorem d_P_pairLocks_81 : decode b_P_pairLocks 81 = .ok (.goto (-78), 3) := by decide +kernel
theorem d_P_pairLocks_84 : decode b_P_pairLocks 84 = .ok (.return_, 1) := by decide +kernel
theorem d_P_partner_0 : decode b_P_partner 0 = .ok (.iload_n 1, 1) := by decide +kernel
theorem d_P_partner_1 : decode b_P_partner 1 = .ok (.iconst 1, 1) := by decide +kernel
theorem d_P_partner_2 : decode b_P_partner 2 = .ok (.iadd, 1) := by decide +kernel
theorem d_P_partner_3 : decode b_P_partner 3 = .ok (.istore_n 2, 1) := by decide +kernel
theorem d_P_partner_4 : decode b_P_partner 4 = .ok (.iload_n 2, 1) := by decide +kernel
theorem d_P_partner_5 : decode b_P_partner 5 = .ok (.aload_n 0, 1) := by decide +kernel
theorem d_P_partner_6 : decode b_P_partner 6 = .ok (.getfield 55, 3) := by decide +kernel
theorem d_P_partner_9 : decode b_P_partner 9 = .ok (.if_icmp .ge (66), 3) := by decide +kernel
theorem d_P_partner_12 : decode b_P_partner 12 = .ok (.aload_n 0, 1) := by decide +kernel
theorem d_P_partner_13 : decode b_P_partner 13 = .ok (.getfield 62, 3) := by decide +kernel
theorem d_P_partner_16 : decode b_P_partner 16 = .ok (.iload_n 2, 1) := by decide +kernel
theorem d_P_partner_17 : decode b_P_partner 17 = .ok (.iaload, 1) := by decide +kernel
theorem d_P_partner_18 : decode b_P_partner 18 = .ok (.bipush (11), 2) := by decide +kernel
theorem d_P_partner_20 : decode b_P_partner 20 = .ok (.if_icmp .ne (35), 3) := by decide +kernel
theorem d_P_partner_23 : decode b_P_partner 23 = .ok (.aload_n 0, 1) := by decide +kernel
theorem d_P_partner_24 : decode b_P_partner 24 = .ok (.getfield 75, 3) := by decide +kernel
theorem d_P_partner_27 : decode b_P_partner 27 = .ok (.iload_n 2, 1) := by decide +kernel
theorem d_P_partner_28 : decode b_P_partner 28 = .ok (.iaload, 1) := by decide +kernel
theorem d_P_partner_29 : decode b_P_partner 29 = .ok (.aload_n 0, 1) := by decide +kernel
theorem d_P_partner_30 : decode b_P_partner 30 = .ok (.getfield 75, 3) := by decide +kernel
theorem d_P_partner_33 : decode b_P_partner 33 = .ok (.iload_n 1, 1) := by decide +kernel
theorem d_P_partner_34 : decode b_P_partner 34 = .ok (.iaload, 1) := by decide +kernel
theorem d_P_partner_35 : decode b_P_partner 35 = .ok (.if_icmp .ne (20), 3) := by decide +kernel
theorem d_P_partner_38 : decode b_P_partner 38 = .ok (.aload_n 0, 1) := by decide +kernel
theorem d_P_partner_39 : decode b_P_partner 39 = .ok (.iload_n 1, 1) := by decide +kernel
theorem d_P_partner_40 : decode b_P_partner 40 = .ok (.iconst 1, 1) := by decide +kernel
theorem d_P_partner_41 : decode b_P_partner 41 = .ok (.iadd, 1) := by decide +kernel
theorem d_P_partner_42 : decode b_P_partner 42 = .ok (.iload_n 2, 1) := by decide +kernel
theorem d_P_partner_43 : decode b_P_partner 43 = .ok (.invokestatic 81, 3) := by decide +kernel
theorem d_P_partner_46 : decode b_P_partner 46 = .ok (.ifCond .eq (7), 3) := by decide +kernel
theorem d_P_partner_49 : decode b_P_partner 49 = .ok (.iconst (-1), 1) := by decide +kernel
theorem d_P_partner_50 : decode b_P_partner 50 = .ok (.goto (4), 3) := by decide +kernel
theorem d_P_partner_53 : decode b_P_partner 53 = .ok (.iload_n 2, 1) := by decide +kernel
theorem d_P_partner_54 : decode b_P_partner 54 = .ok (.ireturn, 1) := by decide +kernel
theorem d_P_partner_55 : decode b_P_partner 55 = .ok (.aload_n 0, 1) := by decide +kernel
theorem d_P_partner_56 : decode b_P_partner 56 = .ok (.getfield 62, 3) := by decide +kernel
theorem d_P_partner_59 : decode b_P_partner 59 = .ok (.iload_n 2, 1) := by decide +kernel
theorem d_P_partner_60 : decode b_P_partner 60 = .ok (.iaload, 1) := by decide +kernel
theorem d_P_partner_61 : decode b_P_partner 61 = .ok (.invokestatic 84, 3) := by decide +kernel
theorem d_P_partner_64 : decode b_P_partner 64 = .ok (.ifCond .eq (5), 3) := by decide +kernel
theorem d_P_partner_67 : decode b_P_partner 67 = .ok (.iconst (-1), 1) := by decide +kernel
theorem d_P_partner_68 : decode b_P_partner 68 = .ok (.ireturn, 1) := by decide +kernel
theorem d_P_partner_69 : decode b_P_partner 69 = .ok (.iinc 2 (1), 3) := by decide +kernel
theorem d_P_partner_72 : decode b_P_partner 72 = .ok (.goto (-68), 3) := by decide +kernel
theorem d_P_partner_75 : decode b_P_partner 75 = .ok (.iconst (-1), 1) := by decide +kernel
theorem d_P_partner_76 : decode b_P_partner 76 = .ok (.ireturn, 1) := by decide +kernel
theorem d_P_isJumpedInto_0 : decode b_P_isJumpedInto 0 = .ok (.iconst 0, 1) := by decide +kernel
theorem d_P_isJumpedInto_1 : decode b_P_isJumpedInto 1 = .ok (.istore_n 3, 1) := by decide +kernel
theorem d_P_isJumpedInto_2 : decode b_P_isJumpedInto 2 = .ok (.iload_n 3, 1) := by decide +kernel
theorem d_P_isJumpedInto_3 : decode b_P_isJumpedInto 3 = .ok (.aload_n 0, 1) := by decide +kernel
theorem d_P_isJumpedInto_4 : decode b_P_isJumpedInto 4 = .ok (.getfield 55, 3) := by decide +kernel
theorem d_P_isJumpedInto_7 : decode b_P_isJumpedInto 7 = .ok (.if_icmp .ge (39), 3) := by decide +kernel
theorem d_P_isJumpedInto_10 : decode b_P_isJumpedInto 10 = .ok (.aload_n 0, 1) := by decide +kernel
theorem d_P_isJumpedInto_11 : decode b_P_isJumpedInto 11 = .ok (.iload_n 3, 1) := by decide +kernel
theorem d_P_isJumpedInto_12 : decode b_P_isJumpedInto 12 = .ok (.invokevirtual 88, 3) := by decide +kernel
theorem d_P_isJumpedInto_15 : decode b_P_isJumpedInto 15 = .ok (.ifCond .eq (25), 3) := by decide +kernel
theorem d_P_isJumpedInto_18 : decode b_P_isJumpedInto 18 = .ok (.aload_n 0, 1) := by decide +kernel
theorem d_P_isJumpedInto_19 : decode b_P_isJumpedInto 19 = .ok (.getfield 65, 3) := by decide +kernel
theorem d_P_isJumpedInto_22 : decode b_P_isJumpedInto 22 = .ok (.iload_n 3, 1) := by decide +kernel
theorem d_P_isJumpedInto_23 : decode b_P_isJumpedInto 23 = .ok (.iaload, 1) := by decide +kernel
theorem d_P_isJumpedInto_24 : decode b_P_isJumpedInto 24 = .ok (.iload_n 1, 1) := by decide +kernel
theorem d_P_isJumpedInto_25 : decode b_P_isJumpedInto 25 = .ok (.if_icmp .lt (15), 3) := by decide +kernel
theorem d_P_isJumpedInto_28 : decode b_P_isJumpedInto 28 = .ok (.aload_n 0, 1) := by decide +kernel
theorem d_P_isJumpedInto_29 : decode b_P_isJumpedInto 29 = .ok (.getfield 65, 3) := by decide +kernel
theorem d_P_isJumpedInto_32 : decode b_P_isJumpedInto 32 = .ok (.iload_n 3, 1) := by decide +kernel
theorem d_P_isJumpedInto_33 : decode b_P_isJumpedInto 33 = .ok (.iaload, 1) := by decide +kernel
theorem d_P_isJumpedInto_34 : decode b_P_isJumpedInto 34 = .ok (.iload_n 2, 1) := by decide +kernel
theorem d_P_isJumpedInto_35 : decode b_P_isJumpedInto 35 = .ok (.if_icmp .gt (5), 3) := by decide +kernel
theorem d_P_isJumpedInto_38 : decode b_P_isJumpedInto 38 = .ok (.iconst 1, 1) := by decide +kernel
theorem d_P_isJumpedInto_39 : decode b_P_isJumpedInto 39 = .ok (.ireturn, 1) := by decide +kernel
theorem d_P_isJumpedInto_40 : decode b_P_isJumpedInto 40 = .ok (.iinc 3 (1), 3) := by decide +kernel
theorem d_P_isJumpedInto_43 : decode b_P_isJumpedInto 43 = .ok (.goto (-41), 3) := by decide +kernel
theorem d_P_isJumpedInto_46 : decode b_P_isJumpedInto 46 = .ok (.iconst 0, 1) := by decide +kernel
theorem d_P_isJumpedInto_47 : decode b_P_isJumpedInto 47 = .ok (.ireturn, 1) := by decide +kernel
theorem d_P_endsPairing_0 : decode b_P_endsPairing 0 = .ok (.iload_n 0, 1) := by decide +kernel
theorem d_P_endsPairing_1 : decode b_P_endsPairing 1 = .ok (.tableswitch (89) (0) (17) #[87, 89, 89, 89, 89, 89, 89, 89, 89, 89, 87, 87, 89, 89, 87, 87, 87, 87], 87) := by decide +kernel
theorem d_P_endsPairing_88 : decode b_P_endsPairing 88 = .ok (.iconst 1, 1) := by decide +kernel
theorem d_P_endsPairing_89 : decode b_P_endsPairing 89 = .ok (.ireturn, 1) := by decide +kernel
theorem d_P_endsPairing_90 : decode b_P_endsPairing 90 = .ok (.iconst 0, 1) := by decide +kernel
theorem d_P_endsPairing_91 : decode b_P_endsPairing 91 = .ok (.ireturn, 1) := by decide +kernel
theorem d_E_latest_0 : decode b_E_latest 0 = .ok (.iload_n 1, 1) := by decide +kernel
theorem d_E_latest_1 : decode b_E_latest 1 = .ok (.tableswitch (75) (0) (4) #[35, 43, 51, 59, 67], 35) := by decide +kernel
theorem d_E_latest_36 : decode b_E_latest 36 = .ok (.aload_n 0, 1) := by decide +kernel
theorem d_E_latest_37 : decode b_E_latest 37 = .ok (.getfield 30, 3) := by decide +kernel
theorem d_E_latest_40 : decode b_E_latest 40 = .ok (.getfield 83, 3) := by decide +kernel
theorem d_E_latest_43 : decode b_E_latest 43 = .ok (.ireturn, 1) := by decide +kernel
theorem d_E_latest_44 : decode b_E_latest 44 = .ok (.aload_n 0, 1) := by decide +kernel
theorem d_E_latest_45 : decode b_E_latest 45 = .ok (.getfield 30, 3) := by decide +kernel
theorem d_E_latest_48 : decode b_E_latest 48 = .ok (.getfield 73, 3) := by decide +kernel
theorem d_E_latest_51 : decode b_E_latest 51 = .ok (.ireturn, 1) := by decide +kernel
theorem d_E_latest_52 : decode b_E_latest 52 = .ok (.aload_n 0, 1) := by decide +kernel
theorem d_E_latest_53 : decode b_E_latest 53 = .ok (.getfield 30, 3) := by decide +kernel
theorem d_E_latest_56 : decode b_E_latest 56 = .ok (.getfield 86, 3) := by decide +kernel
theorem d_E_latest_59 : decode b_E_latest 59 = .ok (.ireturn, 1) := by decide +kernel
theorem d_E_latest_60 : decode b_E_latest 60 = .ok (.aload_n 0, 1) := by decide +kernel
theorem d_E_latest_61 : decode b_E_latest 61 = .ok (.getfield 30, 3) := by decide +kernel
theorem d_E_latest_64 : decode b_E_latest 64 = .ok (.getfield 89, 3) := by decide +kernel
theorem d_E_latest_67 : decode b_E_latest 67 = .ok (.ireturn, 1) := by decide +kernel
theorem d_E_latest_68 : decode b_E_latest 68 = .ok (.aload_n 0, 1) := by decide +kernel
theorem d_E_latest_69 : decode b_E_latest 69 = .ok (.getfield 30, 3) := by decide +kernel
theorem d_E_latest_72 : decode b_E_latest 72 = .ok (.getfield 92, 3) := by decide +kernel
theorem d_E_latest_75 : decode b_E_latest 75 = .ok (.ireturn, 1) := by decide +kernel
theorem d_E_latest_76 : decode b_E_latest 76 = .ok (.iconst (-1), 1) := by decide +kernel
theorem d_E_latest_77 : decode b_E_latest 77 = .ok (.ireturn, 1) := by decide +kernel
theorem d_E_escape_0 : decode b_E_escape 0 = .ok (.iload_n 1, 1) := by decide +kernel
theorem d_E_escape_1 : decode b_E_escape 1 = .ok (.invokestatic 41, 3) := by decide +kernel
theorem d_E_escape_4 : decode b_E_escape 4 = .ok (.ifCond .eq (30), 3) := by decide +kernel
theorem d_E_escape_7 : decode b_E_escape 7 = .ok (.aload_n 0, 1) := by decide +kernel
theorem d_E_escape_8 : decode b_E_escape 8 = .ok (.getfield 11, 3) := by decide +kernel
theorem d_E_escape_11 : decode b_E_escape 11 = .ok (.iload_n 1, 1) := by decide +kernel
theorem d_E_escape_12 : decode b_E_escape 12 = .ok (.aaload, 1) := by decide +kernel
theorem d_E_escape_13 : decode b_E_escape 13 = .ok (.iload_n 2, 1) := by decide +kernel
theorem d_E_escape_14 : decode b_E_escape 14 = .ok (.invokevirtual 95, 3) := by decide +kernel
theorem d_E_escape_17 : decode b_E_escape 17 = .ok (.ifCond .eq (17), 3) := by decide +kernel
theorem d_E_escape_20 : decode b_E_escape 20 = .ok (.aload_n 0, 1) := by decide +kernel
theorem d_E_escape_21 : decode b_E_escape 21 = .ok (.getfield 11, 3) := by decide +kernel
theorem d_E_escape_24 : decode b_E_escape 24 = .ok (.iload_n 1, 1) := by decide +kernel
theorem d_E_escape_25 : decode b_E_escape 25 = .ok (.aaload, 1) := by decide +kernel
theorem d_E_escape_26 : decode b_E_escape 26 = .ok (.getfield 98, 3) := by decide +kernel
theorem d_E_escape_29 : decode b_E_escape 29 = .ok (.iload_n 2, 1) := by decide +kernel
theorem d_E_escape_30 : decode b_E_escape 30 = .ok (.iaload, 1) := by decide +kernel
theorem d_E_escape_31 : decode b_E_escape 31 = .ok (.ifCond .eq (5), 3) := by decide +kernel
theorem d_E_escape_34 : decode b_E_escape 34 = .ok (.iconst (-1), 1) := by decide +kernel
theorem d_E_escape_35 : decode b_E_escape 35 = .ok (.ireturn, 1) := by decide +kernel
theorem d_E_escape_36 : decode b_E_escape 36 = .ok (.aload_n 0, 1) := by decide +kernel
theorem d_E_escape_37 : decode b_E_escape 37 = .ok (.invokevirtual 66, 3) := by decide +kernel
theorem d_E_escape_40 : decode b_E_escape 40 = .ok (.aload_n 0, 1) := by decide +kernel
theorem d_E_escape_41 : decode b_E_escape 41 = .ok (.getfield 17, 3) := by decide +kernel
theorem d_E_escape_44 : decode b_E_escape 44 = .ok (.iload_n 1, 1) := by decide +kernel
theorem d_E_escape_45 : decode b_E_escape 45 = .ok (.aaload, 1) := by decide +kernel
theorem d_E_escape_46 : decode b_E_escape 46 = .ok (.iload_n 2, 1) := by decide +kernel
theorem d_E_escape_47 : decode b_E_escape 47 = .ok (.invokevirtual 101, 3) := by decide +kernel
theorem d_E_escape_50 : decode b_E_escape 50 = .ok (.ireturn, 1) := by decide +kernel
theorem d_E_isMethod_0 : decode b_E_isMethod 0 = .ok (.iload_n 0, 1) := by decide +kernel
theorem d_E_isMethod_1 : decode b_E_isMethod 1 = .ok (.ifCond .lt (12), 3) := by decide +kernel
theorem d_E_isMethod_4 : decode b_E_isMethod 4 = .ok (.iload_n 0, 1) := by decide +kernel
theorem d_E_isMethod_5 : decode b_E_isMethod 5 = .ok (.iconst 5, 1) := by decide +kernel
theorem d_E_isMethod_6 : decode b_E_isMethod 6 = .ok (.if_icmp .ge (7), 3) := by decide +kernel
theorem d_E_isMethod_9 : decode b_E_isMethod 9 = .ok (.iconst 1, 1) := by decide +kernel
theorem d_E_isMethod_10 : decode b_E_isMethod 10 = .ok (.goto (4), 3) := by decide +kernel
theorem d_E_isMethod_13 : decode b_E_isMethod 13 = .ok (.iconst 0, 1) := by decide +kernel
theorem d_E_isMethod_14 : decode b_E_isMethod 14 = .ok (.ireturn, 1) := by decide +kernel
theorem d_E_summary_0 : decode b_E_summary 0 = .ok (.iload_n 1, 1) := by decide +kernel
theorem d_E_summary_1 : decode b_E_summary 1 = .ok (.invokestatic 41, 3) := by decide +kernel
theorem d_E_summary_4 : decode b_E_summary 4 = .ok (.ifCond .eq (20), 3) := by decide +kernel
theorem d_E_summary_7 : decode b_E_summary 7 = .ok (.iload_n 2, 1) := by decide +kernel
theorem d_E_summary_8 : decode b_E_summary 8 = .ok (.ifCond .lt (16), 3) := by decide +kernel
theorem d_E_summary_11 : decode b_E_summary 11 = .ok (.iload_n 2, 1) := by decide +kernel
theorem d_E_summary_12 : decode b_E_summary 12 = .ok (.aload_n 0, 1) := by decide +kernel
theorem d_E_summary_13 : decode b_E_summary 13 = .ok (.getfield 11, 3) := by decide +kernel
theorem d_E_summary_16 : decode b_E_summary 16 = .ok (.iload_n 1, 1) := by decide +kernel
theorem d_E_summary_17 : decode b_E_summary 17 = .ok (.aaload, 1) := by decide +kernel
theorem d_E_summary_18 : decode b_E_summary 18 = .ok (.getfield 48, 3) := by decide +kernel
theorem d_E_summary_21 : decode b_E_summary 21 = .ok (.if_icmp .lt (5), 3) := by decide +kernel
theorem d_E_summary_24 : decode b_E_summary 24 = .ok (.iconst (-1), 1) := by decide +kernel
theorem d_E_summary_25 : decode b_E_summary 25 = .ok (.ireturn, 1) := by decide +kernel
theorem d_E_summary_26 : decode b_E_summary 26 = .ok (.aload_n 0, 1) := by decide +kernel
theorem d_E_summary_27 : decode b_E_summary 27 = .ok (.invokevirtual 66, 3) := by decide +kernel
theorem d_E_summary_30 : decode b_E_summary 30 = .ok (.aload_n 0, 1) := by decide +kernel
theorem d_E_summary_31 : decode b_E_summary 31 = .ok (.getfield 17, 3) := by decide +kernel
theorem d_E_summary_34 : decode b_E_summary 34 = .ok (.iload_n 1, 1) := by decide +kernel
theorem d_E_summary_35 : decode b_E_summary 35 = .ok (.aaload, 1) := by decide +kernel
theorem d_E_summary_36 : decode b_E_summary 36 = .ok (.getfield 105, 3) := by decide +kernel
theorem d_E_summary_39 : decode b_E_summary 39 = .ok (.iload_n 2, 1) := by decide +kernel
theorem d_E_summary_40 : decode b_E_summary 40 = .ok (.iaload, 1) := by decide +kernel
theorem d_E_summary_41 : decode b_E_summary 41 = .ok (.ireturn, 1) := by decide +kernel
theorem d_E_fate_0 : decode b_E_fate 0 = .ok (.iload_n 1, 1) := by decide +kernel
theorem d_E_fate_1 : decode b_E_fate 1 = .ok (.invokestatic 41, 3) := by decide +kernel
theorem d_E_fate_4 : decode b_E_fate 4 = .ok (.ifCond .eq (16), 3) := by decide +kernel
theorem d_E_fate_7 : decode b_E_fate 7 = .ok (.aload_n 0, 1) := by decide +kernel
theorem d_E_fate_8 : decode b_E_fate 8 = .ok (.getfield 11, 3) := by decide +kernel
theorem d_E_fate_11 : decode b_E_fate 11 = .ok (.iload_n 1, 1) := by decide +kernel
theorem d_E_fate_12 : decode b_E_fate 12 = .ok (.aaload, 1) := by decide +kernel
theorem d_E_fate_13 : decode b_E_fate 13 = .ok (.iload_n 2, 1) := by decide +kernel
theorem d_E_fate_14 : decode b_E_fate 14 = .ok (.invokevirtual 95, 3) := by decide +kernel
theorem d_E_fate_17 : decode b_E_fate 17 = .ok (.ifCond .ne (5), 3) := by decide +kernel
theorem d_E_fate_20 : decode b_E_fate 20 = .ok (.iconst (-1), 1) := by decide +kernel
theorem d_E_fate_21 : decode b_E_fate 21 = .ok (.ireturn, 1) := by decide +kernel
theorem d_E_fate_22 : decode b_E_fate 22 = .ok (.aload_n 0, 1) := by decide +kernel
theorem d_E_fate_23 : decode b_E_fate 23 = .ok (.invokevirtual 66, 3) := by decide +kernel
theorem d_E_fate_26 : decode b_E_fate 26 = .ok (.aload_n 0, 1) := by decide +kernel
theorem d_E_fate_27 : decode b_E_fate 27 = .ok (.getfield 23, 3) := by decide +kernel
theorem d_E_fate_30 : decode b_E_fate 30 = .ok (.iload_n 1, 1) := by decide +kernel
theorem d_E_fate_31 : decode b_E_fate 31 = .ok (.aaload, 1) := by decide +kernel
theorem d_E_fate_32 : decode b_E_fate 32 = .ok (.getfield 108, 3) := by decide +kernel
theorem d_E_fate_35 : decode b_E_fate 35 = .ok (.iload_n 2, 1) := by decide +kernel
theorem d_E_fate_36 : decode b_E_fate 36 = .ok (.iaload, 1) := by decide +kernel
theorem d_E_fate_37 : decode b_E_fate 37 = .ok (.ireturn, 1) := by decide +kernel
theorem d_E_may_0 : decode b_E_may 0 = .ok (.iload_n 1, 1) := by decide +kernel
theorem d_E_may_1 : decode b_E_may 1 = .ok (.invokestatic 41, 3) := by decide +kernel
theorem d_E_may_4 : decode b_E_may 4 = .ok (.ifCond .eq (12), 3) := by decide +kernel
theorem d_E_may_7 : decode b_E_may 7 = .ok (.iload_n 2, 1) := by decide +kernel
theorem d_E_may_8 : decode b_E_may 8 = .ok (.ifCond .lt (8), 3) := by decide +kernel
theorem d_E_may_11 : decode b_E_may 11 = .ok (.iload_n 2, 1) := by decide +kernel
theorem d_E_may_12 : decode b_E_may 12 = .ok (.iconst 4, 1) := by decide +kernel
theorem d_E_may_13 : decode b_E_may 13 = .ok (.if_icmp .lt (5), 3) := by decide +kernel
theorem d_E_may_16 : decode b_E_may 16 = .ok (.iconst (-1), 1) := by decide +kernel
theorem d_E_may_17 : decode b_E_may 17 = .ok (.ireturn, 1) := by decide +kernel
theorem d_E_may_18 : decode b_E_may 18 = .ok (.aload_n 0, 1) := by decide +kernel
theorem d_E_may_19 : decode b_E_may 19 = .ok (.invokevirtual 66, 3) := by decide +kernel
theorem d_E_may_22 : decode b_E_may 22 = .ok (.aload_n 0, 1) := by decide +kernel
theorem d_E_may_23 : decode b_E_may 23 = .ok (.getfield 17, 3) := by decide +kernel
theorem d_E_may_26 : decode b_E_may 26 = .ok (.iload_n 1, 1) := by decide +kernel
theorem d_E_may_27 : decode b_E_may 27 = .ok (.aaload, 1) := by decide +kernel
theorem d_E_may_28 : decode b_E_may 28 = .ok (.getfield 111, 3) := by decide +kernel
theorem d_E_may_31 : decode b_E_may 31 = .ok (.iload_n 2, 1) := by decide +kernel
theorem d_E_may_32 : decode b_E_may 32 = .ok (.iaload, 1) := by decide +kernel
theorem d_E_may_33 : decode b_E_may 33 = .ok (.ireturn, 1) := by decide +kernel
theorem d_E_length_0 : decode b_E_length 0 = .ok (.iload_n 1, 1) := by decide +kernel
theorem d_E_length_1 : decode b_E_length 1 = .ok (.invokestatic 41, 3) := by decide +kernel
theorem d_E_length_4 : decode b_E_length 4 = .ok (.ifCond .eq (15), 3) := by decide +kernel
theorem d_E_length_7 : decode b_E_length 7 = .ok (.aload_n 0, 1) := by decide +kernel
theorem d_E_length_8 : decode b_E_length 8 = .ok (.getfield 11, 3) := by decide +kernel
theorem d_E_length_11 : decode b_E_length 11 = .ok (.iload_n 1, 1) := by decide +kernel
theorem d_E_length_12 : decode b_E_length 12 = .ok (.aaload, 1) := by decide +kernel
theorem d_E_length_13 : decode b_E_length 13 = .ok (.getfield 56, 3) := by decide +kernel
theorem d_E_length_16 : decode b_E_length 16 = .ok (.goto (4), 3) := by decide +kernel
theorem d_E_length_19 : decode b_E_length 19 = .ok (.iconst (-1), 1) := by decide +kernel
theorem d_E_length_20 : decode b_E_length 20 = .ok (.ireturn, 1) := by decide +kernel
theorem d_E_parameters_0 : decode b_E_parameters 0 = .ok (.iload_n 1, 1) := by decide +kernel
theorem d_E_parameters_1 : decode b_E_parameters 1 = .ok (.invokestatic 41, 3) := by decide +kernel
theorem d_E_parameters_4 : decode b_E_parameters 4 = .ok (.ifCond .eq (12), 3) := by decide +kernel
theorem d_E_parameters_7 : decode b_E_parameters 7 = .ok (.iload_n 2, 1) := by decide +kernel
theorem d_E_parameters_8 : decode b_E_parameters 8 = .ok (.ifCond .lt (8), 3) := by decide +kernel
theorem d_E_parameters_11 : decode b_E_parameters 11 = .ok (.iload_n 2, 1) := by decide +kernel
theorem d_E_parameters_12 : decode b_E_parameters 12 = .ok (.iconst 2, 1) := by decide +kernel
theorem d_E_parameters_13 : decode b_E_parameters 13 = .ok (.if_icmp .le (11), 3) := by decide +kernel
theorem d_E_parameters_16 : decode b_E_parameters 16 = .ok (.new 45, 3) := by decide +kernel
theorem d_E_parameters_19 : decode b_E_parameters 19 = .ok (.dup, 1) := by decide +kernel
theorem d_E_parameters_20 : decode b_E_parameters 20 = .ok (.invokespecial 47, 3) := by decide +kernel
theorem d_E_parameters_23 : decode b_E_parameters 23 = .ok (.athrow, 1) := by decide +kernel
theorem d_E_parameters_24 : decode b_E_parameters 24 = .ok (.aload_n 0, 1) := by decide +kernel
theorem d_E_parameters_25 : decode b_E_parameters 25 = .ok (.getfield 11, 3) := by decide +kernel
theorem d_E_parameters_28 : decode b_E_parameters 28 = .ok (.iload_n 1, 1) := by decide +kernel
theorem d_E_parameters_29 : decode b_E_parameters 29 = .ok (.aaload, 1) := by decide +kernel
theorem d_E_parameters_30 : decode b_E_parameters 30 = .ok (.iload_n 2, 1) := by decide +kernel
theorem d_E_parameters_31 : decode b_E_parameters 31 = .ok (.putfield 48, 3) := by decide +kernel
theorem d_E_parameters_34 : decode b_E_parameters 34 = .ok (.aload_n 0, 1) := by decide +kernel
theorem d_E_parameters_35 : decode b_E_parameters 35 = .ok (.iconst 1, 1) := by decide +kernel
theorem d_E_parameters_36 : decode b_E_parameters 36 = .ok (.putfield 34, 3) := by decide +kernel
theorem d_E_parameters_39 : decode b_E_parameters 39 = .ok (.iconst 1, 1) := by decide +kernel
theorem d_E_parameters_40 : decode b_E_parameters 40 = .ok (.ireturn, 1) := by decide +kernel
theorem d_E_put_0 : decode b_E_put 0 = .ok (.iload_n 1, 1) := by decide +kernel
theorem d_E_put_1 : decode b_E_put 1 = .ok (.invokestatic 41, 3) := by decide +kernel
theorem d_E_put_4 : decode b_E_put 4 = .ok (.ifCond .eq (17), 3) := by decide +kernel
theorem d_E_put_7 : decode b_E_put 7 = .ok (.iload_n 2, 1) := by decide +kernel
theorem d_E_put_8 : decode b_E_put 8 = .ok (.iload_n 3, 1) := by decide +kernel
theorem d_E_put_9 : decode b_E_put 9 = .ok (.iload 4, 2) := by decide +kernel
theorem d_E_put_11 : decode b_E_put 11 = .ok (.iload 5, 2) := by decide +kernel
theorem d_E_put_13 : decode b_E_put 13 = .ok (.iload 6, 2) := by decide +kernel
theorem d_E_put_15 : decode b_E_put 15 = .ok (.invokestatic 52, 3) := by decide +kernel
theorem d_E_put_18 : decode b_E_put 18 = .ok (.ifCond .ne (11), 3) := by decide +kernel
theorem d_E_put_21 : decode b_E_put 21 = .ok (.new 45, 3) := by decide +kernel
theorem d_E_put_24 : decode b_E_put 24 = .ok (.dup, 1) := by decide +kernel
theorem d_E_put_25 : decode b_E_put 25 = .ok (.invokespecial 47, 3) := by decide +kernel
theorem d_E_put_28 : decode b_E_put 28 = .ok (.athrow, 1) := by decide +kernel
theorem d_E_put_29 : decode b_E_put 29 = .ok (.aload_n 0, 1) := by decide +kernel
theorem d_E_put_30 : decode b_E_put 30 = .ok (.getfield 11, 3) := by decide +kernel
theorem d_E_put_33 : decode b_E_put 33 = .ok (.iload_n 1, 1) := by decide +kernel
theorem d_E_put_34 : decode b_E_put 34 = .ok (.aaload, 1) := by decide +kernel
theorem d_E_put_35 : decode b_E_put 35 = .ok (.getfield 56, 3) := by decide +kernel
theorem d_E_put_38 : decode b_E_put 38 = .ok (.bipush (24), 2) := by decide +kernel
theorem d_E_put_40 : decode b_E_put 40 = .ok (.if_icmp .lt (11), 3) := by decide +kernel
theorem d_E_put_43 : decode b_E_put 43 = .ok (.new 59, 3) := by decide +kernel
theorem d_E_put_46 : decode b_E_put 46 = .ok (.dup, 1) := by decide +kernel
theorem d_E_put_47 : decode b_E_put 47 = .ok (.invokespecial 61, 3) := by decide +kernel
theorem d_E_put_50 : decode b_E_put 50 = .ok (.athrow, 1) := by decide +kernel
theorem d_E_put_51 : decode b_E_put 51 = .ok (.aload_n 0, 1) := by decide +kernel
theorem d_E_put_52 : decode b_E_put 52 = .ok (.iconst 1, 1) := by decide +kernel
theorem d_E_put_53 : decode b_E_put 53 = .ok (.putfield 34, 3) := by decide +kernel
theorem d_E_put_56 : decode b_E_put 56 = .ok (.aload_n 0, 1) := by decide +kernel
theorem d_E_put_57 : decode b_E_put 57 = .ok (.getfield 11, 3) := by decide +kernel
theorem d_E_put_60 : decode b_E_put 60 = .ok (.iload_n 1, 1) := by decide +kernel
theorem d_E_put_61 : decode b_E_put 61 = .ok (.aaload, 1) := by decide +kernel
theorem d_E_put_62 : decode b_E_put 62 = .ok (.iload_n 2, 1) := by decide +kernel
theorem d_E_put_63 : decode b_E_put 63 = .ok (.iload_n 3, 1) := by decide +kernel
theorem d_E_put_64 : decode b_E_put 64 = .ok (.iload 4, 2) := by decide +kernel
theorem d_E_put_66 : decode b_E_put 66 = .ok (.iload 5, 2) := by decide +kernel
theorem d_E_put_68 : decode b_E_put 68 = .ok (.iload 6, 2) := by decide +kernel
theorem d_E_put_70 : decode b_E_put 70 = .ok (.invokevirtual 62, 3) := by decide +kernel
theorem d_E_put_73 : decode b_E_put 73 = .ok (.ireturn, 1) := by decide +kernel
theorem d_E_isInstruction_0 : decode b_E_isInstruction 0 = .ok (.iload_n 0, 1) := by decide +kernel
theorem d_E_isInstruction_1 : decode b_E_isInstruction 1 = .ok (.ifCond .lt (30), 3) := by decide +kernel
theorem d_E_isInstruction_4 : decode b_E_isInstruction 4 = .ok (.iload_n 0, 1) := by decide +kernel
theorem d_E_isInstruction_5 : decode b_E_isInstruction 5 = .ok (.bipush (18), 2) := by decide +kernel
theorem d_E_isInstruction_7 : decode b_E_isInstruction 7 = .ok (.if_icmp .gt (24), 3) := by decide +kernel
theorem d_E_isInstruction_10 : decode b_E_isInstruction 10 = .ok (.iload_n 1, 1) := by decide +kernel
theorem d_E_isInstruction_11 : decode b_E_isInstruction 11 = .ok (.invokestatic 114, 3) := by decide +kernel
theorem d_E_isInstruction_14 : decode b_E_isInstruction 14 = .ok (.ifCond .eq (17), 3) := by decide +kernel
theorem d_E_isInstruction_17 : decode b_E_isInstruction 17 = .ok (.iload_n 2, 1) := by decide +kernel
theorem d_E_isInstruction_18 : decode b_E_isInstruction 18 = .ok (.invokestatic 114, 3) := by decide +kernel
theorem d_E_isInstruction_21 : decode b_E_isInstruction 21 = .ok (.ifCond .eq (10), 3) := by decide +kernel
theorem d_E_isInstruction_24 : decode b_E_isInstruction 24 = .ok (.iload_n 3, 1) := by decide +kernel
theorem d_E_isInstruction_25 : decode b_E_isInstruction 25 = .ok (.invokestatic 114, 3) := by decide +kernel
theorem d_E_isInstruction_28 : decode b_E_isInstruction 28 = .ok (.ifCond .ne (5), 3) := by decide +kernel
theorem d_E_isInstruction_31 : decode b_E_isInstruction 31 = .ok (.iconst 0, 1) := by decide +kernel
theorem d_E_isInstruction_32 : decode b_E_isInstruction 32 = .ok (.ireturn, 1) := by decide +kernel
theorem d_E_isInstruction_33 : decode b_E_isInstruction 33 = .ok (.iload_n 0, 1) := by decide +kernel
theorem d_E_isInstruction_34 : decode b_E_isInstruction 34 = .ok (.iconst 3, 1) := by decide +kernel
theorem d_E_isInstruction_35 : decode b_E_isInstruction 35 = .ok (.if_icmp .eq (19), 3) := by decide +kernel
theorem d_E_isInstruction_38 : decode b_E_isInstruction 38 = .ok (.iload_n 0, 1) := by decide +kernel
theorem d_E_isInstruction_39 : decode b_E_isInstruction 39 = .ok (.iconst 4, 1) := by decide +kernel
theorem d_E_isInstruction_40 : decode b_E_isInstruction 40 = .ok (.if_icmp .eq (14), 3) := by decide +kernel
theorem d_E_isInstruction_43 : decode b_E_isInstruction 43 = .ok (.iload_n 0, 1) := by decide +kernel
theorem d_E_isInstruction_44 : decode b_E_isInstruction 44 = .ok (.iconst 5, 1) := by decide +kernel
theorem d_E_isInstruction_45 : decode b_E_isInstruction 45 = .ok (.if_icmp .eq (9), 3) := by decide +kernel
theorem d_E_isInstruction_48 : decode b_E_isInstruction 48 = .ok (.iload_n 0, 1) := by decide +kernel
theorem d_E_isInstruction_49 : decode b_E_isInstruction 49 = .ok (.bipush (6), 2) := by decide +kernel
theorem d_E_isInstruction_51 : decode b_E_isInstruction 51 = .ok (.if_icmp .ne (7), 3) := by decide +kernel
theorem d_E_isInstruction_54 : decode b_E_isInstruction 54 = .ok (.iconst 1, 1) := by decide +kernel
theorem d_E_isInstruction_55 : decode b_E_isInstruction 55 = .ok (.goto (4), 3) := by decide +kernel
theorem d_E_isInstruction_58 : decode b_E_isInstruction 58 = .ok (.iconst 0, 1) := by decide +kernel
theorem d_E_isInstruction_59 : decode b_E_isInstruction 59 = .ok (.istore 5, 2) := by decide +kernel
theorem d_E_isInstruction_61 : decode b_E_isInstruction 61 = .ok (.iload 5, 2) := by decide +kernel
theorem d_E_isInstruction_63 : decode b_E_isInstruction 63 = .ok (.ifCond .eq (10), 3) := by decide +kernel
theorem d_E_isInstruction_66 : decode b_E_isInstruction 66 = .ok (.iload_n 3, 1) := by decide +kernel
theorem d_E_isInstruction_67 : decode b_E_isInstruction 67 = .ok (.iconst 2, 1) := by decide +kernel
theorem d_E_isInstruction_68 : decode b_E_isInstruction 68 = .ok (.if_icmp .lt (5), 3) := by decide +kernel
theorem d_E_isInstruction_71 : decode b_E_isInstruction 71 = .ok (.iconst 0, 1) := by decide +kernel
theorem d_E_isInstruction_72 : decode b_E_isInstruction 72 = .ok (.ireturn, 1) := by decide +kernel
theorem d_E_isInstruction_73 : decode b_E_isInstruction 73 = .ok (.iload_n 0, 1) := by decide +kernel
theorem d_E_isInstruction_74 : decode b_E_isInstruction 74 = .ok (.bipush (16), 2) := by decide +kernel
theorem d_E_isInstruction_76 : decode b_E_isInstruction 76 = .ok (.if_icmp .ne (11), 3) := by decide +kernel
theorem d_E_isInstruction_79 : decode b_E_isInstruction 79 = .ok (.iload 4, 2) := by decide +kernel
theorem d_E_isInstruction_81 : decode b_E_isInstruction 81 = .ok (.invokestatic 41, 3) := by decide +kernel
theorem d_E_isInstruction_84 : decode b_E_isInstruction 84 = .ok (.ifCond .eq (7), 3) := by decide +kernel
theorem d_E_isInstruction_87 : decode b_E_isInstruction 87 = .ok (.iconst 1, 1) := by decide +kernel
theorem d_E_isInstruction_88 : decode b_E_isInstruction 88 = .ok (.goto (4), 3) := by decide +kernel
theorem d_E_isInstruction_91 : decode b_E_isInstruction 91 = .ok (.iconst 0, 1) := by decide +kernel
theorem d_E_isInstruction_92 : decode b_E_isInstruction 92 = .ok (.ireturn, 1) := by decide +kernel
theorem d_E_isVariable_0 : decode b_E_isVariable 0 = .ok (.iload_n 0, 1) := by decide +kernel
theorem d_E_isVariable_1 : decode b_E_isVariable 1 = .ok (.ifCond .lt (12), 3) := by decide +kernel
theorem d_E_isVariable_4 : decode b_E_isVariable 4 = .ok (.iload_n 0, 1) := by decide +kernel
theorem d_E_isVariable_5 : decode b_E_isVariable 5 = .ok (.iconst 4, 1) := by decide +kernel
theorem d_E_isVariable_6 : decode b_E_isVariable 6 = .ok (.if_icmp .ge (7), 3) := by decide +kernel
theorem d_E_isVariable_9 : decode b_E_isVariable 9 = .ok (.iconst 1, 1) := by decide +kernel
theorem d_E_isVariable_10 : decode b_E_isVariable 10 = .ok (.goto (4), 3) := by decide +kernel
theorem d_E_isVariable_13 : decode b_E_isVariable 13 = .ok (.iconst 0, 1) := by decide +kernel
theorem d_E_isVariable_14 : decode b_E_isVariable 14 = .ok (.ireturn, 1) := by decide +kernel
theorem d_C_append_0 : decode b_C_append 0 = .ok (.aload_n 0, 1) := by decide +kernel
theorem d_C_append_1 : decode b_C_append 1 = .ok (.getfield 27, 3) := by decide +kernel
theorem d_C_append_4 : decode b_C_append 4 = .ok (.istore 6, 2) := by decide +kernel
theorem d_C_append_6 : decode b_C_append 6 = .ok (.aload_n 0, 1) := by decide +kernel
theorem d_C_append_7 : decode b_C_append 7 = .ok (.getfield 9, 3) := by decide +kernel
theorem d_C_append_10 : decode b_C_append 10 = .ok (.iload 6, 2) := by decide +kernel
theorem d_C_append_12 : decode b_C_append 12 = .ok (.iload_n 1, 1) := by decide +kernel
theorem d_C_append_13 : decode b_C_append 13 = .ok (.iastore, 1) := by decide +kernel
theorem d_C_append_14 : decode b_C_append 14 = .ok (.aload_n 0, 1) := by decide +kernel
theorem d_C_append_15 : decode b_C_append 15 = .ok (.getfield 15, 3) := by decide +kernel
theorem d_C_append_18 : decode b_C_append 18 = .ok (.iload 6, 2) := by decide +kernel
theorem d_C_append_20 : decode b_C_append 20 = .ok (.iload_n 2, 1) := by decide +kernel
theorem d_C_append_21 : decode b_C_append 21 = .ok (.iastore, 1) := by decide +kernel
theorem d_C_append_22 : decode b_C_append 22 = .ok (.aload_n 0, 1) := by decide +kernel
theorem d_C_append_23 : decode b_C_append 23 = .ok (.getfield 18, 3) := by decide +kernel
theorem d_C_append_26 : decode b_C_append 26 = .ok (.iload 6, 2) := by decide +kernel
theorem d_C_append_28 : decode b_C_append 28 = .ok (.iload_n 3, 1) := by decide +kernel
theorem d_C_append_29 : decode b_C_append 29 = .ok (.iastore, 1) := by decide +kernel
theorem d_C_append_30 : decode b_C_append 30 = .ok (.aload_n 0, 1) := by decide +kernel
theorem d_C_append_31 : decode b_C_append 31 = .ok (.getfield 21, 3) := by decide +kernel
theorem d_C_append_34 : decode b_C_append 34 = .ok (.iload 6, 2) := by decide +kernel
theorem d_C_append_36 : decode b_C_append 36 = .ok (.iload 4, 2) := by decide +kernel
theorem d_C_append_38 : decode b_C_append 38 = .ok (.iastore, 1) := by decide +kernel
theorem d_C_append_39 : decode b_C_append 39 = .ok (.aload_n 0, 1) := by decide +kernel
theorem d_C_append_40 : decode b_C_append 40 = .ok (.getfield 24, 3) := by decide +kernel
theorem d_C_append_43 : decode b_C_append 43 = .ok (.iload 6, 2) := by decide +kernel
theorem d_C_append_45 : decode b_C_append 45 = .ok (.iload 5, 2) := by decide +kernel
theorem d_C_append_47 : decode b_C_append 47 = .ok (.iastore, 1) := by decide +kernel
theorem d_C_append_48 : decode b_C_append 48 = .ok (.aload_n 0, 1) := by decide +kernel
theorem d_C_append_49 : decode b_C_append 49 = .ok (.iload 6, 2) := by decide +kernel
theorem d_C_append_51 : decode b_C_append 51 = .ok (.iconst 1, 1) := by decide +kernel
theorem d_C_append_52 : decode b_C_append 52 = .ok (.iadd, 1) := by decide +kernel
theorem d_C_append_53 : decode b_C_append 53 = .ok (.putfield 27, 3) := by decide +kernel
theorem d_C_append_56 : decode b_C_append 56 = .ok (.iload 6, 2) := by decide +kernel
theorem d_C_append_58 : decode b_C_append 58 = .ok (.ireturn, 1) := by decide +kernel
theorem d_E_clear_0 : decode b_E_clear 0 = .ok (.iload_n 1, 1) := by decide +kernel
theorem d_E_clear_1 : decode b_E_clear 1 = .ok (.invokestatic 41, 3) := by decide +kernel
theorem d_E_clear_4 : decode b_E_clear 4 = .ok (.ifCond .ne (11), 3) := by decide +kernel
theorem d_E_clear_7 : decode b_E_clear 7 = .ok (.new 45, 3) := by decide +kernel
theorem d_E_clear_10 : decode b_E_clear 10 = .ok (.dup, 1) := by decide +kernel
theorem d_E_clear_11 : decode b_E_clear 11 = .ok (.invokespecial 47, 3) := by decide +kernel
theorem d_E_clear_14 : decode b_E_clear 14 = .ok (.athrow, 1) := by decide +kernel
theorem d_E_clear_15 : decode b_E_clear 15 = .ok (.aload_n 0, 1) := by decide +kernel
theorem d_E_clear_16 : decode b_E_clear 16 = .ok (.getfield 11, 3) := by decide +kernel
theorem d_E_clear_19 : decode b_E_clear 19 = .ok (.iload_n 1, 1) := by decide +kernel
theorem d_E_clear_20 : decode b_E_clear 20 = .ok (.aaload, 1) := by decide +kernel
theorem d_E_clear_21 : decode b_E_clear 21 = .ok (.getfield 56, 3) := by decide +kernel
theorem d_E_clear_24 : decode b_E_clear 24 = .ok (.istore_n 2, 1) := by decide +kernel
theorem d_E_clear_25 : decode b_E_clear 25 = .ok (.aload_n 0, 1) := by decide +kernel
theorem d_E_clear_26 : decode b_E_clear 26 = .ok (.getfield 11, 3) := by decide +kernel
theorem d_E_clear_29 : decode b_E_clear 29 = .ok (.iload_n 1, 1) := by decide +kernel
theorem d_E_clear_30 : decode b_E_clear 30 = .ok (.aaload, 1) := by decide +kernel
theorem d_E_clear_31 : decode b_E_clear 31 = .ok (.iconst 0, 1) := by decide +kernel
theorem d_E_clear_32 : decode b_E_clear 32 = .ok (.putfield 56, 3) := by decide +kernel
theorem d_E_clear_35 : decode b_E_clear 35 = .ok (.aload_n 0, 1) := by decide +kernel
theorem d_E_clear_36 : decode b_E_clear 36 = .ok (.iconst 1, 1) := by decide +kernel
theorem d_E_clear_37 : decode b_E_clear 37 = .ok (.putfield 34, 3) := by decide +kernel
theorem d_E_clear_40 : decode b_E_clear 40 = .ok (.iload_n 2, 1) := by decide +kernel
theorem d_E_clear_41 : decode b_E_clear 41 = .ok (.ireturn, 1) := by decide +kernel
theorem d_E_shown_0 : decode b_E_shown 0 = .ok (.iload_n 1, 1) := by decide +kernel
theorem d_E_shown_1 : decode b_E_shown 1 = .ok (.ifCond .lt (20), 3) := by decide +kernel
theorem d_E_shown_4 : decode b_E_shown 4 = .ok (.iload_n 1, 1) := by decide +kernel
theorem d_E_shown_5 : decode b_E_shown 5 = .ok (.bipush (32), 2) := by decide +kernel
theorem d_E_shown_7 : decode b_E_shown 7 = .ok (.if_icmp .ge (14), 3) := by decide +kernel
theorem d_E_shown_10 : decode b_E_shown 10 = .ok (.iload_n 1, 1) := by decide +kernel
theorem d_E_shown_11 : decode b_E_shown 11 = .ok (.aload_n 0, 1) := by decide +kernel
theorem d_E_shown_12 : decode b_E_shown 12 = .ok (.getfield 30, 3) := by decide +kernel
theorem d_E_shown_15 : decode b_E_shown 15 = .ok (.getfield 73, 3) := by decide +kernel
theorem d_E_shown_18 : decode b_E_shown 18 = .ok (.if_icmp .lt (11), 3) := by decide +kernel
theorem d_E_shown_21 : decode b_E_shown 21 = .ok (.new 76, 3) := by decide +kernel
theorem d_E_shown_24 : decode b_E_shown 24 = .ok (.dup, 1) := by decide +kernel
theorem d_E_shown_25 : decode b_E_shown 25 = .ok (.invokespecial 78, 3) := by decide +kernel
theorem d_E_shown_28 : decode b_E_shown 28 = .ok (.athrow, 1) := by decide +kernel
theorem d_E_shown_29 : decode b_E_shown 29 = .ok (.aload_n 0, 1) := by decide +kernel
theorem d_E_shown_30 : decode b_E_shown 30 = .ok (.getfield 30, 3) := by decide +kernel
theorem d_E_shown_33 : decode b_E_shown 33 = .ok (.getfield 79, 3) := by decide +kernel
theorem d_E_shown_36 : decode b_E_shown 36 = .ok (.iload_n 1, 1) := by decide +kernel
theorem d_E_shown_37 : decode b_E_shown 37 = .ok (.iaload, 1) := by decide +kernel
theorem d_E_shown_38 : decode b_E_shown 38 = .ok (.ireturn, 1) := by decide +kernel
end
section
/-! decode rows (written by program) -/
theorem d_M_go_0 : decode b_M_go 0 = .ok (.aload_n 0, 1) := by decide +kernel
theorem d_M_go_1 : decode b_M_go 1 = .ok (.invokevirtual 61, 3) := by decide +kernel
theorem d_M_go_4 : decode b_M_go 4 = .ok (.iconst 0, 1) := by decide +kernel
theorem d_M_go_5 : decode b_M_go 5 = .ok (.istore 4, 2) := by decide +kernel
theorem d_M_go_7 : decode b_M_go 7 = .ok (.iload 4, 2) := by decide +kernel
theorem d_M_go_9 : decode b_M_go 9 = .ok (.sipush (802), 3) := by decide +kernel
theorem d_M_go_12 : decode b_M_go 12 = .ok (.if_icmp .ge (135), 3) := by decide +kernel
theorem d_M_go_15 : decode b_M_go 15 = .ok (.aload_n 0, 1) := by decide +kernel
theorem d_M_go_16 : decode b_M_go 16 = .ok (.getfield 39, 3) := by decide +kernel
theorem d_M_go_19 : decode b_M_go 19 = .ok (.ifCond .le (128), 3) := by decide +kernel
theorem d_M_go_22 : decode b_M_go 22 = .ok (.aload_n 0, 1) := by decide +kernel
theorem d_M_go_23 : decode b_M_go 23 = .ok (.getfield 46, 3) := by decide +kernel
theorem d_M_go_26 : decode b_M_go 26 = .ok (.ifCond .ne (121), 3) := by decide +kernel
theorem d_M_go_29 : decode b_M_go 29 = .ok (.aload_n 0, 1) := by decide +kernel
theorem d_M_go_30 : decode b_M_go 30 = .ok (.getfield 39, 3) := by decide +kernel
theorem d_M_go_33 : decode b_M_go 33 = .ok (.iconst 1, 1) := by decide +kernel
theorem d_M_go_34 : decode b_M_go 34 = .ok (.isub, 1) := by decide +kernel
theorem d_M_go_35 : decode b_M_go 35 = .ok (.istore 5, 2) := by decide +kernel
theorem d_M_go_37 : decode b_M_go 37 = .ok (.aload_n 0, 1) := by decide +kernel
theorem d_M_go_38 : decode b_M_go 38 = .ok (.getfield 24, 3) := by decide +kernel
theorem d_M_go_41 : decode b_M_go 41 = .ok (.iload 5, 2) := by decide +kernel
theorem d_M_go_43 : decode b_M_go 43 = .ok (.iaload, 1) := by decide +kernel
theorem d_M_go_44 : decode b_M_go 44 = .ok (.istore 6, 2) := by decide +kernel
theorem d_M_go_46 : decode b_M_go 46 = .ok (.aload_n 0, 1) := by decide +kernel
theorem d_M_go_47 : decode b_M_go 47 = .ok (.getfield 27, 3) := by decide +kernel
theorem d_M_go_50 : decode b_M_go 50 = .ok (.iload 5, 2) := by decide +kernel
theorem d_M_go_52 : decode b_M_go 52 = .ok (.iaload, 1) := by decide +kernel
theorem d_M_go_53 : decode b_M_go 53 = .ok (.istore 7, 2) := by decide +kernel
theorem d_M_go_55 : decode b_M_go 55 = .ok (.aload_n 1, 1) := by decide +kernel
theorem d_M_go_56 : decode b_M_go 56 = .ok (.iload 6, 2) := by decide +kernel
theorem d_M_go_58 : decode b_M_go 58 = .ok (.aaload, 1) := by decide +kernel
theorem d_M_go_59 : decode b_M_go 59 = .ok (.iload 7, 2) := by decide +kernel
theorem d_M_go_61 : decode b_M_go 61 = .ok (.invokevirtual 64, 3) := by decide +kernel
theorem d_M_go_64 : decode b_M_go 64 = .ok (.ifCond .ne (11), 3) := by decide +kernel
theorem d_M_go_67 : decode b_M_go 67 = .ok (.aload_n 0, 1) := by decide +kernel
theorem d_M_go_68 : decode b_M_go 68 = .ok (.iconst 0, 1) := by decide +kernel
theorem d_M_go_69 : decode b_M_go 69 = .ok (.invokevirtual 70, 3) := by decide +kernel
theorem d_M_go_72 : decode b_M_go 72 = .ok (.goto (69), 3) := by decide +kernel
theorem d_M_go_75 : decode b_M_go 75 = .ok (.aload_n 0, 1) := by decide +kernel
theorem d_M_go_76 : decode b_M_go 76 = .ok (.getfield 52, 3) := by decide +kernel
theorem d_M_go_79 : decode b_M_go 79 = .ok (.sipush (400), 3) := by decide +kernel
theorem d_M_go_82 : decode b_M_go 82 = .ok (.if_icmp .lt (11), 3) := by decide +kernel
theorem d_M_go_85 : decode b_M_go 85 = .ok (.aload_n 0, 1) := by decide +kernel
theorem d_M_go_86 : decode b_M_go 86 = .ok (.iconst 4, 1) := by decide +kernel
theorem d_M_go_87 : decode b_M_go 87 = .ok (.putfield 46, 3) := by decide +kernel
theorem d_M_go_90 : decode b_M_go 90 = .ok (.goto (51), 3) := by decide +kernel
theorem d_M_go_93 : decode b_M_go 93 = .ok (.aload_n 0, 1) := by decide +kernel
theorem d_M_go_94 : decode b_M_go 94 = .ok (.dup, 1) := by decide +kernel
theorem d_M_go_95 : decode b_M_go 95 = .ok (.getfield 52, 3) := by decide +kernel
theorem d_M_go_98 : decode b_M_go 98 = .ok (.iconst 1, 1) := by decide +kernel
theorem d_M_go_99 : decode b_M_go 99 = .ok (.iadd, 1) := by decide +kernel
theorem d_M_go_100 : decode b_M_go 100 = .ok (.putfield 52, 3) := by decide +kernel
theorem d_M_go_103 : decode b_M_go 103 = .ok (.aload_n 0, 1) := by decide +kernel
theorem d_M_go_104 : decode b_M_go 104 = .ok (.getfield 27, 3) := by decide +kernel
theorem d_M_go_107 : decode b_M_go 107 = .ok (.iload 5, 2) := by decide +kernel
theorem d_M_go_109 : decode b_M_go 109 = .ok (.iload 7, 2) := by decide +kernel
theorem d_M_go_111 : decode b_M_go 111 = .ok (.iconst 1, 1) := by decide +kernel
theorem d_M_go_112 : decode b_M_go 112 = .ok (.iadd, 1) := by decide +kernel
theorem d_M_go_113 : decode b_M_go 113 = .ok (.iastore, 1) := by decide +kernel
theorem d_M_go_114 : decode b_M_go 114 = .ok (.aload_n 0, 1) := by decide +kernel
theorem d_M_go_115 : decode b_M_go 115 = .ok (.aload_n 1, 1) := by decide +kernel
theorem d_M_go_116 : decode b_M_go 116 = .ok (.iload 6, 2) := by decide +kernel
theorem d_M_go_118 : decode b_M_go 118 = .ok (.iload 7, 2) := by decide +kernel
theorem d_M_go_120 : decode b_M_go 120 = .ok (.iload_n 3, 1) := by decide +kernel
theorem d_M_go_121 : decode b_M_go 121 = .ok (.ifCond .eq (16), 3) := by decide +kernel
theorem d_M_go_124 : decode b_M_go 124 = .ok (.aload_n 2, 1) := by decide +kernel
theorem d_M_go_125 : decode b_M_go 125 = .ok (.iload 6, 2) := by decide +kernel
theorem d_M_go_127 : decode b_M_go 127 = .ok (.aaload, 1) := by decide +kernel
theorem d_M_go_128 : decode b_M_go 128 = .ok (.getfield 74, 3) := by decide +kernel
theorem d_M_go_131 : decode b_M_go 131 = .ok (.iload 7, 2) := by decide +kernel
theorem d_M_go_133 : decode b_M_go 133 = .ok (.iaload, 1) := by decide +kernel
theorem d_M_go_134 : decode b_M_go 134 = .ok (.goto (4), 3) := by decide +kernel
theorem d_M_go_137 : decode b_M_go 137 = .ok (.iconst 0, 1) := by decide +kernel
theorem d_M_go_138 : decode b_M_go 138 = .ok (.invokevirtual 79, 3) := by decide +kernel
theorem d_M_go_141 : decode b_M_go 141 = .ok (.iinc 4 (1), 3) := by decide +kernel
theorem d_M_go_144 : decode b_M_go 144 = .ok (.goto (-137), 3) := by decide +kernel
theorem d_M_go_147 : decode b_M_go 147 = .ok (.aload_n 0, 1) := by decide +kernel
theorem d_M_go_148 : decode b_M_go 148 = .ok (.getfield 46, 3) := by decide +kernel
theorem d_M_go_151 : decode b_M_go 151 = .ok (.ireturn, 1) := by decide +kernel
theorem d_M_begin_0 : decode b_M_begin 0 = .ok (.aload_n 0, 1) := by decide +kernel
theorem d_M_begin_1 : decode b_M_begin 1 = .ok (.getfield 21, 3) := by decide +kernel
theorem d_M_begin_4 : decode b_M_begin 4 = .ok (.iconst 0, 1) := by decide +kernel
theorem d_M_begin_5 : decode b_M_begin 5 = .ok (.invokestatic 83, 3) := by decide +kernel
theorem d_M_begin_8 : decode b_M_begin 8 = .ok (.aload_n 0, 1) := by decide +kernel
theorem d_M_begin_9 : decode b_M_begin 9 = .ok (.iconst 0, 1) := by decide +kernel
theorem d_M_begin_10 : decode b_M_begin 10 = .ok (.putfield 46, 3) := by decide +kernel
theorem d_M_begin_13 : decode b_M_begin 13 = .ok (.aload_n 0, 1) := by decide +kernel
theorem d_M_begin_14 : decode b_M_begin 14 = .ok (.iconst 0, 1) := by decide +kernel
theorem d_M_begin_15 : decode b_M_begin 15 = .ok (.putfield 49, 3) := by decide +kernel
theorem d_M_begin_18 : decode b_M_begin 18 = .ok (.aload_n 0, 1) := by decide +kernel
theorem d_M_begin_19 : decode b_M_begin 19 = .ok (.iconst 0, 1) := by decide +kernel
theorem d_M_begin_20 : decode b_M_begin 20 = .ok (.putfield 52, 3) := by decide +kernel
theorem d_M_begin_23 : decode b_M_begin 23 = .ok (.aload_n 0, 1) := by decide +kernel
theorem d_M_begin_24 : decode b_M_begin 24 = .ok (.iconst 0, 1) := by decide +kernel
theorem d_M_begin_25 : decode b_M_begin 25 = .ok (.putfield 55, 3) := by decide +kernel
theorem d_M_begin_28 : decode b_M_begin 28 = .ok (.aload_n 0, 1) := by decide +kernel
theorem d_M_begin_29 : decode b_M_begin 29 = .ok (.iconst 0, 1) := by decide +kernel
theorem d_M_begin_30 : decode b_M_begin 30 = .ok (.putfield 58, 3) := by decide +kernel
theorem d_M_begin_33 : decode b_M_begin 33 = .ok (.aload_n 0, 1) := by decide +kernel
theorem d_M_begin_34 : decode b_M_begin 34 = .ok (.iconst 0, 1) := by decide +kernel
theorem d_M_begin_35 : decode b_M_begin 35 = .ok (.putfield 39, 3) := by decide +kernel
theorem d_M_begin_38 : decode b_M_begin 38 = .ok (.aload_n 0, 1) := by decide +kernel
theorem d_M_begin_39 : decode b_M_begin 39 = .ok (.iconst 0, 1) := by decide +kernel
theorem d_M_begin_40 : decode b_M_begin 40 = .ok (.iconst 0, 1) := by decide +kernel
theorem d_M_begin_41 : decode b_M_begin 41 = .ok (.iconst 0, 1) := by decide +kernel
theorem d_M_begin_42 : decode b_M_begin 42 = .ok (.iconst 0, 1) := by decide +kernel
theorem d_M_begin_43 : decode b_M_begin 43 = .ok (.invokevirtual 89, 3) := by decide +kernel
theorem d_M_begin_46 : decode b_M_begin 46 = .ok (.return_, 1) := by decide +kernel
theorem d_M_enter_0 : decode b_M_enter 0 = .ok (.aload_n 0, 1) := by decide +kernel
theorem d_M_enter_1 : decode b_M_enter 1 = .ok (.getfield 24, 3) := by decide +kernel
theorem d_M_enter_4 : decode b_M_enter 4 = .ok (.aload_n 0, 1) := by decide +kernel
theorem d_M_enter_5 : decode b_M_enter 5 = .ok (.getfield 39, 3) := by decide +kernel
theorem d_M_enter_8 : decode b_M_enter 8 = .ok (.iload_n 1, 1) := by decide +kernel
theorem d_M_enter_9 : decode b_M_enter 9 = .ok (.iastore, 1) := by decide +kernel
theorem d_M_enter_10 : decode b_M_enter 10 = .ok (.aload_n 0, 1) := by decide +kernel
theorem d_M_enter_11 : decode b_M_enter 11 = .ok (.getfield 27, 3) := by decide +kernel
theorem d_M_enter_14 : decode b_M_enter 14 = .ok (.aload_n 0, 1) := by decide +kernel
theorem d_M_enter_15 : decode b_M_enter 15 = .ok (.getfield 39, 3) := by decide +kernel
theorem d_M_enter_18 : decode b_M_enter 18 = .ok (.iconst 0, 1) := by decide +kernel
theorem d_M_enter_19 : decode b_M_enter 19 = .ok (.iastore, 1) := by decide +kernel
theorem d_M_enter_20 : decode b_M_enter 20 = .ok (.aload_n 0, 1) := by decide +kernel
theorem d_M_enter_21 : decode b_M_enter 21 = .ok (.getfield 30, 3) := by decide +kernel
theorem d_M_enter_24 : decode b_M_enter 24 = .ok (.aload_n 0, 1) := by decide +kernel
theorem d_M_enter_25 : decode b_M_enter 25 = .ok (.getfield 39, 3) := by decide +kernel
theorem d_M_enter_28 : decode b_M_enter 28 = .ok (.iload_n 2, 1) := by decide +kernel
theorem d_M_enter_29 : decode b_M_enter 29 = .ok (.iastore, 1) := by decide +kernel
theorem d_M_enter_30 : decode b_M_enter 30 = .ok (.aload_n 0, 1) := by decide +kernel
theorem d_M_enter_31 : decode b_M_enter 31 = .ok (.dup, 1) := by decide +kernel
theorem d_M_enter_32 : decode b_M_enter 32 = .ok (.getfield 39, 3) := by decide +kernel
theorem d_M_enter_35 : decode b_M_enter 35 = .ok (.iconst 1, 1) := by decide +kernel
theorem d_M_enter_36 : decode b_M_enter 36 = .ok (.iadd, 1) := by decide +kernel
theorem d_M_enter_37 : decode b_M_enter 37 = .ok (.putfield 39, 3) := by decide +kernel
theorem d_M_enter_40 : decode b_M_enter 40 = .ok (.aload_n 0, 1) := by decide +kernel
theorem d_M_enter_41 : decode b_M_enter 41 = .ok (.invokevirtual 124, 3) := by decide +kernel
theorem d_M_enter_44 : decode b_M_enter 44 = .ok (.istore 5, 2) := by decide +kernel
theorem d_M_enter_46 : decode b_M_enter 46 = .ok (.iconst 0, 1) := by decide +kernel
theorem d_M_enter_47 : decode b_M_enter 47 = .ok (.istore 6, 2) := by decide +kernel
theorem d_M_enter_49 : decode b_M_enter 49 = .ok (.iload 6, 2) := by decide +kernel
theorem d_M_enter_51 : decode b_M_enter 51 = .ok (.iconst 4, 1) := by decide +kernel
theorem d_M_enter_52 : decode b_M_enter 52 = .ok (.if_icmp .ge (31), 3) := by decide +kernel
theorem d_M_enter_55 : decode b_M_enter 55 = .ok (.aload_n 0, 1) := by decide +kernel
theorem d_M_enter_56 : decode b_M_enter 56 = .ok (.getfield 33, 3) := by decide +kernel
theorem d_M_enter_59 : decode b_M_enter 59 = .ok (.iload 5, 2) := by decide +kernel
theorem d_M_enter_61 : decode b_M_enter 61 = .ok (.iload 6, 2) := by decide +kernel
theorem d_M_enter_63 : decode b_M_enter 63 = .ok (.iadd, 1) := by decide +kernel
theorem d_M_enter_64 : decode b_M_enter 64 = .ok (.iconst 0, 1) := by decide +kernel
theorem d_M_enter_65 : decode b_M_enter 65 = .ok (.iastore, 1) := by decide +kernel
theorem d_M_enter_66 : decode b_M_enter 66 = .ok (.aload_n 0, 1) := by decide +kernel
theorem d_M_enter_67 : decode b_M_enter 67 = .ok (.getfield 36, 3) := by decide +kernel
theorem d_M_enter_70 : decode b_M_enter 70 = .ok (.iload 5, 2) := by decide +kernel
theorem d_M_enter_72 : decode b_M_enter 72 = .ok (.iload 6, 2) := by decide +kernel
theorem d_M_enter_74 : decode b_M_enter 74 = .ok (.iadd, 1) := by decide +kernel
theorem d_M_enter_75 : decode b_M_enter 75 = .ok (.iconst 0, 1) := by decide +kernel
theorem d_M_enter_76 : decode b_M_enter 76 = .ok (.iastore, 1) := by decide +kernel
theorem d_M_enter_77 : decode b_M_enter 77 = .ok (.iinc 6 (1), 3) := by decide +kernel
theorem d_M_enter_80 : decode b_M_enter 80 = .ok (.goto (-31), 3) := by decide +kernel
theorem d_M_enter_83 : decode b_M_enter 83 = .ok (.aload_n 0, 1) := by decide +kernel
theorem d_M_enter_84 : decode b_M_enter 84 = .ok (.getfield 33, 3) := by decide +kernel
theorem d_M_enter_87 : decode b_M_enter 87 = .ok (.iload 5, 2) := by decide +kernel
theorem d_M_enter_89 : decode b_M_enter 89 = .ok (.iload_n 3, 1) := by decide +kernel
theorem d_M_enter_90 : decode b_M_enter 90 = .ok (.iastore, 1) := by decide +kernel
theorem d_M_enter_91 : decode b_M_enter 91 = .ok (.aload_n 0, 1) := by decide +kernel
theorem d_M_enter_92 : decode b_M_enter 92 = .ok (.getfield 33, 3) := by decide +kernel
theorem d_M_enter_95 : decode b_M_enter 95 = .ok (.iload 5, 2) := by decide +kernel
theorem d_M_enter_97 : decode b_M_enter 97 = .ok (.iconst 1, 1) := by decide +kernel
theorem d_M_enter_98 : decode b_M_enter 98 = .ok (.iadd, 1) := by decide +kernel
theorem d_M_enter_99 : decode b_M_enter 99 = .ok (.iload 4, 2) := by decide +kernel
theorem d_M_enter_101 : decode b_M_enter 101 = .ok (.iastore, 1) := by decide +kernel
theorem d_M_enter_102 : decode b_M_enter 102 = .ok (.return_, 1) := by decide +kernel
theorem d_M_base_0 : decode b_M_base 0 = .ok (.aload_n 0, 1) := by decide +kernel
theorem d_M_base_1 : decode b_M_base 1 = .ok (.getfield 39, 3) := by decide +kernel
theorem d_M_base_4 : decode b_M_base 4 = .ok (.iconst 1, 1) := by decide +kernel
theorem d_M_base_5 : decode b_M_base 5 = .ok (.isub, 1) := by decide +kernel
theorem d_M_base_6 : decode b_M_base 6 = .ok (.iconst 4, 1) := by decide +kernel
theorem d_M_base_7 : decode b_M_base 7 = .ok (.imul, 1) := by decide +kernel
theorem d_M_base_8 : decode b_M_base 8 = .ok (.ireturn, 1) := by decide +kernel
theorem d_M_leave_0 : decode b_M_leave 0 = .ok (.aload_n 0, 1) := by decide +kernel
theorem d_M_leave_1 : decode b_M_leave 1 = .ok (.dup, 1) := by decide +kernel
theorem d_M_leave_2 : decode b_M_leave 2 = .ok (.getfield 39, 3) := by decide +kernel
theorem d_M_leave_5 : decode b_M_leave 5 = .ok (.iconst 1, 1) := by decide +kernel
theorem d_M_leave_6 : decode b_M_leave 6 = .ok (.isub, 1) := by decide +kernel
theorem d_M_leave_7 : decode b_M_leave 7 = .ok (.putfield 39, 3) := by decide +kernel
theorem d_M_leave_10 : decode b_M_leave 10 = .ok (.aload_n 0, 1) := by decide +kernel
theorem d_M_leave_11 : decode b_M_leave 11 = .ok (.getfield 39, 3) := by decide +kernel
theorem d_M_leave_14 : decode b_M_leave 14 = .ok (.ifCond .le (23), 3) := by decide +kernel
theorem d_M_leave_17 : decode b_M_leave 17 = .ok (.aload_n 0, 1) := by decide +kernel
theorem d_M_leave_18 : decode b_M_leave 18 = .ok (.getfield 33, 3) := by decide +kernel
theorem d_M_leave_21 : decode b_M_leave 21 = .ok (.aload_n 0, 1) := by decide +kernel
theorem d_M_leave_22 : decode b_M_leave 22 = .ok (.invokevirtual 124, 3) := by decide +kernel
theorem d_M_leave_25 : decode b_M_leave 25 = .ok (.aload_n 0, 1) := by decide +kernel
theorem d_M_leave_26 : decode b_M_leave 26 = .ok (.getfield 30, 3) := by decide +kernel
theorem d_M_leave_29 : decode b_M_leave 29 = .ok (.aload_n 0, 1) := by decide +kernel
theorem d_M_leave_30 : decode b_M_leave 30 = .ok (.getfield 39, 3) := by decide +kernel
theorem d_M_leave_33 : decode b_M_leave 33 = .ok (.iaload, 1) := by decide +kernel
theorem d_M_leave_34 : decode b_M_leave 34 = .ok (.iadd, 1) := by decide +kernel
theorem d_M_leave_35 : decode b_M_leave 35 = .ok (.iload_n 1, 1) := by decide +kernel
theorem d_M_leave_36 : decode b_M_leave 36 = .ok (.iastore, 1) := by decide +kernel
theorem d_M_leave_37 : decode b_M_leave 37 = .ok (.return_, 1) := by decide +kernel
theorem d_M_perform_0 : decode b_M_perform 0 = .ok (.aload_n 1, 1) := by decide +kernel
theorem d_M_perform_1 : decode b_M_perform 1 = .ok (.iload_n 2, 1) := by decide +kernel
theorem d_M_perform_2 : decode b_M_perform 2 = .ok (.aaload, 1) := by decide +kernel
theorem d_M_perform_3 : decode b_M_perform 3 = .ok (.getfield 93, 3) := by decide +kernel
theorem d_M_perform_6 : decode b_M_perform 6 = .ok (.iload_n 3, 1) := by decide +kernel
theorem d_M_perform_7 : decode b_M_perform 7 = .ok (.iaload, 1) := by decide +kernel
theorem d_M_perform_8 : decode b_M_perform 8 = .ok (.istore 5, 2) := by decide +kernel
theorem d_M_perform_10 : decode b_M_perform 10 = .ok (.aload_n 1, 1) := by decide +kernel
theorem d_M_perform_11 : decode b_M_perform 11 = .ok (.iload_n 2, 1) := by decide +kernel
theorem d_M_perform_12 : decode b_M_perform 12 = .ok (.aaload, 1) := by decide +kernel
theorem d_M_perform_13 : decode b_M_perform 13 = .ok (.getfield 96, 3) := by decide +kernel
theorem d_M_perform_16 : decode b_M_perform 16 = .ok (.iload_n 3, 1) := by decide +kernel
theorem d_M_perform_17 : decode b_M_perform 17 = .ok (.iaload, 1) := by decide +kernel
theorem d_M_perform_18 : decode b_M_perform 18 = .ok (.istore 6, 2) := by decide +kernel
theorem d_M_perform_20 : decode b_M_perform 20 = .ok (.aload_n 1, 1) := by decide +kernel
theorem d_M_perform_21 : decode b_M_perform 21 = .ok (.iload_n 2, 1) := by decide +kernel
theorem d_M_perform_22 : decode b_M_perform 22 = .ok (.aaload, 1) := by decide +kernel
theorem d_M_perform_23 : decode b_M_perform 23 = .ok (.getfield 99, 3) := by decide +kernel
theorem d_M_perform_26 : decode b_M_perform 26 = .ok (.iload_n 3, 1) := by decide +kernel
theorem d_M_perform_27 : decode b_M_perform 27 = .ok (.iaload, 1) := by decide +kernel
theorem d_M_perform_28 : decode b_M_perform 28 = .ok (.istore 7, 2) := by decide +kernel
theorem d_M_perform_30 : decode b_M_perform 30 = .ok (.iload 5, 2) := by decide +kernel
theorem d_M_perform_32 : decode b_M_perform 32 = .ok (.tableswitch (279) (0) (17) #[245, 279, 279, 88, 115, 88, 115, 279, 279, 279, 142, 142, 279, 279, 186, 208, 163, 173], 88) := by decide +kernel
theorem d_M_perform_120 : decode b_M_perform 120 = .ok (.aload_n 0, 1) := by decide +kernel
theorem d_M_perform_121 : decode b_M_perform 121 = .ok (.iload 5, 2) := by decide +kernel
theorem d_M_perform_123 : decode b_M_perform 123 = .ok (.iload 6, 2) := by decide +kernel
theorem d_M_perform_125 : decode b_M_perform 125 = .ok (.iload 7, 2) := by decide +kernel
theorem d_M_perform_127 : decode b_M_perform 127 = .ok (.aload_n 1, 1) := by decide +kernel
theorem d_M_perform_128 : decode b_M_perform 128 = .ok (.iload_n 2, 1) := by decide +kernel
theorem d_M_perform_129 : decode b_M_perform 129 = .ok (.aaload, 1) := by decide +kernel
theorem d_M_perform_130 : decode b_M_perform 130 = .ok (.getfield 102, 3) := by decide +kernel
theorem d_M_perform_133 : decode b_M_perform 133 = .ok (.iload_n 3, 1) := by decide +kernel
theorem d_M_perform_134 : decode b_M_perform 134 = .ok (.iaload, 1) := by decide +kernel
theorem d_M_perform_135 : decode b_M_perform 135 = .ok (.aload_n 0, 1) := by decide +kernel
theorem d_M_perform_136 : decode b_M_perform 136 = .ok (.iload 7, 2) := by decide +kernel
theorem d_M_perform_138 : decode b_M_perform 138 = .ok (.invokevirtual 105, 3) := by decide +kernel
theorem d_M_perform_141 : decode b_M_perform 141 = .ok (.invokevirtual 109, 3) := by decide +kernel
theorem d_M_perform_144 : decode b_M_perform 144 = .ok (.goto (175), 3) := by decide +kernel
theorem d_M_perform_147 : decode b_M_perform 147 = .ok (.aload_n 0, 1) := by decide +kernel
theorem d_M_perform_148 : decode b_M_perform 148 = .ok (.iload 5, 2) := by decide +kernel
theorem d_M_perform_150 : decode b_M_perform 150 = .ok (.iload 6, 2) := by decide +kernel
theorem d_M_perform_152 : decode b_M_perform 152 = .ok (.iload 7, 2) := by decide +kernel
theorem d_M_perform_154 : decode b_M_perform 154 = .ok (.aload_n 1, 1) := by decide +kernel
theorem d_M_perform_155 : decode b_M_perform 155 = .ok (.iload_n 2, 1) := by decide +kernel
theorem d_M_perform_156 : decode b_M_perform 156 = .ok (.aaload, 1) := by decide +kernel
theorem d_M_perform_157 : decode b_M_perform 157 = .ok (.getfield 102, 3) := by decide +kernel
theorem d_M_perform_160 : decode b_M_perform 160 = .ok (.iload_n 3, 1) := by decide +kernel
theorem d_M_perform_161 : decode b_M_perform 161 = .ok (.iaload, 1) := by decide +kernel
theorem d_M_perform_162 : decode b_M_perform 162 = .ok (.aload_n 0, 1) := by decide +kernel
theorem d_M_perform_163 : decode b_M_perform 163 = .ok (.iload 6, 2) := by decide +kernel
theorem d_M_perform_165 : decode b_M_perform 165 = .ok (.invokevirtual 105, 3) := by decide +kernel
theorem d_M_perform_168 : decode b_M_perform 168 = .ok (.invokevirtual 109, 3) := by decide +kernel
theorem d_M_perform_171 : decode b_M_perform 171 = .ok (.goto (148), 3) := by decide +kernel
theorem d_M_perform_174 : decode b_M_perform 174 = .ok (.iload 4, 2) := by decide +kernel
theorem d_M_perform_176 : decode b_M_perform 176 = .ok (.iconst 2, 1) := by decide +kernel
theorem d_M_perform_177 : decode b_M_perform 177 = .ok (.if_icmp .eq (142), 3) := by decide +kernel
theorem d_M_perform_180 : decode b_M_perform 180 = .ok (.aload_n 0, 1) := by decide +kernel
theorem d_M_perform_181 : decode b_M_perform 181 = .ok (.iload 5, 2) := by decide +kernel
theorem d_M_perform_183 : decode b_M_perform 183 = .ok (.aload_n 0, 1) := by decide +kernel
theorem d_M_perform_184 : decode b_M_perform 184 = .ok (.iload 6, 2) := by decide +kernel
theorem d_M_perform_186 : decode b_M_perform 186 = .ok (.invokevirtual 105, 3) := by decide +kernel
theorem d_M_perform_189 : decode b_M_perform 189 = .ok (.invokevirtual 113, 3) := by decide +kernel
theorem d_M_perform_192 : decode b_M_perform 192 = .ok (.goto (127), 3) := by decide +kernel
theorem d_M_perform_195 : decode b_M_perform 195 = .ok (.aload_n 0, 1) := by decide +kernel
theorem d_M_perform_196 : decode b_M_perform 196 = .ok (.aload_n 1, 1) := by decide +kernel
theorem d_M_perform_197 : decode b_M_perform 197 = .ok (.iload_n 2, 1) := by decide +kernel
theorem d_M_perform_198 : decode b_M_perform 198 = .ok (.iload_n 3, 1) := by decide +kernel
theorem d_M_perform_199 : decode b_M_perform 199 = .ok (.invokevirtual 117, 3) := by decide +kernel
theorem d_M_perform_202 : decode b_M_perform 202 = .ok (.goto (117), 3) := by decide +kernel
theorem d_M_perform_205 : decode b_M_perform 205 = .ok (.aload_n 0, 1) := by decide +kernel
theorem d_M_perform_206 : decode b_M_perform 206 = .ok (.aload_n 0, 1) := by decide +kernel
theorem d_M_perform_207 : decode b_M_perform 207 = .ok (.iload 6, 2) := by decide +kernel
theorem d_M_perform_209 : decode b_M_perform 209 = .ok (.invokevirtual 105, 3) := by decide +kernel
theorem d_M_perform_212 : decode b_M_perform 212 = .ok (.invokevirtual 70, 3) := by decide +kernel
theorem d_M_perform_215 : decode b_M_perform 215 = .ok (.goto (104), 3) := by decide +kernel
theorem d_M_perform_218 : decode b_M_perform 218 = .ok (.aload_n 0, 1) := by decide +kernel
theorem d_M_perform_219 : decode b_M_perform 219 = .ok (.getfield 27, 3) := by decide +kernel
theorem d_M_perform_222 : decode b_M_perform 222 = .ok (.aload_n 0, 1) := by decide +kernel
theorem d_M_perform_223 : decode b_M_perform 223 = .ok (.getfield 39, 3) := by decide +kernel
theorem d_M_perform_226 : decode b_M_perform 226 = .ok (.iconst 1, 1) := by decide +kernel
theorem d_M_perform_227 : decode b_M_perform 227 = .ok (.isub, 1) := by decide +kernel
theorem d_M_perform_228 : decode b_M_perform 228 = .ok (.aload_n 1, 1) := by decide +kernel
theorem d_M_perform_229 : decode b_M_perform 229 = .ok (.iload_n 2, 1) := by decide +kernel
theorem d_M_perform_230 : decode b_M_perform 230 = .ok (.aaload, 1) := by decide +kernel
theorem d_M_perform_231 : decode b_M_perform 231 = .ok (.getfield 121, 3) := by decide +kernel
theorem d_M_perform_234 : decode b_M_perform 234 = .ok (.iload_n 3, 1) := by decide +kernel
theorem d_M_perform_235 : decode b_M_perform 235 = .ok (.iaload, 1) := by decide +kernel
theorem d_M_perform_236 : decode b_M_perform 236 = .ok (.iastore, 1) := by decide +kernel
theorem d_M_perform_237 : decode b_M_perform 237 = .ok (.goto (82), 3) := by decide +kernel
theorem d_M_perform_240 : decode b_M_perform 240 = .ok (.aload_n 0, 1) := by decide +kernel
theorem d_M_perform_241 : decode b_M_perform 241 = .ok (.getfield 36, 3) := by decide +kernel
theorem d_M_perform_244 : decode b_M_perform 244 = .ok (.aload_n 0, 1) := by decide +kernel
theorem d_M_perform_245 : decode b_M_perform 245 = .ok (.invokevirtual 124, 3) := by decide +kernel
theorem d_M_perform_248 : decode b_M_perform 248 = .ok (.iload 6, 2) := by decide +kernel
theorem d_M_perform_250 : decode b_M_perform 250 = .ok (.iadd, 1) := by decide +kernel
theorem d_M_perform_251 : decode b_M_perform 251 = .ok (.iaload, 1) := by decide +kernel
theorem d_M_perform_252 : decode b_M_perform 252 = .ok (.ifCond .ne (67), 3) := by decide +kernel
theorem d_M_perform_255 : decode b_M_perform 255 = .ok (.aload_n 0, 1) := by decide +kernel
theorem d_M_perform_256 : decode b_M_perform 256 = .ok (.getfield 27, 3) := by decide +kernel
theorem d_M_perform_259 : decode b_M_perform 259 = .ok (.aload_n 0, 1) := by decide +kernel
theorem d_M_perform_260 : decode b_M_perform 260 = .ok (.getfield 39, 3) := by decide +kernel
theorem d_M_perform_263 : decode b_M_perform 263 = .ok (.iconst 1, 1) := by decide +kernel
theorem d_M_perform_264 : decode b_M_perform 264 = .ok (.isub, 1) := by decide +kernel
theorem d_M_perform_265 : decode b_M_perform 265 = .ok (.aload_n 1, 1) := by decide +kernel
theorem d_M_perform_266 : decode b_M_perform 266 = .ok (.iload_n 2, 1) := by decide +kernel
theorem d_M_perform_267 : decode b_M_perform 267 = .ok (.aaload, 1) := by decide +kernel
theorem d_M_perform_268 : decode b_M_perform 268 = .ok (.getfield 121, 3) := by decide +kernel
theorem d_M_perform_271 : decode b_M_perform 271 = .ok (.iload_n 3, 1) := by decide +kernel
theorem d_M_perform_272 : decode b_M_perform 272 = .ok (.iaload, 1) := by decide +kernel
theorem d_M_perform_273 : decode b_M_perform 273 = .ok (.iastore, 1) := by decide +kernel
theorem d_M_perform_274 : decode b_M_perform 274 = .ok (.goto (45), 3) := by decide +kernel
theorem d_M_perform_277 : decode b_M_perform 277 = .ok (.aload_n 0, 1) := by decide +kernel
theorem d_M_perform_278 : decode b_M_perform 278 = .ok (.getfield 33, 3) := by decide +kernel
theorem d_M_perform_281 : decode b_M_perform 281 = .ok (.aload_n 0, 1) := by decide +kernel
theorem d_M_perform_282 : decode b_M_perform 282 = .ok (.invokevirtual 124, 3) := by decide +kernel
theorem d_M_perform_285 : decode b_M_perform 285 = .ok (.iload 6, 2) := by decide +kernel
theorem d_M_perform_287 : decode b_M_perform 287 = .ok (.iadd, 1) := by decide +kernel
theorem d_M_perform_288 : decode b_M_perform 288 = .ok (.iload 4, 2) := by decide +kernel
theorem d_M_perform_290 : decode b_M_perform 290 = .ok (.iconst 1, 1) := by decide +kernel
theorem d_M_perform_291 : decode b_M_perform 291 = .ok (.if_icmp .ne (12), 3) := by decide +kernel
theorem d_M_perform_294 : decode b_M_perform 294 = .ok (.aload_n 0, 1) := by decide +kernel
theorem d_M_perform_295 : decode b_M_perform 295 = .ok (.iload 6, 2) := by decide +kernel
theorem d_M_perform_297 : decode b_M_perform 297 = .ok (.invokevirtual 128, 3) := by decide +kernel
theorem d_M_perform_300 : decode b_M_perform 300 = .ok (.goto (7), 3) := by decide +kernel
theorem d_M_perform_303 : decode b_M_perform 303 = .ok (.aload_n 0, 1) := by decide +kernel
theorem d_M_perform_304 : decode b_M_perform 304 = .ok (.invokevirtual 131, 3) := by decide +kernel
theorem d_M_perform_307 : decode b_M_perform 307 = .ok (.iastore, 1) := by decide +kernel
theorem d_M_perform_308 : decode b_M_perform 308 = .ok (.goto (11), 3) := by decide +kernel
theorem d_M_perform_311 : decode b_M_perform 311 = .ok (.aload_n 0, 1) := by decide +kernel
theorem d_M_perform_312 : decode b_M_perform 312 = .ok (.aload_n 1, 1) := by decide +kernel
theorem d_M_perform_313 : decode b_M_perform 313 = .ok (.iload_n 2, 1) := by decide +kernel
theorem d_M_perform_314 : decode b_M_perform 314 = .ok (.aaload, 1) := by decide +kernel
theorem d_M_perform_315 : decode b_M_perform 315 = .ok (.iload_n 3, 1) := by decide +kernel
theorem d_M_perform_316 : decode b_M_perform 316 = .ok (.invokevirtual 134, 3) := by decide +kernel
theorem d_M_perform_319 : decode b_M_perform 319 = .ok (.return_, 1) := by decide +kernel
theorem d_M_cellOf_0 : decode b_M_cellOf 0 = .ok (.aload_n 0, 1) := by decide +kernel
theorem d_M_cellOf_1 : decode b_M_cellOf 1 = .ok (.getfield 33, 3) := by decide +kernel
theorem d_M_cellOf_4 : decode b_M_cellOf 4 = .ok (.aload_n 0, 1) := by decide +kernel
theorem d_M_cellOf_5 : decode b_M_cellOf 5 = .ok (.invokevirtual 124, 3) := by decide +kernel
theorem d_M_cellOf_8 : decode b_M_cellOf 8 = .ok (.iload_n 1, 1) := by decide +kernel
theorem d_M_cellOf_9 : decode b_M_cellOf 9 = .ok (.iadd, 1) := by decide +kernel
theorem d_M_cellOf_10 : decode b_M_cellOf 10 = .ok (.iaload, 1) := by decide +kernel
theorem d_M_cellOf_11 : decode b_M_cellOf 11 = .ok (.ireturn, 1) := by decide +kernel
theorem d_M_workOnField_0 : decode b_M_workOnField 0 = .ok (.iload 5, 2) := by decide +kernel
theorem d_M_workOnField_2 : decode b_M_workOnField 2 = .ok (.ifCond .ne (9), 3) := by decide +kernel
theorem d_M_workOnField_5 : decode b_M_workOnField 5 = .ok (.aload_n 0, 1) := by decide +kernel
theorem d_M_workOnField_6 : decode b_M_workOnField 6 = .ok (.iconst 1, 1) := by decide +kernel
theorem d_M_workOnField_7 : decode b_M_workOnField 7 = .ok (.putfield 46, 3) := by decide +kernel
theorem d_M_workOnField_10 : decode b_M_workOnField 10 = .ok (.return_, 1) := by decide +kernel
theorem d_M_workOnField_11 : decode b_M_workOnField 11 = .ok (.aload_n 0, 1) := by decide +kernel
theorem d_M_workOnField_12 : decode b_M_workOnField 12 = .ok (.invokevirtual 124, 3) := by decide +kernel
theorem d_M_workOnField_15 : decode b_M_workOnField 15 = .ok (.istore 6, 2) := by decide +kernel
theorem d_M_workOnField_17 : decode b_M_workOnField 17 = .ok (.iload 5, 2) := by decide +kernel
theorem d_M_workOnField_19 : decode b_M_workOnField 19 = .ok (.iconst 2, 1) := by decide +kernel
theorem d_M_workOnField_20 : decode b_M_workOnField 20 = .ok (.imul, 1) := by decide +kernel
theorem d_M_workOnField_21 : decode b_M_workOnField 21 = .ok (.iload 4, 2) := by decide +kernel
theorem d_M_workOnField_23 : decode b_M_workOnField 23 = .ok (.iadd, 1) := by decide +kernel
theorem d_M_workOnField_24 : decode b_M_workOnField 24 = .ok (.istore 7, 2) := by decide +kernel
theorem d_M_workOnField_26 : decode b_M_workOnField 26 = .ok (.iload_n 1, 1) := by decide +kernel
theorem d_M_workOnField_27 : decode b_M_workOnField 27 = .ok (.iconst 3, 1) := by decide +kernel
theorem d_M_workOnField_28 : decode b_M_workOnField 28 = .ok (.if_icmp .ne (22), 3) := by decide +kernel
theorem d_M_workOnField_31 : decode b_M_workOnField 31 = .ok (.aload_n 0, 1) := by decide +kernel
theorem d_M_workOnField_32 : decode b_M_workOnField 32 = .ok (.getfield 33, 3) := by decide +kernel
theorem d_M_workOnField_35 : decode b_M_workOnField 35 = .ok (.iload 6, 2) := by decide +kernel
theorem d_M_workOnField_37 : decode b_M_workOnField 37 = .ok (.iload_n 2, 1) := by decide +kernel
theorem d_M_workOnField_38 : decode b_M_workOnField 38 = .ok (.iadd, 1) := by decide +kernel
theorem d_M_workOnField_39 : decode b_M_workOnField 39 = .ok (.aload_n 0, 1) := by decide +kernel
theorem d_M_workOnField_40 : decode b_M_workOnField 40 = .ok (.getfield 11, 3) := by decide +kernel
theorem d_M_workOnField_43 : decode b_M_workOnField 43 = .ok (.iload 7, 2) := by decide +kernel
theorem d_M_workOnField_45 : decode b_M_workOnField 45 = .ok (.iaload, 1) := by decide +kernel
theorem d_M_workOnField_46 : decode b_M_workOnField 46 = .ok (.iastore, 1) := by decide +kernel
theorem d_M_workOnField_47 : decode b_M_workOnField 47 = .ok (.goto (67), 3) := by decide +kernel
theorem d_M_workOnField_50 : decode b_M_workOnField 50 = .ok (.iload_n 1, 1) := by decide +kernel
theorem d_M_workOnField_51 : decode b_M_workOnField 51 = .ok (.iconst 5, 1) := by decide +kernel
theorem d_M_workOnField_52 : decode b_M_workOnField 52 = .ok (.if_icmp .ne (22), 3) := by decide +kernel
theorem d_M_workOnField_55 : decode b_M_workOnField 55 = .ok (.aload_n 0, 1) := by decide +kernel
theorem d_M_workOnField_56 : decode b_M_workOnField 56 = .ok (.getfield 36, 3) := by decide +kernel
theorem d_M_workOnField_59 : decode b_M_workOnField 59 = .ok (.iload 6, 2) := by decide +kernel
theorem d_M_workOnField_61 : decode b_M_workOnField 61 = .ok (.iload_n 2, 1) := by decide +kernel
theorem d_M_workOnField_62 : decode b_M_workOnField 62 = .ok (.iadd, 1) := by decide +kernel
theorem d_M_workOnField_63 : decode b_M_workOnField 63 = .ok (.aload_n 0, 1) := by decide +kernel
theorem d_M_workOnField_64 : decode b_M_workOnField 64 = .ok (.getfield 15, 3) := by decide +kernel
theorem d_M_workOnField_67 : decode b_M_workOnField 67 = .ok (.iload 7, 2) := by decide +kernel
theorem d_M_workOnField_69 : decode b_M_workOnField 69 = .ok (.iaload, 1) := by decide +kernel
theorem d_M_workOnField_70 : decode b_M_workOnField 70 = .ok (.iastore, 1) := by decide +kernel
theorem d_M_workOnField_71 : decode b_M_workOnField 71 = .ok (.goto (43), 3) := by decide +kernel
theorem d_M_workOnField_74 : decode b_M_workOnField 74 = .ok (.iload_n 1, 1) := by decide +kernel
theorem d_M_workOnField_75 : decode b_M_workOnField 75 = .ok (.iconst 4, 1) := by decide +kernel
theorem d_M_workOnField_76 : decode b_M_workOnField 76 = .ok (.if_icmp .ne (22), 3) := by decide +kernel
theorem d_M_workOnField_79 : decode b_M_workOnField 79 = .ok (.aload_n 0, 1) := by decide +kernel
theorem d_M_workOnField_80 : decode b_M_workOnField 80 = .ok (.getfield 11, 3) := by decide +kernel
theorem d_M_workOnField_83 : decode b_M_workOnField 83 = .ok (.iload 7, 2) := by decide +kernel
theorem d_M_workOnField_85 : decode b_M_workOnField 85 = .ok (.aload_n 0, 1) := by decide +kernel
theorem d_M_workOnField_86 : decode b_M_workOnField 86 = .ok (.getfield 33, 3) := by decide +kernel
theorem d_M_workOnField_89 : decode b_M_workOnField 89 = .ok (.iload 6, 2) := by decide +kernel
theorem d_M_workOnField_91 : decode b_M_workOnField 91 = .ok (.iload_n 3, 1) := by decide +kernel
theorem d_M_workOnField_92 : decode b_M_workOnField 92 = .ok (.iadd, 1) := by decide +kernel
theorem d_M_workOnField_93 : decode b_M_workOnField 93 = .ok (.iaload, 1) := by decide +kernel
theorem d_M_workOnField_94 : decode b_M_workOnField 94 = .ok (.iastore, 1) := by decide +kernel
theorem d_M_workOnField_95 : decode b_M_workOnField 95 = .ok (.goto (19), 3) := by decide +kernel
theorem d_M_workOnField_98 : decode b_M_workOnField 98 = .ok (.aload_n 0, 1) := by decide +kernel
theorem d_M_workOnField_99 : decode b_M_workOnField 99 = .ok (.getfield 15, 3) := by decide +kernel
theorem d_M_workOnField_102 : decode b_M_workOnField 102 = .ok (.iload 7, 2) := by decide +kernel
theorem d_M_workOnField_104 : decode b_M_workOnField 104 = .ok (.aload_n 0, 1) := by decide +kernel
theorem d_M_workOnField_105 : decode b_M_workOnField 105 = .ok (.getfield 36, 3) := by decide +kernel
theorem d_M_workOnField_108 : decode b_M_workOnField 108 = .ok (.iload 6, 2) := by decide +kernel
theorem d_M_workOnField_110 : decode b_M_workOnField 110 = .ok (.iload_n 3, 1) := by decide +kernel
theorem d_M_workOnField_111 : decode b_M_workOnField 111 = .ok (.iadd, 1) := by decide +kernel
theorem d_M_workOnField_112 : decode b_M_workOnField 112 = .ok (.iaload, 1) := by decide +kernel
theorem d_M_workOnField_113 : decode b_M_workOnField 113 = .ok (.iastore, 1) := by decide +kernel
theorem d_M_workOnField_114 : decode b_M_workOnField 114 = .ok (.return_, 1) := by decide +kernel
theorem d_M_changeCount_0 : decode b_M_changeCount 0 = .ok (.iload_n 2, 1) := by decide +kernel
theorem d_M_changeCount_1 : decode b_M_changeCount 1 = .ok (.ifCond .ne (11), 3) := by decide +kernel
theorem d_M_changeCount_4 : decode b_M_changeCount 4 = .ok (.aload_n 0, 1) := by decide +kernel
theorem d_M_changeCount_5 : decode b_M_changeCount 5 = .ok (.iconst 1, 1) := by decide +kernel
theorem d_M_changeCount_6 : decode b_M_changeCount 6 = .ok (.putfield 46, 3) := by decide +kernel
theorem d_M_changeCount_9 : decode b_M_changeCount 9 = .ok (.goto (67), 3) := by decide +kernel
theorem d_M_changeCount_12 : decode b_M_changeCount 12 = .ok (.iload_n 1, 1) := by decide +kernel
theorem d_M_changeCount_13 : decode b_M_changeCount 13 = .ok (.bipush (11), 2) := by decide +kernel
theorem d_M_changeCount_15 : decode b_M_changeCount 15 = .ok (.if_icmp .ne (20), 3) := by decide +kernel
theorem d_M_changeCount_18 : decode b_M_changeCount 18 = .ok (.aload_n 0, 1) := by decide +kernel
theorem d_M_changeCount_19 : decode b_M_changeCount 19 = .ok (.getfield 18, 3) := by decide +kernel
theorem d_M_changeCount_22 : decode b_M_changeCount 22 = .ok (.iload_n 2, 1) := by decide +kernel
theorem d_M_changeCount_23 : decode b_M_changeCount 23 = .ok (.iaload, 1) := by decide +kernel
theorem d_M_changeCount_24 : decode b_M_changeCount 24 = .ok (.ifCond .ne (11), 3) := by decide +kernel
theorem d_M_changeCount_27 : decode b_M_changeCount 27 = .ok (.aload_n 0, 1) := by decide +kernel
theorem d_M_changeCount_28 : decode b_M_changeCount 28 = .ok (.iconst 2, 1) := by decide +kernel
theorem d_M_changeCount_29 : decode b_M_changeCount 29 = .ok (.putfield 46, 3) := by decide +kernel
theorem d_M_changeCount_32 : decode b_M_changeCount 32 = .ok (.goto (44), 3) := by decide +kernel
theorem d_M_changeCount_35 : decode b_M_changeCount 35 = .ok (.aload_n 0, 1) := by decide +kernel
theorem d_M_changeCount_36 : decode b_M_changeCount 36 = .ok (.getfield 18, 3) := by decide +kernel
theorem d_M_changeCount_39 : decode b_M_changeCount 39 = .ok (.iload_n 2, 1) := by decide +kernel
theorem d_M_changeCount_40 : decode b_M_changeCount 40 = .ok (.dup2, 1) := by decide +kernel
theorem d_M_changeCount_41 : decode b_M_changeCount 41 = .ok (.iaload, 1) := by decide +kernel
theorem d_M_changeCount_42 : decode b_M_changeCount 42 = .ok (.iload_n 1, 1) := by decide +kernel
theorem d_M_changeCount_43 : decode b_M_changeCount 43 = .ok (.bipush (10), 2) := by decide +kernel
theorem d_M_changeCount_45 : decode b_M_changeCount 45 = .ok (.if_icmp .ne (7), 3) := by decide +kernel
theorem d_M_changeCount_48 : decode b_M_changeCount 48 = .ok (.iconst 1, 1) := by decide +kernel
theorem d_M_changeCount_49 : decode b_M_changeCount 49 = .ok (.goto (4), 3) := by decide +kernel
theorem d_M_changeCount_52 : decode b_M_changeCount 52 = .ok (.iconst (-1), 1) := by decide +kernel
theorem d_M_changeCount_53 : decode b_M_changeCount 53 = .ok (.iadd, 1) := by decide +kernel
theorem d_M_changeCount_54 : decode b_M_changeCount 54 = .ok (.iastore, 1) := by decide +kernel
theorem d_M_changeCount_55 : decode b_M_changeCount 55 = .ok (.aload_n 0, 1) := by decide +kernel
theorem d_M_changeCount_56 : decode b_M_changeCount 56 = .ok (.dup, 1) := by decide +kernel
theorem d_M_changeCount_57 : decode b_M_changeCount 57 = .ok (.getfield 58, 3) := by decide +kernel
theorem d_M_changeCount_60 : decode b_M_changeCount 60 = .ok (.iload_n 2, 1) := by decide +kernel
theorem d_M_changeCount_61 : decode b_M_changeCount 61 = .ok (.sipush (401), 3) := by decide +kernel
theorem d_M_changeCount_64 : decode b_M_changeCount 64 = .ok (.if_icmp .ge (7), 3) := by decide +kernel
theorem d_M_changeCount_67 : decode b_M_changeCount 67 = .ok (.iconst 1, 1) := by decide +kernel
theorem d_M_changeCount_68 : decode b_M_changeCount 68 = .ok (.goto (4), 3) := by decide +kernel
theorem d_M_changeCount_71 : decode b_M_changeCount 71 = .ok (.iconst 0, 1) := by decide +kernel
theorem d_M_changeCount_72 : decode b_M_changeCount 72 = .ok (.iadd, 1) := by decide +kernel
theorem d_M_changeCount_73 : decode b_M_changeCount 73 = .ok (.putfield 58, 3) := by decide +kernel
theorem d_M_changeCount_76 : decode b_M_changeCount 76 = .ok (.return_, 1) := by decide +kernel
theorem d_M_call_0 : decode b_M_call 0 = .ok (.aload_n 1, 1) := by decide +kernel
theorem d_M_call_1 : decode b_M_call 1 = .ok (.iload_n 2, 1) := by decide +kernel
theorem d_M_call_2 : decode b_M_call 2 = .ok (.aaload, 1) := by decide +kernel
theorem d_M_call_3 : decode b_M_call 3 = .ok (.astore 4, 2) := by decide +kernel
theorem d_M_call_5 : decode b_M_call 5 = .ok (.aload 4, 2) := by decide +kernel
theorem d_M_call_7 : decode b_M_call 7 = .ok (.getfield 121, 3) := by decide +kernel
theorem d_M_call_10 : decode b_M_call 10 = .ok (.iload_n 3, 1) := by decide +kernel
theorem d_M_call_11 : decode b_M_call 11 = .ok (.iaload, 1) := by decide +kernel
theorem d_M_call_12 : decode b_M_call 12 = .ok (.istore 5, 2) := by decide +kernel
theorem d_M_call_14 : decode b_M_call 14 = .ok (.aload_n 1, 1) := by decide +kernel
theorem d_M_call_15 : decode b_M_call 15 = .ok (.iload 5, 2) := by decide +kernel
theorem d_M_call_17 : decode b_M_call 17 = .ok (.aaload, 1) := by decide +kernel
theorem d_M_call_18 : decode b_M_call 18 = .ok (.getfield 144, 3) := by decide +kernel
theorem d_M_call_21 : decode b_M_call 21 = .ok (.ifCond .eq (12), 3) := by decide +kernel
theorem d_M_call_24 : decode b_M_call 24 = .ok (.aload_n 0, 1) := by decide +kernel
theorem d_M_call_25 : decode b_M_call 25 = .ok (.getfield 39, 3) := by decide +kernel
theorem d_M_call_28 : decode b_M_call 28 = .ok (.bipush (8), 2) := by decide +kernel
theorem d_M_call_30 : decode b_M_call 30 = .ok (.if_icmp .lt (9), 3) := by decide +kernel
theorem d_M_call_33 : decode b_M_call 33 = .ok (.aload_n 0, 1) := by decide +kernel
theorem d_M_call_34 : decode b_M_call 34 = .ok (.iconst 3, 1) := by decide +kernel
theorem d_M_call_35 : decode b_M_call 35 = .ok (.putfield 46, 3) := by decide +kernel
theorem d_M_call_38 : decode b_M_call 38 = .ok (.return_, 1) := by decide +kernel
theorem d_M_call_39 : decode b_M_call 39 = .ok (.aload_n 1, 1) := by decide +kernel
theorem d_M_call_40 : decode b_M_call 40 = .ok (.iload 5, 2) := by decide +kernel
theorem d_M_call_42 : decode b_M_call 42 = .ok (.aaload, 1) := by decide +kernel
theorem d_M_call_43 : decode b_M_call 43 = .ok (.getfield 147, 3) := by decide +kernel
theorem d_M_call_46 : decode b_M_call 46 = .ok (.istore 6, 2) := by decide +kernel
theorem d_M_call_48 : decode b_M_call 48 = .ok (.iload 6, 2) := by decide +kernel
theorem d_M_call_50 : decode b_M_call 50 = .ok (.iconst 1, 1) := by decide +kernel
theorem d_M_call_51 : decode b_M_call 51 = .ok (.if_icmp .lt (17), 3) := by decide +kernel
theorem d_M_call_54 : decode b_M_call 54 = .ok (.aload_n 0, 1) := by decide +kernel
theorem d_M_call_55 : decode b_M_call 55 = .ok (.aload 4, 2) := by decide +kernel
theorem d_M_call_57 : decode b_M_call 57 = .ok (.getfield 99, 3) := by decide +kernel
theorem d_M_call_60 : decode b_M_call 60 = .ok (.iload_n 3, 1) := by decide +kernel
theorem d_M_call_61 : decode b_M_call 61 = .ok (.iaload, 1) := by decide +kernel
theorem d_M_call_62 : decode b_M_call 62 = .ok (.invokevirtual 105, 3) := by decide +kernel
theorem d_M_call_65 : decode b_M_call 65 = .ok (.goto (4), 3) := by decide +kernel
theorem d_M_call_68 : decode b_M_call 68 = .ok (.iconst 0, 1) := by decide +kernel
theorem d_M_call_69 : decode b_M_call 69 = .ok (.istore 7, 2) := by decide +kernel
theorem d_M_call_71 : decode b_M_call 71 = .ok (.iload 6, 2) := by decide +kernel
theorem d_M_call_73 : decode b_M_call 73 = .ok (.iconst 2, 1) := by decide +kernel
theorem d_M_call_74 : decode b_M_call 74 = .ok (.if_icmp .lt (17), 3) := by decide +kernel
theorem d_M_call_77 : decode b_M_call 77 = .ok (.aload_n 0, 1) := by decide +kernel
theorem d_M_call_78 : decode b_M_call 78 = .ok (.aload 4, 2) := by decide +kernel
theorem d_M_call_80 : decode b_M_call 80 = .ok (.getfield 102, 3) := by decide +kernel
theorem d_M_call_83 : decode b_M_call 83 = .ok (.iload_n 3, 1) := by decide +kernel
theorem d_M_call_84 : decode b_M_call 84 = .ok (.iaload, 1) := by decide +kernel
theorem d_M_call_85 : decode b_M_call 85 = .ok (.invokevirtual 105, 3) := by decide +kernel
theorem d_M_call_88 : decode b_M_call 88 = .ok (.goto (4), 3) := by decide +kernel
theorem d_M_call_91 : decode b_M_call 91 = .ok (.iconst 0, 1) := by decide +kernel
theorem d_M_call_92 : decode b_M_call 92 = .ok (.istore 8, 2) := by decide +kernel
theorem d_M_call_94 : decode b_M_call 94 = .ok (.aload_n 0, 1) := by decide +kernel
theorem d_M_call_95 : decode b_M_call 95 = .ok (.iload 5, 2) := by decide +kernel
theorem d_M_call_97 : decode b_M_call 97 = .ok (.aload 4, 2) := by decide +kernel
theorem d_M_call_99 : decode b_M_call 99 = .ok (.getfield 96, 3) := by decide +kernel
theorem d_M_call_102 : decode b_M_call 102 = .ok (.iload_n 3, 1) := by decide +kernel
theorem d_M_call_103 : decode b_M_call 103 = .ok (.iaload, 1) := by decide +kernel
theorem d_M_call_104 : decode b_M_call 104 = .ok (.iload 7, 2) := by decide +kernel
theorem d_M_call_106 : decode b_M_call 106 = .ok (.iload 8, 2) := by decide +kernel
theorem d_M_call_108 : decode b_M_call 108 = .ok (.invokevirtual 89, 3) := by decide +kernel
theorem d_M_call_111 : decode b_M_call 111 = .ok (.return_, 1) := by decide +kernel
theorem d_M_newParts_0 : decode b_M_newParts 0 = .ok (.aload_n 0, 1) := by decide +kernel
theorem d_M_newParts_1 : decode b_M_newParts 1 = .ok (.sipush (401), 3) := by decide +kernel
theorem d_M_newParts_4 : decode b_M_newParts 4 = .ok (.aload_n 0, 1) := by decide +kernel
theorem d_M_newParts_5 : decode b_M_newParts 5 = .ok (.invokevirtual 124, 3) := by decide +kernel
theorem d_M_newParts_8 : decode b_M_newParts 8 = .ok (.iadd, 1) := by decide +kernel
theorem d_M_newParts_9 : decode b_M_newParts 9 = .ok (.iload_n 1, 1) := by decide +kernel
theorem d_M_newParts_10 : decode b_M_newParts 10 = .ok (.iadd, 1) := by decide +kernel
theorem d_M_newParts_11 : decode b_M_newParts 11 = .ok (.invokevirtual 141, 3) := by decide +kernel
theorem d_M_newParts_14 : decode b_M_newParts 14 = .ok (.ireturn, 1) := by decide +kernel
theorem d_M_emptied_0 : decode b_M_emptied 0 = .ok (.iconst 0, 1) := by decide +kernel
theorem d_M_emptied_1 : decode b_M_emptied 1 = .ok (.istore_n 2, 1) := by decide +kernel
theorem d_M_emptied_2 : decode b_M_emptied 2 = .ok (.iload_n 2, 1) := by decide +kernel
theorem d_M_emptied_3 : decode b_M_emptied 3 = .ok (.iconst 2, 1) := by decide +kernel
theorem d_M_emptied_4 : decode b_M_emptied 4 = .ok (.if_icmp .ge (31), 3) := by decide +kernel
theorem d_M_emptied_7 : decode b_M_emptied 7 = .ok (.aload_n 0, 1) := by decide +kernel
theorem d_M_emptied_8 : decode b_M_emptied 8 = .ok (.getfield 11, 3) := by decide +kernel
theorem d_M_emptied_11 : decode b_M_emptied 11 = .ok (.iload_n 1, 1) := by decide +kernel
theorem d_M_emptied_12 : decode b_M_emptied 12 = .ok (.iconst 2, 1) := by decide +kernel
theorem d_M_emptied_13 : decode b_M_emptied 13 = .ok (.imul, 1) := by decide +kernel
theorem d_M_emptied_14 : decode b_M_emptied 14 = .ok (.iload_n 2, 1) := by decide +kernel
theorem d_M_emptied_15 : decode b_M_emptied 15 = .ok (.iadd, 1) := by decide +kernel
theorem d_M_emptied_16 : decode b_M_emptied 16 = .ok (.iconst 0, 1) := by decide +kernel
theorem d_M_emptied_17 : decode b_M_emptied 17 = .ok (.iastore, 1) := by decide +kernel
theorem d_M_emptied_18 : decode b_M_emptied 18 = .ok (.aload_n 0, 1) := by decide +kernel
theorem d_M_emptied_19 : decode b_M_emptied 19 = .ok (.getfield 15, 3) := by decide +kernel
theorem d_M_emptied_22 : decode b_M_emptied 22 = .ok (.iload_n 1, 1) := by decide +kernel
theorem d_M_emptied_23 : decode b_M_emptied 23 = .ok (.iconst 2, 1) := by decide +kernel
theorem d_M_emptied_24 : decode b_M_emptied 24 = .ok (.imul, 1) := by decide +kernel
theorem d_M_emptied_25 : decode b_M_emptied 25 = .ok (.iload_n 2, 1) := by decide +kernel
theorem d_M_emptied_26 : decode b_M_emptied 26 = .ok (.iadd, 1) := by decide +kernel
theorem d_M_emptied_27 : decode b_M_emptied 27 = .ok (.iconst 0, 1) := by decide +kernel
theorem d_M_emptied_28 : decode b_M_emptied 28 = .ok (.iastore, 1) := by decide +kernel
theorem d_M_emptied_29 : decode b_M_emptied 29 = .ok (.iinc 2 (1), 3) := by decide +kernel
theorem d_M_emptied_32 : decode b_M_emptied 32 = .ok (.goto (-30), 3) := by decide +kernel
theorem d_M_emptied_35 : decode b_M_emptied 35 = .ok (.aload_n 0, 1) := by decide +kernel
theorem d_M_emptied_36 : decode b_M_emptied 36 = .ok (.getfield 18, 3) := by decide +kernel
theorem d_M_emptied_39 : decode b_M_emptied 39 = .ok (.iload_n 1, 1) := by decide +kernel
theorem d_M_emptied_40 : decode b_M_emptied 40 = .ok (.iconst 0, 1) := by decide +kernel
theorem d_M_emptied_41 : decode b_M_emptied 41 = .ok (.iastore, 1) := by decide +kernel
theorem d_M_emptied_42 : decode b_M_emptied 42 = .ok (.iload_n 1, 1) := by decide +kernel
theorem d_M_emptied_43 : decode b_M_emptied 43 = .ok (.ireturn, 1) := by decide +kernel
theorem d_M_newObject_0 : decode b_M_newObject 0 = .ok (.aload_n 0, 1) := by decide +kernel
theorem d_M_newObject_1 : decode b_M_newObject 1 = .ok (.dup, 1) := by decide +kernel
theorem d_M_newObject_2 : decode b_M_newObject 2 = .ok (.getfield 55, 3) := by decide +kernel
theorem d_M_newObject_5 : decode b_M_newObject 5 = .ok (.iconst 1, 1) := by decide +kernel
theorem d_M_newObject_6 : decode b_M_newObject 6 = .ok (.iadd, 1) := by decide +kernel
theorem d_M_newObject_7 : decode b_M_newObject 7 = .ok (.putfield 55, 3) := by decide +kernel
theorem d_M_newObject_10 : decode b_M_newObject 10 = .ok (.aload_n 0, 1) := by decide +kernel
theorem d_M_newObject_11 : decode b_M_newObject 11 = .ok (.aload_n 0, 1) := by decide +kernel
theorem d_M_newObject_12 : decode b_M_newObject 12 = .ok (.getfield 55, 3) := by decide +kernel
theorem d_M_newObject_15 : decode b_M_newObject 15 = .ok (.invokevirtual 141, 3) := by decide +kernel
theorem d_M_newObject_18 : decode b_M_newObject 18 = .ok (.ireturn, 1) := by decide +kernel
theorem d_M_move_0 : decode b_M_move 0 = .ok (.aload_n 0, 1) := by decide +kernel
theorem d_M_move_1 : decode b_M_move 1 = .ok (.invokevirtual 124, 3) := by decide +kernel
theorem d_M_move_4 : decode b_M_move 4 = .ok (.istore_n 3, 1) := by decide +kernel
theorem d_M_move_5 : decode b_M_move 5 = .ok (.aload_n 1, 1) := by decide +kernel
theorem d_M_move_6 : decode b_M_move 6 = .ok (.getfield 96, 3) := by decide +kernel
theorem d_M_move_9 : decode b_M_move 9 = .ok (.iload_n 2, 1) := by decide +kernel
theorem d_M_move_10 : decode b_M_move 10 = .ok (.iaload, 1) := by decide +kernel
theorem d_M_move_11 : decode b_M_move 11 = .ok (.istore 4, 2) := by decide +kernel
theorem d_M_move_13 : decode b_M_move 13 = .ok (.aload_n 1, 1) := by decide +kernel
theorem d_M_move_14 : decode b_M_move 14 = .ok (.getfield 99, 3) := by decide +kernel
theorem d_M_move_17 : decode b_M_move 17 = .ok (.iload_n 2, 1) := by decide +kernel
theorem d_M_move_18 : decode b_M_move 18 = .ok (.iaload, 1) := by decide +kernel
theorem d_M_move_19 : decode b_M_move 19 = .ok (.istore 5, 2) := by decide +kernel
theorem d_M_move_21 : decode b_M_move 21 = .ok (.aload_n 1, 1) := by decide +kernel
theorem d_M_move_22 : decode b_M_move 22 = .ok (.getfield 102, 3) := by decide +kernel
theorem d_M_move_25 : decode b_M_move 25 = .ok (.iload_n 2, 1) := by decide +kernel
theorem d_M_move_26 : decode b_M_move 26 = .ok (.iaload, 1) := by decide +kernel
theorem d_M_move_27 : decode b_M_move 27 = .ok (.istore 6, 2) := by decide +kernel
theorem d_M_move_29 : decode b_M_move 29 = .ok (.aload_n 1, 1) := by decide +kernel
theorem d_M_move_30 : decode b_M_move 30 = .ok (.getfield 93, 3) := by decide +kernel
theorem d_M_move_33 : decode b_M_move 33 = .ok (.iload_n 2, 1) := by decide +kernel
theorem d_M_move_34 : decode b_M_move 34 = .ok (.iaload, 1) := by decide +kernel
theorem d_M_move_35 : decode b_M_move 35 = .ok (.tableswitch (260) (1) (18) #[85, 106, 260, 260, 260, 260, 119, 137, 168, 260, 260, 206, 225, 260, 260, 260, 260, 244], 85) := by decide +kernel
theorem d_M_move_120 : decode b_M_move 120 = .ok (.aload_n 0, 1) := by decide +kernel
theorem d_M_move_121 : decode b_M_move 121 = .ok (.getfield 33, 3) := by decide +kernel
theorem d_M_move_124 : decode b_M_move 124 = .ok (.iload_n 3, 1) := by decide +kernel
theorem d_M_move_125 : decode b_M_move 125 = .ok (.iload 4, 2) := by decide +kernel
theorem d_M_move_127 : decode b_M_move 127 = .ok (.iadd, 1) := by decide +kernel
theorem d_M_move_128 : decode b_M_move 128 = .ok (.aload_n 0, 1) := by decide +kernel
theorem d_M_move_129 : decode b_M_move 129 = .ok (.getfield 33, 3) := by decide +kernel
theorem d_M_move_132 : decode b_M_move 132 = .ok (.iload_n 3, 1) := by decide +kernel
theorem d_M_move_133 : decode b_M_move 133 = .ok (.iload 5, 2) := by decide +kernel
theorem d_M_move_135 : decode b_M_move 135 = .ok (.iadd, 1) := by decide +kernel
theorem d_M_move_136 : decode b_M_move 136 = .ok (.iaload, 1) := by decide +kernel
theorem d_M_move_137 : decode b_M_move 137 = .ok (.iastore, 1) := by decide +kernel
theorem d_M_move_138 : decode b_M_move 138 = .ok (.goto (157), 3) := by decide +kernel
theorem d_M_move_141 : decode b_M_move 141 = .ok (.aload_n 0, 1) := by decide +kernel
theorem d_M_move_142 : decode b_M_move 142 = .ok (.getfield 33, 3) := by decide +kernel
theorem d_M_move_145 : decode b_M_move 145 = .ok (.iload_n 3, 1) := by decide +kernel
theorem d_M_move_146 : decode b_M_move 146 = .ok (.iload 4, 2) := by decide +kernel
theorem d_M_move_148 : decode b_M_move 148 = .ok (.iadd, 1) := by decide +kernel
theorem d_M_move_149 : decode b_M_move 149 = .ok (.iconst 0, 1) := by decide +kernel
theorem d_M_move_150 : decode b_M_move 150 = .ok (.iastore, 1) := by decide +kernel
theorem d_M_move_151 : decode b_M_move 151 = .ok (.goto (144), 3) := by decide +kernel
theorem d_M_move_154 : decode b_M_move 154 = .ok (.aload_n 0, 1) := by decide +kernel
theorem d_M_move_155 : decode b_M_move 155 = .ok (.getfield 36, 3) := by decide +kernel
theorem d_M_move_158 : decode b_M_move 158 = .ok (.iload_n 3, 1) := by decide +kernel
theorem d_M_move_159 : decode b_M_move 159 = .ok (.iload 4, 2) := by decide +kernel
theorem d_M_move_161 : decode b_M_move 161 = .ok (.iadd, 1) := by decide +kernel
theorem d_M_move_162 : decode b_M_move 162 = .ok (.aload_n 1, 1) := by decide +kernel
theorem d_M_move_163 : decode b_M_move 163 = .ok (.getfield 121, 3) := by decide +kernel
theorem d_M_move_166 : decode b_M_move 166 = .ok (.iload_n 2, 1) := by decide +kernel
theorem d_M_move_167 : decode b_M_move 167 = .ok (.iaload, 1) := by decide +kernel
theorem d_M_move_168 : decode b_M_move 168 = .ok (.iastore, 1) := by decide +kernel
theorem d_M_move_169 : decode b_M_move 169 = .ok (.goto (126), 3) := by decide +kernel
theorem d_M_move_172 : decode b_M_move 172 = .ok (.aload_n 0, 1) := by decide +kernel
theorem d_M_move_173 : decode b_M_move 173 = .ok (.getfield 36, 3) := by decide +kernel
theorem d_M_move_176 : decode b_M_move 176 = .ok (.iload_n 3, 1) := by decide +kernel
theorem d_M_move_177 : decode b_M_move 177 = .ok (.iload 4, 2) := by decide +kernel
theorem d_M_move_179 : decode b_M_move 179 = .ok (.iadd, 1) := by decide +kernel
theorem d_M_move_180 : decode b_M_move 180 = .ok (.aload_n 0, 1) := by decide +kernel
theorem d_M_move_181 : decode b_M_move 181 = .ok (.getfield 36, 3) := by decide +kernel
theorem d_M_move_184 : decode b_M_move 184 = .ok (.iload_n 3, 1) := by decide +kernel
theorem d_M_move_185 : decode b_M_move 185 = .ok (.iload 5, 2) := by decide +kernel
theorem d_M_move_187 : decode b_M_move 187 = .ok (.iadd, 1) := by decide +kernel
theorem d_M_move_188 : decode b_M_move 188 = .ok (.iaload, 1) := by decide +kernel
theorem d_M_move_189 : decode b_M_move 189 = .ok (.aload_n 0, 1) := by decide +kernel
theorem d_M_move_190 : decode b_M_move 190 = .ok (.getfield 36, 3) := by decide +kernel
theorem d_M_move_193 : decode b_M_move 193 = .ok (.iload_n 3, 1) := by decide +kernel
theorem d_M_move_194 : decode b_M_move 194 = .ok (.iload 6, 2) := by decide +kernel
theorem d_M_move_196 : decode b_M_move 196 = .ok (.iadd, 1) := by decide +kernel
theorem d_M_move_197 : decode b_M_move 197 = .ok (.iaload, 1) := by decide +kernel
theorem d_M_move_198 : decode b_M_move 198 = .ok (.iadd, 1) := by decide +kernel
theorem d_M_move_199 : decode b_M_move 199 = .ok (.iastore, 1) := by decide +kernel
theorem d_M_move_200 : decode b_M_move 200 = .ok (.goto (95), 3) := by decide +kernel
theorem d_M_move_203 : decode b_M_move 203 = .ok (.aload_n 0, 1) := by decide +kernel
theorem d_M_move_204 : decode b_M_move 204 = .ok (.getfield 36, 3) := by decide +kernel
theorem d_M_move_207 : decode b_M_move 207 = .ok (.iload_n 3, 1) := by decide +kernel
theorem d_M_move_208 : decode b_M_move 208 = .ok (.iload 4, 2) := by decide +kernel
theorem d_M_move_210 : decode b_M_move 210 = .ok (.iadd, 1) := by decide +kernel
theorem d_M_move_211 : decode b_M_move 211 = .ok (.aload_n 0, 1) := by decide +kernel
theorem d_M_move_212 : decode b_M_move 212 = .ok (.getfield 33, 3) := by decide +kernel
theorem d_M_move_215 : decode b_M_move 215 = .ok (.iload_n 3, 1) := by decide +kernel
theorem d_M_move_216 : decode b_M_move 216 = .ok (.iload 5, 2) := by decide +kernel
theorem d_M_move_218 : decode b_M_move 218 = .ok (.iadd, 1) := by decide +kernel
theorem d_M_move_219 : decode b_M_move 219 = .ok (.iaload, 1) := by decide +kernel
theorem d_M_move_220 : decode b_M_move 220 = .ok (.aload_n 0, 1) := by decide +kernel
theorem d_M_move_221 : decode b_M_move 221 = .ok (.getfield 33, 3) := by decide +kernel
theorem d_M_move_224 : decode b_M_move 224 = .ok (.iload_n 3, 1) := by decide +kernel
theorem d_M_move_225 : decode b_M_move 225 = .ok (.iload 6, 2) := by decide +kernel
theorem d_M_move_227 : decode b_M_move 227 = .ok (.iadd, 1) := by decide +kernel
theorem d_M_move_228 : decode b_M_move 228 = .ok (.iaload, 1) := by decide +kernel
theorem d_M_move_229 : decode b_M_move 229 = .ok (.if_icmp .ne (7), 3) := by decide +kernel
theorem d_M_move_232 : decode b_M_move 232 = .ok (.iconst 1, 1) := by decide +kernel
theorem d_M_move_233 : decode b_M_move 233 = .ok (.goto (4), 3) := by decide +kernel
theorem d_M_move_236 : decode b_M_move 236 = .ok (.iconst 0, 1) := by decide +kernel
theorem d_M_move_237 : decode b_M_move 237 = .ok (.iastore, 1) := by decide +kernel
theorem d_M_move_238 : decode b_M_move 238 = .ok (.goto (57), 3) := by decide +kernel
theorem d_M_move_241 : decode b_M_move 241 = .ok (.aload_n 0, 1) := by decide +kernel
theorem d_M_move_242 : decode b_M_move 242 = .ok (.getfield 21, 3) := by decide +kernel
theorem d_M_move_245 : decode b_M_move 245 = .ok (.iload 5, 2) := by decide +kernel
theorem d_M_move_247 : decode b_M_move 247 = .ok (.aload_n 0, 1) := by decide +kernel
theorem d_M_move_248 : decode b_M_move 248 = .ok (.getfield 33, 3) := by decide +kernel
theorem d_M_move_251 : decode b_M_move 251 = .ok (.iload_n 3, 1) := by decide +kernel
theorem d_M_move_252 : decode b_M_move 252 = .ok (.iload 4, 2) := by decide +kernel
theorem d_M_move_254 : decode b_M_move 254 = .ok (.iadd, 1) := by decide +kernel
theorem d_M_move_255 : decode b_M_move 255 = .ok (.iaload, 1) := by decide +kernel
theorem d_M_move_256 : decode b_M_move 256 = .ok (.iastore, 1) := by decide +kernel
theorem d_M_move_257 : decode b_M_move 257 = .ok (.goto (38), 3) := by decide +kernel
theorem d_M_move_260 : decode b_M_move 260 = .ok (.aload_n 0, 1) := by decide +kernel
theorem d_M_move_261 : decode b_M_move 261 = .ok (.getfield 33, 3) := by decide +kernel
theorem d_M_move_264 : decode b_M_move 264 = .ok (.iload_n 3, 1) := by decide +kernel
theorem d_M_move_265 : decode b_M_move 265 = .ok (.iload 4, 2) := by decide +kernel
theorem d_M_move_267 : decode b_M_move 267 = .ok (.iadd, 1) := by decide +kernel
theorem d_M_move_268 : decode b_M_move 268 = .ok (.aload_n 0, 1) := by decide +kernel
theorem d_M_move_269 : decode b_M_move 269 = .ok (.getfield 21, 3) := by decide +kernel
theorem d_M_move_272 : decode b_M_move 272 = .ok (.iload 5, 2) := by decide +kernel
theorem d_M_move_274 : decode b_M_move 274 = .ok (.iaload, 1) := by decide +kernel
theorem d_M_move_275 : decode b_M_move 275 = .ok (.iastore, 1) := by decide +kernel
theorem d_M_move_276 : decode b_M_move 276 = .ok (.goto (19), 3) := by decide +kernel
theorem d_M_move_279 : decode b_M_move 279 = .ok (.aload_n 0, 1) := by decide +kernel
theorem d_M_move_280 : decode b_M_move 280 = .ok (.aload_n 0, 1) := by decide +kernel
theorem d_M_move_281 : decode b_M_move 281 = .ok (.getfield 36, 3) := by decide +kernel
theorem d_M_move_284 : decode b_M_move 284 = .ok (.iload_n 3, 1) := by decide +kernel
theorem d_M_move_285 : decode b_M_move 285 = .ok (.iload 4, 2) := by decide +kernel
theorem d_M_move_287 : decode b_M_move 287 = .ok (.iadd, 1) := by decide +kernel
theorem d_M_move_288 : decode b_M_move 288 = .ok (.iaload, 1) := by decide +kernel
theorem d_M_move_289 : decode b_M_move 289 = .ok (.invokevirtual 138, 3) := by decide +kernel
theorem d_M_move_292 : decode b_M_move 292 = .ok (.goto (3), 3) := by decide +kernel
theorem d_M_move_295 : decode b_M_move 295 = .ok (.return_, 1) := by decide +kernel
theorem d_M_show_0 : decode b_M_show 0 = .ok (.aload_n 0, 1) := by decide +kernel
theorem d_M_show_1 : decode b_M_show 1 = .ok (.getfield 49, 3) := by decide +kernel
theorem d_M_show_4 : decode b_M_show 4 = .ok (.bipush (32), 2) := by decide +kernel
theorem d_M_show_6 : decode b_M_show 6 = .ok (.if_icmp .ge (13), 3) := by decide +kernel
theorem d_M_show_9 : decode b_M_show 9 = .ok (.aload_n 0, 1) := by decide +kernel
theorem d_M_show_10 : decode b_M_show 10 = .ok (.getfield 43, 3) := by decide +kernel
theorem d_M_show_13 : decode b_M_show 13 = .ok (.aload_n 0, 1) := by decide +kernel
theorem d_M_show_14 : decode b_M_show 14 = .ok (.getfield 49, 3) := by decide +kernel
theorem d_M_show_17 : decode b_M_show 17 = .ok (.iload_n 1, 1) := by decide +kernel
theorem d_M_show_18 : decode b_M_show 18 = .ok (.iastore, 1) := by decide +kernel
theorem d_M_show_19 : decode b_M_show 19 = .ok (.aload_n 0, 1) := by decide +kernel
theorem d_M_show_20 : decode b_M_show 20 = .ok (.dup, 1) := by decide +kernel
theorem d_M_show_21 : decode b_M_show 21 = .ok (.getfield 49, 3) := by decide +kernel
theorem d_M_show_24 : decode b_M_show 24 = .ok (.iconst 1, 1) := by decide +kernel
theorem d_M_show_25 : decode b_M_show 25 = .ok (.iadd, 1) := by decide +kernel
theorem d_M_show_26 : decode b_M_show 26 = .ok (.putfield 49, 3) := by decide +kernel
theorem d_M_show_29 : decode b_M_show 29 = .ok (.return_, 1) := by decide +kernel
end
section
/-! decode rows (written by program) -/
theorem d_R_thrown_0 : decode b_R_thrown 0 = .ok (.aload_n 0, 1) := by decide +kernel
theorem d_R_thrown_1 : decode b_R_thrown 1 = .ok (.getfield 77, 3) := by decide +kernel
theorem d_R_thrown_4 : decode b_R_thrown 4 = .ok (.ireturn, 1) := by decide +kernel
theorem d_R_parameters_0 : decode b_R_parameters 0 = .ok (.aload_n 0, 1) := by decide +kernel
theorem d_R_parameters_1 : decode b_R_parameters 1 = .ok (.iload_n 1, 1) := by decide +kernel
theorem d_R_parameters_2 : decode b_R_parameters 2 = .ok (.invokestatic 81, 3) := by decide +kernel
theorem d_R_parameters_5 : decode b_R_parameters 5 = .ok (.ifCond .eq (12), 3) := by decide +kernel
theorem d_R_parameters_8 : decode b_R_parameters 8 = .ok (.iload_n 2, 1) := by decide +kernel
theorem d_R_parameters_9 : decode b_R_parameters 9 = .ok (.ifCond .lt (8), 3) := by decide +kernel
theorem d_R_parameters_12 : decode b_R_parameters 12 = .ok (.iload_n 2, 1) := by decide +kernel
theorem d_R_parameters_13 : decode b_R_parameters 13 = .ok (.iconst 2, 1) := by decide +kernel
theorem d_R_parameters_14 : decode b_R_parameters 14 = .ok (.if_icmp .le (7), 3) := by decide +kernel
theorem d_R_parameters_17 : decode b_R_parameters 17 = .ok (.iconst 1, 1) := by decide +kernel
theorem d_R_parameters_18 : decode b_R_parameters 18 = .ok (.goto (4), 3) := by decide +kernel
theorem d_R_parameters_21 : decode b_R_parameters 21 = .ok (.iconst 0, 1) := by decide +kernel
theorem d_R_parameters_22 : decode b_R_parameters 22 = .ok (.putfield 77, 3) := by decide +kernel
theorem d_R_parameters_25 : decode b_R_parameters 25 = .ok (.aload_n 0, 1) := by decide +kernel
theorem d_R_parameters_26 : decode b_R_parameters 26 = .ok (.getfield 77, 3) := by decide +kernel
theorem d_R_parameters_29 : decode b_R_parameters 29 = .ok (.ifCond .le (5), 3) := by decide +kernel
theorem d_R_parameters_32 : decode b_R_parameters 32 = .ok (.iconst 0, 1) := by decide +kernel
theorem d_R_parameters_33 : decode b_R_parameters 33 = .ok (.ireturn, 1) := by decide +kernel
theorem d_R_parameters_34 : decode b_R_parameters 34 = .ok (.aload_n 0, 1) := by decide +kernel
theorem d_R_parameters_35 : decode b_R_parameters 35 = .ok (.getfield 7, 3) := by decide +kernel
theorem d_R_parameters_38 : decode b_R_parameters 38 = .ok (.iload_n 1, 1) := by decide +kernel
theorem d_R_parameters_39 : decode b_R_parameters 39 = .ok (.iload_n 2, 1) := by decide +kernel
theorem d_R_parameters_40 : decode b_R_parameters 40 = .ok (.iastore, 1) := by decide +kernel
theorem d_R_parameters_41 : decode b_R_parameters 41 = .ok (.aload_n 0, 1) := by decide +kernel
theorem d_R_parameters_42 : decode b_R_parameters 42 = .ok (.iconst 0, 1) := by decide +kernel
theorem d_R_parameters_43 : decode b_R_parameters 43 = .ok (.putfield 85, 3) := by decide +kernel
theorem d_R_parameters_46 : decode b_R_parameters 46 = .ok (.iconst 1, 1) := by decide +kernel
theorem d_R_parameters_47 : decode b_R_parameters 47 = .ok (.ireturn, 1) := by decide +kernel
theorem d_R_isMethod_0 : decode b_R_isMethod 0 = .ok (.iload_n 0, 1) := by decide +kernel
theorem d_R_isMethod_1 : decode b_R_isMethod 1 = .ok (.ifCond .lt (12), 3) := by decide +kernel
theorem d_R_isMethod_4 : decode b_R_isMethod 4 = .ok (.iload_n 0, 1) := by decide +kernel
theorem d_R_isMethod_5 : decode b_R_isMethod 5 = .ok (.iconst 4, 1) := by decide +kernel
theorem d_R_isMethod_6 : decode b_R_isMethod 6 = .ok (.if_icmp .gt (7), 3) := by decide +kernel
theorem d_R_isMethod_9 : decode b_R_isMethod 9 = .ok (.iconst 1, 1) := by decide +kernel
theorem d_R_isMethod_10 : decode b_R_isMethod 10 = .ok (.goto (4), 3) := by decide +kernel
theorem d_R_isMethod_13 : decode b_R_isMethod 13 = .ok (.iconst 0, 1) := by decide +kernel
theorem d_R_isMethod_14 : decode b_R_isMethod 14 = .ok (.ireturn, 1) := by decide +kernel
theorem d_R_put_0 : decode b_R_put 0 = .ok (.iload_n 1, 1) := by decide +kernel
theorem d_R_put_1 : decode b_R_put 1 = .ok (.invokestatic 81, 3) := by decide +kernel
theorem d_R_put_4 : decode b_R_put 4 = .ok (.ifCond .eq (71), 3) := by decide +kernel
theorem d_R_put_7 : decode b_R_put 7 = .ok (.iload_n 2, 1) := by decide +kernel
theorem d_R_put_8 : decode b_R_put 8 = .ok (.ifCond .lt (67), 3) := by decide +kernel
theorem d_R_put_11 : decode b_R_put 11 = .ok (.iload_n 2, 1) := by decide +kernel
theorem d_R_put_12 : decode b_R_put 12 = .ok (.bipush (18), 2) := by decide +kernel
theorem d_R_put_14 : decode b_R_put 14 = .ok (.if_icmp .gt (61), 3) := by decide +kernel
theorem d_R_put_17 : decode b_R_put 17 = .ok (.iload_n 3, 1) := by decide +kernel
theorem d_R_put_18 : decode b_R_put 18 = .ok (.invokestatic 89, 3) := by decide +kernel
theorem d_R_put_21 : decode b_R_put 21 = .ok (.ifCond .eq (54), 3) := by decide +kernel
theorem d_R_put_24 : decode b_R_put 24 = .ok (.iload 4, 2) := by decide +kernel
theorem d_R_put_26 : decode b_R_put 26 = .ok (.invokestatic 89, 3) := by decide +kernel
theorem d_R_put_29 : decode b_R_put 29 = .ok (.ifCond .eq (46), 3) := by decide +kernel
theorem d_R_put_32 : decode b_R_put 32 = .ok (.iload 5, 2) := by decide +kernel
theorem d_R_put_34 : decode b_R_put 34 = .ok (.invokestatic 89, 3) := by decide +kernel
theorem d_R_put_37 : decode b_R_put 37 = .ok (.ifCond .eq (38), 3) := by decide +kernel
theorem d_R_put_40 : decode b_R_put 40 = .ok (.iload_n 2, 1) := by decide +kernel
theorem d_R_put_41 : decode b_R_put 41 = .ok (.iconst 3, 1) := by decide +kernel
theorem d_R_put_42 : decode b_R_put 42 = .ok (.if_icmp .lt (15), 3) := by decide +kernel
theorem d_R_put_45 : decode b_R_put 45 = .ok (.iload_n 2, 1) := by decide +kernel
theorem d_R_put_46 : decode b_R_put 46 = .ok (.bipush (6), 2) := by decide +kernel
theorem d_R_put_48 : decode b_R_put 48 = .ok (.if_icmp .gt (9), 3) := by decide +kernel
theorem d_R_put_51 : decode b_R_put 51 = .ok (.iload 5, 2) := by decide +kernel
theorem d_R_put_53 : decode b_R_put 53 = .ok (.iconst 1, 1) := by decide +kernel
theorem d_R_put_54 : decode b_R_put 54 = .ok (.if_icmp .gt (21), 3) := by decide +kernel
theorem d_R_put_57 : decode b_R_put 57 = .ok (.iload_n 2, 1) := by decide +kernel
theorem d_R_put_58 : decode b_R_put 58 = .ok (.bipush (16), 2) := by decide +kernel
theorem d_R_put_60 : decode b_R_put 60 = .ok (.if_icmp .ne (11), 3) := by decide +kernel
theorem d_R_put_63 : decode b_R_put 63 = .ok (.iload 6, 2) := by decide +kernel
theorem d_R_put_65 : decode b_R_put 65 = .ok (.invokestatic 81, 3) := by decide +kernel
theorem d_R_put_68 : decode b_R_put 68 = .ok (.ifCond .eq (7), 3) := by decide +kernel
theorem d_R_put_71 : decode b_R_put 71 = .ok (.iconst 1, 1) := by decide +kernel
theorem d_R_put_72 : decode b_R_put 72 = .ok (.goto (4), 3) := by decide +kernel
theorem d_R_put_75 : decode b_R_put 75 = .ok (.iconst 0, 1) := by decide +kernel
theorem d_R_put_76 : decode b_R_put 76 = .ok (.istore 7, 2) := by decide +kernel
theorem d_R_put_78 : decode b_R_put 78 = .ok (.aload_n 0, 1) := by decide +kernel
theorem d_R_put_79 : decode b_R_put 79 = .ok (.iload 7, 2) := by decide +kernel
theorem d_R_put_81 : decode b_R_put 81 = .ok (.ifCond .ne (7), 3) := by decide +kernel
theorem d_R_put_84 : decode b_R_put 84 = .ok (.iconst 1, 1) := by decide +kernel
theorem d_R_put_85 : decode b_R_put 85 = .ok (.goto (19), 3) := by decide +kernel
theorem d_R_put_88 : decode b_R_put 88 = .ok (.aload_n 0, 1) := by decide +kernel
theorem d_R_put_89 : decode b_R_put 89 = .ok (.getfield 13, 3) := by decide +kernel
theorem d_R_put_92 : decode b_R_put 92 = .ok (.iload_n 1, 1) := by decide +kernel
theorem d_R_put_93 : decode b_R_put 93 = .ok (.iaload, 1) := by decide +kernel
theorem d_R_put_94 : decode b_R_put 94 = .ok (.bipush (24), 2) := by decide +kernel
theorem d_R_put_96 : decode b_R_put 96 = .ok (.if_icmp .ne (7), 3) := by decide +kernel
theorem d_R_put_99 : decode b_R_put 99 = .ok (.iconst 2, 1) := by decide +kernel
theorem d_R_put_100 : decode b_R_put 100 = .ok (.goto (4), 3) := by decide +kernel
theorem d_R_put_103 : decode b_R_put 103 = .ok (.iconst 0, 1) := by decide +kernel
theorem d_R_put_104 : decode b_R_put 104 = .ok (.putfield 77, 3) := by decide +kernel
theorem d_R_put_107 : decode b_R_put 107 = .ok (.aload_n 0, 1) := by decide +kernel
theorem d_R_put_108 : decode b_R_put 108 = .ok (.getfield 77, 3) := by decide +kernel
theorem d_R_put_111 : decode b_R_put 111 = .ok (.ifCond .le (5), 3) := by decide +kernel
theorem d_R_put_114 : decode b_R_put 114 = .ok (.iconst 0, 1) := by decide +kernel
theorem d_R_put_115 : decode b_R_put 115 = .ok (.ireturn, 1) := by decide +kernel
theorem d_R_put_116 : decode b_R_put 116 = .ok (.bipush (24), 2) := by decide +kernel
theorem d_R_put_118 : decode b_R_put 118 = .ok (.iload_n 1, 1) := by decide +kernel
theorem d_R_put_119 : decode b_R_put 119 = .ok (.imul, 1) := by decide +kernel
theorem d_R_put_120 : decode b_R_put 120 = .ok (.aload_n 0, 1) := by decide +kernel
theorem d_R_put_121 : decode b_R_put 121 = .ok (.getfield 13, 3) := by decide +kernel
theorem d_R_put_124 : decode b_R_put 124 = .ok (.iload_n 1, 1) := by decide +kernel
theorem d_R_put_125 : decode b_R_put 125 = .ok (.iaload, 1) := by decide +kernel
theorem d_R_put_126 : decode b_R_put 126 = .ok (.iadd, 1) := by decide +kernel
theorem d_R_put_127 : decode b_R_put 127 = .ok (.istore 8, 2) := by decide +kernel
theorem d_R_put_129 : decode b_R_put 129 = .ok (.aload_n 0, 1) := by decide +kernel
theorem d_R_put_130 : decode b_R_put 130 = .ok (.getfield 16, 3) := by decide +kernel
theorem d_R_put_133 : decode b_R_put 133 = .ok (.iload 8, 2) := by decide +kernel
theorem d_R_put_135 : decode b_R_put 135 = .ok (.iload_n 2, 1) := by decide +kernel
theorem d_R_put_136 : decode b_R_put 136 = .ok (.iastore, 1) := by decide +kernel
theorem d_R_put_137 : decode b_R_put 137 = .ok (.aload_n 0, 1) := by decide +kernel
theorem d_R_put_138 : decode b_R_put 138 = .ok (.getfield 19, 3) := by decide +kernel
theorem d_R_put_141 : decode b_R_put 141 = .ok (.iload 8, 2) := by decide +kernel
theorem d_R_put_143 : decode b_R_put 143 = .ok (.iload_n 3, 1) := by decide +kernel
theorem d_R_put_144 : decode b_R_put 144 = .ok (.iastore, 1) := by decide +kernel
theorem d_R_put_145 : decode b_R_put 145 = .ok (.aload_n 0, 1) := by decide +kernel
theorem d_R_put_146 : decode b_R_put 146 = .ok (.getfield 22, 3) := by decide +kernel
theorem d_R_put_149 : decode b_R_put 149 = .ok (.iload 8, 2) := by decide +kernel
theorem d_R_put_151 : decode b_R_put 151 = .ok (.iload 4, 2) := by decide +kernel
theorem d_R_put_153 : decode b_R_put 153 = .ok (.iastore, 1) := by decide +kernel
theorem d_R_put_154 : decode b_R_put 154 = .ok (.aload_n 0, 1) := by decide +kernel
theorem d_R_put_155 : decode b_R_put 155 = .ok (.getfield 25, 3) := by decide +kernel
theorem d_R_put_158 : decode b_R_put 158 = .ok (.iload 8, 2) := by decide +kernel
theorem d_R_put_160 : decode b_R_put 160 = .ok (.iload 5, 2) := by decide +kernel
theorem d_R_put_162 : decode b_R_put 162 = .ok (.iastore, 1) := by decide +kernel
theorem d_R_put_163 : decode b_R_put 163 = .ok (.aload_n 0, 1) := by decide +kernel
theorem d_R_put_164 : decode b_R_put 164 = .ok (.getfield 28, 3) := by decide +kernel
theorem d_R_put_167 : decode b_R_put 167 = .ok (.iload 8, 2) := by decide +kernel
theorem d_R_put_169 : decode b_R_put 169 = .ok (.iload 6, 2) := by decide +kernel
theorem d_R_put_171 : decode b_R_put 171 = .ok (.iastore, 1) := by decide +kernel
theorem d_R_put_172 : decode b_R_put 172 = .ok (.aload_n 0, 1) := by decide +kernel
theorem d_R_put_173 : decode b_R_put 173 = .ok (.getfield 13, 3) := by decide +kernel
theorem d_R_put_176 : decode b_R_put 176 = .ok (.iload_n 1, 1) := by decide +kernel
theorem d_R_put_177 : decode b_R_put 177 = .ok (.dup2, 1) := by decide +kernel
theorem d_R_put_178 : decode b_R_put 178 = .ok (.iaload, 1) := by decide +kernel
theorem d_R_put_179 : decode b_R_put 179 = .ok (.iconst 1, 1) := by decide +kernel
theorem d_R_put_180 : decode b_R_put 180 = .ok (.iadd, 1) := by decide +kernel
theorem d_R_put_181 : decode b_R_put 181 = .ok (.iastore, 1) := by decide +kernel
theorem d_R_put_182 : decode b_R_put 182 = .ok (.aload_n 0, 1) := by decide +kernel
theorem d_R_put_183 : decode b_R_put 183 = .ok (.iconst 0, 1) := by decide +kernel
theorem d_R_put_184 : decode b_R_put 184 = .ok (.putfield 85, 3) := by decide +kernel
theorem d_R_put_187 : decode b_R_put 187 = .ok (.aload_n 0, 1) := by decide +kernel
theorem d_R_put_188 : decode b_R_put 188 = .ok (.getfield 13, 3) := by decide +kernel
theorem d_R_put_191 : decode b_R_put 191 = .ok (.iload_n 1, 1) := by decide +kernel
theorem d_R_put_192 : decode b_R_put 192 = .ok (.iaload, 1) := by decide +kernel
theorem d_R_put_193 : decode b_R_put 193 = .ok (.iconst 1, 1) := by decide +kernel
theorem d_R_put_194 : decode b_R_put 194 = .ok (.isub, 1) := by decide +kernel
theorem d_R_put_195 : decode b_R_put 195 = .ok (.ireturn, 1) := by decide +kernel
theorem d_R_four_0 : decode b_R_four 0 = .ok (.iload_n 0, 1) := by decide +kernel
theorem d_R_four_1 : decode b_R_four 1 = .ok (.ifCond .lt (12), 3) := by decide +kernel
theorem d_R_four_4 : decode b_R_four 4 = .ok (.iload_n 0, 1) := by decide +kernel
theorem d_R_four_5 : decode b_R_four 5 = .ok (.iconst 3, 1) := by decide +kernel
theorem d_R_four_6 : decode b_R_four 6 = .ok (.if_icmp .gt (7), 3) := by decide +kernel
theorem d_R_four_9 : decode b_R_four 9 = .ok (.iconst 1, 1) := by decide +kernel
theorem d_R_four_10 : decode b_R_four 10 = .ok (.goto (4), 3) := by decide +kernel
theorem d_R_four_13 : decode b_R_four 13 = .ok (.iconst 0, 1) := by decide +kernel
theorem d_R_four_14 : decode b_R_four 14 = .ok (.ireturn, 1) := by decide +kernel
theorem d_R_clear_0 : decode b_R_clear 0 = .ok (.aload_n 0, 1) := by decide +kernel
theorem d_R_clear_1 : decode b_R_clear 1 = .ok (.iload_n 1, 1) := by decide +kernel
theorem d_R_clear_2 : decode b_R_clear 2 = .ok (.invokestatic 81, 3) := by decide +kernel
theorem d_R_clear_5 : decode b_R_clear 5 = .ok (.ifCond .eq (7), 3) := by decide +kernel
theorem d_R_clear_8 : decode b_R_clear 8 = .ok (.iconst 0, 1) := by decide +kernel
theorem d_R_clear_9 : decode b_R_clear 9 = .ok (.goto (4), 3) := by decide +kernel
theorem d_R_clear_12 : decode b_R_clear 12 = .ok (.iconst 1, 1) := by decide +kernel
theorem d_R_clear_13 : decode b_R_clear 13 = .ok (.putfield 77, 3) := by decide +kernel
theorem d_R_clear_16 : decode b_R_clear 16 = .ok (.aload_n 0, 1) := by decide +kernel
theorem d_R_clear_17 : decode b_R_clear 17 = .ok (.getfield 77, 3) := by decide +kernel
theorem d_R_clear_20 : decode b_R_clear 20 = .ok (.ifCond .le (5), 3) := by decide +kernel
theorem d_R_clear_23 : decode b_R_clear 23 = .ok (.iconst 0, 1) := by decide +kernel
theorem d_R_clear_24 : decode b_R_clear 24 = .ok (.ireturn, 1) := by decide +kernel
theorem d_R_clear_25 : decode b_R_clear 25 = .ok (.aload_n 0, 1) := by decide +kernel
theorem d_R_clear_26 : decode b_R_clear 26 = .ok (.getfield 13, 3) := by decide +kernel
theorem d_R_clear_29 : decode b_R_clear 29 = .ok (.iload_n 1, 1) := by decide +kernel
theorem d_R_clear_30 : decode b_R_clear 30 = .ok (.iaload, 1) := by decide +kernel
theorem d_R_clear_31 : decode b_R_clear 31 = .ok (.istore_n 2, 1) := by decide +kernel
theorem d_R_clear_32 : decode b_R_clear 32 = .ok (.aload_n 0, 1) := by decide +kernel
theorem d_R_clear_33 : decode b_R_clear 33 = .ok (.getfield 13, 3) := by decide +kernel
theorem d_R_clear_36 : decode b_R_clear 36 = .ok (.iload_n 1, 1) := by decide +kernel
theorem d_R_clear_37 : decode b_R_clear 37 = .ok (.iconst 0, 1) := by decide +kernel
theorem d_R_clear_38 : decode b_R_clear 38 = .ok (.iastore, 1) := by decide +kernel
theorem d_R_clear_39 : decode b_R_clear 39 = .ok (.aload_n 0, 1) := by decide +kernel
theorem d_R_clear_40 : decode b_R_clear 40 = .ok (.iconst 0, 1) := by decide +kernel
theorem d_R_clear_41 : decode b_R_clear 41 = .ok (.putfield 85, 3) := by decide +kernel
theorem d_R_clear_44 : decode b_R_clear 44 = .ok (.iload_n 2, 1) := by decide +kernel
theorem d_R_clear_45 : decode b_R_clear 45 = .ok (.ireturn, 1) := by decide +kernel
theorem d_R_run_0 : decode b_R_run 0 = .ok (.aload_n 0, 1) := by decide +kernel
theorem d_R_run_1 : decode b_R_run 1 = .ok (.iconst 0, 1) := by decide +kernel
theorem d_R_run_2 : decode b_R_run 2 = .ok (.putfield 77, 3) := by decide +kernel
theorem d_R_run_5 : decode b_R_run 5 = .ok (.aload_n 0, 1) := by decide +kernel
theorem d_R_run_6 : decode b_R_run 6 = .ok (.invokevirtual 195, 3) := by decide +kernel
theorem d_R_run_9 : decode b_R_run 9 = .ok (.iconst 0, 1) := by decide +kernel
theorem d_R_run_10 : decode b_R_run 10 = .ok (.istore_n 2, 1) := by decide +kernel
theorem d_R_run_11 : decode b_R_run 11 = .ok (.iload_n 2, 1) := by decide +kernel
theorem d_R_run_12 : decode b_R_run 12 = .ok (.iconst 5, 1) := by decide +kernel
theorem d_R_run_13 : decode b_R_run 13 = .ok (.if_icmp .ge (56), 3) := by decide +kernel
theorem d_R_run_16 : decode b_R_run 16 = .ok (.iconst 0, 1) := by decide +kernel
theorem d_R_run_17 : decode b_R_run 17 = .ok (.istore_n 3, 1) := by decide +kernel
theorem d_R_run_18 : decode b_R_run 18 = .ok (.iload_n 3, 1) := by decide +kernel
theorem d_R_run_19 : decode b_R_run 19 = .ok (.aload_n 0, 1) := by decide +kernel
theorem d_R_run_20 : decode b_R_run 20 = .ok (.getfield 13, 3) := by decide +kernel
theorem d_R_run_23 : decode b_R_run 23 = .ok (.iload_n 2, 1) := by decide +kernel
theorem d_R_run_24 : decode b_R_run 24 = .ok (.iaload, 1) := by decide +kernel
theorem d_R_run_25 : decode b_R_run 25 = .ok (.if_icmp .ge (38), 3) := by decide +kernel
theorem d_R_run_28 : decode b_R_run 28 = .ok (.iload_n 1, 1) := by decide +kernel
theorem d_R_run_29 : decode b_R_run 29 = .ok (.ifCond .eq (12), 3) := by decide +kernel
theorem d_R_run_32 : decode b_R_run 32 = .ok (.aload_n 0, 1) := by decide +kernel
theorem d_R_run_33 : decode b_R_run 33 = .ok (.iload_n 2, 1) := by decide +kernel
theorem d_R_run_34 : decode b_R_run 34 = .ok (.iload_n 3, 1) := by decide +kernel
theorem d_R_run_35 : decode b_R_run 35 = .ok (.invokevirtual 198, 3) := by decide +kernel
theorem d_R_run_38 : decode b_R_run 38 = .ok (.goto (4), 3) := by decide +kernel
theorem d_R_run_41 : decode b_R_run 41 = .ok (.iconst 0, 1) := by decide +kernel
theorem d_R_run_42 : decode b_R_run 42 = .ok (.istore 4, 2) := by decide +kernel
theorem d_R_run_44 : decode b_R_run 44 = .ok (.aload_n 0, 1) := by decide +kernel
theorem d_R_run_45 : decode b_R_run 45 = .ok (.getfield 74, 3) := by decide +kernel
theorem d_R_run_48 : decode b_R_run 48 = .ok (.bipush (24), 2) := by decide +kernel
theorem d_R_run_50 : decode b_R_run 50 = .ok (.iload_n 2, 1) := by decide +kernel
theorem d_R_run_51 : decode b_R_run 51 = .ok (.imul, 1) := by decide +kernel
theorem d_R_run_52 : decode b_R_run 52 = .ok (.iload_n 3, 1) := by decide +kernel
theorem d_R_run_53 : decode b_R_run 53 = .ok (.iadd, 1) := by decide +kernel
theorem d_R_run_54 : decode b_R_run 54 = .ok (.iload 4, 2) := by decide +kernel
theorem d_R_run_56 : decode b_R_run 56 = .ok (.iastore, 1) := by decide +kernel
theorem d_R_run_57 : decode b_R_run 57 = .ok (.iinc 3 (1), 3) := by decide +kernel
theorem d_R_run_60 : decode b_R_run 60 = .ok (.goto (-42), 3) := by decide +kernel
theorem d_R_run_63 : decode b_R_run 63 = .ok (.iinc 2 (1), 3) := by decide +kernel
theorem d_R_run_66 : decode b_R_run 66 = .ok (.goto (-55), 3) := by decide +kernel
theorem d_R_run_69 : decode b_R_run 69 = .ok (.aload_n 0, 1) := by decide +kernel
theorem d_R_run_70 : decode b_R_run 70 = .ok (.iconst 0, 1) := by decide +kernel
theorem d_R_run_71 : decode b_R_run 71 = .ok (.putfield 157, 3) := by decide +kernel
theorem d_R_run_74 : decode b_R_run 74 = .ok (.aload_n 0, 1) := by decide +kernel
theorem d_R_run_75 : decode b_R_run 75 = .ok (.iconst 0, 1) := by decide +kernel
theorem d_R_run_76 : decode b_R_run 76 = .ok (.putfield 170, 3) := by decide +kernel
theorem d_R_run_79 : decode b_R_run 79 = .ok (.aload_n 0, 1) := by decide +kernel
theorem d_R_run_80 : decode b_R_run 80 = .ok (.iconst 0, 1) := by decide +kernel
theorem d_R_run_81 : decode b_R_run 81 = .ok (.putfield 160, 3) := by decide +kernel
theorem d_R_run_84 : decode b_R_run 84 = .ok (.aload_n 0, 1) := by decide +kernel
theorem d_R_run_85 : decode b_R_run 85 = .ok (.iconst 0, 1) := by decide +kernel
theorem d_R_run_86 : decode b_R_run 86 = .ok (.putfield 179, 3) := by decide +kernel
theorem d_R_run_89 : decode b_R_run 89 = .ok (.aload_n 0, 1) := by decide +kernel
theorem d_R_run_90 : decode b_R_run 90 = .ok (.iconst 0, 1) := by decide +kernel
theorem d_R_run_91 : decode b_R_run 91 = .ok (.putfield 201, 3) := by decide +kernel
theorem d_R_run_94 : decode b_R_run 94 = .ok (.aload_n 0, 1) := by decide +kernel
theorem d_R_run_95 : decode b_R_run 95 = .ok (.iconst 0, 1) := by decide +kernel
theorem d_R_run_96 : decode b_R_run 96 = .ok (.putfield 167, 3) := by decide +kernel
theorem d_R_run_99 : decode b_R_run 99 = .ok (.iconst 0, 1) := by decide +kernel
theorem d_R_run_100 : decode b_R_run 100 = .ok (.istore_n 2, 1) := by decide +kernel
theorem d_R_run_101 : decode b_R_run 101 = .ok (.iload_n 2, 1) := by decide +kernel
theorem d_R_run_102 : decode b_R_run 102 = .ok (.iconst 4, 1) := by decide +kernel
theorem d_R_run_103 : decode b_R_run 103 = .ok (.if_icmp .ge (16), 3) := by decide +kernel
theorem d_R_run_106 : decode b_R_run 106 = .ok (.aload_n 0, 1) := by decide +kernel
theorem d_R_run_107 : decode b_R_run 107 = .ok (.getfield 68, 3) := by decide +kernel
theorem d_R_run_110 : decode b_R_run 110 = .ok (.iload_n 2, 1) := by decide +kernel
theorem d_R_run_111 : decode b_R_run 111 = .ok (.iconst 0, 1) := by decide +kernel
theorem d_R_run_112 : decode b_R_run 112 = .ok (.iastore, 1) := by decide +kernel
theorem d_R_run_113 : decode b_R_run 113 = .ok (.iinc 2 (1), 3) := by decide +kernel
theorem d_R_run_116 : decode b_R_run 116 = .ok (.goto (-15), 3) := by decide +kernel
theorem d_R_run_119 : decode b_R_run 119 = .ok (.aload_n 0, 1) := by decide +kernel
theorem d_R_run_120 : decode b_R_run 120 = .ok (.iconst 0, 1) := by decide +kernel
theorem d_R_run_121 : decode b_R_run 121 = .ok (.iconst 0, 1) := by decide +kernel
theorem d_R_run_122 : decode b_R_run 122 = .ok (.iconst 0, 1) := by decide +kernel
theorem d_R_run_123 : decode b_R_run 123 = .ok (.iconst 0, 1) := by decide +kernel
theorem d_R_run_124 : decode b_R_run 124 = .ok (.invokevirtual 173, 3) := by decide +kernel
theorem d_R_run_127 : decode b_R_run 127 = .ok (.aload_n 0, 1) := by decide +kernel
theorem d_R_run_128 : decode b_R_run 128 = .ok (.getfield 157, 3) := by decide +kernel
theorem d_R_run_131 : decode b_R_run 131 = .ok (.ifCond .le (108), 3) := by decide +kernel
theorem d_R_run_134 : decode b_R_run 134 = .ok (.aload_n 0, 1) := by decide +kernel
theorem d_R_run_135 : decode b_R_run 135 = .ok (.getfield 160, 3) := by decide +kernel
theorem d_R_run_138 : decode b_R_run 138 = .ok (.ifCond .ne (101), 3) := by decide +kernel
theorem d_R_run_141 : decode b_R_run 141 = .ok (.aload_n 0, 1) := by decide +kernel
theorem d_R_run_142 : decode b_R_run 142 = .ok (.getfield 47, 3) := by decide +kernel
theorem d_R_run_145 : decode b_R_run 145 = .ok (.aload_n 0, 1) := by decide +kernel
theorem d_R_run_146 : decode b_R_run 146 = .ok (.getfield 157, 3) := by decide +kernel
theorem d_R_run_149 : decode b_R_run 149 = .ok (.iconst 1, 1) := by decide +kernel
theorem d_R_run_150 : decode b_R_run 150 = .ok (.isub, 1) := by decide +kernel
theorem d_R_run_151 : decode b_R_run 151 = .ok (.iaload, 1) := by decide +kernel
theorem d_R_run_152 : decode b_R_run 152 = .ok (.istore_n 2, 1) := by decide +kernel
theorem d_R_run_153 : decode b_R_run 153 = .ok (.aload_n 0, 1) := by decide +kernel
theorem d_R_run_154 : decode b_R_run 154 = .ok (.getfield 50, 3) := by decide +kernel
theorem d_R_run_157 : decode b_R_run 157 = .ok (.aload_n 0, 1) := by decide +kernel
theorem d_R_run_158 : decode b_R_run 158 = .ok (.getfield 157, 3) := by decide +kernel
theorem d_R_run_161 : decode b_R_run 161 = .ok (.iconst 1, 1) := by decide +kernel
theorem d_R_run_162 : decode b_R_run 162 = .ok (.isub, 1) := by decide +kernel
theorem d_R_run_163 : decode b_R_run 163 = .ok (.iaload, 1) := by decide +kernel
theorem d_R_run_164 : decode b_R_run 164 = .ok (.istore_n 3, 1) := by decide +kernel
theorem d_R_run_165 : decode b_R_run 165 = .ok (.iload_n 3, 1) := by decide +kernel
theorem d_R_run_166 : decode b_R_run 166 = .ok (.ifCond .lt (13), 3) := by decide +kernel
theorem d_R_run_169 : decode b_R_run 169 = .ok (.iload_n 3, 1) := by decide +kernel
theorem d_R_run_170 : decode b_R_run 170 = .ok (.aload_n 0, 1) := by decide +kernel
theorem d_R_run_171 : decode b_R_run 171 = .ok (.getfield 13, 3) := by decide +kernel
theorem d_R_run_174 : decode b_R_run 174 = .ok (.iload_n 2, 1) := by decide +kernel
theorem d_R_run_175 : decode b_R_run 175 = .ok (.iaload, 1) := by decide +kernel
theorem d_R_run_176 : decode b_R_run 176 = .ok (.if_icmp .lt (11), 3) := by decide +kernel
theorem d_R_run_179 : decode b_R_run 179 = .ok (.aload_n 0, 1) := by decide +kernel
theorem d_R_run_180 : decode b_R_run 180 = .ok (.iconst 0, 1) := by decide +kernel
theorem d_R_run_181 : decode b_R_run 181 = .ok (.invokevirtual 176, 3) := by decide +kernel
theorem d_R_run_184 : decode b_R_run 184 = .ok (.goto (52), 3) := by decide +kernel
theorem d_R_run_187 : decode b_R_run 187 = .ok (.aload_n 0, 1) := by decide +kernel
theorem d_R_run_188 : decode b_R_run 188 = .ok (.getfield 201, 3) := by decide +kernel
theorem d_R_run_191 : decode b_R_run 191 = .ok (.sipush (400), 3) := by decide +kernel
theorem d_R_run_194 : decode b_R_run 194 = .ok (.if_icmp .ne (11), 3) := by decide +kernel
theorem d_R_run_197 : decode b_R_run 197 = .ok (.aload_n 0, 1) := by decide +kernel
theorem d_R_run_198 : decode b_R_run 198 = .ok (.iconst 4, 1) := by decide +kernel
theorem d_R_run_199 : decode b_R_run 199 = .ok (.putfield 160, 3) := by decide +kernel
theorem d_R_run_202 : decode b_R_run 202 = .ok (.goto (34), 3) := by decide +kernel
theorem d_R_run_205 : decode b_R_run 205 = .ok (.aload_n 0, 1) := by decide +kernel
theorem d_R_run_206 : decode b_R_run 206 = .ok (.dup, 1) := by decide +kernel
theorem d_R_run_207 : decode b_R_run 207 = .ok (.getfield 201, 3) := by decide +kernel
theorem d_R_run_210 : decode b_R_run 210 = .ok (.iconst 1, 1) := by decide +kernel
theorem d_R_run_211 : decode b_R_run 211 = .ok (.iadd, 1) := by decide +kernel
theorem d_R_run_212 : decode b_R_run 212 = .ok (.putfield 201, 3) := by decide +kernel
theorem d_R_run_215 : decode b_R_run 215 = .ok (.aload_n 0, 1) := by decide +kernel
theorem d_R_run_216 : decode b_R_run 216 = .ok (.bipush (24), 2) := by decide +kernel
theorem d_R_run_218 : decode b_R_run 218 = .ok (.iload_n 2, 1) := by decide +kernel
theorem d_R_run_219 : decode b_R_run 219 = .ok (.imul, 1) := by decide +kernel
theorem d_R_run_220 : decode b_R_run 220 = .ok (.iload_n 3, 1) := by decide +kernel
theorem d_R_run_221 : decode b_R_run 221 = .ok (.iadd, 1) := by decide +kernel
theorem d_R_run_222 : decode b_R_run 222 = .ok (.aload_n 0, 1) := by decide +kernel
theorem d_R_run_223 : decode b_R_run 223 = .ok (.getfield 74, 3) := by decide +kernel
theorem d_R_run_226 : decode b_R_run 226 = .ok (.bipush (24), 2) := by decide +kernel
theorem d_R_run_228 : decode b_R_run 228 = .ok (.iload_n 2, 1) := by decide +kernel
theorem d_R_run_229 : decode b_R_run 229 = .ok (.imul, 1) := by decide +kernel
theorem d_R_run_230 : decode b_R_run 230 = .ok (.iload_n 3, 1) := by decide +kernel
theorem d_R_run_231 : decode b_R_run 231 = .ok (.iadd, 1) := by decide +kernel
theorem d_R_run_232 : decode b_R_run 232 = .ok (.iaload, 1) := by decide +kernel
theorem d_R_run_233 : decode b_R_run 233 = .ok (.invokevirtual 204, 3) := by decide +kernel
theorem d_R_run_236 : decode b_R_run 236 = .ok (.goto (-109), 3) := by decide +kernel
theorem d_R_run_239 : decode b_R_run 239 = .ok (.aload_n 0, 1) := by decide +kernel
theorem d_R_run_240 : decode b_R_run 240 = .ok (.getfield 160, 3) := by decide +kernel
theorem d_R_run_243 : decode b_R_run 243 = .ok (.ireturn, 1) := by decide +kernel
theorem d_R_know_0 : decode b_R_know 0 = .ok (.iconst 4, 1) := by decide +kernel
theorem d_R_know_1 : decode b_R_know 1 = .ok (.istore_n 1, 1) := by decide +kernel
theorem d_R_know_2 : decode b_R_know 2 = .ok (.iload_n 1, 1) := by decide +kernel
theorem d_R_know_3 : decode b_R_know 3 = .ok (.ifCond .lt (21), 3) := by decide +kernel
theorem d_R_know_6 : decode b_R_know 6 = .ok (.aload_n 0, 1) := by decide +kernel
theorem d_R_know_7 : decode b_R_know 7 = .ok (.getfield 85, 3) := by decide +kernel
theorem d_R_know_10 : decode b_R_know 10 = .ok (.ifCond .ne (14), 3) := by decide +kernel
theorem d_R_know_13 : decode b_R_know 13 = .ok (.aload_n 0, 1) := by decide +kernel
theorem d_R_know_14 : decode b_R_know 14 = .ok (.iload_n 1, 1) := by decide +kernel
theorem d_R_know_15 : decode b_R_know 15 = .ok (.invokevirtual 121, 3) := by decide +kernel
theorem d_R_know_18 : decode b_R_know 18 = .ok (.iinc 1 (-1), 3) := by decide +kernel
theorem d_R_know_21 : decode b_R_know 21 = .ok (.goto (-19), 3) := by decide +kernel
theorem d_R_know_24 : decode b_R_know 24 = .ok (.aload_n 0, 1) := by decide +kernel
theorem d_R_know_25 : decode b_R_know 25 = .ok (.iconst 1, 1) := by decide +kernel
theorem d_R_know_26 : decode b_R_know 26 = .ok (.putfield 85, 3) := by decide +kernel
theorem d_R_know_29 : decode b_R_know 29 = .ok (.return_, 1) := by decide +kernel
theorem d_R_analyse_0 : decode b_R_analyse 0 = .ok (.iconst 0, 1) := by decide +kernel
theorem d_R_analyse_1 : decode b_R_analyse 1 = .ok (.istore_n 2, 1) := by decide +kernel
theorem d_R_analyse_2 : decode b_R_analyse 2 = .ok (.iload_n 2, 1) := by decide +kernel
theorem d_R_analyse_3 : decode b_R_analyse 3 = .ok (.iconst 4, 1) := by decide +kernel
theorem d_R_analyse_4 : decode b_R_analyse 4 = .ok (.if_icmp .ge (20), 3) := by decide +kernel
theorem d_R_analyse_7 : decode b_R_analyse 7 = .ok (.aload_n 0, 1) := by decide +kernel
theorem d_R_analyse_8 : decode b_R_analyse 8 = .ok (.getfield 31, 3) := by decide +kernel
theorem d_R_analyse_11 : decode b_R_analyse 11 = .ok (.iconst 4, 1) := by decide +kernel
theorem d_R_analyse_12 : decode b_R_analyse 12 = .ok (.iload_n 1, 1) := by decide +kernel
theorem d_R_analyse_13 : decode b_R_analyse 13 = .ok (.imul, 1) := by decide +kernel
theorem d_R_analyse_14 : decode b_R_analyse 14 = .ok (.iload_n 2, 1) := by decide +kernel
theorem d_R_analyse_15 : decode b_R_analyse 15 = .ok (.iadd, 1) := by decide +kernel
theorem d_R_analyse_16 : decode b_R_analyse 16 = .ok (.iconst 0, 1) := by decide +kernel
theorem d_R_analyse_17 : decode b_R_analyse 17 = .ok (.iastore, 1) := by decide +kernel
theorem d_R_analyse_18 : decode b_R_analyse 18 = .ok (.iinc 2 (1), 3) := by decide +kernel
theorem d_R_analyse_21 : decode b_R_analyse 21 = .ok (.goto (-19), 3) := by decide +kernel
theorem d_R_analyse_24 : decode b_R_analyse 24 = .ok (.iconst 0, 1) := by decide +kernel
theorem d_R_analyse_25 : decode b_R_analyse 25 = .ok (.istore_n 2, 1) := by decide +kernel
theorem d_R_analyse_26 : decode b_R_analyse 26 = .ok (.iload_n 2, 1) := by decide +kernel
theorem d_R_analyse_27 : decode b_R_analyse 27 = .ok (.bipush (54), 2) := by decide +kernel
theorem d_R_analyse_29 : decode b_R_analyse 29 = .ok (.if_icmp .ge (21), 3) := by decide +kernel
theorem d_R_analyse_32 : decode b_R_analyse 32 = .ok (.aload_n 0, 1) := by decide +kernel
theorem d_R_analyse_33 : decode b_R_analyse 33 = .ok (.getfield 34, 3) := by decide +kernel
theorem d_R_analyse_36 : decode b_R_analyse 36 = .ok (.bipush (54), 2) := by decide +kernel
theorem d_R_analyse_38 : decode b_R_analyse 38 = .ok (.iload_n 1, 1) := by decide +kernel
theorem d_R_analyse_39 : decode b_R_analyse 39 = .ok (.imul, 1) := by decide +kernel
theorem d_R_analyse_40 : decode b_R_analyse 40 = .ok (.iload_n 2, 1) := by decide +kernel
theorem d_R_analyse_41 : decode b_R_analyse 41 = .ok (.iadd, 1) := by decide +kernel
theorem d_R_analyse_42 : decode b_R_analyse 42 = .ok (.iconst 0, 1) := by decide +kernel
theorem d_R_analyse_43 : decode b_R_analyse 43 = .ok (.iastore, 1) := by decide +kernel
theorem d_R_analyse_44 : decode b_R_analyse 44 = .ok (.iinc 2 (1), 3) := by decide +kernel
theorem d_R_analyse_47 : decode b_R_analyse 47 = .ok (.goto (-21), 3) := by decide +kernel
theorem d_R_analyse_50 : decode b_R_analyse 50 = .ok (.aload_n 0, 1) := by decide +kernel
theorem d_R_analyse_51 : decode b_R_analyse 51 = .ok (.getfield 37, 3) := by decide +kernel
theorem d_R_analyse_54 : decode b_R_analyse 54 = .ok (.iload_n 1, 1) := by decide +kernel
theorem d_R_analyse_55 : decode b_R_analyse 55 = .ok (.iconst 0, 1) := by decide +kernel
theorem d_R_analyse_56 : decode b_R_analyse 56 = .ok (.iastore, 1) := by decide +kernel
theorem d_R_analyse_57 : decode b_R_analyse 57 = .ok (.aload_n 0, 1) := by decide +kernel
theorem d_R_analyse_58 : decode b_R_analyse 58 = .ok (.getfield 40, 3) := by decide +kernel
theorem d_R_analyse_61 : decode b_R_analyse 61 = .ok (.iconst 2, 1) := by decide +kernel
theorem d_R_analyse_62 : decode b_R_analyse 62 = .ok (.iload_n 1, 1) := by decide +kernel
theorem d_R_analyse_63 : decode b_R_analyse 63 = .ok (.imul, 1) := by decide +kernel
theorem d_R_analyse_64 : decode b_R_analyse 64 = .ok (.iconst 0, 1) := by decide +kernel
theorem d_R_analyse_65 : decode b_R_analyse 65 = .ok (.iastore, 1) := by decide +kernel
theorem d_R_analyse_66 : decode b_R_analyse 66 = .ok (.aload_n 0, 1) := by decide +kernel
theorem d_R_analyse_67 : decode b_R_analyse 67 = .ok (.getfield 40, 3) := by decide +kernel
theorem d_R_analyse_70 : decode b_R_analyse 70 = .ok (.iconst 2, 1) := by decide +kernel
theorem d_R_analyse_71 : decode b_R_analyse 71 = .ok (.iload_n 1, 1) := by decide +kernel
theorem d_R_analyse_72 : decode b_R_analyse 72 = .ok (.imul, 1) := by decide +kernel
theorem d_R_analyse_73 : decode b_R_analyse 73 = .ok (.iconst 1, 1) := by decide +kernel
theorem d_R_analyse_74 : decode b_R_analyse 74 = .ok (.iadd, 1) := by decide +kernel
theorem d_R_analyse_75 : decode b_R_analyse 75 = .ok (.iconst 0, 1) := by decide +kernel
theorem d_R_analyse_76 : decode b_R_analyse 76 = .ok (.iastore, 1) := by decide +kernel
theorem d_R_analyse_77 : decode b_R_analyse 77 = .ok (.aload_n 0, 1) := by decide +kernel
theorem d_R_analyse_78 : decode b_R_analyse 78 = .ok (.getfield 13, 3) := by decide +kernel
theorem d_R_analyse_81 : decode b_R_analyse 81 = .ok (.iload_n 1, 1) := by decide +kernel
theorem d_R_analyse_82 : decode b_R_analyse 82 = .ok (.iaload, 1) := by decide +kernel
theorem d_R_analyse_83 : decode b_R_analyse 83 = .ok (.ifCond .ne (4), 3) := by decide +kernel
theorem d_R_analyse_86 : decode b_R_analyse 86 = .ok (.return_, 1) := by decide +kernel
theorem d_R_analyse_87 : decode b_R_analyse 87 = .ok (.aload_n 0, 1) := by decide +kernel
theorem d_R_analyse_88 : decode b_R_analyse 88 = .ok (.iload_n 1, 1) := by decide +kernel
theorem d_R_analyse_89 : decode b_R_analyse 89 = .ok (.ldc 92, 2) := by decide +kernel
theorem d_R_analyse_91 : decode b_R_analyse 91 = .ok (.iconst 2, 1) := by decide +kernel
theorem d_R_analyse_92 : decode b_R_analyse 92 = .ok (.ldc 92, 2) := by decide +kernel
theorem d_R_analyse_94 : decode b_R_analyse 94 = .ok (.invokevirtual 97, 3) := by decide +kernel
theorem d_R_analyse_97 : decode b_R_analyse 97 = .ok (.iconst 0, 1) := by decide +kernel
theorem d_R_analyse_98 : decode b_R_analyse 98 = .ok (.istore_n 2, 1) := by decide +kernel
theorem d_R_analyse_99 : decode b_R_analyse 99 = .ok (.iload_n 2, 1) := by decide +kernel
theorem d_R_analyse_100 : decode b_R_analyse 100 = .ok (.aload_n 0, 1) := by decide +kernel
theorem d_R_analyse_101 : decode b_R_analyse 101 = .ok (.getfield 7, 3) := by decide +kernel
theorem d_R_analyse_104 : decode b_R_analyse 104 = .ok (.iload_n 1, 1) := by decide +kernel
theorem d_R_analyse_105 : decode b_R_analyse 105 = .ok (.iaload, 1) := by decide +kernel
theorem d_R_analyse_106 : decode b_R_analyse 106 = .ok (.if_icmp .ge (43), 3) := by decide +kernel
theorem d_R_analyse_109 : decode b_R_analyse 109 = .ok (.aload_n 0, 1) := by decide +kernel
theorem d_R_analyse_110 : decode b_R_analyse 110 = .ok (.getfield 31, 3) := by decide +kernel
theorem d_R_analyse_113 : decode b_R_analyse 113 = .ok (.iconst 4, 1) := by decide +kernel
theorem d_R_analyse_114 : decode b_R_analyse 114 = .ok (.iload_n 1, 1) := by decide +kernel
theorem d_R_analyse_115 : decode b_R_analyse 115 = .ok (.imul, 1) := by decide +kernel
theorem d_R_analyse_116 : decode b_R_analyse 116 = .ok (.iload_n 2, 1) := by decide +kernel
theorem d_R_analyse_117 : decode b_R_analyse 117 = .ok (.iadd, 1) := by decide +kernel
theorem d_R_analyse_118 : decode b_R_analyse 118 = .ok (.iconst 1, 1) := by decide +kernel
theorem d_R_analyse_119 : decode b_R_analyse 119 = .ok (.bipush (24), 2) := by decide +kernel
theorem d_R_analyse_121 : decode b_R_analyse 121 = .ok (.iload_n 2, 1) := by decide +kernel
theorem d_R_analyse_122 : decode b_R_analyse 122 = .ok (.iadd, 1) := by decide +kernel
theorem d_R_analyse_123 : decode b_R_analyse 123 = .ok (.ishl, 1) := by decide +kernel
theorem d_R_analyse_124 : decode b_R_analyse 124 = .ok (.iastore, 1) := by decide +kernel
theorem d_R_analyse_125 : decode b_R_analyse 125 = .ok (.aload_n 0, 1) := by decide +kernel
theorem d_R_analyse_126 : decode b_R_analyse 126 = .ok (.iload_n 1, 1) := by decide +kernel
theorem d_R_analyse_127 : decode b_R_analyse 127 = .ok (.iconst 1, 1) := by decide +kernel
theorem d_R_analyse_128 : decode b_R_analyse 128 = .ok (.bipush (24), 2) := by decide +kernel
theorem d_R_analyse_130 : decode b_R_analyse 130 = .ok (.iload_n 2, 1) := by decide +kernel
theorem d_R_analyse_131 : decode b_R_analyse 131 = .ok (.iadd, 1) := by decide +kernel
theorem d_R_analyse_132 : decode b_R_analyse 132 = .ok (.ishl, 1) := by decide +kernel
theorem d_R_analyse_133 : decode b_R_analyse 133 = .ok (.iconst 2, 1) := by decide +kernel
theorem d_R_analyse_134 : decode b_R_analyse 134 = .ok (.iconst 1, 1) := by decide +kernel
theorem d_R_analyse_135 : decode b_R_analyse 135 = .ok (.bipush (24), 2) := by decide +kernel
theorem d_R_analyse_137 : decode b_R_analyse 137 = .ok (.iload_n 2, 1) := by decide +kernel
theorem d_R_analyse_138 : decode b_R_analyse 138 = .ok (.iadd, 1) := by decide +kernel
theorem d_R_analyse_139 : decode b_R_analyse 139 = .ok (.ishl, 1) := by decide +kernel
theorem d_R_analyse_140 : decode b_R_analyse 140 = .ok (.invokevirtual 97, 3) := by decide +kernel
theorem d_R_analyse_143 : decode b_R_analyse 143 = .ok (.iinc 2 (1), 3) := by decide +kernel
theorem d_R_analyse_146 : decode b_R_analyse 146 = .ok (.goto (-47), 3) := by decide +kernel
theorem d_R_analyse_149 : decode b_R_analyse 149 = .ok (.iconst (-1), 1) := by decide +kernel
theorem d_R_analyse_150 : decode b_R_analyse 150 = .ok (.istore_n 2, 1) := by decide +kernel
theorem d_R_analyse_151 : decode b_R_analyse 151 = .ok (.aload_n 0, 1) := by decide +kernel
theorem d_R_analyse_152 : decode b_R_analyse 152 = .ok (.iload_n 1, 1) := by decide +kernel
theorem d_R_analyse_153 : decode b_R_analyse 153 = .ok (.invokevirtual 114, 3) := by decide +kernel
theorem d_R_analyse_156 : decode b_R_analyse 156 = .ok (.istore_n 3, 1) := by decide +kernel
theorem d_R_analyse_157 : decode b_R_analyse 157 = .ok (.iload_n 3, 1) := by decide +kernel
theorem d_R_analyse_158 : decode b_R_analyse 158 = .ok (.iload_n 2, 1) := by decide +kernel
theorem d_R_analyse_159 : decode b_R_analyse 159 = .ok (.if_icmp .le (41), 3) := by decide +kernel
theorem d_R_analyse_162 : decode b_R_analyse 162 = .ok (.iconst 0, 1) := by decide +kernel
theorem d_R_analyse_163 : decode b_R_analyse 163 = .ok (.istore 4, 2) := by decide +kernel
theorem d_R_analyse_165 : decode b_R_analyse 165 = .ok (.iload 4, 2) := by decide +kernel
theorem d_R_analyse_167 : decode b_R_analyse 167 = .ok (.aload_n 0, 1) := by decide +kernel
theorem d_R_analyse_168 : decode b_R_analyse 168 = .ok (.getfield 13, 3) := by decide +kernel
theorem d_R_analyse_171 : decode b_R_analyse 171 = .ok (.iload_n 1, 1) := by decide +kernel
theorem d_R_analyse_172 : decode b_R_analyse 172 = .ok (.iaload, 1) := by decide +kernel
theorem d_R_analyse_173 : decode b_R_analyse 173 = .ok (.if_icmp .ge (16), 3) := by decide +kernel
theorem d_R_analyse_176 : decode b_R_analyse 176 = .ok (.aload_n 0, 1) := by decide +kernel
theorem d_R_analyse_177 : decode b_R_analyse 177 = .ok (.iload_n 1, 1) := by decide +kernel
theorem d_R_analyse_178 : decode b_R_analyse 178 = .ok (.iload 4, 2) := by decide +kernel
theorem d_R_analyse_180 : decode b_R_analyse 180 = .ok (.invokevirtual 118, 3) := by decide +kernel
theorem d_R_analyse_183 : decode b_R_analyse 183 = .ok (.iinc 4 (1), 3) := by decide +kernel
theorem d_R_analyse_186 : decode b_R_analyse 186 = .ok (.goto (-21), 3) := by decide +kernel
theorem d_R_analyse_189 : decode b_R_analyse 189 = .ok (.iload_n 3, 1) := by decide +kernel
theorem d_R_analyse_190 : decode b_R_analyse 190 = .ok (.istore_n 2, 1) := by decide +kernel
theorem d_R_analyse_191 : decode b_R_analyse 191 = .ok (.aload_n 0, 1) := by decide +kernel
theorem d_R_analyse_192 : decode b_R_analyse 192 = .ok (.iload_n 1, 1) := by decide +kernel
theorem d_R_analyse_193 : decode b_R_analyse 193 = .ok (.invokevirtual 114, 3) := by decide +kernel
theorem d_R_analyse_196 : decode b_R_analyse 196 = .ok (.istore_n 3, 1) := by decide +kernel
theorem d_R_analyse_197 : decode b_R_analyse 197 = .ok (.goto (-40), 3) := by decide +kernel
theorem d_R_analyse_200 : decode b_R_analyse 200 = .ok (.aload_n 0, 1) := by decide +kernel
theorem d_R_analyse_201 : decode b_R_analyse 201 = .ok (.iload_n 1, 1) := by decide +kernel
theorem d_R_analyse_202 : decode b_R_analyse 202 = .ok (.ldc 92, 2) := by decide +kernel
theorem d_R_analyse_204 : decode b_R_analyse 204 = .ok (.invokevirtual 93, 3) := by decide +kernel
theorem d_R_analyse_207 : decode b_R_analyse 207 = .ok (.istore 4, 2) := by decide +kernel
theorem d_R_analyse_209 : decode b_R_analyse 209 = .ok (.aload_n 0, 1) := by decide +kernel
theorem d_R_analyse_210 : decode b_R_analyse 210 = .ok (.iload_n 1, 1) := by decide +kernel
theorem d_R_analyse_211 : decode b_R_analyse 211 = .ok (.aload_n 0, 1) := by decide +kernel
theorem d_R_analyse_212 : decode b_R_analyse 212 = .ok (.getfield 37, 3) := by decide +kernel
theorem d_R_analyse_215 : decode b_R_analyse 215 = .ok (.iload_n 1, 1) := by decide +kernel
theorem d_R_analyse_216 : decode b_R_analyse 216 = .ok (.iaload, 1) := by decide +kernel
theorem d_R_analyse_217 : decode b_R_analyse 217 = .ok (.invokevirtual 93, 3) := by decide +kernel
theorem d_R_analyse_220 : decode b_R_analyse 220 = .ok (.istore 5, 2) := by decide +kernel
theorem d_R_analyse_222 : decode b_R_analyse 222 = .ok (.iconst 0, 1) := by decide +kernel
theorem d_R_analyse_223 : decode b_R_analyse 223 = .ok (.istore 6, 2) := by decide +kernel
theorem d_R_analyse_225 : decode b_R_analyse 225 = .ok (.iload 6, 2) := by decide +kernel
theorem d_R_analyse_227 : decode b_R_analyse 227 = .ok (.aload_n 0, 1) := by decide +kernel
theorem d_R_analyse_228 : decode b_R_analyse 228 = .ok (.getfield 7, 3) := by decide +kernel
theorem d_R_analyse_231 : decode b_R_analyse 231 = .ok (.iload_n 1, 1) := by decide +kernel
theorem d_R_analyse_232 : decode b_R_analyse 232 = .ok (.iaload, 1) := by decide +kernel
theorem d_R_analyse_233 : decode b_R_analyse 233 = .ok (.if_icmp .ge (92), 3) := by decide +kernel
theorem d_R_analyse_236 : decode b_R_analyse 236 = .ok (.aload_n 0, 1) := by decide +kernel
theorem d_R_analyse_237 : decode b_R_analyse 237 = .ok (.getfield 7, 3) := by decide +kernel
theorem d_R_analyse_240 : decode b_R_analyse 240 = .ok (.iload_n 1, 1) := by decide +kernel
theorem d_R_analyse_241 : decode b_R_analyse 241 = .ok (.iaload, 1) := by decide +kernel
theorem d_R_analyse_242 : decode b_R_analyse 242 = .ok (.iconst 2, 1) := by decide +kernel
theorem d_R_analyse_243 : decode b_R_analyse 243 = .ok (.if_icmp .ne (18), 3) := by decide +kernel
theorem d_R_analyse_246 : decode b_R_analyse 246 = .ok (.aload_n 0, 1) := by decide +kernel
theorem d_R_analyse_247 : decode b_R_analyse 247 = .ok (.iload_n 1, 1) := by decide +kernel
theorem d_R_analyse_248 : decode b_R_analyse 248 = .ok (.iconst 1, 1) := by decide +kernel
theorem d_R_analyse_249 : decode b_R_analyse 249 = .ok (.bipush (25), 2) := by decide +kernel
theorem d_R_analyse_251 : decode b_R_analyse 251 = .ok (.iload 6, 2) := by decide +kernel
theorem d_R_analyse_253 : decode b_R_analyse 253 = .ok (.isub, 1) := by decide +kernel
theorem d_R_analyse_254 : decode b_R_analyse 254 = .ok (.ishl, 1) := by decide +kernel
theorem d_R_analyse_255 : decode b_R_analyse 255 = .ok (.invokevirtual 93, 3) := by decide +kernel
theorem d_R_analyse_258 : decode b_R_analyse 258 = .ok (.goto (4), 3) := by decide +kernel
theorem d_R_analyse_261 : decode b_R_analyse 261 = .ok (.iconst 0, 1) := by decide +kernel
theorem d_R_analyse_262 : decode b_R_analyse 262 = .ok (.istore 7, 2) := by decide +kernel
theorem d_R_analyse_264 : decode b_R_analyse 264 = .ok (.aload_n 0, 1) := by decide +kernel
theorem d_R_analyse_265 : decode b_R_analyse 265 = .ok (.getfield 40, 3) := by decide +kernel
theorem d_R_analyse_268 : decode b_R_analyse 268 = .ok (.iconst 2, 1) := by decide +kernel
theorem d_R_analyse_269 : decode b_R_analyse 269 = .ok (.iload_n 1, 1) := by decide +kernel
theorem d_R_analyse_270 : decode b_R_analyse 270 = .ok (.imul, 1) := by decide +kernel
theorem d_R_analyse_271 : decode b_R_analyse 271 = .ok (.iload 6, 2) := by decide +kernel
theorem d_R_analyse_273 : decode b_R_analyse 273 = .ok (.iadd, 1) := by decide +kernel
theorem d_R_analyse_274 : decode b_R_analyse 274 = .ok (.iload 4, 2) := by decide +kernel
theorem d_R_analyse_276 : decode b_R_analyse 276 = .ok (.bipush (24), 2) := by decide +kernel
theorem d_R_analyse_278 : decode b_R_analyse 278 = .ok (.iload 6, 2) := by decide +kernel
theorem d_R_analyse_280 : decode b_R_analyse 280 = .ok (.iadd, 1) := by decide +kernel
theorem d_R_analyse_281 : decode b_R_analyse 281 = .ok (.ishr, 1) := by decide +kernel
theorem d_R_analyse_282 : decode b_R_analyse 282 = .ok (.iconst 1, 1) := by decide +kernel
theorem d_R_analyse_283 : decode b_R_analyse 283 = .ok (.iand, 1) := by decide +kernel
theorem d_R_analyse_284 : decode b_R_analyse 284 = .ok (.iconst 1, 1) := by decide +kernel
theorem d_R_analyse_285 : decode b_R_analyse 285 = .ok (.if_icmp .ne (7), 3) := by decide +kernel
theorem d_R_analyse_288 : decode b_R_analyse 288 = .ok (.iconst 2, 1) := by decide +kernel
theorem d_R_analyse_289 : decode b_R_analyse 289 = .ok (.goto (29), 3) := by decide +kernel
theorem d_R_analyse_292 : decode b_R_analyse 292 = .ok (.aload_n 0, 1) := by decide +kernel
theorem d_R_analyse_293 : decode b_R_analyse 293 = .ok (.iload_n 1, 1) := by decide +kernel
theorem d_R_analyse_294 : decode b_R_analyse 294 = .ok (.iconst 1, 1) := by decide +kernel
theorem d_R_analyse_295 : decode b_R_analyse 295 = .ok (.bipush (24), 2) := by decide +kernel
theorem d_R_analyse_297 : decode b_R_analyse 297 = .ok (.iload 6, 2) := by decide +kernel
theorem d_R_analyse_299 : decode b_R_analyse 299 = .ok (.iadd, 1) := by decide +kernel
theorem d_R_analyse_300 : decode b_R_analyse 300 = .ok (.ishl, 1) := by decide +kernel
theorem d_R_analyse_301 : decode b_R_analyse 301 = .ok (.invokevirtual 93, 3) := by decide +kernel
theorem d_R_analyse_304 : decode b_R_analyse 304 = .ok (.iload 5, 2) := by decide +kernel
theorem d_R_analyse_306 : decode b_R_analyse 306 = .ok (.iload 7, 2) := by decide +kernel
theorem d_R_analyse_308 : decode b_R_analyse 308 = .ok (.ior, 1) := by decide +kernel
theorem d_R_analyse_309 : decode b_R_analyse 309 = .ok (.iand, 1) := by decide +kernel
theorem d_R_analyse_310 : decode b_R_analyse 310 = .ok (.ifCond .eq (7), 3) := by decide +kernel
theorem d_R_analyse_313 : decode b_R_analyse 313 = .ok (.iconst 1, 1) := by decide +kernel
theorem d_R_analyse_314 : decode b_R_analyse 314 = .ok (.goto (4), 3) := by decide +kernel
theorem d_R_analyse_317 : decode b_R_analyse 317 = .ok (.iconst 0, 1) := by decide +kernel
theorem d_R_analyse_318 : decode b_R_analyse 318 = .ok (.iastore, 1) := by decide +kernel
theorem d_R_analyse_319 : decode b_R_analyse 319 = .ok (.iinc 6 (1), 3) := by decide +kernel
theorem d_R_analyse_322 : decode b_R_analyse 322 = .ok (.goto (-97), 3) := by decide +kernel
theorem d_R_analyse_325 : decode b_R_analyse 325 = .ok (.return_, 1) := by decide +kernel
theorem d_R_holds_0 : decode b_R_holds 0 = .ok (.iconst 0, 1) := by decide +kernel
theorem d_R_holds_1 : decode b_R_holds 1 = .ok (.istore 5, 2) := by decide +kernel
theorem d_R_holds_3 : decode b_R_holds 3 = .ok (.iload 5, 2) := by decide +kernel
theorem d_R_holds_5 : decode b_R_holds 5 = .ok (.bipush (27), 2) := by decide +kernel
theorem d_R_holds_7 : decode b_R_holds 7 = .ok (.if_icmp .ge (93), 3) := by decide +kernel
theorem d_R_holds_10 : decode b_R_holds 10 = .ok (.iload_n 2, 1) := by decide +kernel
theorem d_R_holds_11 : decode b_R_holds 11 = .ok (.iload 5, 2) := by decide +kernel
theorem d_R_holds_13 : decode b_R_holds 13 = .ok (.ishr, 1) := by decide +kernel
theorem d_R_holds_14 : decode b_R_holds 14 = .ok (.iconst 1, 1) := by decide +kernel
theorem d_R_holds_15 : decode b_R_holds 15 = .ok (.iand, 1) := by decide +kernel
theorem d_R_holds_16 : decode b_R_holds 16 = .ok (.iconst 1, 1) := by decide +kernel
theorem d_R_holds_17 : decode b_R_holds 17 = .ok (.if_icmp .ne (77), 3) := by decide +kernel
theorem d_R_holds_20 : decode b_R_holds 20 = .ok (.iconst 0, 1) := by decide +kernel
theorem d_R_holds_21 : decode b_R_holds 21 = .ok (.istore 6, 2) := by decide +kernel
theorem d_R_holds_23 : decode b_R_holds 23 = .ok (.iload 6, 2) := by decide +kernel
theorem d_R_holds_25 : decode b_R_holds 25 = .ok (.iconst 2, 1) := by decide +kernel
theorem d_R_holds_26 : decode b_R_holds 26 = .ok (.if_icmp .ge (68), 3) := by decide +kernel
theorem d_R_holds_29 : decode b_R_holds 29 = .ok (.bipush (54), 2) := by decide +kernel
theorem d_R_holds_31 : decode b_R_holds 31 = .ok (.iload_n 1, 1) := by decide +kernel
theorem d_R_holds_32 : decode b_R_holds 32 = .ok (.imul, 1) := by decide +kernel
theorem d_R_holds_33 : decode b_R_holds 33 = .ok (.iconst 2, 1) := by decide +kernel
theorem d_R_holds_34 : decode b_R_holds 34 = .ok (.iload 5, 2) := by decide +kernel
theorem d_R_holds_36 : decode b_R_holds 36 = .ok (.imul, 1) := by decide +kernel
theorem d_R_holds_37 : decode b_R_holds 37 = .ok (.iadd, 1) := by decide +kernel
theorem d_R_holds_38 : decode b_R_holds 38 = .ok (.iload 6, 2) := by decide +kernel
theorem d_R_holds_40 : decode b_R_holds 40 = .ok (.iadd, 1) := by decide +kernel
theorem d_R_holds_41 : decode b_R_holds 41 = .ok (.istore 7, 2) := by decide +kernel
theorem d_R_holds_43 : decode b_R_holds 43 = .ok (.aload_n 0, 1) := by decide +kernel
theorem d_R_holds_44 : decode b_R_holds 44 = .ok (.getfield 34, 3) := by decide +kernel
theorem d_R_holds_47 : decode b_R_holds 47 = .ok (.iload 7, 2) := by decide +kernel
theorem d_R_holds_49 : decode b_R_holds 49 = .ok (.iload 5, 2) := by decide +kernel
theorem d_R_holds_51 : decode b_R_holds 51 = .ok (.bipush (23), 2) := by decide +kernel
theorem d_R_holds_53 : decode b_R_holds 53 = .ok (.if_icmp .gt (14), 3) := by decide +kernel
theorem d_R_holds_56 : decode b_R_holds 56 = .ok (.iload 6, 2) := by decide +kernel
theorem d_R_holds_58 : decode b_R_holds 58 = .ok (.iload_n 3, 1) := by decide +kernel
theorem d_R_holds_59 : decode b_R_holds 59 = .ok (.if_icmp .eq (8), 3) := by decide +kernel
theorem d_R_holds_62 : decode b_R_holds 62 = .ok (.iload_n 3, 1) := by decide +kernel
theorem d_R_holds_63 : decode b_R_holds 63 = .ok (.iconst 2, 1) := by decide +kernel
theorem d_R_holds_64 : decode b_R_holds 64 = .ok (.if_icmp .ne (16), 3) := by decide +kernel
theorem d_R_holds_67 : decode b_R_holds 67 = .ok (.aload_n 0, 1) := by decide +kernel
theorem d_R_holds_68 : decode b_R_holds 68 = .ok (.getfield 34, 3) := by decide +kernel
theorem d_R_holds_71 : decode b_R_holds 71 = .ok (.iload 7, 2) := by decide +kernel
theorem d_R_holds_73 : decode b_R_holds 73 = .ok (.iaload, 1) := by decide +kernel
theorem d_R_holds_74 : decode b_R_holds 74 = .ok (.iload 4, 2) := by decide +kernel
theorem d_R_holds_76 : decode b_R_holds 76 = .ok (.ior, 1) := by decide +kernel
theorem d_R_holds_77 : decode b_R_holds 77 = .ok (.goto (10), 3) := by decide +kernel
theorem d_R_holds_80 : decode b_R_holds 80 = .ok (.aload_n 0, 1) := by decide +kernel
theorem d_R_holds_81 : decode b_R_holds 81 = .ok (.getfield 34, 3) := by decide +kernel
theorem d_R_holds_84 : decode b_R_holds 84 = .ok (.iload 7, 2) := by decide +kernel
theorem d_R_holds_86 : decode b_R_holds 86 = .ok (.iaload, 1) := by decide +kernel
theorem d_R_holds_87 : decode b_R_holds 87 = .ok (.iastore, 1) := by decide +kernel
theorem d_R_holds_88 : decode b_R_holds 88 = .ok (.iinc 6 (1), 3) := by decide +kernel
theorem d_R_holds_91 : decode b_R_holds 91 = .ok (.goto (-68), 3) := by decide +kernel
theorem d_R_holds_94 : decode b_R_holds 94 = .ok (.iinc 5 (1), 3) := by decide +kernel
theorem d_R_holds_97 : decode b_R_holds 97 = .ok (.goto (-94), 3) := by decide +kernel
theorem d_R_holds_100 : decode b_R_holds 100 = .ok (.return_, 1) := by decide +kernel
theorem d_R_weight_0 : decode b_R_weight 0 = .ok (.iconst 0, 1) := by decide +kernel
theorem d_R_weight_1 : decode b_R_weight 1 = .ok (.istore_n 2, 1) := by decide +kernel
theorem d_R_weight_2 : decode b_R_weight 2 = .ok (.iconst 0, 1) := by decide +kernel
theorem d_R_weight_3 : decode b_R_weight 3 = .ok (.istore_n 3, 1) := by decide +kernel
theorem d_R_weight_4 : decode b_R_weight 4 = .ok (.iload_n 3, 1) := by decide +kernel
theorem d_R_weight_5 : decode b_R_weight 5 = .ok (.bipush (27), 2) := by decide +kernel
theorem d_R_weight_7 : decode b_R_weight 7 = .ok (.if_icmp .ge (90), 3) := by decide +kernel
theorem d_R_weight_10 : decode b_R_weight 10 = .ok (.iload_n 2, 1) := by decide +kernel
theorem d_R_weight_11 : decode b_R_weight 11 = .ok (.aload_n 0, 1) := by decide +kernel
theorem d_R_weight_12 : decode b_R_weight 12 = .ok (.getfield 37, 3) := by decide +kernel
theorem d_R_weight_15 : decode b_R_weight 15 = .ok (.iload_n 1, 1) := by decide +kernel
theorem d_R_weight_16 : decode b_R_weight 16 = .ok (.iaload, 1) := by decide +kernel
theorem d_R_weight_17 : decode b_R_weight 17 = .ok (.iload_n 3, 1) := by decide +kernel
theorem d_R_weight_18 : decode b_R_weight 18 = .ok (.ishr, 1) := by decide +kernel
theorem d_R_weight_19 : decode b_R_weight 19 = .ok (.iconst 1, 1) := by decide +kernel
theorem d_R_weight_20 : decode b_R_weight 20 = .ok (.iand, 1) := by decide +kernel
theorem d_R_weight_21 : decode b_R_weight 21 = .ok (.iadd, 1) := by decide +kernel
theorem d_R_weight_22 : decode b_R_weight 22 = .ok (.istore_n 2, 1) := by decide +kernel
theorem d_R_weight_23 : decode b_R_weight 23 = .ok (.iconst 0, 1) := by decide +kernel
theorem d_R_weight_24 : decode b_R_weight 24 = .ok (.istore 4, 2) := by decide +kernel
theorem d_R_weight_26 : decode b_R_weight 26 = .ok (.iload 4, 2) := by decide +kernel
theorem d_R_weight_28 : decode b_R_weight 28 = .ok (.iconst 4, 1) := by decide +kernel
theorem d_R_weight_29 : decode b_R_weight 29 = .ok (.if_icmp .ge (27), 3) := by decide +kernel
theorem d_R_weight_32 : decode b_R_weight 32 = .ok (.iload_n 2, 1) := by decide +kernel
theorem d_R_weight_33 : decode b_R_weight 33 = .ok (.aload_n 0, 1) := by decide +kernel
theorem d_R_weight_34 : decode b_R_weight 34 = .ok (.getfield 31, 3) := by decide +kernel
theorem d_R_weight_37 : decode b_R_weight 37 = .ok (.iconst 4, 1) := by decide +kernel
theorem d_R_weight_38 : decode b_R_weight 38 = .ok (.iload_n 1, 1) := by decide +kernel
theorem d_R_weight_39 : decode b_R_weight 39 = .ok (.imul, 1) := by decide +kernel
theorem d_R_weight_40 : decode b_R_weight 40 = .ok (.iload 4, 2) := by decide +kernel
theorem d_R_weight_42 : decode b_R_weight 42 = .ok (.iadd, 1) := by decide +kernel
theorem d_R_weight_43 : decode b_R_weight 43 = .ok (.iaload, 1) := by decide +kernel
theorem d_R_weight_44 : decode b_R_weight 44 = .ok (.iload_n 3, 1) := by decide +kernel
theorem d_R_weight_45 : decode b_R_weight 45 = .ok (.ishr, 1) := by decide +kernel
theorem d_R_weight_46 : decode b_R_weight 46 = .ok (.iconst 1, 1) := by decide +kernel
theorem d_R_weight_47 : decode b_R_weight 47 = .ok (.iand, 1) := by decide +kernel
theorem d_R_weight_48 : decode b_R_weight 48 = .ok (.iadd, 1) := by decide +kernel
theorem d_R_weight_49 : decode b_R_weight 49 = .ok (.istore_n 2, 1) := by decide +kernel
theorem d_R_weight_50 : decode b_R_weight 50 = .ok (.iinc 4 (1), 3) := by decide +kernel
theorem d_R_weight_53 : decode b_R_weight 53 = .ok (.goto (-27), 3) := by decide +kernel
theorem d_R_weight_56 : decode b_R_weight 56 = .ok (.iconst 0, 1) := by decide +kernel
theorem d_R_weight_57 : decode b_R_weight 57 = .ok (.istore 4, 2) := by decide +kernel
theorem d_R_weight_59 : decode b_R_weight 59 = .ok (.iload 4, 2) := by decide +kernel
theorem d_R_weight_61 : decode b_R_weight 61 = .ok (.bipush (54), 2) := by decide +kernel
theorem d_R_weight_63 : decode b_R_weight 63 = .ok (.if_icmp .ge (28), 3) := by decide +kernel
theorem d_R_weight_66 : decode b_R_weight 66 = .ok (.iload_n 2, 1) := by decide +kernel
theorem d_R_weight_67 : decode b_R_weight 67 = .ok (.aload_n 0, 1) := by decide +kernel
theorem d_R_weight_68 : decode b_R_weight 68 = .ok (.getfield 34, 3) := by decide +kernel
theorem d_R_weight_71 : decode b_R_weight 71 = .ok (.bipush (54), 2) := by decide +kernel
theorem d_R_weight_73 : decode b_R_weight 73 = .ok (.iload_n 1, 1) := by decide +kernel
theorem d_R_weight_74 : decode b_R_weight 74 = .ok (.imul, 1) := by decide +kernel
theorem d_R_weight_75 : decode b_R_weight 75 = .ok (.iload 4, 2) := by decide +kernel
theorem d_R_weight_77 : decode b_R_weight 77 = .ok (.iadd, 1) := by decide +kernel
theorem d_R_weight_78 : decode b_R_weight 78 = .ok (.iaload, 1) := by decide +kernel
theorem d_R_weight_79 : decode b_R_weight 79 = .ok (.iload_n 3, 1) := by decide +kernel
theorem d_R_weight_80 : decode b_R_weight 80 = .ok (.ishr, 1) := by decide +kernel
theorem d_R_weight_81 : decode b_R_weight 81 = .ok (.iconst 1, 1) := by decide +kernel
theorem d_R_weight_82 : decode b_R_weight 82 = .ok (.iand, 1) := by decide +kernel
theorem d_R_weight_83 : decode b_R_weight 83 = .ok (.iadd, 1) := by decide +kernel
theorem d_R_weight_84 : decode b_R_weight 84 = .ok (.istore_n 2, 1) := by decide +kernel
theorem d_R_weight_85 : decode b_R_weight 85 = .ok (.iinc 4 (1), 3) := by decide +kernel
theorem d_R_weight_88 : decode b_R_weight 88 = .ok (.goto (-29), 3) := by decide +kernel
theorem d_R_weight_91 : decode b_R_weight 91 = .ok (.iinc 3 (1), 3) := by decide +kernel
theorem d_R_weight_94 : decode b_R_weight 94 = .ok (.goto (-90), 3) := by decide +kernel
theorem d_R_weight_97 : decode b_R_weight 97 = .ok (.iload_n 2, 1) := by decide +kernel
theorem d_R_weight_98 : decode b_R_weight 98 = .ok (.ireturn, 1) := by decide +kernel
theorem d_R_adds_0 : decode b_R_adds 0 = .ok (.bipush (24), 2) := by decide +kernel
theorem d_R_adds_2 : decode b_R_adds 2 = .ok (.iload_n 1, 1) := by decide +kernel
theorem d_R_adds_3 : decode b_R_adds 3 = .ok (.imul, 1) := by decide +kernel
theorem d_R_adds_4 : decode b_R_adds 4 = .ok (.iload_n 2, 1) := by decide +kernel
theorem d_R_adds_5 : decode b_R_adds 5 = .ok (.iadd, 1) := by decide +kernel
theorem d_R_adds_6 : decode b_R_adds 6 = .ok (.istore_n 3, 1) := by decide +kernel
theorem d_R_adds_7 : decode b_R_adds 7 = .ok (.iconst 4, 1) := by decide +kernel
theorem d_R_adds_8 : decode b_R_adds 8 = .ok (.iload_n 1, 1) := by decide +kernel
theorem d_R_adds_9 : decode b_R_adds 9 = .ok (.imul, 1) := by decide +kernel
theorem d_R_adds_10 : decode b_R_adds 10 = .ok (.aload_n 0, 1) := by decide +kernel
theorem d_R_adds_11 : decode b_R_adds 11 = .ok (.getfield 19, 3) := by decide +kernel
theorem d_R_adds_14 : decode b_R_adds 14 = .ok (.iload_n 3, 1) := by decide +kernel
theorem d_R_adds_15 : decode b_R_adds 15 = .ok (.iaload, 1) := by decide +kernel
theorem d_R_adds_16 : decode b_R_adds 16 = .ok (.iadd, 1) := by decide +kernel
theorem d_R_adds_17 : decode b_R_adds 17 = .ok (.istore 4, 2) := by decide +kernel
theorem d_R_adds_19 : decode b_R_adds 19 = .ok (.iconst 4, 1) := by decide +kernel
theorem d_R_adds_20 : decode b_R_adds 20 = .ok (.iload_n 1, 1) := by decide +kernel
theorem d_R_adds_21 : decode b_R_adds 21 = .ok (.imul, 1) := by decide +kernel
theorem d_R_adds_22 : decode b_R_adds 22 = .ok (.aload_n 0, 1) := by decide +kernel
theorem d_R_adds_23 : decode b_R_adds 23 = .ok (.getfield 22, 3) := by decide +kernel
theorem d_R_adds_26 : decode b_R_adds 26 = .ok (.iload_n 3, 1) := by decide +kernel
theorem d_R_adds_27 : decode b_R_adds 27 = .ok (.iaload, 1) := by decide +kernel
theorem d_R_adds_28 : decode b_R_adds 28 = .ok (.iadd, 1) := by decide +kernel
theorem d_R_adds_29 : decode b_R_adds 29 = .ok (.istore 5, 2) := by decide +kernel
theorem d_R_adds_31 : decode b_R_adds 31 = .ok (.aload_n 0, 1) := by decide +kernel
end
section
theorem d_R_adds_32 : decode b_R_adds 32 = .ok (.getfield 16, 3) := by decide +kernel
theorem d_R_adds_35 : decode b_R_adds 35 = .ok (.iload_n 3, 1) := by decide +kernel
theorem d_R_adds_36 : decode b_R_adds 36 = .ok (.iaload, 1) := by decide +kernel
theorem d_R_adds_37 : decode b_R_adds 37 = .ok (.tableswitch (273) (0) (17) #[87, 108, 273, 133, 169, 273, 273, 273, 273, 273, 273, 273, 197, 215, 273, 273, 264, 241], 87) := by decide +kernel
theorem d_R_adds_124 : decode b_R_adds 124 = .ok (.aload_n 0, 1) := by decide +kernel
theorem d_R_adds_125 : decode b_R_adds 125 = .ok (.getfield 31, 3) := by decide +kernel
theorem d_R_adds_128 : decode b_R_adds 128 = .ok (.iload 4, 2) := by decide +kernel
theorem d_R_adds_130 : decode b_R_adds 130 = .ok (.aload_n 0, 1) := by decide +kernel
theorem d_R_adds_131 : decode b_R_adds 131 = .ok (.getfield 31, 3) := by decide +kernel
theorem d_R_adds_134 : decode b_R_adds 134 = .ok (.iload 4, 2) := by decide +kernel
theorem d_R_adds_136 : decode b_R_adds 136 = .ok (.iaload, 1) := by decide +kernel
theorem d_R_adds_137 : decode b_R_adds 137 = .ok (.iconst 1, 1) := by decide +kernel
theorem d_R_adds_138 : decode b_R_adds 138 = .ok (.iload_n 2, 1) := by decide +kernel
theorem d_R_adds_139 : decode b_R_adds 139 = .ok (.ishl, 1) := by decide +kernel
theorem d_R_adds_140 : decode b_R_adds 140 = .ok (.ior, 1) := by decide +kernel
theorem d_R_adds_141 : decode b_R_adds 141 = .ok (.iastore, 1) := by decide +kernel
theorem d_R_adds_142 : decode b_R_adds 142 = .ok (.goto (168), 3) := by decide +kernel
theorem d_R_adds_145 : decode b_R_adds 145 = .ok (.aload_n 0, 1) := by decide +kernel
theorem d_R_adds_146 : decode b_R_adds 146 = .ok (.getfield 31, 3) := by decide +kernel
theorem d_R_adds_149 : decode b_R_adds 149 = .ok (.iload 4, 2) := by decide +kernel
theorem d_R_adds_151 : decode b_R_adds 151 = .ok (.aload_n 0, 1) := by decide +kernel
theorem d_R_adds_152 : decode b_R_adds 152 = .ok (.getfield 31, 3) := by decide +kernel
theorem d_R_adds_155 : decode b_R_adds 155 = .ok (.iload 4, 2) := by decide +kernel
theorem d_R_adds_157 : decode b_R_adds 157 = .ok (.iaload, 1) := by decide +kernel
theorem d_R_adds_158 : decode b_R_adds 158 = .ok (.aload_n 0, 1) := by decide +kernel
theorem d_R_adds_159 : decode b_R_adds 159 = .ok (.getfield 31, 3) := by decide +kernel
theorem d_R_adds_162 : decode b_R_adds 162 = .ok (.iload 5, 2) := by decide +kernel
theorem d_R_adds_164 : decode b_R_adds 164 = .ok (.iaload, 1) := by decide +kernel
theorem d_R_adds_165 : decode b_R_adds 165 = .ok (.ior, 1) := by decide +kernel
theorem d_R_adds_166 : decode b_R_adds 166 = .ok (.iastore, 1) := by decide +kernel
theorem d_R_adds_167 : decode b_R_adds 167 = .ok (.goto (143), 3) := by decide +kernel
theorem d_R_adds_170 : decode b_R_adds 170 = .ok (.aload_n 0, 1) := by decide +kernel
theorem d_R_adds_171 : decode b_R_adds 171 = .ok (.getfield 31, 3) := by decide +kernel
theorem d_R_adds_174 : decode b_R_adds 174 = .ok (.iload 4, 2) := by decide +kernel
theorem d_R_adds_176 : decode b_R_adds 176 = .ok (.aload_n 0, 1) := by decide +kernel
theorem d_R_adds_177 : decode b_R_adds 177 = .ok (.getfield 31, 3) := by decide +kernel
theorem d_R_adds_180 : decode b_R_adds 180 = .ok (.iload 4, 2) := by decide +kernel
theorem d_R_adds_182 : decode b_R_adds 182 = .ok (.iaload, 1) := by decide +kernel
theorem d_R_adds_183 : decode b_R_adds 183 = .ok (.aload_n 0, 1) := by decide +kernel
theorem d_R_adds_184 : decode b_R_adds 184 = .ok (.iload_n 1, 1) := by decide +kernel
theorem d_R_adds_185 : decode b_R_adds 185 = .ok (.aload_n 0, 1) := by decide +kernel
theorem d_R_adds_186 : decode b_R_adds 186 = .ok (.getfield 31, 3) := by decide +kernel
theorem d_R_adds_189 : decode b_R_adds 189 = .ok (.iload 5, 2) := by decide +kernel
theorem d_R_adds_191 : decode b_R_adds 191 = .ok (.iaload, 1) := by decide +kernel
theorem d_R_adds_192 : decode b_R_adds 192 = .ok (.aload_n 0, 1) := by decide +kernel
theorem d_R_adds_193 : decode b_R_adds 193 = .ok (.getfield 25, 3) := by decide +kernel
theorem d_R_adds_196 : decode b_R_adds 196 = .ok (.iload_n 3, 1) := by decide +kernel
theorem d_R_adds_197 : decode b_R_adds 197 = .ok (.iaload, 1) := by decide +kernel
theorem d_R_adds_198 : decode b_R_adds 198 = .ok (.invokevirtual 101, 3) := by decide +kernel
theorem d_R_adds_201 : decode b_R_adds 201 = .ok (.ior, 1) := by decide +kernel
theorem d_R_adds_202 : decode b_R_adds 202 = .ok (.iastore, 1) := by decide +kernel
theorem d_R_adds_203 : decode b_R_adds 203 = .ok (.goto (107), 3) := by decide +kernel
theorem d_R_adds_206 : decode b_R_adds 206 = .ok (.aload_n 0, 1) := by decide +kernel
theorem d_R_adds_207 : decode b_R_adds 207 = .ok (.iload_n 1, 1) := by decide +kernel
theorem d_R_adds_208 : decode b_R_adds 208 = .ok (.aload_n 0, 1) := by decide +kernel
theorem d_R_adds_209 : decode b_R_adds 209 = .ok (.getfield 31, 3) := by decide +kernel
theorem d_R_adds_212 : decode b_R_adds 212 = .ok (.iload 4, 2) := by decide +kernel
theorem d_R_adds_214 : decode b_R_adds 214 = .ok (.iaload, 1) := by decide +kernel
theorem d_R_adds_215 : decode b_R_adds 215 = .ok (.aload_n 0, 1) := by decide +kernel
theorem d_R_adds_216 : decode b_R_adds 216 = .ok (.getfield 25, 3) := by decide +kernel
theorem d_R_adds_219 : decode b_R_adds 219 = .ok (.iload_n 3, 1) := by decide +kernel
theorem d_R_adds_220 : decode b_R_adds 220 = .ok (.iaload, 1) := by decide +kernel
theorem d_R_adds_221 : decode b_R_adds 221 = .ok (.aload_n 0, 1) := by decide +kernel
theorem d_R_adds_222 : decode b_R_adds 222 = .ok (.getfield 31, 3) := by decide +kernel
theorem d_R_adds_225 : decode b_R_adds 225 = .ok (.iload 5, 2) := by decide +kernel
theorem d_R_adds_227 : decode b_R_adds 227 = .ok (.iaload, 1) := by decide +kernel
theorem d_R_adds_228 : decode b_R_adds 228 = .ok (.invokevirtual 97, 3) := by decide +kernel
theorem d_R_adds_231 : decode b_R_adds 231 = .ok (.goto (79), 3) := by decide +kernel
theorem d_R_adds_234 : decode b_R_adds 234 = .ok (.aload_n 0, 1) := by decide +kernel
theorem d_R_adds_235 : decode b_R_adds 235 = .ok (.iload_n 1, 1) := by decide +kernel
theorem d_R_adds_236 : decode b_R_adds 236 = .ok (.ldc 92, 2) := by decide +kernel
theorem d_R_adds_238 : decode b_R_adds 238 = .ok (.iconst 2, 1) := by decide +kernel
theorem d_R_adds_239 : decode b_R_adds 239 = .ok (.aload_n 0, 1) := by decide +kernel
theorem d_R_adds_240 : decode b_R_adds 240 = .ok (.getfield 31, 3) := by decide +kernel
theorem d_R_adds_243 : decode b_R_adds 243 = .ok (.iload 4, 2) := by decide +kernel
theorem d_R_adds_245 : decode b_R_adds 245 = .ok (.iaload, 1) := by decide +kernel
theorem d_R_adds_246 : decode b_R_adds 246 = .ok (.invokevirtual 97, 3) := by decide +kernel
theorem d_R_adds_249 : decode b_R_adds 249 = .ok (.goto (61), 3) := by decide +kernel
theorem d_R_adds_252 : decode b_R_adds 252 = .ok (.aload_n 0, 1) := by decide +kernel
theorem d_R_adds_253 : decode b_R_adds 253 = .ok (.getfield 31, 3) := by decide +kernel
theorem d_R_adds_256 : decode b_R_adds 256 = .ok (.iload 4, 2) := by decide +kernel
theorem d_R_adds_258 : decode b_R_adds 258 = .ok (.aload_n 0, 1) := by decide +kernel
theorem d_R_adds_259 : decode b_R_adds 259 = .ok (.getfield 31, 3) := by decide +kernel
theorem d_R_adds_262 : decode b_R_adds 262 = .ok (.iload 4, 2) := by decide +kernel
theorem d_R_adds_264 : decode b_R_adds 264 = .ok (.iaload, 1) := by decide +kernel
theorem d_R_adds_265 : decode b_R_adds 265 = .ok (.aload_n 0, 1) := by decide +kernel
theorem d_R_adds_266 : decode b_R_adds 266 = .ok (.iload_n 1, 1) := by decide +kernel
theorem d_R_adds_267 : decode b_R_adds 267 = .ok (.ldc 92, 2) := by decide +kernel
theorem d_R_adds_269 : decode b_R_adds 269 = .ok (.iconst 0, 1) := by decide +kernel
theorem d_R_adds_270 : decode b_R_adds 270 = .ok (.invokevirtual 101, 3) := by decide +kernel
theorem d_R_adds_273 : decode b_R_adds 273 = .ok (.ior, 1) := by decide +kernel
theorem d_R_adds_274 : decode b_R_adds 274 = .ok (.iastore, 1) := by decide +kernel
theorem d_R_adds_275 : decode b_R_adds 275 = .ok (.goto (35), 3) := by decide +kernel
theorem d_R_adds_278 : decode b_R_adds 278 = .ok (.aload_n 0, 1) := by decide +kernel
theorem d_R_adds_279 : decode b_R_adds 279 = .ok (.getfield 37, 3) := by decide +kernel
theorem d_R_adds_282 : decode b_R_adds 282 = .ok (.iload_n 1, 1) := by decide +kernel
theorem d_R_adds_283 : decode b_R_adds 283 = .ok (.aload_n 0, 1) := by decide +kernel
theorem d_R_adds_284 : decode b_R_adds 284 = .ok (.getfield 37, 3) := by decide +kernel
theorem d_R_adds_287 : decode b_R_adds 287 = .ok (.iload_n 1, 1) := by decide +kernel
theorem d_R_adds_288 : decode b_R_adds 288 = .ok (.iaload, 1) := by decide +kernel
theorem d_R_adds_289 : decode b_R_adds 289 = .ok (.aload_n 0, 1) := by decide +kernel
theorem d_R_adds_290 : decode b_R_adds 290 = .ok (.getfield 31, 3) := by decide +kernel
theorem d_R_adds_293 : decode b_R_adds 293 = .ok (.iload 4, 2) := by decide +kernel
theorem d_R_adds_295 : decode b_R_adds 295 = .ok (.iaload, 1) := by decide +kernel
theorem d_R_adds_296 : decode b_R_adds 296 = .ok (.ior, 1) := by decide +kernel
theorem d_R_adds_297 : decode b_R_adds 297 = .ok (.iastore, 1) := by decide +kernel
theorem d_R_adds_298 : decode b_R_adds 298 = .ok (.goto (12), 3) := by decide +kernel
theorem d_R_adds_301 : decode b_R_adds 301 = .ok (.aload_n 0, 1) := by decide +kernel
theorem d_R_adds_302 : decode b_R_adds 302 = .ok (.iload_n 1, 1) := by decide +kernel
theorem d_R_adds_303 : decode b_R_adds 303 = .ok (.iload_n 2, 1) := by decide +kernel
theorem d_R_adds_304 : decode b_R_adds 304 = .ok (.invokevirtual 108, 3) := by decide +kernel
theorem d_R_adds_307 : decode b_R_adds 307 = .ok (.goto (3), 3) := by decide +kernel
theorem d_R_adds_310 : decode b_R_adds 310 = .ok (.return_, 1) := by decide +kernel
theorem d_R_held_0 : decode b_R_held 0 = .ok (.iconst 0, 1) := by decide +kernel
theorem d_R_held_1 : decode b_R_held 1 = .ok (.istore 4, 2) := by decide +kernel
theorem d_R_held_3 : decode b_R_held 3 = .ok (.iconst 0, 1) := by decide +kernel
theorem d_R_held_4 : decode b_R_held 4 = .ok (.istore 5, 2) := by decide +kernel
theorem d_R_held_6 : decode b_R_held 6 = .ok (.iload 5, 2) := by decide +kernel
theorem d_R_held_8 : decode b_R_held 8 = .ok (.bipush (27), 2) := by decide +kernel
theorem d_R_held_10 : decode b_R_held 10 = .ok (.if_icmp .ge (45), 3) := by decide +kernel
theorem d_R_held_13 : decode b_R_held 13 = .ok (.iload_n 2, 1) := by decide +kernel
theorem d_R_held_14 : decode b_R_held 14 = .ok (.iload 5, 2) := by decide +kernel
theorem d_R_held_16 : decode b_R_held 16 = .ok (.ishr, 1) := by decide +kernel
theorem d_R_held_17 : decode b_R_held 17 = .ok (.iconst 1, 1) := by decide +kernel
theorem d_R_held_18 : decode b_R_held 18 = .ok (.iand, 1) := by decide +kernel
theorem d_R_held_19 : decode b_R_held 19 = .ok (.iconst 1, 1) := by decide +kernel
theorem d_R_held_20 : decode b_R_held 20 = .ok (.if_icmp .ne (25), 3) := by decide +kernel
theorem d_R_held_23 : decode b_R_held 23 = .ok (.iload 4, 2) := by decide +kernel
theorem d_R_held_25 : decode b_R_held 25 = .ok (.aload_n 0, 1) := by decide +kernel
theorem d_R_held_26 : decode b_R_held 26 = .ok (.getfield 34, 3) := by decide +kernel
theorem d_R_held_29 : decode b_R_held 29 = .ok (.bipush (54), 2) := by decide +kernel
theorem d_R_held_31 : decode b_R_held 31 = .ok (.iload_n 1, 1) := by decide +kernel
theorem d_R_held_32 : decode b_R_held 32 = .ok (.imul, 1) := by decide +kernel
theorem d_R_held_33 : decode b_R_held 33 = .ok (.iconst 2, 1) := by decide +kernel
theorem d_R_held_34 : decode b_R_held 34 = .ok (.iload 5, 2) := by decide +kernel
theorem d_R_held_36 : decode b_R_held 36 = .ok (.imul, 1) := by decide +kernel
theorem d_R_held_37 : decode b_R_held 37 = .ok (.iadd, 1) := by decide +kernel
theorem d_R_held_38 : decode b_R_held 38 = .ok (.iload_n 3, 1) := by decide +kernel
theorem d_R_held_39 : decode b_R_held 39 = .ok (.iadd, 1) := by decide +kernel
theorem d_R_held_40 : decode b_R_held 40 = .ok (.iaload, 1) := by decide +kernel
theorem d_R_held_41 : decode b_R_held 41 = .ok (.ior, 1) := by decide +kernel
theorem d_R_held_42 : decode b_R_held 42 = .ok (.goto (5), 3) := by decide +kernel
theorem d_R_held_45 : decode b_R_held 45 = .ok (.iload 4, 2) := by decide +kernel
theorem d_R_held_47 : decode b_R_held 47 = .ok (.istore 4, 2) := by decide +kernel
theorem d_R_held_49 : decode b_R_held 49 = .ok (.iinc 5 (1), 3) := by decide +kernel
theorem d_R_held_52 : decode b_R_held 52 = .ok (.goto (-46), 3) := by decide +kernel
theorem d_R_held_55 : decode b_R_held 55 = .ok (.iload 4, 2) := by decide +kernel
theorem d_R_held_57 : decode b_R_held 57 = .ok (.ireturn, 1) := by decide +kernel
theorem d_R_calls_0 : decode b_R_calls 0 = .ok (.aload_n 0, 1) := by decide +kernel
theorem d_R_calls_1 : decode b_R_calls 1 = .ok (.getfield 28, 3) := by decide +kernel
theorem d_R_calls_4 : decode b_R_calls 4 = .ok (.bipush (24), 2) := by decide +kernel
theorem d_R_calls_6 : decode b_R_calls 6 = .ok (.iload_n 1, 1) := by decide +kernel
theorem d_R_calls_7 : decode b_R_calls 7 = .ok (.imul, 1) := by decide +kernel
theorem d_R_calls_8 : decode b_R_calls 8 = .ok (.iload_n 2, 1) := by decide +kernel
theorem d_R_calls_9 : decode b_R_calls 9 = .ok (.iadd, 1) := by decide +kernel
theorem d_R_calls_10 : decode b_R_calls 10 = .ok (.iaload, 1) := by decide +kernel
theorem d_R_calls_11 : decode b_R_calls 11 = .ok (.istore_n 3, 1) := by decide +kernel
theorem d_R_calls_12 : decode b_R_calls 12 = .ok (.iconst 4, 1) := by decide +kernel
theorem d_R_calls_13 : decode b_R_calls 13 = .ok (.iload_n 1, 1) := by decide +kernel
theorem d_R_calls_14 : decode b_R_calls 14 = .ok (.imul, 1) := by decide +kernel
theorem d_R_calls_15 : decode b_R_calls 15 = .ok (.aload_n 0, 1) := by decide +kernel
theorem d_R_calls_16 : decode b_R_calls 16 = .ok (.getfield 19, 3) := by decide +kernel
theorem d_R_calls_19 : decode b_R_calls 19 = .ok (.bipush (24), 2) := by decide +kernel
theorem d_R_calls_21 : decode b_R_calls 21 = .ok (.iload_n 1, 1) := by decide +kernel
theorem d_R_calls_22 : decode b_R_calls 22 = .ok (.imul, 1) := by decide +kernel
theorem d_R_calls_23 : decode b_R_calls 23 = .ok (.iload_n 2, 1) := by decide +kernel
theorem d_R_calls_24 : decode b_R_calls 24 = .ok (.iadd, 1) := by decide +kernel
theorem d_R_calls_25 : decode b_R_calls 25 = .ok (.iaload, 1) := by decide +kernel
theorem d_R_calls_26 : decode b_R_calls 26 = .ok (.iadd, 1) := by decide +kernel
theorem d_R_calls_27 : decode b_R_calls 27 = .ok (.istore 4, 2) := by decide +kernel
theorem d_R_calls_29 : decode b_R_calls 29 = .ok (.iconst 0, 1) := by decide +kernel
theorem d_R_calls_30 : decode b_R_calls 30 = .ok (.istore 5, 2) := by decide +kernel
theorem d_R_calls_32 : decode b_R_calls 32 = .ok (.aload_n 0, 1) := by decide +kernel
theorem d_R_calls_33 : decode b_R_calls 33 = .ok (.iload_n 1, 1) := by decide +kernel
theorem d_R_calls_34 : decode b_R_calls 34 = .ok (.ldc 92, 2) := by decide +kernel
theorem d_R_calls_36 : decode b_R_calls 36 = .ok (.invokevirtual 93, 3) := by decide +kernel
theorem d_R_calls_39 : decode b_R_calls 39 = .ok (.istore 6, 2) := by decide +kernel
theorem d_R_calls_41 : decode b_R_calls 41 = .ok (.aload_n 0, 1) := by decide +kernel
theorem d_R_calls_42 : decode b_R_calls 42 = .ok (.iload_n 1, 1) := by decide +kernel
theorem d_R_calls_43 : decode b_R_calls 43 = .ok (.iload 6, 2) := by decide +kernel
theorem d_R_calls_45 : decode b_R_calls 45 = .ok (.iconst 2, 1) := by decide +kernel
theorem d_R_calls_46 : decode b_R_calls 46 = .ok (.ldc 92, 2) := by decide +kernel
theorem d_R_calls_48 : decode b_R_calls 48 = .ok (.invokevirtual 97, 3) := by decide +kernel
theorem d_R_calls_51 : decode b_R_calls 51 = .ok (.aload_n 0, 1) := by decide +kernel
theorem d_R_calls_52 : decode b_R_calls 52 = .ok (.getfield 31, 3) := by decide +kernel
theorem d_R_calls_55 : decode b_R_calls 55 = .ok (.iload 4, 2) := by decide +kernel
theorem d_R_calls_57 : decode b_R_calls 57 = .ok (.aload_n 0, 1) := by decide +kernel
theorem d_R_calls_58 : decode b_R_calls 58 = .ok (.getfield 31, 3) := by decide +kernel
theorem d_R_calls_61 : decode b_R_calls 61 = .ok (.iload 4, 2) := by decide +kernel
theorem d_R_calls_63 : decode b_R_calls 63 = .ok (.iaload, 1) := by decide +kernel
theorem d_R_calls_64 : decode b_R_calls 64 = .ok (.aload_n 0, 1) := by decide +kernel
theorem d_R_calls_65 : decode b_R_calls 65 = .ok (.iload_n 1, 1) := by decide +kernel
theorem d_R_calls_66 : decode b_R_calls 66 = .ok (.ldc 92, 2) := by decide +kernel
theorem d_R_calls_68 : decode b_R_calls 68 = .ok (.iconst 0, 1) := by decide +kernel
theorem d_R_calls_69 : decode b_R_calls 69 = .ok (.invokevirtual 101, 3) := by decide +kernel
theorem d_R_calls_72 : decode b_R_calls 72 = .ok (.ior, 1) := by decide +kernel
theorem d_R_calls_73 : decode b_R_calls 73 = .ok (.iastore, 1) := by decide +kernel
theorem d_R_calls_74 : decode b_R_calls 74 = .ok (.iconst 0, 1) := by decide +kernel
theorem d_R_calls_75 : decode b_R_calls 75 = .ok (.istore 7, 2) := by decide +kernel
theorem d_R_calls_77 : decode b_R_calls 77 = .ok (.iload 7, 2) := by decide +kernel
theorem d_R_calls_79 : decode b_R_calls 79 = .ok (.aload_n 0, 1) := by decide +kernel
theorem d_R_calls_80 : decode b_R_calls 80 = .ok (.getfield 7, 3) := by decide +kernel
theorem d_R_calls_83 : decode b_R_calls 83 = .ok (.iload_n 3, 1) := by decide +kernel
theorem d_R_calls_84 : decode b_R_calls 84 = .ok (.iaload, 1) := by decide +kernel
theorem d_R_calls_85 : decode b_R_calls 85 = .ok (.if_icmp .ge (131), 3) := by decide +kernel
theorem d_R_calls_88 : decode b_R_calls 88 = .ok (.aload_n 0, 1) := by decide +kernel
theorem d_R_calls_89 : decode b_R_calls 89 = .ok (.getfield 31, 3) := by decide +kernel
theorem d_R_calls_92 : decode b_R_calls 92 = .ok (.iconst 4, 1) := by decide +kernel
theorem d_R_calls_93 : decode b_R_calls 93 = .ok (.iload_n 1, 1) := by decide +kernel
theorem d_R_calls_94 : decode b_R_calls 94 = .ok (.imul, 1) := by decide +kernel
theorem d_R_calls_95 : decode b_R_calls 95 = .ok (.iload 7, 2) := by decide +kernel
theorem d_R_calls_97 : decode b_R_calls 97 = .ok (.ifCond .ne (17), 3) := by decide +kernel
theorem d_R_calls_100 : decode b_R_calls 100 = .ok (.aload_n 0, 1) := by decide +kernel
theorem d_R_calls_101 : decode b_R_calls 101 = .ok (.getfield 22, 3) := by decide +kernel
theorem d_R_calls_104 : decode b_R_calls 104 = .ok (.bipush (24), 2) := by decide +kernel
theorem d_R_calls_106 : decode b_R_calls 106 = .ok (.iload_n 1, 1) := by decide +kernel
theorem d_R_calls_107 : decode b_R_calls 107 = .ok (.imul, 1) := by decide +kernel
theorem d_R_calls_108 : decode b_R_calls 108 = .ok (.iload_n 2, 1) := by decide +kernel
theorem d_R_calls_109 : decode b_R_calls 109 = .ok (.iadd, 1) := by decide +kernel
theorem d_R_calls_110 : decode b_R_calls 110 = .ok (.iaload, 1) := by decide +kernel
theorem d_R_calls_111 : decode b_R_calls 111 = .ok (.goto (14), 3) := by decide +kernel
theorem d_R_calls_114 : decode b_R_calls 114 = .ok (.aload_n 0, 1) := by decide +kernel
theorem d_R_calls_115 : decode b_R_calls 115 = .ok (.getfield 25, 3) := by decide +kernel
theorem d_R_calls_118 : decode b_R_calls 118 = .ok (.bipush (24), 2) := by decide +kernel
theorem d_R_calls_120 : decode b_R_calls 120 = .ok (.iload_n 1, 1) := by decide +kernel
theorem d_R_calls_121 : decode b_R_calls 121 = .ok (.imul, 1) := by decide +kernel
theorem d_R_calls_122 : decode b_R_calls 122 = .ok (.iload_n 2, 1) := by decide +kernel
theorem d_R_calls_123 : decode b_R_calls 123 = .ok (.iadd, 1) := by decide +kernel
theorem d_R_calls_124 : decode b_R_calls 124 = .ok (.iaload, 1) := by decide +kernel
theorem d_R_calls_125 : decode b_R_calls 125 = .ok (.iadd, 1) := by decide +kernel
theorem d_R_calls_126 : decode b_R_calls 126 = .ok (.iaload, 1) := by decide +kernel
theorem d_R_calls_127 : decode b_R_calls 127 = .ok (.istore 8, 2) := by decide +kernel
theorem d_R_calls_129 : decode b_R_calls 129 = .ok (.aload_n 0, 1) := by decide +kernel
theorem d_R_calls_130 : decode b_R_calls 130 = .ok (.iload_n 1, 1) := by decide +kernel
theorem d_R_calls_131 : decode b_R_calls 131 = .ok (.iload 8, 2) := by decide +kernel
theorem d_R_calls_133 : decode b_R_calls 133 = .ok (.invokevirtual 93, 3) := by decide +kernel
theorem d_R_calls_136 : decode b_R_calls 136 = .ok (.istore 9, 2) := by decide +kernel
theorem d_R_calls_138 : decode b_R_calls 138 = .ok (.aload_n 0, 1) := by decide +kernel
theorem d_R_calls_139 : decode b_R_calls 139 = .ok (.iload_n 1, 1) := by decide +kernel
theorem d_R_calls_140 : decode b_R_calls 140 = .ok (.iload_n 3, 1) := by decide +kernel
theorem d_R_calls_141 : decode b_R_calls 141 = .ok (.iload 7, 2) := by decide +kernel
theorem d_R_calls_143 : decode b_R_calls 143 = .ok (.invokevirtual 105, 3) := by decide +kernel
theorem d_R_calls_146 : decode b_R_calls 146 = .ok (.iconst 2, 1) := by decide +kernel
theorem d_R_calls_147 : decode b_R_calls 147 = .ok (.if_icmp .eq (26), 3) := by decide +kernel
theorem d_R_calls_150 : decode b_R_calls 150 = .ok (.aload_n 0, 1) := by decide +kernel
theorem d_R_calls_151 : decode b_R_calls 151 = .ok (.iload_n 3, 1) := by decide +kernel
theorem d_R_calls_152 : decode b_R_calls 152 = .ok (.iconst 1, 1) := by decide +kernel
theorem d_R_calls_153 : decode b_R_calls 153 = .ok (.bipush (24), 2) := by decide +kernel
theorem d_R_calls_155 : decode b_R_calls 155 = .ok (.iload 7, 2) := by decide +kernel
theorem d_R_calls_157 : decode b_R_calls 157 = .ok (.iadd, 1) := by decide +kernel
theorem d_R_calls_158 : decode b_R_calls 158 = .ok (.ishl, 1) := by decide +kernel
theorem d_R_calls_159 : decode b_R_calls 159 = .ok (.invokevirtual 93, 3) := by decide +kernel
theorem d_R_calls_162 : decode b_R_calls 162 = .ok (.aload_n 0, 1) := by decide +kernel
theorem d_R_calls_163 : decode b_R_calls 163 = .ok (.iload_n 3, 1) := by decide +kernel
theorem d_R_calls_164 : decode b_R_calls 164 = .ok (.ldc 92, 2) := by decide +kernel
theorem d_R_calls_166 : decode b_R_calls 166 = .ok (.invokevirtual 93, 3) := by decide +kernel
theorem d_R_calls_169 : decode b_R_calls 169 = .ok (.iand, 1) := by decide +kernel
theorem d_R_calls_170 : decode b_R_calls 170 = .ok (.ifCond .eq (7), 3) := by decide +kernel
theorem d_R_calls_173 : decode b_R_calls 173 = .ok (.iconst 1, 1) := by decide +kernel
theorem d_R_calls_174 : decode b_R_calls 174 = .ok (.goto (4), 3) := by decide +kernel
theorem d_R_calls_177 : decode b_R_calls 177 = .ok (.iconst 0, 1) := by decide +kernel
theorem d_R_calls_178 : decode b_R_calls 178 = .ok (.istore 10, 2) := by decide +kernel
theorem d_R_calls_180 : decode b_R_calls 180 = .ok (.aload_n 0, 1) := by decide +kernel
theorem d_R_calls_181 : decode b_R_calls 181 = .ok (.iload_n 1, 1) := by decide +kernel
theorem d_R_calls_182 : decode b_R_calls 182 = .ok (.iload 9, 2) := by decide +kernel
theorem d_R_calls_184 : decode b_R_calls 184 = .ok (.iconst 2, 1) := by decide +kernel
theorem d_R_calls_185 : decode b_R_calls 185 = .ok (.iload 10, 2) := by decide +kernel
theorem d_R_calls_187 : decode b_R_calls 187 = .ok (.ifCond .eq (11), 3) := by decide +kernel
theorem d_R_calls_190 : decode b_R_calls 190 = .ok (.iload 9, 2) := by decide +kernel
theorem d_R_calls_192 : decode b_R_calls 192 = .ok (.ldc 92, 2) := by decide +kernel
theorem d_R_calls_194 : decode b_R_calls 194 = .ok (.ior, 1) := by decide +kernel
theorem d_R_calls_195 : decode b_R_calls 195 = .ok (.goto (5), 3) := by decide +kernel
theorem d_R_calls_198 : decode b_R_calls 198 = .ok (.iload 9, 2) := by decide +kernel
theorem d_R_calls_200 : decode b_R_calls 200 = .ok (.invokevirtual 97, 3) := by decide +kernel
theorem d_R_calls_203 : decode b_R_calls 203 = .ok (.iload 5, 2) := by decide +kernel
theorem d_R_calls_205 : decode b_R_calls 205 = .ok (.iload 8, 2) := by decide +kernel
theorem d_R_calls_207 : decode b_R_calls 207 = .ok (.ior, 1) := by decide +kernel
theorem d_R_calls_208 : decode b_R_calls 208 = .ok (.istore 5, 2) := by decide +kernel
theorem d_R_calls_210 : decode b_R_calls 210 = .ok (.iinc 7 (1), 3) := by decide +kernel
theorem d_R_calls_213 : decode b_R_calls 213 = .ok (.goto (-136), 3) := by decide +kernel
theorem d_R_calls_216 : decode b_R_calls 216 = .ok (.iconst 0, 1) := by decide +kernel
theorem d_R_calls_217 : decode b_R_calls 217 = .ok (.istore 7, 2) := by decide +kernel
theorem d_R_calls_219 : decode b_R_calls 219 = .ok (.iload 7, 2) := by decide +kernel
theorem d_R_calls_221 : decode b_R_calls 221 = .ok (.aload_n 0, 1) := by decide +kernel
theorem d_R_calls_222 : decode b_R_calls 222 = .ok (.getfield 7, 3) := by decide +kernel
theorem d_R_calls_225 : decode b_R_calls 225 = .ok (.iload_n 3, 1) := by decide +kernel
theorem d_R_calls_226 : decode b_R_calls 226 = .ok (.iaload, 1) := by decide +kernel
theorem d_R_calls_227 : decode b_R_calls 227 = .ok (.if_icmp .ge (121), 3) := by decide +kernel
theorem d_R_calls_230 : decode b_R_calls 230 = .ok (.aload_n 0, 1) := by decide +kernel
theorem d_R_calls_231 : decode b_R_calls 231 = .ok (.getfield 31, 3) := by decide +kernel
theorem d_R_calls_234 : decode b_R_calls 234 = .ok (.iconst 4, 1) := by decide +kernel
theorem d_R_calls_235 : decode b_R_calls 235 = .ok (.iload_n 1, 1) := by decide +kernel
theorem d_R_calls_236 : decode b_R_calls 236 = .ok (.imul, 1) := by decide +kernel
theorem d_R_calls_237 : decode b_R_calls 237 = .ok (.iload 7, 2) := by decide +kernel
theorem d_R_calls_239 : decode b_R_calls 239 = .ok (.ifCond .ne (17), 3) := by decide +kernel
theorem d_R_calls_242 : decode b_R_calls 242 = .ok (.aload_n 0, 1) := by decide +kernel
theorem d_R_calls_243 : decode b_R_calls 243 = .ok (.getfield 22, 3) := by decide +kernel
theorem d_R_calls_246 : decode b_R_calls 246 = .ok (.bipush (24), 2) := by decide +kernel
theorem d_R_calls_248 : decode b_R_calls 248 = .ok (.iload_n 1, 1) := by decide +kernel
theorem d_R_calls_249 : decode b_R_calls 249 = .ok (.imul, 1) := by decide +kernel
theorem d_R_calls_250 : decode b_R_calls 250 = .ok (.iload_n 2, 1) := by decide +kernel
theorem d_R_calls_251 : decode b_R_calls 251 = .ok (.iadd, 1) := by decide +kernel
theorem d_R_calls_252 : decode b_R_calls 252 = .ok (.iaload, 1) := by decide +kernel
theorem d_R_calls_253 : decode b_R_calls 253 = .ok (.goto (14), 3) := by decide +kernel
theorem d_R_calls_256 : decode b_R_calls 256 = .ok (.aload_n 0, 1) := by decide +kernel
theorem d_R_calls_257 : decode b_R_calls 257 = .ok (.getfield 25, 3) := by decide +kernel
theorem d_R_calls_260 : decode b_R_calls 260 = .ok (.bipush (24), 2) := by decide +kernel
theorem d_R_calls_262 : decode b_R_calls 262 = .ok (.iload_n 1, 1) := by decide +kernel
theorem d_R_calls_263 : decode b_R_calls 263 = .ok (.imul, 1) := by decide +kernel
theorem d_R_calls_264 : decode b_R_calls 264 = .ok (.iload_n 2, 1) := by decide +kernel
theorem d_R_calls_265 : decode b_R_calls 265 = .ok (.iadd, 1) := by decide +kernel
theorem d_R_calls_266 : decode b_R_calls 266 = .ok (.iaload, 1) := by decide +kernel
theorem d_R_calls_267 : decode b_R_calls 267 = .ok (.iadd, 1) := by decide +kernel
theorem d_R_calls_268 : decode b_R_calls 268 = .ok (.iaload, 1) := by decide +kernel
theorem d_R_calls_269 : decode b_R_calls 269 = .ok (.istore 8, 2) := by decide +kernel
theorem d_R_calls_271 : decode b_R_calls 271 = .ok (.aload_n 0, 1) := by decide +kernel
theorem d_R_calls_272 : decode b_R_calls 272 = .ok (.iload_n 1, 1) := by decide +kernel
theorem d_R_calls_273 : decode b_R_calls 273 = .ok (.iload_n 3, 1) := by decide +kernel
theorem d_R_calls_274 : decode b_R_calls 274 = .ok (.iload 7, 2) := by decide +kernel
theorem d_R_calls_276 : decode b_R_calls 276 = .ok (.invokevirtual 105, 3) := by decide +kernel
theorem d_R_calls_279 : decode b_R_calls 279 = .ok (.istore 9, 2) := by decide +kernel
theorem d_R_calls_281 : decode b_R_calls 281 = .ok (.iload 9, 2) := by decide +kernel
theorem d_R_calls_283 : decode b_R_calls 283 = .ok (.iconst 2, 1) := by decide +kernel
theorem d_R_calls_284 : decode b_R_calls 284 = .ok (.if_icmp .ne (16), 3) := by decide +kernel
theorem d_R_calls_287 : decode b_R_calls 287 = .ok (.aload_n 0, 1) := by decide +kernel
theorem d_R_calls_288 : decode b_R_calls 288 = .ok (.iload_n 1, 1) := by decide +kernel
theorem d_R_calls_289 : decode b_R_calls 289 = .ok (.ldc 92, 2) := by decide +kernel
theorem d_R_calls_291 : decode b_R_calls 291 = .ok (.iconst 2, 1) := by decide +kernel
theorem d_R_calls_292 : decode b_R_calls 292 = .ok (.iload 8, 2) := by decide +kernel
theorem d_R_calls_294 : decode b_R_calls 294 = .ok (.invokevirtual 97, 3) := by decide +kernel
theorem d_R_calls_297 : decode b_R_calls 297 = .ok (.goto (45), 3) := by decide +kernel
theorem d_R_calls_300 : decode b_R_calls 300 = .ok (.iload 9, 2) := by decide +kernel
theorem d_R_calls_302 : decode b_R_calls 302 = .ok (.iconst 1, 1) := by decide +kernel
theorem d_R_calls_303 : decode b_R_calls 303 = .ok (.if_icmp .ne (39), 3) := by decide +kernel
theorem d_R_calls_306 : decode b_R_calls 306 = .ok (.aload_n 0, 1) := by decide +kernel
theorem d_R_calls_307 : decode b_R_calls 307 = .ok (.iload_n 1, 1) := by decide +kernel
theorem d_R_calls_308 : decode b_R_calls 308 = .ok (.iload 5, 2) := by decide +kernel
theorem d_R_calls_310 : decode b_R_calls 310 = .ok (.invokevirtual 93, 3) := by decide +kernel
theorem d_R_calls_313 : decode b_R_calls 313 = .ok (.istore 10, 2) := by decide +kernel
theorem d_R_calls_315 : decode b_R_calls 315 = .ok (.aload_n 0, 1) := by decide +kernel
theorem d_R_calls_316 : decode b_R_calls 316 = .ok (.iload_n 1, 1) := by decide +kernel
theorem d_R_calls_317 : decode b_R_calls 317 = .ok (.iload 10, 2) := by decide +kernel
theorem d_R_calls_319 : decode b_R_calls 319 = .ok (.iconst 2, 1) := by decide +kernel
theorem d_R_calls_320 : decode b_R_calls 320 = .ok (.iload 10, 2) := by decide +kernel
theorem d_R_calls_322 : decode b_R_calls 322 = .ok (.invokevirtual 97, 3) := by decide +kernel
theorem d_R_calls_325 : decode b_R_calls 325 = .ok (.aload_n 0, 1) := by decide +kernel
theorem d_R_calls_326 : decode b_R_calls 326 = .ok (.getfield 31, 3) := by decide +kernel
theorem d_R_calls_329 : decode b_R_calls 329 = .ok (.iload 4, 2) := by decide +kernel
theorem d_R_calls_331 : decode b_R_calls 331 = .ok (.aload_n 0, 1) := by decide +kernel
theorem d_R_calls_332 : decode b_R_calls 332 = .ok (.getfield 31, 3) := by decide +kernel
theorem d_R_calls_335 : decode b_R_calls 335 = .ok (.iload 4, 2) := by decide +kernel
theorem d_R_calls_337 : decode b_R_calls 337 = .ok (.iaload, 1) := by decide +kernel
theorem d_R_calls_338 : decode b_R_calls 338 = .ok (.iload 10, 2) := by decide +kernel
theorem d_R_calls_340 : decode b_R_calls 340 = .ok (.ior, 1) := by decide +kernel
theorem d_R_calls_341 : decode b_R_calls 341 = .ok (.iastore, 1) := by decide +kernel
theorem d_R_calls_342 : decode b_R_calls 342 = .ok (.iinc 7 (1), 3) := by decide +kernel
theorem d_R_calls_345 : decode b_R_calls 345 = .ok (.goto (-126), 3) := by decide +kernel
theorem d_R_calls_348 : decode b_R_calls 348 = .ok (.return_, 1) := by decide +kernel
theorem d_R_reached_0 : decode b_R_reached 0 = .ok (.iload_n 2, 1) := by decide +kernel
theorem d_R_reached_1 : decode b_R_reached 1 = .ok (.istore_n 3, 1) := by decide +kernel
theorem d_R_reached_2 : decode b_R_reached 2 = .ok (.iconst 0, 1) := by decide +kernel
theorem d_R_reached_3 : decode b_R_reached 3 = .ok (.istore 4, 2) := by decide +kernel
theorem d_R_reached_5 : decode b_R_reached 5 = .ok (.iload 4, 2) := by decide +kernel
theorem d_R_reached_7 : decode b_R_reached 7 = .ok (.bipush (28), 2) := by decide +kernel
theorem d_R_reached_9 : decode b_R_reached 9 = .ok (.if_icmp .ge (69), 3) := by decide +kernel
theorem d_R_reached_12 : decode b_R_reached 12 = .ok (.iconst 0, 1) := by decide +kernel
theorem d_R_reached_13 : decode b_R_reached 13 = .ok (.istore 5, 2) := by decide +kernel
theorem d_R_reached_15 : decode b_R_reached 15 = .ok (.iload 5, 2) := by decide +kernel
theorem d_R_reached_17 : decode b_R_reached 17 = .ok (.bipush (27), 2) := by decide +kernel
theorem d_R_reached_19 : decode b_R_reached 19 = .ok (.if_icmp .ge (53), 3) := by decide +kernel
theorem d_R_reached_22 : decode b_R_reached 22 = .ok (.iload_n 3, 1) := by decide +kernel
theorem d_R_reached_23 : decode b_R_reached 23 = .ok (.iload 5, 2) := by decide +kernel
theorem d_R_reached_25 : decode b_R_reached 25 = .ok (.ishr, 1) := by decide +kernel
theorem d_R_reached_26 : decode b_R_reached 26 = .ok (.iconst 1, 1) := by decide +kernel
theorem d_R_reached_27 : decode b_R_reached 27 = .ok (.iand, 1) := by decide +kernel
theorem d_R_reached_28 : decode b_R_reached 28 = .ok (.iconst 1, 1) := by decide +kernel
theorem d_R_reached_29 : decode b_R_reached 29 = .ok (.if_icmp .ne (37), 3) := by decide +kernel
theorem d_R_reached_32 : decode b_R_reached 32 = .ok (.iload_n 3, 1) := by decide +kernel
theorem d_R_reached_33 : decode b_R_reached 33 = .ok (.aload_n 0, 1) := by decide +kernel
theorem d_R_reached_34 : decode b_R_reached 34 = .ok (.getfield 34, 3) := by decide +kernel
theorem d_R_reached_37 : decode b_R_reached 37 = .ok (.bipush (54), 2) := by decide +kernel
theorem d_R_reached_39 : decode b_R_reached 39 = .ok (.iload_n 1, 1) := by decide +kernel
theorem d_R_reached_40 : decode b_R_reached 40 = .ok (.imul, 1) := by decide +kernel
theorem d_R_reached_41 : decode b_R_reached 41 = .ok (.iconst 2, 1) := by decide +kernel
theorem d_R_reached_42 : decode b_R_reached 42 = .ok (.iload 5, 2) := by decide +kernel
theorem d_R_reached_44 : decode b_R_reached 44 = .ok (.imul, 1) := by decide +kernel
theorem d_R_reached_45 : decode b_R_reached 45 = .ok (.iadd, 1) := by decide +kernel
theorem d_R_reached_46 : decode b_R_reached 46 = .ok (.iaload, 1) := by decide +kernel
theorem d_R_reached_47 : decode b_R_reached 47 = .ok (.ior, 1) := by decide +kernel
theorem d_R_reached_48 : decode b_R_reached 48 = .ok (.aload_n 0, 1) := by decide +kernel
theorem d_R_reached_49 : decode b_R_reached 49 = .ok (.getfield 34, 3) := by decide +kernel
theorem d_R_reached_52 : decode b_R_reached 52 = .ok (.bipush (54), 2) := by decide +kernel
theorem d_R_reached_54 : decode b_R_reached 54 = .ok (.iload_n 1, 1) := by decide +kernel
theorem d_R_reached_55 : decode b_R_reached 55 = .ok (.imul, 1) := by decide +kernel
theorem d_R_reached_56 : decode b_R_reached 56 = .ok (.iconst 2, 1) := by decide +kernel
theorem d_R_reached_57 : decode b_R_reached 57 = .ok (.iload 5, 2) := by decide +kernel
theorem d_R_reached_59 : decode b_R_reached 59 = .ok (.imul, 1) := by decide +kernel
theorem d_R_reached_60 : decode b_R_reached 60 = .ok (.iadd, 1) := by decide +kernel
theorem d_R_reached_61 : decode b_R_reached 61 = .ok (.iconst 1, 1) := by decide +kernel
theorem d_R_reached_62 : decode b_R_reached 62 = .ok (.iadd, 1) := by decide +kernel
theorem d_R_reached_63 : decode b_R_reached 63 = .ok (.iaload, 1) := by decide +kernel
theorem d_R_reached_64 : decode b_R_reached 64 = .ok (.ior, 1) := by decide +kernel
theorem d_R_reached_65 : decode b_R_reached 65 = .ok (.istore_n 3, 1) := by decide +kernel
theorem d_R_reached_66 : decode b_R_reached 66 = .ok (.iinc 5 (1), 3) := by decide +kernel
theorem d_R_reached_69 : decode b_R_reached 69 = .ok (.goto (-54), 3) := by decide +kernel
theorem d_R_reached_72 : decode b_R_reached 72 = .ok (.iinc 4 (1), 3) := by decide +kernel
theorem d_R_reached_75 : decode b_R_reached 75 = .ok (.goto (-70), 3) := by decide +kernel
theorem d_R_reached_78 : decode b_R_reached 78 = .ok (.iload_n 3, 1) := by decide +kernel
theorem d_R_reached_79 : decode b_R_reached 79 = .ok (.ireturn, 1) := by decide +kernel
theorem d_R_stateOf_0 : decode b_R_stateOf 0 = .ok (.iload_n 2, 1) := by decide +kernel
theorem d_R_stateOf_1 : decode b_R_stateOf 1 = .ok (.iload_n 1, 1) := by decide +kernel
theorem d_R_stateOf_2 : decode b_R_stateOf 2 = .ok (.if_icmp .le (12), 3) := by decide +kernel
theorem d_R_stateOf_5 : decode b_R_stateOf 5 = .ok (.aload_n 0, 1) := by decide +kernel
theorem d_R_stateOf_6 : decode b_R_stateOf 6 = .ok (.getfield 13, 3) := by decide +kernel
theorem d_R_stateOf_9 : decode b_R_stateOf 9 = .ok (.iload_n 2, 1) := by decide +kernel
theorem d_R_stateOf_10 : decode b_R_stateOf 10 = .ok (.iaload, 1) := by decide +kernel
theorem d_R_stateOf_11 : decode b_R_stateOf 11 = .ok (.ifCond .ne (7), 3) := by decide +kernel
theorem d_R_stateOf_14 : decode b_R_stateOf 14 = .ok (.iconst 2, 1) := by decide +kernel
theorem d_R_stateOf_15 : decode b_R_stateOf 15 = .ok (.goto (13), 3) := by decide +kernel
theorem d_R_stateOf_18 : decode b_R_stateOf 18 = .ok (.aload_n 0, 1) := by decide +kernel
theorem d_R_stateOf_19 : decode b_R_stateOf 19 = .ok (.getfield 40, 3) := by decide +kernel
theorem d_R_stateOf_22 : decode b_R_stateOf 22 = .ok (.iconst 2, 1) := by decide +kernel
theorem d_R_stateOf_23 : decode b_R_stateOf 23 = .ok (.iload_n 2, 1) := by decide +kernel
theorem d_R_stateOf_24 : decode b_R_stateOf 24 = .ok (.imul, 1) := by decide +kernel
theorem d_R_stateOf_25 : decode b_R_stateOf 25 = .ok (.iload_n 3, 1) := by decide +kernel
theorem d_R_stateOf_26 : decode b_R_stateOf 26 = .ok (.iadd, 1) := by decide +kernel
theorem d_R_stateOf_27 : decode b_R_stateOf 27 = .ok (.iaload, 1) := by decide +kernel
theorem d_R_stateOf_28 : decode b_R_stateOf 28 = .ok (.ireturn, 1) := by decide +kernel
theorem d_R_fateOf_0 : decode b_R_fateOf 0 = .ok (.bipush (24), 2) := by decide +kernel
theorem d_R_fateOf_2 : decode b_R_fateOf 2 = .ok (.iload_n 1, 1) := by decide +kernel
theorem d_R_fateOf_3 : decode b_R_fateOf 3 = .ok (.imul, 1) := by decide +kernel
theorem d_R_fateOf_4 : decode b_R_fateOf 4 = .ok (.iload_n 2, 1) := by decide +kernel
theorem d_R_fateOf_5 : decode b_R_fateOf 5 = .ok (.iadd, 1) := by decide +kernel
theorem d_R_fateOf_6 : decode b_R_fateOf 6 = .ok (.istore_n 3, 1) := by decide +kernel
theorem d_R_fateOf_7 : decode b_R_fateOf 7 = .ok (.iconst 0, 1) := by decide +kernel
theorem d_R_fateOf_8 : decode b_R_fateOf 8 = .ok (.istore 4, 2) := by decide +kernel
theorem d_R_fateOf_10 : decode b_R_fateOf 10 = .ok (.iload 4, 2) := by decide +kernel
theorem d_R_fateOf_12 : decode b_R_fateOf 12 = .ok (.iconst 4, 1) := by decide +kernel
theorem d_R_fateOf_13 : decode b_R_fateOf 13 = .ok (.if_icmp .ge (64), 3) := by decide +kernel
theorem d_R_fateOf_16 : decode b_R_fateOf 16 = .ok (.aload_n 0, 1) := by decide +kernel
theorem d_R_fateOf_17 : decode b_R_fateOf 17 = .ok (.getfield 16, 3) := by decide +kernel
theorem d_R_fateOf_20 : decode b_R_fateOf 20 = .ok (.iload_n 3, 1) := by decide +kernel
theorem d_R_fateOf_21 : decode b_R_fateOf 21 = .ok (.iaload, 1) := by decide +kernel
theorem d_R_fateOf_22 : decode b_R_fateOf 22 = .ok (.ifCond .ne (22), 3) := by decide +kernel
theorem d_R_fateOf_25 : decode b_R_fateOf 25 = .ok (.aload_n 0, 1) := by decide +kernel
theorem d_R_fateOf_26 : decode b_R_fateOf 26 = .ok (.getfield 19, 3) := by decide +kernel
theorem d_R_fateOf_29 : decode b_R_fateOf 29 = .ok (.iload_n 3, 1) := by decide +kernel
theorem d_R_fateOf_30 : decode b_R_fateOf 30 = .ok (.iaload, 1) := by decide +kernel
theorem d_R_fateOf_31 : decode b_R_fateOf 31 = .ok (.iload 4, 2) := by decide +kernel
theorem d_R_fateOf_33 : decode b_R_fateOf 33 = .ok (.if_icmp .ne (7), 3) := by decide +kernel
theorem d_R_fateOf_36 : decode b_R_fateOf 36 = .ok (.iconst 1, 1) := by decide +kernel
theorem d_R_fateOf_37 : decode b_R_fateOf 37 = .ok (.goto (15), 3) := by decide +kernel
theorem d_R_fateOf_40 : decode b_R_fateOf 40 = .ok (.iconst 0, 1) := by decide +kernel
theorem d_R_fateOf_41 : decode b_R_fateOf 41 = .ok (.goto (11), 3) := by decide +kernel
theorem d_R_fateOf_44 : decode b_R_fateOf 44 = .ok (.aload_n 0, 1) := by decide +kernel
theorem d_R_fateOf_45 : decode b_R_fateOf 45 = .ok (.iload_n 1, 1) := by decide +kernel
theorem d_R_fateOf_46 : decode b_R_fateOf 46 = .ok (.iload_n 2, 1) := by decide +kernel
theorem d_R_fateOf_47 : decode b_R_fateOf 47 = .ok (.iload 4, 2) := by decide +kernel
theorem d_R_fateOf_49 : decode b_R_fateOf 49 = .ok (.invokevirtual 138, 3) := by decide +kernel
theorem d_R_fateOf_52 : decode b_R_fateOf 52 = .ok (.istore 5, 2) := by decide +kernel
theorem d_R_fateOf_54 : decode b_R_fateOf 54 = .ok (.iload 5, 2) := by decide +kernel
theorem d_R_fateOf_56 : decode b_R_fateOf 56 = .ok (.ifCond .eq (15), 3) := by decide +kernel
theorem d_R_fateOf_59 : decode b_R_fateOf 59 = .ok (.aload_n 0, 1) := by decide +kernel
theorem d_R_fateOf_60 : decode b_R_fateOf 60 = .ok (.iload_n 1, 1) := by decide +kernel
theorem d_R_fateOf_61 : decode b_R_fateOf 61 = .ok (.iload 4, 2) := by decide +kernel
theorem d_R_fateOf_63 : decode b_R_fateOf 63 = .ok (.invokevirtual 148, 3) := by decide +kernel
theorem d_R_fateOf_66 : decode b_R_fateOf 66 = .ok (.ifCond .eq (5), 3) := by decide +kernel
theorem d_R_fateOf_69 : decode b_R_fateOf 69 = .ok (.iconst 1, 1) := by decide +kernel
theorem d_R_fateOf_70 : decode b_R_fateOf 70 = .ok (.ireturn, 1) := by decide +kernel
theorem d_R_fateOf_71 : decode b_R_fateOf 71 = .ok (.iinc 4 (1), 3) := by decide +kernel
theorem d_R_fateOf_74 : decode b_R_fateOf 74 = .ok (.goto (-64), 3) := by decide +kernel
theorem d_R_fateOf_77 : decode b_R_fateOf 77 = .ok (.iconst 0, 1) := by decide +kernel
theorem d_R_fateOf_78 : decode b_R_fateOf 78 = .ok (.istore 4, 2) := by decide +kernel
theorem d_R_fateOf_80 : decode b_R_fateOf 80 = .ok (.iload 4, 2) := by decide +kernel
theorem d_R_fateOf_82 : decode b_R_fateOf 82 = .ok (.aload_n 0, 1) := by decide +kernel
theorem d_R_fateOf_83 : decode b_R_fateOf 83 = .ok (.getfield 13, 3) := by decide +kernel
theorem d_R_fateOf_86 : decode b_R_fateOf 86 = .ok (.iload_n 1, 1) := by decide +kernel
theorem d_R_fateOf_87 : decode b_R_fateOf 87 = .ok (.iaload, 1) := by decide +kernel
theorem d_R_fateOf_88 : decode b_R_fateOf 88 = .ok (.if_icmp .ge (57), 3) := by decide +kernel
theorem d_R_fateOf_91 : decode b_R_fateOf 91 = .ok (.iload 4, 2) := by decide +kernel
theorem d_R_fateOf_93 : decode b_R_fateOf 93 = .ok (.iload_n 2, 1) := by decide +kernel
theorem d_R_fateOf_94 : decode b_R_fateOf 94 = .ok (.if_icmp .le (14), 3) := by decide +kernel
theorem d_R_fateOf_97 : decode b_R_fateOf 97 = .ok (.aload_n 0, 1) := by decide +kernel
theorem d_R_fateOf_98 : decode b_R_fateOf 98 = .ok (.iload_n 1, 1) := by decide +kernel
theorem d_R_fateOf_99 : decode b_R_fateOf 99 = .ok (.iload_n 2, 1) := by decide +kernel
theorem d_R_fateOf_100 : decode b_R_fateOf 100 = .ok (.iload 4, 2) := by decide +kernel
theorem d_R_fateOf_102 : decode b_R_fateOf 102 = .ok (.invokevirtual 154, 3) := by decide +kernel
theorem d_R_fateOf_105 : decode b_R_fateOf 105 = .ok (.ifCond .ne (20), 3) := by decide +kernel
theorem d_R_fateOf_108 : decode b_R_fateOf 108 = .ok (.iload 4, 2) := by decide +kernel
theorem d_R_fateOf_110 : decode b_R_fateOf 110 = .ok (.iload_n 2, 1) := by decide +kernel
theorem d_R_fateOf_111 : decode b_R_fateOf 111 = .ok (.if_icmp .ge (18), 3) := by decide +kernel
theorem d_R_fateOf_114 : decode b_R_fateOf 114 = .ok (.aload_n 0, 1) := by decide +kernel
theorem d_R_fateOf_115 : decode b_R_fateOf 115 = .ok (.iload_n 1, 1) := by decide +kernel
theorem d_R_fateOf_116 : decode b_R_fateOf 116 = .ok (.iload 4, 2) := by decide +kernel
theorem d_R_fateOf_118 : decode b_R_fateOf 118 = .ok (.iload_n 2, 1) := by decide +kernel
theorem d_R_fateOf_119 : decode b_R_fateOf 119 = .ok (.invokevirtual 154, 3) := by decide +kernel
theorem d_R_fateOf_122 : decode b_R_fateOf 122 = .ok (.ifCond .eq (7), 3) := by decide +kernel
theorem d_R_fateOf_125 : decode b_R_fateOf 125 = .ok (.iconst 1, 1) := by decide +kernel
theorem d_R_fateOf_126 : decode b_R_fateOf 126 = .ok (.goto (4), 3) := by decide +kernel
theorem d_R_fateOf_129 : decode b_R_fateOf 129 = .ok (.iconst 0, 1) := by decide +kernel
theorem d_R_fateOf_130 : decode b_R_fateOf 130 = .ok (.istore 5, 2) := by decide +kernel
theorem d_R_fateOf_132 : decode b_R_fateOf 132 = .ok (.iload 5, 2) := by decide +kernel
theorem d_R_fateOf_134 : decode b_R_fateOf 134 = .ok (.ifCond .eq (5), 3) := by decide +kernel
theorem d_R_fateOf_137 : decode b_R_fateOf 137 = .ok (.iconst 2, 1) := by decide +kernel
theorem d_R_fateOf_138 : decode b_R_fateOf 138 = .ok (.ireturn, 1) := by decide +kernel
theorem d_R_fateOf_139 : decode b_R_fateOf 139 = .ok (.iinc 4 (1), 3) := by decide +kernel
theorem d_R_fateOf_142 : decode b_R_fateOf 142 = .ok (.goto (-62), 3) := by decide +kernel
theorem d_R_fateOf_145 : decode b_R_fateOf 145 = .ok (.iconst 0, 1) := by decide +kernel
theorem d_R_fateOf_146 : decode b_R_fateOf 146 = .ok (.ireturn, 1) := by decide +kernel
theorem d_R_worksOn_0 : decode b_R_worksOn 0 = .ok (.bipush (24), 2) := by decide +kernel
theorem d_R_worksOn_2 : decode b_R_worksOn 2 = .ok (.iload_n 1, 1) := by decide +kernel
theorem d_R_worksOn_3 : decode b_R_worksOn 3 = .ok (.imul, 1) := by decide +kernel
theorem d_R_worksOn_4 : decode b_R_worksOn 4 = .ok (.iload_n 2, 1) := by decide +kernel
theorem d_R_worksOn_5 : decode b_R_worksOn 5 = .ok (.iadd, 1) := by decide +kernel
theorem d_R_worksOn_6 : decode b_R_worksOn 6 = .ok (.istore 4, 2) := by decide +kernel
theorem d_R_worksOn_8 : decode b_R_worksOn 8 = .ok (.aload_n 0, 1) := by decide +kernel
theorem d_R_worksOn_9 : decode b_R_worksOn 9 = .ok (.getfield 16, 3) := by decide +kernel
theorem d_R_worksOn_12 : decode b_R_worksOn 12 = .ok (.iload 4, 2) := by decide +kernel
theorem d_R_worksOn_14 : decode b_R_worksOn 14 = .ok (.iaload, 1) := by decide +kernel
theorem d_R_worksOn_15 : decode b_R_worksOn 15 = .ok (.istore 5, 2) := by decide +kernel
theorem d_R_worksOn_17 : decode b_R_worksOn 17 = .ok (.iload 5, 2) := by decide +kernel
theorem d_R_worksOn_19 : decode b_R_worksOn 19 = .ok (.iconst 3, 1) := by decide +kernel
theorem d_R_worksOn_20 : decode b_R_worksOn 20 = .ok (.if_icmp .eq (16), 3) := by decide +kernel
theorem d_R_worksOn_23 : decode b_R_worksOn 23 = .ok (.iload 5, 2) := by decide +kernel
theorem d_R_worksOn_25 : decode b_R_worksOn 25 = .ok (.iconst 5, 1) := by decide +kernel
theorem d_R_worksOn_26 : decode b_R_worksOn 26 = .ok (.if_icmp .eq (10), 3) := by decide +kernel
theorem d_R_worksOn_29 : decode b_R_worksOn 29 = .ok (.iload 5, 2) := by decide +kernel
theorem d_R_worksOn_31 : decode b_R_worksOn 31 = .ok (.bipush (9), 2) := by decide +kernel
theorem d_R_worksOn_33 : decode b_R_worksOn 33 = .ok (.if_icmp .ne (7), 3) := by decide +kernel
theorem d_R_worksOn_36 : decode b_R_worksOn 36 = .ok (.iconst 1, 1) := by decide +kernel
theorem d_R_worksOn_37 : decode b_R_worksOn 37 = .ok (.goto (4), 3) := by decide +kernel
theorem d_R_worksOn_40 : decode b_R_worksOn 40 = .ok (.iconst 0, 1) := by decide +kernel
theorem d_R_worksOn_41 : decode b_R_worksOn 41 = .ok (.istore 6, 2) := by decide +kernel
theorem d_R_worksOn_43 : decode b_R_worksOn 43 = .ok (.iload 5, 2) := by decide +kernel
theorem d_R_worksOn_45 : decode b_R_worksOn 45 = .ok (.iconst 4, 1) := by decide +kernel
theorem d_R_worksOn_46 : decode b_R_worksOn 46 = .ok (.if_icmp .eq (24), 3) := by decide +kernel
theorem d_R_worksOn_49 : decode b_R_worksOn 49 = .ok (.iload 5, 2) := by decide +kernel
theorem d_R_worksOn_51 : decode b_R_worksOn 51 = .ok (.bipush (6), 2) := by decide +kernel
theorem d_R_worksOn_53 : decode b_R_worksOn 53 = .ok (.if_icmp .eq (17), 3) := by decide +kernel
theorem d_R_worksOn_56 : decode b_R_worksOn 56 = .ok (.iload 5, 2) := by decide +kernel
theorem d_R_worksOn_58 : decode b_R_worksOn 58 = .ok (.bipush (10), 2) := by decide +kernel
theorem d_R_worksOn_60 : decode b_R_worksOn 60 = .ok (.if_icmp .eq (10), 3) := by decide +kernel
theorem d_R_worksOn_63 : decode b_R_worksOn 63 = .ok (.iload 5, 2) := by decide +kernel
theorem d_R_worksOn_65 : decode b_R_worksOn 65 = .ok (.bipush (11), 2) := by decide +kernel
theorem d_R_worksOn_67 : decode b_R_worksOn 67 = .ok (.if_icmp .ne (7), 3) := by decide +kernel
theorem d_R_worksOn_70 : decode b_R_worksOn 70 = .ok (.iconst 1, 1) := by decide +kernel
theorem d_R_worksOn_71 : decode b_R_worksOn 71 = .ok (.goto (4), 3) := by decide +kernel
theorem d_R_worksOn_74 : decode b_R_worksOn 74 = .ok (.iconst 0, 1) := by decide +kernel
theorem d_R_worksOn_75 : decode b_R_worksOn 75 = .ok (.istore 7, 2) := by decide +kernel
theorem d_R_worksOn_77 : decode b_R_worksOn 77 = .ok (.iload 6, 2) := by decide +kernel
theorem d_R_worksOn_79 : decode b_R_worksOn 79 = .ok (.ifCond .eq (14), 3) := by decide +kernel
theorem d_R_worksOn_82 : decode b_R_worksOn 82 = .ok (.aload_n 0, 1) := by decide +kernel
theorem d_R_worksOn_83 : decode b_R_worksOn 83 = .ok (.getfield 22, 3) := by decide +kernel
theorem d_R_worksOn_86 : decode b_R_worksOn 86 = .ok (.iload 4, 2) := by decide +kernel
theorem d_R_worksOn_88 : decode b_R_worksOn 88 = .ok (.iaload, 1) := by decide +kernel
theorem d_R_worksOn_89 : decode b_R_worksOn 89 = .ok (.iload_n 3, 1) := by decide +kernel
theorem d_R_worksOn_90 : decode b_R_worksOn 90 = .ok (.if_icmp .eq (37), 3) := by decide +kernel
theorem d_R_worksOn_93 : decode b_R_worksOn 93 = .ok (.iload 7, 2) := by decide +kernel
theorem d_R_worksOn_95 : decode b_R_worksOn 95 = .ok (.ifCond .eq (14), 3) := by decide +kernel
theorem d_R_worksOn_98 : decode b_R_worksOn 98 = .ok (.aload_n 0, 1) := by decide +kernel
theorem d_R_worksOn_99 : decode b_R_worksOn 99 = .ok (.getfield 19, 3) := by decide +kernel
theorem d_R_worksOn_102 : decode b_R_worksOn 102 = .ok (.iload 4, 2) := by decide +kernel
theorem d_R_worksOn_104 : decode b_R_worksOn 104 = .ok (.iaload, 1) := by decide +kernel
theorem d_R_worksOn_105 : decode b_R_worksOn 105 = .ok (.iload_n 3, 1) := by decide +kernel
theorem d_R_worksOn_106 : decode b_R_worksOn 106 = .ok (.if_icmp .eq (21), 3) := by decide +kernel
theorem d_R_worksOn_109 : decode b_R_worksOn 109 = .ok (.iload 5, 2) := by decide +kernel
theorem d_R_worksOn_111 : decode b_R_worksOn 111 = .ok (.bipush (9), 2) := by decide +kernel
theorem d_R_worksOn_113 : decode b_R_worksOn 113 = .ok (.if_icmp .ne (18), 3) := by decide +kernel
theorem d_R_worksOn_116 : decode b_R_worksOn 116 = .ok (.aload_n 0, 1) := by decide +kernel
theorem d_R_worksOn_117 : decode b_R_worksOn 117 = .ok (.getfield 25, 3) := by decide +kernel
theorem d_R_worksOn_120 : decode b_R_worksOn 120 = .ok (.iload 4, 2) := by decide +kernel
theorem d_R_worksOn_122 : decode b_R_worksOn 122 = .ok (.iaload, 1) := by decide +kernel
theorem d_R_worksOn_123 : decode b_R_worksOn 123 = .ok (.iload_n 3, 1) := by decide +kernel
theorem d_R_worksOn_124 : decode b_R_worksOn 124 = .ok (.if_icmp .ne (7), 3) := by decide +kernel
theorem d_R_worksOn_127 : decode b_R_worksOn 127 = .ok (.iconst 1, 1) := by decide +kernel
theorem d_R_worksOn_128 : decode b_R_worksOn 128 = .ok (.goto (4), 3) := by decide +kernel
theorem d_R_worksOn_131 : decode b_R_worksOn 131 = .ok (.iconst 0, 1) := by decide +kernel
theorem d_R_worksOn_132 : decode b_R_worksOn 132 = .ok (.ireturn, 1) := by decide +kernel
theorem d_R_apart_0 : decode b_R_apart 0 = .ok (.aload_n 0, 1) := by decide +kernel
theorem d_R_apart_1 : decode b_R_apart 1 = .ok (.iload_n 1, 1) := by decide +kernel
theorem d_R_apart_2 : decode b_R_apart 2 = .ok (.iload_n 2, 1) := by decide +kernel
theorem d_R_apart_3 : decode b_R_apart 3 = .ok (.invokevirtual 135, 3) := by decide +kernel
theorem d_R_apart_6 : decode b_R_apart 6 = .ok (.istore_n 3, 1) := by decide +kernel
theorem d_R_apart_7 : decode b_R_apart 7 = .ok (.iload_n 3, 1) := by decide +kernel
theorem d_R_apart_8 : decode b_R_apart 8 = .ok (.ifCond .lt (7), 3) := by decide +kernel
theorem d_R_apart_11 : decode b_R_apart 11 = .ok (.iconst 1, 1) := by decide +kernel
theorem d_R_apart_12 : decode b_R_apart 12 = .ok (.goto (4), 3) := by decide +kernel
theorem d_R_apart_15 : decode b_R_apart 15 = .ok (.iconst 0, 1) := by decide +kernel
theorem d_R_apart_16 : decode b_R_apart 16 = .ok (.istore 4, 2) := by decide +kernel
theorem d_R_apart_18 : decode b_R_apart 18 = .ok (.iconst 0, 1) := by decide +kernel
theorem d_R_apart_19 : decode b_R_apart 19 = .ok (.istore 5, 2) := by decide +kernel
theorem d_R_apart_21 : decode b_R_apart 21 = .ok (.iload 5, 2) := by decide +kernel
theorem d_R_apart_23 : decode b_R_apart 23 = .ok (.aload_n 0, 1) := by decide +kernel
theorem d_R_apart_24 : decode b_R_apart 24 = .ok (.getfield 13, 3) := by decide +kernel
theorem d_R_apart_27 : decode b_R_apart 27 = .ok (.iload_n 1, 1) := by decide +kernel
theorem d_R_apart_28 : decode b_R_apart 28 = .ok (.iaload, 1) := by decide +kernel
theorem d_R_apart_29 : decode b_R_apart 29 = .ok (.if_icmp .ge (62), 3) := by decide +kernel
theorem d_R_apart_32 : decode b_R_apart 32 = .ok (.iload 4, 2) := by decide +kernel
theorem d_R_apart_34 : decode b_R_apart 34 = .ok (.ifCond .eq (57), 3) := by decide +kernel
theorem d_R_apart_37 : decode b_R_apart 37 = .ok (.aload_n 0, 1) := by decide +kernel
theorem d_R_apart_38 : decode b_R_apart 38 = .ok (.iload_n 1, 1) := by decide +kernel
theorem d_R_apart_39 : decode b_R_apart 39 = .ok (.iload 5, 2) := by decide +kernel
theorem d_R_apart_41 : decode b_R_apart 41 = .ok (.iload_n 2, 1) := by decide +kernel
theorem d_R_apart_42 : decode b_R_apart 42 = .ok (.invokevirtual 138, 3) := by decide +kernel
theorem d_R_apart_45 : decode b_R_apart 45 = .ok (.istore 6, 2) := by decide +kernel
theorem d_R_apart_47 : decode b_R_apart 47 = .ok (.aload_n 0, 1) := by decide +kernel
theorem d_R_apart_48 : decode b_R_apart 48 = .ok (.iload_n 1, 1) := by decide +kernel
theorem d_R_apart_49 : decode b_R_apart 49 = .ok (.iload 5, 2) := by decide +kernel
theorem d_R_apart_51 : decode b_R_apart 51 = .ok (.iload_n 2, 1) := by decide +kernel
theorem d_R_apart_52 : decode b_R_apart 52 = .ok (.invokevirtual 142, 3) := by decide +kernel
theorem d_R_apart_55 : decode b_R_apart 55 = .ok (.istore 7, 2) := by decide +kernel
theorem d_R_apart_57 : decode b_R_apart 57 = .ok (.iload 7, 2) := by decide +kernel
theorem d_R_apart_59 : decode b_R_apart 59 = .ok (.ifCond .ne (23), 3) := by decide +kernel
theorem d_R_apart_62 : decode b_R_apart 62 = .ok (.iload 6, 2) := by decide +kernel
theorem d_R_apart_64 : decode b_R_apart 64 = .ok (.ifCond .eq (14), 3) := by decide +kernel
theorem d_R_apart_67 : decode b_R_apart 67 = .ok (.aload_n 0, 1) := by decide +kernel
theorem d_R_apart_68 : decode b_R_apart 68 = .ok (.iload_n 1, 1) := by decide +kernel
theorem d_R_apart_69 : decode b_R_apart 69 = .ok (.iload_n 3, 1) := by decide +kernel
theorem d_R_apart_70 : decode b_R_apart 70 = .ok (.iload 5, 2) := by decide +kernel
theorem d_R_apart_72 : decode b_R_apart 72 = .ok (.invokevirtual 145, 3) := by decide +kernel
theorem d_R_apart_75 : decode b_R_apart 75 = .ok (.ifCond .eq (7), 3) := by decide +kernel
theorem d_R_apart_78 : decode b_R_apart 78 = .ok (.iconst 1, 1) := by decide +kernel
theorem d_R_apart_79 : decode b_R_apart 79 = .ok (.goto (4), 3) := by decide +kernel
theorem d_R_apart_82 : decode b_R_apart 82 = .ok (.iconst 0, 1) := by decide +kernel
theorem d_R_apart_83 : decode b_R_apart 83 = .ok (.istore 4, 2) := by decide +kernel
theorem d_R_apart_85 : decode b_R_apart 85 = .ok (.iinc 5 (1), 3) := by decide +kernel
theorem d_R_apart_88 : decode b_R_apart 88 = .ok (.goto (-67), 3) := by decide +kernel
theorem d_R_apart_91 : decode b_R_apart 91 = .ok (.iload 4, 2) := by decide +kernel
theorem d_R_apart_93 : decode b_R_apart 93 = .ok (.ireturn, 1) := by decide +kernel
theorem d_R_onlyNew_0 : decode b_R_onlyNew 0 = .ok (.iconst (-1), 1) := by decide +kernel
theorem d_R_onlyNew_1 : decode b_R_onlyNew 1 = .ok (.istore_n 3, 1) := by decide +kernel
theorem d_R_onlyNew_2 : decode b_R_onlyNew 2 = .ok (.iconst 0, 1) := by decide +kernel
theorem d_R_onlyNew_3 : decode b_R_onlyNew 3 = .ok (.istore 4, 2) := by decide +kernel
theorem d_R_onlyNew_5 : decode b_R_onlyNew 5 = .ok (.iconst 0, 1) := by decide +kernel
theorem d_R_onlyNew_6 : decode b_R_onlyNew 6 = .ok (.istore 5, 2) := by decide +kernel
theorem d_R_onlyNew_8 : decode b_R_onlyNew 8 = .ok (.iload 5, 2) := by decide +kernel
theorem d_R_onlyNew_10 : decode b_R_onlyNew 10 = .ok (.aload_n 0, 1) := by decide +kernel
theorem d_R_onlyNew_11 : decode b_R_onlyNew 11 = .ok (.getfield 13, 3) := by decide +kernel
theorem d_R_onlyNew_14 : decode b_R_onlyNew 14 = .ok (.iload_n 1, 1) := by decide +kernel
theorem d_R_onlyNew_15 : decode b_R_onlyNew 15 = .ok (.iaload, 1) := by decide +kernel
theorem d_R_onlyNew_16 : decode b_R_onlyNew 16 = .ok (.if_icmp .ge (92), 3) := by decide +kernel
theorem d_R_onlyNew_19 : decode b_R_onlyNew 19 = .ok (.aload_n 0, 1) := by decide +kernel
theorem d_R_onlyNew_20 : decode b_R_onlyNew 20 = .ok (.getfield 16, 3) := by decide +kernel
theorem d_R_onlyNew_23 : decode b_R_onlyNew 23 = .ok (.bipush (24), 2) := by decide +kernel
theorem d_R_onlyNew_25 : decode b_R_onlyNew 25 = .ok (.iload_n 1, 1) := by decide +kernel
theorem d_R_onlyNew_26 : decode b_R_onlyNew 26 = .ok (.imul, 1) := by decide +kernel
theorem d_R_onlyNew_27 : decode b_R_onlyNew 27 = .ok (.iload 5, 2) := by decide +kernel
theorem d_R_onlyNew_29 : decode b_R_onlyNew 29 = .ok (.iadd, 1) := by decide +kernel
theorem d_R_onlyNew_30 : decode b_R_onlyNew 30 = .ok (.iaload, 1) := by decide +kernel
theorem d_R_onlyNew_31 : decode b_R_onlyNew 31 = .ok (.invokestatic 132, 3) := by decide +kernel
theorem d_R_onlyNew_34 : decode b_R_onlyNew 34 = .ok (.ifCond .eq (23), 3) := by decide +kernel
theorem d_R_onlyNew_37 : decode b_R_onlyNew 37 = .ok (.aload_n 0, 1) := by decide +kernel
theorem d_R_onlyNew_38 : decode b_R_onlyNew 38 = .ok (.getfield 19, 3) := by decide +kernel
theorem d_R_onlyNew_41 : decode b_R_onlyNew 41 = .ok (.bipush (24), 2) := by decide +kernel
theorem d_R_onlyNew_43 : decode b_R_onlyNew 43 = .ok (.iload_n 1, 1) := by decide +kernel
theorem d_R_onlyNew_44 : decode b_R_onlyNew 44 = .ok (.imul, 1) := by decide +kernel
theorem d_R_onlyNew_45 : decode b_R_onlyNew 45 = .ok (.iload 5, 2) := by decide +kernel
theorem d_R_onlyNew_47 : decode b_R_onlyNew 47 = .ok (.iadd, 1) := by decide +kernel
theorem d_R_onlyNew_48 : decode b_R_onlyNew 48 = .ok (.iaload, 1) := by decide +kernel
theorem d_R_onlyNew_49 : decode b_R_onlyNew 49 = .ok (.iload_n 2, 1) := by decide +kernel
theorem d_R_onlyNew_50 : decode b_R_onlyNew 50 = .ok (.if_icmp .ne (7), 3) := by decide +kernel
theorem d_R_onlyNew_53 : decode b_R_onlyNew 53 = .ok (.iconst 1, 1) := by decide +kernel
theorem d_R_onlyNew_54 : decode b_R_onlyNew 54 = .ok (.goto (4), 3) := by decide +kernel
theorem d_R_onlyNew_57 : decode b_R_onlyNew 57 = .ok (.iconst 0, 1) := by decide +kernel
theorem d_R_onlyNew_58 : decode b_R_onlyNew 58 = .ok (.istore 6, 2) := by decide +kernel
theorem d_R_onlyNew_60 : decode b_R_onlyNew 60 = .ok (.iload 4, 2) := by decide +kernel
theorem d_R_onlyNew_62 : decode b_R_onlyNew 62 = .ok (.iload 6, 2) := by decide +kernel
theorem d_R_onlyNew_64 : decode b_R_onlyNew 64 = .ok (.ifCond .eq (7), 3) := by decide +kernel
theorem d_R_onlyNew_67 : decode b_R_onlyNew 67 = .ok (.iconst 1, 1) := by decide +kernel
theorem d_R_onlyNew_68 : decode b_R_onlyNew 68 = .ok (.goto (4), 3) := by decide +kernel
theorem d_R_onlyNew_71 : decode b_R_onlyNew 71 = .ok (.iconst 0, 1) := by decide +kernel
theorem d_R_onlyNew_72 : decode b_R_onlyNew 72 = .ok (.iadd, 1) := by decide +kernel
theorem d_R_onlyNew_73 : decode b_R_onlyNew 73 = .ok (.istore 4, 2) := by decide +kernel
theorem d_R_onlyNew_75 : decode b_R_onlyNew 75 = .ok (.iload 6, 2) := by decide +kernel
theorem d_R_onlyNew_77 : decode b_R_onlyNew 77 = .ok (.ifCond .eq (23), 3) := by decide +kernel
theorem d_R_onlyNew_80 : decode b_R_onlyNew 80 = .ok (.aload_n 0, 1) := by decide +kernel
theorem d_R_onlyNew_81 : decode b_R_onlyNew 81 = .ok (.getfield 16, 3) := by decide +kernel
theorem d_R_onlyNew_84 : decode b_R_onlyNew 84 = .ok (.bipush (24), 2) := by decide +kernel
theorem d_R_onlyNew_86 : decode b_R_onlyNew 86 = .ok (.iload_n 1, 1) := by decide +kernel
theorem d_R_onlyNew_87 : decode b_R_onlyNew 87 = .ok (.imul, 1) := by decide +kernel
theorem d_R_onlyNew_88 : decode b_R_onlyNew 88 = .ok (.iload 5, 2) := by decide +kernel
theorem d_R_onlyNew_90 : decode b_R_onlyNew 90 = .ok (.iadd, 1) := by decide +kernel
theorem d_R_onlyNew_91 : decode b_R_onlyNew 91 = .ok (.iaload, 1) := by decide +kernel
theorem d_R_onlyNew_92 : decode b_R_onlyNew 92 = .ok (.ifCond .ne (8), 3) := by decide +kernel
theorem d_R_onlyNew_95 : decode b_R_onlyNew 95 = .ok (.iload 5, 2) := by decide +kernel
theorem d_R_onlyNew_97 : decode b_R_onlyNew 97 = .ok (.goto (4), 3) := by decide +kernel
theorem d_R_onlyNew_100 : decode b_R_onlyNew 100 = .ok (.iload_n 3, 1) := by decide +kernel
theorem d_R_onlyNew_101 : decode b_R_onlyNew 101 = .ok (.istore_n 3, 1) := by decide +kernel
theorem d_R_onlyNew_102 : decode b_R_onlyNew 102 = .ok (.iinc 5 (1), 3) := by decide +kernel
theorem d_R_onlyNew_105 : decode b_R_onlyNew 105 = .ok (.goto (-97), 3) := by decide +kernel
theorem d_R_onlyNew_108 : decode b_R_onlyNew 108 = .ok (.iload 4, 2) := by decide +kernel
theorem d_R_onlyNew_110 : decode b_R_onlyNew 110 = .ok (.iconst 1, 1) := by decide +kernel
theorem d_R_onlyNew_111 : decode b_R_onlyNew 111 = .ok (.if_icmp .ne (17), 3) := by decide +kernel
theorem d_R_onlyNew_114 : decode b_R_onlyNew 114 = .ok (.iload_n 2, 1) := by decide +kernel
theorem d_R_onlyNew_115 : decode b_R_onlyNew 115 = .ok (.aload_n 0, 1) := by decide +kernel
theorem d_R_onlyNew_116 : decode b_R_onlyNew 116 = .ok (.getfield 7, 3) := by decide +kernel
theorem d_R_onlyNew_119 : decode b_R_onlyNew 119 = .ok (.iload_n 1, 1) := by decide +kernel
theorem d_R_onlyNew_120 : decode b_R_onlyNew 120 = .ok (.iaload, 1) := by decide +kernel
theorem d_R_onlyNew_121 : decode b_R_onlyNew 121 = .ok (.if_icmp .lt (7), 3) := by decide +kernel
theorem d_R_onlyNew_124 : decode b_R_onlyNew 124 = .ok (.iload_n 3, 1) := by decide +kernel
end
section
theorem d_R_onlyNew_125 : decode b_R_onlyNew 125 = .ok (.goto (4), 3) := by decide +kernel
theorem d_R_onlyNew_128 : decode b_R_onlyNew 128 = .ok (.iconst (-1), 1) := by decide +kernel
theorem d_R_onlyNew_129 : decode b_R_onlyNew 129 = .ok (.ireturn, 1) := by decide +kernel
theorem d_R_defines_0 : decode b_R_defines 0 = .ok (.iload_n 0, 1) := by decide +kernel
theorem d_R_defines_1 : decode b_R_defines 1 = .ok (.ifCond .lt (8), 3) := by decide +kernel
theorem d_R_defines_4 : decode b_R_defines 4 = .ok (.iload_n 0, 1) := by decide +kernel
theorem d_R_defines_5 : decode b_R_defines 5 = .ok (.iconst 3, 1) := by decide +kernel
theorem d_R_defines_6 : decode b_R_defines 6 = .ok (.if_icmp .le (15), 3) := by decide +kernel
theorem d_R_defines_9 : decode b_R_defines 9 = .ok (.iload_n 0, 1) := by decide +kernel
theorem d_R_defines_10 : decode b_R_defines 10 = .ok (.bipush (13), 2) := by decide +kernel
theorem d_R_defines_12 : decode b_R_defines 12 = .ok (.if_icmp .eq (9), 3) := by decide +kernel
theorem d_R_defines_15 : decode b_R_defines 15 = .ok (.iload_n 0, 1) := by decide +kernel
theorem d_R_defines_16 : decode b_R_defines 16 = .ok (.bipush (16), 2) := by decide +kernel
theorem d_R_defines_18 : decode b_R_defines 18 = .ok (.if_icmp .ne (7), 3) := by decide +kernel
theorem d_R_defines_21 : decode b_R_defines 21 = .ok (.iconst 1, 1) := by decide +kernel
theorem d_R_defines_22 : decode b_R_defines 22 = .ok (.goto (4), 3) := by decide +kernel
theorem d_R_defines_25 : decode b_R_defines 25 = .ok (.iconst 0, 1) := by decide +kernel
theorem d_R_defines_26 : decode b_R_defines 26 = .ok (.ireturn, 1) := by decide +kernel
theorem d_R_gives_0 : decode b_R_gives 0 = .ok (.bipush (24), 2) := by decide +kernel
theorem d_R_gives_2 : decode b_R_gives 2 = .ok (.iload_n 1, 1) := by decide +kernel
theorem d_R_gives_3 : decode b_R_gives 3 = .ok (.imul, 1) := by decide +kernel
theorem d_R_gives_4 : decode b_R_gives 4 = .ok (.iload_n 2, 1) := by decide +kernel
theorem d_R_gives_5 : decode b_R_gives 5 = .ok (.iadd, 1) := by decide +kernel
theorem d_R_gives_6 : decode b_R_gives 6 = .ok (.istore 4, 2) := by decide +kernel
theorem d_R_gives_8 : decode b_R_gives 8 = .ok (.aload_n 0, 1) := by decide +kernel
theorem d_R_gives_9 : decode b_R_gives 9 = .ok (.getfield 16, 3) := by decide +kernel
theorem d_R_gives_12 : decode b_R_gives 12 = .ok (.iload 4, 2) := by decide +kernel
theorem d_R_gives_14 : decode b_R_gives 14 = .ok (.iaload, 1) := by decide +kernel
theorem d_R_gives_15 : decode b_R_gives 15 = .ok (.istore 5, 2) := by decide +kernel
theorem d_R_gives_17 : decode b_R_gives 17 = .ok (.iload 5, 2) := by decide +kernel
theorem d_R_gives_19 : decode b_R_gives 19 = .ok (.iconst 1, 1) := by decide +kernel
theorem d_R_gives_20 : decode b_R_gives 20 = .ok (.if_icmp .eq (9), 3) := by decide +kernel
theorem d_R_gives_23 : decode b_R_gives 23 = .ok (.iload 5, 2) := by decide +kernel
theorem d_R_gives_25 : decode b_R_gives 25 = .ok (.iconst 4, 1) := by decide +kernel
theorem d_R_gives_26 : decode b_R_gives 26 = .ok (.if_icmp .ne (18), 3) := by decide +kernel
theorem d_R_gives_29 : decode b_R_gives 29 = .ok (.aload_n 0, 1) := by decide +kernel
theorem d_R_gives_30 : decode b_R_gives 30 = .ok (.getfield 22, 3) := by decide +kernel
theorem d_R_gives_33 : decode b_R_gives 33 = .ok (.iload 4, 2) := by decide +kernel
theorem d_R_gives_35 : decode b_R_gives 35 = .ok (.iaload, 1) := by decide +kernel
theorem d_R_gives_36 : decode b_R_gives 36 = .ok (.iload_n 3, 1) := by decide +kernel
theorem d_R_gives_37 : decode b_R_gives 37 = .ok (.if_icmp .ne (7), 3) := by decide +kernel
theorem d_R_gives_40 : decode b_R_gives 40 = .ok (.iconst 1, 1) := by decide +kernel
theorem d_R_gives_41 : decode b_R_gives 41 = .ok (.goto (4), 3) := by decide +kernel
theorem d_R_gives_44 : decode b_R_gives 44 = .ok (.iconst 0, 1) := by decide +kernel
theorem d_R_gives_45 : decode b_R_gives 45 = .ok (.istore 6, 2) := by decide +kernel
theorem d_R_gives_47 : decode b_R_gives 47 = .ok (.iload 5, 2) := by decide +kernel
theorem d_R_gives_49 : decode b_R_gives 49 = .ok (.bipush (12), 2) := by decide +kernel
theorem d_R_gives_51 : decode b_R_gives 51 = .ok (.if_icmp .eq (10), 3) := by decide +kernel
theorem d_R_gives_54 : decode b_R_gives 54 = .ok (.iload 5, 2) := by decide +kernel
theorem d_R_gives_56 : decode b_R_gives 56 = .ok (.bipush (17), 2) := by decide +kernel
theorem d_R_gives_58 : decode b_R_gives 58 = .ok (.if_icmp .ne (18), 3) := by decide +kernel
theorem d_R_gives_61 : decode b_R_gives 61 = .ok (.aload_n 0, 1) := by decide +kernel
theorem d_R_gives_62 : decode b_R_gives 62 = .ok (.getfield 19, 3) := by decide +kernel
theorem d_R_gives_65 : decode b_R_gives 65 = .ok (.iload 4, 2) := by decide +kernel
theorem d_R_gives_67 : decode b_R_gives 67 = .ok (.iaload, 1) := by decide +kernel
theorem d_R_gives_68 : decode b_R_gives 68 = .ok (.iload_n 3, 1) := by decide +kernel
theorem d_R_gives_69 : decode b_R_gives 69 = .ok (.if_icmp .ne (7), 3) := by decide +kernel
theorem d_R_gives_72 : decode b_R_gives 72 = .ok (.iconst 1, 1) := by decide +kernel
theorem d_R_gives_73 : decode b_R_gives 73 = .ok (.goto (4), 3) := by decide +kernel
theorem d_R_gives_76 : decode b_R_gives 76 = .ok (.iconst 0, 1) := by decide +kernel
theorem d_R_gives_77 : decode b_R_gives 77 = .ok (.istore 7, 2) := by decide +kernel
theorem d_R_gives_79 : decode b_R_gives 79 = .ok (.iload 5, 2) := by decide +kernel
theorem d_R_gives_81 : decode b_R_gives 81 = .ok (.bipush (16), 2) := by decide +kernel
theorem d_R_gives_83 : decode b_R_gives 83 = .ok (.if_icmp .ne (18), 3) := by decide +kernel
theorem d_R_gives_86 : decode b_R_gives 86 = .ok (.aload_n 0, 1) := by decide +kernel
theorem d_R_gives_87 : decode b_R_gives 87 = .ok (.getfield 7, 3) := by decide +kernel
theorem d_R_gives_90 : decode b_R_gives 90 = .ok (.aload_n 0, 1) := by decide +kernel
theorem d_R_gives_91 : decode b_R_gives 91 = .ok (.getfield 28, 3) := by decide +kernel
theorem d_R_gives_94 : decode b_R_gives 94 = .ok (.iload 4, 2) := by decide +kernel
theorem d_R_gives_96 : decode b_R_gives 96 = .ok (.iaload, 1) := by decide +kernel
theorem d_R_gives_97 : decode b_R_gives 97 = .ok (.iaload, 1) := by decide +kernel
theorem d_R_gives_98 : decode b_R_gives 98 = .ok (.goto (4), 3) := by decide +kernel
theorem d_R_gives_101 : decode b_R_gives 101 = .ok (.iconst 0, 1) := by decide +kernel
theorem d_R_gives_102 : decode b_R_gives 102 = .ok (.istore 8, 2) := by decide +kernel
theorem d_R_gives_104 : decode b_R_gives 104 = .ok (.iload 6, 2) := by decide +kernel
theorem d_R_gives_106 : decode b_R_gives 106 = .ok (.ifCond .ne (41), 3) := by decide +kernel
theorem d_R_gives_109 : decode b_R_gives 109 = .ok (.iload 7, 2) := by decide +kernel
theorem d_R_gives_111 : decode b_R_gives 111 = .ok (.ifCond .ne (36), 3) := by decide +kernel
theorem d_R_gives_114 : decode b_R_gives 114 = .ok (.iload 8, 2) := by decide +kernel
theorem d_R_gives_116 : decode b_R_gives 116 = .ok (.ifCond .le (14), 3) := by decide +kernel
theorem d_R_gives_119 : decode b_R_gives 119 = .ok (.aload_n 0, 1) := by decide +kernel
theorem d_R_gives_120 : decode b_R_gives 120 = .ok (.getfield 22, 3) := by decide +kernel
theorem d_R_gives_123 : decode b_R_gives 123 = .ok (.iload 4, 2) := by decide +kernel
theorem d_R_gives_125 : decode b_R_gives 125 = .ok (.iaload, 1) := by decide +kernel
theorem d_R_gives_126 : decode b_R_gives 126 = .ok (.iload_n 3, 1) := by decide +kernel
theorem d_R_gives_127 : decode b_R_gives 127 = .ok (.if_icmp .eq (20), 3) := by decide +kernel
theorem d_R_gives_130 : decode b_R_gives 130 = .ok (.iload 8, 2) := by decide +kernel
theorem d_R_gives_132 : decode b_R_gives 132 = .ok (.iconst 1, 1) := by decide +kernel
theorem d_R_gives_133 : decode b_R_gives 133 = .ok (.if_icmp .le (18), 3) := by decide +kernel
theorem d_R_gives_136 : decode b_R_gives 136 = .ok (.aload_n 0, 1) := by decide +kernel
theorem d_R_gives_137 : decode b_R_gives 137 = .ok (.getfield 25, 3) := by decide +kernel
theorem d_R_gives_140 : decode b_R_gives 140 = .ok (.iload 4, 2) := by decide +kernel
theorem d_R_gives_142 : decode b_R_gives 142 = .ok (.iaload, 1) := by decide +kernel
theorem d_R_gives_143 : decode b_R_gives 143 = .ok (.iload_n 3, 1) := by decide +kernel
theorem d_R_gives_144 : decode b_R_gives 144 = .ok (.if_icmp .ne (7), 3) := by decide +kernel
theorem d_R_gives_147 : decode b_R_gives 147 = .ok (.iconst 1, 1) := by decide +kernel
theorem d_R_gives_148 : decode b_R_gives 148 = .ok (.goto (4), 3) := by decide +kernel
theorem d_R_gives_151 : decode b_R_gives 151 = .ok (.iconst 0, 1) := by decide +kernel
theorem d_R_gives_152 : decode b_R_gives 152 = .ok (.ireturn, 1) := by decide +kernel
theorem d_R_dominates_0 : decode b_R_dominates 0 = .ok (.iconst 0, 1) := by decide +kernel
theorem d_R_dominates_1 : decode b_R_dominates 1 = .ok (.istore 4, 2) := by decide +kernel
theorem d_R_dominates_3 : decode b_R_dominates 3 = .ok (.iload 4, 2) := by decide +kernel
theorem d_R_dominates_5 : decode b_R_dominates 5 = .ok (.bipush (24), 2) := by decide +kernel
theorem d_R_dominates_7 : decode b_R_dominates 7 = .ok (.if_icmp .ge (30), 3) := by decide +kernel
theorem d_R_dominates_10 : decode b_R_dominates 10 = .ok (.aload_n 0, 1) := by decide +kernel
theorem d_R_dominates_11 : decode b_R_dominates 11 = .ok (.getfield 43, 3) := by decide +kernel
theorem d_R_dominates_14 : decode b_R_dominates 14 = .ok (.iload 4, 2) := by decide +kernel
theorem d_R_dominates_16 : decode b_R_dominates 16 = .ok (.iload 4, 2) := by decide +kernel
theorem d_R_dominates_18 : decode b_R_dominates 18 = .ok (.ifCond .ne (11), 3) := by decide +kernel
theorem d_R_dominates_21 : decode b_R_dominates 21 = .ok (.iload_n 2, 1) := by decide +kernel
theorem d_R_dominates_22 : decode b_R_dominates 22 = .ok (.ifCond .eq (7), 3) := by decide +kernel
theorem d_R_dominates_25 : decode b_R_dominates 25 = .ok (.iconst 1, 1) := by decide +kernel
theorem d_R_dominates_26 : decode b_R_dominates 26 = .ok (.goto (4), 3) := by decide +kernel
theorem d_R_dominates_29 : decode b_R_dominates 29 = .ok (.iconst 0, 1) := by decide +kernel
theorem d_R_dominates_30 : decode b_R_dominates 30 = .ok (.bastore, 1) := by decide +kernel
theorem d_R_dominates_31 : decode b_R_dominates 31 = .ok (.iinc 4 (1), 3) := by decide +kernel
theorem d_R_dominates_34 : decode b_R_dominates 34 = .ok (.goto (-31), 3) := by decide +kernel
theorem d_R_dominates_37 : decode b_R_dominates 37 = .ok (.iconst 0, 1) := by decide +kernel
theorem d_R_dominates_38 : decode b_R_dominates 38 = .ok (.istore 4, 2) := by decide +kernel
theorem d_R_dominates_40 : decode b_R_dominates 40 = .ok (.iload 4, 2) := by decide +kernel
theorem d_R_dominates_42 : decode b_R_dominates 42 = .ok (.bipush (25), 2) := by decide +kernel
theorem d_R_dominates_44 : decode b_R_dominates 44 = .ok (.if_icmp .ge (159), 3) := by decide +kernel
theorem d_R_dominates_47 : decode b_R_dominates 47 = .ok (.iconst 0, 1) := by decide +kernel
theorem d_R_dominates_48 : decode b_R_dominates 48 = .ok (.istore 5, 2) := by decide +kernel
theorem d_R_dominates_50 : decode b_R_dominates 50 = .ok (.iload 5, 2) := by decide +kernel
theorem d_R_dominates_52 : decode b_R_dominates 52 = .ok (.aload_n 0, 1) := by decide +kernel
theorem d_R_dominates_53 : decode b_R_dominates 53 = .ok (.getfield 13, 3) := by decide +kernel
theorem d_R_dominates_56 : decode b_R_dominates 56 = .ok (.iload_n 1, 1) := by decide +kernel
theorem d_R_dominates_57 : decode b_R_dominates 57 = .ok (.iaload, 1) := by decide +kernel
theorem d_R_dominates_58 : decode b_R_dominates 58 = .ok (.if_icmp .ge (139), 3) := by decide +kernel
theorem d_R_dominates_61 : decode b_R_dominates 61 = .ok (.aload_n 0, 1) := by decide +kernel
theorem d_R_dominates_62 : decode b_R_dominates 62 = .ok (.getfield 16, 3) := by decide +kernel
theorem d_R_dominates_65 : decode b_R_dominates 65 = .ok (.bipush (24), 2) := by decide +kernel
theorem d_R_dominates_67 : decode b_R_dominates 67 = .ok (.iload_n 1, 1) := by decide +kernel
theorem d_R_dominates_68 : decode b_R_dominates 68 = .ok (.imul, 1) := by decide +kernel
theorem d_R_dominates_69 : decode b_R_dominates 69 = .ok (.iload 5, 2) := by decide +kernel
theorem d_R_dominates_71 : decode b_R_dominates 71 = .ok (.iadd, 1) := by decide +kernel
theorem d_R_dominates_72 : decode b_R_dominates 72 = .ok (.iaload, 1) := by decide +kernel
theorem d_R_dominates_73 : decode b_R_dominates 73 = .ok (.istore 6, 2) := by decide +kernel
theorem d_R_dominates_75 : decode b_R_dominates 75 = .ok (.aload_n 0, 1) := by decide +kernel
theorem d_R_dominates_76 : decode b_R_dominates 76 = .ok (.getfield 28, 3) := by decide +kernel
theorem d_R_dominates_79 : decode b_R_dominates 79 = .ok (.bipush (24), 2) := by decide +kernel
theorem d_R_dominates_81 : decode b_R_dominates 81 = .ok (.iload_n 1, 1) := by decide +kernel
theorem d_R_dominates_82 : decode b_R_dominates 82 = .ok (.imul, 1) := by decide +kernel
theorem d_R_dominates_83 : decode b_R_dominates 83 = .ok (.iload 5, 2) := by decide +kernel
theorem d_R_dominates_85 : decode b_R_dominates 85 = .ok (.iadd, 1) := by decide +kernel
theorem d_R_dominates_86 : decode b_R_dominates 86 = .ok (.iaload, 1) := by decide +kernel
theorem d_R_dominates_87 : decode b_R_dominates 87 = .ok (.istore 7, 2) := by decide +kernel
theorem d_R_dominates_89 : decode b_R_dominates 89 = .ok (.aload_n 0, 1) := by decide +kernel
theorem d_R_dominates_90 : decode b_R_dominates 90 = .ok (.getfield 43, 3) := by decide +kernel
theorem d_R_dominates_93 : decode b_R_dominates 93 = .ok (.iload 5, 2) := by decide +kernel
theorem d_R_dominates_95 : decode b_R_dominates 95 = .ok (.baload, 1) := by decide +kernel
theorem d_R_dominates_96 : decode b_R_dominates 96 = .ok (.ifCond .eq (13), 3) := by decide +kernel
theorem d_R_dominates_99 : decode b_R_dominates 99 = .ok (.iload 5, 2) := by decide +kernel
theorem d_R_dominates_101 : decode b_R_dominates 101 = .ok (.iload_n 2, 1) := by decide +kernel
theorem d_R_dominates_102 : decode b_R_dominates 102 = .ok (.if_icmp .eq (7), 3) := by decide +kernel
theorem d_R_dominates_105 : decode b_R_dominates 105 = .ok (.iconst 1, 1) := by decide +kernel
theorem d_R_dominates_106 : decode b_R_dominates 106 = .ok (.goto (4), 3) := by decide +kernel
theorem d_R_dominates_109 : decode b_R_dominates 109 = .ok (.iconst 0, 1) := by decide +kernel
theorem d_R_dominates_110 : decode b_R_dominates 110 = .ok (.istore 8, 2) := by decide +kernel
theorem d_R_dominates_112 : decode b_R_dominates 112 = .ok (.iload 8, 2) := by decide +kernel
theorem d_R_dominates_114 : decode b_R_dominates 114 = .ok (.ifCond .eq (35), 3) := by decide +kernel
theorem d_R_dominates_117 : decode b_R_dominates 117 = .ok (.iload 6, 2) := by decide +kernel
theorem d_R_dominates_119 : decode b_R_dominates 119 = .ok (.bipush (14), 2) := by decide +kernel
theorem d_R_dominates_121 : decode b_R_dominates 121 = .ok (.if_icmp .eq (10), 3) := by decide +kernel
theorem d_R_dominates_124 : decode b_R_dominates 124 = .ok (.iload 6, 2) := by decide +kernel
theorem d_R_dominates_126 : decode b_R_dominates 126 = .ok (.bipush (15), 2) := by decide +kernel
theorem d_R_dominates_128 : decode b_R_dominates 128 = .ok (.if_icmp .ne (21), 3) := by decide +kernel
theorem d_R_dominates_131 : decode b_R_dominates 131 = .ok (.aload_n 0, 1) := by decide +kernel
theorem d_R_dominates_132 : decode b_R_dominates 132 = .ok (.iload_n 1, 1) := by decide +kernel
theorem d_R_dominates_133 : decode b_R_dominates 133 = .ok (.iload 7, 2) := by decide +kernel
theorem d_R_dominates_135 : decode b_R_dominates 135 = .ok (.invokevirtual 128, 3) := by decide +kernel
theorem d_R_dominates_138 : decode b_R_dominates 138 = .ok (.ifCond .eq (11), 3) := by decide +kernel
theorem d_R_dominates_141 : decode b_R_dominates 141 = .ok (.aload_n 0, 1) := by decide +kernel
theorem d_R_dominates_142 : decode b_R_dominates 142 = .ok (.getfield 43, 3) := by decide +kernel
theorem d_R_dominates_145 : decode b_R_dominates 145 = .ok (.iload 7, 2) := by decide +kernel
theorem d_R_dominates_147 : decode b_R_dominates 147 = .ok (.iconst 1, 1) := by decide +kernel
theorem d_R_dominates_148 : decode b_R_dominates 148 = .ok (.bastore, 1) := by decide +kernel
theorem d_R_dominates_149 : decode b_R_dominates 149 = .ok (.iload 8, 2) := by decide +kernel
theorem d_R_dominates_151 : decode b_R_dominates 151 = .ok (.ifCond .eq (40), 3) := by decide +kernel
theorem d_R_dominates_154 : decode b_R_dominates 154 = .ok (.iload 6, 2) := by decide +kernel
theorem d_R_dominates_156 : decode b_R_dominates 156 = .ok (.bipush (14), 2) := by decide +kernel
theorem d_R_dominates_158 : decode b_R_dominates 158 = .ok (.if_icmp .eq (33), 3) := by decide +kernel
theorem d_R_dominates_161 : decode b_R_dominates 161 = .ok (.iload 6, 2) := by decide +kernel
theorem d_R_dominates_163 : decode b_R_dominates 163 = .ok (.bipush (17), 2) := by decide +kernel
theorem d_R_dominates_165 : decode b_R_dominates 165 = .ok (.if_icmp .eq (26), 3) := by decide +kernel
theorem d_R_dominates_168 : decode b_R_dominates 168 = .ok (.iload 5, 2) := by decide +kernel
theorem d_R_dominates_170 : decode b_R_dominates 170 = .ok (.iconst 1, 1) := by decide +kernel
theorem d_R_dominates_171 : decode b_R_dominates 171 = .ok (.iadd, 1) := by decide +kernel
theorem d_R_dominates_172 : decode b_R_dominates 172 = .ok (.aload_n 0, 1) := by decide +kernel
theorem d_R_dominates_173 : decode b_R_dominates 173 = .ok (.getfield 13, 3) := by decide +kernel
theorem d_R_dominates_176 : decode b_R_dominates 176 = .ok (.iload_n 1, 1) := by decide +kernel
theorem d_R_dominates_177 : decode b_R_dominates 177 = .ok (.iaload, 1) := by decide +kernel
theorem d_R_dominates_178 : decode b_R_dominates 178 = .ok (.if_icmp .ge (13), 3) := by decide +kernel
theorem d_R_dominates_181 : decode b_R_dominates 181 = .ok (.aload_n 0, 1) := by decide +kernel
theorem d_R_dominates_182 : decode b_R_dominates 182 = .ok (.getfield 43, 3) := by decide +kernel
theorem d_R_dominates_185 : decode b_R_dominates 185 = .ok (.iload 5, 2) := by decide +kernel
theorem d_R_dominates_187 : decode b_R_dominates 187 = .ok (.iconst 1, 1) := by decide +kernel
theorem d_R_dominates_188 : decode b_R_dominates 188 = .ok (.iadd, 1) := by decide +kernel
theorem d_R_dominates_189 : decode b_R_dominates 189 = .ok (.iconst 1, 1) := by decide +kernel
theorem d_R_dominates_190 : decode b_R_dominates 190 = .ok (.bastore, 1) := by decide +kernel
theorem d_R_dominates_191 : decode b_R_dominates 191 = .ok (.iinc 5 (1), 3) := by decide +kernel
theorem d_R_dominates_194 : decode b_R_dominates 194 = .ok (.goto (-144), 3) := by decide +kernel
theorem d_R_dominates_197 : decode b_R_dominates 197 = .ok (.iinc 4 (1), 3) := by decide +kernel
theorem d_R_dominates_200 : decode b_R_dominates 200 = .ok (.goto (-160), 3) := by decide +kernel
theorem d_R_dominates_203 : decode b_R_dominates 203 = .ok (.iload_n 2, 1) := by decide +kernel
theorem d_R_dominates_204 : decode b_R_dominates 204 = .ok (.iload_n 3, 1) := by decide +kernel
theorem d_R_dominates_205 : decode b_R_dominates 205 = .ok (.if_icmp .eq (12), 3) := by decide +kernel
theorem d_R_dominates_208 : decode b_R_dominates 208 = .ok (.aload_n 0, 1) := by decide +kernel
theorem d_R_dominates_209 : decode b_R_dominates 209 = .ok (.getfield 43, 3) := by decide +kernel
theorem d_R_dominates_212 : decode b_R_dominates 212 = .ok (.iload_n 3, 1) := by decide +kernel
theorem d_R_dominates_213 : decode b_R_dominates 213 = .ok (.baload, 1) := by decide +kernel
theorem d_R_dominates_214 : decode b_R_dominates 214 = .ok (.ifCond .ne (7), 3) := by decide +kernel
theorem d_R_dominates_217 : decode b_R_dominates 217 = .ok (.iconst 1, 1) := by decide +kernel
theorem d_R_dominates_218 : decode b_R_dominates 218 = .ok (.goto (4), 3) := by decide +kernel
theorem d_R_dominates_221 : decode b_R_dominates 221 = .ok (.iconst 0, 1) := by decide +kernel
theorem d_R_dominates_222 : decode b_R_dominates 222 = .ok (.ireturn, 1) := by decide +kernel
theorem d_R_isInstruction_0 : decode b_R_isInstruction 0 = .ok (.iload_n 1, 1) := by decide +kernel
theorem d_R_isInstruction_1 : decode b_R_isInstruction 1 = .ok (.invokestatic 81, 3) := by decide +kernel
theorem d_R_isInstruction_4 : decode b_R_isInstruction 4 = .ok (.ifCond .eq (21), 3) := by decide +kernel
theorem d_R_isInstruction_7 : decode b_R_isInstruction 7 = .ok (.iload_n 2, 1) := by decide +kernel
theorem d_R_isInstruction_8 : decode b_R_isInstruction 8 = .ok (.ifCond .lt (17), 3) := by decide +kernel
theorem d_R_isInstruction_11 : decode b_R_isInstruction 11 = .ok (.iload_n 2, 1) := by decide +kernel
theorem d_R_isInstruction_12 : decode b_R_isInstruction 12 = .ok (.aload_n 0, 1) := by decide +kernel
theorem d_R_isInstruction_13 : decode b_R_isInstruction 13 = .ok (.getfield 13, 3) := by decide +kernel
theorem d_R_isInstruction_16 : decode b_R_isInstruction 16 = .ok (.iload_n 1, 1) := by decide +kernel
theorem d_R_isInstruction_17 : decode b_R_isInstruction 17 = .ok (.iaload, 1) := by decide +kernel
theorem d_R_isInstruction_18 : decode b_R_isInstruction 18 = .ok (.if_icmp .ge (7), 3) := by decide +kernel
theorem d_R_isInstruction_21 : decode b_R_isInstruction 21 = .ok (.iconst 1, 1) := by decide +kernel
theorem d_R_isInstruction_22 : decode b_R_isInstruction 22 = .ok (.goto (4), 3) := by decide +kernel
theorem d_R_isInstruction_25 : decode b_R_isInstruction 25 = .ok (.iconst 0, 1) := by decide +kernel
theorem d_R_isInstruction_26 : decode b_R_isInstruction 26 = .ok (.ireturn, 1) := by decide +kernel
theorem d_R_pair_0 : decode b_R_pair 0 = .ok (.bipush (24), 2) := by decide +kernel
theorem d_R_pair_2 : decode b_R_pair 2 = .ok (.iload_n 1, 1) := by decide +kernel
theorem d_R_pair_3 : decode b_R_pair 3 = .ok (.imul, 1) := by decide +kernel
theorem d_R_pair_4 : decode b_R_pair 4 = .ok (.iload_n 2, 1) := by decide +kernel
theorem d_R_pair_5 : decode b_R_pair 5 = .ok (.iadd, 1) := by decide +kernel
theorem d_R_pair_6 : decode b_R_pair 6 = .ok (.istore 4, 2) := by decide +kernel
theorem d_R_pair_8 : decode b_R_pair 8 = .ok (.bipush (24), 2) := by decide +kernel
theorem d_R_pair_10 : decode b_R_pair 10 = .ok (.iload_n 1, 1) := by decide +kernel
theorem d_R_pair_11 : decode b_R_pair 11 = .ok (.imul, 1) := by decide +kernel
theorem d_R_pair_12 : decode b_R_pair 12 = .ok (.iload_n 3, 1) := by decide +kernel
theorem d_R_pair_13 : decode b_R_pair 13 = .ok (.iadd, 1) := by decide +kernel
theorem d_R_pair_14 : decode b_R_pair 14 = .ok (.istore 5, 2) := by decide +kernel
theorem d_R_pair_16 : decode b_R_pair 16 = .ok (.aload_n 0, 1) := by decide +kernel
theorem d_R_pair_17 : decode b_R_pair 17 = .ok (.getfield 16, 3) := by decide +kernel
theorem d_R_pair_20 : decode b_R_pair 20 = .ok (.iload 4, 2) := by decide +kernel
theorem d_R_pair_22 : decode b_R_pair 22 = .ok (.iaload, 1) := by decide +kernel
theorem d_R_pair_23 : decode b_R_pair 23 = .ok (.bipush (10), 2) := by decide +kernel
theorem d_R_pair_25 : decode b_R_pair 25 = .ok (.if_icmp .ne (32), 3) := by decide +kernel
theorem d_R_pair_28 : decode b_R_pair 28 = .ok (.aload_n 0, 1) := by decide +kernel
theorem d_R_pair_29 : decode b_R_pair 29 = .ok (.getfield 16, 3) := by decide +kernel
theorem d_R_pair_32 : decode b_R_pair 32 = .ok (.iload 5, 2) := by decide +kernel
theorem d_R_pair_34 : decode b_R_pair 34 = .ok (.iaload, 1) := by decide +kernel
theorem d_R_pair_35 : decode b_R_pair 35 = .ok (.bipush (11), 2) := by decide +kernel
theorem d_R_pair_37 : decode b_R_pair 37 = .ok (.if_icmp .ne (20), 3) := by decide +kernel
theorem d_R_pair_40 : decode b_R_pair 40 = .ok (.aload_n 0, 1) := by decide +kernel
theorem d_R_pair_41 : decode b_R_pair 41 = .ok (.getfield 19, 3) := by decide +kernel
theorem d_R_pair_44 : decode b_R_pair 44 = .ok (.iload 4, 2) := by decide +kernel
theorem d_R_pair_46 : decode b_R_pair 46 = .ok (.iaload, 1) := by decide +kernel
theorem d_R_pair_47 : decode b_R_pair 47 = .ok (.aload_n 0, 1) := by decide +kernel
theorem d_R_pair_48 : decode b_R_pair 48 = .ok (.getfield 19, 3) := by decide +kernel
theorem d_R_pair_51 : decode b_R_pair 51 = .ok (.iload 5, 2) := by decide +kernel
theorem d_R_pair_53 : decode b_R_pair 53 = .ok (.iaload, 1) := by decide +kernel
theorem d_R_pair_54 : decode b_R_pair 54 = .ok (.if_icmp .eq (5), 3) := by decide +kernel
theorem d_R_pair_57 : decode b_R_pair 57 = .ok (.iconst 0, 1) := by decide +kernel
theorem d_R_pair_58 : decode b_R_pair 58 = .ok (.ireturn, 1) := by decide +kernel
theorem d_R_pair_59 : decode b_R_pair 59 = .ok (.aload_n 0, 1) := by decide +kernel
theorem d_R_pair_60 : decode b_R_pair 60 = .ok (.getfield 19, 3) := by decide +kernel
theorem d_R_pair_63 : decode b_R_pair 63 = .ok (.iload 4, 2) := by decide +kernel
theorem d_R_pair_65 : decode b_R_pair 65 = .ok (.iaload, 1) := by decide +kernel
theorem d_R_pair_66 : decode b_R_pair 66 = .ok (.istore 6, 2) := by decide +kernel
theorem d_R_pair_68 : decode b_R_pair 68 = .ok (.aload_n 0, 1) := by decide +kernel
theorem d_R_pair_69 : decode b_R_pair 69 = .ok (.iload_n 1, 1) := by decide +kernel
theorem d_R_pair_70 : decode b_R_pair 70 = .ok (.iload 6, 2) := by decide +kernel
theorem d_R_pair_72 : decode b_R_pair 72 = .ok (.invokevirtual 135, 3) := by decide +kernel
theorem d_R_pair_75 : decode b_R_pair 75 = .ok (.istore 7, 2) := by decide +kernel
theorem d_R_pair_77 : decode b_R_pair 77 = .ok (.iload 7, 2) := by decide +kernel
theorem d_R_pair_79 : decode b_R_pair 79 = .ok (.ifCond .lt (38), 3) := by decide +kernel
theorem d_R_pair_82 : decode b_R_pair 82 = .ok (.aload_n 0, 1) := by decide +kernel
theorem d_R_pair_83 : decode b_R_pair 83 = .ok (.iload_n 1, 1) := by decide +kernel
theorem d_R_pair_84 : decode b_R_pair 84 = .ok (.iload 6, 2) := by decide +kernel
theorem d_R_pair_86 : decode b_R_pair 86 = .ok (.invokevirtual 148, 3) := by decide +kernel
theorem d_R_pair_89 : decode b_R_pair 89 = .ok (.ifCond .ne (28), 3) := by decide +kernel
theorem d_R_pair_92 : decode b_R_pair 92 = .ok (.aload_n 0, 1) := by decide +kernel
theorem d_R_pair_93 : decode b_R_pair 93 = .ok (.iload_n 1, 1) := by decide +kernel
theorem d_R_pair_94 : decode b_R_pair 94 = .ok (.iload 7, 2) := by decide +kernel
theorem d_R_pair_96 : decode b_R_pair 96 = .ok (.invokevirtual 151, 3) := by decide +kernel
theorem d_R_pair_99 : decode b_R_pair 99 = .ok (.ifCond .ne (18), 3) := by decide +kernel
theorem d_R_pair_102 : decode b_R_pair 102 = .ok (.aload_n 0, 1) := by decide +kernel
theorem d_R_pair_103 : decode b_R_pair 103 = .ok (.iload_n 1, 1) := by decide +kernel
theorem d_R_pair_104 : decode b_R_pair 104 = .ok (.iload 7, 2) := by decide +kernel
theorem d_R_pair_106 : decode b_R_pair 106 = .ok (.iload_n 2, 1) := by decide +kernel
theorem d_R_pair_107 : decode b_R_pair 107 = .ok (.invokevirtual 145, 3) := by decide +kernel
theorem d_R_pair_110 : decode b_R_pair 110 = .ok (.ifCond .eq (7), 3) := by decide +kernel
theorem d_R_pair_113 : decode b_R_pair 113 = .ok (.iconst 1, 1) := by decide +kernel
theorem d_R_pair_114 : decode b_R_pair 114 = .ok (.goto (4), 3) := by decide +kernel
theorem d_R_pair_117 : decode b_R_pair 117 = .ok (.iconst 0, 1) := by decide +kernel
theorem d_R_pair_118 : decode b_R_pair 118 = .ok (.istore 8, 2) := by decide +kernel
theorem d_R_pair_120 : decode b_R_pair 120 = .ok (.iload_n 2, 1) := by decide +kernel
theorem d_R_pair_121 : decode b_R_pair 121 = .ok (.iconst 1, 1) := by decide +kernel
theorem d_R_pair_122 : decode b_R_pair 122 = .ok (.iadd, 1) := by decide +kernel
theorem d_R_pair_123 : decode b_R_pair 123 = .ok (.istore 9, 2) := by decide +kernel
theorem d_R_pair_125 : decode b_R_pair 125 = .ok (.iload 9, 2) := by decide +kernel
theorem d_R_pair_127 : decode b_R_pair 127 = .ok (.iload_n 3, 1) := by decide +kernel
theorem d_R_pair_128 : decode b_R_pair 128 = .ok (.if_icmp .ge (82), 3) := by decide +kernel
theorem d_R_pair_131 : decode b_R_pair 131 = .ok (.aload_n 0, 1) := by decide +kernel
theorem d_R_pair_132 : decode b_R_pair 132 = .ok (.getfield 16, 3) := by decide +kernel
theorem d_R_pair_135 : decode b_R_pair 135 = .ok (.bipush (24), 2) := by decide +kernel
theorem d_R_pair_137 : decode b_R_pair 137 = .ok (.iload_n 1, 1) := by decide +kernel
theorem d_R_pair_138 : decode b_R_pair 138 = .ok (.imul, 1) := by decide +kernel
theorem d_R_pair_139 : decode b_R_pair 139 = .ok (.iload 9, 2) := by decide +kernel
theorem d_R_pair_141 : decode b_R_pair 141 = .ok (.iadd, 1) := by decide +kernel
theorem d_R_pair_142 : decode b_R_pair 142 = .ok (.iaload, 1) := by decide +kernel
theorem d_R_pair_143 : decode b_R_pair 143 = .ok (.istore 10, 2) := by decide +kernel
theorem d_R_pair_145 : decode b_R_pair 145 = .ok (.iload 8, 2) := by decide +kernel
theorem d_R_pair_147 : decode b_R_pair 147 = .ok (.ifCond .eq (54), 3) := by decide +kernel
theorem d_R_pair_150 : decode b_R_pair 150 = .ok (.iload 10, 2) := by decide +kernel
theorem d_R_pair_152 : decode b_R_pair 152 = .ok (.ifCond .eq (49), 3) := by decide +kernel
theorem d_R_pair_155 : decode b_R_pair 155 = .ok (.iload 10, 2) := by decide +kernel
theorem d_R_pair_157 : decode b_R_pair 157 = .ok (.bipush (10), 2) := by decide +kernel
theorem d_R_pair_159 : decode b_R_pair 159 = .ok (.if_icmp .eq (42), 3) := by decide +kernel
theorem d_R_pair_162 : decode b_R_pair 162 = .ok (.iload 10, 2) := by decide +kernel
theorem d_R_pair_164 : decode b_R_pair 164 = .ok (.bipush (11), 2) := by decide +kernel
theorem d_R_pair_166 : decode b_R_pair 166 = .ok (.if_icmp .eq (35), 3) := by decide +kernel
theorem d_R_pair_169 : decode b_R_pair 169 = .ok (.iload 10, 2) := by decide +kernel
theorem d_R_pair_171 : decode b_R_pair 171 = .ok (.bipush (14), 2) := by decide +kernel
theorem d_R_pair_173 : decode b_R_pair 173 = .ok (.if_icmp .eq (28), 3) := by decide +kernel
theorem d_R_pair_176 : decode b_R_pair 176 = .ok (.iload 10, 2) := by decide +kernel
theorem d_R_pair_178 : decode b_R_pair 178 = .ok (.bipush (15), 2) := by decide +kernel
theorem d_R_pair_180 : decode b_R_pair 180 = .ok (.if_icmp .eq (21), 3) := by decide +kernel
theorem d_R_pair_183 : decode b_R_pair 183 = .ok (.iload 10, 2) := by decide +kernel
theorem d_R_pair_185 : decode b_R_pair 185 = .ok (.bipush (17), 2) := by decide +kernel
theorem d_R_pair_187 : decode b_R_pair 187 = .ok (.if_icmp .eq (14), 3) := by decide +kernel
theorem d_R_pair_190 : decode b_R_pair 190 = .ok (.iload 10, 2) := by decide +kernel
theorem d_R_pair_192 : decode b_R_pair 192 = .ok (.bipush (16), 2) := by decide +kernel
theorem d_R_pair_194 : decode b_R_pair 194 = .ok (.if_icmp .eq (7), 3) := by decide +kernel
theorem d_R_pair_197 : decode b_R_pair 197 = .ok (.iconst 1, 1) := by decide +kernel
theorem d_R_pair_198 : decode b_R_pair 198 = .ok (.goto (4), 3) := by decide +kernel
theorem d_R_pair_201 : decode b_R_pair 201 = .ok (.iconst 0, 1) := by decide +kernel
theorem d_R_pair_202 : decode b_R_pair 202 = .ok (.istore 8, 2) := by decide +kernel
theorem d_R_pair_204 : decode b_R_pair 204 = .ok (.iinc 9 (1), 3) := by decide +kernel
theorem d_R_pair_207 : decode b_R_pair 207 = .ok (.goto (-82), 3) := by decide +kernel
theorem d_R_pair_210 : decode b_R_pair 210 = .ok (.iconst 0, 1) := by decide +kernel
theorem d_R_pair_211 : decode b_R_pair 211 = .ok (.istore 9, 2) := by decide +kernel
theorem d_R_pair_213 : decode b_R_pair 213 = .ok (.iload 9, 2) := by decide +kernel
theorem d_R_pair_215 : decode b_R_pair 215 = .ok (.aload_n 0, 1) := by decide +kernel
theorem d_R_pair_216 : decode b_R_pair 216 = .ok (.getfield 13, 3) := by decide +kernel
theorem d_R_pair_219 : decode b_R_pair 219 = .ok (.iload_n 1, 1) := by decide +kernel
theorem d_R_pair_220 : decode b_R_pair 220 = .ok (.iaload, 1) := by decide +kernel
theorem d_R_pair_221 : decode b_R_pair 221 = .ok (.if_icmp .ge (75), 3) := by decide +kernel
theorem d_R_pair_224 : decode b_R_pair 224 = .ok (.aload_n 0, 1) := by decide +kernel
theorem d_R_pair_225 : decode b_R_pair 225 = .ok (.getfield 16, 3) := by decide +kernel
theorem d_R_pair_228 : decode b_R_pair 228 = .ok (.bipush (24), 2) := by decide +kernel
theorem d_R_pair_230 : decode b_R_pair 230 = .ok (.iload_n 1, 1) := by decide +kernel
theorem d_R_pair_231 : decode b_R_pair 231 = .ok (.imul, 1) := by decide +kernel
theorem d_R_pair_232 : decode b_R_pair 232 = .ok (.iload 9, 2) := by decide +kernel
theorem d_R_pair_234 : decode b_R_pair 234 = .ok (.iadd, 1) := by decide +kernel
theorem d_R_pair_235 : decode b_R_pair 235 = .ok (.iaload, 1) := by decide +kernel
theorem d_R_pair_236 : decode b_R_pair 236 = .ok (.istore 10, 2) := by decide +kernel
theorem d_R_pair_238 : decode b_R_pair 238 = .ok (.aload_n 0, 1) := by decide +kernel
theorem d_R_pair_239 : decode b_R_pair 239 = .ok (.getfield 28, 3) := by decide +kernel
theorem d_R_pair_242 : decode b_R_pair 242 = .ok (.bipush (24), 2) := by decide +kernel
theorem d_R_pair_244 : decode b_R_pair 244 = .ok (.iload_n 1, 1) := by decide +kernel
theorem d_R_pair_245 : decode b_R_pair 245 = .ok (.imul, 1) := by decide +kernel
theorem d_R_pair_246 : decode b_R_pair 246 = .ok (.iload 9, 2) := by decide +kernel
theorem d_R_pair_248 : decode b_R_pair 248 = .ok (.iadd, 1) := by decide +kernel
theorem d_R_pair_249 : decode b_R_pair 249 = .ok (.iaload, 1) := by decide +kernel
theorem d_R_pair_250 : decode b_R_pair 250 = .ok (.istore 11, 2) := by decide +kernel
theorem d_R_pair_252 : decode b_R_pair 252 = .ok (.iload 8, 2) := by decide +kernel
theorem d_R_pair_254 : decode b_R_pair 254 = .ok (.ifCond .eq (33), 3) := by decide +kernel
theorem d_R_pair_257 : decode b_R_pair 257 = .ok (.iload 10, 2) := by decide +kernel
theorem d_R_pair_259 : decode b_R_pair 259 = .ok (.bipush (14), 2) := by decide +kernel
theorem d_R_pair_261 : decode b_R_pair 261 = .ok (.if_icmp .eq (10), 3) := by decide +kernel
theorem d_R_pair_264 : decode b_R_pair 264 = .ok (.iload 10, 2) := by decide +kernel
theorem d_R_pair_266 : decode b_R_pair 266 = .ok (.bipush (15), 2) := by decide +kernel
theorem d_R_pair_268 : decode b_R_pair 268 = .ok (.if_icmp .ne (15), 3) := by decide +kernel
theorem d_R_pair_271 : decode b_R_pair 271 = .ok (.iload 11, 2) := by decide +kernel
theorem d_R_pair_273 : decode b_R_pair 273 = .ok (.iload_n 2, 1) := by decide +kernel
theorem d_R_pair_274 : decode b_R_pair 274 = .ok (.if_icmp .le (9), 3) := by decide +kernel
theorem d_R_pair_277 : decode b_R_pair 277 = .ok (.iload 11, 2) := by decide +kernel
theorem d_R_pair_279 : decode b_R_pair 279 = .ok (.iload_n 3, 1) := by decide +kernel
theorem d_R_pair_280 : decode b_R_pair 280 = .ok (.if_icmp .le (7), 3) := by decide +kernel
theorem d_R_pair_283 : decode b_R_pair 283 = .ok (.iconst 1, 1) := by decide +kernel
theorem d_R_pair_284 : decode b_R_pair 284 = .ok (.goto (4), 3) := by decide +kernel
theorem d_R_pair_287 : decode b_R_pair 287 = .ok (.iconst 0, 1) := by decide +kernel
theorem d_R_pair_288 : decode b_R_pair 288 = .ok (.istore 8, 2) := by decide +kernel
theorem d_R_pair_290 : decode b_R_pair 290 = .ok (.iinc 9 (1), 3) := by decide +kernel
theorem d_R_pair_293 : decode b_R_pair 293 = .ok (.goto (-80), 3) := by decide +kernel
theorem d_R_pair_296 : decode b_R_pair 296 = .ok (.iload 8, 2) := by decide +kernel
theorem d_R_pair_298 : decode b_R_pair 298 = .ok (.ireturn, 1) := by decide +kernel
theorem d_R_escapeOf_0 : decode b_R_escapeOf 0 = .ok (.aload_n 0, 1) := by decide +kernel
theorem d_R_escapeOf_1 : decode b_R_escapeOf 1 = .ok (.iload_n 1, 1) := by decide +kernel
theorem d_R_escapeOf_2 : decode b_R_escapeOf 2 = .ok (.ldc 92, 2) := by decide +kernel
theorem d_R_escapeOf_4 : decode b_R_escapeOf 4 = .ok (.invokevirtual 93, 3) := by decide +kernel
theorem d_R_escapeOf_7 : decode b_R_escapeOf 7 = .ok (.istore_n 3, 1) := by decide +kernel
theorem d_R_escapeOf_8 : decode b_R_escapeOf 8 = .ok (.aload_n 0, 1) := by decide +kernel
theorem d_R_escapeOf_9 : decode b_R_escapeOf 9 = .ok (.iload_n 1, 1) := by decide +kernel
theorem d_R_escapeOf_10 : decode b_R_escapeOf 10 = .ok (.aload_n 0, 1) := by decide +kernel
theorem d_R_escapeOf_11 : decode b_R_escapeOf 11 = .ok (.iload_n 1, 1) := by decide +kernel
theorem d_R_escapeOf_12 : decode b_R_escapeOf 12 = .ok (.invokevirtual 125, 3) := by decide +kernel
theorem d_R_escapeOf_15 : decode b_R_escapeOf 15 = .ok (.aload_n 0, 1) := by decide +kernel
theorem d_R_escapeOf_16 : decode b_R_escapeOf 16 = .ok (.getfield 37, 3) := by decide +kernel
theorem d_R_escapeOf_19 : decode b_R_escapeOf 19 = .ok (.iload_n 1, 1) := by decide +kernel
theorem d_R_escapeOf_20 : decode b_R_escapeOf 20 = .ok (.iaload, 1) := by decide +kernel
theorem d_R_escapeOf_21 : decode b_R_escapeOf 21 = .ok (.ior, 1) := by decide +kernel
theorem d_R_escapeOf_22 : decode b_R_escapeOf 22 = .ok (.invokevirtual 93, 3) := by decide +kernel
theorem d_R_escapeOf_25 : decode b_R_escapeOf 25 = .ok (.istore 4, 2) := by decide +kernel
theorem d_R_escapeOf_27 : decode b_R_escapeOf 27 = .ok (.iload_n 3, 1) := by decide +kernel
theorem d_R_escapeOf_28 : decode b_R_escapeOf 28 = .ok (.iload_n 2, 1) := by decide +kernel
theorem d_R_escapeOf_29 : decode b_R_escapeOf 29 = .ok (.ishr, 1) := by decide +kernel
theorem d_R_escapeOf_30 : decode b_R_escapeOf 30 = .ok (.iconst 1, 1) := by decide +kernel
theorem d_R_escapeOf_31 : decode b_R_escapeOf 31 = .ok (.iand, 1) := by decide +kernel
theorem d_R_escapeOf_32 : decode b_R_escapeOf 32 = .ok (.iconst 1, 1) := by decide +kernel
theorem d_R_escapeOf_33 : decode b_R_escapeOf 33 = .ok (.if_icmp .ne (7), 3) := by decide +kernel
theorem d_R_escapeOf_36 : decode b_R_escapeOf 36 = .ok (.iconst 2, 1) := by decide +kernel
theorem d_R_escapeOf_37 : decode b_R_escapeOf 37 = .ok (.goto (9), 3) := by decide +kernel
theorem d_R_escapeOf_40 : decode b_R_escapeOf 40 = .ok (.iload 4, 2) := by decide +kernel
theorem d_R_escapeOf_42 : decode b_R_escapeOf 42 = .ok (.iload_n 2, 1) := by decide +kernel
theorem d_R_escapeOf_43 : decode b_R_escapeOf 43 = .ok (.ishr, 1) := by decide +kernel
theorem d_R_escapeOf_44 : decode b_R_escapeOf 44 = .ok (.iconst 1, 1) := by decide +kernel
theorem d_R_escapeOf_45 : decode b_R_escapeOf 45 = .ok (.iand, 1) := by decide +kernel
theorem d_R_escapeOf_46 : decode b_R_escapeOf 46 = .ok (.ireturn, 1) := by decide +kernel
theorem d_R_argsOf_0 : decode b_R_argsOf 0 = .ok (.aload_n 0, 1) := by decide +kernel
theorem d_R_argsOf_1 : decode b_R_argsOf 1 = .ok (.getfield 7, 3) := by decide +kernel
theorem d_R_argsOf_4 : decode b_R_argsOf 4 = .ok (.iload_n 1, 1) := by decide +kernel
theorem d_R_argsOf_5 : decode b_R_argsOf 5 = .ok (.iaload, 1) := by decide +kernel
theorem d_R_argsOf_6 : decode b_R_argsOf 6 = .ok (.ifCond .ne (7), 3) := by decide +kernel
theorem d_R_argsOf_9 : decode b_R_argsOf 9 = .ok (.iconst 0, 1) := by decide +kernel
theorem d_R_argsOf_10 : decode b_R_argsOf 10 = .ok (.goto (20), 3) := by decide +kernel
theorem d_R_argsOf_13 : decode b_R_argsOf 13 = .ok (.aload_n 0, 1) := by decide +kernel
theorem d_R_argsOf_14 : decode b_R_argsOf 14 = .ok (.getfield 7, 3) := by decide +kernel
theorem d_R_argsOf_17 : decode b_R_argsOf 17 = .ok (.iload_n 1, 1) := by decide +kernel
theorem d_R_argsOf_18 : decode b_R_argsOf 18 = .ok (.iaload, 1) := by decide +kernel
theorem d_R_argsOf_19 : decode b_R_argsOf 19 = .ok (.iconst 1, 1) := by decide +kernel
theorem d_R_argsOf_20 : decode b_R_argsOf 20 = .ok (.if_icmp .ne (8), 3) := by decide +kernel
theorem d_R_argsOf_23 : decode b_R_argsOf 23 = .ok (.ldc 112, 2) := by decide +kernel
theorem d_R_argsOf_25 : decode b_R_argsOf 25 = .ok (.goto (5), 3) := by decide +kernel
theorem d_R_argsOf_28 : decode b_R_argsOf 28 = .ok (.ldc 113, 2) := by decide +kernel
theorem d_R_argsOf_30 : decode b_R_argsOf 30 = .ok (.ireturn, 1) := by decide +kernel
theorem d_R_enter_0 : decode b_R_enter 0 = .ok (.aload_n 0, 1) := by decide +kernel
theorem d_R_enter_1 : decode b_R_enter 1 = .ok (.getfield 157, 3) := by decide +kernel
theorem d_R_enter_4 : decode b_R_enter 4 = .ok (.istore 5, 2) := by decide +kernel
theorem d_R_enter_6 : decode b_R_enter 6 = .ok (.aload_n 0, 1) := by decide +kernel
theorem d_R_enter_7 : decode b_R_enter 7 = .ok (.getfield 47, 3) := by decide +kernel
theorem d_R_enter_10 : decode b_R_enter 10 = .ok (.iload 5, 2) := by decide +kernel
theorem d_R_enter_12 : decode b_R_enter 12 = .ok (.iload_n 1, 1) := by decide +kernel
theorem d_R_enter_13 : decode b_R_enter 13 = .ok (.iastore, 1) := by decide +kernel
theorem d_R_enter_14 : decode b_R_enter 14 = .ok (.aload_n 0, 1) := by decide +kernel
theorem d_R_enter_15 : decode b_R_enter 15 = .ok (.getfield 50, 3) := by decide +kernel
theorem d_R_enter_18 : decode b_R_enter 18 = .ok (.iload 5, 2) := by decide +kernel
theorem d_R_enter_20 : decode b_R_enter 20 = .ok (.iconst 0, 1) := by decide +kernel
theorem d_R_enter_21 : decode b_R_enter 21 = .ok (.iastore, 1) := by decide +kernel
theorem d_R_enter_22 : decode b_R_enter 22 = .ok (.aload_n 0, 1) := by decide +kernel
theorem d_R_enter_23 : decode b_R_enter 23 = .ok (.getfield 53, 3) := by decide +kernel
theorem d_R_enter_26 : decode b_R_enter 26 = .ok (.iload 5, 2) := by decide +kernel
theorem d_R_enter_28 : decode b_R_enter 28 = .ok (.iload_n 2, 1) := by decide +kernel
theorem d_R_enter_29 : decode b_R_enter 29 = .ok (.iastore, 1) := by decide +kernel
theorem d_R_enter_30 : decode b_R_enter 30 = .ok (.iconst 0, 1) := by decide +kernel
theorem d_R_enter_31 : decode b_R_enter 31 = .ok (.istore 6, 2) := by decide +kernel
theorem d_R_enter_33 : decode b_R_enter 33 = .ok (.iload 6, 2) := by decide +kernel
theorem d_R_enter_35 : decode b_R_enter 35 = .ok (.iconst 4, 1) := by decide +kernel
theorem d_R_enter_36 : decode b_R_enter 36 = .ok (.if_icmp .ge (35), 3) := by decide +kernel
theorem d_R_enter_39 : decode b_R_enter 39 = .ok (.aload_n 0, 1) := by decide +kernel
theorem d_R_enter_40 : decode b_R_enter 40 = .ok (.getfield 56, 3) := by decide +kernel
theorem d_R_enter_43 : decode b_R_enter 43 = .ok (.iconst 4, 1) := by decide +kernel
theorem d_R_enter_44 : decode b_R_enter 44 = .ok (.iload 5, 2) := by decide +kernel
theorem d_R_enter_46 : decode b_R_enter 46 = .ok (.imul, 1) := by decide +kernel
theorem d_R_enter_47 : decode b_R_enter 47 = .ok (.iload 6, 2) := by decide +kernel
theorem d_R_enter_49 : decode b_R_enter 49 = .ok (.iadd, 1) := by decide +kernel
theorem d_R_enter_50 : decode b_R_enter 50 = .ok (.iconst 0, 1) := by decide +kernel
theorem d_R_enter_51 : decode b_R_enter 51 = .ok (.iastore, 1) := by decide +kernel
theorem d_R_enter_52 : decode b_R_enter 52 = .ok (.aload_n 0, 1) := by decide +kernel
theorem d_R_enter_53 : decode b_R_enter 53 = .ok (.getfield 59, 3) := by decide +kernel
theorem d_R_enter_56 : decode b_R_enter 56 = .ok (.iconst 4, 1) := by decide +kernel
theorem d_R_enter_57 : decode b_R_enter 57 = .ok (.iload 5, 2) := by decide +kernel
theorem d_R_enter_59 : decode b_R_enter 59 = .ok (.imul, 1) := by decide +kernel
theorem d_R_enter_60 : decode b_R_enter 60 = .ok (.iload 6, 2) := by decide +kernel
theorem d_R_enter_62 : decode b_R_enter 62 = .ok (.iadd, 1) := by decide +kernel
theorem d_R_enter_63 : decode b_R_enter 63 = .ok (.iconst 0, 1) := by decide +kernel
theorem d_R_enter_64 : decode b_R_enter 64 = .ok (.iastore, 1) := by decide +kernel
theorem d_R_enter_65 : decode b_R_enter 65 = .ok (.iinc 6 (1), 3) := by decide +kernel
theorem d_R_enter_68 : decode b_R_enter 68 = .ok (.goto (-35), 3) := by decide +kernel
theorem d_R_enter_71 : decode b_R_enter 71 = .ok (.aload_n 0, 1) := by decide +kernel
theorem d_R_enter_72 : decode b_R_enter 72 = .ok (.getfield 56, 3) := by decide +kernel
theorem d_R_enter_75 : decode b_R_enter 75 = .ok (.iconst 4, 1) := by decide +kernel
theorem d_R_enter_76 : decode b_R_enter 76 = .ok (.iload 5, 2) := by decide +kernel
theorem d_R_enter_78 : decode b_R_enter 78 = .ok (.imul, 1) := by decide +kernel
theorem d_R_enter_79 : decode b_R_enter 79 = .ok (.aload_n 0, 1) := by decide +kernel
theorem d_R_enter_80 : decode b_R_enter 80 = .ok (.getfield 7, 3) := by decide +kernel
theorem d_R_enter_83 : decode b_R_enter 83 = .ok (.iload_n 1, 1) := by decide +kernel
theorem d_R_enter_84 : decode b_R_enter 84 = .ok (.iaload, 1) := by decide +kernel
theorem d_R_enter_85 : decode b_R_enter 85 = .ok (.ifCond .le (7), 3) := by decide +kernel
theorem d_R_enter_88 : decode b_R_enter 88 = .ok (.iload_n 3, 1) := by decide +kernel
theorem d_R_enter_89 : decode b_R_enter 89 = .ok (.goto (4), 3) := by decide +kernel
theorem d_R_enter_92 : decode b_R_enter 92 = .ok (.iconst 0, 1) := by decide +kernel
theorem d_R_enter_93 : decode b_R_enter 93 = .ok (.iastore, 1) := by decide +kernel
theorem d_R_enter_94 : decode b_R_enter 94 = .ok (.aload_n 0, 1) := by decide +kernel
theorem d_R_enter_95 : decode b_R_enter 95 = .ok (.getfield 56, 3) := by decide +kernel
theorem d_R_enter_98 : decode b_R_enter 98 = .ok (.iconst 4, 1) := by decide +kernel
theorem d_R_enter_99 : decode b_R_enter 99 = .ok (.iload 5, 2) := by decide +kernel
theorem d_R_enter_101 : decode b_R_enter 101 = .ok (.imul, 1) := by decide +kernel
theorem d_R_enter_102 : decode b_R_enter 102 = .ok (.iconst 1, 1) := by decide +kernel
theorem d_R_enter_103 : decode b_R_enter 103 = .ok (.iadd, 1) := by decide +kernel
theorem d_R_enter_104 : decode b_R_enter 104 = .ok (.aload_n 0, 1) := by decide +kernel
theorem d_R_enter_105 : decode b_R_enter 105 = .ok (.getfield 7, 3) := by decide +kernel
theorem d_R_enter_108 : decode b_R_enter 108 = .ok (.iload_n 1, 1) := by decide +kernel
theorem d_R_enter_109 : decode b_R_enter 109 = .ok (.iaload, 1) := by decide +kernel
theorem d_R_enter_110 : decode b_R_enter 110 = .ok (.iconst 1, 1) := by decide +kernel
theorem d_R_enter_111 : decode b_R_enter 111 = .ok (.if_icmp .le (8), 3) := by decide +kernel
theorem d_R_enter_114 : decode b_R_enter 114 = .ok (.iload 4, 2) := by decide +kernel
theorem d_R_enter_116 : decode b_R_enter 116 = .ok (.goto (4), 3) := by decide +kernel
theorem d_R_enter_119 : decode b_R_enter 119 = .ok (.iconst 0, 1) := by decide +kernel
theorem d_R_enter_120 : decode b_R_enter 120 = .ok (.iastore, 1) := by decide +kernel
theorem d_R_enter_121 : decode b_R_enter 121 = .ok (.bipush (20), 2) := by decide +kernel
theorem d_R_enter_123 : decode b_R_enter 123 = .ok (.iload 5, 2) := by decide +kernel
theorem d_R_enter_125 : decode b_R_enter 125 = .ok (.imul, 1) := by decide +kernel
theorem d_R_enter_126 : decode b_R_enter 126 = .ok (.istore 6, 2) := by decide +kernel
theorem d_R_enter_128 : decode b_R_enter 128 = .ok (.iload 6, 2) := by decide +kernel
theorem d_R_enter_130 : decode b_R_enter 130 = .ok (.bipush (20), 2) := by decide +kernel
theorem d_R_enter_132 : decode b_R_enter 132 = .ok (.iload 5, 2) := by decide +kernel
theorem d_R_enter_134 : decode b_R_enter 134 = .ok (.imul, 1) := by decide +kernel
theorem d_R_enter_135 : decode b_R_enter 135 = .ok (.bipush (20), 2) := by decide +kernel
theorem d_R_enter_137 : decode b_R_enter 137 = .ok (.iadd, 1) := by decide +kernel
theorem d_R_enter_138 : decode b_R_enter 138 = .ok (.if_icmp .ge (17), 3) := by decide +kernel
theorem d_R_enter_141 : decode b_R_enter 141 = .ok (.aload_n 0, 1) := by decide +kernel
theorem d_R_enter_142 : decode b_R_enter 142 = .ok (.getfield 62, 3) := by decide +kernel
theorem d_R_enter_145 : decode b_R_enter 145 = .ok (.iload 6, 2) := by decide +kernel
theorem d_R_enter_147 : decode b_R_enter 147 = .ok (.iconst 0, 1) := by decide +kernel
theorem d_R_enter_148 : decode b_R_enter 148 = .ok (.iastore, 1) := by decide +kernel
theorem d_R_enter_149 : decode b_R_enter 149 = .ok (.iinc 6 (1), 3) := by decide +kernel
theorem d_R_enter_152 : decode b_R_enter 152 = .ok (.goto (-24), 3) := by decide +kernel
theorem d_R_enter_155 : decode b_R_enter 155 = .ok (.aload_n 0, 1) := by decide +kernel
theorem d_R_enter_156 : decode b_R_enter 156 = .ok (.dup, 1) := by decide +kernel
theorem d_R_enter_157 : decode b_R_enter 157 = .ok (.getfield 157, 3) := by decide +kernel
theorem d_R_enter_160 : decode b_R_enter 160 = .ok (.iconst 1, 1) := by decide +kernel
theorem d_R_enter_161 : decode b_R_enter 161 = .ok (.iadd, 1) := by decide +kernel
theorem d_R_enter_162 : decode b_R_enter 162 = .ok (.putfield 157, 3) := by decide +kernel
theorem d_R_enter_165 : decode b_R_enter 165 = .ok (.return_, 1) := by decide +kernel
theorem d_R_leave_0 : decode b_R_leave 0 = .ok (.aload_n 0, 1) := by decide +kernel
theorem d_R_leave_1 : decode b_R_leave 1 = .ok (.dup, 1) := by decide +kernel
theorem d_R_leave_2 : decode b_R_leave 2 = .ok (.getfield 157, 3) := by decide +kernel
theorem d_R_leave_5 : decode b_R_leave 5 = .ok (.iconst 1, 1) := by decide +kernel
theorem d_R_leave_6 : decode b_R_leave 6 = .ok (.isub, 1) := by decide +kernel
theorem d_R_leave_7 : decode b_R_leave 7 = .ok (.putfield 157, 3) := by decide +kernel
theorem d_R_leave_10 : decode b_R_leave 10 = .ok (.aload_n 0, 1) := by decide +kernel
theorem d_R_leave_11 : decode b_R_leave 11 = .ok (.getfield 157, 3) := by decide +kernel
theorem d_R_leave_14 : decode b_R_leave 14 = .ok (.ifCond .le (27), 3) := by decide +kernel
theorem d_R_leave_17 : decode b_R_leave 17 = .ok (.aload_n 0, 1) := by decide +kernel
theorem d_R_leave_18 : decode b_R_leave 18 = .ok (.getfield 56, 3) := by decide +kernel
theorem d_R_leave_21 : decode b_R_leave 21 = .ok (.iconst 4, 1) := by decide +kernel
theorem d_R_leave_22 : decode b_R_leave 22 = .ok (.aload_n 0, 1) := by decide +kernel
theorem d_R_leave_23 : decode b_R_leave 23 = .ok (.getfield 157, 3) := by decide +kernel
theorem d_R_leave_26 : decode b_R_leave 26 = .ok (.iconst 1, 1) := by decide +kernel
theorem d_R_leave_27 : decode b_R_leave 27 = .ok (.isub, 1) := by decide +kernel
theorem d_R_leave_28 : decode b_R_leave 28 = .ok (.imul, 1) := by decide +kernel
theorem d_R_leave_29 : decode b_R_leave 29 = .ok (.aload_n 0, 1) := by decide +kernel
theorem d_R_leave_30 : decode b_R_leave 30 = .ok (.getfield 53, 3) := by decide +kernel
theorem d_R_leave_33 : decode b_R_leave 33 = .ok (.aload_n 0, 1) := by decide +kernel
theorem d_R_leave_34 : decode b_R_leave 34 = .ok (.getfield 157, 3) := by decide +kernel
theorem d_R_leave_37 : decode b_R_leave 37 = .ok (.iaload, 1) := by decide +kernel
theorem d_R_leave_38 : decode b_R_leave 38 = .ok (.iadd, 1) := by decide +kernel
theorem d_R_leave_39 : decode b_R_leave 39 = .ok (.iload_n 1, 1) := by decide +kernel
theorem d_R_leave_40 : decode b_R_leave 40 = .ok (.iastore, 1) := by decide +kernel
theorem d_R_leave_41 : decode b_R_leave 41 = .ok (.return_, 1) := by decide +kernel
theorem d_R_does_0 : decode b_R_does 0 = .ok (.aload_n 0, 1) := by decide +kernel
theorem d_R_does_1 : decode b_R_does 1 = .ok (.getfield 16, 3) := by decide +kernel
theorem d_R_does_4 : decode b_R_does 4 = .ok (.iload_n 1, 1) := by decide +kernel
theorem d_R_does_5 : decode b_R_does 5 = .ok (.iaload, 1) := by decide +kernel
theorem d_R_does_6 : decode b_R_does 6 = .ok (.istore_n 3, 1) := by decide +kernel
theorem d_R_does_7 : decode b_R_does 7 = .ok (.aload_n 0, 1) := by decide +kernel
theorem d_R_does_8 : decode b_R_does 8 = .ok (.getfield 50, 3) := by decide +kernel
theorem d_R_does_11 : decode b_R_does 11 = .ok (.aload_n 0, 1) := by decide +kernel
theorem d_R_does_12 : decode b_R_does 12 = .ok (.getfield 157, 3) := by decide +kernel
theorem d_R_does_15 : decode b_R_does 15 = .ok (.iconst 1, 1) := by decide +kernel
theorem d_R_does_16 : decode b_R_does 16 = .ok (.isub, 1) := by decide +kernel
theorem d_R_does_17 : decode b_R_does 17 = .ok (.dup2, 1) := by decide +kernel
theorem d_R_does_18 : decode b_R_does 18 = .ok (.iaload, 1) := by decide +kernel
theorem d_R_does_19 : decode b_R_does 19 = .ok (.iconst 1, 1) := by decide +kernel
theorem d_R_does_20 : decode b_R_does 20 = .ok (.iadd, 1) := by decide +kernel
theorem d_R_does_21 : decode b_R_does 21 = .ok (.iastore, 1) := by decide +kernel
theorem d_R_does_22 : decode b_R_does 22 = .ok (.iload_n 3, 1) := by decide +kernel
theorem d_R_does_23 : decode b_R_does 23 = .ok (.ifCond .ne (26), 3) := by decide +kernel
theorem d_R_does_26 : decode b_R_does 26 = .ok (.aload_n 0, 1) := by decide +kernel
theorem d_R_does_27 : decode b_R_does 27 = .ok (.aload_n 0, 1) := by decide +kernel
theorem d_R_does_28 : decode b_R_does 28 = .ok (.getfield 19, 3) := by decide +kernel
theorem d_R_does_31 : decode b_R_does 31 = .ok (.iload_n 1, 1) := by decide +kernel
theorem d_R_does_32 : decode b_R_does 32 = .ok (.iaload, 1) := by decide +kernel
theorem d_R_does_33 : decode b_R_does 33 = .ok (.iload_n 2, 1) := by decide +kernel
theorem d_R_does_34 : decode b_R_does 34 = .ok (.iconst 1, 1) := by decide +kernel
theorem d_R_does_35 : decode b_R_does 35 = .ok (.if_icmp .ne (7), 3) := by decide +kernel
theorem d_R_does_38 : decode b_R_does 38 = .ok (.iconst 1, 1) := by decide +kernel
theorem d_R_does_39 : decode b_R_does 39 = .ok (.goto (4), 3) := by decide +kernel
theorem d_R_does_42 : decode b_R_does 42 = .ok (.iconst 0, 1) := by decide +kernel
theorem d_R_does_43 : decode b_R_does 43 = .ok (.invokevirtual 182, 3) := by decide +kernel
theorem d_R_does_46 : decode b_R_does 46 = .ok (.goto (182), 3) := by decide +kernel
theorem d_R_does_49 : decode b_R_does 49 = .ok (.iload_n 3, 1) := by decide +kernel
theorem d_R_does_50 : decode b_R_does 50 = .ok (.bipush (9), 2) := by decide +kernel
theorem d_R_does_52 : decode b_R_does 52 = .ok (.if_icmp .ne (106), 3) := by decide +kernel
theorem d_R_does_55 : decode b_R_does 55 = .ok (.iconst 4, 1) := by decide +kernel
theorem d_R_does_56 : decode b_R_does 56 = .ok (.aload_n 0, 1) := by decide +kernel
theorem d_R_does_57 : decode b_R_does 57 = .ok (.getfield 157, 3) := by decide +kernel
theorem d_R_does_60 : decode b_R_does 60 = .ok (.iconst 1, 1) := by decide +kernel
theorem d_R_does_61 : decode b_R_does 61 = .ok (.isub, 1) := by decide +kernel
theorem d_R_does_62 : decode b_R_does 62 = .ok (.imul, 1) := by decide +kernel
theorem d_R_does_63 : decode b_R_does 63 = .ok (.istore 4, 2) := by decide +kernel
theorem d_R_does_65 : decode b_R_does 65 = .ok (.iload_n 2, 1) := by decide +kernel
theorem d_R_does_66 : decode b_R_does 66 = .ok (.iconst 1, 1) := by decide +kernel
theorem d_R_does_67 : decode b_R_does 67 = .ok (.if_icmp .ne (26), 3) := by decide +kernel
theorem d_R_does_70 : decode b_R_does 70 = .ok (.aload_n 0, 1) := by decide +kernel
theorem d_R_does_71 : decode b_R_does 71 = .ok (.getfield 22, 3) := by decide +kernel
theorem d_R_does_74 : decode b_R_does 74 = .ok (.iload_n 1, 1) := by decide +kernel
theorem d_R_does_75 : decode b_R_does 75 = .ok (.iaload, 1) := by decide +kernel
theorem d_R_does_76 : decode b_R_does 76 = .ok (.aload_n 0, 1) := by decide +kernel
theorem d_R_does_77 : decode b_R_does 77 = .ok (.getfield 25, 3) := by decide +kernel
theorem d_R_does_80 : decode b_R_does 80 = .ok (.iload_n 1, 1) := by decide +kernel
theorem d_R_does_81 : decode b_R_does 81 = .ok (.iaload, 1) := by decide +kernel
theorem d_R_does_82 : decode b_R_does 82 = .ok (.if_icmp .ne (7), 3) := by decide +kernel
theorem d_R_does_85 : decode b_R_does 85 = .ok (.iconst 1, 1) := by decide +kernel
theorem d_R_does_86 : decode b_R_does 86 = .ok (.goto (43), 3) := by decide +kernel
theorem d_R_does_89 : decode b_R_does 89 = .ok (.iconst 0, 1) := by decide +kernel
theorem d_R_does_90 : decode b_R_does 90 = .ok (.goto (39), 3) := by decide +kernel
theorem d_R_does_93 : decode b_R_does 93 = .ok (.aload_n 0, 1) := by decide +kernel
theorem d_R_does_94 : decode b_R_does 94 = .ok (.getfield 56, 3) := by decide +kernel
theorem d_R_does_97 : decode b_R_does 97 = .ok (.iload 4, 2) := by decide +kernel
theorem d_R_does_99 : decode b_R_does 99 = .ok (.aload_n 0, 1) := by decide +kernel
theorem d_R_does_100 : decode b_R_does 100 = .ok (.getfield 22, 3) := by decide +kernel
theorem d_R_does_103 : decode b_R_does 103 = .ok (.iload_n 1, 1) := by decide +kernel
theorem d_R_does_104 : decode b_R_does 104 = .ok (.iaload, 1) := by decide +kernel
theorem d_R_does_105 : decode b_R_does 105 = .ok (.iadd, 1) := by decide +kernel
theorem d_R_does_106 : decode b_R_does 106 = .ok (.iaload, 1) := by decide +kernel
theorem d_R_does_107 : decode b_R_does 107 = .ok (.aload_n 0, 1) := by decide +kernel
theorem d_R_does_108 : decode b_R_does 108 = .ok (.getfield 56, 3) := by decide +kernel
theorem d_R_does_111 : decode b_R_does 111 = .ok (.iload 4, 2) := by decide +kernel
theorem d_R_does_113 : decode b_R_does 113 = .ok (.aload_n 0, 1) := by decide +kernel
theorem d_R_does_114 : decode b_R_does 114 = .ok (.getfield 25, 3) := by decide +kernel
theorem d_R_does_117 : decode b_R_does 117 = .ok (.iload_n 1, 1) := by decide +kernel
theorem d_R_does_118 : decode b_R_does 118 = .ok (.iaload, 1) := by decide +kernel
theorem d_R_does_119 : decode b_R_does 119 = .ok (.iadd, 1) := by decide +kernel
theorem d_R_does_120 : decode b_R_does 120 = .ok (.iaload, 1) := by decide +kernel
theorem d_R_does_121 : decode b_R_does 121 = .ok (.if_icmp .ne (7), 3) := by decide +kernel
theorem d_R_does_124 : decode b_R_does 124 = .ok (.iconst 1, 1) := by decide +kernel
theorem d_R_does_125 : decode b_R_does 125 = .ok (.goto (4), 3) := by decide +kernel
theorem d_R_does_128 : decode b_R_does 128 = .ok (.iconst 0, 1) := by decide +kernel
theorem d_R_does_129 : decode b_R_does 129 = .ok (.istore 5, 2) := by decide +kernel
theorem d_R_does_131 : decode b_R_does 131 = .ok (.aload_n 0, 1) := by decide +kernel
theorem d_R_does_132 : decode b_R_does 132 = .ok (.getfield 59, 3) := by decide +kernel
theorem d_R_does_135 : decode b_R_does 135 = .ok (.iload 4, 2) := by decide +kernel
theorem d_R_does_137 : decode b_R_does 137 = .ok (.aload_n 0, 1) := by decide +kernel
theorem d_R_does_138 : decode b_R_does 138 = .ok (.getfield 19, 3) := by decide +kernel
theorem d_R_does_141 : decode b_R_does 141 = .ok (.iload_n 1, 1) := by decide +kernel
theorem d_R_does_142 : decode b_R_does 142 = .ok (.iaload, 1) := by decide +kernel
theorem d_R_does_143 : decode b_R_does 143 = .ok (.iadd, 1) := by decide +kernel
theorem d_R_does_144 : decode b_R_does 144 = .ok (.iload 5, 2) := by decide +kernel
theorem d_R_does_146 : decode b_R_does 146 = .ok (.ifCond .eq (7), 3) := by decide +kernel
theorem d_R_does_149 : decode b_R_does 149 = .ok (.iconst 1, 1) := by decide +kernel
theorem d_R_does_150 : decode b_R_does 150 = .ok (.goto (4), 3) := by decide +kernel
theorem d_R_does_153 : decode b_R_does 153 = .ok (.iconst 0, 1) := by decide +kernel
theorem d_R_does_154 : decode b_R_does 154 = .ok (.iastore, 1) := by decide +kernel
theorem d_R_does_155 : decode b_R_does 155 = .ok (.goto (73), 3) := by decide +kernel
theorem d_R_does_158 : decode b_R_does 158 = .ok (.iload_n 3, 1) := by decide +kernel
theorem d_R_does_159 : decode b_R_does 159 = .ok (.iconst 3, 1) := by decide +kernel
theorem d_R_does_160 : decode b_R_does 160 = .ok (.if_icmp .lt (9), 3) := by decide +kernel
theorem d_R_does_163 : decode b_R_does 163 = .ok (.iload_n 3, 1) := by decide +kernel
theorem d_R_does_164 : decode b_R_does 164 = .ok (.bipush (6), 2) := by decide +kernel
theorem d_R_does_166 : decode b_R_does 166 = .ok (.if_icmp .le (20), 3) := by decide +kernel
theorem d_R_does_169 : decode b_R_does 169 = .ok (.iload_n 3, 1) := by decide +kernel
theorem d_R_does_170 : decode b_R_does 170 = .ok (.bipush (10), 2) := by decide +kernel
theorem d_R_does_172 : decode b_R_does 172 = .ok (.if_icmp .eq (9), 3) := by decide +kernel
theorem d_R_does_175 : decode b_R_does 175 = .ok (.iload_n 3, 1) := by decide +kernel
theorem d_R_does_176 : decode b_R_does 176 = .ok (.bipush (11), 2) := by decide +kernel
theorem d_R_does_178 : decode b_R_does 178 = .ok (.if_icmp .ne (26), 3) := by decide +kernel
theorem d_R_does_181 : decode b_R_does 181 = .ok (.iload_n 2, 1) := by decide +kernel
theorem d_R_does_182 : decode b_R_does 182 = .ok (.iconst 2, 1) := by decide +kernel
theorem d_R_does_183 : decode b_R_does 183 = .ok (.if_icmp .ge (21), 3) := by decide +kernel
theorem d_R_does_186 : decode b_R_does 186 = .ok (.aload_n 0, 1) := by decide +kernel
theorem d_R_does_187 : decode b_R_does 187 = .ok (.iload_n 1, 1) := by decide +kernel
theorem d_R_does_188 : decode b_R_does 188 = .ok (.iload_n 2, 1) := by decide +kernel
theorem d_R_does_189 : decode b_R_does 189 = .ok (.iconst 1, 1) := by decide +kernel
theorem d_R_does_190 : decode b_R_does 190 = .ok (.if_icmp .ne (7), 3) := by decide +kernel
theorem d_R_does_193 : decode b_R_does 193 = .ok (.iconst 1, 1) := by decide +kernel
theorem d_R_does_194 : decode b_R_does 194 = .ok (.goto (4), 3) := by decide +kernel
theorem d_R_does_197 : decode b_R_does 197 = .ok (.iconst 0, 1) := by decide +kernel
theorem d_R_does_198 : decode b_R_does 198 = .ok (.invokevirtual 186, 3) := by decide +kernel
theorem d_R_does_201 : decode b_R_does 201 = .ok (.goto (27), 3) := by decide +kernel
theorem d_R_does_204 : decode b_R_does 204 = .ok (.iload_n 3, 1) := by decide +kernel
theorem d_R_does_205 : decode b_R_does 205 = .ok (.bipush (16), 2) := by decide +kernel
theorem d_R_does_207 : decode b_R_does 207 = .ok (.if_icmp .ne (11), 3) := by decide +kernel
theorem d_R_does_210 : decode b_R_does 210 = .ok (.aload_n 0, 1) := by decide +kernel
theorem d_R_does_211 : decode b_R_does 211 = .ok (.iload_n 1, 1) := by decide +kernel
theorem d_R_does_212 : decode b_R_does 212 = .ok (.invokevirtual 189, 3) := by decide +kernel
theorem d_R_does_215 : decode b_R_does 215 = .ok (.goto (13), 3) := by decide +kernel
theorem d_R_does_218 : decode b_R_does 218 = .ok (.iload_n 2, 1) := by decide +kernel
theorem d_R_does_219 : decode b_R_does 219 = .ok (.iconst 2, 1) := by decide +kernel
theorem d_R_does_220 : decode b_R_does 220 = .ok (.if_icmp .ge (8), 3) := by decide +kernel
theorem d_R_does_223 : decode b_R_does 223 = .ok (.aload_n 0, 1) := by decide +kernel
theorem d_R_does_224 : decode b_R_does 224 = .ok (.iload_n 1, 1) := by decide +kernel
theorem d_R_does_225 : decode b_R_does 225 = .ok (.invokevirtual 192, 3) := by decide +kernel
theorem d_R_does_228 : decode b_R_does 228 = .ok (.return_, 1) := by decide +kernel
theorem d_R_makes_0 : decode b_R_makes 0 = .ok (.iconst 4, 1) := by decide +kernel
end
section
theorem d_R_makes_1 : decode b_R_makes 1 = .ok (.aload_n 0, 1) := by decide +kernel
theorem d_R_makes_2 : decode b_R_makes 2 = .ok (.getfield 157, 3) := by decide +kernel
theorem d_R_makes_5 : decode b_R_makes 5 = .ok (.iconst 1, 1) := by decide +kernel
theorem d_R_makes_6 : decode b_R_makes 6 = .ok (.isub, 1) := by decide +kernel
theorem d_R_makes_7 : decode b_R_makes 7 = .ok (.imul, 1) := by decide +kernel
theorem d_R_makes_8 : decode b_R_makes 8 = .ok (.istore_n 3, 1) := by decide +kernel
theorem d_R_makes_9 : decode b_R_makes 9 = .ok (.iload_n 2, 1) := by decide +kernel
theorem d_R_makes_10 : decode b_R_makes 10 = .ok (.ifCond .eq (37), 3) := by decide +kernel
theorem d_R_makes_13 : decode b_R_makes 13 = .ok (.iconst 5, 1) := by decide +kernel
theorem d_R_makes_14 : decode b_R_makes 14 = .ok (.iload_n 3, 1) := by decide +kernel
theorem d_R_makes_15 : decode b_R_makes 15 = .ok (.iload_n 1, 1) := by decide +kernel
theorem d_R_makes_16 : decode b_R_makes 16 = .ok (.iadd, 1) := by decide +kernel
theorem d_R_makes_17 : decode b_R_makes 17 = .ok (.imul, 1) := by decide +kernel
theorem d_R_makes_18 : decode b_R_makes 18 = .ok (.istore 4, 2) := by decide +kernel
theorem d_R_makes_20 : decode b_R_makes 20 = .ok (.iload 4, 2) := by decide +kernel
theorem d_R_makes_22 : decode b_R_makes 22 = .ok (.iconst 5, 1) := by decide +kernel
theorem d_R_makes_23 : decode b_R_makes 23 = .ok (.iload_n 3, 1) := by decide +kernel
theorem d_R_makes_24 : decode b_R_makes 24 = .ok (.iload_n 1, 1) := by decide +kernel
theorem d_R_makes_25 : decode b_R_makes 25 = .ok (.iadd, 1) := by decide +kernel
theorem d_R_makes_26 : decode b_R_makes 26 = .ok (.imul, 1) := by decide +kernel
theorem d_R_makes_27 : decode b_R_makes 27 = .ok (.iconst 5, 1) := by decide +kernel
theorem d_R_makes_28 : decode b_R_makes 28 = .ok (.iadd, 1) := by decide +kernel
theorem d_R_makes_29 : decode b_R_makes 29 = .ok (.if_icmp .ge (17), 3) := by decide +kernel
theorem d_R_makes_32 : decode b_R_makes 32 = .ok (.aload_n 0, 1) := by decide +kernel
theorem d_R_makes_33 : decode b_R_makes 33 = .ok (.getfield 62, 3) := by decide +kernel
theorem d_R_makes_36 : decode b_R_makes 36 = .ok (.iload 4, 2) := by decide +kernel
theorem d_R_makes_38 : decode b_R_makes 38 = .ok (.iconst 0, 1) := by decide +kernel
theorem d_R_makes_39 : decode b_R_makes 39 = .ok (.iastore, 1) := by decide +kernel
theorem d_R_makes_40 : decode b_R_makes 40 = .ok (.iinc 4 (1), 3) := by decide +kernel
theorem d_R_makes_43 : decode b_R_makes 43 = .ok (.goto (-23), 3) := by decide +kernel
theorem d_R_makes_46 : decode b_R_makes 46 = .ok (.return_, 1) := by decide +kernel
theorem d_R_makes_47 : decode b_R_makes 47 = .ok (.aload_n 0, 1) := by decide +kernel
theorem d_R_makes_48 : decode b_R_makes 48 = .ok (.dup, 1) := by decide +kernel
theorem d_R_makes_49 : decode b_R_makes 49 = .ok (.getfield 170, 3) := by decide +kernel
theorem d_R_makes_52 : decode b_R_makes 52 = .ok (.iconst 1, 1) := by decide +kernel
theorem d_R_makes_53 : decode b_R_makes 53 = .ok (.iadd, 1) := by decide +kernel
theorem d_R_makes_54 : decode b_R_makes 54 = .ok (.putfield 170, 3) := by decide +kernel
theorem d_R_makes_57 : decode b_R_makes 57 = .ok (.iconst 5, 1) := by decide +kernel
theorem d_R_makes_58 : decode b_R_makes 58 = .ok (.aload_n 0, 1) := by decide +kernel
theorem d_R_makes_59 : decode b_R_makes 59 = .ok (.getfield 170, 3) := by decide +kernel
theorem d_R_makes_62 : decode b_R_makes 62 = .ok (.imul, 1) := by decide +kernel
theorem d_R_makes_63 : decode b_R_makes 63 = .ok (.istore 4, 2) := by decide +kernel
theorem d_R_makes_65 : decode b_R_makes 65 = .ok (.iload 4, 2) := by decide +kernel
theorem d_R_makes_67 : decode b_R_makes 67 = .ok (.iconst 5, 1) := by decide +kernel
theorem d_R_makes_68 : decode b_R_makes 68 = .ok (.aload_n 0, 1) := by decide +kernel
theorem d_R_makes_69 : decode b_R_makes 69 = .ok (.getfield 170, 3) := by decide +kernel
theorem d_R_makes_72 : decode b_R_makes 72 = .ok (.imul, 1) := by decide +kernel
theorem d_R_makes_73 : decode b_R_makes 73 = .ok (.iconst 5, 1) := by decide +kernel
theorem d_R_makes_74 : decode b_R_makes 74 = .ok (.iadd, 1) := by decide +kernel
theorem d_R_makes_75 : decode b_R_makes 75 = .ok (.if_icmp .ge (17), 3) := by decide +kernel
theorem d_R_makes_78 : decode b_R_makes 78 = .ok (.aload_n 0, 1) := by decide +kernel
theorem d_R_makes_79 : decode b_R_makes 79 = .ok (.getfield 65, 3) := by decide +kernel
theorem d_R_makes_82 : decode b_R_makes 82 = .ok (.iload 4, 2) := by decide +kernel
theorem d_R_makes_84 : decode b_R_makes 84 = .ok (.iconst 0, 1) := by decide +kernel
theorem d_R_makes_85 : decode b_R_makes 85 = .ok (.iastore, 1) := by decide +kernel
theorem d_R_makes_86 : decode b_R_makes 86 = .ok (.iinc 4 (1), 3) := by decide +kernel
theorem d_R_makes_89 : decode b_R_makes 89 = .ok (.goto (-24), 3) := by decide +kernel
theorem d_R_makes_92 : decode b_R_makes 92 = .ok (.aload_n 0, 1) := by decide +kernel
theorem d_R_makes_93 : decode b_R_makes 93 = .ok (.getfield 56, 3) := by decide +kernel
theorem d_R_makes_96 : decode b_R_makes 96 = .ok (.iload_n 3, 1) := by decide +kernel
theorem d_R_makes_97 : decode b_R_makes 97 = .ok (.iload_n 1, 1) := by decide +kernel
theorem d_R_makes_98 : decode b_R_makes 98 = .ok (.iadd, 1) := by decide +kernel
theorem d_R_makes_99 : decode b_R_makes 99 = .ok (.aload_n 0, 1) := by decide +kernel
theorem d_R_makes_100 : decode b_R_makes 100 = .ok (.getfield 170, 3) := by decide +kernel
theorem d_R_makes_103 : decode b_R_makes 103 = .ok (.iastore, 1) := by decide +kernel
theorem d_R_makes_104 : decode b_R_makes 104 = .ok (.return_, 1) := by decide +kernel
theorem d_R_fields_0 : decode b_R_fields 0 = .ok (.aload_n 0, 1) := by decide +kernel
theorem d_R_fields_1 : decode b_R_fields 1 = .ok (.getfield 16, 3) := by decide +kernel
theorem d_R_fields_4 : decode b_R_fields 4 = .ok (.iload_n 1, 1) := by decide +kernel
theorem d_R_fields_5 : decode b_R_fields 5 = .ok (.iaload, 1) := by decide +kernel
theorem d_R_fields_6 : decode b_R_fields 6 = .ok (.istore_n 3, 1) := by decide +kernel
theorem d_R_fields_7 : decode b_R_fields 7 = .ok (.iconst 4, 1) := by decide +kernel
theorem d_R_fields_8 : decode b_R_fields 8 = .ok (.aload_n 0, 1) := by decide +kernel
theorem d_R_fields_9 : decode b_R_fields 9 = .ok (.getfield 157, 3) := by decide +kernel
theorem d_R_fields_12 : decode b_R_fields 12 = .ok (.iconst 1, 1) := by decide +kernel
theorem d_R_fields_13 : decode b_R_fields 13 = .ok (.isub, 1) := by decide +kernel
theorem d_R_fields_14 : decode b_R_fields 14 = .ok (.imul, 1) := by decide +kernel
theorem d_R_fields_15 : decode b_R_fields 15 = .ok (.istore 4, 2) := by decide +kernel
theorem d_R_fields_17 : decode b_R_fields 17 = .ok (.iload_n 3, 1) := by decide +kernel
theorem d_R_fields_18 : decode b_R_fields 18 = .ok (.iconst 3, 1) := by decide +kernel
theorem d_R_fields_19 : decode b_R_fields 19 = .ok (.if_icmp .eq (8), 3) := by decide +kernel
theorem d_R_fields_22 : decode b_R_fields 22 = .ok (.iload_n 3, 1) := by decide +kernel
theorem d_R_fields_23 : decode b_R_fields 23 = .ok (.iconst 5, 1) := by decide +kernel
theorem d_R_fields_24 : decode b_R_fields 24 = .ok (.if_icmp .ne (12), 3) := by decide +kernel
theorem d_R_fields_27 : decode b_R_fields 27 = .ok (.aload_n 0, 1) := by decide +kernel
theorem d_R_fields_28 : decode b_R_fields 28 = .ok (.getfield 22, 3) := by decide +kernel
theorem d_R_fields_31 : decode b_R_fields 31 = .ok (.iload_n 1, 1) := by decide +kernel
theorem d_R_fields_32 : decode b_R_fields 32 = .ok (.iaload, 1) := by decide +kernel
theorem d_R_fields_33 : decode b_R_fields 33 = .ok (.goto (9), 3) := by decide +kernel
theorem d_R_fields_36 : decode b_R_fields 36 = .ok (.aload_n 0, 1) := by decide +kernel
theorem d_R_fields_37 : decode b_R_fields 37 = .ok (.getfield 19, 3) := by decide +kernel
theorem d_R_fields_40 : decode b_R_fields 40 = .ok (.iload_n 1, 1) := by decide +kernel
theorem d_R_fields_41 : decode b_R_fields 41 = .ok (.iaload, 1) := by decide +kernel
theorem d_R_fields_42 : decode b_R_fields 42 = .ok (.istore 5, 2) := by decide +kernel
theorem d_R_fields_44 : decode b_R_fields 44 = .ok (.aload_n 0, 1) := by decide +kernel
theorem d_R_fields_45 : decode b_R_fields 45 = .ok (.getfield 56, 3) := by decide +kernel
theorem d_R_fields_48 : decode b_R_fields 48 = .ok (.iload 4, 2) := by decide +kernel
theorem d_R_fields_50 : decode b_R_fields 50 = .ok (.iload 5, 2) := by decide +kernel
theorem d_R_fields_52 : decode b_R_fields 52 = .ok (.iadd, 1) := by decide +kernel
theorem d_R_fields_53 : decode b_R_fields 53 = .ok (.iaload, 1) := by decide +kernel
theorem d_R_fields_54 : decode b_R_fields 54 = .ok (.istore 6, 2) := by decide +kernel
theorem d_R_fields_56 : decode b_R_fields 56 = .ok (.iload_n 2, 1) := by decide +kernel
theorem d_R_fields_57 : decode b_R_fields 57 = .ok (.ifCond .ne (14), 3) := by decide +kernel
theorem d_R_fields_60 : decode b_R_fields 60 = .ok (.iload 6, 2) := by decide +kernel
theorem d_R_fields_62 : decode b_R_fields 62 = .ok (.ifCond .ne (9), 3) := by decide +kernel
theorem d_R_fields_65 : decode b_R_fields 65 = .ok (.aload_n 0, 1) := by decide +kernel
theorem d_R_fields_66 : decode b_R_fields 66 = .ok (.iconst 1, 1) := by decide +kernel
theorem d_R_fields_67 : decode b_R_fields 67 = .ok (.putfield 160, 3) := by decide +kernel
theorem d_R_fields_70 : decode b_R_fields 70 = .ok (.return_, 1) := by decide +kernel
theorem d_R_fields_71 : decode b_R_fields 71 = .ok (.iload_n 2, 1) := by decide +kernel
theorem d_R_fields_72 : decode b_R_fields 72 = .ok (.ifCond .eq (13), 3) := by decide +kernel
theorem d_R_fields_75 : decode b_R_fields 75 = .ok (.iconst 5, 1) := by decide +kernel
theorem d_R_fields_76 : decode b_R_fields 76 = .ok (.iload 4, 2) := by decide +kernel
theorem d_R_fields_78 : decode b_R_fields 78 = .ok (.iload 5, 2) := by decide +kernel
theorem d_R_fields_80 : decode b_R_fields 80 = .ok (.iadd, 1) := by decide +kernel
theorem d_R_fields_81 : decode b_R_fields 81 = .ok (.imul, 1) := by decide +kernel
theorem d_R_fields_82 : decode b_R_fields 82 = .ok (.goto (7), 3) := by decide +kernel
theorem d_R_fields_85 : decode b_R_fields 85 = .ok (.iconst 5, 1) := by decide +kernel
theorem d_R_fields_86 : decode b_R_fields 86 = .ok (.iload 6, 2) := by decide +kernel
theorem d_R_fields_88 : decode b_R_fields 88 = .ok (.imul, 1) := by decide +kernel
theorem d_R_fields_89 : decode b_R_fields 89 = .ok (.istore 7, 2) := by decide +kernel
theorem d_R_fields_91 : decode b_R_fields 91 = .ok (.iload 7, 2) := by decide +kernel
theorem d_R_fields_93 : decode b_R_fields 93 = .ok (.aload_n 0, 1) := by decide +kernel
theorem d_R_fields_94 : decode b_R_fields 94 = .ok (.getfield 25, 3) := by decide +kernel
theorem d_R_fields_97 : decode b_R_fields 97 = .ok (.iload_n 1, 1) := by decide +kernel
theorem d_R_fields_98 : decode b_R_fields 98 = .ok (.iaload, 1) := by decide +kernel
theorem d_R_fields_99 : decode b_R_fields 99 = .ok (.iadd, 1) := by decide +kernel
theorem d_R_fields_100 : decode b_R_fields 100 = .ok (.istore 8, 2) := by decide +kernel
theorem d_R_fields_102 : decode b_R_fields 102 = .ok (.iload_n 3, 1) := by decide +kernel
theorem d_R_fields_103 : decode b_R_fields 103 = .ok (.iconst 3, 1) := by decide +kernel
theorem d_R_fields_104 : decode b_R_fields 104 = .ok (.if_icmp .ne (41), 3) := by decide +kernel
theorem d_R_fields_107 : decode b_R_fields 107 = .ok (.aload_n 0, 1) := by decide +kernel
theorem d_R_fields_108 : decode b_R_fields 108 = .ok (.getfield 56, 3) := by decide +kernel
theorem d_R_fields_111 : decode b_R_fields 111 = .ok (.iload 4, 2) := by decide +kernel
theorem d_R_fields_113 : decode b_R_fields 113 = .ok (.aload_n 0, 1) := by decide +kernel
theorem d_R_fields_114 : decode b_R_fields 114 = .ok (.getfield 19, 3) := by decide +kernel
theorem d_R_fields_117 : decode b_R_fields 117 = .ok (.iload_n 1, 1) := by decide +kernel
theorem d_R_fields_118 : decode b_R_fields 118 = .ok (.iaload, 1) := by decide +kernel
theorem d_R_fields_119 : decode b_R_fields 119 = .ok (.iadd, 1) := by decide +kernel
theorem d_R_fields_120 : decode b_R_fields 120 = .ok (.iload_n 2, 1) := by decide +kernel
theorem d_R_fields_121 : decode b_R_fields 121 = .ok (.ifCond .eq (13), 3) := by decide +kernel
theorem d_R_fields_124 : decode b_R_fields 124 = .ok (.aload_n 0, 1) := by decide +kernel
theorem d_R_fields_125 : decode b_R_fields 125 = .ok (.getfield 62, 3) := by decide +kernel
theorem d_R_fields_128 : decode b_R_fields 128 = .ok (.iload 8, 2) := by decide +kernel
theorem d_R_fields_130 : decode b_R_fields 130 = .ok (.iaload, 1) := by decide +kernel
theorem d_R_fields_131 : decode b_R_fields 131 = .ok (.goto (10), 3) := by decide +kernel
theorem d_R_fields_134 : decode b_R_fields 134 = .ok (.aload_n 0, 1) := by decide +kernel
theorem d_R_fields_135 : decode b_R_fields 135 = .ok (.getfield 65, 3) := by decide +kernel
theorem d_R_fields_138 : decode b_R_fields 138 = .ok (.iload 8, 2) := by decide +kernel
theorem d_R_fields_140 : decode b_R_fields 140 = .ok (.iaload, 1) := by decide +kernel
theorem d_R_fields_141 : decode b_R_fields 141 = .ok (.iastore, 1) := by decide +kernel
theorem d_R_fields_142 : decode b_R_fields 142 = .ok (.goto (199), 3) := by decide +kernel
theorem d_R_fields_145 : decode b_R_fields 145 = .ok (.iload_n 3, 1) := by decide +kernel
theorem d_R_fields_146 : decode b_R_fields 146 = .ok (.iconst 5, 1) := by decide +kernel
theorem d_R_fields_147 : decode b_R_fields 147 = .ok (.if_icmp .ne (45), 3) := by decide +kernel
theorem d_R_fields_150 : decode b_R_fields 150 = .ok (.aload_n 0, 1) := by decide +kernel
theorem d_R_fields_151 : decode b_R_fields 151 = .ok (.getfield 59, 3) := by decide +kernel
theorem d_R_fields_154 : decode b_R_fields 154 = .ok (.iload 4, 2) := by decide +kernel
theorem d_R_fields_156 : decode b_R_fields 156 = .ok (.aload_n 0, 1) := by decide +kernel
theorem d_R_fields_157 : decode b_R_fields 157 = .ok (.getfield 19, 3) := by decide +kernel
theorem d_R_fields_160 : decode b_R_fields 160 = .ok (.iload_n 1, 1) := by decide +kernel
theorem d_R_fields_161 : decode b_R_fields 161 = .ok (.iaload, 1) := by decide +kernel
theorem d_R_fields_162 : decode b_R_fields 162 = .ok (.iadd, 1) := by decide +kernel
theorem d_R_fields_163 : decode b_R_fields 163 = .ok (.iload_n 2, 1) := by decide +kernel
theorem d_R_fields_164 : decode b_R_fields 164 = .ok (.ifCond .eq (15), 3) := by decide +kernel
theorem d_R_fields_167 : decode b_R_fields 167 = .ok (.aload_n 0, 1) := by decide +kernel
theorem d_R_fields_168 : decode b_R_fields 168 = .ok (.getfield 62, 3) := by decide +kernel
theorem d_R_fields_171 : decode b_R_fields 171 = .ok (.iload 8, 2) := by decide +kernel
theorem d_R_fields_173 : decode b_R_fields 173 = .ok (.iconst 2, 1) := by decide +kernel
theorem d_R_fields_174 : decode b_R_fields 174 = .ok (.iadd, 1) := by decide +kernel
theorem d_R_fields_175 : decode b_R_fields 175 = .ok (.iaload, 1) := by decide +kernel
theorem d_R_fields_176 : decode b_R_fields 176 = .ok (.goto (12), 3) := by decide +kernel
theorem d_R_fields_179 : decode b_R_fields 179 = .ok (.aload_n 0, 1) := by decide +kernel
theorem d_R_fields_180 : decode b_R_fields 180 = .ok (.getfield 65, 3) := by decide +kernel
theorem d_R_fields_183 : decode b_R_fields 183 = .ok (.iload 8, 2) := by decide +kernel
theorem d_R_fields_185 : decode b_R_fields 185 = .ok (.iconst 2, 1) := by decide +kernel
theorem d_R_fields_186 : decode b_R_fields 186 = .ok (.iadd, 1) := by decide +kernel
theorem d_R_fields_187 : decode b_R_fields 187 = .ok (.iaload, 1) := by decide +kernel
theorem d_R_fields_188 : decode b_R_fields 188 = .ok (.iastore, 1) := by decide +kernel
theorem d_R_fields_189 : decode b_R_fields 189 = .ok (.goto (152), 3) := by decide +kernel
theorem d_R_fields_192 : decode b_R_fields 192 = .ok (.iload_n 3, 1) := by decide +kernel
theorem d_R_fields_193 : decode b_R_fields 193 = .ok (.iconst 4, 1) := by decide +kernel
theorem d_R_fields_194 : decode b_R_fields 194 = .ok (.if_icmp .ne (27), 3) := by decide +kernel
theorem d_R_fields_197 : decode b_R_fields 197 = .ok (.aload_n 0, 1) := by decide +kernel
theorem d_R_fields_198 : decode b_R_fields 198 = .ok (.iload_n 2, 1) := by decide +kernel
theorem d_R_fields_199 : decode b_R_fields 199 = .ok (.iload 8, 2) := by decide +kernel
theorem d_R_fields_201 : decode b_R_fields 201 = .ok (.aload_n 0, 1) := by decide +kernel
theorem d_R_fields_202 : decode b_R_fields 202 = .ok (.getfield 56, 3) := by decide +kernel
theorem d_R_fields_205 : decode b_R_fields 205 = .ok (.iload 4, 2) := by decide +kernel
theorem d_R_fields_207 : decode b_R_fields 207 = .ok (.aload_n 0, 1) := by decide +kernel
theorem d_R_fields_208 : decode b_R_fields 208 = .ok (.getfield 22, 3) := by decide +kernel
theorem d_R_fields_211 : decode b_R_fields 211 = .ok (.iload_n 1, 1) := by decide +kernel
theorem d_R_fields_212 : decode b_R_fields 212 = .ok (.iaload, 1) := by decide +kernel
theorem d_R_fields_213 : decode b_R_fields 213 = .ok (.iadd, 1) := by decide +kernel
theorem d_R_fields_214 : decode b_R_fields 214 = .ok (.iaload, 1) := by decide +kernel
theorem d_R_fields_215 : decode b_R_fields 215 = .ok (.invokevirtual 163, 3) := by decide +kernel
theorem d_R_fields_218 : decode b_R_fields 218 = .ok (.goto (123), 3) := by decide +kernel
theorem d_R_fields_221 : decode b_R_fields 221 = .ok (.iload_n 3, 1) := by decide +kernel
theorem d_R_fields_222 : decode b_R_fields 222 = .ok (.bipush (6), 2) := by decide +kernel
theorem d_R_fields_224 : decode b_R_fields 224 = .ok (.if_icmp .ne (29), 3) := by decide +kernel
theorem d_R_fields_227 : decode b_R_fields 227 = .ok (.aload_n 0, 1) := by decide +kernel
theorem d_R_fields_228 : decode b_R_fields 228 = .ok (.iload_n 2, 1) := by decide +kernel
theorem d_R_fields_229 : decode b_R_fields 229 = .ok (.iload 8, 2) := by decide +kernel
theorem d_R_fields_231 : decode b_R_fields 231 = .ok (.iconst 2, 1) := by decide +kernel
theorem d_R_fields_232 : decode b_R_fields 232 = .ok (.iadd, 1) := by decide +kernel
theorem d_R_fields_233 : decode b_R_fields 233 = .ok (.aload_n 0, 1) := by decide +kernel
theorem d_R_fields_234 : decode b_R_fields 234 = .ok (.getfield 59, 3) := by decide +kernel
theorem d_R_fields_237 : decode b_R_fields 237 = .ok (.iload 4, 2) := by decide +kernel
theorem d_R_fields_239 : decode b_R_fields 239 = .ok (.aload_n 0, 1) := by decide +kernel
theorem d_R_fields_240 : decode b_R_fields 240 = .ok (.getfield 22, 3) := by decide +kernel
theorem d_R_fields_243 : decode b_R_fields 243 = .ok (.iload_n 1, 1) := by decide +kernel
theorem d_R_fields_244 : decode b_R_fields 244 = .ok (.iaload, 1) := by decide +kernel
theorem d_R_fields_245 : decode b_R_fields 245 = .ok (.iadd, 1) := by decide +kernel
theorem d_R_fields_246 : decode b_R_fields 246 = .ok (.iaload, 1) := by decide +kernel
theorem d_R_fields_247 : decode b_R_fields 247 = .ok (.invokevirtual 163, 3) := by decide +kernel
theorem d_R_fields_250 : decode b_R_fields 250 = .ok (.goto (91), 3) := by decide +kernel
theorem d_R_fields_253 : decode b_R_fields 253 = .ok (.iload_n 2, 1) := by decide +kernel
theorem d_R_fields_254 : decode b_R_fields 254 = .ok (.ifCond .eq (15), 3) := by decide +kernel
theorem d_R_fields_257 : decode b_R_fields 257 = .ok (.aload_n 0, 1) := by decide +kernel
theorem d_R_fields_258 : decode b_R_fields 258 = .ok (.getfield 62, 3) := by decide +kernel
theorem d_R_fields_261 : decode b_R_fields 261 = .ok (.iload 7, 2) := by decide +kernel
theorem d_R_fields_263 : decode b_R_fields 263 = .ok (.iconst 4, 1) := by decide +kernel
theorem d_R_fields_264 : decode b_R_fields 264 = .ok (.iadd, 1) := by decide +kernel
theorem d_R_fields_265 : decode b_R_fields 265 = .ok (.iaload, 1) := by decide +kernel
theorem d_R_fields_266 : decode b_R_fields 266 = .ok (.goto (12), 3) := by decide +kernel
theorem d_R_fields_269 : decode b_R_fields 269 = .ok (.aload_n 0, 1) := by decide +kernel
theorem d_R_fields_270 : decode b_R_fields 270 = .ok (.getfield 65, 3) := by decide +kernel
theorem d_R_fields_273 : decode b_R_fields 273 = .ok (.iload 7, 2) := by decide +kernel
theorem d_R_fields_275 : decode b_R_fields 275 = .ok (.iconst 4, 1) := by decide +kernel
theorem d_R_fields_276 : decode b_R_fields 276 = .ok (.iadd, 1) := by decide +kernel
theorem d_R_fields_277 : decode b_R_fields 277 = .ok (.iaload, 1) := by decide +kernel
theorem d_R_fields_278 : decode b_R_fields 278 = .ok (.istore 9, 2) := by decide +kernel
theorem d_R_fields_280 : decode b_R_fields 280 = .ok (.iload_n 3, 1) := by decide +kernel
theorem d_R_fields_281 : decode b_R_fields 281 = .ok (.bipush (11), 2) := by decide +kernel
theorem d_R_fields_283 : decode b_R_fields 283 = .ok (.if_icmp .ne (14), 3) := by decide +kernel
theorem d_R_fields_286 : decode b_R_fields 286 = .ok (.iload 9, 2) := by decide +kernel
theorem d_R_fields_288 : decode b_R_fields 288 = .ok (.ifCond .ne (9), 3) := by decide +kernel
theorem d_R_fields_291 : decode b_R_fields 291 = .ok (.aload_n 0, 1) := by decide +kernel
theorem d_R_fields_292 : decode b_R_fields 292 = .ok (.iconst 2, 1) := by decide +kernel
theorem d_R_fields_293 : decode b_R_fields 293 = .ok (.putfield 160, 3) := by decide +kernel
theorem d_R_fields_296 : decode b_R_fields 296 = .ok (.return_, 1) := by decide +kernel
theorem d_R_fields_297 : decode b_R_fields 297 = .ok (.aload_n 0, 1) := by decide +kernel
theorem d_R_fields_298 : decode b_R_fields 298 = .ok (.iload_n 2, 1) := by decide +kernel
theorem d_R_fields_299 : decode b_R_fields 299 = .ok (.iload 7, 2) := by decide +kernel
theorem d_R_fields_301 : decode b_R_fields 301 = .ok (.iconst 4, 1) := by decide +kernel
theorem d_R_fields_302 : decode b_R_fields 302 = .ok (.iadd, 1) := by decide +kernel
theorem d_R_fields_303 : decode b_R_fields 303 = .ok (.iload_n 3, 1) := by decide +kernel
theorem d_R_fields_304 : decode b_R_fields 304 = .ok (.bipush (10), 2) := by decide +kernel
theorem d_R_fields_306 : decode b_R_fields 306 = .ok (.if_icmp .ne (10), 3) := by decide +kernel
theorem d_R_fields_309 : decode b_R_fields 309 = .ok (.iload 9, 2) := by decide +kernel
theorem d_R_fields_311 : decode b_R_fields 311 = .ok (.iconst 1, 1) := by decide +kernel
theorem d_R_fields_312 : decode b_R_fields 312 = .ok (.iadd, 1) := by decide +kernel
theorem d_R_fields_313 : decode b_R_fields 313 = .ok (.goto (7), 3) := by decide +kernel
theorem d_R_fields_316 : decode b_R_fields 316 = .ok (.iload 9, 2) := by decide +kernel
theorem d_R_fields_318 : decode b_R_fields 318 = .ok (.iconst 1, 1) := by decide +kernel
theorem d_R_fields_319 : decode b_R_fields 319 = .ok (.isub, 1) := by decide +kernel
theorem d_R_fields_320 : decode b_R_fields 320 = .ok (.invokevirtual 163, 3) := by decide +kernel
theorem d_R_fields_323 : decode b_R_fields 323 = .ok (.aload_n 0, 1) := by decide +kernel
theorem d_R_fields_324 : decode b_R_fields 324 = .ok (.dup, 1) := by decide +kernel
theorem d_R_fields_325 : decode b_R_fields 325 = .ok (.getfield 167, 3) := by decide +kernel
theorem d_R_fields_328 : decode b_R_fields 328 = .ok (.iload_n 2, 1) := by decide +kernel
theorem d_R_fields_329 : decode b_R_fields 329 = .ok (.ifCond .eq (7), 3) := by decide +kernel
theorem d_R_fields_332 : decode b_R_fields 332 = .ok (.iconst 0, 1) := by decide +kernel
theorem d_R_fields_333 : decode b_R_fields 333 = .ok (.goto (4), 3) := by decide +kernel
theorem d_R_fields_336 : decode b_R_fields 336 = .ok (.iconst 1, 1) := by decide +kernel
theorem d_R_fields_337 : decode b_R_fields 337 = .ok (.iadd, 1) := by decide +kernel
theorem d_R_fields_338 : decode b_R_fields 338 = .ok (.putfield 167, 3) := by decide +kernel
theorem d_R_fields_341 : decode b_R_fields 341 = .ok (.return_, 1) := by decide +kernel
theorem d_R_set_0 : decode b_R_set 0 = .ok (.iload_n 1, 1) := by decide +kernel
theorem d_R_set_1 : decode b_R_set 1 = .ok (.ifCond .eq (13), 3) := by decide +kernel
theorem d_R_set_4 : decode b_R_set 4 = .ok (.aload_n 0, 1) := by decide +kernel
theorem d_R_set_5 : decode b_R_set 5 = .ok (.getfield 62, 3) := by decide +kernel
theorem d_R_set_8 : decode b_R_set 8 = .ok (.iload_n 2, 1) := by decide +kernel
theorem d_R_set_9 : decode b_R_set 9 = .ok (.iload_n 3, 1) := by decide +kernel
theorem d_R_set_10 : decode b_R_set 10 = .ok (.iastore, 1) := by decide +kernel
theorem d_R_set_11 : decode b_R_set 11 = .ok (.goto (10), 3) := by decide +kernel
theorem d_R_set_14 : decode b_R_set 14 = .ok (.aload_n 0, 1) := by decide +kernel
theorem d_R_set_15 : decode b_R_set 15 = .ok (.getfield 65, 3) := by decide +kernel
theorem d_R_set_18 : decode b_R_set 18 = .ok (.iload_n 2, 1) := by decide +kernel
theorem d_R_set_19 : decode b_R_set 19 = .ok (.iload_n 3, 1) := by decide +kernel
theorem d_R_set_20 : decode b_R_set 20 = .ok (.iastore, 1) := by decide +kernel
theorem d_R_set_21 : decode b_R_set 21 = .ok (.return_, 1) := by decide +kernel
theorem d_R_call_0 : decode b_R_call 0 = .ok (.aload_n 0, 1) := by decide +kernel
theorem d_R_call_1 : decode b_R_call 1 = .ok (.getfield 28, 3) := by decide +kernel
theorem d_R_call_4 : decode b_R_call 4 = .ok (.iload_n 1, 1) := by decide +kernel
theorem d_R_call_5 : decode b_R_call 5 = .ok (.iaload, 1) := by decide +kernel
theorem d_R_call_6 : decode b_R_call 6 = .ok (.istore_n 2, 1) := by decide +kernel
theorem d_R_call_7 : decode b_R_call 7 = .ok (.iconst 4, 1) := by decide +kernel
theorem d_R_call_8 : decode b_R_call 8 = .ok (.aload_n 0, 1) := by decide +kernel
theorem d_R_call_9 : decode b_R_call 9 = .ok (.getfield 157, 3) := by decide +kernel
theorem d_R_call_12 : decode b_R_call 12 = .ok (.iconst 1, 1) := by decide +kernel
theorem d_R_call_13 : decode b_R_call 13 = .ok (.isub, 1) := by decide +kernel
theorem d_R_call_14 : decode b_R_call 14 = .ok (.imul, 1) := by decide +kernel
theorem d_R_call_15 : decode b_R_call 15 = .ok (.istore_n 3, 1) := by decide +kernel
theorem d_R_call_16 : decode b_R_call 16 = .ok (.aload_n 0, 1) := by decide +kernel
theorem d_R_call_17 : decode b_R_call 17 = .ok (.getfield 13, 3) := by decide +kernel
theorem d_R_call_20 : decode b_R_call 20 = .ok (.iload_n 2, 1) := by decide +kernel
theorem d_R_call_21 : decode b_R_call 21 = .ok (.iaload, 1) := by decide +kernel
theorem d_R_call_22 : decode b_R_call 22 = .ok (.ifCond .eq (12), 3) := by decide +kernel
theorem d_R_call_25 : decode b_R_call 25 = .ok (.aload_n 0, 1) := by decide +kernel
theorem d_R_call_26 : decode b_R_call 26 = .ok (.getfield 157, 3) := by decide +kernel
theorem d_R_call_29 : decode b_R_call 29 = .ok (.bipush (8), 2) := by decide +kernel
theorem d_R_call_31 : decode b_R_call 31 = .ok (.if_icmp .ne (9), 3) := by decide +kernel
theorem d_R_call_34 : decode b_R_call 34 = .ok (.aload_n 0, 1) := by decide +kernel
theorem d_R_call_35 : decode b_R_call 35 = .ok (.iconst 3, 1) := by decide +kernel
theorem d_R_call_36 : decode b_R_call 36 = .ok (.putfield 160, 3) := by decide +kernel
theorem d_R_call_39 : decode b_R_call 39 = .ok (.return_, 1) := by decide +kernel
theorem d_R_call_40 : decode b_R_call 40 = .ok (.aload_n 0, 1) := by decide +kernel
theorem d_R_call_41 : decode b_R_call 41 = .ok (.iload_n 2, 1) := by decide +kernel
theorem d_R_call_42 : decode b_R_call 42 = .ok (.aload_n 0, 1) := by decide +kernel
theorem d_R_call_43 : decode b_R_call 43 = .ok (.getfield 19, 3) := by decide +kernel
theorem d_R_call_46 : decode b_R_call 46 = .ok (.iload_n 1, 1) := by decide +kernel
theorem d_R_call_47 : decode b_R_call 47 = .ok (.iaload, 1) := by decide +kernel
theorem d_R_call_48 : decode b_R_call 48 = .ok (.aload_n 0, 1) := by decide +kernel
theorem d_R_call_49 : decode b_R_call 49 = .ok (.getfield 56, 3) := by decide +kernel
theorem d_R_call_52 : decode b_R_call 52 = .ok (.iload_n 3, 1) := by decide +kernel
theorem d_R_call_53 : decode b_R_call 53 = .ok (.aload_n 0, 1) := by decide +kernel
theorem d_R_call_54 : decode b_R_call 54 = .ok (.getfield 22, 3) := by decide +kernel
theorem d_R_call_57 : decode b_R_call 57 = .ok (.iload_n 1, 1) := by decide +kernel
theorem d_R_call_58 : decode b_R_call 58 = .ok (.iaload, 1) := by decide +kernel
theorem d_R_call_59 : decode b_R_call 59 = .ok (.iadd, 1) := by decide +kernel
theorem d_R_call_60 : decode b_R_call 60 = .ok (.iaload, 1) := by decide +kernel
theorem d_R_call_61 : decode b_R_call 61 = .ok (.aload_n 0, 1) := by decide +kernel
theorem d_R_call_62 : decode b_R_call 62 = .ok (.getfield 56, 3) := by decide +kernel
theorem d_R_call_65 : decode b_R_call 65 = .ok (.iload_n 3, 1) := by decide +kernel
theorem d_R_call_66 : decode b_R_call 66 = .ok (.aload_n 0, 1) := by decide +kernel
theorem d_R_call_67 : decode b_R_call 67 = .ok (.getfield 25, 3) := by decide +kernel
theorem d_R_call_70 : decode b_R_call 70 = .ok (.iload_n 1, 1) := by decide +kernel
theorem d_R_call_71 : decode b_R_call 71 = .ok (.iaload, 1) := by decide +kernel
theorem d_R_call_72 : decode b_R_call 72 = .ok (.iadd, 1) := by decide +kernel
theorem d_R_call_73 : decode b_R_call 73 = .ok (.iaload, 1) := by decide +kernel
theorem d_R_call_74 : decode b_R_call 74 = .ok (.invokevirtual 173, 3) := by decide +kernel
theorem d_R_call_77 : decode b_R_call 77 = .ok (.return_, 1) := by decide +kernel
theorem d_R_moves_0 : decode b_R_moves 0 = .ok (.iconst 4, 1) := by decide +kernel
theorem d_R_moves_1 : decode b_R_moves 1 = .ok (.aload_n 0, 1) := by decide +kernel
theorem d_R_moves_2 : decode b_R_moves 2 = .ok (.getfield 157, 3) := by decide +kernel
theorem d_R_moves_5 : decode b_R_moves 5 = .ok (.iconst 1, 1) := by decide +kernel
theorem d_R_moves_6 : decode b_R_moves 6 = .ok (.isub, 1) := by decide +kernel
theorem d_R_moves_7 : decode b_R_moves 7 = .ok (.imul, 1) := by decide +kernel
theorem d_R_moves_8 : decode b_R_moves 8 = .ok (.istore_n 2, 1) := by decide +kernel
theorem d_R_moves_9 : decode b_R_moves 9 = .ok (.iload_n 2, 1) := by decide +kernel
theorem d_R_moves_10 : decode b_R_moves 10 = .ok (.aload_n 0, 1) := by decide +kernel
theorem d_R_moves_11 : decode b_R_moves 11 = .ok (.getfield 19, 3) := by decide +kernel
theorem d_R_moves_14 : decode b_R_moves 14 = .ok (.iload_n 1, 1) := by decide +kernel
theorem d_R_moves_15 : decode b_R_moves 15 = .ok (.iaload, 1) := by decide +kernel
theorem d_R_moves_16 : decode b_R_moves 16 = .ok (.iadd, 1) := by decide +kernel
theorem d_R_moves_17 : decode b_R_moves 17 = .ok (.istore_n 3, 1) := by decide +kernel
theorem d_R_moves_18 : decode b_R_moves 18 = .ok (.iload_n 2, 1) := by decide +kernel
theorem d_R_moves_19 : decode b_R_moves 19 = .ok (.aload_n 0, 1) := by decide +kernel
theorem d_R_moves_20 : decode b_R_moves 20 = .ok (.getfield 22, 3) := by decide +kernel
theorem d_R_moves_23 : decode b_R_moves 23 = .ok (.iload_n 1, 1) := by decide +kernel
theorem d_R_moves_24 : decode b_R_moves 24 = .ok (.iaload, 1) := by decide +kernel
theorem d_R_moves_25 : decode b_R_moves 25 = .ok (.iadd, 1) := by decide +kernel
theorem d_R_moves_26 : decode b_R_moves 26 = .ok (.istore 4, 2) := by decide +kernel
theorem d_R_moves_28 : decode b_R_moves 28 = .ok (.aload_n 0, 1) := by decide +kernel
theorem d_R_moves_29 : decode b_R_moves 29 = .ok (.getfield 16, 3) := by decide +kernel
theorem d_R_moves_32 : decode b_R_moves 32 = .ok (.iload_n 1, 1) := by decide +kernel
theorem d_R_moves_33 : decode b_R_moves 33 = .ok (.iaload, 1) := by decide +kernel
theorem d_R_moves_34 : decode b_R_moves 34 = .ok (.tableswitch (269) (1) (17) #[82, 98, 269, 269, 269, 269, 108, 123, 269, 269, 269, 153, 173, 193, 213, 269, 256], 82) := by decide +kernel
theorem d_R_moves_116 : decode b_R_moves 116 = .ok (.aload_n 0, 1) := by decide +kernel
theorem d_R_moves_117 : decode b_R_moves 117 = .ok (.getfield 56, 3) := by decide +kernel
theorem d_R_moves_120 : decode b_R_moves 120 = .ok (.iload_n 3, 1) := by decide +kernel
theorem d_R_moves_121 : decode b_R_moves 121 = .ok (.aload_n 0, 1) := by decide +kernel
theorem d_R_moves_122 : decode b_R_moves 122 = .ok (.getfield 56, 3) := by decide +kernel
theorem d_R_moves_125 : decode b_R_moves 125 = .ok (.iload 4, 2) := by decide +kernel
theorem d_R_moves_127 : decode b_R_moves 127 = .ok (.iaload, 1) := by decide +kernel
theorem d_R_moves_128 : decode b_R_moves 128 = .ok (.iastore, 1) := by decide +kernel
theorem d_R_moves_129 : decode b_R_moves 129 = .ok (.goto (208), 3) := by decide +kernel
theorem d_R_moves_132 : decode b_R_moves 132 = .ok (.aload_n 0, 1) := by decide +kernel
theorem d_R_moves_133 : decode b_R_moves 133 = .ok (.getfield 56, 3) := by decide +kernel
theorem d_R_moves_136 : decode b_R_moves 136 = .ok (.iload_n 3, 1) := by decide +kernel
theorem d_R_moves_137 : decode b_R_moves 137 = .ok (.iconst 0, 1) := by decide +kernel
theorem d_R_moves_138 : decode b_R_moves 138 = .ok (.iastore, 1) := by decide +kernel
theorem d_R_moves_139 : decode b_R_moves 139 = .ok (.goto (198), 3) := by decide +kernel
theorem d_R_moves_142 : decode b_R_moves 142 = .ok (.aload_n 0, 1) := by decide +kernel
theorem d_R_moves_143 : decode b_R_moves 143 = .ok (.getfield 59, 3) := by decide +kernel
theorem d_R_moves_146 : decode b_R_moves 146 = .ok (.iload_n 3, 1) := by decide +kernel
theorem d_R_moves_147 : decode b_R_moves 147 = .ok (.aload_n 0, 1) := by decide +kernel
theorem d_R_moves_148 : decode b_R_moves 148 = .ok (.getfield 28, 3) := by decide +kernel
theorem d_R_moves_151 : decode b_R_moves 151 = .ok (.iload_n 1, 1) := by decide +kernel
theorem d_R_moves_152 : decode b_R_moves 152 = .ok (.iaload, 1) := by decide +kernel
theorem d_R_moves_153 : decode b_R_moves 153 = .ok (.iastore, 1) := by decide +kernel
theorem d_R_moves_154 : decode b_R_moves 154 = .ok (.goto (183), 3) := by decide +kernel
theorem d_R_moves_157 : decode b_R_moves 157 = .ok (.aload_n 0, 1) := by decide +kernel
theorem d_R_moves_158 : decode b_R_moves 158 = .ok (.getfield 59, 3) := by decide +kernel
theorem d_R_moves_161 : decode b_R_moves 161 = .ok (.iload_n 3, 1) := by decide +kernel
theorem d_R_moves_162 : decode b_R_moves 162 = .ok (.aload_n 0, 1) := by decide +kernel
theorem d_R_moves_163 : decode b_R_moves 163 = .ok (.getfield 59, 3) := by decide +kernel
theorem d_R_moves_166 : decode b_R_moves 166 = .ok (.iload 4, 2) := by decide +kernel
theorem d_R_moves_168 : decode b_R_moves 168 = .ok (.iaload, 1) := by decide +kernel
theorem d_R_moves_169 : decode b_R_moves 169 = .ok (.aload_n 0, 1) := by decide +kernel
theorem d_R_moves_170 : decode b_R_moves 170 = .ok (.getfield 59, 3) := by decide +kernel
theorem d_R_moves_173 : decode b_R_moves 173 = .ok (.iload_n 2, 1) := by decide +kernel
theorem d_R_moves_174 : decode b_R_moves 174 = .ok (.aload_n 0, 1) := by decide +kernel
theorem d_R_moves_175 : decode b_R_moves 175 = .ok (.getfield 25, 3) := by decide +kernel
theorem d_R_moves_178 : decode b_R_moves 178 = .ok (.iload_n 1, 1) := by decide +kernel
theorem d_R_moves_179 : decode b_R_moves 179 = .ok (.iaload, 1) := by decide +kernel
theorem d_R_moves_180 : decode b_R_moves 180 = .ok (.iadd, 1) := by decide +kernel
theorem d_R_moves_181 : decode b_R_moves 181 = .ok (.iaload, 1) := by decide +kernel
theorem d_R_moves_182 : decode b_R_moves 182 = .ok (.iadd, 1) := by decide +kernel
theorem d_R_moves_183 : decode b_R_moves 183 = .ok (.iastore, 1) := by decide +kernel
theorem d_R_moves_184 : decode b_R_moves 184 = .ok (.goto (153), 3) := by decide +kernel
theorem d_R_moves_187 : decode b_R_moves 187 = .ok (.aload_n 0, 1) := by decide +kernel
theorem d_R_moves_188 : decode b_R_moves 188 = .ok (.getfield 68, 3) := by decide +kernel
theorem d_R_moves_191 : decode b_R_moves 191 = .ok (.aload_n 0, 1) := by decide +kernel
theorem d_R_moves_192 : decode b_R_moves 192 = .ok (.getfield 22, 3) := by decide +kernel
theorem d_R_moves_195 : decode b_R_moves 195 = .ok (.iload_n 1, 1) := by decide +kernel
theorem d_R_moves_196 : decode b_R_moves 196 = .ok (.iaload, 1) := by decide +kernel
theorem d_R_moves_197 : decode b_R_moves 197 = .ok (.aload_n 0, 1) := by decide +kernel
theorem d_R_moves_198 : decode b_R_moves 198 = .ok (.getfield 56, 3) := by decide +kernel
theorem d_R_moves_201 : decode b_R_moves 201 = .ok (.iload_n 3, 1) := by decide +kernel
theorem d_R_moves_202 : decode b_R_moves 202 = .ok (.iaload, 1) := by decide +kernel
theorem d_R_moves_203 : decode b_R_moves 203 = .ok (.iastore, 1) := by decide +kernel
theorem d_R_moves_204 : decode b_R_moves 204 = .ok (.goto (133), 3) := by decide +kernel
theorem d_R_moves_207 : decode b_R_moves 207 = .ok (.aload_n 0, 1) := by decide +kernel
theorem d_R_moves_208 : decode b_R_moves 208 = .ok (.getfield 56, 3) := by decide +kernel
theorem d_R_moves_211 : decode b_R_moves 211 = .ok (.iload_n 3, 1) := by decide +kernel
theorem d_R_moves_212 : decode b_R_moves 212 = .ok (.aload_n 0, 1) := by decide +kernel
theorem d_R_moves_213 : decode b_R_moves 213 = .ok (.getfield 68, 3) := by decide +kernel
theorem d_R_moves_216 : decode b_R_moves 216 = .ok (.aload_n 0, 1) := by decide +kernel
theorem d_R_moves_217 : decode b_R_moves 217 = .ok (.getfield 22, 3) := by decide +kernel
theorem d_R_moves_220 : decode b_R_moves 220 = .ok (.iload_n 1, 1) := by decide +kernel
theorem d_R_moves_221 : decode b_R_moves 221 = .ok (.iaload, 1) := by decide +kernel
theorem d_R_moves_222 : decode b_R_moves 222 = .ok (.iaload, 1) := by decide +kernel
theorem d_R_moves_223 : decode b_R_moves 223 = .ok (.iastore, 1) := by decide +kernel
theorem d_R_moves_224 : decode b_R_moves 224 = .ok (.goto (113), 3) := by decide +kernel
theorem d_R_moves_227 : decode b_R_moves 227 = .ok (.aload_n 0, 1) := by decide +kernel
theorem d_R_moves_228 : decode b_R_moves 228 = .ok (.getfield 50, 3) := by decide +kernel
theorem d_R_moves_231 : decode b_R_moves 231 = .ok (.aload_n 0, 1) := by decide +kernel
theorem d_R_moves_232 : decode b_R_moves 232 = .ok (.getfield 157, 3) := by decide +kernel
theorem d_R_moves_235 : decode b_R_moves 235 = .ok (.iconst 1, 1) := by decide +kernel
theorem d_R_moves_236 : decode b_R_moves 236 = .ok (.isub, 1) := by decide +kernel
theorem d_R_moves_237 : decode b_R_moves 237 = .ok (.aload_n 0, 1) := by decide +kernel
theorem d_R_moves_238 : decode b_R_moves 238 = .ok (.getfield 28, 3) := by decide +kernel
theorem d_R_moves_241 : decode b_R_moves 241 = .ok (.iload_n 1, 1) := by decide +kernel
theorem d_R_moves_242 : decode b_R_moves 242 = .ok (.iaload, 1) := by decide +kernel
theorem d_R_moves_243 : decode b_R_moves 243 = .ok (.iastore, 1) := by decide +kernel
theorem d_R_moves_244 : decode b_R_moves 244 = .ok (.goto (93), 3) := by decide +kernel
theorem d_R_moves_247 : decode b_R_moves 247 = .ok (.aload_n 0, 1) := by decide +kernel
theorem d_R_moves_248 : decode b_R_moves 248 = .ok (.getfield 50, 3) := by decide +kernel
theorem d_R_moves_251 : decode b_R_moves 251 = .ok (.aload_n 0, 1) := by decide +kernel
theorem d_R_moves_252 : decode b_R_moves 252 = .ok (.getfield 157, 3) := by decide +kernel
theorem d_R_moves_255 : decode b_R_moves 255 = .ok (.iconst 1, 1) := by decide +kernel
theorem d_R_moves_256 : decode b_R_moves 256 = .ok (.isub, 1) := by decide +kernel
theorem d_R_moves_257 : decode b_R_moves 257 = .ok (.aload_n 0, 1) := by decide +kernel
theorem d_R_moves_258 : decode b_R_moves 258 = .ok (.getfield 59, 3) := by decide +kernel
theorem d_R_moves_261 : decode b_R_moves 261 = .ok (.iload_n 3, 1) := by decide +kernel
theorem d_R_moves_262 : decode b_R_moves 262 = .ok (.iaload, 1) := by decide +kernel
theorem d_R_moves_263 : decode b_R_moves 263 = .ok (.ifCond .ne (12), 3) := by decide +kernel
theorem d_R_moves_266 : decode b_R_moves 266 = .ok (.aload_n 0, 1) := by decide +kernel
theorem d_R_moves_267 : decode b_R_moves 267 = .ok (.getfield 28, 3) := by decide +kernel
theorem d_R_moves_270 : decode b_R_moves 270 = .ok (.iload_n 1, 1) := by decide +kernel
theorem d_R_moves_271 : decode b_R_moves 271 = .ok (.iaload, 1) := by decide +kernel
theorem d_R_moves_272 : decode b_R_moves 272 = .ok (.goto (14), 3) := by decide +kernel
theorem d_R_moves_275 : decode b_R_moves 275 = .ok (.aload_n 0, 1) := by decide +kernel
theorem d_R_moves_276 : decode b_R_moves 276 = .ok (.getfield 50, 3) := by decide +kernel
theorem d_R_moves_279 : decode b_R_moves 279 = .ok (.aload_n 0, 1) := by decide +kernel
theorem d_R_moves_280 : decode b_R_moves 280 = .ok (.getfield 157, 3) := by decide +kernel
theorem d_R_moves_283 : decode b_R_moves 283 = .ok (.iconst 1, 1) := by decide +kernel
theorem d_R_moves_284 : decode b_R_moves 284 = .ok (.isub, 1) := by decide +kernel
theorem d_R_moves_285 : decode b_R_moves 285 = .ok (.iaload, 1) := by decide +kernel
theorem d_R_moves_286 : decode b_R_moves 286 = .ok (.iastore, 1) := by decide +kernel
theorem d_R_moves_287 : decode b_R_moves 287 = .ok (.goto (50), 3) := by decide +kernel
theorem d_R_moves_290 : decode b_R_moves 290 = .ok (.aload_n 0, 1) := by decide +kernel
theorem d_R_moves_291 : decode b_R_moves 291 = .ok (.aload_n 0, 1) := by decide +kernel
theorem d_R_moves_292 : decode b_R_moves 292 = .ok (.getfield 56, 3) := by decide +kernel
theorem d_R_moves_295 : decode b_R_moves 295 = .ok (.iload_n 3, 1) := by decide +kernel
theorem d_R_moves_296 : decode b_R_moves 296 = .ok (.iaload, 1) := by decide +kernel
theorem d_R_moves_297 : decode b_R_moves 297 = .ok (.invokevirtual 176, 3) := by decide +kernel
theorem d_R_moves_300 : decode b_R_moves 300 = .ok (.goto (37), 3) := by decide +kernel
theorem d_R_moves_303 : decode b_R_moves 303 = .ok (.aload_n 0, 1) := by decide +kernel
theorem d_R_moves_304 : decode b_R_moves 304 = .ok (.getfield 179, 3) := by decide +kernel
theorem d_R_moves_307 : decode b_R_moves 307 = .ok (.bipush (32), 2) := by decide +kernel
theorem d_R_moves_309 : decode b_R_moves 309 = .ok (.if_icmp .ge (18), 3) := by decide +kernel
theorem d_R_moves_312 : decode b_R_moves 312 = .ok (.aload_n 0, 1) := by decide +kernel
theorem d_R_moves_313 : decode b_R_moves 313 = .ok (.getfield 71, 3) := by decide +kernel
theorem d_R_moves_316 : decode b_R_moves 316 = .ok (.aload_n 0, 1) := by decide +kernel
theorem d_R_moves_317 : decode b_R_moves 317 = .ok (.getfield 179, 3) := by decide +kernel
theorem d_R_moves_320 : decode b_R_moves 320 = .ok (.aload_n 0, 1) := by decide +kernel
theorem d_R_moves_321 : decode b_R_moves 321 = .ok (.getfield 59, 3) := by decide +kernel
theorem d_R_moves_324 : decode b_R_moves 324 = .ok (.iload_n 3, 1) := by decide +kernel
theorem d_R_moves_325 : decode b_R_moves 325 = .ok (.iaload, 1) := by decide +kernel
theorem d_R_moves_326 : decode b_R_moves 326 = .ok (.iastore, 1) := by decide +kernel
theorem d_R_moves_327 : decode b_R_moves 327 = .ok (.aload_n 0, 1) := by decide +kernel
theorem d_R_moves_328 : decode b_R_moves 328 = .ok (.dup, 1) := by decide +kernel
theorem d_R_moves_329 : decode b_R_moves 329 = .ok (.getfield 179, 3) := by decide +kernel
theorem d_R_moves_332 : decode b_R_moves 332 = .ok (.iconst 1, 1) := by decide +kernel
theorem d_R_moves_333 : decode b_R_moves 333 = .ok (.iadd, 1) := by decide +kernel
theorem d_R_moves_334 : decode b_R_moves 334 = .ok (.putfield 179, 3) := by decide +kernel
theorem d_R_moves_337 : decode b_R_moves 337 = .ok (.return_, 1) := by decide +kernel
theorem d_R_shown_0 : decode b_R_shown 0 = .ok (.aload_n 0, 1) := by decide +kernel
theorem d_R_shown_1 : decode b_R_shown 1 = .ok (.iload_n 1, 1) := by decide +kernel
theorem d_R_shown_2 : decode b_R_shown 2 = .ok (.ifCond .lt (17), 3) := by decide +kernel
theorem d_R_shown_5 : decode b_R_shown 5 = .ok (.iload_n 1, 1) := by decide +kernel
theorem d_R_shown_6 : decode b_R_shown 6 = .ok (.aload_n 0, 1) := by decide +kernel
theorem d_R_shown_7 : decode b_R_shown 7 = .ok (.getfield 179, 3) := by decide +kernel
theorem d_R_shown_10 : decode b_R_shown 10 = .ok (.if_icmp .ge (9), 3) := by decide +kernel
theorem d_R_shown_13 : decode b_R_shown 13 = .ok (.iload_n 1, 1) := by decide +kernel
theorem d_R_shown_14 : decode b_R_shown 14 = .ok (.bipush (32), 2) := by decide +kernel
theorem d_R_shown_16 : decode b_R_shown 16 = .ok (.if_icmp .lt (7), 3) := by decide +kernel
theorem d_R_shown_19 : decode b_R_shown 19 = .ok (.iconst 1, 1) := by decide +kernel
theorem d_R_shown_20 : decode b_R_shown 20 = .ok (.goto (4), 3) := by decide +kernel
theorem d_R_shown_23 : decode b_R_shown 23 = .ok (.iconst 0, 1) := by decide +kernel
theorem d_R_shown_24 : decode b_R_shown 24 = .ok (.putfield 77, 3) := by decide +kernel
theorem d_R_shown_27 : decode b_R_shown 27 = .ok (.aload_n 0, 1) := by decide +kernel
theorem d_R_shown_28 : decode b_R_shown 28 = .ok (.getfield 77, 3) := by decide +kernel
theorem d_R_shown_31 : decode b_R_shown 31 = .ok (.ifCond .le (7), 3) := by decide +kernel
theorem d_R_shown_34 : decode b_R_shown 34 = .ok (.iconst 0, 1) := by decide +kernel
theorem d_R_shown_35 : decode b_R_shown 35 = .ok (.goto (9), 3) := by decide +kernel
theorem d_R_shown_38 : decode b_R_shown 38 = .ok (.aload_n 0, 1) := by decide +kernel
theorem d_R_shown_39 : decode b_R_shown 39 = .ok (.getfield 71, 3) := by decide +kernel
theorem d_R_shown_42 : decode b_R_shown 42 = .ok (.iload_n 1, 1) := by decide +kernel
theorem d_R_shown_43 : decode b_R_shown 43 = .ok (.iaload, 1) := by decide +kernel
theorem d_R_shown_44 : decode b_R_shown 44 = .ok (.ireturn, 1) := by decide +kernel
theorem d_R_latest_0 : decode b_R_latest 0 = .ok (.aload_n 0, 1) := by decide +kernel
theorem d_R_latest_1 : decode b_R_latest 1 = .ok (.iconst 0, 1) := by decide +kernel
theorem d_R_latest_2 : decode b_R_latest 2 = .ok (.putfield 77, 3) := by decide +kernel
theorem d_R_latest_5 : decode b_R_latest 5 = .ok (.iload_n 1, 1) := by decide +kernel
theorem d_R_latest_6 : decode b_R_latest 6 = .ok (.tableswitch (59) (0) (4) #[34, 39, 44, 49, 54], 34) := by decide +kernel
theorem d_R_latest_40 : decode b_R_latest 40 = .ok (.aload_n 0, 1) := by decide +kernel
theorem d_R_latest_41 : decode b_R_latest 41 = .ok (.getfield 160, 3) := by decide +kernel
theorem d_R_latest_44 : decode b_R_latest 44 = .ok (.ireturn, 1) := by decide +kernel
theorem d_R_latest_45 : decode b_R_latest 45 = .ok (.aload_n 0, 1) := by decide +kernel
theorem d_R_latest_46 : decode b_R_latest 46 = .ok (.getfield 179, 3) := by decide +kernel
theorem d_R_latest_49 : decode b_R_latest 49 = .ok (.ireturn, 1) := by decide +kernel
theorem d_R_latest_50 : decode b_R_latest 50 = .ok (.aload_n 0, 1) := by decide +kernel
theorem d_R_latest_51 : decode b_R_latest 51 = .ok (.getfield 201, 3) := by decide +kernel
theorem d_R_latest_54 : decode b_R_latest 54 = .ok (.ireturn, 1) := by decide +kernel
theorem d_R_latest_55 : decode b_R_latest 55 = .ok (.aload_n 0, 1) := by decide +kernel
theorem d_R_latest_56 : decode b_R_latest 56 = .ok (.getfield 170, 3) := by decide +kernel
theorem d_R_latest_59 : decode b_R_latest 59 = .ok (.ireturn, 1) := by decide +kernel
theorem d_R_latest_60 : decode b_R_latest 60 = .ok (.aload_n 0, 1) := by decide +kernel
theorem d_R_latest_61 : decode b_R_latest 61 = .ok (.getfield 167, 3) := by decide +kernel
theorem d_R_latest_64 : decode b_R_latest 64 = .ok (.ireturn, 1) := by decide +kernel
theorem d_R_latest_65 : decode b_R_latest 65 = .ok (.iconst (-1), 1) := by decide +kernel
theorem d_R_latest_66 : decode b_R_latest 66 = .ok (.ireturn, 1) := by decide +kernel
theorem d_R_escape_0 : decode b_R_escape 0 = .ok (.aload_n 0, 1) := by decide +kernel
theorem d_R_escape_1 : decode b_R_escape 1 = .ok (.iconst 0, 1) := by decide +kernel
theorem d_R_escape_2 : decode b_R_escape 2 = .ok (.putfield 77, 3) := by decide +kernel
theorem d_R_escape_5 : decode b_R_escape 5 = .ok (.aload_n 0, 1) := by decide +kernel
theorem d_R_escape_6 : decode b_R_escape 6 = .ok (.invokevirtual 195, 3) := by decide +kernel
theorem d_R_escape_9 : decode b_R_escape 9 = .ok (.aload_n 0, 1) := by decide +kernel
theorem d_R_escape_10 : decode b_R_escape 10 = .ok (.iload_n 1, 1) := by decide +kernel
theorem d_R_escape_11 : decode b_R_escape 11 = .ok (.iload_n 2, 1) := by decide +kernel
theorem d_R_escape_12 : decode b_R_escape 12 = .ok (.invokevirtual 128, 3) := by decide +kernel
theorem d_R_escape_15 : decode b_R_escape 15 = .ok (.ifCond .eq (17), 3) := by decide +kernel
theorem d_R_escape_18 : decode b_R_escape 18 = .ok (.aload_n 0, 1) := by decide +kernel
theorem d_R_escape_19 : decode b_R_escape 19 = .ok (.getfield 16, 3) := by decide +kernel
theorem d_R_escape_22 : decode b_R_escape 22 = .ok (.bipush (24), 2) := by decide +kernel
theorem d_R_escape_24 : decode b_R_escape 24 = .ok (.iload_n 1, 1) := by decide +kernel
theorem d_R_escape_25 : decode b_R_escape 25 = .ok (.imul, 1) := by decide +kernel
theorem d_R_escape_26 : decode b_R_escape 26 = .ok (.iload_n 2, 1) := by decide +kernel
theorem d_R_escape_27 : decode b_R_escape 27 = .ok (.iadd, 1) := by decide +kernel
theorem d_R_escape_28 : decode b_R_escape 28 = .ok (.iaload, 1) := by decide +kernel
theorem d_R_escape_29 : decode b_R_escape 29 = .ok (.ifCond .eq (7), 3) := by decide +kernel
theorem d_R_escape_32 : decode b_R_escape 32 = .ok (.iconst (-1), 1) := by decide +kernel
theorem d_R_escape_33 : decode b_R_escape 33 = .ok (.goto (9), 3) := by decide +kernel
theorem d_R_escape_36 : decode b_R_escape 36 = .ok (.aload_n 0, 1) := by decide +kernel
theorem d_R_escape_37 : decode b_R_escape 37 = .ok (.iload_n 1, 1) := by decide +kernel
theorem d_R_escape_38 : decode b_R_escape 38 = .ok (.iload_n 2, 1) := by decide +kernel
theorem d_R_escape_39 : decode b_R_escape 39 = .ok (.invokevirtual 151, 3) := by decide +kernel
theorem d_R_escape_42 : decode b_R_escape 42 = .ok (.ireturn, 1) := by decide +kernel
theorem d_R_summary_0 : decode b_R_summary 0 = .ok (.aload_n 0, 1) := by decide +kernel
theorem d_R_summary_1 : decode b_R_summary 1 = .ok (.iconst 0, 1) := by decide +kernel
theorem d_R_summary_2 : decode b_R_summary 2 = .ok (.putfield 77, 3) := by decide +kernel
theorem d_R_summary_5 : decode b_R_summary 5 = .ok (.aload_n 0, 1) := by decide +kernel
theorem d_R_summary_6 : decode b_R_summary 6 = .ok (.invokevirtual 195, 3) := by decide +kernel
theorem d_R_summary_9 : decode b_R_summary 9 = .ok (.iload_n 1, 1) := by decide +kernel
theorem d_R_summary_10 : decode b_R_summary 10 = .ok (.invokestatic 81, 3) := by decide +kernel
theorem d_R_summary_13 : decode b_R_summary 13 = .ok (.ifCond .eq (17), 3) := by decide +kernel
theorem d_R_summary_16 : decode b_R_summary 16 = .ok (.iload_n 2, 1) := by decide +kernel
theorem d_R_summary_17 : decode b_R_summary 17 = .ok (.ifCond .lt (13), 3) := by decide +kernel
theorem d_R_summary_20 : decode b_R_summary 20 = .ok (.iload_n 2, 1) := by decide +kernel
theorem d_R_summary_21 : decode b_R_summary 21 = .ok (.aload_n 0, 1) := by decide +kernel
theorem d_R_summary_22 : decode b_R_summary 22 = .ok (.getfield 7, 3) := by decide +kernel
theorem d_R_summary_25 : decode b_R_summary 25 = .ok (.iload_n 1, 1) := by decide +kernel
theorem d_R_summary_26 : decode b_R_summary 26 = .ok (.iaload, 1) := by decide +kernel
theorem d_R_summary_27 : decode b_R_summary 27 = .ok (.if_icmp .lt (7), 3) := by decide +kernel
theorem d_R_summary_30 : decode b_R_summary 30 = .ok (.iconst (-1), 1) := by decide +kernel
theorem d_R_summary_31 : decode b_R_summary 31 = .ok (.goto (13), 3) := by decide +kernel
theorem d_R_summary_34 : decode b_R_summary 34 = .ok (.aload_n 0, 1) := by decide +kernel
theorem d_R_summary_35 : decode b_R_summary 35 = .ok (.getfield 40, 3) := by decide +kernel
theorem d_R_summary_38 : decode b_R_summary 38 = .ok (.iconst 2, 1) := by decide +kernel
theorem d_R_summary_39 : decode b_R_summary 39 = .ok (.iload_n 1, 1) := by decide +kernel
theorem d_R_summary_40 : decode b_R_summary 40 = .ok (.imul, 1) := by decide +kernel
theorem d_R_summary_41 : decode b_R_summary 41 = .ok (.iload_n 2, 1) := by decide +kernel
theorem d_R_summary_42 : decode b_R_summary 42 = .ok (.iadd, 1) := by decide +kernel
theorem d_R_summary_43 : decode b_R_summary 43 = .ok (.iaload, 1) := by decide +kernel
theorem d_R_summary_44 : decode b_R_summary 44 = .ok (.ireturn, 1) := by decide +kernel
theorem d_R_fate_0 : decode b_R_fate 0 = .ok (.aload_n 0, 1) := by decide +kernel
theorem d_R_fate_1 : decode b_R_fate 1 = .ok (.iconst 0, 1) := by decide +kernel
theorem d_R_fate_2 : decode b_R_fate 2 = .ok (.putfield 77, 3) := by decide +kernel
theorem d_R_fate_5 : decode b_R_fate 5 = .ok (.aload_n 0, 1) := by decide +kernel
theorem d_R_fate_6 : decode b_R_fate 6 = .ok (.invokevirtual 195, 3) := by decide +kernel
theorem d_R_fate_9 : decode b_R_fate 9 = .ok (.aload_n 0, 1) := by decide +kernel
theorem d_R_fate_10 : decode b_R_fate 10 = .ok (.iload_n 1, 1) := by decide +kernel
theorem d_R_fate_11 : decode b_R_fate 11 = .ok (.iload_n 2, 1) := by decide +kernel
theorem d_R_fate_12 : decode b_R_fate 12 = .ok (.invokevirtual 128, 3) := by decide +kernel
theorem d_R_fate_15 : decode b_R_fate 15 = .ok (.ifCond .eq (12), 3) := by decide +kernel
theorem d_R_fate_18 : decode b_R_fate 18 = .ok (.aload_n 0, 1) := by decide +kernel
theorem d_R_fate_19 : decode b_R_fate 19 = .ok (.iload_n 1, 1) := by decide +kernel
theorem d_R_fate_20 : decode b_R_fate 20 = .ok (.iload_n 2, 1) := by decide +kernel
theorem d_R_fate_21 : decode b_R_fate 21 = .ok (.invokevirtual 198, 3) := by decide +kernel
theorem d_R_fate_24 : decode b_R_fate 24 = .ok (.goto (4), 3) := by decide +kernel
theorem d_R_fate_27 : decode b_R_fate 27 = .ok (.iconst (-1), 1) := by decide +kernel
theorem d_R_fate_28 : decode b_R_fate 28 = .ok (.ireturn, 1) := by decide +kernel
theorem d_R_may_0 : decode b_R_may 0 = .ok (.aload_n 0, 1) := by decide +kernel
theorem d_R_may_1 : decode b_R_may 1 = .ok (.iconst 0, 1) := by decide +kernel
theorem d_R_may_2 : decode b_R_may 2 = .ok (.putfield 77, 3) := by decide +kernel
theorem d_R_may_5 : decode b_R_may 5 = .ok (.aload_n 0, 1) := by decide +kernel
theorem d_R_may_6 : decode b_R_may 6 = .ok (.invokevirtual 195, 3) := by decide +kernel
theorem d_R_may_9 : decode b_R_may 9 = .ok (.iload_n 1, 1) := by decide +kernel
theorem d_R_may_10 : decode b_R_may 10 = .ok (.invokestatic 81, 3) := by decide +kernel
theorem d_R_may_13 : decode b_R_may 13 = .ok (.ifCond .eq (10), 3) := by decide +kernel
theorem d_R_may_16 : decode b_R_may 16 = .ok (.iload_n 2, 1) := by decide +kernel
theorem d_R_may_17 : decode b_R_may 17 = .ok (.invokestatic 89, 3) := by decide +kernel
theorem d_R_may_20 : decode b_R_may 20 = .ok (.ifCond .ne (7), 3) := by decide +kernel
theorem d_R_may_23 : decode b_R_may 23 = .ok (.iconst (-1), 1) := by decide +kernel
theorem d_R_may_24 : decode b_R_may 24 = .ok (.goto (13), 3) := by decide +kernel
theorem d_R_may_27 : decode b_R_may 27 = .ok (.aload_n 0, 1) := by decide +kernel
theorem d_R_may_28 : decode b_R_may 28 = .ok (.getfield 31, 3) := by decide +kernel
theorem d_R_may_31 : decode b_R_may 31 = .ok (.iconst 4, 1) := by decide +kernel
theorem d_R_may_32 : decode b_R_may 32 = .ok (.iload_n 1, 1) := by decide +kernel
theorem d_R_may_33 : decode b_R_may 33 = .ok (.imul, 1) := by decide +kernel
theorem d_R_may_34 : decode b_R_may 34 = .ok (.iload_n 2, 1) := by decide +kernel
theorem d_R_may_35 : decode b_R_may 35 = .ok (.iadd, 1) := by decide +kernel
theorem d_R_may_36 : decode b_R_may 36 = .ok (.iaload, 1) := by decide +kernel
theorem d_R_may_37 : decode b_R_may 37 = .ok (.ireturn, 1) := by decide +kernel
theorem d_R_length_0 : decode b_R_length 0 = .ok (.aload_n 0, 1) := by decide +kernel
theorem d_R_length_1 : decode b_R_length 1 = .ok (.iconst 0, 1) := by decide +kernel
theorem d_R_length_2 : decode b_R_length 2 = .ok (.putfield 77, 3) := by decide +kernel
theorem d_R_length_5 : decode b_R_length 5 = .ok (.iload_n 1, 1) := by decide +kernel
theorem d_R_length_6 : decode b_R_length 6 = .ok (.invokestatic 81, 3) := by decide +kernel
theorem d_R_length_9 : decode b_R_length 9 = .ok (.ifCond .eq (12), 3) := by decide +kernel
theorem d_R_length_12 : decode b_R_length 12 = .ok (.aload_n 0, 1) := by decide +kernel
theorem d_R_length_13 : decode b_R_length 13 = .ok (.getfield 13, 3) := by decide +kernel
theorem d_R_length_16 : decode b_R_length 16 = .ok (.iload_n 1, 1) := by decide +kernel
theorem d_R_length_17 : decode b_R_length 17 = .ok (.iaload, 1) := by decide +kernel
theorem d_R_length_18 : decode b_R_length 18 = .ok (.goto (4), 3) := by decide +kernel
theorem d_R_length_21 : decode b_R_length 21 = .ok (.iconst (-1), 1) := by decide +kernel
theorem d_R_length_22 : decode b_R_length 22 = .ok (.ireturn, 1) := by decide +kernel
end
section
/-! THE SHAPE of the class's object and of the reference's -/
abbrev kC (m : Nat) : Nat := 15 + 15 * m
abbrev kCa (m t : Nat) : Nat := 16 + 15 * m + t
abbrev kF (m : Nat) : Nat := 21 + 15 * m
abbrev kFm (m : Nat) : Nat := 22 + 15 * m
abbrev kFh (m : Nat) : Nat := 23 + 15 * m
abbrev kFr (m f : Nat) : Nat := 24 + 15 * m + f
abbrev kFs (m : Nat) : Nat := 26 + 15 * m
abbrev kFx (m : Nat) : Nat := 27 + 15 * m
abbrev kPl (m : Nat) : Nat := 28 + 15 * m
abbrev kPf (m : Nat) : Nat := 29 + 15 * m
def shB (m : Nat) : List fm_C := [.inr (0, [some (kCa m 0), some (kCa m 1), some (kCa m 2), some (kCa m 3), some (kCa m 4), none, none]), .inl (0, 24, []), .inl (0, 24, []), .inl (0, 24, []), .inl (0, 24, []), .inl (0, 24, []),
  .inr (1, [some (kFm m), some (kFh m), some (kFs m), some (kFx m), none, none, none, none]), .inl (0, 4, []), .inl (5, 2, [kFr m 0, kFr m 1]), .inl (0, 27, []), .inl (0, 27, []), .inl (0, 2, []), .inl (1, 2, []),
  .inr (3, [some (kPf m)]), .inl (0, 24, [])]
def shC : List fm_C := [.inr (4, [some 1, some 2, some 3, some 4, none]), .inl (2, 5, [kC 0, kC 1, kC 2, kC 3, kC 4]), .inl (3, 5, [kF 0, kF 1, kF 2, kF 3, kF 4]), .inl (4, 5, [kPl 0, kPl 1, kPl 2, kPl 3, kPl 4]),
  .inr (2, [some 5, some 6, some 7, some 8, some 9, some 10, some 11, some 12, some 13, none, some 14, none, none, none, none, none]), .inl (0, 866, []), .inl (0, 866, []), .inl (0, 433, []), .inl (0, 4, []), .inl (0, 8, []), .inl (0, 8, []), .inl (0, 8, []), .inl (0, 32, []), .inl (0, 32, []), .inl (0, 32, [])]
  ++ (shB 0 ++ (shB 1 ++ (shB 2 ++ (shB 3 ++ shB 4))))
def shR : List fm_C := [.inr (5, [none, some 1, some 2, some 3, some 4, some 5, some 6, some 7, none, some 8, some 9, some 10, some 11, some 12, none, some 13, some 14, some 15, some 16, some 17, some 18, some 19, none, some 20, none, none, none, none, some 21, some 22]),
  .inl (0, 5, []), .inl (0, 5, []), .inl (0, 120, []), .inl (0, 120, []), .inl (0, 120, []), .inl (0, 120, []), .inl (0, 120, []), .inl (0, 20, []), .inl (0, 270, []), .inl (0, 5, []), .inl (0, 10, []), .inl (1, 24, []), .inl (0, 8, []), .inl (0, 8, []), .inl (0, 8, []), .inl (0, 32, []), .inl (0, 32, []), .inl (0, 160, []), .inl (0, 2100, []), .inl (0, 4, []), .inl (0, 32, []), .inl (0, 120, [])]
def tyA : List FieldType := [.int, .boolean, .object nC, .object nF, .object nP, .array .int]
def SC : fm_S := (vwA, shC, tyA, wsA)
def SR : fm_S := (vwA, shR, tyA, wsA)
theorem lt5 {Q : Nat → Prop} (h0 : Q 0) (h1 : Q 1) (h2 : Q 2) (h3 : Q 3) (h4 : Q 4) : ∀ m, m < 5 → Q m := by
  intro m hm
  rcases (by omega : m = 0 ∨ m = 1 ∨ m = 2 ∨ m = 3 ∨ m = 4) with e | e | e | e | e <;> subst e <;> assumption
theorem s_C {m : Nat} (h : m < 5) : SC.2.1[kC m]? = some (.inr (0, [some (kCa m 0), some (kCa m 1), some (kCa m 2), some (kCa m 3), some (kCa m 4), none, none])) := lt5 (Q := fun m => SC.2.1[kC m]? = some (.inr (0, [some (kCa m 0), some (kCa m 1), some (kCa m 2), some (kCa m 3), some (kCa m 4), none, none]))) rfl rfl rfl rfl rfl m h
theorem s_Ca0 {m : Nat} (h : m < 5) : SC.2.1[kCa m 0]? = some (.inl (0, 24, [])) := lt5 (Q := fun m => SC.2.1[kCa m 0]? = some (.inl (0, 24, []))) rfl rfl rfl rfl rfl m h
theorem s_Ca1 {m : Nat} (h : m < 5) : SC.2.1[kCa m 1]? = some (.inl (0, 24, [])) := lt5 (Q := fun m => SC.2.1[kCa m 1]? = some (.inl (0, 24, []))) rfl rfl rfl rfl rfl m h
theorem s_Ca2 {m : Nat} (h : m < 5) : SC.2.1[kCa m 2]? = some (.inl (0, 24, [])) := lt5 (Q := fun m => SC.2.1[kCa m 2]? = some (.inl (0, 24, []))) rfl rfl rfl rfl rfl m h
theorem s_Ca3 {m : Nat} (h : m < 5) : SC.2.1[kCa m 3]? = some (.inl (0, 24, [])) := lt5 (Q := fun m => SC.2.1[kCa m 3]? = some (.inl (0, 24, []))) rfl rfl rfl rfl rfl m h
theorem s_Ca4 {m : Nat} (h : m < 5) : SC.2.1[kCa m 4]? = some (.inl (0, 24, [])) := lt5 (Q := fun m => SC.2.1[kCa m 4]? = some (.inl (0, 24, []))) rfl rfl rfl rfl rfl m h
theorem s_F {m : Nat} (h : m < 5) : SC.2.1[kF m]? = some (.inr (1, [some (kFm m), some (kFh m), some (kFs m), some (kFx m), none, none, none, none])) := lt5 (Q := fun m => SC.2.1[kF m]? = some (.inr (1, [some (kFm m), some (kFh m), some (kFs m), some (kFx m), none, none, none, none]))) rfl rfl rfl rfl rfl m h
theorem s_Fm {m : Nat} (h : m < 5) : SC.2.1[kFm m]? = some (.inl (0, 4, [])) := lt5 (Q := fun m => SC.2.1[kFm m]? = some (.inl (0, 4, []))) rfl rfl rfl rfl rfl m h
theorem s_Fh {m : Nat} (h : m < 5) : SC.2.1[kFh m]? = some (.inl (5, 2, [kFr m 0, kFr m 1])) := lt5 (Q := fun m => SC.2.1[kFh m]? = some (.inl (5, 2, [kFr m 0, kFr m 1]))) rfl rfl rfl rfl rfl m h
theorem s_Fr {m f : Nat} (h : m < 5) (hf : f < 2) : SC.2.1[kFr m f]? = some (.inl (0, 27, [])) := by
  rcases (by omega : f = 0 ∨ f = 1) with e | e <;> subst e
  · exact lt5 (Q := fun m => SC.2.1[kFr m 0]? = some (.inl (0, 27, []))) rfl rfl rfl rfl rfl m h
  · exact lt5 (Q := fun m => SC.2.1[kFr m 1]? = some (.inl (0, 27, []))) rfl rfl rfl rfl rfl m h
theorem s_Fs {m : Nat} (h : m < 5) : SC.2.1[kFs m]? = some (.inl (0, 2, [])) := lt5 (Q := fun m => SC.2.1[kFs m]? = some (.inl (0, 2, []))) rfl rfl rfl rfl rfl m h
theorem s_Fx {m : Nat} (h : m < 5) : SC.2.1[kFx m]? = some (.inl (1, 2, [])) := lt5 (Q := fun m => SC.2.1[kFx m]? = some (.inl (1, 2, []))) rfl rfl rfl rfl rfl m h
theorem s_P {m : Nat} (h : m < 5) : SC.2.1[kPl m]? = some (.inr (3, [some (kPf m)])) := lt5 (Q := fun m => SC.2.1[kPl m]? = some (.inr (3, [some (kPf m)]))) rfl rfl rfl rfl rfl m h
theorem s_Pf {m : Nat} (h : m < 5) : SC.2.1[kPf m]? = some (.inl (0, 24, [])) := lt5 (Q := fun m => SC.2.1[kPf m]? = some (.inl (0, 24, []))) rfl rfl rfl rfl rfl m h
theorem r_C {m : Nat} (h : m < 5) : [kC 0, kC 1, kC 2, kC 3, kC 4][m]? = some (kC m) := lt5 (Q := fun m => [kC 0, kC 1, kC 2, kC 3, kC 4][m]? = some (kC m)) rfl rfl rfl rfl rfl m h
theorem r_F {m : Nat} (h : m < 5) : [kF 0, kF 1, kF 2, kF 3, kF 4][m]? = some (kF m) := lt5 (Q := fun m => [kF 0, kF 1, kF 2, kF 3, kF 4][m]? = some (kF m)) rfl rfl rfl rfl rfl m h
theorem r_P {m : Nat} (h : m < 5) : [kPl 0, kPl 1, kPl 2, kPl 3, kPl 4][m]? = some (kPl m) := lt5 (Q := fun m => [kPl 0, kPl 1, kPl 2, kPl 3, kPl 4][m]? = some (kPl m)) rfl rfl rfl rfl rfl m h
theorem r_Fr {m f : Nat} (hf : f < 2) : [kFr m 0, kFr m 1][f]? = some (kFr m f) := by
  rcases (by omega : f = 0 ∨ f = 1) with e | e <;> subst e <;> rfl
/-- the program that the memory holds -/
def cP (M : fm_M) (P : pr_T) : Prop := ∀ m, m < 5 → M (kC m) 5 = nI (P.1 m) ∧ M (kC m) 6 = nI (P.2.1 m) ∧
  ∀ i, i < P.1 m → M (kCa m 0) i = nI (P.2.2 m i).1 ∧ M (kCa m 1) i = nI (P.2.2 m i).2.1 ∧ M (kCa m 2) i = nI (P.2.2 m i).2.2.1 ∧ M (kCa m 3) i = nI (P.2.2 m i).2.2.2.1 ∧ M (kCa m 4) i = (P.2.2 m i).2.2.2.2
/-- the cells of the codes -/
def isC (a : Nat) : Prop := ∃ m t, m < 5 ∧ t < 6 ∧ a = 15 + 15 * m + t
theorem cP_cg {M M' : fm_M} {P : pr_T} (h : cP M P) (e : ∀ a j, isC a → M' a j = M a j) : cP M' P := by
  intro m hm
  obtain ⟨h1, h2, h3⟩ := h m hm
  have q : ∀ t, t < 6 → ∀ j, M' (15 + 15 * m + t) j = M (15 + 15 * m + t) j := fun t ht j => e _ j ⟨m, t, hm, ht, rfl⟩
  refine ⟨(q 0 (by omega) 5).trans h1, (q 0 (by omega) 6).trans h2, fun i hi => ?_⟩
  obtain ⟨a0, a1, a2, a3, a4⟩ := h3 i hi
  have w : ∀ t, t < 5 → M' (kCa m t) i = M (kCa m t) i := fun t ht => by
    have := q (t + 1) (by omega) i
    rw [show 15 + 15 * m + (t + 1) = kCa m t by show _ = 16 + 15 * m + t; omega] at this
    exact this
  exact ⟨(w 0 (by omega)).trans a0, (w 1 (by omega)).trans a1, (w 2 (by omega)).trans a2, (w 3 (by omega)).trans a3, (w 4 (by omega)).trans a4⟩
/-- the state of the analysis of method m, as the memory holds it -/
def cA (M : fm_M) (m : Nat) : an_T := (fun r => if r < 4 then M (kFm m) r else 0, fun a g => if a < 27 ∧ g < 2 then M (kFr m g) a else 0, M (kF m) 4)
theorem cA_m {M : fm_M} {m r : Nat} (h : r < 4) : (cA M m).1 r = M (kFm m) r := if_pos h
theorem cA_h {M : fm_M} {m a g : Nat} (h : a < 27) (k : g < 2) : (cA M m).2.1 a g = M (kFr m g) a := if_pos ⟨h, k⟩
theorem cA_g {M : fm_M} {m : Nat} : (cA M m).2.2 = M (kF m) 4 := rfl
/-- the cells that the steps of the analysis of m may change -/
def cW (m a j : Nat) : Prop := a = kFm m ∨ a = kFr m 0 ∨ a = kFr m 1 ∨ (a = kF m ∧ (j = 7 ∨ j = 4))
/-- a step of the analysis -/
def cS (m : Nat) (M M' : fm_M) (σ : an_T) : Prop :=
  cA M' m = σ ∧ an_le (cA M m) σ ∧ (∀ a j, ¬ cW m a j → M' a j = M a j) ∧
  ((an_same (cA M m) σ ∧ M' (kF m) 7 = M (kF m) 7) ∨ (¬ an_same (cA M m) σ ∧ M' (kF m) 7 = 1))
theorem cS_rf (m : Nat) (M : fm_M) : cS m M M (cA M m) := ⟨rfl, an_le_rf _, fun _ _ _ => rfl, Or.inl ⟨⟨rfl, rfl⟩, rfl⟩⟩
theorem cS_tr {m : Nat} {M M' M'' : fm_M} {σ τ : an_T} (h : cS m M M' σ) (k : cS m M' M'' τ) : cS m M M'' τ := by
  obtain ⟨h1, h2, h3, h4⟩ := h
  obtain ⟨k1, k2, k3, k4⟩ := k
  rw [h1] at k2 k4
  refine ⟨k1, an_le_tr h2 k2, fun a j q => (k3 a j q).trans (h3 a j q), ?_⟩
  rcases h4 with ⟨a1, a2⟩ | ⟨a1, a2⟩
  · rcases k4 with ⟨b1, b2⟩ | ⟨b1, b2⟩
    · exact Or.inl ⟨⟨a1.1.trans b1.1, a1.2.trans b1.2⟩, b2.trans a2⟩
    · refine Or.inr ⟨fun q => b1 ⟨a1.1.symm.trans q.1, a1.2.symm.trans q.2⟩, b2⟩
  · refine Or.inr ⟨fun q => a1 (an_same_mid h2 k2 q).1, ?_⟩
    rcases k4 with ⟨_, b2⟩ | ⟨_, b2⟩
    · exact b2.trans a2
    · exact b2
theorem cS_eq {m : Nat} {M M' : fm_M} {σ τ : an_T} (h : cS m M M' σ) (e : σ = τ) : cS m M M' τ := e ▸ h
theorem cS_P {m : Nat} (hm : m < 5) {M M' : fm_M} {σ : an_T} {P : pr_T} (h : cS m M M' σ) (k : cP M P) : cP M' P := by
  refine cP_cg k (fun a j q => h.2.2.1 a j (fun w => ?_))
  obtain ⟨n, t, hn, ht, e⟩ := q
  rcases w with w | w | w | ⟨w, _⟩
  · have : 22 + 15 * m = 15 + 15 * n + t := w.symm.trans e
    omega
  · have : 24 + 15 * m + 0 = 15 + 15 * n + t := w.symm.trans e
    omega
  · have : 24 + 15 * m + 1 = 15 + 15 * n + t := w.symm.trans e
    omega
  · have : 21 + 15 * m = 15 + 15 * n + t := w.symm.trans e
    omega
/-- a reference may be more: nothing changes -/
theorem cS_m0 {m r : Nat} (hr : r < 4) {M : fm_M} {s : Int32} (h : (M (kFm m) r ||| s) = M (kFm m) r) : cS m M M (an_m (cA M m) r s) := by
  refine cS_eq (cS_rf m M) (an_le_eq (an_m_up _ _ _) (an_m_le (an_le_rf _) ?_))
  rw [cA_m hr]
  exact an_or_eq.mp h
theorem cS_m1 {m r : Nat} (hr : r < 4) {M : fm_M} {s : Int32} (h : ¬ (M (kFm m) r ||| s) = M (kFm m) r) : cS m M (fm_up (fm_up M (kFm m) r (M (kFm m) r ||| s)) (kF m) 7 1) (an_m (cA M m) r s) := by
  have e : cA (fm_up (fm_up M (kFm m) r (M (kFm m) r ||| s)) (kF m) 7 1) m = an_m (cA M m) r s := by
    refine Prod.ext (funext fun x => ?_) (Prod.ext (funext fun a => funext fun g => ?_) ?_)
    · show (if x < 4 then fm_up (fm_up M (kFm m) r (M (kFm m) r ||| s)) (kF m) 7 1 (kFm m) x else 0) = (if x = r then (if x < 4 then M (kFm m) x else 0) ||| s else (if x < 4 then M (kFm m) x else 0))
      rw [fm_up_n (by show ¬ (22 + 15 * m = 21 + 15 * m ∧ _); omega)]
      by_cases z : x = r
      · subst z; rw [if_pos hr, if_pos rfl, if_pos hr, fm_up_s]
      · rw [if_neg z, fm_up_n (by omega)]
    · show (if a < 27 ∧ g < 2 then fm_up (fm_up M (kFm m) r (M (kFm m) r ||| s)) (kF m) 7 1 (kFr m g) a else 0) = (if a < 27 ∧ g < 2 then M (kFr m g) a else 0)
      split
      · rw [fm_up_n (by show ¬ (24 + 15 * m + g = 21 + 15 * m ∧ _); omega), fm_up_n (by show ¬ (24 + 15 * m + g = 22 + 15 * m ∧ _); omega)]
      · rfl
    · show fm_up (fm_up M (kFm m) r (M (kFm m) r ||| s)) (kF m) 7 1 (kF m) 4 = M (kF m) 4
      rw [fm_up_n (by omega), fm_up_n (by show ¬ (21 + 15 * m = 22 + 15 * m ∧ _); omega)]
  refine ⟨e, an_m_up _ _ _, fun a j q => ?_, Or.inr ⟨fun q => h ?_, fm_up_s⟩⟩
  · rw [fm_up_n (fun z => q (Or.inr (Or.inr (Or.inr ⟨z.1, Or.inl z.2⟩)))), fm_up_n (fun z => q (Or.inl z.1))]
  · have := congrFun q.1 r
    rw [cA_m hr] at this
    have e3 : (an_m (cA M m) r s).1 r = M (kFm m) r ||| s := by
      show (if r = r then (cA M m).1 r ||| s else (cA M m).1 r) = _
      rw [if_pos rfl, cA_m hr]
    exact (this.trans e3).symm
/-- one row, one place: more is held -/
def cHs (f a0 : Nat) : Nat → Nat → Bool := fun a g => decide (a = a0) && decide (g = f)
def cHn (f n : Nat) : Nat → Nat → Bool := fun a g => decide (a < n) && decide (g = f)
theorem an_h_0 {σ : an_T} {who : Int32} {sel : Nat → Nat → Bool} {s : Int32} (h : ∀ a g, a < 27 → g < 2 → bt who a = true → sel a g = true → an_sub s (σ.2.1 a g)) : an_h σ who sel s = σ :=
  an_le_eq (an_h_le (an_le_rf σ) (fun a ha g hg hw hs => h a g ha hg hw hs)) (an_h_up _ _ _ _)
theorem an_h_cat {σ : an_T} {w1 w2 w3 : Int32} {s1 s2 s3 : Nat → Nat → Bool} {s : Int32}
    (h : ∀ a g, a < 27 → g < 2 → ((bt w1 a = true ∧ s1 a g = true) ∨ (bt w2 a = true ∧ s2 a g = true) ↔ (bt w3 a = true ∧ s3 a g = true))) : an_h (an_h σ w1 s1 s) w2 s2 s = an_h σ w3 s3 s := by
  refine an_le_eq (an_h_le (an_h_le (an_h_up _ _ _ _) (fun a ha g hg hw hs b q => ?_)) (fun a ha g hg hw hs b q => ?_)) (an_h_le (an_le_tr (an_h_up _ _ _ _) (an_h_up _ _ _ _)) (fun a ha g hg hw hs b q => ?_))
  · have z := (h a g ha hg).mp (Or.inl ⟨hw, hs⟩)
    show bt (if a < 27 ∧ g < 2 ∧ bt w3 a = true ∧ s3 a g = true then σ.2.1 a g ||| s else σ.2.1 a g) b = true
    rw [if_pos ⟨ha, hg, z.1, z.2⟩]
    exact an_sub_orr _ _ b q
  · have z := (h a g ha hg).mp (Or.inr ⟨hw, hs⟩)
    show bt (if a < 27 ∧ g < 2 ∧ bt w3 a = true ∧ s3 a g = true then σ.2.1 a g ||| s else σ.2.1 a g) b = true
    rw [if_pos ⟨ha, hg, z.1, z.2⟩]
    exact an_sub_orr _ _ b q
  · rcases (h a g ha hg).mpr ⟨hw, hs⟩ with z | z
    · refine (an_h_up (an_h σ w1 s1 s) w2 s2 s).2.1 a g b ?_
      show bt (if a < 27 ∧ g < 2 ∧ bt w1 a = true ∧ s1 a g = true then σ.2.1 a g ||| s else σ.2.1 a g) b = true
      rw [if_pos ⟨ha, hg, z.1, z.2⟩]
      exact an_sub_orr _ _ b q
    · show bt (if a < 27 ∧ g < 2 ∧ bt w2 a = true ∧ s2 a g = true then (an_h σ w1 s1 s).2.1 a g ||| s else (an_h σ w1 s1 s).2.1 a g) b = true
      rw [if_pos ⟨ha, hg, z.1, z.2⟩]
      exact an_sub_orr _ _ b q
/-- the loop of holdIn: place n isn't asked for, or holds it already -/
theorem cS_h0 {m f n : Nat} (hf : f < 2) (hn : n < 27) {M M' : fm_M} {who s : Int32} (h : cS m M M' (an_h (cA M m) who (cHn f n) s)) (k : ¬ (bt who n = true ∧ ¬ (M' (kFr m f) n ||| s) = M' (kFr m f) n)) : cS m M M' (an_h (cA M m) who (cHn f (n + 1)) s) := by
  have k' : bt who n = true → (M' (kFr m f) n ||| s) = M' (kFr m f) n := fun q => Classical.byContradiction (fun z => k ⟨q, z⟩)
  refine cS_eq h ?_
  have e : an_h (an_h (cA M m) who (cHn f n) s) who (cHs f n) s = an_h (cA M m) who (cHn f (n + 1)) s := by
    refine an_h_cat (fun a g ha hg => ?_)
    simp only [cHn, cHs, Bool.and_eq_true, decide_eq_true_eq]
    constructor
    · rintro (⟨a1, a2, a3⟩ | ⟨a1, a2, a3⟩)
      · exact ⟨a1, by omega, a3⟩
      · exact ⟨a1, by omega, a3⟩
    · rintro ⟨a1, a2, a3⟩
      by_cases z : a = n
      · exact Or.inr ⟨a1, z, a3⟩
      · exact Or.inl ⟨a1, by omega, a3⟩
  rw [← e]
  refine (an_h_0 (fun a g ha hg hw hs => ?_)).symm
  simp only [cHs, Bool.and_eq_true, decide_eq_true_eq] at hs
  obtain ⟨rfl, rfl⟩ := hs
  rw [← h.1, cA_h ha hg]
  exact an_or_eq.mp (k' hw)
theorem cS_h1 {m f n : Nat} (hf : f < 2) (hn : n < 27) {M M' : fm_M} {who s : Int32} (h : cS m M M' (an_h (cA M m) who (cHn f n) s)) (hw : bt who n = true) (hne : ¬ (M' (kFr m f) n ||| s) = M' (kFr m f) n) : cS m M (fm_up (fm_up M' (kFr m f) n (M' (kFr m f) n ||| s)) (kF m) 7 1) (an_h (cA M m) who (cHn f (n + 1)) s) := by
  refine cS_tr h ?_
  have e : an_h (cA M' m) who (cHs f n) s = an_h (cA M m) who (cHn f (n + 1)) s := by
    rw [h.1]
    refine an_h_cat (fun a g ha hg => ?_)
    simp only [cHn, cHs, Bool.and_eq_true, decide_eq_true_eq]
    constructor
    · rintro (⟨a1, a2, a3⟩ | ⟨a1, a2, a3⟩)
      · exact ⟨a1, by omega, a3⟩
      · exact ⟨a1, by omega, a3⟩
    · rintro ⟨a1, a2, a3⟩
      by_cases z : a = n
      · exact Or.inr ⟨a1, z, a3⟩
      · exact Or.inl ⟨a1, by omega, a3⟩
  rw [← e]
  have e2 : cA (fm_up (fm_up M' (kFr m f) n (M' (kFr m f) n ||| s)) (kF m) 7 1) m = an_h (cA M' m) who (cHs f n) s := by
    refine Prod.ext (funext fun x => ?_) (Prod.ext (funext fun a => funext fun g => ?_) ?_)
    · show (if x < 4 then fm_up (fm_up M' (kFr m f) n (M' (kFr m f) n ||| s)) (kF m) 7 1 (kFm m) x else 0) = (if x < 4 then M' (kFm m) x else 0)
      rw [fm_up_n (by show ¬ (22 + 15 * m = 21 + 15 * m ∧ _); omega), fm_up_n (by show ¬ (22 + 15 * m = 24 + 15 * m + f ∧ _); omega)]
    · show (if a < 27 ∧ g < 2 then fm_up (fm_up M' (kFr m f) n (M' (kFr m f) n ||| s)) (kF m) 7 1 (kFr m g) a else 0) = (if a < 27 ∧ g < 2 ∧ bt who a = true ∧ cHs f n a g = true then (if a < 27 ∧ g < 2 then M' (kFr m g) a else 0) ||| s else (if a < 27 ∧ g < 2 then M' (kFr m g) a else 0))
      by_cases z : a < 27 ∧ g < 2
      · rw [if_pos z, if_pos z, fm_up_n (by show ¬ (24 + 15 * m + g = 21 + 15 * m ∧ _); omega)]
        by_cases y : a = n ∧ g = f
        · obtain ⟨rfl, rfl⟩ := y
          rw [fm_up_s, if_pos ⟨z.1, z.2, hw, by simp [cHs]⟩]
        · rw [fm_up_n (by show ¬ (24 + 15 * m + g = 24 + 15 * m + f ∧ _); omega), if_neg (fun q => y (by simpa [cHs] using q.2.2.2))]
      · rw [if_neg z, if_neg z, if_neg (fun q => z ⟨q.1, q.2.1⟩)]
    · show fm_up (fm_up M' (kFr m f) n (M' (kFr m f) n ||| s)) (kF m) 7 1 (kF m) 4 = M' (kF m) 4
      rw [fm_up_n (by omega), fm_up_n (by show ¬ (21 + 15 * m = 24 + 15 * m + f ∧ _); omega)]
  refine ⟨e2, an_h_up _ _ _ _, fun a j q => ?_, Or.inr ⟨fun q => hne ?_, fm_up_s⟩⟩
  · rw [fm_up_n (fun z => q (Or.inr (Or.inr (Or.inr ⟨z.1, Or.inl z.2⟩)))), fm_up_n (fun z => ?_)]
    rcases (show f = 0 ∨ f = 1 by omega) with w | w
    · subst w; exact q (Or.inr (Or.inl z.1))
    · subst w; exact q (Or.inr (Or.inr (Or.inl z.1)))
  · have := congrFun (congrFun q.2 n) f
    rw [cA_h hn hf] at this
    have e3 : (an_h (cA M' m) who (cHs f n) s).2.1 n f = (cA M' m).2.1 n f ||| s := if_pos ⟨hn, hf, hw, by simp [cHs]⟩
    rw [e3, cA_h hn hf] at this
    exact this.symm
end
section
/-! THE REFERENCE'S STATE over flat memory: cell 0 the object; 1 params, 2 lengths, 3 op, 4 xs, 5 ys, 6 zs, 7 ns, 8 may, 9 hold, 10 given, 11 summary, 12 open, 13 method, 14 place, 15 goal, 16 refs, 17 ints, 18 parts, 19 objects, 20 globals, 21 shown, 22 fates -/
/-- the program that the memory holds -/
def rP (M : fm_M) (P : pr_T) : Prop := ∀ m, m < 5 → M 2 m = nI (P.1 m) ∧ M 1 m = nI (P.2.1 m) ∧
  ∀ i, i < P.1 m → M 3 (24 * m + i) = nI (P.2.2 m i).1 ∧ M 4 (24 * m + i) = nI (P.2.2 m i).2.1 ∧ M 5 (24 * m + i) = nI (P.2.2 m i).2.2.1 ∧ M 6 (24 * m + i) = nI (P.2.2 m i).2.2.2.1 ∧ M 7 (24 * m + i) = (P.2.2 m i).2.2.2.2
theorem rP_cg {M M' : fm_M} {P : pr_T} (h : rP M P) (e : ∀ a j, 1 ≤ a → a ≤ 7 → M' a j = M a j) : rP M' P := by
  intro m hm
  obtain ⟨h1, h2, h3⟩ := h m hm
  refine ⟨(e 2 m (by omega) (by omega)).trans h1, (e 1 m (by omega) (by omega)).trans h2, fun i hi => ?_⟩
  obtain ⟨a0, a1, a2, a3, a4⟩ := h3 i hi
  exact ⟨(e 3 _ (by omega) (by omega)).trans a0, (e 4 _ (by omega) (by omega)).trans a1, (e 5 _ (by omega) (by omega)).trans a2, (e 6 _ (by omega) (by omega)).trans a3, (e 7 _ (by omega) (by omega)).trans a4⟩
def rA (M : fm_M) (m : Nat) : an_T := (fun r => if r < 4 then M 8 (4 * m + r) else 0, fun a g => if a < 27 ∧ g < 2 then M 9 (54 * m + 2 * a + g) else 0, M 10 m)
theorem rA_m {M : fm_M} {m r : Nat} (h : r < 4) : (rA M m).1 r = M 8 (4 * m + r) := if_pos h
theorem rA_h {M : fm_M} {m a g : Nat} (h : a < 27) (k : g < 2) : (rA M m).2.1 a g = M 9 (54 * m + 2 * a + g) := if_pos ⟨h, k⟩
/-- the places that the analysis of m may change -/
def rW (m a j : Nat) : Prop := (a = 8 ∧ 4 * m ≤ j ∧ j < 4 * m + 4) ∨ (a = 9 ∧ 54 * m ≤ j ∧ j < 54 * m + 54) ∨ (a = 10 ∧ j = m)
def rS (m : Nat) (M M' : fm_M) (σ : an_T) : Prop := rA M' m = σ ∧ ∀ a j, ¬ rW m a j → M' a j = M a j
theorem rS_rf (m : Nat) (M : fm_M) : rS m M M (rA M m) := ⟨rfl, fun _ _ _ => rfl⟩
theorem rS_tr {m : Nat} {M M' M'' : fm_M} {σ τ : an_T} (h : rS m M M' σ) (k : rS m M' M'' τ) : rS m M M'' τ :=
  ⟨k.1, fun a j q => (k.2 a j q).trans (h.2 a j q)⟩
theorem rS_eq {m : Nat} {M M' : fm_M} {σ τ : an_T} (h : rS m M M' σ) (e : σ = τ) : rS m M M' τ := e ▸ h
theorem rS_P {m : Nat} {M M' : fm_M} {σ : an_T} {P : pr_T} (h : rS m M M' σ) (k : rP M P) : rP M' P := by
  refine rP_cg k (fun a j h1 h2 => h.2 a j (fun w => ?_))
  rcases w with w | w | w <;> omega
/-- another method's state is as it was -/
theorem rS_o {m n : Nat} (hn : n ≠ m) {M M' : fm_M} {σ : an_T} (h : rS m M M' σ) : rA M' n = rA M n := by
  refine Prod.ext (funext fun x => ?_) (Prod.ext (funext fun a => funext fun g => ?_) ?_)
  · show (if x < 4 then M' 8 (4 * n + x) else 0) = (if x < 4 then M 8 (4 * n + x) else 0)
    split
    · exact h.2 _ _ (fun w => by rcases w with w | w | w <;> omega)
    · rfl
  · show (if a < 27 ∧ g < 2 then M' 9 (54 * n + 2 * a + g) else 0) = (if a < 27 ∧ g < 2 then M 9 (54 * n + 2 * a + g) else 0)
    split
    · exact h.2 _ _ (fun w => by rcases w with w | w | w <;> omega)
    · rfl
  · exact h.2 10 n (fun w => by rcases w with w | w | w <;> omega)
theorem rS_m {m x : Nat} (hx : x < 4) (M : fm_M) (s : Int32) : rS m M (fm_up M 8 (4 * m + x) (M 8 (4 * m + x) ||| s)) (an_m (rA M m) x s) := by
  refine ⟨Prod.ext (funext fun r => ?_) (Prod.ext (funext fun a => funext fun g => ?_) ?_), fun a j q => ?_⟩
  · show (if r < 4 then fm_up M 8 (4 * m + x) (M 8 (4 * m + x) ||| s) 8 (4 * m + r) else 0) = (if r = x then (if r < 4 then M 8 (4 * m + r) else 0) ||| s else (if r < 4 then M 8 (4 * m + r) else 0))
    by_cases z : r = x
    · subst z; rw [if_pos hx, if_pos rfl, if_pos hx, fm_up_s]
    · rw [if_neg z, fm_up_n (by omega)]
  · show (if a < 27 ∧ g < 2 then fm_up M 8 (4 * m + x) (M 8 (4 * m + x) ||| s) 9 (54 * m + 2 * a + g) else 0) = (if a < 27 ∧ g < 2 then M 9 (54 * m + 2 * a + g) else 0)
    rw [fm_up_n (by omega)]
  · show fm_up M 8 (4 * m + x) (M 8 (4 * m + x) ||| s) 10 m = M 10 m
    rw [fm_up_n (by omega)]
  · exact fm_up_n (fun z => q (Or.inl ⟨z.1, by omega, by omega⟩))
theorem rS_g {m : Nat} (M : fm_M) (s : Int32) : rS m M (fm_up M 10 m (M 10 m ||| s)) (an_g (rA M m) s) := by
  refine ⟨Prod.ext (funext fun r => ?_) (Prod.ext (funext fun a => funext fun g => ?_) ?_), fun a j q => ?_⟩
  · show (if r < 4 then fm_up M 10 m (M 10 m ||| s) 8 (4 * m + r) else 0) = (if r < 4 then M 8 (4 * m + r) else 0)
    rw [fm_up_n (by omega)]
  · show (if a < 27 ∧ g < 2 then fm_up M 10 m (M 10 m ||| s) 9 (54 * m + 2 * a + g) else 0) = (if a < 27 ∧ g < 2 then M 9 (54 * m + 2 * a + g) else 0)
    rw [fm_up_n (by omega)]
  · show fm_up M 10 m (M 10 m ||| s) 10 m = M 10 m ||| s
    exact fm_up_s
  · exact fm_up_n (fun z => q (Or.inr (Or.inr z)))
/-- which places 'holds' has gone through, and takes -/
def rHs (f : Nat) : Nat → Nat → Bool := fun a g => decide (23 < a) || (decide (g = f) || decide (f = 2))
def rHn (f n : Nat) : Nat → Nat → Bool := fun a g => decide (2 * a + g < n) && rHs f a g
theorem rHn_0 (σ : an_T) (who s : Int32) (f : Nat) : an_h σ who (rHn f 0) s = σ :=
  an_h_0 (fun a g _ _ _ hs => by simp [rHn] at hs)
theorem rHn_54 (σ : an_T) (who s : Int32) (f : Nat) : an_h σ who (rHn f 54) s = an_h σ who (rHs f) s := by
  refine Prod.ext rfl (Prod.ext (funext fun a => funext fun g => ?_) rfl)
  show (if a < 27 ∧ g < 2 ∧ bt who a = true ∧ rHn f 54 a g = true then σ.2.1 a g ||| s else σ.2.1 a g) = (if a < 27 ∧ g < 2 ∧ bt who a = true ∧ rHs f a g = true then σ.2.1 a g ||| s else σ.2.1 a g)
  by_cases z : a < 27 ∧ g < 2
  · have e : rHn f 54 a g = rHs f a g := by
      unfold rHn
      rw [decide_eq_true (by omega), Bool.true_and]
    rw [e]
  · rw [if_neg (fun q => z ⟨q.1, q.2.1⟩), if_neg (fun q => z ⟨q.1, q.2.1⟩)]
theorem rHs_2 : rHs 2 = an_al := by
  funext a g
  simp [rHs, an_al]
/-- an object that isn't asked for is passed over -/
theorem rS_hs {m f o : Nat} {M M' : fm_M} {σ : an_T} {who s : Int32} (h : rS m M M' (an_h σ who (rHn f (2 * o)) s)) (k : ¬ bt who o = true) : rS m M M' (an_h σ who (rHn f (2 * (o + 1))) s) := by
  refine rS_eq h (Prod.ext rfl (Prod.ext (funext fun a => funext fun g => ?_) rfl))
  show (if a < 27 ∧ g < 2 ∧ bt who a = true ∧ rHn f (2 * o) a g = true then σ.2.1 a g ||| s else σ.2.1 a g) = (if a < 27 ∧ g < 2 ∧ bt who a = true ∧ rHn f (2 * (o + 1)) a g = true then σ.2.1 a g ||| s else σ.2.1 a g)
  by_cases z : a < 27 ∧ g < 2 ∧ bt who a = true
  · have z2 : a ≠ o := fun e => k (e ▸ z.2.2)
    have e : rHn f (2 * o) a g = rHn f (2 * (o + 1)) a g := by
      unfold rHn
      congr 1
      by_cases y : 2 * a + g < 2 * o
      · rw [decide_eq_true y, decide_eq_true (by omega)]
      · rw [decide_eq_false y, decide_eq_false (by omega)]
    rw [e]
  · rw [if_neg (fun q => z ⟨q.1, q.2.1, q.2.2.1⟩), if_neg (fun q => z ⟨q.1, q.2.1, q.2.2.1⟩)]
/-- one place -/
theorem rS_hp {m f o g0 : Nat} (ho : o < 27) (hg0 : g0 < 2) {M M' : fm_M} {σ : an_T} {who s v : Int32} (hw : bt who o = true) (h : rS m M M' (an_h σ who (rHn f (2 * o + g0)) s))
    (hv : v = if rHs f o g0 = true then M' 9 (54 * m + 2 * o + g0) ||| s else M' 9 (54 * m + 2 * o + g0)) : rS m M (fm_up M' 9 (54 * m + 2 * o + g0) v) (an_h σ who (rHn f (2 * o + g0 + 1)) s) := by
  obtain ⟨h1, h2⟩ := h
  have hh : ∀ a g, a < 27 → g < 2 → M' 9 (54 * m + 2 * a + g) = (an_h σ who (rHn f (2 * o + g0)) s).2.1 a g := fun a g ha hg => by rw [← h1, rA_h ha hg]
  refine ⟨Prod.ext (funext fun r => ?_) (Prod.ext (funext fun a => funext fun g => ?_) ?_), fun a j q => ?_⟩
  · have := congrFun (congrArg Prod.fst h1) r
    show (if r < 4 then fm_up M' 9 (54 * m + 2 * o + g0) v 8 (4 * m + r) else 0) = σ.1 r
    rw [fm_up_n (by omega)]
    exact this
  · show (if a < 27 ∧ g < 2 then fm_up M' 9 (54 * m + 2 * o + g0) v 9 (54 * m + 2 * a + g) else 0) = (if a < 27 ∧ g < 2 ∧ bt who a = true ∧ rHn f (2 * o + g0 + 1) a g = true then σ.2.1 a g ||| s else σ.2.1 a g)
    by_cases z : a < 27 ∧ g < 2
    · rw [if_pos z]
      by_cases y : a = o ∧ g = g0
      · obtain ⟨rfl, rfl⟩ := y
        rw [fm_up_s, hv, hh a g z.1 z.2]
        have e1 : (an_h σ who (rHn f (2 * a + g)) s).2.1 a g = σ.2.1 a g := if_neg (fun q => by
          have := q.2.2.2
          unfold rHn at this
          rw [decide_eq_false (by omega), Bool.false_and] at this
          exact absurd this (by decide))
        rw [e1]
        have e2 : rHn f (2 * a + g + 1) a g = rHs f a g := by
          unfold rHn
          rw [decide_eq_true (by omega), Bool.true_and]
        rw [e2]
        by_cases x : rHs f a g = true
        · rw [if_pos x, if_pos ⟨z.1, z.2, hw, x⟩]
        · rw [if_neg x, if_neg (fun q => x q.2.2.2)]
      · rw [fm_up_n (by omega), hh a g z.1 z.2]
        show (if a < 27 ∧ g < 2 ∧ bt who a = true ∧ rHn f (2 * o + g0) a g = true then σ.2.1 a g ||| s else σ.2.1 a g) = _
        have e : rHn f (2 * o + g0) a g = rHn f (2 * o + g0 + 1) a g := by
          unfold rHn
          congr 1
          by_cases x : 2 * a + g < 2 * o + g0
          · rw [decide_eq_true x, decide_eq_true (by omega)]
          · rw [decide_eq_false x, decide_eq_false (by omega)]
        rw [e]
    · rw [if_neg z, if_neg (fun q => z ⟨q.1, q.2.1⟩)]
      have := congrFun (congrFun (congrArg (fun t : an_T => t.2.1) h1) a) g
      have e0 : (rA M' m).2.1 a g = 0 := if_neg z
      have e1 : (an_h σ who (rHn f (2 * o + g0)) s).2.1 a g = σ.2.1 a g := if_neg (fun q => z ⟨q.1, q.2.1⟩)
      have e2 : (rA M' m).2.1 a g = (an_h σ who (rHn f (2 * o + g0)) s).2.1 a g := this
      rw [← e1, ← e2, e0]
  · have := congrArg (fun t : an_T => t.2.2) h1
    show fm_up M' 9 (54 * m + 2 * o + g0) v 10 m = σ.2.2
    rw [fm_up_n (by omega)]
    exact this
  · rw [fm_up_n (fun z => q (Or.inr (Or.inl ⟨z.1, by omega, by omega⟩)))]
    exact h2 a j q
/-- what one object holds -/
theorem an_hb_1 (row : Nat → Int32) {k : Nat} (hk : k < 27) : an_hb row (an_1 k) 27 = row k := by
  refine an_eq (fun b q => ?_) (fun b q => (an_hb_bt _ _ _ _).mpr ⟨k, hk, an_1_self (by omega), q⟩)
  obtain ⟨a, ha, hw, hb⟩ := (an_hb_bt _ _ _ _).mp q
  rw [an_1_bt (by omega), decide_eq_true_eq] at hw
  rw [← hw]; exact hb
end
section
/-! CALLS by the kind of what they answer; leaves; switches -/
/-- it answers v, the memory is M2 behind it -/
def fm_rv (v : Int32) (M2 : fm_M) : Option Int32 → fm_M → Prop := fun r M' => r = some v ∧ M' = M2
/-- it answers nothing, the memory is M2 behind it -/
def fm_vv (M2 : fm_M) : Option Int32 → fm_M → Prop := fun r M' => r = none ∧ M' = M2
/-- it answers nothing, R holds of the memory behind it -/
def fm_vr (R : fm_M → Prop) : Option Int32 → fm_M → Prop := fun r M' => r = none ∧ R M'
/-- it answers a number, R holds of it and of the memory behind it -/
def fm_ir (R : Int32 → fm_M → Prop) : Option Int32 → fm_M → Prop := fun r M' => ∃ v, r = some v ∧ R v M'
section FM2
variable {S : fm_S} {Y : fm_Y} {X : fm_X} {M0 M : fm_M} {post : Option Int32 → fm_M → Prop} {pc : Nat} {ls : fm_L} {st : List fm_V}
variable {pq : Nat} {y : MethodName} {bytes : ByteArray} {maxL d1 index n : Nat} {ret : Option FieldType} {as : List fm_V} {stk : List fm_V}
theorem fm_callS_i {v : Int32} {M2 : fm_M} (hX : fm_Ctx S Y X) (hcs : fm_cs S.2.2.2 Y.1 index y bytes maxL ret n) (hstt : Cond.static y ∈ S.2.2.2) (hM : fm_ct S y bytes maxL ret d1 as M (fm_rv v M2)) (hlen : as.length = n) (hstk : stk = as.reverse ++ st) (hdp : d1 + 1 ≤ Y.2.2.2.2) (hst8 : st.length ≤ 8) (hd : decode Y.2.1 pc = .ok (.invokestatic index, 3)) (hq : pc + 3 = pq)
    (k : fm_G S Y X M0 post pq ls (.inl v :: st) M2) : fm_G S Y X M0 post pc ls stk M :=
  fm_callS hX hcs hstt hM hlen hstk hdp hst8 hd hq (fun r M1 h => by rw [h.1, h.2]; exact k)
theorem fm_callS_v {M2 : fm_M} (hX : fm_Ctx S Y X) (hcs : fm_cs S.2.2.2 Y.1 index y bytes maxL ret n) (hstt : Cond.static y ∈ S.2.2.2) (hM : fm_ct S y bytes maxL ret d1 as M (fm_vv M2)) (hlen : as.length = n) (hstk : stk = as.reverse ++ st) (hdp : d1 + 1 ≤ Y.2.2.2.2) (hst8 : st.length ≤ 8) (hd : decode Y.2.1 pc = .ok (.invokestatic index, 3)) (hq : pc + 3 = pq)
    (k : fm_G S Y X M0 post pq ls st M2) : fm_G S Y X M0 post pc ls stk M :=
  fm_callS hX hcs hstt hM hlen hstk hdp hst8 hd hq (fun r M1 h => by rw [h.1, h.2]; exact k)
theorem fm_callS_r {R : fm_M → Prop} (hX : fm_Ctx S Y X) (hcs : fm_cs S.2.2.2 Y.1 index y bytes maxL ret n) (hstt : Cond.static y ∈ S.2.2.2) (hM : fm_ct S y bytes maxL ret d1 as M (fm_vr R)) (hlen : as.length = n) (hstk : stk = as.reverse ++ st) (hdp : d1 + 1 ≤ Y.2.2.2.2) (hst8 : st.length ≤ 8) (hd : decode Y.2.1 pc = .ok (.invokestatic index, 3)) (hq : pc + 3 = pq)
    (k : ∀ M1, R M1 → fm_G S Y X M0 post pq ls st M1) : fm_G S Y X M0 post pc ls stk M :=
  fm_callS hX hcs hstt hM hlen hstk hdp hst8 hd hq (fun r M1 h => by rw [h.1]; exact k M1 h.2)
theorem fm_callS_x {R : Int32 → fm_M → Prop} (hX : fm_Ctx S Y X) (hcs : fm_cs S.2.2.2 Y.1 index y bytes maxL ret n) (hstt : Cond.static y ∈ S.2.2.2) (hM : fm_ct S y bytes maxL ret d1 as M (fm_ir R)) (hlen : as.length = n) (hstk : stk = as.reverse ++ st) (hdp : d1 + 1 ≤ Y.2.2.2.2) (hst8 : st.length ≤ 8) (hd : decode Y.2.1 pc = .ok (.invokestatic index, 3)) (hq : pc + 3 = pq)
    (k : ∀ v M1, R v M1 → fm_G S Y X M0 post pq ls (.inl v :: st) M1) : fm_G S Y X M0 post pc ls stk M :=
  fm_callS hX hcs hstt hM hlen hstk hdp hst8 hd hq (fun r M1 h => by obtain ⟨v, h1, h2⟩ := h; rw [h1]; exact k v M1 h2)
variable {b ci : Nat} {lb : List (Option Nat)} {C : String} {T : u_T} {N : Nat}
theorem fm_callV_i {v : Int32} {M2 : fm_M} (hX : fm_Ctx S Y X) (hb1 : S.2.1[b]? = some (.inr (ci, lb))) (hc : S.1[ci]? = some (C, T, N)) (hcs : fm_cs S.2.2.2 Y.1 index y bytes maxL ret n) (hC : y.cls = C) (hinm : Cond.instanceMethod y ∈ S.2.2.2) (hsel : Cond.selects C y y ∈ S.2.2.2) (hM : fm_ct S y bytes maxL ret d1 (.inr b :: as) M (fm_rv v M2)) (hlen : as.length = n) (hstk : stk = as.reverse ++ .inr b :: st) (hdp : d1 + 1 ≤ Y.2.2.2.2) (hst8 : st.length ≤ 8) (hd : decode Y.2.1 pc = .ok (.invokevirtual index, 3)) (hq : pc + 3 = pq)
    (k : fm_G S Y X M0 post pq ls (.inl v :: st) M2) : fm_G S Y X M0 post pc ls stk M :=
  fm_callV hX hb1 hc hcs hC hinm hsel hM hlen hstk hdp hst8 hd hq (fun r M1 h => by rw [h.1, h.2]; exact k)
theorem fm_callV_v {M2 : fm_M} (hX : fm_Ctx S Y X) (hb1 : S.2.1[b]? = some (.inr (ci, lb))) (hc : S.1[ci]? = some (C, T, N)) (hcs : fm_cs S.2.2.2 Y.1 index y bytes maxL ret n) (hC : y.cls = C) (hinm : Cond.instanceMethod y ∈ S.2.2.2) (hsel : Cond.selects C y y ∈ S.2.2.2) (hM : fm_ct S y bytes maxL ret d1 (.inr b :: as) M (fm_vv M2)) (hlen : as.length = n) (hstk : stk = as.reverse ++ .inr b :: st) (hdp : d1 + 1 ≤ Y.2.2.2.2) (hst8 : st.length ≤ 8) (hd : decode Y.2.1 pc = .ok (.invokevirtual index, 3)) (hq : pc + 3 = pq)
    (k : fm_G S Y X M0 post pq ls st M2) : fm_G S Y X M0 post pc ls stk M :=
  fm_callV hX hb1 hc hcs hC hinm hsel hM hlen hstk hdp hst8 hd hq (fun r M1 h => by rw [h.1, h.2]; exact k)
theorem fm_callV_r {R : fm_M → Prop} (hX : fm_Ctx S Y X) (hb1 : S.2.1[b]? = some (.inr (ci, lb))) (hc : S.1[ci]? = some (C, T, N)) (hcs : fm_cs S.2.2.2 Y.1 index y bytes maxL ret n) (hC : y.cls = C) (hinm : Cond.instanceMethod y ∈ S.2.2.2) (hsel : Cond.selects C y y ∈ S.2.2.2) (hM : fm_ct S y bytes maxL ret d1 (.inr b :: as) M (fm_vr R)) (hlen : as.length = n) (hstk : stk = as.reverse ++ .inr b :: st) (hdp : d1 + 1 ≤ Y.2.2.2.2) (hst8 : st.length ≤ 8) (hd : decode Y.2.1 pc = .ok (.invokevirtual index, 3)) (hq : pc + 3 = pq)
    (k : ∀ M1, R M1 → fm_G S Y X M0 post pq ls st M1) : fm_G S Y X M0 post pc ls stk M :=
  fm_callV hX hb1 hc hcs hC hinm hsel hM hlen hstk hdp hst8 hd hq (fun r M1 h => by rw [h.1]; exact k M1 h.2)
theorem fm_callV_x {R : Int32 → fm_M → Prop} (hX : fm_Ctx S Y X) (hb1 : S.2.1[b]? = some (.inr (ci, lb))) (hc : S.1[ci]? = some (C, T, N)) (hcs : fm_cs S.2.2.2 Y.1 index y bytes maxL ret n) (hC : y.cls = C) (hinm : Cond.instanceMethod y ∈ S.2.2.2) (hsel : Cond.selects C y y ∈ S.2.2.2) (hM : fm_ct S y bytes maxL ret d1 (.inr b :: as) M (fm_ir R)) (hlen : as.length = n) (hstk : stk = as.reverse ++ .inr b :: st) (hdp : d1 + 1 ≤ Y.2.2.2.2) (hst8 : st.length ≤ 8) (hd : decode Y.2.1 pc = .ok (.invokevirtual index, 3)) (hq : pc + 3 = pq)
    (k : ∀ v M1, R v M1 → fm_G S Y X M0 post pq ls (.inl v :: st) M1) : fm_G S Y X M0 post pc ls stk M :=
  fm_callV hX hb1 hc hcs hC hinm hsel hM hlen hstk hdp hst8 hd hq (fun r M1 h => by obtain ⟨v, h1, h2⟩ := h; rw [h1]; exact k v M1 h2)
/-- where a tableswitch goes -/
def fm_tsel (dflt lo hi : Int) (offs : Array Int) (v : Int) : Int := if v < lo ∨ hi < v then dflt else offs.getD (v - lo).toNat dflt
theorem fm_table (hX : fm_Ctx S Y X) {dflt lo hi : Int} {offs : Array Int} {len : Nat} {x : Int32} {off : Int} {tgt : Nat} (hd : decode Y.2.1 pc = .ok (.tableswitch dflt lo hi offs, len)) (hsz : (offs.size : Int) = hi - lo + 1) (hs : fm_tsel dflt lo hi offs x.toInt = off) (ht : (pc : Int) + off = (tgt : Int))
    (k : fm_G S Y X M0 post tgt ls st M) : fm_G S Y X M0 post pc ls (.inl x :: st) M := by
  unfold fm_tsel at hs
  by_cases h : x.toInt < lo ∨ hi < x.toInt
  · rw [if_pos h] at hs
    exact fm_tableOut hX hd h (by rw [hs]; exact ht) k
  · rw [if_neg h] at hs
    have hlt : (x.toInt - lo).toNat < offs.size := by omega
    refine fm_tableIn hX hd (fun z => h (Or.inl z)) (fun z => h (Or.inr z)) (off := off) ?_ ht k
    rw [← hs, Array.getElem?_eq_getElem hlt]
    simp [Array.getD, hlt]
end FM2
theorem fm_b1 {p : Prop} [Decidable p] (h : p) : nI 1 = bI (decide p) := by rw [decide_eq_true h]; rfl
theorem fm_b0 {p : Prop} [Decidable p] (h : ¬ p) : nI 0 = bI (decide p) := by rw [decide_eq_false h]; rfl
theorem fm_rvi {v w : Int32} {M2 : fm_M} (h : w = v) : fm_rv v M2 (some w) M2 := ⟨congrArg some h, rfl⟩
theorem fm_arg {p : Nat} (h : p < 2) : (16777216 : Int32) <<< (nI p &&& 31) = an_1 (24 + p) := by
  rcases (by omega : p = 0 ∨ p = 1) with e | e <;> subst e <;> decide +kernel
theorem fm_Wc : (67108864 : Int32) = an_W := by decide +kernel
theorem fm_up_a {M : fm_M} {k j a b : Nat} {x : Int32} (h : a ≠ k) : fm_up M k j x a b = M a b := fm_up_n (fun z => h z.1)
theorem fm_up_b {M : fm_M} {k j a b : Nat} {x : Int32} (h : b ≠ j) : fm_up M k j x a b = M a b := fm_up_n (fun z => h z.2)
/-- a local is forgotten -/
theorem fm_drop {S : fm_S} {Y : fm_Y} {X : fm_X} {M0 M : fm_M} {post : Option Int32 → fm_M → Prop} {pc : Nat} {ls ls1 : fm_L} {st : List fm_V} (k : Nat) (hs : ls.set k none = ls1) (h : fm_G S Y X M0 post pc ls1 st M) : fm_G S Y X M0 post pc ls st M := by
  subst hs
  refine fm_less (fun i v hv => ?_) h
  by_cases e : k = i
  · subst e
    rw [List.getElem?_set] at hv
    split at hv
    · split at hv
      · simp at hv
      · simp at hv
    · exact hv
  · rw [List.getElem?_set_ne e] at hv
    exact hv
theorem cP_up {M : fm_M} {P : pr_T} {a j : Nat} {x : Int32} (h : cP M P) (hn : ∀ n t, n < 5 → t < 6 → a ≠ 15 + 15 * n + t) : cP (fm_up M a j x) P :=
  cP_cg h (fun b i q => by
    obtain ⟨n, t, h1, h2, e⟩ := q
    exact fm_up_a (fun z => hn n t h1 h2 (z ▸ e)))
theorem an_hb_t {row : Nat → Int32} {who : Int32} {i : Nat} (h : bt who i = true) : an_hb row who (i + 1) = an_hb row who i ||| row i := if_pos h
theorem an_hb_f {row : Nat → Int32} {who : Int32} {i : Nat} (h : bt who i = false) : an_hb row who (i + 1) = an_hb row who i := if_neg (by rw [h]; decide)
theorem an_rcn_b {h : Nat → Nat → Int32} {n : Nat} {s : Int32} (e : an_rnd h s = s) : an_rcn h (n + 1) s = s := if_pos e
theorem an_rcn_n {h : Nat → Nat → Int32} {n : Nat} {s : Int32} (e : ¬ an_rnd h s = s) : an_rcn h (n + 1) s = an_rcn h n (an_rnd h s) := if_neg e
theorem cHn_27 (σ : an_T) (who s : Int32) (f : Nat) : an_h σ who (cHn f 27) s = an_h σ who (fun _ g => decide (g = f)) s := by
  refine Prod.ext rfl (Prod.ext (funext fun a => funext fun g => ?_) rfl)
  show (if a < 27 ∧ g < 2 ∧ bt who a = true ∧ cHn f 27 a g = true then σ.2.1 a g ||| s else σ.2.1 a g) = (if a < 27 ∧ g < 2 ∧ bt who a = true ∧ decide (g = f) = true then σ.2.1 a g ||| s else σ.2.1 a g)
  by_cases z : a < 27
  · have e : cHn f 27 a g = decide (g = f) := by unfold cHn; rw [decide_eq_true z, Bool.true_and]
    rw [e]
  · rw [if_neg (fun q => z q.1), if_neg (fun q => z q.1)]
theorem cHn_0 (σ : an_T) (who s : Int32) (f : Nat) : an_h σ who (cHn f 0) s = σ := an_h_0 (fun a g _ _ _ hs => by simp [cHn] at hs)
/-- in both rows -/
theorem an_h_both (σ : an_T) (who s : Int32) : an_h (an_h σ who (fun _ g => decide (g = 0)) s) who (fun _ g => decide (g = 1)) s = an_h σ who an_al s := by
  refine an_h_cat (fun a g ha hg => ?_)
  simp only [decide_eq_true_eq, an_al]
  constructor
  · rintro (⟨a1, _⟩ | ⟨a1, _⟩) <;> exact ⟨a1, trivial⟩
  · rintro ⟨a1, _⟩
    rcases (by omega : g = 0 ∨ g = 1) with e | e
    · exact Or.inl ⟨a1, e⟩
    · exact Or.inr ⟨a1, e⟩
theorem an_lo (i : Nat) : bt 16777215 i = decide (i < 24) := by
  rcases Nat.lt_or_ge i 32 with h | h
  · exact (by decide +kernel : ∀ i, i < 32 → bt 16777215 i = decide (i < 24)) i h
  · rw [b_big h, decide_eq_false (by omega)]
/-- sites in one field, the others in both -/
theorem an_h_hold (σ : an_T) (who s : Int32) (f : Nat) : an_h (an_h σ (who &&& 16777215) (fun _ g => decide (g = f)) s) (who &&& ((who &&& 16777215) ^^^ (-1))) an_al s = an_h σ who (fun a g => decide (23 < a) || decide (g = f)) s := by
  refine an_h_cat (fun a g ha hg => ?_)
  rw [b_and, b_and, b_xor, b_and, an_lo, b_m1 a (by omega)]
  simp only [decide_eq_true_eq, an_al, Bool.and_eq_true, Bool.or_eq_true]
  by_cases z : a < 24
  · cases bt who a <;> simp [z] <;> omega
  · cases bt who a <;> simp [z] <;> omega
end
section
/-! Code (written by program) -/
abbrev Y_C_has : fm_Y := ("EscapeMill$Code", b_C_has, 2, (some .boolean), 1)
set_option maxRecDepth 100000 in
set_option maxHeartbeats 4000000 in
theorem k_C_has {P : pr_T} {m : Nat} (hm : m < 5) (M : fm_M) (hP : cP M P) (hw : pr_wf P) (v : Int32) : fm_ct SC y_C_has b_C_has 2 (some .boolean) 1 [.inr (kC m), .inl v] M (fm_rv (bI (decide (0 ≤ v ∧ v < nI (P.1 m)))) M) := by
  refine fm_of (ls := [some (.inr (kC m)), some (.inl v)]) (by decide) wsA_good (Nat.le_of_ble_eq_true rfl) rfl (fun X hX => ?_)
  obtain ⟨wl, wi, wI⟩ := hw m hm
  show fm_G SC Y_C_has X M (fm_rv (bI (decide (0 ≤ v ∧ v < nI (P.1 m)))) M) 0 [some (.inr (kC m)), some (.inl v)] [] M
  refine fm_iload_n hX d_C_has_0 rfl rfl rfl ?_
  refine fm_if_lt (tgt := 16) (pq := 4) hX d_C_has_1 rfl rfl (fun h1 => ?_) (fun h1 => ?_)
  · show fm_G SC Y_C_has X M (fm_rv (bI (decide (0 ≤ v ∧ v < nI (P.1 m)))) M) 16 [some (.inr (kC m)), some (.inl v)] [] M
    refine fm_iconst (v := nI 0) hX d_C_has_16 (by decide) rfl ?_
    refine fm_zret hX rfl (by decide) d_C_has_17 ?_
    first | exact fm_rvi (fm_b1 ⟨Int32.not_lt.mp h1, Int32.not_le.mp h9⟩) | exact fm_rvi (fm_b0 (fun z => Int32.not_le.mpr z.2 h9)) | exact fm_rvi (fm_b0 (fun z => Int32.not_lt.mpr z.1 h1))
  · show fm_G SC Y_C_has X M (fm_rv (bI (decide (0 ≤ v ∧ v < nI (P.1 m)))) M) 4 [some (.inr (kC m)), some (.inl v)] [] M
    refine fm_iload_n hX d_C_has_4 rfl rfl rfl ?_
    refine fm_aload_n hX d_C_has_5 rfl rfl rfl ?_
    refine fm_geti (v := nI (P.1 m)) hX fC_27 (s_C (by omega)) rfl (hP m (by omega)).1 d_C_has_6 rfl ?_
    refine fm_icmp_ge (tgt := 16) (pq := 12) hX d_C_has_9 rfl rfl (fun h9 => ?_) (fun h9 => ?_)
    · show fm_G SC Y_C_has X M (fm_rv (bI (decide (0 ≤ v ∧ v < nI (P.1 m)))) M) 16 [some (.inr (kC m)), some (.inl v)] [] M
      refine fm_iconst (v := nI 0) hX d_C_has_16 (by decide) rfl ?_
      refine fm_zret hX rfl (by decide) d_C_has_17 ?_
      first | exact fm_rvi (fm_b1 ⟨Int32.not_lt.mp h1, Int32.not_le.mp h9⟩) | exact fm_rvi (fm_b0 (fun z => Int32.not_le.mpr z.2 h9)) | exact fm_rvi (fm_b0 (fun z => Int32.not_lt.mpr z.1 h1))
    · show fm_G SC Y_C_has X M (fm_rv (bI (decide (0 ≤ v ∧ v < nI (P.1 m)))) M) 12 [some (.inr (kC m)), some (.inl v)] [] M
      refine fm_iconst (v := nI 1) hX d_C_has_12 (by decide) rfl ?_
      refine fm_goto (tgt := 17) hX d_C_has_13 rfl ?_
      refine fm_zret hX rfl (by decide) d_C_has_17 ?_
      first | exact fm_rvi (fm_b1 ⟨Int32.not_lt.mp h1, Int32.not_le.mp h9⟩) | exact fm_rvi (fm_b0 (fun z => Int32.not_le.mpr z.2 h9)) | exact fm_rvi (fm_b0 (fun z => Int32.not_lt.mpr z.1 h1))
abbrev Y_C_jumps : fm_Y := ("EscapeMill$Code", b_C_jumps, 2, (some .boolean), 1)
set_option maxRecDepth 100000 in
set_option maxHeartbeats 4000000 in
theorem k_C_jumps {P : pr_T} {m : Nat} (hm : m < 5) (M : fm_M) (hP : cP M P) (hw : pr_wf P) {i : Nat} (hi : i < P.1 m) : fm_ct SC y_C_jumps b_C_jumps 2 (some .boolean) 1 [.inr (kC m), .inl (nI i)] M (fm_rv (bI (decide ((P.2.2 m i).1 = 14 ∨ (P.2.2 m i).1 = 15))) M) := by
  refine fm_of (ls := [some (.inr (kC m)), some (.inl (nI i))]) (by decide) wsA_good (Nat.le_of_ble_eq_true rfl) rfl (fun X hX => ?_)
  obtain ⟨wl, wi, wI⟩ := hw m hm
  obtain ⟨w1, w2, w3, w4, w5, w6⟩ := wI i hi
  show fm_G SC Y_C_jumps X M (fm_rv (bI (decide ((P.2.2 m i).1 = 14 ∨ (P.2.2 m i).1 = 15))) M) 0 [some (.inr (kC m)), some (.inl (nI i))] [] M
  refine fm_aload_n hX d_C_jumps_0 rfl rfl rfl ?_
  refine fm_getr (q := kCa m 0) hX fC_9 (s_C (by omega)) rfl d_C_jumps_1 rfl ?_
  refine fm_iload_n hX d_C_jumps_4 rfl rfl rfl ?_
  refine fm_iald (v := nI ((P.2.2 m i).1)) hX (s_Ca0 (by omega)) rfl rfl (by omega) (by decide) ((hP m (by omega)).2.2 i (by omega)).1 d_C_jumps_5 rfl ?_
  refine fm_bipush (v := nI 14) hX d_C_jumps_6 (by decide) rfl ?_
  refine fm_n_eq (tgt := 22) (pq := 11) hX d_C_jumps_8 rfl rfl (by omega) (by omega) (fun h8 => ?_) (fun h8 => ?_)
  · show fm_G SC Y_C_jumps X M (fm_rv (bI (decide ((P.2.2 m i).1 = 14 ∨ (P.2.2 m i).1 = 15))) M) 22 [some (.inr (kC m)), some (.inl (nI i))] [] M
    refine fm_iconst (v := nI 1) hX d_C_jumps_22 (by decide) rfl ?_
    refine fm_goto (tgt := 27) hX d_C_jumps_23 rfl ?_
    refine fm_zret hX rfl (by decide) d_C_jumps_27 ?_
    first | exact fm_rvi (fm_b1 (by omega)) | exact fm_rvi (fm_b0 (by omega))
  · show fm_G SC Y_C_jumps X M (fm_rv (bI (decide ((P.2.2 m i).1 = 14 ∨ (P.2.2 m i).1 = 15))) M) 11 [some (.inr (kC m)), some (.inl (nI i))] [] M
    refine fm_aload_n hX d_C_jumps_11 rfl rfl rfl ?_
    refine fm_getr (q := kCa m 0) hX fC_9 (s_C (by omega)) rfl d_C_jumps_12 rfl ?_
    refine fm_iload_n hX d_C_jumps_15 rfl rfl rfl ?_
    refine fm_iald (v := nI ((P.2.2 m i).1)) hX (s_Ca0 (by omega)) rfl rfl (by omega) (by decide) ((hP m (by omega)).2.2 i (by omega)).1 d_C_jumps_16 rfl ?_
    refine fm_bipush (v := nI 15) hX d_C_jumps_17 (by decide) rfl ?_
    refine fm_n_ne (tgt := 26) (pq := 22) hX d_C_jumps_19 rfl rfl (by omega) (by omega) (fun h19 => ?_) (fun h19 => ?_)
    · show fm_G SC Y_C_jumps X M (fm_rv (bI (decide ((P.2.2 m i).1 = 14 ∨ (P.2.2 m i).1 = 15))) M) 26 [some (.inr (kC m)), some (.inl (nI i))] [] M
      refine fm_iconst (v := nI 0) hX d_C_jumps_26 (by decide) rfl ?_
      refine fm_zret hX rfl (by decide) d_C_jumps_27 ?_
      first | exact fm_rvi (fm_b1 (by omega)) | exact fm_rvi (fm_b0 (by omega))
    · show fm_G SC Y_C_jumps X M (fm_rv (bI (decide ((P.2.2 m i).1 = 14 ∨ (P.2.2 m i).1 = 15))) M) 22 [some (.inr (kC m)), some (.inl (nI i))] [] M
      refine fm_iconst (v := nI 1) hX d_C_jumps_22 (by decide) rfl ?_
      refine fm_goto (tgt := 27) hX d_C_jumps_23 rfl ?_
      refine fm_zret hX rfl (by decide) d_C_jumps_27 ?_
      first | exact fm_rvi (fm_b1 (by omega)) | exact fm_rvi (fm_b0 (by omega))
abbrev Y_C_bit : fm_Y := ("EscapeMill$Code", b_C_bit, 2, (some .int), 2)
set_option maxRecDepth 100000 in
set_option maxHeartbeats 4000000 in
theorem k_C_bit {P : pr_T} {m : Nat} (hm : m < 5) (M : fm_M) (hP : cP M P) (hw : pr_wf P) (v : Int32) : fm_ct SC y_C_bit b_C_bit 2 (some .int) 2 [.inr (kC m), .inl v] M (fm_rv (dm_bit (P.1 m) v) M) := by
  refine fm_of (ls := [some (.inr (kC m)), some (.inl v)]) (by decide) wsA_good (Nat.le_of_ble_eq_true rfl) rfl (fun X hX => ?_)
  obtain ⟨wl, wi, wI⟩ := hw m hm
  show fm_G SC Y_C_bit X M (fm_rv (dm_bit (P.1 m) v) M) 0 [some (.inr (kC m)), some (.inl v)] [] M
  refine fm_aload_n hX d_C_bit_0 rfl rfl rfl ?_
  refine fm_iload_n hX d_C_bit_1 rfl rfl rfl ?_
  refine fm_callV_i (as := [.inl v]) (st := []) (pq := 5) hX (s_C (by omega)) rfl cC_45 rfl im_C_has se_C_has (k_C_has (by omega) M hP hw v) rfl rfl (Nat.le_of_ble_eq_true rfl) (Nat.le_of_ble_eq_true rfl) d_C_bit_2 rfl ?_
  refine fm_p1_eq (tgt := 14) (pq := 8) hX d_C_bit_5 rfl rfl (fun h5 => ?_) (fun h5 => ?_)
  · show fm_G SC Y_C_bit X M (fm_rv (dm_bit (P.1 m) v) M) 14 [some (.inr (kC m)), some (.inl v)] [] M
    refine fm_iconst (v := nI 0) hX d_C_bit_14 (by decide) rfl ?_
    refine fm_iret hX rfl d_C_bit_15 ?_
    first | exact fm_rvi (if_pos h5).symm | exact fm_rvi (if_neg h5).symm
  · show fm_G SC Y_C_bit X M (fm_rv (dm_bit (P.1 m) v) M) 8 [some (.inr (kC m)), some (.inl v)] [] M
    refine fm_iconst (v := nI 1) hX d_C_bit_8 (by decide) rfl ?_
    refine fm_iload_n hX d_C_bit_9 rfl rfl rfl ?_
    refine fm_ishl (v := (nI 1) <<< (v &&& 31)) hX d_C_bit_10 rfl rfl ?_
    refine fm_goto (tgt := 15) hX d_C_bit_11 rfl ?_
    refine fm_iret hX rfl d_C_bit_15 ?_
    first | exact fm_rvi (if_pos h5).symm | exact fm_rvi (if_neg h5).symm
abbrev Y_C_defines : fm_Y := ("EscapeMill$Code", b_C_defines, 3, (some .boolean), 1)
set_option maxRecDepth 100000 in
set_option maxHeartbeats 4000000 in
theorem k_C_defines {P : pr_T} {m : Nat} (hm : m < 5) (M : fm_M) (hP : cP M P) (hw : pr_wf P) {i : Nat} (hi : i < P.1 m) {r : Nat} (hr : r < 4) : fm_ct SC y_C_defines b_C_defines 3 (some .boolean) 1 [.inr (kC m), .inl (nI i), .inl (nI r)] M (fm_rv (bI (decide (fa_df (P.2.2 m i) r))) M) := by
  refine fm_of (ls := [some (.inr (kC m)), some (.inl (nI i)), some (.inl (nI r))]) (by decide) wsA_good (Nat.le_of_ble_eq_true rfl) rfl (fun X hX => ?_)
  obtain ⟨wl, wi, wI⟩ := hw m hm
  obtain ⟨w1, w2, w3, w4, w5, w6⟩ := wI i hi
  show fm_G SC Y_C_defines X M (fm_rv (bI (decide (fa_df (P.2.2 m i) r))) M) 0 [some (.inr (kC m)), some (.inl (nI i)), some (.inl (nI r))] [] M
  refine fm_aload_n hX d_C_defines_0 rfl rfl rfl ?_
  refine fm_getr (q := kCa m 0) hX fC_9 (s_C (by omega)) rfl d_C_defines_1 rfl ?_
  refine fm_iload_n hX d_C_defines_4 rfl rfl rfl ?_
  refine fm_iald (v := nI ((P.2.2 m i).1)) hX (s_Ca0 (by omega)) rfl rfl (by omega) (by decide) ((hP m (by omega)).2.2 i (by omega)).1 d_C_defines_5 rfl ?_
  rcases (by omega : ((P.2.2 m i).1 = 0 ∨ (P.2.2 m i).1 = 1 ∨ (P.2.2 m i).1 = 2 ∨ (P.2.2 m i).1 = 3 ∨ (P.2.2 m i).1 = 13 ∨ (P.2.2 m i).1 = 16) ∨ ((P.2.2 m i).1 = 4 ∨ (P.2.2 m i).1 = 5 ∨ (P.2.2 m i).1 = 6 ∨ (P.2.2 m i).1 = 7 ∨ (P.2.2 m i).1 = 8 ∨ (P.2.2 m i).1 = 9 ∨ (P.2.2 m i).1 = 10 ∨ (P.2.2 m i).1 = 11 ∨ (P.2.2 m i).1 = 12 ∨ (P.2.2 m i).1 = 14 ∨ (P.2.2 m i).1 = 15 ∨ (P.2.2 m i).1 = 17 ∨ (P.2.2 m i).1 = 18)) with h6 | h6
  · refine fm_table (tgt := 88) (off := 82) hX d_C_defines_6 (by decide) (by rcases h6 with e | e | e | e | e | e <;> rw [e] <;> decide) (by decide) ?_
    refine fm_aload_n hX d_C_defines_88 rfl rfl rfl ?_
    refine fm_getr (q := kCa m 1) hX fC_15 (s_C (by omega)) rfl d_C_defines_89 rfl ?_
    refine fm_iload_n hX d_C_defines_92 rfl rfl rfl ?_
    refine fm_iald (v := nI ((P.2.2 m i).2.1)) hX (s_Ca1 (by omega)) rfl rfl (by omega) (by decide) ((hP m (by omega)).2.2 i (by omega)).2.1 d_C_defines_93 rfl ?_
    refine fm_iload_n hX d_C_defines_94 rfl rfl rfl ?_
    refine fm_n_ne (tgt := 102) (pq := 98) hX d_C_defines_95 rfl rfl (by omega) (by omega) (fun h95 => ?_) (fun h95 => ?_)
    · show fm_G SC Y_C_defines X M (fm_rv (bI (decide (fa_df (P.2.2 m i) r))) M) 102 [some (.inr (kC m)), some (.inl (nI i)), some (.inl (nI r))] [] M
      refine fm_iconst (v := nI 0) hX d_C_defines_102 (by decide) rfl ?_
      refine fm_zret hX rfl (by decide) d_C_defines_103 ?_
      first | exact fm_rvi (fm_b1 ⟨by omega, by omega⟩) | exact fm_rvi (fm_b0 (fun z => by omega))
    · show fm_G SC Y_C_defines X M (fm_rv (bI (decide (fa_df (P.2.2 m i) r))) M) 98 [some (.inr (kC m)), some (.inl (nI i)), some (.inl (nI r))] [] M
      refine fm_iconst (v := nI 1) hX d_C_defines_98 (by decide) rfl ?_
      refine fm_goto (tgt := 103) hX d_C_defines_99 rfl ?_
      refine fm_zret hX rfl (by decide) d_C_defines_103 ?_
      first | exact fm_rvi (fm_b1 ⟨by omega, by omega⟩) | exact fm_rvi (fm_b0 (fun z => by omega))
  · refine fm_table (tgt := 104) (off := 98) hX d_C_defines_6 (by decide) (by rcases h6 with e | e | e | e | e | e | e | e | e | e | e | e | e <;> rw [e] <;> decide) (by decide) ?_
    refine fm_iconst (v := nI 0) hX d_C_defines_104 (by decide) rfl ?_
    refine fm_zret hX rfl (by decide) d_C_defines_105 ?_
    first | exact fm_rvi (fm_b1 ⟨by omega, by omega⟩) | exact fm_rvi (fm_b0 (fun z => by omega))
abbrev Y_C_worksOn : fm_Y := ("EscapeMill$Code", b_C_worksOn, 3, (some .boolean), 1)
set_option maxRecDepth 100000 in
set_option maxHeartbeats 4000000 in
theorem k_C_worksOn {P : pr_T} {m : Nat} (hm : m < 5) (M : fm_M) (hP : cP M P) (hw : pr_wf P) {i : Nat} (hi : i < P.1 m) {r : Nat} (hr : r < 4) : fm_ct SC y_C_worksOn b_C_worksOn 3 (some .boolean) 1 [.inr (kC m), .inl (nI i), .inl (nI r)] M (fm_rv (bI (decide (fa_wk (P.2.2 m i) r))) M) := by
  refine fm_of (ls := [some (.inr (kC m)), some (.inl (nI i)), some (.inl (nI r))]) (by decide) wsA_good (Nat.le_of_ble_eq_true rfl) rfl (fun X hX => ?_)
  obtain ⟨wl, wi, wI⟩ := hw m hm
  obtain ⟨w1, w2, w3, w4, w5, w6⟩ := wI i hi
  show fm_G SC Y_C_worksOn X M (fm_rv (bI (decide (fa_wk (P.2.2 m i) r))) M) 0 [some (.inr (kC m)), some (.inl (nI i)), some (.inl (nI r))] [] M
  refine fm_aload_n hX d_C_worksOn_0 rfl rfl rfl ?_
  refine fm_getr (q := kCa m 0) hX fC_9 (s_C (by omega)) rfl d_C_worksOn_1 rfl ?_
  refine fm_iload_n hX d_C_worksOn_4 rfl rfl rfl ?_
  refine fm_iald (v := nI ((P.2.2 m i).1)) hX (s_Ca0 (by omega)) rfl rfl (by omega) (by decide) ((hP m (by omega)).2.2 i (by omega)).1 d_C_worksOn_5 rfl ?_
  rcases (by omega : ((P.2.2 m i).1 = 0 ∨ (P.2.2 m i).1 = 1 ∨ (P.2.2 m i).1 = 2 ∨ (P.2.2 m i).1 = 7 ∨ (P.2.2 m i).1 = 8 ∨ (P.2.2 m i).1 = 12 ∨ (P.2.2 m i).1 = 13 ∨ (P.2.2 m i).1 = 14 ∨ (P.2.2 m i).1 = 15 ∨ (P.2.2 m i).1 = 16 ∨ (P.2.2 m i).1 = 17 ∨ (P.2.2 m i).1 = 18) ∨ ((P.2.2 m i).1 = 3 ∨ (P.2.2 m i).1 = 5) ∨ ((P.2.2 m i).1 = 4 ∨ (P.2.2 m i).1 = 6 ∨ (P.2.2 m i).1 = 10 ∨ (P.2.2 m i).1 = 11) ∨ ((P.2.2 m i).1 = 9)) with h6 | h6 | h6 | h6
  · refine fm_table (tgt := 114) (off := 108) hX d_C_worksOn_6 (by decide) (by rcases h6 with e | e | e | e | e | e | e | e | e | e | e | e <;> rw [e] <;> decide) (by decide) ?_
    refine fm_iconst (v := nI 0) hX d_C_worksOn_114 (by decide) rfl ?_
    refine fm_zret hX rfl (by decide) d_C_worksOn_115 ?_
    first | exact fm_rvi (fm_b1 (by omega)) | exact fm_rvi (fm_b0 (by omega))
  · refine fm_table (tgt := 56) (off := 50) hX d_C_worksOn_6 (by decide) (by rcases h6 with e | e <;> rw [e] <;> decide) (by decide) ?_
    refine fm_aload_n hX d_C_worksOn_56 rfl rfl rfl ?_
    refine fm_getr (q := kCa m 2) hX fC_18 (s_C (by omega)) rfl d_C_worksOn_57 rfl ?_
    refine fm_iload_n hX d_C_worksOn_60 rfl rfl rfl ?_
    refine fm_iald (v := nI ((P.2.2 m i).2.2.1)) hX (s_Ca2 (by omega)) rfl rfl (by omega) (by decide) ((hP m (by omega)).2.2 i (by omega)).2.2.1 d_C_worksOn_61 rfl ?_
    refine fm_iload_n hX d_C_worksOn_62 rfl rfl rfl ?_
    refine fm_n_ne (tgt := 70) (pq := 66) hX d_C_worksOn_63 rfl rfl (by omega) (by omega) (fun h63 => ?_) (fun h63 => ?_)
    · show fm_G SC Y_C_worksOn X M (fm_rv (bI (decide (fa_wk (P.2.2 m i) r))) M) 70 [some (.inr (kC m)), some (.inl (nI i)), some (.inl (nI r))] [] M
      refine fm_iconst (v := nI 0) hX d_C_worksOn_70 (by decide) rfl ?_
      refine fm_zret hX rfl (by decide) d_C_worksOn_71 ?_
      first | exact fm_rvi (fm_b1 (by omega)) | exact fm_rvi (fm_b0 (by omega))
    · show fm_G SC Y_C_worksOn X M (fm_rv (bI (decide (fa_wk (P.2.2 m i) r))) M) 66 [some (.inr (kC m)), some (.inl (nI i)), some (.inl (nI r))] [] M
      refine fm_iconst (v := nI 1) hX d_C_worksOn_66 (by decide) rfl ?_
      refine fm_goto (tgt := 71) hX d_C_worksOn_67 rfl ?_
      refine fm_zret hX rfl (by decide) d_C_worksOn_71 ?_
      first | exact fm_rvi (fm_b1 (by omega)) | exact fm_rvi (fm_b0 (by omega))
  · refine fm_table (tgt := 72) (off := 66) hX d_C_worksOn_6 (by decide) (by rcases h6 with e | e | e | e <;> rw [e] <;> decide) (by decide) ?_
    refine fm_aload_n hX d_C_worksOn_72 rfl rfl rfl ?_
    refine fm_getr (q := kCa m 1) hX fC_15 (s_C (by omega)) rfl d_C_worksOn_73 rfl ?_
    refine fm_iload_n hX d_C_worksOn_76 rfl rfl rfl ?_
    refine fm_iald (v := nI ((P.2.2 m i).2.1)) hX (s_Ca1 (by omega)) rfl rfl (by omega) (by decide) ((hP m (by omega)).2.2 i (by omega)).2.1 d_C_worksOn_77 rfl ?_
    refine fm_iload_n hX d_C_worksOn_78 rfl rfl rfl ?_
    refine fm_n_ne (tgt := 86) (pq := 82) hX d_C_worksOn_79 rfl rfl (by omega) (by omega) (fun h79 => ?_) (fun h79 => ?_)
    · show fm_G SC Y_C_worksOn X M (fm_rv (bI (decide (fa_wk (P.2.2 m i) r))) M) 86 [some (.inr (kC m)), some (.inl (nI i)), some (.inl (nI r))] [] M
      refine fm_iconst (v := nI 0) hX d_C_worksOn_86 (by decide) rfl ?_
      refine fm_zret hX rfl (by decide) d_C_worksOn_87 ?_
      first | exact fm_rvi (fm_b1 (by omega)) | exact fm_rvi (fm_b0 (by omega))
    · show fm_G SC Y_C_worksOn X M (fm_rv (bI (decide (fa_wk (P.2.2 m i) r))) M) 82 [some (.inr (kC m)), some (.inl (nI i)), some (.inl (nI r))] [] M
      refine fm_iconst (v := nI 1) hX d_C_worksOn_82 (by decide) rfl ?_
      refine fm_goto (tgt := 87) hX d_C_worksOn_83 rfl ?_
      refine fm_zret hX rfl (by decide) d_C_worksOn_87 ?_
      first | exact fm_rvi (fm_b1 (by omega)) | exact fm_rvi (fm_b0 (by omega))
  · refine fm_table (tgt := 88) (off := 82) hX d_C_worksOn_6 (by decide) (by rw [h6]; decide) (by decide) ?_
    refine fm_aload_n hX d_C_worksOn_88 rfl rfl rfl ?_
    refine fm_getr (q := kCa m 2) hX fC_18 (s_C (by omega)) rfl d_C_worksOn_89 rfl ?_
    refine fm_iload_n hX d_C_worksOn_92 rfl rfl rfl ?_
    refine fm_iald (v := nI ((P.2.2 m i).2.2.1)) hX (s_Ca2 (by omega)) rfl rfl (by omega) (by decide) ((hP m (by omega)).2.2 i (by omega)).2.2.1 d_C_worksOn_93 rfl ?_
    refine fm_iload_n hX d_C_worksOn_94 rfl rfl rfl ?_
    refine fm_n_eq (tgt := 108) (pq := 98) hX d_C_worksOn_95 rfl rfl (by omega) (by omega) (fun h95 => ?_) (fun h95 => ?_)
    · show fm_G SC Y_C_worksOn X M (fm_rv (bI (decide (fa_wk (P.2.2 m i) r))) M) 108 [some (.inr (kC m)), some (.inl (nI i)), some (.inl (nI r))] [] M
      refine fm_iconst (v := nI 1) hX d_C_worksOn_108 (by decide) rfl ?_
      refine fm_goto (tgt := 113) hX d_C_worksOn_109 rfl ?_
      refine fm_zret hX rfl (by decide) d_C_worksOn_113 ?_
      first | exact fm_rvi (fm_b1 (by omega)) | exact fm_rvi (fm_b0 (by omega))
    · show fm_G SC Y_C_worksOn X M (fm_rv (bI (decide (fa_wk (P.2.2 m i) r))) M) 98 [some (.inr (kC m)), some (.inl (nI i)), some (.inl (nI r))] [] M
      refine fm_aload_n hX d_C_worksOn_98 rfl rfl rfl ?_
      refine fm_getr (q := kCa m 3) hX fC_21 (s_C (by omega)) rfl d_C_worksOn_99 rfl ?_
      refine fm_iload_n hX d_C_worksOn_102 rfl rfl rfl ?_
      refine fm_iald (v := nI ((P.2.2 m i).2.2.2.1)) hX (s_Ca3 (by omega)) rfl rfl (by omega) (by decide) ((hP m (by omega)).2.2 i (by omega)).2.2.2.1 d_C_worksOn_103 rfl ?_
      refine fm_iload_n hX d_C_worksOn_104 rfl rfl rfl ?_
      refine fm_n_ne (tgt := 112) (pq := 108) hX d_C_worksOn_105 rfl rfl (by omega) (by omega) (fun h105 => ?_) (fun h105 => ?_)
      · show fm_G SC Y_C_worksOn X M (fm_rv (bI (decide (fa_wk (P.2.2 m i) r))) M) 112 [some (.inr (kC m)), some (.inl (nI i)), some (.inl (nI r))] [] M
        refine fm_iconst (v := nI 0) hX d_C_worksOn_112 (by decide) rfl ?_
        refine fm_zret hX rfl (by decide) d_C_worksOn_113 ?_
        first | exact fm_rvi (fm_b1 (by omega)) | exact fm_rvi (fm_b0 (by omega))
      · show fm_G SC Y_C_worksOn X M (fm_rv (bI (decide (fa_wk (P.2.2 m i) r))) M) 108 [some (.inr (kC m)), some (.inl (nI i)), some (.inl (nI r))] [] M
        refine fm_iconst (v := nI 1) hX d_C_worksOn_108 (by decide) rfl ?_
        refine fm_goto (tgt := 113) hX d_C_worksOn_109 rfl ?_
        refine fm_zret hX rfl (by decide) d_C_worksOn_113 ?_
        first | exact fm_rvi (fm_b1 (by omega)) | exact fm_rvi (fm_b0 (by omega))
abbrev Y_C_handsOn : fm_Y := ("EscapeMill$Code", b_C_handsOn, 4, (some .boolean), 1)
set_option maxRecDepth 100000 in
set_option maxHeartbeats 4000000 in
theorem k_C_handsOn {P : pr_T} {m : Nat} (hm : m < 5) (M : fm_M) (hP : cP M P) (hw : pr_wf P) {i : Nat} (hi : i < P.1 m) {r : Nat} (hr : r < 4) {k : Nat} (hk : k ≤ 2) : fm_ct SC y_C_handsOn b_C_handsOn 4 (some .boolean) 1 [.inr (kC m), .inl (nI i), .inl (nI r), .inl (nI k)] M (fm_rv (bI (decide (fa_hd k (P.2.2 m i) r))) M) := by
  refine fm_of (ls := [some (.inr (kC m)), some (.inl (nI i)), some (.inl (nI r)), some (.inl (nI k))]) (by decide) wsA_good (Nat.le_of_ble_eq_true rfl) rfl (fun X hX => ?_)
  obtain ⟨wl, wi, wI⟩ := hw m hm
  obtain ⟨w1, w2, w3, w4, w5, w6⟩ := wI i hi
  show fm_G SC Y_C_handsOn X M (fm_rv (bI (decide (fa_hd k (P.2.2 m i) r))) M) 0 [some (.inr (kC m)), some (.inl (nI i)), some (.inl (nI r)), some (.inl (nI k))] [] M
  refine fm_aload_n hX d_C_handsOn_0 rfl rfl rfl ?_
  refine fm_getr (q := kCa m 0) hX fC_9 (s_C (by omega)) rfl d_C_handsOn_1 rfl ?_
  refine fm_iload_n hX d_C_handsOn_4 rfl rfl rfl ?_
  refine fm_iald (v := nI ((P.2.2 m i).1)) hX (s_Ca0 (by omega)) rfl rfl (by omega) (by decide) ((hP m (by omega)).2.2 i (by omega)).1 d_C_handsOn_5 rfl ?_
  rcases (by omega : ((P.2.2 m i).1 = 0 ∨ (P.2.2 m i).1 = 2 ∨ (P.2.2 m i).1 = 3 ∨ (P.2.2 m i).1 = 5 ∨ (P.2.2 m i).1 = 6 ∨ (P.2.2 m i).1 = 7 ∨ (P.2.2 m i).1 = 8 ∨ (P.2.2 m i).1 = 9 ∨ (P.2.2 m i).1 = 10 ∨ (P.2.2 m i).1 = 11 ∨ (P.2.2 m i).1 = 13 ∨ (P.2.2 m i).1 = 14 ∨ (P.2.2 m i).1 = 15 ∨ (P.2.2 m i).1 = 18) ∨ ((P.2.2 m i).1 = 1 ∨ (P.2.2 m i).1 = 4) ∨ ((P.2.2 m i).1 = 12 ∨ (P.2.2 m i).1 = 17) ∨ ((P.2.2 m i).1 = 16)) with h6 | h6 | h6 | h6
  · refine fm_lookup (tgt := 124) (off := 118) hX d_C_handsOn_6 (by decide) (by rcases h6 with e | e | e | e | e | e | e | e | e | e | e | e | e | e <;> rw [e] <;> decide) (by decide) ?_
    refine fm_iconst (v := nI 0) hX d_C_handsOn_124 (by decide) rfl ?_
    refine fm_zret hX rfl (by decide) d_C_handsOn_125 ?_
    first | exact fm_rvi (fm_b1 (by omega)) | exact fm_rvi (fm_b0 (by omega))
  · refine fm_lookup (tgt := 56) (off := 50) hX d_C_handsOn_6 (by decide) (by rcases h6 with e | e <;> rw [e] <;> decide) (by decide) ?_
    refine fm_aload_n hX d_C_handsOn_56 rfl rfl rfl ?_
    refine fm_getr (q := kCa m 2) hX fC_18 (s_C (by omega)) rfl d_C_handsOn_57 rfl ?_
    refine fm_iload_n hX d_C_handsOn_60 rfl rfl rfl ?_
    refine fm_iald (v := nI ((P.2.2 m i).2.2.1)) hX (s_Ca2 (by omega)) rfl rfl (by omega) (by decide) ((hP m (by omega)).2.2 i (by omega)).2.2.1 d_C_handsOn_61 rfl ?_
    refine fm_iload_n hX d_C_handsOn_62 rfl rfl rfl ?_
    refine fm_n_ne (tgt := 70) (pq := 66) hX d_C_handsOn_63 rfl rfl (by omega) (by omega) (fun h63 => ?_) (fun h63 => ?_)
    · show fm_G SC Y_C_handsOn X M (fm_rv (bI (decide (fa_hd k (P.2.2 m i) r))) M) 70 [some (.inr (kC m)), some (.inl (nI i)), some (.inl (nI r)), some (.inl (nI k))] [] M
      refine fm_iconst (v := nI 0) hX d_C_handsOn_70 (by decide) rfl ?_
      refine fm_zret hX rfl (by decide) d_C_handsOn_71 ?_
      first | exact fm_rvi (fm_b1 (by omega)) | exact fm_rvi (fm_b0 (by omega))
    · show fm_G SC Y_C_handsOn X M (fm_rv (bI (decide (fa_hd k (P.2.2 m i) r))) M) 66 [some (.inr (kC m)), some (.inl (nI i)), some (.inl (nI r)), some (.inl (nI k))] [] M
      refine fm_iconst (v := nI 1) hX d_C_handsOn_66 (by decide) rfl ?_
      refine fm_goto (tgt := 71) hX d_C_handsOn_67 rfl ?_
      refine fm_zret hX rfl (by decide) d_C_handsOn_71 ?_
      first | exact fm_rvi (fm_b1 (by omega)) | exact fm_rvi (fm_b0 (by omega))
  · refine fm_lookup (tgt := 72) (off := 66) hX d_C_handsOn_6 (by decide) (by rcases h6 with e | e <;> rw [e] <;> decide) (by decide) ?_
    refine fm_aload_n hX d_C_handsOn_72 rfl rfl rfl ?_
    refine fm_getr (q := kCa m 1) hX fC_15 (s_C (by omega)) rfl d_C_handsOn_73 rfl ?_
    refine fm_iload_n hX d_C_handsOn_76 rfl rfl rfl ?_
    refine fm_iald (v := nI ((P.2.2 m i).2.1)) hX (s_Ca1 (by omega)) rfl rfl (by omega) (by decide) ((hP m (by omega)).2.2 i (by omega)).2.1 d_C_handsOn_77 rfl ?_
    refine fm_iload_n hX d_C_handsOn_78 rfl rfl rfl ?_
    refine fm_n_ne (tgt := 86) (pq := 82) hX d_C_handsOn_79 rfl rfl (by omega) (by omega) (fun h79 => ?_) (fun h79 => ?_)
    · show fm_G SC Y_C_handsOn X M (fm_rv (bI (decide (fa_hd k (P.2.2 m i) r))) M) 86 [some (.inr (kC m)), some (.inl (nI i)), some (.inl (nI r)), some (.inl (nI k))] [] M
      refine fm_iconst (v := nI 0) hX d_C_handsOn_86 (by decide) rfl ?_
      refine fm_zret hX rfl (by decide) d_C_handsOn_87 ?_
      first | exact fm_rvi (fm_b1 (by omega)) | exact fm_rvi (fm_b0 (by omega))
    · show fm_G SC Y_C_handsOn X M (fm_rv (bI (decide (fa_hd k (P.2.2 m i) r))) M) 82 [some (.inr (kC m)), some (.inl (nI i)), some (.inl (nI r)), some (.inl (nI k))] [] M
      refine fm_iconst (v := nI 1) hX d_C_handsOn_82 (by decide) rfl ?_
      refine fm_goto (tgt := 87) hX d_C_handsOn_83 rfl ?_
      refine fm_zret hX rfl (by decide) d_C_handsOn_87 ?_
      first | exact fm_rvi (fm_b1 (by omega)) | exact fm_rvi (fm_b0 (by omega))
  · refine fm_lookup (tgt := 88) (off := 82) hX d_C_handsOn_6 (by decide) (by rw [h6]; decide) (by decide) ?_
    refine fm_iload_n hX d_C_handsOn_88 rfl rfl rfl ?_
    refine fm_iconst (v := nI 1) hX d_C_handsOn_89 (by decide) rfl ?_
    refine fm_n_lt (tgt := 103) (pq := 93) hX d_C_handsOn_90 rfl rfl (by omega) (by omega) (fun h90 => ?_) (fun h90 => ?_)
    · show fm_G SC Y_C_handsOn X M (fm_rv (bI (decide (fa_hd k (P.2.2 m i) r))) M) 103 [some (.inr (kC m)), some (.inl (nI i)), some (.inl (nI r)), some (.inl (nI k))] [] M
      refine fm_iload_n hX d_C_handsOn_103 rfl rfl rfl ?_
      refine fm_iconst (v := nI 2) hX d_C_handsOn_104 (by decide) rfl ?_
      refine fm_n_lt (tgt := 122) (pq := 108) hX d_C_handsOn_105 rfl rfl (by omega) (by omega) (fun h105 => ?_) (fun h105 => ?_)
      · show fm_G SC Y_C_handsOn X M (fm_rv (bI (decide (fa_hd k (P.2.2 m i) r))) M) 122 [some (.inr (kC m)), some (.inl (nI i)), some (.inl (nI r)), some (.inl (nI k))] [] M
        refine fm_iconst (v := nI 0) hX d_C_handsOn_122 (by decide) rfl ?_
        refine fm_zret hX rfl (by decide) d_C_handsOn_123 ?_
        first | exact fm_rvi (fm_b1 (by omega)) | exact fm_rvi (fm_b0 (by omega))
      · show fm_G SC Y_C_handsOn X M (fm_rv (bI (decide (fa_hd k (P.2.2 m i) r))) M) 108 [some (.inr (kC m)), some (.inl (nI i)), some (.inl (nI r)), some (.inl (nI k))] [] M
        refine fm_aload_n hX d_C_handsOn_108 rfl rfl rfl ?_
        refine fm_getr (q := kCa m 3) hX fC_21 (s_C (by omega)) rfl d_C_handsOn_109 rfl ?_
        refine fm_iload_n hX d_C_handsOn_112 rfl rfl rfl ?_
        refine fm_iald (v := nI ((P.2.2 m i).2.2.2.1)) hX (s_Ca3 (by omega)) rfl rfl (by omega) (by decide) ((hP m (by omega)).2.2 i (by omega)).2.2.2.1 d_C_handsOn_113 rfl ?_
        refine fm_iload_n hX d_C_handsOn_114 rfl rfl rfl ?_
        refine fm_n_ne (tgt := 122) (pq := 118) hX d_C_handsOn_115 rfl rfl (by omega) (by omega) (fun h115 => ?_) (fun h115 => ?_)
        · show fm_G SC Y_C_handsOn X M (fm_rv (bI (decide (fa_hd k (P.2.2 m i) r))) M) 122 [some (.inr (kC m)), some (.inl (nI i)), some (.inl (nI r)), some (.inl (nI k))] [] M
          refine fm_iconst (v := nI 0) hX d_C_handsOn_122 (by decide) rfl ?_
          refine fm_zret hX rfl (by decide) d_C_handsOn_123 ?_
          first | exact fm_rvi (fm_b1 (by omega)) | exact fm_rvi (fm_b0 (by omega))
        · show fm_G SC Y_C_handsOn X M (fm_rv (bI (decide (fa_hd k (P.2.2 m i) r))) M) 118 [some (.inr (kC m)), some (.inl (nI i)), some (.inl (nI r)), some (.inl (nI k))] [] M
          refine fm_iconst (v := nI 1) hX d_C_handsOn_118 (by decide) rfl ?_
          refine fm_goto (tgt := 123) hX d_C_handsOn_119 rfl ?_
          refine fm_zret hX rfl (by decide) d_C_handsOn_123 ?_
          first | exact fm_rvi (fm_b1 (by omega)) | exact fm_rvi (fm_b0 (by omega))
    · show fm_G SC Y_C_handsOn X M (fm_rv (bI (decide (fa_hd k (P.2.2 m i) r))) M) 93 [some (.inr (kC m)), some (.inl (nI i)), some (.inl (nI r)), some (.inl (nI k))] [] M
      refine fm_aload_n hX d_C_handsOn_93 rfl rfl rfl ?_
      refine fm_getr (q := kCa m 2) hX fC_18 (s_C (by omega)) rfl d_C_handsOn_94 rfl ?_
      refine fm_iload_n hX d_C_handsOn_97 rfl rfl rfl ?_
      refine fm_iald (v := nI ((P.2.2 m i).2.2.1)) hX (s_Ca2 (by omega)) rfl rfl (by omega) (by decide) ((hP m (by omega)).2.2 i (by omega)).2.2.1 d_C_handsOn_98 rfl ?_
      refine fm_iload_n hX d_C_handsOn_99 rfl rfl rfl ?_
      refine fm_n_eq (tgt := 118) (pq := 103) hX d_C_handsOn_100 rfl rfl (by omega) (by omega) (fun h100 => ?_) (fun h100 => ?_)
      · show fm_G SC Y_C_handsOn X M (fm_rv (bI (decide (fa_hd k (P.2.2 m i) r))) M) 118 [some (.inr (kC m)), some (.inl (nI i)), some (.inl (nI r)), some (.inl (nI k))] [] M
        refine fm_iconst (v := nI 1) hX d_C_handsOn_118 (by decide) rfl ?_
        refine fm_goto (tgt := 123) hX d_C_handsOn_119 rfl ?_
        refine fm_zret hX rfl (by decide) d_C_handsOn_123 ?_
        first | exact fm_rvi (fm_b1 (by omega)) | exact fm_rvi (fm_b0 (by omega))
      · show fm_G SC Y_C_handsOn X M (fm_rv (bI (decide (fa_hd k (P.2.2 m i) r))) M) 103 [some (.inr (kC m)), some (.inl (nI i)), some (.inl (nI r)), some (.inl (nI k))] [] M
        refine fm_iload_n hX d_C_handsOn_103 rfl rfl rfl ?_
        refine fm_iconst (v := nI 2) hX d_C_handsOn_104 (by decide) rfl ?_
        refine fm_n_lt (tgt := 122) (pq := 108) hX d_C_handsOn_105 rfl rfl (by omega) (by omega) (fun h105 => ?_) (fun h105 => ?_)
        · show fm_G SC Y_C_handsOn X M (fm_rv (bI (decide (fa_hd k (P.2.2 m i) r))) M) 122 [some (.inr (kC m)), some (.inl (nI i)), some (.inl (nI r)), some (.inl (nI k))] [] M
          refine fm_iconst (v := nI 0) hX d_C_handsOn_122 (by decide) rfl ?_
          refine fm_zret hX rfl (by decide) d_C_handsOn_123 ?_
          first | exact fm_rvi (fm_b1 (by omega)) | exact fm_rvi (fm_b0 (by omega))
        · show fm_G SC Y_C_handsOn X M (fm_rv (bI (decide (fa_hd k (P.2.2 m i) r))) M) 108 [some (.inr (kC m)), some (.inl (nI i)), some (.inl (nI r)), some (.inl (nI k))] [] M
          refine fm_aload_n hX d_C_handsOn_108 rfl rfl rfl ?_
          refine fm_getr (q := kCa m 3) hX fC_21 (s_C (by omega)) rfl d_C_handsOn_109 rfl ?_
          refine fm_iload_n hX d_C_handsOn_112 rfl rfl rfl ?_
          refine fm_iald (v := nI ((P.2.2 m i).2.2.2.1)) hX (s_Ca3 (by omega)) rfl rfl (by omega) (by decide) ((hP m (by omega)).2.2 i (by omega)).2.2.2.1 d_C_handsOn_113 rfl ?_
          refine fm_iload_n hX d_C_handsOn_114 rfl rfl rfl ?_
          refine fm_n_ne (tgt := 122) (pq := 118) hX d_C_handsOn_115 rfl rfl (by omega) (by omega) (fun h115 => ?_) (fun h115 => ?_)
          · show fm_G SC Y_C_handsOn X M (fm_rv (bI (decide (fa_hd k (P.2.2 m i) r))) M) 122 [some (.inr (kC m)), some (.inl (nI i)), some (.inl (nI r)), some (.inl (nI k))] [] M
            refine fm_iconst (v := nI 0) hX d_C_handsOn_122 (by decide) rfl ?_
            refine fm_zret hX rfl (by decide) d_C_handsOn_123 ?_
            first | exact fm_rvi (fm_b1 (by omega)) | exact fm_rvi (fm_b0 (by omega))
          · show fm_G SC Y_C_handsOn X M (fm_rv (bI (decide (fa_hd k (P.2.2 m i) r))) M) 118 [some (.inr (kC m)), some (.inl (nI i)), some (.inl (nI r)), some (.inl (nI k))] [] M
            refine fm_iconst (v := nI 1) hX d_C_handsOn_118 (by decide) rfl ?_
            refine fm_goto (tgt := 123) hX d_C_handsOn_119 rfl ?_
            refine fm_zret hX rfl (by decide) d_C_handsOn_123 ?_
            first | exact fm_rvi (fm_b1 (by omega)) | exact fm_rvi (fm_b0 (by omega))
abbrev Y_C_behind : fm_Y := ("EscapeMill$Code", b_C_behind, 4, (some .int), 3)
set_option maxRecDepth 100000 in
set_option maxHeartbeats 4000000 in
theorem k_C_behind {P : pr_T} {m : Nat} (hm : m < 5) (M : fm_M) (hP : cP M P) (hw : pr_wf P) (s : Int32) : fm_ct SC y_C_behind b_C_behind 4 (some .int) 3 [.inr (kC m), .inl s] M (fm_rv (dm_bh (P.1 m) (P.2.2 m) s (P.1 m)) M) := by
  refine fm_of (ls := [some (.inr (kC m)), some (.inl s), none, none]) (by decide) wsA_good (Nat.le_of_ble_eq_true rfl) rfl (fun X hX => ?_)
  obtain ⟨wl, wi, wI⟩ := hw m hm
  have L4 : ∀ i, i ≤ P.1 m → ∀ x, x = dm_bh (P.1 m) (P.2.2 m) s i → fm_G SC Y_C_behind X M (fm_rv (dm_bh (P.1 m) (P.2.2 m) s (P.1 m)) M) 4 [some (.inr (kC m)), some (.inl s), some (.inl x), some (.inl (nI i))] [] M := by
    refine fm_ind (P.1 m) (fun i hle ih => ?_)
    intro x hx0
    refine fm_iload_n hX d_C_behind_4 rfl rfl rfl ?_
    refine fm_aload_n hX d_C_behind_5 rfl rfl rfl ?_
    refine fm_geti (v := nI (P.1 m)) hX fC_27 (s_C (by omega)) rfl (hP m (by omega)).1 d_C_behind_6 rfl ?_
    refine fm_n_ge (tgt := 82) (pq := 12) hX d_C_behind_9 rfl rfl (by omega) (by omega) (fun h9 => ?_) (fun h9 => ?_)
    · show fm_G SC Y_C_behind X M (fm_rv (dm_bh (P.1 m) (P.2.2 m) s (P.1 m)) M) 82 [some (.inr (kC m)), some (.inl s), some (.inl x), some (.inl (nI i))] [] M
      refine fm_iload_n hX d_C_behind_82 rfl rfl rfl ?_
      refine fm_iret hX rfl d_C_behind_83 ?_
      exact fm_rvi (by rw [hx0, show i = P.1 m by omega])
    · show fm_G SC Y_C_behind X M (fm_rv (dm_bh (P.1 m) (P.2.2 m) s (P.1 m)) M) 12 [some (.inr (kC m)), some (.inl s), some (.inl x), some (.inl (nI i))] [] M
      have w1 := (wI i (by omega)).1
      refine fm_iload_n hX d_C_behind_12 rfl rfl rfl ?_
      refine fm_iload_n hX d_C_behind_13 rfl rfl rfl ?_
      refine fm_ishr (v := s >>> (nI i &&& 31)) hX d_C_behind_14 rfl rfl ?_
      refine fm_iconst (v := nI 1) hX d_C_behind_15 (by decide) rfl ?_
      refine fm_iand (v := bI (bt s i)) hX d_C_behind_16 (fm_bit _ (by omega)) rfl ?_
      refine fm_b1_ne (tgt := 23) (pq := 20) hX d_C_behind_17 rfl rfl (fun h17 => ?_) (fun h17 => ?_)
      · show fm_G SC Y_C_behind X M (fm_rv (dm_bh (P.1 m) (P.2.2 m) s (P.1 m)) M) 23 [some (.inr (kC m)), some (.inl s), some (.inl x), some (.inl (nI i))] [] M
        refine fm_aload_n hX d_C_behind_23 rfl rfl rfl ?_
        refine fm_getr (q := kCa m 0) hX fC_9 (s_C (by omega)) rfl d_C_behind_24 rfl ?_
        refine fm_iload_n hX d_C_behind_27 rfl rfl rfl ?_
        refine fm_iald (v := nI ((P.2.2 m i).1)) hX (s_Ca0 (by omega)) rfl rfl (by omega) (by decide) ((hP m (by omega)).2.2 i (by omega)).1 d_C_behind_28 rfl ?_
        refine fm_bipush (v := nI 14) hX d_C_behind_29 (by decide) rfl ?_
        refine fm_n_eq (tgt := 55) (pq := 34) hX d_C_behind_31 rfl rfl (by omega) (by omega) (fun h31 => ?_) (fun h31 => ?_)
        · show fm_G SC Y_C_behind X M (fm_rv (dm_bh (P.1 m) (P.2.2 m) s (P.1 m)) M) 55 [some (.inr (kC m)), some (.inl s), some (.inl x), some (.inl (nI i))] [] M
          refine fm_aload_n hX d_C_behind_55 rfl rfl rfl ?_
          refine fm_iload_n hX d_C_behind_56 rfl rfl rfl ?_
          refine fm_callV_i (as := [.inl (nI i)]) (st := []) (pq := 60) hX (s_C (by omega)) rfl cC_41 rfl im_C_jumps se_C_jumps (k_C_jumps (by omega) M hP hw (i := i) (by omega)) rfl rfl (Nat.le_of_ble_eq_true rfl) (Nat.le_of_ble_eq_true rfl) d_C_behind_57 rfl ?_
          refine fm_p1_eq (tgt := 76) (pq := 63) hX d_C_behind_60 rfl rfl (fun h60 => ?_) (fun h60 => ?_)
          · show fm_G SC Y_C_behind X M (fm_rv (dm_bh (P.1 m) (P.2.2 m) s (P.1 m)) M) 76 [some (.inr (kC m)), some (.inl s), some (.inl x), some (.inl (nI i))] [] M
            refine fm_iinc (v := nI (i + 1)) (ls1 := [some (.inr (kC m)), some (.inl s), some (.inl x), some (.inl (nI (i + 1)))]) hX d_C_behind_76 rfl (nI_add _ _) (by decide) rfl rfl ?_
            refine fm_goto (tgt := 4) hX d_C_behind_79 rfl ?_
            exact ih (by omega) _ (by rw [hx0]; first | (exfalso; omega) | exact (if_neg (by rw [h17]; decide)).symm | (refine Eq.trans ?_ (if_pos h17).symm; simp only [dm_jm, dm_nx]; first | rw [if_pos (by omega), if_pos (by omega)] | rw [if_neg (by omega), if_pos (by omega)] | rw [if_pos (by omega), if_neg (by omega)] | rw [if_neg (by omega), if_neg (by omega)]))
          · show fm_G SC Y_C_behind X M (fm_rv (dm_bh (P.1 m) (P.2.2 m) s (P.1 m)) M) 63 [some (.inr (kC m)), some (.inl s), some (.inl x), some (.inl (nI i))] [] M
            refine fm_iload_n hX d_C_behind_63 rfl rfl rfl ?_
            refine fm_aload_n hX d_C_behind_64 rfl rfl rfl ?_
            refine fm_aload_n hX d_C_behind_65 rfl rfl rfl ?_
            refine fm_getr (q := kCa m 4) hX fC_24 (s_C (by omega)) rfl d_C_behind_66 rfl ?_
            refine fm_iload_n hX d_C_behind_69 rfl rfl rfl ?_
            refine fm_iald (v := (P.2.2 m i).2.2.2.2) hX (s_Ca4 (by omega)) rfl rfl (by omega) (by decide) ((hP m (by omega)).2.2 i (by omega)).2.2.2.2 d_C_behind_70 rfl ?_
            refine fm_callV_i (as := [.inl ((P.2.2 m i).2.2.2.2)]) (st := [.inl x]) (pq := 74) hX (s_C (by omega)) rfl cC_34 rfl im_C_bit se_C_bit (k_C_bit (by omega) M hP hw ((P.2.2 m i).2.2.2.2)) rfl rfl (Nat.le_of_ble_eq_true rfl) (Nat.le_of_ble_eq_true rfl) d_C_behind_71 rfl ?_
            refine fm_ior (v := x ||| (dm_bit (P.1 m) ((P.2.2 m i).2.2.2.2))) hX d_C_behind_74 rfl rfl ?_
            refine fm_istore_n (ls1 := [some (.inr (kC m)), some (.inl s), some (.inl (x ||| (dm_bit (P.1 m) ((P.2.2 m i).2.2.2.2)))), some (.inl (nI i))]) hX d_C_behind_75 rfl (by decide) rfl rfl ?_
            refine fm_iinc (v := nI (i + 1)) (ls1 := [some (.inr (kC m)), some (.inl s), some (.inl (x ||| (dm_bit (P.1 m) ((P.2.2 m i).2.2.2.2)))), some (.inl (nI (i + 1)))]) hX d_C_behind_76 rfl (nI_add _ _) (by decide) rfl rfl ?_
            refine fm_goto (tgt := 4) hX d_C_behind_79 rfl ?_
            exact ih (by omega) _ (by rw [hx0]; first | (exfalso; omega) | exact (if_neg (by rw [h17]; decide)).symm | (refine Eq.trans ?_ (if_pos h17).symm; simp only [dm_jm, dm_nx]; first | rw [if_pos (by omega), if_pos (by omega)] | rw [if_neg (by omega), if_pos (by omega)] | rw [if_pos (by omega), if_neg (by omega)] | rw [if_neg (by omega), if_neg (by omega)]))
        · show fm_G SC Y_C_behind X M (fm_rv (dm_bh (P.1 m) (P.2.2 m) s (P.1 m)) M) 34 [some (.inr (kC m)), some (.inl s), some (.inl x), some (.inl (nI i))] [] M
          refine fm_aload_n hX d_C_behind_34 rfl rfl rfl ?_
          refine fm_getr (q := kCa m 0) hX fC_9 (s_C (by omega)) rfl d_C_behind_35 rfl ?_
          refine fm_iload_n hX d_C_behind_38 rfl rfl rfl ?_
          refine fm_iald (v := nI ((P.2.2 m i).1)) hX (s_Ca0 (by omega)) rfl rfl (by omega) (by decide) ((hP m (by omega)).2.2 i (by omega)).1 d_C_behind_39 rfl ?_
          refine fm_bipush (v := nI 17) hX d_C_behind_40 (by decide) rfl ?_
          refine fm_n_eq (tgt := 55) (pq := 45) hX d_C_behind_42 rfl rfl (by omega) (by omega) (fun h42 => ?_) (fun h42 => ?_)
          · show fm_G SC Y_C_behind X M (fm_rv (dm_bh (P.1 m) (P.2.2 m) s (P.1 m)) M) 55 [some (.inr (kC m)), some (.inl s), some (.inl x), some (.inl (nI i))] [] M
            refine fm_aload_n hX d_C_behind_55 rfl rfl rfl ?_
            refine fm_iload_n hX d_C_behind_56 rfl rfl rfl ?_
            refine fm_callV_i (as := [.inl (nI i)]) (st := []) (pq := 60) hX (s_C (by omega)) rfl cC_41 rfl im_C_jumps se_C_jumps (k_C_jumps (by omega) M hP hw (i := i) (by omega)) rfl rfl (Nat.le_of_ble_eq_true rfl) (Nat.le_of_ble_eq_true rfl) d_C_behind_57 rfl ?_
            refine fm_p1_eq (tgt := 76) (pq := 63) hX d_C_behind_60 rfl rfl (fun h60 => ?_) (fun h60 => ?_)
            · show fm_G SC Y_C_behind X M (fm_rv (dm_bh (P.1 m) (P.2.2 m) s (P.1 m)) M) 76 [some (.inr (kC m)), some (.inl s), some (.inl x), some (.inl (nI i))] [] M
              refine fm_iinc (v := nI (i + 1)) (ls1 := [some (.inr (kC m)), some (.inl s), some (.inl x), some (.inl (nI (i + 1)))]) hX d_C_behind_76 rfl (nI_add _ _) (by decide) rfl rfl ?_
              refine fm_goto (tgt := 4) hX d_C_behind_79 rfl ?_
              exact ih (by omega) _ (by rw [hx0]; first | (exfalso; omega) | exact (if_neg (by rw [h17]; decide)).symm | (refine Eq.trans ?_ (if_pos h17).symm; simp only [dm_jm, dm_nx]; first | rw [if_pos (by omega), if_pos (by omega)] | rw [if_neg (by omega), if_pos (by omega)] | rw [if_pos (by omega), if_neg (by omega)] | rw [if_neg (by omega), if_neg (by omega)]))
            · show fm_G SC Y_C_behind X M (fm_rv (dm_bh (P.1 m) (P.2.2 m) s (P.1 m)) M) 63 [some (.inr (kC m)), some (.inl s), some (.inl x), some (.inl (nI i))] [] M
              refine fm_iload_n hX d_C_behind_63 rfl rfl rfl ?_
              refine fm_aload_n hX d_C_behind_64 rfl rfl rfl ?_
              refine fm_aload_n hX d_C_behind_65 rfl rfl rfl ?_
              refine fm_getr (q := kCa m 4) hX fC_24 (s_C (by omega)) rfl d_C_behind_66 rfl ?_
              refine fm_iload_n hX d_C_behind_69 rfl rfl rfl ?_
              refine fm_iald (v := (P.2.2 m i).2.2.2.2) hX (s_Ca4 (by omega)) rfl rfl (by omega) (by decide) ((hP m (by omega)).2.2 i (by omega)).2.2.2.2 d_C_behind_70 rfl ?_
              refine fm_callV_i (as := [.inl ((P.2.2 m i).2.2.2.2)]) (st := [.inl x]) (pq := 74) hX (s_C (by omega)) rfl cC_34 rfl im_C_bit se_C_bit (k_C_bit (by omega) M hP hw ((P.2.2 m i).2.2.2.2)) rfl rfl (Nat.le_of_ble_eq_true rfl) (Nat.le_of_ble_eq_true rfl) d_C_behind_71 rfl ?_
              refine fm_ior (v := x ||| (dm_bit (P.1 m) ((P.2.2 m i).2.2.2.2))) hX d_C_behind_74 rfl rfl ?_
              refine fm_istore_n (ls1 := [some (.inr (kC m)), some (.inl s), some (.inl (x ||| (dm_bit (P.1 m) ((P.2.2 m i).2.2.2.2)))), some (.inl (nI i))]) hX d_C_behind_75 rfl (by decide) rfl rfl ?_
              refine fm_iinc (v := nI (i + 1)) (ls1 := [some (.inr (kC m)), some (.inl s), some (.inl (x ||| (dm_bit (P.1 m) ((P.2.2 m i).2.2.2.2)))), some (.inl (nI (i + 1)))]) hX d_C_behind_76 rfl (nI_add _ _) (by decide) rfl rfl ?_
              refine fm_goto (tgt := 4) hX d_C_behind_79 rfl ?_
              exact ih (by omega) _ (by rw [hx0]; first | (exfalso; omega) | exact (if_neg (by rw [h17]; decide)).symm | (refine Eq.trans ?_ (if_pos h17).symm; simp only [dm_jm, dm_nx]; first | rw [if_pos (by omega), if_pos (by omega)] | rw [if_neg (by omega), if_pos (by omega)] | rw [if_pos (by omega), if_neg (by omega)] | rw [if_neg (by omega), if_neg (by omega)]))
          · show fm_G SC Y_C_behind X M (fm_rv (dm_bh (P.1 m) (P.2.2 m) s (P.1 m)) M) 45 [some (.inr (kC m)), some (.inl s), some (.inl x), some (.inl (nI i))] [] M
            refine fm_iload_n hX d_C_behind_45 rfl rfl rfl ?_
            refine fm_aload_n hX d_C_behind_46 rfl rfl rfl ?_
            refine fm_iload_n hX d_C_behind_47 rfl rfl rfl ?_
            refine fm_iconst (v := nI 1) hX d_C_behind_48 (by decide) rfl ?_
            refine fm_iadd (v := nI (i + 1)) hX d_C_behind_49 (nI_add _ _) rfl ?_
            refine fm_callV_i (as := [.inl (nI (i + 1))]) (st := [.inl x]) (pq := 53) hX (s_C (by omega)) rfl cC_34 rfl im_C_bit se_C_bit (k_C_bit (by omega) M hP hw (nI (i + 1))) rfl rfl (Nat.le_of_ble_eq_true rfl) (Nat.le_of_ble_eq_true rfl) d_C_behind_50 rfl ?_
            refine fm_ior (v := x ||| (dm_bit (P.1 m) (nI (i + 1)))) hX d_C_behind_53 rfl rfl ?_
            refine fm_istore_n (ls1 := [some (.inr (kC m)), some (.inl s), some (.inl (x ||| (dm_bit (P.1 m) (nI (i + 1))))), some (.inl (nI i))]) hX d_C_behind_54 rfl (by decide) rfl rfl ?_
            refine fm_aload_n hX d_C_behind_55 rfl rfl rfl ?_
            refine fm_iload_n hX d_C_behind_56 rfl rfl rfl ?_
            refine fm_callV_i (as := [.inl (nI i)]) (st := []) (pq := 60) hX (s_C (by omega)) rfl cC_41 rfl im_C_jumps se_C_jumps (k_C_jumps (by omega) M hP hw (i := i) (by omega)) rfl rfl (Nat.le_of_ble_eq_true rfl) (Nat.le_of_ble_eq_true rfl) d_C_behind_57 rfl ?_
            refine fm_p1_eq (tgt := 76) (pq := 63) hX d_C_behind_60 rfl rfl (fun h60 => ?_) (fun h60 => ?_)
            · show fm_G SC Y_C_behind X M (fm_rv (dm_bh (P.1 m) (P.2.2 m) s (P.1 m)) M) 76 [some (.inr (kC m)), some (.inl s), some (.inl (x ||| (dm_bit (P.1 m) (nI (i + 1))))), some (.inl (nI i))] [] M
              refine fm_iinc (v := nI (i + 1)) (ls1 := [some (.inr (kC m)), some (.inl s), some (.inl (x ||| (dm_bit (P.1 m) (nI (i + 1))))), some (.inl (nI (i + 1)))]) hX d_C_behind_76 rfl (nI_add _ _) (by decide) rfl rfl ?_
              refine fm_goto (tgt := 4) hX d_C_behind_79 rfl ?_
              exact ih (by omega) _ (by rw [hx0]; first | (exfalso; omega) | exact (if_neg (by rw [h17]; decide)).symm | (refine Eq.trans ?_ (if_pos h17).symm; simp only [dm_jm, dm_nx]; first | rw [if_pos (by omega), if_pos (by omega)] | rw [if_neg (by omega), if_pos (by omega)] | rw [if_pos (by omega), if_neg (by omega)] | rw [if_neg (by omega), if_neg (by omega)]))
            · show fm_G SC Y_C_behind X M (fm_rv (dm_bh (P.1 m) (P.2.2 m) s (P.1 m)) M) 63 [some (.inr (kC m)), some (.inl s), some (.inl (x ||| (dm_bit (P.1 m) (nI (i + 1))))), some (.inl (nI i))] [] M
              refine fm_iload_n hX d_C_behind_63 rfl rfl rfl ?_
              refine fm_aload_n hX d_C_behind_64 rfl rfl rfl ?_
              refine fm_aload_n hX d_C_behind_65 rfl rfl rfl ?_
              refine fm_getr (q := kCa m 4) hX fC_24 (s_C (by omega)) rfl d_C_behind_66 rfl ?_
              refine fm_iload_n hX d_C_behind_69 rfl rfl rfl ?_
              refine fm_iald (v := (P.2.2 m i).2.2.2.2) hX (s_Ca4 (by omega)) rfl rfl (by omega) (by decide) ((hP m (by omega)).2.2 i (by omega)).2.2.2.2 d_C_behind_70 rfl ?_
              refine fm_callV_i (as := [.inl ((P.2.2 m i).2.2.2.2)]) (st := [.inl (x ||| (dm_bit (P.1 m) (nI (i + 1))))]) (pq := 74) hX (s_C (by omega)) rfl cC_34 rfl im_C_bit se_C_bit (k_C_bit (by omega) M hP hw ((P.2.2 m i).2.2.2.2)) rfl rfl (Nat.le_of_ble_eq_true rfl) (Nat.le_of_ble_eq_true rfl) d_C_behind_71 rfl ?_
              refine fm_ior (v := (x ||| (dm_bit (P.1 m) (nI (i + 1)))) ||| (dm_bit (P.1 m) ((P.2.2 m i).2.2.2.2))) hX d_C_behind_74 rfl rfl ?_
              refine fm_istore_n (ls1 := [some (.inr (kC m)), some (.inl s), some (.inl ((x ||| (dm_bit (P.1 m) (nI (i + 1)))) ||| (dm_bit (P.1 m) ((P.2.2 m i).2.2.2.2)))), some (.inl (nI i))]) hX d_C_behind_75 rfl (by decide) rfl rfl ?_
              refine fm_iinc (v := nI (i + 1)) (ls1 := [some (.inr (kC m)), some (.inl s), some (.inl ((x ||| (dm_bit (P.1 m) (nI (i + 1)))) ||| (dm_bit (P.1 m) ((P.2.2 m i).2.2.2.2)))), some (.inl (nI (i + 1)))]) hX d_C_behind_76 rfl (nI_add _ _) (by decide) rfl rfl ?_
              refine fm_goto (tgt := 4) hX d_C_behind_79 rfl ?_
              exact ih (by omega) _ (by rw [hx0]; first | (exfalso; omega) | exact (if_neg (by rw [h17]; decide)).symm | (refine Eq.trans ?_ (if_pos h17).symm; simp only [dm_jm, dm_nx]; first | rw [if_pos (by omega), if_pos (by omega)] | rw [if_neg (by omega), if_pos (by omega)] | rw [if_pos (by omega), if_neg (by omega)] | rw [if_neg (by omega), if_neg (by omega)]))
      · show fm_G SC Y_C_behind X M (fm_rv (dm_bh (P.1 m) (P.2.2 m) s (P.1 m)) M) 20 [some (.inr (kC m)), some (.inl s), some (.inl x), some (.inl (nI i))] [] M
        refine fm_goto (tgt := 76) hX d_C_behind_20 rfl ?_
        refine fm_iinc (v := nI (i + 1)) (ls1 := [some (.inr (kC m)), some (.inl s), some (.inl x), some (.inl (nI (i + 1)))]) hX d_C_behind_76 rfl (nI_add _ _) (by decide) rfl rfl ?_
        refine fm_goto (tgt := 4) hX d_C_behind_79 rfl ?_
        exact ih (by omega) _ (by rw [hx0]; first | (exfalso; omega) | exact (if_neg (by rw [h17]; decide)).symm | (refine Eq.trans ?_ (if_pos h17).symm; simp only [dm_jm, dm_nx]; first | rw [if_pos (by omega), if_pos (by omega)] | rw [if_neg (by omega), if_pos (by omega)] | rw [if_pos (by omega), if_neg (by omega)] | rw [if_neg (by omega), if_neg (by omega)]))
  show fm_G SC Y_C_behind X M (fm_rv (dm_bh (P.1 m) (P.2.2 m) s (P.1 m)) M) 0 [some (.inr (kC m)), some (.inl s), none, none] [] M
  refine fm_iconst (v := nI 0) hX d_C_behind_0 (by decide) rfl ?_
  refine fm_istore_n (ls1 := [some (.inr (kC m)), some (.inl s), some (.inl (nI 0)), none]) hX d_C_behind_1 rfl (by decide) rfl rfl ?_
  refine fm_iconst (v := nI 0) hX d_C_behind_2 (by decide) rfl ?_
  refine fm_istore_n (ls1 := [some (.inr (kC m)), some (.inl s), some (.inl (nI 0)), some (.inl (nI 0))]) hX d_C_behind_3 rfl (by decide) rfl rfl ?_
  exact L4 0 (by omega) _ rfl
abbrev Y_C_reachedWithout : fm_Y := ("EscapeMill$Code", b_C_reachedWithout, 6, (some .int), 4)
set_option maxRecDepth 100000 in
set_option maxHeartbeats 4000000 in
theorem k_C_reachedWithout {P : pr_T} {m : Nat} (hm : m < 5) (M : fm_M) (hP : cP M P) (hw : pr_wf P) {h : Nat} (hh : h < 24) : fm_ct SC y_C_reachedWithout b_C_reachedWithout 6 (some .int) 4 [.inr (kC m), .inl (nI h)] M (fm_rv (dm_free (P.1 m) (P.2.2 m) h) M) := by
  refine fm_of (ls := [some (.inr (kC m)), some (.inl (nI h)), none, none, none, none]) (by decide) wsA_good (Nat.le_of_ble_eq_true rfl) rfl (fun X hX => ?_)
  obtain ⟨wl, wi, wI⟩ := hw m hm
  have L17 : ∀ t, t ≤ 24 → ∀ x, dm_go (P.1 m) (P.2.2 m) h (24 - t) x = dm_free (P.1 m) (P.2.2 m) h → fm_G SC Y_C_reachedWithout X M (fm_rv (dm_free (P.1 m) (P.2.2 m) h) M) 17 [some (.inr (kC m)), some (.inl (nI h)), some (.inl (dm_al h)), some (.inl x), some (.inl (nI t)), none] [] M := by
    refine fm_ind 24 (fun t hle ih => ?_)
    intro x hx0
    refine fm_iload hX d_C_reachedWithout_17 rfl rfl ?_
    refine fm_bipush (v := nI 24) hX d_C_reachedWithout_19 (by decide) rfl ?_
    refine fm_n_ge (tgt := 53) (pq := 24) hX d_C_reachedWithout_21 rfl rfl (by omega) (by omega) (fun h21 => ?_) (fun h21 => ?_)
    · show fm_G SC Y_C_reachedWithout X M (fm_rv (dm_free (P.1 m) (P.2.2 m) h) M) 53 [some (.inr (kC m)), some (.inl (nI h)), some (.inl (dm_al h)), some (.inl x), some (.inl (nI t)), none] [] M
      refine fm_iload_n hX d_C_reachedWithout_53 rfl rfl rfl ?_
      refine fm_iret hX rfl d_C_reachedWithout_54 ?_
      first | exact fm_rvi (by rw [← hx0, show 24 - t = 0 by omega]; rfl) | exact fm_rvi (by rw [← hx0, show 24 - t = (24 - (t + 1)) + 1 by omega]; exact (if_pos h38).symm)
    · show fm_G SC Y_C_reachedWithout X M (fm_rv (dm_free (P.1 m) (P.2.2 m) h) M) 24 [some (.inr (kC m)), some (.inl (nI h)), some (.inl (dm_al h)), some (.inl x), some (.inl (nI t)), none] [] M
      refine fm_iload_n hX d_C_reachedWithout_24 rfl rfl rfl ?_
      refine fm_aload_n hX d_C_reachedWithout_25 rfl rfl rfl ?_
      refine fm_iload_n hX d_C_reachedWithout_26 rfl rfl rfl ?_
      refine fm_callV_i (as := [.inl x]) (st := [.inl x]) (pq := 30) hX (s_C (by omega)) rfl cC_38 rfl im_C_behind se_C_behind (k_C_behind (by omega) M hP hw x) rfl rfl (Nat.le_of_ble_eq_true rfl) (Nat.le_of_ble_eq_true rfl) d_C_reachedWithout_27 rfl ?_
      refine fm_ior (v := x ||| (dm_bh (P.1 m) (P.2.2 m) x (P.1 m))) hX d_C_reachedWithout_30 rfl rfl ?_
      refine fm_iload_n hX d_C_reachedWithout_31 rfl rfl rfl ?_
      refine fm_iand (v := (x ||| (dm_bh (P.1 m) (P.2.2 m) x (P.1 m))) &&& (dm_al h)) hX d_C_reachedWithout_32 rfl rfl ?_
      refine fm_istore (ls1 := [some (.inr (kC m)), some (.inl (nI h)), some (.inl (dm_al h)), some (.inl x), some (.inl (nI t)), some (.inl ((x ||| (dm_bh (P.1 m) (P.2.2 m) x (P.1 m))) &&& (dm_al h)))]) hX d_C_reachedWithout_33 (by decide) rfl rfl ?_
      refine fm_iload hX d_C_reachedWithout_35 rfl rfl ?_
      refine fm_iload_n hX d_C_reachedWithout_37 rfl rfl rfl ?_
      refine fm_icmp_ne (tgt := 44) (pq := 41) hX d_C_reachedWithout_38 rfl rfl (fun h38 => ?_) (fun h38 => ?_)
      · show fm_G SC Y_C_reachedWithout X M (fm_rv (dm_free (P.1 m) (P.2.2 m) h) M) 44 [some (.inr (kC m)), some (.inl (nI h)), some (.inl (dm_al h)), some (.inl x), some (.inl (nI t)), some (.inl ((x ||| (dm_bh (P.1 m) (P.2.2 m) x (P.1 m))) &&& (dm_al h)))] [] M
        refine fm_iload hX d_C_reachedWithout_44 rfl rfl ?_
        refine fm_istore_n (ls1 := [some (.inr (kC m)), some (.inl (nI h)), some (.inl (dm_al h)), some (.inl ((x ||| (dm_bh (P.1 m) (P.2.2 m) x (P.1 m))) &&& (dm_al h))), some (.inl (nI t)), some (.inl ((x ||| (dm_bh (P.1 m) (P.2.2 m) x (P.1 m))) &&& (dm_al h)))]) hX d_C_reachedWithout_46 rfl (by decide) rfl rfl ?_
        refine fm_iinc (v := nI (t + 1)) (ls1 := [some (.inr (kC m)), some (.inl (nI h)), some (.inl (dm_al h)), some (.inl ((x ||| (dm_bh (P.1 m) (P.2.2 m) x (P.1 m))) &&& (dm_al h))), some (.inl (nI (t + 1))), some (.inl ((x ||| (dm_bh (P.1 m) (P.2.2 m) x (P.1 m))) &&& (dm_al h)))]) hX d_C_reachedWithout_47 rfl (nI_add _ _) (by decide) rfl rfl ?_
        refine fm_goto (tgt := 17) hX d_C_reachedWithout_50 rfl ?_
        refine fm_drop 5 (ls1 := [some (.inr (kC m)), some (.inl (nI h)), some (.inl (dm_al h)), some (.inl ((x ||| (dm_bh (P.1 m) (P.2.2 m) x (P.1 m))) &&& (dm_al h))), some (.inl (nI (t + 1))), none]) rfl ?_
        exact ih (by omega) _ (by rw [← hx0, show 24 - t = (24 - (t + 1)) + 1 by omega]; exact (if_neg h38).symm)
      · show fm_G SC Y_C_reachedWithout X M (fm_rv (dm_free (P.1 m) (P.2.2 m) h) M) 41 [some (.inr (kC m)), some (.inl (nI h)), some (.inl (dm_al h)), some (.inl x), some (.inl (nI t)), some (.inl ((x ||| (dm_bh (P.1 m) (P.2.2 m) x (P.1 m))) &&& (dm_al h)))] [] M
        refine fm_goto (tgt := 53) hX d_C_reachedWithout_41 rfl ?_
        refine fm_iload_n hX d_C_reachedWithout_53 rfl rfl rfl ?_
        refine fm_iret hX rfl d_C_reachedWithout_54 ?_
        first | exact fm_rvi (by rw [← hx0, show 24 - t = 0 by omega]; rfl) | exact fm_rvi (by rw [← hx0, show 24 - t = (24 - (t + 1)) + 1 by omega]; exact (if_pos h38).symm)
  show fm_G SC Y_C_reachedWithout X M (fm_rv (dm_free (P.1 m) (P.2.2 m) h) M) 0 [some (.inr (kC m)), some (.inl (nI h)), none, none, none, none] [] M
  refine fm_iconst (v := nI 1) hX d_C_reachedWithout_0 (by decide) rfl ?_
  refine fm_iload_n hX d_C_reachedWithout_1 rfl rfl rfl ?_
  refine fm_ishl (v := an_1 h) hX d_C_reachedWithout_2 rfl rfl ?_
  refine fm_iconst (v := (-1)) hX d_C_reachedWithout_3 (by decide) rfl ?_
  refine fm_ixor (v := (an_1 h) ^^^ ((-1))) hX d_C_reachedWithout_4 rfl rfl ?_
  refine fm_istore_n (ls1 := [some (.inr (kC m)), some (.inl (nI h)), some (.inl ((an_1 h) ^^^ ((-1)))), none, none, none]) hX d_C_reachedWithout_5 rfl (by decide) rfl rfl ?_
  refine fm_aload_n hX d_C_reachedWithout_6 rfl rfl rfl ?_
  refine fm_iconst (v := nI 0) hX d_C_reachedWithout_7 (by decide) rfl ?_
  refine fm_callV_i (as := [.inl (nI 0)]) (st := []) (pq := 11) hX (s_C (by omega)) rfl cC_34 rfl im_C_bit se_C_bit (k_C_bit (by omega) M hP hw (nI 0)) rfl rfl (Nat.le_of_ble_eq_true rfl) (Nat.le_of_ble_eq_true rfl) d_C_reachedWithout_8 rfl ?_
  refine fm_iload_n hX d_C_reachedWithout_11 rfl rfl rfl ?_
  refine fm_iand (v := (dm_bit (P.1 m) (nI 0)) &&& ((an_1 h) ^^^ ((-1)))) hX d_C_reachedWithout_12 rfl rfl ?_
  refine fm_istore_n (ls1 := [some (.inr (kC m)), some (.inl (nI h)), some (.inl ((an_1 h) ^^^ ((-1)))), some (.inl ((dm_bit (P.1 m) (nI 0)) &&& ((an_1 h) ^^^ ((-1))))), none, none]) hX d_C_reachedWithout_13 rfl (by decide) rfl rfl ?_
  refine fm_iconst (v := nI 0) hX d_C_reachedWithout_14 (by decide) rfl ?_
  refine fm_istore (ls1 := [some (.inr (kC m)), some (.inl (nI h)), some (.inl ((an_1 h) ^^^ ((-1)))), some (.inl ((dm_bit (P.1 m) (nI 0)) &&& ((an_1 h) ^^^ ((-1))))), some (.inl (nI 0)), none]) hX d_C_reachedWithout_15 (by decide) rfl rfl ?_
  exact L17 0 (by omega) _ rfl
end
section
/-! more of the class's state -/
def fm_fill (M : fm_M) (a n : Nat) (v : Int32) : fm_M := fun b j => if b = a ∧ j < n then v else M b j
theorem fm_fill_0 (M : fm_M) (a : Nat) (v : Int32) : fm_fill M a 0 v = M := by
  funext b j
  simp [fm_fill]
theorem fm_fill_s (M : fm_M) (a i : Nat) (v : Int32) : fm_up (fm_fill M a i v) a i v = fm_fill M a (i + 1) v := by
  funext b j
  unfold fm_up fm_fill
  by_cases h : b = a
  · by_cases k : j = i
    · rw [if_pos ⟨h, k⟩, if_pos ⟨h, by omega⟩]
    · rw [if_neg (fun z => k z.2)]
      by_cases l : j < i
      · rw [if_pos ⟨h, l⟩, if_pos ⟨h, by omega⟩]
      · rw [if_neg (fun z => l z.2), if_neg (fun z => l (by omega))]
  · rw [if_neg (fun z => h z.1), if_neg (fun z => h z.1), if_neg (fun z => h z.1)]
theorem fm_fill_o {M : fm_M} {a n b j : Nat} {v : Int32} (h : b ≠ a) : fm_fill M a n v b j = M b j := if_neg (fun z => h z.1)
theorem fm_fill_i {M : fm_M} {a n j : Nat} {v : Int32} (h : j < n) : fm_fill M a n v a j = v := if_pos ⟨rfl, h⟩
theorem cS_g {m : Nat} {M : fm_M} {s : Int32} : cS m M (fm_up M (kF m) 4 ((cA M m).2.2 ||| s)) (an_g (cA M m) s) := by
  refine ⟨Prod.ext (funext fun x => ?_) (Prod.ext (funext fun a => funext fun g => ?_) ?_), an_g_up _ _, fun a j q => ?_, Or.inl ⟨⟨rfl, rfl⟩, ?_⟩⟩
  · show (if x < 4 then fm_up M (kF m) 4 ((cA M m).2.2 ||| s) (kFm m) x else 0) = (if x < 4 then M (kFm m) x else 0)
    rw [fm_up_a (by show 22 + 15 * m ≠ 21 + 15 * m; omega)]
  · show (if a < 27 ∧ g < 2 then fm_up M (kF m) 4 ((cA M m).2.2 ||| s) (kFr m g) a else 0) = (if a < 27 ∧ g < 2 then M (kFr m g) a else 0)
    rw [fm_up_a (by show 24 + 15 * m + g ≠ 21 + 15 * m; omega)]
  · exact fm_up_s
  · exact fm_up_n (fun z => q (Or.inr (Or.inr (Or.inr ⟨z.1, Or.inr z.2⟩))))
  · exact fm_up_b (by omega)
theorem cS_o {m : Nat} {M M' : fm_M} {σ : an_T} (h : cS m M M' σ) {a j : Nat} (h1 : a ≠ 22 + 15 * m) (h2 : a ≠ 24 + 15 * m) (h3 : a ≠ 25 + 15 * m) (h4 : a ≠ 21 + 15 * m) : M' a j = M a j :=
  h.2.2.1 a j (fun w => by
    rcases w with w | w | w | w
    · exact h1 w
    · exact h2 (w.trans (by show 24 + 15 * m + 0 = _; omega))
    · exact h3 (w.trans (by show 24 + 15 * m + 1 = _; omega))
    · exact h4 w.1)
end
section
/-! Facts: leaves (written by program) -/
abbrev Y_A_fill : fm_Y := ("java/util/Arrays", b_A_fill, 4, none, 1)
set_option maxRecDepth 100000 in
set_option maxHeartbeats 4000000 in
theorem k_A_fill {a n : Nat} (ha : SC.2.1[a]? = some (.inl (0, n, []))) (hn : n < 2 ^ 31) (M : fm_M) (v : Int32) : fm_ct SC y_A_fill b_A_fill 4 none 1 [.inr a, .inl v] M (fm_vv (fm_fill M a n v)) := by
  refine fm_of (ls := [some (.inr a), some (.inl v), none, none]) (by decide) wsA_good (Nat.le_of_ble_eq_true rfl) rfl (fun X hX => ?_)
  have L5 : ∀ i, i ≤ n → fm_G SC Y_A_fill X M (fm_vv (fm_fill M a n v)) 5 [some (.inr a), some (.inl v), some (.inl (nI i)), some (.inl (nI n))] [] (fm_fill M a i v) := by
    refine fm_ind n (fun i hle ih => ?_)
    refine fm_iload_n hX d_A_fill_5 rfl rfl rfl ?_
    refine fm_iload_n hX d_A_fill_6 rfl rfl rfl ?_
    refine fm_n_ge (tgt := 20) (pq := 10) hX d_A_fill_7 rfl rfl (by omega) (by omega) (fun h7 => ?_) (fun h7 => ?_)
    · show fm_G SC Y_A_fill X M (fm_vv (fm_fill M a n v)) 20 [some (.inr a), some (.inl v), some (.inl (nI i)), some (.inl (nI n))] [] (fm_fill M a i v)
      refine fm_vret hX rfl d_A_fill_20 ?_
      exact ⟨rfl, by rw [show i = n by omega]⟩
    · show fm_G SC Y_A_fill X M (fm_vv (fm_fill M a n v)) 10 [some (.inr a), some (.inl v), some (.inl (nI i)), some (.inl (nI n))] [] (fm_fill M a i v)
      refine fm_aload_n hX d_A_fill_10 rfl rfl rfl ?_
      refine fm_iload_n hX d_A_fill_11 rfl rfl rfl ?_
      refine fm_iload_n hX d_A_fill_12 rfl rfl rfl ?_
      refine fm_iast hX ha rfl rfl (by omega) hn d_A_fill_13 rfl ?_
      refine fm_mem (M' := fm_fill M a (i + 1) v) (fm_fill_s M a i v) ?_
      refine fm_iinc (v := nI (i + 1)) (ls1 := [some (.inr a), some (.inl v), some (.inl (nI (i + 1))), some (.inl (nI n))]) hX d_A_fill_14 rfl (nI_add _ _) (by decide) rfl rfl ?_
      refine fm_goto (tgt := 5) hX d_A_fill_17 rfl ?_
      exact ih (by omega)
  show fm_G SC Y_A_fill X M (fm_vv (fm_fill M a n v)) 0 [some (.inr a), some (.inl v), none, none] [] M
  refine fm_iconst (v := nI 0) hX d_A_fill_0 (by decide) rfl ?_
  refine fm_istore_n (ls1 := [some (.inr a), some (.inl v), some (.inl (nI 0)), none]) hX d_A_fill_1 rfl (by decide) rfl rfl ?_
  refine fm_aload_n hX d_A_fill_2 rfl rfl rfl ?_
  refine fm_alen hX ha rfl d_A_fill_3 rfl ?_
  refine fm_istore_n (ls1 := [some (.inr a), some (.inl v), some (.inl (nI 0)), some (.inl (nI n))]) hX d_A_fill_4 rfl (by decide) rfl rfl ?_
  refine fm_mem (fm_fill_0 M a v).symm ?_
  exact L5 0 (by omega)
abbrev Y_F_refer : fm_Y := ("EscapeMill$Facts", b_F_refer, 3, none, 1)
set_option maxRecDepth 100000 in
set_option maxHeartbeats 4000000 in
theorem k_F_refer {m : Nat} (hm : m < 5) (M : fm_M) {r : Nat} (hr : r < 4) (s : Int32) : fm_ct SC y_F_refer b_F_refer 3 none 1 [.inr (kF m), .inl (nI r), .inl s] M (fm_vr (fun M' => cS m M M' (an_m (cA M m) r s))) := by
  refine fm_of (ls := [some (.inr (kF m)), some (.inl (nI r)), some (.inl s)]) (by decide) wsA_good (Nat.le_of_ble_eq_true rfl) rfl (fun X hX => ?_)
  show fm_G SC Y_F_refer X M (fm_vr (fun M' => cS m M M' (an_m (cA M m) r s))) 0 [some (.inr (kF m)), some (.inl (nI r)), some (.inl s)] [] M
  refine fm_aload_n hX d_F_refer_0 rfl rfl rfl ?_
  refine fm_getr (q := kFm m) hX fF_9 (s_F (by omega)) rfl d_F_refer_1 rfl ?_
  refine fm_iload_n hX d_F_refer_4 rfl rfl rfl ?_
  refine fm_iald (v := M (kFm m) r) hX (s_Fm (by omega)) rfl rfl (by omega) (by decide) rfl d_F_refer_5 rfl ?_
  refine fm_iload_n hX d_F_refer_6 rfl rfl rfl ?_
  refine fm_ior (v := (M (kFm m) r) ||| s) hX d_F_refer_7 rfl rfl ?_
  refine fm_aload_n hX d_F_refer_8 rfl rfl rfl ?_
  refine fm_getr (q := kFm m) hX fF_9 (s_F (by omega)) rfl d_F_refer_9 rfl ?_
  refine fm_iload_n hX d_F_refer_12 rfl rfl rfl ?_
  refine fm_iald (v := M (kFm m) r) hX (s_Fm (by omega)) rfl rfl (by omega) (by decide) rfl d_F_refer_13 rfl ?_
  refine fm_icmp_eq (tgt := 32) (pq := 17) hX d_F_refer_14 rfl rfl (fun h14 => ?_) (fun h14 => ?_)
  · show fm_G SC Y_F_refer X M (fm_vr (fun M' => cS m M M' (an_m (cA M m) r s))) 32 [some (.inr (kF m)), some (.inl (nI r)), some (.inl s)] [] M
    refine fm_vret hX rfl d_F_refer_32 ?_
    exact ⟨rfl, cS_m0 hr h14⟩
  · show fm_G SC Y_F_refer X M (fm_vr (fun M' => cS m M M' (an_m (cA M m) r s))) 17 [some (.inr (kF m)), some (.inl (nI r)), some (.inl s)] [] M
    refine fm_aload_n hX d_F_refer_17 rfl rfl rfl ?_
    refine fm_getr (q := kFm m) hX fF_9 (s_F (by omega)) rfl d_F_refer_18 rfl ?_
    refine fm_iload_n hX d_F_refer_21 rfl rfl rfl ?_
    refine fm_dup2 hX d_F_refer_22 rfl ?_
    refine fm_iald (v := M (kFm m) r) hX (s_Fm (by omega)) rfl rfl (by omega) (by decide) rfl d_F_refer_23 rfl ?_
    refine fm_iload_n hX d_F_refer_24 rfl rfl rfl ?_
    refine fm_ior (v := (M (kFm m) r) ||| s) hX d_F_refer_25 rfl rfl ?_
    refine fm_iast hX (s_Fm (by omega)) rfl rfl (by omega) (by decide) d_F_refer_26 rfl ?_
    refine fm_aload_n hX d_F_refer_27 rfl rfl rfl ?_
    refine fm_iconst (v := nI 1) hX d_F_refer_28 (by decide) rfl ?_
    refine fm_puti hX fF_37 pF_7 (s_F (by omega)) rfl (by decide) (by decide) d_F_refer_29 rfl ?_
    refine fm_vret hX rfl d_F_refer_32 ?_
    exact ⟨rfl, cS_m1 hr h14⟩
abbrev Y_F_holdIn : fm_Y := ("EscapeMill$Facts", b_F_holdIn, 6, none, 1)
set_option maxRecDepth 100000 in
set_option maxHeartbeats 4000000 in
theorem k_F_holdIn {m : Nat} (hm : m < 5) (M : fm_M) {f : Nat} (hf : f < 2) (who s : Int32) : fm_ct SC y_F_holdIn b_F_holdIn 6 none 1 [.inr (kF m), .inl (nI f), .inl who, .inl s] M (fm_vr (fun M' => cS m M M' (an_h (cA M m) who (fun _ g => decide (g = f)) s))) := by
  refine fm_of (ls := [some (.inr (kF m)), some (.inl (nI f)), some (.inl who), some (.inl s), none, none]) (by decide) wsA_good (Nat.le_of_ble_eq_true rfl) rfl (fun X hX => ?_)
  have L11 : ∀ i, i ≤ 27 → ∀ M1, cS m M M1 (an_h (cA M m) who (cHn f i) s) → fm_G SC Y_F_holdIn X M (fm_vr (fun M' => cS m M M' (an_h (cA M m) who (fun _ g => decide (g = f)) s))) 11 [some (.inr (kF m)), some (.inl (nI f)), some (.inl who), some (.inl s), some (.inr (kFr m f)), some (.inl (nI i))] [] M1 := by
    refine fm_ind 27 (fun i hle ih => ?_)
    intro M1 hc
    refine fm_iload hX d_F_holdIn_11 rfl rfl ?_
    refine fm_bipush (v := nI 27) hX d_F_holdIn_13 (by decide) rfl ?_
    refine fm_n_ge (tgt := 63) (pq := 18) hX d_F_holdIn_15 rfl rfl (by omega) (by omega) (fun h15 => ?_) (fun h15 => ?_)
    · show fm_G SC Y_F_holdIn X M (fm_vr (fun M' => cS m M M' (an_h (cA M m) who (fun _ g => decide (g = f)) s))) 63 [some (.inr (kF m)), some (.inl (nI f)), some (.inl who), some (.inl s), some (.inr (kFr m f)), some (.inl (nI i))] [] M1
      refine fm_vret hX rfl d_F_holdIn_63 ?_
      exact ⟨rfl, cS_eq hc (by rw [show i = 27 by omega]; exact cHn_27 _ _ _ _)⟩
    · show fm_G SC Y_F_holdIn X M (fm_vr (fun M' => cS m M M' (an_h (cA M m) who (fun _ g => decide (g = f)) s))) 18 [some (.inr (kF m)), some (.inl (nI f)), some (.inl who), some (.inl s), some (.inr (kFr m f)), some (.inl (nI i))] [] M1
      refine fm_iload_n hX d_F_holdIn_18 rfl rfl rfl ?_
      refine fm_iload hX d_F_holdIn_19 rfl rfl ?_
      refine fm_ishr (v := who >>> (nI i &&& 31)) hX d_F_holdIn_21 rfl rfl ?_
      refine fm_iconst (v := nI 1) hX d_F_holdIn_22 (by decide) rfl ?_
      refine fm_iand (v := bI (bt who i)) hX d_F_holdIn_23 (fm_bit _ (by omega)) rfl ?_
      refine fm_iconst (v := nI 1) hX d_F_holdIn_24 (by decide) rfl ?_
      refine fm_b2_ne1 (tgt := 57) (pq := 28) hX d_F_holdIn_25 rfl rfl (fun h25 => ?_) (fun h25 => ?_)
      · show fm_G SC Y_F_holdIn X M (fm_vr (fun M' => cS m M M' (an_h (cA M m) who (fun _ g => decide (g = f)) s))) 57 [some (.inr (kF m)), some (.inl (nI f)), some (.inl who), some (.inl s), some (.inr (kFr m f)), some (.inl (nI i))] [] M1
        refine fm_iinc (v := nI (i + 1)) (ls1 := [some (.inr (kF m)), some (.inl (nI f)), some (.inl who), some (.inl s), some (.inr (kFr m f)), some (.inl (nI (i + 1)))]) hX d_F_holdIn_57 rfl (nI_add _ _) (by decide) rfl rfl ?_
        refine fm_goto (tgt := 11) hX d_F_holdIn_60 rfl ?_
        first | exact ih (by omega) _ (cS_h0 hf (by omega) hc (fun q => q.2 h40)) | exact ih (by omega) _ (cS_h0 hf (by omega) hc (fun q => by rw [h25] at q; exact absurd q.1 (by decide)))
      · show fm_G SC Y_F_holdIn X M (fm_vr (fun M' => cS m M M' (an_h (cA M m) who (fun _ g => decide (g = f)) s))) 28 [some (.inr (kF m)), some (.inl (nI f)), some (.inl who), some (.inl s), some (.inr (kFr m f)), some (.inl (nI i))] [] M1
        refine fm_aload hX d_F_holdIn_28 rfl rfl ?_
        refine fm_iload hX d_F_holdIn_30 rfl rfl ?_
        refine fm_iald (v := M1 (kFr m f) i) hX (s_Fr (by omega) (by omega)) rfl rfl (by omega) (by decide) rfl d_F_holdIn_32 rfl ?_
        refine fm_iload_n hX d_F_holdIn_33 rfl rfl rfl ?_
        refine fm_ior (v := (M1 (kFr m f) i) ||| s) hX d_F_holdIn_34 rfl rfl ?_
        refine fm_aload hX d_F_holdIn_35 rfl rfl ?_
        refine fm_iload hX d_F_holdIn_37 rfl rfl ?_
        refine fm_iald (v := M1 (kFr m f) i) hX (s_Fr (by omega) (by omega)) rfl rfl (by omega) (by decide) rfl d_F_holdIn_39 rfl ?_
        refine fm_icmp_eq (tgt := 57) (pq := 43) hX d_F_holdIn_40 rfl rfl (fun h40 => ?_) (fun h40 => ?_)
        · show fm_G SC Y_F_holdIn X M (fm_vr (fun M' => cS m M M' (an_h (cA M m) who (fun _ g => decide (g = f)) s))) 57 [some (.inr (kF m)), some (.inl (nI f)), some (.inl who), some (.inl s), some (.inr (kFr m f)), some (.inl (nI i))] [] M1
          refine fm_iinc (v := nI (i + 1)) (ls1 := [some (.inr (kF m)), some (.inl (nI f)), some (.inl who), some (.inl s), some (.inr (kFr m f)), some (.inl (nI (i + 1)))]) hX d_F_holdIn_57 rfl (nI_add _ _) (by decide) rfl rfl ?_
          refine fm_goto (tgt := 11) hX d_F_holdIn_60 rfl ?_
          first | exact ih (by omega) _ (cS_h0 hf (by omega) hc (fun q => q.2 h40)) | exact ih (by omega) _ (cS_h0 hf (by omega) hc (fun q => by rw [h25] at q; exact absurd q.1 (by decide)))
        · show fm_G SC Y_F_holdIn X M (fm_vr (fun M' => cS m M M' (an_h (cA M m) who (fun _ g => decide (g = f)) s))) 43 [some (.inr (kF m)), some (.inl (nI f)), some (.inl who), some (.inl s), some (.inr (kFr m f)), some (.inl (nI i))] [] M1
          refine fm_aload hX d_F_holdIn_43 rfl rfl ?_
          refine fm_iload hX d_F_holdIn_45 rfl rfl ?_
          refine fm_dup2 hX d_F_holdIn_47 rfl ?_
          refine fm_iald (v := M1 (kFr m f) i) hX (s_Fr (by omega) (by omega)) rfl rfl (by omega) (by decide) rfl d_F_holdIn_48 rfl ?_
          refine fm_iload_n hX d_F_holdIn_49 rfl rfl rfl ?_
          refine fm_ior (v := (M1 (kFr m f) i) ||| s) hX d_F_holdIn_50 rfl rfl ?_
          refine fm_iast hX (s_Fr (by omega) (by omega)) rfl rfl (by omega) (by decide) d_F_holdIn_51 rfl ?_
          refine fm_aload_n hX d_F_holdIn_52 rfl rfl rfl ?_
          refine fm_iconst (v := nI 1) hX d_F_holdIn_53 (by decide) rfl ?_
          refine fm_puti hX fF_37 pF_7 (s_F (by omega)) rfl (by decide) (by decide) d_F_holdIn_54 rfl ?_
          refine fm_iinc (v := nI (i + 1)) (ls1 := [some (.inr (kF m)), some (.inl (nI f)), some (.inl who), some (.inl s), some (.inr (kFr m f)), some (.inl (nI (i + 1)))]) hX d_F_holdIn_57 rfl (nI_add _ _) (by decide) rfl rfl ?_
          refine fm_goto (tgt := 11) hX d_F_holdIn_60 rfl ?_
          exact ih (by omega) _ (cS_h1 hf (by omega) hc h25 h40)
  show fm_G SC Y_F_holdIn X M (fm_vr (fun M' => cS m M M' (an_h (cA M m) who (fun _ g => decide (g = f)) s))) 0 [some (.inr (kF m)), some (.inl (nI f)), some (.inl who), some (.inl s), none, none] [] M
  refine fm_aload_n hX d_F_holdIn_0 rfl rfl rfl ?_
  refine fm_getr (q := kFh m) hX fF_17 (s_F (by omega)) rfl d_F_holdIn_1 rfl ?_
  refine fm_iload_n hX d_F_holdIn_4 rfl rfl rfl ?_
  refine fm_aald (q := kFr m f) hX (s_Fh (by omega)) (by decide) rfl rfl rfl (by omega) (by decide) (r_Fr (by omega)) d_F_holdIn_5 rfl ?_
  refine fm_astore (ls1 := [some (.inr (kF m)), some (.inl (nI f)), some (.inl who), some (.inl s), some (.inr (kFr m f)), none]) hX d_F_holdIn_6 (by decide) rfl rfl ?_
  refine fm_iconst (v := nI 0) hX d_F_holdIn_8 (by decide) rfl ?_
  refine fm_istore (ls1 := [some (.inr (kF m)), some (.inl (nI f)), some (.inl who), some (.inl s), some (.inr (kFr m f)), some (.inl (nI 0))]) hX d_F_holdIn_9 (by decide) rfl rfl ?_
  exact L11 0 (by omega) M (cS_eq (cS_rf m M) (cHn_0 _ _ _ _).symm)
abbrev Y_F_holdInBoth : fm_Y := ("EscapeMill$Facts", b_F_holdInBoth, 3, none, 2)
set_option maxRecDepth 100000 in
set_option maxHeartbeats 4000000 in
theorem k_F_holdInBoth {m : Nat} (hm : m < 5) (M : fm_M) (who s : Int32) : fm_ct SC y_F_holdInBoth b_F_holdInBoth 3 none 2 [.inr (kF m), .inl who, .inl s] M (fm_vr (fun M' => cS m M M' (an_h (cA M m) who an_al s))) := by
  refine fm_of (ls := [some (.inr (kF m)), some (.inl who), some (.inl s)]) (by decide) wsA_good (Nat.le_of_ble_eq_true rfl) rfl (fun X hX => ?_)
  show fm_G SC Y_F_holdInBoth X M (fm_vr (fun M' => cS m M M' (an_h (cA M m) who an_al s))) 0 [some (.inr (kF m)), some (.inl who), some (.inl s)] [] M
  refine fm_aload_n hX d_F_holdInBoth_0 rfl rfl rfl ?_
  refine fm_iconst (v := nI 0) hX d_F_holdInBoth_1 (by decide) rfl ?_
  refine fm_iload_n hX d_F_holdInBoth_2 rfl rfl rfl ?_
  refine fm_iload_n hX d_F_holdInBoth_3 rfl rfl rfl ?_
  refine fm_callV_r (as := [.inl (nI 0), .inl who, .inl s]) (st := []) (pq := 7) hX (s_F (by omega)) rfl cF_110 rfl im_F_holdIn se_F_holdIn (k_F_holdIn (by omega) M (f := 0) (by omega) who s) rfl rfl (Nat.le_of_ble_eq_true rfl) (Nat.le_of_ble_eq_true rfl) d_F_holdInBoth_4 rfl (fun M4 c4 => ?_)
  refine fm_aload_n hX d_F_holdInBoth_7 rfl rfl rfl ?_
  refine fm_iconst (v := nI 1) hX d_F_holdInBoth_8 (by decide) rfl ?_
  refine fm_iload_n hX d_F_holdInBoth_9 rfl rfl rfl ?_
  refine fm_iload_n hX d_F_holdInBoth_10 rfl rfl rfl ?_
  refine fm_callV_r (as := [.inl (nI 1), .inl who, .inl s]) (st := []) (pq := 14) hX (s_F (by omega)) rfl cF_110 rfl im_F_holdIn se_F_holdIn (k_F_holdIn (by omega) M4 (f := 1) (by omega) who s) rfl rfl (Nat.le_of_ble_eq_true rfl) (Nat.le_of_ble_eq_true rfl) d_F_holdInBoth_11 rfl (fun M11 c11 => ?_)
  refine fm_vret hX rfl d_F_holdInBoth_14 ?_
  exact ⟨rfl, cS_eq (cS_tr c4 c11) (by rw [c4.1]; exact an_h_both _ _ _)⟩
abbrev Y_F_hold : fm_Y := ("EscapeMill$Facts", b_F_hold, 5, none, 3)
set_option maxRecDepth 100000 in
set_option maxHeartbeats 4000000 in
theorem k_F_hold {m : Nat} (hm : m < 5) (M : fm_M) (who : Int32) {f : Nat} (hf : f < 2) (s : Int32) : fm_ct SC y_F_hold b_F_hold 5 none 3 [.inr (kF m), .inl who, .inl (nI f), .inl s] M (fm_vr (fun M' => cS m M M' (an_h (cA M m) who (fun a g => decide (23 < a) || decide (g = f)) s))) := by
  refine fm_of (ls := [some (.inr (kF m)), some (.inl who), some (.inl (nI f)), some (.inl s), none]) (by decide) wsA_good (Nat.le_of_ble_eq_true rfl) rfl (fun X hX => ?_)
  show fm_G SC Y_F_hold X M (fm_vr (fun M' => cS m M M' (an_h (cA M m) who (fun a g => decide (23 < a) || decide (g = f)) s))) 0 [some (.inr (kF m)), some (.inl who), some (.inl (nI f)), some (.inl s), none] [] M
  refine fm_iload_n hX d_F_hold_0 rfl rfl rfl ?_
  refine fm_ldc (v := 16777215) hX d_F_hold_1 kF_109 rfl ?_
  refine fm_iand (v := who &&& 16777215) hX d_F_hold_3 rfl rfl ?_
  refine fm_istore (ls1 := [some (.inr (kF m)), some (.inl who), some (.inl (nI f)), some (.inl s), some (.inl (who &&& 16777215))]) hX d_F_hold_4 (by decide) rfl rfl ?_
  refine fm_aload_n hX d_F_hold_6 rfl rfl rfl ?_
  refine fm_iload_n hX d_F_hold_7 rfl rfl rfl ?_
  refine fm_iload hX d_F_hold_8 rfl rfl ?_
  refine fm_iload_n hX d_F_hold_10 rfl rfl rfl ?_
  refine fm_callV_r (as := [.inl (nI f), .inl (who &&& 16777215), .inl s]) (st := []) (pq := 14) hX (s_F (by omega)) rfl cF_110 rfl im_F_holdIn se_F_holdIn (k_F_holdIn (by omega) M (f := f) (by omega) (who &&& 16777215) s) rfl rfl (Nat.le_of_ble_eq_true rfl) (Nat.le_of_ble_eq_true rfl) d_F_hold_11 rfl (fun M11 c11 => ?_)
  refine fm_aload_n hX d_F_hold_14 rfl rfl rfl ?_
  refine fm_iload_n hX d_F_hold_15 rfl rfl rfl ?_
  refine fm_iload hX d_F_hold_16 rfl rfl ?_
  refine fm_iconst (v := (-1)) hX d_F_hold_18 (by decide) rfl ?_
  refine fm_ixor (v := (who &&& 16777215) ^^^ ((-1))) hX d_F_hold_19 rfl rfl ?_
  refine fm_iand (v := who &&& ((who &&& 16777215) ^^^ ((-1)))) hX d_F_hold_20 rfl rfl ?_
  refine fm_iload_n hX d_F_hold_21 rfl rfl rfl ?_
  refine fm_callV_r (as := [.inl (who &&& ((who &&& 16777215) ^^^ ((-1)))), .inl s]) (st := []) (pq := 25) hX (s_F (by omega)) rfl cF_81 rfl im_F_holdInBoth se_F_holdInBoth (k_F_holdInBoth (by omega) M11 (who &&& ((who &&& 16777215) ^^^ ((-1)))) s) rfl rfl (Nat.le_of_ble_eq_true rfl) (Nat.le_of_ble_eq_true rfl) d_F_hold_22 rfl (fun M22 c22 => ?_)
  refine fm_vret hX rfl d_F_hold_25 ?_
  exact ⟨rfl, cS_eq (cS_tr c11 c22) (by rw [c11.1]; exact an_h_hold _ _ _ _)⟩
abbrev Y_F_heldBy : fm_Y := ("EscapeMill$Facts", b_F_heldBy, 6, (some .int), 1)
set_option maxRecDepth 100000 in
set_option maxHeartbeats 4000000 in
theorem k_F_heldBy {m : Nat} (hm : m < 5) (M : fm_M) (who : Int32) {f : Nat} (hf : f < 2) : fm_ct SC y_F_heldBy b_F_heldBy 6 (some .int) 1 [.inr (kF m), .inl who, .inl (nI f)] M (fm_rv (an_hb (fun a => (cA M m).2.1 a f) who 27) M) := by
  refine fm_of (ls := [some (.inr (kF m)), some (.inl who), some (.inl (nI f)), none, none, none]) (by decide) wsA_good (Nat.le_of_ble_eq_true rfl) rfl (fun X hX => ?_)
  have L13 : ∀ i, i ≤ 27 → ∀ x, x = an_hb (fun a => (cA M m).2.1 a f) who i → fm_G SC Y_F_heldBy X M (fm_rv (an_hb (fun a => (cA M m).2.1 a f) who 27) M) 13 [some (.inr (kF m)), some (.inl who), some (.inl (nI f)), some (.inr (kFr m f)), some (.inl x), some (.inl (nI i))] [] M := by
    refine fm_ind 27 (fun i hle ih => ?_)
    intro x hx0
    refine fm_iload hX d_F_heldBy_13 rfl rfl ?_
    refine fm_bipush (v := nI 27) hX d_F_heldBy_15 (by decide) rfl ?_
    refine fm_n_ge (tgt := 45) (pq := 20) hX d_F_heldBy_17 rfl rfl (by omega) (by omega) (fun h17 => ?_) (fun h17 => ?_)
    · show fm_G SC Y_F_heldBy X M (fm_rv (an_hb (fun a => (cA M m).2.1 a f) who 27) M) 45 [some (.inr (kF m)), some (.inl who), some (.inl (nI f)), some (.inr (kFr m f)), some (.inl x), some (.inl (nI i))] [] M
      refine fm_iload hX d_F_heldBy_45 rfl rfl ?_
      refine fm_iret hX rfl d_F_heldBy_47 ?_
      exact fm_rvi (by rw [hx0, show i = 27 by omega])
    · show fm_G SC Y_F_heldBy X M (fm_rv (an_hb (fun a => (cA M m).2.1 a f) who 27) M) 20 [some (.inr (kF m)), some (.inl who), some (.inl (nI f)), some (.inr (kFr m f)), some (.inl x), some (.inl (nI i))] [] M
      refine fm_iload_n hX d_F_heldBy_20 rfl rfl rfl ?_
      refine fm_iload hX d_F_heldBy_21 rfl rfl ?_
      refine fm_ishr (v := who >>> (nI i &&& 31)) hX d_F_heldBy_23 rfl rfl ?_
      refine fm_iconst (v := nI 1) hX d_F_heldBy_24 (by decide) rfl ?_
      refine fm_iand (v := bI (bt who i)) hX d_F_heldBy_25 (fm_bit _ (by omega)) rfl ?_
      refine fm_iconst (v := nI 1) hX d_F_heldBy_26 (by decide) rfl ?_
      refine fm_b2_ne1 (tgt := 39) (pq := 30) hX d_F_heldBy_27 rfl rfl (fun h27 => ?_) (fun h27 => ?_)
      · show fm_G SC Y_F_heldBy X M (fm_rv (an_hb (fun a => (cA M m).2.1 a f) who 27) M) 39 [some (.inr (kF m)), some (.inl who), some (.inl (nI f)), some (.inr (kFr m f)), some (.inl x), some (.inl (nI i))] [] M
        refine fm_iinc (v := nI (i + 1)) (ls1 := [some (.inr (kF m)), some (.inl who), some (.inl (nI f)), some (.inr (kFr m f)), some (.inl x), some (.inl (nI (i + 1)))]) hX d_F_heldBy_39 rfl (nI_add _ _) (by decide) rfl rfl ?_
        refine fm_goto (tgt := 13) hX d_F_heldBy_42 rfl ?_
        first | exact ih (by omega) _ (by rw [hx0]; exact (an_hb_t h27).symm) | exact ih (by omega) _ (by rw [hx0]; exact (an_hb_f h27).symm)
      · show fm_G SC Y_F_heldBy X M (fm_rv (an_hb (fun a => (cA M m).2.1 a f) who 27) M) 30 [some (.inr (kF m)), some (.inl who), some (.inl (nI f)), some (.inr (kFr m f)), some (.inl x), some (.inl (nI i))] [] M
        refine fm_iload hX d_F_heldBy_30 rfl rfl ?_
        refine fm_aload_n hX d_F_heldBy_32 rfl rfl rfl ?_
        refine fm_iload hX d_F_heldBy_33 rfl rfl ?_
        refine fm_iald (v := (cA M m).2.1 i f) hX (s_Fr (by omega) (by omega)) rfl rfl (by omega) (by decide) (cA_h (by omega) (by omega)).symm d_F_heldBy_35 rfl ?_
        refine fm_ior (v := x ||| ((cA M m).2.1 i f)) hX d_F_heldBy_36 rfl rfl ?_
        refine fm_istore (ls1 := [some (.inr (kF m)), some (.inl who), some (.inl (nI f)), some (.inr (kFr m f)), some (.inl (x ||| ((cA M m).2.1 i f))), some (.inl (nI i))]) hX d_F_heldBy_37 (by decide) rfl rfl ?_
        refine fm_iinc (v := nI (i + 1)) (ls1 := [some (.inr (kF m)), some (.inl who), some (.inl (nI f)), some (.inr (kFr m f)), some (.inl (x ||| ((cA M m).2.1 i f))), some (.inl (nI (i + 1)))]) hX d_F_heldBy_39 rfl (nI_add _ _) (by decide) rfl rfl ?_
        refine fm_goto (tgt := 13) hX d_F_heldBy_42 rfl ?_
        first | exact ih (by omega) _ (by rw [hx0]; exact (an_hb_t h27).symm) | exact ih (by omega) _ (by rw [hx0]; exact (an_hb_f h27).symm)
  show fm_G SC Y_F_heldBy X M (fm_rv (an_hb (fun a => (cA M m).2.1 a f) who 27) M) 0 [some (.inr (kF m)), some (.inl who), some (.inl (nI f)), none, none, none] [] M
  refine fm_aload_n hX d_F_heldBy_0 rfl rfl rfl ?_
  refine fm_getr (q := kFh m) hX fF_17 (s_F (by omega)) rfl d_F_heldBy_1 rfl ?_
  refine fm_iload_n hX d_F_heldBy_4 rfl rfl rfl ?_
  refine fm_aald (q := kFr m f) hX (s_Fh (by omega)) (by decide) rfl rfl rfl (by omega) (by decide) (r_Fr (by omega)) d_F_heldBy_5 rfl ?_
  refine fm_astore_n (ls1 := [some (.inr (kF m)), some (.inl who), some (.inl (nI f)), some (.inr (kFr m f)), none, none]) hX d_F_heldBy_6 rfl (by decide) rfl rfl ?_
  refine fm_iconst (v := nI 0) hX d_F_heldBy_7 (by decide) rfl ?_
  refine fm_istore (ls1 := [some (.inr (kF m)), some (.inl who), some (.inl (nI f)), some (.inr (kFr m f)), some (.inl (nI 0)), none]) hX d_F_heldBy_8 (by decide) rfl rfl ?_
  refine fm_iconst (v := nI 0) hX d_F_heldBy_10 (by decide) rfl ?_
  refine fm_istore (ls1 := [some (.inr (kF m)), some (.inl who), some (.inl (nI f)), some (.inr (kFr m f)), some (.inl (nI 0)), some (.inl (nI 0))]) hX d_F_heldBy_11 (by decide) rfl rfl ?_
  exact L13 0 (by omega) _ rfl
abbrev Y_F_reached : fm_Y := ("EscapeMill$Facts", b_F_reached, 5, (some .int), 2)
set_option maxRecDepth 100000 in
set_option maxHeartbeats 4000000 in
theorem k_F_reached {m : Nat} (hm : m < 5) (M : fm_M) (s0 : Int32) : fm_ct SC y_F_reached b_F_reached 5 (some .int) 2 [.inr (kF m), .inl s0] M (fm_rv (an_rc (cA M m).2.1 s0) M) := by
  refine fm_of (ls := [some (.inr (kF m)), some (.inl s0), none, none, none]) (by decide) wsA_good (Nat.le_of_ble_eq_true rfl) rfl (fun X hX => ?_)
  have L4 : ∀ t, t ≤ 27 → ∀ x, an_rcn (cA M m).2.1 (27 - t) x = an_rc (cA M m).2.1 s0 → fm_G SC Y_F_reached X M (fm_rv (an_rc (cA M m).2.1 s0) M) 4 [some (.inr (kF m)), some (.inl s0), some (.inl x), some (.inl (nI t)), none] [] M := by
    refine fm_ind 27 (fun t hle ih => ?_)
    intro x hx0
    refine fm_iload_n hX d_F_reached_4 rfl rfl rfl ?_
    refine fm_bipush (v := nI 27) hX d_F_reached_5 (by decide) rfl ?_
    refine fm_n_ge (tgt := 45) (pq := 10) hX d_F_reached_7 rfl rfl (by omega) (by omega) (fun h7 => ?_) (fun h7 => ?_)
    · show fm_G SC Y_F_reached X M (fm_rv (an_rc (cA M m).2.1 s0) M) 45 [some (.inr (kF m)), some (.inl s0), some (.inl x), some (.inl (nI t)), none] [] M
      refine fm_iload_n hX d_F_reached_45 rfl rfl rfl ?_
      refine fm_iret hX rfl d_F_reached_46 ?_
      first | exact fm_rvi (by rw [← hx0, show 27 - t = 0 by omega]; rfl) | exact fm_rvi (by rw [← hx0, show 27 - t = (27 - (t + 1)) + 1 by omega]; exact (an_rcn_b h30).symm)
    · show fm_G SC Y_F_reached X M (fm_rv (an_rc (cA M m).2.1 s0) M) 10 [some (.inr (kF m)), some (.inl s0), some (.inl x), some (.inl (nI t)), none] [] M
      refine fm_iload_n hX d_F_reached_10 rfl rfl rfl ?_
      refine fm_aload_n hX d_F_reached_11 rfl rfl rfl ?_
      refine fm_iload_n hX d_F_reached_12 rfl rfl rfl ?_
      refine fm_iconst (v := nI 0) hX d_F_reached_13 (by decide) rfl ?_
      refine fm_callV_i (as := [.inl x, .inl (nI 0)]) (st := [.inl x]) (pq := 17) hX (s_F (by omega)) rfl cF_94 rfl im_F_heldBy se_F_heldBy (k_F_heldBy (by omega) M x (f := 0) (by omega)) rfl rfl (Nat.le_of_ble_eq_true rfl) (Nat.le_of_ble_eq_true rfl) d_F_reached_14 rfl ?_
      refine fm_ior (v := x ||| (an_hb (fun a => (cA M m).2.1 a 0) x 27)) hX d_F_reached_17 rfl rfl ?_
      refine fm_aload_n hX d_F_reached_18 rfl rfl rfl ?_
      refine fm_iload_n hX d_F_reached_19 rfl rfl rfl ?_
      refine fm_iconst (v := nI 1) hX d_F_reached_20 (by decide) rfl ?_
      refine fm_callV_i (as := [.inl x, .inl (nI 1)]) (st := [.inl (x ||| (an_hb (fun a => (cA M m).2.1 a 0) x 27))]) (pq := 24) hX (s_F (by omega)) rfl cF_94 rfl im_F_heldBy se_F_heldBy (k_F_heldBy (by omega) M x (f := 1) (by omega)) rfl rfl (Nat.le_of_ble_eq_true rfl) (Nat.le_of_ble_eq_true rfl) d_F_reached_21 rfl ?_
      refine fm_ior (v := (x ||| (an_hb (fun a => (cA M m).2.1 a 0) x 27)) ||| (an_hb (fun a => (cA M m).2.1 a 1) x 27)) hX d_F_reached_24 rfl rfl ?_
      refine fm_istore (ls1 := [some (.inr (kF m)), some (.inl s0), some (.inl x), some (.inl (nI t)), some (.inl ((x ||| (an_hb (fun a => (cA M m).2.1 a 0) x 27)) ||| (an_hb (fun a => (cA M m).2.1 a 1) x 27)))]) hX d_F_reached_25 (by decide) rfl rfl ?_
      refine fm_iload hX d_F_reached_27 rfl rfl ?_
      refine fm_iload_n hX d_F_reached_29 rfl rfl rfl ?_
      refine fm_icmp_ne (tgt := 36) (pq := 33) hX d_F_reached_30 rfl rfl (fun h30 => ?_) (fun h30 => ?_)
      · show fm_G SC Y_F_reached X M (fm_rv (an_rc (cA M m).2.1 s0) M) 36 [some (.inr (kF m)), some (.inl s0), some (.inl x), some (.inl (nI t)), some (.inl ((x ||| (an_hb (fun a => (cA M m).2.1 a 0) x 27)) ||| (an_hb (fun a => (cA M m).2.1 a 1) x 27)))] [] M
        refine fm_iload hX d_F_reached_36 rfl rfl ?_
        refine fm_istore_n (ls1 := [some (.inr (kF m)), some (.inl s0), some (.inl ((x ||| (an_hb (fun a => (cA M m).2.1 a 0) x 27)) ||| (an_hb (fun a => (cA M m).2.1 a 1) x 27))), some (.inl (nI t)), some (.inl ((x ||| (an_hb (fun a => (cA M m).2.1 a 0) x 27)) ||| (an_hb (fun a => (cA M m).2.1 a 1) x 27)))]) hX d_F_reached_38 rfl (by decide) rfl rfl ?_
        refine fm_iinc (v := nI (t + 1)) (ls1 := [some (.inr (kF m)), some (.inl s0), some (.inl ((x ||| (an_hb (fun a => (cA M m).2.1 a 0) x 27)) ||| (an_hb (fun a => (cA M m).2.1 a 1) x 27))), some (.inl (nI (t + 1))), some (.inl ((x ||| (an_hb (fun a => (cA M m).2.1 a 0) x 27)) ||| (an_hb (fun a => (cA M m).2.1 a 1) x 27)))]) hX d_F_reached_39 rfl (nI_add _ _) (by decide) rfl rfl ?_
        refine fm_goto (tgt := 4) hX d_F_reached_42 rfl ?_
        refine fm_drop 4 (ls1 := [some (.inr (kF m)), some (.inl s0), some (.inl ((x ||| (an_hb (fun a => (cA M m).2.1 a 0) x 27)) ||| (an_hb (fun a => (cA M m).2.1 a 1) x 27))), some (.inl (nI (t + 1))), none]) rfl ?_
        exact ih (by omega) _ (by rw [← hx0, show 27 - t = (27 - (t + 1)) + 1 by omega]; exact (an_rcn_n h30).symm)
      · show fm_G SC Y_F_reached X M (fm_rv (an_rc (cA M m).2.1 s0) M) 33 [some (.inr (kF m)), some (.inl s0), some (.inl x), some (.inl (nI t)), some (.inl ((x ||| (an_hb (fun a => (cA M m).2.1 a 0) x 27)) ||| (an_hb (fun a => (cA M m).2.1 a 1) x 27)))] [] M
        refine fm_goto (tgt := 45) hX d_F_reached_33 rfl ?_
        refine fm_iload_n hX d_F_reached_45 rfl rfl rfl ?_
        refine fm_iret hX rfl d_F_reached_46 ?_
        first | exact fm_rvi (by rw [← hx0, show 27 - t = 0 by omega]; rfl) | exact fm_rvi (by rw [← hx0, show 27 - t = (27 - (t + 1)) + 1 by omega]; exact (an_rcn_b h30).symm)
  show fm_G SC Y_F_reached X M (fm_rv (an_rc (cA M m).2.1 s0) M) 0 [some (.inr (kF m)), some (.inl s0), none, none, none] [] M
  refine fm_iload_n hX d_F_reached_0 rfl rfl rfl ?_
  refine fm_istore_n (ls1 := [some (.inr (kF m)), some (.inl s0), some (.inl s0), none, none]) hX d_F_reached_1 rfl (by decide) rfl rfl ?_
  refine fm_iconst (v := nI 0) hX d_F_reached_2 (by decide) rfl ?_
  refine fm_istore_n (ls1 := [some (.inr (kF m)), some (.inl s0), some (.inl s0), some (.inl (nI 0)), none]) hX d_F_reached_3 rfl (by decide) rfl rfl ?_
  exact L4 0 (by omega) _ rfl
abbrev Y_F_escapeOf : fm_Y := ("EscapeMill$Facts", b_F_escapeOf, 2, (some .int), 1)
set_option maxRecDepth 100000 in
set_option maxHeartbeats 4000000 in
theorem k_F_escapeOf {m : Nat} (hm : m < 5) (M : fm_M) {i : Nat} (hi : i < 32) : fm_ct SC y_F_escapeOf b_F_escapeOf 2 (some .int) 1 [.inr (kF m), .inl (nI i)] M (fm_rv (if bt (M (kF m) 5) i = true then 2 else if bt (M (kF m) 6) i = true then 1 else 0) M) := by
  refine fm_of (ls := [some (.inr (kF m)), some (.inl (nI i))]) (by decide) wsA_good (Nat.le_of_ble_eq_true rfl) rfl (fun X hX => ?_)
  show fm_G SC Y_F_escapeOf X M (fm_rv (if bt (M (kF m) 5) i = true then 2 else if bt (M (kF m) 6) i = true then 1 else 0) M) 0 [some (.inr (kF m)), some (.inl (nI i))] [] M
  refine fm_aload_n hX d_F_escapeOf_0 rfl rfl rfl ?_
  refine fm_geti (v := M (kF m) 5) hX fF_31 (s_F (by omega)) rfl rfl d_F_escapeOf_1 rfl ?_
  refine fm_iload_n hX d_F_escapeOf_4 rfl rfl rfl ?_
  refine fm_ishr (v := (M (kF m) 5) >>> (nI i &&& 31)) hX d_F_escapeOf_5 rfl rfl ?_
  refine fm_iconst (v := nI 1) hX d_F_escapeOf_6 (by decide) rfl ?_
  refine fm_iand (v := bI (bt (M (kF m) 5) i)) hX d_F_escapeOf_7 (fm_bit _ (by omega)) rfl ?_
  refine fm_iconst (v := nI 1) hX d_F_escapeOf_8 (by decide) rfl ?_
  refine fm_b2_ne1 (tgt := 14) (pq := 12) hX d_F_escapeOf_9 rfl rfl (fun h9 => ?_) (fun h9 => ?_)
  · show fm_G SC Y_F_escapeOf X M (fm_rv (if bt (M (kF m) 5) i = true then 2 else if bt (M (kF m) 6) i = true then 1 else 0) M) 14 [some (.inr (kF m)), some (.inl (nI i))] [] M
    refine fm_aload_n hX d_F_escapeOf_14 rfl rfl rfl ?_
    refine fm_geti (v := M (kF m) 6) hX fF_34 (s_F (by omega)) rfl rfl d_F_escapeOf_15 rfl ?_
    refine fm_iload_n hX d_F_escapeOf_18 rfl rfl rfl ?_
    refine fm_ishr (v := (M (kF m) 6) >>> (nI i &&& 31)) hX d_F_escapeOf_19 rfl rfl ?_
    refine fm_iconst (v := nI 1) hX d_F_escapeOf_20 (by decide) rfl ?_
    refine fm_iand (v := bI (bt (M (kF m) 6) i)) hX d_F_escapeOf_21 (fm_bit _ (by omega)) rfl ?_
    refine fm_iconst (v := nI 1) hX d_F_escapeOf_22 (by decide) rfl ?_
    refine fm_b2_ne1 (tgt := 30) (pq := 26) hX d_F_escapeOf_23 rfl rfl (fun h23 => ?_) (fun h23 => ?_)
    · show fm_G SC Y_F_escapeOf X M (fm_rv (if bt (M (kF m) 5) i = true then 2 else if bt (M (kF m) 6) i = true then 1 else 0) M) 30 [some (.inr (kF m)), some (.inl (nI i))] [] M
      refine fm_iconst (v := nI 0) hX d_F_escapeOf_30 (by decide) rfl ?_
      refine fm_iret hX rfl d_F_escapeOf_31 ?_
      first | exact fm_rvi (by rw [if_pos h9]; rfl) | exact fm_rvi (by rw [if_neg (by rw [h9]; decide), if_pos h23]; rfl) | exact fm_rvi (by rw [if_neg (by rw [h9]; decide), if_neg (by rw [h23]; decide)]; rfl)
    · show fm_G SC Y_F_escapeOf X M (fm_rv (if bt (M (kF m) 5) i = true then 2 else if bt (M (kF m) 6) i = true then 1 else 0) M) 26 [some (.inr (kF m)), some (.inl (nI i))] [] M
      refine fm_iconst (v := nI 1) hX d_F_escapeOf_26 (by decide) rfl ?_
      refine fm_goto (tgt := 31) hX d_F_escapeOf_27 rfl ?_
      refine fm_iret hX rfl d_F_escapeOf_31 ?_
      first | exact fm_rvi (by rw [if_pos h9]; rfl) | exact fm_rvi (by rw [if_neg (by rw [h9]; decide), if_pos h23]; rfl) | exact fm_rvi (by rw [if_neg (by rw [h9]; decide), if_neg (by rw [h23]; decide)]; rfl)
  · show fm_G SC Y_F_escapeOf X M (fm_rv (if bt (M (kF m) 5) i = true then 2 else if bt (M (kF m) 6) i = true then 1 else 0) M) 12 [some (.inr (kF m)), some (.inl (nI i))] [] M
    refine fm_iconst (v := nI 2) hX d_F_escapeOf_12 (by decide) rfl ?_
    refine fm_iret hX rfl d_F_escapeOf_13 ?_
    first | exact fm_rvi (by rw [if_pos h9]; rfl) | exact fm_rvi (by rw [if_neg (by rw [h9]; decide), if_pos h23]; rfl) | exact fm_rvi (by rw [if_neg (by rw [h9]; decide), if_neg (by rw [h23]; decide)]; rfl)
abbrev Y_F_apply : fm_Y := ("EscapeMill$Facts", b_F_apply, 6, none, 4)
set_option maxRecDepth 100000 in
set_option maxHeartbeats 4000000 in
theorem k_F_apply {P : pr_T} {m : Nat} (hm : m < 5) (M : fm_M) (hP : cP M P) (hw : pr_wf P) {i : Nat} (hi : i < P.1 m) (ho : (P.2.2 m i).1 ≠ 16) (cl : Nat → Nat → Nat → Nat → an_T → an_T) : fm_ct SC y_F_apply b_F_apply 6 none 4 [.inr (kF m), .inr (kC m), .inl (nI i)] M (fm_vr (fun M' => cS m M M' (an_st cl i (P.2.2 m i) (cA M m)))) := by
  refine fm_of (ls := [some (.inr (kF m)), some (.inr (kC m)), some (.inl (nI i)), none, none, none]) (by decide) wsA_good (Nat.le_of_ble_eq_true rfl) rfl (fun X hX => ?_)
  obtain ⟨wl, wi, wI⟩ := hw m hm
  obtain ⟨w1, w2, w3, w4, w5, w6⟩ := wI i hi
  show fm_G SC Y_F_apply X M (fm_vr (fun M' => cS m M M' (an_st cl i (P.2.2 m i) (cA M m)))) 0 [some (.inr (kF m)), some (.inr (kC m)), some (.inl (nI i)), none, none, none] [] M
  refine fm_aload_n hX d_F_apply_0 rfl rfl rfl ?_
  refine fm_getr (q := kCa m 1) hX fF_85 (s_C (by omega)) rfl d_F_apply_1 rfl ?_
  refine fm_iload_n hX d_F_apply_4 rfl rfl rfl ?_
  refine fm_iald (v := nI ((P.2.2 m i).2.1)) hX (s_Ca1 (by omega)) rfl rfl (by omega) (by decide) ((hP m (by omega)).2.2 i (by omega)).2.1 d_F_apply_5 rfl ?_
  refine fm_istore_n (ls1 := [some (.inr (kF m)), some (.inr (kC m)), some (.inl (nI i)), some (.inl (nI ((P.2.2 m i).2.1))), none, none]) hX d_F_apply_6 rfl (by decide) rfl rfl ?_
  refine fm_aload_n hX d_F_apply_7 rfl rfl rfl ?_
  refine fm_getr (q := kCa m 2) hX fF_88 (s_C (by omega)) rfl d_F_apply_8 rfl ?_
  refine fm_iload_n hX d_F_apply_11 rfl rfl rfl ?_
  refine fm_iald (v := nI ((P.2.2 m i).2.2.1)) hX (s_Ca2 (by omega)) rfl rfl (by omega) (by decide) ((hP m (by omega)).2.2 i (by omega)).2.2.1 d_F_apply_12 rfl ?_
  refine fm_istore (ls1 := [some (.inr (kF m)), some (.inr (kC m)), some (.inl (nI i)), some (.inl (nI ((P.2.2 m i).2.1))), some (.inl (nI ((P.2.2 m i).2.2.1))), none]) hX d_F_apply_13 (by decide) rfl rfl ?_
  refine fm_aload_n hX d_F_apply_15 rfl rfl rfl ?_
  refine fm_getr (q := kCa m 3) hX fF_91 (s_C (by omega)) rfl d_F_apply_16 rfl ?_
  refine fm_iload_n hX d_F_apply_19 rfl rfl rfl ?_
  refine fm_iald (v := nI ((P.2.2 m i).2.2.2.1)) hX (s_Ca3 (by omega)) rfl rfl (by omega) (by decide) ((hP m (by omega)).2.2 i (by omega)).2.2.2.1 d_F_apply_20 rfl ?_
  refine fm_istore (ls1 := [some (.inr (kF m)), some (.inr (kC m)), some (.inl (nI i)), some (.inl (nI ((P.2.2 m i).2.1))), some (.inl (nI ((P.2.2 m i).2.2.1))), some (.inl (nI ((P.2.2 m i).2.2.2.1)))]) hX d_F_apply_21 (by decide) rfl rfl ?_
  refine fm_aload_n hX d_F_apply_23 rfl rfl rfl ?_
  refine fm_getr (q := kCa m 0) hX fF_56 (s_C (by omega)) rfl d_F_apply_24 rfl ?_
  refine fm_iload_n hX d_F_apply_27 rfl rfl rfl ?_
  refine fm_iald (v := nI ((P.2.2 m i).1)) hX (s_Ca0 (by omega)) rfl rfl (by omega) (by decide) ((hP m (by omega)).2.2 i (by omega)).1 d_F_apply_28 rfl ?_
  rcases (by omega : ((P.2.2 m i).1 = 0) ∨ ((P.2.2 m i).1 = 1) ∨ ((P.2.2 m i).1 = 2 ∨ (P.2.2 m i).1 = 5 ∨ (P.2.2 m i).1 = 6 ∨ (P.2.2 m i).1 = 7 ∨ (P.2.2 m i).1 = 8 ∨ (P.2.2 m i).1 = 9 ∨ (P.2.2 m i).1 = 10 ∨ (P.2.2 m i).1 = 11 ∨ (P.2.2 m i).1 = 14 ∨ (P.2.2 m i).1 = 15 ∨ (P.2.2 m i).1 = 16 ∨ (P.2.2 m i).1 = 18) ∨ ((P.2.2 m i).1 = 3) ∨ ((P.2.2 m i).1 = 4) ∨ ((P.2.2 m i).1 = 12) ∨ ((P.2.2 m i).1 = 13) ∨ ((P.2.2 m i).1 = 17)) with h29 | h29 | h29 | h29 | h29 | h29 | h29 | h29
  · refine fm_table (tgt := 116) (off := 87) hX d_F_apply_29 (by decide) (by rw [h29]; decide) (by decide) ?_
    refine fm_aload_n hX d_F_apply_116 rfl rfl rfl ?_
    refine fm_iload_n hX d_F_apply_117 rfl rfl rfl ?_
    refine fm_iconst (v := nI 1) hX d_F_apply_118 (by decide) rfl ?_
    refine fm_iload_n hX d_F_apply_119 rfl rfl rfl ?_
    refine fm_ishl (v := an_1 i) hX d_F_apply_120 rfl rfl ?_
    refine fm_callV_r (as := [.inl (nI ((P.2.2 m i).2.1)), .inl (an_1 i)]) (st := []) (pq := 124) hX (s_F (by omega)) rfl cF_77 rfl im_F_refer se_F_refer (k_F_refer (by omega) M (r := (P.2.2 m i).2.1) (by omega) (an_1 i)) rfl rfl (Nat.le_of_ble_eq_true rfl) (Nat.le_of_ble_eq_true rfl) d_F_apply_121 rfl (fun M121 c121 => ?_)
    have hP121 := cS_P hm c121 hP
    refine fm_goto (tgt := 235) hX d_F_apply_124 rfl ?_
    refine fm_vret hX rfl d_F_apply_235 ?_
    exact ⟨rfl, cS_eq c121 (by simp [an_st, h29])⟩
  · refine fm_table (tgt := 127) (off := 98) hX d_F_apply_29 (by decide) (by rw [h29]; decide) (by decide) ?_
    refine fm_aload_n hX d_F_apply_127 rfl rfl rfl ?_
    refine fm_iload_n hX d_F_apply_128 rfl rfl rfl ?_
    refine fm_aload_n hX d_F_apply_129 rfl rfl rfl ?_
    refine fm_getr (q := kFm m) hX fF_9 (s_F (by omega)) rfl d_F_apply_130 rfl ?_
    refine fm_iload hX d_F_apply_133 rfl rfl ?_
    refine fm_iald (v := (cA M m).1 ((P.2.2 m i).2.2.1)) hX (s_Fm (by omega)) rfl rfl (by omega) (by decide) (cA_m (by omega)).symm d_F_apply_135 rfl ?_
    refine fm_callV_r (as := [.inl (nI ((P.2.2 m i).2.1)), .inl ((cA M m).1 ((P.2.2 m i).2.2.1))]) (st := []) (pq := 139) hX (s_F (by omega)) rfl cF_77 rfl im_F_refer se_F_refer (k_F_refer (by omega) M (r := (P.2.2 m i).2.1) (by omega) ((cA M m).1 ((P.2.2 m i).2.2.1))) rfl rfl (Nat.le_of_ble_eq_true rfl) (Nat.le_of_ble_eq_true rfl) d_F_apply_136 rfl (fun M136 c136 => ?_)
    have hP136 := cS_P hm c136 hP
    refine fm_goto (tgt := 235) hX d_F_apply_139 rfl ?_
    refine fm_vret hX rfl d_F_apply_235 ?_
    exact ⟨rfl, cS_eq c136 (by simp [an_st, h29])⟩
  · refine fm_table (tgt := 235) (off := 206) hX d_F_apply_29 (by decide) (by rcases h29 with e | e | e | e | e | e | e | e | e | e | e | e <;> rw [e] <;> decide) (by decide) ?_
    refine fm_vret hX rfl d_F_apply_235 ?_
    exact ⟨rfl, cS_eq (cS_rf m M) (by rcases h29 with e | e | e | e | e | e | e | e | e | e | e | e <;> first | exact absurd e ho | simp [an_st, e])⟩
  · refine fm_table (tgt := 142) (off := 113) hX d_F_apply_29 (by decide) (by rw [h29]; decide) (by decide) ?_
    refine fm_aload_n hX d_F_apply_142 rfl rfl rfl ?_
    refine fm_iload_n hX d_F_apply_143 rfl rfl rfl ?_
    refine fm_aload_n hX d_F_apply_144 rfl rfl rfl ?_
    refine fm_aload_n hX d_F_apply_145 rfl rfl rfl ?_
    refine fm_getr (q := kFm m) hX fF_9 (s_F (by omega)) rfl d_F_apply_146 rfl ?_
    refine fm_iload hX d_F_apply_149 rfl rfl ?_
    refine fm_iald (v := (cA M m).1 ((P.2.2 m i).2.2.1)) hX (s_Fm (by omega)) rfl rfl (by omega) (by decide) (cA_m (by omega)).symm d_F_apply_151 rfl ?_
    refine fm_iload hX d_F_apply_152 rfl rfl ?_
    refine fm_callV_i (as := [.inl ((cA M m).1 ((P.2.2 m i).2.2.1)), .inl (nI ((P.2.2 m i).2.2.2.1))]) (st := [.inl (nI ((P.2.2 m i).2.1)), .inr (kF m)]) (pq := 157) hX (s_F (by omega)) rfl cF_94 rfl im_F_heldBy se_F_heldBy (k_F_heldBy (by omega) M ((cA M m).1 ((P.2.2 m i).2.2.1)) (f := (P.2.2 m i).2.2.2.1) (by omega)) rfl rfl (Nat.le_of_ble_eq_true rfl) (Nat.le_of_ble_eq_true rfl) d_F_apply_154 rfl ?_
    refine fm_callV_r (as := [.inl (nI ((P.2.2 m i).2.1)), .inl (an_hb (fun a => (cA M m).2.1 a ((P.2.2 m i).2.2.2.1)) ((cA M m).1 ((P.2.2 m i).2.2.1)) 27)]) (st := []) (pq := 160) hX (s_F (by omega)) rfl cF_77 rfl im_F_refer se_F_refer (k_F_refer (by omega) M (r := (P.2.2 m i).2.1) (by omega) (an_hb (fun a => (cA M m).2.1 a ((P.2.2 m i).2.2.2.1)) ((cA M m).1 ((P.2.2 m i).2.2.1)) 27)) rfl rfl (Nat.le_of_ble_eq_true rfl) (Nat.le_of_ble_eq_true rfl) d_F_apply_157 rfl (fun M157 c157 => ?_)
    have hP157 := cS_P hm c157 hP
    refine fm_goto (tgt := 235) hX d_F_apply_160 rfl ?_
    refine fm_vret hX rfl d_F_apply_235 ?_
    exact ⟨rfl, cS_eq c157 (by simp [an_st, h29])⟩
  · refine fm_table (tgt := 163) (off := 134) hX d_F_apply_29 (by decide) (by rw [h29]; decide) (by decide) ?_
    refine fm_aload_n hX d_F_apply_163 rfl rfl rfl ?_
    refine fm_aload_n hX d_F_apply_164 rfl rfl rfl ?_
    refine fm_getr (q := kFm m) hX fF_9 (s_F (by omega)) rfl d_F_apply_165 rfl ?_
    refine fm_iload_n hX d_F_apply_168 rfl rfl rfl ?_
    refine fm_iald (v := (cA M m).1 ((P.2.2 m i).2.1)) hX (s_Fm (by omega)) rfl rfl (by omega) (by decide) (cA_m (by omega)).symm d_F_apply_169 rfl ?_
    refine fm_iload hX d_F_apply_170 rfl rfl ?_
    refine fm_aload_n hX d_F_apply_172 rfl rfl rfl ?_
    refine fm_getr (q := kFm m) hX fF_9 (s_F (by omega)) rfl d_F_apply_173 rfl ?_
    refine fm_iload hX d_F_apply_176 rfl rfl ?_
    refine fm_iald (v := (cA M m).1 ((P.2.2 m i).2.2.1)) hX (s_Fm (by omega)) rfl rfl (by omega) (by decide) (cA_m (by omega)).symm d_F_apply_178 rfl ?_
    refine fm_callV_r (as := [.inl ((cA M m).1 ((P.2.2 m i).2.1)), .inl (nI ((P.2.2 m i).2.2.2.1)), .inl ((cA M m).1 ((P.2.2 m i).2.2.1))]) (st := []) (pq := 182) hX (s_F (by omega)) rfl cF_98 rfl im_F_hold se_F_hold (k_F_hold (by omega) M ((cA M m).1 ((P.2.2 m i).2.1)) (f := (P.2.2 m i).2.2.2.1) (by omega) ((cA M m).1 ((P.2.2 m i).2.2.1))) rfl rfl (Nat.le_of_ble_eq_true rfl) (Nat.le_of_ble_eq_true rfl) d_F_apply_179 rfl (fun M179 c179 => ?_)
    have hP179 := cS_P hm c179 hP
    refine fm_goto (tgt := 235) hX d_F_apply_182 rfl ?_
    refine fm_vret hX rfl d_F_apply_235 ?_
    exact ⟨rfl, cS_eq c179 (by simp [an_st, h29])⟩
  · refine fm_table (tgt := 185) (off := 156) hX d_F_apply_29 (by decide) (by rw [h29]; decide) (by decide) ?_
    refine fm_aload_n hX d_F_apply_185 rfl rfl rfl ?_
    refine fm_ldc (v := an_W) hX d_F_apply_186 kF_84 rfl ?_
    refine fm_aload_n hX d_F_apply_188 rfl rfl rfl ?_
    refine fm_getr (q := kFm m) hX fF_9 (s_F (by omega)) rfl d_F_apply_189 rfl ?_
    refine fm_iload_n hX d_F_apply_192 rfl rfl rfl ?_
    refine fm_iald (v := (cA M m).1 ((P.2.2 m i).2.1)) hX (s_Fm (by omega)) rfl rfl (by omega) (by decide) (cA_m (by omega)).symm d_F_apply_193 rfl ?_
    refine fm_callV_r (as := [.inl an_W, .inl ((cA M m).1 ((P.2.2 m i).2.1))]) (st := []) (pq := 197) hX (s_F (by omega)) rfl cF_81 rfl im_F_holdInBoth se_F_holdInBoth (k_F_holdInBoth (by omega) M an_W ((cA M m).1 ((P.2.2 m i).2.1))) rfl rfl (Nat.le_of_ble_eq_true rfl) (Nat.le_of_ble_eq_true rfl) d_F_apply_194 rfl (fun M194 c194 => ?_)
    have hP194 := cS_P hm c194 hP
    refine fm_goto (tgt := 235) hX d_F_apply_197 rfl ?_
    refine fm_vret hX rfl d_F_apply_235 ?_
    exact ⟨rfl, cS_eq c194 (by simp [an_st, h29])⟩
  · refine fm_table (tgt := 200) (off := 171) hX d_F_apply_29 (by decide) (by rw [h29]; decide) (by decide) ?_
    refine fm_aload_n hX d_F_apply_200 rfl rfl rfl ?_
    refine fm_iload_n hX d_F_apply_201 rfl rfl rfl ?_
    refine fm_aload_n hX d_F_apply_202 rfl rfl rfl ?_
    refine fm_getr (q := kFh m) hX fF_17 (s_F (by omega)) rfl d_F_apply_203 rfl ?_
    refine fm_iconst (v := nI 0) hX d_F_apply_206 (by decide) rfl ?_
    refine fm_aald (q := kFr m 0) hX (s_Fh (by omega)) (by decide) rfl rfl rfl (by omega) (by decide) (r_Fr (by omega)) d_F_apply_207 rfl ?_
    refine fm_bipush (v := nI 26) hX d_F_apply_208 (by decide) rfl ?_
    refine fm_iald (v := (cA M m).2.1 26 0) hX (s_Fr (by omega) (by omega)) rfl rfl (by omega) (by decide) (cA_h (by omega) (by omega)).symm d_F_apply_210 rfl ?_
    refine fm_callV_r (as := [.inl (nI ((P.2.2 m i).2.1)), .inl ((cA M m).2.1 26 0)]) (st := []) (pq := 214) hX (s_F (by omega)) rfl cF_77 rfl im_F_refer se_F_refer (k_F_refer (by omega) M (r := (P.2.2 m i).2.1) (by omega) ((cA M m).2.1 26 0)) rfl rfl (Nat.le_of_ble_eq_true rfl) (Nat.le_of_ble_eq_true rfl) d_F_apply_211 rfl (fun M211 c211 => ?_)
    have hP211 := cS_P hm c211 hP
    refine fm_goto (tgt := 235) hX d_F_apply_214 rfl ?_
    refine fm_vret hX rfl d_F_apply_235 ?_
    exact ⟨rfl, cS_eq c211 (by simp [an_st, h29])⟩
  · refine fm_table (tgt := 217) (off := 188) hX d_F_apply_29 (by decide) (by rw [h29]; decide) (by decide) ?_
    refine fm_aload_n hX d_F_apply_217 rfl rfl rfl ?_
    refine fm_dup hX d_F_apply_218 rfl ?_
    refine fm_geti (v := (cA M m).2.2) hX fF_27 (s_F (by omega)) rfl rfl d_F_apply_219 rfl ?_
    refine fm_aload_n hX d_F_apply_222 rfl rfl rfl ?_
    refine fm_getr (q := kFm m) hX fF_9 (s_F (by omega)) rfl d_F_apply_223 rfl ?_
    refine fm_iload_n hX d_F_apply_226 rfl rfl rfl ?_
    refine fm_iald (v := (cA M m).1 ((P.2.2 m i).2.1)) hX (s_Fm (by omega)) rfl rfl (by omega) (by decide) (cA_m (by omega)).symm d_F_apply_227 rfl ?_
    refine fm_ior (v := ((cA M m).2.2) ||| ((cA M m).1 ((P.2.2 m i).2.1))) hX d_F_apply_228 rfl rfl ?_
    refine fm_puti hX fF_27 pF_4 (s_F (by omega)) rfl rfl rfl d_F_apply_229 rfl ?_
    refine fm_goto (tgt := 235) hX d_F_apply_232 rfl ?_
    refine fm_vret hX rfl d_F_apply_235 ?_
    exact ⟨rfl, cS_eq cS_g (by simp [an_st, h29])⟩
end
section
/-! the analysis in the class: its beginning, what it knows of the callees -/
theorem an_0or (s : Int32) : (0 ||| s) = s := an_eq (an_or_sub (an_sub_0 s) (an_sub_rf s)) (an_sub_orr _ _)
theorem an_or0 (s : Int32) : (s ||| 0) = s := an_eq (an_or_sub (an_sub_rf s) (an_sub_0 s)) (an_sub_orl _ _)
theorem cA_up {M : fm_M} {m a j : Nat} {x : Int32} (h1 : a ≠ 22 + 15 * m) (h2 : a ≠ 24 + 15 * m) (h3 : a ≠ 25 + 15 * m) (h4 : ¬ (a = 21 + 15 * m ∧ j = 4)) : cA (fm_up M a j x) m = cA M m := by
  refine Prod.ext (funext fun r => ?_) (Prod.ext (funext fun b => funext fun g => ?_) ?_)
  · show (if r < 4 then fm_up M a j x (kFm m) r else 0) = (if r < 4 then M (kFm m) r else 0)
    rw [fm_up_a (fun z => h1 z.symm)]
  · show (if b < 27 ∧ g < 2 then fm_up M a j x (kFr m g) b else 0) = (if b < 27 ∧ g < 2 then M (kFr m g) b else 0)
    by_cases z : b < 27 ∧ g < 2
    · rw [if_pos z, if_pos z, fm_up_a (fun w => by have : 24 + 15 * m + g = a := w; omega)]
    · rw [if_neg z, if_neg z]
  · exact fm_up_n (fun z => h4 ⟨z.1.symm, z.2.symm⟩)
/-- with p parameters set -/
def an_s1 (p : Nat) : an_T := (fun r => if r < p then an_1 (24 + r) else 0, fun a g => if g < 2 then (if 24 ≤ a ∧ a < 24 + p then an_1 a else 0) else 0, 0)
theorem an_s1_0 : an_s1 0 = an_z := by
  refine Prod.ext (funext fun r => (if_neg (by omega) : (if r < 0 then an_1 (24 + r) else 0) = (0 : Int32))) (Prod.ext (funext fun a => funext fun g => ?_) rfl)
  show (if g < 2 then (if 24 ≤ a ∧ a < 24 + 0 then an_1 a else 0) else 0) = (0 : Int32)
  split
  · exact if_neg (by omega)
  · rfl
theorem an_s1_s {p : Nat} (hp : p < 2) : an_h (an_m (an_s1 p) p (an_1 (24 + p))) (an_1 (24 + p)) an_al (an_1 (24 + p)) = an_s1 (p + 1) := by
  refine Prod.ext (funext fun r => ?_) (Prod.ext (funext fun a => funext fun g => ?_) rfl)
  · show (if r = p then (if r < p then an_1 (24 + r) else 0) ||| an_1 (24 + p) else (if r < p then an_1 (24 + r) else 0)) = (if r < p + 1 then an_1 (24 + r) else 0)
    by_cases z : r = p
    · subst z
      rw [if_pos rfl, if_neg (by omega), if_pos (by omega), an_0or]
    · rw [if_neg z]
      by_cases y : r < p
      · rw [if_pos y, if_pos (by omega)]
      · rw [if_neg y, if_neg (by omega)]
  · show (if a < 27 ∧ g < 2 ∧ bt (an_1 (24 + p)) a = true ∧ an_al a g = true then (if g < 2 then (if 24 ≤ a ∧ a < 24 + p then an_1 a else 0) else 0) ||| an_1 (24 + p) else (if g < 2 then (if 24 ≤ a ∧ a < 24 + p then an_1 a else 0) else 0)) = (if g < 2 then (if 24 ≤ a ∧ a < 24 + (p + 1) then an_1 a else 0) else 0)
    have hb : bt (an_1 (24 + p)) a = true ↔ a = 24 + p := by rw [an_1_bt (by omega), decide_eq_true_eq]
    by_cases hg : g < 2
    · simp only [if_pos hg]
      by_cases z : a = 24 + p
      · subst z
        rw [if_pos ⟨by omega, hg, hb.mpr rfl, rfl⟩, if_neg (by omega), if_pos (by omega), an_0or]
      · rw [if_neg (fun q => z (hb.mp q.2.2.1))]
        by_cases y : 24 ≤ a ∧ a < 24 + p
        · rw [if_pos y, if_pos (by omega)]
        · rw [if_neg y, if_neg (by omega)]
    · rw [if_neg (fun q => hg q.2.1), if_neg hg, if_neg hg]
theorem an_s1_W {k : Nat} (hk : k ≤ 2) : an_h (an_s1 k) an_W an_al an_W = an_s0 k := by
  refine Prod.ext rfl (Prod.ext (funext fun a => funext fun g => ?_) rfl)
  show (if a < 27 ∧ g < 2 ∧ bt an_W a = true ∧ an_al a g = true then (if g < 2 then (if 24 ≤ a ∧ a < 24 + k then an_1 a else 0) else 0) ||| an_W else (if g < 2 then (if 24 ≤ a ∧ a < 24 + k then an_1 a else 0) else 0)) = (if g < 2 then (if a = 26 then an_W else if 24 ≤ a ∧ a < 24 + k then an_1 a else 0) else 0)
  have hb : bt an_W a = true ↔ a = 26 := by rw [an_W_bt, decide_eq_true_eq]
  by_cases hg : g < 2
  · simp only [if_pos hg]
    by_cases z : a = 26
    · subst z
      rw [if_pos ⟨by omega, hg, hb.mpr rfl, rfl⟩, if_neg (by omega), if_pos rfl, an_0or]
    · rw [if_neg (fun q => z (hb.mp q.2.2.1)), if_neg z]
  · rw [if_neg (fun q => hg q.2.1), if_neg hg, if_neg hg]
/-- all that is known of m, gone -/
def cZ (M : fm_M) (m : Nat) : fm_M :=
  fm_up (fm_up (fm_up (fm_fill (fm_fill (fm_fill (fm_fill (fm_fill M (kFm m) 4 (nI 0)) (kFr m 0) 27 (nI 0)) (kFr m 1) 27 (nI 0)) (kFs m) 2 (nI 0)) (kFx m) 2 (nI 0)) (kF m) 4 (nI 0)) (kF m) 5 (nI 0)) (kF m) 6 (nI 0)
/-- the cells of the facts of m -/
def cFa (m a : Nat) : Prop := 21 + 15 * m ≤ a ∧ a < 28 + 15 * m
theorem cZ_o {M : fm_M} {m a j : Nat} (h : ¬ cFa m a) : cZ M m a j = M a j := by
  unfold cFa at h
  unfold cZ
  rw [fm_up_a (by show a ≠ 21 + 15 * m; omega), fm_up_a (by show a ≠ 21 + 15 * m; omega), fm_up_a (by show a ≠ 21 + 15 * m; omega), fm_fill_o (by show a ≠ 27 + 15 * m; omega), fm_fill_o (by show a ≠ 26 + 15 * m; omega), fm_fill_o (by show a ≠ 24 + 15 * m + 1; omega), fm_fill_o (by show a ≠ 24 + 15 * m + 0; omega), fm_fill_o (by show a ≠ 22 + 15 * m; omega)]
theorem cZ_A (M : fm_M) (m : Nat) : cA (cZ M m) m = an_z := by
  refine Prod.ext (funext fun r => ?_) (Prod.ext (funext fun a => funext fun g => ?_) ?_)
  · show (if r < 4 then cZ M m (kFm m) r else 0) = (0 : Int32)
    split
    · next h =>
      unfold cZ
      rw [fm_up_a (by show 22 + 15 * m ≠ 21 + 15 * m; omega), fm_up_a (by show 22 + 15 * m ≠ 21 + 15 * m; omega), fm_up_a (by show 22 + 15 * m ≠ 21 + 15 * m; omega), fm_fill_o (by show 22 + 15 * m ≠ 27 + 15 * m; omega), fm_fill_o (by show 22 + 15 * m ≠ 26 + 15 * m; omega), fm_fill_o (by show 22 + 15 * m ≠ 24 + 15 * m + 1; omega), fm_fill_o (by show 22 + 15 * m ≠ 24 + 15 * m + 0; omega), fm_fill_i h]
      rfl
    · rfl
  · show (if a < 27 ∧ g < 2 then cZ M m (kFr m g) a else 0) = (0 : Int32)
    split
    · next h =>
      unfold cZ
      rcases (by omega : g = 0 ∨ g = 1) with e | e <;> subst e
      · rw [fm_up_a (by show 24 + 15 * m + 0 ≠ 21 + 15 * m; omega), fm_up_a (by show 24 + 15 * m + 0 ≠ 21 + 15 * m; omega), fm_up_a (by show 24 + 15 * m + 0 ≠ 21 + 15 * m; omega), fm_fill_o (by show 24 + 15 * m + 0 ≠ 27 + 15 * m; omega), fm_fill_o (by show 24 + 15 * m + 0 ≠ 26 + 15 * m; omega), fm_fill_o (by show 24 + 15 * m + 0 ≠ 24 + 15 * m + 1; omega), fm_fill_i h.1]
        rfl
      · rw [fm_up_a (by show 24 + 15 * m + 1 ≠ 21 + 15 * m; omega), fm_up_a (by show 24 + 15 * m + 1 ≠ 21 + 15 * m; omega), fm_up_a (by show 24 + 15 * m + 1 ≠ 21 + 15 * m; omega), fm_fill_o (by show 24 + 15 * m + 1 ≠ 27 + 15 * m; omega), fm_fill_o (by show 24 + 15 * m + 1 ≠ 26 + 15 * m; omega), fm_fill_i h.1]
        rfl
    · rfl
  · show cZ M m (kF m) 4 = (0 : Int32)
    unfold cZ
    rw [fm_up_b (by omega), fm_up_b (by omega), fm_up_s]
    rfl
theorem cZ_s {M : fm_M} {m p : Nat} (h : p < 2) : cZ M m (kFs m) p = 0 := by
  unfold cZ
  rw [fm_up_a (by show 26 + 15 * m ≠ 21 + 15 * m; omega), fm_up_a (by show 26 + 15 * m ≠ 21 + 15 * m; omega), fm_up_a (by show 26 + 15 * m ≠ 21 + 15 * m; omega), fm_fill_o (by show 26 + 15 * m ≠ 27 + 15 * m; omega), fm_fill_i h]
  rfl
/-- what the callees' facts say of argument p of method n -/
def cE (P : pr_T) (m : Nat) (E : an_E) (M : fm_M) : Prop :=
  E.1 = P.2.1 ∧ (∀ n p, n ≤ m ∨ P.1 n = 0 → E.2.1 n p = 2 ∧ E.2.2 n p = true) ∧
  ∀ n, m < n → n < 5 → P.1 n ≠ 0 → ∀ p, p < P.2.1 n → M (kFs n) p = nI (E.2.1 n p) ∧ E.2.1 n p ≤ 2 ∧ ∃ b, M (kFx n) p = bI b ∧ E.2.2 n p = (decide (E.2.1 n p = 2) || b)
theorem cE_S {P : pr_T} {m : Nat} {E : an_E} {M M' : fm_M} {σ : an_T} (h : cE P m E M) (k : cS m M M' σ) : cE P m E M' := by
  refine ⟨h.1, h.2.1, fun n h1 h2 h3 p h4 => ?_⟩
  obtain ⟨a, b, c⟩ := h.2.2 n h1 h2 h3 p h4
  rw [← cS_o k (a := kFs n) (j := p) (by show 26 + 15 * n ≠ _; omega) (by show 26 + 15 * n ≠ _; omega) (by show 26 + 15 * n ≠ _; omega) (by show 26 + 15 * n ≠ _; omega)] at a
  rw [← cS_o k (a := kFx n) (j := p) (by show 27 + 15 * n ≠ _; omega) (by show 27 + 15 * n ≠ _; omega) (by show 27 + 15 * n ≠ _; omega) (by show 27 + 15 * n ≠ _; omega)] at c
  exact ⟨a, b, c⟩
end
section
/-! a CALL in the class, argument by argument -/
theorem cE_2 {P : pr_T} {m : Nat} {E : an_E} {M : fm_M} (h : cE P m E M) {k p : Nat} (hk : k < 5) (hp : p < P.2.1 k) : E.2.1 k p ≤ 2 := by
  by_cases q : k ≤ m ∨ P.1 k = 0
  · rw [(h.2.1 k p q).1]; omega
  · exact (h.2.2 k (by omega) hk (by omega) p hp).2.1
theorem cE_s {P : pr_T} {m : Nat} {E : an_E} {M : fm_M} (h : cE P m E M) {k p : Nat} (hk : k < 5) (hp : p < P.2.1 k) (q : ¬ (k ≤ m ∨ P.1 k = 0)) : M (kFs k) p = nI (E.2.1 k p) :=
  (h.2.2 k (by omega) hk (by omega) p hp).1
theorem cE_k2 {P : pr_T} {m : Nat} {E : an_E} {M : fm_M} (h : cE P m E M) {k p : Nat} (hk : k < 5) (hp : p < P.2.1 k) (e : E.2.1 k p = 2) : E.2.2 k p = true := by
  by_cases q : k ≤ m ∨ P.1 k = 0
  · exact (h.2.1 k p q).2
  · obtain ⟨b, _, h2⟩ := (h.2.2 k (by omega) hk (by omega) p hp).2.2
    rw [h2, decide_eq_true e, Bool.true_or]
theorem cE_x {P : pr_T} {m : Nat} {E : an_E} {M : fm_M} (h : cE P m E M) {k p : Nat} (hk : k < 5) (hp : p < P.2.1 k) (e : ¬ E.2.1 k p = 2) : M (kFx k) p = bI (E.2.2 k p) := by
  have q : ¬ (k ≤ m ∨ P.1 k = 0) := fun q => e (h.2.1 k p q).1
  obtain ⟨b, h1, h2⟩ := (h.2.2 k (by omega) hk (by omega) p hp).2.2
  rw [h1, h2, decide_eq_false e, Bool.false_or]
section CCA
variable {m : Nat} {M M1 M2 M3 M4 : fm_M} {σ : an_T} {E : an_E} {x y z k p : Nat} {v : Int32}
theorem cS_r1 (hc : cS m M M1 σ) (hv : v = if E.2.2 k p = true then an_rc (cA M1 m).2.1 (an_ag (cA M1 m) y z p) ||| an_W else an_rc (cA M1 m).2.1 (an_ag (cA M1 m) y z p))
    (c1 : cS m M1 M2 (an_h (cA M1 m) (an_rc (cA M1 m).2.1 (an_ag (cA M1 m) y z p)) an_al v)) : cS m M M2 (an_r1 E y z k p σ) := by
  refine cS_eq (cS_tr hc c1) ?_
  rw [hv, hc.1]
  rfl
theorem cS_ca2 (hc : cS m M M1 σ) (h : cS m M M2 (an_r1 E y z k p σ)) (hs : E.2.1 k p = 2) (c2 : cS m M2 M3 (an_h (cA M2 m) an_W an_al (an_ag (cA M1 m) y z p))) : cS m M M3 (an_ca E x y z k p σ) := by
  refine cS_eq (cS_tr h c2) ?_
  rw [h.1, hc.1, an_ca, an_r2, if_pos hs]
  rfl
theorem cS_ca0 (h : cS m M M2 (an_r1 E y z k p σ)) (hs : ¬ E.2.1 k p = 2) (hs1 : ¬ E.2.1 k p = 1) : cS m M M2 (an_ca E x y z k p σ) := by
  refine cS_eq h ?_
  rw [an_ca, an_r2, if_neg hs, if_neg hs1]
theorem cS_ca1 {bo : Int32} (h : cS m M M2 (an_r1 E y z k p σ)) (hs : E.2.1 k p = 1) (hbo : bo = an_bo (cA M2 m) (E.1 k) y z) (c2 : cS m M2 M3 (an_h (cA M2 m) (an_rc (cA M2 m).2.1 bo) an_al (an_rc (cA M2 m).2.1 bo)))
    (c3 : cS m M3 M4 (an_m (cA M3 m) x (an_rc (cA M2 m).2.1 bo))) : cS m M M4 (an_ca E x y z k p σ) := by
  refine cS_eq (cS_tr h (cS_tr c2 c3)) ?_
  rw [c2.1, hbo, h.1, an_ca, an_r2, if_neg (by omega), if_pos hs]
end CCA
end
section
/-! Facts: begin, forget, applyCall (written by program) -/
abbrev Y_F_begin : fm_Y := ("EscapeMill$Facts", b_F_begin, 3, none, 3)
set_option maxRecDepth 100000 in
set_option maxHeartbeats 4000000 in
theorem k_F_begin {m : Nat} (hm : m < 5) (M : fm_M) (hz : cA M m = an_z) {k : Nat} (hk : k ≤ 2) : fm_ct SC y_F_begin b_F_begin 3 none 3 [.inr (kF m), .inl (nI k)] M (fm_vr (fun M' => cS m M M' (an_s0 k))) := by
  refine fm_of (ls := [some (.inr (kF m)), some (.inl (nI k)), none]) (by decide) wsA_good (Nat.le_of_ble_eq_true rfl) rfl (fun X hX => ?_)
  have L2 : ∀ p, p ≤ k → ∀ M1, cS m M M1 (an_s1 p) → fm_G SC Y_F_begin X M (fm_vr (fun M' => cS m M M' (an_s0 k))) 2 [some (.inr (kF m)), some (.inl (nI k)), some (.inl (nI p))] [] M1 := by
    refine fm_ind k (fun p hle ih => ?_)
    intro M1 hc
    refine fm_iload_n hX d_F_begin_2 rfl rfl rfl ?_
    refine fm_iload_n hX d_F_begin_3 rfl rfl rfl ?_
    refine fm_n_ge (tgt := 34) (pq := 7) hX d_F_begin_4 rfl rfl (by omega) (by omega) (fun h4 => ?_) (fun h4 => ?_)
    · show fm_G SC Y_F_begin X M (fm_vr (fun M' => cS m M M' (an_s0 k))) 34 [some (.inr (kF m)), some (.inl (nI k)), some (.inl (nI p))] [] M1
      refine fm_aload_n hX d_F_begin_34 rfl rfl rfl ?_
      refine fm_ldc (v := an_W) hX d_F_begin_35 kF_84 rfl ?_
      refine fm_ldc (v := an_W) hX d_F_begin_37 kF_84 rfl ?_
      refine fm_callV_r (as := [.inl an_W, .inl an_W]) (st := []) (pq := 42) hX (s_F (by omega)) rfl cF_81 rfl im_F_holdInBoth se_F_holdInBoth (k_F_holdInBoth (by omega) M1 an_W an_W) rfl rfl (Nat.le_of_ble_eq_true rfl) (Nat.le_of_ble_eq_true rfl) d_F_begin_39 rfl (fun M39 c39 => ?_)
      refine fm_vret hX rfl d_F_begin_42 ?_
      exact ⟨rfl, cS_eq (cS_tr hc c39) (by rw [hc.1, show p = k by omega]; exact an_s1_W (by omega))⟩
    · show fm_G SC Y_F_begin X M (fm_vr (fun M' => cS m M M' (an_s0 k))) 7 [some (.inr (kF m)), some (.inl (nI k)), some (.inl (nI p))] [] M1
      refine fm_aload_n hX d_F_begin_7 rfl rfl rfl ?_
      refine fm_iload_n hX d_F_begin_8 rfl rfl rfl ?_
      refine fm_ldc (v := 16777216) hX d_F_begin_9 kF_76 rfl ?_
      refine fm_iload_n hX d_F_begin_11 rfl rfl rfl ?_
      refine fm_ishl (v := an_1 (24 + p)) hX d_F_begin_12 (fm_arg (by omega)) rfl ?_
      refine fm_callV_r (as := [.inl (nI p), .inl (an_1 (24 + p))]) (st := []) (pq := 16) hX (s_F (by omega)) rfl cF_77 rfl im_F_refer se_F_refer (k_F_refer (by omega) M1 (r := p) (by omega) (an_1 (24 + p))) rfl rfl (Nat.le_of_ble_eq_true rfl) (Nat.le_of_ble_eq_true rfl) d_F_begin_13 rfl (fun M13 c13 => ?_)
      refine fm_aload_n hX d_F_begin_16 rfl rfl rfl ?_
      refine fm_ldc (v := 16777216) hX d_F_begin_17 kF_76 rfl ?_
      refine fm_iload_n hX d_F_begin_19 rfl rfl rfl ?_
      refine fm_ishl (v := an_1 (24 + p)) hX d_F_begin_20 (fm_arg (by omega)) rfl ?_
      refine fm_ldc (v := 16777216) hX d_F_begin_21 kF_76 rfl ?_
      refine fm_iload_n hX d_F_begin_23 rfl rfl rfl ?_
      refine fm_ishl (v := an_1 (24 + p)) hX d_F_begin_24 (fm_arg (by omega)) rfl ?_
      refine fm_callV_r (as := [.inl (an_1 (24 + p)), .inl (an_1 (24 + p))]) (st := []) (pq := 28) hX (s_F (by omega)) rfl cF_81 rfl im_F_holdInBoth se_F_holdInBoth (k_F_holdInBoth (by omega) M13 (an_1 (24 + p)) (an_1 (24 + p))) rfl rfl (Nat.le_of_ble_eq_true rfl) (Nat.le_of_ble_eq_true rfl) d_F_begin_25 rfl (fun M25 c25 => ?_)
      refine fm_iinc (v := nI (p + 1)) (ls1 := [some (.inr (kF m)), some (.inl (nI k)), some (.inl (nI (p + 1)))]) hX d_F_begin_28 rfl (nI_add _ _) (by decide) rfl rfl ?_
      refine fm_goto (tgt := 2) hX d_F_begin_31 rfl ?_
      exact ih (by omega) _ (cS_eq (cS_tr hc (cS_tr c13 c25)) (by rw [c13.1, hc.1]; exact an_s1_s (by omega)))
  show fm_G SC Y_F_begin X M (fm_vr (fun M' => cS m M M' (an_s0 k))) 0 [some (.inr (kF m)), some (.inl (nI k)), none] [] M
  refine fm_iconst (v := nI 0) hX d_F_begin_0 (by decide) rfl ?_
  refine fm_istore_n (ls1 := [some (.inr (kF m)), some (.inl (nI k)), some (.inl (nI 0))]) hX d_F_begin_1 rfl (by decide) rfl rfl ?_
  exact L2 0 (by omega) M (cS_eq (cS_rf m M) (by rw [hz, an_s1_0]))
abbrev Y_F_forget : fm_Y := ("EscapeMill$Facts", b_F_forget, 2, none, 2)
set_option maxRecDepth 100000 in
set_option maxHeartbeats 4000000 in
theorem k_F_forget {m : Nat} (hm : m < 5) (M : fm_M) : fm_ct SC y_F_forget b_F_forget 2 none 2 [.inr (kF m)] M (fm_vv (cZ M m)) := by
  refine fm_of (ls := [some (.inr (kF m)), none]) (by decide) wsA_good (Nat.le_of_ble_eq_true rfl) rfl (fun X hX => ?_)
  have L38 : ∀ i, i ≤ 2 → fm_G SC Y_F_forget X M (fm_vv (cZ M m)) 38 [some (.inr (kF m)), some (.inl (nI i))] [] (fm_fill (fm_fill (fm_fill (fm_fill (fm_fill M (kFm m) 4 (nI 0)) (kFr m 0) 27 (nI 0)) (kFr m 1) 27 (nI 0)) (kFs m) 2 (nI 0)) (kFx m) i (nI 0)) := by
    refine fm_ind 2 (fun i hle ih => ?_)
    refine fm_iload_n hX d_F_forget_38 rfl rfl rfl ?_
    refine fm_iconst (v := nI 2) hX d_F_forget_39 (by decide) rfl ?_
    refine fm_n_ge (tgt := 56) (pq := 43) hX d_F_forget_40 rfl rfl (by omega) (by omega) (fun h40 => ?_) (fun h40 => ?_)
    · show fm_G SC Y_F_forget X M (fm_vv (cZ M m)) 56 [some (.inr (kF m)), some (.inl (nI i))] [] (fm_fill (fm_fill (fm_fill (fm_fill (fm_fill M (kFm m) 4 (nI 0)) (kFr m 0) 27 (nI 0)) (kFr m 1) 27 (nI 0)) (kFs m) 2 (nI 0)) (kFx m) i (nI 0))
      refine fm_aload_n hX d_F_forget_56 rfl rfl rfl ?_
      refine fm_iconst (v := nI 0) hX d_F_forget_57 (by decide) rfl ?_
      refine fm_puti hX fF_27 pF_4 (s_F (by omega)) rfl rfl rfl d_F_forget_58 rfl ?_
      refine fm_aload_n hX d_F_forget_61 rfl rfl rfl ?_
      refine fm_iconst (v := nI 0) hX d_F_forget_62 (by decide) rfl ?_
      refine fm_puti hX fF_31 pF_5 (s_F (by omega)) rfl rfl rfl d_F_forget_63 rfl ?_
      refine fm_aload_n hX d_F_forget_66 rfl rfl rfl ?_
      refine fm_iconst (v := nI 0) hX d_F_forget_67 (by decide) rfl ?_
      refine fm_puti hX fF_34 pF_6 (s_F (by omega)) rfl rfl rfl d_F_forget_68 rfl ?_
      refine fm_vret hX rfl d_F_forget_71 ?_
      exact ⟨rfl, by rw [show i = 2 by omega]; rfl⟩
    · show fm_G SC Y_F_forget X M (fm_vv (cZ M m)) 43 [some (.inr (kF m)), some (.inl (nI i))] [] (fm_fill (fm_fill (fm_fill (fm_fill (fm_fill M (kFm m) 4 (nI 0)) (kFr m 0) 27 (nI 0)) (kFr m 1) 27 (nI 0)) (kFs m) 2 (nI 0)) (kFx m) i (nI 0))
      refine fm_aload_n hX d_F_forget_43 rfl rfl rfl ?_
      refine fm_getr (q := kFx m) hX fF_23 (s_F (by omega)) rfl d_F_forget_44 rfl ?_
      refine fm_iload_n hX d_F_forget_47 rfl rfl rfl ?_
      refine fm_iconst (v := nI 0) hX d_F_forget_48 (by decide) rfl ?_
      refine fm_zast hX (s_Fx (by omega)) rfl rfl (by omega) (by decide) (by decide) d_F_forget_49 rfl ?_
      refine fm_mem (M' := fm_fill (fm_fill (fm_fill (fm_fill (fm_fill M (kFm m) 4 (nI 0)) (kFr m 0) 27 (nI 0)) (kFr m 1) 27 (nI 0)) (kFs m) 2 (nI 0)) (kFx m) (i + 1) (nI 0)) (fm_fill_s _ _ _ _) ?_
      refine fm_iinc (v := nI (i + 1)) (ls1 := [some (.inr (kF m)), some (.inl (nI (i + 1)))]) hX d_F_forget_50 rfl (nI_add _ _) (by decide) rfl rfl ?_
      refine fm_goto (tgt := 38) hX d_F_forget_53 rfl ?_
      exact ih (by omega)
  show fm_G SC Y_F_forget X M (fm_vv (cZ M m)) 0 [some (.inr (kF m)), none] [] M
  refine fm_aload_n hX d_F_forget_0 rfl rfl rfl ?_
  refine fm_getr (q := kFm m) hX fF_9 (s_F (by omega)) rfl d_F_forget_1 rfl ?_
  refine fm_iconst (v := nI 0) hX d_F_forget_4 (by decide) rfl ?_
  refine fm_callS_v (as := [.inr (kFm m), .inl (nI 0)]) (st := []) (pq := 8) hX cF_70 st_A_fill (k_A_fill (n := 4) (s_Fm (by omega)) (by decide) M (nI 0)) rfl rfl (Nat.le_of_ble_eq_true rfl) (Nat.le_of_ble_eq_true rfl) d_F_forget_5 rfl ?_
  refine fm_aload_n hX d_F_forget_8 rfl rfl rfl ?_
  refine fm_getr (q := kFh m) hX fF_17 (s_F (by omega)) rfl d_F_forget_9 rfl ?_
  refine fm_iconst (v := nI 0) hX d_F_forget_12 (by decide) rfl ?_
  refine fm_aald (q := kFr m 0) hX (s_Fh (by omega)) (by decide) rfl rfl rfl (by omega) (by decide) (r_Fr (by omega)) d_F_forget_13 rfl ?_
  refine fm_iconst (v := nI 0) hX d_F_forget_14 (by decide) rfl ?_
  refine fm_callS_v (as := [.inr (kFr m 0), .inl (nI 0)]) (st := []) (pq := 18) hX cF_70 st_A_fill (k_A_fill (n := 27) (s_Fr (by omega) (by omega)) (by decide) (fm_fill M (kFm m) 4 (nI 0)) (nI 0)) rfl rfl (Nat.le_of_ble_eq_true rfl) (Nat.le_of_ble_eq_true rfl) d_F_forget_15 rfl ?_
  refine fm_aload_n hX d_F_forget_18 rfl rfl rfl ?_
  refine fm_getr (q := kFh m) hX fF_17 (s_F (by omega)) rfl d_F_forget_19 rfl ?_
  refine fm_iconst (v := nI 1) hX d_F_forget_22 (by decide) rfl ?_
  refine fm_aald (q := kFr m 1) hX (s_Fh (by omega)) (by decide) rfl rfl rfl (by omega) (by decide) (r_Fr (by omega)) d_F_forget_23 rfl ?_
  refine fm_iconst (v := nI 0) hX d_F_forget_24 (by decide) rfl ?_
  refine fm_callS_v (as := [.inr (kFr m 1), .inl (nI 0)]) (st := []) (pq := 28) hX cF_70 st_A_fill (k_A_fill (n := 27) (s_Fr (by omega) (by omega)) (by decide) (fm_fill (fm_fill M (kFm m) 4 (nI 0)) (kFr m 0) 27 (nI 0)) (nI 0)) rfl rfl (Nat.le_of_ble_eq_true rfl) (Nat.le_of_ble_eq_true rfl) d_F_forget_25 rfl ?_
  refine fm_aload_n hX d_F_forget_28 rfl rfl rfl ?_
  refine fm_getr (q := kFs m) hX fF_20 (s_F (by omega)) rfl d_F_forget_29 rfl ?_
  refine fm_iconst (v := nI 0) hX d_F_forget_32 (by decide) rfl ?_
  refine fm_callS_v (as := [.inr (kFs m), .inl (nI 0)]) (st := []) (pq := 36) hX cF_70 st_A_fill (k_A_fill (n := 2) (s_Fs (by omega)) (by decide) (fm_fill (fm_fill (fm_fill M (kFm m) 4 (nI 0)) (kFr m 0) 27 (nI 0)) (kFr m 1) 27 (nI 0)) (nI 0)) rfl rfl (Nat.le_of_ble_eq_true rfl) (Nat.le_of_ble_eq_true rfl) d_F_forget_33 rfl ?_
  refine fm_iconst (v := nI 0) hX d_F_forget_36 (by decide) rfl ?_
  refine fm_istore_n (ls1 := [some (.inr (kF m)), some (.inl (nI 0))]) hX d_F_forget_37 rfl (by decide) rfl rfl ?_
  refine fm_mem (fm_fill_0 _ (kFx m) (nI 0)).symm ?_
  exact L38 0 (by omega)
abbrev Y_F_applyCall : fm_Y := ("EscapeMill$Facts", b_F_applyCall, 17, none, 3)
set_option maxRecDepth 100000 in
set_option maxHeartbeats 4000000 in
theorem k_F_applyCall {P : pr_T} {m : Nat} (hm : m < 5) (M : fm_M) (hP : cP M P) (hw : pr_wf P) {i : Nat} (hi : i < P.1 m) (ho : (P.2.2 m i).1 = 16) {E : an_E} (hE : cE P m E M) : fm_ct SC y_F_applyCall b_F_applyCall 17 none 3 [.inr (kF m), .inr 1, .inr 2, .inl (nI m), .inl (nI i)] M (fm_vr (fun M' => cS m M M' (an_cn E (P.2.2 m i).2.1 (P.2.2 m i).2.2.1 (P.2.2 m i).2.2.2.1 (P.2.2 m i).2.2.2.2.toNatClampNeg (E.1 (P.2.2 m i).2.2.2.2.toNatClampNeg) (cA M m)))) := by
  refine fm_of (ls := [some (.inr (kF m)), some (.inr 1), some (.inr 2), some (.inl (nI m)), some (.inl (nI i)), none, none, none, none, none, none, none, none, none, none, none, none]) (by decide) wsA_good (Nat.le_of_ble_eq_true rfl) rfl (fun X hX => ?_)
  obtain ⟨wl, wi, wI⟩ := hw m hm
  obtain ⟨w1, w2, w3, w4, w5, w6⟩ := wI i hi
  obtain ⟨k, hk, hn⟩ := w6 ho
  have hk2 := (hw k hk).2.1
  have hk1 := (hw k hk).1
  have L106 : ∀ b : Bool, (b = true ↔ (k ≤ m ∨ P.1 k = 0)) → ∀ p, p ≤ P.2.1 k → ∀ M1, cS m M M1 (an_cn E (P.2.2 m i).2.1 (P.2.2 m i).2.2.1 (P.2.2 m i).2.2.2.1 k p (cA M m)) → fm_G SC Y_F_applyCall X M (fm_vr (fun M' => cS m M M' (an_cn E (P.2.2 m i).2.1 (P.2.2 m i).2.2.1 (P.2.2 m i).2.2.2.1 (P.2.2 m i).2.2.2.2.toNatClampNeg (E.1 (P.2.2 m i).2.2.2.2.toNatClampNeg) (cA M m)))) 106 [some (.inr (kF m)), some (.inr 1), some (.inr 2), some (.inl (nI m)), some (.inl (nI i)), some (.inl (nI ((P.2.2 m i).2.1))), some (.inl (nI ((P.2.2 m i).2.2.1))), some (.inl (nI ((P.2.2 m i).2.2.2.1))), some (.inl (nI k)), some (.inl (nI (P.2.1 k))), some (.inl (bI b)), some (.inl (nI p)), none, none, none, none, none] [] M1 := by
    intro b hb
    refine fm_ind (P.2.1 k) (fun p hle ih => ?_)
    intro M1 hc
    have hE1 := cE_S hE hc
    have hj4 : (if p = 0 then (P.2.2 m i).2.2.1 else (P.2.2 m i).2.2.2.1) < 4 := by split <;> omega
    refine fm_iload hX d_F_applyCall_106 rfl rfl ?_
    refine fm_iload hX d_F_applyCall_108 rfl rfl ?_
    refine fm_n_ge (tgt := 285) (pq := 113) hX d_F_applyCall_110 rfl rfl (by omega) (by omega) (fun h110 => ?_) (fun h110 => ?_)
    · show fm_G SC Y_F_applyCall X M (fm_vr (fun M' => cS m M M' (an_cn E (P.2.2 m i).2.1 (P.2.2 m i).2.2.1 (P.2.2 m i).2.2.2.1 (P.2.2 m i).2.2.2.2.toNatClampNeg (E.1 (P.2.2 m i).2.2.2.2.toNatClampNeg) (cA M m)))) 285 [some (.inr (kF m)), some (.inr 1), some (.inr 2), some (.inl (nI m)), some (.inl (nI i)), some (.inl (nI ((P.2.2 m i).2.1))), some (.inl (nI ((P.2.2 m i).2.2.1))), some (.inl (nI ((P.2.2 m i).2.2.2.1))), some (.inl (nI k)), some (.inl (nI (P.2.1 k))), some (.inl (bI b)), some (.inl (nI p)), none, none, none, none, none] [] M1
      refine fm_vret hX rfl d_F_applyCall_285 ?_
      have hkk : (P.2.2 m i).2.2.2.2.toNatClampNeg = k := by rw [hn]; exact nI_clamp (by omega)
      exact ⟨rfl, cS_eq hc (by rw [hkk, hE.1, show p = P.2.1 k by omega])⟩
    · show fm_G SC Y_F_applyCall X M (fm_vr (fun M' => cS m M M' (an_cn E (P.2.2 m i).2.1 (P.2.2 m i).2.2.1 (P.2.2 m i).2.2.2.1 (P.2.2 m i).2.2.2.2.toNatClampNeg (E.1 (P.2.2 m i).2.2.2.2.toNatClampNeg) (cA M m)))) 113 [some (.inr (kF m)), some (.inr 1), some (.inr 2), some (.inl (nI m)), some (.inl (nI i)), some (.inl (nI ((P.2.2 m i).2.1))), some (.inl (nI ((P.2.2 m i).2.2.1))), some (.inl (nI ((P.2.2 m i).2.2.2.1))), some (.inl (nI k)), some (.inl (nI (P.2.1 k))), some (.inl (bI b)), some (.inl (nI p)), none, none, none, none, none] [] M1
      have he2 := cE_2 hE1 hk (by omega : p < P.2.1 k)
      have L132 : ∀ v : Int32, v = nI (E.2.1 k p) → fm_G SC Y_F_applyCall X M (fm_vr (fun M' => cS m M M' (an_cn E (P.2.2 m i).2.1 (P.2.2 m i).2.2.1 (P.2.2 m i).2.2.2.1 (P.2.2 m i).2.2.2.2.toNatClampNeg (E.1 (P.2.2 m i).2.2.2.2.toNatClampNeg) (cA M m)))) 132 [some (.inr (kF m)), some (.inr 1), some (.inr 2), some (.inl (nI m)), some (.inl (nI i)), some (.inl (nI ((P.2.2 m i).2.1))), some (.inl (nI ((P.2.2 m i).2.2.1))), some (.inl (nI ((P.2.2 m i).2.2.2.1))), some (.inl (nI k)), some (.inl (nI (P.2.1 k))), some (.inl (bI b)), some (.inl (nI p)), none, none, none, none, none] [.inl v] M1 := by
        intro v hv
        subst hv
        refine fm_istore (ls1 := [some (.inr (kF m)), some (.inr 1), some (.inr 2), some (.inl (nI m)), some (.inl (nI i)), some (.inl (nI ((P.2.2 m i).2.1))), some (.inl (nI ((P.2.2 m i).2.2.1))), some (.inl (nI ((P.2.2 m i).2.2.2.1))), some (.inl (nI k)), some (.inl (nI (P.2.1 k))), some (.inl (bI b)), some (.inl (nI p)), some (.inl (nI (E.2.1 k p))), none, none, none, none]) hX d_F_applyCall_132 (by decide) rfl rfl ?_
        refine fm_aload_n hX d_F_applyCall_134 rfl rfl rfl ?_
        refine fm_getr (q := kFm m) hX fF_9 (s_F (by omega)) rfl d_F_applyCall_135 rfl ?_
        refine fm_iload hX d_F_applyCall_138 rfl rfl ?_
        have L150 : ∀ j : Nat, j = (if p = 0 then (P.2.2 m i).2.2.1 else (P.2.2 m i).2.2.2.1) → fm_G SC Y_F_applyCall X M (fm_vr (fun M' => cS m M M' (an_cn E (P.2.2 m i).2.1 (P.2.2 m i).2.2.1 (P.2.2 m i).2.2.2.1 (P.2.2 m i).2.2.2.2.toNatClampNeg (E.1 (P.2.2 m i).2.2.2.2.toNatClampNeg) (cA M m)))) 150 [some (.inr (kF m)), some (.inr 1), some (.inr 2), some (.inl (nI m)), some (.inl (nI i)), some (.inl (nI ((P.2.2 m i).2.1))), some (.inl (nI ((P.2.2 m i).2.2.1))), some (.inl (nI ((P.2.2 m i).2.2.2.1))), some (.inl (nI k)), some (.inl (nI (P.2.1 k))), some (.inl (bI b)), some (.inl (nI p)), some (.inl (nI (E.2.1 k p))), none, none, none, none] [.inl (nI j), .inr (kFm m)] M1 := by
          intro j hj
          subst hj
          refine fm_iald (v := (cA M1 m).1 ((if p = 0 then (P.2.2 m i).2.2.1 else (P.2.2 m i).2.2.2.1))) hX (s_Fm (by omega)) rfl rfl (by omega) (by decide) (cA_m (by omega)).symm d_F_applyCall_150 rfl ?_
          refine fm_istore (ls1 := [some (.inr (kF m)), some (.inr 1), some (.inr 2), some (.inl (nI m)), some (.inl (nI i)), some (.inl (nI ((P.2.2 m i).2.1))), some (.inl (nI ((P.2.2 m i).2.2.1))), some (.inl (nI ((P.2.2 m i).2.2.2.1))), some (.inl (nI k)), some (.inl (nI (P.2.1 k))), some (.inl (bI b)), some (.inl (nI p)), some (.inl (nI (E.2.1 k p))), some (.inl ((cA M1 m).1 ((if p = 0 then (P.2.2 m i).2.2.1 else (P.2.2 m i).2.2.2.1)))), none, none, none]) hX d_F_applyCall_151 (by decide) rfl rfl ?_
          refine fm_aload_n hX d_F_applyCall_153 rfl rfl rfl ?_
          refine fm_iload hX d_F_applyCall_154 rfl rfl ?_
          refine fm_callV_i (as := [.inl ((cA M1 m).1 ((if p = 0 then (P.2.2 m i).2.2.1 else (P.2.2 m i).2.2.2.1)))]) (st := []) (pq := 159) hX (s_F (by omega)) rfl cF_105 rfl im_F_reached se_F_reached (k_F_reached (by omega) M1 ((cA M1 m).1 ((if p = 0 then (P.2.2 m i).2.2.1 else (P.2.2 m i).2.2.2.1)))) rfl rfl (Nat.le_of_ble_eq_true rfl) (Nat.le_of_ble_eq_true rfl) d_F_applyCall_156 rfl ?_
          refine fm_istore (ls1 := [some (.inr (kF m)), some (.inr 1), some (.inr 2), some (.inl (nI m)), some (.inl (nI i)), some (.inl (nI ((P.2.2 m i).2.1))), some (.inl (nI ((P.2.2 m i).2.2.1))), some (.inl (nI ((P.2.2 m i).2.2.2.1))), some (.inl (nI k)), some (.inl (nI (P.2.1 k))), some (.inl (bI b)), some (.inl (nI p)), some (.inl (nI (E.2.1 k p))), some (.inl ((cA M1 m).1 ((if p = 0 then (P.2.2 m i).2.2.1 else (P.2.2 m i).2.2.2.1)))), some (.inl (an_rc (cA M1 m).2.1 ((cA M1 m).1 ((if p = 0 then (P.2.2 m i).2.2.1 else (P.2.2 m i).2.2.2.1))))), none, none]) hX d_F_applyCall_159 (by decide) rfl rfl ?_
          have L185 : ∀ v : Int32, v = bI (E.2.2 k p) → fm_G SC Y_F_applyCall X M (fm_vr (fun M' => cS m M M' (an_cn E (P.2.2 m i).2.1 (P.2.2 m i).2.2.1 (P.2.2 m i).2.2.2.1 (P.2.2 m i).2.2.2.2.toNatClampNeg (E.1 (P.2.2 m i).2.2.2.2.toNatClampNeg) (cA M m)))) 185 [some (.inr (kF m)), some (.inr 1), some (.inr 2), some (.inl (nI m)), some (.inl (nI i)), some (.inl (nI ((P.2.2 m i).2.1))), some (.inl (nI ((P.2.2 m i).2.2.1))), some (.inl (nI ((P.2.2 m i).2.2.2.1))), some (.inl (nI k)), some (.inl (nI (P.2.1 k))), some (.inl (bI b)), some (.inl (nI p)), some (.inl (nI (E.2.1 k p))), some (.inl ((cA M1 m).1 ((if p = 0 then (P.2.2 m i).2.2.1 else (P.2.2 m i).2.2.2.1)))), some (.inl (an_rc (cA M1 m).2.1 ((cA M1 m).1 ((if p = 0 then (P.2.2 m i).2.2.1 else (P.2.2 m i).2.2.2.1))))), none, none] [.inl v] M1 := by
            intro v hv
            subst hv
            refine fm_istore (ls1 := [some (.inr (kF m)), some (.inr 1), some (.inr 2), some (.inl (nI m)), some (.inl (nI i)), some (.inl (nI ((P.2.2 m i).2.1))), some (.inl (nI ((P.2.2 m i).2.2.1))), some (.inl (nI ((P.2.2 m i).2.2.2.1))), some (.inl (nI k)), some (.inl (nI (P.2.1 k))), some (.inl (bI b)), some (.inl (nI p)), some (.inl (nI (E.2.1 k p))), some (.inl ((cA M1 m).1 ((if p = 0 then (P.2.2 m i).2.2.1 else (P.2.2 m i).2.2.2.1)))), some (.inl (an_rc (cA M1 m).2.1 ((cA M1 m).1 ((if p = 0 then (P.2.2 m i).2.2.1 else (P.2.2 m i).2.2.2.1))))), some (.inl (bI (E.2.2 k p))), none]) hX d_F_applyCall_185 (by decide) rfl rfl ?_
            refine fm_aload_n hX d_F_applyCall_187 rfl rfl rfl ?_
            refine fm_iload hX d_F_applyCall_188 rfl rfl ?_
            have L205 : ∀ v : Int32, v = (if E.2.2 k p = true then an_rc (cA M1 m).2.1 ((cA M1 m).1 (if p = 0 then (P.2.2 m i).2.2.1 else (P.2.2 m i).2.2.2.1)) ||| an_W else an_rc (cA M1 m).2.1 ((cA M1 m).1 (if p = 0 then (P.2.2 m i).2.2.1 else (P.2.2 m i).2.2.2.1))) → fm_G SC Y_F_applyCall X M (fm_vr (fun M' => cS m M M' (an_cn E (P.2.2 m i).2.1 (P.2.2 m i).2.2.1 (P.2.2 m i).2.2.2.1 (P.2.2 m i).2.2.2.2.toNatClampNeg (E.1 (P.2.2 m i).2.2.2.2.toNatClampNeg) (cA M m)))) 205 [some (.inr (kF m)), some (.inr 1), some (.inr 2), some (.inl (nI m)), some (.inl (nI i)), some (.inl (nI ((P.2.2 m i).2.1))), some (.inl (nI ((P.2.2 m i).2.2.1))), some (.inl (nI ((P.2.2 m i).2.2.2.1))), some (.inl (nI k)), some (.inl (nI (P.2.1 k))), some (.inl (bI b)), some (.inl (nI p)), some (.inl (nI (E.2.1 k p))), some (.inl ((cA M1 m).1 ((if p = 0 then (P.2.2 m i).2.2.1 else (P.2.2 m i).2.2.2.1)))), some (.inl (an_rc (cA M1 m).2.1 ((cA M1 m).1 ((if p = 0 then (P.2.2 m i).2.2.1 else (P.2.2 m i).2.2.2.1))))), some (.inl (bI (E.2.2 k p))), none] [.inl v, .inl (an_rc (cA M1 m).2.1 ((cA M1 m).1 ((if p = 0 then (P.2.2 m i).2.2.1 else (P.2.2 m i).2.2.2.1)))), .inr (kF m)] M1 := by
              intro v205 hv205
              refine fm_callV_r (as := [.inl (an_rc (cA M1 m).2.1 ((cA M1 m).1 ((if p = 0 then (P.2.2 m i).2.2.1 else (P.2.2 m i).2.2.2.1)))), .inl v205]) (st := []) (pq := 208) hX (s_F (by omega)) rfl cF_81 rfl im_F_holdInBoth se_F_holdInBoth (k_F_holdInBoth (by omega) M1 (an_rc (cA M1 m).2.1 ((cA M1 m).1 ((if p = 0 then (P.2.2 m i).2.2.1 else (P.2.2 m i).2.2.2.1)))) v205) rfl rfl (Nat.le_of_ble_eq_true rfl) (Nat.le_of_ble_eq_true rfl) d_F_applyCall_205 rfl (fun M205 c205 => ?_)
              have hr1 := cS_r1 (y := (P.2.2 m i).2.2.1) (z := (P.2.2 m i).2.2.2.1) hc hv205 c205
              refine fm_iload hX d_F_applyCall_208 rfl rfl ?_
              refine fm_iconst (v := nI 2) hX d_F_applyCall_210 (by decide) rfl ?_
              refine fm_n_ne (tgt := 225) (pq := 214) hX d_F_applyCall_211 rfl rfl (by omega) (by omega) (fun h211 => ?_) (fun h211 => ?_)
              · show fm_G SC Y_F_applyCall X M (fm_vr (fun M' => cS m M M' (an_cn E (P.2.2 m i).2.1 (P.2.2 m i).2.2.1 (P.2.2 m i).2.2.2.1 (P.2.2 m i).2.2.2.2.toNatClampNeg (E.1 (P.2.2 m i).2.2.2.2.toNatClampNeg) (cA M m)))) 225 [some (.inr (kF m)), some (.inr 1), some (.inr 2), some (.inl (nI m)), some (.inl (nI i)), some (.inl (nI ((P.2.2 m i).2.1))), some (.inl (nI ((P.2.2 m i).2.2.1))), some (.inl (nI ((P.2.2 m i).2.2.2.1))), some (.inl (nI k)), some (.inl (nI (P.2.1 k))), some (.inl (bI b)), some (.inl (nI p)), some (.inl (nI (E.2.1 k p))), some (.inl ((cA M1 m).1 ((if p = 0 then (P.2.2 m i).2.2.1 else (P.2.2 m i).2.2.2.1)))), some (.inl (an_rc (cA M1 m).2.1 ((cA M1 m).1 ((if p = 0 then (P.2.2 m i).2.2.1 else (P.2.2 m i).2.2.2.1))))), some (.inl (bI (E.2.2 k p))), none] [] M205
                refine fm_iload hX d_F_applyCall_225 rfl rfl ?_
                refine fm_iconst (v := nI 1) hX d_F_applyCall_227 (by decide) rfl ?_
                refine fm_n_ne (tgt := 279) (pq := 231) hX d_F_applyCall_228 rfl rfl (by omega) (by omega) (fun h228 => ?_) (fun h228 => ?_)
                · show fm_G SC Y_F_applyCall X M (fm_vr (fun M' => cS m M M' (an_cn E (P.2.2 m i).2.1 (P.2.2 m i).2.2.1 (P.2.2 m i).2.2.2.1 (P.2.2 m i).2.2.2.2.toNatClampNeg (E.1 (P.2.2 m i).2.2.2.2.toNatClampNeg) (cA M m)))) 279 [some (.inr (kF m)), some (.inr 1), some (.inr 2), some (.inl (nI m)), some (.inl (nI i)), some (.inl (nI ((P.2.2 m i).2.1))), some (.inl (nI ((P.2.2 m i).2.2.1))), some (.inl (nI ((P.2.2 m i).2.2.2.1))), some (.inl (nI k)), some (.inl (nI (P.2.1 k))), some (.inl (bI b)), some (.inl (nI p)), some (.inl (nI (E.2.1 k p))), some (.inl ((cA M1 m).1 ((if p = 0 then (P.2.2 m i).2.2.1 else (P.2.2 m i).2.2.2.1)))), some (.inl (an_rc (cA M1 m).2.1 ((cA M1 m).1 ((if p = 0 then (P.2.2 m i).2.2.1 else (P.2.2 m i).2.2.2.1))))), some (.inl (bI (E.2.2 k p))), none] [] M205
                  refine fm_iinc (v := nI (p + 1)) (ls1 := [some (.inr (kF m)), some (.inr 1), some (.inr 2), some (.inl (nI m)), some (.inl (nI i)), some (.inl (nI ((P.2.2 m i).2.1))), some (.inl (nI ((P.2.2 m i).2.2.1))), some (.inl (nI ((P.2.2 m i).2.2.2.1))), some (.inl (nI k)), some (.inl (nI (P.2.1 k))), some (.inl (bI b)), some (.inl (nI (p + 1))), some (.inl (nI (E.2.1 k p))), some (.inl ((cA M1 m).1 ((if p = 0 then (P.2.2 m i).2.2.1 else (P.2.2 m i).2.2.2.1)))), some (.inl (an_rc (cA M1 m).2.1 ((cA M1 m).1 ((if p = 0 then (P.2.2 m i).2.2.1 else (P.2.2 m i).2.2.2.1))))), some (.inl (bI (E.2.2 k p))), none]) hX d_F_applyCall_279 rfl (nI_add _ _) (by decide) rfl rfl ?_
                  refine fm_goto (tgt := 106) hX d_F_applyCall_282 rfl ?_
                  refine fm_drop 12 (ls1 := [some (.inr (kF m)), some (.inr 1), some (.inr 2), some (.inl (nI m)), some (.inl (nI i)), some (.inl (nI ((P.2.2 m i).2.1))), some (.inl (nI ((P.2.2 m i).2.2.1))), some (.inl (nI ((P.2.2 m i).2.2.2.1))), some (.inl (nI k)), some (.inl (nI (P.2.1 k))), some (.inl (bI b)), some (.inl (nI (p + 1))), none, some (.inl ((cA M1 m).1 ((if p = 0 then (P.2.2 m i).2.2.1 else (P.2.2 m i).2.2.2.1)))), some (.inl (an_rc (cA M1 m).2.1 ((cA M1 m).1 ((if p = 0 then (P.2.2 m i).2.2.1 else (P.2.2 m i).2.2.2.1))))), some (.inl (bI (E.2.2 k p))), none]) rfl ?_
                  refine fm_drop 13 (ls1 := [some (.inr (kF m)), some (.inr 1), some (.inr 2), some (.inl (nI m)), some (.inl (nI i)), some (.inl (nI ((P.2.2 m i).2.1))), some (.inl (nI ((P.2.2 m i).2.2.1))), some (.inl (nI ((P.2.2 m i).2.2.2.1))), some (.inl (nI k)), some (.inl (nI (P.2.1 k))), some (.inl (bI b)), some (.inl (nI (p + 1))), none, none, some (.inl (an_rc (cA M1 m).2.1 ((cA M1 m).1 ((if p = 0 then (P.2.2 m i).2.2.1 else (P.2.2 m i).2.2.2.1))))), some (.inl (bI (E.2.2 k p))), none]) rfl ?_
                  refine fm_drop 14 (ls1 := [some (.inr (kF m)), some (.inr 1), some (.inr 2), some (.inl (nI m)), some (.inl (nI i)), some (.inl (nI ((P.2.2 m i).2.1))), some (.inl (nI ((P.2.2 m i).2.2.1))), some (.inl (nI ((P.2.2 m i).2.2.2.1))), some (.inl (nI k)), some (.inl (nI (P.2.1 k))), some (.inl (bI b)), some (.inl (nI (p + 1))), none, none, none, some (.inl (bI (E.2.2 k p))), none]) rfl ?_
                  refine fm_drop 15 (ls1 := [some (.inr (kF m)), some (.inr 1), some (.inr 2), some (.inl (nI m)), some (.inl (nI i)), some (.inl (nI ((P.2.2 m i).2.1))), some (.inl (nI ((P.2.2 m i).2.2.1))), some (.inl (nI ((P.2.2 m i).2.2.2.1))), some (.inl (nI k)), some (.inl (nI (P.2.1 k))), some (.inl (bI b)), some (.inl (nI (p + 1))), none, none, none, none, none]) rfl ?_
                  exact ih (by omega) _ (cS_ca0 hr1 h211 h228)
                · show fm_G SC Y_F_applyCall X M (fm_vr (fun M' => cS m M M' (an_cn E (P.2.2 m i).2.1 (P.2.2 m i).2.2.1 (P.2.2 m i).2.2.2.1 (P.2.2 m i).2.2.2.2.toNatClampNeg (E.1 (P.2.2 m i).2.2.2.2.toNatClampNeg) (cA M m)))) 231 [some (.inr (kF m)), some (.inr 1), some (.inr 2), some (.inl (nI m)), some (.inl (nI i)), some (.inl (nI ((P.2.2 m i).2.1))), some (.inl (nI ((P.2.2 m i).2.2.1))), some (.inl (nI ((P.2.2 m i).2.2.2.1))), some (.inl (nI k)), some (.inl (nI (P.2.1 k))), some (.inl (bI b)), some (.inl (nI p)), some (.inl (nI (E.2.1 k p))), some (.inl ((cA M1 m).1 ((if p = 0 then (P.2.2 m i).2.2.1 else (P.2.2 m i).2.2.2.1)))), some (.inl (an_rc (cA M1 m).2.1 ((cA M1 m).1 ((if p = 0 then (P.2.2 m i).2.2.1 else (P.2.2 m i).2.2.2.1))))), some (.inl (bI (E.2.2 k p))), none] [] M205
                  refine fm_aload_n hX d_F_applyCall_231 rfl rfl rfl ?_
                  have L258 : ∀ v : Int32, v = an_bo (cA M205 m) (P.2.1 k) (P.2.2 m i).2.2.1 (P.2.2 m i).2.2.2.1 → fm_G SC Y_F_applyCall X M (fm_vr (fun M' => cS m M M' (an_cn E (P.2.2 m i).2.1 (P.2.2 m i).2.2.1 (P.2.2 m i).2.2.2.1 (P.2.2 m i).2.2.2.2.toNatClampNeg (E.1 (P.2.2 m i).2.2.2.2.toNatClampNeg) (cA M m)))) 258 [some (.inr (kF m)), some (.inr 1), some (.inr 2), some (.inl (nI m)), some (.inl (nI i)), some (.inl (nI ((P.2.2 m i).2.1))), some (.inl (nI ((P.2.2 m i).2.2.1))), some (.inl (nI ((P.2.2 m i).2.2.2.1))), some (.inl (nI k)), some (.inl (nI (P.2.1 k))), some (.inl (bI b)), some (.inl (nI p)), some (.inl (nI (E.2.1 k p))), some (.inl ((cA M1 m).1 ((if p = 0 then (P.2.2 m i).2.2.1 else (P.2.2 m i).2.2.2.1)))), some (.inl (an_rc (cA M1 m).2.1 ((cA M1 m).1 ((if p = 0 then (P.2.2 m i).2.2.1 else (P.2.2 m i).2.2.2.1))))), some (.inl (bI (E.2.2 k p))), none] [.inl v, .inr (kF m)] M205 := by
                    intro v258 hv258
                    refine fm_callV_i (as := [.inl v258]) (st := []) (pq := 261) hX (s_F (by omega)) rfl cF_105 rfl im_F_reached se_F_reached (k_F_reached (by omega) M205 v258) rfl rfl (Nat.le_of_ble_eq_true rfl) (Nat.le_of_ble_eq_true rfl) d_F_applyCall_258 rfl ?_
                    refine fm_istore (ls1 := [some (.inr (kF m)), some (.inr 1), some (.inr 2), some (.inl (nI m)), some (.inl (nI i)), some (.inl (nI ((P.2.2 m i).2.1))), some (.inl (nI ((P.2.2 m i).2.2.1))), some (.inl (nI ((P.2.2 m i).2.2.2.1))), some (.inl (nI k)), some (.inl (nI (P.2.1 k))), some (.inl (bI b)), some (.inl (nI p)), some (.inl (nI (E.2.1 k p))), some (.inl ((cA M1 m).1 ((if p = 0 then (P.2.2 m i).2.2.1 else (P.2.2 m i).2.2.2.1)))), some (.inl (an_rc (cA M1 m).2.1 ((cA M1 m).1 ((if p = 0 then (P.2.2 m i).2.2.1 else (P.2.2 m i).2.2.2.1))))), some (.inl (bI (E.2.2 k p))), some (.inl (an_rc (cA M205 m).2.1 v258))]) hX d_F_applyCall_261 (by decide) rfl rfl ?_
                    refine fm_aload_n hX d_F_applyCall_263 rfl rfl rfl ?_
                    refine fm_iload hX d_F_applyCall_264 rfl rfl ?_
                    refine fm_iload hX d_F_applyCall_266 rfl rfl ?_
                    refine fm_callV_r (as := [.inl (an_rc (cA M205 m).2.1 v258), .inl (an_rc (cA M205 m).2.1 v258)]) (st := []) (pq := 271) hX (s_F (by omega)) rfl cF_81 rfl im_F_holdInBoth se_F_holdInBoth (k_F_holdInBoth (by omega) M205 (an_rc (cA M205 m).2.1 v258) (an_rc (cA M205 m).2.1 v258)) rfl rfl (Nat.le_of_ble_eq_true rfl) (Nat.le_of_ble_eq_true rfl) d_F_applyCall_268 rfl (fun M268 c268 => ?_)
                    refine fm_aload_n hX d_F_applyCall_271 rfl rfl rfl ?_
                    refine fm_iload hX d_F_applyCall_272 rfl rfl ?_
                    refine fm_iload hX d_F_applyCall_274 rfl rfl ?_
                    refine fm_callV_r (as := [.inl (nI ((P.2.2 m i).2.1)), .inl (an_rc (cA M205 m).2.1 v258)]) (st := []) (pq := 279) hX (s_F (by omega)) rfl cF_77 rfl im_F_refer se_F_refer (k_F_refer (by omega) M268 (r := (P.2.2 m i).2.1) (by omega) (an_rc (cA M205 m).2.1 v258)) rfl rfl (Nat.le_of_ble_eq_true rfl) (Nat.le_of_ble_eq_true rfl) d_F_applyCall_276 rfl (fun M276 c276 => ?_)
                    refine fm_iinc (v := nI (p + 1)) (ls1 := [some (.inr (kF m)), some (.inr 1), some (.inr 2), some (.inl (nI m)), some (.inl (nI i)), some (.inl (nI ((P.2.2 m i).2.1))), some (.inl (nI ((P.2.2 m i).2.2.1))), some (.inl (nI ((P.2.2 m i).2.2.2.1))), some (.inl (nI k)), some (.inl (nI (P.2.1 k))), some (.inl (bI b)), some (.inl (nI (p + 1))), some (.inl (nI (E.2.1 k p))), some (.inl ((cA M1 m).1 ((if p = 0 then (P.2.2 m i).2.2.1 else (P.2.2 m i).2.2.2.1)))), some (.inl (an_rc (cA M1 m).2.1 ((cA M1 m).1 ((if p = 0 then (P.2.2 m i).2.2.1 else (P.2.2 m i).2.2.2.1))))), some (.inl (bI (E.2.2 k p))), some (.inl (an_rc (cA M205 m).2.1 v258))]) hX d_F_applyCall_279 rfl (nI_add _ _) (by decide) rfl rfl ?_
                    refine fm_goto (tgt := 106) hX d_F_applyCall_282 rfl ?_
                    refine fm_drop 12 (ls1 := [some (.inr (kF m)), some (.inr 1), some (.inr 2), some (.inl (nI m)), some (.inl (nI i)), some (.inl (nI ((P.2.2 m i).2.1))), some (.inl (nI ((P.2.2 m i).2.2.1))), some (.inl (nI ((P.2.2 m i).2.2.2.1))), some (.inl (nI k)), some (.inl (nI (P.2.1 k))), some (.inl (bI b)), some (.inl (nI (p + 1))), none, some (.inl ((cA M1 m).1 ((if p = 0 then (P.2.2 m i).2.2.1 else (P.2.2 m i).2.2.2.1)))), some (.inl (an_rc (cA M1 m).2.1 ((cA M1 m).1 ((if p = 0 then (P.2.2 m i).2.2.1 else (P.2.2 m i).2.2.2.1))))), some (.inl (bI (E.2.2 k p))), some (.inl (an_rc (cA M205 m).2.1 v258))]) rfl ?_
                    refine fm_drop 13 (ls1 := [some (.inr (kF m)), some (.inr 1), some (.inr 2), some (.inl (nI m)), some (.inl (nI i)), some (.inl (nI ((P.2.2 m i).2.1))), some (.inl (nI ((P.2.2 m i).2.2.1))), some (.inl (nI ((P.2.2 m i).2.2.2.1))), some (.inl (nI k)), some (.inl (nI (P.2.1 k))), some (.inl (bI b)), some (.inl (nI (p + 1))), none, none, some (.inl (an_rc (cA M1 m).2.1 ((cA M1 m).1 ((if p = 0 then (P.2.2 m i).2.2.1 else (P.2.2 m i).2.2.2.1))))), some (.inl (bI (E.2.2 k p))), some (.inl (an_rc (cA M205 m).2.1 v258))]) rfl ?_
                    refine fm_drop 14 (ls1 := [some (.inr (kF m)), some (.inr 1), some (.inr 2), some (.inl (nI m)), some (.inl (nI i)), some (.inl (nI ((P.2.2 m i).2.1))), some (.inl (nI ((P.2.2 m i).2.2.1))), some (.inl (nI ((P.2.2 m i).2.2.2.1))), some (.inl (nI k)), some (.inl (nI (P.2.1 k))), some (.inl (bI b)), some (.inl (nI (p + 1))), none, none, none, some (.inl (bI (E.2.2 k p))), some (.inl (an_rc (cA M205 m).2.1 v258))]) rfl ?_
                    refine fm_drop 15 (ls1 := [some (.inr (kF m)), some (.inr 1), some (.inr 2), some (.inl (nI m)), some (.inl (nI i)), some (.inl (nI ((P.2.2 m i).2.1))), some (.inl (nI ((P.2.2 m i).2.2.1))), some (.inl (nI ((P.2.2 m i).2.2.2.1))), some (.inl (nI k)), some (.inl (nI (P.2.1 k))), some (.inl (bI b)), some (.inl (nI (p + 1))), none, none, none, none, some (.inl (an_rc (cA M205 m).2.1 v258))]) rfl ?_
                    refine fm_drop 16 (ls1 := [some (.inr (kF m)), some (.inr 1), some (.inr 2), some (.inl (nI m)), some (.inl (nI i)), some (.inl (nI ((P.2.2 m i).2.1))), some (.inl (nI ((P.2.2 m i).2.2.1))), some (.inl (nI ((P.2.2 m i).2.2.2.1))), some (.inl (nI k)), some (.inl (nI (P.2.1 k))), some (.inl (bI b)), some (.inl (nI (p + 1))), none, none, none, none, none]) rfl ?_
                    exact ih (by omega) _ (cS_ca1 hr1 h228 (by rw [hE.1]; exact hv258) c268 c276)
                  refine fm_iload hX d_F_applyCall_232 rfl rfl ?_
                  refine fm_iconst (v := nI 2) hX d_F_applyCall_234 (by decide) rfl ?_
                  refine fm_n_ne (tgt := 256) (pq := 238) hX d_F_applyCall_235 rfl rfl (by omega) (by omega) (fun h235 => ?_) (fun h235 => ?_)
                  · show fm_G SC Y_F_applyCall X M (fm_vr (fun M' => cS m M M' (an_cn E (P.2.2 m i).2.1 (P.2.2 m i).2.2.1 (P.2.2 m i).2.2.2.1 (P.2.2 m i).2.2.2.2.toNatClampNeg (E.1 (P.2.2 m i).2.2.2.2.toNatClampNeg) (cA M m)))) 256 [some (.inr (kF m)), some (.inr 1), some (.inr 2), some (.inl (nI m)), some (.inl (nI i)), some (.inl (nI ((P.2.2 m i).2.1))), some (.inl (nI ((P.2.2 m i).2.2.1))), some (.inl (nI ((P.2.2 m i).2.2.2.1))), some (.inl (nI k)), some (.inl (nI (P.2.1 k))), some (.inl (bI b)), some (.inl (nI p)), some (.inl (nI (E.2.1 k p))), some (.inl ((cA M1 m).1 ((if p = 0 then (P.2.2 m i).2.2.1 else (P.2.2 m i).2.2.2.1)))), some (.inl (an_rc (cA M1 m).2.1 ((cA M1 m).1 ((if p = 0 then (P.2.2 m i).2.2.1 else (P.2.2 m i).2.2.2.1))))), some (.inl (bI (E.2.2 k p))), none] [.inr (kF m)] M205
                    refine fm_iload hX d_F_applyCall_256 rfl rfl ?_
                    first | exact L258 _ (if_pos h235).symm | exact L258 _ (by rw [an_bo, if_neg h235, c205.1, if_pos (by omega : p = 0)]; rfl)
                  · show fm_G SC Y_F_applyCall X M (fm_vr (fun M' => cS m M M' (an_cn E (P.2.2 m i).2.1 (P.2.2 m i).2.2.1 (P.2.2 m i).2.2.2.1 (P.2.2 m i).2.2.2.2.toNatClampNeg (E.1 (P.2.2 m i).2.2.2.2.toNatClampNeg) (cA M m)))) 238 [some (.inr (kF m)), some (.inr 1), some (.inr 2), some (.inl (nI m)), some (.inl (nI i)), some (.inl (nI ((P.2.2 m i).2.1))), some (.inl (nI ((P.2.2 m i).2.2.1))), some (.inl (nI ((P.2.2 m i).2.2.2.1))), some (.inl (nI k)), some (.inl (nI (P.2.1 k))), some (.inl (bI b)), some (.inl (nI p)), some (.inl (nI (E.2.1 k p))), some (.inl ((cA M1 m).1 ((if p = 0 then (P.2.2 m i).2.2.1 else (P.2.2 m i).2.2.2.1)))), some (.inl (an_rc (cA M1 m).2.1 ((cA M1 m).1 ((if p = 0 then (P.2.2 m i).2.2.1 else (P.2.2 m i).2.2.2.1))))), some (.inl (bI (E.2.2 k p))), none] [.inr (kF m)] M205
                    refine fm_aload_n hX d_F_applyCall_238 rfl rfl rfl ?_
                    refine fm_getr (q := kFm m) hX fF_9 (s_F (by omega)) rfl d_F_applyCall_239 rfl ?_
                    refine fm_iload hX d_F_applyCall_242 rfl rfl ?_
                    refine fm_iald (v := (cA M205 m).1 ((P.2.2 m i).2.2.1)) hX (s_Fm (by omega)) rfl rfl (by omega) (by decide) (cA_m (by omega)).symm d_F_applyCall_244 rfl ?_
                    refine fm_aload_n hX d_F_applyCall_245 rfl rfl rfl ?_
                    refine fm_getr (q := kFm m) hX fF_9 (s_F (by omega)) rfl d_F_applyCall_246 rfl ?_
                    refine fm_iload hX d_F_applyCall_249 rfl rfl ?_
                    refine fm_iald (v := (cA M205 m).1 ((P.2.2 m i).2.2.2.1)) hX (s_Fm (by omega)) rfl rfl (by omega) (by decide) (cA_m (by omega)).symm d_F_applyCall_251 rfl ?_
                    refine fm_ior (v := ((cA M205 m).1 ((P.2.2 m i).2.2.1)) ||| ((cA M205 m).1 ((P.2.2 m i).2.2.2.1))) hX d_F_applyCall_252 rfl rfl ?_
                    refine fm_goto (tgt := 258) hX d_F_applyCall_253 rfl ?_
                    first | exact L258 _ (if_pos h235).symm | exact L258 _ (by rw [an_bo, if_neg h235, c205.1, if_pos (by omega : p = 0)]; rfl)
              · show fm_G SC Y_F_applyCall X M (fm_vr (fun M' => cS m M M' (an_cn E (P.2.2 m i).2.1 (P.2.2 m i).2.2.1 (P.2.2 m i).2.2.2.1 (P.2.2 m i).2.2.2.2.toNatClampNeg (E.1 (P.2.2 m i).2.2.2.2.toNatClampNeg) (cA M m)))) 214 [some (.inr (kF m)), some (.inr 1), some (.inr 2), some (.inl (nI m)), some (.inl (nI i)), some (.inl (nI ((P.2.2 m i).2.1))), some (.inl (nI ((P.2.2 m i).2.2.1))), some (.inl (nI ((P.2.2 m i).2.2.2.1))), some (.inl (nI k)), some (.inl (nI (P.2.1 k))), some (.inl (bI b)), some (.inl (nI p)), some (.inl (nI (E.2.1 k p))), some (.inl ((cA M1 m).1 ((if p = 0 then (P.2.2 m i).2.2.1 else (P.2.2 m i).2.2.2.1)))), some (.inl (an_rc (cA M1 m).2.1 ((cA M1 m).1 ((if p = 0 then (P.2.2 m i).2.2.1 else (P.2.2 m i).2.2.2.1))))), some (.inl (bI (E.2.2 k p))), none] [] M205
                refine fm_aload_n hX d_F_applyCall_214 rfl rfl rfl ?_
                refine fm_ldc (v := an_W) hX d_F_applyCall_215 kF_84 rfl ?_
                refine fm_iload hX d_F_applyCall_217 rfl rfl ?_
                refine fm_callV_r (as := [.inl an_W, .inl ((cA M1 m).1 ((if p = 0 then (P.2.2 m i).2.2.1 else (P.2.2 m i).2.2.2.1)))]) (st := []) (pq := 222) hX (s_F (by omega)) rfl cF_81 rfl im_F_holdInBoth se_F_holdInBoth (k_F_holdInBoth (by omega) M205 an_W ((cA M1 m).1 ((if p = 0 then (P.2.2 m i).2.2.1 else (P.2.2 m i).2.2.2.1)))) rfl rfl (Nat.le_of_ble_eq_true rfl) (Nat.le_of_ble_eq_true rfl) d_F_applyCall_219 rfl (fun M219 c219 => ?_)
                refine fm_goto (tgt := 279) hX d_F_applyCall_222 rfl ?_
                refine fm_iinc (v := nI (p + 1)) (ls1 := [some (.inr (kF m)), some (.inr 1), some (.inr 2), some (.inl (nI m)), some (.inl (nI i)), some (.inl (nI ((P.2.2 m i).2.1))), some (.inl (nI ((P.2.2 m i).2.2.1))), some (.inl (nI ((P.2.2 m i).2.2.2.1))), some (.inl (nI k)), some (.inl (nI (P.2.1 k))), some (.inl (bI b)), some (.inl (nI (p + 1))), some (.inl (nI (E.2.1 k p))), some (.inl ((cA M1 m).1 ((if p = 0 then (P.2.2 m i).2.2.1 else (P.2.2 m i).2.2.2.1)))), some (.inl (an_rc (cA M1 m).2.1 ((cA M1 m).1 ((if p = 0 then (P.2.2 m i).2.2.1 else (P.2.2 m i).2.2.2.1))))), some (.inl (bI (E.2.2 k p))), none]) hX d_F_applyCall_279 rfl (nI_add _ _) (by decide) rfl rfl ?_
                refine fm_goto (tgt := 106) hX d_F_applyCall_282 rfl ?_
                refine fm_drop 12 (ls1 := [some (.inr (kF m)), some (.inr 1), some (.inr 2), some (.inl (nI m)), some (.inl (nI i)), some (.inl (nI ((P.2.2 m i).2.1))), some (.inl (nI ((P.2.2 m i).2.2.1))), some (.inl (nI ((P.2.2 m i).2.2.2.1))), some (.inl (nI k)), some (.inl (nI (P.2.1 k))), some (.inl (bI b)), some (.inl (nI (p + 1))), none, some (.inl ((cA M1 m).1 ((if p = 0 then (P.2.2 m i).2.2.1 else (P.2.2 m i).2.2.2.1)))), some (.inl (an_rc (cA M1 m).2.1 ((cA M1 m).1 ((if p = 0 then (P.2.2 m i).2.2.1 else (P.2.2 m i).2.2.2.1))))), some (.inl (bI (E.2.2 k p))), none]) rfl ?_
                refine fm_drop 13 (ls1 := [some (.inr (kF m)), some (.inr 1), some (.inr 2), some (.inl (nI m)), some (.inl (nI i)), some (.inl (nI ((P.2.2 m i).2.1))), some (.inl (nI ((P.2.2 m i).2.2.1))), some (.inl (nI ((P.2.2 m i).2.2.2.1))), some (.inl (nI k)), some (.inl (nI (P.2.1 k))), some (.inl (bI b)), some (.inl (nI (p + 1))), none, none, some (.inl (an_rc (cA M1 m).2.1 ((cA M1 m).1 ((if p = 0 then (P.2.2 m i).2.2.1 else (P.2.2 m i).2.2.2.1))))), some (.inl (bI (E.2.2 k p))), none]) rfl ?_
                refine fm_drop 14 (ls1 := [some (.inr (kF m)), some (.inr 1), some (.inr 2), some (.inl (nI m)), some (.inl (nI i)), some (.inl (nI ((P.2.2 m i).2.1))), some (.inl (nI ((P.2.2 m i).2.2.1))), some (.inl (nI ((P.2.2 m i).2.2.2.1))), some (.inl (nI k)), some (.inl (nI (P.2.1 k))), some (.inl (bI b)), some (.inl (nI (p + 1))), none, none, none, some (.inl (bI (E.2.2 k p))), none]) rfl ?_
                refine fm_drop 15 (ls1 := [some (.inr (kF m)), some (.inr 1), some (.inr 2), some (.inl (nI m)), some (.inl (nI i)), some (.inl (nI ((P.2.2 m i).2.1))), some (.inl (nI ((P.2.2 m i).2.2.1))), some (.inl (nI ((P.2.2 m i).2.2.2.1))), some (.inl (nI k)), some (.inl (nI (P.2.1 k))), some (.inl (bI b)), some (.inl (nI (p + 1))), none, none, none, none, none]) rfl ?_
                exact ih (by omega) _ (cS_ca2 hc hr1 h211 c219)
            refine fm_iload hX d_F_applyCall_190 rfl rfl ?_
            refine fm_b1_eq (tgt := 203) (pq := 195) hX d_F_applyCall_192 rfl rfl (fun h192 => ?_) (fun h192 => ?_)
            · show fm_G SC Y_F_applyCall X M (fm_vr (fun M' => cS m M M' (an_cn E (P.2.2 m i).2.1 (P.2.2 m i).2.2.1 (P.2.2 m i).2.2.2.1 (P.2.2 m i).2.2.2.2.toNatClampNeg (E.1 (P.2.2 m i).2.2.2.2.toNatClampNeg) (cA M m)))) 203 [some (.inr (kF m)), some (.inr 1), some (.inr 2), some (.inl (nI m)), some (.inl (nI i)), some (.inl (nI ((P.2.2 m i).2.1))), some (.inl (nI ((P.2.2 m i).2.2.1))), some (.inl (nI ((P.2.2 m i).2.2.2.1))), some (.inl (nI k)), some (.inl (nI (P.2.1 k))), some (.inl (bI b)), some (.inl (nI p)), some (.inl (nI (E.2.1 k p))), some (.inl ((cA M1 m).1 ((if p = 0 then (P.2.2 m i).2.2.1 else (P.2.2 m i).2.2.2.1)))), some (.inl (an_rc (cA M1 m).2.1 ((cA M1 m).1 ((if p = 0 then (P.2.2 m i).2.2.1 else (P.2.2 m i).2.2.2.1))))), some (.inl (bI (E.2.2 k p))), none] [.inl (an_rc (cA M1 m).2.1 ((cA M1 m).1 ((if p = 0 then (P.2.2 m i).2.2.1 else (P.2.2 m i).2.2.2.1)))), .inr (kF m)] M1
              refine fm_iload hX d_F_applyCall_203 rfl rfl ?_
              first | exact L205 _ (if_pos h192).symm | exact L205 _ (if_neg (by rw [h192]; decide)).symm
            · show fm_G SC Y_F_applyCall X M (fm_vr (fun M' => cS m M M' (an_cn E (P.2.2 m i).2.1 (P.2.2 m i).2.2.1 (P.2.2 m i).2.2.2.1 (P.2.2 m i).2.2.2.2.toNatClampNeg (E.1 (P.2.2 m i).2.2.2.2.toNatClampNeg) (cA M m)))) 195 [some (.inr (kF m)), some (.inr 1), some (.inr 2), some (.inl (nI m)), some (.inl (nI i)), some (.inl (nI ((P.2.2 m i).2.1))), some (.inl (nI ((P.2.2 m i).2.2.1))), some (.inl (nI ((P.2.2 m i).2.2.2.1))), some (.inl (nI k)), some (.inl (nI (P.2.1 k))), some (.inl (bI b)), some (.inl (nI p)), some (.inl (nI (E.2.1 k p))), some (.inl ((cA M1 m).1 ((if p = 0 then (P.2.2 m i).2.2.1 else (P.2.2 m i).2.2.2.1)))), some (.inl (an_rc (cA M1 m).2.1 ((cA M1 m).1 ((if p = 0 then (P.2.2 m i).2.2.1 else (P.2.2 m i).2.2.2.1))))), some (.inl (bI (E.2.2 k p))), none] [.inl (an_rc (cA M1 m).2.1 ((cA M1 m).1 ((if p = 0 then (P.2.2 m i).2.2.1 else (P.2.2 m i).2.2.2.1)))), .inr (kF m)] M1
              refine fm_iload hX d_F_applyCall_195 rfl rfl ?_
              refine fm_ldc (v := an_W) hX d_F_applyCall_197 kF_84 rfl ?_
              refine fm_ior (v := (an_rc (cA M1 m).2.1 ((cA M1 m).1 ((if p = 0 then (P.2.2 m i).2.2.1 else (P.2.2 m i).2.2.2.1)))) ||| an_W) hX d_F_applyCall_199 rfl rfl ?_
              refine fm_goto (tgt := 205) hX d_F_applyCall_200 rfl ?_
              first | exact L205 _ (if_pos h192).symm | exact L205 _ (if_neg (by rw [h192]; decide)).symm
          refine fm_iload hX d_F_applyCall_161 rfl rfl ?_
          refine fm_iconst (v := nI 2) hX d_F_applyCall_163 (by decide) rfl ?_
          refine fm_n_eq (tgt := 180) (pq := 167) hX d_F_applyCall_164 rfl rfl (by omega) (by omega) (fun h164 => ?_) (fun h164 => ?_)
          · show fm_G SC Y_F_applyCall X M (fm_vr (fun M' => cS m M M' (an_cn E (P.2.2 m i).2.1 (P.2.2 m i).2.2.1 (P.2.2 m i).2.2.2.1 (P.2.2 m i).2.2.2.2.toNatClampNeg (E.1 (P.2.2 m i).2.2.2.2.toNatClampNeg) (cA M m)))) 180 [some (.inr (kF m)), some (.inr 1), some (.inr 2), some (.inl (nI m)), some (.inl (nI i)), some (.inl (nI ((P.2.2 m i).2.1))), some (.inl (nI ((P.2.2 m i).2.2.1))), some (.inl (nI ((P.2.2 m i).2.2.2.1))), some (.inl (nI k)), some (.inl (nI (P.2.1 k))), some (.inl (bI b)), some (.inl (nI p)), some (.inl (nI (E.2.1 k p))), some (.inl ((cA M1 m).1 ((if p = 0 then (P.2.2 m i).2.2.1 else (P.2.2 m i).2.2.2.1)))), some (.inl (an_rc (cA M1 m).2.1 ((cA M1 m).1 ((if p = 0 then (P.2.2 m i).2.2.1 else (P.2.2 m i).2.2.2.1))))), none, none] [] M1
            refine fm_iconst (v := nI 1) hX d_F_applyCall_180 (by decide) rfl ?_
            refine fm_goto (tgt := 185) hX d_F_applyCall_181 rfl ?_
            first | exact L185 _ (by rw [cE_k2 hE1 hk (by omega) h164]; rfl) | exact L185 _ (by rw [h177]; rfl)
          · show fm_G SC Y_F_applyCall X M (fm_vr (fun M' => cS m M M' (an_cn E (P.2.2 m i).2.1 (P.2.2 m i).2.2.1 (P.2.2 m i).2.2.2.1 (P.2.2 m i).2.2.2.2.toNatClampNeg (E.1 (P.2.2 m i).2.2.2.2.toNatClampNeg) (cA M m)))) 167 [some (.inr (kF m)), some (.inr 1), some (.inr 2), some (.inl (nI m)), some (.inl (nI i)), some (.inl (nI ((P.2.2 m i).2.1))), some (.inl (nI ((P.2.2 m i).2.2.1))), some (.inl (nI ((P.2.2 m i).2.2.2.1))), some (.inl (nI k)), some (.inl (nI (P.2.1 k))), some (.inl (bI b)), some (.inl (nI p)), some (.inl (nI (E.2.1 k p))), some (.inl ((cA M1 m).1 ((if p = 0 then (P.2.2 m i).2.2.1 else (P.2.2 m i).2.2.2.1)))), some (.inl (an_rc (cA M1 m).2.1 ((cA M1 m).1 ((if p = 0 then (P.2.2 m i).2.2.1 else (P.2.2 m i).2.2.2.1))))), none, none] [] M1
            refine fm_aload_n hX d_F_applyCall_167 rfl rfl rfl ?_
            refine fm_iload hX d_F_applyCall_168 rfl rfl ?_
            refine fm_aald (q := kF k) hX rfl (by decide) rfl rfl rfl (by omega) (by decide) (r_F (by omega)) d_F_applyCall_170 rfl ?_
            refine fm_getr (q := kFx k) hX fF_23 (s_F (by omega)) rfl d_F_applyCall_171 rfl ?_
            refine fm_iload hX d_F_applyCall_174 rfl rfl ?_
            refine fm_zald (v := bI (E.2.2 k p)) hX (s_Fx (by omega)) rfl rfl (by omega) (by decide) (cE_x hE1 hk (by omega) h164) d_F_applyCall_176 rfl ?_
            refine fm_b1_eq (tgt := 184) (pq := 180) hX d_F_applyCall_177 rfl rfl (fun h177 => ?_) (fun h177 => ?_)
            · show fm_G SC Y_F_applyCall X M (fm_vr (fun M' => cS m M M' (an_cn E (P.2.2 m i).2.1 (P.2.2 m i).2.2.1 (P.2.2 m i).2.2.2.1 (P.2.2 m i).2.2.2.2.toNatClampNeg (E.1 (P.2.2 m i).2.2.2.2.toNatClampNeg) (cA M m)))) 184 [some (.inr (kF m)), some (.inr 1), some (.inr 2), some (.inl (nI m)), some (.inl (nI i)), some (.inl (nI ((P.2.2 m i).2.1))), some (.inl (nI ((P.2.2 m i).2.2.1))), some (.inl (nI ((P.2.2 m i).2.2.2.1))), some (.inl (nI k)), some (.inl (nI (P.2.1 k))), some (.inl (bI b)), some (.inl (nI p)), some (.inl (nI (E.2.1 k p))), some (.inl ((cA M1 m).1 ((if p = 0 then (P.2.2 m i).2.2.1 else (P.2.2 m i).2.2.2.1)))), some (.inl (an_rc (cA M1 m).2.1 ((cA M1 m).1 ((if p = 0 then (P.2.2 m i).2.2.1 else (P.2.2 m i).2.2.2.1))))), none, none] [] M1
              refine fm_iconst (v := nI 0) hX d_F_applyCall_184 (by decide) rfl ?_
              first | exact L185 _ (by rw [cE_k2 hE1 hk (by omega) h164]; rfl) | exact L185 _ (by rw [h177]; rfl)
            · show fm_G SC Y_F_applyCall X M (fm_vr (fun M' => cS m M M' (an_cn E (P.2.2 m i).2.1 (P.2.2 m i).2.2.1 (P.2.2 m i).2.2.2.1 (P.2.2 m i).2.2.2.2.toNatClampNeg (E.1 (P.2.2 m i).2.2.2.2.toNatClampNeg) (cA M m)))) 180 [some (.inr (kF m)), some (.inr 1), some (.inr 2), some (.inl (nI m)), some (.inl (nI i)), some (.inl (nI ((P.2.2 m i).2.1))), some (.inl (nI ((P.2.2 m i).2.2.1))), some (.inl (nI ((P.2.2 m i).2.2.2.1))), some (.inl (nI k)), some (.inl (nI (P.2.1 k))), some (.inl (bI b)), some (.inl (nI p)), some (.inl (nI (E.2.1 k p))), some (.inl ((cA M1 m).1 ((if p = 0 then (P.2.2 m i).2.2.1 else (P.2.2 m i).2.2.2.1)))), some (.inl (an_rc (cA M1 m).2.1 ((cA M1 m).1 ((if p = 0 then (P.2.2 m i).2.2.1 else (P.2.2 m i).2.2.2.1))))), none, none] [] M1
              refine fm_iconst (v := nI 1) hX d_F_applyCall_180 (by decide) rfl ?_
              refine fm_goto (tgt := 185) hX d_F_applyCall_181 rfl ?_
              first | exact L185 _ (by rw [cE_k2 hE1 hk (by omega) h164]; rfl) | exact L185 _ (by rw [h177]; rfl)
        refine fm_z_ne (tgt := 148) (pq := 143) hX d_F_applyCall_140 rfl rfl (by omega) (fun h140 => ?_) (fun h140 => ?_)
        · show fm_G SC Y_F_applyCall X M (fm_vr (fun M' => cS m M M' (an_cn E (P.2.2 m i).2.1 (P.2.2 m i).2.2.1 (P.2.2 m i).2.2.2.1 (P.2.2 m i).2.2.2.2.toNatClampNeg (E.1 (P.2.2 m i).2.2.2.2.toNatClampNeg) (cA M m)))) 148 [some (.inr (kF m)), some (.inr 1), some (.inr 2), some (.inl (nI m)), some (.inl (nI i)), some (.inl (nI ((P.2.2 m i).2.1))), some (.inl (nI ((P.2.2 m i).2.2.1))), some (.inl (nI ((P.2.2 m i).2.2.2.1))), some (.inl (nI k)), some (.inl (nI (P.2.1 k))), some (.inl (bI b)), some (.inl (nI p)), some (.inl (nI (E.2.1 k p))), none, none, none, none] [.inr (kFm m)] M1
          refine fm_iload hX d_F_applyCall_148 rfl rfl ?_
          first | exact L150 _ (by rw [if_pos h140]) | exact L150 _ (by rw [if_neg h140])
        · show fm_G SC Y_F_applyCall X M (fm_vr (fun M' => cS m M M' (an_cn E (P.2.2 m i).2.1 (P.2.2 m i).2.2.1 (P.2.2 m i).2.2.2.1 (P.2.2 m i).2.2.2.2.toNatClampNeg (E.1 (P.2.2 m i).2.2.2.2.toNatClampNeg) (cA M m)))) 143 [some (.inr (kF m)), some (.inr 1), some (.inr 2), some (.inl (nI m)), some (.inl (nI i)), some (.inl (nI ((P.2.2 m i).2.1))), some (.inl (nI ((P.2.2 m i).2.2.1))), some (.inl (nI ((P.2.2 m i).2.2.2.1))), some (.inl (nI k)), some (.inl (nI (P.2.1 k))), some (.inl (bI b)), some (.inl (nI p)), some (.inl (nI (E.2.1 k p))), none, none, none, none] [.inr (kFm m)] M1
          refine fm_iload hX d_F_applyCall_143 rfl rfl ?_
          refine fm_goto (tgt := 150) hX d_F_applyCall_145 rfl ?_
          first | exact L150 _ (by rw [if_pos h140]) | exact L150 _ (by rw [if_neg h140])
      refine fm_iload hX d_F_applyCall_113 rfl rfl ?_
      refine fm_b1_eq (tgt := 122) (pq := 118) hX d_F_applyCall_115 rfl rfl (fun h115 => ?_) (fun h115 => ?_)
      · show fm_G SC Y_F_applyCall X M (fm_vr (fun M' => cS m M M' (an_cn E (P.2.2 m i).2.1 (P.2.2 m i).2.2.1 (P.2.2 m i).2.2.2.1 (P.2.2 m i).2.2.2.2.toNatClampNeg (E.1 (P.2.2 m i).2.2.2.2.toNatClampNeg) (cA M m)))) 122 [some (.inr (kF m)), some (.inr 1), some (.inr 2), some (.inl (nI m)), some (.inl (nI i)), some (.inl (nI ((P.2.2 m i).2.1))), some (.inl (nI ((P.2.2 m i).2.2.1))), some (.inl (nI ((P.2.2 m i).2.2.2.1))), some (.inl (nI k)), some (.inl (nI (P.2.1 k))), some (.inl (bI b)), some (.inl (nI p)), none, none, none, none, none] [] M1
        have hq : ¬ (k ≤ m ∨ P.1 k = 0) := fun z => absurd (hb.mpr z) (by rw [h115]; decide)
        refine fm_aload_n hX d_F_applyCall_122 rfl rfl rfl ?_
        refine fm_iload hX d_F_applyCall_123 rfl rfl ?_
        refine fm_aald (q := kF k) hX rfl (by decide) rfl rfl rfl (by omega) (by decide) (r_F (by omega)) d_F_applyCall_125 rfl ?_
        refine fm_getr (q := kFs k) hX fF_20 (s_F (by omega)) rfl d_F_applyCall_126 rfl ?_
        refine fm_iload hX d_F_applyCall_129 rfl rfl ?_
        refine fm_iald (v := nI (E.2.1 k p)) hX (s_Fs (by omega)) rfl rfl (by omega) (by decide) (cE_s hE1 hk (by omega) hq) d_F_applyCall_131 rfl ?_
        exact L132 _ rfl
      · show fm_G SC Y_F_applyCall X M (fm_vr (fun M' => cS m M M' (an_cn E (P.2.2 m i).2.1 (P.2.2 m i).2.2.1 (P.2.2 m i).2.2.2.1 (P.2.2 m i).2.2.2.2.toNatClampNeg (E.1 (P.2.2 m i).2.2.2.2.toNatClampNeg) (cA M m)))) 118 [some (.inr (kF m)), some (.inr 1), some (.inr 2), some (.inl (nI m)), some (.inl (nI i)), some (.inl (nI ((P.2.2 m i).2.1))), some (.inl (nI ((P.2.2 m i).2.2.1))), some (.inl (nI ((P.2.2 m i).2.2.2.1))), some (.inl (nI k)), some (.inl (nI (P.2.1 k))), some (.inl (bI b)), some (.inl (nI p)), none, none, none, none, none] [] M1
        refine fm_iconst (v := nI 2) hX d_F_applyCall_118 (by decide) rfl ?_
        refine fm_goto (tgt := 132) hX d_F_applyCall_119 rfl ?_
        exact L132 _ (by rw [(hE.2.1 k p (hb.mp h115)).1])
  show fm_G SC Y_F_applyCall X M (fm_vr (fun M' => cS m M M' (an_cn E (P.2.2 m i).2.1 (P.2.2 m i).2.2.1 (P.2.2 m i).2.2.2.1 (P.2.2 m i).2.2.2.2.toNatClampNeg (E.1 (P.2.2 m i).2.2.2.2.toNatClampNeg) (cA M m)))) 0 [some (.inr (kF m)), some (.inr 1), some (.inr 2), some (.inl (nI m)), some (.inl (nI i)), none, none, none, none, none, none, none, none, none, none, none, none] [] M
  refine fm_aload_n hX d_F_applyCall_0 rfl rfl rfl ?_
  refine fm_iload_n hX d_F_applyCall_1 rfl rfl rfl ?_
  refine fm_aald (q := kC m) hX rfl (by decide) rfl rfl rfl (by omega) (by decide) (r_C (by omega)) d_F_applyCall_2 rfl ?_
  refine fm_getr (q := kCa m 1) hX fF_85 (s_C (by omega)) rfl d_F_applyCall_3 rfl ?_
  refine fm_iload hX d_F_applyCall_6 rfl rfl ?_
  refine fm_iald (v := nI ((P.2.2 m i).2.1)) hX (s_Ca1 (by omega)) rfl rfl (by omega) (by decide) ((hP m (by omega)).2.2 i (by omega)).2.1 d_F_applyCall_8 rfl ?_
  refine fm_istore (ls1 := [some (.inr (kF m)), some (.inr 1), some (.inr 2), some (.inl (nI m)), some (.inl (nI i)), some (.inl (nI ((P.2.2 m i).2.1))), none, none, none, none, none, none, none, none, none, none, none]) hX d_F_applyCall_9 (by decide) rfl rfl ?_
  refine fm_aload_n hX d_F_applyCall_11 rfl rfl rfl ?_
  refine fm_iload_n hX d_F_applyCall_12 rfl rfl rfl ?_
  refine fm_aald (q := kC m) hX rfl (by decide) rfl rfl rfl (by omega) (by decide) (r_C (by omega)) d_F_applyCall_13 rfl ?_
  refine fm_getr (q := kCa m 2) hX fF_88 (s_C (by omega)) rfl d_F_applyCall_14 rfl ?_
  refine fm_iload hX d_F_applyCall_17 rfl rfl ?_
  refine fm_iald (v := nI ((P.2.2 m i).2.2.1)) hX (s_Ca2 (by omega)) rfl rfl (by omega) (by decide) ((hP m (by omega)).2.2 i (by omega)).2.2.1 d_F_applyCall_19 rfl ?_
  refine fm_istore (ls1 := [some (.inr (kF m)), some (.inr 1), some (.inr 2), some (.inl (nI m)), some (.inl (nI i)), some (.inl (nI ((P.2.2 m i).2.1))), some (.inl (nI ((P.2.2 m i).2.2.1))), none, none, none, none, none, none, none, none, none, none]) hX d_F_applyCall_20 (by decide) rfl rfl ?_
  refine fm_aload_n hX d_F_applyCall_22 rfl rfl rfl ?_
  refine fm_iload_n hX d_F_applyCall_23 rfl rfl rfl ?_
  refine fm_aald (q := kC m) hX rfl (by decide) rfl rfl rfl (by omega) (by decide) (r_C (by omega)) d_F_applyCall_24 rfl ?_
  refine fm_getr (q := kCa m 3) hX fF_91 (s_C (by omega)) rfl d_F_applyCall_25 rfl ?_
  refine fm_iload hX d_F_applyCall_28 rfl rfl ?_
  refine fm_iald (v := nI ((P.2.2 m i).2.2.2.1)) hX (s_Ca3 (by omega)) rfl rfl (by omega) (by decide) ((hP m (by omega)).2.2 i (by omega)).2.2.2.1 d_F_applyCall_30 rfl ?_
  refine fm_istore (ls1 := [some (.inr (kF m)), some (.inr 1), some (.inr 2), some (.inl (nI m)), some (.inl (nI i)), some (.inl (nI ((P.2.2 m i).2.1))), some (.inl (nI ((P.2.2 m i).2.2.1))), some (.inl (nI ((P.2.2 m i).2.2.2.1))), none, none, none, none, none, none, none, none, none]) hX d_F_applyCall_31 (by decide) rfl rfl ?_
  refine fm_aload_n hX d_F_applyCall_33 rfl rfl rfl ?_
  refine fm_iload_n hX d_F_applyCall_34 rfl rfl rfl ?_
  refine fm_aald (q := kC m) hX rfl (by decide) rfl rfl rfl (by omega) (by decide) (r_C (by omega)) d_F_applyCall_35 rfl ?_
  refine fm_getr (q := kCa m 4) hX fF_102 (s_C (by omega)) rfl d_F_applyCall_36 rfl ?_
  refine fm_iload hX d_F_applyCall_39 rfl rfl ?_
  refine fm_iald (v := nI k) hX (s_Ca4 (by omega)) rfl rfl (by omega) (by decide) (((hP m (by omega)).2.2 i (by omega)).2.2.2.2.trans hn) d_F_applyCall_41 rfl ?_
  refine fm_istore (ls1 := [some (.inr (kF m)), some (.inr 1), some (.inr 2), some (.inl (nI m)), some (.inl (nI i)), some (.inl (nI ((P.2.2 m i).2.1))), some (.inl (nI ((P.2.2 m i).2.2.1))), some (.inl (nI ((P.2.2 m i).2.2.2.1))), some (.inl (nI k)), none, none, none, none, none, none, none, none]) hX d_F_applyCall_42 (by decide) rfl rfl ?_
  refine fm_aload_n hX d_F_applyCall_44 rfl rfl rfl ?_
  refine fm_iload hX d_F_applyCall_45 rfl rfl ?_
  refine fm_aald (q := kC k) hX rfl (by decide) rfl rfl rfl (by omega) (by decide) (r_C (by omega)) d_F_applyCall_47 rfl ?_
  refine fm_geti (v := nI (P.2.1 k)) hX fF_49 (s_C (by omega)) rfl (hP k (by omega)).2.1 d_F_applyCall_48 rfl ?_
  refine fm_istore (ls1 := [some (.inr (kF m)), some (.inr 1), some (.inr 2), some (.inl (nI m)), some (.inl (nI i)), some (.inl (nI ((P.2.2 m i).2.1))), some (.inl (nI ((P.2.2 m i).2.2.1))), some (.inl (nI ((P.2.2 m i).2.2.2.1))), some (.inl (nI k)), some (.inl (nI (P.2.1 k))), none, none, none, none, none, none, none]) hX d_F_applyCall_51 (by decide) rfl rfl ?_
  have L74 : ∀ b : Bool, (b = true ↔ (k ≤ m ∨ P.1 k = 0)) → fm_G SC Y_F_applyCall X M (fm_vr (fun M' => cS m M M' (an_cn E (P.2.2 m i).2.1 (P.2.2 m i).2.2.1 (P.2.2 m i).2.2.2.1 (P.2.2 m i).2.2.2.2.toNatClampNeg (E.1 (P.2.2 m i).2.2.2.2.toNatClampNeg) (cA M m)))) 74 [some (.inr (kF m)), some (.inr 1), some (.inr 2), some (.inl (nI m)), some (.inl (nI i)), some (.inl (nI ((P.2.2 m i).2.1))), some (.inl (nI ((P.2.2 m i).2.2.1))), some (.inl (nI ((P.2.2 m i).2.2.2.1))), some (.inl (nI k)), some (.inl (nI (P.2.1 k))), none, none, none, none, none, none, none] [.inl (bI b)] M := by
    intro b hb
    refine fm_istore (ls1 := [some (.inr (kF m)), some (.inr 1), some (.inr 2), some (.inl (nI m)), some (.inl (nI i)), some (.inl (nI ((P.2.2 m i).2.1))), some (.inl (nI ((P.2.2 m i).2.2.1))), some (.inl (nI ((P.2.2 m i).2.2.2.1))), some (.inl (nI k)), some (.inl (nI (P.2.1 k))), some (.inl (bI b)), none, none, none, none, none, none]) hX d_F_applyCall_74 (by decide) rfl rfl ?_
    refine fm_aload_n hX d_F_applyCall_76 rfl rfl rfl ?_
    refine fm_aload_n hX d_F_applyCall_77 rfl rfl rfl ?_
    refine fm_ldc (v := an_W) hX d_F_applyCall_78 kF_84 rfl ?_
    refine fm_callV_i (as := [.inl an_W]) (st := [.inr (kF m)]) (pq := 83) hX (s_F (by omega)) rfl cF_105 rfl im_F_reached se_F_reached (k_F_reached (by omega) M an_W) rfl rfl (Nat.le_of_ble_eq_true rfl) (Nat.le_of_ble_eq_true rfl) d_F_applyCall_80 rfl ?_
    refine fm_ldc (v := an_W) hX d_F_applyCall_83 kF_84 rfl ?_
    refine fm_callV_r (as := [.inl (an_rc (cA M m).2.1 an_W), .inl an_W]) (st := []) (pq := 88) hX (s_F (by omega)) rfl cF_81 rfl im_F_holdInBoth se_F_holdInBoth (k_F_holdInBoth (by omega) M (an_rc (cA M m).2.1 an_W) an_W) rfl rfl (Nat.le_of_ble_eq_true rfl) (Nat.le_of_ble_eq_true rfl) d_F_applyCall_85 rfl (fun M85 c85 => ?_)
    have hP85 := cS_P hm c85 hP
    refine fm_aload_n hX d_F_applyCall_88 rfl rfl rfl ?_
    refine fm_iload hX d_F_applyCall_89 rfl rfl ?_
    refine fm_aload_n hX d_F_applyCall_91 rfl rfl rfl ?_
    refine fm_getr (q := kFh m) hX fF_17 (s_F (by omega)) rfl d_F_applyCall_92 rfl ?_
    refine fm_iconst (v := nI 0) hX d_F_applyCall_95 (by decide) rfl ?_
    refine fm_aald (q := kFr m 0) hX (s_Fh (by omega)) (by decide) rfl rfl rfl (by omega) (by decide) (r_Fr (by omega)) d_F_applyCall_96 rfl ?_
    refine fm_bipush (v := nI 26) hX d_F_applyCall_97 (by decide) rfl ?_
    refine fm_iald (v := (cA M85 m).2.1 26 0) hX (s_Fr (by omega) (by omega)) rfl rfl (by omega) (by decide) (cA_h (by omega) (by omega)).symm d_F_applyCall_99 rfl ?_
    refine fm_callV_r (as := [.inl (nI ((P.2.2 m i).2.1)), .inl ((cA M85 m).2.1 26 0)]) (st := []) (pq := 103) hX (s_F (by omega)) rfl cF_77 rfl im_F_refer se_F_refer (k_F_refer (by omega) M85 (r := (P.2.2 m i).2.1) (by omega) ((cA M85 m).2.1 26 0)) rfl rfl (Nat.le_of_ble_eq_true rfl) (Nat.le_of_ble_eq_true rfl) d_F_applyCall_100 rfl (fun M100 c100 => ?_)
    have hP100 := cS_P hm c100 hP85
    refine fm_iconst (v := nI 0) hX d_F_applyCall_103 (by decide) rfl ?_
    refine fm_istore (ls1 := [some (.inr (kF m)), some (.inr 1), some (.inr 2), some (.inl (nI m)), some (.inl (nI i)), some (.inl (nI ((P.2.2 m i).2.1))), some (.inl (nI ((P.2.2 m i).2.2.1))), some (.inl (nI ((P.2.2 m i).2.2.2.1))), some (.inl (nI k)), some (.inl (nI (P.2.1 k))), some (.inl (bI b)), some (.inl (nI 0)), none, none, none, none, none]) hX d_F_applyCall_104 (by decide) rfl rfl ?_
    exact L106 b hb 0 (by omega) M100 (cS_eq (cS_tr c85 c100) (by rw [c85.1]; rfl))
  refine fm_iload hX d_F_applyCall_53 rfl rfl ?_
  refine fm_iload_n hX d_F_applyCall_55 rfl rfl rfl ?_
  refine fm_n_le (tgt := 69) (pq := 59) hX d_F_applyCall_56 rfl rfl (by omega) (by omega) (fun h56 => ?_) (fun h56 => ?_)
  · show fm_G SC Y_F_applyCall X M (fm_vr (fun M' => cS m M M' (an_cn E (P.2.2 m i).2.1 (P.2.2 m i).2.2.1 (P.2.2 m i).2.2.2.1 (P.2.2 m i).2.2.2.2.toNatClampNeg (E.1 (P.2.2 m i).2.2.2.2.toNatClampNeg) (cA M m)))) 69 [some (.inr (kF m)), some (.inr 1), some (.inr 2), some (.inl (nI m)), some (.inl (nI i)), some (.inl (nI ((P.2.2 m i).2.1))), some (.inl (nI ((P.2.2 m i).2.2.1))), some (.inl (nI ((P.2.2 m i).2.2.2.1))), some (.inl (nI k)), some (.inl (nI (P.2.1 k))), none, none, none, none, none, none, none] [] M
    refine fm_iconst (v := nI 1) hX d_F_applyCall_69 (by decide) rfl ?_
    refine fm_goto (tgt := 74) hX d_F_applyCall_70 rfl ?_
    first | exact L74 true ⟨fun _ => by omega, fun _ => rfl⟩ | exact L74 false ⟨fun z => absurd z (by decide), fun z => absurd z (by omega)⟩
  · show fm_G SC Y_F_applyCall X M (fm_vr (fun M' => cS m M M' (an_cn E (P.2.2 m i).2.1 (P.2.2 m i).2.2.1 (P.2.2 m i).2.2.2.1 (P.2.2 m i).2.2.2.2.toNatClampNeg (E.1 (P.2.2 m i).2.2.2.2.toNatClampNeg) (cA M m)))) 59 [some (.inr (kF m)), some (.inr 1), some (.inr 2), some (.inl (nI m)), some (.inl (nI i)), some (.inl (nI ((P.2.2 m i).2.1))), some (.inl (nI ((P.2.2 m i).2.2.1))), some (.inl (nI ((P.2.2 m i).2.2.2.1))), some (.inl (nI k)), some (.inl (nI (P.2.1 k))), none, none, none, none, none, none, none] [] M
    refine fm_aload_n hX d_F_applyCall_59 rfl rfl rfl ?_
    refine fm_iload hX d_F_applyCall_60 rfl rfl ?_
    refine fm_aald (q := kC k) hX rfl (by decide) rfl rfl rfl (by omega) (by decide) (r_C (by omega)) d_F_applyCall_62 rfl ?_
    refine fm_geti (v := nI (P.1 k)) hX fF_44 (s_C (by omega)) rfl (hP k (by omega)).1 d_F_applyCall_63 rfl ?_
    refine fm_z_ne (tgt := 73) (pq := 69) hX d_F_applyCall_66 rfl rfl (by omega) (fun h66 => ?_) (fun h66 => ?_)
    · show fm_G SC Y_F_applyCall X M (fm_vr (fun M' => cS m M M' (an_cn E (P.2.2 m i).2.1 (P.2.2 m i).2.2.1 (P.2.2 m i).2.2.2.1 (P.2.2 m i).2.2.2.2.toNatClampNeg (E.1 (P.2.2 m i).2.2.2.2.toNatClampNeg) (cA M m)))) 73 [some (.inr (kF m)), some (.inr 1), some (.inr 2), some (.inl (nI m)), some (.inl (nI i)), some (.inl (nI ((P.2.2 m i).2.1))), some (.inl (nI ((P.2.2 m i).2.2.1))), some (.inl (nI ((P.2.2 m i).2.2.2.1))), some (.inl (nI k)), some (.inl (nI (P.2.1 k))), none, none, none, none, none, none, none] [] M
      refine fm_iconst (v := nI 0) hX d_F_applyCall_73 (by decide) rfl ?_
      first | exact L74 true ⟨fun _ => by omega, fun _ => rfl⟩ | exact L74 false ⟨fun z => absurd z (by decide), fun z => absurd z (by omega)⟩
    · show fm_G SC Y_F_applyCall X M (fm_vr (fun M' => cS m M M' (an_cn E (P.2.2 m i).2.1 (P.2.2 m i).2.2.1 (P.2.2 m i).2.2.2.1 (P.2.2 m i).2.2.2.2.toNatClampNeg (E.1 (P.2.2 m i).2.2.2.2.toNatClampNeg) (cA M m)))) 69 [some (.inr (kF m)), some (.inr 1), some (.inr 2), some (.inl (nI m)), some (.inl (nI i)), some (.inl (nI ((P.2.2 m i).2.1))), some (.inl (nI ((P.2.2 m i).2.2.1))), some (.inl (nI ((P.2.2 m i).2.2.2.1))), some (.inl (nI k)), some (.inl (nI (P.2.1 k))), none, none, none, none, none, none, none] [] M
      refine fm_iconst (v := nI 1) hX d_F_applyCall_69 (by decide) rfl ?_
      refine fm_goto (tgt := 74) hX d_F_applyCall_70 rfl ?_
      first | exact L74 true ⟨fun _ => by omega, fun _ => rfl⟩ | exact L74 false ⟨fun z => absurd z (by decide), fun z => absurd z (by omega)⟩
end
section
/-! the analysis in the class: its sums, its rounds, its end -/
theorem an_and1 {x : Int32} {n : Nat} (hn : n < 32) : (x &&& an_1 n) ≠ 0 ↔ bt x n = true := by
  rw [an_and0]
  constructor
  · rintro ⟨b, h1, h2⟩
    rw [an_1_bt hn, decide_eq_true_eq] at h2
    rw [← h2]; exact h1
  · intro h
    exact ⟨n, h, an_1_self hn⟩
theorem an_sm_le (σ : an_T) (k p : Nat) : an_sm σ k p ≤ 2 := by
  unfold an_sm
  split
  · omega
  · split <;> split <;> omega
theorem an_sm_2 {σ : an_T} {k p : Nat} (hp : p < 2) (h : ¬ (an_rc σ.2.1 an_W &&& an_1 (24 + p)) = 0) : an_sm σ k p = 2 := if_pos ((an_and1 (by omega)).mp h)
theorem an_sm_1 {σ : an_T} {k p : Nat} (hp : p < 2) (h : (an_rc σ.2.1 an_W &&& an_1 (24 + p)) = 0) {ot : Int32} (ho : ot = if k = 2 then an_rc σ.2.1 (an_1 (25 - p)) else 0) (h2 : ¬ (an_rc σ.2.1 (an_1 (24 + p)) &&& (an_rc σ.2.1 σ.2.2 ||| ot)) = 0) : an_sm σ k p = 1 := by
  unfold an_sm
  rw [if_neg (fun q => (an_and1 (by omega)).mpr q h), if_pos (by rw [← ho]; exact h2)]
theorem an_sm_0 {σ : an_T} {k p : Nat} (hp : p < 2) (h : (an_rc σ.2.1 an_W &&& an_1 (24 + p)) = 0) {ot : Int32} (ho : ot = if k = 2 then an_rc σ.2.1 (an_1 (25 - p)) else 0) (h2 : (an_rc σ.2.1 (an_1 (24 + p)) &&& (an_rc σ.2.1 σ.2.2 ||| ot)) = 0) : an_sm σ k p = 0 := by
  unfold an_sm
  rw [if_neg (fun q => (an_and1 (by omega)).mpr q h), if_neg (fun q => q (by rw [← ho]; exact h2))]
/-- what the sums of m have written, r parameters' states, p parameters' reach -/
def cU (m k r p : Nat) (M M1 : fm_M) : Prop :=
  cA M1 m = cA M m ∧ M1 (kF m) 5 = an_rc (cA M m).2.1 an_W ∧
  (∀ b, bt (M1 (kF m) 6) b = true ↔ (an_R (cA M m).2.1 (cA M m).2.2 b ∨ ∃ q, q < p ∧ an_R (cA M m).2.1 (an_1 (24 + q)) b)) ∧
  (∀ q, q < r → M1 (kFs m) q = nI (an_sm (cA M m) k q) ∧ M1 (kFx m) q = bI (an_mx (cA M m) q)) ∧
  (∀ q, r ≤ q → q < 2 → M1 (kFs m) q = 0) ∧
  (∀ a j, ¬ (a = kFs m ∨ a = kFx m ∨ (a = kF m ∧ (j = 5 ∨ j = 6))) → M1 a j = M a j)
section CUU
variable {m k p : Nat} {M M1 : fm_M}
theorem cU_0 (hs : ∀ q, q < 2 → M (kFs m) q = 0) : cU m k 0 0 M (fm_up (fm_up M (kF m) 5 (an_rc (cA M m).2.1 an_W)) (kF m) 6 (an_rc (cA M m).2.1 (cA M m).2.2)) := by
  refine ⟨?_, ?_, fun b => ?_, fun q hq => absurd hq (by omega), fun q _ hq => ?_, fun a j h => ?_⟩
  · rw [cA_up (by show 21 + 15 * m ≠ _; omega) (by show 21 + 15 * m ≠ _; omega) (by show 21 + 15 * m ≠ _; omega) (by omega), cA_up (by show 21 + 15 * m ≠ _; omega) (by show 21 + 15 * m ≠ _; omega) (by show 21 + 15 * m ≠ _; omega) (by omega)]
  · rw [fm_up_b (by omega), fm_up_s]
  · rw [fm_up_s, an_rc_bt]
    constructor
    · exact Or.inl
    · rintro (h | ⟨q, hq, _⟩)
      · exact h
      · omega
  · rw [fm_up_a (by show 26 + 15 * m ≠ 21 + 15 * m; omega), fm_up_a (by show 26 + 15 * m ≠ 21 + 15 * m; omega)]
    exact hs q hq
  · rw [fm_up_n (fun z => h (Or.inr (Or.inr ⟨z.1, Or.inr z.2⟩))), fm_up_n (fun z => h (Or.inr (Or.inr ⟨z.1, Or.inl z.2⟩)))]
theorem cU_w (hu : cU m k p p M M1) : M1 (kF m) 5 = an_rc (cA M m).2.1 an_W := hu.2.1
theorem cU_x (hu : cU m k p p M M1) (hp : p < 2) {s : Nat} (hs : an_sm (cA M m) k p = s) : cU m k (p + 1) p M (fm_up (fm_up M1 (kFx m) p (bI (an_mx (cA M m) p))) (kFs m) p (nI s)) := by
  obtain ⟨h1, h2, h3, h4, h5, h6⟩ := hu
  refine ⟨?_, ?_, fun b => ?_, fun q hq => ?_, fun q h7 hq => ?_, fun a j h => ?_⟩
  · rw [cA_up (by show 26 + 15 * m ≠ _; omega) (by show 26 + 15 * m ≠ _; omega) (by show 26 + 15 * m ≠ _; omega) (by show ¬ (26 + 15 * m = _ ∧ _); omega), cA_up (by show 27 + 15 * m ≠ _; omega) (by show 27 + 15 * m ≠ _; omega) (by show 27 + 15 * m ≠ _; omega) (by show ¬ (27 + 15 * m = _ ∧ _); omega)]
    exact h1
  · rw [fm_up_a (by show 21 + 15 * m ≠ 26 + 15 * m; omega), fm_up_a (by show 21 + 15 * m ≠ 27 + 15 * m; omega)]
    exact h2
  · rw [fm_up_a (by show 21 + 15 * m ≠ 26 + 15 * m; omega), fm_up_a (by show 21 + 15 * m ≠ 27 + 15 * m; omega)]
    exact h3 b
  · by_cases z : q = p
    · subst z
      refine ⟨by rw [fm_up_s, hs], ?_⟩
      rw [fm_up_a (by show 27 + 15 * m ≠ 26 + 15 * m; omega), fm_up_s]
    · rw [fm_up_b z, fm_up_a (by show 26 + 15 * m ≠ 27 + 15 * m; omega), fm_up_a (by show 27 + 15 * m ≠ 26 + 15 * m; omega), fm_up_b z]
      exact h4 q (by omega)
  · rw [fm_up_b (by omega), fm_up_a (by show 26 + 15 * m ≠ 27 + 15 * m; omega)]
    exact h5 q (by omega) hq
  · rw [fm_up_a (fun z => h (Or.inl z)), fm_up_a (fun z => h (Or.inr (Or.inl z)))]
    exact h6 a j h
theorem cU_z (hu : cU m k p p M M1) (hp : p < 2) (hs : an_sm (cA M m) k p = 0) : cU m k (p + 1) p M (fm_up M1 (kFx m) p (bI (an_mx (cA M m) p))) := by
  have h := cU_x hu hp hs
  have e : fm_up (fm_up M1 (kFx m) p (bI (an_mx (cA M m) p))) (kFs m) p (nI 0) = fm_up M1 (kFx m) p (bI (an_mx (cA M m) p)) := by
    funext a j
    by_cases z : a = kFs m ∧ j = p
    · rw [z.1, z.2, fm_up_s, fm_up_a (by show 26 + 15 * m ≠ 27 + 15 * m; omega)]
      exact (hu.2.2.2.2.1 p (Nat.le_refl p) hp).symm
    · rw [fm_up_n z]
  rw [e] at h
  exact h
theorem cU_n (hv : cU m k (p + 1) p M M1) {ow : Int32} (ho : ow = an_rc (cA M m).2.1 (an_1 (24 + p))) : cU m k (p + 1) (p + 1) M (fm_up M1 (kF m) 6 (M1 (kF m) 6 ||| ow)) := by
  obtain ⟨h1, h2, h3, h4, h5, h6⟩ := hv
  refine ⟨?_, ?_, fun b => ?_, fun q hq => ?_, fun q h7 hq => ?_, fun a j h => ?_⟩
  · rw [cA_up (by show 21 + 15 * m ≠ _; omega) (by show 21 + 15 * m ≠ _; omega) (by show 21 + 15 * m ≠ _; omega) (by omega)]
    exact h1
  · rw [fm_up_b (by omega)]
    exact h2
  · rw [fm_up_s, b_or, Bool.or_eq_true, h3, ho, an_rc_bt]
    constructor
    · rintro ((h | ⟨q, hq, h⟩) | h)
      · exact Or.inl h
      · exact Or.inr ⟨q, by omega, h⟩
      · exact Or.inr ⟨p, by omega, h⟩
    · rintro (h | ⟨q, hq, h⟩)
      · exact Or.inl (Or.inl h)
      · by_cases z : q = p
        · subst z; exact Or.inr h
        · exact Or.inl (Or.inr ⟨q, by omega, h⟩)
  · rw [fm_up_a (by show 26 + 15 * m ≠ 21 + 15 * m; omega), fm_up_a (by show 27 + 15 * m ≠ 21 + 15 * m; omega)]
    exact h4 q hq
  · rw [fm_up_a (by show 26 + 15 * m ≠ 21 + 15 * m; omega)]
    exact h5 q h7 hq
  · rw [fm_up_n (fun z => h (Or.inr (Or.inr ⟨z.1, Or.inr z.2⟩)))]
    exact h6 a j h
end CUU
/-- the facts of m are those of the solution -/
def cOK (P : pr_T) (S : Nat → an_T) (m : Nat) (M : fm_M) : Prop :=
  cA M m = S m ∧ (P.1 m = 0 → ∀ q, q < 2 → M (kFs m) q = 0) ∧
  (P.1 m ≠ 0 → M (kF m) 5 = an_rc (S m).2.1 an_W ∧ (∀ b, bt (M (kF m) 6) b = true ↔ (an_R (S m).2.1 (S m).2.2 b ∨ ∃ q, q < P.2.1 m ∧ an_R (S m).2.1 (an_1 (24 + q)) b)) ∧
    ∀ q, q < P.2.1 m → M (kFs m) q = nI (an_sm (S m) (P.2.1 m) q) ∧ M (kFx m) q = bI (an_mx (S m) q))
theorem cA_cg {M M' : fm_M} {m : Nat} (h : ∀ a j, cFa m a → M' a j = M a j) : cA M' m = cA M m := by
  refine Prod.ext (funext fun r => ?_) (Prod.ext (funext fun b => funext fun g => ?_) ?_)
  · show (if r < 4 then M' (kFm m) r else 0) = (if r < 4 then M (kFm m) r else 0)
    rw [h (kFm m) r ⟨by show _ ≤ 22 + 15 * m; omega, by show 22 + 15 * m < _; omega⟩]
  · show (if b < 27 ∧ g < 2 then M' (kFr m g) b else 0) = (if b < 27 ∧ g < 2 then M (kFr m g) b else 0)
    by_cases z : b < 27 ∧ g < 2
    · rw [if_pos z, if_pos z, h (kFr m g) b ⟨by show _ ≤ 24 + 15 * m + g; omega, by show 24 + 15 * m + g < _; omega⟩]
    · rw [if_neg z, if_neg z]
  · exact h (kF m) 4 ⟨by show _ ≤ 21 + 15 * m; omega, by show 21 + 15 * m < _; omega⟩
theorem cOK_cg {P : pr_T} {S : Nat → an_T} {m : Nat} {M M' : fm_M} (k : cOK P S m M) (h : ∀ a j, cFa m a → M' a j = M a j) : cOK P S m M' := by
  obtain ⟨h1, h2, h3⟩ := k
  have e : ∀ j, M' (kFs m) j = M (kFs m) j := fun j => h (kFs m) j ⟨by show _ ≤ 26 + 15 * m; omega, by show 26 + 15 * m < _; omega⟩
  have e2 : ∀ j, M' (kFx m) j = M (kFx m) j := fun j => h (kFx m) j ⟨by show _ ≤ 27 + 15 * m; omega, by show 27 + 15 * m < _; omega⟩
  have e3 : ∀ j, M' (kF m) j = M (kF m) j := fun j => h (kF m) j ⟨by show _ ≤ 21 + 15 * m; omega, by show 21 + 15 * m < _; omega⟩
  refine ⟨(cA_cg h).trans h1, fun z q hq => (e q).trans (h2 z q hq), fun z => ?_⟩
  obtain ⟨a, b, c⟩ := h3 z
  refine ⟨(e3 5).trans a, fun i => by rw [e3 6]; exact b i, fun q hq => ?_⟩
  rw [e q, e2 q]
  exact c q hq
theorem cE_of {P : pr_T} {S : Nat → an_T} {m : Nat} {M : fm_M} (h : ∀ n, m < n → n < 5 → cOK P S n M) : cE P m (an_env P m S) M := by
  refine ⟨rfl, fun n p q => ⟨if_pos (by omega), if_pos (by omega)⟩, fun n h1 h2 h3 p hp => ?_⟩
  have c := ((h n h1 h2).2.2 h3).2.2 p hp
  have e1 : (an_env P m S).2.1 n p = an_sm (S n) (P.2.1 n) p := if_neg (by omega)
  have e2 : (an_env P m S).2.2 n p = (decide (an_sm (S n) (P.2.1 n) p = 2) || an_mx (S n) p) := if_neg (by omega)
  rw [e1, e2]
  exact ⟨c.1, an_sm_le _ _ _, _, c.2, rfl⟩
/-- where the rounds stand -/
def cG (P : pr_T) (m : Nat) (E : an_E) (M0 : fm_M) (t : Nat) (M1 : fm_M) : Prop :=
  (∀ a j, ¬ cFa m a → M1 a j = M0 a j) ∧ (∀ q, q < 2 → M1 (kFs m) q = 0) ∧ an_inv (an_s0 (P.2.1 m)) (P.1 m) (fun i => an_ok E i (P.2.2 m i)) (cA M1 m) ∧
  ∃ g : Bool, M1 (kF m) 7 = bI g ∧ (g = true → t ≤ an_wt (cA M1 m)) ∧ (g = false → ∀ i, i < P.1 m → an_ok E i (P.2.2 m i) (cA M1 m))
/-- the class's step -/
abbrev cF (P : pr_T) (m : Nat) (E : an_E) (i : Nat) : an_T → an_T := an_st (fun x y z n => an_cn E x y z n (E.1 n)) i (P.2.2 m i)
theorem cF_good (P : pr_T) (m : Nat) (E : an_E) {i : Nat} (hi : i < 24) : an_good (an_ok E i (P.2.2 m i)) (cF P m E i) :=
  an_st_good E (fun x y z n => an_cn_good E x y z n (E.1 n)) i (by omega) _
theorem cS_fa {m : Nat} {M M' : fm_M} {σ : an_T} (h : cS m M M' σ) {a j : Nat} (q : ¬ cFa m a) : M' a j = M a j := by
  unfold cFa at q
  exact cS_o h (by omega) (by omega) (by omega) (by omega)
theorem cG_n {P : pr_T} {m : Nat} {E : an_E} {M0 M1 M3 : fm_M} {t : Nat} (hw : pr_wf P) (hm : m < 5) (hG : cG P m E M0 t M1) (hg : M1 (kF m) 7 = bI true) (hc : cS m (fm_up M1 (kF m) 7 (nI 0)) M3 (an_pass (cF P m E) (P.1 m) (cA (fm_up M1 (kF m) 7 (nI 0)) m))) : cG P m E M0 (t + 1) M3 := by
  obtain ⟨h1, h2, h3, g, h4, h5, _⟩ := hG
  obtain ⟨wl, wi, wI⟩ := hw m hm
  have hgt : g = true := by
    rw [hg] at h4
    cases g
    · exact absurd h4 (by decide)
    · rfl
  have eA : cA (fm_up M1 (kF m) 7 (nI 0)) m = cA M1 m := cA_up (by show 21 + 15 * m ≠ _; omega) (by show 21 + 15 * m ≠ _; omega) (by show 21 + 15 * m ≠ _; omega) (by omega)
  have good : ∀ i, i < P.1 m → an_good (an_ok E i (P.2.2 m i)) (cF P m E i) := fun i hi => cF_good P m E (by omega)
  have hinv := an_inv_p good h3
  have htop : an_le (an_pass (cF P m E) (P.1 m) (cA M1 m)) an_top := hinv.2 an_top (an_s0_top wi) (fun i hi => an_top_ok E (by omega) (wI i hi))
  refine ⟨fun a j q => ?_, fun q hq => ?_, ?_, ?_⟩
  · rw [cS_fa hc q, fm_up_a (fun z => q ⟨by rw [z]; show _ ≤ 21 + 15 * m; omega, by rw [z]; show 21 + 15 * m < _; omega⟩)]
    exact h1 a j q
  · rw [cS_o hc (a := kFs m) (by show 26 + 15 * m ≠ _; omega) (by show 26 + 15 * m ≠ _; omega) (by show 26 + 15 * m ≠ _; omega) (by show 26 + 15 * m ≠ _; omega), fm_up_a (by show 26 + 15 * m ≠ 21 + 15 * m; omega)]
    exact h2 q hq
  · rw [hc.1, eA]
    exact hinv
  · have h7 := hc.2.2.2
    rw [eA, fm_up_s] at h7
    rw [hc.1, eA]
    rcases h7 with ⟨s, e⟩ | ⟨s, e⟩
    · refine ⟨false, e, fun z => absurd z (by decide), fun _ => ?_⟩
      exact an_pass_fixC (E := E) wl (fun x y z n => an_cn_good E x y z n (E.1 n)) (fun x y z n σ => an_cn_g E x y z n σ (E.1 n)) s
    · refine ⟨true, e, fun _ => ?_, fun z => absurd z (by decide)⟩
      have := an_wt_lt (an_pass_up (f := cF P m E) (ok := fun i => an_ok E i (P.2.2 m i)) (P.1 m) good (cA M1 m)) htop (fun z => s ⟨congrArg Prod.fst z, congrArg (fun q : an_T => q.2.1) z⟩)
      have := h5 hgt
      omega
/-- the end -/
theorem cG_e {P : pr_T} {m : Nat} {S : Nat → an_T} {M0 M1 M2 : fm_M} {t : Nat} (hn : P.1 m ≠ 0) (hG : cG P m (an_env P m S) M0 t M1) (ht : 2000 ≤ t ∨ M1 (kF m) 7 = bI false) (hu : cU m (P.2.1 m) (P.2.1 m) (P.2.1 m) M1 M2) :
    ∃ σ, an_is1 P (fun n => if n = m then σ else S n) m ∧ cOK P (fun n => if n = m then σ else S n) m M2 ∧ ∀ a j, ¬ cFa m a → M2 a j = M0 a j := by
  obtain ⟨h1, h2, h3, g, h4, h5, h6⟩ := hG
  have hgf : g = false := by
    cases g
    · rfl
    · rcases ht with ht | ht
      · have := h5 rfl
        have := an_wt_bd (cA M1 m)
        omega
      · rw [h4] at ht
        exact absurd ht (by decide)
  refine ⟨cA M1 m, ?_, ?_, fun a j q => ?_⟩
  · have e : an_env P m (fun n => if n = m then cA M1 m else S n) = an_env P m S := an_env_cg (fun n q _ => if_neg (by omega))
    unfold an_is1
    rw [if_neg hn, e]
    simp only [if_pos]
    exact ⟨h3, h6 hgf⟩
  · obtain ⟨u1, u2, u3, u4, _, _⟩ := hu
    unfold cOK
    simp only [if_pos]
    exact ⟨u1, fun z => absurd z hn, fun _ => ⟨u2, u3, u4⟩⟩
  · unfold cFa at q
    rw [hu.2.2.2.2.2 a j (fun w => by
      rcases w with w | w | ⟨w, _⟩
      · have : a = 26 + 15 * m := w
        omega
      · have : a = 27 + 15 * m := w
        omega
      · have : a = 21 + 15 * m := w
        omega)]
    exact h1 a j q
end
section
/-! Facts: sumUp, gather (written by program) -/
theorem cZ_end {P : pr_T} {m : Nat} {S : Nat → an_T} {M : fm_M} (h : P.1 m = 0) : ∃ σ, an_is1 P (fun n => if n = m then σ else S n) m ∧ cOK P (fun n => if n = m then σ else S n) m (cZ M m) ∧ ∀ a j, ¬ cFa m a → cZ M m a j = M a j := by
  refine ⟨an_z, ?_, ?_, fun a j q => cZ_o q⟩
  · unfold an_is1
    rw [if_pos h]
    simp only [if_pos]
  · unfold cOK
    simp only [if_pos]
    exact ⟨cZ_A M m, fun _ q hq => cZ_s hq, fun z => absurd h z⟩
theorem cG_0 {P : pr_T} {m : Nat} {E : an_E} {M M1 : fm_M} (c : cS m (cZ M m) M1 (an_s0 (P.2.1 m))) : cG P m E M 0 (fm_up M1 (kF m) 7 (nI 1)) := by
  have eA : cA (fm_up M1 (kF m) 7 (nI 1)) m = cA M1 m := cA_up (by show 21 + 15 * m ≠ _; omega) (by show 21 + 15 * m ≠ _; omega) (by show 21 + 15 * m ≠ _; omega) (by omega)
  refine ⟨fun a j q => ?_, fun q hq => ?_, ?_, true, fm_up_s, fun _ => Nat.zero_le _, fun z => absurd z (by decide)⟩
  · rw [fm_up_a (fun z => q ⟨by rw [z]; show _ ≤ 21 + 15 * m; omega, by rw [z]; show 21 + 15 * m < _; omega⟩), cS_fa c q, cZ_o q]
  · rw [fm_up_a (by show 26 + 15 * m ≠ 21 + 15 * m; omega), cS_o c (a := kFs m) (by show 26 + 15 * m ≠ _; omega) (by show 26 + 15 * m ≠ _; omega) (by show 26 + 15 * m ≠ _; omega) (by show 26 + 15 * m ≠ _; omega)]
    exact cZ_s hq
  · rw [eA, c.1]
    exact an_inv_0 _ _ _
/-- other cells as they were: what is known of the callees stays -/
theorem cE_cg {P : pr_T} {m : Nat} {E : an_E} {M M' : fm_M} (h : cE P m E M) (k : ∀ a j, ¬ cFa m a → M' a j = M a j) : cE P m E M' := by
  refine ⟨h.1, h.2.1, fun n h1 h2 h3 p h4 => ?_⟩
  rw [k (kFs n) p (by unfold cFa; show ¬ (_ ≤ 26 + 15 * n ∧ 26 + 15 * n < _); omega), k (kFx n) p (by unfold cFa; show ¬ (_ ≤ 27 + 15 * n ∧ 27 + 15 * n < _); omega)]
  exact h.2.2 n h1 h2 h3 p h4
theorem cE_7 {P : pr_T} {m : Nat} {E : an_E} {M M1 : fm_M} {t : Nat} {x : Int32} (h : cE P m E M) (k : cG P m E M t M1) : cE P m E (fm_up M1 (kF m) 7 x) :=
  cE_cg h (fun a j q => by
    rw [fm_up_a (fun z => q ⟨by rw [z]; show _ ≤ 21 + 15 * m; omega, by rw [z]; show 21 + 15 * m < _; omega⟩)]
    exact k.1 a j q)
abbrev Y_F_sumUp : fm_Y := ("EscapeMill$Facts", b_F_sumUp, 6, none, 3)
set_option maxRecDepth 100000 in
set_option maxHeartbeats 4000000 in
theorem k_F_sumUp {m : Nat} (hm : m < 5) (M : fm_M) (hs : ∀ q, q < 2 → M (kFs m) q = 0) {k : Nat} (hk : k ≤ 2) : fm_ct SC y_F_sumUp b_F_sumUp 6 none 3 [.inr (kF m), .inl (nI k)] M (fm_vr (fun M' => cU m k k k M M')) := by
  refine fm_of (ls := [some (.inr (kF m)), some (.inl (nI k)), none, none, none, none]) (by decide) wsA_good (Nat.le_of_ble_eq_true rfl) rfl (fun X hX => ?_)
  have L26 : ∀ p, p ≤ k → ∀ M1, cU m k p p M M1 → fm_G SC Y_F_sumUp X M (fm_vr (fun M' => cU m k k k M M')) 26 [some (.inr (kF m)), some (.inl (nI k)), some (.inl (an_rc (cA M m).2.1 (cA M m).2.2)), some (.inl (nI p)), none, none] [] M1 := by
    refine fm_ind k (fun p hle ih => ?_)
    intro M1 hu
    refine fm_iload_n hX d_F_sumUp_26 rfl rfl rfl ?_
    refine fm_iload_n hX d_F_sumUp_27 rfl rfl rfl ?_
    refine fm_n_ge (tgt := 139) (pq := 31) hX d_F_sumUp_28 rfl rfl (by omega) (by omega) (fun h28 => ?_) (fun h28 => ?_)
    · show fm_G SC Y_F_sumUp X M (fm_vr (fun M' => cU m k k k M M')) 139 [some (.inr (kF m)), some (.inl (nI k)), some (.inl (an_rc (cA M m).2.1 (cA M m).2.2)), some (.inl (nI p)), none, none] [] M1
      refine fm_vret hX rfl d_F_sumUp_139 ?_
      have e : p = k := by omega
      rw [e] at hu
      exact ⟨rfl, hu⟩
    · show fm_G SC Y_F_sumUp X M (fm_vr (fun M' => cU m k k k M M')) 31 [some (.inr (kF m)), some (.inl (nI k)), some (.inl (an_rc (cA M m).2.1 (cA M m).2.2)), some (.inl (nI p)), none, none] [] M1
      refine fm_aload_n hX d_F_sumUp_31 rfl rfl rfl ?_
      refine fm_ldc (v := 16777216) hX d_F_sumUp_32 kF_76 rfl ?_
      refine fm_iload_n hX d_F_sumUp_34 rfl rfl rfl ?_
      refine fm_ishl (v := an_1 (24 + p)) hX d_F_sumUp_35 (fm_arg (by omega)) rfl ?_
      refine fm_callV_i (as := [.inl (an_1 (24 + p))]) (st := []) (pq := 39) hX (s_F (by omega)) rfl cF_105 rfl im_F_reached se_F_reached (k_F_reached (by omega) M1 (an_1 (24 + p))) rfl rfl (Nat.le_of_ble_eq_true rfl) (Nat.le_of_ble_eq_true rfl) d_F_sumUp_36 rfl ?_
      refine fm_istore (ls1 := [some (.inr (kF m)), some (.inl (nI k)), some (.inl (an_rc (cA M m).2.1 (cA M m).2.2)), some (.inl (nI p)), some (.inl (an_rc (cA M1 m).2.1 (an_1 (24 + p)))), none]) hX d_F_sumUp_39 (by decide) rfl rfl ?_
      have L60 : ∀ v : Int32, v = (if k = 2 then an_rc (cA M m).2.1 (an_1 (25 - p)) else 0) → fm_G SC Y_F_sumUp X M (fm_vr (fun M' => cU m k k k M M')) 60 [some (.inr (kF m)), some (.inl (nI k)), some (.inl (an_rc (cA M m).2.1 (cA M m).2.2)), some (.inl (nI p)), some (.inl (an_rc (cA M1 m).2.1 (an_1 (24 + p)))), none] [.inl v] M1 := by
        intro v60 hv60
        refine fm_istore (ls1 := [some (.inr (kF m)), some (.inl (nI k)), some (.inl (an_rc (cA M m).2.1 (cA M m).2.2)), some (.inl (nI p)), some (.inl (an_rc (cA M1 m).2.1 (an_1 (24 + p)))), some (.inl v60)]) hX d_F_sumUp_60 (by decide) rfl rfl ?_
        refine fm_aload_n hX d_F_sumUp_62 rfl rfl rfl ?_
        refine fm_getr (q := kFx m) hX fF_23 (s_F (by omega)) rfl d_F_sumUp_63 rfl ?_
        refine fm_iload_n hX d_F_sumUp_66 rfl rfl rfl ?_
        have L82 : ∀ v : Int32, v = bI (an_mx (cA M m) p) → fm_G SC Y_F_sumUp X M (fm_vr (fun M' => cU m k k k M M')) 82 [some (.inr (kF m)), some (.inl (nI k)), some (.inl (an_rc (cA M m).2.1 (cA M m).2.2)), some (.inl (nI p)), some (.inl (an_rc (cA M1 m).2.1 (an_1 (24 + p)))), some (.inl v60)] [.inl v, .inl (nI p), .inr (kFx m)] M1 := by
          intro v hv
          subst hv
          refine fm_zast hX (s_Fx (by omega)) rfl rfl (by omega) (by decide) (fm_vb (an_mx (cA M m) p)) d_F_sumUp_82 rfl ?_
          have L122 : ∀ M2, cU m k (p + 1) p M M2 → fm_G SC Y_F_sumUp X M (fm_vr (fun M' => cU m k k k M M')) 122 [some (.inr (kF m)), some (.inl (nI k)), some (.inl (an_rc (cA M m).2.1 (cA M m).2.2)), some (.inl (nI p)), some (.inl (an_rc (cA M1 m).2.1 (an_1 (24 + p)))), some (.inl v60)] [] M2 := by
            intro M2 hV
            refine fm_aload_n hX d_F_sumUp_122 rfl rfl rfl ?_
            refine fm_dup hX d_F_sumUp_123 rfl ?_
            refine fm_geti (v := M2 (kF m) 6) hX fF_34 (s_F (by omega)) rfl rfl d_F_sumUp_124 rfl ?_
            refine fm_iload hX d_F_sumUp_127 rfl rfl ?_
            refine fm_ior (v := (M2 (kF m) 6) ||| (an_rc (cA M1 m).2.1 (an_1 (24 + p)))) hX d_F_sumUp_129 rfl rfl ?_
            refine fm_puti hX fF_34 pF_6 (s_F (by omega)) rfl rfl rfl d_F_sumUp_130 rfl ?_
            refine fm_iinc (v := nI (p + 1)) (ls1 := [some (.inr (kF m)), some (.inl (nI k)), some (.inl (an_rc (cA M m).2.1 (cA M m).2.2)), some (.inl (nI (p + 1))), some (.inl (an_rc (cA M1 m).2.1 (an_1 (24 + p)))), some (.inl v60)]) hX d_F_sumUp_133 rfl (nI_add _ _) (by decide) rfl rfl ?_
            refine fm_goto (tgt := 26) hX d_F_sumUp_136 rfl ?_
            refine fm_drop 4 (ls1 := [some (.inr (kF m)), some (.inl (nI k)), some (.inl (an_rc (cA M m).2.1 (cA M m).2.2)), some (.inl (nI (p + 1))), none, some (.inl v60)]) rfl ?_
            refine fm_drop 5 (ls1 := [some (.inr (kF m)), some (.inl (nI k)), some (.inl (an_rc (cA M m).2.1 (cA M m).2.2)), some (.inl (nI (p + 1))), none, none]) rfl ?_
            exact ih (by omega) _ (cU_n hV (by rw [hu.1]))
          refine fm_aload_n hX d_F_sumUp_83 rfl rfl rfl ?_
          refine fm_geti (v := an_rc (cA M m).2.1 an_W) hX fF_31 (s_F (by omega)) rfl (by first | exact hu.2.1 | exact (fm_up_a (by show 21 + 15 * m ≠ 27 + 15 * m; omega)).trans hu.2.1) d_F_sumUp_84 rfl ?_
          refine fm_ldc (v := 16777216) hX d_F_sumUp_87 kF_76 rfl ?_
          refine fm_iload_n hX d_F_sumUp_89 rfl rfl rfl ?_
          refine fm_ishl (v := an_1 (24 + p)) hX d_F_sumUp_90 (fm_arg (by omega)) rfl ?_
          refine fm_iand (v := (an_rc (cA M m).2.1 an_W) &&& (an_1 (24 + p))) hX d_F_sumUp_91 rfl rfl ?_
          refine fm_if_eq (tgt := 105) (pq := 95) hX d_F_sumUp_92 rfl rfl (fun h92 => ?_) (fun h92 => ?_)
          · show fm_G SC Y_F_sumUp X M (fm_vr (fun M' => cU m k k k M M')) 105 [some (.inr (kF m)), some (.inl (nI k)), some (.inl (an_rc (cA M m).2.1 (cA M m).2.2)), some (.inl (nI p)), some (.inl (an_rc (cA M1 m).2.1 (an_1 (24 + p)))), some (.inl v60)] [] (fm_up M1 (kFx m) p (bI (an_mx (cA M m) p)))
            refine fm_iload hX d_F_sumUp_105 rfl rfl ?_
            refine fm_iload_n hX d_F_sumUp_107 rfl rfl rfl ?_
            refine fm_iload hX d_F_sumUp_108 rfl rfl ?_
            refine fm_ior (v := (an_rc (cA M m).2.1 (cA M m).2.2) ||| v60) hX d_F_sumUp_110 rfl rfl ?_
            refine fm_iand (v := (an_rc (cA M1 m).2.1 (an_1 (24 + p))) &&& ((an_rc (cA M m).2.1 (cA M m).2.2) ||| v60)) hX d_F_sumUp_111 rfl rfl ?_
            refine fm_if_eq (tgt := 122) (pq := 115) hX d_F_sumUp_112 rfl rfl (fun h112 => ?_) (fun h112 => ?_)
            · show fm_G SC Y_F_sumUp X M (fm_vr (fun M' => cU m k k k M M')) 122 [some (.inr (kF m)), some (.inl (nI k)), some (.inl (an_rc (cA M m).2.1 (cA M m).2.2)), some (.inl (nI p)), some (.inl (an_rc (cA M1 m).2.1 (an_1 (24 + p)))), some (.inl v60)] [] (fm_up M1 (kFx m) p (bI (an_mx (cA M m) p)))
              exact L122 _ (cU_z hu (by omega) (an_sm_0 (by omega) h92 hv60 (by rw [hu.1] at h112; exact h112)))
            · show fm_G SC Y_F_sumUp X M (fm_vr (fun M' => cU m k k k M M')) 115 [some (.inr (kF m)), some (.inl (nI k)), some (.inl (an_rc (cA M m).2.1 (cA M m).2.2)), some (.inl (nI p)), some (.inl (an_rc (cA M1 m).2.1 (an_1 (24 + p)))), some (.inl v60)] [] (fm_up M1 (kFx m) p (bI (an_mx (cA M m) p)))
              refine fm_aload_n hX d_F_sumUp_115 rfl rfl rfl ?_
              refine fm_getr (q := kFs m) hX fF_20 (s_F (by omega)) rfl d_F_sumUp_116 rfl ?_
              refine fm_iload_n hX d_F_sumUp_119 rfl rfl rfl ?_
              refine fm_iconst (v := nI 1) hX d_F_sumUp_120 (by decide) rfl ?_
              refine fm_iast hX (s_Fs (by omega)) rfl rfl (by omega) (by decide) d_F_sumUp_121 rfl ?_
              exact L122 _ (cU_x hu (by omega) (an_sm_1 (by omega) h92 hv60 (by rw [hu.1] at h112; exact h112)))
          · show fm_G SC Y_F_sumUp X M (fm_vr (fun M' => cU m k k k M M')) 95 [some (.inr (kF m)), some (.inl (nI k)), some (.inl (an_rc (cA M m).2.1 (cA M m).2.2)), some (.inl (nI p)), some (.inl (an_rc (cA M1 m).2.1 (an_1 (24 + p)))), some (.inl v60)] [] (fm_up M1 (kFx m) p (bI (an_mx (cA M m) p)))
            refine fm_aload_n hX d_F_sumUp_95 rfl rfl rfl ?_
            refine fm_getr (q := kFs m) hX fF_20 (s_F (by omega)) rfl d_F_sumUp_96 rfl ?_
            refine fm_iload_n hX d_F_sumUp_99 rfl rfl rfl ?_
            refine fm_iconst (v := nI 2) hX d_F_sumUp_100 (by decide) rfl ?_
            refine fm_iast hX (s_Fs (by omega)) rfl rfl (by omega) (by decide) d_F_sumUp_101 rfl ?_
            refine fm_goto (tgt := 122) hX d_F_sumUp_102 rfl ?_
            exact L122 _ (cU_x hu (by omega) (an_sm_2 (by omega) h92))
        refine fm_iload hX d_F_sumUp_67 rfl rfl ?_
        refine fm_aload_n hX d_F_sumUp_69 rfl rfl rfl ?_
        refine fm_geti (v := an_rc (cA M m).2.1 an_W) hX fF_31 (s_F (by omega)) rfl (by first | exact hu.2.1 | exact (fm_up_a (by show 21 + 15 * m ≠ 27 + 15 * m; omega)).trans hu.2.1) d_F_sumUp_70 rfl ?_
        refine fm_iand (v := (an_rc (cA M1 m).2.1 (an_1 (24 + p))) &&& (an_rc (cA M m).2.1 an_W)) hX d_F_sumUp_73 rfl rfl ?_
        refine fm_if_eq (tgt := 81) (pq := 77) hX d_F_sumUp_74 rfl rfl (fun h74 => ?_) (fun h74 => ?_)
        · show fm_G SC Y_F_sumUp X M (fm_vr (fun M' => cU m k k k M M')) 81 [some (.inr (kF m)), some (.inl (nI k)), some (.inl (an_rc (cA M m).2.1 (cA M m).2.2)), some (.inl (nI p)), some (.inl (an_rc (cA M1 m).2.1 (an_1 (24 + p)))), some (.inl v60)] [.inl (nI p), .inr (kFx m)] M1
          refine fm_iconst (v := nI 0) hX d_F_sumUp_81 (by decide) rfl ?_
          first | exact L82 _ (fm_b1 (by rw [hu.1] at h74; exact h74)) | exact L82 _ (fm_b0 (fun z => z (by rw [hu.1] at h74; exact h74)))
        · show fm_G SC Y_F_sumUp X M (fm_vr (fun M' => cU m k k k M M')) 77 [some (.inr (kF m)), some (.inl (nI k)), some (.inl (an_rc (cA M m).2.1 (cA M m).2.2)), some (.inl (nI p)), some (.inl (an_rc (cA M1 m).2.1 (an_1 (24 + p)))), some (.inl v60)] [.inl (nI p), .inr (kFx m)] M1
          refine fm_iconst (v := nI 1) hX d_F_sumUp_77 (by decide) rfl ?_
          refine fm_goto (tgt := 82) hX d_F_sumUp_78 rfl ?_
          first | exact L82 _ (fm_b1 (by rw [hu.1] at h74; exact h74)) | exact L82 _ (fm_b0 (fun z => z (by rw [hu.1] at h74; exact h74)))
      refine fm_iload_n hX d_F_sumUp_41 rfl rfl rfl ?_
      refine fm_iconst (v := nI 2) hX d_F_sumUp_42 (by decide) rfl ?_
      refine fm_n_ne (tgt := 59) (pq := 46) hX d_F_sumUp_43 rfl rfl (by omega) (by omega) (fun h43 => ?_) (fun h43 => ?_)
      · show fm_G SC Y_F_sumUp X M (fm_vr (fun M' => cU m k k k M M')) 59 [some (.inr (kF m)), some (.inl (nI k)), some (.inl (an_rc (cA M m).2.1 (cA M m).2.2)), some (.inl (nI p)), some (.inl (an_rc (cA M1 m).2.1 (an_1 (24 + p)))), none] [] M1
        refine fm_iconst (v := nI 0) hX d_F_sumUp_59 (by decide) rfl ?_
        first | exact L60 _ (by rw [if_pos h43, hu.1, show 24 + (1 - p) = 25 - p by omega]) | exact L60 _ (if_neg h43).symm
      · show fm_G SC Y_F_sumUp X M (fm_vr (fun M' => cU m k k k M M')) 46 [some (.inr (kF m)), some (.inl (nI k)), some (.inl (an_rc (cA M m).2.1 (cA M m).2.2)), some (.inl (nI p)), some (.inl (an_rc (cA M1 m).2.1 (an_1 (24 + p)))), none] [] M1
        refine fm_aload_n hX d_F_sumUp_46 rfl rfl rfl ?_
        refine fm_ldc (v := 16777216) hX d_F_sumUp_47 kF_76 rfl ?_
        refine fm_iconst (v := nI 1) hX d_F_sumUp_49 (by decide) rfl ?_
        refine fm_iload_n hX d_F_sumUp_50 rfl rfl rfl ?_
        refine fm_isub (v := nI (1 - p)) hX d_F_sumUp_51 (pk_sub (by omega)) rfl ?_
        refine fm_ishl (v := an_1 (24 + (1 - p))) hX d_F_sumUp_52 (fm_arg (by omega)) rfl ?_
        refine fm_callV_i (as := [.inl (an_1 (24 + (1 - p)))]) (st := []) (pq := 56) hX (s_F (by omega)) rfl cF_105 rfl im_F_reached se_F_reached (k_F_reached (by omega) M1 (an_1 (24 + (1 - p)))) rfl rfl (Nat.le_of_ble_eq_true rfl) (Nat.le_of_ble_eq_true rfl) d_F_sumUp_53 rfl ?_
        refine fm_goto (tgt := 60) hX d_F_sumUp_56 rfl ?_
        first | exact L60 _ (by rw [if_pos h43, hu.1, show 24 + (1 - p) = 25 - p by omega]) | exact L60 _ (if_neg h43).symm
  show fm_G SC Y_F_sumUp X M (fm_vr (fun M' => cU m k k k M M')) 0 [some (.inr (kF m)), some (.inl (nI k)), none, none, none, none] [] M
  refine fm_aload_n hX d_F_sumUp_0 rfl rfl rfl ?_
  refine fm_aload_n hX d_F_sumUp_1 rfl rfl rfl ?_
  refine fm_geti (v := (cA M m).2.2) hX fF_27 (s_F (by omega)) rfl rfl d_F_sumUp_2 rfl ?_
  refine fm_callV_i (as := [.inl ((cA M m).2.2)]) (st := []) (pq := 8) hX (s_F (by omega)) rfl cF_105 rfl im_F_reached se_F_reached (k_F_reached (by omega) M ((cA M m).2.2)) rfl rfl (Nat.le_of_ble_eq_true rfl) (Nat.le_of_ble_eq_true rfl) d_F_sumUp_5 rfl ?_
  refine fm_istore_n (ls1 := [some (.inr (kF m)), some (.inl (nI k)), some (.inl (an_rc (cA M m).2.1 ((cA M m).2.2))), none, none, none]) hX d_F_sumUp_8 rfl (by decide) rfl rfl ?_
  refine fm_aload_n hX d_F_sumUp_9 rfl rfl rfl ?_
  refine fm_aload_n hX d_F_sumUp_10 rfl rfl rfl ?_
  refine fm_ldc (v := an_W) hX d_F_sumUp_11 kF_84 rfl ?_
  refine fm_callV_i (as := [.inl an_W]) (st := [.inr (kF m)]) (pq := 16) hX (s_F (by omega)) rfl cF_105 rfl im_F_reached se_F_reached (k_F_reached (by omega) M an_W) rfl rfl (Nat.le_of_ble_eq_true rfl) (Nat.le_of_ble_eq_true rfl) d_F_sumUp_13 rfl ?_
  refine fm_puti hX fF_31 pF_5 (s_F (by omega)) rfl rfl rfl d_F_sumUp_16 rfl ?_
  refine fm_aload_n hX d_F_sumUp_19 rfl rfl rfl ?_
  refine fm_iload_n hX d_F_sumUp_20 rfl rfl rfl ?_
  refine fm_puti hX fF_34 pF_6 (s_F (by omega)) rfl rfl rfl d_F_sumUp_21 rfl ?_
  refine fm_iconst (v := nI 0) hX d_F_sumUp_24 (by decide) rfl ?_
  refine fm_istore_n (ls1 := [some (.inr (kF m)), some (.inl (nI k)), some (.inl (an_rc (cA M m).2.1 ((cA M m).2.2))), some (.inl (nI 0)), none, none]) hX d_F_sumUp_25 rfl (by decide) rfl rfl ?_
  exact L26 0 (by omega) _ (cU_0 hs)
abbrev Y_F_gather : fm_Y := ("EscapeMill$Facts", b_F_gather, 7, none, 5)
set_option maxRecDepth 100000 in
set_option maxHeartbeats 4000000 in
theorem k_F_gather {P : pr_T} {m : Nat} (hm : m < 5) (M : fm_M) (hP : cP M P) (hw : pr_wf P) (S : Nat → an_T) (hS : ∀ n, m < n → n < 5 → cOK P S n M) : fm_ct SC y_F_gather b_F_gather 7 none 5 [.inr (kF m), .inr 1, .inr 2, .inl (nI m)] M (fm_vr (fun M' => ∃ σ, an_is1 P (fun n => if n = m then σ else S n) m ∧ cOK P (fun n => if n = m then σ else S n) m M' ∧ ∀ a j, ¬ cFa m a → M' a j = M a j)) := by
  refine fm_of (ls := [some (.inr (kF m)), some (.inr 1), some (.inr 2), some (.inl (nI m)), none, none, none]) (by decide) wsA_good (Nat.le_of_ble_eq_true rfl) rfl (fun X hX => ?_)
  obtain ⟨wl, wi, wI⟩ := hw m hm
  have hE : cE P m (an_env P m S) M := cE_of hS
  have L58 : ∀ (t : Nat) (M2 : fm_M), cP M2 P → cE P m (an_env P m S) M2 → (∀ M3, cS m M2 M3 (an_pass (cF P m (an_env P m S)) (P.1 m) (cA M2 m)) → fm_G SC Y_F_gather X M (fm_vr (fun M' => ∃ σ, an_is1 P (fun n => if n = m then σ else S n) m ∧ cOK P (fun n => if n = m then σ else S n) m M' ∧ ∀ a j, ¬ cFa m a → M' a j = M a j)) 107 [some (.inr (kF m)), some (.inr 1), some (.inr 2), some (.inl (nI m)), some (.inr (kC m)), some (.inl (nI t)), none] [] M3) → ∀ i, i ≤ P.1 m → ∀ M3, cS m M2 M3 (an_pass (cF P m (an_env P m S)) i (cA M2 m)) → fm_G SC Y_F_gather X M (fm_vr (fun M' => ∃ σ, an_is1 P (fun n => if n = m then σ else S n) m ∧ cOK P (fun n => if n = m then σ else S n) m M' ∧ ∀ a j, ¬ cFa m a → M' a j = M a j)) 58 [some (.inr (kF m)), some (.inr 1), some (.inr 2), some (.inl (nI m)), some (.inr (kC m)), some (.inl (nI t)), some (.inl (nI i))] [] M3 := by
    intro t M2 hP2 hE2 K
    refine fm_ind (P.1 m) (fun i hle ih => ?_)
    intro M3 hc
    have hP3 := cS_P hm hc hP2
    have hE3 := cE_S hE2 hc
    refine fm_iload hX d_F_gather_58 rfl rfl ?_
    refine fm_aload hX d_F_gather_60 rfl rfl ?_
    refine fm_geti (v := nI (P.1 m)) hX fF_44 (s_C (by omega)) rfl (hP3 m (by omega)).1 d_F_gather_62 rfl ?_
    refine fm_n_ge (tgt := 107) (pq := 68) hX d_F_gather_65 rfl rfl (by omega) (by omega) (fun h65 => ?_) (fun h65 => ?_)
    · show fm_G SC Y_F_gather X M (fm_vr (fun M' => ∃ σ, an_is1 P (fun n => if n = m then σ else S n) m ∧ cOK P (fun n => if n = m then σ else S n) m M' ∧ ∀ a j, ¬ cFa m a → M' a j = M a j)) 107 [some (.inr (kF m)), some (.inr 1), some (.inr 2), some (.inl (nI m)), some (.inr (kC m)), some (.inl (nI t)), some (.inl (nI i))] [] M3
      refine fm_drop 6 rfl ?_
      have e : i = P.1 m := by omega
      rw [e] at hc
      exact K M3 hc
    · show fm_G SC Y_F_gather X M (fm_vr (fun M' => ∃ σ, an_is1 P (fun n => if n = m then σ else S n) m ∧ cOK P (fun n => if n = m then σ else S n) m M' ∧ ∀ a j, ¬ cFa m a → M' a j = M a j)) 68 [some (.inr (kF m)), some (.inr 1), some (.inr 2), some (.inl (nI m)), some (.inr (kC m)), some (.inl (nI t)), some (.inl (nI i))] [] M3
      have w1 := (wI i (by omega)).1
      refine fm_aload hX d_F_gather_68 rfl rfl ?_
      refine fm_getr (q := kCa m 0) hX fF_56 (s_C (by omega)) rfl d_F_gather_70 rfl ?_
      refine fm_iload hX d_F_gather_73 rfl rfl ?_
      refine fm_iald (v := nI ((P.2.2 m i).1)) hX (s_Ca0 (by omega)) rfl rfl (by omega) (by decide) ((hP3 m (by omega)).2.2 i (by omega)).1 d_F_gather_75 rfl ?_
      refine fm_bipush (v := nI 16) hX d_F_gather_76 (by decide) rfl ?_
      refine fm_n_ne (tgt := 93) (pq := 81) hX d_F_gather_78 rfl rfl (by omega) (by omega) (fun h78 => ?_) (fun h78 => ?_)
      · show fm_G SC Y_F_gather X M (fm_vr (fun M' => ∃ σ, an_is1 P (fun n => if n = m then σ else S n) m ∧ cOK P (fun n => if n = m then σ else S n) m M' ∧ ∀ a j, ¬ cFa m a → M' a j = M a j)) 93 [some (.inr (kF m)), some (.inr 1), some (.inr 2), some (.inl (nI m)), some (.inr (kC m)), some (.inl (nI t)), some (.inl (nI i))] [] M3
        have hcl := k_F_apply hm M3 hP3 hw (i := i) (by omega) h78 (fun x y z n => an_cn (an_env P m S) x y z n ((an_env P m S).1 n))
        refine fm_aload_n hX d_F_gather_93 rfl rfl rfl ?_
        refine fm_aload hX d_F_gather_94 rfl rfl ?_
        refine fm_iload hX d_F_gather_96 rfl rfl ?_
        refine fm_callV_r (as := [.inr (kC m), .inl (nI i)]) (st := []) (pq := 101) hX (s_F (by omega)) rfl cF_63 rfl im_F_apply se_F_apply hcl rfl rfl (Nat.le_of_ble_eq_true rfl) (Nat.le_of_ble_eq_true rfl) d_F_gather_98 rfl (fun M98 c98 => ?_)
        have hP98 := cS_P hm c98 hP3
        refine fm_iinc (v := nI (i + 1)) (ls1 := [some (.inr (kF m)), some (.inr 1), some (.inr 2), some (.inl (nI m)), some (.inr (kC m)), some (.inl (nI t)), some (.inl (nI (i + 1)))]) hX d_F_gather_101 rfl (nI_add _ _) (by decide) rfl rfl ?_
        refine fm_goto (tgt := 58) hX d_F_gather_104 rfl ?_
        exact ih (by omega) _ (cS_tr hc (cS_eq c98 (by rw [hc.1]; rfl)))
      · show fm_G SC Y_F_gather X M (fm_vr (fun M' => ∃ σ, an_is1 P (fun n => if n = m then σ else S n) m ∧ cOK P (fun n => if n = m then σ else S n) m M' ∧ ∀ a j, ¬ cFa m a → M' a j = M a j)) 81 [some (.inr (kF m)), some (.inr 1), some (.inr 2), some (.inl (nI m)), some (.inr (kC m)), some (.inl (nI t)), some (.inl (nI i))] [] M3
        refine fm_aload_n hX d_F_gather_81 rfl rfl rfl ?_
        refine fm_aload_n hX d_F_gather_82 rfl rfl rfl ?_
        refine fm_aload_n hX d_F_gather_83 rfl rfl rfl ?_
        refine fm_iload_n hX d_F_gather_84 rfl rfl rfl ?_
        refine fm_iload hX d_F_gather_85 rfl rfl ?_
        refine fm_callV_r (as := [.inr 1, .inr 2, .inl (nI m), .inl (nI i)]) (st := []) (pq := 90) hX (s_F (by omega)) rfl cF_59 rfl im_F_applyCall se_F_applyCall (k_F_applyCall (by omega) M3 hP3 hw (i := i) (by omega) h78 hE3) rfl rfl (Nat.le_of_ble_eq_true rfl) (Nat.le_of_ble_eq_true rfl) d_F_gather_87 rfl (fun M87 c87 => ?_)
        have hP87 := cS_P hm c87 hP3
        refine fm_goto (tgt := 101) hX d_F_gather_90 rfl ?_
        refine fm_iinc (v := nI (i + 1)) (ls1 := [some (.inr (kF m)), some (.inr 1), some (.inr 2), some (.inl (nI m)), some (.inr (kC m)), some (.inl (nI t)), some (.inl (nI (i + 1)))]) hX d_F_gather_101 rfl (nI_add _ _) (by decide) rfl rfl ?_
        refine fm_goto (tgt := 58) hX d_F_gather_104 rfl ?_
        exact ih (by omega) _ (cS_tr hc (cS_eq c87 (by rw [hc.1]; show _ = cF P m _ i _; simp [cF, an_st, h78])))
  have L35 : P.1 m ≠ 0 → ∀ t, t ≤ 2000 → ∀ M1, cG P m (an_env P m S) M t M1 → fm_G SC Y_F_gather X M (fm_vr (fun M' => ∃ σ, an_is1 P (fun n => if n = m then σ else S n) m ∧ cOK P (fun n => if n = m then σ else S n) m M' ∧ ∀ a j, ¬ cFa m a → M' a j = M a j)) 35 [some (.inr (kF m)), some (.inr 1), some (.inr 2), some (.inl (nI m)), some (.inr (kC m)), some (.inl (nI t)), none] [] M1 := by
    intro hn
    refine fm_ind 2000 (fun t hle ih => ?_)
    intro M1 hG
    have hP1 : cP M1 P := cP_cg hP (fun a j q => hG.1 a j (by obtain ⟨n, t, h1, h2, e⟩ := q; unfold cFa; omega))
    obtain ⟨g, hg, -, -⟩ := hG.2.2.2
    refine fm_iload hX d_F_gather_35 rfl rfl ?_
    refine fm_sipush (v := nI 2000) hX d_F_gather_37 (by decide) rfl ?_
    refine fm_n_ge (tgt := 113) (pq := 43) hX d_F_gather_40 rfl rfl (by omega) (by omega) (fun h40 => ?_) (fun h40 => ?_)
    · show fm_G SC Y_F_gather X M (fm_vr (fun M' => ∃ σ, an_is1 P (fun n => if n = m then σ else S n) m ∧ cOK P (fun n => if n = m then σ else S n) m M' ∧ ∀ a j, ¬ cFa m a → M' a j = M a j)) 113 [some (.inr (kF m)), some (.inr 1), some (.inr 2), some (.inl (nI m)), some (.inr (kC m)), some (.inl (nI t)), none] [] M1
      refine fm_aload_n hX d_F_gather_113 rfl rfl rfl ?_
      refine fm_aload hX d_F_gather_114 rfl rfl ?_
      refine fm_geti (v := nI (P.2.1 m)) hX fF_49 (s_C (by omega)) rfl (hP1 m (by omega)).2.1 d_F_gather_116 rfl ?_
      refine fm_callV_r (as := [.inl (nI (P.2.1 m))]) (st := []) (pq := 122) hX (s_F (by omega)) rfl cF_67 rfl im_F_sumUp se_F_sumUp (k_F_sumUp (by omega) M1 hG.2.1 (k := P.2.1 m) (by omega)) rfl rfl (Nat.le_of_ble_eq_true rfl) (Nat.le_of_ble_eq_true rfl) d_F_gather_119 rfl (fun M119 c119 => ?_)
      refine fm_vret hX rfl d_F_gather_122 ?_
      exact ⟨rfl, cG_e hn hG (by first | exact Or.inl h40 | exact Or.inr (by rw [hg, h47])) c119⟩
    · show fm_G SC Y_F_gather X M (fm_vr (fun M' => ∃ σ, an_is1 P (fun n => if n = m then σ else S n) m ∧ cOK P (fun n => if n = m then σ else S n) m M' ∧ ∀ a j, ¬ cFa m a → M' a j = M a j)) 43 [some (.inr (kF m)), some (.inr 1), some (.inr 2), some (.inl (nI m)), some (.inr (kC m)), some (.inl (nI t)), none] [] M1
      refine fm_aload_n hX d_F_gather_43 rfl rfl rfl ?_
      refine fm_geti (v := bI g) hX fF_37 (s_F (by omega)) rfl hg d_F_gather_44 rfl ?_
      refine fm_b1_eq (tgt := 113) (pq := 50) hX d_F_gather_47 rfl rfl (fun h47 => ?_) (fun h47 => ?_)
      · show fm_G SC Y_F_gather X M (fm_vr (fun M' => ∃ σ, an_is1 P (fun n => if n = m then σ else S n) m ∧ cOK P (fun n => if n = m then σ else S n) m M' ∧ ∀ a j, ¬ cFa m a → M' a j = M a j)) 113 [some (.inr (kF m)), some (.inr 1), some (.inr 2), some (.inl (nI m)), some (.inr (kC m)), some (.inl (nI t)), none] [] M1
        refine fm_aload_n hX d_F_gather_113 rfl rfl rfl ?_
        refine fm_aload hX d_F_gather_114 rfl rfl ?_
        refine fm_geti (v := nI (P.2.1 m)) hX fF_49 (s_C (by omega)) rfl (hP1 m (by omega)).2.1 d_F_gather_116 rfl ?_
        refine fm_callV_r (as := [.inl (nI (P.2.1 m))]) (st := []) (pq := 122) hX (s_F (by omega)) rfl cF_67 rfl im_F_sumUp se_F_sumUp (k_F_sumUp (by omega) M1 hG.2.1 (k := P.2.1 m) (by omega)) rfl rfl (Nat.le_of_ble_eq_true rfl) (Nat.le_of_ble_eq_true rfl) d_F_gather_119 rfl (fun M119 c119 => ?_)
        refine fm_vret hX rfl d_F_gather_122 ?_
        exact ⟨rfl, cG_e hn hG (by first | exact Or.inl h40 | exact Or.inr (by rw [hg, h47])) c119⟩
      · show fm_G SC Y_F_gather X M (fm_vr (fun M' => ∃ σ, an_is1 P (fun n => if n = m then σ else S n) m ∧ cOK P (fun n => if n = m then σ else S n) m M' ∧ ∀ a j, ¬ cFa m a → M' a j = M a j)) 50 [some (.inr (kF m)), some (.inr 1), some (.inr 2), some (.inl (nI m)), some (.inr (kC m)), some (.inl (nI t)), none] [] M1
        refine fm_aload_n hX d_F_gather_50 rfl rfl rfl ?_
        refine fm_iconst (v := nI 0) hX d_F_gather_51 (by decide) rfl ?_
        refine fm_puti hX fF_37 pF_7 (s_F (by omega)) rfl (by decide) (by decide) d_F_gather_52 rfl ?_
        refine fm_iconst (v := nI 0) hX d_F_gather_55 (by decide) rfl ?_
        refine fm_istore (ls1 := [some (.inr (kF m)), some (.inr 1), some (.inr 2), some (.inl (nI m)), some (.inr (kC m)), some (.inl (nI t)), some (.inl (nI 0))]) hX d_F_gather_56 (by decide) rfl rfl ?_
        refine L58 t _ (cP_up hP1 (fun n t _ _ => by show 21 + 15 * m ≠ _; omega)) (cE_7 hE hG) (fun M3 hc => ?_) 0 (by omega) _ (cS_rf _ _)
        show fm_G SC Y_F_gather X M (fm_vr (fun M' => ∃ σ, an_is1 P (fun n => if n = m then σ else S n) m ∧ cOK P (fun n => if n = m then σ else S n) m M' ∧ ∀ a j, ¬ cFa m a → M' a j = M a j)) 107 [some (.inr (kF m)), some (.inr 1), some (.inr 2), some (.inl (nI m)), some (.inr (kC m)), some (.inl (nI t)), none] [] M3
        refine fm_iinc (v := nI (t + 1)) (ls1 := [some (.inr (kF m)), some (.inr 1), some (.inr 2), some (.inl (nI m)), some (.inr (kC m)), some (.inl (nI (t + 1))), none]) hX d_F_gather_107 rfl (nI_add _ _) (by decide) rfl rfl ?_
        refine fm_goto (tgt := 35) hX d_F_gather_110 rfl ?_
        exact ih (by omega) _ (cG_n hw hm hG (by rw [hg, h47]) hc)
  show fm_G SC Y_F_gather X M (fm_vr (fun M' => ∃ σ, an_is1 P (fun n => if n = m then σ else S n) m ∧ cOK P (fun n => if n = m then σ else S n) m M' ∧ ∀ a j, ¬ cFa m a → M' a j = M a j)) 0 [some (.inr (kF m)), some (.inr 1), some (.inr 2), some (.inl (nI m)), none, none, none] [] M
  refine fm_aload_n hX d_F_gather_0 rfl rfl rfl ?_
  refine fm_callV_v (as := []) (st := []) (pq := 4) hX (s_F (by omega)) rfl cF_41 rfl im_F_forget se_F_forget (k_F_forget (by omega) M) rfl rfl (Nat.le_of_ble_eq_true rfl) (Nat.le_of_ble_eq_true rfl) d_F_gather_1 rfl ?_
  have hPz : cP (cZ M m) P := cP_cg hP (fun a j q => cZ_o (by obtain ⟨n, t, h1, h2, e⟩ := q; unfold cFa; omega))
  refine fm_aload_n hX d_F_gather_4 rfl rfl rfl ?_
  refine fm_iload_n hX d_F_gather_5 rfl rfl rfl ?_
  refine fm_aald (q := kC m) hX rfl (by decide) rfl rfl rfl (by omega) (by decide) (r_C (by omega)) d_F_gather_6 rfl ?_
  refine fm_astore (ls1 := [some (.inr (kF m)), some (.inr 1), some (.inr 2), some (.inl (nI m)), some (.inr (kC m)), none, none]) hX d_F_gather_7 (by decide) rfl rfl ?_
  refine fm_aload hX d_F_gather_9 rfl rfl ?_
  refine fm_geti (v := nI (P.1 m)) hX fF_44 (s_C (by omega)) rfl (hPz m (by omega)).1 d_F_gather_11 rfl ?_
  refine fm_z_ne (tgt := 18) (pq := 17) hX d_F_gather_14 rfl rfl (by omega) (fun h14 => ?_) (fun h14 => ?_)
  · show fm_G SC Y_F_gather X M (fm_vr (fun M' => ∃ σ, an_is1 P (fun n => if n = m then σ else S n) m ∧ cOK P (fun n => if n = m then σ else S n) m M' ∧ ∀ a j, ¬ cFa m a → M' a j = M a j)) 18 [some (.inr (kF m)), some (.inr 1), some (.inr 2), some (.inl (nI m)), some (.inr (kC m)), none, none] [] (cZ M m)
    refine fm_aload_n hX d_F_gather_18 rfl rfl rfl ?_
    refine fm_aload hX d_F_gather_19 rfl rfl ?_
    refine fm_geti (v := nI (P.2.1 m)) hX fF_49 (s_C (by omega)) rfl (hPz m (by omega)).2.1 d_F_gather_21 rfl ?_
    refine fm_callV_r (as := [.inl (nI (P.2.1 m))]) (st := []) (pq := 27) hX (s_F (by omega)) rfl cF_52 rfl im_F_begin se_F_begin (k_F_begin (by omega) (cZ M m) (cZ_A M m) (k := P.2.1 m) (by omega)) rfl rfl (Nat.le_of_ble_eq_true rfl) (Nat.le_of_ble_eq_true rfl) d_F_gather_24 rfl (fun M24 c24 => ?_)
    have hP24 := cS_P hm c24 hPz
    refine fm_aload_n hX d_F_gather_27 rfl rfl rfl ?_
    refine fm_iconst (v := nI 1) hX d_F_gather_28 (by decide) rfl ?_
    refine fm_puti hX fF_37 pF_7 (s_F (by omega)) rfl (by decide) (by decide) d_F_gather_29 rfl ?_
    refine fm_iconst (v := nI 0) hX d_F_gather_32 (by decide) rfl ?_
    refine fm_istore (ls1 := [some (.inr (kF m)), some (.inr 1), some (.inr 2), some (.inl (nI m)), some (.inr (kC m)), some (.inl (nI 0)), none]) hX d_F_gather_33 (by decide) rfl rfl ?_
    exact L35 h14 0 (by omega) _ (cG_0 c24)
  · show fm_G SC Y_F_gather X M (fm_vr (fun M' => ∃ σ, an_is1 P (fun n => if n = m then σ else S n) m ∧ cOK P (fun n => if n = m then σ else S n) m M' ∧ ∀ a j, ¬ cFa m a → M' a j = M a j)) 17 [some (.inr (kF m)), some (.inr 1), some (.inr 2), some (.inl (nI m)), some (.inr (kC m)), none, none] [] (cZ M m)
    refine fm_vret hX rfl d_F_gather_17 ?_
    exact ⟨rfl, cZ_end h14⟩
end
