section
-- ===== PART A: goes FIRST, ahead of the names: the tables' words, and 'selects' of the private methods out of them =====
/-- a private method of a class that the tables say can be made, by its rows of tables_1 -/
def lw_okq (q : MethodName × Nat) : Prop := (q.1.cls ≠ "java/lang/invoke/MethodHandle" ∧ q.1.cls ≠ "java/lang/invoke/VarHandle") ∧ Cond.instantiable q.1.cls q.2 ∈ tables_1 ∧ Cond.privateMethod q.1 ∈ tables_1 ∧ Cond.instanceMethod q.1 ∈ tables_1
theorem lw_p0 : lw_okq (⟨"EscapeMill", "settle", "()V"⟩, 5) := ⟨⟨by decide +kernel, by decide +kernel⟩, List.mem_of_getElem? (i := 15) (by decide +kernel), List.mem_of_getElem? (i := 206) (by decide +kernel), List.mem_of_getElem? (i := 207) (by decide +kernel)⟩
theorem lw_p1 : lw_okq (⟨"EscapeMill$Facts", "forget", "()V"⟩, 8) := ⟨⟨by decide +kernel, by decide +kernel⟩, List.mem_of_getElem? (i := 139) (by decide +kernel), List.mem_of_getElem? (i := 214) (by decide +kernel), List.mem_of_getElem? (i := 215) (by decide +kernel)⟩
theorem lw_p2 : lw_okq (⟨"EscapeMill$Facts", "begin", "(I)V"⟩, 8) := ⟨⟨by decide +kernel, by decide +kernel⟩, List.mem_of_getElem? (i := 139) (by decide +kernel), List.mem_of_getElem? (i := 221) (by decide +kernel), List.mem_of_getElem? (i := 222) (by decide +kernel)⟩
theorem lw_p3 : lw_okq (⟨"EscapeMill$Facts", "refer", "(II)V"⟩, 8) := ⟨⟨by decide +kernel, by decide +kernel⟩, List.mem_of_getElem? (i := 139) (by decide +kernel), List.mem_of_getElem? (i := 226) (by decide +kernel), List.mem_of_getElem? (i := 227) (by decide +kernel)⟩
theorem lw_p4 : lw_okq (⟨"EscapeMill$Facts", "holdInBoth", "(II)V"⟩, 8) := ⟨⟨by decide +kernel, by decide +kernel⟩, List.mem_of_getElem? (i := 139) (by decide +kernel), List.mem_of_getElem? (i := 230) (by decide +kernel), List.mem_of_getElem? (i := 231) (by decide +kernel)⟩
theorem lw_p5 : lw_okq (⟨"EscapeMill$Facts", "holdIn", "(III)V"⟩, 8) := ⟨⟨by decide +kernel, by decide +kernel⟩, List.mem_of_getElem? (i := 139) (by decide +kernel), List.mem_of_getElem? (i := 234) (by decide +kernel), List.mem_of_getElem? (i := 235) (by decide +kernel)⟩
theorem lw_p6 : lw_okq (⟨"EscapeMill$Facts", "applyCall", "([LEscapeMill$Code;[LEscapeMill$Facts;II)V"⟩, 8) := ⟨⟨by decide +kernel, by decide +kernel⟩, List.mem_of_getElem? (i := 139) (by decide +kernel), List.mem_of_getElem? (i := 239) (by decide +kernel), List.mem_of_getElem? (i := 240) (by decide +kernel)⟩
theorem lw_p7 : lw_okq (⟨"EscapeMill$Facts", "reached", "(I)I"⟩, 8) := ⟨⟨by decide +kernel, by decide +kernel⟩, List.mem_of_getElem? (i := 139) (by decide +kernel), List.mem_of_getElem? (i := 243) (by decide +kernel), List.mem_of_getElem? (i := 244) (by decide +kernel)⟩
theorem lw_p8 : lw_okq (⟨"EscapeMill$Facts", "heldBy", "(II)I"⟩, 8) := ⟨⟨by decide +kernel, by decide +kernel⟩, List.mem_of_getElem? (i := 139) (by decide +kernel), List.mem_of_getElem? (i := 247) (by decide +kernel), List.mem_of_getElem? (i := 248) (by decide +kernel)⟩
theorem lw_p9 : lw_okq (⟨"EscapeMill$Facts", "apply", "(LEscapeMill$Code;I)V"⟩, 8) := ⟨⟨by decide +kernel, by decide +kernel⟩, List.mem_of_getElem? (i := 139) (by decide +kernel), List.mem_of_getElem? (i := 251) (by decide +kernel), List.mem_of_getElem? (i := 252) (by decide +kernel)⟩
theorem lw_p10 : lw_okq (⟨"EscapeMill$Facts", "hold", "(III)V"⟩, 8) := ⟨⟨by decide +kernel, by decide +kernel⟩, List.mem_of_getElem? (i := 139) (by decide +kernel), List.mem_of_getElem? (i := 255) (by decide +kernel), List.mem_of_getElem? (i := 256) (by decide +kernel)⟩
theorem lw_p11 : lw_okq (⟨"EscapeMill$Facts", "sumUp", "(I)V"⟩, 8) := ⟨⟨by decide +kernel, by decide +kernel⟩, List.mem_of_getElem? (i := 139) (by decide +kernel), List.mem_of_getElem? (i := 260) (by decide +kernel), List.mem_of_getElem? (i := 261) (by decide +kernel)⟩
theorem lw_p12 : lw_okq (⟨"EscapeMill$Code", "bit", "(I)I"⟩, 7) := ⟨⟨by decide +kernel, by decide +kernel⟩, List.mem_of_getElem? (i := 90) (by decide +kernel), List.mem_of_getElem? (i := 280) (by decide +kernel), List.mem_of_getElem? (i := 281) (by decide +kernel)⟩
theorem lw_p13 : lw_okq (⟨"EscapeMill$Code", "behind", "(I)I"⟩, 7) := ⟨⟨by decide +kernel, by decide +kernel⟩, List.mem_of_getElem? (i := 90) (by decide +kernel), List.mem_of_getElem? (i := 288) (by decide +kernel), List.mem_of_getElem? (i := 289) (by decide +kernel)⟩
theorem lw_p14 : lw_okq (⟨"EscapeMill$Plan", "takeApart", "(LEscapeMill$Code;II)V"⟩, 1) := ⟨⟨by decide +kernel, by decide +kernel⟩, List.mem_of_getElem? (i := 174) (by decide +kernel), List.mem_of_getElem? (i := 310) (by decide +kernel), List.mem_of_getElem? (i := 311) (by decide +kernel)⟩
theorem lw_p15 : lw_okq (⟨"EscapeMill$Plan", "pairLocks", "(LEscapeMill$Code;II)V"⟩, 1) := ⟨⟨by decide +kernel, by decide +kernel⟩, List.mem_of_getElem? (i := 174) (by decide +kernel), List.mem_of_getElem? (i := 318) (by decide +kernel), List.mem_of_getElem? (i := 319) (by decide +kernel)⟩
def lw_privs_1 : List (MethodName × Nat) := [(⟨"EscapeMill", "settle", "()V"⟩, 5), (⟨"EscapeMill$Facts", "forget", "()V"⟩, 8), (⟨"EscapeMill$Facts", "begin", "(I)V"⟩, 8), (⟨"EscapeMill$Facts", "refer", "(II)V"⟩, 8), (⟨"EscapeMill$Facts", "holdInBoth", "(II)V"⟩, 8), (⟨"EscapeMill$Facts", "holdIn", "(III)V"⟩, 8), (⟨"EscapeMill$Facts", "applyCall", "([LEscapeMill$Code;[LEscapeMill$Facts;II)V"⟩, 8), (⟨"EscapeMill$Facts", "reached", "(I)I"⟩, 8), (⟨"EscapeMill$Facts", "heldBy", "(II)I"⟩, 8), (⟨"EscapeMill$Facts", "apply", "(LEscapeMill$Code;I)V"⟩, 8), (⟨"EscapeMill$Facts", "hold", "(III)V"⟩, 8), (⟨"EscapeMill$Facts", "sumUp", "(I)V"⟩, 8), (⟨"EscapeMill$Code", "bit", "(I)I"⟩, 7), (⟨"EscapeMill$Code", "behind", "(I)I"⟩, 7), (⟨"EscapeMill$Plan", "takeApart", "(LEscapeMill$Code;II)V"⟩, 1), (⟨"EscapeMill$Plan", "pairLocks", "(LEscapeMill$Code;II)V"⟩, 1)]
theorem lw_r1 : ∀ q ∈ lw_privs_1, lw_okq q := List.forall_mem_cons.mpr ⟨lw_p0, List.forall_mem_cons.mpr ⟨lw_p1, List.forall_mem_cons.mpr ⟨lw_p2, List.forall_mem_cons.mpr ⟨lw_p3, List.forall_mem_cons.mpr ⟨lw_p4, List.forall_mem_cons.mpr ⟨lw_p5, List.forall_mem_cons.mpr ⟨lw_p6, List.forall_mem_cons.mpr ⟨lw_p7, List.forall_mem_cons.mpr ⟨lw_p8, List.forall_mem_cons.mpr ⟨lw_p9, List.forall_mem_cons.mpr ⟨lw_p10, List.forall_mem_cons.mpr ⟨lw_p11, List.forall_mem_cons.mpr ⟨lw_p12, List.forall_mem_cons.mpr ⟨lw_p13, List.forall_mem_cons.mpr ⟨lw_p14, List.forall_mem_cons.mpr ⟨lw_p15, fun _ h => absurd h List.not_mem_nil⟩⟩⟩⟩⟩⟩⟩⟩⟩⟩⟩⟩⟩⟩⟩⟩
theorem lw_p16 : lw_okq (⟨"EscapeMill$Machine", "begin", "()V"⟩, 16) := ⟨⟨by decide +kernel, by decide +kernel⟩, List.mem_of_getElem? (i := 29) (by decide +kernel), List.mem_of_getElem? (i := 336) (by decide +kernel), List.mem_of_getElem? (i := 337) (by decide +kernel)⟩
theorem lw_p17 : lw_okq (⟨"EscapeMill$Machine", "enter", "(IIII)V"⟩, 16) := ⟨⟨by decide +kernel, by decide +kernel⟩, List.mem_of_getElem? (i := 29) (by decide +kernel), List.mem_of_getElem? (i := 341) (by decide +kernel), List.mem_of_getElem? (i := 342) (by decide +kernel)⟩
theorem lw_p18 : lw_okq (⟨"EscapeMill$Machine", "base", "()I"⟩, 16) := ⟨⟨by decide +kernel, by decide +kernel⟩, List.mem_of_getElem? (i := 29) (by decide +kernel), List.mem_of_getElem? (i := 345) (by decide +kernel), List.mem_of_getElem? (i := 346) (by decide +kernel)⟩
theorem lw_p19 : lw_okq (⟨"EscapeMill$Machine", "leave", "(I)V"⟩, 16) := ⟨⟨by decide +kernel, by decide +kernel⟩, List.mem_of_getElem? (i := 29) (by decide +kernel), List.mem_of_getElem? (i := 350) (by decide +kernel), List.mem_of_getElem? (i := 351) (by decide +kernel)⟩
theorem lw_p20 : lw_okq (⟨"EscapeMill$Machine", "perform", "([LEscapeMill$Code;III)V"⟩, 16) := ⟨⟨by decide +kernel, by decide +kernel⟩, List.mem_of_getElem? (i := 29) (by decide +kernel), List.mem_of_getElem? (i := 354) (by decide +kernel), List.mem_of_getElem? (i := 355) (by decide +kernel)⟩
theorem lw_p21 : lw_okq (⟨"EscapeMill$Machine", "cellOf", "(I)I"⟩, 16) := ⟨⟨by decide +kernel, by decide +kernel⟩, List.mem_of_getElem? (i := 29) (by decide +kernel), List.mem_of_getElem? (i := 358) (by decide +kernel), List.mem_of_getElem? (i := 359) (by decide +kernel)⟩
theorem lw_p22 : lw_okq (⟨"EscapeMill$Machine", "workOnField", "(IIIII)V"⟩, 16) := ⟨⟨by decide +kernel, by decide +kernel⟩, List.mem_of_getElem? (i := 29) (by decide +kernel), List.mem_of_getElem? (i := 362) (by decide +kernel), List.mem_of_getElem? (i := 363) (by decide +kernel)⟩
theorem lw_p23 : lw_okq (⟨"EscapeMill$Machine", "changeCount", "(II)V"⟩, 16) := ⟨⟨by decide +kernel, by decide +kernel⟩, List.mem_of_getElem? (i := 29) (by decide +kernel), List.mem_of_getElem? (i := 366) (by decide +kernel), List.mem_of_getElem? (i := 367) (by decide +kernel)⟩
theorem lw_p24 : lw_okq (⟨"EscapeMill$Machine", "call", "([LEscapeMill$Code;II)V"⟩, 16) := ⟨⟨by decide +kernel, by decide +kernel⟩, List.mem_of_getElem? (i := 29) (by decide +kernel), List.mem_of_getElem? (i := 370) (by decide +kernel), List.mem_of_getElem? (i := 371) (by decide +kernel)⟩
theorem lw_p25 : lw_okq (⟨"EscapeMill$Machine", "newParts", "(I)I"⟩, 16) := ⟨⟨by decide +kernel, by decide +kernel⟩, List.mem_of_getElem? (i := 29) (by decide +kernel), List.mem_of_getElem? (i := 374) (by decide +kernel), List.mem_of_getElem? (i := 375) (by decide +kernel)⟩
theorem lw_p26 : lw_okq (⟨"EscapeMill$Machine", "emptied", "(I)I"⟩, 16) := ⟨⟨by decide +kernel, by decide +kernel⟩, List.mem_of_getElem? (i := 29) (by decide +kernel), List.mem_of_getElem? (i := 378) (by decide +kernel), List.mem_of_getElem? (i := 379) (by decide +kernel)⟩
theorem lw_p27 : lw_okq (⟨"EscapeMill$Machine", "newObject", "()I"⟩, 16) := ⟨⟨by decide +kernel, by decide +kernel⟩, List.mem_of_getElem? (i := 29) (by decide +kernel), List.mem_of_getElem? (i := 382) (by decide +kernel), List.mem_of_getElem? (i := 383) (by decide +kernel)⟩
theorem lw_p28 : lw_okq (⟨"EscapeMill$Machine", "move", "(LEscapeMill$Code;I)V"⟩, 16) := ⟨⟨by decide +kernel, by decide +kernel⟩, List.mem_of_getElem? (i := 29) (by decide +kernel), List.mem_of_getElem? (i := 386) (by decide +kernel), List.mem_of_getElem? (i := 387) (by decide +kernel)⟩
theorem lw_p29 : lw_okq (⟨"EscapeMill$Machine", "show", "(I)V"⟩, 16) := ⟨⟨by decide +kernel, by decide +kernel⟩, List.mem_of_getElem? (i := 29) (by decide +kernel), List.mem_of_getElem? (i := 390) (by decide +kernel), List.mem_of_getElem? (i := 391) (by decide +kernel)⟩
theorem lw_p30 : lw_okq (⟨"java/lang/Throwable", "fillInStackTrace", "(I)Ljava/lang/Throwable;"⟩, 6) := ⟨⟨by decide +kernel, by decide +kernel⟩, List.mem_of_getElem? (i := 469) (by decide +kernel), List.mem_of_getElem? (i := 467) (by decide +kernel), List.mem_of_getElem? (i := 468) (by decide +kernel)⟩
theorem lw_p31 : lw_okq (⟨"EscapeMillModel", "know", "()V"⟩, 30) := ⟨⟨by decide +kernel, by decide +kernel⟩, List.mem_of_getElem? (i := 557) (by decide +kernel), List.mem_of_getElem? (i := 680) (by decide +kernel), List.mem_of_getElem? (i := 681) (by decide +kernel)⟩
def lw_privs_2 : List (MethodName × Nat) := [(⟨"EscapeMill$Machine", "begin", "()V"⟩, 16), (⟨"EscapeMill$Machine", "enter", "(IIII)V"⟩, 16), (⟨"EscapeMill$Machine", "base", "()I"⟩, 16), (⟨"EscapeMill$Machine", "leave", "(I)V"⟩, 16), (⟨"EscapeMill$Machine", "perform", "([LEscapeMill$Code;III)V"⟩, 16), (⟨"EscapeMill$Machine", "cellOf", "(I)I"⟩, 16), (⟨"EscapeMill$Machine", "workOnField", "(IIIII)V"⟩, 16), (⟨"EscapeMill$Machine", "changeCount", "(II)V"⟩, 16), (⟨"EscapeMill$Machine", "call", "([LEscapeMill$Code;II)V"⟩, 16), (⟨"EscapeMill$Machine", "newParts", "(I)I"⟩, 16), (⟨"EscapeMill$Machine", "emptied", "(I)I"⟩, 16), (⟨"EscapeMill$Machine", "newObject", "()I"⟩, 16), (⟨"EscapeMill$Machine", "move", "(LEscapeMill$Code;I)V"⟩, 16), (⟨"EscapeMill$Machine", "show", "(I)V"⟩, 16), (⟨"java/lang/Throwable", "fillInStackTrace", "(I)Ljava/lang/Throwable;"⟩, 6), (⟨"EscapeMillModel", "know", "()V"⟩, 30)]
theorem lw_r2 : ∀ q ∈ lw_privs_2, lw_okq q := List.forall_mem_cons.mpr ⟨lw_p16, List.forall_mem_cons.mpr ⟨lw_p17, List.forall_mem_cons.mpr ⟨lw_p18, List.forall_mem_cons.mpr ⟨lw_p19, List.forall_mem_cons.mpr ⟨lw_p20, List.forall_mem_cons.mpr ⟨lw_p21, List.forall_mem_cons.mpr ⟨lw_p22, List.forall_mem_cons.mpr ⟨lw_p23, List.forall_mem_cons.mpr ⟨lw_p24, List.forall_mem_cons.mpr ⟨lw_p25, List.forall_mem_cons.mpr ⟨lw_p26, List.forall_mem_cons.mpr ⟨lw_p27, List.forall_mem_cons.mpr ⟨lw_p28, List.forall_mem_cons.mpr ⟨lw_p29, List.forall_mem_cons.mpr ⟨lw_p30, List.forall_mem_cons.mpr ⟨lw_p31, fun _ h => absurd h List.not_mem_nil⟩⟩⟩⟩⟩⟩⟩⟩⟩⟩⟩⟩⟩⟩⟩⟩
theorem lw_p32 : lw_okq (⟨"EscapeMillModel", "analyse", "(I)V"⟩, 30) := ⟨⟨by decide +kernel, by decide +kernel⟩, List.mem_of_getElem? (i := 557) (by decide +kernel), List.mem_of_getElem? (i := 684) (by decide +kernel), List.mem_of_getElem? (i := 685) (by decide +kernel)⟩
theorem lw_p33 : lw_okq (⟨"EscapeMillModel", "holds", "(IIII)V"⟩, 30) := ⟨⟨by decide +kernel, by decide +kernel⟩, List.mem_of_getElem? (i := 557) (by decide +kernel), List.mem_of_getElem? (i := 689) (by decide +kernel), List.mem_of_getElem? (i := 690) (by decide +kernel)⟩
theorem lw_p34 : lw_okq (⟨"EscapeMillModel", "weight", "(I)I"⟩, 30) := ⟨⟨by decide +kernel, by decide +kernel⟩, List.mem_of_getElem? (i := 557) (by decide +kernel), List.mem_of_getElem? (i := 693) (by decide +kernel), List.mem_of_getElem? (i := 694) (by decide +kernel)⟩
theorem lw_p35 : lw_okq (⟨"EscapeMillModel", "adds", "(II)V"⟩, 30) := ⟨⟨by decide +kernel, by decide +kernel⟩, List.mem_of_getElem? (i := 557) (by decide +kernel), List.mem_of_getElem? (i := 697) (by decide +kernel), List.mem_of_getElem? (i := 698) (by decide +kernel)⟩
theorem lw_p36 : lw_okq (⟨"EscapeMillModel", "held", "(III)I"⟩, 30) := ⟨⟨by decide +kernel, by decide +kernel⟩, List.mem_of_getElem? (i := 557) (by decide +kernel), List.mem_of_getElem? (i := 701) (by decide +kernel), List.mem_of_getElem? (i := 702) (by decide +kernel)⟩
theorem lw_p37 : lw_okq (⟨"EscapeMillModel", "calls", "(II)V"⟩, 30) := ⟨⟨by decide +kernel, by decide +kernel⟩, List.mem_of_getElem? (i := 557) (by decide +kernel), List.mem_of_getElem? (i := 705) (by decide +kernel), List.mem_of_getElem? (i := 706) (by decide +kernel)⟩
theorem lw_p38 : lw_okq (⟨"EscapeMillModel", "reached", "(II)I"⟩, 30) := ⟨⟨by decide +kernel, by decide +kernel⟩, List.mem_of_getElem? (i := 557) (by decide +kernel), List.mem_of_getElem? (i := 709) (by decide +kernel), List.mem_of_getElem? (i := 710) (by decide +kernel)⟩
theorem lw_p39 : lw_okq (⟨"EscapeMillModel", "stateOf", "(III)I"⟩, 30) := ⟨⟨by decide +kernel, by decide +kernel⟩, List.mem_of_getElem? (i := 557) (by decide +kernel), List.mem_of_getElem? (i := 713) (by decide +kernel), List.mem_of_getElem? (i := 714) (by decide +kernel)⟩
theorem lw_p40 : lw_okq (⟨"EscapeMillModel", "fateOf", "(II)I"⟩, 30) := ⟨⟨by decide +kernel, by decide +kernel⟩, List.mem_of_getElem? (i := 557) (by decide +kernel), List.mem_of_getElem? (i := 717) (by decide +kernel), List.mem_of_getElem? (i := 718) (by decide +kernel)⟩
theorem lw_p41 : lw_okq (⟨"EscapeMillModel", "worksOn", "(III)Z"⟩, 30) := ⟨⟨by decide +kernel, by decide +kernel⟩, List.mem_of_getElem? (i := 557) (by decide +kernel), List.mem_of_getElem? (i := 721) (by decide +kernel), List.mem_of_getElem? (i := 722) (by decide +kernel)⟩
theorem lw_p42 : lw_okq (⟨"EscapeMillModel", "apart", "(II)Z"⟩, 30) := ⟨⟨by decide +kernel, by decide +kernel⟩, List.mem_of_getElem? (i := 557) (by decide +kernel), List.mem_of_getElem? (i := 725) (by decide +kernel), List.mem_of_getElem? (i := 726) (by decide +kernel)⟩
theorem lw_p43 : lw_okq (⟨"EscapeMillModel", "onlyNew", "(II)I"⟩, 30) := ⟨⟨by decide +kernel, by decide +kernel⟩, List.mem_of_getElem? (i := 557) (by decide +kernel), List.mem_of_getElem? (i := 729) (by decide +kernel), List.mem_of_getElem? (i := 730) (by decide +kernel)⟩
theorem lw_p44 : lw_okq (⟨"EscapeMillModel", "gives", "(III)Z"⟩, 30) := ⟨⟨by decide +kernel, by decide +kernel⟩, List.mem_of_getElem? (i := 557) (by decide +kernel), List.mem_of_getElem? (i := 736) (by decide +kernel), List.mem_of_getElem? (i := 737) (by decide +kernel)⟩
theorem lw_p45 : lw_okq (⟨"EscapeMillModel", "dominates", "(III)Z"⟩, 30) := ⟨⟨by decide +kernel, by decide +kernel⟩, List.mem_of_getElem? (i := 557) (by decide +kernel), List.mem_of_getElem? (i := 740) (by decide +kernel), List.mem_of_getElem? (i := 741) (by decide +kernel)⟩
theorem lw_p46 : lw_okq (⟨"EscapeMillModel", "isInstruction", "(II)Z"⟩, 30) := ⟨⟨by decide +kernel, by decide +kernel⟩, List.mem_of_getElem? (i := 557) (by decide +kernel), List.mem_of_getElem? (i := 744) (by decide +kernel), List.mem_of_getElem? (i := 745) (by decide +kernel)⟩
theorem lw_p47 : lw_okq (⟨"EscapeMillModel", "pair", "(III)Z"⟩, 30) := ⟨⟨by decide +kernel, by decide +kernel⟩, List.mem_of_getElem? (i := 557) (by decide +kernel), List.mem_of_getElem? (i := 748) (by decide +kernel), List.mem_of_getElem? (i := 749) (by decide +kernel)⟩
def lw_privs_3 : List (MethodName × Nat) := [(⟨"EscapeMillModel", "analyse", "(I)V"⟩, 30), (⟨"EscapeMillModel", "holds", "(IIII)V"⟩, 30), (⟨"EscapeMillModel", "weight", "(I)I"⟩, 30), (⟨"EscapeMillModel", "adds", "(II)V"⟩, 30), (⟨"EscapeMillModel", "held", "(III)I"⟩, 30), (⟨"EscapeMillModel", "calls", "(II)V"⟩, 30), (⟨"EscapeMillModel", "reached", "(II)I"⟩, 30), (⟨"EscapeMillModel", "stateOf", "(III)I"⟩, 30), (⟨"EscapeMillModel", "fateOf", "(II)I"⟩, 30), (⟨"EscapeMillModel", "worksOn", "(III)Z"⟩, 30), (⟨"EscapeMillModel", "apart", "(II)Z"⟩, 30), (⟨"EscapeMillModel", "onlyNew", "(II)I"⟩, 30), (⟨"EscapeMillModel", "gives", "(III)Z"⟩, 30), (⟨"EscapeMillModel", "dominates", "(III)Z"⟩, 30), (⟨"EscapeMillModel", "isInstruction", "(II)Z"⟩, 30), (⟨"EscapeMillModel", "pair", "(III)Z"⟩, 30)]
theorem lw_r3 : ∀ q ∈ lw_privs_3, lw_okq q := List.forall_mem_cons.mpr ⟨lw_p32, List.forall_mem_cons.mpr ⟨lw_p33, List.forall_mem_cons.mpr ⟨lw_p34, List.forall_mem_cons.mpr ⟨lw_p35, List.forall_mem_cons.mpr ⟨lw_p36, List.forall_mem_cons.mpr ⟨lw_p37, List.forall_mem_cons.mpr ⟨lw_p38, List.forall_mem_cons.mpr ⟨lw_p39, List.forall_mem_cons.mpr ⟨lw_p40, List.forall_mem_cons.mpr ⟨lw_p41, List.forall_mem_cons.mpr ⟨lw_p42, List.forall_mem_cons.mpr ⟨lw_p43, List.forall_mem_cons.mpr ⟨lw_p44, List.forall_mem_cons.mpr ⟨lw_p45, List.forall_mem_cons.mpr ⟨lw_p46, List.forall_mem_cons.mpr ⟨lw_p47, fun _ h => absurd h List.not_mem_nil⟩⟩⟩⟩⟩⟩⟩⟩⟩⟩⟩⟩⟩⟩⟩⟩
theorem lw_p48 : lw_okq (⟨"EscapeMillModel", "escapeOf", "(II)I"⟩, 30) := ⟨⟨by decide +kernel, by decide +kernel⟩, List.mem_of_getElem? (i := 557) (by decide +kernel), List.mem_of_getElem? (i := 752) (by decide +kernel), List.mem_of_getElem? (i := 753) (by decide +kernel)⟩
theorem lw_p49 : lw_okq (⟨"EscapeMillModel", "argsOf", "(I)I"⟩, 30) := ⟨⟨by decide +kernel, by decide +kernel⟩, List.mem_of_getElem? (i := 557) (by decide +kernel), List.mem_of_getElem? (i := 756) (by decide +kernel), List.mem_of_getElem? (i := 757) (by decide +kernel)⟩
theorem lw_p50 : lw_okq (⟨"EscapeMillModel", "enter", "(IIII)V"⟩, 30) := ⟨⟨by decide +kernel, by decide +kernel⟩, List.mem_of_getElem? (i := 557) (by decide +kernel), List.mem_of_getElem? (i := 762) (by decide +kernel), List.mem_of_getElem? (i := 763) (by decide +kernel)⟩
theorem lw_p51 : lw_okq (⟨"EscapeMillModel", "leave", "(I)V"⟩, 30) := ⟨⟨by decide +kernel, by decide +kernel⟩, List.mem_of_getElem? (i := 557) (by decide +kernel), List.mem_of_getElem? (i := 766) (by decide +kernel), List.mem_of_getElem? (i := 767) (by decide +kernel)⟩
theorem lw_p52 : lw_okq (⟨"EscapeMillModel", "does", "(II)V"⟩, 30) := ⟨⟨by decide +kernel, by decide +kernel⟩, List.mem_of_getElem? (i := 557) (by decide +kernel), List.mem_of_getElem? (i := 770) (by decide +kernel), List.mem_of_getElem? (i := 771) (by decide +kernel)⟩
theorem lw_p53 : lw_okq (⟨"EscapeMillModel", "makes", "(IZ)V"⟩, 30) := ⟨⟨by decide +kernel, by decide +kernel⟩, List.mem_of_getElem? (i := 557) (by decide +kernel), List.mem_of_getElem? (i := 774) (by decide +kernel), List.mem_of_getElem? (i := 775) (by decide +kernel)⟩
theorem lw_p54 : lw_okq (⟨"EscapeMillModel", "fields", "(IZ)V"⟩, 30) := ⟨⟨by decide +kernel, by decide +kernel⟩, List.mem_of_getElem? (i := 557) (by decide +kernel), List.mem_of_getElem? (i := 778) (by decide +kernel), List.mem_of_getElem? (i := 779) (by decide +kernel)⟩
theorem lw_p55 : lw_okq (⟨"EscapeMillModel", "set", "(ZII)V"⟩, 30) := ⟨⟨by decide +kernel, by decide +kernel⟩, List.mem_of_getElem? (i := 557) (by decide +kernel), List.mem_of_getElem? (i := 782) (by decide +kernel), List.mem_of_getElem? (i := 783) (by decide +kernel)⟩
theorem lw_p56 : lw_okq (⟨"EscapeMillModel", "call", "(I)V"⟩, 30) := ⟨⟨by decide +kernel, by decide +kernel⟩, List.mem_of_getElem? (i := 557) (by decide +kernel), List.mem_of_getElem? (i := 786) (by decide +kernel), List.mem_of_getElem? (i := 787) (by decide +kernel)⟩
theorem lw_p57 : lw_okq (⟨"EscapeMillModel", "moves", "(I)V"⟩, 30) := ⟨⟨by decide +kernel, by decide +kernel⟩, List.mem_of_getElem? (i := 557) (by decide +kernel), List.mem_of_getElem? (i := 790) (by decide +kernel), List.mem_of_getElem? (i := 791) (by decide +kernel)⟩
def lw_privs_4 : List (MethodName × Nat) := [(⟨"EscapeMillModel", "escapeOf", "(II)I"⟩, 30), (⟨"EscapeMillModel", "argsOf", "(I)I"⟩, 30), (⟨"EscapeMillModel", "enter", "(IIII)V"⟩, 30), (⟨"EscapeMillModel", "leave", "(I)V"⟩, 30), (⟨"EscapeMillModel", "does", "(II)V"⟩, 30), (⟨"EscapeMillModel", "makes", "(IZ)V"⟩, 30), (⟨"EscapeMillModel", "fields", "(IZ)V"⟩, 30), (⟨"EscapeMillModel", "set", "(ZII)V"⟩, 30), (⟨"EscapeMillModel", "call", "(I)V"⟩, 30), (⟨"EscapeMillModel", "moves", "(I)V"⟩, 30)]
theorem lw_r4 : ∀ q ∈ lw_privs_4, lw_okq q := List.forall_mem_cons.mpr ⟨lw_p48, List.forall_mem_cons.mpr ⟨lw_p49, List.forall_mem_cons.mpr ⟨lw_p50, List.forall_mem_cons.mpr ⟨lw_p51, List.forall_mem_cons.mpr ⟨lw_p52, List.forall_mem_cons.mpr ⟨lw_p53, List.forall_mem_cons.mpr ⟨lw_p54, List.forall_mem_cons.mpr ⟨lw_p55, List.forall_mem_cons.mpr ⟨lw_p56, List.forall_mem_cons.mpr ⟨lw_p57, fun _ h => absurd h List.not_mem_nil⟩⟩⟩⟩⟩⟩⟩⟩⟩⟩
def lw_privs : List (MethodName × Nat) := lw_privs_1 ++ (lw_privs_2 ++ (lw_privs_3 ++ (lw_privs_4)))
def lw_tbl : List Cond := k2_sels lw_privs ++ tables_1
theorem lw_privs_ok : ∀ q ∈ lw_privs, lw_okq q := by
  show ∀ q ∈ lw_privs_1 ++ (lw_privs_2 ++ (lw_privs_3 ++ (lw_privs_4))), lw_okq q
  exact List.forall_mem_append.mpr ⟨lw_r1, List.forall_mem_append.mpr ⟨lw_r2, List.forall_mem_append.mpr ⟨lw_r3, lw_r4⟩⟩⟩
-- ===== end of PART A; then your names; then what follows =====
end
section
/-! ===== Int32 by its bits: bt x i ===== -/
def bt (x : Int32) (i : Nat) : Bool := x.toBitVec.getLsbD i
theorem b_ext {x y : Int32} (h : ∀ i, i < 32 → bt x i = bt y i) : x = y := Int32.toBitVec_inj.mp (BitVec.eq_of_getLsbD_eq (fun i hi => h i hi))
theorem b_or (x y : Int32) (i : Nat) : bt (x ||| y) i = (bt x i || bt y i) := by unfold bt; rw [Int32.toBitVec_or, BitVec.getLsbD_or]
theorem b_and (x y : Int32) (i : Nat) : bt (x &&& y) i = (bt x i && bt y i) := by unfold bt; rw [Int32.toBitVec_and, BitVec.getLsbD_and]
theorem b_xor (x y : Int32) (i : Nat) : bt (x ^^^ y) i = (bt x i ^^ bt y i) := by unfold bt; rw [Int32.toBitVec_xor, BitVec.getLsbD_xor]
theorem b_big {x : Int32} {i : Nat} (h : 32 ≤ i) : bt x i = false := BitVec.getLsbD_of_ge _ _ h
theorem b_255 (i : Nat) : bt 255 i = decide (i < 8) := by
  rcases Nat.lt_or_ge i 32 with h | h
  · exact (by decide +kernel : ∀ i, i < 32 → bt 255 i = decide (i < 8)) i h
  · rw [b_big h, decide_eq_false (by omega)]
theorem b_65535 (i : Nat) : bt 65535 i = decide (i < 16) := by
  rcases Nat.lt_or_ge i 32 with h | h
  · exact (by decide +kernel : ∀ i, i < 32 → bt 65535 i = decide (i < 16)) i h
  · rw [b_big h, decide_eq_false (by omega)]
theorem b_m1 : ∀ i, i < 32 → bt (-1) i = true := by decide +kernel
theorem b_0 (i : Nat) : bt 0 i = false := BitVec.getLsbD_zero
theorem s_l : ∀ n, n < 32 → ((nI n &&& 31).toBitVec.smod 32).toNat = n := by decide +kernel
theorem s_u : ∀ n, n < 32 → (((nI n).toUInt32 &&& Int32.toUInt32 31).toBitVec % 32).toNat = n := by decide +kernel
theorem b_shl (n : Nat) (hn : n < 32) (x : Int32) {i : Nat} (hi : i < 32) : bt (x <<< (nI n &&& 31)) i = (decide (n ≤ i) && bt x (i - n)) := by
  unfold bt
  rw [Int32.toBitVec_shiftLeft]
  show (x.toBitVec <<< ((nI n &&& 31).toBitVec.smod 32).toNat).getLsbD i = _
  rw [s_l n hn, BitVec.getLsbD_shiftLeft]
  rcases Nat.lt_or_ge i n with h | h
  · simp [h, Nat.not_le.mpr h]
  · simp [hi, h, Nat.not_lt.mpr h]
theorem b_ushr (n : Nat) (hn : n < 32) (x : Int32) (i : Nat) : bt ((x.toUInt32 >>> ((nI n).toUInt32 &&& Int32.toUInt32 31)).toInt32) i = bt x (n + i) := by
  show (x.toUInt32 >>> ((nI n).toUInt32 &&& Int32.toUInt32 31)).toBitVec.getLsbD i = x.toUInt32.toBitVec.getLsbD (n + i)
  rw [UInt32.toBitVec_shiftRight]
  show (x.toUInt32.toBitVec >>> (((nI n).toUInt32 &&& Int32.toUInt32 31).toBitVec % 32).toNat).getLsbD i = _
  rw [s_u n hn, BitVec.getLsbD_ushiftRight]
theorem b_sshr (n : Nat) (hn : n < 32) (x : Int32) {i : Nat} (hi : i < 32) : bt (x >>> (nI n &&& 31)) i = if n + i < 32 then bt x (n + i) else bt x 31 := by
  unfold bt
  rw [Int32.toBitVec_shiftRight]
  show (x.toBitVec.sshiftRight ((nI n &&& 31).toBitVec.smod 32).toNat).getLsbD i = _
  rw [s_l n hn, BitVec.getLsbD_sshiftRight, BitVec.msb_eq_getLsbD_last]
  simp [hi]
theorem b_shl8 (x : Int32) {i : Nat} (hi : i < 32) : bt (x <<< ((8 : Int32) &&& 31)) i = (decide (8 ≤ i) && bt x (i - 8)) := b_shl 8 (by omega) x hi
theorem b_shl16 (x : Int32) {i : Nat} (hi : i < 32) : bt (x <<< ((16 : Int32) &&& 31)) i = (decide (16 ≤ i) && bt x (i - 16)) := b_shl 16 (by omega) x hi
theorem b_shl24 (x : Int32) {i : Nat} (hi : i < 32) : bt (x <<< ((24 : Int32) &&& 31)) i = (decide (24 ≤ i) && bt x (i - 24)) := b_shl 24 (by omega) x hi
theorem b_sshr8 (x : Int32) {i : Nat} (hi : i < 32) : bt (x >>> ((8 : Int32) &&& 31)) i = if 8 + i < 32 then bt x (8 + i) else bt x 31 := b_sshr 8 (by omega) x hi
end
section
/-! THE ANALYSIS, 1: sets of bits, states, what is reached -/
def an_sub (x y : Int32) : Prop := ∀ b, bt x b = true → bt y b = true
theorem an_sub_rf (x : Int32) : an_sub x x := fun _ h => h
theorem an_sub_tr {x y z : Int32} (h : an_sub x y) (k : an_sub y z) : an_sub x z := fun b q => k b (h b q)
theorem an_sub_0 (x : Int32) : an_sub 0 x := fun b h => by rw [b_0] at h; exact absurd h (by decide)
theorem an_sub_orl (x y : Int32) : an_sub x (x ||| y) := fun b h => by rw [b_or, h, Bool.true_or]
theorem an_sub_orr (x y : Int32) : an_sub y (x ||| y) := fun b h => by rw [b_or, h, Bool.or_true]
theorem an_or_sub {x y z : Int32} (h : an_sub x z) (k : an_sub y z) : an_sub (x ||| y) z := fun b q => by
  rw [b_or, Bool.or_eq_true] at q
  exact q.elim (h b) (k b)
theorem an_eq {x y : Int32} (h : an_sub x y) (k : an_sub y x) : x = y := b_ext (fun b _ => by
  cases hx : bt x b with
  | true => exact (h b hx).symm
  | false =>
    cases hy : bt y b with
    | false => rfl
    | true => rw [k b hy] at hx; exact absurd hx (by decide))
theorem an_or_eq {x y : Int32} : (x ||| y) = x ↔ an_sub y x :=
  ⟨fun h b q => by rw [← h, b_or, q, Bool.or_true], fun h => an_eq (an_or_sub (an_sub_rf x) h) (an_sub_orl x y)⟩
theorem an_and0 {x y : Int32} : (x &&& y) ≠ 0 ↔ ∃ b, bt x b = true ∧ bt y b = true := by
  constructor
  · intro h
    apply Classical.byContradiction
    intro q
    apply h
    apply b_ext
    intro b _
    rw [b_and, b_0]
    cases hx : bt x b with
    | false => rfl
    | true =>
      cases hy : bt y b with
      | false => rfl
      | true => exact absurd ⟨b, hx, hy⟩ q
  · rintro ⟨b, hx, hy⟩ h
    have := b_and x y b
    rw [h, b_0, hx, hy] at this
    exact absurd this (by decide)
/-- the set of one bit -/
def an_1 (n : Nat) : Int32 := (1 : Int32) <<< (nI n &&& 31)
theorem an_bt1 : ∀ i, i < 32 → bt 1 i = decide (i = 0) := by decide +kernel
theorem an_1_bt {n : Nat} (hn : n < 32) (i : Nat) : bt (an_1 n) i = decide (i = n) := by
  rcases Nat.lt_or_ge i 32 with h | h
  · rw [an_1, b_shl n hn 1 h, an_bt1 (i - n) (by omega)]
    by_cases q : n ≤ i
    · simp only [q, decide_true, Bool.true_and]
      by_cases z : i = n
      · simp [z]
      · rw [decide_eq_false z, decide_eq_false (by omega)]
    · rw [decide_eq_false q, Bool.false_and, decide_eq_false (by omega)]
  · rw [b_big h, decide_eq_false (by omega)]
theorem an_1_sub {n : Nat} (hn : n < 32) {s : Int32} : an_sub (an_1 n) s ↔ bt s n = true :=
  ⟨fun h => h n (by rw [an_1_bt hn]; simp), fun h b q => by rw [an_1_bt hn, decide_eq_true_eq] at q; rw [q]; exact h⟩
theorem an_1_self {n : Nat} (hn : n < 32) : bt (an_1 n) n = true := by rw [an_1_bt hn]; simp
/-- a state of the analysis of a method: what each reference may be, what each abstract object holds in each field, what is given -/
abbrev an_T : Type := (Nat → Int32) × (Nat → Nat → Int32) × Int32
def an_le (σ τ : an_T) : Prop := (∀ r, an_sub (σ.1 r) (τ.1 r)) ∧ (∀ a g, an_sub (σ.2.1 a g) (τ.2.1 a g)) ∧ an_sub σ.2.2 τ.2.2
theorem an_le_rf (σ : an_T) : an_le σ σ := ⟨fun _ => an_sub_rf _, fun _ _ => an_sub_rf _, an_sub_rf _⟩
theorem an_le_tr {σ τ υ : an_T} (h : an_le σ τ) (k : an_le τ υ) : an_le σ υ :=
  ⟨fun r => an_sub_tr (h.1 r) (k.1 r), fun a g => an_sub_tr (h.2.1 a g) (k.2.1 a g), an_sub_tr h.2.2 k.2.2⟩
theorem an_le_eq {σ τ : an_T} (h : an_le σ τ) (k : an_le τ σ) : σ = τ :=
  Prod.ext (funext fun r => an_eq (h.1 r) (k.1 r)) (Prod.ext (funext fun a => funext fun g => an_eq (h.2.1 a g) (k.2.1 a g)) (an_eq h.2.2 k.2.2))
/-- a reference may be more -/
def an_m (σ : an_T) (x : Nat) (s : Int32) : an_T := (fun r => if r = x then σ.1 r ||| s else σ.1 r, σ.2.1, σ.2.2)
/-- some objects hold more in some fields -/
def an_h (σ : an_T) (who : Int32) (sel : Nat → Nat → Bool) (s : Int32) : an_T :=
  (σ.1, fun a g => if a < 27 ∧ g < 2 ∧ bt who a = true ∧ sel a g = true then σ.2.1 a g ||| s else σ.2.1 a g, σ.2.2)
/-- more is given -/
def an_g (σ : an_T) (s : Int32) : an_T := (σ.1, σ.2.1, σ.2.2 ||| s)
def an_al : Nat → Nat → Bool := fun _ _ => true
theorem an_m_up (σ : an_T) (x : Nat) (s : Int32) : an_le σ (an_m σ x s) := by
  refine ⟨fun r => ?_, fun a g => an_sub_rf _, an_sub_rf _⟩
  show an_sub (σ.1 r) (if r = x then σ.1 r ||| s else σ.1 r)
  split
  · exact an_sub_orl _ _
  · exact an_sub_rf _
theorem an_m_le {σ τ : an_T} {x : Nat} {s : Int32} (h : an_le σ τ) (k : an_sub s (τ.1 x)) : an_le (an_m σ x s) τ := by
  refine ⟨fun r => ?_, h.2.1, h.2.2⟩
  show an_sub (if r = x then σ.1 r ||| s else σ.1 r) (τ.1 r)
  split
  · next e => subst e; exact an_or_sub (h.1 r) k
  · exact h.1 r
theorem an_m_fix {σ : an_T} {x : Nat} {s : Int32} (h : an_le (an_m σ x s) σ) : an_sub s (σ.1 x) := by
  have q := h.1 x
  have e : (an_m σ x s).1 x = σ.1 x ||| s := if_pos rfl
  rw [e] at q
  exact an_sub_tr (an_sub_orr _ _) q
theorem an_h_up (σ : an_T) (who : Int32) (sel : Nat → Nat → Bool) (s : Int32) : an_le σ (an_h σ who sel s) := by
  refine ⟨fun r => an_sub_rf _, fun a g => ?_, an_sub_rf _⟩
  show an_sub (σ.2.1 a g) (if a < 27 ∧ g < 2 ∧ bt who a = true ∧ sel a g = true then σ.2.1 a g ||| s else σ.2.1 a g)
  split
  · exact an_sub_orl _ _
  · exact an_sub_rf _
theorem an_h_le {σ τ : an_T} {who : Int32} {sel : Nat → Nat → Bool} {s : Int32} (h : an_le σ τ)
    (k : ∀ a, a < 27 → ∀ g, g < 2 → bt who a = true → sel a g = true → an_sub s (τ.2.1 a g)) : an_le (an_h σ who sel s) τ := by
  refine ⟨h.1, fun a g => ?_, h.2.2⟩
  show an_sub (if a < 27 ∧ g < 2 ∧ bt who a = true ∧ sel a g = true then σ.2.1 a g ||| s else σ.2.1 a g) (τ.2.1 a g)
  split
  · next e => exact an_or_sub (h.2.1 a g) (k a e.1 g e.2.1 e.2.2.1 e.2.2.2)
  · exact h.2.1 a g
theorem an_h_fix {σ : an_T} {who : Int32} {sel : Nat → Nat → Bool} {s : Int32} (h : an_le (an_h σ who sel s) σ) {a : Nat} (ha : a < 27) {g : Nat} (hg : g < 2) (hw : bt who a = true) (hs : sel a g = true) : an_sub s (σ.2.1 a g) := by
  have q := h.2.1 a g
  have e : (an_h σ who sel s).2.1 a g = σ.2.1 a g ||| s := if_pos ⟨ha, hg, hw, hs⟩
  rw [e] at q
  exact an_sub_tr (an_sub_orr _ _) q
theorem an_g_up (σ : an_T) (s : Int32) : an_le σ (an_g σ s) := ⟨fun r => an_sub_rf _, fun a g => an_sub_rf _, an_sub_orl _ _⟩
theorem an_g_le {σ τ : an_T} {s : Int32} (h : an_le σ τ) (k : an_sub s τ.2.2) : an_le (an_g σ s) τ := ⟨h.1, h.2.1, an_or_sub h.2.2 k⟩
theorem an_g_fix {σ : an_T} {s : Int32} (h : an_le (an_g σ s) σ) : an_sub s σ.2.2 := an_sub_tr (an_sub_orr _ _) h.2.2
/-- what is reached: the least set -/
def an_R (h : Nat → Nat → Int32) (s : Int32) (b : Nat) : Prop :=
  ∀ S : Nat → Prop, (∀ b, bt s b = true → S b) → (∀ a, a < 27 → S a → ∀ g, g < 2 → ∀ b, bt (h a g) b = true → S b) → S b
theorem an_R_0 {h : Nat → Nat → Int32} {s : Int32} {b : Nat} (hb : bt s b = true) : an_R h s b := fun _ h0 _ => h0 b hb
theorem an_R_s {h : Nat → Nat → Int32} {s : Int32} {a g b : Nat} (hr : an_R h s a) (ha : a < 27) (hg : g < 2) (hb : bt (h a g) b = true) : an_R h s b :=
  fun S h0 hs => hs a ha (hr S h0 hs) g hg b hb
theorem an_R_mono {h k : Nat → Nat → Int32} {s t : Int32} (hh : ∀ a g, an_sub (h a g) (k a g)) (hs : an_sub s t) {b : Nat} (hr : an_R h s b) : an_R k t b :=
  hr (an_R k t) (fun b q => an_R_0 (hs b q)) (fun a ha q g hg b z => an_R_s q ha hg (hh a g b z))
/-- from a set that is reached nothing more is reached -/
theorem an_R_tr {h : Nat → Nat → Int32} {s t : Int32} (hs : ∀ b, bt t b = true → an_R h s b) {b : Nat} (hr : an_R h t b) : an_R h s b :=
  hr (an_R h s) hs (fun _ ha q _ hg _ z => an_R_s q ha hg z)
theorem an_R_or {h : Nat → Nat → Int32} {s t : Int32} {b : Nat} : an_R h (s ||| t) b ↔ an_R h s b ∨ an_R h t b := by
  constructor
  · intro hr
    refine hr (fun b => an_R h s b ∨ an_R h t b) (fun b q => ?_) (fun a ha q g hg b z => ?_)
    · rw [b_or, Bool.or_eq_true] at q
      exact q.imp an_R_0 an_R_0
    · exact q.imp (fun q => an_R_s q ha hg z) (fun q => an_R_s q ha hg z)
  · rintro (q | q)
    · exact an_R_mono (fun _ _ => an_sub_rf _) (an_sub_orl _ _) q
    · exact an_R_mono (fun _ _ => an_sub_rf _) (an_sub_orr _ _) q
/-- a set that holds all that its own hold -/
def an_C (h : Nat → Nat → Int32) (s : Int32) : Prop := ∀ a, a < 27 → bt s a = true → ∀ g, g < 2 → an_sub (h a g) s
theorem an_C_R {h : Nat → Nat → Int32} {s t : Int32} (hc : an_C h t) (hs : an_sub s t) {b : Nat} (hr : an_R h s b) : bt t b = true :=
  hr (fun b => bt t b = true) hs (fun a ha q g hg b z => hc a ha q g hg b z)
/-- how many of the first n bits are there -/
def an_cnt (s : Int32) : Nat → Nat
  | 0 => 0
  | n + 1 => an_cnt s n + (if bt s n = true then 1 else 0)
theorem an_cnt_n (s : Int32) : ∀ n, an_cnt s n ≤ n := by
  intro n
  induction n with
  | zero => exact Nat.le_refl _
  | succ n ih => simp only [an_cnt]; split <;> omega
theorem an_cnt_le {s t : Int32} (h : an_sub s t) : ∀ n, an_cnt s n ≤ an_cnt t n := by
  intro n
  induction n with
  | zero => exact Nat.le_refl _
  | succ n ih =>
    simp only [an_cnt]
    by_cases q : bt s n = true
    · rw [if_pos q, if_pos (h n q)]; omega
    · rw [if_neg q]; omega
theorem an_cnt_eq {s t : Int32} (h : an_sub s t) : ∀ n, an_cnt t n ≤ an_cnt s n → ∀ a, a < n → bt t a = true → bt s a = true := by
  intro n
  induction n with
  | zero => intro _ a ha; omega
  | succ n ih =>
    intro hc a ha hb
    have hn := an_cnt_le h n
    simp only [an_cnt] at hc
    by_cases q : bt s n = true
    · rw [if_pos q, if_pos (h n q)] at hc
      by_cases z : a = n
      · rw [z]; exact q
      · exact ih (by omega) a (by omega) hb
    · rw [if_neg q] at hc
      by_cases w : bt t n = true
      · rw [if_pos w] at hc; omega
      · by_cases z : a = n
        · rw [z] at hb; exact absurd hb w
        · exact ih (by rw [if_neg w] at hc; omega) a (by omega) hb
theorem an_cnt_pos {s : Int32} {a : Nat} (hb : bt s a = true) : ∀ n, a < n → 0 < an_cnt s n := by
  intro n
  induction n with
  | zero => intro h; omega
  | succ n ih =>
    intro h
    simp only [an_cnt]
    by_cases z : a = n
    · rw [← z, if_pos hb]; omega
    · have := ih (by omega); omega
/-- the class: what these hold in one field -/
def an_hb (row : Nat → Int32) (who : Int32) : Nat → Int32
  | 0 => 0
  | a + 1 => if bt who a = true then an_hb row who a ||| row a else an_hb row who a
theorem an_hb_bt (row : Nat → Int32) (who : Int32) (b : Nat) : ∀ n, bt (an_hb row who n) b = true ↔ ∃ a, a < n ∧ bt who a = true ∧ bt (row a) b = true := by
  intro n
  induction n with
  | zero => simp [an_hb, b_0]
  | succ n ih =>
    simp only [an_hb]
    by_cases q : bt who n = true
    · rw [if_pos q, b_or, Bool.or_eq_true, ih]
      constructor
      · rintro (⟨a, h1, h2, h3⟩ | h)
        · exact ⟨a, by omega, h2, h3⟩
        · exact ⟨n, by omega, q, h⟩
      · rintro ⟨a, h1, h2, h3⟩
        by_cases z : a = n
        · rw [z] at h3; exact Or.inr h3
        · exact Or.inl ⟨a, by omega, h2, h3⟩
    · rw [if_neg q, ih]
      constructor
      · rintro ⟨a, h1, h2, h3⟩
        exact ⟨a, by omega, h2, h3⟩
      · rintro ⟨a, h1, h2, h3⟩
        by_cases z : a = n
        · rw [z] at h2; exact absurd h2 q
        · exact ⟨a, by omega, h2, h3⟩
/-- one round of the class -/
def an_rnd (h : Nat → Nat → Int32) (s : Int32) : Int32 := s ||| an_hb (fun a => h a 0) s 27 ||| an_hb (fun a => h a 1) s 27
def an_rcn (h : Nat → Nat → Int32) : Nat → Int32 → Int32
  | 0, s => s
  | n + 1, s => if an_rnd h s = s then s else an_rcn h n (an_rnd h s)
/-- what the class finds reached -/
def an_rc (h : Nat → Nat → Int32) (s : Int32) : Int32 := an_rcn h 27 s
theorem an_rnd_up (h : Nat → Nat → Int32) (s : Int32) : an_sub s (an_rnd h s) := an_sub_tr (an_sub_orl _ _) (an_sub_orl _ _)
theorem an_rnd_in {h : Nat → Nat → Int32} {s : Int32} {a g : Nat} (ha : a < 27) (hg : g < 2) (hs : bt s a = true) : an_sub (h a g) (an_rnd h s) := by
  intro b hb
  simp only [an_rnd, b_or, Bool.or_eq_true, an_hb_bt]
  rcases (show g = 0 ∨ g = 1 by omega) with e | e
  · subst e; exact Or.inl (Or.inr ⟨a, ha, hs, hb⟩)
  · subst e; exact Or.inr ⟨a, ha, hs, hb⟩
theorem an_rnd_R {h : Nat → Nat → Int32} {s : Int32} {b : Nat} (hb : bt (an_rnd h s) b = true) : an_R h s b := by
  simp only [an_rnd, b_or, Bool.or_eq_true, an_hb_bt] at hb
  rcases hb with (hb | ⟨a, ha, hs, hb⟩) | ⟨a, ha, hs, hb⟩
  · exact an_R_0 hb
  · exact an_R_s (g := 0) (an_R_0 hs) ha (by omega) hb
  · exact an_R_s (g := 1) (an_R_0 hs) ha (by omega) hb
theorem an_rnd_C {h : Nat → Nat → Int32} {s : Int32} (e : an_C h s) : an_rnd h s = s := by
  refine an_eq (fun b hb => ?_) (an_rnd_up h s)
  exact an_C_R e (an_sub_rf s) (an_rnd_R hb)
theorem an_rnd_cnt {h : Nat → Nat → Int32} {s : Int32} (e : an_cnt (an_rnd h s) 27 ≤ an_cnt s 27) : an_C h (an_rnd h s) :=
  fun a ha hs _ hg => an_rnd_in ha hg (an_cnt_eq (an_rnd_up h s) 27 e a ha hs)
theorem an_rcn_C {h : Nat → Nat → Int32} : ∀ n s, an_C h s → an_rcn h n s = s := by
  intro n
  cases n with
  | zero => intro s _; rfl
  | succ n => intro s e; simp only [an_rcn]; rw [if_pos (an_rnd_C e)]
theorem an_rcn_cl {h : Nat → Nat → Int32} : ∀ n s, 28 ≤ n + an_cnt s 27 → an_C h (an_rcn h n s) := by
  intro n
  induction n with
  | zero => intro s q; have := an_cnt_n s 27; omega
  | succ n ih =>
    intro s q
    simp only [an_rcn]
    by_cases e : an_rnd h s = s
    · rw [if_pos e]
      intro a ha hs g hg
      have := an_rnd_in (h := h) ha hg hs
      rw [e] at this
      exact this
    · rw [if_neg e]
      by_cases z : an_cnt (an_rnd h s) 27 ≤ an_cnt s 27
      · have c := an_rnd_cnt z
        rw [an_rcn_C n _ c]
        exact c
      · exact ih _ (by omega)
theorem an_rcn_up {h : Nat → Nat → Int32} : ∀ n s, an_sub s (an_rcn h n s) := by
  intro n
  induction n with
  | zero => intro s; exact an_sub_rf s
  | succ n ih =>
    intro s
    simp only [an_rcn]
    split
    · exact an_sub_rf s
    · exact an_sub_tr (an_rnd_up h s) (ih _)
theorem an_rcn_R {h : Nat → Nat → Int32} : ∀ n s b, bt (an_rcn h n s) b = true → an_R h s b := by
  intro n
  induction n with
  | zero => intro s b q; exact an_R_0 q
  | succ n ih =>
    intro s b q
    simp only [an_rcn] at q
    by_cases e : an_rnd h s = s
    · rw [if_pos e] at q; exact an_R_0 q
    · rw [if_neg e] at q; exact an_R_tr (fun b z => an_rnd_R z) (ih _ b q)
theorem an_rc_cl (h : Nat → Nat → Int32) (s : Int32) : an_C h (an_rc h s) := by
  by_cases q : ∃ a, a < 27 ∧ bt s a = true
  · obtain ⟨a, ha, hb⟩ := q
    exact an_rcn_cl 27 s (by have := an_cnt_pos hb 27 ha; omega)
  · have c : an_C h s := fun a ha hb _ _ => absurd ⟨a, ha, hb⟩ q
    rw [an_rc, an_rcn_C 27 s c]
    exact c
theorem an_rc_bt (h : Nat → Nat → Int32) (s : Int32) (b : Nat) : bt (an_rc h s) b = true ↔ an_R h s b :=
  ⟨an_rcn_R 27 s b, an_C_R (an_rc_cl h s) (an_rcn_up 27 s)⟩
/-- the reference: one turn -/
def an_rt (h : Nat → Nat → Int32) (s : Int32) : Nat → Int32
  | 0 => s
  | o + 1 => if bt (an_rt h s o) o = true then an_rt h s o ||| h o 0 ||| h o 1 else an_rt h s o
theorem an_rt_up (h : Nat → Nat → Int32) (s : Int32) : ∀ n, an_sub (an_rt h s n) (an_rt h s (n + 1)) := by
  intro n
  simp only [an_rt]
  split
  · exact an_sub_tr (an_sub_orl _ _) (an_sub_orl _ _)
  · exact an_sub_rf _
theorem an_rt_le (h : Nat → Nat → Int32) (s : Int32) {k n : Nat} (hk : k ≤ n) : an_sub (an_rt h s k) (an_rt h s n) := by
  induction n with
  | zero => have e : k = 0 := by omega
            subst e; exact an_sub_rf _
  | succ n ih =>
    by_cases e : k = n + 1
    · subst e; exact an_sub_rf _
    · exact an_sub_tr (ih (by omega)) (an_rt_up h s n)
theorem an_rt_R {h : Nat → Nat → Int32} {s : Int32} : ∀ n, n ≤ 27 → ∀ b, bt (an_rt h s n) b = true → an_R h s b := by
  intro n
  induction n with
  | zero => intro _ b q; exact an_R_0 q
  | succ n ih =>
    intro hn b q
    simp only [an_rt] at q
    by_cases e : bt (an_rt h s n) n = true
    · rw [if_pos e, b_or, b_or, Bool.or_eq_true, Bool.or_eq_true] at q
      rcases q with (q | q) | q
      · exact ih (by omega) b q
      · exact an_R_s (g := 0) (ih (by omega) n e) (by omega) (by omega) q
      · exact an_R_s (g := 1) (ih (by omega) n e) (by omega) (by omega) q
    · rw [if_neg e] at q; exact ih (by omega) b q
theorem an_rt_cnt {h : Nat → Nat → Int32} {s : Int32} (e : an_cnt (an_rt h s 27) 27 ≤ an_cnt s 27) : an_C h (an_rt h s 27) := by
  intro a ha hs g hg b hb
  have h0 : bt s a = true := an_cnt_eq (an_rt_le h s (Nat.zero_le 27)) 27 e a ha hs
  have h1 : bt (an_rt h s a) a = true := an_rt_le h s (Nat.zero_le a) a h0
  have h2 : bt (an_rt h s (a + 1)) b = true := by
    simp only [an_rt]
    rw [if_pos h1, b_or, b_or, Bool.or_eq_true, Bool.or_eq_true]
    rcases (show g = 0 ∨ g = 1 by omega) with z | z
    · subst z; exact Or.inl (Or.inr hb)
    · subst z; exact Or.inr hb
  exact an_rt_le h s (by omega : a + 1 ≤ 27) b h2
theorem an_rt_C {h : Nat → Nat → Int32} {s : Int32} (c : an_C h s) : an_rt h s 27 = s :=
  an_eq (fun b hb => an_C_R c (an_sub_rf s) (an_rt_R 27 (by omega) b hb)) (an_rt_le h s (Nat.zero_le 27))
def an_rr (h : Nat → Nat → Int32) : Nat → Int32 → Int32
  | 0, s => s
  | n + 1, s => an_rr h n (an_rt h s 27)
theorem an_rr_C {h : Nat → Nat → Int32} : ∀ n s, an_C h s → an_rr h n s = s := by
  intro n
  induction n with
  | zero => intro s _; rfl
  | succ n ih => intro s c; simp only [an_rr]; rw [an_rt_C c]; exact ih s c
theorem an_rr_cl {h : Nat → Nat → Int32} : ∀ n s, 28 ≤ n + an_cnt s 27 → an_C h (an_rr h n s) := by
  intro n
  induction n with
  | zero => intro s q; have := an_cnt_n s 27; omega
  | succ n ih =>
    intro s q
    simp only [an_rr]
    by_cases z : an_cnt (an_rt h s 27) 27 ≤ an_cnt s 27
    · have c := an_rt_cnt z
      rw [an_rr_C n _ c]
      exact c
    · exact ih _ (by omega)
theorem an_rr_up {h : Nat → Nat → Int32} : ∀ n s, an_sub s (an_rr h n s) := by
  intro n
  induction n with
  | zero => intro s; exact an_sub_rf s
  | succ n ih => intro s; simp only [an_rr]; exact an_sub_tr (an_rt_le h s (Nat.zero_le 27)) (ih _)
theorem an_rr_R {h : Nat → Nat → Int32} : ∀ n s b, bt (an_rr h n s) b = true → an_R h s b := by
  intro n
  induction n with
  | zero => intro s b q; exact an_R_0 q
  | succ n ih => intro s b q; simp only [an_rr] at q; exact an_R_tr (fun b z => an_rt_R 27 (by omega) b z) (ih _ b q)
/-- what the reference finds reached is what the class finds -/
theorem an_rr_eq (h : Nat → Nat → Int32) (s : Int32) : an_rr h 28 s = an_rc h s := by
  refine an_eq (fun b q => (an_rc_bt h s b).mpr (an_rr_R 28 s b q)) (fun b q => ?_)
  exact an_C_R (an_rr_cl 28 s (by omega)) (an_rr_up 28 s) ((an_rc_bt h s b).mp q)
end
section
/-! THE ANALYSIS, 2: what each instruction asks, what each step adds -/
/-- an instruction: op, x, y, z, n -/
abbrev an_I : Type := Nat × Nat × Nat × Nat × Int32
/-- what is known of the callees: inputs, the state of an argument, whether it meets the world -/
abbrev an_E : Type := (Nat → Nat) × (Nat → Nat → Nat) × (Nat → Nat → Bool)
def an_W : Int32 := an_1 26
theorem an_W_bt (i : Nat) : bt an_W i = decide (i = 26) := an_1_bt (by omega) i
theorem an_W_26 : bt an_W 26 = true := by rw [an_W_bt]; rfl
def an_ag (σ : an_T) (y z p : Nat) : Int32 := σ.1 (if p = 0 then y else z)
def an_bo (σ : an_T) (k y z : Nat) : Int32 := if k = 2 then σ.1 y ||| σ.1 z else σ.1 y
theorem an_ag_le {σ τ : an_T} (h : an_le σ τ) (y z p : Nat) : an_sub (an_ag σ y z p) (an_ag τ y z p) := h.1 _
theorem an_bo_le {σ τ : an_T} (h : an_le σ τ) (k y z : Nat) : an_sub (an_bo σ k y z) (an_bo τ k y z) := by
  unfold an_bo
  split
  · exact an_or_sub (an_sub_tr (h.1 y) (an_sub_orl _ _)) (an_sub_tr (h.1 z) (an_sub_orr _ _))
  · exact h.1 y
/-- what a CALL asks of argument p: first -/
def an_o1 (E : an_E) (τ : an_T) (y z n p : Nat) : Prop :=
  ∀ a, a < 27 → an_R τ.2.1 (an_ag τ y z p) a → ∀ g, g < 2 → (∀ b, an_R τ.2.1 (an_ag τ y z p) b → bt (τ.2.1 a g) b = true) ∧ (E.2.2 n p = true → bt (τ.2.1 a g) 26 = true)
/-- then -/
def an_o2 (E : an_E) (τ : an_T) (x y z n p : Nat) (bo : Int32) : Prop :=
  (E.2.1 n p = 2 → ∀ g, g < 2 → an_sub (an_ag τ y z p) (τ.2.1 26 g)) ∧
  (E.2.1 n p = 1 → (∀ a, a < 27 → an_R τ.2.1 bo a → ∀ g, g < 2 → ∀ b, an_R τ.2.1 bo b → bt (τ.2.1 a g) b = true) ∧ ∀ b, an_R τ.2.1 bo b → bt (τ.1 x) b = true)
def an_o0 (τ : an_T) (x : Nat) : Prop :=
  (∀ a, a < 27 → an_R τ.2.1 an_W a → ∀ g, g < 2 → bt (τ.2.1 a g) 26 = true) ∧ an_sub (τ.2.1 26 0) (τ.1 x)
def an_okc (E : an_E) (τ : an_T) (x y z n : Nat) : Prop :=
  an_o0 τ x ∧ ∀ p, p < E.1 n → an_o1 E τ y z n p ∧ an_o2 E τ x y z n p (an_bo τ (E.1 n) y z)
/-- what an instruction asks -/
def an_ok (E : an_E) (i : Nat) (I : an_I) (τ : an_T) : Prop :=
  if I.1 = 0 then bt (τ.1 I.2.1) i = true
  else if I.1 = 1 then an_sub (τ.1 I.2.2.1) (τ.1 I.2.1)
  else if I.1 = 3 then ∀ a, a < 27 → bt (τ.1 I.2.2.1) a = true → an_sub (τ.2.1 a I.2.2.2.1) (τ.1 I.2.1)
  else if I.1 = 4 then ∀ a, a < 27 → ∀ g, g < 2 → bt (τ.1 I.2.1) a = true → (23 < a ∨ g = I.2.2.2.1) → an_sub (τ.1 I.2.2.1) (τ.2.1 a g)
  else if I.1 = 12 then ∀ g, g < 2 → an_sub (τ.1 I.2.1) (τ.2.1 26 g)
  else if I.1 = 13 then an_sub (τ.2.1 26 0) (τ.1 I.2.1)
  else if I.1 = 16 then an_okc E τ I.2.1 I.2.2.1 I.2.2.2.1 I.2.2.2.2.toNatClampNeg
  else if I.1 = 17 then an_sub (τ.1 I.2.1) τ.2.2
  else True
/-- a step is good for what is asked: it only adds, it adds nothing that is not asked for, and when it adds nothing, what is asked holds -/
def an_good (ok : an_T → Prop) (f : an_T → an_T) : Prop :=
  (∀ σ, an_le σ (f σ)) ∧ (∀ σ τ, ok τ → an_le σ τ → an_le (f σ) τ) ∧ (∀ σ, an_le (f σ) σ → ok σ)
/-- the steps of a CALL -/
def an_c0 (x : Nat) (σ : an_T) : an_T := an_m (an_h σ (an_rc σ.2.1 an_W) an_al an_W) x ((an_h σ (an_rc σ.2.1 an_W) an_al an_W).2.1 26 0)
def an_r1 (E : an_E) (y z n p : Nat) (σ : an_T) : an_T :=
  an_h σ (an_rc σ.2.1 (an_ag σ y z p)) an_al (if E.2.2 n p = true then an_rc σ.2.1 (an_ag σ y z p) ||| an_W else an_rc σ.2.1 (an_ag σ y z p))
def an_r2 (E : an_E) (x y z n : Nat) (bo : Int32) (p : Nat) (σ : an_T) : an_T :=
  if E.2.1 n p = 2 then an_h σ an_W an_al (an_ag σ y z p)
  else if E.2.1 n p = 1 then an_m (an_h σ (an_rc σ.2.1 bo) an_al (an_rc σ.2.1 bo)) x (an_rc σ.2.1 bo)
  else σ
theorem an_c0_good (x : Nat) : an_good (fun τ => an_o0 τ x) (an_c0 x) := by
  refine ⟨fun σ => an_le_tr (an_h_up _ _ _ _) (an_m_up _ _ _), fun σ τ ho h => ?_, fun σ h => ?_⟩
  · have h1 : an_le (an_h σ (an_rc σ.2.1 an_W) an_al an_W) τ := by
      refine an_h_le h (fun a ha g hg hw _ => (an_1_sub (by omega)).mpr ?_)
      exact ho.1 a ha (an_R_mono h.2.1 (an_sub_rf _) ((an_rc_bt _ _ _).mp hw)) g hg
    exact an_m_le h1 (an_sub_tr (h1.2.1 26 0) ho.2)
  · have e : an_h σ (an_rc σ.2.1 an_W) an_al an_W = σ := an_le_eq (an_le_tr (an_m_up _ _ _) h) (an_h_up _ _ _ _)
    refine ⟨fun a ha hr g hg => (an_1_sub (n := 26) (by omega)).mp ?_, ?_⟩
    · exact an_h_fix (who := an_rc σ.2.1 an_W) (sel := an_al) (by show an_le (an_h σ (an_rc σ.2.1 an_W) an_al an_W) σ; rw [e]; exact an_le_rf σ) ha hg ((an_rc_bt _ _ _).mpr hr) rfl
    · have q := an_m_fix (σ := an_h σ (an_rc σ.2.1 an_W) an_al an_W) (x := x) (s := (an_h σ (an_rc σ.2.1 an_W) an_al an_W).2.1 26 0) (an_le_tr h (an_h_up _ _ _ _))
      rw [e] at q
      exact q
theorem an_r1_good (E : an_E) (y z n p : Nat) : an_good (fun τ => an_o1 E τ y z n p) (an_r1 E y z n p) := by
  refine ⟨fun σ => an_h_up _ _ _ _, fun σ τ ho h => an_h_le h (fun a ha g hg hw _ => ?_), fun σ h a ha hr g hg => ?_⟩
  · have hm : ∀ b, bt (an_rc σ.2.1 (an_ag σ y z p)) b = true → an_R τ.2.1 (an_ag τ y z p) b := fun b q => an_R_mono h.2.1 (an_ag_le h y z p) ((an_rc_bt _ _ _).mp q)
    have o := ho a ha (hm a hw) g hg
    split
    · next k => exact an_or_sub (fun b q => o.1 b (hm b q)) ((an_1_sub (by omega)).mpr (o.2 k))
    · exact fun b q => o.1 b (hm b q)
  · have q := an_h_fix h ha hg ((an_rc_bt _ _ _).mpr hr) rfl
    constructor
    · intro b hb
      have hb' := (an_rc_bt _ _ _).mpr hb
      split at q
      · exact q b (an_sub_orl _ _ b hb')
      · exact q b hb'
    · intro k
      rw [if_pos k] at q
      exact q 26 (an_sub_orr _ _ 26 an_W_26)
theorem an_r2_up (E : an_E) (x y z n : Nat) (bo : Int32) (p : Nat) (σ : an_T) : an_le σ (an_r2 E x y z n bo p σ) := by
  unfold an_r2
  split
  · exact an_h_up _ _ _ _
  · split
    · exact an_le_tr (an_h_up _ _ _ _) (an_m_up _ _ _)
    · exact an_le_rf σ
theorem an_r2_le {E : an_E} {x y z n : Nat} {bo bo' : Int32} {p : Nat} {σ τ : an_T} (hb : an_sub bo bo') (ho : an_o2 E τ x y z n p bo') (h : an_le σ τ) : an_le (an_r2 E x y z n bo p σ) τ := by
  unfold an_r2
  split
  · next k =>
    refine an_h_le h (fun a ha g hg hw _ => ?_)
    rw [an_W_bt, decide_eq_true_eq] at hw
    subst hw
    exact an_sub_tr (an_ag_le h y z p) (ho.1 k g hg)
  · split
    · next k =>
      have hm : ∀ b, bt (an_rc σ.2.1 bo) b = true → an_R τ.2.1 bo' b := fun b q => an_R_mono h.2.1 hb ((an_rc_bt _ _ _).mp q)
      refine an_m_le (an_h_le h (fun a ha g hg hw _ b q => ?_)) (fun b q => ?_)
      · exact (ho.2 k).1 a ha (hm a hw) g hg b (hm b q)
      · exact (ho.2 k).2 b (hm b q)
    · exact h
theorem an_r2_fix {E : an_E} {x y z n : Nat} {bo : Int32} {p : Nat} {σ : an_T} (h : an_le (an_r2 E x y z n bo p σ) σ) : an_o2 E σ x y z n p bo := by
  unfold an_r2 at h
  constructor
  · intro k
    rw [if_pos k] at h
    intro g hg
    exact an_h_fix h (by omega) hg an_W_26 rfl
  · intro k
    rw [if_neg (by omega), if_pos k] at h
    have h1 : an_le (an_h σ (an_rc σ.2.1 bo) an_al (an_rc σ.2.1 bo)) σ := an_le_tr (an_m_up _ _ _) h
    refine ⟨fun a ha hr g hg b hb => ?_, fun b hb => ?_⟩
    · exact an_h_fix h1 ha hg ((an_rc_bt _ _ _).mpr hr) rfl b ((an_rc_bt _ _ _).mpr hb)
    · have e := an_le_eq h1 (an_h_up _ _ _ _)
      have q := an_m_fix (σ := an_h σ (an_rc σ.2.1 bo) an_al (an_rc σ.2.1 bo)) (x := x) (s := an_rc σ.2.1 bo) (an_le_tr h (an_h_up _ _ _ _))
      rw [e] at q
      exact q b ((an_rc_bt _ _ _).mpr hb)
/-- CALL in the class: argument by argument -/
def an_ca (E : an_E) (x y z n p : Nat) (σ : an_T) : an_T := an_r2 E x y z n (an_bo (an_r1 E y z n p σ) (E.1 n) y z) p (an_r1 E y z n p σ)
def an_cn (E : an_E) (x y z n : Nat) : Nat → an_T → an_T
  | 0, σ => an_c0 x σ
  | p + 1, σ => an_ca E x y z n p (an_cn E x y z n p σ)
/-- CALL in the reference: first all arguments, then all arguments again -/
def an_rn1 (E : an_E) (x y z n : Nat) : Nat → an_T → an_T
  | 0, σ => an_c0 x σ
  | p + 1, σ => an_r1 E y z n p (an_rn1 E x y z n p σ)
def an_rn2 (E : an_E) (x y z n : Nat) (bo : Int32) : Nat → an_T → an_T
  | 0, σ => σ
  | p + 1, σ => an_r2 E x y z n bo p (an_rn2 E x y z n bo p σ)
def an_rn (E : an_E) (x y z n : Nat) (σ : an_T) : an_T := an_rn2 E x y z n (an_bo (an_rn1 E x y z n (E.1 n) σ) (E.1 n) y z) (E.1 n) (an_rn1 E x y z n (E.1 n) σ)
theorem an_cn_good (E : an_E) (x y z n : Nat) : ∀ k, an_good (fun τ => an_o0 τ x ∧ ∀ p, p < k → an_o1 E τ y z n p ∧ an_o2 E τ x y z n p (an_bo τ (E.1 n) y z)) (an_cn E x y z n k) := by
  intro k
  induction k with
  | zero =>
    have g := an_c0_good x
    exact ⟨g.1, fun σ τ ho h => g.2.1 σ τ ho.1 h, fun σ h => ⟨g.2.2 σ h, fun p hp => absurd hp (by omega)⟩⟩
  | succ k ih =>
    have g1 := an_r1_good E y z n k
    refine ⟨fun σ => ?_, fun σ τ ho h => ?_, fun σ h => ?_⟩
    · exact an_le_tr (ih.1 σ) (an_le_tr (g1.1 _) (an_r2_up _ _ _ _ _ _ _ _))
    · have h1 := ih.2.1 σ τ ⟨ho.1, fun p hp => ho.2 p (by omega)⟩ h
      have h2 := g1.2.1 _ τ (ho.2 k (by omega)).1 h1
      exact an_r2_le (an_bo_le h2 _ _ _) (ho.2 k (by omega)).2 h2
    · have u1 := ih.1 σ
      have u2 := g1.1 (an_cn E x y z n k σ)
      have u3 := an_r2_up E x y z n (an_bo (an_r1 E y z n k (an_cn E x y z n k σ)) (E.1 n) y z) k (an_r1 E y z n k (an_cn E x y z n k σ))
      have e1 : an_cn E x y z n k σ = σ := an_le_eq (an_le_tr u2 (an_le_tr u3 h)) u1
      have h' : an_le (an_ca E x y z n k (an_cn E x y z n k σ)) σ := h
      rw [e1] at h' u2 u3
      have e2 : an_r1 E y z n k σ = σ := an_le_eq (an_le_tr u3 h') u2
      have h3 : an_le (an_r2 E x y z n (an_bo σ (E.1 n) y z) k σ) σ := by
        have := h'
        unfold an_ca at this
        rw [e2] at this
        exact this
      have hk := ih.2.2 σ (by rw [e1]; exact an_le_rf σ)
      refine ⟨hk.1, fun p hp => ?_⟩
      by_cases z0 : p = k
      · subst z0
        exact ⟨g1.2.2 σ (by rw [e2]; exact an_le_rf σ), an_r2_fix h3⟩
      · exact hk.2 p (by omega)
theorem an_rn1_good (E : an_E) (x y z n : Nat) : ∀ k, an_good (fun τ => an_o0 τ x ∧ ∀ p, p < k → an_o1 E τ y z n p) (an_rn1 E x y z n k) := by
  intro k
  induction k with
  | zero =>
    have g := an_c0_good x
    exact ⟨g.1, fun σ τ ho h => g.2.1 σ τ ho.1 h, fun σ h => ⟨g.2.2 σ h, fun p hp => absurd hp (by omega)⟩⟩
  | succ k ih =>
    have g1 := an_r1_good E y z n k
    refine ⟨fun σ => an_le_tr (ih.1 σ) (g1.1 _), fun σ τ ho h => ?_, fun σ h => ?_⟩
    · exact g1.2.1 _ τ (ho.2 k (by omega)) (ih.2.1 σ τ ⟨ho.1, fun p hp => ho.2 p (by omega)⟩ h)
    · have u1 := ih.1 σ
      have u2 := g1.1 (an_rn1 E x y z n k σ)
      have e1 : an_rn1 E x y z n k σ = σ := an_le_eq (an_le_tr u2 h) u1
      have h' : an_le (an_r1 E y z n k (an_rn1 E x y z n k σ)) σ := h
      rw [e1] at h'
      have hk := ih.2.2 σ (by rw [e1]; exact an_le_rf σ)
      refine ⟨hk.1, fun p hp => ?_⟩
      by_cases z0 : p = k
      · subst z0; exact g1.2.2 σ h'
      · exact hk.2 p (by omega)
theorem an_rn2_up (E : an_E) (x y z n : Nat) (bo : Int32) (σ : an_T) : ∀ k, an_le σ (an_rn2 E x y z n bo k σ) := by
  intro k
  induction k with
  | zero => exact an_le_rf σ
  | succ k ih => exact an_le_tr ih (an_r2_up _ _ _ _ _ _ _ _)
theorem an_rn2_le {E : an_E} {x y z n : Nat} {bo bo' : Int32} {σ τ : an_T} (hb : an_sub bo bo') (h : an_le σ τ) : ∀ k, (∀ p, p < k → an_o2 E τ x y z n p bo') → an_le (an_rn2 E x y z n bo k σ) τ := by
  intro k
  induction k with
  | zero => intro _; exact h
  | succ k ih => intro ho; exact an_r2_le hb (ho k (by omega)) (ih (fun p hp => ho p (by omega)))
theorem an_rn2_fix {E : an_E} {x y z n : Nat} {bo : Int32} {σ : an_T} : ∀ k, an_le (an_rn2 E x y z n bo k σ) σ → ∀ p, p < k → an_o2 E σ x y z n p bo := by
  intro k
  induction k with
  | zero => intro _ p hp; omega
  | succ k ih =>
    intro h p hp
    have u := an_r2_up E x y z n bo k (an_rn2 E x y z n bo k σ)
    have h1 : an_le (an_rn2 E x y z n bo k σ) σ := an_le_tr u h
    by_cases z0 : p = k
    · subst z0
      have e := an_le_eq h1 (an_rn2_up E x y z n bo σ p)
      have h' : an_le (an_r2 E x y z n bo p (an_rn2 E x y z n bo p σ)) σ := h
      rw [e] at h'
      exact an_r2_fix h'
    · exact ih h1 p (by omega)
theorem an_rn_good (E : an_E) (x y z n : Nat) : an_good (fun τ => an_okc E τ x y z n) (an_rn E x y z n) := by
  have g1 := an_rn1_good E x y z n (E.1 n)
  refine ⟨fun σ => an_le_tr (g1.1 σ) (an_rn2_up _ _ _ _ _ _ _ _), fun σ τ ho h => ?_, fun σ h => ?_⟩
  · have h1 := g1.2.1 σ τ ⟨ho.1, fun p hp => (ho.2 p hp).1⟩ h
    exact an_rn2_le (an_bo_le h1 _ _ _) h1 _ (fun p hp => (ho.2 p hp).2)
  · have u1 := g1.1 σ
    have u2 := an_rn2_up E x y z n (an_bo (an_rn1 E x y z n (E.1 n) σ) (E.1 n) y z) (an_rn1 E x y z n (E.1 n) σ) (E.1 n)
    have e1 : an_rn1 E x y z n (E.1 n) σ = σ := an_le_eq (an_le_tr u2 h) u1
    have k1 := g1.2.2 σ (by rw [e1]; exact an_le_rf σ)
    have h' : an_le (an_rn2 E x y z n (an_bo (an_rn1 E x y z n (E.1 n) σ) (E.1 n) y z) (E.1 n) (an_rn1 E x y z n (E.1 n) σ)) σ := h
    rw [e1] at h'
    exact ⟨k1.1, fun p hp => ⟨k1.2 p hp, an_rn2_fix _ h' p hp⟩⟩
/-- a step, the CALL being 'call' -/
def an_st (call : Nat → Nat → Nat → Nat → an_T → an_T) (i : Nat) (I : an_I) (σ : an_T) : an_T :=
  if I.1 = 0 then an_m σ I.2.1 (an_1 i)
  else if I.1 = 1 then an_m σ I.2.1 (σ.1 I.2.2.1)
  else if I.1 = 3 then an_m σ I.2.1 (an_hb (fun a => σ.2.1 a I.2.2.2.1) (σ.1 I.2.2.1) 27)
  else if I.1 = 4 then an_h σ (σ.1 I.2.1) (fun a g => decide (23 < a) || decide (g = I.2.2.2.1)) (σ.1 I.2.2.1)
  else if I.1 = 12 then an_h σ an_W an_al (σ.1 I.2.1)
  else if I.1 = 13 then an_m σ I.2.1 (σ.2.1 26 0)
  else if I.1 = 16 then call I.2.1 I.2.2.1 I.2.2.2.1 I.2.2.2.2.toNatClampNeg σ
  else if I.1 = 17 then an_g σ (σ.1 I.2.1)
  else σ
theorem an_good_m {ok : an_T → Prop} {x : Nat} {s : an_T → Int32} (mono : ∀ σ τ, an_le σ τ → an_sub (s σ) (s τ)) (e : ∀ τ, ok τ ↔ an_sub (s τ) (τ.1 x)) : an_good ok (fun σ => an_m σ x (s σ)) :=
  ⟨fun _ => an_m_up _ _ _, fun σ τ ho h => an_m_le h (an_sub_tr (mono σ τ h) ((e τ).mp ho)), fun σ h => (e σ).mpr (an_m_fix h)⟩
theorem an_st_good (E : an_E) {call : Nat → Nat → Nat → Nat → an_T → an_T} (hc : ∀ x y z n, an_good (fun τ => an_okc E τ x y z n) (call x y z n)) (i : Nat) (hi : i < 32) (I : an_I) : an_good (an_ok E i I) (an_st call i I) := by
  obtain ⟨o, x, y, z, n⟩ := I
  by_cases h0 : o = 0
  · subst h0
    exact an_good_m (s := fun _ => an_1 i) (fun _ _ _ => an_sub_rf _) (fun τ => (an_1_sub hi).symm)
  by_cases h1 : o = 1
  · subst h1
    exact an_good_m (s := fun σ => σ.1 y) (fun _ _ h => h.1 y) (fun τ => Iff.rfl)
  by_cases h3 : o = 3
  · subst h3
    refine an_good_m (s := fun σ => an_hb (fun a => σ.2.1 a z) (σ.1 y) 27) (fun σ τ h b q => ?_) (fun τ => ⟨fun q b w => ?_, fun q a ha hb b w => ?_⟩)
    · obtain ⟨a, ha, hw, hb⟩ := (an_hb_bt _ _ _ _).mp q
      exact (an_hb_bt _ _ _ _).mpr ⟨a, ha, h.1 y a hw, h.2.1 a z b hb⟩
    · obtain ⟨a, ha, hw, hb⟩ := (an_hb_bt _ _ _ _).mp w
      exact q a ha hw b hb
    · exact q b ((an_hb_bt _ _ _ _).mpr ⟨a, ha, hb, w⟩)
  by_cases h4 : o = 4
  · subst h4
    refine ⟨fun σ => an_h_up _ _ _ _, fun σ τ ho h => an_h_le h (fun a ha g hg hw hs => ?_), fun σ h a ha g hg hw hs => ?_⟩
    · rw [Bool.or_eq_true, decide_eq_true_eq, decide_eq_true_eq] at hs
      exact an_sub_tr (h.1 y) (ho a ha g hg (h.1 x a hw) hs)
    · refine an_h_fix h ha hg hw ?_
      rw [Bool.or_eq_true, decide_eq_true_eq, decide_eq_true_eq]
      exact hs
  by_cases h12 : o = 12
  · subst h12
    refine ⟨fun σ => an_h_up _ _ _ _, fun σ τ ho h => an_h_le h (fun a ha g hg hw hs => ?_), fun σ h g hg => ?_⟩
    · rw [an_W_bt, decide_eq_true_eq] at hw
      subst hw
      exact an_sub_tr (h.1 x) (ho g hg)
    · exact an_h_fix h (by omega) hg an_W_26 rfl
  by_cases h13 : o = 13
  · subst h13
    exact an_good_m (s := fun σ => σ.2.1 26 0) (fun _ _ h => h.2.1 26 0) (fun τ => Iff.rfl)
  by_cases h16 : o = 16
  · subst h16
    exact hc x y z n.toNatClampNeg
  by_cases h17 : o = 17
  · subst h17
    exact ⟨fun σ => an_g_up _ _, fun σ τ ho h => an_g_le h (an_sub_tr (h.1 x) ho), fun σ h => an_g_fix h⟩
  · have e1 : an_st call i (o, x, y, z, n) = fun σ => σ := by
      funext σ
      simp [an_st, h0, h1, h3, h4, h12, h13, h16, h17]
    have e2 : ∀ τ, an_ok E i (o, x, y, z, n) τ := by
      intro τ
      simp [an_ok, h0, h1, h3, h4, h12, h13, h16, h17]
    rw [e1]
    exact ⟨fun σ => an_le_rf σ, fun σ τ _ h => h, fun σ _ => e2 σ⟩
/-- a pass over all instructions -/
def an_pass (f : Nat → an_T → an_T) : Nat → an_T → an_T
  | 0, σ => σ
  | i + 1, σ => f i (an_pass f i σ)
theorem an_pass_up {f : Nat → an_T → an_T} {ok : Nat → an_T → Prop} : ∀ n, (∀ i, i < n → an_good (ok i) (f i)) → ∀ σ, an_le σ (an_pass f n σ) := by
  intro n
  induction n with
  | zero => intro _ σ; exact an_le_rf σ
  | succ n ih => intro h σ; exact an_le_tr (ih (fun i hi => h i (by omega)) σ) ((h n (by omega)).1 _)
theorem an_pass_le {f : Nat → an_T → an_T} {ok : Nat → an_T → Prop} : ∀ n, (∀ i, i < n → an_good (ok i) (f i)) → ∀ σ τ, (∀ i, i < n → ok i τ) → an_le σ τ → an_le (an_pass f n σ) τ := by
  intro n
  induction n with
  | zero => intro _ σ τ _ h; exact h
  | succ n ih => intro h σ τ ho k; exact (h n (by omega)).2.1 _ τ (ho n (by omega)) (ih (fun i hi => h i (by omega)) σ τ (fun i hi => ho i (by omega)) k)
theorem an_pass_at {f : Nat → an_T → an_T} {ok : Nat → an_T → Prop} {n : Nat} (h : ∀ i, i < n → an_good (ok i) (f i)) {i : Nat} (hi : i ≤ n) (σ : an_T) : an_le (an_pass f i σ) (an_pass f n σ) := by
  induction n with
  | zero => have e : i = 0 := by omega
            subst e; exact an_le_rf _
  | succ n ih =>
    by_cases e : i = n + 1
    · subst e; exact an_le_rf _
    · exact an_le_tr (ih (fun i hi => h i (by omega)) (by omega)) ((h n (by omega)).1 _)
/-- a pass that adds nothing: all that is asked holds -/
theorem an_pass_fix {f : Nat → an_T → an_T} {ok : Nat → an_T → Prop} {n : Nat} (h : ∀ i, i < n → an_good (ok i) (f i)) {σ : an_T} (k : an_le (an_pass f n σ) σ) : ∀ i, i < n → ok i σ := by
  intro i hi
  have e : an_pass f i σ = σ := an_le_eq (an_le_tr (an_pass_at h (by omega) σ) k) (an_pass_up i (fun j hj => h j (by omega)) σ)
  have q := an_le_tr (an_pass_at h (by omega : i + 1 ≤ n) σ) k
  have q' : an_le (f i (an_pass f i σ)) σ := q
  rw [e] at q'
  exact (h i hi).2.2 σ q'
end
section
/-! THE ANALYSIS, 3: the least solution, weights, programs -/
theorem an_c0_g (x : Nat) (σ : an_T) : (an_c0 x σ).2.2 = σ.2.2 := rfl
theorem an_r1_g (E : an_E) (y z n p : Nat) (σ : an_T) : (an_r1 E y z n p σ).2.2 = σ.2.2 := rfl
theorem an_r2_g (E : an_E) (x y z n : Nat) (bo : Int32) (p : Nat) (σ : an_T) : (an_r2 E x y z n bo p σ).2.2 = σ.2.2 := by
  unfold an_r2
  split
  · rfl
  · split <;> rfl
theorem an_cn_g (E : an_E) (x y z n : Nat) (σ : an_T) : ∀ k, (an_cn E x y z n k σ).2.2 = σ.2.2 := by
  intro k
  induction k with
  | zero => rfl
  | succ k ih => rw [← ih]; exact an_r2_g _ _ _ _ _ _ _ _
theorem an_st_g {call : Nat → Nat → Nat → Nat → an_T → an_T} (hc : ∀ x y z n σ, (call x y z n σ).2.2 = σ.2.2) {i : Nat} {I : an_I} (h : I.1 ≠ 17) (σ : an_T) : (an_st call i I σ).2.2 = σ.2.2 := by
  unfold an_st
  split
  · rfl
  split
  · rfl
  split
  · rfl
  split
  · rfl
  split
  · rfl
  split
  · rfl
  split
  · exact hc _ _ _ _ _
  first | rfl | rw [if_neg h]
theorem an_ok_cg {E : an_E} {i : Nat} {I : an_I} (h : I.1 ≠ 17) {τ υ : an_T} (e1 : τ.1 = υ.1) (e2 : τ.2.1 = υ.2.1) (q : an_ok E i I τ) : an_ok E i I υ := by
  obtain ⟨m1, h1, g1⟩ := τ
  obtain ⟨m2, h2, g2⟩ := υ
  simp only at e1 e2
  subst e1; subst e2
  unfold an_ok at q ⊢
  rw [if_neg h] at q ⊢
  exact q
/-- what a reference may be, and what is held, are the same -/
def an_same (σ τ : an_T) : Prop := σ.1 = τ.1 ∧ σ.2.1 = τ.2.1
theorem an_same_mid {σ τ υ : an_T} (h1 : an_le σ τ) (h2 : an_le τ υ) (h : an_same σ υ) : an_same σ τ ∧ an_same τ υ := by
  have e1 : σ.1 = τ.1 := funext fun r => an_eq (h1.1 r) (by rw [h.1]; exact h2.1 r)
  have e2 : σ.2.1 = τ.2.1 := funext fun a => funext fun g => an_eq (h1.2.1 a g) (by rw [h.2]; exact h2.2.1 a g)
  exact ⟨⟨e1, e2⟩, e1 ▸ h.1, e2 ▸ h.2⟩
/-- a pass of the class that changes nothing but what is given: all that is asked holds behind it -/
theorem an_pass_fixC {E : an_E} {call : Nat → Nat → Nat → Nat → an_T → an_T} {Is : Nat → an_I} {n : Nat} (hn : n ≤ 24) (hc : ∀ x y z n, an_good (fun τ => an_okc E τ x y z n) (call x y z n)) (hg : ∀ x y z n σ, (call x y z n σ).2.2 = σ.2.2)
    {σ : an_T} (k : an_same σ (an_pass (fun i => an_st call i (Is i)) n σ)) : ∀ i, i < n → an_ok E i (Is i) (an_pass (fun i => an_st call i (Is i)) n σ) := by
  intro i hi
  have h : ∀ i, i < n → an_good (an_ok E i (Is i)) (an_st call i (Is i)) := fun i hi => an_st_good E hc i (by omega) (Is i)
  have a0 := an_pass_up (f := fun i => an_st call i (Is i)) (ok := fun i => an_ok E i (Is i)) i (fun j hj => h j (by omega)) σ
  have a1 := (h i hi).1 (an_pass (fun i => an_st call i (Is i)) i σ)
  have a2 := an_pass_at (f := fun i => an_st call i (Is i)) (ok := fun i => an_ok E i (Is i)) h (by omega : i + 1 ≤ n) σ
  have s1 := an_same_mid (an_le_tr a0 a1) a2 k
  have s2 := an_same_mid a0 a1 s1.1
  by_cases q : (Is i).1 = 17
  · have a2' : an_le (an_st call i (Is i) (an_pass (fun i => an_st call i (Is i)) i σ)) (an_pass (fun i => an_st call i (Is i)) n σ) := a2
    have e : an_st call i (Is i) (an_pass (fun i => an_st call i (Is i)) i σ) = an_g (an_pass (fun i => an_st call i (Is i)) i σ) ((an_pass (fun i => an_st call i (Is i)) i σ).1 (Is i).2.1) := by
      simp [an_st, q]
    rw [e] at a2'
    have e3 : (an_pass (fun i => an_st call i (Is i)) i σ).1 = (an_pass (fun i => an_st call i (Is i)) n σ).1 := s2.1.1.symm.trans k.1
    have : an_sub ((an_pass (fun i => an_st call i (Is i)) n σ).1 (Is i).2.1) (an_pass (fun i => an_st call i (Is i)) n σ).2.2 := by
      rw [← e3]
      exact an_sub_tr (an_sub_orr _ _) a2'.2.2
    simp [an_ok, q]
    exact this
  · have e : an_st call i (Is i) (an_pass (fun i => an_st call i (Is i)) i σ) = an_pass (fun i => an_st call i (Is i)) i σ :=
      Prod.ext s2.2.1.symm (Prod.ext s2.2.2.symm (an_st_g hg q _))
    have o := (h i hi).2.2 (an_pass (fun i => an_st call i (Is i)) i σ) (by rw [e]; exact an_le_rf _)
    exact an_ok_cg q (s2.1.1.symm.trans k.1) (s2.1.2.symm.trans k.2) o
/-- from the start, below every solution -/
def an_inv (st : an_T) (n : Nat) (ok : Nat → an_T → Prop) (σ : an_T) : Prop := an_le st σ ∧ ∀ τ, an_le st τ → (∀ i, i < n → ok i τ) → an_le σ τ
/-- the least solution -/
def an_sol (st : an_T) (n : Nat) (ok : Nat → an_T → Prop) (σ : an_T) : Prop := an_inv st n ok σ ∧ ∀ i, i < n → ok i σ
theorem an_sol_uq {st : an_T} {n : Nat} {ok : Nat → an_T → Prop} {σ τ : an_T} (h : an_sol st n ok σ) (k : an_sol st n ok τ) : σ = τ :=
  an_le_eq (h.1.2 τ k.1.1 k.2) (k.1.2 σ h.1.1 h.2)
theorem an_inv_0 (st : an_T) (n : Nat) (ok : Nat → an_T → Prop) : an_inv st n ok st := ⟨an_le_rf st, fun _ h _ => h⟩
theorem an_inv_p {st : an_T} {n : Nat} {ok : Nat → an_T → Prop} {f : Nat → an_T → an_T} (h : ∀ i, i < n → an_good (ok i) (f i)) {σ : an_T} (k : an_inv st n ok σ) : an_inv st n ok (an_pass f n σ) :=
  ⟨an_le_tr k.1 (an_pass_up n h σ), fun τ h1 h2 => an_pass_le n h σ τ h2 (k.2 τ h1 h2)⟩
/-- all bits -/
def an_F : Int32 := 134217727
theorem an_F_bt (b : Nat) : bt an_F b = decide (b < 27) := by
  rcases Nat.lt_or_ge b 32 with h | h
  · exact (by decide +kernel : ∀ i, i < 32 → bt an_F i = decide (i < 27)) b h
  · rw [b_big h, decide_eq_false (by omega)]
def an_top : an_T := (fun r => if r < 4 then an_F else 0, fun a g => if a < 27 ∧ g < 2 then an_F else 0, an_F)
theorem an_top_m (r : Nat) : an_sub (an_top.1 r) an_F := by
  show an_sub (if r < 4 then an_F else 0) an_F
  split
  · exact an_sub_rf _
  · exact an_sub_0 _
theorem an_top_h (a g : Nat) : an_sub (an_top.2.1 a g) an_F := by
  show an_sub (if a < 27 ∧ g < 2 then an_F else 0) an_F
  split
  · exact an_sub_rf _
  · exact an_sub_0 _
theorem an_top_R {s : Int32} (hs : an_sub s an_F) {b : Nat} (hr : an_R an_top.2.1 s b) : bt an_F b = true :=
  an_C_R (fun a _ _ g _ => an_top_h a g) hs hr
theorem an_top_x {x : Nat} (hx : x < 4) : an_top.1 x = an_F := if_pos hx
theorem an_top_a {a g : Nat} (ha : a < 27) (hg : g < 2) : an_top.2.1 a g = an_F := if_pos ⟨ha, hg⟩
/-- an instruction that the program may hold -/
def an_wf (I : an_I) : Prop := I.1 ≤ 18 ∧ I.2.1 < 4 ∧ I.2.2.1 < 4 ∧ I.2.2.2.1 < 4 ∧ (3 ≤ I.1 → I.1 ≤ 6 → I.2.2.2.1 < 2) ∧ (I.1 = 16 → ∃ n, n < 5 ∧ I.2.2.2.2 = nI n)
theorem an_top_ok (E : an_E) {i : Nat} (hi : i < 24) {I : an_I} (w : an_wf I) : an_ok E i I an_top := by
  obtain ⟨o, x, y, z, n⟩ := I
  obtain ⟨w1, w2, w3, w4, w5, w6⟩ := w
  simp only at w1 w2 w3 w4 w5 w6
  have hag : ∀ p, an_sub (an_ag an_top y z p) an_F := fun p => an_top_m _
  have hbo : ∀ k, an_sub (an_bo an_top k y z) an_F := fun k => by
    unfold an_bo
    split
    · exact an_or_sub (an_top_m _) (an_top_m _)
    · exact an_top_m _
  have h26 : bt an_F 26 = true := by rw [an_F_bt]; rfl
  have hW : an_sub an_W an_F := (an_1_sub (by omega)).mpr h26
  unfold an_ok
  simp only
  split
  · rw [an_top_x w2, an_F_bt]; simp; omega
  split
  · rw [an_top_x w2]; exact an_top_m _
  split
  · intro a ha _; rw [an_top_x w2]; exact an_top_h _ _
  split
  · intro a ha g hg _ _; rw [an_top_a ha hg]; exact an_top_m _
  split
  · intro g hg; rw [an_top_a (by omega) hg]; exact an_top_m _
  split
  · rw [an_top_x w2]; exact an_top_h _ _
  split
  · refine ⟨⟨fun a ha _ g hg => ?_, ?_⟩, fun p _ => ⟨fun a ha _ g hg => ⟨fun b hb => ?_, fun _ => ?_⟩, fun _ g hg => ?_, fun _ => ⟨fun a ha _ g hg b hb => ?_, fun b hb => ?_⟩⟩⟩
    · rw [an_top_a ha hg]; exact h26
    · rw [an_top_x w2]; exact an_top_h _ _
    · rw [an_top_a ha hg]; exact an_top_R (hag p) hb
    · rw [an_top_a ha hg]; exact h26
    · rw [an_top_a (by omega) hg]; exact hag p
    · rw [an_top_a ha hg]; exact an_top_R (hbo _) hb
    · rw [an_top_x w2]; exact an_top_R (hbo _) hb
  split
  · rw [an_top_x w2]; exact an_sub_rf _
  · trivial
/-- sums and weights -/
def an_sum (f : Nat → Nat) : Nat → Nat
  | 0 => 0
  | n + 1 => an_sum f n + f n
theorem an_sum_le {f g : Nat → Nat} : ∀ n, (∀ i, i < n → f i ≤ g i) → an_sum f n ≤ an_sum g n := by
  intro n
  induction n with
  | zero => intro _; exact Nat.le_refl _
  | succ n ih =>
    intro h
    have a := ih (fun i hi => h i (by omega))
    have b := h n (by omega)
    simp only [an_sum]; omega
theorem an_sum_eq {f g : Nat → Nat} : ∀ n, (∀ i, i < n → f i ≤ g i) → an_sum g n ≤ an_sum f n → ∀ i, i < n → f i = g i := by
  intro n
  induction n with
  | zero => intro _ _ i hi; omega
  | succ n ih =>
    intro h k i hi
    have a := an_sum_le n (fun i hi => h i (by omega))
    have b := h n (by omega)
    simp only [an_sum] at k
    by_cases e : i = n
    · subst e; omega
    · exact ih (fun i hi => h i (by omega)) (by omega) i (by omega)
theorem an_sum_bd {f : Nat → Nat} {c : Nat} : ∀ n, (∀ i, i < n → f i ≤ c) → an_sum f n ≤ n * c := by
  intro n
  induction n with
  | zero => intro _; exact Nat.zero_le _
  | succ n ih =>
    intro h
    have a := ih (fun i hi => h i (by omega))
    have b := h n (by omega)
    simp only [an_sum]
    rw [Nat.succ_mul]
    omega
def an_bit (s : Int32) (b : Nat) : Nat := if bt s b = true then 1 else 0
theorem an_bit_1 (s : Int32) (b : Nat) : an_bit s b ≤ 1 := by unfold an_bit; split <;> omega
theorem an_bit_le {s t : Int32} (h : an_sub s t) (b : Nat) : an_bit s b ≤ an_bit t b := by
  unfold an_bit
  by_cases q : bt s b = true
  · rw [if_pos q, if_pos (h b q)]; exact Nat.le_refl _
  · rw [if_neg q]; omega
theorem an_bit_eq {s t : Int32} {b : Nat} (h : an_bit s b = an_bit t b) (q : bt t b = true) : bt s b = true := by
  unfold an_bit at h
  rw [if_pos q] at h
  by_cases w : bt s b = true
  · exact w
  · rw [if_neg w] at h; omega
def an_wtb (σ : an_T) (b : Nat) : Nat := an_bit σ.2.2 b + an_sum (fun k => an_bit (σ.1 k) b) 4 + an_sum (fun k => an_bit (σ.2.1 (k / 2) (k % 2)) b) 54
def an_wt (σ : an_T) : Nat := an_sum (an_wtb σ) 27
theorem an_wtb_le {σ τ : an_T} (h : an_le σ τ) (b : Nat) : an_wtb σ b ≤ an_wtb τ b := by
  have a := an_bit_le h.2.2 b
  have c := an_sum_le (f := fun k => an_bit (σ.1 k) b) (g := fun k => an_bit (τ.1 k) b) 4 (fun i _ => an_bit_le (h.1 i) b)
  have d := an_sum_le (f := fun k => an_bit (σ.2.1 (k / 2) (k % 2)) b) (g := fun k => an_bit (τ.2.1 (k / 2) (k % 2)) b) 54 (fun i _ => an_bit_le (h.2.1 _ _) b)
  unfold an_wtb
  omega
theorem an_wt_le {σ τ : an_T} (h : an_le σ τ) : an_wt σ ≤ an_wt τ := an_sum_le 27 (fun b _ => an_wtb_le h b)
theorem an_wt_bd (σ : an_T) : an_wt σ ≤ 1593 := by
  refine an_sum_bd (c := 59) 27 (fun b _ => ?_)
  have a := an_bit_1 σ.2.2 b
  have c := an_sum_bd (f := fun k => an_bit (σ.1 k) b) (c := 1) 4 (fun i _ => an_bit_1 _ b)
  have d := an_sum_bd (f := fun k => an_bit (σ.2.1 (k / 2) (k % 2)) b) (c := 1) 54 (fun i _ => an_bit_1 _ b)
  unfold an_wtb
  omega
theorem an_wt_eq {σ τ : an_T} (h : an_le σ τ) (ht : an_le τ an_top) (k : an_wt τ ≤ an_wt σ) : τ = σ := by
  have hb := an_sum_eq 27 (fun b _ => an_wtb_le h b) k
  have h27 : ∀ b, bt an_F b = true → b < 27 := fun b q => by rw [an_F_bt, decide_eq_true_eq] at q; exact q
  have key : ∀ b, b < 27 → an_bit σ.2.2 b = an_bit τ.2.2 b ∧ (∀ i, i < 4 → an_bit (σ.1 i) b = an_bit (τ.1 i) b) ∧ (∀ i, i < 54 → an_bit (σ.2.1 (i / 2) (i % 2)) b = an_bit (τ.2.1 (i / 2) (i % 2)) b) := by
    intro b hb27
    have e := hb b hb27
    have a := an_bit_le h.2.2 b
    have c := an_sum_le (f := fun k => an_bit (σ.1 k) b) (g := fun k => an_bit (τ.1 k) b) 4 (fun i _ => an_bit_le (h.1 i) b)
    have d := an_sum_le (f := fun k => an_bit (σ.2.1 (k / 2) (k % 2)) b) (g := fun k => an_bit (τ.2.1 (k / 2) (k % 2)) b) 54 (fun i _ => an_bit_le (h.2.1 _ _) b)
    unfold an_wtb at e
    refine ⟨by omega, ?_, ?_⟩
    · exact an_sum_eq 4 (fun i _ => an_bit_le (h.1 i) b) (by omega)
    · exact an_sum_eq (f := fun k => an_bit (σ.2.1 (k / 2) (k % 2)) b) (g := fun k => an_bit (τ.2.1 (k / 2) (k % 2)) b) 54 (fun i _ => an_bit_le (h.2.1 _ _) b) (by omega)
  refine an_le_eq ⟨fun r b q => ?_, fun a g b q => ?_, fun b q => ?_⟩ h
  · have q1 := ht.1 r b q
    by_cases hr : r < 4
    · rw [an_top_x hr] at q1
      exact an_bit_eq ((key b (h27 b q1)).2.1 r hr) q
    · have e : an_top.1 r = 0 := if_neg hr
      rw [e, b_0] at q1
      exact absurd q1 (by decide)
  · have q1 := ht.2.1 a g b q
    by_cases hr : a < 27 ∧ g < 2
    · rw [an_top_a hr.1 hr.2] at q1
      have e := (key b (h27 b q1)).2.2 (2 * a + g) (by omega)
      rw [show (2 * a + g) / 2 = a by omega, show (2 * a + g) % 2 = g by omega] at e
      exact an_bit_eq e q
    · have e : an_top.2.1 a g = 0 := if_neg hr
      rw [e, b_0] at q1
      exact absurd q1 (by decide)
  · exact an_bit_eq (key b (h27 b (ht.2.2 b q))).1 q
theorem an_wt_lt {σ τ : an_T} (h : an_le σ τ) (ht : an_le τ an_top) (k : σ ≠ τ) : an_wt σ < an_wt τ :=
  Nat.lt_of_not_le (fun q => k (an_wt_eq h ht q).symm)
/-- a program: how many instructions, how many inputs, the instructions -/
abbrev pr_T : Type := (Nat → Nat) × (Nat → Nat) × (Nat → Nat → an_I)
def pr_wf (P : pr_T) : Prop := ∀ m, m < 5 → P.1 m ≤ 24 ∧ P.2.1 m ≤ 2 ∧ ∀ i, i < P.1 m → an_wf (P.2.2 m i)
/-- where the analysis of a method with k inputs begins -/
def an_s0 (k : Nat) : an_T := (fun r => if r < k then an_1 (24 + r) else 0, fun a g => if g < 2 then (if a = 26 then an_W else if 24 ≤ a ∧ a < 24 + k then an_1 a else 0) else 0, 0)
theorem an_s0_top {k : Nat} (hk : k ≤ 2) : an_le (an_s0 k) an_top := by
  refine ⟨fun r => ?_, fun a g => ?_, an_sub_0 _⟩
  · show an_sub (if r < k then an_1 (24 + r) else 0) _
    split
    · rw [an_top_x (by omega)]
      refine (an_1_sub (by omega)).mpr ?_
      rw [an_F_bt]; simp; omega
    · exact an_sub_0 _
  · show an_sub (if g < 2 then (if a = 26 then an_W else if 24 ≤ a ∧ a < 24 + k then an_1 a else 0) else 0) _
    split
    · split
      · rw [an_top_a (by omega) (by omega)]
        refine (an_1_sub (by omega)).mpr ?_
        rw [an_F_bt]; rfl
      · split
        · rw [an_top_a (by omega) (by omega)]
          refine (an_1_sub (by omega)).mpr ?_
          rw [an_F_bt]; simp; omega
        · exact an_sub_0 _
    · exact an_sub_0 _
def an_z : an_T := (fun _ => 0, fun _ _ => 0, 0)
/-- what becomes of argument p -/
def an_sm (σ : an_T) (k p : Nat) : Nat :=
  if bt (an_rc σ.2.1 an_W) (24 + p) = true then 2
  else if (an_rc σ.2.1 (an_1 (24 + p)) &&& (an_rc σ.2.1 σ.2.2 ||| (if k = 2 then an_rc σ.2.1 (an_1 (25 - p)) else 0))) ≠ 0 then 1 else 0
def an_mx (σ : an_T) (p : Nat) : Bool := decide ((an_rc σ.2.1 (an_1 (24 + p)) &&& an_rc σ.2.1 an_W) ≠ 0)
/-- how callers of method n see argument p, from method m -/
def an_sx (P : pr_T) (m : Nat) (S : Nat → an_T) (n p : Nat) : Nat := if n ≤ m ∨ 5 ≤ n ∨ P.1 n = 0 then 2 else an_sm (S n) (P.2.1 n) p
def an_kx (P : pr_T) (m : Nat) (S : Nat → an_T) (n p : Nat) : Bool := if n ≤ m ∨ 5 ≤ n ∨ P.1 n = 0 then true else (decide (an_sm (S n) (P.2.1 n) p = 2) || an_mx (S n) p)
def an_env (P : pr_T) (m : Nat) (S : Nat → an_T) : an_E := (P.2.1, an_sx P m S, an_kx P m S)
/-- the analysis of one method, given the others -/
def an_is1 (P : pr_T) (S : Nat → an_T) (m : Nat) : Prop := if P.1 m = 0 then S m = an_z else an_sol (an_s0 (P.2.1 m)) (P.1 m) (fun i => an_ok (an_env P m S) i (P.2.2 m i)) (S m)
/-- the analysis of a program -/
def an_is (P : pr_T) (S : Nat → an_T) : Prop := ∀ m, m < 5 → an_is1 P S m
theorem an_env_cg {P : pr_T} {m : Nat} {S T : Nat → an_T} (h : ∀ n, m < n → n < 5 → S n = T n) : an_env P m S = an_env P m T := by
  have e1 : an_sx P m S = an_sx P m T := by
    funext n p
    unfold an_sx
    split
    · rfl
    · next q => rw [h n (by omega) (by omega)]
  have e2 : an_kx P m S = an_kx P m T := by
    funext n p
    unfold an_kx
    split
    · rfl
    · next q => rw [h n (by omega) (by omega)]
  unfold an_env
  rw [e1, e2]
theorem an_is1_cg {P : pr_T} {m : Nat} {S T : Nat → an_T} (h : ∀ n, m ≤ n → n < 5 → S n = T n) (hm : m < 5) (q : an_is1 P S m) : an_is1 P T m := by
  unfold an_is1 at q ⊢
  rw [← an_env_cg (fun n h1 h2 => h n (by omega) h2), ← h m (by omega) hm]
  exact q
theorem an_is1_uq {P : pr_T} {m : Nat} {S T : Nat → an_T} (h : ∀ n, m < n → n < 5 → S n = T n) (q : an_is1 P S m) (r : an_is1 P T m) : S m = T m := by
  unfold an_is1 at q r
  by_cases e : P.1 m = 0
  · rw [if_pos e] at q r; rw [q, r]
  · rw [if_neg e] at q r
    rw [← an_env_cg h] at r
    exact an_sol_uq q r
theorem an_is_uq {P : pr_T} {S T : Nat → an_T} (h : an_is P S) (k : an_is P T) : ∀ m, m < 5 → S m = T m := by
  have key : ∀ d m, m < 5 → 5 ≤ m + d → S m = T m := by
    intro d
    induction d with
    | zero => intro m h1 h2; omega
    | succ d ih => intro m h1 h2; exact an_is1_uq (fun n h3 h4 => ih n h4 (by omega)) (h m h1) (k m h1)
  exact fun m hm => key 5 m hm (by omega)
end
section
/-! DOMINANCE: ways that don't go over a hole -/
/-- from instruction i to instruction j -/
abbrev dm_e (n : Nat) (c : Nat → an_I) (i j : Nat) : Prop :=
  j < n ∧ (((c i).1 ≠ 14 ∧ (c i).1 ≠ 17 ∧ j = i + 1) ∨ (((c i).1 = 14 ∨ (c i).1 = 15) ∧ (c i).2.2.2.2 = nI j))
/-- a way from 0 leads there that doesn't go over the hole -/
def dm_R (n : Nat) (c : Nat → an_I) (hole j : Nat) : Prop :=
  ∀ S : Nat → Prop, (0 < n → 0 ≠ hole → S 0) → (∀ i, i < n → S i → ∀ j, j ≠ hole → dm_e n c i j → S j) → S j
theorem dm_R_0 {n : Nat} {c : Nat → an_I} {hole : Nat} (h : 0 < n) (k : 0 ≠ hole) : dm_R n c hole 0 := fun _ h0 _ => h0 h k
theorem dm_R_s {n : Nat} {c : Nat → an_I} {hole i j : Nat} (h : dm_R n c hole i) (hi : i < n) (hj : j ≠ hole) (e : dm_e n c i j) : dm_R n c hole j :=
  fun S h0 hs => hs i hi (h S h0 hs) j hj e
theorem dm_R_ne {n : Nat} {c : Nat → an_I} {hole j : Nat} (h : dm_R n c hole j) : j ≠ hole := h (fun j => j ≠ hole) (fun _ k => k) (fun _ _ _ _ k _ => k)
theorem dm_R_lt {n : Nat} {c : Nat → an_I} {hole j : Nat} (h : dm_R n c hole j) : j < n := h (fun j => j < n) (fun k _ => k) (fun _ _ _ _ _ e => e.1)
/-- the class -/
def dm_bit (n : Nat) (v : Int32) : Int32 := if 0 ≤ v ∧ v < nI n then (1 : Int32) <<< (v &&& 31) else 0
theorem dm_bit_bt {n : Nat} (hn : n ≤ 24) (v : Int32) (j : Nat) : bt (dm_bit n v) j = true ↔ j < n ∧ v = nI j := by
  unfold dm_bit
  by_cases h : 0 ≤ v ∧ v < nI n
  · rw [if_pos h]
    obtain ⟨k, hk, e⟩ := nI_of (x := v) (by rw [Int32.not_lt]; exact h.1)
    subst e
    have hkn : k < n := (nI_ltI hk (by omega)).mp h.2
    show bt (an_1 k) j = true ↔ _
    rw [an_1_bt (by omega), decide_eq_true_eq]
    constructor
    · intro q; subst q; exact ⟨hkn, rfl⟩
    · rintro ⟨q1, q2⟩
      exact ((nI_eq hk (by omega)).mp q2).symm
  · rw [if_neg h, b_0]
    constructor
    · intro q; exact absurd q (by decide)
    · rintro ⟨q1, q2⟩
      subst q2
      exact absurd ⟨nI_pos' (by omega), nI_lt q1 (by omega)⟩ h
def dm_nx (n : Nat) (c : Nat → an_I) (i : Nat) (a : Int32) : Int32 := if (c i).1 ≠ 14 ∧ (c i).1 ≠ 17 then a ||| dm_bit n (nI (i + 1)) else a
def dm_jm (n : Nat) (c : Nat → an_I) (i : Nat) (a : Int32) : Int32 := if (c i).1 = 14 ∨ (c i).1 = 15 then a ||| dm_bit n (c i).2.2.2.2 else a
def dm_bh (n : Nat) (c : Nat → an_I) (s : Int32) : Nat → Int32
  | 0 => 0
  | i + 1 => if bt s i = true then dm_jm n c i (dm_nx n c i (dm_bh n c s i)) else dm_bh n c s i
theorem dm_nx_bt {n : Nat} (hn : n ≤ 24) (c : Nat → an_I) (i : Nat) (hi : i < 32) (a : Int32) (j : Nat) : bt (dm_jm n c i (dm_nx n c i a)) j = true ↔ bt a j = true ∨ dm_e n c i j := by
  have e1 : bt (dm_nx n c i a) j = true ↔ bt a j = true ∨ (j < n ∧ (c i).1 ≠ 14 ∧ (c i).1 ≠ 17 ∧ j = i + 1) := by
    unfold dm_nx
    by_cases q : (c i).1 ≠ 14 ∧ (c i).1 ≠ 17
    · rw [if_pos q, b_or, Bool.or_eq_true, dm_bit_bt hn]
      constructor
      · rintro (h | ⟨h1, h2⟩)
        · exact Or.inl h
        · exact Or.inr ⟨h1, q.1, q.2, ((nI_eq (by omega) (by omega)).mp h2).symm⟩
      · rintro (h | ⟨h1, _, _, h4⟩)
        · exact Or.inl h
        · exact Or.inr ⟨h1, by rw [h4]⟩
    · rw [if_neg q]
      constructor
      · exact Or.inl
      · rintro (h | ⟨_, h2, h3, _⟩)
        · exact h
        · exact absurd ⟨h2, h3⟩ q
  unfold dm_jm
  by_cases q : (c i).1 = 14 ∨ (c i).1 = 15
  · rw [if_pos q, b_or, Bool.or_eq_true, dm_bit_bt hn, e1]
    constructor
    · rintro ((h | ⟨h1, h2, h3, h4⟩) | ⟨h1, h2⟩)
      · exact Or.inl h
      · exact Or.inr ⟨h1, Or.inl ⟨h2, h3, h4⟩⟩
      · exact Or.inr ⟨h1, Or.inr ⟨q, h2⟩⟩
    · rintro (h | ⟨h1, ⟨h2, h3, h4⟩ | ⟨_, h3⟩⟩)
      · exact Or.inl (Or.inl h)
      · exact Or.inl (Or.inr ⟨h1, h2, h3, h4⟩)
      · exact Or.inr ⟨h1, h3⟩
  · rw [if_neg q, e1]
    constructor
    · rintro (h | ⟨h1, h2, h3, h4⟩)
      · exact Or.inl h
      · exact Or.inr ⟨h1, Or.inl ⟨h2, h3, h4⟩⟩
    · rintro (h | ⟨h1, ⟨h2, h3, h4⟩ | ⟨h2, _⟩⟩)
      · exact Or.inl h
      · exact Or.inr ⟨h1, h2, h3, h4⟩
      · exact absurd h2 q
theorem dm_bh_bt {n : Nat} (hn : n ≤ 24) (c : Nat → an_I) (s : Int32) (j : Nat) : ∀ k, k ≤ 32 → (bt (dm_bh n c s k) j = true ↔ ∃ i, i < k ∧ bt s i = true ∧ dm_e n c i j) := by
  intro k
  induction k with
  | zero => intro _; simp [dm_bh, b_0]
  | succ k ih =>
    intro hk
    simp only [dm_bh]
    by_cases q : bt s k = true
    · rw [if_pos q, dm_nx_bt hn c k (by omega), ih (by omega)]
      constructor
      · rintro (⟨i, h1, h2, h3⟩ | h)
        · exact ⟨i, by omega, h2, h3⟩
        · exact ⟨k, by omega, q, h⟩
      · rintro ⟨i, h1, h2, h3⟩
        by_cases z : i = k
        · rw [z] at h3; exact Or.inr h3
        · exact Or.inl ⟨i, by omega, h2, h3⟩
    · rw [if_neg q, ih (by omega)]
      constructor
      · rintro ⟨i, h1, h2, h3⟩
        exact ⟨i, by omega, h2, h3⟩
      · rintro ⟨i, h1, h2, h3⟩
        by_cases z : i = k
        · rw [z] at h2; exact absurd h2 q
        · exact ⟨i, by omega, h2, h3⟩
/-- all but the hole -/
def dm_al (hole : Nat) : Int32 := an_1 hole ^^^ (-1)
theorem dm_al_bt {hole : Nat} (hh : hole < 24) {j : Nat} (hj : j < 32) : bt (dm_al hole) j = true ↔ j ≠ hole := by
  unfold dm_al
  rw [b_xor, b_m1 j hj, an_1_bt (by omega)]
  by_cases q : j = hole <;> simp [q]
def dm_rd (n : Nat) (c : Nat → an_I) (hole : Nat) (s : Int32) : Int32 := (s ||| dm_bh n c s n) &&& dm_al hole
def dm_go (n : Nat) (c : Nat → an_I) (hole : Nat) : Nat → Int32 → Int32
  | 0, s => s
  | k + 1, s => if dm_rd n c hole s = s then s else dm_go n c hole k (dm_rd n c hole s)
/-- what the class finds free of the hole -/
def dm_free (n : Nat) (c : Nat → an_I) (hole : Nat) : Int32 := dm_go n c hole 24 (dm_bit n 0 &&& dm_al hole)
/-- inside: bits below n, not the hole -/
def dm_in (n hole : Nat) (s : Int32) : Prop := ∀ j, bt s j = true → j < n ∧ j ≠ hole
def dm_C (n : Nat) (c : Nat → an_I) (hole : Nat) (s : Int32) : Prop := ∀ i, i < n → bt s i = true → ∀ j, j ≠ hole → dm_e n c i j → bt s j = true
section DM
variable {n : Nat} {c : Nat → an_I} {hole : Nat}
theorem dm_rd_bt (hn : n ≤ 24) (hh : hole < 24) {s : Int32} (hs : dm_in n hole s) (j : Nat) : bt (dm_rd n c hole s) j = true ↔ bt s j = true ∨ (j ≠ hole ∧ ∃ i, i < n ∧ bt s i = true ∧ dm_e n c i j) := by
  unfold dm_rd
  rw [b_and, b_or, Bool.and_eq_true, Bool.or_eq_true, dm_bh_bt hn c s j n (by omega)]
  constructor
  · rintro ⟨h1 | h1, h2⟩
    · exact Or.inl h1
    · obtain ⟨i, a1, a2, a3⟩ := h1
      exact Or.inr ⟨(dm_al_bt hh (by have := a3.1; omega)).mp h2, i, a1, a2, a3⟩
  · rintro (h | ⟨h1, i, a1, a2, a3⟩)
    · have := hs j h
      exact ⟨Or.inl h, (dm_al_bt hh (by omega)).mpr this.2⟩
    · exact ⟨Or.inr ⟨i, a1, a2, a3⟩, (dm_al_bt hh (by have := a3.1; omega)).mpr h1⟩
theorem dm_rd_in (hn : n ≤ 24) (hh : hole < 24) {s : Int32} (hs : dm_in n hole s) : dm_in n hole (dm_rd n c hole s) := by
  intro j hj
  rcases (dm_rd_bt hn hh hs j).mp hj with h | ⟨h1, i, _, _, h4⟩
  · exact hs j h
  · exact ⟨h4.1, h1⟩
theorem dm_rd_up (hn : n ≤ 24) (hh : hole < 24) {s : Int32} (hs : dm_in n hole s) : an_sub s (dm_rd n c hole s) := fun j hj => (dm_rd_bt hn hh hs j).mpr (Or.inl hj)
theorem dm_rd_C (hn : n ≤ 24) (hh : hole < 24) {s : Int32} (hs : dm_in n hole s) (k : dm_C n c hole s) : dm_rd n c hole s = s := by
  refine an_eq (fun j hj => ?_) (dm_rd_up hn hh hs)
  rcases (dm_rd_bt hn hh hs j).mp hj with h | ⟨h1, i, h2, h3, h4⟩
  · exact h
  · exact k i h2 h3 j h1 h4
theorem dm_go_C (hn : n ≤ 24) (hh : hole < 24) {s : Int32} (hs : dm_in n hole s) (k : dm_C n c hole s) : ∀ t, dm_go n c hole t s = s := by
  intro t
  cases t with
  | zero => rfl
  | succ t => simp only [dm_go]; rw [if_pos (dm_rd_C hn hh hs k)]
theorem dm_go_cl (hn : n ≤ 24) (hh : hole < 24) : ∀ t s, dm_in n hole s → 25 ≤ t + an_cnt s 24 → dm_C n c hole (dm_go n c hole t s) := by
  intro t
  induction t with
  | zero => intro s _ q; have := an_cnt_n s 24; omega
  | succ t ih =>
    intro s hs q
    simp only [dm_go]
    by_cases e : dm_rd n c hole s = s
    · rw [if_pos e]
      intro i hi hb j hj he
      have : bt (dm_rd n c hole s) j = true := (dm_rd_bt hn hh hs j).mpr (Or.inr ⟨hj, i, hi, hb, he⟩)
      rw [e] at this
      exact this
    · rw [if_neg e]
      by_cases z : an_cnt (dm_rd n c hole s) 24 ≤ an_cnt s 24
      · have k : dm_C n c hole (dm_rd n c hole s) := by
          intro i hi hb j hj he
          have hb' := an_cnt_eq (dm_rd_up (c := c) hn hh hs) 24 z i (by omega) hb
          exact (dm_rd_bt hn hh hs j).mpr (Or.inr ⟨hj, i, hi, hb', he⟩)
        rw [dm_go_C hn hh (dm_rd_in hn hh hs) k]
        exact k
      · exact ih _ (dm_rd_in hn hh hs) (by omega)
theorem dm_go_up (hn : n ≤ 24) (hh : hole < 24) : ∀ t s, dm_in n hole s → an_sub s (dm_go n c hole t s) := by
  intro t
  induction t with
  | zero => intro s _; exact an_sub_rf s
  | succ t ih =>
    intro s hs
    simp only [dm_go]
    split
    · exact an_sub_rf s
    · exact an_sub_tr (dm_rd_up hn hh hs) (ih _ (dm_rd_in hn hh hs))
theorem dm_go_R (hn : n ≤ 24) (hh : hole < 24) : ∀ t s, dm_in n hole s → (∀ j, bt s j = true → dm_R n c hole j) → ∀ j, bt (dm_go n c hole t s) j = true → dm_R n c hole j := by
  intro t
  induction t with
  | zero => intro s _ h j q; exact h j q
  | succ t ih =>
    intro s hs h j q
    simp only [dm_go] at q
    by_cases e : dm_rd n c hole s = s
    · rw [if_pos e] at q; exact h j q
    · rw [if_neg e] at q
      refine ih _ (dm_rd_in hn hh hs) (fun j q => ?_) j q
      rcases (dm_rd_bt hn hh hs j).mp q with w | ⟨h1, i, h2, h3, h4⟩
      · exact h j w
      · exact dm_R_s (h i h3) h2 h1 h4
theorem dm_free_bt (hn : n ≤ 24) (hh : hole < 24) (j : Nat) : bt (dm_free n c hole) j = true ↔ dm_R n c hole j := by
  have e0 : ∀ j, bt (dm_bit n 0 &&& dm_al hole) j = true ↔ (j = 0 ∧ 0 < n ∧ 0 ≠ hole) := by
    intro j
    rw [b_and, Bool.and_eq_true, dm_bit_bt hn]
    constructor
    · rintro ⟨⟨h1, h2⟩, h3⟩
      have hj : j = 0 := ((nI_eq (a := 0) (b := j) (by omega) (by omega)).mp (nI_0.trans h2)).symm
      subst hj
      exact ⟨rfl, h1, (dm_al_bt hh (by omega)).mp h3⟩
    · rintro ⟨h1, h2, h3⟩
      subst h1
      exact ⟨⟨h2, nI_0.symm⟩, (dm_al_bt hh (by omega)).mpr h3⟩
  have hs : dm_in n hole (dm_bit n 0 &&& dm_al hole) := by
    intro j hj
    obtain ⟨h1, h2, h3⟩ := (e0 j).mp hj
    subst h1
    exact ⟨h2, h3⟩
  have hr : ∀ j, bt (dm_bit n 0 &&& dm_al hole) j = true → dm_R n c hole j := by
    intro j hj
    obtain ⟨h1, h2, h3⟩ := (e0 j).mp hj
    subst h1
    exact dm_R_0 h2 h3
  have hc : dm_C n c hole (dm_free n c hole) := by
    by_cases q : 0 < n ∧ 0 ≠ hole
    · exact dm_go_cl hn hh 24 _ hs (by have := an_cnt_pos ((e0 0).mpr ⟨rfl, q⟩) 24 (by omega); omega)
    · have k : dm_C n c hole (dm_bit n 0 &&& dm_al hole) := fun i _ hb => absurd ((e0 i).mp hb).2 q
      unfold dm_free
      rw [dm_go_C hn hh hs k]
      exact k
  constructor
  · exact dm_go_R hn hh 24 _ hs hr j
  · intro h
    refine h (fun j => bt (dm_free n c hole) j = true) (fun h1 h2 => ?_) (fun i hi hb j hj he => hc i hi hb j hj he)
    exact dm_go_up hn hh 24 _ hs 0 ((e0 0).mpr ⟨rfl, h1, h2⟩)
end DM
/-! the reference -/
def dm_cb (f : Nat → Bool) : Nat → Nat
  | 0 => 0
  | n + 1 => dm_cb f n + (if f n = true then 1 else 0)
theorem dm_cb_n (f : Nat → Bool) : ∀ n, dm_cb f n ≤ n := by
  intro n
  induction n with
  | zero => exact Nat.le_refl _
  | succ n ih => simp only [dm_cb]; split <;> omega
theorem dm_cb_le {f g : Nat → Bool} (h : ∀ i, f i = true → g i = true) : ∀ n, dm_cb f n ≤ dm_cb g n := by
  intro n
  induction n with
  | zero => exact Nat.le_refl _
  | succ n ih =>
    simp only [dm_cb]
    by_cases q : f n = true
    · rw [if_pos q, if_pos (h n q)]; omega
    · rw [if_neg q]; omega
theorem dm_cb_eq {f g : Nat → Bool} (h : ∀ i, f i = true → g i = true) : ∀ n, dm_cb g n ≤ dm_cb f n → ∀ a, a < n → g a = true → f a = true := by
  intro n
  induction n with
  | zero => intro _ a ha; omega
  | succ n ih =>
    intro hc a ha hb
    have hn := dm_cb_le h n
    simp only [dm_cb] at hc
    by_cases q : f n = true
    · rw [if_pos q, if_pos (h n q)] at hc
      by_cases z : a = n
      · rw [z]; exact q
      · exact ih (by omega) a (by omega) hb
    · rw [if_neg q] at hc
      by_cases w : g n = true
      · rw [if_pos w] at hc; omega
      · by_cases z : a = n
        · rw [z] at hb; exact absurd hb w
        · exact ih (by rw [if_neg w] at hc; omega) a (by omega) hb
/-- instruction k is looked at -/
def dm_tk (n : Nat) (c : Nat → an_I) (hole : Nat) (o : Nat → Bool) (k : Nat) : Nat → Bool := fun j => o j || (o k && decide (k ≠ hole) && decide (dm_e n c k j))
def dm_tn (n : Nat) (c : Nat → an_I) (hole : Nat) (o : Nat → Bool) : Nat → Nat → Bool
  | 0 => o
  | k + 1 => dm_tk n c hole (dm_tn n c hole o k) k
def dm_rr (n : Nat) (c : Nat → an_I) (hole : Nat) : Nat → (Nat → Bool) → Nat → Bool
  | 0, o => o
  | t + 1, o => dm_rr n c hole t (dm_tn n c hole o n)
def dm_o0 (hole : Nat) : Nat → Bool := fun k => decide (k = 0) && decide (hole ≠ 0)
/-- closed, the hole may be in it -/
def dm_D (n : Nat) (c : Nat → an_I) (hole : Nat) (o : Nat → Bool) : Prop := ∀ i, i < n → o i = true → i ≠ hole → ∀ j, dm_e n c i j → o j = true
section DM2
variable {n : Nat} {c : Nat → an_I} {hole : Nat}
theorem dm_tk_iff (o : Nat → Bool) (k j : Nat) : dm_tk n c hole o k j = true ↔ o j = true ∨ (o k = true ∧ k ≠ hole ∧ dm_e n c k j) := by
  unfold dm_tk
  rw [Bool.or_eq_true, Bool.and_eq_true, Bool.and_eq_true, decide_eq_true_eq, decide_eq_true_eq, and_assoc]
theorem dm_tn_le (o : Nat → Bool) {a b : Nat} (h : a ≤ b) (j : Nat) (q : dm_tn n c hole o a j = true) : dm_tn n c hole o b j = true := by
  induction b with
  | zero => have e : a = 0 := by omega
            subst e; exact q
  | succ b ih =>
    by_cases e : a = b + 1
    · subst e; exact q
    · exact (dm_tk_iff _ _ _).mpr (Or.inl (ih (by omega)))
theorem dm_tn_D {o : Nat → Bool} (k : dm_D n c hole o) : ∀ t, t ≤ n → dm_tn n c hole o t = o := by
  intro t
  induction t with
  | zero => intro _; rfl
  | succ t ih =>
    intro ht
    funext j
    show dm_tk n c hole (dm_tn n c hole o t) t j = o j
    rw [ih (by omega)]
    cases q : o j with
    | true => exact (dm_tk_iff _ _ _).mpr (Or.inl q)
    | false =>
      cases w : dm_tk n c hole o t j with
      | false => rfl
      | true =>
        rcases (dm_tk_iff _ _ _).mp w with h | ⟨h1, h2, h3⟩
        · rw [h] at q; exact absurd q (by decide)
        · rw [k t (by omega) h1 h2 j h3] at q; exact absurd q (by decide)
theorem dm_tn_cnt {o : Nat → Bool} (hn : n ≤ 24) (e : dm_cb (dm_tn n c hole o n) 24 ≤ dm_cb o 24) : dm_D n c hole (dm_tn n c hole o n) := by
  intro i hi hb hh j he
  have h0 : o i = true := dm_cb_eq (fun j q => dm_tn_le o (Nat.zero_le n) j q) 24 e i (by omega) hb
  have h1 : dm_tn n c hole o i i = true := dm_tn_le o (Nat.zero_le i) i h0
  have h2 : dm_tn n c hole o (i + 1) j = true := (dm_tk_iff _ _ _).mpr (Or.inr ⟨h1, hh, he⟩)
  exact dm_tn_le o (by omega : i + 1 ≤ n) j h2
theorem dm_rr_D {o : Nat → Bool} (k : dm_D n c hole o) : ∀ t, dm_rr n c hole t o = o := by
  intro t
  induction t with
  | zero => rfl
  | succ t ih => simp only [dm_rr]; rw [dm_tn_D k n (Nat.le_refl n)]; exact ih
theorem dm_rr_cl (hn : n ≤ 24) : ∀ t o, 25 ≤ t + dm_cb o 24 → dm_D n c hole (dm_rr n c hole t o) := by
  intro t
  induction t with
  | zero => intro o q; have := dm_cb_n o 24; omega
  | succ t ih =>
    intro o q
    simp only [dm_rr]
    by_cases z : dm_cb (dm_tn n c hole o n) 24 ≤ dm_cb o 24
    · have k := dm_tn_cnt hn z
      rw [dm_rr_D k]
      exact k
    · exact ih _ (by omega)
theorem dm_rr_up : ∀ t o j, o j = true → dm_rr n c hole t o j = true := by
  intro t
  induction t with
  | zero => intro o j q; exact q
  | succ t ih => intro o j q; exact ih _ j (dm_tn_le o (Nat.zero_le n) j q)
/-- the hole, or reached without it -/
theorem dm_tn_R {o : Nat → Bool} (h : ∀ j, o j = true → j = hole ∨ dm_R n c hole j) : ∀ t, t ≤ n → ∀ j, dm_tn n c hole o t j = true → j = hole ∨ dm_R n c hole j := by
  intro t
  induction t with
  | zero => intro _ j q; exact h j q
  | succ t ih =>
    intro ht j q
    rcases (dm_tk_iff _ _ _).mp q with w | ⟨h1, h2, h3⟩
    · exact ih (by omega) j w
    · by_cases e : j = hole
      · exact Or.inl e
      · rcases ih (by omega) t h1 with w | w
        · exact absurd w h2
        · exact Or.inr (dm_R_s w (by omega) e h3)
theorem dm_rr_R : ∀ t o, (∀ j, o j = true → j = hole ∨ dm_R n c hole j) → ∀ j, dm_rr n c hole t o j = true → j = hole ∨ dm_R n c hole j := by
  intro t
  induction t with
  | zero => intro o h j q; exact h j q
  | succ t ih => intro o h j q; exact ih _ (dm_tn_R h n (Nat.le_refl n)) j q
/-- what the reference finds open is what is reached without the hole -/
theorem dm_rr_iff (hn : n ≤ 24) (h0 : 0 < n) {j : Nat} (hj : j ≠ hole) : dm_rr n c hole 25 (dm_o0 hole) j = true ↔ dm_R n c hole j := by
  constructor
  · intro q
    have h1 : ∀ j, dm_o0 hole j = true → j = hole ∨ dm_R n c hole j := fun j q => by
      unfold dm_o0 at q
      rw [Bool.and_eq_true, decide_eq_true_eq, decide_eq_true_eq] at q
      rw [q.1]
      exact Or.inr (dm_R_0 h0 q.2.symm)
    exact (dm_rr_R 25 (dm_o0 hole) h1 j q).resolve_left hj
  · intro h
    refine (h (fun j => j ≠ hole ∧ dm_rr n c hole 25 (dm_o0 hole) j = true) (fun _ h2 => ⟨h2, ?_⟩) (fun i hi hb j hj he => ⟨hj, ?_⟩)).2
    · refine dm_rr_up 25 _ 0 ?_
      unfold dm_o0
      rw [Bool.and_eq_true, decide_eq_true_eq, decide_eq_true_eq]
      exact ⟨rfl, h2.symm⟩
    · exact dm_rr_cl hn 25 (dm_o0 hole) (by omega) i hi hb.2 hb.1 j he
end DM2
end
section
/-! FATES: what milling makes of each instruction -/
/-- instruction I sets reference r -/
abbrev fa_df (I : an_I) (r : Nat) : Prop := (I.1 ≤ 3 ∨ I.1 = 13 ∨ I.1 = 16) ∧ I.2.1 = r
/-- it works on the object in r -/
abbrev fa_wk (I : an_I) (r : Nat) : Prop := ((I.1 = 3 ∨ I.1 = 5) ∧ I.2.2.1 = r) ∨ ((I.1 = 4 ∨ I.1 = 6 ∨ I.1 = 10 ∨ I.1 = 11) ∧ I.2.1 = r) ∨ (I.1 = 9 ∧ (I.2.2.1 = r ∨ I.2.2.2.1 = r))
/-- it hands on what is in r; k: the callee's inputs -/
abbrev fa_hd (k : Nat) (I : an_I) (r : Nat) : Prop := ((I.1 = 1 ∨ I.1 = 4) ∧ I.2.2.1 = r) ∨ ((I.1 = 12 ∨ I.1 = 17) ∧ I.2.1 = r) ∨ (I.1 = 16 ∧ ((1 ≤ k ∧ I.2.2.1 = r) ∨ (2 ≤ k ∧ I.2.2.2.1 = r)))
/-- the inputs of an instruction's callee -/
def fa_k (P : pr_T) (I : an_I) : Nat := if I.1 = 16 then P.2.1 I.2.2.2.2.toNatClampNeg else 0
/-- the NEW at k alone sets r -/
def fa_nw (n : Nat) (c : Nat → an_I) (r k : Nat) : Prop := k < n ∧ (c k).1 = 0 ∧ (c k).2.1 = r ∧ ∀ i, i < n → fa_df (c i) r → i = k
theorem fa_nw_uq {n : Nat} {c : Nat → an_I} {r k l : Nat} (h : fa_nw n c r k) (g : fa_nw n c r l) : k = l :=
  g.2.2.2 k h.1 ⟨Or.inl (by have := h.2.1; omega), h.2.2.1⟩
/-- r, made at k, is taken apart in method m -/
def fa_ap (P : pr_T) (m r k : Nat) : Prop := P.2.1 m ≤ r ∧ fa_nw (P.1 m) (P.2.2 m) r k ∧ ∀ i, i < P.1 m → ¬ fa_hd (fa_k P (P.2.2 m i)) (P.2.2 m i) r ∧ (fa_wk (P.2.2 m i) r → ¬ dm_R (P.1 m) (P.2.2 m) k i)
/-- what no pair has inside -/
abbrev fa_in (I : an_I) : Prop := I.1 = 0 ∨ I.1 = 10 ∨ I.1 = 11 ∨ I.1 = 14 ∨ I.1 = 15 ∨ I.1 = 17 ∨ I.1 = 16
/-- LOCK at i and UNLOCK at j are a pair; es k: the object made at k stays unseen -/
def fa_pr (P : pr_T) (m : Nat) (es : Nat → Prop) (i j : Nat) : Prop :=
  i < j ∧ j < P.1 m ∧ (P.2.2 m i).1 = 10 ∧ (P.2.2 m j).1 = 11 ∧ (P.2.2 m i).2.1 = (P.2.2 m j).2.1 ∧
  (∃ k, P.2.1 m ≤ (P.2.2 m i).2.1 ∧ fa_nw (P.1 m) (P.2.2 m) (P.2.2 m i).2.1 k ∧ ¬ fa_ap P m (P.2.2 m i).2.1 k ∧ es k ∧ ¬ dm_R (P.1 m) (P.2.2 m) k i) ∧
  (∀ q, i < q → q < j → ¬ fa_in (P.2.2 m q)) ∧
  (∀ q, q < P.1 m → ((P.2.2 m q).1 = 14 ∨ (P.2.2 m q).1 = 15) → ¬ (nI i < (P.2.2 m q).2.2.2.2 ∧ (P.2.2 m q).2.2.2.2 ≤ nI j))
def fa_A (P : pr_T) (m i : Nat) : Prop := ∃ r k, fa_ap P m r k ∧ (i = k ∨ fa_wk (P.2.2 m i) r)
def fa_B (P : pr_T) (m : Nat) (es : Nat → Prop) (i : Nat) : Prop := ∃ j, fa_pr P m es i j ∨ fa_pr P m es j i
/-- the fate of instruction i -/
def fa_is (P : pr_T) (m : Nat) (es : Nat → Prop) (i : Nat) (v : Int32) : Prop := (fa_A P m i → v = 1) ∧ (¬ fa_A P m i → fa_B P m es i → v = 2) ∧ (¬ fa_A P m i → ¬ fa_B P m es i → v = 0)
theorem fa_is_uq {P : pr_T} {m : Nat} {es : Nat → Prop} {i : Nat} {v w : Int32} (h : fa_is P m es i v) (k : fa_is P m es i w) : v = w := by
  by_cases a : fa_A P m i
  · rw [h.1 a, k.1 a]
  · by_cases b : fa_B P m es i
    · rw [h.2.1 a b, k.2.1 a b]
    · rw [h.2.2 a b, k.2.2 a b]
/-- an object made at k stays unseen -/
def fa_es (σ : an_T) (k0 : Nat) (k : Nat) : Prop := bt (an_rc σ.2.1 an_W) k = false ∧ ¬ (an_R σ.2.1 σ.2.2 k ∨ ∃ p, p < k0 ∧ an_R σ.2.1 (an_1 (24 + p)) k)
/-- of a pair both have the fate 2 only if they are LOCK and UNLOCK -/
theorem fa_is_2 {P : pr_T} {m : Nat} {es : Nat → Prop} {i : Nat} {v : Int32} (h : fa_is P m es i v) (k : v = 2) : (P.2.2 m i).1 = 10 ∨ (P.2.2 m i).1 = 11 := by
  by_cases a : fa_A P m i
  · have := h.1 a
    rw [k] at this
    exact absurd this (by decide)
  · by_cases b : fa_B P m es i
    · obtain ⟨j, b | b⟩ := b
      · exact Or.inl b.2.2.1
      · exact Or.inr b.2.2.2.1
    · have := h.2.2 a b
      rw [k] at this
      exact absurd this (by decide)
theorem fa_is_1 {P : pr_T} {m : Nat} {es : Nat → Prop} {i : Nat} {v : Int32} (h : fa_is P m es i v) : v = 1 ↔ fa_A P m i := by
  constructor
  · intro k
    apply Classical.byContradiction
    intro a
    by_cases b : fa_B P m es i
    · have := h.2.1 a b
      rw [k] at this
      exact absurd this (by decide)
    · have := h.2.2 a b
      rw [k] at this
      exact absurd this (by decide)
  · exact h.1
end
section
/-! FLAT MEMORY. A system whose heap keeps its shape: numbers by cell and place. -/
abbrev fm_M : Type := Nat → Nat → Int32
abbrev fm_V : Type := Int32 ⊕ Nat
/-- a cell of the shape: an array (which array class, its length, the cells that it refers to), or an object (which class; field by field: none: a number; some k: the cell k) -/
abbrev fm_C : Type := (Nat × Nat × List Nat) ⊕ (Nat × List (Option Nat))
def fm_v (ad : Nat → Nat) (v : fm_V) : Value := match v with
  | .inl x => .int x
  | .inr k => .ref (ad k)
theorem fm_v_cat (ad : Nat → Nat) (v : fm_V) : (fm_v ad v).category = 1 := by
  rcases v with x | k <;> rfl
def fm_f (ad : Nat → Nat) (M : fm_M) (k j : Nat) (f : Option Nat) : Value := match f with
  | none => .int (M k j)
  | some q => .ref (ad q)
def fm_cell (ad : Nat → Nat) (tA : Nat → ClassId) (M : fm_M) (k : Nat) (c : fm_C) : va_E := match c with
  | .inl (t, n, rf) => .inl (tA t, n, if t < 2 then .inl (M k) else .inr (.inr (.inr (.inr (fun i => (rf[i]?).map ad)))))
  | .inr (ci, l) => .inr (ci, l.mapIdx (fm_f ad M k))
def fm_W (ad : Nat → Nat) (tA : Nat → ClassId) (Sh : List fm_C) (M : fm_M) : va_W := Sh.mapIdx (fun k c => (ad k, fm_cell ad tA M k c))
def fm_up (M : fm_M) (k j : Nat) (x : Int32) : fm_M := fun a b => if a = k ∧ b = j then x else M a b
theorem fm_up_s {M : fm_M} {k j : Nat} {x : Int32} : fm_up M k j x k j = x := by simp [fm_up]
theorem fm_up_n {M : fm_M} {k j a b : Nat} {x : Int32} (h : ¬ (a = k ∧ b = j)) : fm_up M k j x a b = M a b := by simp [fm_up, h]
theorem fm_up_c {M : fm_M} {k j a : Nat} {x : Int32} (h : a ≠ k) : fm_up M k j x a = M a := by funext b; simp [fm_up, h]
theorem fm_W_at {ad : Nat → Nat} {tA : Nat → ClassId} {Sh : List fm_C} {M : fm_M} {k : Nat} {c : fm_C} (h : Sh[k]? = some c) : (fm_W ad tA Sh M)[k]? = some (ad k, fm_cell ad tA M k c) := by
  simp [fm_W, List.getElem?_mapIdx, h]
theorem fm_cell_eq {ad : Nat → Nat} {tA : Nat → ClassId} {M M' : fm_M} {k : Nat} (h : M k = M' k) (c : fm_C) : fm_cell ad tA M k c = fm_cell ad tA M' k c := by
  rcases c with ⟨t, n, rf⟩ | ⟨ci, l⟩
  · simp only [fm_cell, h]
  · have e : fm_f ad M k = fm_f ad M' k := by
      funext j f
      cases f <;> simp [fm_f, h]
    simp only [fm_cell, e]
/-- an array's element is written -/
theorem fm_W_arr {ad : Nat → Nat} {tA : Nat → ClassId} {Sh : List fm_C} {M : fm_M} {k t n j : Nat} {rf : List Nat} {x : Int32} (h : Sh[k]? = some (.inl (t, n, rf))) (ht : t < 2) :
    (fm_W ad tA Sh M).set k (ad k, .inl (tA t, n, .inl (upd (M k) j x))) = fm_W ad tA Sh (fm_up M k j x) := by
  have hk : k < Sh.length := (List.getElem?_eq_some_iff.mp h).1
  apply List.ext_getElem?
  intro i
  by_cases hi : i = k
  · subst hi
    rw [fm_W_at h, List.getElem?_set_self (by simpa [fm_W] using hk)]
    have e : upd (M i) j x = fm_up M i j x i := by
      funext b
      simp [upd, fm_up]
    simp only [fm_cell, if_pos ht, e]
  · rw [List.getElem?_set_ne (fun q => hi q.symm)]
    simp only [fm_W, List.getElem?_mapIdx]
    cases Sh[i]? with
    | none => rfl
    | some c => simp only [Option.map_some]; rw [fm_cell_eq (fm_up_c hi)]
/-- a field is written -/
theorem fm_W_obj {ad : Nat → Nat} {tA : Nat → ClassId} {Sh : List fm_C} {M : fm_M} {k ci j : Nat} {l : List (Option Nat)} {x : Int32} (h : Sh[k]? = some (.inr (ci, l))) (hj : l[j]? = some none) :
    (fm_W ad tA Sh M).set k (ad k, .inr (ci, (l.mapIdx (fm_f ad M k)).set j (.int x))) = fm_W ad tA Sh (fm_up M k j x) := by
  have hk : k < Sh.length := (List.getElem?_eq_some_iff.mp h).1
  have hjl : j < l.length := (List.getElem?_eq_some_iff.mp hj).1
  apply List.ext_getElem?
  intro i
  by_cases hi : i = k
  · subst hi
    rw [fm_W_at h, List.getElem?_set_self (by simpa [fm_W] using hk)]
    have e : (l.mapIdx (fm_f ad M i)).set j (.int x) = l.mapIdx (fm_f ad (fm_up M i j x) i) := by
      apply List.ext_getElem?
      intro b
      by_cases hb : b = j
      · subst hb
        rw [List.getElem?_set_self (by simpa using hjl)]
        simp [List.getElem?_mapIdx, hj, fm_f, fm_up]
      · rw [List.getElem?_set_ne (fun q => hb q.symm)]
        simp only [List.getElem?_mapIdx]
        cases l[b]? with
        | none => rfl
        | some f => cases f <;> simp [fm_f, fm_up, hb]
    simp only [fm_cell, e]
  · rw [List.getElem?_set_ne (fun q => hi q.symm)]
    simp only [fm_W, List.getElem?_mapIdx]
    cases Sh[i]? with
    | none => rfl
    | some c => simp only [Option.map_some]; rw [fm_cell_eq (fm_up_c hi)]
/-- the locals, by their places; none: nothing is known of it -/
abbrev fm_L : Type := List (Option fm_V)
def fm_lv (ad : Nat → Nat) (ls : fm_L) : List (Nat × Value) := (List.range ls.length).filterMap (fun i => (ls[i]?.join).map (fun v => (i, fm_v ad v)))
theorem fm_lv_mem {ad : Nat → Nat} {ls : fm_L} {i : Nat} {w : Value} : (i, w) ∈ fm_lv ad ls ↔ ∃ v, ls[i]? = some (some v) ∧ fm_v ad v = w := by
  simp only [fm_lv, List.mem_filterMap, List.mem_range]
  constructor
  · rintro ⟨j, hj, h⟩
    cases hl : ls[j]? with
    | none => rw [hl] at h; simp at h
    | some o =>
      cases o with
      | none => rw [hl] at h; simp at h
      | some v =>
        rw [hl] at h
        simp only [Option.join, Option.bind_some, id, Option.map_some, Option.some.injEq, Prod.mk.injEq] at h
        obtain ⟨h1, h2⟩ := h
        subst h1
        exact ⟨v, hl, h2⟩
  · rintro ⟨v, hl, hw⟩
    refine ⟨i, (List.getElem?_eq_some_iff.mp hl).1, ?_⟩
    rw [hl, ← hw]
    rfl
theorem fm_lv_at {ad : Nat → Nat} {la : Array Slot} {nL : Nat} {ls : fm_L} (h : lv_has la nL (fm_lv ad ls)) {i : Nat} {v : fm_V} (hi : ls[i]? = some (some v)) : la[i]? = some (.val (fm_v ad v)) := h.2.2 (i, fm_v ad v) (fm_lv_mem.mpr ⟨v, hi, rfl⟩)
theorem fm_lv_set {ad : Nat → Nat} {la : Array Slot} {nL : Nat} {ls : fm_L} {i : Nat} {v : fm_V} (h : lv_has la nL ((i, fm_v ad v) :: (fm_lv ad ls).filter (fun q => !(q.1 == i) && !(q.1 + 1 == i && q.2.category == 2)))) : lv_has la nL (fm_lv ad (ls.set i (some v))) := by
  refine ⟨h.1, h.2.1, fun q hq => h.2.2 q ?_⟩
  obtain ⟨j, x⟩ := q
  obtain ⟨u, hu, hx⟩ := fm_lv_mem.mp hq
  by_cases hj : j = i
  · subst hj
    have hlt : j < ls.length := by
      have := (List.getElem?_eq_some_iff.mp hu).1
      simpa using this
    rw [List.getElem?_set_self hlt] at hu
    have hvu : v = u := by simpa using hu
    subst hvu; subst hx
    exact List.mem_cons_self
  · rw [List.getElem?_set_ne (fun q => hj q.symm)] at hu
    refine List.mem_cons_of_mem _ (List.mem_filter.mpr ⟨fm_lv_mem.mpr ⟨u, hu, hx⟩, ?_⟩)
    subst hx
    simp [hj, fm_v_cat]
/-- fewer are known -/
theorem fm_lv_sub {ad : Nat → Nat} {la : Array Slot} {nL : Nat} {ls ls' : fm_L} (h : lv_has la nL (fm_lv ad ls)) (hs : ∀ (i : Nat) (v : fm_V), ls'[i]? = some (some v) → ls[i]? = some (some v)) : lv_has la nL (fm_lv ad ls') := by
  refine ⟨h.1, h.2.1, fun q hq => h.2.2 q ?_⟩
  obtain ⟨j, x⟩ := q
  obtain ⟨u, hu, hx⟩ := fm_lv_mem.mp hq
  exact fm_lv_mem.mpr ⟨u, hs j u hu, hx⟩
/-- a system: its classes, its shape, the element types of its array classes (0: int, 1: boolean), its words -/
abbrev fm_S : Type := List vw_C × List fm_C × List FieldType × List Cond
def fm_tys (S : fm_S) (tA : Nat → ClassId) : List (ClassId × FieldType) := S.2.2.1.mapIdx (fun t ty => (tA t, ty))
theorem fm_tys_at {S : fm_S} {tA : Nat → ClassId} {t : Nat} {ty : FieldType} (h : S.2.2.1[t]? = some ty) : (fm_tys S tA)[t]? = some (tA t, ty) := by
  simp [fm_tys, List.getElem?_mapIdx, h]
/-- a method's end: what it answers, the memory behind it -/
def fm_Q (S : fm_S) (D : va_G) (ad : Nat → Nat) (tA : Nat → ClassId) (A : Nat → Prop) (post : Option Int32 → fm_M → Prop) : Array Value → State → Outcome → State → Prop := fun _ st oc t =>
  (∃ (r : Option Int32) (M : fm_M), oc = .returned (r.map Value.int) ∧ post r M ∧ va_P D S.1 (fm_W ad tA S.2.1 M) t.heap ∧ va_K D S.1 (fm_tys S tA) t ∧ va_D A (fm_W ad tA S.2.1 M)) ∧ va_F A st t
def fm_rm (d : Nat) : Room := { frames := d, cells := 0, slots := 0, locals := 64 * d }
def fm_Pc (S : fm_S) (D : va_G) (ad : Nat → Nat) (tA : Nat → ClassId) (sz : Nat) (as : List fm_V) (M : fm_M) : Array Value → State → Prop :=
  va_Pc (as.map (fm_v ad)) (fun U => U.heap.size = sz ∧ va_P D S.1 (fm_W ad tA S.2.1 M) U.heap ∧ va_K D S.1 (fm_tys S tA) U ∧ va_D (fun _ => True) (fm_W ad tA S.2.1 M))
/-- A METHOD'S CONTRACT over flat memory -/
def fm_ct (S : fm_S) (y : MethodName) (cc : ByteArray) (maxL : Nat) (ret : Option FieldType) (d : Nat) (as : List fm_V) (M : fm_M) (post : Option Int32 → fm_M → Prop) : Prop :=
  ∀ (l : Launch) (D : va_G) (ad : Nat → Nat) (tA : Nat → ClassId) (sz : Nat), Met l y (Cond.code y cc maxL ret :: S.2.2.2) (fm_rm d) (fm_Pc S D ad tA sz as M) (fm_Q S D ad tA (va_A (fm_W ad tA S.2.1 M) sz) post) 0 0 (va_A (fm_W ad tA S.2.1 M) sz)
/-- where a walk stands: the machine's parts -/
abbrev fm_X : Type _ := Program × Launch × Env × State × MethodId × Array Value × List Frame × Method × Code × va_G × (Nat → Nat) × (Nat → ClassId)
/-- the method: its class, code, locals, answer, depth -/
abbrev fm_Y : Type := String × ByteArray × Nat × Option FieldType × Nat
def fm_Ctx (S : fm_S) (Y : fm_Y) (X : fm_X) : Prop := match X with
  | (p, l, e, s, m, args, below, meth, c, D, ad, tA) =>
    p.tables.exec = Jvm.exec ∧ c.code = Y.2.1 ∧ c.maxLocals = Y.2.2.1 ∧ meth.sig.returnType = Y.2.2.2.1 ∧ s.vm.findClass Y.1 = some m.cls ∧ (∀ w ∈ S.2.2.2, w.before args s = true) ∧ va_K D S.1 (fm_tys S tA) s ∧ meth.locks = false ∧ S.2.2.2.all goodWord = true
def fm_G (S : fm_S) (Y : fm_Y) (X : fm_X) (M0 : fm_M) (post : Option Int32 → fm_M → Prop) (pc : Nat) (ls : fm_L) (st : List fm_V) (M : fm_M) : Prop := match X with
  | (p, l, e, s, m, args, below, meth, c, D, ad, tA) =>
    ∀ (la : Array Slot) (H : Heap) (locs : List Loc), lv_has la Y.2.2.1 (fm_lv ad ls) → va_P D S.1 (fm_W ad tA S.2.1 M) H → va_D (va_A (fm_W ad tA S.2.1 M0) s.heap.size) (fm_W ad tA S.2.1 M) → va_S (va_A (fm_W ad tA S.2.1 M0) s.heap.size) s.heap H locs →
      W p l e (fm_rm Y.2.2.2.2) s m args below meth c H locs 0 0 (MQ below (fm_Q S D ad tA (va_A (fm_W ad tA S.2.1 M0) s.heap.size) post) args s 0 0 (va_A (fm_W ad tA S.2.1 M0) s.heap.size)) (F0 m pc la (st.map (fm_v ad)))
section FM
variable {S : fm_S} {Y : fm_Y} {X : fm_X} {M0 M : fm_M} {post : Option Int32 → fm_M → Prop} {pc : Nat} {ls : fm_L} {st : List fm_V}
/-- fewer locals are known -/
theorem fm_less {ls' : fm_L} (hs : ∀ (i : Nat) (v : fm_V), ls'[i]? = some (some v) → ls[i]? = some (some v)) (h : fm_G S Y X M0 post pc ls' st M) : fm_G S Y X M0 post pc ls st M := by
  obtain ⟨p, l, e, s, m, args, below, meth, c, D, ad, tA⟩ := X
  intro la H locs hl hP hD hS
  exact h la H locs (fm_lv_sub hl hs) hP hD hS
theorem fm_top {x y : Int32} (e : x = y) (h : fm_G S Y X M0 post pc ls (.inl y :: st) M) : fm_G S Y X M0 post pc ls (.inl x :: st) M := e ▸ h
theorem fm_mem {M' : fm_M} (e : M = M') (h : fm_G S Y X M0 post pc ls st M') : fm_G S Y X M0 post pc ls st M := e ▸ h

theorem fm_iconst (hX : fm_Ctx S Y X) {pq : Nat} {n : Int} {v : Int32} (hd : decode Y.2.1 pc = .ok (.iconst n, 1)) (hv : Int32.ofInt n = v) (hq : pc + 1 = pq)
    (k : fm_G S Y X M0 post (pq) ls (.inl v :: st) M) : fm_G S Y X M0 post pc ls (st) M := by
  subst hq
  obtain ⟨p, l, e, s, m, args, below, meth, c, D, ad, tA⟩ := X
  obtain ⟨hx, hb, hml, hr, hown, hts, hK, hlk, hgd⟩ := hX
  intro la H locs hl hP hD hS
  exact lv_iconst hx hb hd hv (k la H locs hl hP hD hS)
theorem fm_bipush (hX : fm_Ctx S Y X) {pq : Nat} {n : Int} {v : Int32} (hd : decode Y.2.1 pc = .ok (.bipush n, 2)) (hv : (Int8.ofInt n).toInt32 = v) (hq : pc + 2 = pq)
    (k : fm_G S Y X M0 post (pq) ls (.inl v :: st) M) : fm_G S Y X M0 post pc ls (st) M := by
  subst hq
  obtain ⟨p, l, e, s, m, args, below, meth, c, D, ad, tA⟩ := X
  obtain ⟨hx, hb, hml, hr, hown, hts, hK, hlk, hgd⟩ := hX
  intro la H locs hl hP hD hS
  exact lv_bipush hx hb hd hv (k la H locs hl hP hD hS)
theorem fm_sipush (hX : fm_Ctx S Y X) {pq : Nat} {n : Int} {v : Int32} (hd : decode Y.2.1 pc = .ok (.sipush n, 3)) (hv : (Int16.ofInt n).toInt32 = v) (hq : pc + 3 = pq)
    (k : fm_G S Y X M0 post (pq) ls (.inl v :: st) M) : fm_G S Y X M0 post pc ls (st) M := by
  subst hq
  obtain ⟨p, l, e, s, m, args, below, meth, c, D, ad, tA⟩ := X
  obtain ⟨hx, hb, hml, hr, hown, hts, hK, hlk, hgd⟩ := hX
  intro la H locs hl hP hD hS
  exact lv_sipush hx hb hd hv (k la H locs hl hP hD hS)
theorem fm_ldc (hX : fm_Ctx S Y X) {pq : Nat} {index : Nat} {v : Int32} (hd : decode Y.2.1 pc = .ok (.ldc index, 2)) (hw : Cond.constant Y.1 index v ∈ S.2.2.2) (hq : pc + 2 = pq)
    (k : fm_G S Y X M0 post (pq) ls (.inl v :: st) M) : fm_G S Y X M0 post pc ls (st) M := by
  subst hq
  obtain ⟨p, l, e, s, m, args, below, meth, c, D, ad, tA⟩ := X
  obtain ⟨hx, hb, hml, hr, hown, hts, hK, hlk, hgd⟩ := hX
  intro la H locs hl hP hD hS
  exact lv_ldc hx hb hown (hts _ hw) hd (k la H locs hl hP hD hS)
theorem fm_iload_n (hX : fm_Ctx S Y X) {pq : Nat} {k0 : Fin 4} {i : Nat} {x : Int32} (hd : decode Y.2.1 pc = .ok (.iload_n k0, 1)) (hi : (k0 : Nat) = i) (hg : ls[i]? = some (some (.inl x))) (hq : pc + 1 = pq)
    (k : fm_G S Y X M0 post (pq) ls (.inl x :: st) M) : fm_G S Y X M0 post pc ls (st) M := by
  subst hq
  obtain ⟨p, l, e, s, m, args, below, meth, c, D, ad, tA⟩ := X
  obtain ⟨hx, hb, hml, hr, hown, hts, hK, hlk, hgd⟩ := hX
  intro la H locs hl hP hD hS
  exact lv_iload_n hx hb hd hi (fm_lv_at hl hg) (k la H locs hl hP hD hS)
theorem fm_iload (hX : fm_Ctx S Y X) {pq : Nat} {i : Nat} {x : Int32} (hd : decode Y.2.1 pc = .ok (.iload i, 2)) (hg : ls[i]? = some (some (.inl x))) (hq : pc + 2 = pq)
    (k : fm_G S Y X M0 post (pq) ls (.inl x :: st) M) : fm_G S Y X M0 post pc ls (st) M := by
  subst hq
  obtain ⟨p, l, e, s, m, args, below, meth, c, D, ad, tA⟩ := X
  obtain ⟨hx, hb, hml, hr, hown, hts, hK, hlk, hgd⟩ := hX
  intro la H locs hl hP hD hS
  exact lv_iload hx hb hd (fm_lv_at hl hg) (k la H locs hl hP hD hS)
theorem fm_aload_n (hX : fm_Ctx S Y X) {pq : Nat} {k0 : Fin 4} {i : Nat} {x : Nat} (hd : decode Y.2.1 pc = .ok (.aload_n k0, 1)) (hi : (k0 : Nat) = i) (hg : ls[i]? = some (some (.inr x))) (hq : pc + 1 = pq)
    (k : fm_G S Y X M0 post (pq) ls (.inr x :: st) M) : fm_G S Y X M0 post pc ls (st) M := by
  subst hq
  obtain ⟨p, l, e, s, m, args, below, meth, c, D, ad, tA⟩ := X
  obtain ⟨hx, hb, hml, hr, hown, hts, hK, hlk, hgd⟩ := hX
  intro la H locs hl hP hD hS
  exact lv_aload_n hx hb hd hi (fm_lv_at hl hg) (k la H locs hl hP hD hS)
theorem fm_aload (hX : fm_Ctx S Y X) {pq : Nat} {i : Nat} {x : Nat} (hd : decode Y.2.1 pc = .ok (.aload i, 2)) (hg : ls[i]? = some (some (.inr x))) (hq : pc + 2 = pq)
    (k : fm_G S Y X M0 post (pq) ls (.inr x :: st) M) : fm_G S Y X M0 post pc ls (st) M := by
  subst hq
  obtain ⟨p, l, e, s, m, args, below, meth, c, D, ad, tA⟩ := X
  obtain ⟨hx, hb, hml, hr, hown, hts, hK, hlk, hgd⟩ := hX
  intro la H locs hl hP hD hS
  exact lv_aload hx hb hd (fm_lv_at hl hg) (k la H locs hl hP hD hS)
theorem fm_istore_n (hX : fm_Ctx S Y X) {ls1 : fm_L} {pq : Nat} {k0 : Fin 4} {i : Nat} {x : Int32} (hd : decode Y.2.1 pc = .ok (.istore_n k0, 1)) (hi : (k0 : Nat) = i) (hn : i < Y.2.2.1) (hq : pc + 1 = pq) (hs : (ls.set i (some (.inl x))) = ls1)
    (k : fm_G S Y X M0 post (pq) ls1 (st) M) : fm_G S Y X M0 post pc ls (.inl x :: st) M := by
  subst hq
  subst hs
  obtain ⟨p, l, e, s, m, args, below, meth, c, D, ad, tA⟩ := X
  obtain ⟨hx, hb, hml, hr, hown, hts, hK, hlk, hgd⟩ := hX
  intro la H locs hl hP hD hS
  exact lv_istore_n hx hb hd hi hl hn rfl (fun la1 hl1 => k la1 H locs (fm_lv_set (v := .inl x) hl1) hP hD hS)
theorem fm_istore (hX : fm_Ctx S Y X) {ls1 : fm_L} {pq : Nat} {i : Nat} {x : Int32} (hd : decode Y.2.1 pc = .ok (.istore i, 2)) (hn : i < Y.2.2.1) (hq : pc + 2 = pq) (hs : (ls.set i (some (.inl x))) = ls1)
    (k : fm_G S Y X M0 post (pq) ls1 (st) M) : fm_G S Y X M0 post pc ls (.inl x :: st) M := by
  subst hq
  subst hs
  obtain ⟨p, l, e, s, m, args, below, meth, c, D, ad, tA⟩ := X
  obtain ⟨hx, hb, hml, hr, hown, hts, hK, hlk, hgd⟩ := hX
  intro la H locs hl hP hD hS
  exact lv_istore hx hb hd hl hn rfl (fun la1 hl1 => k la1 H locs (fm_lv_set (v := .inl x) hl1) hP hD hS)
theorem fm_astore_n (hX : fm_Ctx S Y X) {ls1 : fm_L} {pq : Nat} {k0 : Fin 4} {i : Nat} {x : Nat} (hd : decode Y.2.1 pc = .ok (.astore_n k0, 1)) (hi : (k0 : Nat) = i) (hn : i < Y.2.2.1) (hq : pc + 1 = pq) (hs : (ls.set i (some (.inr x))) = ls1)
    (k : fm_G S Y X M0 post (pq) ls1 (st) M) : fm_G S Y X M0 post pc ls (.inr x :: st) M := by
  subst hq
  subst hs
  obtain ⟨p, l, e, s, m, args, below, meth, c, D, ad, tA⟩ := X
  obtain ⟨hx, hb, hml, hr, hown, hts, hK, hlk, hgd⟩ := hX
  intro la H locs hl hP hD hS
  exact lv_astore_n hx hb hd hi hl hn rfl (fun la1 hl1 => k la1 H locs (fm_lv_set (v := .inr x) hl1) hP hD hS)
theorem fm_astore (hX : fm_Ctx S Y X) {ls1 : fm_L} {pq : Nat} {i : Nat} {x : Nat} (hd : decode Y.2.1 pc = .ok (.astore i, 2)) (hn : i < Y.2.2.1) (hq : pc + 2 = pq) (hs : (ls.set i (some (.inr x))) = ls1)
    (k : fm_G S Y X M0 post (pq) ls1 (st) M) : fm_G S Y X M0 post pc ls (.inr x :: st) M := by
  subst hq
  subst hs
  obtain ⟨p, l, e, s, m, args, below, meth, c, D, ad, tA⟩ := X
  obtain ⟨hx, hb, hml, hr, hown, hts, hK, hlk, hgd⟩ := hX
  intro la H locs hl hP hD hS
  exact lv_astore hx hb hd hl hn rfl (fun la1 hl1 => k la1 H locs (fm_lv_set (v := .inr x) hl1) hP hD hS)
theorem fm_iinc (hX : fm_Ctx S Y X) {ls1 : fm_L} {pq : Nat} {i : Nat} {n : Int} {x v : Int32} (hd : decode Y.2.1 pc = .ok (.iinc i n, 3)) (hg : ls[i]? = some (some (.inl x))) (hv : x + Int32.ofInt n = v) (hn : i < Y.2.2.1) (hq : pc + 3 = pq) (hs : (ls.set i (some (.inl v))) = ls1)
    (k : fm_G S Y X M0 post (pq) ls1 (st) M) : fm_G S Y X M0 post pc ls (st) M := by
  subst hq
  subst hs
  obtain ⟨p, l, e, s, m, args, below, meth, c, D, ad, tA⟩ := X
  obtain ⟨hx, hb, hml, hr, hown, hts, hK, hlk, hgd⟩ := hX
  intro la H locs hl hP hD hS
  obtain ⟨q, hq⟩ := List.getElem?_of_mem (fm_lv_mem (ad := ad).mpr ⟨.inl x, hg, rfl⟩)
  exact lv_iinc hx hb hd hl hq hv hn rfl (fun la1 hl1 => k la1 H locs (fm_lv_set (v := .inl v) hl1) hP hD hS)
theorem fm_iadd (hX : fm_Ctx S Y X) {pq : Nat} {x y v : Int32} (hd : decode Y.2.1 pc = .ok (.iadd, 1)) (hv : x + y = v) (hq : pc + 1 = pq)
    (k : fm_G S Y X M0 post (pq) ls (.inl v :: st) M) : fm_G S Y X M0 post pc ls (.inl y :: .inl x :: st) M := by
  subst hq
  obtain ⟨p, l, e, s, m, args, below, meth, c, D, ad, tA⟩ := X
  obtain ⟨hx, hb, hml, hr, hown, hts, hK, hlk, hgd⟩ := hX
  intro la H locs hl hP hD hS
  subst hv
  exact lv_iadd hx hb hd (k la H locs hl hP hD hS)
theorem fm_isub (hX : fm_Ctx S Y X) {pq : Nat} {x y v : Int32} (hd : decode Y.2.1 pc = .ok (.isub, 1)) (hv : x - y = v) (hq : pc + 1 = pq)
    (k : fm_G S Y X M0 post (pq) ls (.inl v :: st) M) : fm_G S Y X M0 post pc ls (.inl y :: .inl x :: st) M := by
  subst hq
  obtain ⟨p, l, e, s, m, args, below, meth, c, D, ad, tA⟩ := X
  obtain ⟨hx, hb, hml, hr, hown, hts, hK, hlk, hgd⟩ := hX
  intro la H locs hl hP hD hS
  subst hv
  exact lv_isub hx hb hd (k la H locs hl hP hD hS)
theorem fm_imul (hX : fm_Ctx S Y X) {pq : Nat} {x y v : Int32} (hd : decode Y.2.1 pc = .ok (.imul, 1)) (hv : x * y = v) (hq : pc + 1 = pq)
    (k : fm_G S Y X M0 post (pq) ls (.inl v :: st) M) : fm_G S Y X M0 post pc ls (.inl y :: .inl x :: st) M := by
  subst hq
  obtain ⟨p, l, e, s, m, args, below, meth, c, D, ad, tA⟩ := X
  obtain ⟨hx, hb, hml, hr, hown, hts, hK, hlk, hgd⟩ := hX
  intro la H locs hl hP hD hS
  subst hv
  exact lv_imul hx hb hd (k la H locs hl hP hD hS)
theorem fm_iand (hX : fm_Ctx S Y X) {pq : Nat} {x y v : Int32} (hd : decode Y.2.1 pc = .ok (.iand, 1)) (hv : x &&& y = v) (hq : pc + 1 = pq)
    (k : fm_G S Y X M0 post (pq) ls (.inl v :: st) M) : fm_G S Y X M0 post pc ls (.inl y :: .inl x :: st) M := by
  subst hq
  obtain ⟨p, l, e, s, m, args, below, meth, c, D, ad, tA⟩ := X
  obtain ⟨hx, hb, hml, hr, hown, hts, hK, hlk, hgd⟩ := hX
  intro la H locs hl hP hD hS
  subst hv
  exact lv_iand hx hb hd (k la H locs hl hP hD hS)
theorem fm_ior (hX : fm_Ctx S Y X) {pq : Nat} {x y v : Int32} (hd : decode Y.2.1 pc = .ok (.ior, 1)) (hv : x ||| y = v) (hq : pc + 1 = pq)
    (k : fm_G S Y X M0 post (pq) ls (.inl v :: st) M) : fm_G S Y X M0 post pc ls (.inl y :: .inl x :: st) M := by
  subst hq
  obtain ⟨p, l, e, s, m, args, below, meth, c, D, ad, tA⟩ := X
  obtain ⟨hx, hb, hml, hr, hown, hts, hK, hlk, hgd⟩ := hX
  intro la H locs hl hP hD hS
  subst hv
  exact lv_ior hx hb hd (k la H locs hl hP hD hS)
theorem fm_ixor (hX : fm_Ctx S Y X) {pq : Nat} {x y v : Int32} (hd : decode Y.2.1 pc = .ok (.ixor, 1)) (hv : x ^^^ y = v) (hq : pc + 1 = pq)
    (k : fm_G S Y X M0 post (pq) ls (.inl v :: st) M) : fm_G S Y X M0 post pc ls (.inl y :: .inl x :: st) M := by
  subst hq
  obtain ⟨p, l, e, s, m, args, below, meth, c, D, ad, tA⟩ := X
  obtain ⟨hx, hb, hml, hr, hown, hts, hK, hlk, hgd⟩ := hX
  intro la H locs hl hP hD hS
  subst hv
  exact lv_ixor hx hb hd (k la H locs hl hP hD hS)
theorem fm_ishl (hX : fm_Ctx S Y X) {pq : Nat} {x y v : Int32} (hd : decode Y.2.1 pc = .ok (.ishl, 1)) (hv : x <<< (y &&& 31) = v) (hq : pc + 1 = pq)
    (k : fm_G S Y X M0 post (pq) ls (.inl v :: st) M) : fm_G S Y X M0 post pc ls (.inl y :: .inl x :: st) M := by
  subst hq
  obtain ⟨p, l, e, s, m, args, below, meth, c, D, ad, tA⟩ := X
  obtain ⟨hx, hb, hml, hr, hown, hts, hK, hlk, hgd⟩ := hX
  intro la H locs hl hP hD hS
  subst hv
  exact lv_ishl hx hb hd (k la H locs hl hP hD hS)
theorem fm_ishr (hX : fm_Ctx S Y X) {pq : Nat} {x y v : Int32} (hd : decode Y.2.1 pc = .ok (.ishr, 1)) (hv : x >>> (y &&& 31) = v) (hq : pc + 1 = pq)
    (k : fm_G S Y X M0 post (pq) ls (.inl v :: st) M) : fm_G S Y X M0 post pc ls (.inl y :: .inl x :: st) M := by
  subst hq
  obtain ⟨p, l, e, s, m, args, below, meth, c, D, ad, tA⟩ := X
  obtain ⟨hx, hb, hml, hr, hown, hts, hK, hlk, hgd⟩ := hX
  intro la H locs hl hP hD hS
  subst hv
  exact lv_ishr hx hb hd (k la H locs hl hP hD hS)
theorem fm_dup (hX : fm_Ctx S Y X) {pq : Nat} {v : fm_V} (hd : decode Y.2.1 pc = .ok (.dup, 1)) (hq : pc + 1 = pq)
    (k : fm_G S Y X M0 post (pq) ls (v :: v :: st) M) : fm_G S Y X M0 post pc ls (v :: st) M := by
  subst hq
  obtain ⟨p, l, e, s, m, args, below, meth, c, D, ad, tA⟩ := X
  obtain ⟨hx, hb, hml, hr, hown, hts, hK, hlk, hgd⟩ := hX
  intro la H locs hl hP hD hS
  exact lv_dup hx hb hd (fm_v_cat ad v) (k la H locs hl hP hD hS)
theorem fm_pop (hX : fm_Ctx S Y X) {pq : Nat} {v : fm_V} (hd : decode Y.2.1 pc = .ok (.pop, 1)) (hq : pc + 1 = pq)
    (k : fm_G S Y X M0 post (pq) ls (st) M) : fm_G S Y X M0 post pc ls (v :: st) M := by
  subst hq
  obtain ⟨p, l, e, s, m, args, below, meth, c, D, ad, tA⟩ := X
  obtain ⟨hx, hb, hml, hr, hown, hts, hK, hlk, hgd⟩ := hX
  intro la H locs hl hP hD hS
  exact lv_pop hx hb hd (fm_v_cat ad v) (k la H locs hl hP hD hS)
theorem fm_dup_x1 (hX : fm_Ctx S Y X) {pq : Nat} {v u : fm_V} (hd : decode Y.2.1 pc = .ok (.dup_x1, 1)) (hq : pc + 1 = pq)
    (k : fm_G S Y X M0 post (pq) ls (v :: u :: v :: st) M) : fm_G S Y X M0 post pc ls (v :: u :: st) M := by
  subst hq
  obtain ⟨p, l, e, s, m, args, below, meth, c, D, ad, tA⟩ := X
  obtain ⟨hx, hb, hml, hr, hown, hts, hK, hlk, hgd⟩ := hX
  intro la H locs hl hP hD hS
  exact lv_dup_x1 hx hb hd (fm_v_cat ad v) (fm_v_cat ad u) (k la H locs hl hP hD hS)
theorem fm_dup_x2 (hX : fm_Ctx S Y X) {pq : Nat} {v u t : fm_V} (hd : decode Y.2.1 pc = .ok (.dup_x2, 1)) (hq : pc + 1 = pq)
    (k : fm_G S Y X M0 post (pq) ls (v :: u :: t :: v :: st) M) : fm_G S Y X M0 post pc ls (v :: u :: t :: st) M := by
  subst hq
  obtain ⟨p, l, e, s, m, args, below, meth, c, D, ad, tA⟩ := X
  obtain ⟨hx, hb, hml, hr, hown, hts, hK, hlk, hgd⟩ := hX
  intro la H locs hl hP hD hS
  exact lv_dup_x2 hx hb hd (fm_v_cat ad v) (fm_v_cat ad u) (fm_v_cat ad t) (k la H locs hl hP hD hS)
theorem fm_dup2 (hX : fm_Ctx S Y X) {pq : Nat} {v u : fm_V} (hd : decode Y.2.1 pc = .ok (.dup2, 1)) (hq : pc + 1 = pq)
    (k : fm_G S Y X M0 post (pq) ls (v :: u :: v :: u :: st) M) : fm_G S Y X M0 post pc ls (v :: u :: st) M := by
  subst hq
  obtain ⟨p, l, e, s, m, args, below, meth, c, D, ad, tA⟩ := X
  obtain ⟨hx, hb, hml, hr, hown, hts, hK, hlk, hgd⟩ := hX
  intro la H locs hl hP hD hS
  exact lv_dup2_11 hx hb hd (fm_v_cat ad v) (fm_v_cat ad u) (k la H locs hl hP hD hS)
theorem fm_if_eq (hX : fm_Ctx S Y X) {x : Int32} {off : Int} {tgt pq : Nat} (hd : decode Y.2.1 pc = .ok (.ifCond .eq off, 3)) (ht : (pc : Int) + off = (tgt : Int)) (hq : pc + 3 = pq)
    (kt : x = 0 → fm_G S Y X M0 post tgt ls st M) (kf : ¬ (x = 0) → fm_G S Y X M0 post pq ls st M) : fm_G S Y X M0 post pc ls (.inl x :: st) M := by
  subst hq
  obtain ⟨p, l, e, s, m, args, below, meth, c, D, ad, tA⟩ := X
  obtain ⟨hx, hb, hml, hr, hown, hts, hK, hlk, hgd⟩ := hX
  intro la H locs hl hP hD hS
  exact lv_if_eq hx hb hd ht (fun h => kt h la H locs hl hP hD hS) (fun h => kf h la H locs hl hP hD hS)
theorem fm_icmp_eq (hX : fm_Ctx S Y X) {x y : Int32} {off : Int} {tgt pq : Nat} (hd : decode Y.2.1 pc = .ok (.if_icmp .eq off, 3)) (ht : (pc : Int) + off = (tgt : Int)) (hq : pc + 3 = pq)
    (kt : x = y → fm_G S Y X M0 post tgt ls st M) (kf : ¬ (x = y) → fm_G S Y X M0 post pq ls st M) : fm_G S Y X M0 post pc ls (.inl y :: .inl x :: st) M := by
  subst hq
  obtain ⟨p, l, e, s, m, args, below, meth, c, D, ad, tA⟩ := X
  obtain ⟨hx, hb, hml, hr, hown, hts, hK, hlk, hgd⟩ := hX
  intro la H locs hl hP hD hS
  exact lv_icmp_eq hx hb hd ht (fun h => kt h la H locs hl hP hD hS) (fun h => kf h la H locs hl hP hD hS)
theorem fm_if_ne (hX : fm_Ctx S Y X) {x : Int32} {off : Int} {tgt pq : Nat} (hd : decode Y.2.1 pc = .ok (.ifCond .ne off, 3)) (ht : (pc : Int) + off = (tgt : Int)) (hq : pc + 3 = pq)
    (kt : ¬ x = 0 → fm_G S Y X M0 post tgt ls st M) (kf : x = 0 → fm_G S Y X M0 post pq ls st M) : fm_G S Y X M0 post pc ls (.inl x :: st) M := by
  subst hq
  obtain ⟨p, l, e, s, m, args, below, meth, c, D, ad, tA⟩ := X
  obtain ⟨hx, hb, hml, hr, hown, hts, hK, hlk, hgd⟩ := hX
  intro la H locs hl hP hD hS
  exact lv_if_ne hx hb hd ht (fun h => kt h la H locs hl hP hD hS) (fun h => kf h la H locs hl hP hD hS)
theorem fm_icmp_ne (hX : fm_Ctx S Y X) {x y : Int32} {off : Int} {tgt pq : Nat} (hd : decode Y.2.1 pc = .ok (.if_icmp .ne off, 3)) (ht : (pc : Int) + off = (tgt : Int)) (hq : pc + 3 = pq)
    (kt : ¬ x = y → fm_G S Y X M0 post tgt ls st M) (kf : x = y → fm_G S Y X M0 post pq ls st M) : fm_G S Y X M0 post pc ls (.inl y :: .inl x :: st) M := by
  subst hq
  obtain ⟨p, l, e, s, m, args, below, meth, c, D, ad, tA⟩ := X
  obtain ⟨hx, hb, hml, hr, hown, hts, hK, hlk, hgd⟩ := hX
  intro la H locs hl hP hD hS
  exact lv_icmp_ne hx hb hd ht (fun h => kt h la H locs hl hP hD hS) (fun h => kf h la H locs hl hP hD hS)
theorem fm_if_lt (hX : fm_Ctx S Y X) {x : Int32} {off : Int} {tgt pq : Nat} (hd : decode Y.2.1 pc = .ok (.ifCond .lt off, 3)) (ht : (pc : Int) + off = (tgt : Int)) (hq : pc + 3 = pq)
    (kt : x < 0 → fm_G S Y X M0 post tgt ls st M) (kf : ¬ (x < 0) → fm_G S Y X M0 post pq ls st M) : fm_G S Y X M0 post pc ls (.inl x :: st) M := by
  subst hq
  obtain ⟨p, l, e, s, m, args, below, meth, c, D, ad, tA⟩ := X
  obtain ⟨hx, hb, hml, hr, hown, hts, hK, hlk, hgd⟩ := hX
  intro la H locs hl hP hD hS
  exact lv_if_lt hx hb hd ht (fun h => kt h la H locs hl hP hD hS) (fun h => kf h la H locs hl hP hD hS)
theorem fm_icmp_lt (hX : fm_Ctx S Y X) {x y : Int32} {off : Int} {tgt pq : Nat} (hd : decode Y.2.1 pc = .ok (.if_icmp .lt off, 3)) (ht : (pc : Int) + off = (tgt : Int)) (hq : pc + 3 = pq)
    (kt : x < y → fm_G S Y X M0 post tgt ls st M) (kf : ¬ (x < y) → fm_G S Y X M0 post pq ls st M) : fm_G S Y X M0 post pc ls (.inl y :: .inl x :: st) M := by
  subst hq
  obtain ⟨p, l, e, s, m, args, below, meth, c, D, ad, tA⟩ := X
  obtain ⟨hx, hb, hml, hr, hown, hts, hK, hlk, hgd⟩ := hX
  intro la H locs hl hP hD hS
  exact lv_icmp_lt hx hb hd ht (fun h => kt h la H locs hl hP hD hS) (fun h => kf h la H locs hl hP hD hS)
theorem fm_if_ge (hX : fm_Ctx S Y X) {x : Int32} {off : Int} {tgt pq : Nat} (hd : decode Y.2.1 pc = .ok (.ifCond .ge off, 3)) (ht : (pc : Int) + off = (tgt : Int)) (hq : pc + 3 = pq)
    (kt : 0 ≤ x → fm_G S Y X M0 post tgt ls st M) (kf : ¬ (0 ≤ x) → fm_G S Y X M0 post pq ls st M) : fm_G S Y X M0 post pc ls (.inl x :: st) M := by
  subst hq
  obtain ⟨p, l, e, s, m, args, below, meth, c, D, ad, tA⟩ := X
  obtain ⟨hx, hb, hml, hr, hown, hts, hK, hlk, hgd⟩ := hX
  intro la H locs hl hP hD hS
  exact lv_if_ge hx hb hd ht (fun h => kt h la H locs hl hP hD hS) (fun h => kf h la H locs hl hP hD hS)
theorem fm_icmp_ge (hX : fm_Ctx S Y X) {x y : Int32} {off : Int} {tgt pq : Nat} (hd : decode Y.2.1 pc = .ok (.if_icmp .ge off, 3)) (ht : (pc : Int) + off = (tgt : Int)) (hq : pc + 3 = pq)
    (kt : y ≤ x → fm_G S Y X M0 post tgt ls st M) (kf : ¬ (y ≤ x) → fm_G S Y X M0 post pq ls st M) : fm_G S Y X M0 post pc ls (.inl y :: .inl x :: st) M := by
  subst hq
  obtain ⟨p, l, e, s, m, args, below, meth, c, D, ad, tA⟩ := X
  obtain ⟨hx, hb, hml, hr, hown, hts, hK, hlk, hgd⟩ := hX
  intro la H locs hl hP hD hS
  exact lv_icmp_ge hx hb hd ht (fun h => kt h la H locs hl hP hD hS) (fun h => kf h la H locs hl hP hD hS)
theorem fm_if_gt (hX : fm_Ctx S Y X) {x : Int32} {off : Int} {tgt pq : Nat} (hd : decode Y.2.1 pc = .ok (.ifCond .gt off, 3)) (ht : (pc : Int) + off = (tgt : Int)) (hq : pc + 3 = pq)
    (kt : 0 < x → fm_G S Y X M0 post tgt ls st M) (kf : ¬ (0 < x) → fm_G S Y X M0 post pq ls st M) : fm_G S Y X M0 post pc ls (.inl x :: st) M := by
  subst hq
  obtain ⟨p, l, e, s, m, args, below, meth, c, D, ad, tA⟩ := X
  obtain ⟨hx, hb, hml, hr, hown, hts, hK, hlk, hgd⟩ := hX
  intro la H locs hl hP hD hS
  exact lv_if_gt hx hb hd ht (fun h => kt h la H locs hl hP hD hS) (fun h => kf h la H locs hl hP hD hS)
theorem fm_icmp_gt (hX : fm_Ctx S Y X) {x y : Int32} {off : Int} {tgt pq : Nat} (hd : decode Y.2.1 pc = .ok (.if_icmp .gt off, 3)) (ht : (pc : Int) + off = (tgt : Int)) (hq : pc + 3 = pq)
    (kt : y < x → fm_G S Y X M0 post tgt ls st M) (kf : ¬ (y < x) → fm_G S Y X M0 post pq ls st M) : fm_G S Y X M0 post pc ls (.inl y :: .inl x :: st) M := by
  subst hq
  obtain ⟨p, l, e, s, m, args, below, meth, c, D, ad, tA⟩ := X
  obtain ⟨hx, hb, hml, hr, hown, hts, hK, hlk, hgd⟩ := hX
  intro la H locs hl hP hD hS
  exact lv_icmp_gt hx hb hd ht (fun h => kt h la H locs hl hP hD hS) (fun h => kf h la H locs hl hP hD hS)
theorem fm_if_le (hX : fm_Ctx S Y X) {x : Int32} {off : Int} {tgt pq : Nat} (hd : decode Y.2.1 pc = .ok (.ifCond .le off, 3)) (ht : (pc : Int) + off = (tgt : Int)) (hq : pc + 3 = pq)
    (kt : x ≤ 0 → fm_G S Y X M0 post tgt ls st M) (kf : ¬ (x ≤ 0) → fm_G S Y X M0 post pq ls st M) : fm_G S Y X M0 post pc ls (.inl x :: st) M := by
  subst hq
  obtain ⟨p, l, e, s, m, args, below, meth, c, D, ad, tA⟩ := X
  obtain ⟨hx, hb, hml, hr, hown, hts, hK, hlk, hgd⟩ := hX
  intro la H locs hl hP hD hS
  exact lv_if_le hx hb hd ht (fun h => kt h la H locs hl hP hD hS) (fun h => kf h la H locs hl hP hD hS)
theorem fm_icmp_le (hX : fm_Ctx S Y X) {x y : Int32} {off : Int} {tgt pq : Nat} (hd : decode Y.2.1 pc = .ok (.if_icmp .le off, 3)) (ht : (pc : Int) + off = (tgt : Int)) (hq : pc + 3 = pq)
    (kt : x ≤ y → fm_G S Y X M0 post tgt ls st M) (kf : ¬ (x ≤ y) → fm_G S Y X M0 post pq ls st M) : fm_G S Y X M0 post pc ls (.inl y :: .inl x :: st) M := by
  subst hq
  obtain ⟨p, l, e, s, m, args, below, meth, c, D, ad, tA⟩ := X
  obtain ⟨hx, hb, hml, hr, hown, hts, hK, hlk, hgd⟩ := hX
  intro la H locs hl hP hD hS
  exact lv_icmp_le hx hb hd ht (fun h => kt h la H locs hl hP hD hS) (fun h => kf h la H locs hl hP hD hS)
theorem fm_goto (hX : fm_Ctx S Y X) {off : Int} {tgt : Nat} (hd : decode Y.2.1 pc = .ok (.goto off, 3)) (ht : (pc : Int) + off = (tgt : Int))
    (k : fm_G S Y X M0 post (tgt) ls (st) M) : fm_G S Y X M0 post pc ls (st) M := by
  obtain ⟨p, l, e, s, m, args, below, meth, c, D, ad, tA⟩ := X
  obtain ⟨hx, hb, hml, hr, hown, hts, hK, hlk, hgd⟩ := hX
  intro la H locs hl hP hD hS
  exact lv_goto hx hb hd ht (k la H locs hl hP hD hS)
theorem fm_tableIn (hX : fm_Ctx S Y X) {dflt lo hi : Int} {offs : Array Int} {len : Nat} {x : Int32} {off : Int} {tgt : Nat} (hd : decode Y.2.1 pc = .ok (.tableswitch dflt lo hi offs, len)) (h1 : ¬ x.toInt < lo) (h2 : ¬ hi < x.toInt) (ho : offs[(x.toInt - lo).toNat]? = some off) (ht : (pc : Int) + off = (tgt : Int))
    (k : fm_G S Y X M0 post (tgt) ls (st) M) : fm_G S Y X M0 post pc ls (.inl x :: st) M := by
  obtain ⟨p, l, e, s, m, args, below, meth, c, D, ad, tA⟩ := X
  obtain ⟨hx, hb, hml, hr, hown, hts, hK, hlk, hgd⟩ := hX
  intro la H locs hl hP hD hS
  exact lv_tableIn hx hb hd h1 h2 ho ht (k la H locs hl hP hD hS)
theorem fm_tableOut (hX : fm_Ctx S Y X) {dflt lo hi : Int} {offs : Array Int} {len : Nat} {x : Int32} {tgt : Nat} (hd : decode Y.2.1 pc = .ok (.tableswitch dflt lo hi offs, len)) (h : x.toInt < lo ∨ hi < x.toInt) (ht : (pc : Int) + dflt = (tgt : Int))
    (k : fm_G S Y X M0 post (tgt) ls (st) M) : fm_G S Y X M0 post pc ls (.inl x :: st) M := by
  obtain ⟨p, l, e, s, m, args, below, meth, c, D, ad, tA⟩ := X
  obtain ⟨hx, hb, hml, hr, hown, hts, hK, hlk, hgd⟩ := hX
  intro la H locs hl hP hD hS
  exact lv_tableOut hx hb hd h ht (k la H locs hl hP hD hS)
theorem fm_lookup (hX : fm_Ctx S Y X) {dflt : Int} {ps : Array (Int × Int)} {len : Nat} {x : Int32} {off : Int} {tgt : Nat} (hd : decode Y.2.1 pc = .ok (.lookupswitch dflt ps, len)) (hp : (ps.toList.zip (ps.toList.drop 1)).all (fun (a, next) => a.1 < next.1) = true) (ho : Op.lookupswitch.offset ps.toList dflt x.toInt = off) (ht : (pc : Int) + off = (tgt : Int))
    (k : fm_G S Y X M0 post (tgt) ls (st) M) : fm_G S Y X M0 post pc ls (.inl x :: st) M := by
  obtain ⟨p, l, e, s, m, args, below, meth, c, D, ad, tA⟩ := X
  obtain ⟨hx, hb, hml, hr, hown, hts, hK, hlk, hgd⟩ := hX
  intro la H locs hl hP hD hS
  exact lv_lookup hx hb hd hp ho ht (k la H locs hl hP hD hS)
/-- a field instruction's words: the field j of class ci at the constant 'index' of class own -/
def fm_fl (ws : List Cond) (own : String) (index : Nat) (cls : List vw_C) (ci j : Nat) : Prop :=
  ∃ (C : String) (T : u_T) (n : Nat), cls[ci]? = some (C, T, n) ∧ j < n ∧ (∀ w ∈ u_ws C T n, w ∈ ws) ∧ Cond.fieldLink own index C (T j).2.1 (T j).2.2.1 ∈ ws ∧ (T j).1 = C
/-- a field that is written -/
def fm_fp (cls : List vw_C) (ci j : Nat) (ty : FieldType) : Prop :=
  ∃ (C : String) (T : u_T) (n : Nat) (ty0 : Nat → FieldType), cls[ci]? = some (C, T, n) ∧ (∀ k, k < n → parseFieldDescriptor (T k).2.2.1 = some (ty0 k)) ∧ (∀ a, a < n → ∀ b, b < n → a ≠ b → (T a).2.1 ≠ (T b).2.1) ∧ (T j).2.2.2 = false ∧ ty0 j = ty
theorem fm_getr (hX : fm_Ctx S Y X) {pq : Nat} {ci j index : Nat} {a : Nat} {l : List (Option Nat)} (hf : fm_fl S.2.2.2 Y.1 index S.1 ci j) (ha : S.2.1[a]? = some (.inr (ci, l))) {q : Nat} (hv : l[j]? = some (some q)) (hd : decode Y.2.1 pc = .ok (.getfield index, 3)) (hq : pc + 3 = pq)
    (k : fm_G S Y X M0 post (pq) ls (.inr q :: st) M) : fm_G S Y X M0 post pc ls (.inr a :: st) M := by
  subst hq
  obtain ⟨p, l, e, s, m, args, below, meth, c, D, ad, tA⟩ := X
  obtain ⟨hx, hb, hml, hr, hown, hts, hK, hlk, hgd⟩ := hX
  intro la H locs hl hP hD hS
  obtain ⟨C, T, n, hc, hj, hin, hlink, howner⟩ := hf
  exact va_get hx hb hts hin hown hK hP a (fm_W_at ha) hc j hj (hts _ hlink) (fun x h => by rw [howner] at h; exact h) (v := .ref (ad q)) (by simp [List.getElem?_mapIdx, hv, fm_f]) hd (k la H locs hl hP hD hS)
theorem fm_geti (hX : fm_Ctx S Y X) {pq : Nat} {ci j index : Nat} {a : Nat} {l : List (Option Nat)} (hf : fm_fl S.2.2.2 Y.1 index S.1 ci j) (ha : S.2.1[a]? = some (.inr (ci, l))) (hv : l[j]? = some none) {v : Int32} (hm : M a j = v) (hd : decode Y.2.1 pc = .ok (.getfield index, 3)) (hq : pc + 3 = pq)
    (k : fm_G S Y X M0 post (pq) ls (.inl v :: st) M) : fm_G S Y X M0 post pc ls (.inr a :: st) M := by
  subst hq
  obtain ⟨p, l, e, s, m, args, below, meth, c, D, ad, tA⟩ := X
  obtain ⟨hx, hb, hml, hr, hown, hts, hK, hlk, hgd⟩ := hX
  intro la H locs hl hP hD hS
  obtain ⟨C, T, n, hc, hj, hin, hlink, howner⟩ := hf
  subst hm
  exact va_get hx hb hts hin hown hK hP a (fm_W_at ha) hc j hj (hts _ hlink) (fun x h => by rw [howner] at h; exact h) (v := .int (M a j)) (by simp [List.getElem?_mapIdx, hv, fm_f]) hd (k la H locs hl hP hD hS)
theorem fm_puti (hX : fm_Ctx S Y X) {pq : Nat} {ci j index : Nat} {a : Nat} {l : List (Option Nat)} (hf : fm_fl S.2.2.2 Y.1 index S.1 ci j) {ty : FieldType} (hp : fm_fp S.1 ci j ty) (ha : S.2.1[a]? = some (.inr (ci, l))) (hv : l[j]? = some none) {x : Int32} (hnar : narrow ty (.int x) = .int x) (hfit : fits ty (.int x) = true) (hd : decode Y.2.1 pc = .ok (.putfield index, 3)) (hq : pc + 3 = pq)
    (k : fm_G S Y X M0 post (pq) ls (st) (fm_up M a j x)) : fm_G S Y X M0 post pc ls (.inl x :: .inr a :: st) M := by
  subst hq
  obtain ⟨p, l, e, s, m, args, below, meth, c, D, ad, tA⟩ := X
  obtain ⟨hx, hb, hml, hr, hown, hts, hK, hlk, hgd⟩ := hX
  intro la H locs hl hP hD hS
  obtain ⟨C, T, n, hc, hj, hin, hlink, howner⟩ := hf
  obtain ⟨C', T', n', ty0, hc', hty, hnm, hfin, hty0⟩ := hp
  rw [hc] at hc'
  obtain ⟨rfl, rfl, rfl⟩ : C = C' ∧ T = T' ∧ n = n' := by
    have := Option.some.inj hc'
    exact ⟨congrArg (·.1) this, congrArg (·.2.1) this, congrArg (·.2.2) this⟩
  subst hty0
  exact va_put hx hb hts hin ty0 hty hnm hown hK hP hD hS a (fm_W_at ha) hc j hj (hts _ hlink) (fun x h => by rw [howner] at h; exact h) hfin (hty j hj) hnar hfit (by simpa using (List.getElem?_eq_some_iff.mp hv).1) hd
    (fun H1 locs1 hP1 hD1 hS1 => k la H1 locs1 hl (fm_W_obj ha hv ▸ hP1) (fm_W_obj ha hv ▸ hD1) hS1)
theorem fm_iald (hX : fm_Ctx S Y X) {pq : Nat} {a n j : Nat} {rf : List Nat} {i : Int32} (ha : S.2.1[a]? = some (.inl (0, n, rf))) (ht : S.2.2.1[0]? = some .int) (hi : i = nI j) (hj : j < n) (hn : n < 2 ^ 31) {v : Int32} (hm : M a j = v) (hd : decode Y.2.1 pc = .ok (.iaload, 1)) (hq : pc + 1 = pq)
    (k : fm_G S Y X M0 post (pq) ls (.inl v :: st) M) : fm_G S Y X M0 post pc ls (.inl i :: .inr a :: st) M := by
  subst hq
  obtain ⟨p, l, e, s, m, args, below, meth, c, D, ad, tA⟩ := X
  obtain ⟨hx, hb, hml, hr, hown, hts, hK, hlk, hgd⟩ := hX
  intro la H locs hl hP hD hS
  subst hi
  have hin : vp_in (nI j) n := vp_in_nI hj hn
  have hcl : (nI j).toNatClampNeg = j := nI_clamp (Nat.lt_trans hj hn)
  have hw := fm_W_at (ad := ad) (tA := tA) (M := M) ha
  subst hm
  refine va_iald hx hb hK hP a 0 hw (fm_tys_at ht) hin hd ?_
  rw [hcl]
  exact k la H locs hl hP hD hS
theorem fm_zald (hX : fm_Ctx S Y X) {pq : Nat} {a n j : Nat} {rf : List Nat} {i : Int32} (ha : S.2.1[a]? = some (.inl (1, n, rf))) (ht : S.2.2.1[1]? = some .boolean) (hi : i = nI j) (hj : j < n) (hn : n < 2 ^ 31) {v : Int32} (hm : M a j = v) (hd : decode Y.2.1 pc = .ok (.baload, 1)) (hq : pc + 1 = pq)
    (k : fm_G S Y X M0 post (pq) ls (.inl v :: st) M) : fm_G S Y X M0 post pc ls (.inl i :: .inr a :: st) M := by
  subst hq
  obtain ⟨p, l, e, s, m, args, below, meth, c, D, ad, tA⟩ := X
  obtain ⟨hx, hb, hml, hr, hown, hts, hK, hlk, hgd⟩ := hX
  intro la H locs hl hP hD hS
  subst hi
  have hin : vp_in (nI j) n := vp_in_nI hj hn
  have hcl : (nI j).toNatClampNeg = j := nI_clamp (Nat.lt_trans hj hn)
  have hw := fm_W_at (ad := ad) (tA := tA) (M := M) ha
  subst hm
  refine va_zald hx hb hK hP a 1 hw (fm_tys_at ht) hin hd ?_
  rw [hcl]
  exact k la H locs hl hP hD hS
theorem fm_iast (hX : fm_Ctx S Y X) {pq : Nat} {a n j : Nat} {rf : List Nat} {i : Int32} (ha : S.2.1[a]? = some (.inl (0, n, rf))) (ht : S.2.2.1[0]? = some .int) (hi : i = nI j) (hj : j < n) (hn : n < 2 ^ 31) {x : Int32} (hd : decode Y.2.1 pc = .ok (.iastore, 1)) (hq : pc + 1 = pq)
    (k : fm_G S Y X M0 post (pq) ls (st) (fm_up M a j x)) : fm_G S Y X M0 post pc ls (.inl x :: .inl i :: .inr a :: st) M := by
  subst hq
  obtain ⟨p, l, e, s, m, args, below, meth, c, D, ad, tA⟩ := X
  obtain ⟨hx, hb, hml, hr, hown, hts, hK, hlk, hgd⟩ := hX
  intro la H locs hl hP hD hS
  subst hi
  have hin : vp_in (nI j) n := vp_in_nI hj hn
  have hcl : (nI j).toNatClampNeg = j := nI_clamp (Nat.lt_trans hj hn)
  have hw := fm_W_at (ad := ad) (tA := tA) (M := M) ha
  refine va_iast hx hb hK hP hD hS a 0 hw (fm_tys_at ht) hin hd (fun H1 locs1 hP1 hD1 hS1 => ?_)
  rw [hcl] at hP1 hD1
  exact k la H1 locs1 hl (fm_W_arr ha (by decide) ▸ hP1) (fm_W_arr ha (by decide) ▸ hD1) hS1
theorem fm_zast (hX : fm_Ctx S Y X) {pq : Nat} {a n j : Nat} {rf : List Nat} {i : Int32} (ha : S.2.1[a]? = some (.inl (1, n, rf))) (ht : S.2.2.1[1]? = some .boolean) (hi : i = nI j) (hj : j < n) (hn : n < 2 ^ 31) {x : Int32} (hx1 : vp_nar .boolean x = x) (hd : decode Y.2.1 pc = .ok (.bastore, 1)) (hq : pc + 1 = pq)
    (k : fm_G S Y X M0 post (pq) ls (st) (fm_up M a j x)) : fm_G S Y X M0 post pc ls (.inl x :: .inl i :: .inr a :: st) M := by
  subst hq
  obtain ⟨p, l, e, s, m, args, below, meth, c, D, ad, tA⟩ := X
  obtain ⟨hx, hb, hml, hr, hown, hts, hK, hlk, hgd⟩ := hX
  intro la H locs hl hP hD hS
  subst hi
  have hin : vp_in (nI j) n := vp_in_nI hj hn
  have hcl : (nI j).toNatClampNeg = j := nI_clamp (Nat.lt_trans hj hn)
  have hw := fm_W_at (ad := ad) (tA := tA) (M := M) ha
  refine va_zast hx hb hK hP hD hS a 1 hw (fm_tys_at ht) hin hd (fun H1 locs1 hP1 hD1 hS1 => ?_)
  rw [hcl, hx1] at hP1 hD1
  exact k la H1 locs1 hl (fm_W_arr ha (by decide) ▸ hP1) (fm_W_arr ha (by decide) ▸ hD1) hS1
theorem fm_aald (hX : fm_Ctx S Y X) {pq : Nat} {a n j t q : Nat} {rf : List Nat} {i : Int32} {ty : FieldType} (ha : S.2.1[a]? = some (.inl (t, n, rf))) (h2 : ¬ t < 2) (ht : S.2.2.1[t]? = some ty) (hty : ty.isReference = true) (hi : i = nI j) (hj : j < n) (hn : n < 2 ^ 31) (hv : rf[j]? = some q) (hd : decode Y.2.1 pc = .ok (.aaload, 1)) (hq : pc + 1 = pq)
    (k : fm_G S Y X M0 post (pq) ls (.inr q :: st) M) : fm_G S Y X M0 post pc ls (.inl i :: .inr a :: st) M := by
  subst hq
  obtain ⟨p, l, e, s, m, args, below, meth, c, D, ad, tA⟩ := X
  obtain ⟨hx, hb, hml, hr, hown, hts, hK, hlk, hgd⟩ := hX
  intro la H locs hl hP hD hS
  subst hi
  have hin : vp_in (nI j) n := vp_in_nI hj hn
  have hcl : (nI j).toNatClampNeg = j := nI_clamp (Nat.lt_trans hj hn)
  have hw := fm_W_at (ad := ad) (tA := tA) (M := M) ha
  simp only [fm_cell, if_neg h2] at hw
  refine W.aald (v := .ref (ad q)) (ty := ty) hx hb (hP a _ hw) ((hK.2 t _ (fm_tys_at ht)).1 n (fun j => va_rf ((rf[j]?).map ad))) hty (fun z => by cases z) (by show ¬ (nI j < 0 ∨ (arrV _ _ _).slots.size ≤ _); rw [arrV_size]; exact hin) (by show (arrV _ _ _).slots[_]? = _; rw [arrV_read _ _ (by rw [hcl]; exact hj), hcl]; show some (va_rf (Option.map ad rf[j]?)) = _; rw [hv]; rfl) rfl rfl hd ?_
  exact k la H locs hl hP hD hS
theorem fm_alen (hX : fm_Ctx S Y X) {pq : Nat} {a n t : Nat} {rf : List Nat} {ty : FieldType} (ha : S.2.1[a]? = some (.inl (t, n, rf))) (ht : S.2.2.1[t]? = some ty) (hd : decode Y.2.1 pc = .ok (.arraylength, 1)) (hq : pc + 1 = pq)
    (k : fm_G S Y X M0 post (pq) ls (.inl (nI n) :: st) M) : fm_G S Y X M0 post pc ls (.inr a :: st) M := by
  subst hq
  obtain ⟨p, l, e, s, m, args, below, meth, c, D, ad, tA⟩ := X
  obtain ⟨hx, hb, hml, hr, hown, hts, hK, hlk, hgd⟩ := hX
  intro la H locs hl hP hD hS
  exact va_alen hx hb hK hP a t (fm_W_at ha) (fm_tys_at ht) rfl hd (k la H locs hl hP hD hS)
theorem fm_iret (hX : fm_Ctx S Y X) {x : Int32} (hr0 : Y.2.2.2.1 = some .int) (hd : decode Y.2.1 pc = .ok (.ireturn, 1)) (k : post (some x) M) : fm_G S Y X M0 post pc ls [.inl x] M := by
  obtain ⟨p, l, e, s, m, args, below, meth, c, D, ad, tA⟩ := X
  obtain ⟨hx, hb, hml, hr, hown, hts, hK, hlk, hgd⟩ := hX
  intro la H locs hl hP hD hS
  exact W.iret hx hb (hr.trans hr0) (fun t ht hW => ⟨⟨some x, M, rfl, k, by rw [ht]; exact hP, va_K.moved hW.alike hK, hD⟩, hS.F ht⟩) hS.2.2 hd hlk
theorem fm_zret (hX : fm_Ctx S Y X) {x : Int32} (hr0 : Y.2.2.2.1 = some .boolean) (hn : narrow .boolean (.int x) = .int x) (hd : decode Y.2.1 pc = .ok (.ireturn, 1)) (k : post (some x) M) : fm_G S Y X M0 post pc ls [.inl x] M := by
  obtain ⟨p, l, e, s, m, args, below, meth, c, D, ad, tA⟩ := X
  obtain ⟨hx, hb, hml, hr, hown, hts, hK, hlk, hgd⟩ := hX
  intro la H locs hl hP hD hS
  exact W.zret hx hb (hr.trans hr0) hn (fun t ht hW => ⟨⟨some x, M, rfl, k, by rw [ht]; exact hP, va_K.moved hW.alike hK, hD⟩, hS.F ht⟩) hS.2.2 hd hlk
theorem fm_vret (hX : fm_Ctx S Y X) (hr0 : Y.2.2.2.1 = none) (hd : decode Y.2.1 pc = .ok (.return_, 1)) (k : post none M) : fm_G S Y X M0 post pc ls [] M := by
  obtain ⟨p, l, e, s, m, args, below, meth, c, D, ad, tA⟩ := X
  obtain ⟨hx, hb, hml, hr, hown, hts, hK, hlk, hgd⟩ := hX
  intro la H locs hl hP hD hS
  exact W.vret hx hb (hr.trans hr0) (fun t ht hW => ⟨⟨none, M, rfl, k, by rw [ht]; exact hP, va_K.moved hW.alike hK, hD⟩, hS.F ht⟩) hS.2.2 hd hlk
/-- the addresses of a world are its shape's: another memory has the same -/
theorem fm_D {A : Nat → Prop} {ad : Nat → Nat} {tA : Nat → ClassId} {Sh : List fm_C} {M M' : fm_M} (h : va_D A (fm_W ad tA Sh M)) : va_D A (fm_W ad tA Sh M') := by
  have key : ∀ (k : Nat) (q : Nat × va_E), (fm_W ad tA Sh M')[k]? = some q → ∃ e, (fm_W ad tA Sh M)[k]? = some (q.1, e) := by
    intro k q hq
    cases hk : Sh[k]? with
    | none => simp [fm_W, List.getElem?_mapIdx, hk] at hq
    | some c =>
      rw [fm_W_at hk] at hq
      have := Option.some.inj hq
      subst this
      exact ⟨_, fm_W_at hk⟩
  refine ⟨fun i j a b ha hb hab => ?_, fun k q hq => ?_⟩
  · obtain ⟨e1, h1⟩ := key i a ha
    obtain ⟨e2, h2⟩ := key j b hb
    exact h.1 i j _ _ h1 h2 hab
  · obtain ⟨e1, h1⟩ := key k q hq
    exact h.2 k (q.1, e1) h1
theorem fm_A {ad : Nat → Nat} {tA : Nat → ClassId} {Sh : List fm_C} {M M' : fm_M} {sz sz' q : Nat} (hs : sz ≤ sz') (h : va_A (fm_W ad tA Sh M) sz' q) : va_A (fm_W ad tA Sh M') sz q := by
  rcases h with ⟨k, e, h⟩ | h
  · cases hk : Sh[k]? with
    | none => simp [fm_W, List.getElem?_mapIdx, hk] at h
    | some c =>
      rw [fm_W_at hk] at h
      have := Option.some.inj h
      refine Or.inl ⟨k, fm_cell ad tA M' k c, ?_⟩
      rw [fm_W_at hk]
      have h1 : ad k = q := congrArg Prod.fst this
      rw [h1]
  · exact Or.inr (Nat.le_trans hs h)
theorem fm_blind (S : fm_S) (D : va_G) (ad : Nat → Nat) (tA : Nat → ClassId) (sz : Nat) (as : List fm_V) (M : fm_M) : FrameBlind (fm_Pc S D ad tA sz as M) := by
  intro a U g mk q
  obtain ⟨q0, q1, qP, qK, qD⟩ := q
  exact ⟨q0, q1, qP, va_K.moved (u := U) (U := U.calling g mk a) (Vm.Alike.refl U.vm) qK, qD⟩
theorem fm_cats (ad : Nat → Nat) (st : List fm_V) : ((st.map (fm_v ad)).map fun v => v.category).sum = st.length := by
  induction st with
  | nil => rfl
  | cons v r ih => simp only [List.map_cons, List.sum_cons, ih, fm_v_cat, List.length_cons]; omega
theorem fm_lv_args (ad : Nat → Nat) : ∀ (as : List fm_V) (n i : Nat) (v : fm_V), as[i]? = some v → (n + i, fm_v ad v) ∈ lv_args n (as.map (fm_v ad)) := by
  intro as
  induction as with
  | nil => intro n i v h; simp at h
  | cons a r ih =>
    intro n i v h
    simp only [List.map_cons, lv_args]
    rw [if_neg (by rw [fm_v_cat]; decide)]
    cases i with
    | zero =>
      simp only [List.getElem?_cons_zero, Option.some.injEq] at h
      subst h
      exact List.mem_cons_self
    | succ i =>
      simp only [List.getElem?_cons_succ] at h
      have := ih (n + 1) i v h
      refine List.mem_cons_of_mem _ ?_
      rw [show n + (i + 1) = n + 1 + i by omega]
      exact this
def fm_entry (as : List fm_V) (n : Nat) : fm_L := as.map some ++ List.replicate (n - as.length) none
/-- THE HEAD OF A METHOD -/
theorem fm_of {S : fm_S} {y : MethodName} {d maxL : Nat} {cc : ByteArray} {ret : Option FieldType} {as : List fm_V} {M : fm_M} {post : Option Int32 → fm_M → Prop} {ls : fm_L}
    (hy : plainName y.cls = true) (hgd : S.2.2.2.all goodWord = true) (hn : as.length ≤ maxL) (he : fm_entry as maxL = ls)
    (body : ∀ X, fm_Ctx S (y.cls, cc, maxL, ret, d) X → fm_G S (y.cls, cc, maxL, ret, d) X M post 0 ls [] M) : fm_ct S y cc maxL ret d as M post := by
  subst he
  intro l D ad tA sz
  refine Met.ofW (cc := cc) (maxL := maxL) (ret := ret) hy rfl ?_
  intro p e s m args below meth c s₁ B hml hv
  obtain ⟨rfl, hsz, hP, hK, hD0⟩ := hv
  subst hsz
  have hlen : (lg_sl (as.map (fm_v ad))).length = as.length := by
    clear hP hK hD0 B hn body
    induction as with
    | nil => rfl
    | cons a r ih =>
      simp only [List.map_cons, lg_sl, List.flatMap_cons] at ih ⊢
      rw [if_neg (by rw [fm_v_cat]; decide)]
      simp only [List.length_append, List.length_cons, List.length_nil, ih]
      omega
  have hl := lv_entry (as.map (fm_v ad)) (n := maxL) (by rw [hlen]; exact hn)
  rw [lg_entry_eq]
  refine body (p, l, e, s, m, _, below, meth, c, D, ad, tA) ⟨B.exec, B.bytes, hml, B.returns, findClass_of_methodNamed B.named, fun w h => atoms_spec (ws := Cond.code y cc maxL ret :: S.2.2.2) B.pre w (List.mem_cons_of_mem _ h), hK, B.notSynchronized, hgd⟩ _ _ [] ⟨hl.1, hl.2.1, fun q hq => ?_⟩ hP (hD0.self) va_S.rf
  obtain ⟨j, x⟩ := q
  obtain ⟨v, hv, hx⟩ := fm_lv_mem.mp hq
  subst hx
  refine hl.2.2 (j, fm_v ad v) ?_
  have h1 : as[j]? = some v := by
    simp only [fm_entry] at hv
    by_cases hj : j < as.length
    · rw [List.getElem?_append_left (by simpa using hj), List.getElem?_map] at hv
      cases ha : as[j]? with
      | none => rw [ha] at hv; simp at hv
      | some u => rw [ha] at hv; simpa using hv
    · rw [List.getElem?_append_right (by simpa using hj)] at hv
      have := List.mem_of_getElem? hv
      rw [List.mem_replicate] at this
      exact absurd this.2 (by simp)
  have h2 := fm_lv_args ad as 0 j v h1
  rw [Nat.zero_add] at h2
  exact h2
/-- behind a call -/
theorem fm_back {S : fm_S} {Y : fm_Y} {M0 M : fm_M} {post : Option Int32 → fm_M → Prop} {pc : Nat} {ls : fm_L} {st : List fm_V} {p : Program} {l : Launch} {e : Env} {s : State} {m : MethodId} {args : Array Value} {below : List Frame} {meth : Method} {c : Code} {D : va_G} {ad : Nat → Nat} {tA : Nat → ClassId}
    {post1 : Option Int32 → fm_M → Prop} {la : Array Slot} {H : Heap} {locs : List Loc} {st0 : List Value} {a : Array Value}
    (hr : va_Run p l e (fm_rm Y.2.2.2.2) s m args below meth c H locs 0 0 0 0 (F0 m pc la st0) (st.map (fm_v ad)) (fm_Q S D ad tA (va_A (fm_W ad tA S.2.1 M) H.size) post1 a) (va_A (fm_W ad tA S.2.1 M) H.size))
    (hl : lv_has la Y.2.2.1 (fm_lv ad ls)) (hD : va_D (va_A (fm_W ad tA S.2.1 M0) s.heap.size) (fm_W ad tA S.2.1 M)) (hS : va_S (va_A (fm_W ad tA S.2.1 M0) s.heap.size) s.heap H locs)
    (k : ∀ (r : Option Int32) (M1 : fm_M), post1 r M1 → fm_G S Y (p, l, e, s, m, args, below, meth, c, D, ad, tA) M0 post (pc + 3) ls (r.toList.map Sum.inl ++ st) M1) :
    W p l e (fm_rm Y.2.2.2.2) s m args below meth c H locs 0 0 (MQ below (fm_Q S D ad tA (va_A (fm_W ad tA S.2.1 M0) s.heap.size) post) args s 0 0 (va_A (fm_W ad tA S.2.1 M0) s.heap.size)) (F0 m pc la st0) := by
  intro T hT X
  obtain ⟨v, st₀, t, T', L, h0, X', hL, e1, e2, ⟨⟨r, M1, hv, hp, hP1, hK1, hD1⟩, hz, hk⟩, stp⟩ := hr T hT X
  have hv : v = r.map Value.int := by
    injection hv
  rw [h0] at hz hk
  have hfree : ∀ q, va_A (fm_W ad tA S.2.1 M) H.size q → va_A (fm_W ad tA S.2.1 M0) s.heap.size q := fun q h => fm_A hS.1 h
  have hS1 : va_S (va_A (fm_W ad tA S.2.1 M0) s.heap.size) s.heap T'.heap (locs ++ L) := by
    refine ⟨Nat.le_trans hS.1 (by rw [e1]; exact hz), fun q h1 h2 => ?_, fun q hq => ?_⟩
    · rw [e1, hk q (Nat.lt_of_lt_of_le h1 hS.1) (fun z => h2 (hfree q z))]
      exact hS.2.1 q h1 h2
    · rcases List.mem_append.mp hq with h | h
      · exact hS.2.2 q h
      · exact hfree _ (hL q h)
  obtain ⟨t2, a1, b1⟩ := k r M1 hp la T'.heap (locs ++ L) hl (by rw [e1]; exact hP1) (fm_D hD) hS1 T' rfl X'
  refine ⟨t2, stp t2 ?_, b1⟩
  have hst : v.toList ++ st.map (fm_v ad) = (r.toList.map Sum.inl ++ st).map (fm_v ad) := by
    rw [hv]
    cases r <;> simp [fm_v]
  rw [hst]
  exact a1

/-- a call's words -/
def fm_cs (ws : List Cond) (own : String) (index : Nat) (y : MethodName) (bytes : ByteArray) (maxL : Nat) (ret : Option FieldType) (n : Nat) : Prop :=
  Cond.code y bytes maxL ret ∈ ws ∧ Cond.methodLink own index y ∈ ws ∧ Cond.initialized y.cls ∈ ws ∧
  (y.cls ≠ "java/lang/invoke/MethodHandle" ∧ y.cls ≠ "java/lang/invoke/VarHandle" ∧ (parseMethodDescriptor y.desc).map (fun d => d.parameters.length) = some n) ∧ maxL ≤ 45
theorem fm_good {ws : List Cond} (hg : ws.all goodWord = true) {w : Cond} (hw : w ∈ ws) : GoodIn ws (w :: ws) := fun u hu => by
  have hm : u ∈ ws := (List.mem_cons.mp hu).elim (fun e => e ▸ hw) id
  exact ⟨hm, good_of_word (List.all_eq_true.mp hg u hm)⟩
theorem fm_callS (hX : fm_Ctx S Y X) {pq : Nat} {y : MethodName} {bytes : ByteArray} {maxL d1 index n : Nat} {ret : Option FieldType} {as : List fm_V} {post1 : Option Int32 → fm_M → Prop} (hcs : fm_cs S.2.2.2 Y.1 index y bytes maxL ret n) (hstt : Cond.static y ∈ S.2.2.2) (hM : fm_ct S y bytes maxL ret d1 as M post1) (hlen : as.length = n) {stk : List fm_V} (hstk : stk = as.reverse ++ st) (hdp : d1 + 1 ≤ Y.2.2.2.2) (hst8 : st.length ≤ 8) (hd : decode Y.2.1 pc = .ok (.invokestatic index, 3)) (hq : pc + 3 = pq)
    (k : ∀ (r : Option Int32) (M1 : fm_M), post1 r M1 → fm_G S Y X M0 post pq ls (r.toList.map Sum.inl ++ st) M1) : fm_G S Y X M0 post pc ls stk M := by
  subst hstk
  subst hlen
  subst hq
  obtain ⟨hcode, hlink, hini, hdc, hmL⟩ := hcs
  obtain ⟨p, l, e, s, m, args, below, meth, c, D, ad, tA⟩ := X
  obtain ⟨hx, hb, hml, hr, hown, hts, hK, hlk, hgd⟩ := hX
  intro la H locs hl hP hD hS
  refine fm_back (M := M) (va_runS (nL := Y.2.2.1) (As := as.map (fm_v ad)) (rest := st.map (fm_v ad)) ⟨hx, hb, hml, hown, hts⟩ (hM l D ad tA H.size) ⟨callB_of as.length hts (fm_good hgd hcode) rfl rfl rfl (hts _ hini) (hts _ hlink) hdc ⟨hdp, by show 8 + (maxL + 11) + 64 * d1 ≤ 64 * Y.2.2.2.2; omega⟩, hts _ hstt⟩ ⟨fm_blind S D ad tA H.size as M, fun U hU hW => ⟨rfl, by rw [hU], by rw [hU]; exact hP, va_K.moved hW.alike hK, hD.weaken (fun _ _ _ _ => trivial)⟩⟩ rfl (by simp) hl.1 (by simp) (lv_room (by rw [fm_cats]; exact hst8)) hd ⟨Nat.le_refl _, Nat.le_refl _⟩) hl hD hS k
theorem fm_callV (hX : fm_Ctx S Y X) {pq : Nat} {b ci : Nat} {lb : List (Option Nat)} {C : String} {T : u_T} {N : Nat} (hb1 : S.2.1[b]? = some (.inr (ci, lb))) (hc : S.1[ci]? = some (C, T, N)) {y : MethodName} {bytes : ByteArray} {maxL d1 index n : Nat} {ret : Option FieldType} {as : List fm_V} {post1 : Option Int32 → fm_M → Prop} (hcs : fm_cs S.2.2.2 Y.1 index y bytes maxL ret n) (hC : y.cls = C) (hinm : Cond.instanceMethod y ∈ S.2.2.2) (hsel : Cond.selects C y y ∈ S.2.2.2) (hM : fm_ct S y bytes maxL ret d1 (.inr b :: as) M post1) (hlen : as.length = n) {stk : List fm_V} (hstk : stk = as.reverse ++ .inr b :: st) (hdp : d1 + 1 ≤ Y.2.2.2.2) (hst8 : st.length ≤ 8) (hd : decode Y.2.1 pc = .ok (.invokevirtual index, 3)) (hq : pc + 3 = pq)
    (k : ∀ (r : Option Int32) (M1 : fm_M), post1 r M1 → fm_G S Y X M0 post pq ls (r.toList.map Sum.inl ++ st) M1) : fm_G S Y X M0 post pc ls stk M := by
  subst hstk
  subst hlen
  subst hq
  obtain ⟨hcode, hlink, hini, hdc, hmL⟩ := hcs
  obtain ⟨p, l, e, s, m, args, below, meth, c, D, ad, tA⟩ := X
  obtain ⟨hx, hb, hml, hr, hown, hts, hK, hlk, hgd⟩ := hX
  intro la H locs hl hP hD hS
  refine fm_back (M := M) (va_runV (nL := Y.2.2.1) (C := C) (b := ad b) (As := as.map (fm_v ad)) (rest := st.map (fm_v ad)) ⟨hx, hb, hml, hown, hts⟩ (hM l D ad tA H.size) ⟨callB_of as.length hts (fm_good hgd hcode) rfl rfl rfl (hts _ hini) (hts _ hlink) hdc ⟨hdp, by show 8 + (maxL + 11) + 64 * d1 ≤ 64 * Y.2.2.2.2; omega⟩, hts _ hinm, hts _ hsel⟩ ⟨fm_blind S D ad tA H.size (.inr b :: as) M, va_recv hK hP hc (fm_W_at hb1), fun U hU hW => ⟨rfl, by rw [hU], by rw [hU]; exact hP, va_K.moved hW.alike hK, hD.weaken (fun _ _ _ _ => trivial)⟩⟩ rfl (by simp) hl.1 (by simp [fm_v]) (lv_room (by rw [fm_cats]; exact hst8)) hd ⟨Nat.le_refl _, Nat.le_refl _⟩) hl hD hS k
def bI (b : Bool) : Int32 := if b then 1 else 0
theorem bI_t : bI true = 1 := rfl
theorem bI_f : bI false = 0 := rfl
theorem bI_0 {b : Bool} : bI b = 0 ↔ b = false := by cases b <;> decide
theorem bI_1 {b : Bool} : bI b = 1 ↔ b = true := by cases b <;> decide
theorem fm_nb (b : Bool) : narrow .boolean (.int (bI b)) = .int (bI b) := by cases b <;> rfl
theorem fm_fb (b : Bool) : fits .boolean (.int (bI b)) = true := by cases b <;> rfl
theorem fm_vb (b : Bool) : vp_nar .boolean (bI b) = bI b := by cases b <;> rfl
theorem fm_bit (x : Int32) {a : Nat} (h : a < 32) : (x >>> (nI a &&& 31)) &&& nI 1 = bI (bt x a) := by
  apply b_ext
  intro i hi
  have e1 : ∀ i, i < 32 → bt (nI 1) i = decide (i = 0) := by decide +kernel
  have e2 : ∀ i, i < 32 → bt (1 : Int32) i = decide (i = 0) := by decide +kernel
  rw [b_and, b_sshr a h x hi, e1 i hi]
  by_cases z : i = 0
  · subst z
    rw [Nat.add_zero, if_pos h]
    cases bt x a
    · rw [bI_f, b_0]; rfl
    · rw [bI_t, e2 0 (by omega)]; rfl
  · rw [decide_eq_false z, Bool.and_false]
    cases bt x a
    · rw [bI_f, b_0]
    · rw [bI_t, e2 i hi, decide_eq_false z]
theorem fm_dec {n : Nat} (h : 0 < n) : nI n + Int32.ofInt (-1) = nI (n - 1) := by
  obtain ⟨k, rfl⟩ : ∃ k, n = k + 1 := ⟨n - 1, by omega⟩
  exact pk_m1 k
/-- a loop that counts up -/
theorem fm_ind {Q : Nat → Prop} (n : Nat) (h : ∀ i, i ≤ n → (i < n → Q (i + 1)) → Q i) : ∀ i, i ≤ n → Q i := by
  have key : ∀ d i, i + d = n → Q i := by
    intro d
    induction d with
    | zero => intro i hi; exact h i (by omega) (fun z => absurd z (by omega))
    | succ d ih => intro i hi; exact h i (by omega) (fun _ => ih (i + 1) (by omega))
  exact fun i hi => key (n - i) i (by omega)
theorem fm_n_eq (hX : fm_Ctx S Y X) {a b : Nat} {off : Int} {tgt pq : Nat} (hd : decode Y.2.1 pc = .ok (.if_icmp .eq off, 3)) (ht : (pc : Int) + off = (tgt : Int)) (hq : pc + 3 = pq) (ha : a < 2 ^ 31) (hb : b < 2 ^ 31)
    (kt : a = b → fm_G S Y X M0 post tgt ls st M) (kf : ¬ (a = b) → fm_G S Y X M0 post pq ls st M) : fm_G S Y X M0 post pc ls (.inl (nI b) :: .inl (nI a) :: st) M :=
  fm_icmp_eq hX hd ht hq (fun h => kt ((nI_eq ha hb).mp h)) (fun h => kf (fun z => h ((nI_eq ha hb).mpr z)))
theorem fm_z_eq (hX : fm_Ctx S Y X) {a : Nat} {off : Int} {tgt pq : Nat} (hd : decode Y.2.1 pc = .ok (.ifCond .eq off, 3)) (ht : (pc : Int) + off = (tgt : Int)) (hq : pc + 3 = pq) (ha : a < 2 ^ 31)
    (kt : a = 0 → fm_G S Y X M0 post tgt ls st M) (kf : ¬ (a = 0) → fm_G S Y X M0 post pq ls st M) : fm_G S Y X M0 post pc ls (.inl (nI a) :: st) M := by
  have hb : (0 : Nat) < 2 ^ 31 := by decide
  exact fm_if_eq hX hd ht hq (fun h => kt ((nI_eq ha hb).mp (by rw [nI_0]; exact h))) (fun h => kf (fun z => h (by have := (nI_eq ha hb).mpr z; rw [nI_0] at this; exact this)))
theorem fm_n_ne (hX : fm_Ctx S Y X) {a b : Nat} {off : Int} {tgt pq : Nat} (hd : decode Y.2.1 pc = .ok (.if_icmp .ne off, 3)) (ht : (pc : Int) + off = (tgt : Int)) (hq : pc + 3 = pq) (ha : a < 2 ^ 31) (hb : b < 2 ^ 31)
    (kt : ¬ a = b → fm_G S Y X M0 post tgt ls st M) (kf : a = b → fm_G S Y X M0 post pq ls st M) : fm_G S Y X M0 post pc ls (.inl (nI b) :: .inl (nI a) :: st) M :=
  fm_icmp_ne hX hd ht hq (fun h => kt ((not_congr (nI_eq ha hb)).mp h)) (fun h => kf ((nI_eq ha hb).mp h))
theorem fm_z_ne (hX : fm_Ctx S Y X) {a : Nat} {off : Int} {tgt pq : Nat} (hd : decode Y.2.1 pc = .ok (.ifCond .ne off, 3)) (ht : (pc : Int) + off = (tgt : Int)) (hq : pc + 3 = pq) (ha : a < 2 ^ 31)
    (kt : ¬ a = 0 → fm_G S Y X M0 post tgt ls st M) (kf : a = 0 → fm_G S Y X M0 post pq ls st M) : fm_G S Y X M0 post pc ls (.inl (nI a) :: st) M := by
  have hb : (0 : Nat) < 2 ^ 31 := by decide
  exact fm_if_ne hX hd ht hq (fun h => kt ((not_congr (nI_eq ha hb)).mp (by rw [nI_0]; exact h))) (fun h => kf ((nI_eq ha hb).mp (by rw [nI_0]; exact h)))
theorem fm_n_lt (hX : fm_Ctx S Y X) {a b : Nat} {off : Int} {tgt pq : Nat} (hd : decode Y.2.1 pc = .ok (.if_icmp .lt off, 3)) (ht : (pc : Int) + off = (tgt : Int)) (hq : pc + 3 = pq) (ha : a < 2 ^ 31) (hb : b < 2 ^ 31)
    (kt : a < b → fm_G S Y X M0 post tgt ls st M) (kf : ¬ (a < b) → fm_G S Y X M0 post pq ls st M) : fm_G S Y X M0 post pc ls (.inl (nI b) :: .inl (nI a) :: st) M :=
  fm_icmp_lt hX hd ht hq (fun h => kt ((nI_ltI ha hb).mp h)) (fun h => kf (fun z => h ((nI_ltI ha hb).mpr z)))
theorem fm_z_lt (hX : fm_Ctx S Y X) {a : Nat} {off : Int} {tgt pq : Nat} (hd : decode Y.2.1 pc = .ok (.ifCond .lt off, 3)) (ht : (pc : Int) + off = (tgt : Int)) (hq : pc + 3 = pq) (ha : a < 2 ^ 31)
    (kt : a < 0 → fm_G S Y X M0 post tgt ls st M) (kf : ¬ (a < 0) → fm_G S Y X M0 post pq ls st M) : fm_G S Y X M0 post pc ls (.inl (nI a) :: st) M := by
  have hb : (0 : Nat) < 2 ^ 31 := by decide
  exact fm_if_lt hX hd ht hq (fun h => kt ((nI_ltI ha hb).mp (by rw [nI_0]; exact h))) (fun h => kf (fun z => h (by have := (nI_ltI ha hb).mpr z; rw [nI_0] at this; exact this)))
theorem fm_n_ge (hX : fm_Ctx S Y X) {a b : Nat} {off : Int} {tgt pq : Nat} (hd : decode Y.2.1 pc = .ok (.if_icmp .ge off, 3)) (ht : (pc : Int) + off = (tgt : Int)) (hq : pc + 3 = pq) (ha : a < 2 ^ 31) (hb : b < 2 ^ 31)
    (kt : b ≤ a → fm_G S Y X M0 post tgt ls st M) (kf : ¬ (b ≤ a) → fm_G S Y X M0 post pq ls st M) : fm_G S Y X M0 post pc ls (.inl (nI b) :: .inl (nI a) :: st) M :=
  fm_icmp_ge hX hd ht hq (fun h => kt ((nI_leI hb ha).mp h)) (fun h => kf (fun z => h ((nI_leI hb ha).mpr z)))
theorem fm_z_ge (hX : fm_Ctx S Y X) {a : Nat} {off : Int} {tgt pq : Nat} (hd : decode Y.2.1 pc = .ok (.ifCond .ge off, 3)) (ht : (pc : Int) + off = (tgt : Int)) (hq : pc + 3 = pq) (ha : a < 2 ^ 31)
    (kt : 0 ≤ a → fm_G S Y X M0 post tgt ls st M) (kf : ¬ (0 ≤ a) → fm_G S Y X M0 post pq ls st M) : fm_G S Y X M0 post pc ls (.inl (nI a) :: st) M := by
  have hb : (0 : Nat) < 2 ^ 31 := by decide
  exact fm_if_ge hX hd ht hq (fun h => kt ((nI_leI hb ha).mp (by rw [nI_0]; exact h))) (fun h => kf (fun z => h (by have := (nI_leI hb ha).mpr z; rw [nI_0] at this; exact this)))
theorem fm_n_gt (hX : fm_Ctx S Y X) {a b : Nat} {off : Int} {tgt pq : Nat} (hd : decode Y.2.1 pc = .ok (.if_icmp .gt off, 3)) (ht : (pc : Int) + off = (tgt : Int)) (hq : pc + 3 = pq) (ha : a < 2 ^ 31) (hb : b < 2 ^ 31)
    (kt : b < a → fm_G S Y X M0 post tgt ls st M) (kf : ¬ (b < a) → fm_G S Y X M0 post pq ls st M) : fm_G S Y X M0 post pc ls (.inl (nI b) :: .inl (nI a) :: st) M :=
  fm_icmp_gt hX hd ht hq (fun h => kt ((nI_ltI hb ha).mp h)) (fun h => kf (fun z => h ((nI_ltI hb ha).mpr z)))
theorem fm_z_gt (hX : fm_Ctx S Y X) {a : Nat} {off : Int} {tgt pq : Nat} (hd : decode Y.2.1 pc = .ok (.ifCond .gt off, 3)) (ht : (pc : Int) + off = (tgt : Int)) (hq : pc + 3 = pq) (ha : a < 2 ^ 31)
    (kt : 0 < a → fm_G S Y X M0 post tgt ls st M) (kf : ¬ (0 < a) → fm_G S Y X M0 post pq ls st M) : fm_G S Y X M0 post pc ls (.inl (nI a) :: st) M := by
  have hb : (0 : Nat) < 2 ^ 31 := by decide
  exact fm_if_gt hX hd ht hq (fun h => kt ((nI_ltI hb ha).mp (by rw [nI_0]; exact h))) (fun h => kf (fun z => h (by have := (nI_ltI hb ha).mpr z; rw [nI_0] at this; exact this)))
theorem fm_n_le (hX : fm_Ctx S Y X) {a b : Nat} {off : Int} {tgt pq : Nat} (hd : decode Y.2.1 pc = .ok (.if_icmp .le off, 3)) (ht : (pc : Int) + off = (tgt : Int)) (hq : pc + 3 = pq) (ha : a < 2 ^ 31) (hb : b < 2 ^ 31)
    (kt : a ≤ b → fm_G S Y X M0 post tgt ls st M) (kf : ¬ (a ≤ b) → fm_G S Y X M0 post pq ls st M) : fm_G S Y X M0 post pc ls (.inl (nI b) :: .inl (nI a) :: st) M :=
  fm_icmp_le hX hd ht hq (fun h => kt ((nI_leI ha hb).mp h)) (fun h => kf (fun z => h ((nI_leI ha hb).mpr z)))
theorem fm_z_le (hX : fm_Ctx S Y X) {a : Nat} {off : Int} {tgt pq : Nat} (hd : decode Y.2.1 pc = .ok (.ifCond .le off, 3)) (ht : (pc : Int) + off = (tgt : Int)) (hq : pc + 3 = pq) (ha : a < 2 ^ 31)
    (kt : a ≤ 0 → fm_G S Y X M0 post tgt ls st M) (kf : ¬ (a ≤ 0) → fm_G S Y X M0 post pq ls st M) : fm_G S Y X M0 post pc ls (.inl (nI a) :: st) M := by
  have hb : (0 : Nat) < 2 ^ 31 := by decide
  exact fm_if_le hX hd ht hq (fun h => kt ((nI_leI ha hb).mp (by rw [nI_0]; exact h))) (fun h => kf (fun z => h (by have := (nI_leI ha hb).mpr z; rw [nI_0] at this; exact this)))
theorem fm_b1_eq (hX : fm_Ctx S Y X) {b : Bool} {off : Int} {tgt pq : Nat} (hd : decode Y.2.1 pc = .ok (.ifCond .eq off, 3)) (ht : (pc : Int) + off = (tgt : Int)) (hq : pc + 3 = pq)
    (kt : b = false → fm_G S Y X M0 post tgt ls st M) (kf : b = true → fm_G S Y X M0 post pq ls st M) : fm_G S Y X M0 post pc ls (.inl (bI b) :: st) M := by
  refine fm_if_eq hX hd ht hq (fun h => kt ?_) (fun h => kf ?_)
  all_goals (cases hb : (b) <;> rw [hb] at h <;> first | exact (fun h => h) hb | exact (fun h => h) hb | exact absurd h (by decide))
theorem fm_b2_eq0 (hX : fm_Ctx S Y X) {b : Bool} {off : Int} {tgt pq : Nat} (hd : decode Y.2.1 pc = .ok (.if_icmp .eq off, 3)) (ht : (pc : Int) + off = (tgt : Int)) (hq : pc + 3 = pq)
    (kt : b = false → fm_G S Y X M0 post tgt ls st M) (kf : b = true → fm_G S Y X M0 post pq ls st M) : fm_G S Y X M0 post pc ls (.inl (nI 0) :: .inl (bI b) :: st) M := by
  refine fm_icmp_eq hX hd ht hq (fun h => kt ?_) (fun h => kf ?_)
  all_goals (cases hb : (b) <;> rw [hb] at h <;> first | exact (fun h => h) hb | exact (fun h => h) hb | exact absurd h (by decide))
theorem fm_b2_eq1 (hX : fm_Ctx S Y X) {b : Bool} {off : Int} {tgt pq : Nat} (hd : decode Y.2.1 pc = .ok (.if_icmp .eq off, 3)) (ht : (pc : Int) + off = (tgt : Int)) (hq : pc + 3 = pq)
    (kt : b = true → fm_G S Y X M0 post tgt ls st M) (kf : b = false → fm_G S Y X M0 post pq ls st M) : fm_G S Y X M0 post pc ls (.inl (nI 1) :: .inl (bI b) :: st) M := by
  refine fm_icmp_eq hX hd ht hq (fun h => kt ?_) (fun h => kf ?_)
  all_goals (cases hb : (b) <;> rw [hb] at h <;> first | exact (fun h => h) hb | exact (fun h => h) hb | exact absurd h (by decide))
theorem fm_b1_ne (hX : fm_Ctx S Y X) {b : Bool} {off : Int} {tgt pq : Nat} (hd : decode Y.2.1 pc = .ok (.ifCond .ne off, 3)) (ht : (pc : Int) + off = (tgt : Int)) (hq : pc + 3 = pq)
    (kt : b = true → fm_G S Y X M0 post tgt ls st M) (kf : b = false → fm_G S Y X M0 post pq ls st M) : fm_G S Y X M0 post pc ls (.inl (bI b) :: st) M := by
  refine fm_if_ne hX hd ht hq (fun h => kt ?_) (fun h => kf ?_)
  all_goals (cases hb : (b) <;> rw [hb] at h <;> first | exact (fun h => h) hb | exact (fun h => h) hb | exact absurd h (by decide))
theorem fm_b2_ne0 (hX : fm_Ctx S Y X) {b : Bool} {off : Int} {tgt pq : Nat} (hd : decode Y.2.1 pc = .ok (.if_icmp .ne off, 3)) (ht : (pc : Int) + off = (tgt : Int)) (hq : pc + 3 = pq)
    (kt : b = true → fm_G S Y X M0 post tgt ls st M) (kf : b = false → fm_G S Y X M0 post pq ls st M) : fm_G S Y X M0 post pc ls (.inl (nI 0) :: .inl (bI b) :: st) M := by
  refine fm_icmp_ne hX hd ht hq (fun h => kt ?_) (fun h => kf ?_)
  all_goals (cases hb : (b) <;> rw [hb] at h <;> first | exact (fun h => h) hb | exact (fun h => h) hb | exact absurd h (by decide))
theorem fm_b2_ne1 (hX : fm_Ctx S Y X) {b : Bool} {off : Int} {tgt pq : Nat} (hd : decode Y.2.1 pc = .ok (.if_icmp .ne off, 3)) (ht : (pc : Int) + off = (tgt : Int)) (hq : pc + 3 = pq)
    (kt : b = false → fm_G S Y X M0 post tgt ls st M) (kf : b = true → fm_G S Y X M0 post pq ls st M) : fm_G S Y X M0 post pc ls (.inl (nI 1) :: .inl (bI b) :: st) M := by
  refine fm_icmp_ne hX hd ht hq (fun h => kt ?_) (fun h => kf ?_)
  all_goals (cases hb : (b) <;> rw [hb] at h <;> first | exact (fun h => h) hb | exact (fun h => h) hb | exact absurd h (by decide))
theorem fm_p1_eq (hX : fm_Ctx S Y X) {p : Prop} [Decidable p] {off : Int} {tgt pq : Nat} (hd : decode Y.2.1 pc = .ok (.ifCond .eq off, 3)) (ht : (pc : Int) + off = (tgt : Int)) (hq : pc + 3 = pq)
    (kt : ¬ p → fm_G S Y X M0 post tgt ls st M) (kf : p → fm_G S Y X M0 post pq ls st M) : fm_G S Y X M0 post pc ls (.inl (bI (decide p)) :: st) M := by
  refine fm_if_eq hX hd ht hq (fun h => kt ?_) (fun h => kf ?_)
  all_goals (cases hb : (decide p) <;> rw [hb] at h <;> first | exact of_decide_eq_true hb | exact of_decide_eq_false hb | exact absurd h (by decide))
theorem fm_p2_eq0 (hX : fm_Ctx S Y X) {p : Prop} [Decidable p] {off : Int} {tgt pq : Nat} (hd : decode Y.2.1 pc = .ok (.if_icmp .eq off, 3)) (ht : (pc : Int) + off = (tgt : Int)) (hq : pc + 3 = pq)
    (kt : ¬ p → fm_G S Y X M0 post tgt ls st M) (kf : p → fm_G S Y X M0 post pq ls st M) : fm_G S Y X M0 post pc ls (.inl (nI 0) :: .inl (bI (decide p)) :: st) M := by
  refine fm_icmp_eq hX hd ht hq (fun h => kt ?_) (fun h => kf ?_)
  all_goals (cases hb : (decide p) <;> rw [hb] at h <;> first | exact of_decide_eq_true hb | exact of_decide_eq_false hb | exact absurd h (by decide))
theorem fm_p2_eq1 (hX : fm_Ctx S Y X) {p : Prop} [Decidable p] {off : Int} {tgt pq : Nat} (hd : decode Y.2.1 pc = .ok (.if_icmp .eq off, 3)) (ht : (pc : Int) + off = (tgt : Int)) (hq : pc + 3 = pq)
    (kt : p → fm_G S Y X M0 post tgt ls st M) (kf : ¬ p → fm_G S Y X M0 post pq ls st M) : fm_G S Y X M0 post pc ls (.inl (nI 1) :: .inl (bI (decide p)) :: st) M := by
  refine fm_icmp_eq hX hd ht hq (fun h => kt ?_) (fun h => kf ?_)
  all_goals (cases hb : (decide p) <;> rw [hb] at h <;> first | exact of_decide_eq_true hb | exact of_decide_eq_false hb | exact absurd h (by decide))
theorem fm_p1_ne (hX : fm_Ctx S Y X) {p : Prop} [Decidable p] {off : Int} {tgt pq : Nat} (hd : decode Y.2.1 pc = .ok (.ifCond .ne off, 3)) (ht : (pc : Int) + off = (tgt : Int)) (hq : pc + 3 = pq)
    (kt : p → fm_G S Y X M0 post tgt ls st M) (kf : ¬ p → fm_G S Y X M0 post pq ls st M) : fm_G S Y X M0 post pc ls (.inl (bI (decide p)) :: st) M := by
  refine fm_if_ne hX hd ht hq (fun h => kt ?_) (fun h => kf ?_)
  all_goals (cases hb : (decide p) <;> rw [hb] at h <;> first | exact of_decide_eq_true hb | exact of_decide_eq_false hb | exact absurd h (by decide))
theorem fm_p2_ne0 (hX : fm_Ctx S Y X) {p : Prop} [Decidable p] {off : Int} {tgt pq : Nat} (hd : decode Y.2.1 pc = .ok (.if_icmp .ne off, 3)) (ht : (pc : Int) + off = (tgt : Int)) (hq : pc + 3 = pq)
    (kt : p → fm_G S Y X M0 post tgt ls st M) (kf : ¬ p → fm_G S Y X M0 post pq ls st M) : fm_G S Y X M0 post pc ls (.inl (nI 0) :: .inl (bI (decide p)) :: st) M := by
  refine fm_icmp_ne hX hd ht hq (fun h => kt ?_) (fun h => kf ?_)
  all_goals (cases hb : (decide p) <;> rw [hb] at h <;> first | exact of_decide_eq_true hb | exact of_decide_eq_false hb | exact absurd h (by decide))
theorem fm_p2_ne1 (hX : fm_Ctx S Y X) {p : Prop} [Decidable p] {off : Int} {tgt pq : Nat} (hd : decode Y.2.1 pc = .ok (.if_icmp .ne off, 3)) (ht : (pc : Int) + off = (tgt : Int)) (hq : pc + 3 = pq)
    (kt : ¬ p → fm_G S Y X M0 post tgt ls st M) (kf : p → fm_G S Y X M0 post pq ls st M) : fm_G S Y X M0 post pc ls (.inl (nI 1) :: .inl (bI (decide p)) :: st) M := by
  refine fm_icmp_ne hX hd ht hq (fun h => kt ?_) (fun h => kf ?_)
  all_goals (cases hb : (decide p) <;> rw [hb] at h <;> first | exact of_decide_eq_true hb | exact of_decide_eq_false hb | exact absurd h (by decide))
end FM
end
section
/-! NAMES: classes, fields in the order of their slots, methods, the words of both systems (written by program) -/
def nC : String := "EscapeMill$Code"
def tC : u_T := fun k => match k with
  | 0 => ("EscapeMill$Code", "ops", "[I", true)
  | 1 => ("EscapeMill$Code", "xs", "[I", true)
  | 2 => ("EscapeMill$Code", "ys", "[I", true)
  | 3 => ("EscapeMill$Code", "zs", "[I", true)
  | 4 => ("EscapeMill$Code", "ns", "[I", true)
  | 5 => ("EscapeMill$Code", "size", "I", false)
  | _ => ("EscapeMill$Code", "inputs", "I", false)
def uC : Nat → FieldType := fun k => match k with
  | 0 => .array .int
  | 1 => .array .int
  | 2 => .array .int
  | 3 => .array .int
  | 4 => .array .int
  | 5 => .int
  | _ => .int
theorem nmC : ∀ a, a < 7 → ∀ b, b < 7 → a ≠ b → (tC a).2.1 ≠ (tC b).2.1 := by decide +kernel
theorem tyC : ∀ k, k < 7 → parseFieldDescriptor (tC k).2.2.1 = some (uC k) := by decide +kernel
def nF : String := "EscapeMill$Facts"
def tF : u_T := fun k => match k with
  | 0 => ("EscapeMill$Facts", "mayBe", "[I", true)
  | 1 => ("EscapeMill$Facts", "held", "[[I", true)
  | 2 => ("EscapeMill$Facts", "states", "[I", true)
  | 3 => ("EscapeMill$Facts", "mixed", "[Z", true)
  | 4 => ("EscapeMill$Facts", "given", "I", false)
  | 5 => ("EscapeMill$Facts", "fromWorld", "I", false)
  | 6 => ("EscapeMill$Facts", "fromCaller", "I", false)
  | _ => ("EscapeMill$Facts", "grown", "Z", false)
def uF : Nat → FieldType := fun k => match k with
  | 0 => .array .int
  | 1 => .array (.array .int)
  | 2 => .array .int
  | 3 => .array .boolean
  | 4 => .int
  | 5 => .int
  | 6 => .int
  | _ => .boolean
theorem nmF : ∀ a, a < 8 → ∀ b, b < 8 → a ≠ b → (tF a).2.1 ≠ (tF b).2.1 := by decide +kernel
theorem tyF : ∀ k, k < 8 → parseFieldDescriptor (tF k).2.2.1 = some (uF k) := by decide +kernel
def nM : String := "EscapeMill$Machine"
def tM : u_T := fun k => match k with
  | 0 => ("EscapeMill$Machine", "refs", "[I", true)
  | 1 => ("EscapeMill$Machine", "ints", "[I", true)
  | 2 => ("EscapeMill$Machine", "counts", "[I", true)
  | 3 => ("EscapeMill$Machine", "globals", "[I", true)
  | 4 => ("EscapeMill$Machine", "methods", "[I", true)
  | 5 => ("EscapeMill$Machine", "places", "[I", true)
  | 6 => ("EscapeMill$Machine", "targets", "[I", true)
  | 7 => ("EscapeMill$Machine", "rs", "[I", true)
  | 8 => ("EscapeMill$Machine", "is", "[I", true)
  | 9 => ("EscapeMill$Machine", "running", "I", false)
  | 10 => ("EscapeMill$Machine", "kept", "[I", true)
  | 11 => ("EscapeMill$Machine", "failure", "I", false)
  | 12 => ("EscapeMill$Machine", "showed", "I", false)
  | 13 => ("EscapeMill$Machine", "done", "I", false)
  | 14 => ("EscapeMill$Machine", "made", "I", false)
  | _ => ("EscapeMill$Machine", "locked", "I", false)
def uM : Nat → FieldType := fun k => match k with
  | 0 => .array .int
  | 1 => .array .int
  | 2 => .array .int
  | 3 => .array .int
  | 4 => .array .int
  | 5 => .array .int
  | 6 => .array .int
  | 7 => .array .int
  | 8 => .array .int
  | 9 => .int
  | 10 => .array .int
  | 11 => .int
  | 12 => .int
  | 13 => .int
  | 14 => .int
  | _ => .int
theorem nmM : ∀ a, a < 16 → ∀ b, b < 16 → a ≠ b → (tM a).2.1 ≠ (tM b).2.1 := by decide +kernel
theorem tyM : ∀ k, k < 16 → parseFieldDescriptor (tM k).2.2.1 = some (uM k) := by decide +kernel
def nP : String := "EscapeMill$Plan"
def tP : u_T := fun k => match k with
  | _ => ("EscapeMill$Plan", "fates", "[I", true)
def uP : Nat → FieldType := fun k => match k with
  | _ => .array .int
theorem nmP : ∀ a, a < 1 → ∀ b, b < 1 → a ≠ b → (tP a).2.1 ≠ (tP b).2.1 := by decide +kernel
theorem tyP : ∀ k, k < 1 → parseFieldDescriptor (tP k).2.2.1 = some (uP k) := by decide +kernel
def nE : String := "EscapeMill"
def tE : u_T := fun k => match k with
  | 0 => ("EscapeMill", "codes", "[LEscapeMill$Code;", true)
  | 1 => ("EscapeMill", "facts", "[LEscapeMill$Facts;", true)
  | 2 => ("EscapeMill", "plans", "[LEscapeMill$Plan;", true)
  | 3 => ("EscapeMill", "machine", "LEscapeMill$Machine;", true)
  | _ => ("EscapeMill", "stale", "Z", false)
def uE : Nat → FieldType := fun k => match k with
  | 0 => .array (.object "EscapeMill$Code")
  | 1 => .array (.object "EscapeMill$Facts")
  | 2 => .array (.object "EscapeMill$Plan")
  | 3 => .object "EscapeMill$Machine"
  | _ => .boolean
theorem nmE : ∀ a, a < 5 → ∀ b, b < 5 → a ≠ b → (tE a).2.1 ≠ (tE b).2.1 := by decide +kernel
theorem tyE : ∀ k, k < 5 → parseFieldDescriptor (tE k).2.2.1 = some (uE k) := by decide +kernel
def nR : String := "EscapeMillModel"
def tR : u_T := fun k => match k with
  | 0 => ("EscapeMillModel", "threw", "I", false)
  | 1 => ("EscapeMillModel", "params", "[I", true)
  | 2 => ("EscapeMillModel", "lengths", "[I", true)
  | 3 => ("EscapeMillModel", "op", "[I", true)
  | 4 => ("EscapeMillModel", "xs", "[I", true)
  | 5 => ("EscapeMillModel", "ys", "[I", true)
  | 6 => ("EscapeMillModel", "zs", "[I", true)
  | 7 => ("EscapeMillModel", "ns", "[I", true)
  | 8 => ("EscapeMillModel", "known", "Z", false)
  | 9 => ("EscapeMillModel", "may", "[I", true)
  | 10 => ("EscapeMillModel", "hold", "[I", true)
  | 11 => ("EscapeMillModel", "given", "[I", true)
  | 12 => ("EscapeMillModel", "summary", "[I", true)
  | 13 => ("EscapeMillModel", "open", "[Z", true)
  | 14 => ("EscapeMillModel", "running", "I", false)
  | 15 => ("EscapeMillModel", "method", "[I", true)
  | 16 => ("EscapeMillModel", "place", "[I", true)
  | 17 => ("EscapeMillModel", "goal", "[I", true)
  | 18 => ("EscapeMillModel", "refs", "[I", true)
  | 19 => ("EscapeMillModel", "ints", "[I", true)
  | 20 => ("EscapeMillModel", "parts", "[I", true)
  | 21 => ("EscapeMillModel", "objects", "[I", true)
  | 22 => ("EscapeMillModel", "made", "I", false)
  | 23 => ("EscapeMillModel", "globals", "[I", true)
  | 24 => ("EscapeMillModel", "failure", "I", false)
  | 25 => ("EscapeMillModel", "shows", "I", false)
  | 26 => ("EscapeMillModel", "done", "I", false)
  | 27 => ("EscapeMillModel", "locks", "I", false)
  | 28 => ("EscapeMillModel", "shown", "[I", true)
  | _ => ("EscapeMillModel", "fates", "[I", true)
def uR : Nat → FieldType := fun k => match k with
  | 0 => .int
  | 1 => .array .int
  | 2 => .array .int
  | 3 => .array .int
  | 4 => .array .int
  | 5 => .array .int
  | 6 => .array .int
  | 7 => .array .int
  | 8 => .boolean
  | 9 => .array .int
  | 10 => .array .int
  | 11 => .array .int
  | 12 => .array .int
  | 13 => .array .boolean
  | 14 => .int
  | 15 => .array .int
  | 16 => .array .int
  | 17 => .array .int
  | 18 => .array .int
  | 19 => .array .int
  | 20 => .array .int
  | 21 => .array .int
  | 22 => .int
  | 23 => .array .int
  | 24 => .int
  | 25 => .int
  | 26 => .int
  | 27 => .int
  | 28 => .array .int
  | _ => .array .int
theorem nmR : ∀ a, a < 30 → ∀ b, b < 30 → a ≠ b → (tR a).2.1 ≠ (tR b).2.1 := by decide +kernel
theorem tyR : ∀ k, k < 30 → parseFieldDescriptor (tR k).2.2.1 = some (uR k) := by decide +kernel
def nA : String := "java/util/Arrays"
abbrev vwA : List vw_C := [(nC, tC, 7), (nF, tF, 8), (nM, tM, 16), (nP, tP, 1), (nE, tE, 5), (nR, tR, 30)]
abbrev b_E_init : ByteArray := prog_1_method_1_code
def y_E_init : MethodName := ⟨"EscapeMill", "<init>", "()V"⟩
abbrev b_M_init : ByteArray := prog_4_method_1_code
def y_M_init : MethodName := ⟨"EscapeMill$Machine", "<init>", "()V"⟩
abbrev b_C_init : ByteArray := prog_2_method_1_code
def y_C_init : MethodName := ⟨"EscapeMill$Code", "<init>", "()V"⟩
abbrev b_F_init : ByteArray := prog_3_method_1_code
def y_F_init : MethodName := ⟨"EscapeMill$Facts", "<init>", "()V"⟩
abbrev b_P_init : ByteArray := prog_5_method_1_code
def y_P_init : MethodName := ⟨"EscapeMill$Plan", "<init>", "()V"⟩
abbrev b_E_run : ByteArray := prog_1_method_5_code
def y_E_run : MethodName := ⟨"EscapeMill", "run", "(Z)I"⟩
abbrev b_E_settle : ByteArray := prog_1_method_16_code
def y_E_settle : MethodName := ⟨"EscapeMill", "settle", "()V"⟩
abbrev b_F_gather : ByteArray := prog_3_method_3_code
def y_F_gather : MethodName := ⟨"EscapeMill$Facts", "gather", "([LEscapeMill$Code;[LEscapeMill$Facts;I)V"⟩
abbrev b_F_forget : ByteArray := prog_3_method_4_code
def y_F_forget : MethodName := ⟨"EscapeMill$Facts", "forget", "()V"⟩
abbrev b_A_fill : ByteArray := prog_14_method_103_code
def y_A_fill : MethodName := ⟨"java/util/Arrays", "fill", "([II)V"⟩
abbrev b_F_begin : ByteArray := prog_3_method_5_code
def y_F_begin : MethodName := ⟨"EscapeMill$Facts", "begin", "(I)V"⟩
abbrev b_F_refer : ByteArray := prog_3_method_9_code
def y_F_refer : MethodName := ⟨"EscapeMill$Facts", "refer", "(II)V"⟩
abbrev b_F_holdInBoth : ByteArray := prog_3_method_11_code
def y_F_holdInBoth : MethodName := ⟨"EscapeMill$Facts", "holdInBoth", "(II)V"⟩
abbrev b_F_holdIn : ByteArray := prog_3_method_12_code
def y_F_holdIn : MethodName := ⟨"EscapeMill$Facts", "holdIn", "(III)V"⟩
abbrev b_F_applyCall : ByteArray := prog_3_method_7_code
def y_F_applyCall : MethodName := ⟨"EscapeMill$Facts", "applyCall", "([LEscapeMill$Code;[LEscapeMill$Facts;II)V"⟩
abbrev b_F_reached : ByteArray := prog_3_method_14_code
def y_F_reached : MethodName := ⟨"EscapeMill$Facts", "reached", "(I)I"⟩
abbrev b_F_heldBy : ByteArray := prog_3_method_13_code
def y_F_heldBy : MethodName := ⟨"EscapeMill$Facts", "heldBy", "(II)I"⟩
abbrev b_F_apply : ByteArray := prog_3_method_6_code
def y_F_apply : MethodName := ⟨"EscapeMill$Facts", "apply", "(LEscapeMill$Code;I)V"⟩
abbrev b_F_hold : ByteArray := prog_3_method_10_code
def y_F_hold : MethodName := ⟨"EscapeMill$Facts", "hold", "(III)V"⟩
abbrev b_F_sumUp : ByteArray := prog_3_method_8_code
def y_F_sumUp : MethodName := ⟨"EscapeMill$Facts", "sumUp", "(I)V"⟩
abbrev b_P_draw : ByteArray := prog_5_method_2_code
def y_P_draw : MethodName := ⟨"EscapeMill$Plan", "draw", "([LEscapeMill$Code;LEscapeMill$Facts;I)V"⟩
abbrev b_P_soleNew : ByteArray := prog_5_method_3_code
def y_P_soleNew : MethodName := ⟨"EscapeMill$Plan", "soleNew", "(LEscapeMill$Code;I)I"⟩
abbrev b_C_defines : ByteArray := prog_2_method_4_code
def y_C_defines : MethodName := ⟨"EscapeMill$Code", "defines", "(II)Z"⟩
abbrev b_C_reachedWithout : ByteArray := prog_2_method_8_code
def y_C_reachedWithout : MethodName := ⟨"EscapeMill$Code", "reachedWithout", "(I)I"⟩
abbrev b_C_bit : ByteArray := prog_2_method_10_code
def y_C_bit : MethodName := ⟨"EscapeMill$Code", "bit", "(I)I"⟩
abbrev b_C_has : ByteArray := prog_2_method_2_code
def y_C_has : MethodName := ⟨"EscapeMill$Code", "has", "(I)Z"⟩
abbrev b_C_behind : ByteArray := prog_2_method_9_code
def y_C_behind : MethodName := ⟨"EscapeMill$Code", "behind", "(I)I"⟩
abbrev b_C_jumps : ByteArray := prog_2_method_7_code
def y_C_jumps : MethodName := ⟨"EscapeMill$Code", "jumps", "(I)Z"⟩
abbrev b_P_staysInside : ByteArray := prog_5_method_4_code
def y_P_staysInside : MethodName := ⟨"EscapeMill$Plan", "staysInside", "([LEscapeMill$Code;II)Z"⟩
abbrev b_C_handsOn : ByteArray := prog_2_method_6_code
def y_C_handsOn : MethodName := ⟨"EscapeMill$Code", "handsOn", "(III)Z"⟩
abbrev b_P_isMadeFirst : ByteArray := prog_5_method_5_code
def y_P_isMadeFirst : MethodName := ⟨"EscapeMill$Plan", "isMadeFirst", "(LEscapeMill$Code;II)Z"⟩
abbrev b_C_worksOn : ByteArray := prog_2_method_5_code
def y_C_worksOn : MethodName := ⟨"EscapeMill$Code", "worksOn", "(II)Z"⟩
abbrev b_P_takeApart : ByteArray := prog_5_method_6_code
def y_P_takeApart : MethodName := ⟨"EscapeMill$Plan", "takeApart", "(LEscapeMill$Code;II)V"⟩
abbrev b_F_escapeOf : ByteArray := prog_3_method_2_code
def y_F_escapeOf : MethodName := ⟨"EscapeMill$Facts", "escapeOf", "(I)I"⟩
abbrev b_P_pairLocks : ByteArray := prog_5_method_7_code
def y_P_pairLocks : MethodName := ⟨"EscapeMill$Plan", "pairLocks", "(LEscapeMill$Code;II)V"⟩
abbrev b_P_partner : ByteArray := prog_5_method_8_code
def y_P_partner : MethodName := ⟨"EscapeMill$Plan", "partner", "(LEscapeMill$Code;I)I"⟩
abbrev b_P_isJumpedInto : ByteArray := prog_5_method_10_code
def y_P_isJumpedInto : MethodName := ⟨"EscapeMill$Plan", "isJumpedInto", "(LEscapeMill$Code;II)Z"⟩
abbrev b_P_endsPairing : ByteArray := prog_5_method_9_code
def y_P_endsPairing : MethodName := ⟨"EscapeMill$Plan", "endsPairing", "(I)Z"⟩
abbrev b_M_go : ByteArray := prog_4_method_2_code
def y_M_go : MethodName := ⟨"EscapeMill$Machine", "go", "([LEscapeMill$Code;[LEscapeMill$Plan;Z)I"⟩
abbrev b_M_begin : ByteArray := prog_4_method_3_code
def y_M_begin : MethodName := ⟨"EscapeMill$Machine", "begin", "()V"⟩
abbrev b_M_enter : ByteArray := prog_4_method_15_code
def y_M_enter : MethodName := ⟨"EscapeMill$Machine", "enter", "(IIII)V"⟩
abbrev b_M_base : ByteArray := prog_4_method_6_code
def y_M_base : MethodName := ⟨"EscapeMill$Machine", "base", "()I"⟩
abbrev b_M_leave : ByteArray := prog_4_method_16_code
def y_M_leave : MethodName := ⟨"EscapeMill$Machine", "leave", "(I)V"⟩
abbrev b_M_perform : ByteArray := prog_4_method_4_code
def y_M_perform : MethodName := ⟨"EscapeMill$Machine", "perform", "([LEscapeMill$Code;III)V"⟩
abbrev b_M_cellOf : ByteArray := prog_4_method_7_code
def y_M_cellOf : MethodName := ⟨"EscapeMill$Machine", "cellOf", "(I)I"⟩
abbrev b_M_workOnField : ByteArray := prog_4_method_11_code
def y_M_workOnField : MethodName := ⟨"EscapeMill$Machine", "workOnField", "(IIIII)V"⟩
abbrev b_M_changeCount : ByteArray := prog_4_method_12_code
def y_M_changeCount : MethodName := ⟨"EscapeMill$Machine", "changeCount", "(II)V"⟩
abbrev b_M_call : ByteArray := prog_4_method_14_code
def y_M_call : MethodName := ⟨"EscapeMill$Machine", "call", "([LEscapeMill$Code;II)V"⟩
abbrev b_M_newParts : ByteArray := prog_4_method_9_code
def y_M_newParts : MethodName := ⟨"EscapeMill$Machine", "newParts", "(I)I"⟩
abbrev b_M_emptied : ByteArray := prog_4_method_10_code
def y_M_emptied : MethodName := ⟨"EscapeMill$Machine", "emptied", "(I)I"⟩
abbrev b_M_newObject : ByteArray := prog_4_method_8_code
def y_M_newObject : MethodName := ⟨"EscapeMill$Machine", "newObject", "()I"⟩
abbrev b_M_move : ByteArray := prog_4_method_5_code
def y_M_move : MethodName := ⟨"EscapeMill$Machine", "move", "(LEscapeMill$Code;I)V"⟩
abbrev b_M_show : ByteArray := prog_4_method_13_code
def y_M_show : MethodName := ⟨"EscapeMill$Machine", "show", "(I)V"⟩
abbrev b_E_latest : ByteArray := prog_1_method_7_code
def y_E_latest : MethodName := ⟨"EscapeMill", "latest", "(I)I"⟩
abbrev b_E_escape : ByteArray := prog_1_method_8_code
def y_E_escape : MethodName := ⟨"EscapeMill", "escape", "(II)I"⟩
abbrev b_E_isMethod : ByteArray := prog_1_method_13_code
def y_E_isMethod : MethodName := ⟨"EscapeMill", "isMethod", "(I)Z"⟩
abbrev b_E_summary : ByteArray := prog_1_method_9_code
def y_E_summary : MethodName := ⟨"EscapeMill", "summary", "(II)I"⟩
abbrev b_E_fate : ByteArray := prog_1_method_10_code
def y_E_fate : MethodName := ⟨"EscapeMill", "fate", "(II)I"⟩
abbrev b_E_may : ByteArray := prog_1_method_11_code
def y_E_may : MethodName := ⟨"EscapeMill", "may", "(II)I"⟩
abbrev b_E_length : ByteArray := prog_1_method_12_code
def y_E_length : MethodName := ⟨"EscapeMill", "length", "(I)I"⟩
abbrev b_E_parameters : ByteArray := prog_1_method_2_code
def y_E_parameters : MethodName := ⟨"EscapeMill", "parameters", "(II)Z"⟩
abbrev b_E_put : ByteArray := prog_1_method_3_code
def y_E_put : MethodName := ⟨"EscapeMill", "put", "(IIIIII)I"⟩
abbrev b_E_isInstruction : ByteArray := prog_1_method_15_code
def y_E_isInstruction : MethodName := ⟨"EscapeMill", "isInstruction", "(IIIII)Z"⟩
abbrev b_E_isVariable : ByteArray := prog_1_method_14_code
def y_E_isVariable : MethodName := ⟨"EscapeMill", "isVariable", "(I)Z"⟩
abbrev b_C_append : ByteArray := prog_2_method_3_code
def y_C_append : MethodName := ⟨"EscapeMill$Code", "append", "(IIIII)I"⟩
abbrev b_E_clear : ByteArray := prog_1_method_4_code
def y_E_clear : MethodName := ⟨"EscapeMill", "clear", "(I)I"⟩
abbrev b_E_shown : ByteArray := prog_1_method_6_code
def y_E_shown : MethodName := ⟨"EscapeMill", "shown", "(I)I"⟩
abbrev b_R_init : ByteArray := prog_7_method_1_code
def y_R_init : MethodName := ⟨"EscapeMillModel", "<init>", "()V"⟩
abbrev b_R_thrown : ByteArray := prog_7_method_2_code
def y_R_thrown : MethodName := ⟨"EscapeMillModel", "thrown", "()I"⟩
abbrev b_R_parameters : ByteArray := prog_7_method_4_code
def y_R_parameters : MethodName := ⟨"EscapeMillModel", "parameters", "(II)Z"⟩
abbrev b_R_isMethod : ByteArray := prog_7_method_3_code
def y_R_isMethod : MethodName := ⟨"EscapeMillModel", "isMethod", "(I)Z"⟩
abbrev b_R_put : ByteArray := prog_7_method_6_code
def y_R_put : MethodName := ⟨"EscapeMillModel", "put", "(IIIIII)I"⟩
abbrev b_R_four : ByteArray := prog_7_method_5_code
def y_R_four : MethodName := ⟨"EscapeMillModel", "four", "(I)Z"⟩
abbrev b_R_clear : ByteArray := prog_7_method_7_code
def y_R_clear : MethodName := ⟨"EscapeMillModel", "clear", "(I)I"⟩
abbrev b_R_run : ByteArray := prog_7_method_36_code
def y_R_run : MethodName := ⟨"EscapeMillModel", "run", "(Z)I"⟩
abbrev b_R_know : ByteArray := prog_7_method_17_code
def y_R_know : MethodName := ⟨"EscapeMillModel", "know", "()V"⟩
abbrev b_R_analyse : ByteArray := prog_7_method_16_code
def y_R_analyse : MethodName := ⟨"EscapeMillModel", "analyse", "(I)V"⟩
abbrev b_R_holds : ByteArray := prog_7_method_9_code
def y_R_holds : MethodName := ⟨"EscapeMillModel", "holds", "(IIII)V"⟩
abbrev b_R_weight : ByteArray := prog_7_method_14_code
def y_R_weight : MethodName := ⟨"EscapeMillModel", "weight", "(I)I"⟩
abbrev b_R_adds : ByteArray := prog_7_method_13_code
def y_R_adds : MethodName := ⟨"EscapeMillModel", "adds", "(II)V"⟩
abbrev b_R_held : ByteArray := prog_7_method_10_code
def y_R_held : MethodName := ⟨"EscapeMillModel", "held", "(III)I"⟩
abbrev b_R_calls : ByteArray := prog_7_method_12_code
def y_R_calls : MethodName := ⟨"EscapeMillModel", "calls", "(II)V"⟩
abbrev b_R_reached : ByteArray := prog_7_method_8_code
def y_R_reached : MethodName := ⟨"EscapeMillModel", "reached", "(II)I"⟩
abbrev b_R_stateOf : ByteArray := prog_7_method_11_code
def y_R_stateOf : MethodName := ⟨"EscapeMillModel", "stateOf", "(III)I"⟩
abbrev b_R_fateOf : ByteArray := prog_7_method_27_code
def y_R_fateOf : MethodName := ⟨"EscapeMillModel", "fateOf", "(II)I"⟩
abbrev b_R_worksOn : ByteArray := prog_7_method_23_code
def y_R_worksOn : MethodName := ⟨"EscapeMillModel", "worksOn", "(III)Z"⟩
abbrev b_R_apart : ByteArray := prog_7_method_25_code
def y_R_apart : MethodName := ⟨"EscapeMillModel", "apart", "(II)Z"⟩
abbrev b_R_onlyNew : ByteArray := prog_7_method_22_code
def y_R_onlyNew : MethodName := ⟨"EscapeMillModel", "onlyNew", "(II)I"⟩
abbrev b_R_defines : ByteArray := prog_7_method_21_code
def y_R_defines : MethodName := ⟨"EscapeMillModel", "defines", "(I)Z"⟩
abbrev b_R_gives : ByteArray := prog_7_method_24_code
def y_R_gives : MethodName := ⟨"EscapeMillModel", "gives", "(III)Z"⟩
abbrev b_R_dominates : ByteArray := prog_7_method_20_code
def y_R_dominates : MethodName := ⟨"EscapeMillModel", "dominates", "(III)Z"⟩
abbrev b_R_isInstruction : ByteArray := prog_7_method_18_code
def y_R_isInstruction : MethodName := ⟨"EscapeMillModel", "isInstruction", "(II)Z"⟩
abbrev b_R_pair : ByteArray := prog_7_method_26_code
def y_R_pair : MethodName := ⟨"EscapeMillModel", "pair", "(III)Z"⟩
abbrev b_R_escapeOf : ByteArray := prog_7_method_19_code
def y_R_escapeOf : MethodName := ⟨"EscapeMillModel", "escapeOf", "(II)I"⟩
abbrev b_R_argsOf : ByteArray := prog_7_method_15_code
def y_R_argsOf : MethodName := ⟨"EscapeMillModel", "argsOf", "(I)I"⟩
abbrev b_R_enter : ByteArray := prog_7_method_28_code
def y_R_enter : MethodName := ⟨"EscapeMillModel", "enter", "(IIII)V"⟩
abbrev b_R_leave : ByteArray := prog_7_method_29_code
def y_R_leave : MethodName := ⟨"EscapeMillModel", "leave", "(I)V"⟩
abbrev b_R_does : ByteArray := prog_7_method_35_code
def y_R_does : MethodName := ⟨"EscapeMillModel", "does", "(II)V"⟩
abbrev b_R_makes : ByteArray := prog_7_method_32_code
def y_R_makes : MethodName := ⟨"EscapeMillModel", "makes", "(IZ)V"⟩
abbrev b_R_fields : ByteArray := prog_7_method_30_code
def y_R_fields : MethodName := ⟨"EscapeMillModel", "fields", "(IZ)V"⟩
abbrev b_R_set : ByteArray := prog_7_method_31_code
def y_R_set : MethodName := ⟨"EscapeMillModel", "set", "(ZII)V"⟩
abbrev b_R_call : ByteArray := prog_7_method_33_code
def y_R_call : MethodName := ⟨"EscapeMillModel", "call", "(I)V"⟩
abbrev b_R_moves : ByteArray := prog_7_method_34_code
def y_R_moves : MethodName := ⟨"EscapeMillModel", "moves", "(I)V"⟩
abbrev b_R_shown : ByteArray := prog_7_method_37_code
def y_R_shown : MethodName := ⟨"EscapeMillModel", "shown", "(I)I"⟩
abbrev b_R_latest : ByteArray := prog_7_method_38_code
def y_R_latest : MethodName := ⟨"EscapeMillModel", "latest", "(I)I"⟩
abbrev b_R_escape : ByteArray := prog_7_method_39_code
def y_R_escape : MethodName := ⟨"EscapeMillModel", "escape", "(II)I"⟩
abbrev b_R_summary : ByteArray := prog_7_method_40_code
def y_R_summary : MethodName := ⟨"EscapeMillModel", "summary", "(II)I"⟩
abbrev b_R_fate : ByteArray := prog_7_method_41_code
def y_R_fate : MethodName := ⟨"EscapeMillModel", "fate", "(II)I"⟩
abbrev b_R_may : ByteArray := prog_7_method_42_code
def y_R_may : MethodName := ⟨"EscapeMillModel", "may", "(II)I"⟩
abbrev b_R_length : ByteArray := prog_7_method_43_code
def y_R_length : MethodName := ⟨"EscapeMillModel", "length", "(I)I"⟩
def wA_0 : List Cond := [(Cond.initialized "EscapeMill"), (Cond.initialized "EscapeMill$Machine"), (Cond.initialized "EscapeMill$Code"), (Cond.initialized "EscapeMill$Facts"), (Cond.initialized "EscapeMill$Plan"), (Cond.initialized "EscapeMillModel"), (Cond.initialized "java/util/Arrays"), (Cond.instanceMethod y_E_init), (Cond.code y_E_init b_E_init 2 none), (Cond.methodLink "EscapeMill" 3 (⟨"java/lang/Object", "<init>", "()V"⟩ : MethodName)), (Cond.instanceMethod y_M_init), (Cond.code y_M_init b_M_init 1 none), (Cond.methodLink "EscapeMill$Machine" 5 (⟨"java/lang/Object", "<init>", "()V"⟩ : MethodName)), (Cond.fieldLink "EscapeMill$Machine" 11 "EscapeMill$Machine" "refs" "[I"), (Cond.fieldLink "EscapeMill$Machine" 15 "EscapeMill$Machine" "ints" "[I"), (Cond.fieldLink "EscapeMill$Machine" 18 "EscapeMill$Machine" "counts" "[I"), (Cond.fieldLink "EscapeMill$Machine" 21 "EscapeMill$Machine" "globals" "[I"), (Cond.fieldLink "EscapeMill$Machine" 24 "EscapeMill$Machine" "methods" "[I"), (Cond.fieldLink "EscapeMill$Machine" 27 "EscapeMill$Machine" "places" "[I"), (Cond.fieldLink "EscapeMill$Machine" 30 "EscapeMill$Machine" "targets" "[I"), (Cond.fieldLink "EscapeMill$Machine" 33 "EscapeMill$Machine" "rs" "[I"), (Cond.fieldLink "EscapeMill$Machine" 36 "EscapeMill$Machine" "is" "[I"), (Cond.fieldLink "EscapeMill$Machine" 39 "EscapeMill$Machine" "running" "I"), (Cond.fieldLink "EscapeMill$Machine" 43 "EscapeMill$Machine" "kept" "[I"), (Cond.fieldLink "EscapeMill" 79 "EscapeMill$Machine" "kept" "[I"), (Cond.fieldLink "EscapeMill$Machine" 46 "EscapeMill$Machine" "failure" "I"), (Cond.fieldLink "EscapeMill" 83 "EscapeMill$Machine" "failure" "I"), (Cond.fieldLink "EscapeMill$Machine" 49 "EscapeMill$Machine" "showed" "I"), (Cond.fieldLink "EscapeMill" 73 "EscapeMill$Machine" "showed" "I"), (Cond.fieldLink "EscapeMill$Machine" 52 "EscapeMill$Machine" "done" "I"), (Cond.fieldLink "EscapeMill" 86 "EscapeMill$Machine" "done" "I"), (Cond.fieldLink "EscapeMill$Machine" 55 "EscapeMill$Machine" "made" "I"), (Cond.fieldLink "EscapeMill" 89 "EscapeMill$Machine" "made" "I"), (Cond.fieldLink "EscapeMill$Machine" 58 "EscapeMill$Machine" "locked" "I"), (Cond.fieldLink "EscapeMill" 92 "EscapeMill$Machine" "locked" "I"), (Cond.laysFinal "EscapeMill$Machine" "EscapeMill$Machine" "refs" "[I"), (Cond.laysFinal "EscapeMill$Machine" "EscapeMill$Machine" "ints" "[I"), (Cond.laysFinal "EscapeMill$Machine" "EscapeMill$Machine" "counts" "[I"), (Cond.laysFinal "EscapeMill$Machine" "EscapeMill$Machine" "globals" "[I"), (Cond.laysFinal "EscapeMill$Machine" "EscapeMill$Machine" "methods" "[I")]
def wA_1 : List Cond := [(Cond.laysFinal "EscapeMill$Machine" "EscapeMill$Machine" "places" "[I"), (Cond.laysFinal "EscapeMill$Machine" "EscapeMill$Machine" "targets" "[I"), (Cond.laysFinal "EscapeMill$Machine" "EscapeMill$Machine" "rs" "[I"), (Cond.laysFinal "EscapeMill$Machine" "EscapeMill$Machine" "is" "[I"), (Cond.lays "EscapeMill$Machine" "EscapeMill$Machine" "running" "I"), (Cond.laysFinal "EscapeMill$Machine" "EscapeMill$Machine" "kept" "[I"), (Cond.lays "EscapeMill$Machine" "EscapeMill$Machine" "failure" "I"), (Cond.lays "EscapeMill$Machine" "EscapeMill$Machine" "showed" "I"), (Cond.lays "EscapeMill$Machine" "EscapeMill$Machine" "done" "I"), (Cond.lays "EscapeMill$Machine" "EscapeMill$Machine" "made" "I"), (Cond.lays "EscapeMill$Machine" "EscapeMill$Machine" "locked" "I"), (Cond.instanceMethod y_C_init), (Cond.code y_C_init b_C_init 1 none), (Cond.methodLink "EscapeMill$Code" 3 (⟨"java/lang/Object", "<init>", "()V"⟩ : MethodName)), (Cond.fieldLink "EscapeMill$Code" 9 "EscapeMill$Code" "ops" "[I"), (Cond.fieldLink "EscapeMill$Plan" 62 "EscapeMill$Code" "ops" "[I"), (Cond.fieldLink "EscapeMill$Facts" 56 "EscapeMill$Code" "ops" "[I"), (Cond.fieldLink "EscapeMill$Machine" 93 "EscapeMill$Code" "ops" "[I"), (Cond.fieldLink "EscapeMill" 98 "EscapeMill$Code" "ops" "[I"), (Cond.fieldLink "EscapeMill$Code" 15 "EscapeMill$Code" "xs" "[I"), (Cond.fieldLink "EscapeMill$Machine" 96 "EscapeMill$Code" "xs" "[I"), (Cond.fieldLink "EscapeMill$Facts" 85 "EscapeMill$Code" "xs" "[I"), (Cond.fieldLink "EscapeMill$Plan" 75 "EscapeMill$Code" "xs" "[I"), (Cond.fieldLink "EscapeMill$Code" 18 "EscapeMill$Code" "ys" "[I"), (Cond.fieldLink "EscapeMill$Machine" 99 "EscapeMill$Code" "ys" "[I"), (Cond.fieldLink "EscapeMill$Facts" 88 "EscapeMill$Code" "ys" "[I"), (Cond.fieldLink "EscapeMill$Code" 21 "EscapeMill$Code" "zs" "[I"), (Cond.fieldLink "EscapeMill$Machine" 102 "EscapeMill$Code" "zs" "[I"), (Cond.fieldLink "EscapeMill$Facts" 91 "EscapeMill$Code" "zs" "[I"), (Cond.fieldLink "EscapeMill$Code" 24 "EscapeMill$Code" "ns" "[I"), (Cond.fieldLink "EscapeMill$Plan" 65 "EscapeMill$Code" "ns" "[I"), (Cond.fieldLink "EscapeMill$Machine" 121 "EscapeMill$Code" "ns" "[I"), (Cond.fieldLink "EscapeMill$Facts" 102 "EscapeMill$Code" "ns" "[I"), (Cond.fieldLink "EscapeMill$Code" 27 "EscapeMill$Code" "size" "I"), (Cond.fieldLink "EscapeMill$Plan" 55 "EscapeMill$Code" "size" "I"), (Cond.fieldLink "EscapeMill$Facts" 44 "EscapeMill$Code" "size" "I"), (Cond.fieldLink "EscapeMill" 56 "EscapeMill$Code" "size" "I"), (Cond.fieldLink "EscapeMill$Machine" 144 "EscapeMill$Code" "size" "I"), (Cond.fieldLink "EscapeMill$Code" 31 "EscapeMill$Code" "inputs" "I"), (Cond.fieldLink "EscapeMill$Plan" 21 "EscapeMill$Code" "inputs" "I")]
def wA_2 : List Cond := [(Cond.fieldLink "EscapeMill" 48 "EscapeMill$Code" "inputs" "I"), (Cond.fieldLink "EscapeMill$Facts" 49 "EscapeMill$Code" "inputs" "I"), (Cond.fieldLink "EscapeMill$Machine" 147 "EscapeMill$Code" "inputs" "I"), (Cond.laysFinal "EscapeMill$Code" "EscapeMill$Code" "ops" "[I"), (Cond.laysFinal "EscapeMill$Code" "EscapeMill$Code" "xs" "[I"), (Cond.laysFinal "EscapeMill$Code" "EscapeMill$Code" "ys" "[I"), (Cond.laysFinal "EscapeMill$Code" "EscapeMill$Code" "zs" "[I"), (Cond.laysFinal "EscapeMill$Code" "EscapeMill$Code" "ns" "[I"), (Cond.lays "EscapeMill$Code" "EscapeMill$Code" "size" "I"), (Cond.lays "EscapeMill$Code" "EscapeMill$Code" "inputs" "I"), (Cond.instanceMethod y_F_init), (Cond.code y_F_init b_F_init 1 none), (Cond.methodLink "EscapeMill$Facts" 3 (⟨"java/lang/Object", "<init>", "()V"⟩ : MethodName)), (Cond.fieldLink "EscapeMill$Facts" 9 "EscapeMill$Facts" "mayBe" "[I"), (Cond.fieldLink "EscapeMill" 111 "EscapeMill$Facts" "mayBe" "[I"), (Cond.fieldLink "EscapeMill$Facts" 17 "EscapeMill$Facts" "held" "[[I"), (Cond.fieldLink "EscapeMill$Facts" 20 "EscapeMill$Facts" "states" "[I"), (Cond.fieldLink "EscapeMill" 105 "EscapeMill$Facts" "states" "[I"), (Cond.fieldLink "EscapeMill$Facts" 23 "EscapeMill$Facts" "mixed" "[Z"), (Cond.fieldLink "EscapeMill$Facts" 27 "EscapeMill$Facts" "given" "I"), (Cond.fieldLink "EscapeMill$Facts" 31 "EscapeMill$Facts" "fromWorld" "I"), (Cond.fieldLink "EscapeMill$Facts" 34 "EscapeMill$Facts" "fromCaller" "I"), (Cond.fieldLink "EscapeMill$Facts" 37 "EscapeMill$Facts" "grown" "Z"), (Cond.laysFinal "EscapeMill$Facts" "EscapeMill$Facts" "mayBe" "[I"), (Cond.laysFinal "EscapeMill$Facts" "EscapeMill$Facts" "held" "[[I"), (Cond.laysFinal "EscapeMill$Facts" "EscapeMill$Facts" "states" "[I"), (Cond.laysFinal "EscapeMill$Facts" "EscapeMill$Facts" "mixed" "[Z"), (Cond.lays "EscapeMill$Facts" "EscapeMill$Facts" "given" "I"), (Cond.lays "EscapeMill$Facts" "EscapeMill$Facts" "fromWorld" "I"), (Cond.lays "EscapeMill$Facts" "EscapeMill$Facts" "fromCaller" "I"), (Cond.lays "EscapeMill$Facts" "EscapeMill$Facts" "grown" "Z"), (Cond.instanceMethod y_P_init), (Cond.code y_P_init b_P_init 1 none), (Cond.methodLink "EscapeMill$Plan" 3 (⟨"java/lang/Object", "<init>", "()V"⟩ : MethodName)), (Cond.fieldLink "EscapeMill$Plan" 9 "EscapeMill$Plan" "fates" "[I"), (Cond.fieldLink "EscapeMill$Machine" 74 "EscapeMill$Plan" "fates" "[I"), (Cond.fieldLink "EscapeMill" 108 "EscapeMill$Plan" "fates" "[I"), (Cond.laysFinal "EscapeMill$Plan" "EscapeMill$Plan" "fates" "[I"), (Cond.fieldLink "EscapeMill" 11 "EscapeMill" "codes" "[LEscapeMill$Code;"), (Cond.fieldLink "EscapeMill" 17 "EscapeMill" "facts" "[LEscapeMill$Facts;")]
def wA_3 : List Cond := [(Cond.fieldLink "EscapeMill" 23 "EscapeMill" "plans" "[LEscapeMill$Plan;"), (Cond.fieldLink "EscapeMill" 30 "EscapeMill" "machine" "LEscapeMill$Machine;"), (Cond.fieldLink "EscapeMill" 34 "EscapeMill" "stale" "Z"), (Cond.laysFinal "EscapeMill" "EscapeMill" "codes" "[LEscapeMill$Code;"), (Cond.laysFinal "EscapeMill" "EscapeMill" "facts" "[LEscapeMill$Facts;"), (Cond.laysFinal "EscapeMill" "EscapeMill" "plans" "[LEscapeMill$Plan;"), (Cond.laysFinal "EscapeMill" "EscapeMill" "machine" "LEscapeMill$Machine;"), (Cond.lays "EscapeMill" "EscapeMill" "stale" "Z"), (Cond.instanceMethod y_E_run), (Cond.selects "EscapeMill" y_E_run y_E_run), (Cond.code y_E_run b_E_run 2 (some FieldType.int)), (Cond.methodLink "EscapeMill" 66 y_E_settle), (Cond.instanceMethod y_E_settle), (Cond.code y_E_settle b_E_settle 2 none), (Cond.methodLink "EscapeMill" 117 y_F_gather), (Cond.instanceMethod y_F_gather), (Cond.selects "EscapeMill$Facts" y_F_gather y_F_gather), (Cond.code y_F_gather b_F_gather 7 none), (Cond.methodLink "EscapeMill$Facts" 41 y_F_forget), (Cond.instanceMethod y_F_forget), (Cond.code y_F_forget b_F_forget 2 none), (Cond.methodLink "EscapeMill$Facts" 70 y_A_fill), (Cond.static y_A_fill), (Cond.code y_A_fill b_A_fill 4 none), (Cond.methodLink "EscapeMill$Facts" 52 y_F_begin), (Cond.instanceMethod y_F_begin), (Cond.code y_F_begin b_F_begin 3 none), (Cond.constant "EscapeMill$Facts" 76 (16777216 : Int32)), (Cond.methodLink "EscapeMill$Facts" 77 y_F_refer), (Cond.instanceMethod y_F_refer), (Cond.code y_F_refer b_F_refer 3 none), (Cond.methodLink "EscapeMill$Facts" 81 y_F_holdInBoth), (Cond.instanceMethod y_F_holdInBoth), (Cond.code y_F_holdInBoth b_F_holdInBoth 3 none), (Cond.methodLink "EscapeMill$Facts" 110 y_F_holdIn), (Cond.instanceMethod y_F_holdIn), (Cond.code y_F_holdIn b_F_holdIn 6 none), (Cond.constant "EscapeMill$Facts" 84 (67108864 : Int32)), (Cond.methodLink "EscapeMill$Facts" 59 y_F_applyCall), (Cond.instanceMethod y_F_applyCall)]
def wA_4 : List Cond := [(Cond.code y_F_applyCall b_F_applyCall 17 none), (Cond.methodLink "EscapeMill$Facts" 105 y_F_reached), (Cond.instanceMethod y_F_reached), (Cond.code y_F_reached b_F_reached 5 (some FieldType.int)), (Cond.methodLink "EscapeMill$Facts" 94 y_F_heldBy), (Cond.instanceMethod y_F_heldBy), (Cond.code y_F_heldBy b_F_heldBy 6 (some FieldType.int)), (Cond.methodLink "EscapeMill$Facts" 63 y_F_apply), (Cond.instanceMethod y_F_apply), (Cond.code y_F_apply b_F_apply 6 none), (Cond.methodLink "EscapeMill$Facts" 98 y_F_hold), (Cond.instanceMethod y_F_hold), (Cond.code y_F_hold b_F_hold 5 none), (Cond.constant "EscapeMill$Facts" 109 (16777215 : Int32)), (Cond.methodLink "EscapeMill$Facts" 67 y_F_sumUp), (Cond.instanceMethod y_F_sumUp), (Cond.code y_F_sumUp b_F_sumUp 6 none), (Cond.methodLink "EscapeMill" 121 y_P_draw), (Cond.instanceMethod y_P_draw), (Cond.selects "EscapeMill$Plan" y_P_draw y_P_draw), (Cond.code y_P_draw b_P_draw 8 none), (Cond.methodLink "EscapeMill$Plan" 15 y_A_fill), (Cond.methodLink "EscapeMill$Plan" 27 y_P_soleNew), (Cond.static y_P_soleNew), (Cond.code y_P_soleNew b_P_soleNew 4 (some FieldType.int)), (Cond.methodLink "EscapeMill$Plan" 58 y_C_defines), (Cond.instanceMethod y_C_defines), (Cond.selects "EscapeMill$Code" y_C_defines y_C_defines), (Cond.code y_C_defines b_C_defines 3 (some FieldType.boolean)), (Cond.methodLink "EscapeMill$Plan" 31 y_C_reachedWithout), (Cond.instanceMethod y_C_reachedWithout), (Cond.selects "EscapeMill$Code" y_C_reachedWithout y_C_reachedWithout), (Cond.code y_C_reachedWithout b_C_reachedWithout 6 (some FieldType.int)), (Cond.methodLink "EscapeMill$Code" 34 y_C_bit), (Cond.instanceMethod y_C_bit), (Cond.code y_C_bit b_C_bit 2 (some FieldType.int)), (Cond.methodLink "EscapeMill$Code" 45 y_C_has), (Cond.instanceMethod y_C_has), (Cond.selects "EscapeMill$Code" y_C_has y_C_has), (Cond.code y_C_has b_C_has 2 (some FieldType.boolean))]
def wA_5 : List Cond := [(Cond.methodLink "EscapeMill$Code" 38 y_C_behind), (Cond.instanceMethod y_C_behind), (Cond.code y_C_behind b_C_behind 4 (some FieldType.int)), (Cond.methodLink "EscapeMill$Code" 41 y_C_jumps), (Cond.instanceMethod y_C_jumps), (Cond.selects "EscapeMill$Code" y_C_jumps y_C_jumps), (Cond.code y_C_jumps b_C_jumps 2 (some FieldType.boolean)), (Cond.methodLink "EscapeMill$Plan" 35 y_P_staysInside), (Cond.static y_P_staysInside), (Cond.code y_P_staysInside b_P_staysInside 6 (some FieldType.boolean)), (Cond.methodLink "EscapeMill$Plan" 68 y_C_handsOn), (Cond.instanceMethod y_C_handsOn), (Cond.selects "EscapeMill$Code" y_C_handsOn y_C_handsOn), (Cond.code y_C_handsOn b_C_handsOn 4 (some FieldType.boolean)), (Cond.methodLink "EscapeMill$Plan" 39 y_P_isMadeFirst), (Cond.static y_P_isMadeFirst), (Cond.code y_P_isMadeFirst b_P_isMadeFirst 4 (some FieldType.boolean)), (Cond.methodLink "EscapeMill$Plan" 72 y_C_worksOn), (Cond.instanceMethod y_C_worksOn), (Cond.selects "EscapeMill$Code" y_C_worksOn y_C_worksOn), (Cond.code y_C_worksOn b_C_worksOn 3 (some FieldType.boolean)), (Cond.methodLink "EscapeMill$Plan" 43 y_P_takeApart), (Cond.instanceMethod y_P_takeApart), (Cond.code y_P_takeApart b_P_takeApart 5 none), (Cond.methodLink "EscapeMill$Plan" 47 y_F_escapeOf), (Cond.instanceMethod y_F_escapeOf), (Cond.selects "EscapeMill$Facts" y_F_escapeOf y_F_escapeOf), (Cond.code y_F_escapeOf b_F_escapeOf 2 (some FieldType.int)), (Cond.methodLink "EscapeMill$Plan" 52 y_P_pairLocks), (Cond.instanceMethod y_P_pairLocks), (Cond.code y_P_pairLocks b_P_pairLocks 6 none), (Cond.methodLink "EscapeMill$Plan" 78 y_P_partner), (Cond.static y_P_partner), (Cond.code y_P_partner b_P_partner 3 (some FieldType.int)), (Cond.methodLink "EscapeMill$Plan" 81 y_P_isJumpedInto), (Cond.static y_P_isJumpedInto), (Cond.code y_P_isJumpedInto b_P_isJumpedInto 4 (some FieldType.boolean)), (Cond.methodLink "EscapeMill$Plan" 88 y_C_jumps), (Cond.methodLink "EscapeMill$Plan" 84 y_P_endsPairing), (Cond.static y_P_endsPairing)]
def wA_6 : List Cond := [(Cond.code y_P_endsPairing b_P_endsPairing 1 (some FieldType.boolean)), (Cond.methodLink "EscapeMill" 69 y_M_go), (Cond.instanceMethod y_M_go), (Cond.selects "EscapeMill$Machine" y_M_go y_M_go), (Cond.code y_M_go b_M_go 8 (some FieldType.int)), (Cond.methodLink "EscapeMill$Machine" 61 y_M_begin), (Cond.instanceMethod y_M_begin), (Cond.code y_M_begin b_M_begin 1 none), (Cond.methodLink "EscapeMill$Machine" 83 y_A_fill), (Cond.methodLink "EscapeMill$Machine" 89 y_M_enter), (Cond.instanceMethod y_M_enter), (Cond.code y_M_enter b_M_enter 7 none), (Cond.methodLink "EscapeMill$Machine" 124 y_M_base), (Cond.instanceMethod y_M_base), (Cond.code y_M_base b_M_base 1 (some FieldType.int)), (Cond.methodLink "EscapeMill$Machine" 64 y_C_has), (Cond.methodLink "EscapeMill$Machine" 70 y_M_leave), (Cond.instanceMethod y_M_leave), (Cond.code y_M_leave b_M_leave 2 none), (Cond.methodLink "EscapeMill$Machine" 79 y_M_perform), (Cond.instanceMethod y_M_perform), (Cond.code y_M_perform b_M_perform 8 none), (Cond.methodLink "EscapeMill$Machine" 105 y_M_cellOf), (Cond.instanceMethod y_M_cellOf), (Cond.code y_M_cellOf b_M_cellOf 2 (some FieldType.int)), (Cond.methodLink "EscapeMill$Machine" 109 y_M_workOnField), (Cond.instanceMethod y_M_workOnField), (Cond.code y_M_workOnField b_M_workOnField 8 none), (Cond.methodLink "EscapeMill$Machine" 113 y_M_changeCount), (Cond.instanceMethod y_M_changeCount), (Cond.code y_M_changeCount b_M_changeCount 3 none), (Cond.methodLink "EscapeMill$Machine" 117 y_M_call), (Cond.instanceMethod y_M_call), (Cond.code y_M_call b_M_call 9 none), (Cond.methodLink "EscapeMill$Machine" 128 y_M_newParts), (Cond.instanceMethod y_M_newParts), (Cond.code y_M_newParts b_M_newParts 2 (some FieldType.int)), (Cond.methodLink "EscapeMill$Machine" 141 y_M_emptied), (Cond.instanceMethod y_M_emptied), (Cond.code y_M_emptied b_M_emptied 3 (some FieldType.int))]
def wA_7 : List Cond := [(Cond.methodLink "EscapeMill$Machine" 131 y_M_newObject), (Cond.instanceMethod y_M_newObject), (Cond.code y_M_newObject b_M_newObject 1 (some FieldType.int)), (Cond.methodLink "EscapeMill$Machine" 134 y_M_move), (Cond.instanceMethod y_M_move), (Cond.code y_M_move b_M_move 7 none), (Cond.methodLink "EscapeMill$Machine" 138 y_M_show), (Cond.instanceMethod y_M_show), (Cond.code y_M_show b_M_show 2 none), (Cond.instanceMethod y_E_latest), (Cond.selects "EscapeMill" y_E_latest y_E_latest), (Cond.code y_E_latest b_E_latest 2 (some FieldType.int)), (Cond.instanceMethod y_E_escape), (Cond.selects "EscapeMill" y_E_escape y_E_escape), (Cond.code y_E_escape b_E_escape 3 (some FieldType.int)), (Cond.methodLink "EscapeMill" 41 y_E_isMethod), (Cond.static y_E_isMethod), (Cond.code y_E_isMethod b_E_isMethod 1 (some FieldType.boolean)), (Cond.methodLink "EscapeMill" 95 y_C_has), (Cond.methodLink "EscapeMill" 101 y_F_escapeOf), (Cond.instanceMethod y_E_summary), (Cond.selects "EscapeMill" y_E_summary y_E_summary), (Cond.code y_E_summary b_E_summary 3 (some FieldType.int)), (Cond.instanceMethod y_E_fate), (Cond.selects "EscapeMill" y_E_fate y_E_fate), (Cond.code y_E_fate b_E_fate 3 (some FieldType.int)), (Cond.instanceMethod y_E_may), (Cond.selects "EscapeMill" y_E_may y_E_may), (Cond.code y_E_may b_E_may 3 (some FieldType.int)), (Cond.instanceMethod y_E_length), (Cond.selects "EscapeMill" y_E_length y_E_length), (Cond.code y_E_length b_E_length 2 (some FieldType.int)), (Cond.instanceMethod y_E_parameters), (Cond.selects "EscapeMill" y_E_parameters y_E_parameters), (Cond.code y_E_parameters b_E_parameters 3 (some FieldType.boolean)), (Cond.methodLink "EscapeMill" 47 (⟨"java/lang/IllegalArgumentException", "<init>", "()V"⟩ : MethodName)), (Cond.instanceMethod y_E_put), (Cond.selects "EscapeMill" y_E_put y_E_put), (Cond.code y_E_put b_E_put 7 (some FieldType.int)), (Cond.methodLink "EscapeMill" 52 y_E_isInstruction)]
def wA_8 : List Cond := [(Cond.static y_E_isInstruction), (Cond.code y_E_isInstruction b_E_isInstruction 6 (some FieldType.boolean)), (Cond.methodLink "EscapeMill" 114 y_E_isVariable), (Cond.static y_E_isVariable), (Cond.code y_E_isVariable b_E_isVariable 1 (some FieldType.boolean)), (Cond.methodLink "EscapeMill" 61 (⟨"java/lang/IllegalStateException", "<init>", "()V"⟩ : MethodName)), (Cond.methodLink "EscapeMill" 62 y_C_append), (Cond.instanceMethod y_C_append), (Cond.selects "EscapeMill$Code" y_C_append y_C_append), (Cond.code y_C_append b_C_append 7 (some FieldType.int)), (Cond.instanceMethod y_E_clear), (Cond.selects "EscapeMill" y_E_clear y_E_clear), (Cond.code y_E_clear b_E_clear 3 (some FieldType.int)), (Cond.instanceMethod y_E_shown), (Cond.selects "EscapeMill" y_E_shown y_E_shown), (Cond.code y_E_shown b_E_shown 2 (some FieldType.int)), (Cond.methodLink "EscapeMill" 78 (⟨"java/lang/IndexOutOfBoundsException", "<init>", "()V"⟩ : MethodName)), (Cond.instanceMethod y_R_init), (Cond.code y_R_init b_R_init 1 none), (Cond.methodLink "EscapeMillModel" 1 (⟨"java/lang/Object", "<init>", "()V"⟩ : MethodName)), (Cond.fieldLink "EscapeMillModel" 77 "EscapeMillModel" "threw" "I"), (Cond.fieldLink "EscapeMillModel" 7 "EscapeMillModel" "params" "[I"), (Cond.fieldLink "EscapeMillModel" 13 "EscapeMillModel" "lengths" "[I"), (Cond.fieldLink "EscapeMillModel" 16 "EscapeMillModel" "op" "[I"), (Cond.fieldLink "EscapeMillModel" 19 "EscapeMillModel" "xs" "[I"), (Cond.fieldLink "EscapeMillModel" 22 "EscapeMillModel" "ys" "[I"), (Cond.fieldLink "EscapeMillModel" 25 "EscapeMillModel" "zs" "[I"), (Cond.fieldLink "EscapeMillModel" 28 "EscapeMillModel" "ns" "[I"), (Cond.fieldLink "EscapeMillModel" 85 "EscapeMillModel" "known" "Z"), (Cond.fieldLink "EscapeMillModel" 31 "EscapeMillModel" "may" "[I"), (Cond.fieldLink "EscapeMillModel" 34 "EscapeMillModel" "hold" "[I"), (Cond.fieldLink "EscapeMillModel" 37 "EscapeMillModel" "given" "[I"), (Cond.fieldLink "EscapeMillModel" 40 "EscapeMillModel" "summary" "[I"), (Cond.fieldLink "EscapeMillModel" 43 "EscapeMillModel" "open" "[Z"), (Cond.fieldLink "EscapeMillModel" 157 "EscapeMillModel" "running" "I"), (Cond.fieldLink "EscapeMillModel" 47 "EscapeMillModel" "method" "[I"), (Cond.fieldLink "EscapeMillModel" 50 "EscapeMillModel" "place" "[I"), (Cond.fieldLink "EscapeMillModel" 53 "EscapeMillModel" "goal" "[I"), (Cond.fieldLink "EscapeMillModel" 56 "EscapeMillModel" "refs" "[I"), (Cond.fieldLink "EscapeMillModel" 59 "EscapeMillModel" "ints" "[I")]
def wA_9 : List Cond := [(Cond.fieldLink "EscapeMillModel" 62 "EscapeMillModel" "parts" "[I"), (Cond.fieldLink "EscapeMillModel" 65 "EscapeMillModel" "objects" "[I"), (Cond.fieldLink "EscapeMillModel" 170 "EscapeMillModel" "made" "I"), (Cond.fieldLink "EscapeMillModel" 68 "EscapeMillModel" "globals" "[I"), (Cond.fieldLink "EscapeMillModel" 160 "EscapeMillModel" "failure" "I"), (Cond.fieldLink "EscapeMillModel" 179 "EscapeMillModel" "shows" "I"), (Cond.fieldLink "EscapeMillModel" 201 "EscapeMillModel" "done" "I"), (Cond.fieldLink "EscapeMillModel" 167 "EscapeMillModel" "locks" "I"), (Cond.fieldLink "EscapeMillModel" 71 "EscapeMillModel" "shown" "[I"), (Cond.fieldLink "EscapeMillModel" 74 "EscapeMillModel" "fates" "[I"), (Cond.lays "EscapeMillModel" "EscapeMillModel" "threw" "I"), (Cond.laysFinal "EscapeMillModel" "EscapeMillModel" "params" "[I"), (Cond.laysFinal "EscapeMillModel" "EscapeMillModel" "lengths" "[I"), (Cond.laysFinal "EscapeMillModel" "EscapeMillModel" "op" "[I"), (Cond.laysFinal "EscapeMillModel" "EscapeMillModel" "xs" "[I"), (Cond.laysFinal "EscapeMillModel" "EscapeMillModel" "ys" "[I"), (Cond.laysFinal "EscapeMillModel" "EscapeMillModel" "zs" "[I"), (Cond.laysFinal "EscapeMillModel" "EscapeMillModel" "ns" "[I"), (Cond.lays "EscapeMillModel" "EscapeMillModel" "known" "Z"), (Cond.laysFinal "EscapeMillModel" "EscapeMillModel" "may" "[I"), (Cond.laysFinal "EscapeMillModel" "EscapeMillModel" "hold" "[I"), (Cond.laysFinal "EscapeMillModel" "EscapeMillModel" "given" "[I"), (Cond.laysFinal "EscapeMillModel" "EscapeMillModel" "summary" "[I"), (Cond.laysFinal "EscapeMillModel" "EscapeMillModel" "open" "[Z"), (Cond.lays "EscapeMillModel" "EscapeMillModel" "running" "I"), (Cond.laysFinal "EscapeMillModel" "EscapeMillModel" "method" "[I"), (Cond.laysFinal "EscapeMillModel" "EscapeMillModel" "place" "[I"), (Cond.laysFinal "EscapeMillModel" "EscapeMillModel" "goal" "[I"), (Cond.laysFinal "EscapeMillModel" "EscapeMillModel" "refs" "[I"), (Cond.laysFinal "EscapeMillModel" "EscapeMillModel" "ints" "[I"), (Cond.laysFinal "EscapeMillModel" "EscapeMillModel" "parts" "[I"), (Cond.laysFinal "EscapeMillModel" "EscapeMillModel" "objects" "[I"), (Cond.lays "EscapeMillModel" "EscapeMillModel" "made" "I"), (Cond.laysFinal "EscapeMillModel" "EscapeMillModel" "globals" "[I"), (Cond.lays "EscapeMillModel" "EscapeMillModel" "failure" "I"), (Cond.lays "EscapeMillModel" "EscapeMillModel" "shows" "I"), (Cond.lays "EscapeMillModel" "EscapeMillModel" "done" "I"), (Cond.lays "EscapeMillModel" "EscapeMillModel" "locks" "I"), (Cond.laysFinal "EscapeMillModel" "EscapeMillModel" "shown" "[I"), (Cond.laysFinal "EscapeMillModel" "EscapeMillModel" "fates" "[I")]
def wA_10 : List Cond := [(Cond.instanceMethod y_R_thrown), (Cond.selects "EscapeMillModel" y_R_thrown y_R_thrown), (Cond.code y_R_thrown b_R_thrown 1 (some FieldType.int)), (Cond.instanceMethod y_R_parameters), (Cond.selects "EscapeMillModel" y_R_parameters y_R_parameters), (Cond.code y_R_parameters b_R_parameters 3 (some FieldType.boolean)), (Cond.methodLink "EscapeMillModel" 81 y_R_isMethod), (Cond.static y_R_isMethod), (Cond.code y_R_isMethod b_R_isMethod 1 (some FieldType.boolean)), (Cond.instanceMethod y_R_put), (Cond.selects "EscapeMillModel" y_R_put y_R_put), (Cond.code y_R_put b_R_put 9 (some FieldType.int)), (Cond.methodLink "EscapeMillModel" 89 y_R_four), (Cond.static y_R_four), (Cond.code y_R_four b_R_four 1 (some FieldType.boolean)), (Cond.instanceMethod y_R_clear), (Cond.selects "EscapeMillModel" y_R_clear y_R_clear), (Cond.code y_R_clear b_R_clear 3 (some FieldType.int)), (Cond.instanceMethod y_R_run), (Cond.selects "EscapeMillModel" y_R_run y_R_run), (Cond.code y_R_run b_R_run 5 (some FieldType.int)), (Cond.methodLink "EscapeMillModel" 195 y_R_know), (Cond.instanceMethod y_R_know), (Cond.code y_R_know b_R_know 2 none), (Cond.methodLink "EscapeMillModel" 121 y_R_analyse), (Cond.instanceMethod y_R_analyse), (Cond.code y_R_analyse b_R_analyse 8 none), (Cond.constant "EscapeMillModel" 92 (67108864 : Int32)), (Cond.methodLink "EscapeMillModel" 97 y_R_holds), (Cond.instanceMethod y_R_holds), (Cond.code y_R_holds b_R_holds 8 none), (Cond.methodLink "EscapeMillModel" 114 y_R_weight), (Cond.instanceMethod y_R_weight), (Cond.code y_R_weight b_R_weight 5 (some FieldType.int)), (Cond.methodLink "EscapeMillModel" 118 y_R_adds), (Cond.instanceMethod y_R_adds), (Cond.code y_R_adds b_R_adds 6 none), (Cond.methodLink "EscapeMillModel" 101 y_R_held), (Cond.instanceMethod y_R_held), (Cond.code y_R_held b_R_held 6 (some FieldType.int))]
def wA_11 : List Cond := [(Cond.methodLink "EscapeMillModel" 108 y_R_calls), (Cond.instanceMethod y_R_calls), (Cond.code y_R_calls b_R_calls 11 none), (Cond.methodLink "EscapeMillModel" 93 y_R_reached), (Cond.instanceMethod y_R_reached), (Cond.code y_R_reached b_R_reached 6 (some FieldType.int)), (Cond.methodLink "EscapeMillModel" 105 y_R_stateOf), (Cond.instanceMethod y_R_stateOf), (Cond.code y_R_stateOf b_R_stateOf 4 (some FieldType.int)), (Cond.methodLink "EscapeMillModel" 198 y_R_fateOf), (Cond.instanceMethod y_R_fateOf), (Cond.code y_R_fateOf b_R_fateOf 6 (some FieldType.int)), (Cond.methodLink "EscapeMillModel" 138 y_R_worksOn), (Cond.instanceMethod y_R_worksOn), (Cond.code y_R_worksOn b_R_worksOn 8 (some FieldType.boolean)), (Cond.methodLink "EscapeMillModel" 148 y_R_apart), (Cond.instanceMethod y_R_apart), (Cond.code y_R_apart b_R_apart 8 (some FieldType.boolean)), (Cond.methodLink "EscapeMillModel" 135 y_R_onlyNew), (Cond.instanceMethod y_R_onlyNew), (Cond.code y_R_onlyNew b_R_onlyNew 7 (some FieldType.int)), (Cond.methodLink "EscapeMillModel" 132 y_R_defines), (Cond.static y_R_defines), (Cond.code y_R_defines b_R_defines 1 (some FieldType.boolean)), (Cond.methodLink "EscapeMillModel" 142 y_R_gives), (Cond.instanceMethod y_R_gives), (Cond.code y_R_gives b_R_gives 9 (some FieldType.boolean)), (Cond.methodLink "EscapeMillModel" 145 y_R_dominates), (Cond.instanceMethod y_R_dominates), (Cond.code y_R_dominates b_R_dominates 9 (some FieldType.boolean)), (Cond.methodLink "EscapeMillModel" 128 y_R_isInstruction), (Cond.instanceMethod y_R_isInstruction), (Cond.code y_R_isInstruction b_R_isInstruction 3 (some FieldType.boolean)), (Cond.methodLink "EscapeMillModel" 154 y_R_pair), (Cond.instanceMethod y_R_pair), (Cond.code y_R_pair b_R_pair 12 (some FieldType.boolean)), (Cond.methodLink "EscapeMillModel" 151 y_R_escapeOf), (Cond.instanceMethod y_R_escapeOf), (Cond.code y_R_escapeOf b_R_escapeOf 5 (some FieldType.int)), (Cond.methodLink "EscapeMillModel" 125 y_R_argsOf)]
def wA_12 : List Cond := [(Cond.instanceMethod y_R_argsOf), (Cond.code y_R_argsOf b_R_argsOf 2 (some FieldType.int)), (Cond.constant "EscapeMillModel" 112 (16777216 : Int32)), (Cond.constant "EscapeMillModel" 113 (50331648 : Int32)), (Cond.methodLink "EscapeMillModel" 173 y_R_enter), (Cond.instanceMethod y_R_enter), (Cond.code y_R_enter b_R_enter 7 none), (Cond.methodLink "EscapeMillModel" 176 y_R_leave), (Cond.instanceMethod y_R_leave), (Cond.code y_R_leave b_R_leave 2 none), (Cond.methodLink "EscapeMillModel" 204 y_R_does), (Cond.instanceMethod y_R_does), (Cond.code y_R_does b_R_does 6 none), (Cond.methodLink "EscapeMillModel" 182 y_R_makes), (Cond.instanceMethod y_R_makes), (Cond.code y_R_makes b_R_makes 5 none), (Cond.methodLink "EscapeMillModel" 186 y_R_fields), (Cond.instanceMethod y_R_fields), (Cond.code y_R_fields b_R_fields 10 none), (Cond.methodLink "EscapeMillModel" 163 y_R_set), (Cond.instanceMethod y_R_set), (Cond.code y_R_set b_R_set 4 none), (Cond.methodLink "EscapeMillModel" 189 y_R_call), (Cond.instanceMethod y_R_call), (Cond.code y_R_call b_R_call 4 none), (Cond.methodLink "EscapeMillModel" 192 y_R_moves), (Cond.instanceMethod y_R_moves), (Cond.code y_R_moves b_R_moves 5 none), (Cond.instanceMethod y_R_shown), (Cond.selects "EscapeMillModel" y_R_shown y_R_shown), (Cond.code y_R_shown b_R_shown 2 (some FieldType.int)), (Cond.instanceMethod y_R_latest), (Cond.selects "EscapeMillModel" y_R_latest y_R_latest), (Cond.code y_R_latest b_R_latest 2 (some FieldType.int)), (Cond.instanceMethod y_R_escape), (Cond.selects "EscapeMillModel" y_R_escape y_R_escape), (Cond.code y_R_escape b_R_escape 3 (some FieldType.int)), (Cond.instanceMethod y_R_summary), (Cond.selects "EscapeMillModel" y_R_summary y_R_summary), (Cond.code y_R_summary b_R_summary 3 (some FieldType.int))]
def wA_13 : List Cond := [(Cond.instanceMethod y_R_fate), (Cond.selects "EscapeMillModel" y_R_fate y_R_fate), (Cond.code y_R_fate b_R_fate 3 (some FieldType.int)), (Cond.instanceMethod y_R_may), (Cond.selects "EscapeMillModel" y_R_may y_R_may), (Cond.code y_R_may b_R_may 3 (some FieldType.int)), (Cond.instanceMethod y_R_length), (Cond.selects "EscapeMillModel" y_R_length y_R_length), (Cond.code y_R_length b_R_length 2 (some FieldType.int)), (Cond.selects y_E_settle.cls y_E_settle y_E_settle), (Cond.selects y_F_forget.cls y_F_forget y_F_forget), (Cond.selects y_F_begin.cls y_F_begin y_F_begin), (Cond.selects y_F_refer.cls y_F_refer y_F_refer), (Cond.selects y_F_holdInBoth.cls y_F_holdInBoth y_F_holdInBoth), (Cond.selects y_F_holdIn.cls y_F_holdIn y_F_holdIn), (Cond.selects y_F_applyCall.cls y_F_applyCall y_F_applyCall), (Cond.selects y_F_reached.cls y_F_reached y_F_reached), (Cond.selects y_F_heldBy.cls y_F_heldBy y_F_heldBy), (Cond.selects y_F_apply.cls y_F_apply y_F_apply), (Cond.selects y_F_hold.cls y_F_hold y_F_hold), (Cond.selects y_F_sumUp.cls y_F_sumUp y_F_sumUp), (Cond.selects y_C_bit.cls y_C_bit y_C_bit), (Cond.selects y_C_behind.cls y_C_behind y_C_behind), (Cond.selects y_P_takeApart.cls y_P_takeApart y_P_takeApart), (Cond.selects y_P_pairLocks.cls y_P_pairLocks y_P_pairLocks), (Cond.selects y_M_begin.cls y_M_begin y_M_begin), (Cond.selects y_M_enter.cls y_M_enter y_M_enter), (Cond.selects y_M_base.cls y_M_base y_M_base), (Cond.selects y_M_leave.cls y_M_leave y_M_leave), (Cond.selects y_M_perform.cls y_M_perform y_M_perform), (Cond.selects y_M_cellOf.cls y_M_cellOf y_M_cellOf), (Cond.selects y_M_workOnField.cls y_M_workOnField y_M_workOnField), (Cond.selects y_M_changeCount.cls y_M_changeCount y_M_changeCount), (Cond.selects y_M_call.cls y_M_call y_M_call), (Cond.selects y_M_newParts.cls y_M_newParts y_M_newParts), (Cond.selects y_M_emptied.cls y_M_emptied y_M_emptied), (Cond.selects y_M_newObject.cls y_M_newObject y_M_newObject), (Cond.selects y_M_move.cls y_M_move y_M_move), (Cond.selects y_M_show.cls y_M_show y_M_show), (Cond.selects y_R_know.cls y_R_know y_R_know)]
def wA_14 : List Cond := [(Cond.selects y_R_analyse.cls y_R_analyse y_R_analyse), (Cond.selects y_R_holds.cls y_R_holds y_R_holds), (Cond.selects y_R_weight.cls y_R_weight y_R_weight), (Cond.selects y_R_adds.cls y_R_adds y_R_adds), (Cond.selects y_R_held.cls y_R_held y_R_held), (Cond.selects y_R_calls.cls y_R_calls y_R_calls), (Cond.selects y_R_reached.cls y_R_reached y_R_reached), (Cond.selects y_R_stateOf.cls y_R_stateOf y_R_stateOf), (Cond.selects y_R_fateOf.cls y_R_fateOf y_R_fateOf), (Cond.selects y_R_worksOn.cls y_R_worksOn y_R_worksOn), (Cond.selects y_R_apart.cls y_R_apart y_R_apart), (Cond.selects y_R_onlyNew.cls y_R_onlyNew y_R_onlyNew), (Cond.selects y_R_gives.cls y_R_gives y_R_gives), (Cond.selects y_R_dominates.cls y_R_dominates y_R_dominates), (Cond.selects y_R_isInstruction.cls y_R_isInstruction y_R_isInstruction), (Cond.selects y_R_pair.cls y_R_pair y_R_pair), (Cond.selects y_R_escapeOf.cls y_R_escapeOf y_R_escapeOf), (Cond.selects y_R_argsOf.cls y_R_argsOf y_R_argsOf), (Cond.selects y_R_enter.cls y_R_enter y_R_enter), (Cond.selects y_R_leave.cls y_R_leave y_R_leave), (Cond.selects y_R_does.cls y_R_does y_R_does), (Cond.selects y_R_makes.cls y_R_makes y_R_makes), (Cond.selects y_R_fields.cls y_R_fields y_R_fields), (Cond.selects y_R_set.cls y_R_set y_R_set), (Cond.selects y_R_call.cls y_R_call y_R_call), (Cond.selects y_R_moves.cls y_R_moves y_R_moves)]
def wsA : List Cond := wA_0 ++ (wA_1 ++ (wA_2 ++ (wA_3 ++ (wA_4 ++ (wA_5 ++ (wA_6 ++ (wA_7 ++ (wA_8 ++ (wA_9 ++ (wA_10 ++ (wA_11 ++ (wA_12 ++ (wA_13 ++ (wA_14))))))))))))))
theorem iA_0 {w : Cond} (h : w ∈ wA_0) : w ∈ wsA := List.mem_append_left _ h
theorem iA_1 {w : Cond} (h : w ∈ wA_1) : w ∈ wsA := List.mem_append_right _ (List.mem_append_left _ h)
theorem iA_2 {w : Cond} (h : w ∈ wA_2) : w ∈ wsA := List.mem_append_right _ (List.mem_append_right _ (List.mem_append_left _ h))
theorem iA_3 {w : Cond} (h : w ∈ wA_3) : w ∈ wsA := List.mem_append_right _ (List.mem_append_right _ (List.mem_append_right _ (List.mem_append_left _ h)))
theorem iA_4 {w : Cond} (h : w ∈ wA_4) : w ∈ wsA := List.mem_append_right _ (List.mem_append_right _ (List.mem_append_right _ (List.mem_append_right _ (List.mem_append_left _ h))))
theorem iA_5 {w : Cond} (h : w ∈ wA_5) : w ∈ wsA := List.mem_append_right _ (List.mem_append_right _ (List.mem_append_right _ (List.mem_append_right _ (List.mem_append_right _ (List.mem_append_left _ h)))))
theorem iA_6 {w : Cond} (h : w ∈ wA_6) : w ∈ wsA := List.mem_append_right _ (List.mem_append_right _ (List.mem_append_right _ (List.mem_append_right _ (List.mem_append_right _ (List.mem_append_right _ (List.mem_append_left _ h))))))
theorem iA_7 {w : Cond} (h : w ∈ wA_7) : w ∈ wsA := List.mem_append_right _ (List.mem_append_right _ (List.mem_append_right _ (List.mem_append_right _ (List.mem_append_right _ (List.mem_append_right _ (List.mem_append_right _ (List.mem_append_left _ h)))))))
theorem iA_8 {w : Cond} (h : w ∈ wA_8) : w ∈ wsA := List.mem_append_right _ (List.mem_append_right _ (List.mem_append_right _ (List.mem_append_right _ (List.mem_append_right _ (List.mem_append_right _ (List.mem_append_right _ (List.mem_append_right _ (List.mem_append_left _ h))))))))
theorem iA_9 {w : Cond} (h : w ∈ wA_9) : w ∈ wsA := List.mem_append_right _ (List.mem_append_right _ (List.mem_append_right _ (List.mem_append_right _ (List.mem_append_right _ (List.mem_append_right _ (List.mem_append_right _ (List.mem_append_right _ (List.mem_append_right _ (List.mem_append_left _ h)))))))))
theorem iA_10 {w : Cond} (h : w ∈ wA_10) : w ∈ wsA := List.mem_append_right _ (List.mem_append_right _ (List.mem_append_right _ (List.mem_append_right _ (List.mem_append_right _ (List.mem_append_right _ (List.mem_append_right _ (List.mem_append_right _ (List.mem_append_right _ (List.mem_append_right _ (List.mem_append_left _ h))))))))))
theorem iA_11 {w : Cond} (h : w ∈ wA_11) : w ∈ wsA := List.mem_append_right _ (List.mem_append_right _ (List.mem_append_right _ (List.mem_append_right _ (List.mem_append_right _ (List.mem_append_right _ (List.mem_append_right _ (List.mem_append_right _ (List.mem_append_right _ (List.mem_append_right _ (List.mem_append_right _ (List.mem_append_left _ h)))))))))))
theorem iA_12 {w : Cond} (h : w ∈ wA_12) : w ∈ wsA := List.mem_append_right _ (List.mem_append_right _ (List.mem_append_right _ (List.mem_append_right _ (List.mem_append_right _ (List.mem_append_right _ (List.mem_append_right _ (List.mem_append_right _ (List.mem_append_right _ (List.mem_append_right _ (List.mem_append_right _ (List.mem_append_right _ (List.mem_append_left _ h))))))))))))
theorem iA_13 {w : Cond} (h : w ∈ wA_13) : w ∈ wsA := List.mem_append_right _ (List.mem_append_right _ (List.mem_append_right _ (List.mem_append_right _ (List.mem_append_right _ (List.mem_append_right _ (List.mem_append_right _ (List.mem_append_right _ (List.mem_append_right _ (List.mem_append_right _ (List.mem_append_right _ (List.mem_append_right _ (List.mem_append_right _ (List.mem_append_left _ h)))))))))))))
theorem iA_14 {w : Cond} (h : w ∈ wA_14) : w ∈ wsA := List.mem_append_right _ (List.mem_append_right _ (List.mem_append_right _ (List.mem_append_right _ (List.mem_append_right _ (List.mem_append_right _ (List.mem_append_right _ (List.mem_append_right _ (List.mem_append_right _ (List.mem_append_right _ (List.mem_append_right _ (List.mem_append_right _ (List.mem_append_right _ (List.mem_append_right _ (h))))))))))))))
set_option maxRecDepth 20000 in
theorem wsA_good : wsA.all goodWord = true := by decide +kernel
theorem mem_i {l : List Cond} (i : Nat) {w : Cond} (h : l[i]? = some w) : w ∈ l := List.mem_of_getElem? h
theorem usC : ∀ w ∈ u_ws nC tC 7, w ∈ wsA := by
  show ∀ w ∈ [u_lay nC tC 0, u_lay nC tC 1, u_lay nC tC 2, u_lay nC tC 3, u_lay nC tC 4, u_lay nC tC 5, u_lay nC tC 6], w ∈ wsA
  exact List.forall_mem_cons.mpr ⟨(iA_2 (mem_i 3 rfl)), List.forall_mem_cons.mpr ⟨(iA_2 (mem_i 4 rfl)), List.forall_mem_cons.mpr ⟨(iA_2 (mem_i 5 rfl)), List.forall_mem_cons.mpr ⟨(iA_2 (mem_i 6 rfl)), List.forall_mem_cons.mpr ⟨(iA_2 (mem_i 7 rfl)), List.forall_mem_cons.mpr ⟨(iA_2 (mem_i 8 rfl)), List.forall_mem_cons.mpr ⟨(iA_2 (mem_i 9 rfl)), fun _ h => absurd h List.not_mem_nil⟩⟩⟩⟩⟩⟩⟩
theorem usF : ∀ w ∈ u_ws nF tF 8, w ∈ wsA := by
  show ∀ w ∈ [u_lay nF tF 0, u_lay nF tF 1, u_lay nF tF 2, u_lay nF tF 3, u_lay nF tF 4, u_lay nF tF 5, u_lay nF tF 6, u_lay nF tF 7], w ∈ wsA
  exact List.forall_mem_cons.mpr ⟨(iA_2 (mem_i 23 rfl)), List.forall_mem_cons.mpr ⟨(iA_2 (mem_i 24 rfl)), List.forall_mem_cons.mpr ⟨(iA_2 (mem_i 25 rfl)), List.forall_mem_cons.mpr ⟨(iA_2 (mem_i 26 rfl)), List.forall_mem_cons.mpr ⟨(iA_2 (mem_i 27 rfl)), List.forall_mem_cons.mpr ⟨(iA_2 (mem_i 28 rfl)), List.forall_mem_cons.mpr ⟨(iA_2 (mem_i 29 rfl)), List.forall_mem_cons.mpr ⟨(iA_2 (mem_i 30 rfl)), fun _ h => absurd h List.not_mem_nil⟩⟩⟩⟩⟩⟩⟩⟩
theorem usM : ∀ w ∈ u_ws nM tM 16, w ∈ wsA := by
  show ∀ w ∈ [u_lay nM tM 0, u_lay nM tM 1, u_lay nM tM 2, u_lay nM tM 3, u_lay nM tM 4, u_lay nM tM 5, u_lay nM tM 6, u_lay nM tM 7, u_lay nM tM 8, u_lay nM tM 9, u_lay nM tM 10, u_lay nM tM 11, u_lay nM tM 12, u_lay nM tM 13, u_lay nM tM 14, u_lay nM tM 15], w ∈ wsA
  exact List.forall_mem_cons.mpr ⟨(iA_0 (mem_i 35 rfl)), List.forall_mem_cons.mpr ⟨(iA_0 (mem_i 36 rfl)), List.forall_mem_cons.mpr ⟨(iA_0 (mem_i 37 rfl)), List.forall_mem_cons.mpr ⟨(iA_0 (mem_i 38 rfl)), List.forall_mem_cons.mpr ⟨(iA_0 (mem_i 39 rfl)), List.forall_mem_cons.mpr ⟨(iA_1 (mem_i 0 rfl)), List.forall_mem_cons.mpr ⟨(iA_1 (mem_i 1 rfl)), List.forall_mem_cons.mpr ⟨(iA_1 (mem_i 2 rfl)), List.forall_mem_cons.mpr ⟨(iA_1 (mem_i 3 rfl)), List.forall_mem_cons.mpr ⟨(iA_1 (mem_i 4 rfl)), List.forall_mem_cons.mpr ⟨(iA_1 (mem_i 5 rfl)), List.forall_mem_cons.mpr ⟨(iA_1 (mem_i 6 rfl)), List.forall_mem_cons.mpr ⟨(iA_1 (mem_i 7 rfl)), List.forall_mem_cons.mpr ⟨(iA_1 (mem_i 8 rfl)), List.forall_mem_cons.mpr ⟨(iA_1 (mem_i 9 rfl)), List.forall_mem_cons.mpr ⟨(iA_1 (mem_i 10 rfl)), fun _ h => absurd h List.not_mem_nil⟩⟩⟩⟩⟩⟩⟩⟩⟩⟩⟩⟩⟩⟩⟩⟩
theorem usP : ∀ w ∈ u_ws nP tP 1, w ∈ wsA := by
  show ∀ w ∈ [u_lay nP tP 0], w ∈ wsA
  exact List.forall_mem_cons.mpr ⟨(iA_2 (mem_i 37 rfl)), fun _ h => absurd h List.not_mem_nil⟩
theorem usE : ∀ w ∈ u_ws nE tE 5, w ∈ wsA := by
  show ∀ w ∈ [u_lay nE tE 0, u_lay nE tE 1, u_lay nE tE 2, u_lay nE tE 3, u_lay nE tE 4], w ∈ wsA
  exact List.forall_mem_cons.mpr ⟨(iA_3 (mem_i 3 rfl)), List.forall_mem_cons.mpr ⟨(iA_3 (mem_i 4 rfl)), List.forall_mem_cons.mpr ⟨(iA_3 (mem_i 5 rfl)), List.forall_mem_cons.mpr ⟨(iA_3 (mem_i 6 rfl)), List.forall_mem_cons.mpr ⟨(iA_3 (mem_i 7 rfl)), fun _ h => absurd h List.not_mem_nil⟩⟩⟩⟩⟩
theorem usR : ∀ w ∈ u_ws nR tR 30, w ∈ wsA := by
  show ∀ w ∈ [u_lay nR tR 0, u_lay nR tR 1, u_lay nR tR 2, u_lay nR tR 3, u_lay nR tR 4, u_lay nR tR 5, u_lay nR tR 6, u_lay nR tR 7, u_lay nR tR 8, u_lay nR tR 9, u_lay nR tR 10, u_lay nR tR 11, u_lay nR tR 12, u_lay nR tR 13, u_lay nR tR 14, u_lay nR tR 15, u_lay nR tR 16, u_lay nR tR 17, u_lay nR tR 18, u_lay nR tR 19, u_lay nR tR 20, u_lay nR tR 21, u_lay nR tR 22, u_lay nR tR 23, u_lay nR tR 24, u_lay nR tR 25, u_lay nR tR 26, u_lay nR tR 27, u_lay nR tR 28, u_lay nR tR 29], w ∈ wsA
  exact List.forall_mem_cons.mpr ⟨(iA_9 (mem_i 10 rfl)), List.forall_mem_cons.mpr ⟨(iA_9 (mem_i 11 rfl)), List.forall_mem_cons.mpr ⟨(iA_9 (mem_i 12 rfl)), List.forall_mem_cons.mpr ⟨(iA_9 (mem_i 13 rfl)), List.forall_mem_cons.mpr ⟨(iA_9 (mem_i 14 rfl)), List.forall_mem_cons.mpr ⟨(iA_9 (mem_i 15 rfl)), List.forall_mem_cons.mpr ⟨(iA_9 (mem_i 16 rfl)), List.forall_mem_cons.mpr ⟨(iA_9 (mem_i 17 rfl)), List.forall_mem_cons.mpr ⟨(iA_9 (mem_i 18 rfl)), List.forall_mem_cons.mpr ⟨(iA_9 (mem_i 19 rfl)), List.forall_mem_cons.mpr ⟨(iA_9 (mem_i 20 rfl)), List.forall_mem_cons.mpr ⟨(iA_9 (mem_i 21 rfl)), List.forall_mem_cons.mpr ⟨(iA_9 (mem_i 22 rfl)), List.forall_mem_cons.mpr ⟨(iA_9 (mem_i 23 rfl)), List.forall_mem_cons.mpr ⟨(iA_9 (mem_i 24 rfl)), List.forall_mem_cons.mpr ⟨(iA_9 (mem_i 25 rfl)), List.forall_mem_cons.mpr ⟨(iA_9 (mem_i 26 rfl)), List.forall_mem_cons.mpr ⟨(iA_9 (mem_i 27 rfl)), List.forall_mem_cons.mpr ⟨(iA_9 (mem_i 28 rfl)), List.forall_mem_cons.mpr ⟨(iA_9 (mem_i 29 rfl)), List.forall_mem_cons.mpr ⟨(iA_9 (mem_i 30 rfl)), List.forall_mem_cons.mpr ⟨(iA_9 (mem_i 31 rfl)), List.forall_mem_cons.mpr ⟨(iA_9 (mem_i 32 rfl)), List.forall_mem_cons.mpr ⟨(iA_9 (mem_i 33 rfl)), List.forall_mem_cons.mpr ⟨(iA_9 (mem_i 34 rfl)), List.forall_mem_cons.mpr ⟨(iA_9 (mem_i 35 rfl)), List.forall_mem_cons.mpr ⟨(iA_9 (mem_i 36 rfl)), List.forall_mem_cons.mpr ⟨(iA_9 (mem_i 37 rfl)), List.forall_mem_cons.mpr ⟨(iA_9 (mem_i 38 rfl)), List.forall_mem_cons.mpr ⟨(iA_9 (mem_i 39 rfl)), fun _ h => absurd h List.not_mem_nil⟩⟩⟩⟩⟩⟩⟩⟩⟩⟩⟩⟩⟩⟩⟩⟩⟩⟩⟩⟩⟩⟩⟩⟩⟩⟩⟩⟩⟩⟩
theorem fM_11 : fm_fl wsA "EscapeMill$Machine" 11 vwA 2 0 := ⟨nM, tM, 16, rfl, by decide, usM, (iA_0 (mem_i 13 rfl)), rfl⟩
theorem fM_15 : fm_fl wsA "EscapeMill$Machine" 15 vwA 2 1 := ⟨nM, tM, 16, rfl, by decide, usM, (iA_0 (mem_i 14 rfl)), rfl⟩
theorem fM_18 : fm_fl wsA "EscapeMill$Machine" 18 vwA 2 2 := ⟨nM, tM, 16, rfl, by decide, usM, (iA_0 (mem_i 15 rfl)), rfl⟩
theorem fM_21 : fm_fl wsA "EscapeMill$Machine" 21 vwA 2 3 := ⟨nM, tM, 16, rfl, by decide, usM, (iA_0 (mem_i 16 rfl)), rfl⟩
theorem fM_24 : fm_fl wsA "EscapeMill$Machine" 24 vwA 2 4 := ⟨nM, tM, 16, rfl, by decide, usM, (iA_0 (mem_i 17 rfl)), rfl⟩
theorem fM_27 : fm_fl wsA "EscapeMill$Machine" 27 vwA 2 5 := ⟨nM, tM, 16, rfl, by decide, usM, (iA_0 (mem_i 18 rfl)), rfl⟩
theorem fM_30 : fm_fl wsA "EscapeMill$Machine" 30 vwA 2 6 := ⟨nM, tM, 16, rfl, by decide, usM, (iA_0 (mem_i 19 rfl)), rfl⟩
theorem fM_33 : fm_fl wsA "EscapeMill$Machine" 33 vwA 2 7 := ⟨nM, tM, 16, rfl, by decide, usM, (iA_0 (mem_i 20 rfl)), rfl⟩
theorem fM_36 : fm_fl wsA "EscapeMill$Machine" 36 vwA 2 8 := ⟨nM, tM, 16, rfl, by decide, usM, (iA_0 (mem_i 21 rfl)), rfl⟩
theorem fM_39 : fm_fl wsA "EscapeMill$Machine" 39 vwA 2 9 := ⟨nM, tM, 16, rfl, by decide, usM, (iA_0 (mem_i 22 rfl)), rfl⟩
theorem fM_43 : fm_fl wsA "EscapeMill$Machine" 43 vwA 2 10 := ⟨nM, tM, 16, rfl, by decide, usM, (iA_0 (mem_i 23 rfl)), rfl⟩
theorem fE_79 : fm_fl wsA "EscapeMill" 79 vwA 2 10 := ⟨nM, tM, 16, rfl, by decide, usM, (iA_0 (mem_i 24 rfl)), rfl⟩
theorem fM_46 : fm_fl wsA "EscapeMill$Machine" 46 vwA 2 11 := ⟨nM, tM, 16, rfl, by decide, usM, (iA_0 (mem_i 25 rfl)), rfl⟩
theorem fE_83 : fm_fl wsA "EscapeMill" 83 vwA 2 11 := ⟨nM, tM, 16, rfl, by decide, usM, (iA_0 (mem_i 26 rfl)), rfl⟩
theorem fM_49 : fm_fl wsA "EscapeMill$Machine" 49 vwA 2 12 := ⟨nM, tM, 16, rfl, by decide, usM, (iA_0 (mem_i 27 rfl)), rfl⟩
theorem fE_73 : fm_fl wsA "EscapeMill" 73 vwA 2 12 := ⟨nM, tM, 16, rfl, by decide, usM, (iA_0 (mem_i 28 rfl)), rfl⟩
theorem fM_52 : fm_fl wsA "EscapeMill$Machine" 52 vwA 2 13 := ⟨nM, tM, 16, rfl, by decide, usM, (iA_0 (mem_i 29 rfl)), rfl⟩
theorem fE_86 : fm_fl wsA "EscapeMill" 86 vwA 2 13 := ⟨nM, tM, 16, rfl, by decide, usM, (iA_0 (mem_i 30 rfl)), rfl⟩
theorem fM_55 : fm_fl wsA "EscapeMill$Machine" 55 vwA 2 14 := ⟨nM, tM, 16, rfl, by decide, usM, (iA_0 (mem_i 31 rfl)), rfl⟩
theorem fE_89 : fm_fl wsA "EscapeMill" 89 vwA 2 14 := ⟨nM, tM, 16, rfl, by decide, usM, (iA_0 (mem_i 32 rfl)), rfl⟩
theorem fM_58 : fm_fl wsA "EscapeMill$Machine" 58 vwA 2 15 := ⟨nM, tM, 16, rfl, by decide, usM, (iA_0 (mem_i 33 rfl)), rfl⟩
theorem fE_92 : fm_fl wsA "EscapeMill" 92 vwA 2 15 := ⟨nM, tM, 16, rfl, by decide, usM, (iA_0 (mem_i 34 rfl)), rfl⟩
theorem fC_9 : fm_fl wsA "EscapeMill$Code" 9 vwA 0 0 := ⟨nC, tC, 7, rfl, by decide, usC, (iA_1 (mem_i 14 rfl)), rfl⟩
theorem fP_62 : fm_fl wsA "EscapeMill$Plan" 62 vwA 0 0 := ⟨nC, tC, 7, rfl, by decide, usC, (iA_1 (mem_i 15 rfl)), rfl⟩
theorem fF_56 : fm_fl wsA "EscapeMill$Facts" 56 vwA 0 0 := ⟨nC, tC, 7, rfl, by decide, usC, (iA_1 (mem_i 16 rfl)), rfl⟩
theorem fM_93 : fm_fl wsA "EscapeMill$Machine" 93 vwA 0 0 := ⟨nC, tC, 7, rfl, by decide, usC, (iA_1 (mem_i 17 rfl)), rfl⟩
theorem fE_98 : fm_fl wsA "EscapeMill" 98 vwA 0 0 := ⟨nC, tC, 7, rfl, by decide, usC, (iA_1 (mem_i 18 rfl)), rfl⟩
theorem fC_15 : fm_fl wsA "EscapeMill$Code" 15 vwA 0 1 := ⟨nC, tC, 7, rfl, by decide, usC, (iA_1 (mem_i 19 rfl)), rfl⟩
theorem fM_96 : fm_fl wsA "EscapeMill$Machine" 96 vwA 0 1 := ⟨nC, tC, 7, rfl, by decide, usC, (iA_1 (mem_i 20 rfl)), rfl⟩
theorem fF_85 : fm_fl wsA "EscapeMill$Facts" 85 vwA 0 1 := ⟨nC, tC, 7, rfl, by decide, usC, (iA_1 (mem_i 21 rfl)), rfl⟩
theorem fP_75 : fm_fl wsA "EscapeMill$Plan" 75 vwA 0 1 := ⟨nC, tC, 7, rfl, by decide, usC, (iA_1 (mem_i 22 rfl)), rfl⟩
theorem fC_18 : fm_fl wsA "EscapeMill$Code" 18 vwA 0 2 := ⟨nC, tC, 7, rfl, by decide, usC, (iA_1 (mem_i 23 rfl)), rfl⟩
theorem fM_99 : fm_fl wsA "EscapeMill$Machine" 99 vwA 0 2 := ⟨nC, tC, 7, rfl, by decide, usC, (iA_1 (mem_i 24 rfl)), rfl⟩
theorem fF_88 : fm_fl wsA "EscapeMill$Facts" 88 vwA 0 2 := ⟨nC, tC, 7, rfl, by decide, usC, (iA_1 (mem_i 25 rfl)), rfl⟩
theorem fC_21 : fm_fl wsA "EscapeMill$Code" 21 vwA 0 3 := ⟨nC, tC, 7, rfl, by decide, usC, (iA_1 (mem_i 26 rfl)), rfl⟩
theorem fM_102 : fm_fl wsA "EscapeMill$Machine" 102 vwA 0 3 := ⟨nC, tC, 7, rfl, by decide, usC, (iA_1 (mem_i 27 rfl)), rfl⟩
theorem fF_91 : fm_fl wsA "EscapeMill$Facts" 91 vwA 0 3 := ⟨nC, tC, 7, rfl, by decide, usC, (iA_1 (mem_i 28 rfl)), rfl⟩
theorem fC_24 : fm_fl wsA "EscapeMill$Code" 24 vwA 0 4 := ⟨nC, tC, 7, rfl, by decide, usC, (iA_1 (mem_i 29 rfl)), rfl⟩
theorem fP_65 : fm_fl wsA "EscapeMill$Plan" 65 vwA 0 4 := ⟨nC, tC, 7, rfl, by decide, usC, (iA_1 (mem_i 30 rfl)), rfl⟩
theorem fM_121 : fm_fl wsA "EscapeMill$Machine" 121 vwA 0 4 := ⟨nC, tC, 7, rfl, by decide, usC, (iA_1 (mem_i 31 rfl)), rfl⟩
theorem fF_102 : fm_fl wsA "EscapeMill$Facts" 102 vwA 0 4 := ⟨nC, tC, 7, rfl, by decide, usC, (iA_1 (mem_i 32 rfl)), rfl⟩
theorem fC_27 : fm_fl wsA "EscapeMill$Code" 27 vwA 0 5 := ⟨nC, tC, 7, rfl, by decide, usC, (iA_1 (mem_i 33 rfl)), rfl⟩
theorem fP_55 : fm_fl wsA "EscapeMill$Plan" 55 vwA 0 5 := ⟨nC, tC, 7, rfl, by decide, usC, (iA_1 (mem_i 34 rfl)), rfl⟩
theorem fF_44 : fm_fl wsA "EscapeMill$Facts" 44 vwA 0 5 := ⟨nC, tC, 7, rfl, by decide, usC, (iA_1 (mem_i 35 rfl)), rfl⟩
theorem fE_56 : fm_fl wsA "EscapeMill" 56 vwA 0 5 := ⟨nC, tC, 7, rfl, by decide, usC, (iA_1 (mem_i 36 rfl)), rfl⟩
theorem fM_144 : fm_fl wsA "EscapeMill$Machine" 144 vwA 0 5 := ⟨nC, tC, 7, rfl, by decide, usC, (iA_1 (mem_i 37 rfl)), rfl⟩
theorem fC_31 : fm_fl wsA "EscapeMill$Code" 31 vwA 0 6 := ⟨nC, tC, 7, rfl, by decide, usC, (iA_1 (mem_i 38 rfl)), rfl⟩
theorem fP_21 : fm_fl wsA "EscapeMill$Plan" 21 vwA 0 6 := ⟨nC, tC, 7, rfl, by decide, usC, (iA_1 (mem_i 39 rfl)), rfl⟩
theorem fE_48 : fm_fl wsA "EscapeMill" 48 vwA 0 6 := ⟨nC, tC, 7, rfl, by decide, usC, (iA_2 (mem_i 0 rfl)), rfl⟩
theorem fF_49 : fm_fl wsA "EscapeMill$Facts" 49 vwA 0 6 := ⟨nC, tC, 7, rfl, by decide, usC, (iA_2 (mem_i 1 rfl)), rfl⟩
theorem fM_147 : fm_fl wsA "EscapeMill$Machine" 147 vwA 0 6 := ⟨nC, tC, 7, rfl, by decide, usC, (iA_2 (mem_i 2 rfl)), rfl⟩
theorem fF_9 : fm_fl wsA "EscapeMill$Facts" 9 vwA 1 0 := ⟨nF, tF, 8, rfl, by decide, usF, (iA_2 (mem_i 13 rfl)), rfl⟩
theorem fE_111 : fm_fl wsA "EscapeMill" 111 vwA 1 0 := ⟨nF, tF, 8, rfl, by decide, usF, (iA_2 (mem_i 14 rfl)), rfl⟩
theorem fF_17 : fm_fl wsA "EscapeMill$Facts" 17 vwA 1 1 := ⟨nF, tF, 8, rfl, by decide, usF, (iA_2 (mem_i 15 rfl)), rfl⟩
theorem fF_20 : fm_fl wsA "EscapeMill$Facts" 20 vwA 1 2 := ⟨nF, tF, 8, rfl, by decide, usF, (iA_2 (mem_i 16 rfl)), rfl⟩
theorem fE_105 : fm_fl wsA "EscapeMill" 105 vwA 1 2 := ⟨nF, tF, 8, rfl, by decide, usF, (iA_2 (mem_i 17 rfl)), rfl⟩
theorem fF_23 : fm_fl wsA "EscapeMill$Facts" 23 vwA 1 3 := ⟨nF, tF, 8, rfl, by decide, usF, (iA_2 (mem_i 18 rfl)), rfl⟩
theorem fF_27 : fm_fl wsA "EscapeMill$Facts" 27 vwA 1 4 := ⟨nF, tF, 8, rfl, by decide, usF, (iA_2 (mem_i 19 rfl)), rfl⟩
theorem fF_31 : fm_fl wsA "EscapeMill$Facts" 31 vwA 1 5 := ⟨nF, tF, 8, rfl, by decide, usF, (iA_2 (mem_i 20 rfl)), rfl⟩
theorem fF_34 : fm_fl wsA "EscapeMill$Facts" 34 vwA 1 6 := ⟨nF, tF, 8, rfl, by decide, usF, (iA_2 (mem_i 21 rfl)), rfl⟩
theorem fF_37 : fm_fl wsA "EscapeMill$Facts" 37 vwA 1 7 := ⟨nF, tF, 8, rfl, by decide, usF, (iA_2 (mem_i 22 rfl)), rfl⟩
theorem fP_9 : fm_fl wsA "EscapeMill$Plan" 9 vwA 3 0 := ⟨nP, tP, 1, rfl, by decide, usP, (iA_2 (mem_i 34 rfl)), rfl⟩
theorem fM_74 : fm_fl wsA "EscapeMill$Machine" 74 vwA 3 0 := ⟨nP, tP, 1, rfl, by decide, usP, (iA_2 (mem_i 35 rfl)), rfl⟩
theorem fE_108 : fm_fl wsA "EscapeMill" 108 vwA 3 0 := ⟨nP, tP, 1, rfl, by decide, usP, (iA_2 (mem_i 36 rfl)), rfl⟩
theorem fE_11 : fm_fl wsA "EscapeMill" 11 vwA 4 0 := ⟨nE, tE, 5, rfl, by decide, usE, (iA_2 (mem_i 38 rfl)), rfl⟩
theorem fE_17 : fm_fl wsA "EscapeMill" 17 vwA 4 1 := ⟨nE, tE, 5, rfl, by decide, usE, (iA_2 (mem_i 39 rfl)), rfl⟩
theorem fE_23 : fm_fl wsA "EscapeMill" 23 vwA 4 2 := ⟨nE, tE, 5, rfl, by decide, usE, (iA_3 (mem_i 0 rfl)), rfl⟩
theorem fE_30 : fm_fl wsA "EscapeMill" 30 vwA 4 3 := ⟨nE, tE, 5, rfl, by decide, usE, (iA_3 (mem_i 1 rfl)), rfl⟩
theorem fE_34 : fm_fl wsA "EscapeMill" 34 vwA 4 4 := ⟨nE, tE, 5, rfl, by decide, usE, (iA_3 (mem_i 2 rfl)), rfl⟩
theorem fR_77 : fm_fl wsA "EscapeMillModel" 77 vwA 5 0 := ⟨nR, tR, 30, rfl, by decide, usR, (iA_8 (mem_i 20 rfl)), rfl⟩
theorem fR_7 : fm_fl wsA "EscapeMillModel" 7 vwA 5 1 := ⟨nR, tR, 30, rfl, by decide, usR, (iA_8 (mem_i 21 rfl)), rfl⟩
theorem fR_13 : fm_fl wsA "EscapeMillModel" 13 vwA 5 2 := ⟨nR, tR, 30, rfl, by decide, usR, (iA_8 (mem_i 22 rfl)), rfl⟩
theorem fR_16 : fm_fl wsA "EscapeMillModel" 16 vwA 5 3 := ⟨nR, tR, 30, rfl, by decide, usR, (iA_8 (mem_i 23 rfl)), rfl⟩
theorem fR_19 : fm_fl wsA "EscapeMillModel" 19 vwA 5 4 := ⟨nR, tR, 30, rfl, by decide, usR, (iA_8 (mem_i 24 rfl)), rfl⟩
theorem fR_22 : fm_fl wsA "EscapeMillModel" 22 vwA 5 5 := ⟨nR, tR, 30, rfl, by decide, usR, (iA_8 (mem_i 25 rfl)), rfl⟩
theorem fR_25 : fm_fl wsA "EscapeMillModel" 25 vwA 5 6 := ⟨nR, tR, 30, rfl, by decide, usR, (iA_8 (mem_i 26 rfl)), rfl⟩
theorem fR_28 : fm_fl wsA "EscapeMillModel" 28 vwA 5 7 := ⟨nR, tR, 30, rfl, by decide, usR, (iA_8 (mem_i 27 rfl)), rfl⟩
theorem fR_85 : fm_fl wsA "EscapeMillModel" 85 vwA 5 8 := ⟨nR, tR, 30, rfl, by decide, usR, (iA_8 (mem_i 28 rfl)), rfl⟩
theorem fR_31 : fm_fl wsA "EscapeMillModel" 31 vwA 5 9 := ⟨nR, tR, 30, rfl, by decide, usR, (iA_8 (mem_i 29 rfl)), rfl⟩
theorem fR_34 : fm_fl wsA "EscapeMillModel" 34 vwA 5 10 := ⟨nR, tR, 30, rfl, by decide, usR, (iA_8 (mem_i 30 rfl)), rfl⟩
theorem fR_37 : fm_fl wsA "EscapeMillModel" 37 vwA 5 11 := ⟨nR, tR, 30, rfl, by decide, usR, (iA_8 (mem_i 31 rfl)), rfl⟩
theorem fR_40 : fm_fl wsA "EscapeMillModel" 40 vwA 5 12 := ⟨nR, tR, 30, rfl, by decide, usR, (iA_8 (mem_i 32 rfl)), rfl⟩
theorem fR_43 : fm_fl wsA "EscapeMillModel" 43 vwA 5 13 := ⟨nR, tR, 30, rfl, by decide, usR, (iA_8 (mem_i 33 rfl)), rfl⟩
theorem fR_157 : fm_fl wsA "EscapeMillModel" 157 vwA 5 14 := ⟨nR, tR, 30, rfl, by decide, usR, (iA_8 (mem_i 34 rfl)), rfl⟩
theorem fR_47 : fm_fl wsA "EscapeMillModel" 47 vwA 5 15 := ⟨nR, tR, 30, rfl, by decide, usR, (iA_8 (mem_i 35 rfl)), rfl⟩
theorem fR_50 : fm_fl wsA "EscapeMillModel" 50 vwA 5 16 := ⟨nR, tR, 30, rfl, by decide, usR, (iA_8 (mem_i 36 rfl)), rfl⟩
theorem fR_53 : fm_fl wsA "EscapeMillModel" 53 vwA 5 17 := ⟨nR, tR, 30, rfl, by decide, usR, (iA_8 (mem_i 37 rfl)), rfl⟩
theorem fR_56 : fm_fl wsA "EscapeMillModel" 56 vwA 5 18 := ⟨nR, tR, 30, rfl, by decide, usR, (iA_8 (mem_i 38 rfl)), rfl⟩
theorem fR_59 : fm_fl wsA "EscapeMillModel" 59 vwA 5 19 := ⟨nR, tR, 30, rfl, by decide, usR, (iA_8 (mem_i 39 rfl)), rfl⟩
theorem fR_62 : fm_fl wsA "EscapeMillModel" 62 vwA 5 20 := ⟨nR, tR, 30, rfl, by decide, usR, (iA_9 (mem_i 0 rfl)), rfl⟩
theorem fR_65 : fm_fl wsA "EscapeMillModel" 65 vwA 5 21 := ⟨nR, tR, 30, rfl, by decide, usR, (iA_9 (mem_i 1 rfl)), rfl⟩
theorem fR_170 : fm_fl wsA "EscapeMillModel" 170 vwA 5 22 := ⟨nR, tR, 30, rfl, by decide, usR, (iA_9 (mem_i 2 rfl)), rfl⟩
theorem fR_68 : fm_fl wsA "EscapeMillModel" 68 vwA 5 23 := ⟨nR, tR, 30, rfl, by decide, usR, (iA_9 (mem_i 3 rfl)), rfl⟩
theorem fR_160 : fm_fl wsA "EscapeMillModel" 160 vwA 5 24 := ⟨nR, tR, 30, rfl, by decide, usR, (iA_9 (mem_i 4 rfl)), rfl⟩
theorem fR_179 : fm_fl wsA "EscapeMillModel" 179 vwA 5 25 := ⟨nR, tR, 30, rfl, by decide, usR, (iA_9 (mem_i 5 rfl)), rfl⟩
theorem fR_201 : fm_fl wsA "EscapeMillModel" 201 vwA 5 26 := ⟨nR, tR, 30, rfl, by decide, usR, (iA_9 (mem_i 6 rfl)), rfl⟩
theorem fR_167 : fm_fl wsA "EscapeMillModel" 167 vwA 5 27 := ⟨nR, tR, 30, rfl, by decide, usR, (iA_9 (mem_i 7 rfl)), rfl⟩
theorem fR_71 : fm_fl wsA "EscapeMillModel" 71 vwA 5 28 := ⟨nR, tR, 30, rfl, by decide, usR, (iA_9 (mem_i 8 rfl)), rfl⟩
theorem fR_74 : fm_fl wsA "EscapeMillModel" 74 vwA 5 29 := ⟨nR, tR, 30, rfl, by decide, usR, (iA_9 (mem_i 9 rfl)), rfl⟩
theorem pC_5 : fm_fp vwA 0 5 .int := ⟨nC, tC, 7, uC, rfl, tyC, nmC, rfl, rfl⟩
theorem pC_6 : fm_fp vwA 0 6 .int := ⟨nC, tC, 7, uC, rfl, tyC, nmC, rfl, rfl⟩
theorem pF_4 : fm_fp vwA 1 4 .int := ⟨nF, tF, 8, uF, rfl, tyF, nmF, rfl, rfl⟩
theorem pF_5 : fm_fp vwA 1 5 .int := ⟨nF, tF, 8, uF, rfl, tyF, nmF, rfl, rfl⟩
theorem pF_6 : fm_fp vwA 1 6 .int := ⟨nF, tF, 8, uF, rfl, tyF, nmF, rfl, rfl⟩
theorem pF_7 : fm_fp vwA 1 7 .boolean := ⟨nF, tF, 8, uF, rfl, tyF, nmF, rfl, rfl⟩
theorem pM_9 : fm_fp vwA 2 9 .int := ⟨nM, tM, 16, uM, rfl, tyM, nmM, rfl, rfl⟩
theorem pM_11 : fm_fp vwA 2 11 .int := ⟨nM, tM, 16, uM, rfl, tyM, nmM, rfl, rfl⟩
theorem pM_12 : fm_fp vwA 2 12 .int := ⟨nM, tM, 16, uM, rfl, tyM, nmM, rfl, rfl⟩
theorem pM_13 : fm_fp vwA 2 13 .int := ⟨nM, tM, 16, uM, rfl, tyM, nmM, rfl, rfl⟩
theorem pM_14 : fm_fp vwA 2 14 .int := ⟨nM, tM, 16, uM, rfl, tyM, nmM, rfl, rfl⟩
theorem pM_15 : fm_fp vwA 2 15 .int := ⟨nM, tM, 16, uM, rfl, tyM, nmM, rfl, rfl⟩
theorem pE_4 : fm_fp vwA 4 4 .boolean := ⟨nE, tE, 5, uE, rfl, tyE, nmE, rfl, rfl⟩
theorem pR_0 : fm_fp vwA 5 0 .int := ⟨nR, tR, 30, uR, rfl, tyR, nmR, rfl, rfl⟩
theorem pR_8 : fm_fp vwA 5 8 .boolean := ⟨nR, tR, 30, uR, rfl, tyR, nmR, rfl, rfl⟩
theorem pR_14 : fm_fp vwA 5 14 .int := ⟨nR, tR, 30, uR, rfl, tyR, nmR, rfl, rfl⟩
theorem pR_22 : fm_fp vwA 5 22 .int := ⟨nR, tR, 30, uR, rfl, tyR, nmR, rfl, rfl⟩
theorem pR_24 : fm_fp vwA 5 24 .int := ⟨nR, tR, 30, uR, rfl, tyR, nmR, rfl, rfl⟩
theorem pR_25 : fm_fp vwA 5 25 .int := ⟨nR, tR, 30, uR, rfl, tyR, nmR, rfl, rfl⟩
theorem pR_26 : fm_fp vwA 5 26 .int := ⟨nR, tR, 30, uR, rfl, tyR, nmR, rfl, rfl⟩
theorem pR_27 : fm_fp vwA 5 27 .int := ⟨nR, tR, 30, uR, rfl, tyR, nmR, rfl, rfl⟩
theorem kF_76 : Cond.constant "EscapeMill$Facts" 76 16777216 ∈ wsA := (iA_3 (mem_i 27 rfl))
theorem kF_84 : Cond.constant "EscapeMill$Facts" 84 67108864 ∈ wsA := (iA_3 (mem_i 37 rfl))
theorem kF_109 : Cond.constant "EscapeMill$Facts" 109 16777215 ∈ wsA := (iA_4 (mem_i 13 rfl))
theorem kR_92 : Cond.constant "EscapeMillModel" 92 67108864 ∈ wsA := (iA_10 (mem_i 27 rfl))
theorem kR_112 : Cond.constant "EscapeMillModel" 112 16777216 ∈ wsA := (iA_12 (mem_i 2 rfl))
theorem kR_113 : Cond.constant "EscapeMillModel" 113 50331648 ∈ wsA := (iA_12 (mem_i 3 rfl))
theorem im_E_run : Cond.instanceMethod y_E_run ∈ wsA := (iA_3 (mem_i 8 rfl))
theorem se_E_run : Cond.selects "EscapeMill" y_E_run y_E_run ∈ wsA := (iA_3 (mem_i 9 rfl))
theorem im_E_settle : Cond.instanceMethod y_E_settle ∈ wsA := (iA_3 (mem_i 12 rfl))
theorem se_E_settle : Cond.selects "EscapeMill" y_E_settle y_E_settle ∈ wsA := (iA_13 (mem_i 9 rfl))
theorem im_F_gather : Cond.instanceMethod y_F_gather ∈ wsA := (iA_3 (mem_i 15 rfl))
theorem se_F_gather : Cond.selects "EscapeMill$Facts" y_F_gather y_F_gather ∈ wsA := (iA_3 (mem_i 16 rfl))
theorem im_F_forget : Cond.instanceMethod y_F_forget ∈ wsA := (iA_3 (mem_i 19 rfl))
theorem se_F_forget : Cond.selects "EscapeMill$Facts" y_F_forget y_F_forget ∈ wsA := (iA_13 (mem_i 10 rfl))
theorem st_A_fill : Cond.static y_A_fill ∈ wsA := (iA_3 (mem_i 22 rfl))
theorem im_F_begin : Cond.instanceMethod y_F_begin ∈ wsA := (iA_3 (mem_i 25 rfl))
theorem se_F_begin : Cond.selects "EscapeMill$Facts" y_F_begin y_F_begin ∈ wsA := (iA_13 (mem_i 11 rfl))
theorem im_F_refer : Cond.instanceMethod y_F_refer ∈ wsA := (iA_3 (mem_i 29 rfl))
theorem se_F_refer : Cond.selects "EscapeMill$Facts" y_F_refer y_F_refer ∈ wsA := (iA_13 (mem_i 12 rfl))
theorem im_F_holdInBoth : Cond.instanceMethod y_F_holdInBoth ∈ wsA := (iA_3 (mem_i 32 rfl))
theorem se_F_holdInBoth : Cond.selects "EscapeMill$Facts" y_F_holdInBoth y_F_holdInBoth ∈ wsA := (iA_13 (mem_i 13 rfl))
theorem im_F_holdIn : Cond.instanceMethod y_F_holdIn ∈ wsA := (iA_3 (mem_i 35 rfl))
theorem se_F_holdIn : Cond.selects "EscapeMill$Facts" y_F_holdIn y_F_holdIn ∈ wsA := (iA_13 (mem_i 14 rfl))
theorem im_F_applyCall : Cond.instanceMethod y_F_applyCall ∈ wsA := (iA_3 (mem_i 39 rfl))
theorem se_F_applyCall : Cond.selects "EscapeMill$Facts" y_F_applyCall y_F_applyCall ∈ wsA := (iA_13 (mem_i 15 rfl))
theorem im_F_reached : Cond.instanceMethod y_F_reached ∈ wsA := (iA_4 (mem_i 2 rfl))
theorem se_F_reached : Cond.selects "EscapeMill$Facts" y_F_reached y_F_reached ∈ wsA := (iA_13 (mem_i 16 rfl))
theorem im_F_heldBy : Cond.instanceMethod y_F_heldBy ∈ wsA := (iA_4 (mem_i 5 rfl))
theorem se_F_heldBy : Cond.selects "EscapeMill$Facts" y_F_heldBy y_F_heldBy ∈ wsA := (iA_13 (mem_i 17 rfl))
theorem im_F_apply : Cond.instanceMethod y_F_apply ∈ wsA := (iA_4 (mem_i 8 rfl))
theorem se_F_apply : Cond.selects "EscapeMill$Facts" y_F_apply y_F_apply ∈ wsA := (iA_13 (mem_i 18 rfl))
theorem im_F_hold : Cond.instanceMethod y_F_hold ∈ wsA := (iA_4 (mem_i 11 rfl))
theorem se_F_hold : Cond.selects "EscapeMill$Facts" y_F_hold y_F_hold ∈ wsA := (iA_13 (mem_i 19 rfl))
theorem im_F_sumUp : Cond.instanceMethod y_F_sumUp ∈ wsA := (iA_4 (mem_i 15 rfl))
theorem se_F_sumUp : Cond.selects "EscapeMill$Facts" y_F_sumUp y_F_sumUp ∈ wsA := (iA_13 (mem_i 20 rfl))
theorem im_P_draw : Cond.instanceMethod y_P_draw ∈ wsA := (iA_4 (mem_i 18 rfl))
theorem se_P_draw : Cond.selects "EscapeMill$Plan" y_P_draw y_P_draw ∈ wsA := (iA_4 (mem_i 19 rfl))
theorem st_P_soleNew : Cond.static y_P_soleNew ∈ wsA := (iA_4 (mem_i 23 rfl))
theorem im_C_defines : Cond.instanceMethod y_C_defines ∈ wsA := (iA_4 (mem_i 26 rfl))
theorem se_C_defines : Cond.selects "EscapeMill$Code" y_C_defines y_C_defines ∈ wsA := (iA_4 (mem_i 27 rfl))
theorem im_C_reachedWithout : Cond.instanceMethod y_C_reachedWithout ∈ wsA := (iA_4 (mem_i 30 rfl))
theorem se_C_reachedWithout : Cond.selects "EscapeMill$Code" y_C_reachedWithout y_C_reachedWithout ∈ wsA := (iA_4 (mem_i 31 rfl))
theorem im_C_bit : Cond.instanceMethod y_C_bit ∈ wsA := (iA_4 (mem_i 34 rfl))
theorem se_C_bit : Cond.selects "EscapeMill$Code" y_C_bit y_C_bit ∈ wsA := (iA_13 (mem_i 21 rfl))
theorem im_C_has : Cond.instanceMethod y_C_has ∈ wsA := (iA_4 (mem_i 37 rfl))
theorem se_C_has : Cond.selects "EscapeMill$Code" y_C_has y_C_has ∈ wsA := (iA_4 (mem_i 38 rfl))
theorem im_C_behind : Cond.instanceMethod y_C_behind ∈ wsA := (iA_5 (mem_i 1 rfl))
theorem se_C_behind : Cond.selects "EscapeMill$Code" y_C_behind y_C_behind ∈ wsA := (iA_13 (mem_i 22 rfl))
theorem im_C_jumps : Cond.instanceMethod y_C_jumps ∈ wsA := (iA_5 (mem_i 4 rfl))
theorem se_C_jumps : Cond.selects "EscapeMill$Code" y_C_jumps y_C_jumps ∈ wsA := (iA_5 (mem_i 5 rfl))
theorem st_P_staysInside : Cond.static y_P_staysInside ∈ wsA := (iA_5 (mem_i 8 rfl))
theorem im_C_handsOn : Cond.instanceMethod y_C_handsOn ∈ wsA := (iA_5 (mem_i 11 rfl))
theorem se_C_handsOn : Cond.selects "EscapeMill$Code" y_C_handsOn y_C_handsOn ∈ wsA := (iA_5 (mem_i 12 rfl))
theorem st_P_isMadeFirst : Cond.static y_P_isMadeFirst ∈ wsA := (iA_5 (mem_i 15 rfl))
theorem im_C_worksOn : Cond.instanceMethod y_C_worksOn ∈ wsA := (iA_5 (mem_i 18 rfl))
theorem se_C_worksOn : Cond.selects "EscapeMill$Code" y_C_worksOn y_C_worksOn ∈ wsA := (iA_5 (mem_i 19 rfl))
theorem im_P_takeApart : Cond.instanceMethod y_P_takeApart ∈ wsA := (iA_5 (mem_i 22 rfl))
theorem se_P_takeApart : Cond.selects "EscapeMill$Plan" y_P_takeApart y_P_takeApart ∈ wsA := (iA_13 (mem_i 23 rfl))
theorem im_F_escapeOf : Cond.instanceMethod y_F_escapeOf ∈ wsA := (iA_5 (mem_i 25 rfl))
theorem se_F_escapeOf : Cond.selects "EscapeMill$Facts" y_F_escapeOf y_F_escapeOf ∈ wsA := (iA_5 (mem_i 26 rfl))
theorem im_P_pairLocks : Cond.instanceMethod y_P_pairLocks ∈ wsA := (iA_5 (mem_i 29 rfl))
theorem se_P_pairLocks : Cond.selects "EscapeMill$Plan" y_P_pairLocks y_P_pairLocks ∈ wsA := (iA_13 (mem_i 24 rfl))
theorem st_P_partner : Cond.static y_P_partner ∈ wsA := (iA_5 (mem_i 32 rfl))
theorem st_P_isJumpedInto : Cond.static y_P_isJumpedInto ∈ wsA := (iA_5 (mem_i 35 rfl))
theorem st_P_endsPairing : Cond.static y_P_endsPairing ∈ wsA := (iA_5 (mem_i 39 rfl))
theorem im_M_go : Cond.instanceMethod y_M_go ∈ wsA := (iA_6 (mem_i 2 rfl))
theorem se_M_go : Cond.selects "EscapeMill$Machine" y_M_go y_M_go ∈ wsA := (iA_6 (mem_i 3 rfl))
theorem im_M_begin : Cond.instanceMethod y_M_begin ∈ wsA := (iA_6 (mem_i 6 rfl))
theorem se_M_begin : Cond.selects "EscapeMill$Machine" y_M_begin y_M_begin ∈ wsA := (iA_13 (mem_i 25 rfl))
theorem im_M_enter : Cond.instanceMethod y_M_enter ∈ wsA := (iA_6 (mem_i 10 rfl))
theorem se_M_enter : Cond.selects "EscapeMill$Machine" y_M_enter y_M_enter ∈ wsA := (iA_13 (mem_i 26 rfl))
theorem im_M_base : Cond.instanceMethod y_M_base ∈ wsA := (iA_6 (mem_i 13 rfl))
theorem se_M_base : Cond.selects "EscapeMill$Machine" y_M_base y_M_base ∈ wsA := (iA_13 (mem_i 27 rfl))
theorem im_M_leave : Cond.instanceMethod y_M_leave ∈ wsA := (iA_6 (mem_i 17 rfl))
theorem se_M_leave : Cond.selects "EscapeMill$Machine" y_M_leave y_M_leave ∈ wsA := (iA_13 (mem_i 28 rfl))
theorem im_M_perform : Cond.instanceMethod y_M_perform ∈ wsA := (iA_6 (mem_i 20 rfl))
theorem se_M_perform : Cond.selects "EscapeMill$Machine" y_M_perform y_M_perform ∈ wsA := (iA_13 (mem_i 29 rfl))
theorem im_M_cellOf : Cond.instanceMethod y_M_cellOf ∈ wsA := (iA_6 (mem_i 23 rfl))
theorem se_M_cellOf : Cond.selects "EscapeMill$Machine" y_M_cellOf y_M_cellOf ∈ wsA := (iA_13 (mem_i 30 rfl))
theorem im_M_workOnField : Cond.instanceMethod y_M_workOnField ∈ wsA := (iA_6 (mem_i 26 rfl))
theorem se_M_workOnField : Cond.selects "EscapeMill$Machine" y_M_workOnField y_M_workOnField ∈ wsA := (iA_13 (mem_i 31 rfl))
theorem im_M_changeCount : Cond.instanceMethod y_M_changeCount ∈ wsA := (iA_6 (mem_i 29 rfl))
theorem se_M_changeCount : Cond.selects "EscapeMill$Machine" y_M_changeCount y_M_changeCount ∈ wsA := (iA_13 (mem_i 32 rfl))
theorem im_M_call : Cond.instanceMethod y_M_call ∈ wsA := (iA_6 (mem_i 32 rfl))
theorem se_M_call : Cond.selects "EscapeMill$Machine" y_M_call y_M_call ∈ wsA := (iA_13 (mem_i 33 rfl))
theorem im_M_newParts : Cond.instanceMethod y_M_newParts ∈ wsA := (iA_6 (mem_i 35 rfl))
theorem se_M_newParts : Cond.selects "EscapeMill$Machine" y_M_newParts y_M_newParts ∈ wsA := (iA_13 (mem_i 34 rfl))
theorem im_M_emptied : Cond.instanceMethod y_M_emptied ∈ wsA := (iA_6 (mem_i 38 rfl))
theorem se_M_emptied : Cond.selects "EscapeMill$Machine" y_M_emptied y_M_emptied ∈ wsA := (iA_13 (mem_i 35 rfl))
theorem im_M_newObject : Cond.instanceMethod y_M_newObject ∈ wsA := (iA_7 (mem_i 1 rfl))
theorem se_M_newObject : Cond.selects "EscapeMill$Machine" y_M_newObject y_M_newObject ∈ wsA := (iA_13 (mem_i 36 rfl))
theorem im_M_move : Cond.instanceMethod y_M_move ∈ wsA := (iA_7 (mem_i 4 rfl))
theorem se_M_move : Cond.selects "EscapeMill$Machine" y_M_move y_M_move ∈ wsA := (iA_13 (mem_i 37 rfl))
theorem im_M_show : Cond.instanceMethod y_M_show ∈ wsA := (iA_7 (mem_i 7 rfl))
theorem se_M_show : Cond.selects "EscapeMill$Machine" y_M_show y_M_show ∈ wsA := (iA_13 (mem_i 38 rfl))
theorem im_E_latest : Cond.instanceMethod y_E_latest ∈ wsA := (iA_7 (mem_i 9 rfl))
theorem se_E_latest : Cond.selects "EscapeMill" y_E_latest y_E_latest ∈ wsA := (iA_7 (mem_i 10 rfl))
theorem im_E_escape : Cond.instanceMethod y_E_escape ∈ wsA := (iA_7 (mem_i 12 rfl))
theorem se_E_escape : Cond.selects "EscapeMill" y_E_escape y_E_escape ∈ wsA := (iA_7 (mem_i 13 rfl))
theorem st_E_isMethod : Cond.static y_E_isMethod ∈ wsA := (iA_7 (mem_i 16 rfl))
theorem im_E_summary : Cond.instanceMethod y_E_summary ∈ wsA := (iA_7 (mem_i 20 rfl))
theorem se_E_summary : Cond.selects "EscapeMill" y_E_summary y_E_summary ∈ wsA := (iA_7 (mem_i 21 rfl))
theorem im_E_fate : Cond.instanceMethod y_E_fate ∈ wsA := (iA_7 (mem_i 23 rfl))
theorem se_E_fate : Cond.selects "EscapeMill" y_E_fate y_E_fate ∈ wsA := (iA_7 (mem_i 24 rfl))
theorem im_E_may : Cond.instanceMethod y_E_may ∈ wsA := (iA_7 (mem_i 26 rfl))
theorem se_E_may : Cond.selects "EscapeMill" y_E_may y_E_may ∈ wsA := (iA_7 (mem_i 27 rfl))
theorem im_E_length : Cond.instanceMethod y_E_length ∈ wsA := (iA_7 (mem_i 29 rfl))
theorem se_E_length : Cond.selects "EscapeMill" y_E_length y_E_length ∈ wsA := (iA_7 (mem_i 30 rfl))
theorem im_E_parameters : Cond.instanceMethod y_E_parameters ∈ wsA := (iA_7 (mem_i 32 rfl))
theorem se_E_parameters : Cond.selects "EscapeMill" y_E_parameters y_E_parameters ∈ wsA := (iA_7 (mem_i 33 rfl))
theorem im_E_put : Cond.instanceMethod y_E_put ∈ wsA := (iA_7 (mem_i 36 rfl))
theorem se_E_put : Cond.selects "EscapeMill" y_E_put y_E_put ∈ wsA := (iA_7 (mem_i 37 rfl))
theorem st_E_isInstruction : Cond.static y_E_isInstruction ∈ wsA := (iA_8 (mem_i 0 rfl))
theorem st_E_isVariable : Cond.static y_E_isVariable ∈ wsA := (iA_8 (mem_i 3 rfl))
theorem im_C_append : Cond.instanceMethod y_C_append ∈ wsA := (iA_8 (mem_i 7 rfl))
theorem se_C_append : Cond.selects "EscapeMill$Code" y_C_append y_C_append ∈ wsA := (iA_8 (mem_i 8 rfl))
theorem im_E_clear : Cond.instanceMethod y_E_clear ∈ wsA := (iA_8 (mem_i 10 rfl))
theorem se_E_clear : Cond.selects "EscapeMill" y_E_clear y_E_clear ∈ wsA := (iA_8 (mem_i 11 rfl))
theorem im_E_shown : Cond.instanceMethod y_E_shown ∈ wsA := (iA_8 (mem_i 13 rfl))
theorem se_E_shown : Cond.selects "EscapeMill" y_E_shown y_E_shown ∈ wsA := (iA_8 (mem_i 14 rfl))
theorem im_R_thrown : Cond.instanceMethod y_R_thrown ∈ wsA := (iA_10 (mem_i 0 rfl))
theorem se_R_thrown : Cond.selects "EscapeMillModel" y_R_thrown y_R_thrown ∈ wsA := (iA_10 (mem_i 1 rfl))
theorem im_R_parameters : Cond.instanceMethod y_R_parameters ∈ wsA := (iA_10 (mem_i 3 rfl))
theorem se_R_parameters : Cond.selects "EscapeMillModel" y_R_parameters y_R_parameters ∈ wsA := (iA_10 (mem_i 4 rfl))
theorem st_R_isMethod : Cond.static y_R_isMethod ∈ wsA := (iA_10 (mem_i 7 rfl))
theorem im_R_put : Cond.instanceMethod y_R_put ∈ wsA := (iA_10 (mem_i 9 rfl))
theorem se_R_put : Cond.selects "EscapeMillModel" y_R_put y_R_put ∈ wsA := (iA_10 (mem_i 10 rfl))
theorem st_R_four : Cond.static y_R_four ∈ wsA := (iA_10 (mem_i 13 rfl))
theorem im_R_clear : Cond.instanceMethod y_R_clear ∈ wsA := (iA_10 (mem_i 15 rfl))
theorem se_R_clear : Cond.selects "EscapeMillModel" y_R_clear y_R_clear ∈ wsA := (iA_10 (mem_i 16 rfl))
theorem im_R_run : Cond.instanceMethod y_R_run ∈ wsA := (iA_10 (mem_i 18 rfl))
theorem se_R_run : Cond.selects "EscapeMillModel" y_R_run y_R_run ∈ wsA := (iA_10 (mem_i 19 rfl))
theorem im_R_know : Cond.instanceMethod y_R_know ∈ wsA := (iA_10 (mem_i 22 rfl))
theorem se_R_know : Cond.selects "EscapeMillModel" y_R_know y_R_know ∈ wsA := (iA_13 (mem_i 39 rfl))
theorem im_R_analyse : Cond.instanceMethod y_R_analyse ∈ wsA := (iA_10 (mem_i 25 rfl))
theorem se_R_analyse : Cond.selects "EscapeMillModel" y_R_analyse y_R_analyse ∈ wsA := (iA_14 (mem_i 0 rfl))
theorem im_R_holds : Cond.instanceMethod y_R_holds ∈ wsA := (iA_10 (mem_i 29 rfl))
theorem se_R_holds : Cond.selects "EscapeMillModel" y_R_holds y_R_holds ∈ wsA := (iA_14 (mem_i 1 rfl))
theorem im_R_weight : Cond.instanceMethod y_R_weight ∈ wsA := (iA_10 (mem_i 32 rfl))
theorem se_R_weight : Cond.selects "EscapeMillModel" y_R_weight y_R_weight ∈ wsA := (iA_14 (mem_i 2 rfl))
theorem im_R_adds : Cond.instanceMethod y_R_adds ∈ wsA := (iA_10 (mem_i 35 rfl))
theorem se_R_adds : Cond.selects "EscapeMillModel" y_R_adds y_R_adds ∈ wsA := (iA_14 (mem_i 3 rfl))
theorem im_R_held : Cond.instanceMethod y_R_held ∈ wsA := (iA_10 (mem_i 38 rfl))
theorem se_R_held : Cond.selects "EscapeMillModel" y_R_held y_R_held ∈ wsA := (iA_14 (mem_i 4 rfl))
theorem im_R_calls : Cond.instanceMethod y_R_calls ∈ wsA := (iA_11 (mem_i 1 rfl))
theorem se_R_calls : Cond.selects "EscapeMillModel" y_R_calls y_R_calls ∈ wsA := (iA_14 (mem_i 5 rfl))
theorem im_R_reached : Cond.instanceMethod y_R_reached ∈ wsA := (iA_11 (mem_i 4 rfl))
theorem se_R_reached : Cond.selects "EscapeMillModel" y_R_reached y_R_reached ∈ wsA := (iA_14 (mem_i 6 rfl))
theorem im_R_stateOf : Cond.instanceMethod y_R_stateOf ∈ wsA := (iA_11 (mem_i 7 rfl))
theorem se_R_stateOf : Cond.selects "EscapeMillModel" y_R_stateOf y_R_stateOf ∈ wsA := (iA_14 (mem_i 7 rfl))
theorem im_R_fateOf : Cond.instanceMethod y_R_fateOf ∈ wsA := (iA_11 (mem_i 10 rfl))
theorem se_R_fateOf : Cond.selects "EscapeMillModel" y_R_fateOf y_R_fateOf ∈ wsA := (iA_14 (mem_i 8 rfl))
theorem im_R_worksOn : Cond.instanceMethod y_R_worksOn ∈ wsA := (iA_11 (mem_i 13 rfl))
theorem se_R_worksOn : Cond.selects "EscapeMillModel" y_R_worksOn y_R_worksOn ∈ wsA := (iA_14 (mem_i 9 rfl))
theorem im_R_apart : Cond.instanceMethod y_R_apart ∈ wsA := (iA_11 (mem_i 16 rfl))
theorem se_R_apart : Cond.selects "EscapeMillModel" y_R_apart y_R_apart ∈ wsA := (iA_14 (mem_i 10 rfl))
theorem im_R_onlyNew : Cond.instanceMethod y_R_onlyNew ∈ wsA := (iA_11 (mem_i 19 rfl))
theorem se_R_onlyNew : Cond.selects "EscapeMillModel" y_R_onlyNew y_R_onlyNew ∈ wsA := (iA_14 (mem_i 11 rfl))
theorem st_R_defines : Cond.static y_R_defines ∈ wsA := (iA_11 (mem_i 22 rfl))
theorem im_R_gives : Cond.instanceMethod y_R_gives ∈ wsA := (iA_11 (mem_i 25 rfl))
theorem se_R_gives : Cond.selects "EscapeMillModel" y_R_gives y_R_gives ∈ wsA := (iA_14 (mem_i 12 rfl))
theorem im_R_dominates : Cond.instanceMethod y_R_dominates ∈ wsA := (iA_11 (mem_i 28 rfl))
theorem se_R_dominates : Cond.selects "EscapeMillModel" y_R_dominates y_R_dominates ∈ wsA := (iA_14 (mem_i 13 rfl))
theorem im_R_isInstruction : Cond.instanceMethod y_R_isInstruction ∈ wsA := (iA_11 (mem_i 31 rfl))
theorem se_R_isInstruction : Cond.selects "EscapeMillModel" y_R_isInstruction y_R_isInstruction ∈ wsA := (iA_14 (mem_i 14 rfl))
theorem im_R_pair : Cond.instanceMethod y_R_pair ∈ wsA := (iA_11 (mem_i 34 rfl))
theorem se_R_pair : Cond.selects "EscapeMillModel" y_R_pair y_R_pair ∈ wsA := (iA_14 (mem_i 15 rfl))
theorem im_R_escapeOf : Cond.instanceMethod y_R_escapeOf ∈ wsA := (iA_11 (mem_i 37 rfl))
theorem se_R_escapeOf : Cond.selects "EscapeMillModel" y_R_escapeOf y_R_escapeOf ∈ wsA := (iA_14 (mem_i 16 rfl))
theorem im_R_argsOf : Cond.instanceMethod y_R_argsOf ∈ wsA := (iA_12 (mem_i 0 rfl))
theorem se_R_argsOf : Cond.selects "EscapeMillModel" y_R_argsOf y_R_argsOf ∈ wsA := (iA_14 (mem_i 17 rfl))
theorem im_R_enter : Cond.instanceMethod y_R_enter ∈ wsA := (iA_12 (mem_i 5 rfl))
theorem se_R_enter : Cond.selects "EscapeMillModel" y_R_enter y_R_enter ∈ wsA := (iA_14 (mem_i 18 rfl))
theorem im_R_leave : Cond.instanceMethod y_R_leave ∈ wsA := (iA_12 (mem_i 8 rfl))
theorem se_R_leave : Cond.selects "EscapeMillModel" y_R_leave y_R_leave ∈ wsA := (iA_14 (mem_i 19 rfl))
theorem im_R_does : Cond.instanceMethod y_R_does ∈ wsA := (iA_12 (mem_i 11 rfl))
theorem se_R_does : Cond.selects "EscapeMillModel" y_R_does y_R_does ∈ wsA := (iA_14 (mem_i 20 rfl))
theorem im_R_makes : Cond.instanceMethod y_R_makes ∈ wsA := (iA_12 (mem_i 14 rfl))
theorem se_R_makes : Cond.selects "EscapeMillModel" y_R_makes y_R_makes ∈ wsA := (iA_14 (mem_i 21 rfl))
theorem im_R_fields : Cond.instanceMethod y_R_fields ∈ wsA := (iA_12 (mem_i 17 rfl))
theorem se_R_fields : Cond.selects "EscapeMillModel" y_R_fields y_R_fields ∈ wsA := (iA_14 (mem_i 22 rfl))
theorem im_R_set : Cond.instanceMethod y_R_set ∈ wsA := (iA_12 (mem_i 20 rfl))
theorem se_R_set : Cond.selects "EscapeMillModel" y_R_set y_R_set ∈ wsA := (iA_14 (mem_i 23 rfl))
theorem im_R_call : Cond.instanceMethod y_R_call ∈ wsA := (iA_12 (mem_i 23 rfl))
theorem se_R_call : Cond.selects "EscapeMillModel" y_R_call y_R_call ∈ wsA := (iA_14 (mem_i 24 rfl))
theorem im_R_moves : Cond.instanceMethod y_R_moves ∈ wsA := (iA_12 (mem_i 26 rfl))
theorem se_R_moves : Cond.selects "EscapeMillModel" y_R_moves y_R_moves ∈ wsA := (iA_14 (mem_i 25 rfl))
theorem im_R_shown : Cond.instanceMethod y_R_shown ∈ wsA := (iA_12 (mem_i 28 rfl))
theorem se_R_shown : Cond.selects "EscapeMillModel" y_R_shown y_R_shown ∈ wsA := (iA_12 (mem_i 29 rfl))
theorem im_R_latest : Cond.instanceMethod y_R_latest ∈ wsA := (iA_12 (mem_i 31 rfl))
theorem se_R_latest : Cond.selects "EscapeMillModel" y_R_latest y_R_latest ∈ wsA := (iA_12 (mem_i 32 rfl))
theorem im_R_escape : Cond.instanceMethod y_R_escape ∈ wsA := (iA_12 (mem_i 34 rfl))
theorem se_R_escape : Cond.selects "EscapeMillModel" y_R_escape y_R_escape ∈ wsA := (iA_12 (mem_i 35 rfl))
theorem im_R_summary : Cond.instanceMethod y_R_summary ∈ wsA := (iA_12 (mem_i 37 rfl))
theorem se_R_summary : Cond.selects "EscapeMillModel" y_R_summary y_R_summary ∈ wsA := (iA_12 (mem_i 38 rfl))
theorem im_R_fate : Cond.instanceMethod y_R_fate ∈ wsA := (iA_13 (mem_i 0 rfl))
theorem se_R_fate : Cond.selects "EscapeMillModel" y_R_fate y_R_fate ∈ wsA := (iA_13 (mem_i 1 rfl))
theorem im_R_may : Cond.instanceMethod y_R_may ∈ wsA := (iA_13 (mem_i 3 rfl))
theorem se_R_may : Cond.selects "EscapeMillModel" y_R_may y_R_may ∈ wsA := (iA_13 (mem_i 4 rfl))
theorem im_R_length : Cond.instanceMethod y_R_length ∈ wsA := (iA_13 (mem_i 6 rfl))
theorem se_R_length : Cond.selects "EscapeMillModel" y_R_length y_R_length ∈ wsA := (iA_13 (mem_i 7 rfl))
theorem cE_66 : fm_cs wsA "EscapeMill" 66 y_E_settle b_E_settle 2 none 0 := ⟨(iA_3 (mem_i 13 rfl)), (iA_3 (mem_i 11 rfl)), (iA_0 (mem_i 0 rfl)), ⟨by decide, by decide, by decide +kernel⟩, by decide⟩
theorem cE_117 : fm_cs wsA "EscapeMill" 117 y_F_gather b_F_gather 7 none 3 := ⟨(iA_3 (mem_i 17 rfl)), (iA_3 (mem_i 14 rfl)), (iA_0 (mem_i 3 rfl)), ⟨by decide, by decide, by decide +kernel⟩, by decide⟩
theorem cF_41 : fm_cs wsA "EscapeMill$Facts" 41 y_F_forget b_F_forget 2 none 0 := ⟨(iA_3 (mem_i 20 rfl)), (iA_3 (mem_i 18 rfl)), (iA_0 (mem_i 3 rfl)), ⟨by decide, by decide, by decide +kernel⟩, by decide⟩
theorem cF_70 : fm_cs wsA "EscapeMill$Facts" 70 y_A_fill b_A_fill 4 none 2 := ⟨(iA_3 (mem_i 23 rfl)), (iA_3 (mem_i 21 rfl)), (iA_0 (mem_i 6 rfl)), ⟨by decide, by decide, by decide +kernel⟩, by decide⟩
theorem cF_52 : fm_cs wsA "EscapeMill$Facts" 52 y_F_begin b_F_begin 3 none 1 := ⟨(iA_3 (mem_i 26 rfl)), (iA_3 (mem_i 24 rfl)), (iA_0 (mem_i 3 rfl)), ⟨by decide, by decide, by decide +kernel⟩, by decide⟩
theorem cF_77 : fm_cs wsA "EscapeMill$Facts" 77 y_F_refer b_F_refer 3 none 2 := ⟨(iA_3 (mem_i 30 rfl)), (iA_3 (mem_i 28 rfl)), (iA_0 (mem_i 3 rfl)), ⟨by decide, by decide, by decide +kernel⟩, by decide⟩
theorem cF_81 : fm_cs wsA "EscapeMill$Facts" 81 y_F_holdInBoth b_F_holdInBoth 3 none 2 := ⟨(iA_3 (mem_i 33 rfl)), (iA_3 (mem_i 31 rfl)), (iA_0 (mem_i 3 rfl)), ⟨by decide, by decide, by decide +kernel⟩, by decide⟩
theorem cF_110 : fm_cs wsA "EscapeMill$Facts" 110 y_F_holdIn b_F_holdIn 6 none 3 := ⟨(iA_3 (mem_i 36 rfl)), (iA_3 (mem_i 34 rfl)), (iA_0 (mem_i 3 rfl)), ⟨by decide, by decide, by decide +kernel⟩, by decide⟩
theorem cF_59 : fm_cs wsA "EscapeMill$Facts" 59 y_F_applyCall b_F_applyCall 17 none 4 := ⟨(iA_4 (mem_i 0 rfl)), (iA_3 (mem_i 38 rfl)), (iA_0 (mem_i 3 rfl)), ⟨by decide, by decide, by decide +kernel⟩, by decide⟩
theorem cF_105 : fm_cs wsA "EscapeMill$Facts" 105 y_F_reached b_F_reached 5 (some .int) 1 := ⟨(iA_4 (mem_i 3 rfl)), (iA_4 (mem_i 1 rfl)), (iA_0 (mem_i 3 rfl)), ⟨by decide, by decide, by decide +kernel⟩, by decide⟩
theorem cF_94 : fm_cs wsA "EscapeMill$Facts" 94 y_F_heldBy b_F_heldBy 6 (some .int) 2 := ⟨(iA_4 (mem_i 6 rfl)), (iA_4 (mem_i 4 rfl)), (iA_0 (mem_i 3 rfl)), ⟨by decide, by decide, by decide +kernel⟩, by decide⟩
theorem cF_63 : fm_cs wsA "EscapeMill$Facts" 63 y_F_apply b_F_apply 6 none 2 := ⟨(iA_4 (mem_i 9 rfl)), (iA_4 (mem_i 7 rfl)), (iA_0 (mem_i 3 rfl)), ⟨by decide, by decide, by decide +kernel⟩, by decide⟩
theorem cF_98 : fm_cs wsA "EscapeMill$Facts" 98 y_F_hold b_F_hold 5 none 3 := ⟨(iA_4 (mem_i 12 rfl)), (iA_4 (mem_i 10 rfl)), (iA_0 (mem_i 3 rfl)), ⟨by decide, by decide, by decide +kernel⟩, by decide⟩
theorem cF_67 : fm_cs wsA "EscapeMill$Facts" 67 y_F_sumUp b_F_sumUp 6 none 1 := ⟨(iA_4 (mem_i 16 rfl)), (iA_4 (mem_i 14 rfl)), (iA_0 (mem_i 3 rfl)), ⟨by decide, by decide, by decide +kernel⟩, by decide⟩
theorem cE_121 : fm_cs wsA "EscapeMill" 121 y_P_draw b_P_draw 8 none 3 := ⟨(iA_4 (mem_i 20 rfl)), (iA_4 (mem_i 17 rfl)), (iA_0 (mem_i 4 rfl)), ⟨by decide, by decide, by decide +kernel⟩, by decide⟩
theorem cP_15 : fm_cs wsA "EscapeMill$Plan" 15 y_A_fill b_A_fill 4 none 2 := ⟨(iA_3 (mem_i 23 rfl)), (iA_4 (mem_i 21 rfl)), (iA_0 (mem_i 6 rfl)), ⟨by decide, by decide, by decide +kernel⟩, by decide⟩
theorem cP_27 : fm_cs wsA "EscapeMill$Plan" 27 y_P_soleNew b_P_soleNew 4 (some .int) 2 := ⟨(iA_4 (mem_i 24 rfl)), (iA_4 (mem_i 22 rfl)), (iA_0 (mem_i 4 rfl)), ⟨by decide, by decide, by decide +kernel⟩, by decide⟩
theorem cP_58 : fm_cs wsA "EscapeMill$Plan" 58 y_C_defines b_C_defines 3 (some .boolean) 2 := ⟨(iA_4 (mem_i 28 rfl)), (iA_4 (mem_i 25 rfl)), (iA_0 (mem_i 2 rfl)), ⟨by decide, by decide, by decide +kernel⟩, by decide⟩
theorem cP_31 : fm_cs wsA "EscapeMill$Plan" 31 y_C_reachedWithout b_C_reachedWithout 6 (some .int) 1 := ⟨(iA_4 (mem_i 32 rfl)), (iA_4 (mem_i 29 rfl)), (iA_0 (mem_i 2 rfl)), ⟨by decide, by decide, by decide +kernel⟩, by decide⟩
theorem cC_34 : fm_cs wsA "EscapeMill$Code" 34 y_C_bit b_C_bit 2 (some .int) 1 := ⟨(iA_4 (mem_i 35 rfl)), (iA_4 (mem_i 33 rfl)), (iA_0 (mem_i 2 rfl)), ⟨by decide, by decide, by decide +kernel⟩, by decide⟩
theorem cC_45 : fm_cs wsA "EscapeMill$Code" 45 y_C_has b_C_has 2 (some .boolean) 1 := ⟨(iA_4 (mem_i 39 rfl)), (iA_4 (mem_i 36 rfl)), (iA_0 (mem_i 2 rfl)), ⟨by decide, by decide, by decide +kernel⟩, by decide⟩
theorem cC_38 : fm_cs wsA "EscapeMill$Code" 38 y_C_behind b_C_behind 4 (some .int) 1 := ⟨(iA_5 (mem_i 2 rfl)), (iA_5 (mem_i 0 rfl)), (iA_0 (mem_i 2 rfl)), ⟨by decide, by decide, by decide +kernel⟩, by decide⟩
theorem cC_41 : fm_cs wsA "EscapeMill$Code" 41 y_C_jumps b_C_jumps 2 (some .boolean) 1 := ⟨(iA_5 (mem_i 6 rfl)), (iA_5 (mem_i 3 rfl)), (iA_0 (mem_i 2 rfl)), ⟨by decide, by decide, by decide +kernel⟩, by decide⟩
theorem cP_35 : fm_cs wsA "EscapeMill$Plan" 35 y_P_staysInside b_P_staysInside 6 (some .boolean) 3 := ⟨(iA_5 (mem_i 9 rfl)), (iA_5 (mem_i 7 rfl)), (iA_0 (mem_i 4 rfl)), ⟨by decide, by decide, by decide +kernel⟩, by decide⟩
theorem cP_68 : fm_cs wsA "EscapeMill$Plan" 68 y_C_handsOn b_C_handsOn 4 (some .boolean) 3 := ⟨(iA_5 (mem_i 13 rfl)), (iA_5 (mem_i 10 rfl)), (iA_0 (mem_i 2 rfl)), ⟨by decide, by decide, by decide +kernel⟩, by decide⟩
theorem cP_39 : fm_cs wsA "EscapeMill$Plan" 39 y_P_isMadeFirst b_P_isMadeFirst 4 (some .boolean) 3 := ⟨(iA_5 (mem_i 16 rfl)), (iA_5 (mem_i 14 rfl)), (iA_0 (mem_i 4 rfl)), ⟨by decide, by decide, by decide +kernel⟩, by decide⟩
theorem cP_72 : fm_cs wsA "EscapeMill$Plan" 72 y_C_worksOn b_C_worksOn 3 (some .boolean) 2 := ⟨(iA_5 (mem_i 20 rfl)), (iA_5 (mem_i 17 rfl)), (iA_0 (mem_i 2 rfl)), ⟨by decide, by decide, by decide +kernel⟩, by decide⟩
theorem cP_43 : fm_cs wsA "EscapeMill$Plan" 43 y_P_takeApart b_P_takeApart 5 none 3 := ⟨(iA_5 (mem_i 23 rfl)), (iA_5 (mem_i 21 rfl)), (iA_0 (mem_i 4 rfl)), ⟨by decide, by decide, by decide +kernel⟩, by decide⟩
theorem cP_47 : fm_cs wsA "EscapeMill$Plan" 47 y_F_escapeOf b_F_escapeOf 2 (some .int) 1 := ⟨(iA_5 (mem_i 27 rfl)), (iA_5 (mem_i 24 rfl)), (iA_0 (mem_i 3 rfl)), ⟨by decide, by decide, by decide +kernel⟩, by decide⟩
theorem cP_52 : fm_cs wsA "EscapeMill$Plan" 52 y_P_pairLocks b_P_pairLocks 6 none 3 := ⟨(iA_5 (mem_i 30 rfl)), (iA_5 (mem_i 28 rfl)), (iA_0 (mem_i 4 rfl)), ⟨by decide, by decide, by decide +kernel⟩, by decide⟩
theorem cP_78 : fm_cs wsA "EscapeMill$Plan" 78 y_P_partner b_P_partner 3 (some .int) 2 := ⟨(iA_5 (mem_i 33 rfl)), (iA_5 (mem_i 31 rfl)), (iA_0 (mem_i 4 rfl)), ⟨by decide, by decide, by decide +kernel⟩, by decide⟩
theorem cP_81 : fm_cs wsA "EscapeMill$Plan" 81 y_P_isJumpedInto b_P_isJumpedInto 4 (some .boolean) 3 := ⟨(iA_5 (mem_i 36 rfl)), (iA_5 (mem_i 34 rfl)), (iA_0 (mem_i 4 rfl)), ⟨by decide, by decide, by decide +kernel⟩, by decide⟩
theorem cP_88 : fm_cs wsA "EscapeMill$Plan" 88 y_C_jumps b_C_jumps 2 (some .boolean) 1 := ⟨(iA_5 (mem_i 6 rfl)), (iA_5 (mem_i 37 rfl)), (iA_0 (mem_i 2 rfl)), ⟨by decide, by decide, by decide +kernel⟩, by decide⟩
theorem cP_84 : fm_cs wsA "EscapeMill$Plan" 84 y_P_endsPairing b_P_endsPairing 1 (some .boolean) 1 := ⟨(iA_6 (mem_i 0 rfl)), (iA_5 (mem_i 38 rfl)), (iA_0 (mem_i 4 rfl)), ⟨by decide, by decide, by decide +kernel⟩, by decide⟩
theorem cE_69 : fm_cs wsA "EscapeMill" 69 y_M_go b_M_go 8 (some .int) 3 := ⟨(iA_6 (mem_i 4 rfl)), (iA_6 (mem_i 1 rfl)), (iA_0 (mem_i 1 rfl)), ⟨by decide, by decide, by decide +kernel⟩, by decide⟩
theorem cM_61 : fm_cs wsA "EscapeMill$Machine" 61 y_M_begin b_M_begin 1 none 0 := ⟨(iA_6 (mem_i 7 rfl)), (iA_6 (mem_i 5 rfl)), (iA_0 (mem_i 1 rfl)), ⟨by decide, by decide, by decide +kernel⟩, by decide⟩
theorem cM_83 : fm_cs wsA "EscapeMill$Machine" 83 y_A_fill b_A_fill 4 none 2 := ⟨(iA_3 (mem_i 23 rfl)), (iA_6 (mem_i 8 rfl)), (iA_0 (mem_i 6 rfl)), ⟨by decide, by decide, by decide +kernel⟩, by decide⟩
theorem cM_89 : fm_cs wsA "EscapeMill$Machine" 89 y_M_enter b_M_enter 7 none 4 := ⟨(iA_6 (mem_i 11 rfl)), (iA_6 (mem_i 9 rfl)), (iA_0 (mem_i 1 rfl)), ⟨by decide, by decide, by decide +kernel⟩, by decide⟩
theorem cM_124 : fm_cs wsA "EscapeMill$Machine" 124 y_M_base b_M_base 1 (some .int) 0 := ⟨(iA_6 (mem_i 14 rfl)), (iA_6 (mem_i 12 rfl)), (iA_0 (mem_i 1 rfl)), ⟨by decide, by decide, by decide +kernel⟩, by decide⟩
theorem cM_64 : fm_cs wsA "EscapeMill$Machine" 64 y_C_has b_C_has 2 (some .boolean) 1 := ⟨(iA_4 (mem_i 39 rfl)), (iA_6 (mem_i 15 rfl)), (iA_0 (mem_i 2 rfl)), ⟨by decide, by decide, by decide +kernel⟩, by decide⟩
theorem cM_70 : fm_cs wsA "EscapeMill$Machine" 70 y_M_leave b_M_leave 2 none 1 := ⟨(iA_6 (mem_i 18 rfl)), (iA_6 (mem_i 16 rfl)), (iA_0 (mem_i 1 rfl)), ⟨by decide, by decide, by decide +kernel⟩, by decide⟩
theorem cM_79 : fm_cs wsA "EscapeMill$Machine" 79 y_M_perform b_M_perform 8 none 4 := ⟨(iA_6 (mem_i 21 rfl)), (iA_6 (mem_i 19 rfl)), (iA_0 (mem_i 1 rfl)), ⟨by decide, by decide, by decide +kernel⟩, by decide⟩
theorem cM_105 : fm_cs wsA "EscapeMill$Machine" 105 y_M_cellOf b_M_cellOf 2 (some .int) 1 := ⟨(iA_6 (mem_i 24 rfl)), (iA_6 (mem_i 22 rfl)), (iA_0 (mem_i 1 rfl)), ⟨by decide, by decide, by decide +kernel⟩, by decide⟩
theorem cM_109 : fm_cs wsA "EscapeMill$Machine" 109 y_M_workOnField b_M_workOnField 8 none 5 := ⟨(iA_6 (mem_i 27 rfl)), (iA_6 (mem_i 25 rfl)), (iA_0 (mem_i 1 rfl)), ⟨by decide, by decide, by decide +kernel⟩, by decide⟩
theorem cM_113 : fm_cs wsA "EscapeMill$Machine" 113 y_M_changeCount b_M_changeCount 3 none 2 := ⟨(iA_6 (mem_i 30 rfl)), (iA_6 (mem_i 28 rfl)), (iA_0 (mem_i 1 rfl)), ⟨by decide, by decide, by decide +kernel⟩, by decide⟩
theorem cM_117 : fm_cs wsA "EscapeMill$Machine" 117 y_M_call b_M_call 9 none 3 := ⟨(iA_6 (mem_i 33 rfl)), (iA_6 (mem_i 31 rfl)), (iA_0 (mem_i 1 rfl)), ⟨by decide, by decide, by decide +kernel⟩, by decide⟩
theorem cM_128 : fm_cs wsA "EscapeMill$Machine" 128 y_M_newParts b_M_newParts 2 (some .int) 1 := ⟨(iA_6 (mem_i 36 rfl)), (iA_6 (mem_i 34 rfl)), (iA_0 (mem_i 1 rfl)), ⟨by decide, by decide, by decide +kernel⟩, by decide⟩
theorem cM_141 : fm_cs wsA "EscapeMill$Machine" 141 y_M_emptied b_M_emptied 3 (some .int) 1 := ⟨(iA_6 (mem_i 39 rfl)), (iA_6 (mem_i 37 rfl)), (iA_0 (mem_i 1 rfl)), ⟨by decide, by decide, by decide +kernel⟩, by decide⟩
theorem cM_131 : fm_cs wsA "EscapeMill$Machine" 131 y_M_newObject b_M_newObject 1 (some .int) 0 := ⟨(iA_7 (mem_i 2 rfl)), (iA_7 (mem_i 0 rfl)), (iA_0 (mem_i 1 rfl)), ⟨by decide, by decide, by decide +kernel⟩, by decide⟩
theorem cM_134 : fm_cs wsA "EscapeMill$Machine" 134 y_M_move b_M_move 7 none 2 := ⟨(iA_7 (mem_i 5 rfl)), (iA_7 (mem_i 3 rfl)), (iA_0 (mem_i 1 rfl)), ⟨by decide, by decide, by decide +kernel⟩, by decide⟩
theorem cM_138 : fm_cs wsA "EscapeMill$Machine" 138 y_M_show b_M_show 2 none 1 := ⟨(iA_7 (mem_i 8 rfl)), (iA_7 (mem_i 6 rfl)), (iA_0 (mem_i 1 rfl)), ⟨by decide, by decide, by decide +kernel⟩, by decide⟩
theorem cE_41 : fm_cs wsA "EscapeMill" 41 y_E_isMethod b_E_isMethod 1 (some .boolean) 1 := ⟨(iA_7 (mem_i 17 rfl)), (iA_7 (mem_i 15 rfl)), (iA_0 (mem_i 0 rfl)), ⟨by decide, by decide, by decide +kernel⟩, by decide⟩
theorem cE_95 : fm_cs wsA "EscapeMill" 95 y_C_has b_C_has 2 (some .boolean) 1 := ⟨(iA_4 (mem_i 39 rfl)), (iA_7 (mem_i 18 rfl)), (iA_0 (mem_i 2 rfl)), ⟨by decide, by decide, by decide +kernel⟩, by decide⟩
theorem cE_101 : fm_cs wsA "EscapeMill" 101 y_F_escapeOf b_F_escapeOf 2 (some .int) 1 := ⟨(iA_5 (mem_i 27 rfl)), (iA_7 (mem_i 19 rfl)), (iA_0 (mem_i 3 rfl)), ⟨by decide, by decide, by decide +kernel⟩, by decide⟩
theorem cE_52 : fm_cs wsA "EscapeMill" 52 y_E_isInstruction b_E_isInstruction 6 (some .boolean) 5 := ⟨(iA_8 (mem_i 1 rfl)), (iA_7 (mem_i 39 rfl)), (iA_0 (mem_i 0 rfl)), ⟨by decide, by decide, by decide +kernel⟩, by decide⟩
theorem cE_114 : fm_cs wsA "EscapeMill" 114 y_E_isVariable b_E_isVariable 1 (some .boolean) 1 := ⟨(iA_8 (mem_i 4 rfl)), (iA_8 (mem_i 2 rfl)), (iA_0 (mem_i 0 rfl)), ⟨by decide, by decide, by decide +kernel⟩, by decide⟩
theorem cE_62 : fm_cs wsA "EscapeMill" 62 y_C_append b_C_append 7 (some .int) 5 := ⟨(iA_8 (mem_i 9 rfl)), (iA_8 (mem_i 6 rfl)), (iA_0 (mem_i 2 rfl)), ⟨by decide, by decide, by decide +kernel⟩, by decide⟩
theorem cR_81 : fm_cs wsA "EscapeMillModel" 81 y_R_isMethod b_R_isMethod 1 (some .boolean) 1 := ⟨(iA_10 (mem_i 8 rfl)), (iA_10 (mem_i 6 rfl)), (iA_0 (mem_i 5 rfl)), ⟨by decide, by decide, by decide +kernel⟩, by decide⟩
theorem cR_89 : fm_cs wsA "EscapeMillModel" 89 y_R_four b_R_four 1 (some .boolean) 1 := ⟨(iA_10 (mem_i 14 rfl)), (iA_10 (mem_i 12 rfl)), (iA_0 (mem_i 5 rfl)), ⟨by decide, by decide, by decide +kernel⟩, by decide⟩
theorem cR_195 : fm_cs wsA "EscapeMillModel" 195 y_R_know b_R_know 2 none 0 := ⟨(iA_10 (mem_i 23 rfl)), (iA_10 (mem_i 21 rfl)), (iA_0 (mem_i 5 rfl)), ⟨by decide, by decide, by decide +kernel⟩, by decide⟩
theorem cR_121 : fm_cs wsA "EscapeMillModel" 121 y_R_analyse b_R_analyse 8 none 1 := ⟨(iA_10 (mem_i 26 rfl)), (iA_10 (mem_i 24 rfl)), (iA_0 (mem_i 5 rfl)), ⟨by decide, by decide, by decide +kernel⟩, by decide⟩
theorem cR_97 : fm_cs wsA "EscapeMillModel" 97 y_R_holds b_R_holds 8 none 4 := ⟨(iA_10 (mem_i 30 rfl)), (iA_10 (mem_i 28 rfl)), (iA_0 (mem_i 5 rfl)), ⟨by decide, by decide, by decide +kernel⟩, by decide⟩
theorem cR_114 : fm_cs wsA "EscapeMillModel" 114 y_R_weight b_R_weight 5 (some .int) 1 := ⟨(iA_10 (mem_i 33 rfl)), (iA_10 (mem_i 31 rfl)), (iA_0 (mem_i 5 rfl)), ⟨by decide, by decide, by decide +kernel⟩, by decide⟩
theorem cR_118 : fm_cs wsA "EscapeMillModel" 118 y_R_adds b_R_adds 6 none 2 := ⟨(iA_10 (mem_i 36 rfl)), (iA_10 (mem_i 34 rfl)), (iA_0 (mem_i 5 rfl)), ⟨by decide, by decide, by decide +kernel⟩, by decide⟩
theorem cR_101 : fm_cs wsA "EscapeMillModel" 101 y_R_held b_R_held 6 (some .int) 3 := ⟨(iA_10 (mem_i 39 rfl)), (iA_10 (mem_i 37 rfl)), (iA_0 (mem_i 5 rfl)), ⟨by decide, by decide, by decide +kernel⟩, by decide⟩
theorem cR_108 : fm_cs wsA "EscapeMillModel" 108 y_R_calls b_R_calls 11 none 2 := ⟨(iA_11 (mem_i 2 rfl)), (iA_11 (mem_i 0 rfl)), (iA_0 (mem_i 5 rfl)), ⟨by decide, by decide, by decide +kernel⟩, by decide⟩
theorem cR_93 : fm_cs wsA "EscapeMillModel" 93 y_R_reached b_R_reached 6 (some .int) 2 := ⟨(iA_11 (mem_i 5 rfl)), (iA_11 (mem_i 3 rfl)), (iA_0 (mem_i 5 rfl)), ⟨by decide, by decide, by decide +kernel⟩, by decide⟩
theorem cR_105 : fm_cs wsA "EscapeMillModel" 105 y_R_stateOf b_R_stateOf 4 (some .int) 3 := ⟨(iA_11 (mem_i 8 rfl)), (iA_11 (mem_i 6 rfl)), (iA_0 (mem_i 5 rfl)), ⟨by decide, by decide, by decide +kernel⟩, by decide⟩
theorem cR_198 : fm_cs wsA "EscapeMillModel" 198 y_R_fateOf b_R_fateOf 6 (some .int) 2 := ⟨(iA_11 (mem_i 11 rfl)), (iA_11 (mem_i 9 rfl)), (iA_0 (mem_i 5 rfl)), ⟨by decide, by decide, by decide +kernel⟩, by decide⟩
theorem cR_138 : fm_cs wsA "EscapeMillModel" 138 y_R_worksOn b_R_worksOn 8 (some .boolean) 3 := ⟨(iA_11 (mem_i 14 rfl)), (iA_11 (mem_i 12 rfl)), (iA_0 (mem_i 5 rfl)), ⟨by decide, by decide, by decide +kernel⟩, by decide⟩
theorem cR_148 : fm_cs wsA "EscapeMillModel" 148 y_R_apart b_R_apart 8 (some .boolean) 2 := ⟨(iA_11 (mem_i 17 rfl)), (iA_11 (mem_i 15 rfl)), (iA_0 (mem_i 5 rfl)), ⟨by decide, by decide, by decide +kernel⟩, by decide⟩
theorem cR_135 : fm_cs wsA "EscapeMillModel" 135 y_R_onlyNew b_R_onlyNew 7 (some .int) 2 := ⟨(iA_11 (mem_i 20 rfl)), (iA_11 (mem_i 18 rfl)), (iA_0 (mem_i 5 rfl)), ⟨by decide, by decide, by decide +kernel⟩, by decide⟩
theorem cR_132 : fm_cs wsA "EscapeMillModel" 132 y_R_defines b_R_defines 1 (some .boolean) 1 := ⟨(iA_11 (mem_i 23 rfl)), (iA_11 (mem_i 21 rfl)), (iA_0 (mem_i 5 rfl)), ⟨by decide, by decide, by decide +kernel⟩, by decide⟩
theorem cR_142 : fm_cs wsA "EscapeMillModel" 142 y_R_gives b_R_gives 9 (some .boolean) 3 := ⟨(iA_11 (mem_i 26 rfl)), (iA_11 (mem_i 24 rfl)), (iA_0 (mem_i 5 rfl)), ⟨by decide, by decide, by decide +kernel⟩, by decide⟩
theorem cR_145 : fm_cs wsA "EscapeMillModel" 145 y_R_dominates b_R_dominates 9 (some .boolean) 3 := ⟨(iA_11 (mem_i 29 rfl)), (iA_11 (mem_i 27 rfl)), (iA_0 (mem_i 5 rfl)), ⟨by decide, by decide, by decide +kernel⟩, by decide⟩
theorem cR_128 : fm_cs wsA "EscapeMillModel" 128 y_R_isInstruction b_R_isInstruction 3 (some .boolean) 2 := ⟨(iA_11 (mem_i 32 rfl)), (iA_11 (mem_i 30 rfl)), (iA_0 (mem_i 5 rfl)), ⟨by decide, by decide, by decide +kernel⟩, by decide⟩
theorem cR_154 : fm_cs wsA "EscapeMillModel" 154 y_R_pair b_R_pair 12 (some .boolean) 3 := ⟨(iA_11 (mem_i 35 rfl)), (iA_11 (mem_i 33 rfl)), (iA_0 (mem_i 5 rfl)), ⟨by decide, by decide, by decide +kernel⟩, by decide⟩
theorem cR_151 : fm_cs wsA "EscapeMillModel" 151 y_R_escapeOf b_R_escapeOf 5 (some .int) 2 := ⟨(iA_11 (mem_i 38 rfl)), (iA_11 (mem_i 36 rfl)), (iA_0 (mem_i 5 rfl)), ⟨by decide, by decide, by decide +kernel⟩, by decide⟩
theorem cR_125 : fm_cs wsA "EscapeMillModel" 125 y_R_argsOf b_R_argsOf 2 (some .int) 1 := ⟨(iA_12 (mem_i 1 rfl)), (iA_11 (mem_i 39 rfl)), (iA_0 (mem_i 5 rfl)), ⟨by decide, by decide, by decide +kernel⟩, by decide⟩
theorem cR_173 : fm_cs wsA "EscapeMillModel" 173 y_R_enter b_R_enter 7 none 4 := ⟨(iA_12 (mem_i 6 rfl)), (iA_12 (mem_i 4 rfl)), (iA_0 (mem_i 5 rfl)), ⟨by decide, by decide, by decide +kernel⟩, by decide⟩
theorem cR_176 : fm_cs wsA "EscapeMillModel" 176 y_R_leave b_R_leave 2 none 1 := ⟨(iA_12 (mem_i 9 rfl)), (iA_12 (mem_i 7 rfl)), (iA_0 (mem_i 5 rfl)), ⟨by decide, by decide, by decide +kernel⟩, by decide⟩
theorem cR_204 : fm_cs wsA "EscapeMillModel" 204 y_R_does b_R_does 6 none 2 := ⟨(iA_12 (mem_i 12 rfl)), (iA_12 (mem_i 10 rfl)), (iA_0 (mem_i 5 rfl)), ⟨by decide, by decide, by decide +kernel⟩, by decide⟩
theorem cR_182 : fm_cs wsA "EscapeMillModel" 182 y_R_makes b_R_makes 5 none 2 := ⟨(iA_12 (mem_i 15 rfl)), (iA_12 (mem_i 13 rfl)), (iA_0 (mem_i 5 rfl)), ⟨by decide, by decide, by decide +kernel⟩, by decide⟩
theorem cR_186 : fm_cs wsA "EscapeMillModel" 186 y_R_fields b_R_fields 10 none 2 := ⟨(iA_12 (mem_i 18 rfl)), (iA_12 (mem_i 16 rfl)), (iA_0 (mem_i 5 rfl)), ⟨by decide, by decide, by decide +kernel⟩, by decide⟩
theorem cR_163 : fm_cs wsA "EscapeMillModel" 163 y_R_set b_R_set 4 none 3 := ⟨(iA_12 (mem_i 21 rfl)), (iA_12 (mem_i 19 rfl)), (iA_0 (mem_i 5 rfl)), ⟨by decide, by decide, by decide +kernel⟩, by decide⟩
theorem cR_189 : fm_cs wsA "EscapeMillModel" 189 y_R_call b_R_call 4 none 1 := ⟨(iA_12 (mem_i 24 rfl)), (iA_12 (mem_i 22 rfl)), (iA_0 (mem_i 5 rfl)), ⟨by decide, by decide, by decide +kernel⟩, by decide⟩
theorem cR_192 : fm_cs wsA "EscapeMillModel" 192 y_R_moves b_R_moves 5 none 1 := ⟨(iA_12 (mem_i 27 rfl)), (iA_12 (mem_i 25 rfl)), (iA_0 (mem_i 5 rfl)), ⟨by decide, by decide, by decide +kernel⟩, by decide⟩
end
