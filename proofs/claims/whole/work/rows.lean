section
-- ===== PART A: goes FIRST, ahead of the names: the tables' words, and 'selects' of the private methods out of them =====
/-- a private method of a class that the tables say can be made, by its rows of tables_1 -/
def lw_okq (q : MethodName × Nat) : Prop := (q.1.cls ≠ "java/lang/invoke/MethodHandle" ∧ q.1.cls ≠ "java/lang/invoke/VarHandle") ∧ Cond.instantiable q.1.cls q.2 ∈ tables_1 ∧ Cond.privateMethod q.1 ∈ tables_1 ∧ Cond.instanceMethod q.1 ∈ tables_1
theorem lw_p0 : lw_okq (⟨"OreSolver$Parser", "readSum", "(I)V"⟩, 10) := ⟨⟨by decide +kernel, by decide +kernel⟩, List.mem_of_getElem? (i := 79) (by decide +kernel), List.mem_of_getElem? (i := 275) (by decide +kernel), List.mem_of_getElem? (i := 276) (by decide +kernel)⟩
theorem lw_p1 : lw_okq (⟨"OreSolver$Parser", "next", "()C"⟩, 10) := ⟨⟨by decide +kernel, by decide +kernel⟩, List.mem_of_getElem? (i := 79) (by decide +kernel), List.mem_of_getElem? (i := 279) (by decide +kernel), List.mem_of_getElem? (i := 280) (by decide +kernel)⟩
theorem lw_p2 : lw_okq (⟨"OreSolver$Parser", "takeSign", "()I"⟩, 10) := ⟨⟨by decide +kernel, by decide +kernel⟩, List.mem_of_getElem? (i := 79) (by decide +kernel), List.mem_of_getElem? (i := 286) (by decide +kernel), List.mem_of_getElem? (i := 287) (by decide +kernel)⟩
theorem lw_p3 : lw_okq (⟨"OreSolver$Parser", "readProduct", "(I)V"⟩, 10) := ⟨⟨by decide +kernel, by decide +kernel⟩, List.mem_of_getElem? (i := 79) (by decide +kernel), List.mem_of_getElem? (i := 297) (by decide +kernel), List.mem_of_getElem? (i := 298) (by decide +kernel)⟩
theorem lw_p4 : lw_okq (⟨"OreSolver$Parser", "readPower", "(I)V"⟩, 10) := ⟨⟨by decide +kernel, by decide +kernel⟩, List.mem_of_getElem? (i := 79) (by decide +kernel), List.mem_of_getElem? (i := 310) (by decide +kernel), List.mem_of_getElem? (i := 311) (by decide +kernel)⟩
theorem lw_p5 : lw_okq (⟨"OreSolver$Parser", "readAtom", "(I)V"⟩, 10) := ⟨⟨by decide +kernel, by decide +kernel⟩, List.mem_of_getElem? (i := 79) (by decide +kernel), List.mem_of_getElem? (i := 314) (by decide +kernel), List.mem_of_getElem? (i := 315) (by decide +kernel)⟩
theorem lw_p6 : lw_okq (⟨"OreSolver$Parser", "takeNumber", "()I"⟩, 10) := ⟨⟨by decide +kernel, by decide +kernel⟩, List.mem_of_getElem? (i := 79) (by decide +kernel), List.mem_of_getElem? (i := 321) (by decide +kernel), List.mem_of_getElem? (i := 322) (by decide +kernel)⟩
theorem lw_p7 : lw_okq (⟨"OreSolver$Parser", "readBrackets", "(I)V"⟩, 10) := ⟨⟨by decide +kernel, by decide +kernel⟩, List.mem_of_getElem? (i := 79) (by decide +kernel), List.mem_of_getElem? (i := 325) (by decide +kernel), List.mem_of_getElem? (i := 326) (by decide +kernel)⟩
theorem lw_p8 : lw_okq (⟨"OreSolver", "store", "(ILOreSolver$Operator;)I"⟩, 8) := ⟨⟨by decide +kernel, by decide +kernel⟩, List.mem_of_getElem? (i := 15) (by decide +kernel), List.mem_of_getElem? (i := 411) (by decide +kernel), List.mem_of_getElem? (i := 412) (by decide +kernel)⟩
theorem lw_p9 : lw_okq (⟨"OreSolver$Division", "takeAway", "(ILOreSolver$Operator;)V"⟩, 4) := ⟨⟨by decide +kernel, by decide +kernel⟩, List.mem_of_getElem? (i := 118) (by decide +kernel), List.mem_of_getElem? (i := 457) (by decide +kernel), List.mem_of_getElem? (i := 458) (by decide +kernel)⟩
theorem lw_p10 : lw_okq (⟨"OreSolver$Fractions", "gatherShifts", "(LOreSolver$Operator;LOreSolver$Operator;I)V"⟩, 6) := ⟨⟨by decide +kernel, by decide +kernel⟩, List.mem_of_getElem? (i := 141) (by decide +kernel), List.mem_of_getElem? (i := 474) (by decide +kernel), List.mem_of_getElem? (i := 475) (by decide +kernel)⟩
theorem lw_p11 : lw_okq (⟨"OreSolver$Fractions", "putBefore", "(LOreSolver$Operator;LOreSolver$Operator;)V"⟩, 6) := ⟨⟨by decide +kernel, by decide +kernel⟩, List.mem_of_getElem? (i := 141) (by decide +kernel), List.mem_of_getElem? (i := 480) (by decide +kernel), List.mem_of_getElem? (i := 481) (by decide +kernel)⟩
theorem lw_p12 : lw_okq (⟨"OreSolver$Fractions", "gatherDerivatives", "(LOreSolver$Operator;LOreSolver$Operator;I)V"⟩, 6) := ⟨⟨by decide +kernel, by decide +kernel⟩, List.mem_of_getElem? (i := 141) (by decide +kernel), List.mem_of_getElem? (i := 486) (by decide +kernel), List.mem_of_getElem? (i := 487) (by decide +kernel)⟩
theorem lw_p13 : lw_okq (⟨"OreSolver$Fractions", "advanceStage", "(LOreSolver$Operator;I)V"⟩, 6) := ⟨⟨by decide +kernel, by decide +kernel⟩, List.mem_of_getElem? (i := 141) (by decide +kernel), List.mem_of_getElem? (i := 491) (by decide +kernel), List.mem_of_getElem? (i := 492) (by decide +kernel)⟩
theorem lw_p14 : lw_okq (⟨"OreSolver$Equations", "setUp", "(LOreSolver$Operator;LOreSolver$Operator;I)V"⟩, 6) := ⟨⟨by decide +kernel, by decide +kernel⟩, List.mem_of_getElem? (i := 168) (by decide +kernel), List.mem_of_getElem? (i := 505) (by decide +kernel), List.mem_of_getElem? (i := 506) (by decide +kernel)⟩
theorem lw_p15 : lw_okq (⟨"OreSolver$Equations", "eliminate", "(I)I"⟩, 6) := ⟨⟨by decide +kernel, by decide +kernel⟩, List.mem_of_getElem? (i := 168) (by decide +kernel), List.mem_of_getElem? (i := 514) (by decide +kernel), List.mem_of_getElem? (i := 515) (by decide +kernel)⟩
def lw_privs_1 : List (MethodName × Nat) := [(⟨"OreSolver$Parser", "readSum", "(I)V"⟩, 10), (⟨"OreSolver$Parser", "next", "()C"⟩, 10), (⟨"OreSolver$Parser", "takeSign", "()I"⟩, 10), (⟨"OreSolver$Parser", "readProduct", "(I)V"⟩, 10), (⟨"OreSolver$Parser", "readPower", "(I)V"⟩, 10), (⟨"OreSolver$Parser", "readAtom", "(I)V"⟩, 10), (⟨"OreSolver$Parser", "takeNumber", "()I"⟩, 10), (⟨"OreSolver$Parser", "readBrackets", "(I)V"⟩, 10), (⟨"OreSolver", "store", "(ILOreSolver$Operator;)I"⟩, 8), (⟨"OreSolver$Division", "takeAway", "(ILOreSolver$Operator;)V"⟩, 4), (⟨"OreSolver$Fractions", "gatherShifts", "(LOreSolver$Operator;LOreSolver$Operator;I)V"⟩, 6), (⟨"OreSolver$Fractions", "putBefore", "(LOreSolver$Operator;LOreSolver$Operator;)V"⟩, 6), (⟨"OreSolver$Fractions", "gatherDerivatives", "(LOreSolver$Operator;LOreSolver$Operator;I)V"⟩, 6), (⟨"OreSolver$Fractions", "advanceStage", "(LOreSolver$Operator;I)V"⟩, 6), (⟨"OreSolver$Equations", "setUp", "(LOreSolver$Operator;LOreSolver$Operator;I)V"⟩, 6), (⟨"OreSolver$Equations", "eliminate", "(I)I"⟩, 6)]
theorem lw_r1 : ∀ q ∈ lw_privs_1, lw_okq q := List.forall_mem_cons.mpr ⟨lw_p0, List.forall_mem_cons.mpr ⟨lw_p1, List.forall_mem_cons.mpr ⟨lw_p2, List.forall_mem_cons.mpr ⟨lw_p3, List.forall_mem_cons.mpr ⟨lw_p4, List.forall_mem_cons.mpr ⟨lw_p5, List.forall_mem_cons.mpr ⟨lw_p6, List.forall_mem_cons.mpr ⟨lw_p7, List.forall_mem_cons.mpr ⟨lw_p8, List.forall_mem_cons.mpr ⟨lw_p9, List.forall_mem_cons.mpr ⟨lw_p10, List.forall_mem_cons.mpr ⟨lw_p11, List.forall_mem_cons.mpr ⟨lw_p12, List.forall_mem_cons.mpr ⟨lw_p13, List.forall_mem_cons.mpr ⟨lw_p14, List.forall_mem_cons.mpr ⟨lw_p15, fun _ h => absurd h List.not_mem_nil⟩⟩⟩⟩⟩⟩⟩⟩⟩⟩⟩⟩⟩⟩⟩⟩
theorem lw_p16 : lw_okq (⟨"OreSolver$Equations", "findPivot", "(II)I"⟩, 6) := ⟨⟨by decide +kernel, by decide +kernel⟩, List.mem_of_getElem? (i := 168) (by decide +kernel), List.mem_of_getElem? (i := 518) (by decide +kernel), List.mem_of_getElem? (i := 519) (by decide +kernel)⟩
theorem lw_p17 : lw_okq (⟨"OreSolver$Equations", "swapRows", "(II)V"⟩, 6) := ⟨⟨by decide +kernel, by decide +kernel⟩, List.mem_of_getElem? (i := 168) (by decide +kernel), List.mem_of_getElem? (i := 522) (by decide +kernel), List.mem_of_getElem? (i := 523) (by decide +kernel)⟩
theorem lw_p18 : lw_okq (⟨"OreSolver$Equations", "clearColumn", "(II)V"⟩, 6) := ⟨⟨by decide +kernel, by decide +kernel⟩, List.mem_of_getElem? (i := 168) (by decide +kernel), List.mem_of_getElem? (i := 526) (by decide +kernel), List.mem_of_getElem? (i := 527) (by decide +kernel)⟩
theorem lw_p19 : lw_okq (⟨"OreSolver$Equations", "writeSolutions", "(I)V"⟩, 6) := ⟨⟨by decide +kernel, by decide +kernel⟩, List.mem_of_getElem? (i := 168) (by decide +kernel), List.mem_of_getElem? (i := 531) (by decide +kernel), List.mem_of_getElem? (i := 532) (by decide +kernel)⟩
theorem lw_p20 : lw_okq (⟨"OreSolver$Equations", "writePivots", "(IIII)V"⟩, 6) := ⟨⟨by decide +kernel, by decide +kernel⟩, List.mem_of_getElem? (i := 168) (by decide +kernel), List.mem_of_getElem? (i := 535) (by decide +kernel), List.mem_of_getElem? (i := 536) (by decide +kernel)⟩
theorem lw_p21 : lw_okq (⟨"OreSolver$Lines", "fillValues", "(LOreSolver$Operator;)V"⟩, 4) := ⟨⟨by decide +kernel, by decide +kernel⟩, List.mem_of_getElem? (i := 197) (by decide +kernel), List.mem_of_getElem? (i := 554) (by decide +kernel), List.mem_of_getElem? (i := 555) (by decide +kernel)⟩
theorem lw_p22 : lw_okq (⟨"OreSolver$Lines", "leavesNothing", "(II)Z"⟩, 4) := ⟨⟨by decide +kernel, by decide +kernel⟩, List.mem_of_getElem? (i := 197) (by decide +kernel), List.mem_of_getElem? (i := 560) (by decide +kernel), List.mem_of_getElem? (i := 561) (by decide +kernel)⟩
theorem lw_p23 : lw_okq (⟨"OreSolver$Lines", "restOfShift", "(III)I"⟩, 4) := ⟨⟨by decide +kernel, by decide +kernel⟩, List.mem_of_getElem? (i := 197) (by decide +kernel), List.mem_of_getElem? (i := 564) (by decide +kernel), List.mem_of_getElem? (i := 565) (by decide +kernel)⟩
theorem lw_p24 : lw_okq (⟨"OreSolver$Lines", "restOfDerivative", "(III)I"⟩, 4) := ⟨⟨by decide +kernel, by decide +kernel⟩, List.mem_of_getElem? (i := 197) (by decide +kernel), List.mem_of_getElem? (i := 568) (by decide +kernel), List.mem_of_getElem? (i := 569) (by decide +kernel)⟩
theorem lw_p25 : lw_okq (⟨"OreSolver$Output", "writeTerm", "(III)V"⟩, 2) := ⟨⟨by decide +kernel, by decide +kernel⟩, List.mem_of_getElem? (i := 25) (by decide +kernel), List.mem_of_getElem? (i := 593) (by decide +kernel), List.mem_of_getElem? (i := 594) (by decide +kernel)⟩
theorem lw_p26 : lw_okq (⟨"OreSolver$Output", "writeSymbol", "(C)V"⟩, 2) := ⟨⟨by decide +kernel, by decide +kernel⟩, List.mem_of_getElem? (i := 25) (by decide +kernel), List.mem_of_getElem? (i := 597) (by decide +kernel), List.mem_of_getElem? (i := 598) (by decide +kernel)⟩
theorem lw_p27 : lw_okq (⟨"OreSolver$Output", "writeNumber", "(I)V"⟩, 2) := ⟨⟨by decide +kernel, by decide +kernel⟩, List.mem_of_getElem? (i := 25) (by decide +kernel), List.mem_of_getElem? (i := 601) (by decide +kernel), List.mem_of_getElem? (i := 602) (by decide +kernel)⟩
theorem lw_p28 : lw_okq (⟨"OreSolver$Output", "writePower", "(CI)V"⟩, 2) := ⟨⟨by decide +kernel, by decide +kernel⟩, List.mem_of_getElem? (i := 25) (by decide +kernel), List.mem_of_getElem? (i := 605) (by decide +kernel), List.mem_of_getElem? (i := 606) (by decide +kernel)⟩
theorem lw_p29 : lw_okq (⟨"OreSolverModel", "isSum", "()Z"⟩, 23) := ⟨⟨by decide +kernel, by decide +kernel⟩, List.mem_of_getElem? (i := 616) (by decide +kernel), List.mem_of_getElem? (i := 708) (by decide +kernel), List.mem_of_getElem? (i := 709) (by decide +kernel)⟩
theorem lw_p30 : lw_okq (⟨"OreSolverModel", "isDigit", "(I)Z"⟩, 23) := ⟨⟨by decide +kernel, by decide +kernel⟩, List.mem_of_getElem? (i := 616) (by decide +kernel), List.mem_of_getElem? (i := 712) (by decide +kernel), List.mem_of_getElem? (i := 713) (by decide +kernel)⟩
theorem lw_p31 : lw_okq (⟨"OreSolverModel", "at0", "(I)I"⟩, 23) := ⟨⟨by decide +kernel, by decide +kernel⟩, List.mem_of_getElem? (i := 616) (by decide +kernel), List.mem_of_getElem? (i := 716) (by decide +kernel), List.mem_of_getElem? (i := 717) (by decide +kernel)⟩
def lw_privs_2 : List (MethodName × Nat) := [(⟨"OreSolver$Equations", "findPivot", "(II)I"⟩, 6), (⟨"OreSolver$Equations", "swapRows", "(II)V"⟩, 6), (⟨"OreSolver$Equations", "clearColumn", "(II)V"⟩, 6), (⟨"OreSolver$Equations", "writeSolutions", "(I)V"⟩, 6), (⟨"OreSolver$Equations", "writePivots", "(IIII)V"⟩, 6), (⟨"OreSolver$Lines", "fillValues", "(LOreSolver$Operator;)V"⟩, 4), (⟨"OreSolver$Lines", "leavesNothing", "(II)Z"⟩, 4), (⟨"OreSolver$Lines", "restOfShift", "(III)I"⟩, 4), (⟨"OreSolver$Lines", "restOfDerivative", "(III)I"⟩, 4), (⟨"OreSolver$Output", "writeTerm", "(III)V"⟩, 2), (⟨"OreSolver$Output", "writeSymbol", "(C)V"⟩, 2), (⟨"OreSolver$Output", "writeNumber", "(I)V"⟩, 2), (⟨"OreSolver$Output", "writePower", "(CI)V"⟩, 2), (⟨"OreSolverModel", "isSum", "()Z"⟩, 23), (⟨"OreSolverModel", "isDigit", "(I)Z"⟩, 23), (⟨"OreSolverModel", "at0", "(I)I"⟩, 23)]
theorem lw_r2 : ∀ q ∈ lw_privs_2, lw_okq q := List.forall_mem_cons.mpr ⟨lw_p16, List.forall_mem_cons.mpr ⟨lw_p17, List.forall_mem_cons.mpr ⟨lw_p18, List.forall_mem_cons.mpr ⟨lw_p19, List.forall_mem_cons.mpr ⟨lw_p20, List.forall_mem_cons.mpr ⟨lw_p21, List.forall_mem_cons.mpr ⟨lw_p22, List.forall_mem_cons.mpr ⟨lw_p23, List.forall_mem_cons.mpr ⟨lw_p24, List.forall_mem_cons.mpr ⟨lw_p25, List.forall_mem_cons.mpr ⟨lw_p26, List.forall_mem_cons.mpr ⟨lw_p27, List.forall_mem_cons.mpr ⟨lw_p28, List.forall_mem_cons.mpr ⟨lw_p29, List.forall_mem_cons.mpr ⟨lw_p30, List.forall_mem_cons.mpr ⟨lw_p31, fun _ h => absurd h List.not_mem_nil⟩⟩⟩⟩⟩⟩⟩⟩⟩⟩⟩⟩⟩⟩⟩⟩
theorem lw_p32 : lw_okq (⟨"OreSolverModel", "numberEnd", "(I)I"⟩, 23) := ⟨⟨by decide +kernel, by decide +kernel⟩, List.mem_of_getElem? (i := 616) (by decide +kernel), List.mem_of_getElem? (i := 720) (by decide +kernel), List.mem_of_getElem? (i := 721) (by decide +kernel)⟩
theorem lw_p33 : lw_okq (⟨"OreSolverModel", "work", "()V"⟩, 23) := ⟨⟨by decide +kernel, by decide +kernel⟩, List.mem_of_getElem? (i := 616) (by decide +kernel), List.mem_of_getElem? (i := 724) (by decide +kernel), List.mem_of_getElem? (i := 725) (by decide +kernel)⟩
theorem lw_p34 : lw_okq (⟨"OreSolverModel", "open", "()V"⟩, 23) := ⟨⟨by decide +kernel, by decide +kernel⟩, List.mem_of_getElem? (i := 616) (by decide +kernel), List.mem_of_getElem? (i := 728) (by decide +kernel), List.mem_of_getElem? (i := 729) (by decide +kernel)⟩
theorem lw_p35 : lw_okq (⟨"OreSolverModel", "sumOf", "(I)I"⟩, 23) := ⟨⟨by decide +kernel, by decide +kernel⟩, List.mem_of_getElem? (i := 616) (by decide +kernel), List.mem_of_getElem? (i := 732) (by decide +kernel), List.mem_of_getElem? (i := 733) (by decide +kernel)⟩
theorem lw_p36 : lw_okq (⟨"OreSolverModel", "zero", "(I)V"⟩, 23) := ⟨⟨by decide +kernel, by decide +kernel⟩, List.mem_of_getElem? (i := 616) (by decide +kernel), List.mem_of_getElem? (i := 736) (by decide +kernel), List.mem_of_getElem? (i := 737) (by decide +kernel)⟩
theorem lw_p37 : lw_okq (⟨"OreSolverModel", "beginProduct", "(I)V"⟩, 23) := ⟨⟨by decide +kernel, by decide +kernel⟩, List.mem_of_getElem? (i := 616) (by decide +kernel), List.mem_of_getElem? (i := 740) (by decide +kernel), List.mem_of_getElem? (i := 741) (by decide +kernel)⟩
theorem lw_p38 : lw_okq (⟨"OreSolverModel", "productOf", "(I)I"⟩, 23) := ⟨⟨by decide +kernel, by decide +kernel⟩, List.mem_of_getElem? (i := 616) (by decide +kernel), List.mem_of_getElem? (i := 744) (by decide +kernel), List.mem_of_getElem? (i := 745) (by decide +kernel)⟩
theorem lw_p39 : lw_okq (⟨"OreSolverModel", "endProduct", "()V"⟩, 23) := ⟨⟨by decide +kernel, by decide +kernel⟩, List.mem_of_getElem? (i := 616) (by decide +kernel), List.mem_of_getElem? (i := 748) (by decide +kernel), List.mem_of_getElem? (i := 749) (by decide +kernel)⟩
theorem lw_p40 : lw_okq (⟨"OreSolverModel", "load", "(II)V"⟩, 23) := ⟨⟨by decide +kernel, by decide +kernel⟩, List.mem_of_getElem? (i := 616) (by decide +kernel), List.mem_of_getElem? (i := 755) (by decide +kernel), List.mem_of_getElem? (i := 756) (by decide +kernel)⟩
theorem lw_p41 : lw_okq (⟨"OreSolverModel", "wipe", "(I)V"⟩, 23) := ⟨⟨by decide +kernel, by decide +kernel⟩, List.mem_of_getElem? (i := 616) (by decide +kernel), List.mem_of_getElem? (i := 759) (by decide +kernel), List.mem_of_getElem? (i := 760) (by decide +kernel)⟩
theorem lw_p42 : lw_okq (⟨"OreSolverModel", "take", "(I)I"⟩, 23) := ⟨⟨by decide +kernel, by decide +kernel⟩, List.mem_of_getElem? (i := 616) (by decide +kernel), List.mem_of_getElem? (i := 763) (by decide +kernel), List.mem_of_getElem? (i := 764) (by decide +kernel)⟩
theorem lw_p43 : lw_okq (⟨"OreSolverModel", "copy", "(II)V"⟩, 23) := ⟨⟨by decide +kernel, by decide +kernel⟩, List.mem_of_getElem? (i := 616) (by decide +kernel), List.mem_of_getElem? (i := 767) (by decide +kernel), List.mem_of_getElem? (i := 768) (by decide +kernel)⟩
theorem lw_p44 : lw_okq (⟨"OreSolverModel", "multiplyTables", "(IIII)V"⟩, 23) := ⟨⟨by decide +kernel, by decide +kernel⟩, List.mem_of_getElem? (i := 616) (by decide +kernel), List.mem_of_getElem? (i := 771) (by decide +kernel), List.mem_of_getElem? (i := 772) (by decide +kernel)⟩
theorem lw_p45 : lw_okq (⟨"OreSolverModel", "orderOf", "(I)I"⟩, 23) := ⟨⟨by decide +kernel, by decide +kernel⟩, List.mem_of_getElem? (i := 616) (by decide +kernel), List.mem_of_getElem? (i := 775) (by decide +kernel), List.mem_of_getElem? (i := 776) (by decide +kernel)⟩
theorem lw_p46 : lw_okq (⟨"OreSolverModel", "degree", "(II)I"⟩, 23) := ⟨⟨by decide +kernel, by decide +kernel⟩, List.mem_of_getElem? (i := 616) (by decide +kernel), List.mem_of_getElem? (i := 779) (by decide +kernel), List.mem_of_getElem? (i := 780) (by decide +kernel)⟩
theorem lw_p47 : lw_okq (⟨"OreSolverModel", "get", "(III)I"⟩, 23) := ⟨⟨by decide +kernel, by decide +kernel⟩, List.mem_of_getElem? (i := 616) (by decide +kernel), List.mem_of_getElem? (i := 783) (by decide +kernel), List.mem_of_getElem? (i := 784) (by decide +kernel)⟩
def lw_privs_3 : List (MethodName × Nat) := [(⟨"OreSolverModel", "numberEnd", "(I)I"⟩, 23), (⟨"OreSolverModel", "work", "()V"⟩, 23), (⟨"OreSolverModel", "open", "()V"⟩, 23), (⟨"OreSolverModel", "sumOf", "(I)I"⟩, 23), (⟨"OreSolverModel", "zero", "(I)V"⟩, 23), (⟨"OreSolverModel", "beginProduct", "(I)V"⟩, 23), (⟨"OreSolverModel", "productOf", "(I)I"⟩, 23), (⟨"OreSolverModel", "endProduct", "()V"⟩, 23), (⟨"OreSolverModel", "load", "(II)V"⟩, 23), (⟨"OreSolverModel", "wipe", "(I)V"⟩, 23), (⟨"OreSolverModel", "take", "(I)I"⟩, 23), (⟨"OreSolverModel", "copy", "(II)V"⟩, 23), (⟨"OreSolverModel", "multiplyTables", "(IIII)V"⟩, 23), (⟨"OreSolverModel", "orderOf", "(I)I"⟩, 23), (⟨"OreSolverModel", "degree", "(II)I"⟩, 23), (⟨"OreSolverModel", "get", "(III)I"⟩, 23)]
theorem lw_r3 : ∀ q ∈ lw_privs_3, lw_okq q := List.forall_mem_cons.mpr ⟨lw_p32, List.forall_mem_cons.mpr ⟨lw_p33, List.forall_mem_cons.mpr ⟨lw_p34, List.forall_mem_cons.mpr ⟨lw_p35, List.forall_mem_cons.mpr ⟨lw_p36, List.forall_mem_cons.mpr ⟨lw_p37, List.forall_mem_cons.mpr ⟨lw_p38, List.forall_mem_cons.mpr ⟨lw_p39, List.forall_mem_cons.mpr ⟨lw_p40, List.forall_mem_cons.mpr ⟨lw_p41, List.forall_mem_cons.mpr ⟨lw_p42, List.forall_mem_cons.mpr ⟨lw_p43, List.forall_mem_cons.mpr ⟨lw_p44, List.forall_mem_cons.mpr ⟨lw_p45, List.forall_mem_cons.mpr ⟨lw_p46, List.forall_mem_cons.mpr ⟨lw_p47, fun _ h => absurd h List.not_mem_nil⟩⟩⟩⟩⟩⟩⟩⟩⟩⟩⟩⟩⟩⟩⟩⟩
theorem lw_p48 : lw_okq (⟨"OreSolverModel", "addProduct", "(IIIIIII)V"⟩, 23) := ⟨⟨by decide +kernel, by decide +kernel⟩, List.mem_of_getElem? (i := 616) (by decide +kernel), List.mem_of_getElem? (i := 787) (by decide +kernel), List.mem_of_getElem? (i := 788) (by decide +kernel)⟩
theorem lw_p49 : lw_okq (⟨"OreSolverModel", "plus", "(IIII)V"⟩, 23) := ⟨⟨by decide +kernel, by decide +kernel⟩, List.mem_of_getElem? (i := 616) (by decide +kernel), List.mem_of_getElem? (i := 791) (by decide +kernel), List.mem_of_getElem? (i := 792) (by decide +kernel)⟩
theorem lw_p50 : lw_okq (⟨"OreSolverModel", "raise", "(I)V"⟩, 23) := ⟨⟨by decide +kernel, by decide +kernel⟩, List.mem_of_getElem? (i := 616) (by decide +kernel), List.mem_of_getElem? (i := 795) (by decide +kernel), List.mem_of_getElem? (i := 796) (by decide +kernel)⟩
theorem lw_p51 : lw_okq (⟨"OreSolverModel", "shift", "(II)V"⟩, 23) := ⟨⟨by decide +kernel, by decide +kernel⟩, List.mem_of_getElem? (i := 616) (by decide +kernel), List.mem_of_getElem? (i := 799) (by decide +kernel), List.mem_of_getElem? (i := 800) (by decide +kernel)⟩
theorem lw_p52 : lw_okq (⟨"OreSolverModel", "fits", "(I)Z"⟩, 23) := ⟨⟨by decide +kernel, by decide +kernel⟩, List.mem_of_getElem? (i := 616) (by decide +kernel), List.mem_of_getElem? (i := 803) (by decide +kernel), List.mem_of_getElem? (i := 804) (by decide +kernel)⟩
theorem lw_p53 : lw_okq (⟨"OreSolverModel", "keep", "(II)I"⟩, 23) := ⟨⟨by decide +kernel, by decide +kernel⟩, List.mem_of_getElem? (i := 616) (by decide +kernel), List.mem_of_getElem? (i := 807) (by decide +kernel), List.mem_of_getElem? (i := 808) (by decide +kernel)⟩
theorem lw_p54 : lw_okq (⟨"OreSolverModel", "store", "(II)V"⟩, 23) := ⟨⟨by decide +kernel, by decide +kernel⟩, List.mem_of_getElem? (i := 616) (by decide +kernel), List.mem_of_getElem? (i := 811) (by decide +kernel), List.mem_of_getElem? (i := 812) (by decide +kernel)⟩
theorem lw_p55 : lw_okq (⟨"OreSolverModel", "atom", "(I)I"⟩, 23) := ⟨⟨by decide +kernel, by decide +kernel⟩, List.mem_of_getElem? (i := 616) (by decide +kernel), List.mem_of_getElem? (i := 815) (by decide +kernel), List.mem_of_getElem? (i := 816) (by decide +kernel)⟩
theorem lw_p56 : lw_okq (⟨"OreSolverModel", "applyTables", "(III)V"⟩, 23) := ⟨⟨by decide +kernel, by decide +kernel⟩, List.mem_of_getElem? (i := 616) (by decide +kernel), List.mem_of_getElem? (i := 840) (by decide +kernel), List.mem_of_getElem? (i := 841) (by decide +kernel)⟩
theorem lw_p57 : lw_okq (⟨"OreSolverModel", "turn", "(I)V"⟩, 23) := ⟨⟨by decide +kernel, by decide +kernel⟩, List.mem_of_getElem? (i := 616) (by decide +kernel), List.mem_of_getElem? (i := 844) (by decide +kernel), List.mem_of_getElem? (i := 845) (by decide +kernel)⟩
theorem lw_p58 : lw_okq (⟨"OreSolverModel", "divideTables", "(I)V"⟩, 23) := ⟨⟨by decide +kernel, by decide +kernel⟩, List.mem_of_getElem? (i := 616) (by decide +kernel), List.mem_of_getElem? (i := 852) (by decide +kernel), List.mem_of_getElem? (i := 853) (by decide +kernel)⟩
theorem lw_p59 : lw_okq (⟨"OreSolverModel", "derivedPart", "(II)V"⟩, 23) := ⟨⟨by decide +kernel, by decide +kernel⟩, List.mem_of_getElem? (i := 616) (by decide +kernel), List.mem_of_getElem? (i := 863) (by decide +kernel), List.mem_of_getElem? (i := 864) (by decide +kernel)⟩
theorem lw_p60 : lw_okq (⟨"OreSolverModel", "shiftedPart", "(II)V"⟩, 23) := ⟨⟨by decide +kernel, by decide +kernel⟩, List.mem_of_getElem? (i := 616) (by decide +kernel), List.mem_of_getElem? (i := 867) (by decide +kernel), List.mem_of_getElem? (i := 868) (by decide +kernel)⟩
theorem lw_p61 : lw_okq (⟨"OreSolverModel", "times", "(III)V"⟩, 23) := ⟨⟨by decide +kernel, by decide +kernel⟩, List.mem_of_getElem? (i := 616) (by decide +kernel), List.mem_of_getElem? (i := 871) (by decide +kernel), List.mem_of_getElem? (i := 872) (by decide +kernel)⟩
theorem lw_p62 : lw_okq (⟨"OreSolverModel", "isImage", "(II)Z"⟩, 23) := ⟨⟨by decide +kernel, by decide +kernel⟩, List.mem_of_getElem? (i := 616) (by decide +kernel), List.mem_of_getElem? (i := 879) (by decide +kernel), List.mem_of_getElem? (i := 880) (by decide +kernel)⟩
theorem lw_p63 : lw_okq (⟨"OreSolverModel", "show0", "(I)V"⟩, 23) := ⟨⟨by decide +kernel, by decide +kernel⟩, List.mem_of_getElem? (i := 616) (by decide +kernel), List.mem_of_getElem? (i := 883) (by decide +kernel), List.mem_of_getElem? (i := 884) (by decide +kernel)⟩
def lw_privs_4 : List (MethodName × Nat) := [(⟨"OreSolverModel", "addProduct", "(IIIIIII)V"⟩, 23), (⟨"OreSolverModel", "plus", "(IIII)V"⟩, 23), (⟨"OreSolverModel", "raise", "(I)V"⟩, 23), (⟨"OreSolverModel", "shift", "(II)V"⟩, 23), (⟨"OreSolverModel", "fits", "(I)Z"⟩, 23), (⟨"OreSolverModel", "keep", "(II)I"⟩, 23), (⟨"OreSolverModel", "store", "(II)V"⟩, 23), (⟨"OreSolverModel", "atom", "(I)I"⟩, 23), (⟨"OreSolverModel", "applyTables", "(III)V"⟩, 23), (⟨"OreSolverModel", "turn", "(I)V"⟩, 23), (⟨"OreSolverModel", "divideTables", "(I)V"⟩, 23), (⟨"OreSolverModel", "derivedPart", "(II)V"⟩, 23), (⟨"OreSolverModel", "shiftedPart", "(II)V"⟩, 23), (⟨"OreSolverModel", "times", "(III)V"⟩, 23), (⟨"OreSolverModel", "isImage", "(II)Z"⟩, 23), (⟨"OreSolverModel", "show0", "(I)V"⟩, 23)]
theorem lw_r4 : ∀ q ∈ lw_privs_4, lw_okq q := List.forall_mem_cons.mpr ⟨lw_p48, List.forall_mem_cons.mpr ⟨lw_p49, List.forall_mem_cons.mpr ⟨lw_p50, List.forall_mem_cons.mpr ⟨lw_p51, List.forall_mem_cons.mpr ⟨lw_p52, List.forall_mem_cons.mpr ⟨lw_p53, List.forall_mem_cons.mpr ⟨lw_p54, List.forall_mem_cons.mpr ⟨lw_p55, List.forall_mem_cons.mpr ⟨lw_p56, List.forall_mem_cons.mpr ⟨lw_p57, List.forall_mem_cons.mpr ⟨lw_p58, List.forall_mem_cons.mpr ⟨lw_p59, List.forall_mem_cons.mpr ⟨lw_p60, List.forall_mem_cons.mpr ⟨lw_p61, List.forall_mem_cons.mpr ⟨lw_p62, List.forall_mem_cons.mpr ⟨lw_p63, fun _ h => absurd h List.not_mem_nil⟩⟩⟩⟩⟩⟩⟩⟩⟩⟩⟩⟩⟩⟩⟩⟩
theorem lw_p64 : lw_okq (⟨"OreSolverModel", "reduce", "()V"⟩, 23) := ⟨⟨by decide +kernel, by decide +kernel⟩, List.mem_of_getElem? (i := 616) (by decide +kernel), List.mem_of_getElem? (i := 887) (by decide +kernel), List.mem_of_getElem? (i := 888) (by decide +kernel)⟩
theorem lw_p65 : lw_okq (⟨"OreSolverModel", "firstOf", "()I"⟩, 23) := ⟨⟨by decide +kernel, by decide +kernel⟩, List.mem_of_getElem? (i := 616) (by decide +kernel), List.mem_of_getElem? (i := 891) (by decide +kernel), List.mem_of_getElem? (i := 892) (by decide +kernel)⟩
theorem lw_p66 : lw_okq (⟨"OreSolverModel", "tell", "(I)V"⟩, 23) := ⟨⟨by decide +kernel, by decide +kernel⟩, List.mem_of_getElem? (i := 616) (by decide +kernel), List.mem_of_getElem? (i := 895) (by decide +kernel), List.mem_of_getElem? (i := 896) (by decide +kernel)⟩
theorem lw_p67 : lw_okq (⟨"OreSolverModel", "note", "(II)V"⟩, 23) := ⟨⟨by decide +kernel, by decide +kernel⟩, List.mem_of_getElem? (i := 616) (by decide +kernel), List.mem_of_getElem? (i := 899) (by decide +kernel), List.mem_of_getElem? (i := 900) (by decide +kernel)⟩
theorem lw_p68 : lw_okq (⟨"OreSolverModel", "isFactor", "(II)Z"⟩, 23) := ⟨⟨by decide +kernel, by decide +kernel⟩, List.mem_of_getElem? (i := 616) (by decide +kernel), List.mem_of_getElem? (i := 911) (by decide +kernel), List.mem_of_getElem? (i := 912) (by decide +kernel)⟩
theorem lw_p69 : lw_okq (⟨"OreSolverModel", "next", "(II)V"⟩, 23) := ⟨⟨by decide +kernel, by decide +kernel⟩, List.mem_of_getElem? (i := 616) (by decide +kernel), List.mem_of_getElem? (i := 915) (by decide +kernel), List.mem_of_getElem? (i := 916) (by decide +kernel)⟩
theorem lw_p70 : lw_okq (⟨"OreSolverModel", "write", "(I)V"⟩, 23) := ⟨⟨by decide +kernel, by decide +kernel⟩, List.mem_of_getElem? (i := 616) (by decide +kernel), List.mem_of_getElem? (i := 931) (by decide +kernel), List.mem_of_getElem? (i := 932) (by decide +kernel)⟩
theorem lw_p71 : lw_okq (⟨"OreSolverModel", "writeNumber", "(I)V"⟩, 23) := ⟨⟨by decide +kernel, by decide +kernel⟩, List.mem_of_getElem? (i := 616) (by decide +kernel), List.mem_of_getElem? (i := 935) (by decide +kernel), List.mem_of_getElem? (i := 936) (by decide +kernel)⟩
theorem lw_p72 : lw_okq (⟨"OreSolverModel", "writePower", "(II)V"⟩, 23) := ⟨⟨by decide +kernel, by decide +kernel⟩, List.mem_of_getElem? (i := 616) (by decide +kernel), List.mem_of_getElem? (i := 939) (by decide +kernel), List.mem_of_getElem? (i := 940) (by decide +kernel)⟩
def lw_privs_5 : List (MethodName × Nat) := [(⟨"OreSolverModel", "reduce", "()V"⟩, 23), (⟨"OreSolverModel", "firstOf", "()I"⟩, 23), (⟨"OreSolverModel", "tell", "(I)V"⟩, 23), (⟨"OreSolverModel", "note", "(II)V"⟩, 23), (⟨"OreSolverModel", "isFactor", "(II)Z"⟩, 23), (⟨"OreSolverModel", "next", "(II)V"⟩, 23), (⟨"OreSolverModel", "write", "(I)V"⟩, 23), (⟨"OreSolverModel", "writeNumber", "(I)V"⟩, 23), (⟨"OreSolverModel", "writePower", "(II)V"⟩, 23)]
theorem lw_r5 : ∀ q ∈ lw_privs_5, lw_okq q := List.forall_mem_cons.mpr ⟨lw_p64, List.forall_mem_cons.mpr ⟨lw_p65, List.forall_mem_cons.mpr ⟨lw_p66, List.forall_mem_cons.mpr ⟨lw_p67, List.forall_mem_cons.mpr ⟨lw_p68, List.forall_mem_cons.mpr ⟨lw_p69, List.forall_mem_cons.mpr ⟨lw_p70, List.forall_mem_cons.mpr ⟨lw_p71, List.forall_mem_cons.mpr ⟨lw_p72, fun _ h => absurd h List.not_mem_nil⟩⟩⟩⟩⟩⟩⟩⟩⟩
def lw_privs : List (MethodName × Nat) := lw_privs_1 ++ (lw_privs_2 ++ (lw_privs_3 ++ (lw_privs_4 ++ (lw_privs_5))))
def lw_tbl : List Cond := k2_sels lw_privs ++ tables_1
theorem lw_privs_ok : ∀ q ∈ lw_privs, lw_okq q := by
  show ∀ q ∈ lw_privs_1 ++ (lw_privs_2 ++ (lw_privs_3 ++ (lw_privs_4 ++ (lw_privs_5)))), lw_okq q
  exact List.forall_mem_append.mpr ⟨lw_r1, List.forall_mem_append.mpr ⟨lw_r2, List.forall_mem_append.mpr ⟨lw_r3, List.forall_mem_append.mpr ⟨lw_r4, lw_r5⟩⟩⟩⟩
end
section
/-! the program as lists: printed by wip/gen/prog.py out of the Statement -/
def om_T0 : u_T := fun k => match k with
  | 0 => ("OreSolver$Algebra", "shift", "Z", true)
  | 1 => ("OreSolver$Algebra", "result", "LOreSolver$Operator;", true)
  | _ => ("OreSolver$Algebra", "walker", "LOreSolver$Operator;", true)
def om_y0 : Nat → FieldType := fun k => match k with
  | 0 => .boolean
  | 1 => .object "OreSolver$Operator"
  | _ => .object "OreSolver$Operator"
theorem om_nm0 : ∀ a, a < 3 → ∀ b, b < 3 → a ≠ b → (om_T0 a).2.1 ≠ (om_T0 b).2.1 := by decide +kernel
theorem om_ty0 : ∀ k, k < 3 → parseFieldDescriptor (om_T0 k).2.2.1 = some (om_y0 k) := by decide +kernel
def om_T1 : u_T := fun k => match k with
  | 0 => ("OreSolver$Division", "algebra", "LOreSolver$Algebra;", true)
  | 1 => ("OreSolver$Division", "quotient", "LOreSolver$Operator;", true)
  | 2 => ("OreSolver$Division", "rest", "LOreSolver$Operator;", true)
  | _ => ("OreSolver$Division", "walker", "LOreSolver$Operator;", true)
def om_y1 : Nat → FieldType := fun k => match k with
  | 0 => .object "OreSolver$Algebra"
  | 1 => .object "OreSolver$Operator"
  | 2 => .object "OreSolver$Operator"
  | _ => .object "OreSolver$Operator"
theorem om_nm1 : ∀ a, a < 4 → ∀ b, b < 4 → a ≠ b → (om_T1 a).2.1 ≠ (om_T1 b).2.1 := by decide +kernel
theorem om_ty1 : ∀ k, k < 4 → parseFieldDescriptor (om_T1 k).2.2.1 = some (om_y1 k) := by decide +kernel
def om_T2 : u_T := fun k => match k with
  | 0 => ("OreSolver$Equations", "algebra", "LOreSolver$Algebra;", true)
  | 1 => ("OreSolver$Equations", "monomial", "LOreSolver$Operator;", true)
  | 2 => ("OreSolver$Equations", "matrix", "LOreSolver$Operator;", true)
  | 3 => ("OreSolver$Equations", "pivots", "[I", true)
  | 4 => ("OreSolver$Equations", "found", "LOreSolver$Operator;", true)
  | _ => ("OreSolver$Equations", "dimension", "I", false)
def om_y2 : Nat → FieldType := fun k => match k with
  | 0 => .object "OreSolver$Algebra"
  | 1 => .object "OreSolver$Operator"
  | 2 => .object "OreSolver$Operator"
  | 3 => .array .int
  | 4 => .object "OreSolver$Operator"
  | _ => .int
theorem om_nm2 : ∀ a, a < 6 → ∀ b, b < 6 → a ≠ b → (om_T2 a).2.1 ≠ (om_T2 b).2.1 := by decide +kernel
theorem om_ty2 : ∀ k, k < 6 → parseFieldDescriptor (om_T2 k).2.2.1 = some (om_y2 k) := by decide +kernel
def om_T3 : u_T := fun k => match k with
  | 0 => ("OreSolver$Fractions", "algebra", "LOreSolver$Algebra;", true)
  | 1 => ("OreSolver$Fractions", "result", "LOreSolver$Operator;", true)
  | 2 => ("OreSolver$Fractions", "stage", "LOreSolver$Operator;", true)
  | 3 => ("OreSolver$Fractions", "term", "LOreSolver$Operator;", true)
  | 4 => ("OreSolver$Fractions", "spare", "LOreSolver$Operator;", true)
  | _ => ("OreSolver$Fractions", "companion", "LOreSolver$Operator;", true)
def om_y3 : Nat → FieldType := fun k => match k with
  | 0 => .object "OreSolver$Algebra"
  | 1 => .object "OreSolver$Operator"
  | 2 => .object "OreSolver$Operator"
  | 3 => .object "OreSolver$Operator"
  | 4 => .object "OreSolver$Operator"
  | _ => .object "OreSolver$Operator"
theorem om_nm3 : ∀ a, a < 6 → ∀ b, b < 6 → a ≠ b → (om_T3 a).2.1 ≠ (om_T3 b).2.1 := by decide +kernel
theorem om_ty3 : ∀ k, k < 6 → parseFieldDescriptor (om_T3 k).2.2.1 = some (om_y3 k) := by decide +kernel
def om_T4 : u_T := fun k => match k with
  | 0 => ("OreSolver$Lines", "algebra", "LOreSolver$Algebra;", true)
  | 1 => ("OreSolver$Lines", "values", "LOreSolver$Operator;", true)
  | 2 => ("OreSolver$Lines", "pairs", "[I", true)
  | _ => ("OreSolver$Lines", "count", "I", false)
def om_y4 : Nat → FieldType := fun k => match k with
  | 0 => .object "OreSolver$Algebra"
  | 1 => .object "OreSolver$Operator"
  | 2 => .array .int
  | _ => .int
theorem om_nm4 : ∀ a, a < 4 → ∀ b, b < 4 → a ≠ b → (om_T4 a).2.1 ≠ (om_T4 b).2.1 := by decide +kernel
theorem om_ty4 : ∀ k, k < 4 → parseFieldDescriptor (om_T4 k).2.2.1 = some (om_y4 k) := by decide +kernel
def om_T5 : u_T := fun k => match k with
  | 0 => ("OreSolver$Operator", "orders", "I", true)
  | 1 => ("OreSolver$Operator", "width", "I", true)
  | _ => ("OreSolver$Operator", "cells", "[I", true)
def om_y5 : Nat → FieldType := fun k => match k with
  | 0 => .int
  | 1 => .int
  | _ => .array .int
theorem om_nm5 : ∀ a, a < 3 → ∀ b, b < 3 → a ≠ b → (om_T5 a).2.1 ≠ (om_T5 b).2.1 := by decide +kernel
theorem om_ty5 : ∀ k, k < 3 → parseFieldDescriptor (om_T5 k).2.2.1 = some (om_y5 k) := by decide +kernel
def om_T6 : u_T := fun k => match k with
  | 0 => ("OreSolver$Output", "symbols", "[C", true)
  | _ => ("OreSolver$Output", "length", "I", false)
def om_y6 : Nat → FieldType := fun k => match k with
  | 0 => .array .char
  | _ => .int
theorem om_nm6 : ∀ a, a < 2 → ∀ b, b < 2 → a ≠ b → (om_T6 a).2.1 ≠ (om_T6 b).2.1 := by decide +kernel
theorem om_ty6 : ∀ k, k < 2 → parseFieldDescriptor (om_T6 k).2.2.1 = some (om_y6 k) := by decide +kernel
def om_T7 : u_T := fun k => match k with
  | 0 => ("OreSolver$Parser", "algebra", "LOreSolver$Algebra;", true)
  | 1 => ("OreSolver$Parser", "symbols", "[C", true)
  | 2 => ("OreSolver$Parser", "length", "I", false)
  | 3 => ("OreSolver$Parser", "place", "I", false)
  | 4 => ("OreSolver$Parser", "wrong", "Z", false)
  | 5 => ("OreSolver$Parser", "large", "Z", false)
  | 6 => ("OreSolver$Parser", "sums", "[LOreSolver$Operator;", true)
  | 7 => ("OreSolver$Parser", "products", "[LOreSolver$Operator;", true)
  | 8 => ("OreSolver$Parser", "powers", "[LOreSolver$Operator;", true)
  | _ => ("OreSolver$Parser", "atoms", "[LOreSolver$Operator;", true)
def om_y7 : Nat → FieldType := fun k => match k with
  | 0 => .object "OreSolver$Algebra"
  | 1 => .array .char
  | 2 => .int
  | 3 => .int
  | 4 => .boolean
  | 5 => .boolean
  | 6 => .array (.object "OreSolver$Operator")
  | 7 => .array (.object "OreSolver$Operator")
  | 8 => .array (.object "OreSolver$Operator")
  | _ => .array (.object "OreSolver$Operator")
theorem om_nm7 : ∀ a, a < 10 → ∀ b, b < 10 → a ≠ b → (om_T7 a).2.1 ≠ (om_T7 b).2.1 := by decide +kernel
theorem om_ty7 : ∀ k, k < 10 → parseFieldDescriptor (om_T7 k).2.2.1 = some (om_y7 k) := by decide +kernel
def om_T8 : u_T := fun k => match k with
  | 0 => ("OreSolver", "registers", "[LOreSolver$Operator;", true)
  | 1 => ("OreSolver", "algebra", "LOreSolver$Algebra;", true)
  | 2 => ("OreSolver", "parser", "LOreSolver$Parser;", true)
  | 3 => ("OreSolver", "division", "LOreSolver$Division;", true)
  | 4 => ("OreSolver", "fractions", "LOreSolver$Fractions;", true)
  | 5 => ("OreSolver", "equations", "LOreSolver$Equations;", true)
  | 6 => ("OreSolver", "lines", "LOreSolver$Lines;", true)
  | _ => ("OreSolver", "output", "LOreSolver$Output;", true)
def om_y8 : Nat → FieldType := fun k => match k with
  | 0 => .array (.object "OreSolver$Operator")
  | 1 => .object "OreSolver$Algebra"
  | 2 => .object "OreSolver$Parser"
  | 3 => .object "OreSolver$Division"
  | 4 => .object "OreSolver$Fractions"
  | 5 => .object "OreSolver$Equations"
  | 6 => .object "OreSolver$Lines"
  | _ => .object "OreSolver$Output"
theorem om_nm8 : ∀ a, a < 8 → ∀ b, b < 8 → a ≠ b → (om_T8 a).2.1 ≠ (om_T8 b).2.1 := by decide +kernel
theorem om_ty8 : ∀ k, k < 8 → parseFieldDescriptor (om_T8 k).2.2.1 = some (om_y8 k) := by decide +kernel
def om_T9 : u_T := fun k => match k with
  | 0 => ("OreSolverModel", "derives", "Z", true)
  | 1 => ("OreSolverModel", "held", "[I", true)
  | 2 => ("OreSolverModel", "w", "[I", true)
  | 3 => ("OreSolverModel", "length", "I", false)
  | 4 => ("OreSolverModel", "text", "[I", true)
  | 5 => ("OreSolverModel", "signs", "[I", true)
  | 6 => ("OreSolverModel", "begun", "[Z", true)
  | 7 => ("OreSolverModel", "level", "I", false)
  | 8 => ("OreSolverModel", "tooLarge", "Z", false)
  | 9 => ("OreSolverModel", "outLength", "I", false)
  | 10 => ("OreSolverModel", "out", "[I", true)
  | 11 => ("OreSolverModel", "dimension", "I", false)
  | 12 => ("OreSolverModel", "solutions", "[I", true)
  | 13 => ("OreSolverModel", "images", "[I", true)
  | 14 => ("OreSolverModel", "sources", "[I", true)
  | 15 => ("OreSolverModel", "pivots", "[I", true)
  | 16 => ("OreSolverModel", "independent", "I", false)
  | 17 => ("OreSolverModel", "image", "[I", true)
  | 18 => ("OreSolverModel", "source", "[I", true)
  | 19 => ("OreSolverModel", "lines", "[Z", true)
  | 20 => ("OreSolverModel", "left", "[I", true)
  | 21 => ("OreSolverModel", "part", "[I", true)
  | _ => ("OreSolverModel", "other", "[I", true)
def om_y9 : Nat → FieldType := fun k => match k with
  | 0 => .boolean
  | 1 => .array .int
  | 2 => .array .int
  | 3 => .int
  | 4 => .array .int
  | 5 => .array .int
  | 6 => .array .boolean
  | 7 => .int
  | 8 => .boolean
  | 9 => .int
  | 10 => .array .int
  | 11 => .int
  | 12 => .array .int
  | 13 => .array .int
  | 14 => .array .int
  | 15 => .array .int
  | 16 => .int
  | 17 => .array .int
  | 18 => .array .int
  | 19 => .array .boolean
  | 20 => .array .int
  | 21 => .array .int
  | _ => .array .int
theorem om_nm9 : ∀ a, a < 23 → ∀ b, b < 23 → a ≠ b → (om_T9 a).2.1 ≠ (om_T9 b).2.1 := by decide +kernel
theorem om_ty9 : ∀ k, k < 23 → parseFieldDescriptor (om_T9 k).2.2.1 = some (om_y9 k) := by decide +kernel
def om_cn (c : Nat) : String := (["OreSolver$Algebra", "OreSolver$Division", "OreSolver$Equations", "OreSolver$Fractions", "OreSolver$Lines", "OreSolver$Operator", "OreSolver$Output", "OreSolver$Parser", "OreSolver", "OreSolverModel", "OreSolverLaw", "java/lang/Math", "java/util/Arrays", "java/lang/System"] : List String).getD c ""
abbrev om_cl : List vw_C := [("OreSolver$Algebra", om_T0, 3), ("OreSolver$Division", om_T1, 4), ("OreSolver$Equations", om_T2, 6), ("OreSolver$Fractions", om_T3, 6), ("OreSolver$Lines", om_T4, 4), ("OreSolver$Operator", om_T5, 3), ("OreSolver$Output", om_T6, 2), ("OreSolver$Parser", om_T7, 10), ("OreSolver", om_T8, 8), ("OreSolverModel", om_T9, 23)]
def om_fks : List (List Nat) := [[1, 2, 2], [2, 2, 2, 2], [2, 2, 2, 2, 2, 0], [2, 2, 2, 2, 2, 2], [2, 2, 2, 0], [0, 0, 2], [2, 0], [2, 2, 0, 0, 1, 1, 2, 2, 2, 2], [2, 2, 2, 2, 2, 2, 2, 2], [1, 2, 2, 0, 2, 2, 2, 0, 1, 0, 2, 0, 2, 2, 2, 2, 0, 2, 2, 2, 2, 2, 2]]
def om_fls : List (Nat × Nat × Nat × Nat × Nat) := [(6, 11, 6, 0, 103), (8, 183, 6, 0, 104), (6, 15, 6, 1, 105), (8, 180, 6, 1, 106), (5, 9, 5, 0, 118), (2, 46, 5, 0, 119), (5, 15, 5, 1, 120), (5, 18, 5, 2, 121), (0, 23, 0, 0, 138), (3, 39, 0, 0, 139), (4, 48, 0, 0, 140), (1, 66, 0, 0, 141), (0, 14, 0, 1, 142), (0, 20, 0, 2, 143), (7, 44, 7, 0, 159), (7, 9, 7, 1, 160), (7, 15, 7, 2, 161), (7, 19, 7, 3, 162), (7, 22, 7, 4, 163), (7, 26, 7, 5, 164), (7, 31, 7, 6, 165), (7, 35, 7, 7, 166), (7, 38, 7, 8, 167), (7, 41, 7, 9, 168), (1, 26, 1, 0, 198), (1, 14, 1, 1, 199), (8, 132, 1, 1, 200), (1, 20, 1, 2, 201), (8, 136, 1, 2, 202), (1, 23, 1, 3, 203), (3, 32, 3, 0, 221), (3, 14, 3, 1, 222), (3, 20, 3, 2, 223), (3, 23, 3, 3, 224), (3, 26, 3, 4, 225), (3, 29, 3, 5, 226), (2, 34, 2, 0, 248), (2, 14, 2, 1, 249), (2, 20, 2, 2, 250), (2, 23, 2, 3, 251), (2, 27, 2, 4, 252), (8, 153, 2, 4, 253), (2, 30, 2, 5, 254), (8, 146, 2, 5, 255), (4, 28, 4, 0, 277), (4, 16, 4, 1, 278), (4, 20, 4, 2, 279), (8, 170, 4, 2, 280), (4, 24, 4, 3, 281), (8, 167, 4, 3, 282), (8, 11, 8, 0, 292), (8, 30, 8, 1, 293), (8, 39, 8, 2, 294), (8, 46, 8, 3, 295), (8, 53, 8, 4, 296), (8, 60, 8, 5, 297), (8, 67, 8, 6, 298), (8, 18, 8, 7, 299), (9, 63, 9, 0, 694), (9, 7, 9, 1, 695), (9, 13, 9, 2, 696), (9, 111, 9, 3, 697), (9, 16, 9, 4, 698), (9, 19, 9, 5, 699), (9, 22, 9, 6, 700), (9, 123, 9, 7, 701), (9, 138, 9, 8, 702), (9, 226, 9, 9, 703), (9, 26, 9, 10, 704), (9, 29, 9, 11, 705), (9, 33, 9, 12, 706), (9, 36, 9, 13, 707), (9, 39, 9, 14, 708), (9, 42, 9, 15, 709), (9, 197, 9, 16, 710), (9, 45, 9, 17, 711), (9, 48, 9, 18, 712), (9, 51, 9, 19, 713), (9, 54, 9, 20, 714), (9, 57, 9, 21, 715), (9, 60, 9, 22, 716)]
def om_mls : List (Nat × Nat × Nat × Nat × Nat) := [(10, 15, 2, 1, 89), (8, 3, 5, 0, 92), (8, 17, 3, 2, 99), (6, 3, 5, 0, 102), (8, 22, 2, 3, 114), (5, 3, 5, 0, 117), (8, 27, 2, 4, 132), (0, 3, 5, 0, 135), (0, 11, 2, 3, 137), (8, 36, 2, 5, 153), (7, 3, 5, 0, 156), (7, 48, 2, 3, 158), (8, 45, 2, 6, 192), (1, 3, 5, 0, 195), (1, 11, 2, 3, 197), (8, 52, 2, 7, 215), (3, 3, 5, 0, 218), (3, 11, 2, 3, 220), (8, 59, 2, 8, 242), (2, 3, 5, 0, 245), (2, 11, 2, 3, 247), (8, 66, 2, 9, 271), (4, 3, 5, 0, 274), (4, 13, 2, 3, 276), (10, 21, 0, 10, 317), (8, 71, 0, 11, 321), (10, 26, 0, 12, 325), (8, 75, 0, 13, 329), (10, 31, 0, 14, 333), (8, 79, 1, 15, 337), (8, 97, 1, 16, 340), (8, 83, 0, 17, 343), (7, 51, 0, 18, 347), (7, 59, 0, 19, 351), (7, 63, 1, 20, 355), (7, 66, 0, 21, 358), (7, 70, 0, 22, 362), (5, 22, 1, 23, 366), (7, 73, 0, 24, 369), (7, 80, 0, 25, 373), (5, 28, 0, 22, 377), (5, 31, 0, 26, 378), (7, 84, 0, 27, 382), (7, 104, 0, 28, 386), (7, 55, 1, 29, 390), (7, 107, 0, 30, 393), (7, 110, 0, 31, 397), (7, 97, 0, 32, 401), (5, 35, 6, 0, 405), (5, 41, 4, 0, 408), (7, 87, 0, 34, 411), (0, 35, 0, 35, 415), (5, 47, 0, 36, 419), (0, 39, 0, 22, 423), (0, 27, 0, 32, 424), (0, 42, 0, 37, 425), (0, 46, 0, 38, 429), (5, 50, 0, 39, 433), (5, 54, 0, 40, 437), (7, 93, 0, 41, 441), (5, 57, 0, 42, 445), (7, 101, 1, 43, 449), (7, 76, 0, 44, 452), (8, 86, 0, 45, 456), (8, 90, 0, 32, 460), (8, 94, 0, 35, 461), (10, 36, 0, 46, 462), (10, 40, 0, 47, 466), (8, 101, 0, 36, 470), (10, 45, 0, 48, 471), (8, 105, 1, 49, 475), (8, 109, 0, 50, 478), (0, 31, 0, 44, 482), (8, 113, 0, 51, 483), (8, 187, 0, 41, 487), (10, 50, 0, 52, 488), (8, 117, 0, 34, 492), (10, 54, 0, 53, 493), (8, 121, 0, 54, 497), (0, 50, 0, 55, 501), (0, 54, 0, 56, 505), (10, 58, 0, 57, 509), (8, 124, 1, 58, 513), (1, 30, 0, 35, 516), (1, 34, 0, 42, 517), (8, 128, 0, 59, 518), (1, 38, 0, 36, 522), (1, 42, 1, 60, 523), (1, 47, 0, 22, 526), (1, 50, 0, 32, 527), (1, 54, 0, 26, 528), (1, 58, 0, 61, 529), (1, 70, 0, 38, 533), (1, 74, 0, 37, 534), (1, 62, 0, 41, 535), (10, 62, 0, 62, 536), (8, 139, 0, 63, 540), (3, 36, 0, 22, 544), (3, 45, 0, 35, 545), (3, 49, 0, 64, 546), (3, 64, 0, 25, 550), (3, 56, 0, 32, 551), (3, 68, 0, 65, 552), (3, 72, 0, 37, 556), (3, 87, 0, 40, 557), (3, 53, 0, 66, 558), (3, 60, 0, 39, 562), (3, 76, 0, 67, 563), (3, 80, 0, 38, 567), (3, 84, 0, 44, 568), (10, 66, 0, 68, 569), (8, 142, 0, 69, 573), (2, 38, 0, 70, 577), (2, 57, 0, 22, 581), (2, 60, 0, 25, 582), (2, 64, 0, 54, 583), (2, 49, 0, 36, 584), (2, 70, 0, 26, 585), (2, 42, 0, 71, 586), (2, 73, 0, 72, 590), (2, 76, 0, 73, 594), (2, 79, 0, 74, 598), (2, 82, 1, 60, 602), (2, 53, 0, 75, 603), (2, 85, 0, 76, 607), (10, 70, 0, 77, 611), (8, 150, 0, 22, 615), (8, 156, 0, 55, 616), (8, 160, 0, 42, 617), (10, 75, 0, 78, 618), (8, 164, 0, 79, 622), (4, 32, 0, 80, 626), (4, 40, 0, 36, 630), (4, 44, 0, 26, 631), (4, 36, 0, 81, 632), (4, 54, 0, 82, 636), (4, 58, 0, 83, 640), (10, 79, 0, 84, 644), (10, 83, 0, 85, 648), (8, 174, 0, 86, 652), (10, 88, 0, 87, 656), (8, 177, 0, 88, 660), (6, 19, 0, 36, 664), (6, 25, 0, 89, 665), (6, 29, 0, 90, 669), (6, 33, 0, 91, 673), (6, 37, 0, 92, 677), (10, 92, 0, 93, 681), (10, 9, 1, 94, 685), (10, 20, 2, 95, 690), (9, 1, 5, 0, 693), (10, 25, 0, 96, 765), (10, 30, 0, 97, 769), (10, 35, 0, 98, 773), (9, 162, 1, 99, 777), (9, 165, 0, 100, 780), (9, 117, 0, 101, 784), (9, 114, 0, 102, 788), (9, 120, 0, 103, 792), (9, 169, 0, 104, 796), (9, 153, 0, 105, 800), (9, 132, 0, 106, 804), (9, 129, 0, 107, 808), (9, 147, 0, 108, 812), (9, 126, 0, 109, 816), (9, 156, 0, 110, 820), (9, 67, 1, 111, 824), (9, 141, 0, 112, 827), (9, 71, 0, 113, 831), (9, 150, 0, 114, 835), (9, 98, 0, 115, 839), (9, 135, 0, 116, 843), (9, 101, 0, 117, 847), (9, 87, 0, 118, 851), (9, 75, 0, 119, 855), (9, 104, 0, 120, 859), (9, 91, 0, 121, 863), (9, 108, 0, 122, 867), (9, 95, 0, 123, 871), (9, 79, 0, 124, 875), (9, 144, 0, 125, 879), (9, 83, 0, 126, 883), (9, 159, 0, 127, 887), (10, 39, 0, 128, 891), (10, 44, 0, 129, 895), (10, 49, 0, 130, 899), (10, 53, 0, 131, 903), (10, 57, 0, 132, 907), (9, 175, 0, 128, 911), (9, 178, 0, 133, 912), (9, 172, 0, 134, 916), (10, 61, 0, 135, 920), (9, 185, 0, 136, 924), (9, 182, 1, 137, 928), (10, 65, 0, 138, 931), (9, 191, 0, 139, 935), (9, 194, 0, 140, 939), (9, 188, 0, 141, 943), (10, 69, 0, 142, 947), (9, 213, 0, 143, 951), (9, 200, 0, 144, 955), (9, 203, 0, 145, 959), (9, 206, 0, 146, 963), (9, 210, 0, 147, 967), (9, 217, 0, 148, 971), (10, 74, 0, 149, 975), (10, 78, 0, 150, 979), (9, 223, 0, 151, 983), (9, 220, 0, 152, 987), (10, 82, 0, 153, 991), (10, 87, 0, 154, 995), (10, 91, 0, 155, 999), (9, 229, 0, 156, 1003), (9, 232, 0, 157, 1007), (9, 235, 0, 158, 1011), (10, 95, 0, 159, 1015)]
def om_cls : List (Nat × Nat × Nat × Nat) := [(10, 7, 8, 87), (8, 9, 5, 95), (8, 15, 6, 97), (8, 25, 0, 130), (0, 9, 5, 136), (8, 34, 7, 151), (7, 29, 5, 157), (8, 43, 1, 190), (1, 9, 5, 196), (8, 50, 3, 213), (3, 9, 5, 219), (8, 57, 2, 240), (2, 9, 5, 246), (8, 64, 4, 269), (4, 9, 5, 275), (10, 18, 9, 688)]
def om_lyx : List (List Nat) := [[144, 146, 148], [204, 206, 208, 210], [256, 258, 260, 262, 264, 266], [227, 229, 231, 233, 235, 237], [283, 285, 287, 289], [122, 124, 126], [107, 109], [169, 171, 173, 175, 177, 179, 181, 183, 185, 187], [300, 302, 304, 306, 308, 310, 312, 314], [717, 719, 721, 723, 725, 727, 729, 731, 733, 735, 737, 739, 741, 743, 745, 747, 749, 751, 753, 755, 757, 759, 761]]
def om_nwx : List (Nat × Nat) := [(131, 77), (191, 79), (241, 81), (214, 80), (270, 82), (113, 76), (98, 75), (152, 78), (88, 74), (689, 83)]
def om_ys : List MethodName := [⟨"OreSolverLaw", "law", "([I)Z"⟩,
  ⟨"OreSolver", "<init>", "(I)V"⟩,
  ⟨"OreSolver$Output", "<init>", "()V"⟩,
  ⟨"OreSolver$Operator", "<init>", "(II)V"⟩,
  ⟨"OreSolver$Algebra", "<init>", "(Z)V"⟩,
  ⟨"OreSolver$Parser", "<init>", "(LOreSolver$Algebra;)V"⟩,
  ⟨"OreSolver$Division", "<init>", "(LOreSolver$Algebra;)V"⟩,
  ⟨"OreSolver$Fractions", "<init>", "(LOreSolver$Algebra;)V"⟩,
  ⟨"OreSolver$Equations", "<init>", "(LOreSolver$Algebra;)V"⟩,
  ⟨"OreSolver$Lines", "<init>", "(LOreSolver$Algebra;)V"⟩,
  ⟨"OreSolver", "type", "(C)Z"⟩,
  ⟨"OreSolver$Parser", "keep", "(C)Z"⟩,
  ⟨"OreSolver", "clear", "()I"⟩,
  ⟨"OreSolver$Parser", "forget", "()I"⟩,
  ⟨"OreSolver", "read", "(I)I"⟩,
  ⟨"OreSolver", "isRegister", "(I)Z"⟩,
  ⟨"OreSolver", "isWithin", "(II)Z"⟩,
  ⟨"OreSolver$Parser", "parse", "()I"⟩,
  ⟨"OreSolver$Parser", "readSum", "(I)V"⟩,
  ⟨"OreSolver$Parser", "next", "()C"⟩,
  ⟨"OreSolver$Parser", "isSign", "(C)Z"⟩,
  ⟨"OreSolver$Parser", "takeSign", "()I"⟩,
  ⟨"OreSolver$Operator", "wipe", "()V"⟩,
  ⟨"java/util/Arrays", "fill", "([II)V"⟩,
  ⟨"OreSolver$Parser", "readProduct", "(I)V"⟩,
  ⟨"OreSolver$Operator", "becomeTerm", "(III)V"⟩,
  ⟨"OreSolver$Operator", "put", "(III)V"⟩,
  ⟨"OreSolver$Parser", "readPower", "(I)V"⟩,
  ⟨"OreSolver$Parser", "readAtom", "(I)V"⟩,
  ⟨"OreSolver$Parser", "isDigit", "(C)Z"⟩,
  ⟨"OreSolver$Parser", "takeNumber", "()I"⟩,
  ⟨"OreSolver$Parser", "readBrackets", "(I)V"⟩,
  ⟨"OreSolver$Operator", "become", "(LOreSolver$Operator;)V"⟩,
  ⟨"java/lang/Math", "min", "(II)I"⟩,
  ⟨"OreSolver$Algebra", "product", "(LOreSolver$Operator;LOreSolver$Operator;)LOreSolver$Operator;"⟩,
  ⟨"OreSolver$Operator", "topOrder", "()I"⟩,
  ⟨"OreSolver$Operator", "get", "(II)I"⟩,
  ⟨"OreSolver$Operator", "plusRowTimes", "(LOreSolver$Operator;IILOreSolver$Operator;)V"⟩,
  ⟨"OreSolver$Operator", "putTBefore", "(Z)V"⟩,
  ⟨"OreSolver$Operator", "deriveRow", "(I)V"⟩,
  ⟨"OreSolver$Operator", "shiftRow", "(I)V"⟩,
  ⟨"OreSolver$Operator", "fits", "()Z"⟩,
  ⟨"OreSolver$Operator", "topDegree", "(I)I"⟩,
  ⟨"OreSolver$Parser", "startsAtom", "(C)Z"⟩,
  ⟨"OreSolver$Operator", "plus", "(LOreSolver$Operator;I)V"⟩,
  ⟨"OreSolver$Parser", "value", "()LOreSolver$Operator;"⟩,
  ⟨"OreSolver", "order", "(I)I"⟩,
  ⟨"OreSolver", "coefficient", "(III)I"⟩,
  ⟨"OreSolver", "add", "(IIII)I"⟩,
  ⟨"OreSolver", "areRegisters", "(III)Z"⟩,
  ⟨"OreSolver$Algebra", "sum", "(LOreSolver$Operator;LOreSolver$Operator;I)LOreSolver$Operator;"⟩,
  ⟨"OreSolver", "store", "(ILOreSolver$Operator;)I"⟩,
  ⟨"OreSolver", "multiply", "(III)I"⟩,
  ⟨"OreSolver", "apply", "(III)I"⟩,
  ⟨"OreSolver$Algebra", "image", "(LOreSolver$Operator;LOreSolver$Operator;)LOreSolver$Operator;"⟩,
  ⟨"OreSolver$Operator", "copyRow", "(ILOreSolver$Operator;I)V"⟩,
  ⟨"OreSolver$Operator", "actOnPolynomial", "(Z)V"⟩,
  ⟨"OreSolver", "divide", "(IIII)I"⟩,
  ⟨"OreSolver$Division", "canDivideBy", "(LOreSolver$Operator;)Z"⟩,
  ⟨"OreSolver$Division", "carryOut", "(LOreSolver$Operator;LOreSolver$Operator;)Z"⟩,
  ⟨"OreSolver$Algebra", "inverse", "(I)I"⟩,
  ⟨"OreSolver$Division", "takeAway", "(ILOreSolver$Operator;)V"⟩,
  ⟨"OreSolver", "over", "(III)I"⟩,
  ⟨"OreSolver$Fractions", "clearDenominator", "(LOreSolver$Operator;LOreSolver$Operator;)LOreSolver$Operator;"⟩,
  ⟨"OreSolver$Fractions", "gatherShifts", "(LOreSolver$Operator;LOreSolver$Operator;I)V"⟩,
  ⟨"OreSolver$Fractions", "putBefore", "(LOreSolver$Operator;LOreSolver$Operator;)V"⟩,
  ⟨"OreSolver$Fractions", "gatherDerivatives", "(LOreSolver$Operator;LOreSolver$Operator;I)V"⟩,
  ⟨"OreSolver$Fractions", "advanceStage", "(LOreSolver$Operator;I)V"⟩,
  ⟨"OreSolver", "solve", "(III)I"⟩,
  ⟨"OreSolver$Equations", "findSolutions", "(LOreSolver$Operator;LOreSolver$Operator;I)Z"⟩,
  ⟨"OreSolver$Equations", "setUp", "(LOreSolver$Operator;LOreSolver$Operator;I)V"⟩,
  ⟨"OreSolver$Equations", "eliminate", "(I)I"⟩,
  ⟨"OreSolver$Equations", "findPivot", "(II)I"⟩,
  ⟨"OreSolver$Equations", "swapRows", "(II)V"⟩,
  ⟨"OreSolver$Equations", "clearColumn", "(II)V"⟩,
  ⟨"OreSolver$Equations", "writeSolutions", "(I)V"⟩,
  ⟨"OreSolver$Equations", "writePivots", "(IIII)V"⟩,
  ⟨"OreSolver", "pick", "(II)I"⟩,
  ⟨"OreSolver", "factor", "(I)I"⟩,
  ⟨"OreSolver$Lines", "search", "(LOreSolver$Operator;)V"⟩,
  ⟨"OreSolver$Lines", "fillValues", "(LOreSolver$Operator;)V"⟩,
  ⟨"OreSolver$Lines", "leavesNothing", "(II)Z"⟩,
  ⟨"OreSolver$Lines", "restOfShift", "(III)I"⟩,
  ⟨"OreSolver$Lines", "restOfDerivative", "(III)I"⟩,
  ⟨"OreSolver", "line", "(I)I"⟩,
  ⟨"OreSolver", "same", "(II)Z"⟩,
  ⟨"OreSolver$Operator", "matches", "(LOreSolver$Operator;)Z"⟩,
  ⟨"OreSolver", "show", "(I)I"⟩,
  ⟨"OreSolver$Output", "write", "(LOreSolver$Operator;)V"⟩,
  ⟨"OreSolver$Output", "writeTerm", "(III)V"⟩,
  ⟨"OreSolver$Output", "writeSymbol", "(C)V"⟩,
  ⟨"OreSolver$Output", "writeNumber", "(I)V"⟩,
  ⟨"OreSolver$Output", "writePower", "(CI)V"⟩,
  ⟨"OreSolver", "at", "(I)I"⟩,
  ⟨"OreSolverLaw", "cell", "([II)I"⟩,
  ⟨"OreSolverModel", "<init>", "(I)V"⟩,
  ⟨"OreSolverModel", "type", "(C)Z"⟩,
  ⟨"OreSolverModel", "clear", "()I"⟩,
  ⟨"OreSolverModel", "read", "(I)I"⟩,
  ⟨"OreSolverModel", "isRegister", "(I)Z"⟩,
  ⟨"OreSolverModel", "isSum", "()Z"⟩,
  ⟨"OreSolverModel", "isDigit", "(I)Z"⟩,
  ⟨"OreSolverModel", "at0", "(I)I"⟩,
  ⟨"OreSolverModel", "numberEnd", "(I)I"⟩,
  ⟨"OreSolverModel", "work", "()V"⟩,
  ⟨"OreSolverModel", "open", "()V"⟩,
  ⟨"OreSolverModel", "sumOf", "(I)I"⟩,
  ⟨"OreSolverModel", "zero", "(I)V"⟩,
  ⟨"OreSolverModel", "beginProduct", "(I)V"⟩,
  ⟨"OreSolverModel", "productOf", "(I)I"⟩,
  ⟨"OreSolverModel", "endProduct", "()V"⟩,
  ⟨"OreSolverModel", "mod", "(I)I"⟩,
  ⟨"OreSolverModel", "load", "(II)V"⟩,
  ⟨"OreSolverModel", "wipe", "(I)V"⟩,
  ⟨"OreSolverModel", "take", "(I)I"⟩,
  ⟨"OreSolverModel", "copy", "(II)V"⟩,
  ⟨"OreSolverModel", "multiplyTables", "(IIII)V"⟩,
  ⟨"OreSolverModel", "orderOf", "(I)I"⟩,
  ⟨"OreSolverModel", "degree", "(II)I"⟩,
  ⟨"OreSolverModel", "get", "(III)I"⟩,
  ⟨"OreSolverModel", "addProduct", "(IIIIIII)V"⟩,
  ⟨"OreSolverModel", "plus", "(IIII)V"⟩,
  ⟨"OreSolverModel", "raise", "(I)V"⟩,
  ⟨"OreSolverModel", "shift", "(II)V"⟩,
  ⟨"OreSolverModel", "fits", "(I)Z"⟩,
  ⟨"OreSolverModel", "keep", "(II)I"⟩,
  ⟨"OreSolverModel", "store", "(II)V"⟩,
  ⟨"OreSolverModel", "atom", "(I)I"⟩,
  ⟨"OreSolverModel", "order", "(I)I"⟩,
  ⟨"OreSolverModel", "coefficient", "(III)I"⟩,
  ⟨"OreSolverModel", "add", "(IIII)I"⟩,
  ⟨"OreSolverModel", "multiply", "(III)I"⟩,
  ⟨"OreSolverModel", "apply", "(III)I"⟩,
  ⟨"OreSolverModel", "applyTables", "(III)V"⟩,
  ⟨"OreSolverModel", "turn", "(I)V"⟩,
  ⟨"OreSolverModel", "divide", "(IIII)I"⟩,
  ⟨"OreSolverModel", "divideTables", "(I)V"⟩,
  ⟨"OreSolverModel", "inverse", "(I)I"⟩,
  ⟨"OreSolverModel", "over", "(III)I"⟩,
  ⟨"OreSolverModel", "derivedPart", "(II)V"⟩,
  ⟨"OreSolverModel", "shiftedPart", "(II)V"⟩,
  ⟨"OreSolverModel", "times", "(III)V"⟩,
  ⟨"OreSolverModel", "solve", "(III)I"⟩,
  ⟨"OreSolverModel", "isImage", "(II)Z"⟩,
  ⟨"OreSolverModel", "show0", "(I)V"⟩,
  ⟨"OreSolverModel", "reduce", "()V"⟩,
  ⟨"OreSolverModel", "firstOf", "()I"⟩,
  ⟨"OreSolverModel", "tell", "(I)V"⟩,
  ⟨"OreSolverModel", "note", "(II)V"⟩,
  ⟨"OreSolverModel", "pick", "(II)I"⟩,
  ⟨"OreSolverModel", "factor", "(I)I"⟩,
  ⟨"OreSolverModel", "isFactor", "(II)Z"⟩,
  ⟨"OreSolverModel", "next", "(II)V"⟩,
  ⟨"OreSolverModel", "line", "(I)I"⟩,
  ⟨"OreSolverModel", "same", "(II)Z"⟩,
  ⟨"OreSolverModel", "show", "(I)I"⟩,
  ⟨"OreSolverModel", "write", "(I)V"⟩,
  ⟨"OreSolverModel", "writeNumber", "(I)V"⟩,
  ⟨"OreSolverModel", "writePower", "(II)V"⟩,
  ⟨"OreSolverModel", "at", "(I)I"⟩]
def om_bys : List ByteArray := [code, prog_1_method_1_code, prog_8_method_1_code, prog_7_method_1_code, prog_2_method_1_code, prog_9_method_1_code, prog_3_method_1_code, prog_5_method_1_code, prog_4_method_1_code, prog_6_method_1_code, prog_1_method_2_code, prog_9_method_2_code, prog_1_method_3_code, prog_9_method_3_code, prog_1_method_4_code, prog_1_method_20_code, prog_1_method_22_code, prog_9_method_4_code, prog_9_method_11_code, prog_9_method_6_code, prog_9_method_8_code, prog_9_method_10_code, prog_7_method_4_code, prog_14_method_103_code, prog_9_method_12_code, prog_7_method_5_code, prog_7_method_3_code, prog_9_method_13_code, prog_9_method_14_code, prog_9_method_7_code, prog_9_method_15_code, prog_9_method_16_code, prog_7_method_6_code, prog_12_method_69_code, prog_2_method_4_code, prog_7_method_15_code, prog_7_method_2_code, prog_7_method_9_code, prog_7_method_10_code, prog_7_method_12_code, prog_7_method_13_code, prog_7_method_16_code, prog_7_method_14_code, prog_9_method_9_code, prog_7_method_8_code, prog_9_method_5_code, prog_1_method_5_code, prog_1_method_6_code, prog_1_method_7_code, prog_1_method_21_code, prog_2_method_3_code, prog_1_method_19_code, prog_1_method_8_code, prog_1_method_9_code, prog_2_method_5_code, prog_7_method_7_code, prog_7_method_11_code, prog_1_method_10_code, prog_3_method_2_code, prog_3_method_3_code, prog_2_method_2_code, prog_3_method_4_code, prog_1_method_11_code, prog_5_method_2_code, prog_5_method_5_code, prog_5_method_6_code, prog_5_method_3_code, prog_5_method_4_code, prog_1_method_12_code, prog_4_method_2_code, prog_4_method_3_code, prog_4_method_4_code, prog_4_method_5_code, prog_4_method_6_code, prog_4_method_7_code, prog_4_method_8_code, prog_4_method_9_code, prog_1_method_13_code, prog_1_method_14_code, prog_6_method_2_code, prog_6_method_3_code, prog_6_method_4_code, prog_6_method_6_code, prog_6_method_5_code, prog_1_method_15_code, prog_1_method_16_code, prog_7_method_17_code, prog_1_method_17_code, prog_8_method_2_code, prog_8_method_3_code, prog_8_method_6_code, prog_8_method_5_code, prog_8_method_4_code, prog_1_method_18_code, method_2_code, prog_11_method_1_code, prog_11_method_19_code, prog_11_method_20_code, prog_11_method_34_code, prog_11_method_2_code, prog_11_method_24_code, prog_11_method_22_code, prog_11_method_21_code, prog_11_method_23_code, prog_11_method_33_code, prog_11_method_31_code, prog_11_method_25_code, prog_11_method_27_code, prog_11_method_28_code, prog_11_method_26_code, prog_11_method_29_code, prog_11_method_3_code, prog_11_method_9_code, prog_11_method_5_code, prog_11_method_30_code, prog_11_method_8_code, prog_11_method_18_code, prog_11_method_13_code, prog_11_method_14_code, prog_11_method_6_code, prog_11_method_15_code, prog_11_method_7_code, prog_11_method_17_code, prog_11_method_16_code, prog_11_method_10_code, prog_11_method_12_code, prog_11_method_11_code, prog_11_method_32_code, prog_11_method_35_code, prog_11_method_36_code, prog_11_method_37_code, prog_11_method_38_code, prog_11_method_41_code, prog_11_method_40_code, prog_11_method_39_code, prog_11_method_43_code, prog_11_method_42_code, prog_11_method_4_code, prog_11_method_47_code, prog_11_method_45_code, prog_11_method_46_code, prog_11_method_44_code, prog_11_method_54_code, prog_11_method_53_code, prog_11_method_52_code, prog_11_method_48_code, prog_11_method_49_code, prog_11_method_50_code, prog_11_method_51_code, prog_11_method_55_code, prog_11_method_58_code, prog_11_method_56_code, prog_11_method_57_code, prog_11_method_59_code, prog_11_method_60_code, prog_11_method_64_code, prog_11_method_61_code, prog_11_method_62_code, prog_11_method_63_code, prog_11_method_65_code]
/-- class, locals, parameters, static, constructor, kind of the answer -/
def om_mis : List (Nat × Nat × Nat × Bool × Bool × Nat) := [(10, 4, 1, true, false, 2), (8, 3, 1, false, true, 0), (6, 1, 0, false, true, 0), (5, 3, 2, false, true, 0), (0, 2, 1, false, true, 0), (7, 3, 1, false, true, 0), (1, 2, 1, false, true, 0), (3, 2, 1, false, true, 0), (2, 2, 1, false, true, 0), (4, 2, 1, false, true, 0), (8, 2, 1, false, false, 2), (7, 2, 1, false, false, 2), (8, 1, 0, false, false, 1), (7, 2, 0, false, false, 1), (8, 3, 1, false, false, 1), (8, 1, 1, true, false, 2), (8, 2, 2, true, false, 2), (7, 1, 0, false, false, 1), (7, 4, 1, false, false, 0), (7, 1, 0, false, false, 3), (7, 1, 1, true, false, 2), (7, 2, 0, false, false, 1), (5, 1, 0, false, false, 0), (12, 4, 2, true, false, 0), (7, 4, 1, false, false, 0), (5, 4, 3, false, false, 0), (5, 5, 3, false, false, 0), (7, 5, 1, false, false, 0), (7, 3, 1, false, false, 0), (7, 1, 1, true, false, 2), (7, 3, 0, false, false, 1), (7, 2, 1, false, false, 0), (5, 5, 1, false, false, 0), (11, 2, 2, true, false, 1), (0, 5, 2, false, false, 4), (5, 3, 0, false, false, 1), (5, 4, 2, false, false, 1), (5, 12, 4, false, false, 0), (5, 5, 1, false, false, 0), (5, 5, 1, false, false, 0), (5, 5, 1, false, false, 0), (5, 3, 0, false, false, 2), (5, 3, 1, false, false, 1), (7, 1, 1, true, false, 2), (5, 5, 2, false, false, 0), (7, 1, 0, false, false, 4), (8, 2, 1, false, false, 1), (8, 4, 3, false, false, 1), (8, 6, 4, false, false, 1), (8, 3, 3, true, false, 2), (0, 4, 3, false, false, 4), (8, 3, 2, false, false, 1), (8, 4, 3, false, false, 1), (8, 4, 3, false, false, 1), (0, 5, 2, false, false, 4), (5, 5, 3, false, false, 0), (5, 2, 1, false, false, 0), (8, 5, 4, false, false, 1), (1, 1, 1, true, false, 2), (1, 7, 2, false, false, 2), (0, 3, 1, true, false, 1), (1, 4, 2, false, false, 0), (8, 6, 3, false, false, 1), (3, 3, 2, false, false, 4), (3, 6, 3, false, false, 0), (3, 3, 2, false, false, 0), (3, 6, 3, false, false, 0), (3, 3, 2, false, false, 0), (8, 4, 3, false, false, 1), (2, 6, 3, false, false, 2), (2, 7, 3, false, false, 0), (2, 5, 1, false, false, 1), (2, 4, 2, false, false, 1), (2, 5, 2, false, false, 0), (2, 7, 2, false, false, 0), (2, 3, 1, false, false, 0), (2, 6, 4, false, false, 0), (8, 3, 2, false, false, 1), (8, 2, 1, false, false, 1), (4, 3, 1, false, false, 0), (4, 6, 1, false, false, 0), (4, 5, 2, false, false, 2), (4, 7, 3, false, false, 1), (4, 10, 3, false, false, 1), (8, 2, 1, false, false, 1), (8, 3, 2, false, false, 2), (5, 4, 1, false, false, 2), (8, 2, 1, false, false, 1), (6, 4, 1, false, false, 0), (6, 4, 3, false, false, 0), (6, 2, 1, false, false, 0), (6, 2, 1, false, false, 0), (6, 3, 2, false, false, 0), (8, 2, 1, false, false, 1), (10, 2, 2, true, false, 1), (9, 2, 1, false, true, 0), (9, 2, 1, false, false, 2), (9, 2, 0, false, false, 1), (9, 2, 1, false, false, 1), (9, 1, 1, true, false, 2), (9, 7, 0, false, false, 2), (9, 2, 1, false, false, 2), (9, 2, 1, false, false, 1), (9, 3, 1, false, false, 1), (9, 3, 0, false, false, 0), (9, 1, 0, false, false, 0), (9, 2, 1, false, false, 1), (9, 3, 1, false, false, 0), (9, 2, 1, false, false, 0), (9, 2, 1, false, false, 1), (9, 3, 0, false, false, 0), (9, 2, 1, true, false, 1), (9, 5, 2, false, false, 0), (9, 3, 1, false, false, 0), (9, 5, 1, false, false, 1), (9, 4, 2, false, false, 0), (9, 8, 4, false, false, 0), (9, 4, 1, false, false, 1), (9, 5, 2, false, false, 1), (9, 4, 3, false, false, 1), (9, 11, 7, false, false, 0), (9, 6, 4, false, false, 0), (9, 6, 1, false, false, 0), (9, 6, 2, false, false, 0), (9, 5, 1, false, false, 2), (9, 3, 2, false, false, 1), (9, 5, 2, false, false, 0), (9, 5, 1, false, false, 1), (9, 2, 1, false, false, 1), (9, 4, 3, false, false, 1), (9, 6, 4, false, false, 1), (9, 4, 3, false, false, 1), (9, 4, 3, false, false, 1), (9, 5, 3, false, false, 0), (9, 3, 1, false, false, 0), (9, 6, 4, false, false, 1), (9, 5, 1, false, false, 0), (9, 2, 1, true, false, 1), (9, 7, 3, false, false, 1), (9, 5, 2, false, false, 0), (9, 4, 2, false, false, 0), (9, 4, 3, false, false, 0), (9, 6, 3, false, false, 1), (9, 5, 2, false, false, 2), (9, 3, 1, false, false, 0), (9, 4, 0, false, false, 0), (9, 2, 0, false, false, 1), (9, 4, 1, false, false, 0), (9, 4, 2, false, false, 0), (9, 6, 2, false, false, 1), (9, 4, 1, false, false, 1), (9, 7, 2, false, false, 2), (9, 5, 2, false, false, 0), (9, 4, 1, false, false, 1), (9, 5, 2, false, false, 2), (9, 5, 1, false, false, 1), (9, 2, 1, false, false, 0), (9, 2, 1, false, false, 0), (9, 3, 2, false, false, 0), (9, 2, 1, false, false, 1)]
def om_rts : List (Option FieldType) := [some (.boolean), none, none, none, none, none, none, none, none, none, some (.boolean), some (.boolean), some (.int), some (.int), some (.int), some (.boolean), some (.boolean), some (.int), none, some (.char), some (.boolean), some (.int), none, none, none, none, none, none, none, some (.boolean), some (.int), none, none, some (.int), some (.object "OreSolver$Operator"), some (.int), some (.int), none, none, none, none, some (.boolean), some (.int), some (.boolean), none, some (.object "OreSolver$Operator"), some (.int), some (.int), some (.int), some (.boolean), some (.object "OreSolver$Operator"), some (.int), some (.int), some (.int), some (.object "OreSolver$Operator"), none, none, some (.int), some (.boolean), some (.boolean), some (.int), none, some (.int), some (.object "OreSolver$Operator"), none, none, none, none, some (.int), some (.boolean), none, some (.int), some (.int), none, none, none, none, some (.int), some (.int), none, none, some (.boolean), some (.int), some (.int), some (.int), some (.boolean), some (.boolean), some (.int), none, none, none, none, none, some (.int), some (.int), none, some (.boolean), some (.int), some (.int), some (.boolean), some (.boolean), some (.boolean), some (.int), some (.int), none, none, some (.int), none, none, some (.int), none, some (.int), none, none, some (.int), none, none, some (.int), some (.int), some (.int), none, none, none, none, some (.boolean), some (.int), none, some (.int), some (.int), some (.int), some (.int), some (.int), some (.int), none, none, some (.int), none, some (.int), some (.int), none, none, none, some (.int), some (.boolean), none, none, some (.int), none, none, some (.int), some (.int), some (.boolean), none, some (.int), some (.boolean), some (.int), none, none, none, some (.int)]
def om_mix : List (Nat × Nat × Nat × Nat) := [(0, 0, 0, 73), (91, 90, 0, 74), (101, 100, 0, 75), (116, 115, 0, 76), (134, 133, 0, 77), (155, 154, 0, 78), (194, 193, 0, 79), (217, 216, 0, 80), (244, 243, 0, 81), (273, 272, 0, 82), (320, 318, 319, 74), (324, 322, 323, 78), (328, 326, 327, 74), (332, 330, 331, 78), (336, 334, 335, 74), (339, 338, 0, 74), (342, 341, 0, 74), (346, 344, 345, 78), (350, 349, 0, 78), (354, 353, 1, 78), (357, 356, 0, 78), (361, 360, 2, 78), (365, 363, 364, 76), (368, 367, 0, 84), (372, 371, 3, 78), (376, 374, 375, 76), (381, 379, 380, 76), (385, 384, 4, 78), (389, 388, 5, 78), (392, 391, 0, 78), (396, 395, 6, 78), (400, 399, 7, 78), (404, 402, 403, 76), (407, 406, 0, 85), (414, 412, 413, 77), (418, 416, 417, 76), (422, 420, 421, 76), (428, 426, 427, 76), (432, 430, 431, 76), (436, 434, 435, 76), (440, 438, 439, 76), (444, 442, 443, 76), (448, 446, 447, 76), (451, 450, 0, 78), (455, 453, 454, 76), (459, 457, 458, 78), (465, 463, 464, 74), (469, 467, 468, 74), (474, 472, 473, 74), (477, 476, 0, 74), (481, 479, 480, 77), (486, 485, 8, 74), (491, 489, 490, 74), (496, 494, 495, 74), (500, 498, 499, 77), (504, 502, 503, 76), (508, 506, 507, 76), (512, 510, 511, 74), (515, 514, 0, 79), (521, 519, 520, 79), (525, 524, 0, 77), (532, 531, 9, 79), (539, 537, 538, 74), (543, 541, 542, 80), (549, 548, 10, 80), (555, 554, 11, 80), (561, 560, 12, 80), (566, 565, 13, 80), (572, 570, 571, 74), (576, 574, 575, 81), (580, 579, 14, 81), (589, 588, 15, 81), (593, 592, 16, 81), (597, 596, 17, 81), (601, 600, 18, 81), (606, 605, 19, 81), (610, 609, 20, 81), (614, 612, 613, 74), (621, 619, 620, 74), (625, 623, 624, 82), (629, 628, 21, 82), (635, 634, 22, 82), (639, 638, 23, 82), (643, 642, 24, 82), (647, 645, 646, 74), (651, 649, 650, 74), (655, 653, 654, 76), (659, 657, 658, 74), (663, 661, 662, 75), (668, 667, 25, 75), (672, 671, 26, 75), (676, 675, 27, 75), (680, 679, 28, 75), (684, 682, 683, 74), (687, 686, 0, 73), (692, 691, 0, 83), (768, 766, 767, 83), (772, 770, 771, 83), (776, 774, 775, 83), (779, 778, 0, 83), (783, 782, 29, 83), (787, 786, 30, 83), (791, 790, 31, 83), (795, 794, 32, 83), (799, 798, 33, 83), (803, 802, 34, 83), (807, 806, 35, 83), (811, 810, 36, 83), (815, 814, 37, 83), (819, 818, 38, 83), (823, 822, 39, 83), (826, 825, 0, 83), (830, 829, 40, 83), (834, 833, 41, 83), (838, 837, 42, 83), (842, 841, 43, 83), (846, 845, 44, 83), (850, 849, 45, 83), (854, 853, 46, 83), (858, 857, 47, 83), (862, 861, 48, 83), (866, 865, 49, 83), (870, 869, 50, 83), (874, 873, 51, 83), (878, 877, 52, 83), (882, 881, 53, 83), (886, 885, 54, 83), (890, 889, 55, 83), (894, 892, 893, 83), (898, 896, 897, 83), (902, 900, 901, 83), (906, 904, 905, 83), (910, 908, 909, 83), (915, 914, 56, 83), (919, 918, 57, 83), (923, 921, 922, 83), (927, 926, 58, 83), (930, 929, 0, 83), (934, 932, 933, 83), (938, 937, 59, 83), (942, 941, 60, 83), (946, 945, 61, 83), (950, 948, 949, 83), (954, 953, 62, 83), (958, 957, 63, 83), (962, 961, 64, 83), (966, 965, 65, 83), (970, 969, 66, 83), (974, 973, 67, 83), (978, 976, 977, 83), (982, 980, 981, 83), (986, 985, 68, 83), (990, 989, 69, 83), (994, 992, 993, 83), (998, 996, 997, 83), (1002, 1000, 1001, 83), (1006, 1005, 70, 83), (1010, 1009, 71, 83), (1014, 1013, 72, 83), (1018, 1016, 1017, 83)]
def om_c0 : List (Option (Instr × Nat)) := [some (.new 7, 3), none, none, some (.dup, 1), some (.aload_n 0, 1), some (.iconst 0, 1), some (.invokestatic 9, 3), none, none, some (.invokespecial 15, 3), none, none, some (.astore_n 1, 1), some (.new 18, 3), none, none, some (.dup, 1), some (.aload_n 0, 1), some (.iconst 0, 1), some (.invokestatic 9, 3), none, none, some (.invokespecial 20, 3), none, none, some (.astore_n 2, 1), some (.iconst 1, 1), some (.istore_n 3, 1), some (.iload_n 3, 1), some (.aload_n 0, 1), some (.arraylength, 1), some (.iconst 5, 1), some (.isub, 1), some (.if_icmp .gt 660, 3), none, none, some (.aload_n 0, 1), some (.iload_n 3, 1), some (.iaload, 1), some (.bipush 31, 2), none, some (.iand, 1), some (.tableswitch 645 0 16 #[82, 107, 120, 143, 166, 209, 262, 305, 348, 401, 444, 487, 520, 543, 566, 599, 622], 82), none, none, none, none, none, none, none, none, none, none, none, none, none, none, none, none, none, none, none, none, none, none, none, none, none, none, none, none, none, none, none, none, none, none, none, none, none, none, none, none, none, none, none, none, none, none, none, none, none, none, none, none, none, none, none, none, none, none, none, none, none, none, none, none, none, none, none, none, none, none, none, none, none, none, none, none, none, none, none, none, none, some (.aload_n 1, 1), some (.aload_n 0, 1), some (.iload_n 3, 1), some (.iconst 1, 1), some (.iadd, 1), some (.iaload, 1), some (.i2c, 1), some (.invokevirtual 21, 3), none, none, some (.aload_n 2, 1), some (.aload_n 0, 1), some (.iload_n 3, 1), some (.iconst 1, 1), some (.iadd, 1), some (.iaload, 1), some (.i2c, 1), some (.invokevirtual 25, 3), none, none, some (.if_icmp .eq 543, 3), none, none, some (.iconst 0, 1), some (.ireturn, 1), some (.aload_n 1, 1), some (.invokevirtual 26, 3), none, none, some (.aload_n 2, 1), some (.invokevirtual 30, 3), none, none, some (.if_icmp .eq 530, 3), none, none, some (.iconst 0, 1), some (.ireturn, 1), some (.aload_n 1, 1), some (.aload_n 0, 1), some (.iload_n 3, 1), some (.iconst 1, 1), some (.iadd, 1), some (.iaload, 1), some (.invokevirtual 31, 3), none, none, some (.aload_n 2, 1), some (.aload_n 0, 1), some (.iload_n 3, 1), some (.iconst 1, 1), some (.iadd, 1), some (.iaload, 1), some (.invokevirtual 35, 3), none, none, some (.if_icmp .eq 507, 3), none, none, some (.iconst 0, 1), some (.ireturn, 1), some (.aload_n 1, 1), some (.aload_n 0, 1), some (.iload_n 3, 1), some (.iconst 1, 1), some (.iadd, 1), some (.iaload, 1), some (.invokevirtual 36, 3), none, none, some (.aload_n 2, 1), some (.aload_n 0, 1), some (.iload_n 3, 1), some (.iconst 1, 1), some (.iadd, 1), some (.iaload, 1), some (.invokevirtual 39, 3), none, none, some (.if_icmp .eq 484, 3), none, none, some (.iconst 0, 1), some (.ireturn, 1), some (.aload_n 1, 1), some (.aload_n 0, 1), some (.iload_n 3, 1), some (.iconst 1, 1), some (.iadd, 1), some (.iaload, 1), some (.aload_n 0, 1), some (.iload_n 3, 1), some (.iconst 2, 1), some (.iadd, 1), some (.iaload, 1), some (.aload_n 0, 1), some (.iload_n 3, 1), some (.iconst 3, 1), some (.iadd, 1), some (.iaload, 1), some (.invokevirtual 40, 3), none, none, some (.aload_n 2, 1), some (.aload_n 0, 1), some (.iload_n 3, 1), some (.iconst 1, 1), some (.iadd, 1), some (.iaload, 1), some (.aload_n 0, 1), some (.iload_n 3, 1), some (.iconst 2, 1), some (.iadd, 1), some (.iaload, 1), some (.aload_n 0, 1), some (.iload_n 3, 1), some (.iconst 3, 1), some (.iadd, 1), some (.iaload, 1), some (.invokevirtual 44, 3), none, none, some (.if_icmp .eq 441, 3), none, none, some (.iconst 0, 1), some (.ireturn, 1), some (.aload_n 1, 1), some (.aload_n 0, 1), some (.iload_n 3, 1), some (.iconst 1, 1), some (.iadd, 1), some (.iaload, 1), some (.aload_n 0, 1), some (.iload_n 3, 1), some (.iconst 2, 1), some (.iadd, 1), some (.iaload, 1), some (.aload_n 0, 1), some (.iload_n 3, 1), some (.iconst 3, 1), some (.iadd, 1), some (.iaload, 1), some (.aload_n 0, 1), some (.iload_n 3, 1), some (.iconst 4, 1), some (.iadd, 1), some (.iaload, 1), some (.invokevirtual 45, 3), none, none, some (.aload_n 2, 1), some (.aload_n 0, 1), some (.iload_n 3, 1), some (.iconst 1, 1), some (.iadd, 1), some (.iaload, 1), some (.aload_n 0, 1), some (.iload_n 3, 1), some (.iconst 2, 1), some (.iadd, 1), some (.iaload, 1), some (.aload_n 0, 1), some (.iload_n 3, 1), some (.iconst 3, 1), some (.iadd, 1), some (.iaload, 1), some (.aload_n 0, 1), some (.iload_n 3, 1), some (.iconst 4, 1), some (.iadd, 1), some (.iaload, 1), some (.invokevirtual 49, 3), none, none, some (.if_icmp .eq 388, 3), none, none, some (.iconst 0, 1), some (.ireturn, 1), some (.aload_n 1, 1), some (.aload_n 0, 1), some (.iload_n 3, 1), some (.iconst 1, 1), some (.iadd, 1), some (.iaload, 1), some (.aload_n 0, 1), some (.iload_n 3, 1), some (.iconst 2, 1), some (.iadd, 1), some (.iaload, 1), some (.aload_n 0, 1), some (.iload_n 3, 1), some (.iconst 3, 1), some (.iadd, 1), some (.iaload, 1), some (.invokevirtual 50, 3), none, none, some (.aload_n 2, 1), some (.aload_n 0, 1), some (.iload_n 3, 1), some (.iconst 1, 1), some (.iadd, 1), some (.iaload, 1), some (.aload_n 0, 1), some (.iload_n 3, 1), some (.iconst 2, 1), some (.iadd, 1), some (.iaload, 1), some (.aload_n 0, 1), some (.iload_n 3, 1), some (.iconst 3, 1), some (.iadd, 1), some (.iaload, 1), some (.invokevirtual 53, 3), none, none, some (.if_icmp .eq 345, 3), none, none, some (.iconst 0, 1), some (.ireturn, 1), some (.aload_n 1, 1), some (.aload_n 0, 1), some (.iload_n 3, 1), some (.iconst 1, 1), some (.iadd, 1), some (.iaload, 1), some (.aload_n 0, 1), some (.iload_n 3, 1), some (.iconst 2, 1), some (.iadd, 1), some (.iaload, 1), some (.aload_n 0, 1), some (.iload_n 3, 1), some (.iconst 3, 1), some (.iadd, 1), some (.iaload, 1), some (.invokevirtual 54, 3), none, none, some (.aload_n 2, 1), some (.aload_n 0, 1), some (.iload_n 3, 1), some (.iconst 1, 1), some (.iadd, 1), some (.iaload, 1), some (.aload_n 0, 1), some (.iload_n 3, 1), some (.iconst 2, 1), some (.iadd, 1), some (.iaload, 1), some (.aload_n 0, 1), some (.iload_n 3, 1), some (.iconst 3, 1), some (.iadd, 1), some (.iaload, 1), some (.invokevirtual 57, 3), none, none, some (.if_icmp .eq 302, 3), none, none, some (.iconst 0, 1), some (.ireturn, 1), some (.aload_n 1, 1), some (.aload_n 0, 1), some (.iload_n 3, 1), some (.iconst 1, 1), some (.iadd, 1), some (.iaload, 1), some (.aload_n 0, 1), some (.iload_n 3, 1), some (.iconst 2, 1), some (.iadd, 1), some (.iaload, 1), some (.aload_n 0, 1), some (.iload_n 3, 1), some (.iconst 3, 1), some (.iadd, 1), some (.iaload, 1), some (.aload_n 0, 1), some (.iload_n 3, 1), some (.iconst 4, 1), some (.iadd, 1), some (.iaload, 1), some (.invokevirtual 58, 3), none, none, some (.aload_n 2, 1), some (.aload_n 0, 1), some (.iload_n 3, 1), some (.iconst 1, 1), some (.iadd, 1), some (.iaload, 1), some (.aload_n 0, 1), some (.iload_n 3, 1), some (.iconst 2, 1), some (.iadd, 1), some (.iaload, 1), some (.aload_n 0, 1), some (.iload_n 3, 1), some (.iconst 3, 1), some (.iadd, 1), some (.iaload, 1), some (.aload_n 0, 1), some (.iload_n 3, 1), some (.iconst 4, 1), some (.iadd, 1), some (.iaload, 1), some (.invokevirtual 61, 3), none, none, some (.if_icmp .eq 249, 3), none, none, some (.iconst 0, 1), some (.ireturn, 1), some (.aload_n 1, 1), some (.aload_n 0, 1), some (.iload_n 3, 1), some (.iconst 1, 1), some (.iadd, 1), some (.iaload, 1), some (.aload_n 0, 1), some (.iload_n 3, 1), some (.iconst 2, 1), some (.iadd, 1), some (.iaload, 1), some (.aload_n 0, 1), some (.iload_n 3, 1), some (.iconst 3, 1), some (.iadd, 1), some (.iaload, 1), some (.invokevirtual 62, 3), none, none, some (.aload_n 2, 1), some (.aload_n 0, 1), some (.iload_n 3, 1), some (.iconst 1, 1), some (.iadd, 1), some (.iaload, 1), some (.aload_n 0, 1), some (.iload_n 3, 1), some (.iconst 2, 1), some (.iadd, 1), some (.iaload, 1), some (.aload_n 0, 1), some (.iload_n 3, 1), some (.iconst 3, 1), some (.iadd, 1), some (.iaload, 1), some (.invokevirtual 65, 3), none, none, some (.if_icmp .eq 206, 3), none, none, some (.iconst 0, 1), some (.ireturn, 1), some (.aload_n 1, 1), some (.aload_n 0, 1), some (.iload_n 3, 1), some (.iconst 1, 1), some (.iadd, 1), some (.iaload, 1), some (.aload_n 0, 1), some (.iload_n 3, 1), some (.iconst 2, 1), some (.iadd, 1), some (.iaload, 1), some (.aload_n 0, 1), some (.iload_n 3, 1), some (.iconst 3, 1), some (.iadd, 1), some (.iaload, 1), some (.invokevirtual 66, 3), none, none, some (.aload_n 2, 1), some (.aload_n 0, 1), some (.iload_n 3, 1), some (.iconst 1, 1), some (.iadd, 1), some (.iaload, 1), some (.aload_n 0, 1), some (.iload_n 3, 1), some (.iconst 2, 1), some (.iadd, 1), some (.iaload, 1), some (.aload_n 0, 1), some (.iload_n 3, 1), some (.iconst 3, 1), some (.iadd, 1), some (.iaload, 1), some (.invokevirtual 69, 3), none, none, some (.if_icmp .eq 163, 3), none, none, some (.iconst 0, 1), some (.ireturn, 1), some (.aload_n 1, 1), some (.aload_n 0, 1), some (.iload_n 3, 1), some (.iconst 1, 1), some (.iadd, 1), some (.iaload, 1), some (.aload_n 0, 1), some (.iload_n 3, 1), some (.iconst 2, 1), some (.iadd, 1), some (.iaload, 1), some (.invokevirtual 70, 3), none, none, some (.aload_n 2, 1), some (.aload_n 0, 1), some (.iload_n 3, 1), some (.iconst 1, 1), some (.iadd, 1), some (.iaload, 1), some (.aload_n 0, 1), some (.iload_n 3, 1), some (.iconst 2, 1), some (.iadd, 1), some (.iaload, 1), some (.invokevirtual 74, 3), none, none, some (.if_icmp .eq 130, 3), none, none, some (.iconst 0, 1), some (.ireturn, 1), some (.aload_n 1, 1), some (.aload_n 0, 1), some (.iload_n 3, 1), some (.iconst 1, 1), some (.iadd, 1), some (.iaload, 1), some (.invokevirtual 75, 3), none, none, some (.aload_n 2, 1), some (.aload_n 0, 1), some (.iload_n 3, 1), some (.iconst 1, 1), some (.iadd, 1), some (.iaload, 1), some (.invokevirtual 78, 3), none, none, some (.if_icmp .eq 107, 3), none, none, some (.iconst 0, 1), some (.ireturn, 1), some (.aload_n 1, 1), some (.aload_n 0, 1), some (.iload_n 3, 1), some (.iconst 1, 1), some (.iadd, 1), some (.iaload, 1), some (.invokevirtual 79, 3), none, none, some (.aload_n 2, 1), some (.aload_n 0, 1), some (.iload_n 3, 1), some (.iconst 1, 1), some (.iadd, 1), some (.iaload, 1), some (.invokevirtual 82, 3), none, none, some (.if_icmp .eq 84, 3), none, none, some (.iconst 0, 1), some (.ireturn, 1), some (.aload_n 1, 1), some (.aload_n 0, 1), some (.iload_n 3, 1), some (.iconst 1, 1), some (.iadd, 1), some (.iaload, 1), some (.aload_n 0, 1), some (.iload_n 3, 1), some (.iconst 2, 1), some (.iadd, 1), some (.iaload, 1), some (.invokevirtual 83, 3), none, none, some (.aload_n 2, 1), some (.aload_n 0, 1), some (.iload_n 3, 1), some (.iconst 1, 1), some (.iadd, 1), some (.iaload, 1), some (.aload_n 0, 1), some (.iload_n 3, 1), some (.iconst 2, 1), some (.iadd, 1), some (.iaload, 1), some (.invokevirtual 87, 3), none, none, some (.if_icmp .eq 51, 3), none, none, some (.iconst 0, 1), some (.ireturn, 1), some (.aload_n 1, 1), some (.aload_n 0, 1), some (.iload_n 3, 1), some (.iconst 1, 1), some (.iadd, 1), some (.iaload, 1), some (.invokevirtual 88, 3), none, none, some (.aload_n 2, 1), some (.aload_n 0, 1), some (.iload_n 3, 1), some (.iconst 1, 1), some (.iadd, 1), some (.iaload, 1), some (.invokevirtual 91, 3), none, none, some (.if_icmp .eq 28, 3), none, none, some (.iconst 0, 1), some (.ireturn, 1), some (.aload_n 1, 1), some (.aload_n 0, 1), some (.iload_n 3, 1), some (.iconst 1, 1), some (.iadd, 1), some (.iaload, 1), some (.invokevirtual 92, 3), none, none, some (.aload_n 2, 1), some (.aload_n 0, 1), some (.iload_n 3, 1), some (.iconst 1, 1), some (.iadd, 1), some (.iaload, 1), some (.invokevirtual 95, 3), none, none, some (.if_icmp .eq 5, 3), none, none, some (.iconst 0, 1), some (.ireturn, 1), some (.iinc 3 5, 3), none, none, some (.goto (-662), 3), none, none, some (.iconst 1, 1), some (.ireturn, 1)]
def om_c1 : List (Option (Instr × Nat)) := [some (.aload_n 0, 1), some (.invokespecial 3, 3), none, none, some (.aload_n 0, 1), some (.bipush 8, 2), none, some (.anewarray 9, 3), none, none, some (.putfield 11, 3), none, none, some (.aload_n 0, 1), some (.new 15, 3), none, none, some (.dup, 1), some (.invokespecial 17, 3), none, none, some (.putfield 18, 3), none, none, some (.iconst 0, 1), some (.istore_n 2, 1), some (.iload_n 2, 1), some (.bipush 8, 2), none, some (.if_icmp .ge 25, 3), none, none, some (.aload_n 0, 1), some (.getfield 11, 3), none, none, some (.iload_n 2, 1), some (.new 9, 3), none, none, some (.dup, 1), some (.iconst 5, 1), some (.bipush 13, 2), none, some (.invokespecial 22, 3), none, none, some (.aastore, 1), some (.iinc 2 1, 3), none, none, some (.goto (-25), 3), none, none, some (.aload_n 0, 1), some (.new 25, 3), none, none, some (.dup, 1), some (.iload_n 1, 1), some (.ifCond .eq 7, 3), none, none, some (.iconst 1, 1), some (.goto 4, 3), none, none, some (.iconst 0, 1), some (.invokespecial 27, 3), none, none, some (.putfield 30, 3), none, none, some (.aload_n 0, 1), some (.new 34, 3), none, none, some (.dup, 1), some (.aload_n 0, 1), some (.getfield 30, 3), none, none, some (.invokespecial 36, 3), none, none, some (.putfield 39, 3), none, none, some (.aload_n 0, 1), some (.new 43, 3), none, none, some (.dup, 1), some (.aload_n 0, 1), some (.getfield 30, 3), none, none, some (.invokespecial 45, 3), none, none, some (.putfield 46, 3), none, none, some (.aload_n 0, 1), some (.new 50, 3), none, none, some (.dup, 1), some (.aload_n 0, 1), some (.getfield 30, 3), none, none, some (.invokespecial 52, 3), none, none, some (.putfield 53, 3), none, none, some (.aload_n 0, 1), some (.new 57, 3), none, none, some (.dup, 1), some (.aload_n 0, 1), some (.getfield 30, 3), none, none, some (.invokespecial 59, 3), none, none, some (.putfield 60, 3), none, none, some (.aload_n 0, 1), some (.new 64, 3), none, none, some (.dup, 1), some (.aload_n 0, 1), some (.getfield 30, 3), none, none, some (.invokespecial 66, 3), none, none, some (.putfield 67, 3), none, none, some (.return_, 1)]
def om_c2 : List (Option (Instr × Nat)) := [some (.aload_n 0, 1), some (.invokespecial 3, 3), none, none, some (.aload_n 0, 1), some (.sipush 650, 3), none, none, some (.newarray .char, 2), none, some (.putfield 11, 3), none, none, some (.aload_n 0, 1), some (.iconst 0, 1), some (.putfield 15, 3), none, none, some (.return_, 1)]
def om_c3 : List (Option (Instr × Nat)) := [some (.aload_n 0, 1), some (.invokespecial 3, 3), none, none, some (.aload_n 0, 1), some (.iload_n 1, 1), some (.putfield 9, 3), none, none, some (.aload_n 0, 1), some (.iload_n 2, 1), some (.putfield 15, 3), none, none, some (.aload_n 0, 1), some (.iload_n 1, 1), some (.iload_n 2, 1), some (.imul, 1), some (.newarray .int, 2), none, some (.putfield 18, 3), none, none, some (.return_, 1)]
def om_c4 : List (Option (Instr × Nat)) := [some (.aload_n 0, 1), some (.invokespecial 3, 3), none, none, some (.aload_n 0, 1), some (.new 9, 3), none, none, some (.dup, 1), some (.bipush 9, 2), none, some (.bipush 25, 2), none, some (.invokespecial 11, 3), none, none, some (.putfield 14, 3), none, none, some (.aload_n 0, 1), some (.new 9, 3), none, none, some (.dup, 1), some (.bipush 9, 2), none, some (.bipush 25, 2), none, some (.invokespecial 11, 3), none, none, some (.putfield 20, 3), none, none, some (.aload_n 0, 1), some (.iload_n 1, 1), some (.putfield 23, 3), none, none, some (.return_, 1)]
def om_c5 : List (Option (Instr × Nat)) := [some (.aload_n 0, 1), some (.invokespecial 3, 3), none, none, some (.aload_n 0, 1), some (.bipush 40, 2), none, some (.newarray .char, 2), none, some (.putfield 9, 3), none, none, some (.aload_n 0, 1), some (.iconst 0, 1), some (.putfield 15, 3), none, none, some (.aload_n 0, 1), some (.iconst 0, 1), some (.putfield 19, 3), none, none, some (.aload_n 0, 1), some (.iconst 0, 1), some (.putfield 22, 3), none, none, some (.aload_n 0, 1), some (.iconst 0, 1), some (.putfield 26, 3), none, none, some (.aload_n 0, 1), some (.iconst 5, 1), some (.anewarray 29, 3), none, none, some (.putfield 31, 3), none, none, some (.aload_n 0, 1), some (.iconst 5, 1), some (.anewarray 29, 3), none, none, some (.putfield 35, 3), none, none, some (.aload_n 0, 1), some (.iconst 5, 1), some (.anewarray 29, 3), none, none, some (.putfield 38, 3), none, none, some (.aload_n 0, 1), some (.iconst 5, 1), some (.anewarray 29, 3), none, none, some (.putfield 41, 3), none, none, some (.aload_n 0, 1), some (.aload_n 1, 1), some (.putfield 44, 3), none, none, some (.iconst 0, 1), some (.istore_n 2, 1), some (.iload_n 2, 1), some (.iconst 4, 1), some (.if_icmp .gt 73, 3), none, none, some (.aload_n 0, 1), some (.getfield 31, 3), none, none, some (.iload_n 2, 1), some (.new 29, 3), none, none, some (.dup, 1), some (.iconst 5, 1), some (.bipush 13, 2), none, some (.invokespecial 48, 3), none, none, some (.aastore, 1), some (.aload_n 0, 1), some (.getfield 35, 3), none, none, some (.iload_n 2, 1), some (.new 29, 3), none, none, some (.dup, 1), some (.iconst 5, 1), some (.bipush 13, 2), none, some (.invokespecial 48, 3), none, none, some (.aastore, 1), some (.aload_n 0, 1), some (.getfield 38, 3), none, none, some (.iload_n 2, 1), some (.new 29, 3), none, none, some (.dup, 1), some (.iconst 5, 1), some (.bipush 13, 2), none, some (.invokespecial 48, 3), none, none, some (.aastore, 1), some (.aload_n 0, 1), some (.getfield 41, 3), none, none, some (.iload_n 2, 1), some (.new 29, 3), none, none, some (.dup, 1), some (.iconst 5, 1), some (.bipush 13, 2), none, some (.invokespecial 48, 3), none, none, some (.aastore, 1), some (.iinc 2 1, 3), none, none, some (.goto (-72), 3), none, none, some (.return_, 1)]
def om_c6 : List (Option (Instr × Nat)) := [some (.aload_n 0, 1), some (.invokespecial 3, 3), none, none, some (.aload_n 0, 1), some (.new 9, 3), none, none, some (.dup, 1), some (.iconst 5, 1), some (.bipush 13, 2), none, some (.invokespecial 11, 3), none, none, some (.putfield 14, 3), none, none, some (.aload_n 0, 1), some (.new 9, 3), none, none, some (.dup, 1), some (.iconst 5, 1), some (.bipush 25, 2), none, some (.invokespecial 11, 3), none, none, some (.putfield 20, 3), none, none, some (.aload_n 0, 1), some (.new 9, 3), none, none, some (.dup, 1), some (.iconst 5, 1), some (.bipush 13, 2), none, some (.invokespecial 11, 3), none, none, some (.putfield 23, 3), none, none, some (.aload_n 0, 1), some (.aload_n 1, 1), some (.putfield 26, 3), none, none, some (.return_, 1)]
def om_c7 : List (Option (Instr × Nat)) := [some (.aload_n 0, 1), some (.invokespecial 3, 3), none, none, some (.aload_n 0, 1), some (.new 9, 3), none, none, some (.dup, 1), some (.iconst 5, 1), some (.bipush 61, 2), none, some (.invokespecial 11, 3), none, none, some (.putfield 14, 3), none, none, some (.aload_n 0, 1), some (.new 9, 3), none, none, some (.dup, 1), some (.iconst 5, 1), some (.bipush 61, 2), none, some (.invokespecial 11, 3), none, none, some (.putfield 20, 3), none, none, some (.aload_n 0, 1), some (.new 9, 3), none, none, some (.dup, 1), some (.iconst 5, 1), some (.bipush 61, 2), none, some (.invokespecial 11, 3), none, none, some (.putfield 23, 3), none, none, some (.aload_n 0, 1), some (.new 9, 3), none, none, some (.dup, 1), some (.iconst 5, 1), some (.bipush 61, 2), none, some (.invokespecial 11, 3), none, none, some (.putfield 26, 3), none, none, some (.aload_n 0, 1), some (.new 9, 3), none, none, some (.dup, 1), some (.iconst 1, 1), some (.bipush 13, 2), none, some (.invokespecial 11, 3), none, none, some (.putfield 29, 3), none, none, some (.aload_n 0, 1), some (.aload_n 1, 1), some (.putfield 32, 3), none, none, some (.return_, 1)]
def om_c8 : List (Option (Instr × Nat)) := [some (.aload_n 0, 1), some (.invokespecial 3, 3), none, none, some (.aload_n 0, 1), some (.new 9, 3), none, none, some (.dup, 1), some (.iconst 1, 1), some (.bipush 13, 2), none, some (.invokespecial 11, 3), none, none, some (.putfield 14, 3), none, none, some (.aload_n 0, 1), some (.new 9, 3), none, none, some (.dup, 1), some (.bipush 25, 2), none, some (.bipush 14, 2), none, some (.invokespecial 11, 3), none, none, some (.putfield 20, 3), none, none, some (.aload_n 0, 1), some (.bipush 13, 2), none, some (.newarray .int, 2), none, some (.putfield 23, 3), none, none, some (.aload_n 0, 1), some (.new 9, 3), none, none, some (.dup, 1), some (.bipush 14, 2), none, some (.bipush 13, 2), none, some (.invokespecial 11, 3), none, none, some (.putfield 27, 3), none, none, some (.aload_n 0, 1), some (.iconst (-1), 1), some (.putfield 30, 3), none, none, some (.aload_n 0, 1), some (.aload_n 1, 1), some (.putfield 34, 3), none, none, some (.return_, 1)]
def om_c9 : List (Option (Instr × Nat)) := [some (.aload_n 0, 1), some (.invokespecial 3, 3), none, none, some (.aload_n 0, 1), some (.new 9, 3), none, none, some (.dup, 1), some (.iconst 5, 1), some (.bipush 17, 2), none, some (.invokespecial 13, 3), none, none, some (.putfield 16, 3), none, none, some (.aload_n 0, 1), some (.sipush 961, 3), none, none, some (.newarray .int, 2), none, some (.putfield 20, 3), none, none, some (.aload_n 0, 1), some (.iconst 0, 1), some (.putfield 24, 3), none, none, some (.aload_n 0, 1), some (.aload_n 1, 1), some (.putfield 28, 3), none, none, some (.return_, 1)]
def om_c10 : List (Option (Instr × Nat)) := [some (.iload_n 1, 1), some (.bipush 33, 2), none, some (.if_icmp .lt 9, 3), none, none, some (.iload_n 1, 1), some (.bipush 126, 2), none, some (.if_icmp .le 5, 3), none, none, some (.iconst 0, 1), some (.ireturn, 1), some (.aload_n 0, 1), some (.getfield 39, 3), none, none, some (.iload_n 1, 1), some (.invokevirtual 71, 3), none, none, some (.ireturn, 1)]
def om_c11 : List (Option (Instr × Nat)) := [some (.aload_n 0, 1), some (.getfield 15, 3), none, none, some (.bipush 40, 2), none, some (.if_icmp .lt 5, 3), none, none, some (.iconst 0, 1), some (.ireturn, 1), some (.aload_n 0, 1), some (.getfield 9, 3), none, none, some (.aload_n 0, 1), some (.getfield 15, 3), none, none, some (.iload_n 1, 1), some (.castore, 1), some (.aload_n 0, 1), some (.dup, 1), some (.getfield 15, 3), none, none, some (.iconst 1, 1), some (.iadd, 1), some (.putfield 15, 3), none, none, some (.iconst 1, 1), some (.ireturn, 1)]
def om_c12 : List (Option (Instr × Nat)) := [some (.aload_n 0, 1), some (.getfield 39, 3), none, none, some (.invokevirtual 75, 3), none, none, some (.ireturn, 1)]
def om_c13 : List (Option (Instr × Nat)) := [some (.aload_n 0, 1), some (.getfield 15, 3), none, none, some (.istore_n 1, 1), some (.aload_n 0, 1), some (.iconst 0, 1), some (.putfield 15, 3), none, none, some (.iload_n 1, 1), some (.ireturn, 1)]
def om_c14 : List (Option (Instr × Nat)) := [some (.iload_n 1, 1), some (.invokestatic 79, 3), none, none, some (.ifCond .ne 5, 3), none, none, some (.iconst (-1), 1), some (.ireturn, 1), some (.aload_n 0, 1), some (.getfield 39, 3), none, none, some (.invokevirtual 83, 3), none, none, some (.istore_n 2, 1), some (.iload_n 2, 1), some (.ifCond .eq 5, 3), none, none, some (.iload_n 2, 1), some (.ireturn, 1), some (.aload_n 0, 1), some (.getfield 11, 3), none, none, some (.iload_n 1, 1), some (.aaload, 1), some (.aload_n 0, 1), some (.getfield 39, 3), none, none, some (.invokevirtual 86, 3), none, none, some (.invokevirtual 90, 3), none, none, some (.aload_n 0, 1), some (.getfield 11, 3), none, none, some (.iload_n 1, 1), some (.aaload, 1), some (.invokevirtual 94, 3), none, none, some (.iconst 1, 1), some (.iadd, 1), some (.ireturn, 1)]
def om_c15 : List (Option (Instr × Nat)) := [some (.iload_n 0, 1), some (.bipush 7, 2), none, some (.invokestatic 97, 3), none, none, some (.ireturn, 1)]
def om_c16 : List (Option (Instr × Nat)) := [some (.iload_n 0, 1), some (.ifCond .lt 12, 3), none, none, some (.iload_n 0, 1), some (.iload_n 1, 1), some (.if_icmp .gt 7, 3), none, none, some (.iconst 1, 1), some (.goto 4, 3), none, none, some (.iconst 0, 1), some (.ireturn, 1)]
def om_c17 : List (Option (Instr × Nat)) := [some (.aload_n 0, 1), some (.iconst 0, 1), some (.putfield 19, 3), none, none, some (.aload_n 0, 1), some (.iconst 0, 1), some (.putfield 22, 3), none, none, some (.aload_n 0, 1), some (.iconst 0, 1), some (.putfield 26, 3), none, none, some (.aload_n 0, 1), some (.iconst 0, 1), some (.invokevirtual 51, 3), none, none, some (.aload_n 0, 1), some (.getfield 22, 3), none, none, some (.ifCond .ne 14, 3), none, none, some (.aload_n 0, 1), some (.getfield 19, 3), none, none, some (.aload_n 0, 1), some (.getfield 15, 3), none, none, some (.if_icmp .eq 6, 3), none, none, some (.bipush (-2), 2), none, some (.ireturn, 1), some (.aload_n 0, 1), some (.getfield 26, 3), none, none, some (.ifCond .eq 8, 3), none, none, some (.bipush (-3), 2), none, some (.goto 4, 3), none, none, some (.iconst 0, 1), some (.ireturn, 1)]
def om_c18 : List (Option (Instr × Nat)) := [some (.aload_n 0, 1), some (.invokevirtual 59, 3), none, none, some (.invokestatic 63, 3), none, none, some (.ifCond .eq 10, 3), none, none, some (.aload_n 0, 1), some (.invokevirtual 66, 3), none, none, some (.goto 4, 3), none, none, some (.iconst 1, 1), some (.istore_n 2, 1), some (.aload_n 0, 1), some (.getfield 31, 3), none, none, some (.iload_n 1, 1), some (.aaload, 1), some (.invokevirtual 70, 3), none, none, some (.iconst 0, 1), some (.istore_n 3, 1), some (.iload_n 3, 1), some (.bipush 40, 2), none, some (.if_icmp .ge 54, 3), none, none, some (.aload_n 0, 1), some (.iload_n 1, 1), some (.invokevirtual 73, 3), none, none, some (.aload_n 0, 1), some (.getfield 22, 3), none, none, some (.ifCond .eq 4, 3), none, none, some (.return_, 1), some (.aload_n 0, 1), some (.getfield 31, 3), none, none, some (.iload_n 1, 1), some (.aaload, 1), some (.aload_n 0, 1), some (.getfield 35, 3), none, none, some (.iload_n 1, 1), some (.aaload, 1), some (.iload_n 2, 1), some (.invokevirtual 76, 3), none, none, some (.aload_n 0, 1), some (.invokevirtual 59, 3), none, none, some (.invokestatic 63, 3), none, none, some (.ifCond .ne 4, 3), none, none, some (.return_, 1), some (.aload_n 0, 1), some (.invokevirtual 66, 3), none, none, some (.istore_n 2, 1), some (.iinc 3 1, 3), none, none, some (.goto (-54), 3), none, none, some (.return_, 1)]
def om_c19 : List (Option (Instr × Nat)) := [some (.aload_n 0, 1), some (.getfield 19, 3), none, none, some (.aload_n 0, 1), some (.getfield 15, 3), none, none, some (.if_icmp .ge 15, 3), none, none, some (.aload_n 0, 1), some (.getfield 9, 3), none, none, some (.aload_n 0, 1), some (.getfield 19, 3), none, none, some (.caload, 1), some (.goto 4, 3), none, none, some (.iconst 0, 1), some (.ireturn, 1)]
def om_c20 : List (Option (Instr × Nat)) := [some (.iload_n 0, 1), some (.bipush 43, 2), none, some (.if_icmp .eq 9, 3), none, none, some (.iload_n 0, 1), some (.bipush 45, 2), none, some (.if_icmp .ne 7, 3), none, none, some (.iconst 1, 1), some (.goto 4, 3), none, none, some (.iconst 0, 1), some (.ireturn, 1)]
def om_c21 : List (Option (Instr × Nat)) := [some (.aload_n 0, 1), some (.invokevirtual 59, 3), none, none, some (.bipush 45, 2), none, some (.if_icmp .ne 8, 3), none, none, some (.bipush 30, 2), none, some (.goto 4, 3), none, none, some (.iconst 1, 1), some (.istore_n 1, 1), some (.aload_n 0, 1), some (.dup, 1), some (.getfield 19, 3), none, none, some (.iconst 1, 1), some (.iadd, 1), some (.putfield 19, 3), none, none, some (.iload_n 1, 1), some (.ireturn, 1)]
def om_c22 : List (Option (Instr × Nat)) := [some (.aload_n 0, 1), some (.getfield 18, 3), none, none, some (.iconst 0, 1), some (.invokestatic 22, 3), none, none, some (.return_, 1)]
def om_c23 : List (Option (Instr × Nat)) := [some (.iconst 0, 1), some (.istore_n 2, 1), some (.aload_n 0, 1), some (.arraylength, 1), some (.istore_n 3, 1), some (.iload_n 2, 1), some (.iload_n 3, 1), some (.if_icmp .ge 13, 3), none, none, some (.aload_n 0, 1), some (.iload_n 2, 1), some (.iload_n 1, 1), some (.iastore, 1), some (.iinc 2 1, 3), none, none, some (.goto (-12), 3), none, none, some (.return_, 1)]
def om_c24 : List (Option (Instr × Nat)) := [some (.aload_n 0, 1), some (.getfield 35, 3), none, none, some (.iload_n 1, 1), some (.aaload, 1), some (.iconst 0, 1), some (.iconst 0, 1), some (.iconst 1, 1), some (.invokevirtual 80, 3), none, none, some (.iconst 0, 1), some (.istore_n 2, 1), some (.iload_n 2, 1), some (.bipush 40, 2), none, some (.if_icmp .ge 108, 3), none, none, some (.aload_n 0, 1), some (.iload_n 1, 1), some (.invokevirtual 84, 3), none, none, some (.aload_n 0, 1), some (.getfield 22, 3), none, none, some (.ifCond .eq 4, 3), none, none, some (.return_, 1), some (.aload_n 0, 1), some (.getfield 44, 3), none, none, some (.aload_n 0, 1), some (.getfield 35, 3), none, none, some (.iload_n 1, 1), some (.aaload, 1), some (.aload_n 0, 1), some (.getfield 38, 3), none, none, some (.iload_n 1, 1), some (.aaload, 1), some (.invokevirtual 87, 3), none, none, some (.astore_n 3, 1), some (.aload_n 0, 1), some (.aload_n 0, 1), some (.getfield 26, 3), none, none, some (.ifCond .ne 10, 3), none, none, some (.aload_n 3, 1), some (.invokevirtual 93, 3), none, none, some (.ifCond .ne 7, 3), none, none, some (.iconst 1, 1), some (.goto 4, 3), none, none, some (.iconst 0, 1), some (.putfield 26, 3), none, none, some (.aload_n 0, 1), some (.getfield 35, 3), none, none, some (.iload_n 1, 1), some (.aaload, 1), some (.aload_n 3, 1), some (.invokevirtual 97, 3), none, none, some (.aload_n 0, 1), some (.invokevirtual 59, 3), none, none, some (.bipush 42, 2), none, some (.if_icmp .ne 16, 3), none, none, some (.aload_n 0, 1), some (.dup, 1), some (.getfield 19, 3), none, none, some (.iconst 1, 1), some (.iadd, 1), some (.putfield 19, 3), none, none, some (.goto 14, 3), none, none, some (.aload_n 0, 1), some (.invokevirtual 59, 3), none, none, some (.invokestatic 101, 3), none, none, some (.ifCond .ne 4, 3), none, none, some (.return_, 1), some (.iinc 2 1, 3), none, none, some (.goto (-108), 3), none, none, some (.return_, 1)]
def om_c25 : List (Option (Instr × Nat)) := [some (.aload_n 0, 1), some (.invokevirtual 28, 3), none, none, some (.aload_n 0, 1), some (.iload_n 1, 1), some (.iload_n 2, 1), some (.iload_n 3, 1), some (.invokevirtual 31, 3), none, none, some (.return_, 1)]
def om_c26 : List (Option (Instr × Nat)) := [some (.iload_n 1, 1), some (.ifCond .lt 57, 3), none, none, some (.iload_n 1, 1), some (.aload_n 0, 1), some (.getfield 9, 3), none, none, some (.if_icmp .ge 49, 3), none, none, some (.iload_n 2, 1), some (.ifCond .lt 45, 3), none, none, some (.iload_n 2, 1), some (.aload_n 0, 1), some (.getfield 15, 3), none, none, some (.if_icmp .ge 37, 3), none, none, some (.iload_n 3, 1), some (.bipush 31, 2), none, some (.irem, 1), some (.istore 4, 2), none, some (.aload_n 0, 1), some (.getfield 18, 3), none, none, some (.iload_n 1, 1), some (.aload_n 0, 1), some (.getfield 15, 3), none, none, some (.imul, 1), some (.iload_n 2, 1), some (.iadd, 1), some (.iload 4, 2), none, some (.ifCond .ge 11, 3), none, none, some (.iload 4, 2), none, some (.bipush 31, 2), none, some (.iadd, 1), some (.goto 5, 3), none, none, some (.iload 4, 2), none, some (.iastore, 1), some (.return_, 1)]
def om_c27 : List (Option (Instr × Nat)) := [some (.aload_n 0, 1), some (.iload_n 1, 1), some (.invokevirtual 104, 3), none, none, some (.aload_n 0, 1), some (.getfield 22, 3), none, none, some (.ifCond .eq 4, 3), none, none, some (.return_, 1), some (.aload_n 0, 1), some (.invokevirtual 59, 3), none, none, some (.bipush 94, 2), none, some (.if_icmp .eq 19, 3), none, none, some (.aload_n 0, 1), some (.getfield 38, 3), none, none, some (.iload_n 1, 1), some (.aaload, 1), some (.aload_n 0, 1), some (.getfield 41, 3), none, none, some (.iload_n 1, 1), some (.aaload, 1), some (.invokevirtual 97, 3), none, none, some (.return_, 1), some (.aload_n 0, 1), some (.dup, 1), some (.getfield 19, 3), none, none, some (.iconst 1, 1), some (.iadd, 1), some (.putfield 19, 3), none, none, some (.aload_n 0, 1), some (.invokevirtual 59, 3), none, none, some (.invokestatic 55, 3), none, none, some (.ifCond .ne 9, 3), none, none, some (.aload_n 0, 1), some (.iconst 1, 1), some (.putfield 22, 3), none, none, some (.return_, 1), some (.aload_n 0, 1), some (.invokevirtual 59, 3), none, none, some (.bipush 48, 2), none, some (.isub, 1), some (.istore_n 2, 1), some (.aload_n 0, 1), some (.dup, 1), some (.getfield 19, 3), none, none, some (.iconst 1, 1), some (.iadd, 1), some (.putfield 19, 3), none, none, some (.aload_n 0, 1), some (.getfield 38, 3), none, none, some (.iload_n 1, 1), some (.aaload, 1), some (.iconst 0, 1), some (.iconst 0, 1), some (.iconst 1, 1), some (.invokevirtual 80, 3), none, none, some (.iconst 0, 1), some (.istore_n 3, 1), some (.iload_n 3, 1), some (.iload_n 2, 1), some (.if_icmp .ge 65, 3), none, none, some (.aload_n 0, 1), some (.getfield 44, 3), none, none, some (.aload_n 0, 1), some (.getfield 38, 3), none, none, some (.iload_n 1, 1), some (.aaload, 1), some (.aload_n 0, 1), some (.getfield 41, 3), none, none, some (.iload_n 1, 1), some (.aaload, 1), some (.invokevirtual 87, 3), none, none, some (.astore 4, 2), none, some (.aload_n 0, 1), some (.aload_n 0, 1), some (.getfield 26, 3), none, none, some (.ifCond .ne 11, 3), none, none, some (.aload 4, 2), none, some (.invokevirtual 93, 3), none, none, some (.ifCond .ne 7, 3), none, none, some (.iconst 1, 1), some (.goto 4, 3), none, none, some (.iconst 0, 1), some (.putfield 26, 3), none, none, some (.aload_n 0, 1), some (.getfield 38, 3), none, none, some (.iload_n 1, 1), some (.aaload, 1), some (.aload 4, 2), none, some (.invokevirtual 97, 3), none, none, some (.iinc 3 1, 3), none, none, some (.goto (-64), 3), none, none, some (.return_, 1)]
def om_c28 : List (Option (Instr × Nat)) := [some (.aload_n 0, 1), some (.invokevirtual 59, 3), none, none, some (.istore_n 2, 1), some (.iload_n 2, 1), some (.invokestatic 55, 3), none, none, some (.ifCond .eq 21, 3), none, none, some (.aload_n 0, 1), some (.getfield 41, 3), none, none, some (.iload_n 1, 1), some (.aaload, 1), some (.iconst 0, 1), some (.iconst 0, 1), some (.aload_n 0, 1), some (.invokevirtual 107, 3), none, none, some (.invokevirtual 80, 3), none, none, some (.goto 89, 3), none, none, some (.iload_n 2, 1), some (.bipush 120, 2), none, some (.if_icmp .ne 28, 3), none, none, some (.aload_n 0, 1), some (.dup, 1), some (.getfield 19, 3), none, none, some (.iconst 1, 1), some (.iadd, 1), some (.putfield 19, 3), none, none, some (.aload_n 0, 1), some (.getfield 41, 3), none, none, some (.iload_n 1, 1), some (.aaload, 1), some (.iconst 0, 1), some (.iconst 1, 1), some (.iconst 1, 1), some (.invokevirtual 80, 3), none, none, some (.goto 58, 3), none, none, some (.iload_n 2, 1), some (.bipush 84, 2), none, some (.if_icmp .ne 28, 3), none, none, some (.aload_n 0, 1), some (.dup, 1), some (.getfield 19, 3), none, none, some (.iconst 1, 1), some (.iadd, 1), some (.putfield 19, 3), none, none, some (.aload_n 0, 1), some (.getfield 41, 3), none, none, some (.iload_n 1, 1), some (.aaload, 1), some (.iconst 1, 1), some (.iconst 0, 1), some (.iconst 1, 1), some (.invokevirtual 80, 3), none, none, some (.goto 27, 3), none, none, some (.iload_n 2, 1), some (.bipush 40, 2), none, some (.if_icmp .ne 16, 3), none, none, some (.iload_n 1, 1), some (.iconst 4, 1), some (.if_icmp .ge 11, 3), none, none, some (.aload_n 0, 1), some (.iload_n 1, 1), some (.invokevirtual 110, 3), none, none, some (.goto 8, 3), none, none, some (.aload_n 0, 1), some (.iconst 1, 1), some (.putfield 22, 3), none, none, some (.return_, 1)]
def om_c29 : List (Option (Instr × Nat)) := [some (.iload_n 0, 1), some (.bipush 48, 2), none, some (.if_icmp .lt 13, 3), none, none, some (.iload_n 0, 1), some (.bipush 57, 2), none, some (.if_icmp .gt 7, 3), none, none, some (.iconst 1, 1), some (.goto 4, 3), none, none, some (.iconst 0, 1), some (.ireturn, 1)]
def om_c30 : List (Option (Instr × Nat)) := [some (.iconst 0, 1), some (.istore_n 1, 1), some (.iconst 0, 1), some (.istore_n 2, 1), some (.iload_n 2, 1), some (.bipush 40, 2), none, some (.if_icmp .ge 45, 3), none, none, some (.aload_n 0, 1), some (.invokevirtual 59, 3), none, none, some (.invokestatic 55, 3), none, none, some (.ifCond .eq 35, 3), none, none, some (.bipush 10, 2), none, some (.iload_n 1, 1), some (.imul, 1), some (.aload_n 0, 1), some (.invokevirtual 59, 3), none, none, some (.iadd, 1), some (.bipush 48, 2), none, some (.isub, 1), some (.bipush 31, 2), none, some (.irem, 1), some (.istore_n 1, 1), some (.aload_n 0, 1), some (.dup, 1), some (.getfield 19, 3), none, none, some (.iconst 1, 1), some (.iadd, 1), some (.putfield 19, 3), none, none, some (.iinc 2 1, 3), none, none, some (.goto (-45), 3), none, none, some (.iload_n 1, 1), some (.ireturn, 1)]
def om_c31 : List (Option (Instr × Nat)) := [some (.aload_n 0, 1), some (.dup, 1), some (.getfield 19, 3), none, none, some (.iconst 1, 1), some (.iadd, 1), some (.putfield 19, 3), none, none, some (.aload_n 0, 1), some (.iload_n 1, 1), some (.iconst 1, 1), some (.iadd, 1), some (.invokevirtual 51, 3), none, none, some (.aload_n 0, 1), some (.getfield 22, 3), none, none, some (.ifCond .ne 12, 3), none, none, some (.aload_n 0, 1), some (.invokevirtual 59, 3), none, none, some (.bipush 41, 2), none, some (.if_icmp .eq 9, 3), none, none, some (.aload_n 0, 1), some (.iconst 1, 1), some (.putfield 22, 3), none, none, some (.return_, 1), some (.aload_n 0, 1), some (.dup, 1), some (.getfield 19, 3), none, none, some (.iconst 1, 1), some (.iadd, 1), some (.putfield 19, 3), none, none, some (.aload_n 0, 1), some (.getfield 41, 3), none, none, some (.iload_n 1, 1), some (.aaload, 1), some (.aload_n 0, 1), some (.getfield 31, 3), none, none, some (.iload_n 1, 1), some (.iconst 1, 1), some (.iadd, 1), some (.aaload, 1), some (.invokevirtual 97, 3), none, none, some (.return_, 1)]
def om_c32 : List (Option (Instr × Nat)) := [some (.aload_n 0, 1), some (.getfield 9, 3), none, none, some (.aload_n 1, 1), some (.getfield 9, 3), none, none, some (.invokestatic 35, 3), none, none, some (.istore_n 2, 1), some (.aload_n 0, 1), some (.getfield 15, 3), none, none, some (.aload_n 1, 1), some (.getfield 15, 3), none, none, some (.invokestatic 35, 3), none, none, some (.istore_n 3, 1), some (.aload_n 0, 1), some (.getfield 18, 3), none, none, some (.iconst 0, 1), some (.invokestatic 22, 3), none, none, some (.iconst 0, 1), some (.istore 4, 2), none, some (.iload 4, 2), none, some (.iload_n 2, 1), some (.if_icmp .ge 35, 3), none, none, some (.aload_n 1, 1), some (.getfield 18, 3), none, none, some (.iload 4, 2), none, some (.aload_n 1, 1), some (.getfield 15, 3), none, none, some (.imul, 1), some (.aload_n 0, 1), some (.getfield 18, 3), none, none, some (.iload 4, 2), none, some (.aload_n 0, 1), some (.getfield 15, 3), none, none, some (.imul, 1), some (.iload_n 3, 1), some (.invokestatic 41, 3), none, none, some (.iinc 4 1, 3), none, none, some (.goto (-35), 3), none, none, some (.return_, 1)]
def om_c33 : List (Option (Instr × Nat)) := [some (.iload_n 0, 1), some (.iload_n 1, 1), some (.if_icmp .gt 7, 3), none, none, some (.iload_n 0, 1), some (.goto 4, 3), none, none, some (.iload_n 1, 1), some (.ireturn, 1)]
def om_c34 : List (Option (Instr × Nat)) := [some (.aload_n 1, 1), some (.invokevirtual 35, 3), none, none, some (.istore_n 3, 1), some (.aload_n 0, 1), some (.getfield 14, 3), none, none, some (.invokevirtual 39, 3), none, none, some (.aload_n 0, 1), some (.getfield 20, 3), none, none, some (.aload_n 2, 1), some (.invokevirtual 27, 3), none, none, some (.iconst 0, 1), some (.istore 4, 2), none, some (.iload 4, 2), none, some (.iload_n 3, 1), some (.if_icmp .gt 41, 3), none, none, some (.aload_n 0, 1), some (.getfield 14, 3), none, none, some (.aload_n 1, 1), some (.iload 4, 2), none, some (.iconst 1, 1), some (.aload_n 0, 1), some (.getfield 20, 3), none, none, some (.invokevirtual 42, 3), none, none, some (.iload 4, 2), none, some (.iload_n 3, 1), some (.if_icmp .ge 14, 3), none, none, some (.aload_n 0, 1), some (.getfield 20, 3), none, none, some (.aload_n 0, 1), some (.getfield 23, 3), none, none, some (.invokevirtual 46, 3), none, none, some (.iinc 4 1, 3), none, none, some (.goto (-41), 3), none, none, some (.aload_n 0, 1), some (.getfield 14, 3), none, none, some (.areturn, 1)]
def om_c35 : List (Option (Instr × Nat)) := [some (.aload_n 0, 1), some (.getfield 9, 3), none, none, some (.iconst 1, 1), some (.isub, 1), some (.istore_n 1, 1), some (.iload_n 1, 1), some (.ifCond .lt 36, 3), none, none, some (.iconst 0, 1), some (.istore_n 2, 1), some (.iload_n 2, 1), some (.aload_n 0, 1), some (.getfield 15, 3), none, none, some (.if_icmp .ge 20, 3), none, none, some (.aload_n 0, 1), some (.iload_n 1, 1), some (.iload_n 2, 1), some (.invokevirtual 47, 3), none, none, some (.ifCond .eq 5, 3), none, none, some (.iload_n 1, 1), some (.ireturn, 1), some (.iinc 2 1, 3), none, none, some (.goto (-22), 3), none, none, some (.iinc 1 (-1), 3), none, none, some (.goto (-34), 3), none, none, some (.iconst (-1), 1), some (.ireturn, 1)]
def om_c36 : List (Option (Instr × Nat)) := [some (.iload_n 1, 1), some (.ifCond .lt 27, 3), none, none, some (.iload_n 1, 1), some (.aload_n 0, 1), some (.getfield 9, 3), none, none, some (.if_icmp .ge 19, 3), none, none, some (.iload_n 2, 1), some (.ifCond .lt 15, 3), none, none, some (.iload_n 2, 1), some (.aload_n 0, 1), some (.getfield 15, 3), none, none, some (.if_icmp .ge 7, 3), none, none, some (.iconst 1, 1), some (.goto 4, 3), none, none, some (.iconst 0, 1), some (.istore_n 3, 1), some (.iload_n 3, 1), some (.ifCond .eq 19, 3), none, none, some (.aload_n 0, 1), some (.getfield 18, 3), none, none, some (.iload_n 1, 1), some (.aload_n 0, 1), some (.getfield 15, 3), none, none, some (.imul, 1), some (.iload_n 2, 1), some (.iadd, 1), some (.iaload, 1), some (.goto 4, 3), none, none, some (.iconst 0, 1), some (.ireturn, 1)]
def om_c37 : List (Option (Instr × Nat)) := [some (.aload_n 0, 1), some (.getfield 9, 3), none, none, some (.aload 4, 2), none, some (.getfield 9, 3), none, none, some (.invokestatic 35, 3), none, none, some (.istore 5, 2), none, some (.iconst 0, 1), some (.istore 6, 2), none, some (.iload_n 2, 1), some (.aload_n 1, 1), some (.getfield 9, 3), none, none, some (.if_icmp .ge 150, 3), none, none, some (.iload 6, 2), none, some (.aload_n 1, 1), some (.getfield 15, 3), none, none, some (.if_icmp .ge 141, 3), none, none, some (.iload_n 3, 1), some (.aload_n 1, 1), some (.getfield 18, 3), none, none, some (.iload_n 2, 1), some (.aload_n 1, 1), some (.getfield 15, 3), none, none, some (.imul, 1), some (.iload 6, 2), none, some (.iadd, 1), some (.iaload, 1), some (.imul, 1), some (.bipush 31, 2), none, some (.irem, 1), some (.istore 7, 2), none, some (.iload 7, 2), none, some (.ifCond .ne 7, 3), none, none, some (.iconst 0, 1), some (.goto 18, 3), none, none, some (.aload_n 0, 1), some (.getfield 15, 3), none, none, some (.iload 6, 2), none, some (.isub, 1), some (.aload 4, 2), none, some (.getfield 15, 3), none, none, some (.invokestatic 35, 3), none, none, some (.istore 8, 2), none, some (.iconst 0, 1), some (.istore 9, 2), none, some (.iload 9, 2), none, some (.iload 5, 2), none, some (.if_icmp .ge 78, 3), none, none, some (.iconst 0, 1), some (.istore 10, 2), none, some (.iload 10, 2), none, some (.iload 8, 2), none, some (.if_icmp .ge 62, 3), none, none, some (.iload 9, 2), none, some (.aload_n 0, 1), some (.getfield 15, 3), none, none, some (.imul, 1), some (.iload 6, 2), none, some (.iadd, 1), some (.iload 10, 2), none, some (.iadd, 1), some (.istore 11, 2), none, some (.aload_n 0, 1), some (.getfield 18, 3), none, none, some (.iload 11, 2), none, some (.aload_n 0, 1), some (.getfield 18, 3), none, none, some (.iload 11, 2), none, some (.iaload, 1), some (.iload 7, 2), none, some (.aload 4, 2), none, some (.getfield 18, 3), none, none, some (.iload 9, 2), none, some (.aload 4, 2), none, some (.getfield 15, 3), none, none, some (.imul, 1), some (.iload 10, 2), none, some (.iadd, 1), some (.iaload, 1), some (.imul, 1), some (.iadd, 1), some (.bipush 31, 2), none, some (.irem, 1), some (.iastore, 1), some (.iinc 10 1, 3), none, none, some (.goto (-63), 3), none, none, some (.iinc 9 1, 3), none, none, some (.goto (-79), 3), none, none, some (.iinc 6 1, 3), none, none, some (.goto (-152), 3), none, none, some (.return_, 1)]
def om_c38 : List (Option (Instr × Nat)) := [some (.aload_n 0, 1), some (.getfield 9, 3), none, none, some (.iconst 1, 1), some (.isub, 1), some (.istore_n 2, 1), some (.iload_n 2, 1), some (.ifCond .lt 109, 3), none, none, some (.iload_n 1, 1), some (.ifCond .ne 8, 3), none, none, some (.aload_n 0, 1), some (.iload_n 2, 1), some (.invokevirtual 50, 3), none, none, some (.iconst 0, 1), some (.istore_n 3, 1), some (.iload_n 3, 1), some (.aload_n 0, 1), some (.getfield 15, 3), none, none, some (.if_icmp .ge 75, 3), none, none, some (.iload_n 2, 1), some (.ifCond .le 21, 3), none, none, some (.aload_n 0, 1), some (.getfield 18, 3), none, none, some (.iload_n 2, 1), some (.iconst 1, 1), some (.isub, 1), some (.aload_n 0, 1), some (.getfield 15, 3), none, none, some (.imul, 1), some (.iload_n 3, 1), some (.iadd, 1), some (.iaload, 1), some (.goto 4, 3), none, none, some (.iconst 0, 1), some (.istore 4, 2), none, some (.aload_n 0, 1), some (.getfield 18, 3), none, none, some (.iload_n 2, 1), some (.aload_n 0, 1), some (.getfield 15, 3), none, none, some (.imul, 1), some (.iload_n 3, 1), some (.iadd, 1), some (.iload_n 1, 1), some (.ifCond .eq 8, 3), none, none, some (.iload 4, 2), none, some (.goto 22, 3), none, none, some (.aload_n 0, 1), some (.getfield 18, 3), none, none, some (.iload_n 2, 1), some (.aload_n 0, 1), some (.getfield 15, 3), none, none, some (.imul, 1), some (.iload_n 3, 1), some (.iadd, 1), some (.iaload, 1), some (.iload 4, 2), none, some (.iadd, 1), some (.bipush 31, 2), none, some (.irem, 1), some (.iastore, 1), some (.iinc 3 1, 3), none, none, some (.goto (-77), 3), none, none, some (.iload_n 1, 1), some (.ifCond .eq 8, 3), none, none, some (.aload_n 0, 1), some (.iload_n 2, 1), some (.invokevirtual 54, 3), none, none, some (.iinc 2 (-1), 3), none, none, some (.goto (-107), 3), none, none, some (.return_, 1)]
def om_c39 : List (Option (Instr × Nat)) := [some (.iload_n 1, 1), some (.aload_n 0, 1), some (.getfield 15, 3), none, none, some (.imul, 1), some (.istore_n 2, 1), some (.iconst 0, 1), some (.istore_n 3, 1), some (.iload_n 3, 1), some (.aload_n 0, 1), some (.getfield 15, 3), none, none, some (.if_icmp .ge 52, 3), none, none, some (.iload_n 3, 1), some (.iconst 1, 1), some (.iadd, 1), some (.aload_n 0, 1), some (.getfield 15, 3), none, none, some (.if_icmp .ge 16, 3), none, none, some (.aload_n 0, 1), some (.getfield 18, 3), none, none, some (.iload_n 2, 1), some (.iload_n 3, 1), some (.iadd, 1), some (.iconst 1, 1), some (.iadd, 1), some (.iaload, 1), some (.goto 4, 3), none, none, some (.iconst 0, 1), some (.istore 4, 2), none, some (.aload_n 0, 1), some (.getfield 18, 3), none, none, some (.iload_n 2, 1), some (.iload_n 3, 1), some (.iadd, 1), some (.iload_n 3, 1), some (.iconst 1, 1), some (.iadd, 1), some (.iload 4, 2), none, some (.imul, 1), some (.bipush 31, 2), none, some (.irem, 1), some (.iastore, 1), some (.iinc 3 1, 3), none, none, some (.goto (-54), 3), none, none, some (.return_, 1)]
def om_c40 : List (Option (Instr × Nat)) := [some (.iload_n 1, 1), some (.aload_n 0, 1), some (.getfield 15, 3), none, none, some (.imul, 1), some (.istore_n 2, 1), some (.iconst 0, 1), some (.istore_n 3, 1), some (.iload_n 3, 1), some (.aload_n 0, 1), some (.getfield 15, 3), none, none, some (.if_icmp .ge 62, 3), none, none, some (.aload_n 0, 1), some (.getfield 15, 3), none, none, some (.iconst 2, 1), some (.isub, 1), some (.istore 4, 2), none, some (.iload 4, 2), none, some (.iload_n 3, 1), some (.if_icmp .lt 42, 3), none, none, some (.aload_n 0, 1), some (.getfield 18, 3), none, none, some (.iload_n 2, 1), some (.iload 4, 2), none, some (.iadd, 1), some (.aload_n 0, 1), some (.getfield 18, 3), none, none, some (.iload_n 2, 1), some (.iload 4, 2), none, some (.iadd, 1), some (.iaload, 1), some (.aload_n 0, 1), some (.getfield 18, 3), none, none, some (.iload_n 2, 1), some (.iload 4, 2), none, some (.iadd, 1), some (.iconst 1, 1), some (.iadd, 1), some (.iaload, 1), some (.iadd, 1), some (.bipush 31, 2), none, some (.irem, 1), some (.iastore, 1), some (.iinc 4 (-1), 3), none, none, some (.goto (-42), 3), none, none, some (.iinc 3 1, 3), none, none, some (.goto (-64), 3), none, none, some (.return_, 1)]
def om_c41 : List (Option (Instr × Nat)) := [some (.iconst 0, 1), some (.istore_n 1, 1), some (.iload_n 1, 1), some (.aload_n 0, 1), some (.getfield 9, 3), none, none, some (.if_icmp .ge 32, 3), none, none, some (.aload_n 0, 1), some (.iload_n 1, 1), some (.invokevirtual 57, 3), none, none, some (.istore_n 2, 1), some (.iload_n 2, 1), some (.bipush 12, 2), none, some (.if_icmp .gt 12, 3), none, none, some (.iload_n 2, 1), some (.ifCond .lt 10, 3), none, none, some (.iload_n 1, 1), some (.iconst 4, 1), some (.if_icmp .le 5, 3), none, none, some (.iconst 0, 1), some (.ireturn, 1), some (.iinc 1 1, 3), none, none, some (.goto (-34), 3), none, none, some (.iconst 1, 1), some (.ireturn, 1)]
def om_c42 : List (Option (Instr × Nat)) := [some (.aload_n 0, 1), some (.getfield 15, 3), none, none, some (.iconst 1, 1), some (.isub, 1), some (.istore_n 2, 1), some (.iload_n 2, 1), some (.ifCond .lt 20, 3), none, none, some (.aload_n 0, 1), some (.iload_n 1, 1), some (.iload_n 2, 1), some (.invokevirtual 47, 3), none, none, some (.ifCond .eq 5, 3), none, none, some (.iload_n 2, 1), some (.ireturn, 1), some (.iinc 2 (-1), 3), none, none, some (.goto (-18), 3), none, none, some (.iconst (-1), 1), some (.ireturn, 1)]
def om_c43 : List (Option (Instr × Nat)) := [some (.iload_n 0, 1), some (.invokestatic 55, 3), none, none, some (.ifCond .ne 21, 3), none, none, some (.iload_n 0, 1), some (.bipush 120, 2), none, some (.if_icmp .eq 15, 3), none, none, some (.iload_n 0, 1), some (.bipush 84, 2), none, some (.if_icmp .eq 9, 3), none, none, some (.iload_n 0, 1), some (.bipush 40, 2), none, some (.if_icmp .ne 7, 3), none, none, some (.iconst 1, 1), some (.goto 4, 3), none, none, some (.iconst 0, 1), some (.ireturn, 1)]
def om_c44 : List (Option (Instr × Nat)) := [some (.iconst 0, 1), some (.istore_n 3, 1), some (.iload_n 3, 1), some (.aload_n 0, 1), some (.getfield 9, 3), none, none, some (.if_icmp .ge 51, 3), none, none, some (.iconst 0, 1), some (.istore 4, 2), none, some (.iload 4, 2), none, some (.aload_n 0, 1), some (.getfield 15, 3), none, none, some (.if_icmp .ge 33, 3), none, none, some (.aload_n 0, 1), some (.iload_n 3, 1), some (.iload 4, 2), none, some (.aload_n 0, 1), some (.iload_n 3, 1), some (.iload 4, 2), none, some (.invokevirtual 47, 3), none, none, some (.iload_n 2, 1), some (.aload_n 1, 1), some (.iload_n 3, 1), some (.iload 4, 2), none, some (.invokevirtual 47, 3), none, none, some (.imul, 1), some (.iadd, 1), some (.invokevirtual 31, 3), none, none, some (.iinc 4 1, 3), none, none, some (.goto (-36), 3), none, none, some (.iinc 3 1, 3), none, none, some (.goto (-53), 3), none, none, some (.return_, 1)]
def om_c45 : List (Option (Instr × Nat)) := [some (.aload_n 0, 1), some (.getfield 31, 3), none, none, some (.iconst 0, 1), some (.aaload, 1), some (.areturn, 1)]
def om_c46 : List (Option (Instr × Nat)) := [some (.iload_n 1, 1), some (.invokestatic 79, 3), none, none, some (.ifCond .eq 15, 3), none, none, some (.aload_n 0, 1), some (.getfield 11, 3), none, none, some (.iload_n 1, 1), some (.aaload, 1), some (.invokevirtual 94, 3), none, none, some (.goto 5, 3), none, none, some (.bipush (-2), 2), none, some (.ireturn, 1)]
def om_c47 : List (Option (Instr × Nat)) := [some (.iload_n 1, 1), some (.invokestatic 79, 3), none, none, some (.ifCond .eq 20, 3), none, none, some (.iload_n 2, 1), some (.iconst 4, 1), some (.invokestatic 97, 3), none, none, some (.ifCond .eq 12, 3), none, none, some (.iload_n 3, 1), some (.bipush 12, 2), none, some (.invokestatic 97, 3), none, none, some (.ifCond .ne 5, 3), none, none, some (.iconst (-1), 1), some (.ireturn, 1), some (.aload_n 0, 1), some (.getfield 11, 3), none, none, some (.iload_n 1, 1), some (.aaload, 1), some (.iload_n 2, 1), some (.iload_n 3, 1), some (.invokevirtual 101, 3), none, none, some (.ireturn, 1)]
def om_c48 : List (Option (Instr × Nat)) := [some (.iload_n 1, 1), some (.iload_n 2, 1), some (.iload_n 3, 1), some (.invokestatic 105, 3), none, none, some (.ifCond .eq 13, 3), none, none, some (.iload 4, 2), none, some (.bipush 30, 2), none, some (.invokestatic 97, 3), none, none, some (.ifCond .ne 5, 3), none, none, some (.iconst (-1), 1), some (.ireturn, 1), some (.aload_n 0, 1), some (.getfield 30, 3), none, none, some (.aload_n 0, 1), some (.getfield 11, 3), none, none, some (.iload_n 2, 1), some (.aaload, 1), some (.aload_n 0, 1), some (.getfield 11, 3), none, none, some (.iload_n 3, 1), some (.aaload, 1), some (.iload 4, 2), none, some (.invokevirtual 109, 3), none, none, some (.astore 5, 2), none, some (.aload_n 0, 1), some (.iload_n 1, 1), some (.aload 5, 2), none, some (.invokevirtual 113, 3), none, none, some (.ireturn, 1)]
def om_c49 : List (Option (Instr × Nat)) := [some (.iload_n 0, 1), some (.invokestatic 79, 3), none, none, some (.ifCond .eq 21, 3), none, none, some (.iload_n 1, 1), some (.invokestatic 79, 3), none, none, some (.ifCond .eq 14, 3), none, none, some (.iload_n 2, 1), some (.invokestatic 79, 3), none, none, some (.ifCond .eq 7, 3), none, none, some (.iconst 1, 1), some (.goto 4, 3), none, none, some (.iconst 0, 1), some (.ireturn, 1)]
def om_c50 : List (Option (Instr × Nat)) := [some (.aload_n 0, 1), some (.getfield 14, 3), none, none, some (.aload_n 1, 1), some (.invokevirtual 27, 3), none, none, some (.aload_n 0, 1), some (.getfield 14, 3), none, none, some (.aload_n 2, 1), some (.iload_n 3, 1), some (.invokevirtual 31, 3), none, none, some (.aload_n 0, 1), some (.getfield 14, 3), none, none, some (.areturn, 1)]
def om_c51 : List (Option (Instr × Nat)) := [some (.aload_n 2, 1), some (.invokevirtual 187, 3), none, none, some (.ifCond .ne 6, 3), none, none, some (.bipush (-3), 2), none, some (.ireturn, 1), some (.aload_n 0, 1), some (.getfield 11, 3), none, none, some (.iload_n 1, 1), some (.aaload, 1), some (.aload_n 2, 1), some (.invokevirtual 90, 3), none, none, some (.iconst 0, 1), some (.ireturn, 1)]
def om_c52 : List (Option (Instr × Nat)) := [some (.iload_n 1, 1), some (.iload_n 2, 1), some (.iload_n 3, 1), some (.invokestatic 105, 3), none, none, some (.ifCond .ne 5, 3), none, none, some (.iconst (-1), 1), some (.ireturn, 1), some (.aload_n 0, 1), some (.iload_n 1, 1), some (.aload_n 0, 1), some (.getfield 30, 3), none, none, some (.aload_n 0, 1), some (.getfield 11, 3), none, none, some (.iload_n 2, 1), some (.aaload, 1), some (.aload_n 0, 1), some (.getfield 11, 3), none, none, some (.iload_n 3, 1), some (.aaload, 1), some (.invokevirtual 117, 3), none, none, some (.invokevirtual 113, 3), none, none, some (.ireturn, 1)]
def om_c53 : List (Option (Instr × Nat)) := [some (.iload_n 1, 1), some (.iload_n 2, 1), some (.iload_n 3, 1), some (.invokestatic 105, 3), none, none, some (.ifCond .ne 5, 3), none, none, some (.iconst (-1), 1), some (.ireturn, 1), some (.aload_n 0, 1), some (.getfield 11, 3), none, none, some (.iload_n 3, 1), some (.aaload, 1), some (.invokevirtual 94, 3), none, none, some (.ifCond .le 6, 3), none, none, some (.bipush (-5), 2), none, some (.ireturn, 1), some (.aload_n 0, 1), some (.iload_n 1, 1), some (.aload_n 0, 1), some (.getfield 30, 3), none, none, some (.aload_n 0, 1), some (.getfield 11, 3), none, none, some (.iload_n 2, 1), some (.aaload, 1), some (.aload_n 0, 1), some (.getfield 11, 3), none, none, some (.iload_n 3, 1), some (.aaload, 1), some (.invokevirtual 121, 3), none, none, some (.invokevirtual 113, 3), none, none, some (.ireturn, 1)]
def om_c54 : List (Option (Instr × Nat)) := [some (.aload_n 1, 1), some (.invokevirtual 35, 3), none, none, some (.istore_n 3, 1), some (.aload_n 0, 1), some (.getfield 14, 3), none, none, some (.invokevirtual 39, 3), none, none, some (.aload_n 0, 1), some (.getfield 20, 3), none, none, some (.invokevirtual 39, 3), none, none, some (.aload_n 0, 1), some (.getfield 20, 3), none, none, some (.iconst 0, 1), some (.aload_n 2, 1), some (.iconst 0, 1), some (.invokevirtual 50, 3), none, none, some (.iconst 0, 1), some (.istore 4, 2), none, some (.iload 4, 2), none, some (.iload_n 3, 1), some (.if_icmp .gt 35, 3), none, none, some (.aload_n 0, 1), some (.getfield 14, 3), none, none, some (.aload_n 1, 1), some (.iload 4, 2), none, some (.iconst 1, 1), some (.aload_n 0, 1), some (.getfield 20, 3), none, none, some (.invokevirtual 42, 3), none, none, some (.aload_n 0, 1), some (.getfield 20, 3), none, none, some (.aload_n 0, 1), some (.getfield 23, 3), none, none, some (.invokevirtual 54, 3), none, none, some (.iinc 4 1, 3), none, none, some (.goto (-35), 3), none, none, some (.aload_n 0, 1), some (.getfield 14, 3), none, none, some (.areturn, 1)]
def om_c55 : List (Option (Instr × Nat)) := [some (.iconst 0, 1), some (.istore 4, 2), none, some (.iload 4, 2), none, some (.aload_n 0, 1), some (.getfield 15, 3), none, none, some (.if_icmp .ge 23, 3), none, none, some (.aload_n 0, 1), some (.iload_n 1, 1), some (.iload 4, 2), none, some (.aload_n 2, 1), some (.iload_n 3, 1), some (.iload 4, 2), none, some (.invokevirtual 47, 3), none, none, some (.invokevirtual 31, 3), none, none, some (.iinc 4 1, 3), none, none, some (.goto (-26), 3), none, none, some (.return_, 1)]
def om_c56 : List (Option (Instr × Nat)) := [some (.iload_n 1, 1), some (.ifCond .eq 11, 3), none, none, some (.aload_n 0, 1), some (.iconst 0, 1), some (.invokevirtual 54, 3), none, none, some (.goto 8, 3), none, none, some (.aload_n 0, 1), some (.iconst 0, 1), some (.invokevirtual 50, 3), none, none, some (.return_, 1)]
def om_c57 : List (Option (Instr × Nat)) := [some (.iload_n 1, 1), some (.iload_n 2, 1), some (.iload_n 3, 1), some (.invokestatic 105, 3), none, none, some (.ifCond .eq 16, 3), none, none, some (.iload 4, 2), none, some (.invokestatic 79, 3), none, none, some (.ifCond .eq 8, 3), none, none, some (.iload_n 1, 1), some (.iload_n 2, 1), some (.if_icmp .ne 5, 3), none, none, some (.iconst (-1), 1), some (.ireturn, 1), some (.aload_n 0, 1), some (.getfield 11, 3), none, none, some (.iload 4, 2), none, some (.aaload, 1), some (.invokestatic 124, 3), none, none, some (.ifCond .ne 6, 3), none, none, some (.bipush (-5), 2), none, some (.ireturn, 1), some (.aload_n 0, 1), some (.getfield 46, 3), none, none, some (.aload_n 0, 1), some (.getfield 11, 3), none, none, some (.iload_n 3, 1), some (.aaload, 1), some (.aload_n 0, 1), some (.getfield 11, 3), none, none, some (.iload 4, 2), none, some (.aaload, 1), some (.invokevirtual 128, 3), none, none, some (.ifCond .ne 6, 3), none, none, some (.bipush (-3), 2), none, some (.ireturn, 1), some (.aload_n 0, 1), some (.getfield 11, 3), none, none, some (.iload_n 1, 1), some (.aaload, 1), some (.aload_n 0, 1), some (.getfield 46, 3), none, none, some (.getfield 132, 3), none, none, some (.invokevirtual 90, 3), none, none, some (.aload_n 0, 1), some (.getfield 11, 3), none, none, some (.iload_n 2, 1), some (.aaload, 1), some (.aload_n 0, 1), some (.getfield 46, 3), none, none, some (.getfield 136, 3), none, none, some (.invokevirtual 90, 3), none, none, some (.iconst 0, 1), some (.ireturn, 1)]
def om_c58 : List (Option (Instr × Nat)) := [some (.aload_n 0, 1), some (.aload_n 0, 1), some (.invokevirtual 30, 3), none, none, some (.invokevirtual 34, 3), none, none, some (.ifCond .ne 7, 3), none, none, some (.iconst 1, 1), some (.goto 4, 3), none, none, some (.iconst 0, 1), some (.ireturn, 1)]
def om_c59 : List (Option (Instr × Nat)) := [some (.aload_n 2, 1), some (.invokevirtual 30, 3), none, none, some (.istore_n 3, 1), some (.aload_n 2, 1), some (.iload_n 3, 1), some (.iconst 0, 1), some (.invokevirtual 38, 3), none, none, some (.invokestatic 42, 3), none, none, some (.istore 4, 2), none, some (.aload_n 0, 1), some (.getfield 14, 3), none, none, some (.invokevirtual 47, 3), none, none, some (.aload_n 0, 1), some (.getfield 20, 3), none, none, some (.aload_n 1, 1), some (.invokevirtual 50, 3), none, none, some (.iconst 4, 1), some (.iload_n 3, 1), some (.isub, 1), some (.istore 5, 2), none, some (.iload 5, 2), none, some (.ifCond .lt 77, 3), none, none, some (.aload_n 0, 1), some (.getfield 20, 3), none, none, some (.iload_n 3, 1), some (.iload 5, 2), none, some (.iadd, 1), some (.invokevirtual 34, 3), none, none, some (.bipush 12, 2), none, some (.if_icmp .le 5, 3), none, none, some (.iconst 0, 1), some (.ireturn, 1), some (.iconst 0, 1), some (.istore 6, 2), none, some (.iload 6, 2), none, some (.bipush 12, 2), none, some (.if_icmp .gt 36, 3), none, none, some (.aload_n 0, 1), some (.getfield 14, 3), none, none, some (.iload 5, 2), none, some (.iload 6, 2), none, some (.iload 4, 2), none, some (.aload_n 0, 1), some (.getfield 20, 3), none, none, some (.iload_n 3, 1), some (.iload 5, 2), none, some (.iadd, 1), some (.iload 6, 2), none, some (.invokevirtual 38, 3), none, none, some (.imul, 1), some (.invokevirtual 54, 3), none, none, some (.iinc 6 1, 3), none, none, some (.goto (-37), 3), none, none, some (.aload_n 0, 1), some (.iload 5, 2), none, some (.aload_n 2, 1), some (.invokevirtual 58, 3), none, none, some (.iinc 5 (-1), 3), none, none, some (.goto (-76), 3), none, none, some (.aload_n 0, 1), some (.getfield 20, 3), none, none, some (.invokevirtual 62, 3), none, none, some (.ireturn, 1)]
def om_c60 : List (Option (Instr × Nat)) := [some (.iconst 1, 1), some (.istore_n 1, 1), some (.iconst 0, 1), some (.istore_n 2, 1), some (.iload_n 2, 1), some (.bipush 29, 2), none, some (.if_icmp .ge 16, 3), none, none, some (.iload_n 1, 1), some (.iload_n 0, 1), some (.imul, 1), some (.bipush 31, 2), none, some (.irem, 1), some (.istore_n 1, 1), some (.iinc 2 1, 3), none, none, some (.goto (-16), 3), none, none, some (.iload_n 1, 1), some (.ireturn, 1)]
def om_c61 : List (Option (Instr × Nat)) := [some (.aload_n 0, 1), some (.getfield 23, 3), none, none, some (.aload_n 2, 1), some (.invokevirtual 50, 3), none, none, some (.iconst 0, 1), some (.istore_n 3, 1), some (.iload_n 3, 1), some (.iload_n 1, 1), some (.if_icmp .ge 23, 3), none, none, some (.aload_n 0, 1), some (.getfield 23, 3), none, none, some (.aload_n 0, 1), some (.getfield 26, 3), none, none, some (.getfield 66, 3), none, none, some (.invokevirtual 70, 3), none, none, some (.iinc 3 1, 3), none, none, some (.goto (-22), 3), none, none, some (.aload_n 0, 1), some (.getfield 20, 3), none, none, some (.aload_n 0, 1), some (.getfield 14, 3), none, none, some (.iload_n 1, 1), some (.bipush 30, 2), none, some (.aload_n 0, 1), some (.getfield 23, 3), none, none, some (.invokevirtual 74, 3), none, none, some (.return_, 1)]
def om_c62 : List (Option (Instr × Nat)) := [some (.iload_n 1, 1), some (.iload_n 2, 1), some (.iload_n 3, 1), some (.invokestatic 105, 3), none, none, some (.ifCond .ne 5, 3), none, none, some (.iconst (-1), 1), some (.ireturn, 1), some (.aload_n 0, 1), some (.getfield 11, 3), none, none, some (.iload_n 3, 1), some (.aaload, 1), some (.invokevirtual 94, 3), none, none, some (.ifCond .ne 15, 3), none, none, some (.aload_n 0, 1), some (.getfield 11, 3), none, none, some (.iload_n 2, 1), some (.aaload, 1), some (.invokevirtual 94, 3), none, none, some (.ifCond .ge 6, 3), none, none, some (.bipush (-5), 2), none, some (.ireturn, 1), some (.aload_n 0, 1), some (.getfield 53, 3), none, none, some (.aload_n 0, 1), some (.getfield 11, 3), none, none, some (.iload_n 2, 1), some (.aaload, 1), some (.aload_n 0, 1), some (.getfield 11, 3), none, none, some (.iload_n 3, 1), some (.aaload, 1), some (.invokevirtual 139, 3), none, none, some (.astore 4, 2), none, some (.aload_n 0, 1), some (.iload_n 1, 1), some (.aload 4, 2), none, some (.invokevirtual 113, 3), none, none, some (.istore 5, 2), none, some (.iload 5, 2), none, some (.ifCond .eq 8, 3), none, none, some (.iload 5, 2), none, some (.goto 8, 3), none, none, some (.aload 4, 2), none, some (.invokevirtual 94, 3), none, none, some (.ireturn, 1)]
def om_c63 : List (Option (Instr × Nat)) := [some (.aload_n 0, 1), some (.getfield 14, 3), none, none, some (.invokevirtual 36, 3), none, none, some (.aload_n 0, 1), some (.getfield 32, 3), none, none, some (.getfield 39, 3), none, none, some (.ifCond .eq 16, 3), none, none, some (.aload_n 0, 1), some (.aload_n 1, 1), some (.aload_n 2, 1), some (.aload_n 1, 1), some (.invokevirtual 45, 3), none, none, some (.invokevirtual 49, 3), none, none, some (.goto 13, 3), none, none, some (.aload_n 0, 1), some (.aload_n 1, 1), some (.aload_n 2, 1), some (.aload_n 1, 1), some (.invokevirtual 45, 3), none, none, some (.invokevirtual 53, 3), none, none, some (.aload_n 0, 1), some (.getfield 14, 3), none, none, some (.areturn, 1)]
def om_c64 : List (Option (Instr × Nat)) := [some (.iconst 0, 1), some (.istore 4, 2), none, some (.iload 4, 2), none, some (.iload_n 3, 1), some (.if_icmp .gt 85, 3), none, none, some (.aload_n 0, 1), some (.getfield 23, 3), none, none, some (.iload 4, 2), none, some (.iconst 0, 1), some (.iconst 1, 1), some (.invokevirtual 64, 3), none, none, some (.aload_n 0, 1), some (.getfield 29, 3), none, none, some (.aload_n 2, 1), some (.invokevirtual 56, 3), none, none, some (.iconst 0, 1), some (.istore 5, 2), none, some (.iload 5, 2), none, some (.iload_n 3, 1), some (.if_icmp .gt 36, 3), none, none, some (.iload 5, 2), none, some (.iload 4, 2), none, some (.if_icmp .eq 15, 3), none, none, some (.aload_n 0, 1), some (.aload_n 0, 1), some (.getfield 29, 3), none, none, some (.aload_n 0, 1), some (.getfield 23, 3), none, none, some (.invokevirtual 68, 3), none, none, some (.aload_n 0, 1), some (.getfield 29, 3), none, none, some (.iconst 0, 1), some (.invokevirtual 87, 3), none, none, some (.iinc 5 1, 3), none, none, some (.goto (-36), 3), none, none, some (.aload_n 0, 1), some (.getfield 14, 3), none, none, some (.aload_n 1, 1), some (.iload 4, 2), none, some (.iconst 1, 1), some (.aload_n 0, 1), some (.getfield 23, 3), none, none, some (.invokevirtual 72, 3), none, none, some (.iinc 4 1, 3), none, none, some (.goto (-85), 3), none, none, some (.return_, 1)]
def om_c65 : List (Option (Instr × Nat)) := [some (.aload_n 0, 1), some (.getfield 26, 3), none, none, some (.invokevirtual 36, 3), none, none, some (.aload_n 0, 1), some (.getfield 26, 3), none, none, some (.aload_n 1, 1), some (.iconst 0, 1), some (.iconst 1, 1), some (.aload_n 2, 1), some (.invokevirtual 72, 3), none, none, some (.aload_n 2, 1), some (.aload_n 0, 1), some (.getfield 26, 3), none, none, some (.invokevirtual 56, 3), none, none, some (.return_, 1)]
def om_c66 : List (Option (Instr × Nat)) := [some (.aload_n 0, 1), some (.getfield 29, 3), none, none, some (.aload_n 2, 1), some (.invokevirtual 56, 3), none, none, some (.aload_n 0, 1), some (.getfield 29, 3), none, none, some (.iconst 0, 1), some (.invokevirtual 60, 3), none, none, some (.aload_n 0, 1), some (.getfield 20, 3), none, none, some (.iconst 0, 1), some (.iconst 0, 1), some (.iconst 1, 1), some (.invokevirtual 64, 3), none, none, some (.iconst 0, 1), some (.istore 4, 2), none, some (.iload 4, 2), none, some (.iload_n 3, 1), some (.if_icmp .gt 73, 3), none, none, some (.aload_n 0, 1), some (.getfield 23, 3), none, none, some (.aload_n 0, 1), some (.getfield 20, 3), none, none, some (.invokevirtual 56, 3), none, none, some (.iload 4, 2), none, some (.istore 5, 2), none, some (.iload 5, 2), none, some (.iload_n 3, 1), some (.if_icmp .ge 18, 3), none, none, some (.aload_n 0, 1), some (.aload_n 2, 1), some (.aload_n 0, 1), some (.getfield 23, 3), none, none, some (.invokevirtual 68, 3), none, none, some (.iinc 5 1, 3), none, none, some (.goto (-18), 3), none, none, some (.aload_n 0, 1), some (.getfield 14, 3), none, none, some (.aload_n 1, 1), some (.iload 4, 2), none, some (.iconst 1, 1), some (.aload_n 0, 1), some (.getfield 23, 3), none, none, some (.invokevirtual 72, 3), none, none, some (.iload 4, 2), none, some (.iload_n 3, 1), some (.if_icmp .ge 10, 3), none, none, some (.aload_n 0, 1), some (.aload_n 2, 1), some (.iload 4, 2), none, some (.invokevirtual 76, 3), none, none, some (.iinc 4 1, 3), none, none, some (.goto (-73), 3), none, none, some (.return_, 1)]
def om_c67 : List (Option (Instr × Nat)) := [some (.aload_n 0, 1), some (.getfield 23, 3), none, none, some (.aload_n 0, 1), some (.getfield 20, 3), none, none, some (.invokevirtual 56, 3), none, none, some (.aload_n 0, 1), some (.aload_n 0, 1), some (.getfield 29, 3), none, none, some (.aload_n 0, 1), some (.getfield 23, 3), none, none, some (.invokevirtual 68, 3), none, none, some (.aload_n 0, 1), some (.getfield 20, 3), none, none, some (.aload_n 0, 1), some (.getfield 32, 3), none, none, some (.getfield 39, 3), none, none, some (.invokevirtual 80, 3), none, none, some (.aload_n 0, 1), some (.aload_n 1, 1), some (.aload_n 0, 1), some (.getfield 20, 3), none, none, some (.invokevirtual 68, 3), none, none, some (.aload_n 0, 1), some (.getfield 20, 3), none, none, some (.aload_n 0, 1), some (.getfield 23, 3), none, none, some (.iload_n 2, 1), some (.iconst 1, 1), some (.iadd, 1), some (.ineg, 1), some (.invokevirtual 84, 3), none, none, some (.return_, 1)]
def om_c68 : List (Option (Instr × Nat)) := [some (.iload_n 1, 1), some (.invokestatic 79, 3), none, none, some (.ifCond .eq 19, 3), none, none, some (.iload_n 2, 1), some (.invokestatic 79, 3), none, none, some (.ifCond .eq 12, 3), none, none, some (.iload_n 3, 1), some (.bipush 12, 2), none, some (.invokestatic 97, 3), none, none, some (.ifCond .ne 5, 3), none, none, some (.iconst (-1), 1), some (.ireturn, 1), some (.aload_n 0, 1), some (.getfield 11, 3), none, none, some (.iload_n 2, 1), some (.aaload, 1), some (.invokevirtual 94, 3), none, none, some (.ifCond .le 6, 3), none, none, some (.bipush (-5), 2), none, some (.ireturn, 1), some (.aload_n 0, 1), some (.getfield 60, 3), none, none, some (.aload_n 0, 1), some (.getfield 11, 3), none, none, some (.iload_n 1, 1), some (.aaload, 1), some (.aload_n 0, 1), some (.getfield 11, 3), none, none, some (.iload_n 2, 1), some (.aaload, 1), some (.iload_n 3, 1), some (.invokevirtual 142, 3), none, none, some (.ifCond .eq 13, 3), none, none, some (.aload_n 0, 1), some (.getfield 60, 3), none, none, some (.getfield 146, 3), none, none, some (.goto 5, 3), none, none, some (.bipush (-4), 2), none, some (.ireturn, 1)]
def om_c69 : List (Option (Instr × Nat)) := [some (.aload_n 0, 1), some (.aload_n 1, 1), some (.aload_n 2, 1), some (.iload_n 3, 1), some (.invokevirtual 38, 3), none, none, some (.aload_n 0, 1), some (.iload_n 3, 1), some (.invokevirtual 42, 3), none, none, some (.istore 4, 2), none, some (.iload 4, 2), none, some (.istore 5, 2), none, some (.iload 5, 2), none, some (.aload_n 0, 1), some (.getfield 20, 3), none, none, some (.getfield 46, 3), none, none, some (.if_icmp .ge 25, 3), none, none, some (.aload_n 0, 1), some (.getfield 20, 3), none, none, some (.iload 5, 2), none, some (.bipush 13, 2), none, some (.invokevirtual 49, 3), none, none, some (.ifCond .eq 5, 3), none, none, some (.iconst 0, 1), some (.ireturn, 1), some (.iinc 5 1, 3), none, none, some (.goto (-31), 3), none, none, some (.aload_n 0, 1), some (.iload_n 3, 1), some (.invokevirtual 53, 3), none, none, some (.iconst 1, 1), some (.ireturn, 1)]
def om_c70 : List (Option (Instr × Nat)) := [some (.aload_n 0, 1), some (.getfield 20, 3), none, none, some (.invokevirtual 57, 3), none, none, some (.iconst 0, 1), some (.istore 4, 2), none, some (.iload 4, 2), none, some (.iload_n 3, 1), some (.if_icmp .gt 74, 3), none, none, some (.aload_n 0, 1), some (.getfield 14, 3), none, none, some (.iconst 0, 1), some (.iload 4, 2), none, some (.iconst 1, 1), some (.invokevirtual 60, 3), none, none, some (.aload_n 0, 1), some (.getfield 34, 3), none, none, some (.aload_n 1, 1), some (.aload_n 0, 1), some (.getfield 14, 3), none, none, some (.invokevirtual 64, 3), none, none, some (.astore 5, 2), none, some (.iconst 0, 1), some (.istore 6, 2), none, some (.iload 6, 2), none, some (.aload_n 0, 1), some (.getfield 20, 3), none, none, some (.getfield 46, 3), none, none, some (.if_icmp .ge 28, 3), none, none, some (.aload_n 0, 1), some (.getfield 20, 3), none, none, some (.iload 6, 2), none, some (.iload 4, 2), none, some (.aload 5, 2), none, some (.iconst 0, 1), some (.iload 6, 2), none, some (.invokevirtual 49, 3), none, none, some (.invokevirtual 70, 3), none, none, some (.iinc 6 1, 3), none, none, some (.goto (-34), 3), none, none, some (.iinc 4 1, 3), none, none, some (.goto (-74), 3), none, none, some (.iconst 0, 1), some (.istore 4, 2), none, some (.iload 4, 2), none, some (.bipush 13, 2), none, some (.if_icmp .ge 27, 3), none, none, some (.aload_n 0, 1), some (.getfield 20, 3), none, none, some (.iload 4, 2), none, some (.bipush 13, 2), none, some (.aload_n 2, 1), some (.iconst 0, 1), some (.iload 4, 2), none, some (.invokevirtual 49, 3), none, none, some (.invokevirtual 70, 3), none, none, some (.iinc 4 1, 3), none, none, some (.goto (-28), 3), none, none, some (.return_, 1)]
def om_c71 : List (Option (Instr × Nat)) := [some (.iconst 0, 1), some (.istore_n 2, 1), some (.iconst 0, 1), some (.istore_n 3, 1), some (.iload_n 3, 1), some (.iload_n 1, 1), some (.if_icmp .gt 52, 3), none, none, some (.aload_n 0, 1), some (.iload_n 2, 1), some (.iload_n 3, 1), some (.invokevirtual 73, 3), none, none, some (.istore 4, 2), none, some (.aload_n 0, 1), some (.getfield 23, 3), none, none, some (.iload_n 3, 1), some (.iconst (-1), 1), some (.iastore, 1), some (.iload 4, 2), none, some (.ifCond .lt 26, 3), none, none, some (.aload_n 0, 1), some (.iload 4, 2), none, some (.iload_n 2, 1), some (.invokevirtual 76, 3), none, none, some (.aload_n 0, 1), some (.iload_n 2, 1), some (.iload_n 3, 1), some (.invokevirtual 79, 3), none, none, some (.aload_n 0, 1), some (.getfield 23, 3), none, none, some (.iload_n 3, 1), some (.iload_n 2, 1), some (.iastore, 1), some (.iinc 2 1, 3), none, none, some (.iinc 3 1, 3), none, none, some (.goto (-51), 3), none, none, some (.iload_n 2, 1), some (.ireturn, 1)]
def om_c72 : List (Option (Instr × Nat)) := [some (.iload_n 1, 1), some (.istore_n 3, 1), some (.iload_n 3, 1), some (.aload_n 0, 1), some (.getfield 20, 3), none, none, some (.getfield 46, 3), none, none, some (.if_icmp .ge 23, 3), none, none, some (.aload_n 0, 1), some (.getfield 20, 3), none, none, some (.iload_n 3, 1), some (.iload_n 2, 1), some (.invokevirtual 49, 3), none, none, some (.ifCond .eq 5, 3), none, none, some (.iload_n 3, 1), some (.ireturn, 1), some (.iinc 3 1, 3), none, none, some (.goto (-28), 3), none, none, some (.iconst (-1), 1), some (.ireturn, 1)]
def om_c73 : List (Option (Instr × Nat)) := [some (.iconst 0, 1), some (.istore_n 3, 1), some (.iload_n 3, 1), some (.bipush 13, 2), none, some (.if_icmp .gt 49, 3), none, none, some (.aload_n 0, 1), some (.getfield 20, 3), none, none, some (.iload_n 1, 1), some (.iload_n 3, 1), some (.invokevirtual 49, 3), none, none, some (.istore 4, 2), none, some (.aload_n 0, 1), some (.getfield 20, 3), none, none, some (.iload_n 1, 1), some (.iload_n 3, 1), some (.aload_n 0, 1), some (.getfield 20, 3), none, none, some (.iload_n 2, 1), some (.iload_n 3, 1), some (.invokevirtual 49, 3), none, none, some (.invokevirtual 70, 3), none, none, some (.aload_n 0, 1), some (.getfield 20, 3), none, none, some (.iload_n 2, 1), some (.iload_n 3, 1), some (.iload 4, 2), none, some (.invokevirtual 70, 3), none, none, some (.iinc 3 1, 3), none, none, some (.goto (-49), 3), none, none, some (.return_, 1)]
def om_c74 : List (Option (Instr × Nat)) := [some (.aload_n 0, 1), some (.getfield 20, 3), none, none, some (.iload_n 1, 1), some (.iload_n 2, 1), some (.invokevirtual 49, 3), none, none, some (.invokestatic 82, 3), none, none, some (.istore_n 3, 1), some (.iconst 0, 1), some (.istore 4, 2), none, some (.iload 4, 2), none, some (.bipush 13, 2), none, some (.if_icmp .gt 31, 3), none, none, some (.aload_n 0, 1), some (.getfield 20, 3), none, none, some (.iload_n 1, 1), some (.iload 4, 2), none, some (.iload_n 3, 1), some (.aload_n 0, 1), some (.getfield 20, 3), none, none, some (.iload_n 1, 1), some (.iload 4, 2), none, some (.invokevirtual 49, 3), none, none, some (.imul, 1), some (.invokevirtual 70, 3), none, none, some (.iinc 4 1, 3), none, none, some (.goto (-32), 3), none, none, some (.iconst 0, 1), some (.istore 4, 2), none, some (.iload 4, 2), none, some (.aload_n 0, 1), some (.getfield 20, 3), none, none, some (.getfield 46, 3), none, none, some (.if_icmp .ge 84, 3), none, none, some (.aload_n 0, 1), some (.getfield 20, 3), none, none, some (.iload 4, 2), none, some (.iload_n 2, 1), some (.invokevirtual 49, 3), none, none, some (.istore 5, 2), none, some (.iload 4, 2), none, some (.iload_n 1, 1), some (.if_icmp .eq 60, 3), none, none, some (.iload 5, 2), none, some (.ifCond .eq 55, 3), none, none, some (.iconst 0, 1), some (.istore 6, 2), none, some (.iload 6, 2), none, some (.bipush 13, 2), none, some (.if_icmp .gt 45, 3), none, none, some (.aload_n 0, 1), some (.getfield 20, 3), none, none, some (.iload 4, 2), none, some (.iload 6, 2), none, some (.aload_n 0, 1), some (.getfield 20, 3), none, none, some (.iload 4, 2), none, some (.iload 6, 2), none, some (.invokevirtual 49, 3), none, none, some (.iload 5, 2), none, some (.aload_n 0, 1), some (.getfield 20, 3), none, none, some (.iload_n 1, 1), some (.iload 6, 2), none, some (.invokevirtual 49, 3), none, none, some (.imul, 1), some (.isub, 1), some (.invokevirtual 70, 3), none, none, some (.iinc 6 1, 3), none, none, some (.goto (-46), 3), none, none, some (.iinc 4 1, 3), none, none, some (.goto (-90), 3), none, none, some (.return_, 1)]
def om_c75 : List (Option (Instr × Nat)) := [some (.aload_n 0, 1), some (.getfield 27, 3), none, none, some (.invokevirtual 57, 3), none, none, some (.aload_n 0, 1), some (.iconst 0, 1), some (.putfield 30, 3), none, none, some (.aload_n 0, 1), some (.iconst 0, 1), some (.bipush 13, 2), none, some (.iconst 1, 1), some (.iload_n 1, 1), some (.invokevirtual 85, 3), none, none, some (.iconst 0, 1), some (.istore_n 2, 1), some (.iload_n 2, 1), some (.iload_n 1, 1), some (.if_icmp .gt 52, 3), none, none, some (.aload_n 0, 1), some (.getfield 23, 3), none, none, some (.iload_n 2, 1), some (.iaload, 1), some (.ifCond .ge 37, 3), none, none, some (.aload_n 0, 1), some (.dup, 1), some (.getfield 30, 3), none, none, some (.iconst 1, 1), some (.iadd, 1), some (.putfield 30, 3), none, none, some (.aload_n 0, 1), some (.aload_n 0, 1), some (.getfield 30, 3), none, none, some (.iload_n 2, 1), some (.iconst (-1), 1), some (.iload_n 1, 1), some (.invokevirtual 85, 3), none, none, some (.aload_n 0, 1), some (.getfield 27, 3), none, none, some (.aload_n 0, 1), some (.getfield 30, 3), none, none, some (.iload_n 2, 1), some (.iconst 1, 1), some (.invokevirtual 70, 3), none, none, some (.iinc 2 1, 3), none, none, some (.goto (-51), 3), none, none, some (.return_, 1)]
def om_c76 : List (Option (Instr × Nat)) := [some (.iconst 0, 1), some (.istore 5, 2), none, some (.iload 5, 2), none, some (.iload 4, 2), none, some (.if_icmp .gt 46, 3), none, none, some (.aload_n 0, 1), some (.getfield 23, 3), none, none, some (.iload 5, 2), none, some (.iaload, 1), some (.ifCond .lt 30, 3), none, none, some (.aload_n 0, 1), some (.getfield 27, 3), none, none, some (.iload_n 1, 1), some (.iload 5, 2), none, some (.iload_n 3, 1), some (.aload_n 0, 1), some (.getfield 20, 3), none, none, some (.aload_n 0, 1), some (.getfield 23, 3), none, none, some (.iload 5, 2), none, some (.iaload, 1), some (.iload_n 2, 1), some (.invokevirtual 49, 3), none, none, some (.imul, 1), some (.invokevirtual 70, 3), none, none, some (.iinc 5 1, 3), none, none, some (.goto (-47), 3), none, none, some (.return_, 1)]
def om_c77 : List (Option (Instr × Nat)) := [some (.iload_n 1, 1), some (.invokestatic 79, 3), none, none, some (.ifCond .eq 17, 3), none, none, some (.iload_n 2, 1), some (.aload_n 0, 1), some (.getfield 60, 3), none, none, some (.getfield 146, 3), none, none, some (.invokestatic 97, 3), none, none, some (.ifCond .ne 5, 3), none, none, some (.iconst (-1), 1), some (.ireturn, 1), some (.aload_n 0, 1), some (.getfield 11, 3), none, none, some (.iload_n 1, 1), some (.aaload, 1), some (.invokevirtual 150, 3), none, none, some (.aload_n 0, 1), some (.getfield 11, 3), none, none, some (.iload_n 1, 1), some (.aaload, 1), some (.iconst 0, 1), some (.aload_n 0, 1), some (.getfield 60, 3), none, none, some (.getfield 153, 3), none, none, some (.iload_n 2, 1), some (.invokevirtual 156, 3), none, none, some (.aload_n 0, 1), some (.getfield 11, 3), none, none, some (.iload_n 1, 1), some (.aaload, 1), some (.iconst 0, 1), some (.invokevirtual 160, 3), none, none, some (.iconst 1, 1), some (.iadd, 1), some (.ireturn, 1)]
def om_c78 : List (Option (Instr × Nat)) := [some (.iload_n 1, 1), some (.invokestatic 79, 3), none, none, some (.ifCond .ne 5, 3), none, none, some (.iconst (-1), 1), some (.ireturn, 1), some (.aload_n 0, 1), some (.getfield 11, 3), none, none, some (.iload_n 1, 1), some (.aaload, 1), some (.invokevirtual 94, 3), none, none, some (.ifCond .ge 6, 3), none, none, some (.bipush (-5), 2), none, some (.ireturn, 1), some (.aload_n 0, 1), some (.getfield 67, 3), none, none, some (.aload_n 0, 1), some (.getfield 11, 3), none, none, some (.iload_n 1, 1), some (.aaload, 1), some (.invokevirtual 164, 3), none, none, some (.aload_n 0, 1), some (.getfield 67, 3), none, none, some (.getfield 167, 3), none, none, some (.ireturn, 1)]
def om_c79 : List (Option (Instr × Nat)) := [some (.aload_n 0, 1), some (.aload_n 1, 1), some (.invokevirtual 32, 3), none, none, some (.aload_n 0, 1), some (.iconst 0, 1), some (.putfield 24, 3), none, none, some (.iconst 0, 1), some (.istore_n 2, 1), some (.iload_n 2, 1), some (.sipush 961, 3), none, none, some (.if_icmp .ge 44, 3), none, none, some (.aload_n 0, 1), some (.iload_n 2, 1), some (.bipush 31, 2), none, some (.idiv, 1), some (.iload_n 2, 1), some (.bipush 31, 2), none, some (.irem, 1), some (.invokevirtual 36, 3), none, none, some (.ifCond .eq 23, 3), none, none, some (.aload_n 0, 1), some (.getfield 20, 3), none, none, some (.aload_n 0, 1), some (.getfield 24, 3), none, none, some (.iload_n 2, 1), some (.iastore, 1), some (.aload_n 0, 1), some (.dup, 1), some (.getfield 24, 3), none, none, some (.iconst 1, 1), some (.iadd, 1), some (.putfield 24, 3), none, none, some (.iinc 2 1, 3), none, none, some (.goto (-45), 3), none, none, some (.return_, 1)]
def om_c80 : List (Option (Instr × Nat)) := [some (.iconst 0, 1), some (.istore_n 2, 1), some (.iload_n 2, 1), some (.iconst 5, 1), some (.if_icmp .ge 69, 3), none, none, some (.iconst 0, 1), some (.istore_n 3, 1), some (.iload_n 3, 1), some (.bipush 17, 2), none, some (.if_icmp .ge 55, 3), none, none, some (.iconst 0, 1), some (.istore 4, 2), none, some (.bipush 12, 2), none, some (.istore 5, 2), none, some (.iload 5, 2), none, some (.ifCond .lt 26, 3), none, none, some (.iload 4, 2), none, some (.iload_n 3, 1), some (.imul, 1), some (.aload_n 1, 1), some (.iload_n 2, 1), some (.iload 5, 2), none, some (.invokevirtual 40, 3), none, none, some (.iadd, 1), some (.bipush 31, 2), none, some (.irem, 1), some (.istore 4, 2), none, some (.iinc 5 (-1), 3), none, none, some (.goto (-25), 3), none, none, some (.aload_n 0, 1), some (.getfield 16, 3), none, none, some (.iload_n 2, 1), some (.iload_n 3, 1), some (.iload 4, 2), none, some (.invokevirtual 44, 3), none, none, some (.iinc 3 1, 3), none, none, some (.goto (-55), 3), none, none, some (.iinc 2 1, 3), none, none, some (.goto (-68), 3), none, none, some (.return_, 1)]
def om_c81 : List (Option (Instr × Nat)) := [some (.iconst 0, 1), some (.istore_n 3, 1), some (.iload_n 3, 1), some (.bipush 17, 2), none, some (.if_icmp .ge 45, 3), none, none, some (.aload_n 0, 1), some (.getfield 28, 3), none, none, some (.getfield 48, 3), none, none, some (.ifCond .eq 13, 3), none, none, some (.aload_n 0, 1), some (.iload_n 1, 1), some (.iload_n 2, 1), some (.iload_n 3, 1), some (.invokevirtual 54, 3), none, none, some (.goto 10, 3), none, none, some (.aload_n 0, 1), some (.iload_n 1, 1), some (.iload_n 2, 1), some (.iload_n 3, 1), some (.invokevirtual 58, 3), none, none, some (.istore 4, 2), none, some (.iload 4, 2), none, some (.ifCond .eq 5, 3), none, none, some (.iconst 0, 1), some (.ireturn, 1), some (.iinc 3 1, 3), none, none, some (.goto (-45), 3), none, none, some (.iconst 1, 1), some (.ireturn, 1)]
def om_c82 : List (Option (Instr × Nat)) := [some (.iconst 1, 1), some (.istore 4, 2), none, some (.iconst 0, 1), some (.istore 5, 2), none, some (.iconst 0, 1), some (.istore 6, 2), none, some (.iload 6, 2), none, some (.iconst 5, 1), some (.if_icmp .ge 43, 3), none, none, some (.iload 5, 2), none, some (.aload_n 0, 1), some (.getfield 16, 3), none, none, some (.iload 6, 2), none, some (.iload_n 3, 1), some (.invokevirtual 40, 3), none, none, some (.iload 4, 2), none, some (.imul, 1), some (.iadd, 1), some (.istore 5, 2), none, some (.iload 4, 2), none, some (.iload_n 1, 1), some (.iload_n 3, 1), some (.iload 6, 2), none, some (.iadd, 1), some (.imul, 1), some (.iload_n 2, 1), some (.iadd, 1), some (.imul, 1), some (.bipush 31, 2), none, some (.irem, 1), some (.istore 4, 2), none, some (.iinc 6 1, 3), none, none, some (.goto (-43), 3), none, none, some (.iload 5, 2), none, some (.bipush 31, 2), none, some (.irem, 1), some (.ireturn, 1)]
def om_c83 : List (Option (Instr × Nat)) := [some (.iload_n 1, 1), some (.iload_n 3, 1), some (.imul, 1), some (.iload_n 2, 1), some (.iadd, 1), some (.istore 4, 2), none, some (.iconst 0, 1), some (.istore 5, 2), none, some (.iconst 1, 1), some (.istore 6, 2), none, some (.iconst 0, 1), some (.istore 7, 2), none, some (.iconst 0, 1), some (.istore 8, 2), none, some (.iload 8, 2), none, some (.iconst 5, 1), some (.if_icmp .ge 53, 3), none, none, some (.iload 7, 2), none, some (.aload_n 0, 1), some (.getfield 16, 3), none, none, some (.iload 8, 2), none, some (.iload_n 3, 1), some (.invokevirtual 40, 3), none, none, some (.iload 6, 2), none, some (.imul, 1), some (.iadd, 1), some (.istore 7, 2), none, some (.iload 4, 2), none, some (.iload 6, 2), none, some (.imul, 1), some (.iload 8, 2), none, some (.iload_n 1, 1), some (.imul, 1), some (.iload 5, 2), none, some (.imul, 1), some (.iadd, 1), some (.bipush 31, 2), none, some (.irem, 1), some (.istore 9, 2), none, some (.iload 6, 2), none, some (.istore 5, 2), none, some (.iload 9, 2), none, some (.istore 6, 2), none, some (.iinc 8 1, 3), none, none, some (.goto (-53), 3), none, none, some (.iload 7, 2), none, some (.bipush 31, 2), none, some (.irem, 1), some (.ireturn, 1)]
def om_c84 : List (Option (Instr × Nat)) := [some (.iload_n 1, 1), some (.aload_n 0, 1), some (.getfield 67, 3), none, none, some (.getfield 167, 3), none, none, some (.iconst 1, 1), some (.isub, 1), some (.invokestatic 97, 3), none, none, some (.ifCond .eq 15, 3), none, none, some (.aload_n 0, 1), some (.getfield 67, 3), none, none, some (.getfield 170, 3), none, none, some (.iload_n 1, 1), some (.iaload, 1), some (.goto 4, 3), none, none, some (.iconst (-1), 1), some (.ireturn, 1)]
def om_c85 : List (Option (Instr × Nat)) := [some (.iload_n 1, 1), some (.invokestatic 79, 3), none, none, some (.ifCond .eq 32, 3), none, none, some (.iload_n 2, 1), some (.invokestatic 79, 3), none, none, some (.ifCond .eq 25, 3), none, none, some (.aload_n 0, 1), some (.getfield 11, 3), none, none, some (.iload_n 1, 1), some (.aaload, 1), some (.aload_n 0, 1), some (.getfield 11, 3), none, none, some (.iload_n 2, 1), some (.aaload, 1), some (.invokevirtual 174, 3), none, none, some (.ifCond .eq 7, 3), none, none, some (.iconst 1, 1), some (.goto 4, 3), none, none, some (.iconst 0, 1), some (.ireturn, 1)]
def om_c86 : List (Option (Instr × Nat)) := [some (.iconst 0, 1), some (.istore_n 2, 1), some (.iload_n 2, 1), some (.aload_n 0, 1), some (.getfield 9, 3), none, none, some (.if_icmp .ge 42, 3), none, none, some (.iconst 0, 1), some (.istore_n 3, 1), some (.iload_n 3, 1), some (.aload_n 0, 1), some (.getfield 15, 3), none, none, some (.if_icmp .ge 26, 3), none, none, some (.aload_n 0, 1), some (.iload_n 2, 1), some (.iload_n 3, 1), some (.invokevirtual 47, 3), none, none, some (.aload_n 1, 1), some (.iload_n 2, 1), some (.iload_n 3, 1), some (.invokevirtual 47, 3), none, none, some (.if_icmp .eq 5, 3), none, none, some (.iconst 0, 1), some (.ireturn, 1), some (.iinc 3 1, 3), none, none, some (.goto (-28), 3), none, none, some (.iinc 2 1, 3), none, none, some (.goto (-44), 3), none, none, some (.iconst 1, 1), some (.ireturn, 1)]
def om_c87 : List (Option (Instr × Nat)) := [some (.iload_n 1, 1), some (.invokestatic 79, 3), none, none, some (.ifCond .ne 5, 3), none, none, some (.iconst (-1), 1), some (.ireturn, 1), some (.aload_n 0, 1), some (.getfield 18, 3), none, none, some (.aload_n 0, 1), some (.getfield 11, 3), none, none, some (.iload_n 1, 1), some (.aaload, 1), some (.invokevirtual 177, 3), none, none, some (.aload_n 0, 1), some (.getfield 18, 3), none, none, some (.getfield 180, 3), none, none, some (.ireturn, 1)]
def om_c88 : List (Option (Instr × Nat)) := [some (.aload_n 0, 1), some (.iconst 0, 1), some (.putfield 15, 3), none, none, some (.iconst 4, 1), some (.istore_n 2, 1), some (.iload_n 2, 1), some (.ifCond .lt 43, 3), none, none, some (.bipush 12, 2), none, some (.istore_n 3, 1), some (.iload_n 3, 1), some (.ifCond .lt 30, 3), none, none, some (.aload_n 1, 1), some (.iload_n 2, 1), some (.iload_n 3, 1), some (.invokevirtual 19, 3), none, none, some (.ifCond .eq 15, 3), none, none, some (.aload_n 0, 1), some (.aload_n 1, 1), some (.iload_n 2, 1), some (.iload_n 3, 1), some (.invokevirtual 19, 3), none, none, some (.iload_n 3, 1), some (.iload_n 2, 1), some (.invokevirtual 25, 3), none, none, some (.iinc 3 (-1), 3), none, none, some (.goto (-28), 3), none, none, some (.iinc 2 (-1), 3), none, none, some (.goto (-41), 3), none, none, some (.aload_n 0, 1), some (.getfield 15, 3), none, none, some (.ifCond .ne 9, 3), none, none, some (.aload_n 0, 1), some (.bipush 48, 2), none, some (.invokevirtual 29, 3), none, none, some (.return_, 1)]
def om_c89 : List (Option (Instr × Nat)) := [some (.aload_n 0, 1), some (.getfield 15, 3), none, none, some (.ifCond .le 9, 3), none, none, some (.aload_n 0, 1), some (.bipush 43, 2), none, some (.invokevirtual 29, 3), none, none, some (.iload_n 1, 1), some (.iconst 1, 1), some (.if_icmp .ne 11, 3), none, none, some (.iload_n 2, 1), some (.ifCond .ne 12, 3), none, none, some (.iload_n 3, 1), some (.ifCond .ne 8, 3), none, none, some (.aload_n 0, 1), some (.iload_n 1, 1), some (.invokevirtual 33, 3), none, none, some (.aload_n 0, 1), some (.bipush 120, 2), none, some (.iload_n 2, 1), some (.invokevirtual 37, 3), none, none, some (.aload_n 0, 1), some (.bipush 84, 2), none, some (.iload_n 3, 1), some (.invokevirtual 37, 3), none, none, some (.return_, 1)]
def om_c90 : List (Option (Instr × Nat)) := [some (.aload_n 0, 1), some (.getfield 15, 3), none, none, some (.aload_n 0, 1), some (.getfield 11, 3), none, none, some (.arraylength, 1), some (.if_icmp .ge 23, 3), none, none, some (.aload_n 0, 1), some (.getfield 11, 3), none, none, some (.aload_n 0, 1), some (.getfield 15, 3), none, none, some (.iload_n 1, 1), some (.castore, 1), some (.aload_n 0, 1), some (.dup, 1), some (.getfield 15, 3), none, none, some (.iconst 1, 1), some (.iadd, 1), some (.putfield 15, 3), none, none, some (.return_, 1)]
def om_c91 : List (Option (Instr × Nat)) := [some (.iload_n 1, 1), some (.bipush 10, 2), none, some (.if_icmp .lt 15, 3), none, none, some (.aload_n 0, 1), some (.bipush 48, 2), none, some (.iload_n 1, 1), some (.bipush 10, 2), none, some (.idiv, 1), some (.iadd, 1), some (.i2c, 1), some (.invokevirtual 29, 3), none, none, some (.aload_n 0, 1), some (.bipush 48, 2), none, some (.iload_n 1, 1), some (.bipush 10, 2), none, some (.irem, 1), some (.iadd, 1), some (.i2c, 1), some (.invokevirtual 29, 3), none, none, some (.return_, 1)]
def om_c92 : List (Option (Instr × Nat)) := [some (.iload_n 2, 1), some (.ifCond .le 8, 3), none, none, some (.aload_n 0, 1), some (.iload_n 1, 1), some (.invokevirtual 29, 3), none, none, some (.iload_n 2, 1), some (.iconst 1, 1), some (.if_icmp .le 14, 3), none, none, some (.aload_n 0, 1), some (.bipush 94, 2), none, some (.invokevirtual 29, 3), none, none, some (.aload_n 0, 1), some (.iload_n 2, 1), some (.invokevirtual 33, 3), none, none, some (.return_, 1)]
def om_c93 : List (Option (Instr × Nat)) := [some (.iload_n 1, 1), some (.aload_n 0, 1), some (.getfield 18, 3), none, none, some (.getfield 180, 3), none, none, some (.iconst 1, 1), some (.isub, 1), some (.invokestatic 97, 3), none, none, some (.ifCond .eq 15, 3), none, none, some (.aload_n 0, 1), some (.getfield 18, 3), none, none, some (.getfield 183, 3), none, none, some (.iload_n 1, 1), some (.caload, 1), some (.goto 4, 3), none, none, some (.iconst (-1), 1), some (.ireturn, 1)]
def om_c94 : List (Option (Instr × Nat)) := [some (.iload_n 1, 1), some (.aload_n 0, 1), some (.arraylength, 1), some (.if_icmp .ge 9, 3), none, none, some (.aload_n 0, 1), some (.iload_n 1, 1), some (.iaload, 1), some (.goto 4, 3), none, none, some (.iconst 0, 1), some (.ireturn, 1)]
def om_c95 : List (Option (Instr × Nat)) := [some (.aload_n 0, 1), some (.invokespecial 1, 3), none, none, some (.aload_n 0, 1), some (.sipush 1170, 3), none, none, some (.newarray .int, 2), none, some (.putfield 7, 3), none, none, some (.aload_n 0, 1), some (.sipush 3456, 3), none, none, some (.newarray .int, 2), none, some (.putfield 13, 3), none, none, some (.aload_n 0, 1), some (.bipush 40, 2), none, some (.newarray .int, 2), none, some (.putfield 16, 3), none, none, some (.aload_n 0, 1), some (.iconst 5, 1), some (.newarray .int, 2), none, some (.putfield 19, 3), none, none, some (.aload_n 0, 1), some (.iconst 5, 1), some (.newarray .boolean, 2), none, some (.putfield 22, 3), none, none, some (.aload_n 0, 1), some (.sipush 700, 3), none, none, some (.newarray .int, 2), none, some (.putfield 26, 3), none, none, some (.aload_n 0, 1), some (.iconst (-1), 1), some (.putfield 29, 3), none, none, some (.aload_n 0, 1), some (.sipush 182, 3), none, none, some (.newarray .int, 2), none, some (.putfield 33, 3), none, none, some (.aload_n 0, 1), some (.sipush 325, 3), none, none, some (.newarray .int, 2), none, some (.putfield 36, 3), none, none, some (.aload_n 0, 1), some (.sipush 169, 3), none, none, some (.newarray .int, 2), none, some (.putfield 39, 3), none, none, some (.aload_n 0, 1), some (.bipush 13, 2), none, some (.newarray .int, 2), none, some (.putfield 42, 3), none, none, some (.aload_n 0, 1), some (.bipush 25, 2), none, some (.newarray .int, 2), none, some (.putfield 45, 3), none, none, some (.aload_n 0, 1), some (.bipush 13, 2), none, some (.newarray .int, 2), none, some (.putfield 48, 3), none, none, some (.aload_n 0, 1), some (.sipush 961, 3), none, none, some (.newarray .boolean, 2), none, some (.putfield 51, 3), none, none, some (.aload_n 0, 1), some (.bipush 24, 2), none, some (.newarray .int, 2), none, some (.putfield 54, 3), none, none, some (.aload_n 0, 1), some (.bipush 9, 2), none, some (.newarray .int, 2), none, some (.putfield 57, 3), none, none, some (.aload_n 0, 1), some (.bipush 8, 2), none, some (.newarray .int, 2), none, some (.putfield 60, 3), none, none, some (.aload_n 0, 1), some (.iload_n 1, 1), some (.ifCond .ne 7, 3), none, none, some (.iconst 1, 1), some (.goto 4, 3), none, none, some (.iconst 0, 1), some (.putfield 63, 3), none, none, some (.return_, 1)]
def om_c96 : List (Option (Instr × Nat)) := [some (.aload_n 0, 1), some (.getfield 111, 3), none, none, some (.bipush 40, 2), none, some (.if_icmp .ge 15, 3), none, none, some (.iload_n 1, 1), some (.bipush 33, 2), none, some (.if_icmp .lt 9, 3), none, none, some (.iload_n 1, 1), some (.bipush 126, 2), none, some (.if_icmp .le 5, 3), none, none, some (.iconst 0, 1), some (.ireturn, 1), some (.aload_n 0, 1), some (.getfield 16, 3), none, none, some (.aload_n 0, 1), some (.getfield 111, 3), none, none, some (.iload_n 1, 1), some (.iastore, 1), some (.aload_n 0, 1), some (.dup, 1), some (.getfield 111, 3), none, none, some (.iconst 1, 1), some (.iadd, 1), some (.putfield 111, 3), none, none, some (.iconst 1, 1), some (.ireturn, 1)]
def om_c97 : List (Option (Instr × Nat)) := [some (.aload_n 0, 1), some (.getfield 111, 3), none, none, some (.istore_n 1, 1), some (.aload_n 0, 1), some (.iconst 0, 1), some (.putfield 111, 3), none, none, some (.iload_n 1, 1), some (.ireturn, 1)]
def om_c98 : List (Option (Instr × Nat)) := [some (.iload_n 1, 1), some (.invokestatic 162, 3), none, none, some (.ifCond .ne 5, 3), none, none, some (.iconst (-1), 1), some (.ireturn, 1), some (.aload_n 0, 1), some (.invokevirtual 165, 3), none, none, some (.ifCond .ne 6, 3), none, none, some (.bipush (-2), 2), none, some (.ireturn, 1), some (.aload_n 0, 1), some (.invokevirtual 169, 3), none, none, some (.aload_n 0, 1), some (.getfield 138, 3), none, none, some (.ifCond .eq 6, 3), none, none, some (.bipush (-3), 2), none, some (.ireturn, 1), some (.aload_n 0, 1), some (.iconst 0, 1), some (.aload_n 0, 1), some (.iconst 0, 1), some (.invokevirtual 132, 3), none, none, some (.invokevirtual 141, 3), none, none, some (.aload_n 0, 1), some (.iconst 0, 1), some (.iload_n 1, 1), some (.invokevirtual 83, 3), none, none, some (.aload_n 0, 1), some (.iconst 0, 1), some (.invokevirtual 101, 3), none, none, some (.iconst 1, 1), some (.iadd, 1), some (.ireturn, 1)]
def om_c99 : List (Option (Instr × Nat)) := [some (.iload_n 0, 1), some (.ifCond .lt 13, 3), none, none, some (.iload_n 0, 1), some (.bipush 7, 2), none, some (.if_icmp .gt 7, 3), none, none, some (.iconst 1, 1), some (.goto 4, 3), none, none, some (.iconst 0, 1), some (.ireturn, 1)]
def om_c100 : List (Option (Instr × Nat)) := [some (.iconst 0, 1), some (.istore_n 1, 1), some (.iconst 0, 1), some (.istore_n 2, 1), some (.iconst 0, 1), some (.istore_n 3, 1), some (.iload_n 3, 1), some (.aload_n 0, 1), some (.getfield 111, 3), none, none, some (.if_icmp .ge 187, 3), none, none, some (.aload_n 0, 1), some (.getfield 16, 3), none, none, some (.iload_n 3, 1), some (.iaload, 1), some (.istore 4, 2), none, some (.iload_n 3, 1), some (.iconst 1, 1), some (.iadd, 1), some (.istore 5, 2), none, some (.iload 4, 2), none, some (.bipush 43, 2), none, some (.if_icmp .eq 10, 3), none, none, some (.iload 4, 2), none, some (.bipush 45, 2), none, some (.if_icmp .ne 7, 3), none, none, some (.iconst 1, 1), some (.goto 4, 3), none, none, some (.iconst 0, 1), some (.istore 6, 2), none, some (.aload_n 0, 1), some (.iload_n 3, 1), some (.invokevirtual 117, 3), none, none, some (.ifCond .eq 15, 3), none, none, some (.aload_n 0, 1), some (.iload_n 3, 1), some (.invokevirtual 120, 3), none, none, some (.istore 5, 2), none, some (.iconst 2, 1), some (.istore_n 1, 1), some (.goto 127, 3), none, none, some (.iload 4, 2), none, some (.bipush 120, 2), none, some (.if_icmp .eq 10, 3), none, none, some (.iload 4, 2), none, some (.bipush 84, 2), none, some (.if_icmp .ne 8, 3), none, none, some (.iconst 2, 1), some (.istore_n 1, 1), some (.goto 108, 3), none, none, some (.iload 4, 2), none, some (.bipush 40, 2), none, some (.if_icmp .ne 16, 3), none, none, some (.iload_n 2, 1), some (.iconst 4, 1), some (.if_icmp .ge 11, 3), none, none, some (.iinc 2 1, 3), none, none, some (.iconst 0, 1), some (.istore_n 1, 1), some (.goto 88, 3), none, none, some (.iload 4, 2), none, some (.bipush 41, 2), none, some (.if_icmp .ne 20, 3), none, none, some (.iload_n 2, 1), some (.ifCond .le 16, 3), none, none, some (.iload_n 1, 1), some (.iconst 2, 1), some (.if_icmp .lt 11, 3), none, none, some (.iinc 2 (-1), 3), none, none, some (.iconst 2, 1), some (.istore_n 1, 1), some (.goto 64, 3), none, none, some (.iload 4, 2), none, some (.bipush 94, 2), none, some (.if_icmp .ne 28, 3), none, none, some (.iload_n 1, 1), some (.iconst 2, 1), some (.if_icmp .ne 23, 3), none, none, some (.aload_n 0, 1), some (.iload_n 3, 1), some (.iconst 1, 1), some (.iadd, 1), some (.invokevirtual 117, 3), none, none, some (.ifCond .eq 13, 3), none, none, some (.iload_n 3, 1), some (.iconst 2, 1), some (.iadd, 1), some (.istore 5, 2), none, some (.iconst 3, 1), some (.istore_n 1, 1), some (.goto 32, 3), none, none, some (.iload 6, 2), none, some (.ifCond .eq 8, 3), none, none, some (.iload_n 1, 1), some (.iconst 1, 1), some (.if_icmp .ne 15, 3), none, none, some (.iload 4, 2), none, some (.bipush 42, 2), none, some (.if_icmp .ne 13, 3), none, none, some (.iload_n 1, 1), some (.iconst 2, 1), some (.if_icmp .lt 8, 3), none, none, some (.iconst 1, 1), some (.istore_n 1, 1), some (.goto 5, 3), none, none, some (.iconst 0, 1), some (.ireturn, 1), some (.iload 5, 2), none, some (.istore_n 3, 1), some (.goto (-189), 3), none, none, some (.iload_n 1, 1), some (.iconst 2, 1), some (.if_icmp .lt 11, 3), none, none, some (.iload_n 2, 1), some (.ifCond .ne 7, 3), none, none, some (.iconst 1, 1), some (.goto 4, 3), none, none, some (.iconst 0, 1), some (.ireturn, 1)]
def om_c101 : List (Option (Instr × Nat)) := [some (.aload_n 0, 1), some (.iload_n 1, 1), some (.invokevirtual 114, 3), none, none, some (.bipush 48, 2), none, some (.if_icmp .lt 17, 3), none, none, some (.aload_n 0, 1), some (.iload_n 1, 1), some (.invokevirtual 114, 3), none, none, some (.bipush 57, 2), none, some (.if_icmp .gt 7, 3), none, none, some (.iconst 1, 1), some (.goto 4, 3), none, none, some (.iconst 0, 1), some (.ireturn, 1)]
def om_c102 : List (Option (Instr × Nat)) := [some (.iload_n 1, 1), some (.aload_n 0, 1), some (.getfield 111, 3), none, none, some (.if_icmp .ge 12, 3), none, none, some (.aload_n 0, 1), some (.getfield 16, 3), none, none, some (.iload_n 1, 1), some (.iaload, 1), some (.goto 4, 3), none, none, some (.iconst 0, 1), some (.ireturn, 1)]
def om_c103 : List (Option (Instr × Nat)) := [some (.iload_n 1, 1), some (.istore_n 2, 1), some (.aload_n 0, 1), some (.iload_n 2, 1), some (.invokevirtual 117, 3), none, none, some (.ifCond .eq 9, 3), none, none, some (.iinc 2 1, 3), none, none, some (.goto (-11), 3), none, none, some (.iload_n 2, 1), some (.ireturn, 1)]
def om_c104 : List (Option (Instr × Nat)) := [some (.aload_n 0, 1), some (.iconst 0, 1), some (.putfield 123, 3), none, none, some (.aload_n 0, 1), some (.iconst 0, 1), some (.putfield 138, 3), none, none, some (.aload_n 0, 1), some (.invokevirtual 153, 3), none, none, some (.iconst 0, 1), some (.istore_n 1, 1), some (.iload_n 1, 1), some (.aload_n 0, 1), some (.getfield 111, 3), none, none, some (.if_icmp .ge 157, 3), none, none, some (.aload_n 0, 1), some (.getfield 138, 3), none, none, some (.ifCond .ne 150, 3), none, none, some (.aload_n 0, 1), some (.getfield 16, 3), none, none, some (.iload_n 1, 1), some (.iaload, 1), some (.istore_n 2, 1), some (.iload_n 2, 1), some (.bipush 40, 2), none, some (.if_icmp .ne 23, 3), none, none, some (.aload_n 0, 1), some (.dup, 1), some (.getfield 123, 3), none, none, some (.iconst 1, 1), some (.iadd, 1), some (.putfield 123, 3), none, none, some (.aload_n 0, 1), some (.invokevirtual 153, 3), none, none, some (.iinc 1 1, 3), none, none, some (.goto 114, 3), none, none, some (.iload_n 2, 1), some (.bipush 41, 2), none, some (.if_icmp .ne 41, 3), none, none, some (.aload_n 0, 1), some (.invokevirtual 156, 3), none, none, some (.aload_n 0, 1), some (.iconst 0, 1), some (.aload_n 0, 1), some (.aload_n 0, 1), some (.getfield 123, 3), none, none, some (.invokevirtual 132, 3), none, none, some (.invokevirtual 141, 3), none, none, some (.aload_n 0, 1), some (.dup, 1), some (.getfield 123, 3), none, none, some (.iconst 1, 1), some (.isub, 1), some (.putfield 123, 3), none, none, some (.aload_n 0, 1), some (.iload_n 1, 1), some (.iconst 1, 1), some (.iadd, 1), some (.invokevirtual 150, 3), none, none, some (.istore_n 1, 1), some (.goto 70, 3), none, none, some (.iload_n 2, 1), some (.bipush 43, 2), none, some (.if_icmp .eq 9, 3), none, none, some (.iload_n 2, 1), some (.bipush 45, 2), none, some (.if_icmp .ne 40, 3), none, none, some (.aload_n 0, 1), some (.getfield 22, 3), none, none, some (.aload_n 0, 1), some (.getfield 123, 3), none, none, some (.baload, 1), some (.ifCond .eq 7, 3), none, none, some (.aload_n 0, 1), some (.invokevirtual 156, 3), none, none, some (.aload_n 0, 1), some (.iload_n 2, 1), some (.bipush 43, 2), none, some (.if_icmp .ne 7, 3), none, none, some (.iconst 1, 1), some (.goto 4, 3), none, none, some (.iconst (-1), 1), some (.invokevirtual 147, 3), none, none, some (.iinc 1 1, 3), none, none, some (.goto 21, 3), none, none, some (.iload_n 2, 1), some (.bipush 42, 2), none, some (.if_icmp .ne 9, 3), none, none, some (.iload_n 1, 1), some (.iconst 1, 1), some (.iadd, 1), some (.goto 8, 3), none, none, some (.aload_n 0, 1), some (.iload_n 1, 1), some (.invokevirtual 159, 3), none, none, some (.istore_n 1, 1), some (.goto (-159), 3), none, none, some (.aload_n 0, 1), some (.invokevirtual 156, 3), none, none, some (.return_, 1)]
def om_c105 : List (Option (Instr × Nat)) := [some (.aload_n 0, 1), some (.aload_n 0, 1), some (.aload_n 0, 1), some (.getfield 123, 3), none, none, some (.invokevirtual 132, 3), none, none, some (.invokevirtual 129, 3), none, none, some (.aload_n 0, 1), some (.iconst 1, 1), some (.invokevirtual 147, 3), none, none, some (.return_, 1)]
def om_c106 : List (Option (Instr × Nat)) := [some (.bipush 8, 2), none, some (.iconst 2, 1), some (.iload_n 1, 1), some (.imul, 1), some (.iadd, 1), some (.ireturn, 1)]
def om_c107 : List (Option (Instr × Nat)) := [some (.iconst 0, 1), some (.istore_n 2, 1), some (.iload_n 2, 1), some (.bipush 65, 2), none, some (.if_icmp .ge 21, 3), none, none, some (.aload_n 0, 1), some (.getfield 7, 3), none, none, some (.bipush 65, 2), none, some (.iload_n 1, 1), some (.imul, 1), some (.iload_n 2, 1), some (.iadd, 1), some (.iconst 0, 1), some (.iastore, 1), some (.iinc 2 1, 3), none, none, some (.goto (-21), 3), none, none, some (.return_, 1)]
def om_c108 : List (Option (Instr × Nat)) := [some (.aload_n 0, 1), some (.getfield 19, 3), none, none, some (.aload_n 0, 1), some (.getfield 123, 3), none, none, some (.iload_n 1, 1), some (.iastore, 1), some (.aload_n 0, 1), some (.getfield 22, 3), none, none, some (.aload_n 0, 1), some (.getfield 123, 3), none, none, some (.iconst 0, 1), some (.bastore, 1), some (.aload_n 0, 1), some (.aload_n 0, 1), some (.aload_n 0, 1), some (.getfield 123, 3), none, none, some (.invokevirtual 126, 3), none, none, some (.invokevirtual 129, 3), none, none, some (.aload_n 0, 1), some (.getfield 7, 3), none, none, some (.bipush 65, 2), none, some (.aload_n 0, 1), some (.aload_n 0, 1), some (.getfield 123, 3), none, none, some (.invokevirtual 126, 3), none, none, some (.imul, 1), some (.iconst 1, 1), some (.iastore, 1), some (.return_, 1)]
def om_c109 : List (Option (Instr × Nat)) := [some (.bipush 9, 2), none, some (.iconst 2, 1), some (.iload_n 1, 1), some (.imul, 1), some (.iadd, 1), some (.ireturn, 1)]
def om_c110 : List (Option (Instr × Nat)) := [some (.iconst 0, 1), some (.istore_n 1, 1), some (.iload_n 1, 1), some (.bipush 65, 2), none, some (.if_icmp .ge 67, 3), none, none, some (.bipush 65, 2), none, some (.aload_n 0, 1), some (.aload_n 0, 1), some (.getfield 123, 3), none, none, some (.invokevirtual 132, 3), none, none, some (.imul, 1), some (.iload_n 1, 1), some (.iadd, 1), some (.istore_n 2, 1), some (.aload_n 0, 1), some (.getfield 7, 3), none, none, some (.iload_n 2, 1), some (.aload_n 0, 1), some (.getfield 7, 3), none, none, some (.iload_n 2, 1), some (.iaload, 1), some (.aload_n 0, 1), some (.getfield 19, 3), none, none, some (.aload_n 0, 1), some (.getfield 123, 3), none, none, some (.iaload, 1), some (.aload_n 0, 1), some (.getfield 7, 3), none, none, some (.bipush 65, 2), none, some (.aload_n 0, 1), some (.aload_n 0, 1), some (.getfield 123, 3), none, none, some (.invokevirtual 126, 3), none, none, some (.imul, 1), some (.iload_n 1, 1), some (.iadd, 1), some (.iaload, 1), some (.imul, 1), some (.iadd, 1), some (.invokestatic 67, 3), none, none, some (.iastore, 1), some (.iinc 1 1, 3), none, none, some (.goto (-67), 3), none, none, some (.return_, 1)]
def om_c111 : List (Option (Instr × Nat)) := [some (.iload_n 0, 1), some (.bipush 31, 2), none, some (.irem, 1), some (.istore_n 1, 1), some (.iload_n 1, 1), some (.ifCond .ge 10, 3), none, none, some (.iload_n 1, 1), some (.bipush 31, 2), none, some (.iadd, 1), some (.goto 4, 3), none, none, some (.iload_n 1, 1), some (.ireturn, 1)]
def om_c112 : List (Option (Instr × Nat)) := [some (.aload_n 0, 1), some (.iload_n 1, 1), some (.invokevirtual 71, 3), none, none, some (.iconst 0, 1), some (.istore_n 3, 1), some (.iload_n 3, 1), some (.iconst 5, 1), some (.if_icmp .ge 60, 3), none, none, some (.iconst 0, 1), some (.istore 4, 2), none, some (.iload 4, 2), none, some (.bipush 13, 2), none, some (.if_icmp .ge 44, 3), none, none, some (.aload_n 0, 1), some (.getfield 13, 3), none, none, some (.sipush 576, 3), none, none, some (.iload_n 1, 1), some (.imul, 1), some (.bipush 64, 2), none, some (.iload_n 3, 1), some (.imul, 1), some (.iadd, 1), some (.iload 4, 2), none, some (.iadd, 1), some (.aload_n 0, 1), some (.getfield 7, 3), none, none, some (.bipush 65, 2), none, some (.iload_n 2, 1), some (.imul, 1), some (.bipush 13, 2), none, some (.iload_n 3, 1), some (.imul, 1), some (.iadd, 1), some (.iload 4, 2), none, some (.iadd, 1), some (.iaload, 1), some (.iastore, 1), some (.iinc 4 1, 3), none, none, some (.goto (-45), 3), none, none, some (.iinc 3 1, 3), none, none, some (.goto (-59), 3), none, none, some (.return_, 1)]
def om_c113 : List (Option (Instr × Nat)) := [some (.iconst 0, 1), some (.istore_n 2, 1), some (.iload_n 2, 1), some (.sipush 576, 3), none, none, some (.if_icmp .ge 22, 3), none, none, some (.aload_n 0, 1), some (.getfield 13, 3), none, none, some (.sipush 576, 3), none, none, some (.iload_n 1, 1), some (.imul, 1), some (.iload_n 2, 1), some (.iadd, 1), some (.iconst 0, 1), some (.iastore, 1), some (.iinc 2 1, 3), none, none, some (.goto (-23), 3), none, none, some (.return_, 1)]
def om_c114 : List (Option (Instr × Nat)) := [some (.aload_n 0, 1), some (.iload_n 1, 1), some (.invokevirtual 114, 3), none, none, some (.bipush 94, 2), none, some (.if_icmp .ne 7, 3), none, none, some (.iconst 1, 1), some (.goto 4, 3), none, none, some (.iconst 0, 1), some (.istore_n 2, 1), some (.iload_n 2, 1), some (.ifCond .eq 16, 3), none, none, some (.aload_n 0, 1), some (.iload_n 1, 1), some (.iconst 1, 1), some (.iadd, 1), some (.invokevirtual 114, 3), none, none, some (.bipush 48, 2), none, some (.isub, 1), some (.goto 4, 3), none, none, some (.iconst 1, 1), some (.istore_n 3, 1), some (.iconst 0, 1), some (.istore 4, 2), none, some (.iload 4, 2), none, some (.iload_n 3, 1), some (.if_icmp .ge 77, 3), none, none, some (.iload_n 2, 1), some (.ifCond .eq 73, 3), none, none, some (.iload 4, 2), none, some (.ifCond .ne 12, 3), none, none, some (.aload_n 0, 1), some (.iconst 0, 1), some (.iconst 3, 1), some (.invokevirtual 98, 3), none, none, some (.goto 53, 3), none, none, some (.aload_n 0, 1), some (.iconst 3, 1), some (.iconst 0, 1), some (.iconst 1, 1), some (.iconst 2, 1), some (.invokevirtual 135, 3), none, none, some (.aload_n 0, 1), some (.aload_n 0, 1), some (.getfield 138, 3), none, none, some (.ifCond .ne 11, 3), none, none, some (.aload_n 0, 1), some (.iconst 1, 1), some (.invokevirtual 79, 3), none, none, some (.ifCond .ne 7, 3), none, none, some (.iconst 1, 1), some (.goto 4, 3), none, none, some (.iconst 0, 1), some (.putfield 138, 3), none, none, some (.aload_n 0, 1), some (.getfield 138, 3), none, none, some (.ifCond .eq 8, 3), none, none, some (.aload_n 0, 1), some (.getfield 111, 3), none, none, some (.ireturn, 1), some (.aload_n 0, 1), some (.iconst 1, 1), some (.iconst 3, 1), some (.invokevirtual 98, 3), none, none, some (.iinc 4 1, 3), none, none, some (.goto (-77), 3), none, none, some (.iload_n 2, 1), some (.ifCond .eq 13, 3), none, none, some (.iload_n 3, 1), some (.ifCond .le 9, 3), none, none, some (.aload_n 0, 1), some (.iconst 3, 1), some (.iconst 0, 1), some (.invokevirtual 98, 3), none, none, some (.iload_n 3, 1), some (.ifCond .ne 16, 3), none, none, some (.aload_n 0, 1), some (.iconst 0, 1), some (.invokevirtual 71, 3), none, none, some (.aload_n 0, 1), some (.iconst 0, 1), some (.iconst 0, 1), some (.iconst 0, 1), some (.iconst 1, 1), some (.invokevirtual 91, 3), none, none, some (.aload_n 0, 1), some (.iconst 3, 1), some (.aload_n 0, 1), some (.aload_n 0, 1), some (.getfield 123, 3), none, none, some (.invokevirtual 126, 3), none, none, some (.invokevirtual 141, 3), none, none, some (.aload_n 0, 1), some (.iconst 3, 1), some (.iconst 0, 1), some (.iconst 1, 1), some (.iconst 2, 1), some (.invokevirtual 135, 3), none, none, some (.aload_n 0, 1), some (.aload_n 0, 1), some (.getfield 138, 3), none, none, some (.ifCond .ne 21, 3), none, none, some (.aload_n 0, 1), some (.iconst 1, 1), some (.aload_n 0, 1), some (.aload_n 0, 1), some (.getfield 123, 3), none, none, some (.invokevirtual 126, 3), none, none, some (.invokevirtual 144, 3), none, none, some (.bipush (-3), 2), none, some (.if_icmp .ne 7, 3), none, none, some (.iconst 1, 1), some (.goto 4, 3), none, none, some (.iconst 0, 1), some (.putfield 138, 3), none, none, some (.aload_n 0, 1), some (.getfield 22, 3), none, none, some (.aload_n 0, 1), some (.getfield 123, 3), none, none, some (.iconst 1, 1), some (.bastore, 1), some (.iload_n 2, 1), some (.ifCond .eq 9, 3), none, none, some (.iload_n 1, 1), some (.iconst 2, 1), some (.iadd, 1), some (.goto 4, 3), none, none, some (.iload_n 1, 1), some (.ireturn, 1)]
def om_c115 : List (Option (Instr × Nat)) := [some (.iconst 0, 1), some (.istore_n 3, 1), some (.iload_n 3, 1), some (.sipush 576, 3), none, none, some (.if_icmp .ge 33, 3), none, none, some (.aload_n 0, 1), some (.getfield 13, 3), none, none, some (.sipush 576, 3), none, none, some (.iload_n 2, 1), some (.imul, 1), some (.iload_n 3, 1), some (.iadd, 1), some (.aload_n 0, 1), some (.getfield 13, 3), none, none, some (.sipush 576, 3), none, none, some (.iload_n 1, 1), some (.imul, 1), some (.iload_n 3, 1), some (.iadd, 1), some (.iaload, 1), some (.iastore, 1), some (.iinc 3 1, 3), none, none, some (.goto (-34), 3), none, none, some (.return_, 1)]
def om_c116 : List (Option (Instr × Nat)) := [some (.aload_n 0, 1), some (.iload_n 2, 1), some (.iload 4, 2), none, some (.invokevirtual 98, 3), none, none, some (.aload_n 0, 1), some (.iload_n 3, 1), some (.invokevirtual 71, 3), none, none, some (.aload_n 0, 1), some (.iload_n 1, 1), some (.invokevirtual 101, 3), none, none, some (.istore 5, 2), none, some (.iconst 0, 1), some (.istore 6, 2), none, some (.iload 6, 2), none, some (.iload 5, 2), none, some (.if_icmp .gt 64, 3), none, none, some (.iconst 0, 1), some (.istore 7, 2), none, some (.iload 7, 2), none, some (.bipush 9, 2), none, some (.if_icmp .ge 35, 3), none, none, some (.aload_n 0, 1), some (.iload 4, 2), none, some (.iload 7, 2), none, some (.invokevirtual 87, 3), none, none, some (.ifCond .lt 18, 3), none, none, some (.aload_n 0, 1), some (.iload_n 3, 1), some (.iload 7, 2), none, some (.iload 4, 2), none, some (.iload 7, 2), none, some (.iload_n 1, 1), some (.iload 6, 2), none, some (.iconst 1, 1), some (.invokevirtual 104, 3), none, none, some (.iinc 7 1, 3), none, none, some (.goto (-36), 3), none, none, some (.iload 6, 2), none, some (.iload 5, 2), none, some (.if_icmp .ge 9, 3), none, none, some (.aload_n 0, 1), some (.iload 4, 2), none, some (.invokevirtual 108, 3), none, none, some (.iinc 6 1, 3), none, none, some (.goto (-65), 3), none, none, some (.return_, 1)]
def om_c117 : List (Option (Instr × Nat)) := [some (.iconst (-1), 1), some (.istore_n 2, 1), some (.iconst 0, 1), some (.istore_n 3, 1), some (.iload_n 3, 1), some (.bipush 9, 2), none, some (.if_icmp .ge 24, 3), none, none, some (.aload_n 0, 1), some (.iload_n 1, 1), some (.iload_n 3, 1), some (.invokevirtual 87, 3), none, none, some (.ifCond .lt 7, 3), none, none, some (.iload_n 3, 1), some (.goto 4, 3), none, none, some (.iload_n 2, 1), some (.istore_n 2, 1), some (.iinc 3 1, 3), none, none, some (.goto (-24), 3), none, none, some (.iload_n 2, 1), some (.ireturn, 1)]
def om_c118 : List (Option (Instr × Nat)) := [some (.iconst (-1), 1), some (.istore_n 3, 1), some (.iconst 0, 1), some (.istore 4, 2), none, some (.iload 4, 2), none, some (.bipush 64, 2), none, some (.if_icmp .ge 27, 3), none, none, some (.aload_n 0, 1), some (.iload_n 1, 1), some (.iload_n 2, 1), some (.iload 4, 2), none, some (.invokevirtual 75, 3), none, none, some (.ifCond .eq 8, 3), none, none, some (.iload 4, 2), none, some (.goto 4, 3), none, none, some (.iload_n 3, 1), some (.istore_n 3, 1), some (.iinc 4 1, 3), none, none, some (.goto (-28), 3), none, none, some (.iload_n 3, 1), some (.ireturn, 1)]
def om_c119 : List (Option (Instr × Nat)) := [some (.aload_n 0, 1), some (.getfield 13, 3), none, none, some (.sipush 576, 3), none, none, some (.iload_n 1, 1), some (.imul, 1), some (.bipush 64, 2), none, some (.iload_n 2, 1), some (.imul, 1), some (.iadd, 1), some (.iload_n 3, 1), some (.iadd, 1), some (.iaload, 1), some (.ireturn, 1)]
def om_c120 : List (Option (Instr × Nat)) := [some (.iconst 0, 1), some (.istore 8, 2), none, some (.iload 8, 2), none, some (.bipush 64, 2), none, some (.if_icmp .ge 71, 3), none, none, some (.aload_n 0, 1), some (.iload 5, 2), none, some (.iload 6, 2), none, some (.iload 8, 2), none, some (.invokevirtual 75, 3), none, none, some (.iload 7, 2), none, some (.imul, 1), some (.istore 9, 2), none, some (.iconst 0, 1), some (.istore 10, 2), none, some (.iload 9, 2), none, some (.ifCond .eq 42, 3), none, none, some (.iload 8, 2), none, some (.iload 10, 2), none, some (.iadd, 1), some (.bipush 64, 2), none, some (.if_icmp .ge 32, 3), none, none, some (.aload_n 0, 1), some (.iload_n 1, 1), some (.iload_n 2, 1), some (.iload 8, 2), none, some (.iload 10, 2), none, some (.iadd, 1), some (.iload 9, 2), none, some (.aload_n 0, 1), some (.iload_n 3, 1), some (.iload 4, 2), none, some (.iload 10, 2), none, some (.invokevirtual 75, 3), none, none, some (.imul, 1), some (.invokevirtual 91, 3), none, none, some (.iinc 10 1, 3), none, none, some (.goto (-41), 3), none, none, some (.iinc 8 1, 3), none, none, some (.goto (-72), 3), none, none, some (.return_, 1)]
def om_c121 : List (Option (Instr × Nat)) := [some (.sipush 576, 3), none, none, some (.iload_n 1, 1), some (.imul, 1), some (.bipush 64, 2), none, some (.iload_n 2, 1), some (.imul, 1), some (.iadd, 1), some (.iload_n 3, 1), some (.iadd, 1), some (.istore 5, 2), none, some (.aload_n 0, 1), some (.getfield 13, 3), none, none, some (.iload 5, 2), none, some (.aload_n 0, 1), some (.getfield 13, 3), none, none, some (.iload 5, 2), none, some (.iaload, 1), some (.iload 4, 2), none, some (.iadd, 1), some (.invokestatic 67, 3), none, none, some (.iastore, 1), some (.return_, 1)]
def om_c122 : List (Option (Instr × Nat)) := [some (.bipush 8, 2), none, some (.istore_n 2, 1), some (.iload_n 2, 1), some (.ifCond .lt 116, 3), none, none, some (.iconst 0, 1), some (.istore_n 3, 1), some (.iload_n 3, 1), some (.bipush 64, 2), none, some (.if_icmp .ge 85, 3), none, none, some (.iload_n 2, 1), some (.ifCond .le 15, 3), none, none, some (.aload_n 0, 1), some (.iload_n 1, 1), some (.iload_n 2, 1), some (.iconst 1, 1), some (.isub, 1), some (.iload_n 3, 1), some (.invokevirtual 75, 3), none, none, some (.goto 4, 3), none, none, some (.iconst 0, 1), some (.istore 4, 2), none, some (.aload_n 0, 1), some (.getfield 63, 3), none, none, some (.ifCond .eq 25, 3), none, none, some (.iload_n 3, 1), some (.bipush 63, 2), none, some (.if_icmp .ge 19, 3), none, none, some (.iload_n 3, 1), some (.iconst 1, 1), some (.iadd, 1), some (.aload_n 0, 1), some (.iload_n 1, 1), some (.iload_n 2, 1), some (.iload_n 3, 1), some (.iconst 1, 1), some (.iadd, 1), some (.invokevirtual 75, 3), none, none, some (.imul, 1), some (.goto 4, 3), none, none, some (.iconst 0, 1), some (.istore 5, 2), none, some (.aload_n 0, 1), some (.getfield 13, 3), none, none, some (.sipush 576, 3), none, none, some (.iload_n 1, 1), some (.imul, 1), some (.bipush 64, 2), none, some (.iload_n 2, 1), some (.imul, 1), some (.iadd, 1), some (.iload_n 3, 1), some (.iadd, 1), some (.iload 4, 2), none, some (.iload 5, 2), none, some (.iadd, 1), some (.invokestatic 67, 3), none, none, some (.iastore, 1), some (.iinc 3 1, 3), none, none, some (.goto (-85), 3), none, none, some (.aload_n 0, 1), some (.getfield 63, 3), none, none, some (.ifCond .ne 13, 3), none, none, some (.iload_n 2, 1), some (.ifCond .le 9, 3), none, none, some (.aload_n 0, 1), some (.iload_n 1, 1), some (.iload_n 2, 1), some (.invokevirtual 95, 3), none, none, some (.iinc 2 (-1), 3), none, none, some (.goto (-114), 3), none, none, some (.return_, 1)]
def om_c123 : List (Option (Instr × Nat)) := [some (.aload_n 0, 1), some (.iload_n 1, 1), some (.iload_n 2, 1), some (.invokevirtual 87, 3), none, none, some (.istore_n 3, 1), some (.iconst 0, 1), some (.istore 4, 2), none, some (.iload 4, 2), none, some (.iload_n 3, 1), some (.if_icmp .ge 45, 3), none, none, some (.iload_n 3, 1), some (.iconst 1, 1), some (.isub, 1), some (.istore 5, 2), none, some (.iload 5, 2), none, some (.iload 4, 2), none, some (.if_icmp .lt 27, 3), none, none, some (.aload_n 0, 1), some (.iload_n 1, 1), some (.iload_n 2, 1), some (.iload 5, 2), none, some (.aload_n 0, 1), some (.iload_n 1, 1), some (.iload_n 2, 1), some (.iload 5, 2), none, some (.iconst 1, 1), some (.iadd, 1), some (.invokevirtual 75, 3), none, none, some (.invokevirtual 91, 3), none, none, some (.iinc 5 (-1), 3), none, none, some (.goto (-28), 3), none, none, some (.iinc 4 1, 3), none, none, some (.goto (-45), 3), none, none, some (.return_, 1)]
def om_c124 : List (Option (Instr × Nat)) := [some (.iconst 1, 1), some (.istore_n 2, 1), some (.iconst 0, 1), some (.istore_n 3, 1), some (.iload_n 3, 1), some (.bipush 9, 2), none, some (.if_icmp .ge 58, 3), none, none, some (.iconst 0, 1), some (.istore 4, 2), none, some (.iload 4, 2), none, some (.bipush 64, 2), none, some (.if_icmp .ge 42, 3), none, none, some (.iload_n 2, 1), some (.ifCond .eq 30, 3), none, none, some (.aload_n 0, 1), some (.iload_n 1, 1), some (.iload_n 3, 1), some (.iload 4, 2), none, some (.invokevirtual 75, 3), none, none, some (.ifCond .eq 15, 3), none, none, some (.iload_n 3, 1), some (.iconst 5, 1), some (.if_icmp .ge 14, 3), none, none, some (.iload 4, 2), none, some (.bipush 13, 2), none, some (.if_icmp .ge 7, 3), none, none, some (.iconst 1, 1), some (.goto 4, 3), none, none, some (.iconst 0, 1), some (.istore_n 2, 1), some (.iinc 4 1, 3), none, none, some (.goto (-43), 3), none, none, some (.iinc 3 1, 3), none, none, some (.goto (-58), 3), none, none, some (.iload_n 2, 1), some (.ireturn, 1)]
def om_c125 : List (Option (Instr × Nat)) := [some (.aload_n 0, 1), some (.iload_n 1, 1), some (.invokevirtual 79, 3), none, none, some (.ifCond .ne 6, 3), none, none, some (.bipush (-3), 2), none, some (.ireturn, 1), some (.aload_n 0, 1), some (.iload_n 1, 1), some (.iload_n 2, 1), some (.invokevirtual 83, 3), none, none, some (.iconst 0, 1), some (.ireturn, 1)]
def om_c126 : List (Option (Instr × Nat)) := [some (.iconst 0, 1), some (.istore_n 3, 1), some (.iload_n 3, 1), some (.iconst 5, 1), some (.if_icmp .ge 50, 3), none, none, some (.iconst 0, 1), some (.istore 4, 2), none, some (.iload 4, 2), none, some (.bipush 13, 2), none, some (.if_icmp .ge 34, 3), none, none, some (.aload_n 0, 1), some (.getfield 7, 3), none, none, some (.bipush 65, 2), none, some (.iload_n 2, 1), some (.imul, 1), some (.bipush 13, 2), none, some (.iload_n 3, 1), some (.imul, 1), some (.iadd, 1), some (.iload 4, 2), none, some (.iadd, 1), some (.aload_n 0, 1), some (.iload_n 1, 1), some (.iload_n 3, 1), some (.iload 4, 2), none, some (.invokevirtual 75, 3), none, none, some (.iastore, 1), some (.iinc 4 1, 3), none, none, some (.goto (-35), 3), none, none, some (.iinc 3 1, 3), none, none, some (.goto (-49), 3), none, none, some (.return_, 1)]
def om_c127 : List (Option (Instr × Nat)) := [some (.aload_n 0, 1), some (.iconst 0, 1), some (.invokevirtual 71, 3), none, none, some (.aload_n 0, 1), some (.iload_n 1, 1), some (.invokevirtual 117, 3), none, none, some (.ifCond .ne 49, 3), none, none, some (.aload_n 0, 1), some (.iconst 0, 1), some (.aload_n 0, 1), some (.getfield 16, 3), none, none, some (.iload_n 1, 1), some (.iaload, 1), some (.bipush 84, 2), none, some (.if_icmp .ne 7, 3), none, none, some (.iconst 1, 1), some (.goto 4, 3), none, none, some (.iconst 0, 1), some (.aload_n 0, 1), some (.getfield 16, 3), none, none, some (.iload_n 1, 1), some (.iaload, 1), some (.bipush 84, 2), none, some (.if_icmp .ne 7, 3), none, none, some (.iconst 0, 1), some (.goto 4, 3), none, none, some (.iconst 1, 1), some (.iconst 1, 1), some (.invokevirtual 91, 3), none, none, some (.aload_n 0, 1), some (.iload_n 1, 1), some (.iconst 1, 1), some (.iadd, 1), some (.invokevirtual 150, 3), none, none, some (.ireturn, 1), some (.aload_n 0, 1), some (.iload_n 1, 1), some (.invokevirtual 120, 3), none, none, some (.istore_n 2, 1), some (.iconst 0, 1), some (.istore_n 3, 1), some (.iload_n 1, 1), some (.istore 4, 2), none, some (.iload 4, 2), none, some (.iload_n 2, 1), some (.if_icmp .ge 28, 3), none, none, some (.bipush 10, 2), none, some (.iload_n 3, 1), some (.imul, 1), some (.aload_n 0, 1), some (.getfield 16, 3), none, none, some (.iload 4, 2), none, some (.iaload, 1), some (.iadd, 1), some (.bipush 48, 2), none, some (.isub, 1), some (.invokestatic 67, 3), none, none, some (.istore_n 3, 1), some (.iinc 4 1, 3), none, none, some (.goto (-28), 3), none, none, some (.aload_n 0, 1), some (.iconst 0, 1), some (.iconst 0, 1), some (.iconst 0, 1), some (.iload_n 3, 1), some (.invokevirtual 91, 3), none, none, some (.aload_n 0, 1), some (.iload_n 2, 1), some (.invokevirtual 150, 3), none, none, some (.ireturn, 1)]
def om_c128 : List (Option (Instr × Nat)) := [some (.iload_n 1, 1), some (.invokestatic 162, 3), none, none, some (.ifCond .ne 6, 3), none, none, some (.bipush (-2), 2), none, some (.ireturn, 1), some (.aload_n 0, 1), some (.iconst 0, 1), some (.iload_n 1, 1), some (.invokevirtual 141, 3), none, none, some (.aload_n 0, 1), some (.iconst 0, 1), some (.invokevirtual 101, 3), none, none, some (.ireturn, 1)]
def om_c129 : List (Option (Instr × Nat)) := [some (.iload_n 1, 1), some (.invokestatic 162, 3), none, none, some (.ifCond .eq 41, 3), none, none, some (.iload_n 2, 1), some (.ifCond .lt 37, 3), none, none, some (.iload_n 2, 1), some (.iconst 5, 1), some (.if_icmp .ge 32, 3), none, none, some (.iload_n 3, 1), some (.ifCond .lt 28, 3), none, none, some (.iload_n 3, 1), some (.bipush 13, 2), none, some (.if_icmp .ge 22, 3), none, none, some (.aload_n 0, 1), some (.getfield 7, 3), none, none, some (.bipush 65, 2), none, some (.iload_n 1, 1), some (.imul, 1), some (.bipush 13, 2), none, some (.iload_n 2, 1), some (.imul, 1), some (.iadd, 1), some (.iload_n 3, 1), some (.iadd, 1), some (.iaload, 1), some (.goto 4, 3), none, none, some (.iconst (-1), 1), some (.ireturn, 1)]
def om_c130 : List (Option (Instr × Nat)) := [some (.iload_n 1, 1), some (.invokestatic 162, 3), none, none, some (.ifCond .eq 29, 3), none, none, some (.iload_n 2, 1), some (.invokestatic 162, 3), none, none, some (.ifCond .eq 22, 3), none, none, some (.iload_n 3, 1), some (.invokestatic 162, 3), none, none, some (.ifCond .eq 15, 3), none, none, some (.iload 4, 2), none, some (.ifCond .lt 10, 3), none, none, some (.iload 4, 2), none, some (.bipush 31, 2), none, some (.if_icmp .lt 5, 3), none, none, some (.iconst (-1), 1), some (.ireturn, 1), some (.iconst 0, 1), some (.istore 5, 2), none, some (.iload 5, 2), none, some (.bipush 65, 2), none, some (.if_icmp .ge 52, 3), none, none, some (.aload_n 0, 1), some (.getfield 7, 3), none, none, some (.bipush 65, 2), none, some (.iload_n 1, 1), some (.imul, 1), some (.iload 5, 2), none, some (.iadd, 1), some (.aload_n 0, 1), some (.getfield 7, 3), none, none, some (.bipush 65, 2), none, some (.iload_n 2, 1), some (.imul, 1), some (.iload 5, 2), none, some (.iadd, 1), some (.iaload, 1), some (.iload 4, 2), none, some (.aload_n 0, 1), some (.getfield 7, 3), none, none, some (.bipush 65, 2), none, some (.iload_n 3, 1), some (.imul, 1), some (.iload 5, 2), none, some (.iadd, 1), some (.iaload, 1), some (.imul, 1), some (.iadd, 1), some (.invokestatic 67, 3), none, none, some (.iastore, 1), some (.iinc 5 1, 3), none, none, some (.goto (-53), 3), none, none, some (.iconst 0, 1), some (.ireturn, 1)]
def om_c131 : List (Option (Instr × Nat)) := [some (.iload_n 1, 1), some (.invokestatic 162, 3), none, none, some (.ifCond .eq 17, 3), none, none, some (.iload_n 2, 1), some (.invokestatic 162, 3), none, none, some (.ifCond .eq 10, 3), none, none, some (.iload_n 3, 1), some (.invokestatic 162, 3), none, none, some (.ifCond .ne 5, 3), none, none, some (.iconst (-1), 1), some (.ireturn, 1), some (.aload_n 0, 1), some (.iconst 0, 1), some (.iload_n 2, 1), some (.invokevirtual 141, 3), none, none, some (.aload_n 0, 1), some (.iconst 1, 1), some (.iload_n 3, 1), some (.invokevirtual 141, 3), none, none, some (.aload_n 0, 1), some (.iconst 0, 1), some (.iconst 1, 1), some (.iconst 2, 1), some (.iconst 3, 1), some (.invokevirtual 135, 3), none, none, some (.aload_n 0, 1), some (.iconst 2, 1), some (.iload_n 1, 1), some (.invokevirtual 144, 3), none, none, some (.ireturn, 1)]
def om_c132 : List (Option (Instr × Nat)) := [some (.iload_n 1, 1), some (.invokestatic 162, 3), none, none, some (.ifCond .eq 17, 3), none, none, some (.iload_n 2, 1), some (.invokestatic 162, 3), none, none, some (.ifCond .eq 10, 3), none, none, some (.iload_n 3, 1), some (.invokestatic 162, 3), none, none, some (.ifCond .ne 5, 3), none, none, some (.iconst (-1), 1), some (.ireturn, 1), some (.aload_n 0, 1), some (.iload_n 3, 1), some (.invokevirtual 175, 3), none, none, some (.ifCond .le 6, 3), none, none, some (.bipush (-5), 2), none, some (.ireturn, 1), some (.aload_n 0, 1), some (.iconst 0, 1), some (.iload_n 2, 1), some (.invokevirtual 141, 3), none, none, some (.aload_n 0, 1), some (.iconst 1, 1), some (.iload_n 3, 1), some (.invokevirtual 141, 3), none, none, some (.aload_n 0, 1), some (.iconst 0, 1), some (.iconst 1, 1), some (.iconst 2, 1), some (.invokevirtual 178, 3), none, none, some (.aload_n 0, 1), some (.iconst 2, 1), some (.iload_n 1, 1), some (.invokevirtual 144, 3), none, none, some (.ireturn, 1)]
def om_c133 : List (Option (Instr × Nat)) := [some (.aload_n 0, 1), some (.iload_n 3, 1), some (.invokevirtual 71, 3), none, none, some (.iconst 0, 1), some (.istore 4, 2), none, some (.iload 4, 2), none, some (.iconst 5, 1), some (.if_icmp .ge 26, 3), none, none, some (.aload_n 0, 1), some (.iload_n 3, 1), some (.iconst 0, 1), some (.iload_n 2, 1), some (.iconst 0, 1), some (.iload_n 1, 1), some (.iload 4, 2), none, some (.iconst 1, 1), some (.invokevirtual 104, 3), none, none, some (.aload_n 0, 1), some (.iload_n 2, 1), some (.invokevirtual 172, 3), none, none, some (.iinc 4 1, 3), none, none, some (.goto (-26), 3), none, none, some (.return_, 1)]
def om_c134 : List (Option (Instr × Nat)) := [some (.aload_n 0, 1), some (.getfield 63, 3), none, none, some (.ifCond .ne 10, 3), none, none, some (.aload_n 0, 1), some (.iload_n 1, 1), some (.iconst 0, 1), some (.invokevirtual 95, 3), none, none, some (.return_, 1), some (.iconst 0, 1), some (.istore_n 2, 1), some (.iload_n 2, 1), some (.bipush 64, 2), none, some (.if_icmp .ge 47, 3), none, none, some (.aload_n 0, 1), some (.getfield 13, 3), none, none, some (.sipush 576, 3), none, none, some (.iload_n 1, 1), some (.imul, 1), some (.iload_n 2, 1), some (.iadd, 1), some (.iload_n 2, 1), some (.bipush 63, 2), none, some (.if_icmp .ge 22, 3), none, none, some (.iload_n 2, 1), some (.iconst 1, 1), some (.iadd, 1), some (.aload_n 0, 1), some (.iload_n 1, 1), some (.iconst 0, 1), some (.iload_n 2, 1), some (.iconst 1, 1), some (.iadd, 1), some (.invokevirtual 75, 3), none, none, some (.imul, 1), some (.invokestatic 67, 3), none, none, some (.goto 4, 3), none, none, some (.iconst 0, 1), some (.iastore, 1), some (.iinc 2 1, 3), none, none, some (.goto (-47), 3), none, none, some (.return_, 1)]
def om_c135 : List (Option (Instr × Nat)) := [some (.iload_n 1, 1), some (.invokestatic 162, 3), none, none, some (.ifCond .eq 30, 3), none, none, some (.iload_n 2, 1), some (.invokestatic 162, 3), none, none, some (.ifCond .eq 23, 3), none, none, some (.iload_n 3, 1), some (.invokestatic 162, 3), none, none, some (.ifCond .eq 16, 3), none, none, some (.iload 4, 2), none, some (.invokestatic 162, 3), none, none, some (.ifCond .eq 8, 3), none, none, some (.iload_n 1, 1), some (.iload_n 2, 1), some (.if_icmp .ne 5, 3), none, none, some (.iconst (-1), 1), some (.ireturn, 1), some (.aload_n 0, 1), some (.iconst 0, 1), some (.iload_n 3, 1), some (.invokevirtual 141, 3), none, none, some (.aload_n 0, 1), some (.iconst 1, 1), some (.iload 4, 2), none, some (.invokevirtual 141, 3), none, none, some (.aload_n 0, 1), some (.iconst 1, 1), some (.invokevirtual 101, 3), none, none, some (.istore 5, 2), none, some (.iload 5, 2), none, some (.ifCond .lt 13, 3), none, none, some (.aload_n 0, 1), some (.iconst 1, 1), some (.iload 5, 2), none, some (.invokevirtual 87, 3), none, none, some (.ifCond .eq 6, 3), none, none, some (.bipush (-5), 2), none, some (.ireturn, 1), some (.aload_n 0, 1), some (.iload 5, 2), none, some (.invokevirtual 185, 3), none, none, some (.aload_n 0, 1), some (.iconst 0, 1), some (.invokevirtual 79, 3), none, none, some (.ifCond .eq 11, 3), none, none, some (.aload_n 0, 1), some (.iconst 2, 1), some (.invokevirtual 79, 3), none, none, some (.ifCond .ne 6, 3), none, none, some (.bipush (-3), 2), none, some (.ireturn, 1), some (.aload_n 0, 1), some (.iconst 2, 1), some (.iload_n 1, 1), some (.invokevirtual 83, 3), none, none, some (.aload_n 0, 1), some (.iconst 0, 1), some (.iload_n 2, 1), some (.invokevirtual 83, 3), none, none, some (.iconst 0, 1), some (.ireturn, 1)]
def om_c136 : List (Option (Instr × Nat)) := [some (.aload_n 0, 1), some (.iconst 1, 1), some (.iload_n 1, 1), some (.iconst 0, 1), some (.invokevirtual 75, 3), none, none, some (.invokestatic 182, 3), none, none, some (.istore_n 2, 1), some (.aload_n 0, 1), some (.iconst 2, 1), some (.invokevirtual 71, 3), none, none, some (.iconst 4, 1), some (.iload_n 1, 1), some (.isub, 1), some (.istore_n 3, 1), some (.iload_n 3, 1), some (.ifCond .lt 125, 3), none, none, some (.aload_n 0, 1), some (.iconst 1, 1), some (.iconst 3, 1), some (.invokevirtual 98, 3), none, none, some (.iconst 0, 1), some (.istore 4, 2), none, some (.iload 4, 2), none, some (.iload_n 3, 1), some (.if_icmp .ge 14, 3), none, none, some (.aload_n 0, 1), some (.iconst 3, 1), some (.invokevirtual 108, 3), none, none, some (.iinc 4 1, 3), none, none, some (.goto (-14), 3), none, none, some (.aload_n 0, 1), some (.iconst 4, 1), some (.invokevirtual 71, 3), none, none, some (.iconst 0, 1), some (.istore 4, 2), none, some (.iload 4, 2), none, some (.bipush 64, 2), none, some (.if_icmp .ge 49, 3), none, none, some (.aload_n 0, 1), some (.iconst 4, 1), some (.iconst 0, 1), some (.iload 4, 2), none, some (.iload_n 2, 1), some (.aload_n 0, 1), some (.iconst 0, 1), some (.iload_n 1, 1), some (.iload_n 3, 1), some (.iadd, 1), some (.iload 4, 2), none, some (.invokevirtual 75, 3), none, none, some (.imul, 1), some (.invokevirtual 91, 3), none, none, some (.aload_n 0, 1), some (.iconst 2, 1), some (.iload_n 3, 1), some (.iload 4, 2), none, some (.iload_n 2, 1), some (.aload_n 0, 1), some (.iconst 0, 1), some (.iload_n 1, 1), some (.iload_n 3, 1), some (.iadd, 1), some (.iload 4, 2), none, some (.invokevirtual 75, 3), none, none, some (.imul, 1), some (.invokevirtual 91, 3), none, none, some (.iinc 4 1, 3), none, none, some (.goto (-50), 3), none, none, some (.iconst 0, 1), some (.istore 4, 2), none, some (.iload 4, 2), none, some (.bipush 9, 2), none, some (.if_icmp .ge 22, 3), none, none, some (.aload_n 0, 1), some (.iconst 0, 1), some (.iload 4, 2), none, some (.iconst 3, 1), some (.iload 4, 2), none, some (.iconst 4, 1), some (.iconst 0, 1), some (.iconst (-1), 1), some (.invokevirtual 104, 3), none, none, some (.iinc 4 1, 3), none, none, some (.goto (-23), 3), none, none, some (.iinc 3 (-1), 3), none, none, some (.goto (-123), 3), none, none, some (.return_, 1)]
def om_c137 : List (Option (Instr × Nat)) := [some (.iconst 1, 1), some (.istore_n 1, 1), some (.iload_n 1, 1), some (.bipush 30, 2), none, some (.if_icmp .ge 19, 3), none, none, some (.iload_n 1, 1), some (.iload_n 0, 1), some (.imul, 1), some (.bipush 31, 2), none, some (.irem, 1), some (.iconst 1, 1), some (.if_icmp .eq 9, 3), none, none, some (.iinc 1 1, 3), none, none, some (.goto (-19), 3), none, none, some (.iload_n 1, 1), some (.ireturn, 1)]
def om_c138 : List (Option (Instr × Nat)) := [some (.iload_n 1, 1), some (.invokestatic 162, 3), none, none, some (.ifCond .eq 17, 3), none, none, some (.iload_n 2, 1), some (.invokestatic 162, 3), none, none, some (.ifCond .eq 10, 3), none, none, some (.iload_n 3, 1), some (.invokestatic 162, 3), none, none, some (.ifCond .ne 5, 3), none, none, some (.iconst (-1), 1), some (.ireturn, 1), some (.aload_n 0, 1), some (.iload_n 2, 1), some (.invokevirtual 175, 3), none, none, some (.istore 4, 2), none, some (.aload_n 0, 1), some (.iload_n 3, 1), some (.invokevirtual 175, 3), none, none, some (.ifCond .ne 8, 3), none, none, some (.iload 4, 2), none, some (.ifCond .ge 6, 3), none, none, some (.bipush (-5), 2), none, some (.ireturn, 1), some (.aload_n 0, 1), some (.iconst 0, 1), some (.iload_n 2, 1), some (.invokevirtual 141, 3), none, none, some (.aload_n 0, 1), some (.iconst 1, 1), some (.iload_n 3, 1), some (.invokevirtual 141, 3), none, none, some (.aload_n 0, 1), some (.iconst 5, 1), some (.invokevirtual 71, 3), none, none, some (.iconst 0, 1), some (.istore 5, 2), none, some (.iload 5, 2), none, some (.iload 4, 2), none, some (.if_icmp .gt 65, 3), none, none, some (.aload_n 0, 1), some (.getfield 63, 3), none, none, some (.ifCond .eq 14, 3), none, none, some (.aload_n 0, 1), some (.iload 5, 2), none, some (.iload 4, 2), none, some (.invokevirtual 191, 3), none, none, some (.goto 11, 3), none, none, some (.aload_n 0, 1), some (.iload 5, 2), none, some (.iload 4, 2), none, some (.invokevirtual 194, 3), none, none, some (.iconst 0, 1), some (.istore 6, 2), none, some (.iload 6, 2), none, some (.bipush 9, 2), none, some (.if_icmp .ge 23, 3), none, none, some (.aload_n 0, 1), some (.iconst 5, 1), some (.iload 6, 2), none, some (.iconst 3, 1), some (.iload 6, 2), none, some (.iconst 0, 1), some (.iload 5, 2), none, some (.iconst 1, 1), some (.invokevirtual 104, 3), none, none, some (.iinc 6 1, 3), none, none, some (.goto (-24), 3), none, none, some (.iinc 5 1, 3), none, none, some (.goto (-66), 3), none, none, some (.aload_n 0, 1), some (.iconst 5, 1), some (.iload_n 1, 1), some (.invokevirtual 144, 3), none, none, some (.istore 5, 2), none, some (.iload 5, 2), none, some (.ifCond .ge 8, 3), none, none, some (.iload 5, 2), none, some (.goto 8, 3), none, none, some (.aload_n 0, 1), some (.iconst 5, 1), some (.invokevirtual 101, 3), none, none, some (.ireturn, 1)]
def om_c139 : List (Option (Instr × Nat)) := [some (.aload_n 0, 1), some (.iconst 3, 1), some (.invokevirtual 71, 3), none, none, some (.aload_n 0, 1), some (.iconst 3, 1), some (.iconst 0, 1), some (.iconst 0, 1), some (.iconst 1, 1), some (.invokevirtual 91, 3), none, none, some (.iconst 0, 1), some (.istore_n 3, 1), some (.iload_n 3, 1), some (.iload_n 1, 1), some (.if_icmp .ge 103, 3), none, none, some (.aload_n 0, 1), some (.iconst 3, 1), some (.iconst 2, 1), some (.invokevirtual 98, 3), none, none, some (.aload_n 0, 1), some (.iconst 2, 1), some (.invokevirtual 108, 3), none, none, some (.aload_n 0, 1), some (.iconst 3, 1), some (.iconst 4, 1), some (.invokevirtual 98, 3), none, none, some (.aload_n 0, 1), some (.iconst 3, 1), some (.invokevirtual 71, 3), none, none, some (.iconst 0, 1), some (.istore 4, 2), none, some (.iload 4, 2), none, some (.bipush 9, 2), none, some (.if_icmp .ge 22, 3), none, none, some (.aload_n 0, 1), some (.iconst 3, 1), some (.iload 4, 2), none, some (.iconst 2, 1), some (.iload 4, 2), none, some (.iconst 1, 1), some (.iconst 0, 1), some (.iconst 1, 1), some (.invokevirtual 104, 3), none, none, some (.iinc 4 1, 3), none, none, some (.goto (-23), 3), none, none, some (.aload_n 0, 1), some (.iconst 1, 1), some (.iconst 2, 1), some (.invokevirtual 98, 3), none, none, some (.aload_n 0, 1), some (.iconst 2, 1), some (.invokevirtual 172, 3), none, none, some (.iconst 0, 1), some (.istore 4, 2), none, some (.iload 4, 2), none, some (.bipush 9, 2), none, some (.if_icmp .ge 25, 3), none, none, some (.aload_n 0, 1), some (.iconst 3, 1), some (.iload 4, 2), none, some (.iconst 4, 1), some (.iload 4, 2), none, some (.iconst 2, 1), some (.iconst 0, 1), some (.iload_n 3, 1), some (.iconst 1, 1), some (.iadd, 1), some (.ineg, 1), some (.invokevirtual 104, 3), none, none, some (.iinc 4 1, 3), none, none, some (.goto (-26), 3), none, none, some (.iinc 3 1, 3), none, none, some (.goto (-102), 3), none, none, some (.iload_n 1, 1), some (.istore_n 3, 1), some (.iload_n 3, 1), some (.iload_n 2, 1), some (.if_icmp .ge 49, 3), none, none, some (.aload_n 0, 1), some (.iconst 3, 1), some (.iconst 2, 1), some (.invokevirtual 98, 3), none, none, some (.aload_n 0, 1), some (.iconst 3, 1), some (.invokevirtual 71, 3), none, none, some (.iconst 0, 1), some (.istore 4, 2), none, some (.iload 4, 2), none, some (.bipush 9, 2), none, some (.if_icmp .ge 22, 3), none, none, some (.aload_n 0, 1), some (.iconst 3, 1), some (.iload 4, 2), none, some (.iconst 2, 1), some (.iload 4, 2), none, some (.iconst 1, 1), some (.iconst 0, 1), some (.iconst 1, 1), some (.invokevirtual 104, 3), none, none, some (.iinc 4 1, 3), none, none, some (.goto (-23), 3), none, none, some (.iinc 3 1, 3), none, none, some (.goto (-48), 3), none, none, some (.return_, 1)]
def om_c140 : List (Option (Instr × Nat)) := [some (.aload_n 0, 1), some (.iconst 1, 1), some (.iconst 2, 1), some (.invokevirtual 98, 3), none, none, some (.aload_n 0, 1), some (.iconst 3, 1), some (.invokevirtual 71, 3), none, none, some (.aload_n 0, 1), some (.iconst 3, 1), some (.iconst 0, 1), some (.iconst 0, 1), some (.iconst 1, 1), some (.invokevirtual 91, 3), none, none, some (.iconst 0, 1), some (.istore_n 3, 1), some (.iload_n 3, 1), some (.iload_n 2, 1), some (.if_icmp .gt 26, 3), none, none, some (.iload_n 3, 1), some (.iload_n 1, 1), some (.if_icmp .eq 10, 3), none, none, some (.aload_n 0, 1), some (.iconst 3, 1), some (.iconst 2, 1), some (.iconst 4, 1), some (.invokevirtual 188, 3), none, none, some (.aload_n 0, 1), some (.iconst 2, 1), some (.invokevirtual 172, 3), none, none, some (.iinc 3 1, 3), none, none, some (.goto (-25), 3), none, none, some (.aload_n 0, 1), some (.iconst 3, 1), some (.iconst 2, 1), some (.invokevirtual 98, 3), none, none, some (.aload_n 0, 1), some (.iconst 3, 1), some (.invokevirtual 71, 3), none, none, some (.iconst 0, 1), some (.istore_n 3, 1), some (.iload_n 3, 1), some (.bipush 64, 2), none, some (.if_icmp .ge 23, 3), none, none, some (.aload_n 0, 1), some (.iconst 3, 1), some (.iload_n 1, 1), some (.iload_n 3, 1), some (.aload_n 0, 1), some (.iconst 2, 1), some (.iconst 0, 1), some (.iload_n 3, 1), some (.invokevirtual 75, 3), none, none, some (.invokevirtual 91, 3), none, none, some (.iinc 3 1, 3), none, none, some (.goto (-23), 3), none, none, some (.return_, 1)]
def om_c141 : List (Option (Instr × Nat)) := [some (.aload_n 0, 1), some (.iload_n 1, 1), some (.iload_n 3, 1), some (.invokevirtual 98, 3), none, none, some (.aload_n 0, 1), some (.iload_n 1, 1), some (.invokevirtual 71, 3), none, none, some (.aload_n 0, 1), some (.iload_n 1, 1), some (.iconst 0, 1), some (.iload_n 3, 1), some (.iconst 0, 1), some (.iload_n 2, 1), some (.iconst 0, 1), some (.iconst 1, 1), some (.invokevirtual 104, 3), none, none, some (.return_, 1)]
def om_c142 : List (Option (Instr × Nat)) := [some (.iload_n 1, 1), some (.invokestatic 162, 3), none, none, some (.ifCond .eq 20, 3), none, none, some (.iload_n 2, 1), some (.invokestatic 162, 3), none, none, some (.ifCond .eq 13, 3), none, none, some (.iload_n 3, 1), some (.ifCond .lt 9, 3), none, none, some (.iload_n 3, 1), some (.bipush 12, 2), none, some (.if_icmp .le 5, 3), none, none, some (.iconst (-1), 1), some (.ireturn, 1), some (.aload_n 0, 1), some (.iload_n 2, 1), some (.invokevirtual 175, 3), none, none, some (.ifCond .le 6, 3), none, none, some (.bipush (-5), 2), none, some (.ireturn, 1), some (.aload_n 0, 1), some (.iconst 0, 1), some (.iload_n 1, 1), some (.invokevirtual 141, 3), none, none, some (.aload_n 0, 1), some (.iload_n 2, 1), some (.iload_n 3, 1), some (.invokevirtual 213, 3), none, none, some (.ifCond .ne 6, 3), none, none, some (.bipush (-4), 2), none, some (.ireturn, 1), some (.aload_n 0, 1), some (.iconst 0, 1), some (.iconst (-1), 1), some (.invokevirtual 217, 3), none, none, some (.aload_n 0, 1), some (.iconst 0, 1), some (.putfield 197, 3), none, none, some (.aload_n 0, 1), some (.iconst 0, 1), some (.putfield 29, 3), none, none, some (.iconst 0, 1), some (.istore 4, 2), none, some (.iload 4, 2), none, some (.iload_n 3, 1), some (.if_icmp .gt 60, 3), none, none, some (.aload_n 0, 1), some (.iload 4, 2), none, some (.invokevirtual 200, 3), none, none, some (.aload_n 0, 1), some (.invokevirtual 203, 3), none, none, some (.aload_n 0, 1), some (.invokevirtual 206, 3), none, none, some (.istore 5, 2), none, some (.iload 5, 2), none, some (.bipush 25, 2), none, some (.if_icmp .ge 12, 3), none, none, some (.aload_n 0, 1), some (.iload 5, 2), none, some (.invokevirtual 210, 3), none, none, some (.goto 22, 3), none, none, some (.aload_n 0, 1), some (.dup, 1), some (.getfield 29, 3), none, none, some (.iconst 1, 1), some (.iadd, 1), some (.putfield 29, 3), none, none, some (.aload_n 0, 1), some (.aload_n 0, 1), some (.getfield 29, 3), none, none, some (.iconst 1, 1), some (.invokevirtual 217, 3), none, none, some (.iinc 4 1, 3), none, none, some (.goto (-60), 3), none, none, some (.aload_n 0, 1), some (.getfield 29, 3), none, none, some (.ireturn, 1)]
def om_c143 : List (Option (Instr × Nat)) := [some (.aload_n 0, 1), some (.iconst 0, 1), some (.putfield 197, 3), none, none, some (.iconst 0, 1), some (.istore_n 3, 1), some (.iload_n 3, 1), some (.iload_n 2, 1), some (.if_icmp .gt 37, 3), none, none, some (.aload_n 0, 1), some (.iload_n 3, 1), some (.invokevirtual 200, 3), none, none, some (.aload_n 0, 1), some (.invokevirtual 203, 3), none, none, some (.aload_n 0, 1), some (.invokevirtual 206, 3), none, none, some (.istore 4, 2), none, some (.iload 4, 2), none, some (.bipush 25, 2), none, some (.if_icmp .ge 9, 3), none, none, some (.aload_n 0, 1), some (.iload 4, 2), none, some (.invokevirtual 210, 3), none, none, some (.iinc 3 1, 3), none, none, some (.goto (-36), 3), none, none, some (.iconst 0, 1), some (.istore_n 3, 1), some (.iload_n 3, 1), some (.bipush 25, 2), none, some (.if_icmp .ge 36, 3), none, none, some (.aload_n 0, 1), some (.getfield 45, 3), none, none, some (.iload_n 3, 1), some (.iload_n 3, 1), some (.bipush 13, 2), none, some (.if_icmp .ge 17, 3), none, none, some (.aload_n 0, 1), some (.getfield 7, 3), none, none, some (.bipush 65, 2), none, some (.iload_n 1, 1), some (.imul, 1), some (.iload_n 3, 1), some (.iadd, 1), some (.iaload, 1), some (.goto 4, 3), none, none, some (.iconst 0, 1), some (.iastore, 1), some (.iinc 3 1, 3), none, none, some (.goto (-36), 3), none, none, some (.iconst 0, 1), some (.istore_n 3, 1), some (.iload_n 3, 1), some (.bipush 13, 2), none, some (.if_icmp .ge 16, 3), none, none, some (.aload_n 0, 1), some (.getfield 48, 3), none, none, some (.iload_n 3, 1), some (.iconst 0, 1), some (.iastore, 1), some (.iinc 3 1, 3), none, none, some (.goto (-16), 3), none, none, some (.aload_n 0, 1), some (.invokevirtual 203, 3), none, none, some (.aload_n 0, 1), some (.invokevirtual 206, 3), none, none, some (.bipush 25, 2), none, some (.if_icmp .ne 7, 3), none, none, some (.iconst 1, 1), some (.goto 4, 3), none, none, some (.iconst 0, 1), some (.ireturn, 1)]
def om_c144 : List (Option (Instr × Nat)) := [some (.aload_n 0, 1), some (.iconst 1, 1), some (.invokevirtual 71, 3), none, none, some (.aload_n 0, 1), some (.iconst 1, 1), some (.iconst 0, 1), some (.iload_n 1, 1), some (.iconst 1, 1), some (.invokevirtual 91, 3), none, none, some (.aload_n 0, 1), some (.iconst 0, 1), some (.iconst 1, 1), some (.iconst 2, 1), some (.invokevirtual 178, 3), none, none, some (.iconst 0, 1), some (.istore_n 2, 1), some (.iload_n 2, 1), some (.bipush 25, 2), none, some (.if_icmp .ge 22, 3), none, none, some (.aload_n 0, 1), some (.getfield 45, 3), none, none, some (.iload_n 2, 1), some (.aload_n 0, 1), some (.iconst 2, 1), some (.iconst 0, 1), some (.iload_n 2, 1), some (.invokevirtual 75, 3), none, none, some (.iastore, 1), some (.iinc 2 1, 3), none, none, some (.goto (-22), 3), none, none, some (.iconst 0, 1), some (.istore_n 2, 1), some (.iload_n 2, 1), some (.bipush 13, 2), none, some (.if_icmp .ge 25, 3), none, none, some (.aload_n 0, 1), some (.getfield 48, 3), none, none, some (.iload_n 2, 1), some (.iload_n 2, 1), some (.iload_n 1, 1), some (.if_icmp .ne 7, 3), none, none, some (.iconst 1, 1), some (.goto 4, 3), none, none, some (.iconst 0, 1), some (.iastore, 1), some (.iinc 2 1, 3), none, none, some (.goto (-25), 3), none, none, some (.return_, 1)]
def om_c145 : List (Option (Instr × Nat)) := [some (.iconst 0, 1), some (.istore_n 1, 1), some (.iload_n 1, 1), some (.aload_n 0, 1), some (.getfield 197, 3), none, none, some (.if_icmp .ge 107, 3), none, none, some (.aload_n 0, 1), some (.getfield 45, 3), none, none, some (.aload_n 0, 1), some (.getfield 42, 3), none, none, some (.iload_n 1, 1), some (.iaload, 1), some (.iaload, 1), some (.istore_n 2, 1), some (.iconst 0, 1), some (.istore_n 3, 1), some (.iload_n 3, 1), some (.bipush 25, 2), none, some (.if_icmp .ge 38, 3), none, none, some (.aload_n 0, 1), some (.getfield 45, 3), none, none, some (.iload_n 3, 1), some (.aload_n 0, 1), some (.getfield 45, 3), none, none, some (.iload_n 3, 1), some (.iaload, 1), some (.iload_n 2, 1), some (.aload_n 0, 1), some (.getfield 36, 3), none, none, some (.bipush 25, 2), none, some (.iload_n 1, 1), some (.imul, 1), some (.iload_n 3, 1), some (.iadd, 1), some (.iaload, 1), some (.imul, 1), some (.isub, 1), some (.invokestatic 67, 3), none, none, some (.iastore, 1), some (.iinc 3 1, 3), none, none, some (.goto (-38), 3), none, none, some (.iconst 0, 1), some (.istore_n 3, 1), some (.iload_n 3, 1), some (.bipush 13, 2), none, some (.if_icmp .ge 38, 3), none, none, some (.aload_n 0, 1), some (.getfield 48, 3), none, none, some (.iload_n 3, 1), some (.aload_n 0, 1), some (.getfield 48, 3), none, none, some (.iload_n 3, 1), some (.iaload, 1), some (.iload_n 2, 1), some (.aload_n 0, 1), some (.getfield 39, 3), none, none, some (.bipush 13, 2), none, some (.iload_n 1, 1), some (.imul, 1), some (.iload_n 3, 1), some (.iadd, 1), some (.iaload, 1), some (.imul, 1), some (.isub, 1), some (.invokestatic 67, 3), none, none, some (.iastore, 1), some (.iinc 3 1, 3), none, none, some (.goto (-38), 3), none, none, some (.iinc 1 1, 3), none, none, some (.goto (-109), 3), none, none, some (.return_, 1)]
def om_c146 : List (Option (Instr × Nat)) := [some (.iconst 0, 1), some (.istore_n 1, 1), some (.iload_n 1, 1), some (.bipush 25, 2), none, some (.if_icmp .ge 18, 3), none, none, some (.aload_n 0, 1), some (.getfield 45, 3), none, none, some (.iload_n 1, 1), some (.iaload, 1), some (.ifCond .ne 9, 3), none, none, some (.iinc 1 1, 3), none, none, some (.goto (-18), 3), none, none, some (.iload_n 1, 1), some (.ireturn, 1)]
def om_c147 : List (Option (Instr × Nat)) := [some (.aload_n 0, 1), some (.getfield 45, 3), none, none, some (.iload_n 1, 1), some (.iaload, 1), some (.invokestatic 182, 3), none, none, some (.istore_n 2, 1), some (.iconst 0, 1), some (.istore_n 3, 1), some (.iload_n 3, 1), some (.bipush 25, 2), none, some (.if_icmp .ge 34, 3), none, none, some (.aload_n 0, 1), some (.getfield 36, 3), none, none, some (.bipush 25, 2), none, some (.aload_n 0, 1), some (.getfield 197, 3), none, none, some (.imul, 1), some (.iload_n 3, 1), some (.iadd, 1), some (.aload_n 0, 1), some (.getfield 45, 3), none, none, some (.iload_n 3, 1), some (.iaload, 1), some (.iload_n 2, 1), some (.imul, 1), some (.invokestatic 67, 3), none, none, some (.iastore, 1), some (.iinc 3 1, 3), none, none, some (.goto (-34), 3), none, none, some (.iconst 0, 1), some (.istore_n 3, 1), some (.iload_n 3, 1), some (.bipush 13, 2), none, some (.if_icmp .ge 34, 3), none, none, some (.aload_n 0, 1), some (.getfield 39, 3), none, none, some (.bipush 13, 2), none, some (.aload_n 0, 1), some (.getfield 197, 3), none, none, some (.imul, 1), some (.iload_n 3, 1), some (.iadd, 1), some (.aload_n 0, 1), some (.getfield 48, 3), none, none, some (.iload_n 3, 1), some (.iaload, 1), some (.iload_n 2, 1), some (.imul, 1), some (.invokestatic 67, 3), none, none, some (.iastore, 1), some (.iinc 3 1, 3), none, none, some (.goto (-34), 3), none, none, some (.aload_n 0, 1), some (.getfield 42, 3), none, none, some (.aload_n 0, 1), some (.getfield 197, 3), none, none, some (.iload_n 1, 1), some (.iastore, 1), some (.aload_n 0, 1), some (.dup, 1), some (.getfield 197, 3), none, none, some (.iconst 1, 1), some (.iadd, 1), some (.putfield 197, 3), none, none, some (.return_, 1)]
def om_c148 : List (Option (Instr × Nat)) := [some (.iconst 0, 1), some (.istore_n 3, 1), some (.iload_n 3, 1), some (.bipush 13, 2), none, some (.if_icmp .ge 31, 3), none, none, some (.aload_n 0, 1), some (.getfield 33, 3), none, none, some (.bipush 13, 2), none, some (.iload_n 1, 1), some (.imul, 1), some (.iload_n 3, 1), some (.iadd, 1), some (.iload_n 2, 1), some (.aload_n 0, 1), some (.getfield 48, 3), none, none, some (.iload_n 3, 1), some (.iaload, 1), some (.imul, 1), some (.invokestatic 67, 3), none, none, some (.iastore, 1), some (.iinc 3 1, 3), none, none, some (.goto (-31), 3), none, none, some (.return_, 1)]
def om_c149 : List (Option (Instr × Nat)) := [some (.iload_n 1, 1), some (.invokestatic 162, 3), none, none, some (.ifCond .eq 15, 3), none, none, some (.iload_n 2, 1), some (.ifCond .lt 11, 3), none, none, some (.iload_n 2, 1), some (.aload_n 0, 1), some (.getfield 29, 3), none, none, some (.if_icmp .le 5, 3), none, none, some (.iconst (-1), 1), some (.ireturn, 1), some (.iconst 0, 1), some (.istore_n 3, 1), some (.aload_n 0, 1), some (.iload_n 1, 1), some (.invokevirtual 129, 3), none, none, some (.iconst 0, 1), some (.istore 4, 2), none, some (.iload 4, 2), none, some (.bipush 13, 2), none, some (.if_icmp .ge 51, 3), none, none, some (.aload_n 0, 1), some (.getfield 33, 3), none, none, some (.bipush 13, 2), none, some (.iload_n 2, 1), some (.imul, 1), some (.iload 4, 2), none, some (.iadd, 1), some (.iaload, 1), some (.istore 5, 2), none, some (.aload_n 0, 1), some (.getfield 7, 3), none, none, some (.bipush 65, 2), none, some (.iload_n 1, 1), some (.imul, 1), some (.iload 4, 2), none, some (.iadd, 1), some (.iload 5, 2), none, some (.iastore, 1), some (.iload 5, 2), none, some (.ifCond .eq 10, 3), none, none, some (.iload 4, 2), none, some (.iconst 1, 1), some (.iadd, 1), some (.goto 4, 3), none, none, some (.iload_n 3, 1), some (.istore_n 3, 1), some (.iinc 4 1, 3), none, none, some (.goto (-52), 3), none, none, some (.iload_n 3, 1), some (.ireturn, 1)]
def om_c150 : List (Option (Instr × Nat)) := [some (.iload_n 1, 1), some (.invokestatic 162, 3), none, none, some (.ifCond .ne 5, 3), none, none, some (.iconst (-1), 1), some (.ireturn, 1), some (.aload_n 0, 1), some (.iload_n 1, 1), some (.invokevirtual 175, 3), none, none, some (.ifCond .ge 6, 3), none, none, some (.bipush (-5), 2), none, some (.ireturn, 1), some (.iconst 0, 1), some (.istore_n 2, 1), some (.iconst 0, 1), some (.istore_n 3, 1), some (.iload_n 3, 1), some (.sipush 961, 3), none, none, some (.if_icmp .ge 44, 3), none, none, some (.aload_n 0, 1), some (.getfield 51, 3), none, none, some (.iload_n 3, 1), some (.aload_n 0, 1), some (.iload_n 3, 1), some (.bipush 31, 2), none, some (.idiv, 1), some (.iload_n 3, 1), some (.bipush 31, 2), none, some (.irem, 1), some (.invokevirtual 223, 3), none, none, some (.bastore, 1), some (.aload_n 0, 1), some (.getfield 51, 3), none, none, some (.iload_n 3, 1), some (.baload, 1), some (.ifCond .eq 9, 3), none, none, some (.iload_n 2, 1), some (.iconst 1, 1), some (.iadd, 1), some (.goto 4, 3), none, none, some (.iload_n 2, 1), some (.istore_n 2, 1), some (.iinc 3 1, 3), none, none, some (.goto (-45), 3), none, none, some (.iload_n 2, 1), some (.ireturn, 1)]
def om_c151 : List (Option (Instr × Nat)) := [some (.iconst 0, 1), some (.istore_n 3, 1), some (.iload_n 3, 1), some (.bipush 24, 2), none, some (.if_icmp .ge 16, 3), none, none, some (.aload_n 0, 1), some (.getfield 54, 3), none, none, some (.iload_n 3, 1), some (.iconst 0, 1), some (.iastore, 1), some (.iinc 3 1, 3), none, none, some (.goto (-16), 3), none, none, some (.iconst 0, 1), some (.istore_n 3, 1), some (.iload_n 3, 1), some (.bipush 9, 2), none, some (.if_icmp .ge 24, 3), none, none, some (.aload_n 0, 1), some (.getfield 57, 3), none, none, some (.iload_n 3, 1), some (.iload_n 3, 1), some (.ifCond .ne 7, 3), none, none, some (.iconst 1, 1), some (.goto 4, 3), none, none, some (.iconst 0, 1), some (.iastore, 1), some (.iinc 3 1, 3), none, none, some (.goto (-24), 3), none, none, some (.iconst 0, 1), some (.istore_n 3, 1), some (.iload_n 3, 1), some (.iconst 5, 1), some (.if_icmp .ge 96, 3), none, none, some (.iconst 0, 1), some (.istore 4, 2), none, some (.iload 4, 2), none, some (.bipush 13, 2), none, some (.if_icmp .ge 74, 3), none, none, some (.aload_n 0, 1), some (.iconst 0, 1), some (.iload_n 3, 1), some (.iload 4, 2), none, some (.invokevirtual 75, 3), none, none, some (.istore 5, 2), none, some (.iconst 0, 1), some (.istore 6, 2), none, some (.iload 6, 2), none, some (.bipush 8, 2), none, some (.if_icmp .ge 48, 3), none, none, some (.iload 5, 2), none, some (.ifCond .eq 43, 3), none, none, some (.aload_n 0, 1), some (.getfield 54, 3), none, none, some (.iload 4, 2), none, some (.iload 6, 2), none, some (.iadd, 1), some (.aload_n 0, 1), some (.getfield 54, 3), none, none, some (.iload 4, 2), none, some (.iload 6, 2), none, some (.iadd, 1), some (.iaload, 1), some (.iload 5, 2), none, some (.aload_n 0, 1), some (.getfield 57, 3), none, none, some (.iload 6, 2), none, some (.iaload, 1), some (.imul, 1), some (.iadd, 1), some (.invokestatic 67, 3), none, none, some (.iastore, 1), some (.iinc 6 1, 3), none, none, some (.goto (-49), 3), none, none, some (.iinc 4 1, 3), none, none, some (.goto (-75), 3), none, none, some (.aload_n 0, 1), some (.iload_n 1, 1), some (.iload_n 2, 1), some (.invokevirtual 220, 3), none, none, some (.iinc 3 1, 3), none, none, some (.goto (-95), 3), none, none, some (.iconst 0, 1), some (.istore_n 3, 1), some (.iload_n 3, 1), some (.bipush 24, 2), none, some (.if_icmp .ge 18, 3), none, none, some (.aload_n 0, 1), some (.getfield 54, 3), none, none, some (.iload_n 3, 1), some (.iaload, 1), some (.ifCond .ne 9, 3), none, none, some (.iinc 3 1, 3), none, none, some (.goto (-18), 3), none, none, some (.iload_n 3, 1), some (.bipush 24, 2), none, some (.if_icmp .ne 7, 3), none, none, some (.iconst 1, 1), some (.goto 4, 3), none, none, some (.iconst 0, 1), some (.ireturn, 1)]
def om_c152 : List (Option (Instr × Nat)) := [some (.iconst 0, 1), some (.istore_n 3, 1), some (.iload_n 3, 1), some (.bipush 8, 2), none, some (.if_icmp .ge 38, 3), none, none, some (.aload_n 0, 1), some (.getfield 60, 3), none, none, some (.iload_n 3, 1), some (.aload_n 0, 1), some (.getfield 63, 3), none, none, some (.ifCond .eq 18, 3), none, none, some (.iload_n 3, 1), some (.iconst 1, 1), some (.iadd, 1), some (.aload_n 0, 1), some (.getfield 57, 3), none, none, some (.iload_n 3, 1), some (.iconst 1, 1), some (.iadd, 1), some (.iaload, 1), some (.imul, 1), some (.goto 4, 3), none, none, some (.iconst 0, 1), some (.iastore, 1), some (.iinc 3 1, 3), none, none, some (.goto (-38), 3), none, none, some (.iconst 0, 1), some (.istore_n 3, 1), some (.iload_n 3, 1), some (.bipush 7, 2), none, some (.if_icmp .ge 59, 3), none, none, some (.aload_n 0, 1), some (.getfield 63, 3), none, none, some (.ifCond .ne 52, 3), none, none, some (.bipush 6, 2), none, some (.istore 4, 2), none, some (.iload 4, 2), none, some (.iload_n 3, 1), some (.if_icmp .lt 36, 3), none, none, some (.aload_n 0, 1), some (.getfield 57, 3), none, none, some (.iload 4, 2), none, some (.aload_n 0, 1), some (.getfield 57, 3), none, none, some (.iload 4, 2), none, some (.iaload, 1), some (.aload_n 0, 1), some (.getfield 57, 3), none, none, some (.iload 4, 2), none, some (.iconst 1, 1), some (.iadd, 1), some (.iaload, 1), some (.iadd, 1), some (.invokestatic 67, 3), none, none, some (.iastore, 1), some (.iinc 4 (-1), 3), none, none, some (.goto (-36), 3), none, none, some (.iinc 3 1, 3), none, none, some (.goto (-59), 3), none, none, some (.bipush 7, 2), none, some (.istore_n 3, 1), some (.iload_n 3, 1), some (.ifCond .lt 56, 3), none, none, some (.iload_n 3, 1), some (.ifCond .le 14, 3), none, none, some (.aload_n 0, 1), some (.getfield 57, 3), none, none, some (.iload_n 3, 1), some (.iconst 1, 1), some (.isub, 1), some (.iaload, 1), some (.goto 4, 3), none, none, some (.iconst 0, 1), some (.istore 4, 2), none, some (.aload_n 0, 1), some (.getfield 57, 3), none, none, some (.iload_n 3, 1), some (.aload_n 0, 1), some (.getfield 60, 3), none, none, some (.iload_n 3, 1), some (.iaload, 1), some (.iload_n 2, 1), some (.aload_n 0, 1), some (.getfield 57, 3), none, none, some (.iload_n 3, 1), some (.iaload, 1), some (.imul, 1), some (.iadd, 1), some (.iload_n 1, 1), some (.iload 4, 2), none, some (.imul, 1), some (.iadd, 1), some (.invokestatic 67, 3), none, none, some (.iastore, 1), some (.iinc 3 (-1), 3), none, none, some (.goto (-54), 3), none, none, some (.return_, 1)]
def om_c153 : List (Option (Instr × Nat)) := [some (.iload_n 1, 1), some (.istore_n 2, 1), some (.iconst 0, 1), some (.istore_n 3, 1), some (.iload_n 3, 1), some (.sipush 961, 3), none, none, some (.if_icmp .ge 31, 3), none, none, some (.iload_n 1, 1), some (.ifCond .lt 27, 3), none, none, some (.aload_n 0, 1), some (.getfield 51, 3), none, none, some (.iload_n 3, 1), some (.baload, 1), some (.ifCond .eq 12, 3), none, none, some (.iload_n 2, 1), some (.ifCond .ne 5, 3), none, none, some (.iload_n 3, 1), some (.ireturn, 1), some (.iinc 2 (-1), 3), none, none, some (.iinc 3 1, 3), none, none, some (.goto (-32), 3), none, none, some (.iconst (-1), 1), some (.ireturn, 1)]
def om_c154 : List (Option (Instr × Nat)) := [some (.iload_n 1, 1), some (.invokestatic 162, 3), none, none, some (.ifCond .eq 14, 3), none, none, some (.iload_n 2, 1), some (.invokestatic 162, 3), none, none, some (.ifCond .eq 7, 3), none, none, some (.iconst 1, 1), some (.goto 4, 3), none, none, some (.iconst 0, 1), some (.istore_n 3, 1), some (.iconst 0, 1), some (.istore 4, 2), none, some (.iload 4, 2), none, some (.bipush 65, 2), none, some (.if_icmp .ge 46, 3), none, none, some (.iload_n 3, 1), some (.ifCond .eq 42, 3), none, none, some (.aload_n 0, 1), some (.getfield 7, 3), none, none, some (.bipush 65, 2), none, some (.iload_n 1, 1), some (.imul, 1), some (.iload 4, 2), none, some (.iadd, 1), some (.iaload, 1), some (.aload_n 0, 1), some (.getfield 7, 3), none, none, some (.bipush 65, 2), none, some (.iload_n 2, 1), some (.imul, 1), some (.iload 4, 2), none, some (.iadd, 1), some (.iaload, 1), some (.if_icmp .ne 7, 3), none, none, some (.iconst 1, 1), some (.goto 4, 3), none, none, some (.iconst 0, 1), some (.istore_n 3, 1), some (.iinc 4 1, 3), none, none, some (.goto (-47), 3), none, none, some (.iload_n 3, 1), some (.ireturn, 1)]
def om_c155 : List (Option (Instr × Nat)) := [some (.iload_n 1, 1), some (.invokestatic 162, 3), none, none, some (.ifCond .ne 5, 3), none, none, some (.iconst (-1), 1), some (.ireturn, 1), some (.aload_n 0, 1), some (.iconst 0, 1), some (.putfield 226, 3), none, none, some (.iconst 4, 1), some (.istore_n 2, 1), some (.iload_n 2, 1), some (.ifCond .lt 90, 3), none, none, some (.bipush 12, 2), none, some (.istore_n 3, 1), some (.iload_n 3, 1), some (.ifCond .lt 77, 3), none, none, some (.aload_n 0, 1), some (.getfield 7, 3), none, none, some (.bipush 65, 2), none, some (.iload_n 1, 1), some (.imul, 1), some (.bipush 13, 2), none, some (.iload_n 2, 1), some (.imul, 1), some (.iadd, 1), some (.iload_n 3, 1), some (.iadd, 1), some (.iaload, 1), some (.istore 4, 2), none, some (.iload 4, 2), none, some (.ifCond .eq 48, 3), none, none, some (.aload_n 0, 1), some (.getfield 226, 3), none, none, some (.ifCond .le 9, 3), none, none, some (.aload_n 0, 1), some (.bipush 43, 2), none, some (.invokevirtual 229, 3), none, none, some (.iload 4, 2), none, some (.iconst 1, 1), some (.if_icmp .ne 9, 3), none, none, some (.iload_n 3, 1), some (.iload_n 2, 1), some (.iadd, 1), some (.ifCond .ne 9, 3), none, none, some (.aload_n 0, 1), some (.iload 4, 2), none, some (.invokevirtual 232, 3), none, none, some (.aload_n 0, 1), some (.bipush 120, 2), none, some (.iload_n 3, 1), some (.invokevirtual 235, 3), none, none, some (.aload_n 0, 1), some (.bipush 84, 2), none, some (.iload_n 2, 1), some (.invokevirtual 235, 3), none, none, some (.iinc 3 (-1), 3), none, none, some (.goto (-75), 3), none, none, some (.iinc 2 (-1), 3), none, none, some (.goto (-88), 3), none, none, some (.aload_n 0, 1), some (.getfield 226, 3), none, none, some (.ifCond .ne 9, 3), none, none, some (.aload_n 0, 1), some (.bipush 48, 2), none, some (.invokevirtual 229, 3), none, none, some (.aload_n 0, 1), some (.getfield 226, 3), none, none, some (.ireturn, 1)]
def om_c156 : List (Option (Instr × Nat)) := [some (.aload_n 0, 1), some (.getfield 26, 3), none, none, some (.aload_n 0, 1), some (.getfield 226, 3), none, none, some (.iload_n 1, 1), some (.iastore, 1), some (.aload_n 0, 1), some (.dup, 1), some (.getfield 226, 3), none, none, some (.iconst 1, 1), some (.iadd, 1), some (.putfield 226, 3), none, none, some (.return_, 1)]
def om_c157 : List (Option (Instr × Nat)) := [some (.iload_n 1, 1), some (.bipush 9, 2), none, some (.if_icmp .le 14, 3), none, none, some (.aload_n 0, 1), some (.bipush 48, 2), none, some (.iload_n 1, 1), some (.bipush 10, 2), none, some (.idiv, 1), some (.iadd, 1), some (.invokevirtual 229, 3), none, none, some (.aload_n 0, 1), some (.bipush 48, 2), none, some (.iload_n 1, 1), some (.bipush 10, 2), none, some (.irem, 1), some (.iadd, 1), some (.invokevirtual 229, 3), none, none, some (.return_, 1)]
def om_c158 : List (Option (Instr × Nat)) := [some (.iload_n 2, 1), some (.ifCond .le 8, 3), none, none, some (.aload_n 0, 1), some (.iload_n 1, 1), some (.invokevirtual 229, 3), none, none, some (.iload_n 2, 1), some (.iconst 1, 1), some (.if_icmp .le 14, 3), none, none, some (.aload_n 0, 1), some (.bipush 94, 2), none, some (.invokevirtual 229, 3), none, none, some (.aload_n 0, 1), some (.iload_n 2, 1), some (.invokevirtual 232, 3), none, none, some (.return_, 1)]
def om_c159 : List (Option (Instr × Nat)) := [some (.iload_n 1, 1), some (.ifCond .lt 20, 3), none, none, some (.iload_n 1, 1), some (.aload_n 0, 1), some (.getfield 226, 3), none, none, some (.if_icmp .ge 12, 3), none, none, some (.aload_n 0, 1), some (.getfield 26, 3), none, none, some (.iload_n 1, 1), some (.iaload, 1), some (.goto 4, 3), none, none, some (.iconst (-1), 1), some (.ireturn, 1)]
def om_cs : List (List (Option (Instr × Nat))) := [om_c0, om_c1, om_c2, om_c3, om_c4, om_c5, om_c6, om_c7, om_c8, om_c9, om_c10, om_c11, om_c12, om_c13, om_c14, om_c15, om_c16, om_c17, om_c18, om_c19, om_c20, om_c21, om_c22, om_c23, om_c24, om_c25, om_c26, om_c27, om_c28, om_c29, om_c30, om_c31, om_c32, om_c33, om_c34, om_c35, om_c36, om_c37, om_c38, om_c39, om_c40, om_c41, om_c42, om_c43, om_c44, om_c45, om_c46, om_c47, om_c48, om_c49, om_c50, om_c51, om_c52, om_c53, om_c54, om_c55, om_c56, om_c57, om_c58, om_c59, om_c60, om_c61, om_c62, om_c63, om_c64, om_c65, om_c66, om_c67, om_c68, om_c69, om_c70, om_c71, om_c72, om_c73, om_c74, om_c75, om_c76, om_c77, om_c78, om_c79, om_c80, om_c81, om_c82, om_c83, om_c84, om_c85, om_c86, om_c87, om_c88, om_c89, om_c90, om_c91, om_c92, om_c93, om_c94, om_c95, om_c96, om_c97, om_c98, om_c99, om_c100, om_c101, om_c102, om_c103, om_c104, om_c105, om_c106, om_c107, om_c108, om_c109, om_c110, om_c111, om_c112, om_c113, om_c114, om_c115, om_c116, om_c117, om_c118, om_c119, om_c120, om_c121, om_c122, om_c123, om_c124, om_c125, om_c126, om_c127, om_c128, om_c129, om_c130, om_c131, om_c132, om_c133, om_c134, om_c135, om_c136, om_c137, om_c138, om_c139, om_c140, om_c141, om_c142, om_c143, om_c144, om_c145, om_c146, om_c147, om_c148, om_c149, om_c150, om_c151, om_c152, om_c153, om_c154, om_c155, om_c156, om_c157, om_c158, om_c159]
end
section
/-! the code lists are what the bytes decode to -/
def om_chk (bs : ByteArray) : List (Option (Instr × Nat)) → Nat → Bool
  | [], _ => true
  | none :: t, i => om_chk bs t (i + 1)
  | some x :: t, i => (match decode bs i with
    | .ok y => decide (y = x)
    | _ => false) && om_chk bs t (i + 1)
theorem om_chk_at {bs : ByteArray} : ∀ {l : List (Option (Instr × Nat))} {i : Nat}, om_chk bs l i = true → ∀ {k : Nat} {x : Instr × Nat}, l[k]? = some (some x) → decode bs (i + k) = .ok x
  | [], _, _, _, _, h => by simp at h
  | none :: t, i, h, k, x, hk => by
    cases k with
    | zero => simp at hk
    | succ k =>
      have h2 := om_chk_at (l := t) (i := i + 1) h (k := k) (x := x) (by simpa using hk)
      rw [← h2]; congr 1; omega
  | some y :: t, i, h, k, x, hk => by
    simp only [om_chk, Bool.and_eq_true] at h
    cases k with
    | zero =>
      have hyx : y = x := by simpa using hk
      subst hyx
      have h1 := h.1
      cases hd : decode bs i with
      | ok z => rw [hd] at h1; simp only [decide_eq_true_eq] at h1; subst h1; first | exact hd | rfl
      | error e => rw [hd] at h1; cases h1
    | succ k =>
      have h2 := om_chk_at (l := t) (i := i + 1) h.2 (k := k) (x := x) (by simpa using hk)
      rw [← h2]; congr 1; omega

theorem om_k0 : om_chk code om_c0 0 = true := by decide +kernel
theorem om_k1 : om_chk prog_1_method_1_code om_c1 0 = true := by decide +kernel
theorem om_k2 : om_chk prog_8_method_1_code om_c2 0 = true := by decide +kernel
theorem om_k3 : om_chk prog_7_method_1_code om_c3 0 = true := by decide +kernel
theorem om_k4 : om_chk prog_2_method_1_code om_c4 0 = true := by decide +kernel
theorem om_k5 : om_chk prog_9_method_1_code om_c5 0 = true := by decide +kernel
theorem om_k6 : om_chk prog_3_method_1_code om_c6 0 = true := by decide +kernel
theorem om_k7 : om_chk prog_5_method_1_code om_c7 0 = true := by decide +kernel
theorem om_k8 : om_chk prog_4_method_1_code om_c8 0 = true := by decide +kernel
theorem om_k9 : om_chk prog_6_method_1_code om_c9 0 = true := by decide +kernel
theorem om_k10 : om_chk prog_1_method_2_code om_c10 0 = true := by decide +kernel
theorem om_k11 : om_chk prog_9_method_2_code om_c11 0 = true := by decide +kernel
theorem om_k12 : om_chk prog_1_method_3_code om_c12 0 = true := by decide +kernel
theorem om_k13 : om_chk prog_9_method_3_code om_c13 0 = true := by decide +kernel
theorem om_k14 : om_chk prog_1_method_4_code om_c14 0 = true := by decide +kernel
theorem om_k15 : om_chk prog_1_method_20_code om_c15 0 = true := by decide +kernel
theorem om_k16 : om_chk prog_1_method_22_code om_c16 0 = true := by decide +kernel
theorem om_k17 : om_chk prog_9_method_4_code om_c17 0 = true := by decide +kernel
theorem om_k18 : om_chk prog_9_method_11_code om_c18 0 = true := by decide +kernel
theorem om_k19 : om_chk prog_9_method_6_code om_c19 0 = true := by decide +kernel
theorem om_k20 : om_chk prog_9_method_8_code om_c20 0 = true := by decide +kernel
theorem om_k21 : om_chk prog_9_method_10_code om_c21 0 = true := by decide +kernel
theorem om_k22 : om_chk prog_7_method_4_code om_c22 0 = true := by decide +kernel
theorem om_k23 : om_chk prog_14_method_103_code om_c23 0 = true := by decide +kernel
theorem om_k24 : om_chk prog_9_method_12_code om_c24 0 = true := by decide +kernel
theorem om_k25 : om_chk prog_7_method_5_code om_c25 0 = true := by decide +kernel
theorem om_k26 : om_chk prog_7_method_3_code om_c26 0 = true := by decide +kernel
theorem om_k27 : om_chk prog_9_method_13_code om_c27 0 = true := by decide +kernel
theorem om_k28 : om_chk prog_9_method_14_code om_c28 0 = true := by decide +kernel
theorem om_k29 : om_chk prog_9_method_7_code om_c29 0 = true := by decide +kernel
theorem om_k30 : om_chk prog_9_method_15_code om_c30 0 = true := by decide +kernel
theorem om_k31 : om_chk prog_9_method_16_code om_c31 0 = true := by decide +kernel
theorem om_k32 : om_chk prog_7_method_6_code om_c32 0 = true := by decide +kernel
theorem om_k33 : om_chk prog_12_method_69_code om_c33 0 = true := by decide +kernel
theorem om_k34 : om_chk prog_2_method_4_code om_c34 0 = true := by decide +kernel
theorem om_k35 : om_chk prog_7_method_15_code om_c35 0 = true := by decide +kernel
theorem om_k36 : om_chk prog_7_method_2_code om_c36 0 = true := by decide +kernel
theorem om_k37 : om_chk prog_7_method_9_code om_c37 0 = true := by decide +kernel
theorem om_k38 : om_chk prog_7_method_10_code om_c38 0 = true := by decide +kernel
theorem om_k39 : om_chk prog_7_method_12_code om_c39 0 = true := by decide +kernel
theorem om_k40 : om_chk prog_7_method_13_code om_c40 0 = true := by decide +kernel
theorem om_k41 : om_chk prog_7_method_16_code om_c41 0 = true := by decide +kernel
theorem om_k42 : om_chk prog_7_method_14_code om_c42 0 = true := by decide +kernel
theorem om_k43 : om_chk prog_9_method_9_code om_c43 0 = true := by decide +kernel
theorem om_k44 : om_chk prog_7_method_8_code om_c44 0 = true := by decide +kernel
theorem om_k45 : om_chk prog_9_method_5_code om_c45 0 = true := by decide +kernel
theorem om_k46 : om_chk prog_1_method_5_code om_c46 0 = true := by decide +kernel
theorem om_k47 : om_chk prog_1_method_6_code om_c47 0 = true := by decide +kernel
theorem om_k48 : om_chk prog_1_method_7_code om_c48 0 = true := by decide +kernel
theorem om_k49 : om_chk prog_1_method_21_code om_c49 0 = true := by decide +kernel
theorem om_k50 : om_chk prog_2_method_3_code om_c50 0 = true := by decide +kernel
theorem om_k51 : om_chk prog_1_method_19_code om_c51 0 = true := by decide +kernel
theorem om_k52 : om_chk prog_1_method_8_code om_c52 0 = true := by decide +kernel
theorem om_k53 : om_chk prog_1_method_9_code om_c53 0 = true := by decide +kernel
theorem om_k54 : om_chk prog_2_method_5_code om_c54 0 = true := by decide +kernel
theorem om_k55 : om_chk prog_7_method_7_code om_c55 0 = true := by decide +kernel
theorem om_k56 : om_chk prog_7_method_11_code om_c56 0 = true := by decide +kernel
theorem om_k57 : om_chk prog_1_method_10_code om_c57 0 = true := by decide +kernel
theorem om_k58 : om_chk prog_3_method_2_code om_c58 0 = true := by decide +kernel
theorem om_k59 : om_chk prog_3_method_3_code om_c59 0 = true := by decide +kernel
theorem om_k60 : om_chk prog_2_method_2_code om_c60 0 = true := by decide +kernel
theorem om_k61 : om_chk prog_3_method_4_code om_c61 0 = true := by decide +kernel
theorem om_k62 : om_chk prog_1_method_11_code om_c62 0 = true := by decide +kernel
theorem om_k63 : om_chk prog_5_method_2_code om_c63 0 = true := by decide +kernel
theorem om_k64 : om_chk prog_5_method_5_code om_c64 0 = true := by decide +kernel
theorem om_k65 : om_chk prog_5_method_6_code om_c65 0 = true := by decide +kernel
theorem om_k66 : om_chk prog_5_method_3_code om_c66 0 = true := by decide +kernel
theorem om_k67 : om_chk prog_5_method_4_code om_c67 0 = true := by decide +kernel
theorem om_k68 : om_chk prog_1_method_12_code om_c68 0 = true := by decide +kernel
theorem om_k69 : om_chk prog_4_method_2_code om_c69 0 = true := by decide +kernel
theorem om_k70 : om_chk prog_4_method_3_code om_c70 0 = true := by decide +kernel
theorem om_k71 : om_chk prog_4_method_4_code om_c71 0 = true := by decide +kernel
theorem om_k72 : om_chk prog_4_method_5_code om_c72 0 = true := by decide +kernel
theorem om_k73 : om_chk prog_4_method_6_code om_c73 0 = true := by decide +kernel
theorem om_k74 : om_chk prog_4_method_7_code om_c74 0 = true := by decide +kernel
theorem om_k75 : om_chk prog_4_method_8_code om_c75 0 = true := by decide +kernel
theorem om_k76 : om_chk prog_4_method_9_code om_c76 0 = true := by decide +kernel
theorem om_k77 : om_chk prog_1_method_13_code om_c77 0 = true := by decide +kernel
theorem om_k78 : om_chk prog_1_method_14_code om_c78 0 = true := by decide +kernel
theorem om_k79 : om_chk prog_6_method_2_code om_c79 0 = true := by decide +kernel
theorem om_k80 : om_chk prog_6_method_3_code om_c80 0 = true := by decide +kernel
theorem om_k81 : om_chk prog_6_method_4_code om_c81 0 = true := by decide +kernel
theorem om_k82 : om_chk prog_6_method_6_code om_c82 0 = true := by decide +kernel
theorem om_k83 : om_chk prog_6_method_5_code om_c83 0 = true := by decide +kernel
theorem om_k84 : om_chk prog_1_method_15_code om_c84 0 = true := by decide +kernel
theorem om_k85 : om_chk prog_1_method_16_code om_c85 0 = true := by decide +kernel
theorem om_k86 : om_chk prog_7_method_17_code om_c86 0 = true := by decide +kernel
theorem om_k87 : om_chk prog_1_method_17_code om_c87 0 = true := by decide +kernel
theorem om_k88 : om_chk prog_8_method_2_code om_c88 0 = true := by decide +kernel
theorem om_k89 : om_chk prog_8_method_3_code om_c89 0 = true := by decide +kernel
theorem om_k90 : om_chk prog_8_method_6_code om_c90 0 = true := by decide +kernel
theorem om_k91 : om_chk prog_8_method_5_code om_c91 0 = true := by decide +kernel
theorem om_k92 : om_chk prog_8_method_4_code om_c92 0 = true := by decide +kernel
theorem om_k93 : om_chk prog_1_method_18_code om_c93 0 = true := by decide +kernel
theorem om_k94 : om_chk method_2_code om_c94 0 = true := by decide +kernel
theorem om_k95 : om_chk prog_11_method_1_code om_c95 0 = true := by decide +kernel
theorem om_k96 : om_chk prog_11_method_19_code om_c96 0 = true := by decide +kernel
theorem om_k97 : om_chk prog_11_method_20_code om_c97 0 = true := by decide +kernel
theorem om_k98 : om_chk prog_11_method_34_code om_c98 0 = true := by decide +kernel
theorem om_k99 : om_chk prog_11_method_2_code om_c99 0 = true := by decide +kernel
theorem om_k100 : om_chk prog_11_method_24_code om_c100 0 = true := by decide +kernel
theorem om_k101 : om_chk prog_11_method_22_code om_c101 0 = true := by decide +kernel
theorem om_k102 : om_chk prog_11_method_21_code om_c102 0 = true := by decide +kernel
theorem om_k103 : om_chk prog_11_method_23_code om_c103 0 = true := by decide +kernel
theorem om_k104 : om_chk prog_11_method_33_code om_c104 0 = true := by decide +kernel
theorem om_k105 : om_chk prog_11_method_31_code om_c105 0 = true := by decide +kernel
theorem om_k106 : om_chk prog_11_method_25_code om_c106 0 = true := by decide +kernel
theorem om_k107 : om_chk prog_11_method_27_code om_c107 0 = true := by decide +kernel
theorem om_k108 : om_chk prog_11_method_28_code om_c108 0 = true := by decide +kernel
theorem om_k109 : om_chk prog_11_method_26_code om_c109 0 = true := by decide +kernel
theorem om_k110 : om_chk prog_11_method_29_code om_c110 0 = true := by decide +kernel
theorem om_k111 : om_chk prog_11_method_3_code om_c111 0 = true := by decide +kernel
theorem om_k112 : om_chk prog_11_method_9_code om_c112 0 = true := by decide +kernel
theorem om_k113 : om_chk prog_11_method_5_code om_c113 0 = true := by decide +kernel
theorem om_k114 : om_chk prog_11_method_30_code om_c114 0 = true := by decide +kernel
theorem om_k115 : om_chk prog_11_method_8_code om_c115 0 = true := by decide +kernel
theorem om_k116 : om_chk prog_11_method_18_code om_c116 0 = true := by decide +kernel
theorem om_k117 : om_chk prog_11_method_13_code om_c117 0 = true := by decide +kernel
theorem om_k118 : om_chk prog_11_method_14_code om_c118 0 = true := by decide +kernel
theorem om_k119 : om_chk prog_11_method_6_code om_c119 0 = true := by decide +kernel
theorem om_k120 : om_chk prog_11_method_15_code om_c120 0 = true := by decide +kernel
theorem om_k121 : om_chk prog_11_method_7_code om_c121 0 = true := by decide +kernel
theorem om_k122 : om_chk prog_11_method_17_code om_c122 0 = true := by decide +kernel
theorem om_k123 : om_chk prog_11_method_16_code om_c123 0 = true := by decide +kernel
theorem om_k124 : om_chk prog_11_method_10_code om_c124 0 = true := by decide +kernel
theorem om_k125 : om_chk prog_11_method_12_code om_c125 0 = true := by decide +kernel
theorem om_k126 : om_chk prog_11_method_11_code om_c126 0 = true := by decide +kernel
theorem om_k127 : om_chk prog_11_method_32_code om_c127 0 = true := by decide +kernel
theorem om_k128 : om_chk prog_11_method_35_code om_c128 0 = true := by decide +kernel
theorem om_k129 : om_chk prog_11_method_36_code om_c129 0 = true := by decide +kernel
theorem om_k130 : om_chk prog_11_method_37_code om_c130 0 = true := by decide +kernel
theorem om_k131 : om_chk prog_11_method_38_code om_c131 0 = true := by decide +kernel
theorem om_k132 : om_chk prog_11_method_41_code om_c132 0 = true := by decide +kernel
theorem om_k133 : om_chk prog_11_method_40_code om_c133 0 = true := by decide +kernel
theorem om_k134 : om_chk prog_11_method_39_code om_c134 0 = true := by decide +kernel
theorem om_k135 : om_chk prog_11_method_43_code om_c135 0 = true := by decide +kernel
theorem om_k136 : om_chk prog_11_method_42_code om_c136 0 = true := by decide +kernel
theorem om_k137 : om_chk prog_11_method_4_code om_c137 0 = true := by decide +kernel
theorem om_k138 : om_chk prog_11_method_47_code om_c138 0 = true := by decide +kernel
theorem om_k139 : om_chk prog_11_method_45_code om_c139 0 = true := by decide +kernel
theorem om_k140 : om_chk prog_11_method_46_code om_c140 0 = true := by decide +kernel
theorem om_k141 : om_chk prog_11_method_44_code om_c141 0 = true := by decide +kernel
theorem om_k142 : om_chk prog_11_method_54_code om_c142 0 = true := by decide +kernel
theorem om_k143 : om_chk prog_11_method_53_code om_c143 0 = true := by decide +kernel
theorem om_k144 : om_chk prog_11_method_52_code om_c144 0 = true := by decide +kernel
theorem om_k145 : om_chk prog_11_method_48_code om_c145 0 = true := by decide +kernel
theorem om_k146 : om_chk prog_11_method_49_code om_c146 0 = true := by decide +kernel
theorem om_k147 : om_chk prog_11_method_50_code om_c147 0 = true := by decide +kernel
theorem om_k148 : om_chk prog_11_method_51_code om_c148 0 = true := by decide +kernel
theorem om_k149 : om_chk prog_11_method_55_code om_c149 0 = true := by decide +kernel
theorem om_k150 : om_chk prog_11_method_58_code om_c150 0 = true := by decide +kernel
theorem om_k151 : om_chk prog_11_method_56_code om_c151 0 = true := by decide +kernel
theorem om_k152 : om_chk prog_11_method_57_code om_c152 0 = true := by decide +kernel
theorem om_k153 : om_chk prog_11_method_59_code om_c153 0 = true := by decide +kernel
theorem om_k154 : om_chk prog_11_method_60_code om_c154 0 = true := by decide +kernel
theorem om_k155 : om_chk prog_11_method_64_code om_c155 0 = true := by decide +kernel
theorem om_k156 : om_chk prog_11_method_61_code om_c156 0 = true := by decide +kernel
theorem om_k157 : om_chk prog_11_method_62_code om_c157 0 = true := by decide +kernel
theorem om_k158 : om_chk prog_11_method_63_code om_c158 0 = true := by decide +kernel
theorem om_k159 : om_chk prog_11_method_65_code om_c159 0 = true := by decide +kernel
end
section
/-! the small machine: ints are Int within the range of an int, cells have numbers in the order of their making -/
abbrev om_V : Type := Int ⊕ (Nat ⊕ Nat)
abbrev om_i (z : Int) : om_V := Sum.inl z
abbrev om_r (a : Nat) : om_V := Sum.inr (Sum.inl a)
abbrev om_un : om_V := Sum.inr (Sum.inr 0)
abbrev om_nu : om_V := Sum.inr (Sum.inr 1)
abbrev om_sc : om_V := Sum.inr (Sum.inr 2)
/-- cells: kind (a class, 20 int[], 21 char[], 22 boolean[], 23 Operator[]), number of slots, fields or references; behind them the numbers in the arrays -/
abbrev om_H : Type := List (Nat × Nat × List om_V) × (Nat → Int → Int)
abbrev om_S : Type := (Option om_V × om_H) ⊕ ((Nat × List om_V × List om_V × om_H) ⊕ (Nat × List om_V × Nat × List om_V × List om_V))
abbrev om_Z (z : Int) : Prop := -2147483648 ≤ z ∧ z ≤ 2147483647
def om_u (I : Nat → Int → Int) (a : Nat) (f : Int → Int) : Nat → Int → Int := fun b => if b = a then f else I b
def om_p (f : Int → Int) (z v : Int) : Int → Int := fun y => if y = z then v else f y
def om_cpy (f g : Int → Int) (sp dp n : Int) : Int → Int := fun y => if dp ≤ y ∧ y < dp + n then f (sp + (y - dp)) else g y
def om_cd (mi pc : Nat) : Option (Instr × Nat) := (om_cs.getD mi []).getD pc none
def om_mi (mi : Nat) : Nat × Nat × Nat × Bool × Bool × Nat := om_mis.getD mi (0, 0, 0, false, false, 0)
abbrev om_ow (mi : Nat) : Nat := (om_mi mi).1
abbrev om_ml (mi : Nat) : Nat := (om_mi mi).2.1
abbrev om_np (mi : Nat) : Nat := (om_mi mi).2.2.1
abbrev om_st (mi : Nat) : Bool := (om_mi mi).2.2.2.1
abbrev om_in (mi : Nat) : Bool := (om_mi mi).2.2.2.2.1
abbrev om_rk (mi : Nat) : Nat := (om_mi mi).2.2.2.2.2
def om_fl (own i : Nat) : Option (Nat × Nat) := (om_fls.find? (fun e => e.1 == own && e.2.1 == i)).map (fun e => (e.2.2.1, e.2.2.2.1))
def om_mk (own i : Nat) : Option (Nat × Nat) := (om_mls.find? (fun e => e.1 == own && e.2.1 == i)).map (fun e => (e.2.2.1, e.2.2.2.1))
def om_ck (own i : Nat) : Option Nat := (om_cls.find? (fun e => e.1 == own && e.2.1 == i)).map (fun e => e.2.2.1)
def om_go (pc : Nat) (off : Int) : Option Nat := if 0 ≤ (pc : Int) + off then some ((pc : Int) + off).toNat else none
def om_nx (pc : Nat) (L st : List om_V) (h : om_H) : Option om_S := some (.inr (.inl (pc, L, st, h)))
def om_cmp (c : ClassFile.Cond) (a b : Int) : Bool := match c with
  | .eq => decide (a = b)
  | .ne => decide (a ≠ b)
  | .lt => decide (a < b)
  | .ge => decide (b ≤ a)
  | .gt => decide (b < a)
  | .le => decide (a ≤ b)
def om_fk (ci k : Nat) : Nat := (om_fks.getD ci []).getD k 9
def om_fT (ci : Nat) : u_T := ((om_cl[ci]?).map (fun q => q.2.1)).getD (fun _ => ("", "", "", false))
def om_fN (ci : Nat) : Nat := ((om_cl[ci]?).map (fun q => q.2.2)).getD 0
def om_fit (mi ci k : Nat) (v : om_V) : Bool :=
  (match om_fk ci k, v with
    | 0, .inl _ => true
    | 1, .inl z => decide (z = 0) || decide (z = 1)
    | 2, .inr (.inl _) => true
    | _, _ => false) && (!(om_fT ci k).2.2.2 || (om_in mi && om_ow mi == ci))
def om_rok (mi : Nat) (v : Option om_V) : Bool := match om_rk mi, v with
  | 0, none => true
  | 1, some (.inl _) => true
  | 2, some (.inl z) => decide (z = 0) || decide (z = 1)
  | 3, some (.inl z) => decide (0 ≤ z) && decide (z ≤ 65535)
  | 4, some (.inr (.inl _)) => true
  | _, _ => false
def om_def (ci : Nat) : List om_V := (om_fks.getD ci []).map (fun k => if k = 2 then om_nu else om_i 0)
def om_lok (ins : Instr) (len : Nat) : Bool := match ins with
  | .tableswitch _ _ _ _ => true
  | .bipush _ | .iload _ | .aload _ | .istore _ | .astore _ | .newarray _ => len == 2
  | .sipush _ | .iinc _ _ | .ifCond _ _ | .if_icmp _ _ | .goto _ | .getfield _ | .putfield _ | .invokevirtual _ | .invokespecial _ | .invokestatic _ | .new _ | .anewarray _ => len == 3
  | _ => len == 1
def om_ild (pc : Nat) (L st : List om_V) (h : om_H) (i : Nat) : Option om_S := match L[i]? with
  | some (.inl z) => om_nx pc L (.inl z :: st) h
  | _ => none
def om_ald (pc : Nat) (L st : List om_V) (h : om_H) (i : Nat) : Option om_S := match L[i]? with
  | some (.inr (.inl a)) => om_nx pc L (.inr (.inl a) :: st) h
  | some (.inr (.inr 2)) => om_nx pc L (.inr (.inr 2) :: st) h
  | _ => none
def om_ist (pc : Nat) (L st : List om_V) (h : om_H) (i : Nat) : Option om_S := match st with
  | .inl z :: st' => if i < L.length then om_nx pc (L.set i (.inl z)) st' h else none
  | _ => none
def om_ast (pc : Nat) (L st : List om_V) (h : om_H) (i : Nat) : Option om_S := match st with
  | .inr (.inl a) :: st' => if i < L.length then om_nx pc (L.set i (.inr (.inl a))) st' h else none
  | _ => none
def om_bin (pc : Nat) (L st : List om_V) (h : om_H) (g : Int → Int → Int) : Option om_S := match st with
  | .inl b :: .inl a :: st' => if om_Z (g a b) then om_nx pc L (.inl (g a b) :: st') h else none
  | _ => none
def om_dv (pc : Nat) (L st : List om_V) (h : om_H) (g : Int → Int → Int) : Option om_S := match st with
  | .inl b :: .inl a :: st' => if 0 < b then om_nx pc L (.inl (g a b) :: st') h else none
  | _ => none
def om_xld (pc : Nat) (L st : List om_V) (h : om_H) (kd : Nat) : Option om_S := match st with
  | .inl z :: .inr (.inl a) :: st' => (match h.1[a]? with
    | some (k, n, _) => if k = kd ∧ 0 ≤ z ∧ z < n then om_nx pc L (.inl (h.2 a z) :: st') h else none
    | none => none)
  | _ => none
def om_xst (pc : Nat) (L st : List om_V) (h : om_H) (kd : Nat) (ok : Int → Bool) : Option om_S := match st with
  | .inl x :: .inl z :: .inr (.inl a) :: st' => (match h.1[a]? with
    | some (k, n, _) => if k = kd ∧ 0 ≤ z ∧ z < n ∧ ok x = true then om_nx pc L st' (h.1, om_u h.2 a (om_p (h.2 a) z x)) else none
    | none => none)
  | _ => none
def om_cal (pc : Nat) (L st : List om_V) (cal n : Nat) : Option om_S :=
  if n ≤ st.length ∧ (st.drop n).length ≤ 8 then some (.inr (.inr (cal, (st.take n).reverse, pc, L, st.drop n))) else none
def om_rcv (st : List om_V) (h : om_H) (n ci : Nat) : Bool := match st[n]? with
  | some (.inr (.inl a)) => (match h.1[a]? with
    | some (c, _, _) => c == ci
    | none => false)
  | _ => false
def om_ex (sc : Int × (Int → Int)) (mi pc : Nat) (ins : Instr) (L st : List om_V) (h : om_H) : Option om_S := match ins with
  | .iconst n => if om_Z n then om_nx (pc + 1) L (.inl n :: st) h else none
  | .bipush n => if -128 ≤ n ∧ n ≤ 127 then om_nx (pc + 2) L (.inl n :: st) h else none
  | .sipush n => if -32768 ≤ n ∧ n ≤ 32767 then om_nx (pc + 3) L (.inl n :: st) h else none
  | .iload_n k => om_ild (pc + 1) L st h k.val
  | .iload i => om_ild (pc + 2) L st h i
  | .aload_n k => om_ald (pc + 1) L st h k.val
  | .aload i => om_ald (pc + 2) L st h i
  | .istore_n k => om_ist (pc + 1) L st h k.val
  | .istore i => om_ist (pc + 2) L st h i
  | .astore_n k => om_ast (pc + 1) L st h k.val
  | .astore i => om_ast (pc + 2) L st h i
  | .iinc i n => (match L[i]? with
    | some (.inl z) => if om_Z (z + n) then om_nx (pc + 3) (L.set i (.inl (z + n))) st h else none
    | _ => none)
  | .iadd => om_bin (pc + 1) L st h (fun a b => a + b)
  | .isub => om_bin (pc + 1) L st h (fun a b => a - b)
  | .imul => om_bin (pc + 1) L st h (fun a b => a * b)
  | .idiv => om_dv (pc + 1) L st h (fun a b => Int.tdiv a b)
  | .irem => om_dv (pc + 1) L st h (fun a b => Int.tmod a b)
  | .ineg => (match st with
    | .inl a :: st' => if om_Z (-a) then om_nx (pc + 1) L (.inl (-a) :: st') h else none
    | _ => none)
  | .iand => (match st with
    | .inl b :: .inl a :: st' => if b = 31 then om_nx (pc + 1) L (.inl (a % 32) :: st') h else none
    | _ => none)
  | .i2c => (match st with
    | .inl a :: st' => om_nx (pc + 1) L (.inl (a % 65536) :: st') h
    | _ => none)
  | .dup => (match st with
    | v :: st' => om_nx (pc + 1) L (v :: v :: st') h
    | _ => none)
  | .ifCond c off => (match st, om_go pc off with
    | .inl a :: st', some t => om_nx (if om_cmp c a 0 then t else pc + 3) L st' h
    | _, _ => none)
  | .if_icmp c off => (match st, om_go pc off with
    | .inl b :: .inl a :: st', some t => om_nx (if om_cmp c a b then t else pc + 3) L st' h
    | _, _ => none)
  | .goto off => (match om_go pc off with
    | some t => om_nx t L st h
    | none => none)
  | .tableswitch df lo hi offs => (match st with
    | .inl a :: st' => (match (if a < lo ∨ hi < a then om_go pc df else (offs[(a - lo).toNat]?).bind (om_go pc)) with
      | some t => om_nx t L st' h
      | none => none)
    | _ => none)
  | .getfield i => (match st, om_fl (om_ow mi) i with
    | .inr (.inl a) :: st', some (ci, k) => (match h.1[a]? with
      | some (c, _, vs) => if c = ci ∧ c < 10 then (match vs[k]? with
        | some v => om_nx (pc + 3) L (v :: st') h
        | none => none) else none
      | none => none)
    | _, _ => none)
  | .putfield i => (match st, om_fl (om_ow mi) i with
    | v :: .inr (.inl a) :: st', some (ci, k) => (match h.1[a]? with
      | some (c, n, vs) => if c = ci ∧ c < 10 ∧ k < vs.length ∧ om_fit mi ci k v = true then om_nx (pc + 3) L st' (h.1.set a (c, n, vs.set k v), h.2) else none
      | none => none)
    | _, _ => none)
  | .iaload => (match st with
    | .inl z :: .inr (.inr 2) :: st' => if 0 ≤ z ∧ z < sc.1 then om_nx (pc + 1) L (.inl (sc.2 z) :: st') h else none
    | _ => om_xld (pc + 1) L st h 20)
  | .caload => om_xld (pc + 1) L st h 21
  | .baload => om_xld (pc + 1) L st h 22
  | .iastore => om_xst (pc + 1) L st h 20 (fun _ => true)
  | .castore => om_xst (pc + 1) L st h 21 (fun x => decide (0 ≤ x) && decide (x ≤ 65535))
  | .bastore => om_xst (pc + 1) L st h 22 (fun x => decide (x = 0) || decide (x = 1))
  | .aaload => (match st with
    | .inl z :: .inr (.inl a) :: st' => (match h.1[a]? with
      | some (k, n, vs) => if k = 23 ∧ 0 ≤ z ∧ z < n then (match vs[z.toNat]? with
        | some (.inr (.inl r)) => om_nx (pc + 1) L (.inr (.inl r) :: st') h
        | _ => none) else none
      | none => none)
    | _ => none)
  | .aastore => (match st with
    | .inr (.inl r) :: .inl z :: .inr (.inl a) :: st' => (match h.1[a]?, h.1[r]? with
      | some (k, n, vs), some (kr, _, _) => if k = 23 ∧ 0 ≤ z ∧ z < n ∧ z.toNat < vs.length ∧ kr = 5 then om_nx (pc + 1) L st' (h.1.set a (k, n, vs.set z.toNat (.inr (.inl r))), h.2) else none
      | _, _ => none)
    | _ => none)
  | .arraylength => (match st with
    | .inr (.inl a) :: st' => (match h.1[a]? with
      | some (k, n, _) => if 20 ≤ k ∧ k ≤ 23 ∧ om_Z n then om_nx (pc + 1) L (.inl n :: st') h else none
      | none => none)
    | .inr (.inr 2) :: st' => if om_Z sc.1 then om_nx (pc + 1) L (.inl sc.1 :: st') h else none
    | _ => none)
  | .new i => (match om_ck (om_ow mi) i with
    | some ci => if ci < 10 then om_nx (pc + 3) L (.inr (.inl h.1.length) :: st) (h.1 ++ [(ci, om_fN ci, om_def ci)], h.2) else none
    | none => none)
  | .newarray t => (match st, t with
    | .inl z :: st', .int => if 0 ≤ z ∧ z ≤ 100000 then om_nx (pc + 2) L (.inr (.inl h.1.length) :: st') (h.1 ++ [(20, z.toNat, [])], h.2) else none
    | .inl z :: st', .char => if 0 ≤ z ∧ z ≤ 100000 then om_nx (pc + 2) L (.inr (.inl h.1.length) :: st') (h.1 ++ [(21, z.toNat, [])], h.2) else none
    | .inl z :: st', .boolean => if 0 ≤ z ∧ z ≤ 100000 then om_nx (pc + 2) L (.inr (.inl h.1.length) :: st') (h.1 ++ [(22, z.toNat, [])], h.2) else none
    | _, _ => none)
  | .anewarray i => (match st, om_ck (om_ow mi) i with
    | .inl z :: st', some 5 => if 0 ≤ z ∧ z ≤ 100000 then om_nx (pc + 3) L (.inr (.inl h.1.length) :: st') (h.1 ++ [(23, z.toNat, List.replicate z.toNat om_nu)], h.2) else none
    | _, _ => none)
  | .invokevirtual i => (match om_mk (om_ow mi) i with
    | some (0, ci) => if om_rcv st h (om_np ci) (om_ow ci) = true then om_cal (pc + 3) L st ci (om_np ci + 1) else none
    | _ => none)
  | .invokestatic i => (match om_mk (om_ow mi) i with
    | some (1, ci) => om_cal (pc + 3) L st ci (om_np ci)
    | some (6, _) => (match st with
      | .inl b :: .inl a :: st' => if st'.length ≤ 8 then om_nx (pc + 3) L (.inl (if a ≤ b then a else b) :: st') h else none
      | _ => none)
    | some (4, _) => (match st with
      | .inl n :: .inl dp :: .inr (.inl a) :: .inl sp :: .inr (.inl a0) :: st' => (match h.1[a]?, h.1[a0]? with
        | some (k, m, _), some (k0, m0, _) => if k = 20 ∧ k0 = 20 ∧ 0 ≤ sp ∧ 0 ≤ dp ∧ 0 ≤ n ∧ sp + n ≤ m0 ∧ dp + n ≤ m ∧ st'.length ≤ 8 then om_nx (pc + 3) L st' (h.1, om_u h.2 a (om_cpy (h.2 a0) (h.2 a) sp dp n)) else none
        | _, _ => none)
      | _ => none)
    | _ => none)
  | .invokespecial i => (match om_mk (om_ow mi) i with
    | some (2, ci) => if om_rcv st h (om_np ci) (om_ow ci) = true then om_cal (pc + 3) L st ci (om_np ci + 1) else none
    | some (3, ci) => if om_rcv st h (om_np ci) (om_ow ci) = true then om_cal (pc + 3) L st ci (om_np ci + 1) else none
    | some (5, _) => (match st with
      | .inr (.inl a) :: st' => if st'.length ≤ 8 then om_nx (pc + 3) L st' h else none
      | _ => none)
    | _ => none)
  | .ireturn => (match st with
    | [.inl z] => if om_rok mi (some (.inl z)) = true then some (.inl (some (.inl z), h)) else none
    | _ => none)
  | .areturn => (match st with
    | [.inr (.inl a)] => if om_rok mi (some (.inr (.inl a))) = true then some (.inl (some (.inr (.inl a)), h)) else none
    | _ => none)
  | .return_ => (match st with
    | [] => if om_rok mi none = true then some (.inl (none, h)) else none
    | _ => none)
  | _ => none
def om_step (sc : Int × (Int → Int)) (mi pc : Nat) (L st : List om_V) (h : om_H) : Option om_S := match om_cd mi pc with
  | some (ins, len) => if om_lok ins len = true then om_ex sc mi pc ins L st h else none
  | none => none
/-- a callee's locals -/
def om_loc (mi : Nat) (as : List om_V) : List om_V := as ++ List.replicate (om_ml mi - as.length) om_un
def om_run (sc : Int × (Int → Int)) : Nat → Nat → Nat → Nat → List om_V → List om_V → om_H → Option (Option om_V × om_H)
  | _, 0, _, _, _, _, _ => none
  | d, f + 1, mi, pc, L, st, h => match om_step sc mi pc L st h with
    | none => none
    | some (.inl r) => some r
    | some (.inr (.inl (pc', L', st', h'))) => om_run sc d f mi pc' L' st' h'
    | some (.inr (.inr (ci, as, pc', L', st'))) => match d with
      | 0 => none
      | d' + 1 => match om_run sc d' f ci 0 (om_loc ci as) [] h with
        | none => none
        | some (v, h') => om_run sc (d' + 1) f mi pc' L' (v.toList ++ st') h'
def om_R (sc : Int × (Int → Int)) (d mi pc : Nat) (L st : List om_V) (h : om_H) (Q : Option om_V → om_H → Prop) : Prop :=
  ∃ f v h', om_run sc d f mi pc L st h = some (v, h') ∧ Q v h'
theorem om_run_s {sc : Int × (Int → Int)} : ∀ {f d mi pc : Nat} {L st : List om_V} {h : om_H} {r : Option om_V × om_H}, om_run sc d f mi pc L st h = some r → om_run sc d (f + 1) mi pc L st h = some r
  | 0, d, mi, pc, L, st, h, r, e => by simp [om_run] at e
  | f + 1, d, mi, pc, L, st, h, r, e => by
    rw [om_run] at e ⊢
    cases hs : om_step sc mi pc L st h with
    | none => rw [hs] at e; cases e
    | some q =>
      rw [hs] at e
      rcases q with q | ⟨pc', L', st', h'⟩ | ⟨ci, as, pc', L', st'⟩
      · exact e
      · exact om_run_s e
      · cases d with
        | zero => cases e
        | succ d =>
          dsimp only at e ⊢
          cases hc : om_run sc d f ci 0 (om_loc ci as) [] h with
          | none => rw [hc] at e; cases e
          | some w =>
            rw [hc] at e
            rw [om_run_s hc]
            exact om_run_s e
theorem om_run_le {sc : Int × (Int → Int)} {f g d mi pc : Nat} {L st : List om_V} {h : om_H} {r : Option om_V × om_H} (hfg : f ≤ g) (e : om_run sc d f mi pc L st h = some r) : om_run sc d g mi pc L st h = some r := by
  induction hfg with
  | refl => exact e
  | step _ ih => exact om_run_s ih
theorem om_R_nx {sc : Int × (Int → Int)} {d mi pc : Nat} {L st : List om_V} {h : om_H} {Q : Option om_V → om_H → Prop} {pc' : Nat} {L' st' : List om_V} {h' : om_H} (e : om_step sc mi pc L st h = om_nx pc' L' st' h') : om_R sc d mi pc L st h Q = om_R sc d mi pc' L' st' h' Q := by
  apply propext
  constructor
  · rintro ⟨f, v, w, hr, hq⟩
    cases f with
    | zero => simp [om_run] at hr
    | succ f =>
      rw [om_run, e] at hr
      exact ⟨f, v, w, hr, hq⟩
  · rintro ⟨f, v, w, hr, hq⟩
    refine ⟨f + 1, v, w, ?_, hq⟩
    rw [om_run, e]
    exact hr
theorem om_R_no {sc : Int × (Int → Int)} {d mi pc : Nat} {L st : List om_V} {h : om_H} {Q : Option om_V → om_H → Prop} (e : om_step sc mi pc L st h = none) : om_R sc d mi pc L st h Q = False := by
  apply propext
  constructor
  · rintro ⟨f, v, w, hr, hq⟩
    cases f with
    | zero => simp [om_run] at hr
    | succ f =>
      rw [om_run, e] at hr
      cases hr
  · exact False.elim
theorem om_R_if {sc : Int × (Int → Int)} {d mi pc : Nat} {L st : List om_V} {h : om_H} {Q : Option om_V → om_H → Prop} {pc' : Nat} {L' st' : List om_V} {h' : om_H} {c : Prop} [Decidable c] (e : om_step sc mi pc L st h = if c then om_nx pc' L' st' h' else none) : om_R sc d mi pc L st h Q = (c ∧ om_R sc d mi pc' L' st' h' Q) := by
  by_cases hc : c
  · rw [if_pos hc] at e
    rw [om_R_nx e]
    simp [hc]
  · rw [if_neg hc] at e
    rw [om_R_no e]
    simp [hc]
theorem om_R_br {sc : Int × (Int → Int)} {d mi pc : Nat} {L st : List om_V} {h : om_H} {Q : Option om_V → om_H → Prop} {p1 p2 : Nat} {L' st' : List om_V} {h' : om_H} {c : Prop} [Decidable c] (e : om_step sc mi pc L st h = om_nx (if decide c then p1 else p2) L' st' h') : om_R sc d mi pc L st h Q = if c then om_R sc d mi p1 L' st' h' Q else om_R sc d mi p2 L' st' h' Q := by
  by_cases hc : c
  · rw [if_pos hc]
    rw [decide_eq_true hc] at e
    exact om_R_nx e
  · rw [if_neg hc]
    rw [decide_eq_false hc] at e
    exact om_R_nx e
theorem om_R_rt {sc : Int × (Int → Int)} {d mi pc : Nat} {L st : List om_V} {h : om_H} {Q : Option om_V → om_H → Prop} {v : Option om_V} {h' : om_H} {c : Bool} (e : om_step sc mi pc L st h = if c = true then some (.inl (v, h')) else none) : om_R sc d mi pc L st h Q = (c = true ∧ Q v h') := by
  cases hc : c
  · subst hc
    rw [om_R_no e]
    simp
  · subst hc
    rw [if_pos rfl] at e
    apply propext
    constructor
    · rintro ⟨f, v', w, hr, hq⟩
      cases f with
      | zero => simp [om_run] at hr
      | succ f =>
        rw [om_run, e] at hr
        cases hr
        exact ⟨rfl, hq⟩
    · rintro ⟨-, hq⟩
      exact ⟨1, v, h', by rw [om_run, e], hq⟩
theorem om_R_ca {sc : Int × (Int → Int)} {d mi pc : Nat} {L st : List om_V} {h : om_H} {Q : Option om_V → om_H → Prop} {ci : Nat} {as : List om_V} {pc' : Nat} {L' st' : List om_V} (e : om_step sc mi pc L st h = some (.inr (.inr (ci, as, pc', L', st')))) : om_R sc (d + 1) mi pc L st h Q = om_R sc d ci 0 (om_loc ci as) [] h (fun v h' => om_R sc (d + 1) mi pc' L' (v.toList ++ st') h' Q) := by
  apply propext
  constructor
  · rintro ⟨f, v, w, hr, hq⟩
    cases f with
    | zero => simp [om_run] at hr
    | succ f =>
      rw [om_run, e] at hr
      dsimp only at hr
      cases hc : om_run sc d f ci 0 (om_loc ci as) [] h with
      | none => rw [hc] at hr; cases hr
      | some x =>
        rw [hc] at hr
        exact ⟨f, x.1, x.2, hc, f, v, w, hr, hq⟩
  · rintro ⟨f, v, w, hr, g, v', w', hr', hq⟩
    refine ⟨max f g + 1, v', w', ?_, hq⟩
    rw [om_run, e]
    dsimp only
    rw [om_run_le (Nat.le_max_left f g) hr]
    exact om_run_le (Nat.le_max_right f g) hr'
theorem om_R_mono {sc : Int × (Int → Int)} {d mi pc : Nat} {L st : List om_V} {h : om_H} {Q Q' : Option om_V → om_H → Prop} (hr : om_R sc d mi pc L st h Q) (hq : ∀ v w, Q v w → Q' v w) : om_R sc d mi pc L st h Q' := by
  obtain ⟨f, v, w, e, q⟩ := hr
  exact ⟨f, v, w, e, hq v w q⟩
end
section
/-! the words that the links of the program stand on -/
def om_wg : List Cond := lw_tbl.filter goodWord
def om_at (i : Nat) (w : Cond) : Bool := decide (lw_tbl[i]? = some w) && goodWord w
theorem om_wgi {i : Nat} {w : Cond} (h : om_at i w = true) : w ∈ om_wg := by
  simp only [om_at, Bool.and_eq_true, decide_eq_true_eq] at h
  exact List.mem_filter.mpr ⟨List.mem_of_getElem? h.1, h.2⟩
theorem om_wg_good : ∀ w ∈ om_wg, w ∈ lw_tbl ∧ goodWord w = true := fun w h => List.mem_filter.mp h
def om_y (mi : Nat) : MethodName := om_ys.getD mi ⟨"", "", ""⟩
def om_by (mi : Nat) : ByteArray := om_bys.getD mi ⟨#[]⟩
def om_rt (mi : Nat) : Option FieldType := om_rts.getD mi none
def om_ty (ci : Nat) : Nat → FieldType := ([om_y0, om_y1, om_y2, om_y3, om_y4, om_y5, om_y6, om_y7, om_y8, om_y9] : List (Nat → FieldType)).getD ci (fun _ => .int)
def om_fck : Bool := om_fls.all (fun e => om_at e.2.2.2.2 (Cond.fieldLink (om_cn e.1) e.2.1 (om_fT e.2.2.1 e.2.2.2.1).1 (om_fT e.2.2.1 e.2.2.2.1).2.1 (om_fT e.2.2.1 e.2.2.2.1).2.2.1) && (decide (e.2.2.2.1 < om_fN e.2.2.1) && decide (e.2.2.1 < 10)))
theorem om_fok : om_fck = true := by decide +kernel
def om_cck : Bool := om_cls.all (fun e => om_at e.2.2.2 (Cond.classLink (om_cn e.1) e.2.1 (om_cn e.2.2.1)))
theorem om_cok : om_cck = true := by decide +kernel
def om_mck : Bool := om_mls.all (fun e => match e.2.2.1 with
  | 6 => om_at e.2.2.2.2 (Cond.methodLink (om_cn e.1) e.2.1 Lib.Math.min.name)
  | 5 => om_at e.2.2.2.2 (Cond.methodLink (om_cn e.1) e.2.1 objectInit)
  | 4 => om_at e.2.2.2.2 (Cond.methodLink (om_cn e.1) e.2.1 arraycopyName)
  | 3 => decide (e.1 = 8 ∧ e.2.1 = 17 ∧ om_y e.2.2.2.1 = ⟨"OreSolver$Output", "<init>", "()V"⟩ ∧ om_st e.2.2.2.1 = false ∧ om_in e.2.2.2.1 = true ∧ 0 < e.2.2.2.1 ∧ e.2.2.2.1 < 160 ∧ e.2.2.2.1 ≠ 33)
  | 2 => om_at e.2.2.2.2 (Cond.methodLink (om_cn e.1) e.2.1 (om_y e.2.2.2.1)) && decide (om_st e.2.2.2.1 = false ∧ om_in e.2.2.2.1 = true ∧ 0 < e.2.2.2.1 ∧ e.2.2.2.1 < 160 ∧ e.2.2.2.1 ≠ 33)
  | 1 => om_at e.2.2.2.2 (Cond.methodLink (om_cn e.1) e.2.1 (om_y e.2.2.2.1)) && decide (om_st e.2.2.2.1 = true ∧ 0 < e.2.2.2.1 ∧ e.2.2.2.1 < 160 ∧ e.2.2.2.1 ≠ 33)
  | 0 => om_at e.2.2.2.2 (Cond.methodLink (om_cn e.1) e.2.1 (om_y e.2.2.2.1)) && decide (om_st e.2.2.2.1 = false ∧ om_in e.2.2.2.1 = false ∧ 0 < e.2.2.2.1 ∧ e.2.2.2.1 < 160 ∧ e.2.2.2.1 ≠ 33)
  | _ => false)
theorem om_mok : om_mck = true := by decide +kernel
/-- what holds of each method -/
def om_ick (mi : Nat) : Bool := match om_mix.getD mi (0, 0, 0, 0) with
  | (_, b, s, n) => (if om_st mi then om_at b (Cond.static (om_y mi)) else om_at b (Cond.instanceMethod (om_y mi))) && (om_st mi || om_in mi || om_at s (Cond.selects (om_cn (om_ow mi)) (om_y mi) (om_y mi))) && om_at n (Cond.initialized (om_cn (om_ow mi)))
    && decide ((om_y mi).cls = om_cn (om_ow mi)) && plainName (om_y mi).cls && decide ((om_y mi).cls ≠ "java/lang/invoke/MethodHandle") && decide ((om_y mi).cls ≠ "java/lang/invoke/VarHandle") && decide ((parseMethodDescriptor (om_y mi).desc).map (fun d => d.parameters.length) = some (om_np mi))
    && (!om_in mi || decide ((om_y mi).name = "<init>")) && decide (om_ml mi ≤ 13) && decide (om_np mi + (if om_st mi then 0 else 1) ≤ om_ml mi)
theorem om_ic1 : lw_tbl[(om_mix.getD 1 (0, 0, 0, 0)).1]? = some (Cond.code (om_y 1) (om_by 1) (om_ml 1) (om_rt 1)) := by decide +kernel
theorem om_id1 : om_ick 1 = true := by decide +kernel
theorem om_ic2 : lw_tbl[(om_mix.getD 2 (0, 0, 0, 0)).1]? = some (Cond.code (om_y 2) (om_by 2) (om_ml 2) (om_rt 2)) := by decide +kernel
theorem om_id2 : om_ick 2 = true := by decide +kernel
theorem om_ic3 : lw_tbl[(om_mix.getD 3 (0, 0, 0, 0)).1]? = some (Cond.code (om_y 3) (om_by 3) (om_ml 3) (om_rt 3)) := by decide +kernel
theorem om_id3 : om_ick 3 = true := by decide +kernel
theorem om_ic4 : lw_tbl[(om_mix.getD 4 (0, 0, 0, 0)).1]? = some (Cond.code (om_y 4) (om_by 4) (om_ml 4) (om_rt 4)) := by decide +kernel
theorem om_id4 : om_ick 4 = true := by decide +kernel
theorem om_ic5 : lw_tbl[(om_mix.getD 5 (0, 0, 0, 0)).1]? = some (Cond.code (om_y 5) (om_by 5) (om_ml 5) (om_rt 5)) := by decide +kernel
theorem om_id5 : om_ick 5 = true := by decide +kernel
theorem om_ic6 : lw_tbl[(om_mix.getD 6 (0, 0, 0, 0)).1]? = some (Cond.code (om_y 6) (om_by 6) (om_ml 6) (om_rt 6)) := by decide +kernel
theorem om_id6 : om_ick 6 = true := by decide +kernel
theorem om_ic7 : lw_tbl[(om_mix.getD 7 (0, 0, 0, 0)).1]? = some (Cond.code (om_y 7) (om_by 7) (om_ml 7) (om_rt 7)) := by decide +kernel
theorem om_id7 : om_ick 7 = true := by decide +kernel
theorem om_ic8 : lw_tbl[(om_mix.getD 8 (0, 0, 0, 0)).1]? = some (Cond.code (om_y 8) (om_by 8) (om_ml 8) (om_rt 8)) := by decide +kernel
theorem om_id8 : om_ick 8 = true := by decide +kernel
theorem om_ic9 : lw_tbl[(om_mix.getD 9 (0, 0, 0, 0)).1]? = some (Cond.code (om_y 9) (om_by 9) (om_ml 9) (om_rt 9)) := by decide +kernel
theorem om_id9 : om_ick 9 = true := by decide +kernel
theorem om_ic10 : lw_tbl[(om_mix.getD 10 (0, 0, 0, 0)).1]? = some (Cond.code (om_y 10) (om_by 10) (om_ml 10) (om_rt 10)) := by decide +kernel
theorem om_id10 : om_ick 10 = true := by decide +kernel
theorem om_ic11 : lw_tbl[(om_mix.getD 11 (0, 0, 0, 0)).1]? = some (Cond.code (om_y 11) (om_by 11) (om_ml 11) (om_rt 11)) := by decide +kernel
theorem om_id11 : om_ick 11 = true := by decide +kernel
theorem om_ic12 : lw_tbl[(om_mix.getD 12 (0, 0, 0, 0)).1]? = some (Cond.code (om_y 12) (om_by 12) (om_ml 12) (om_rt 12)) := by decide +kernel
theorem om_id12 : om_ick 12 = true := by decide +kernel
theorem om_ic13 : lw_tbl[(om_mix.getD 13 (0, 0, 0, 0)).1]? = some (Cond.code (om_y 13) (om_by 13) (om_ml 13) (om_rt 13)) := by decide +kernel
theorem om_id13 : om_ick 13 = true := by decide +kernel
theorem om_ic14 : lw_tbl[(om_mix.getD 14 (0, 0, 0, 0)).1]? = some (Cond.code (om_y 14) (om_by 14) (om_ml 14) (om_rt 14)) := by decide +kernel
theorem om_id14 : om_ick 14 = true := by decide +kernel
theorem om_ic15 : lw_tbl[(om_mix.getD 15 (0, 0, 0, 0)).1]? = some (Cond.code (om_y 15) (om_by 15) (om_ml 15) (om_rt 15)) := by decide +kernel
theorem om_id15 : om_ick 15 = true := by decide +kernel
theorem om_ic16 : lw_tbl[(om_mix.getD 16 (0, 0, 0, 0)).1]? = some (Cond.code (om_y 16) (om_by 16) (om_ml 16) (om_rt 16)) := by decide +kernel
theorem om_id16 : om_ick 16 = true := by decide +kernel
theorem om_ic17 : lw_tbl[(om_mix.getD 17 (0, 0, 0, 0)).1]? = some (Cond.code (om_y 17) (om_by 17) (om_ml 17) (om_rt 17)) := by decide +kernel
theorem om_id17 : om_ick 17 = true := by decide +kernel
theorem om_ic18 : lw_tbl[(om_mix.getD 18 (0, 0, 0, 0)).1]? = some (Cond.code (om_y 18) (om_by 18) (om_ml 18) (om_rt 18)) := by decide +kernel
theorem om_id18 : om_ick 18 = true := by decide +kernel
theorem om_ic19 : lw_tbl[(om_mix.getD 19 (0, 0, 0, 0)).1]? = some (Cond.code (om_y 19) (om_by 19) (om_ml 19) (om_rt 19)) := by decide +kernel
theorem om_id19 : om_ick 19 = true := by decide +kernel
theorem om_ic20 : lw_tbl[(om_mix.getD 20 (0, 0, 0, 0)).1]? = some (Cond.code (om_y 20) (om_by 20) (om_ml 20) (om_rt 20)) := by decide +kernel
theorem om_id20 : om_ick 20 = true := by decide +kernel
theorem om_ic21 : lw_tbl[(om_mix.getD 21 (0, 0, 0, 0)).1]? = some (Cond.code (om_y 21) (om_by 21) (om_ml 21) (om_rt 21)) := by decide +kernel
theorem om_id21 : om_ick 21 = true := by decide +kernel
theorem om_ic22 : lw_tbl[(om_mix.getD 22 (0, 0, 0, 0)).1]? = some (Cond.code (om_y 22) (om_by 22) (om_ml 22) (om_rt 22)) := by decide +kernel
theorem om_id22 : om_ick 22 = true := by decide +kernel
theorem om_ic23 : lw_tbl[(om_mix.getD 23 (0, 0, 0, 0)).1]? = some (Cond.code (om_y 23) (om_by 23) (om_ml 23) (om_rt 23)) := by decide +kernel
theorem om_id23 : om_ick 23 = true := by decide +kernel
theorem om_ic24 : lw_tbl[(om_mix.getD 24 (0, 0, 0, 0)).1]? = some (Cond.code (om_y 24) (om_by 24) (om_ml 24) (om_rt 24)) := by decide +kernel
theorem om_id24 : om_ick 24 = true := by decide +kernel
theorem om_ic25 : lw_tbl[(om_mix.getD 25 (0, 0, 0, 0)).1]? = some (Cond.code (om_y 25) (om_by 25) (om_ml 25) (om_rt 25)) := by decide +kernel
theorem om_id25 : om_ick 25 = true := by decide +kernel
theorem om_ic26 : lw_tbl[(om_mix.getD 26 (0, 0, 0, 0)).1]? = some (Cond.code (om_y 26) (om_by 26) (om_ml 26) (om_rt 26)) := by decide +kernel
theorem om_id26 : om_ick 26 = true := by decide +kernel
theorem om_ic27 : lw_tbl[(om_mix.getD 27 (0, 0, 0, 0)).1]? = some (Cond.code (om_y 27) (om_by 27) (om_ml 27) (om_rt 27)) := by decide +kernel
theorem om_id27 : om_ick 27 = true := by decide +kernel
theorem om_ic28 : lw_tbl[(om_mix.getD 28 (0, 0, 0, 0)).1]? = some (Cond.code (om_y 28) (om_by 28) (om_ml 28) (om_rt 28)) := by decide +kernel
theorem om_id28 : om_ick 28 = true := by decide +kernel
theorem om_ic29 : lw_tbl[(om_mix.getD 29 (0, 0, 0, 0)).1]? = some (Cond.code (om_y 29) (om_by 29) (om_ml 29) (om_rt 29)) := by decide +kernel
theorem om_id29 : om_ick 29 = true := by decide +kernel
theorem om_ic30 : lw_tbl[(om_mix.getD 30 (0, 0, 0, 0)).1]? = some (Cond.code (om_y 30) (om_by 30) (om_ml 30) (om_rt 30)) := by decide +kernel
theorem om_id30 : om_ick 30 = true := by decide +kernel
theorem om_ic31 : lw_tbl[(om_mix.getD 31 (0, 0, 0, 0)).1]? = some (Cond.code (om_y 31) (om_by 31) (om_ml 31) (om_rt 31)) := by decide +kernel
theorem om_id31 : om_ick 31 = true := by decide +kernel
theorem om_ic32 : lw_tbl[(om_mix.getD 32 (0, 0, 0, 0)).1]? = some (Cond.code (om_y 32) (om_by 32) (om_ml 32) (om_rt 32)) := by decide +kernel
theorem om_id32 : om_ick 32 = true := by decide +kernel
theorem om_ic34 : lw_tbl[(om_mix.getD 34 (0, 0, 0, 0)).1]? = some (Cond.code (om_y 34) (om_by 34) (om_ml 34) (om_rt 34)) := by decide +kernel
theorem om_id34 : om_ick 34 = true := by decide +kernel
theorem om_ic35 : lw_tbl[(om_mix.getD 35 (0, 0, 0, 0)).1]? = some (Cond.code (om_y 35) (om_by 35) (om_ml 35) (om_rt 35)) := by decide +kernel
theorem om_id35 : om_ick 35 = true := by decide +kernel
theorem om_ic36 : lw_tbl[(om_mix.getD 36 (0, 0, 0, 0)).1]? = some (Cond.code (om_y 36) (om_by 36) (om_ml 36) (om_rt 36)) := by decide +kernel
theorem om_id36 : om_ick 36 = true := by decide +kernel
theorem om_ic37 : lw_tbl[(om_mix.getD 37 (0, 0, 0, 0)).1]? = some (Cond.code (om_y 37) (om_by 37) (om_ml 37) (om_rt 37)) := by decide +kernel
theorem om_id37 : om_ick 37 = true := by decide +kernel
theorem om_ic38 : lw_tbl[(om_mix.getD 38 (0, 0, 0, 0)).1]? = some (Cond.code (om_y 38) (om_by 38) (om_ml 38) (om_rt 38)) := by decide +kernel
theorem om_id38 : om_ick 38 = true := by decide +kernel
theorem om_ic39 : lw_tbl[(om_mix.getD 39 (0, 0, 0, 0)).1]? = some (Cond.code (om_y 39) (om_by 39) (om_ml 39) (om_rt 39)) := by decide +kernel
theorem om_id39 : om_ick 39 = true := by decide +kernel
theorem om_ic40 : lw_tbl[(om_mix.getD 40 (0, 0, 0, 0)).1]? = some (Cond.code (om_y 40) (om_by 40) (om_ml 40) (om_rt 40)) := by decide +kernel
theorem om_id40 : om_ick 40 = true := by decide +kernel
theorem om_ic41 : lw_tbl[(om_mix.getD 41 (0, 0, 0, 0)).1]? = some (Cond.code (om_y 41) (om_by 41) (om_ml 41) (om_rt 41)) := by decide +kernel
theorem om_id41 : om_ick 41 = true := by decide +kernel
theorem om_ic42 : lw_tbl[(om_mix.getD 42 (0, 0, 0, 0)).1]? = some (Cond.code (om_y 42) (om_by 42) (om_ml 42) (om_rt 42)) := by decide +kernel
theorem om_id42 : om_ick 42 = true := by decide +kernel
theorem om_ic43 : lw_tbl[(om_mix.getD 43 (0, 0, 0, 0)).1]? = some (Cond.code (om_y 43) (om_by 43) (om_ml 43) (om_rt 43)) := by decide +kernel
theorem om_id43 : om_ick 43 = true := by decide +kernel
theorem om_ic44 : lw_tbl[(om_mix.getD 44 (0, 0, 0, 0)).1]? = some (Cond.code (om_y 44) (om_by 44) (om_ml 44) (om_rt 44)) := by decide +kernel
theorem om_id44 : om_ick 44 = true := by decide +kernel
theorem om_ic45 : lw_tbl[(om_mix.getD 45 (0, 0, 0, 0)).1]? = some (Cond.code (om_y 45) (om_by 45) (om_ml 45) (om_rt 45)) := by decide +kernel
theorem om_id45 : om_ick 45 = true := by decide +kernel
theorem om_ic46 : lw_tbl[(om_mix.getD 46 (0, 0, 0, 0)).1]? = some (Cond.code (om_y 46) (om_by 46) (om_ml 46) (om_rt 46)) := by decide +kernel
theorem om_id46 : om_ick 46 = true := by decide +kernel
theorem om_ic47 : lw_tbl[(om_mix.getD 47 (0, 0, 0, 0)).1]? = some (Cond.code (om_y 47) (om_by 47) (om_ml 47) (om_rt 47)) := by decide +kernel
theorem om_id47 : om_ick 47 = true := by decide +kernel
theorem om_ic48 : lw_tbl[(om_mix.getD 48 (0, 0, 0, 0)).1]? = some (Cond.code (om_y 48) (om_by 48) (om_ml 48) (om_rt 48)) := by decide +kernel
theorem om_id48 : om_ick 48 = true := by decide +kernel
theorem om_ic49 : lw_tbl[(om_mix.getD 49 (0, 0, 0, 0)).1]? = some (Cond.code (om_y 49) (om_by 49) (om_ml 49) (om_rt 49)) := by decide +kernel
theorem om_id49 : om_ick 49 = true := by decide +kernel
theorem om_ic50 : lw_tbl[(om_mix.getD 50 (0, 0, 0, 0)).1]? = some (Cond.code (om_y 50) (om_by 50) (om_ml 50) (om_rt 50)) := by decide +kernel
theorem om_id50 : om_ick 50 = true := by decide +kernel
theorem om_ic51 : lw_tbl[(om_mix.getD 51 (0, 0, 0, 0)).1]? = some (Cond.code (om_y 51) (om_by 51) (om_ml 51) (om_rt 51)) := by decide +kernel
theorem om_id51 : om_ick 51 = true := by decide +kernel
theorem om_ic52 : lw_tbl[(om_mix.getD 52 (0, 0, 0, 0)).1]? = some (Cond.code (om_y 52) (om_by 52) (om_ml 52) (om_rt 52)) := by decide +kernel
theorem om_id52 : om_ick 52 = true := by decide +kernel
theorem om_ic53 : lw_tbl[(om_mix.getD 53 (0, 0, 0, 0)).1]? = some (Cond.code (om_y 53) (om_by 53) (om_ml 53) (om_rt 53)) := by decide +kernel
theorem om_id53 : om_ick 53 = true := by decide +kernel
theorem om_ic54 : lw_tbl[(om_mix.getD 54 (0, 0, 0, 0)).1]? = some (Cond.code (om_y 54) (om_by 54) (om_ml 54) (om_rt 54)) := by decide +kernel
theorem om_id54 : om_ick 54 = true := by decide +kernel
theorem om_ic55 : lw_tbl[(om_mix.getD 55 (0, 0, 0, 0)).1]? = some (Cond.code (om_y 55) (om_by 55) (om_ml 55) (om_rt 55)) := by decide +kernel
theorem om_id55 : om_ick 55 = true := by decide +kernel
theorem om_ic56 : lw_tbl[(om_mix.getD 56 (0, 0, 0, 0)).1]? = some (Cond.code (om_y 56) (om_by 56) (om_ml 56) (om_rt 56)) := by decide +kernel
theorem om_id56 : om_ick 56 = true := by decide +kernel
theorem om_ic57 : lw_tbl[(om_mix.getD 57 (0, 0, 0, 0)).1]? = some (Cond.code (om_y 57) (om_by 57) (om_ml 57) (om_rt 57)) := by decide +kernel
theorem om_id57 : om_ick 57 = true := by decide +kernel
theorem om_ic58 : lw_tbl[(om_mix.getD 58 (0, 0, 0, 0)).1]? = some (Cond.code (om_y 58) (om_by 58) (om_ml 58) (om_rt 58)) := by decide +kernel
theorem om_id58 : om_ick 58 = true := by decide +kernel
theorem om_ic59 : lw_tbl[(om_mix.getD 59 (0, 0, 0, 0)).1]? = some (Cond.code (om_y 59) (om_by 59) (om_ml 59) (om_rt 59)) := by decide +kernel
theorem om_id59 : om_ick 59 = true := by decide +kernel
theorem om_ic60 : lw_tbl[(om_mix.getD 60 (0, 0, 0, 0)).1]? = some (Cond.code (om_y 60) (om_by 60) (om_ml 60) (om_rt 60)) := by decide +kernel
theorem om_id60 : om_ick 60 = true := by decide +kernel
theorem om_ic61 : lw_tbl[(om_mix.getD 61 (0, 0, 0, 0)).1]? = some (Cond.code (om_y 61) (om_by 61) (om_ml 61) (om_rt 61)) := by decide +kernel
theorem om_id61 : om_ick 61 = true := by decide +kernel
theorem om_ic62 : lw_tbl[(om_mix.getD 62 (0, 0, 0, 0)).1]? = some (Cond.code (om_y 62) (om_by 62) (om_ml 62) (om_rt 62)) := by decide +kernel
theorem om_id62 : om_ick 62 = true := by decide +kernel
theorem om_ic63 : lw_tbl[(om_mix.getD 63 (0, 0, 0, 0)).1]? = some (Cond.code (om_y 63) (om_by 63) (om_ml 63) (om_rt 63)) := by decide +kernel
theorem om_id63 : om_ick 63 = true := by decide +kernel
theorem om_ic64 : lw_tbl[(om_mix.getD 64 (0, 0, 0, 0)).1]? = some (Cond.code (om_y 64) (om_by 64) (om_ml 64) (om_rt 64)) := by decide +kernel
theorem om_id64 : om_ick 64 = true := by decide +kernel
theorem om_ic65 : lw_tbl[(om_mix.getD 65 (0, 0, 0, 0)).1]? = some (Cond.code (om_y 65) (om_by 65) (om_ml 65) (om_rt 65)) := by decide +kernel
theorem om_id65 : om_ick 65 = true := by decide +kernel
theorem om_ic66 : lw_tbl[(om_mix.getD 66 (0, 0, 0, 0)).1]? = some (Cond.code (om_y 66) (om_by 66) (om_ml 66) (om_rt 66)) := by decide +kernel
theorem om_id66 : om_ick 66 = true := by decide +kernel
theorem om_ic67 : lw_tbl[(om_mix.getD 67 (0, 0, 0, 0)).1]? = some (Cond.code (om_y 67) (om_by 67) (om_ml 67) (om_rt 67)) := by decide +kernel
theorem om_id67 : om_ick 67 = true := by decide +kernel
theorem om_ic68 : lw_tbl[(om_mix.getD 68 (0, 0, 0, 0)).1]? = some (Cond.code (om_y 68) (om_by 68) (om_ml 68) (om_rt 68)) := by decide +kernel
theorem om_id68 : om_ick 68 = true := by decide +kernel
theorem om_ic69 : lw_tbl[(om_mix.getD 69 (0, 0, 0, 0)).1]? = some (Cond.code (om_y 69) (om_by 69) (om_ml 69) (om_rt 69)) := by decide +kernel
theorem om_id69 : om_ick 69 = true := by decide +kernel
theorem om_ic70 : lw_tbl[(om_mix.getD 70 (0, 0, 0, 0)).1]? = some (Cond.code (om_y 70) (om_by 70) (om_ml 70) (om_rt 70)) := by decide +kernel
theorem om_id70 : om_ick 70 = true := by decide +kernel
theorem om_ic71 : lw_tbl[(om_mix.getD 71 (0, 0, 0, 0)).1]? = some (Cond.code (om_y 71) (om_by 71) (om_ml 71) (om_rt 71)) := by decide +kernel
theorem om_id71 : om_ick 71 = true := by decide +kernel
theorem om_ic72 : lw_tbl[(om_mix.getD 72 (0, 0, 0, 0)).1]? = some (Cond.code (om_y 72) (om_by 72) (om_ml 72) (om_rt 72)) := by decide +kernel
theorem om_id72 : om_ick 72 = true := by decide +kernel
theorem om_ic73 : lw_tbl[(om_mix.getD 73 (0, 0, 0, 0)).1]? = some (Cond.code (om_y 73) (om_by 73) (om_ml 73) (om_rt 73)) := by decide +kernel
theorem om_id73 : om_ick 73 = true := by decide +kernel
theorem om_ic74 : lw_tbl[(om_mix.getD 74 (0, 0, 0, 0)).1]? = some (Cond.code (om_y 74) (om_by 74) (om_ml 74) (om_rt 74)) := by decide +kernel
theorem om_id74 : om_ick 74 = true := by decide +kernel
theorem om_ic75 : lw_tbl[(om_mix.getD 75 (0, 0, 0, 0)).1]? = some (Cond.code (om_y 75) (om_by 75) (om_ml 75) (om_rt 75)) := by decide +kernel
theorem om_id75 : om_ick 75 = true := by decide +kernel
theorem om_ic76 : lw_tbl[(om_mix.getD 76 (0, 0, 0, 0)).1]? = some (Cond.code (om_y 76) (om_by 76) (om_ml 76) (om_rt 76)) := by decide +kernel
theorem om_id76 : om_ick 76 = true := by decide +kernel
theorem om_ic77 : lw_tbl[(om_mix.getD 77 (0, 0, 0, 0)).1]? = some (Cond.code (om_y 77) (om_by 77) (om_ml 77) (om_rt 77)) := by decide +kernel
theorem om_id77 : om_ick 77 = true := by decide +kernel
theorem om_ic78 : lw_tbl[(om_mix.getD 78 (0, 0, 0, 0)).1]? = some (Cond.code (om_y 78) (om_by 78) (om_ml 78) (om_rt 78)) := by decide +kernel
theorem om_id78 : om_ick 78 = true := by decide +kernel
theorem om_ic79 : lw_tbl[(om_mix.getD 79 (0, 0, 0, 0)).1]? = some (Cond.code (om_y 79) (om_by 79) (om_ml 79) (om_rt 79)) := by decide +kernel
theorem om_id79 : om_ick 79 = true := by decide +kernel
theorem om_ic80 : lw_tbl[(om_mix.getD 80 (0, 0, 0, 0)).1]? = some (Cond.code (om_y 80) (om_by 80) (om_ml 80) (om_rt 80)) := by decide +kernel
theorem om_id80 : om_ick 80 = true := by decide +kernel
theorem om_ic81 : lw_tbl[(om_mix.getD 81 (0, 0, 0, 0)).1]? = some (Cond.code (om_y 81) (om_by 81) (om_ml 81) (om_rt 81)) := by decide +kernel
theorem om_id81 : om_ick 81 = true := by decide +kernel
theorem om_ic82 : lw_tbl[(om_mix.getD 82 (0, 0, 0, 0)).1]? = some (Cond.code (om_y 82) (om_by 82) (om_ml 82) (om_rt 82)) := by decide +kernel
theorem om_id82 : om_ick 82 = true := by decide +kernel
theorem om_ic83 : lw_tbl[(om_mix.getD 83 (0, 0, 0, 0)).1]? = some (Cond.code (om_y 83) (om_by 83) (om_ml 83) (om_rt 83)) := by decide +kernel
theorem om_id83 : om_ick 83 = true := by decide +kernel
theorem om_ic84 : lw_tbl[(om_mix.getD 84 (0, 0, 0, 0)).1]? = some (Cond.code (om_y 84) (om_by 84) (om_ml 84) (om_rt 84)) := by decide +kernel
theorem om_id84 : om_ick 84 = true := by decide +kernel
theorem om_ic85 : lw_tbl[(om_mix.getD 85 (0, 0, 0, 0)).1]? = some (Cond.code (om_y 85) (om_by 85) (om_ml 85) (om_rt 85)) := by decide +kernel
theorem om_id85 : om_ick 85 = true := by decide +kernel
theorem om_ic86 : lw_tbl[(om_mix.getD 86 (0, 0, 0, 0)).1]? = some (Cond.code (om_y 86) (om_by 86) (om_ml 86) (om_rt 86)) := by decide +kernel
theorem om_id86 : om_ick 86 = true := by decide +kernel
theorem om_ic87 : lw_tbl[(om_mix.getD 87 (0, 0, 0, 0)).1]? = some (Cond.code (om_y 87) (om_by 87) (om_ml 87) (om_rt 87)) := by decide +kernel
theorem om_id87 : om_ick 87 = true := by decide +kernel
theorem om_ic88 : lw_tbl[(om_mix.getD 88 (0, 0, 0, 0)).1]? = some (Cond.code (om_y 88) (om_by 88) (om_ml 88) (om_rt 88)) := by decide +kernel
theorem om_id88 : om_ick 88 = true := by decide +kernel
theorem om_ic89 : lw_tbl[(om_mix.getD 89 (0, 0, 0, 0)).1]? = some (Cond.code (om_y 89) (om_by 89) (om_ml 89) (om_rt 89)) := by decide +kernel
theorem om_id89 : om_ick 89 = true := by decide +kernel
theorem om_ic90 : lw_tbl[(om_mix.getD 90 (0, 0, 0, 0)).1]? = some (Cond.code (om_y 90) (om_by 90) (om_ml 90) (om_rt 90)) := by decide +kernel
theorem om_id90 : om_ick 90 = true := by decide +kernel
theorem om_ic91 : lw_tbl[(om_mix.getD 91 (0, 0, 0, 0)).1]? = some (Cond.code (om_y 91) (om_by 91) (om_ml 91) (om_rt 91)) := by decide +kernel
theorem om_id91 : om_ick 91 = true := by decide +kernel
theorem om_ic92 : lw_tbl[(om_mix.getD 92 (0, 0, 0, 0)).1]? = some (Cond.code (om_y 92) (om_by 92) (om_ml 92) (om_rt 92)) := by decide +kernel
theorem om_id92 : om_ick 92 = true := by decide +kernel
theorem om_ic93 : lw_tbl[(om_mix.getD 93 (0, 0, 0, 0)).1]? = some (Cond.code (om_y 93) (om_by 93) (om_ml 93) (om_rt 93)) := by decide +kernel
theorem om_id93 : om_ick 93 = true := by decide +kernel
theorem om_ic94 : lw_tbl[(om_mix.getD 94 (0, 0, 0, 0)).1]? = some (Cond.code (om_y 94) (om_by 94) (om_ml 94) (om_rt 94)) := by decide +kernel
theorem om_id94 : om_ick 94 = true := by decide +kernel
theorem om_ic95 : lw_tbl[(om_mix.getD 95 (0, 0, 0, 0)).1]? = some (Cond.code (om_y 95) (om_by 95) (om_ml 95) (om_rt 95)) := by decide +kernel
theorem om_id95 : om_ick 95 = true := by decide +kernel
theorem om_ic96 : lw_tbl[(om_mix.getD 96 (0, 0, 0, 0)).1]? = some (Cond.code (om_y 96) (om_by 96) (om_ml 96) (om_rt 96)) := by decide +kernel
theorem om_id96 : om_ick 96 = true := by decide +kernel
theorem om_ic97 : lw_tbl[(om_mix.getD 97 (0, 0, 0, 0)).1]? = some (Cond.code (om_y 97) (om_by 97) (om_ml 97) (om_rt 97)) := by decide +kernel
theorem om_id97 : om_ick 97 = true := by decide +kernel
theorem om_ic98 : lw_tbl[(om_mix.getD 98 (0, 0, 0, 0)).1]? = some (Cond.code (om_y 98) (om_by 98) (om_ml 98) (om_rt 98)) := by decide +kernel
theorem om_id98 : om_ick 98 = true := by decide +kernel
theorem om_ic99 : lw_tbl[(om_mix.getD 99 (0, 0, 0, 0)).1]? = some (Cond.code (om_y 99) (om_by 99) (om_ml 99) (om_rt 99)) := by decide +kernel
theorem om_id99 : om_ick 99 = true := by decide +kernel
theorem om_ic100 : lw_tbl[(om_mix.getD 100 (0, 0, 0, 0)).1]? = some (Cond.code (om_y 100) (om_by 100) (om_ml 100) (om_rt 100)) := by decide +kernel
theorem om_id100 : om_ick 100 = true := by decide +kernel
theorem om_ic101 : lw_tbl[(om_mix.getD 101 (0, 0, 0, 0)).1]? = some (Cond.code (om_y 101) (om_by 101) (om_ml 101) (om_rt 101)) := by decide +kernel
theorem om_id101 : om_ick 101 = true := by decide +kernel
theorem om_ic102 : lw_tbl[(om_mix.getD 102 (0, 0, 0, 0)).1]? = some (Cond.code (om_y 102) (om_by 102) (om_ml 102) (om_rt 102)) := by decide +kernel
theorem om_id102 : om_ick 102 = true := by decide +kernel
theorem om_ic103 : lw_tbl[(om_mix.getD 103 (0, 0, 0, 0)).1]? = some (Cond.code (om_y 103) (om_by 103) (om_ml 103) (om_rt 103)) := by decide +kernel
theorem om_id103 : om_ick 103 = true := by decide +kernel
theorem om_ic104 : lw_tbl[(om_mix.getD 104 (0, 0, 0, 0)).1]? = some (Cond.code (om_y 104) (om_by 104) (om_ml 104) (om_rt 104)) := by decide +kernel
theorem om_id104 : om_ick 104 = true := by decide +kernel
theorem om_ic105 : lw_tbl[(om_mix.getD 105 (0, 0, 0, 0)).1]? = some (Cond.code (om_y 105) (om_by 105) (om_ml 105) (om_rt 105)) := by decide +kernel
theorem om_id105 : om_ick 105 = true := by decide +kernel
theorem om_ic106 : lw_tbl[(om_mix.getD 106 (0, 0, 0, 0)).1]? = some (Cond.code (om_y 106) (om_by 106) (om_ml 106) (om_rt 106)) := by decide +kernel
theorem om_id106 : om_ick 106 = true := by decide +kernel
theorem om_ic107 : lw_tbl[(om_mix.getD 107 (0, 0, 0, 0)).1]? = some (Cond.code (om_y 107) (om_by 107) (om_ml 107) (om_rt 107)) := by decide +kernel
theorem om_id107 : om_ick 107 = true := by decide +kernel
theorem om_ic108 : lw_tbl[(om_mix.getD 108 (0, 0, 0, 0)).1]? = some (Cond.code (om_y 108) (om_by 108) (om_ml 108) (om_rt 108)) := by decide +kernel
theorem om_id108 : om_ick 108 = true := by decide +kernel
theorem om_ic109 : lw_tbl[(om_mix.getD 109 (0, 0, 0, 0)).1]? = some (Cond.code (om_y 109) (om_by 109) (om_ml 109) (om_rt 109)) := by decide +kernel
theorem om_id109 : om_ick 109 = true := by decide +kernel
theorem om_ic110 : lw_tbl[(om_mix.getD 110 (0, 0, 0, 0)).1]? = some (Cond.code (om_y 110) (om_by 110) (om_ml 110) (om_rt 110)) := by decide +kernel
theorem om_id110 : om_ick 110 = true := by decide +kernel
theorem om_ic111 : lw_tbl[(om_mix.getD 111 (0, 0, 0, 0)).1]? = some (Cond.code (om_y 111) (om_by 111) (om_ml 111) (om_rt 111)) := by decide +kernel
theorem om_id111 : om_ick 111 = true := by decide +kernel
theorem om_ic112 : lw_tbl[(om_mix.getD 112 (0, 0, 0, 0)).1]? = some (Cond.code (om_y 112) (om_by 112) (om_ml 112) (om_rt 112)) := by decide +kernel
theorem om_id112 : om_ick 112 = true := by decide +kernel
theorem om_ic113 : lw_tbl[(om_mix.getD 113 (0, 0, 0, 0)).1]? = some (Cond.code (om_y 113) (om_by 113) (om_ml 113) (om_rt 113)) := by decide +kernel
theorem om_id113 : om_ick 113 = true := by decide +kernel
theorem om_ic114 : lw_tbl[(om_mix.getD 114 (0, 0, 0, 0)).1]? = some (Cond.code (om_y 114) (om_by 114) (om_ml 114) (om_rt 114)) := by decide +kernel
theorem om_id114 : om_ick 114 = true := by decide +kernel
theorem om_ic115 : lw_tbl[(om_mix.getD 115 (0, 0, 0, 0)).1]? = some (Cond.code (om_y 115) (om_by 115) (om_ml 115) (om_rt 115)) := by decide +kernel
theorem om_id115 : om_ick 115 = true := by decide +kernel
theorem om_ic116 : lw_tbl[(om_mix.getD 116 (0, 0, 0, 0)).1]? = some (Cond.code (om_y 116) (om_by 116) (om_ml 116) (om_rt 116)) := by decide +kernel
theorem om_id116 : om_ick 116 = true := by decide +kernel
theorem om_ic117 : lw_tbl[(om_mix.getD 117 (0, 0, 0, 0)).1]? = some (Cond.code (om_y 117) (om_by 117) (om_ml 117) (om_rt 117)) := by decide +kernel
theorem om_id117 : om_ick 117 = true := by decide +kernel
theorem om_ic118 : lw_tbl[(om_mix.getD 118 (0, 0, 0, 0)).1]? = some (Cond.code (om_y 118) (om_by 118) (om_ml 118) (om_rt 118)) := by decide +kernel
theorem om_id118 : om_ick 118 = true := by decide +kernel
theorem om_ic119 : lw_tbl[(om_mix.getD 119 (0, 0, 0, 0)).1]? = some (Cond.code (om_y 119) (om_by 119) (om_ml 119) (om_rt 119)) := by decide +kernel
theorem om_id119 : om_ick 119 = true := by decide +kernel
theorem om_ic120 : lw_tbl[(om_mix.getD 120 (0, 0, 0, 0)).1]? = some (Cond.code (om_y 120) (om_by 120) (om_ml 120) (om_rt 120)) := by decide +kernel
theorem om_id120 : om_ick 120 = true := by decide +kernel
theorem om_ic121 : lw_tbl[(om_mix.getD 121 (0, 0, 0, 0)).1]? = some (Cond.code (om_y 121) (om_by 121) (om_ml 121) (om_rt 121)) := by decide +kernel
theorem om_id121 : om_ick 121 = true := by decide +kernel
theorem om_ic122 : lw_tbl[(om_mix.getD 122 (0, 0, 0, 0)).1]? = some (Cond.code (om_y 122) (om_by 122) (om_ml 122) (om_rt 122)) := by decide +kernel
theorem om_id122 : om_ick 122 = true := by decide +kernel
theorem om_ic123 : lw_tbl[(om_mix.getD 123 (0, 0, 0, 0)).1]? = some (Cond.code (om_y 123) (om_by 123) (om_ml 123) (om_rt 123)) := by decide +kernel
theorem om_id123 : om_ick 123 = true := by decide +kernel
theorem om_ic124 : lw_tbl[(om_mix.getD 124 (0, 0, 0, 0)).1]? = some (Cond.code (om_y 124) (om_by 124) (om_ml 124) (om_rt 124)) := by decide +kernel
theorem om_id124 : om_ick 124 = true := by decide +kernel
theorem om_ic125 : lw_tbl[(om_mix.getD 125 (0, 0, 0, 0)).1]? = some (Cond.code (om_y 125) (om_by 125) (om_ml 125) (om_rt 125)) := by decide +kernel
theorem om_id125 : om_ick 125 = true := by decide +kernel
theorem om_ic126 : lw_tbl[(om_mix.getD 126 (0, 0, 0, 0)).1]? = some (Cond.code (om_y 126) (om_by 126) (om_ml 126) (om_rt 126)) := by decide +kernel
theorem om_id126 : om_ick 126 = true := by decide +kernel
theorem om_ic127 : lw_tbl[(om_mix.getD 127 (0, 0, 0, 0)).1]? = some (Cond.code (om_y 127) (om_by 127) (om_ml 127) (om_rt 127)) := by decide +kernel
theorem om_id127 : om_ick 127 = true := by decide +kernel
theorem om_ic128 : lw_tbl[(om_mix.getD 128 (0, 0, 0, 0)).1]? = some (Cond.code (om_y 128) (om_by 128) (om_ml 128) (om_rt 128)) := by decide +kernel
theorem om_id128 : om_ick 128 = true := by decide +kernel
theorem om_ic129 : lw_tbl[(om_mix.getD 129 (0, 0, 0, 0)).1]? = some (Cond.code (om_y 129) (om_by 129) (om_ml 129) (om_rt 129)) := by decide +kernel
theorem om_id129 : om_ick 129 = true := by decide +kernel
theorem om_ic130 : lw_tbl[(om_mix.getD 130 (0, 0, 0, 0)).1]? = some (Cond.code (om_y 130) (om_by 130) (om_ml 130) (om_rt 130)) := by decide +kernel
theorem om_id130 : om_ick 130 = true := by decide +kernel
theorem om_ic131 : lw_tbl[(om_mix.getD 131 (0, 0, 0, 0)).1]? = some (Cond.code (om_y 131) (om_by 131) (om_ml 131) (om_rt 131)) := by decide +kernel
theorem om_id131 : om_ick 131 = true := by decide +kernel
theorem om_ic132 : lw_tbl[(om_mix.getD 132 (0, 0, 0, 0)).1]? = some (Cond.code (om_y 132) (om_by 132) (om_ml 132) (om_rt 132)) := by decide +kernel
theorem om_id132 : om_ick 132 = true := by decide +kernel
theorem om_ic133 : lw_tbl[(om_mix.getD 133 (0, 0, 0, 0)).1]? = some (Cond.code (om_y 133) (om_by 133) (om_ml 133) (om_rt 133)) := by decide +kernel
theorem om_id133 : om_ick 133 = true := by decide +kernel
theorem om_ic134 : lw_tbl[(om_mix.getD 134 (0, 0, 0, 0)).1]? = some (Cond.code (om_y 134) (om_by 134) (om_ml 134) (om_rt 134)) := by decide +kernel
theorem om_id134 : om_ick 134 = true := by decide +kernel
theorem om_ic135 : lw_tbl[(om_mix.getD 135 (0, 0, 0, 0)).1]? = some (Cond.code (om_y 135) (om_by 135) (om_ml 135) (om_rt 135)) := by decide +kernel
theorem om_id135 : om_ick 135 = true := by decide +kernel
theorem om_ic136 : lw_tbl[(om_mix.getD 136 (0, 0, 0, 0)).1]? = some (Cond.code (om_y 136) (om_by 136) (om_ml 136) (om_rt 136)) := by decide +kernel
theorem om_id136 : om_ick 136 = true := by decide +kernel
theorem om_ic137 : lw_tbl[(om_mix.getD 137 (0, 0, 0, 0)).1]? = some (Cond.code (om_y 137) (om_by 137) (om_ml 137) (om_rt 137)) := by decide +kernel
theorem om_id137 : om_ick 137 = true := by decide +kernel
theorem om_ic138 : lw_tbl[(om_mix.getD 138 (0, 0, 0, 0)).1]? = some (Cond.code (om_y 138) (om_by 138) (om_ml 138) (om_rt 138)) := by decide +kernel
theorem om_id138 : om_ick 138 = true := by decide +kernel
theorem om_ic139 : lw_tbl[(om_mix.getD 139 (0, 0, 0, 0)).1]? = some (Cond.code (om_y 139) (om_by 139) (om_ml 139) (om_rt 139)) := by decide +kernel
theorem om_id139 : om_ick 139 = true := by decide +kernel
theorem om_ic140 : lw_tbl[(om_mix.getD 140 (0, 0, 0, 0)).1]? = some (Cond.code (om_y 140) (om_by 140) (om_ml 140) (om_rt 140)) := by decide +kernel
theorem om_id140 : om_ick 140 = true := by decide +kernel
theorem om_ic141 : lw_tbl[(om_mix.getD 141 (0, 0, 0, 0)).1]? = some (Cond.code (om_y 141) (om_by 141) (om_ml 141) (om_rt 141)) := by decide +kernel
theorem om_id141 : om_ick 141 = true := by decide +kernel
theorem om_ic142 : lw_tbl[(om_mix.getD 142 (0, 0, 0, 0)).1]? = some (Cond.code (om_y 142) (om_by 142) (om_ml 142) (om_rt 142)) := by decide +kernel
theorem om_id142 : om_ick 142 = true := by decide +kernel
theorem om_ic143 : lw_tbl[(om_mix.getD 143 (0, 0, 0, 0)).1]? = some (Cond.code (om_y 143) (om_by 143) (om_ml 143) (om_rt 143)) := by decide +kernel
theorem om_id143 : om_ick 143 = true := by decide +kernel
theorem om_ic144 : lw_tbl[(om_mix.getD 144 (0, 0, 0, 0)).1]? = some (Cond.code (om_y 144) (om_by 144) (om_ml 144) (om_rt 144)) := by decide +kernel
theorem om_id144 : om_ick 144 = true := by decide +kernel
theorem om_ic145 : lw_tbl[(om_mix.getD 145 (0, 0, 0, 0)).1]? = some (Cond.code (om_y 145) (om_by 145) (om_ml 145) (om_rt 145)) := by decide +kernel
theorem om_id145 : om_ick 145 = true := by decide +kernel
theorem om_ic146 : lw_tbl[(om_mix.getD 146 (0, 0, 0, 0)).1]? = some (Cond.code (om_y 146) (om_by 146) (om_ml 146) (om_rt 146)) := by decide +kernel
theorem om_id146 : om_ick 146 = true := by decide +kernel
theorem om_ic147 : lw_tbl[(om_mix.getD 147 (0, 0, 0, 0)).1]? = some (Cond.code (om_y 147) (om_by 147) (om_ml 147) (om_rt 147)) := by decide +kernel
theorem om_id147 : om_ick 147 = true := by decide +kernel
theorem om_ic148 : lw_tbl[(om_mix.getD 148 (0, 0, 0, 0)).1]? = some (Cond.code (om_y 148) (om_by 148) (om_ml 148) (om_rt 148)) := by decide +kernel
theorem om_id148 : om_ick 148 = true := by decide +kernel
theorem om_ic149 : lw_tbl[(om_mix.getD 149 (0, 0, 0, 0)).1]? = some (Cond.code (om_y 149) (om_by 149) (om_ml 149) (om_rt 149)) := by decide +kernel
theorem om_id149 : om_ick 149 = true := by decide +kernel
theorem om_ic150 : lw_tbl[(om_mix.getD 150 (0, 0, 0, 0)).1]? = some (Cond.code (om_y 150) (om_by 150) (om_ml 150) (om_rt 150)) := by decide +kernel
theorem om_id150 : om_ick 150 = true := by decide +kernel
theorem om_ic151 : lw_tbl[(om_mix.getD 151 (0, 0, 0, 0)).1]? = some (Cond.code (om_y 151) (om_by 151) (om_ml 151) (om_rt 151)) := by decide +kernel
theorem om_id151 : om_ick 151 = true := by decide +kernel
theorem om_ic152 : lw_tbl[(om_mix.getD 152 (0, 0, 0, 0)).1]? = some (Cond.code (om_y 152) (om_by 152) (om_ml 152) (om_rt 152)) := by decide +kernel
theorem om_id152 : om_ick 152 = true := by decide +kernel
theorem om_ic153 : lw_tbl[(om_mix.getD 153 (0, 0, 0, 0)).1]? = some (Cond.code (om_y 153) (om_by 153) (om_ml 153) (om_rt 153)) := by decide +kernel
theorem om_id153 : om_ick 153 = true := by decide +kernel
theorem om_ic154 : lw_tbl[(om_mix.getD 154 (0, 0, 0, 0)).1]? = some (Cond.code (om_y 154) (om_by 154) (om_ml 154) (om_rt 154)) := by decide +kernel
theorem om_id154 : om_ick 154 = true := by decide +kernel
theorem om_ic155 : lw_tbl[(om_mix.getD 155 (0, 0, 0, 0)).1]? = some (Cond.code (om_y 155) (om_by 155) (om_ml 155) (om_rt 155)) := by decide +kernel
theorem om_id155 : om_ick 155 = true := by decide +kernel
theorem om_ic156 : lw_tbl[(om_mix.getD 156 (0, 0, 0, 0)).1]? = some (Cond.code (om_y 156) (om_by 156) (om_ml 156) (om_rt 156)) := by decide +kernel
theorem om_id156 : om_ick 156 = true := by decide +kernel
theorem om_ic157 : lw_tbl[(om_mix.getD 157 (0, 0, 0, 0)).1]? = some (Cond.code (om_y 157) (om_by 157) (om_ml 157) (om_rt 157)) := by decide +kernel
theorem om_id157 : om_ick 157 = true := by decide +kernel
theorem om_ic158 : lw_tbl[(om_mix.getD 158 (0, 0, 0, 0)).1]? = some (Cond.code (om_y 158) (om_by 158) (om_ml 158) (om_rt 158)) := by decide +kernel
theorem om_id158 : om_ick 158 = true := by decide +kernel
theorem om_ic159 : lw_tbl[(om_mix.getD 159 (0, 0, 0, 0)).1]? = some (Cond.code (om_y 159) (om_by 159) (om_ml 159) (om_rt 159)) := by decide +kernel
theorem om_id159 : om_ick 159 = true := by decide +kernel
def om_lck (ci : Nat) : Bool := (List.range (om_fN ci)).all (fun k => om_at ((om_lyx.getD ci []).getD k 0) (u_lay (om_cn ci) (om_fT ci) k))
  && (match om_nwx.getD ci (0, 0) with | (a, b) => om_at a (Cond.instantiable (om_cn ci) (om_fN ci)) && om_at b (Cond.initialized (om_cn ci)))
theorem om_lok1 : (List.range 10).all om_lck = true := by decide +kernel
def om_rck (mi : Nat) : Bool := match om_rk mi, om_rt mi with
  | 0, none => true
  | 1, some .int => true
  | 2, some .boolean => true
  | 3, some .char => true
  | 4, some (.object _) => true
  | _, _ => false
theorem om_rok1 : (List.range 160).all om_rck = true := by decide +kernel
theorem om_ic {mi : Nat} (h0 : 0 < mi) (h1 : mi < 160) (h2 : mi ≠ 33) : Cond.code (om_y mi) (om_by mi) (om_ml mi) (om_rt mi) ∈ lw_tbl ∧ om_ick mi = true := by
  match mi, h0, h1, h2 with
  | 1, _, _, _ => exact ⟨List.mem_of_getElem? om_ic1, om_id1⟩
  | 2, _, _, _ => exact ⟨List.mem_of_getElem? om_ic2, om_id2⟩
  | 3, _, _, _ => exact ⟨List.mem_of_getElem? om_ic3, om_id3⟩
  | 4, _, _, _ => exact ⟨List.mem_of_getElem? om_ic4, om_id4⟩
  | 5, _, _, _ => exact ⟨List.mem_of_getElem? om_ic5, om_id5⟩
  | 6, _, _, _ => exact ⟨List.mem_of_getElem? om_ic6, om_id6⟩
  | 7, _, _, _ => exact ⟨List.mem_of_getElem? om_ic7, om_id7⟩
  | 8, _, _, _ => exact ⟨List.mem_of_getElem? om_ic8, om_id8⟩
  | 9, _, _, _ => exact ⟨List.mem_of_getElem? om_ic9, om_id9⟩
  | 10, _, _, _ => exact ⟨List.mem_of_getElem? om_ic10, om_id10⟩
  | 11, _, _, _ => exact ⟨List.mem_of_getElem? om_ic11, om_id11⟩
  | 12, _, _, _ => exact ⟨List.mem_of_getElem? om_ic12, om_id12⟩
  | 13, _, _, _ => exact ⟨List.mem_of_getElem? om_ic13, om_id13⟩
  | 14, _, _, _ => exact ⟨List.mem_of_getElem? om_ic14, om_id14⟩
  | 15, _, _, _ => exact ⟨List.mem_of_getElem? om_ic15, om_id15⟩
  | 16, _, _, _ => exact ⟨List.mem_of_getElem? om_ic16, om_id16⟩
  | 17, _, _, _ => exact ⟨List.mem_of_getElem? om_ic17, om_id17⟩
  | 18, _, _, _ => exact ⟨List.mem_of_getElem? om_ic18, om_id18⟩
  | 19, _, _, _ => exact ⟨List.mem_of_getElem? om_ic19, om_id19⟩
  | 20, _, _, _ => exact ⟨List.mem_of_getElem? om_ic20, om_id20⟩
  | 21, _, _, _ => exact ⟨List.mem_of_getElem? om_ic21, om_id21⟩
  | 22, _, _, _ => exact ⟨List.mem_of_getElem? om_ic22, om_id22⟩
  | 23, _, _, _ => exact ⟨List.mem_of_getElem? om_ic23, om_id23⟩
  | 24, _, _, _ => exact ⟨List.mem_of_getElem? om_ic24, om_id24⟩
  | 25, _, _, _ => exact ⟨List.mem_of_getElem? om_ic25, om_id25⟩
  | 26, _, _, _ => exact ⟨List.mem_of_getElem? om_ic26, om_id26⟩
  | 27, _, _, _ => exact ⟨List.mem_of_getElem? om_ic27, om_id27⟩
  | 28, _, _, _ => exact ⟨List.mem_of_getElem? om_ic28, om_id28⟩
  | 29, _, _, _ => exact ⟨List.mem_of_getElem? om_ic29, om_id29⟩
  | 30, _, _, _ => exact ⟨List.mem_of_getElem? om_ic30, om_id30⟩
  | 31, _, _, _ => exact ⟨List.mem_of_getElem? om_ic31, om_id31⟩
  | 32, _, _, _ => exact ⟨List.mem_of_getElem? om_ic32, om_id32⟩
  | 33, _, _, h => exact absurd rfl h
  | 34, _, _, _ => exact ⟨List.mem_of_getElem? om_ic34, om_id34⟩
  | 35, _, _, _ => exact ⟨List.mem_of_getElem? om_ic35, om_id35⟩
  | 36, _, _, _ => exact ⟨List.mem_of_getElem? om_ic36, om_id36⟩
  | 37, _, _, _ => exact ⟨List.mem_of_getElem? om_ic37, om_id37⟩
  | 38, _, _, _ => exact ⟨List.mem_of_getElem? om_ic38, om_id38⟩
  | 39, _, _, _ => exact ⟨List.mem_of_getElem? om_ic39, om_id39⟩
  | 40, _, _, _ => exact ⟨List.mem_of_getElem? om_ic40, om_id40⟩
  | 41, _, _, _ => exact ⟨List.mem_of_getElem? om_ic41, om_id41⟩
  | 42, _, _, _ => exact ⟨List.mem_of_getElem? om_ic42, om_id42⟩
  | 43, _, _, _ => exact ⟨List.mem_of_getElem? om_ic43, om_id43⟩
  | 44, _, _, _ => exact ⟨List.mem_of_getElem? om_ic44, om_id44⟩
  | 45, _, _, _ => exact ⟨List.mem_of_getElem? om_ic45, om_id45⟩
  | 46, _, _, _ => exact ⟨List.mem_of_getElem? om_ic46, om_id46⟩
  | 47, _, _, _ => exact ⟨List.mem_of_getElem? om_ic47, om_id47⟩
  | 48, _, _, _ => exact ⟨List.mem_of_getElem? om_ic48, om_id48⟩
  | 49, _, _, _ => exact ⟨List.mem_of_getElem? om_ic49, om_id49⟩
  | 50, _, _, _ => exact ⟨List.mem_of_getElem? om_ic50, om_id50⟩
  | 51, _, _, _ => exact ⟨List.mem_of_getElem? om_ic51, om_id51⟩
  | 52, _, _, _ => exact ⟨List.mem_of_getElem? om_ic52, om_id52⟩
  | 53, _, _, _ => exact ⟨List.mem_of_getElem? om_ic53, om_id53⟩
  | 54, _, _, _ => exact ⟨List.mem_of_getElem? om_ic54, om_id54⟩
  | 55, _, _, _ => exact ⟨List.mem_of_getElem? om_ic55, om_id55⟩
  | 56, _, _, _ => exact ⟨List.mem_of_getElem? om_ic56, om_id56⟩
  | 57, _, _, _ => exact ⟨List.mem_of_getElem? om_ic57, om_id57⟩
  | 58, _, _, _ => exact ⟨List.mem_of_getElem? om_ic58, om_id58⟩
  | 59, _, _, _ => exact ⟨List.mem_of_getElem? om_ic59, om_id59⟩
  | 60, _, _, _ => exact ⟨List.mem_of_getElem? om_ic60, om_id60⟩
  | 61, _, _, _ => exact ⟨List.mem_of_getElem? om_ic61, om_id61⟩
  | 62, _, _, _ => exact ⟨List.mem_of_getElem? om_ic62, om_id62⟩
  | 63, _, _, _ => exact ⟨List.mem_of_getElem? om_ic63, om_id63⟩
  | 64, _, _, _ => exact ⟨List.mem_of_getElem? om_ic64, om_id64⟩
  | 65, _, _, _ => exact ⟨List.mem_of_getElem? om_ic65, om_id65⟩
  | 66, _, _, _ => exact ⟨List.mem_of_getElem? om_ic66, om_id66⟩
  | 67, _, _, _ => exact ⟨List.mem_of_getElem? om_ic67, om_id67⟩
  | 68, _, _, _ => exact ⟨List.mem_of_getElem? om_ic68, om_id68⟩
  | 69, _, _, _ => exact ⟨List.mem_of_getElem? om_ic69, om_id69⟩
  | 70, _, _, _ => exact ⟨List.mem_of_getElem? om_ic70, om_id70⟩
  | 71, _, _, _ => exact ⟨List.mem_of_getElem? om_ic71, om_id71⟩
  | 72, _, _, _ => exact ⟨List.mem_of_getElem? om_ic72, om_id72⟩
  | 73, _, _, _ => exact ⟨List.mem_of_getElem? om_ic73, om_id73⟩
  | 74, _, _, _ => exact ⟨List.mem_of_getElem? om_ic74, om_id74⟩
  | 75, _, _, _ => exact ⟨List.mem_of_getElem? om_ic75, om_id75⟩
  | 76, _, _, _ => exact ⟨List.mem_of_getElem? om_ic76, om_id76⟩
  | 77, _, _, _ => exact ⟨List.mem_of_getElem? om_ic77, om_id77⟩
  | 78, _, _, _ => exact ⟨List.mem_of_getElem? om_ic78, om_id78⟩
  | 79, _, _, _ => exact ⟨List.mem_of_getElem? om_ic79, om_id79⟩
  | 80, _, _, _ => exact ⟨List.mem_of_getElem? om_ic80, om_id80⟩
  | 81, _, _, _ => exact ⟨List.mem_of_getElem? om_ic81, om_id81⟩
  | 82, _, _, _ => exact ⟨List.mem_of_getElem? om_ic82, om_id82⟩
  | 83, _, _, _ => exact ⟨List.mem_of_getElem? om_ic83, om_id83⟩
  | 84, _, _, _ => exact ⟨List.mem_of_getElem? om_ic84, om_id84⟩
  | 85, _, _, _ => exact ⟨List.mem_of_getElem? om_ic85, om_id85⟩
  | 86, _, _, _ => exact ⟨List.mem_of_getElem? om_ic86, om_id86⟩
  | 87, _, _, _ => exact ⟨List.mem_of_getElem? om_ic87, om_id87⟩
  | 88, _, _, _ => exact ⟨List.mem_of_getElem? om_ic88, om_id88⟩
  | 89, _, _, _ => exact ⟨List.mem_of_getElem? om_ic89, om_id89⟩
  | 90, _, _, _ => exact ⟨List.mem_of_getElem? om_ic90, om_id90⟩
  | 91, _, _, _ => exact ⟨List.mem_of_getElem? om_ic91, om_id91⟩
  | 92, _, _, _ => exact ⟨List.mem_of_getElem? om_ic92, om_id92⟩
  | 93, _, _, _ => exact ⟨List.mem_of_getElem? om_ic93, om_id93⟩
  | 94, _, _, _ => exact ⟨List.mem_of_getElem? om_ic94, om_id94⟩
  | 95, _, _, _ => exact ⟨List.mem_of_getElem? om_ic95, om_id95⟩
  | 96, _, _, _ => exact ⟨List.mem_of_getElem? om_ic96, om_id96⟩
  | 97, _, _, _ => exact ⟨List.mem_of_getElem? om_ic97, om_id97⟩
  | 98, _, _, _ => exact ⟨List.mem_of_getElem? om_ic98, om_id98⟩
  | 99, _, _, _ => exact ⟨List.mem_of_getElem? om_ic99, om_id99⟩
  | 100, _, _, _ => exact ⟨List.mem_of_getElem? om_ic100, om_id100⟩
  | 101, _, _, _ => exact ⟨List.mem_of_getElem? om_ic101, om_id101⟩
  | 102, _, _, _ => exact ⟨List.mem_of_getElem? om_ic102, om_id102⟩
  | 103, _, _, _ => exact ⟨List.mem_of_getElem? om_ic103, om_id103⟩
  | 104, _, _, _ => exact ⟨List.mem_of_getElem? om_ic104, om_id104⟩
  | 105, _, _, _ => exact ⟨List.mem_of_getElem? om_ic105, om_id105⟩
  | 106, _, _, _ => exact ⟨List.mem_of_getElem? om_ic106, om_id106⟩
  | 107, _, _, _ => exact ⟨List.mem_of_getElem? om_ic107, om_id107⟩
  | 108, _, _, _ => exact ⟨List.mem_of_getElem? om_ic108, om_id108⟩
  | 109, _, _, _ => exact ⟨List.mem_of_getElem? om_ic109, om_id109⟩
  | 110, _, _, _ => exact ⟨List.mem_of_getElem? om_ic110, om_id110⟩
  | 111, _, _, _ => exact ⟨List.mem_of_getElem? om_ic111, om_id111⟩
  | 112, _, _, _ => exact ⟨List.mem_of_getElem? om_ic112, om_id112⟩
  | 113, _, _, _ => exact ⟨List.mem_of_getElem? om_ic113, om_id113⟩
  | 114, _, _, _ => exact ⟨List.mem_of_getElem? om_ic114, om_id114⟩
  | 115, _, _, _ => exact ⟨List.mem_of_getElem? om_ic115, om_id115⟩
  | 116, _, _, _ => exact ⟨List.mem_of_getElem? om_ic116, om_id116⟩
  | 117, _, _, _ => exact ⟨List.mem_of_getElem? om_ic117, om_id117⟩
  | 118, _, _, _ => exact ⟨List.mem_of_getElem? om_ic118, om_id118⟩
  | 119, _, _, _ => exact ⟨List.mem_of_getElem? om_ic119, om_id119⟩
  | 120, _, _, _ => exact ⟨List.mem_of_getElem? om_ic120, om_id120⟩
  | 121, _, _, _ => exact ⟨List.mem_of_getElem? om_ic121, om_id121⟩
  | 122, _, _, _ => exact ⟨List.mem_of_getElem? om_ic122, om_id122⟩
  | 123, _, _, _ => exact ⟨List.mem_of_getElem? om_ic123, om_id123⟩
  | 124, _, _, _ => exact ⟨List.mem_of_getElem? om_ic124, om_id124⟩
  | 125, _, _, _ => exact ⟨List.mem_of_getElem? om_ic125, om_id125⟩
  | 126, _, _, _ => exact ⟨List.mem_of_getElem? om_ic126, om_id126⟩
  | 127, _, _, _ => exact ⟨List.mem_of_getElem? om_ic127, om_id127⟩
  | 128, _, _, _ => exact ⟨List.mem_of_getElem? om_ic128, om_id128⟩
  | 129, _, _, _ => exact ⟨List.mem_of_getElem? om_ic129, om_id129⟩
  | 130, _, _, _ => exact ⟨List.mem_of_getElem? om_ic130, om_id130⟩
  | 131, _, _, _ => exact ⟨List.mem_of_getElem? om_ic131, om_id131⟩
  | 132, _, _, _ => exact ⟨List.mem_of_getElem? om_ic132, om_id132⟩
  | 133, _, _, _ => exact ⟨List.mem_of_getElem? om_ic133, om_id133⟩
  | 134, _, _, _ => exact ⟨List.mem_of_getElem? om_ic134, om_id134⟩
  | 135, _, _, _ => exact ⟨List.mem_of_getElem? om_ic135, om_id135⟩
  | 136, _, _, _ => exact ⟨List.mem_of_getElem? om_ic136, om_id136⟩
  | 137, _, _, _ => exact ⟨List.mem_of_getElem? om_ic137, om_id137⟩
  | 138, _, _, _ => exact ⟨List.mem_of_getElem? om_ic138, om_id138⟩
  | 139, _, _, _ => exact ⟨List.mem_of_getElem? om_ic139, om_id139⟩
  | 140, _, _, _ => exact ⟨List.mem_of_getElem? om_ic140, om_id140⟩
  | 141, _, _, _ => exact ⟨List.mem_of_getElem? om_ic141, om_id141⟩
  | 142, _, _, _ => exact ⟨List.mem_of_getElem? om_ic142, om_id142⟩
  | 143, _, _, _ => exact ⟨List.mem_of_getElem? om_ic143, om_id143⟩
  | 144, _, _, _ => exact ⟨List.mem_of_getElem? om_ic144, om_id144⟩
  | 145, _, _, _ => exact ⟨List.mem_of_getElem? om_ic145, om_id145⟩
  | 146, _, _, _ => exact ⟨List.mem_of_getElem? om_ic146, om_id146⟩
  | 147, _, _, _ => exact ⟨List.mem_of_getElem? om_ic147, om_id147⟩
  | 148, _, _, _ => exact ⟨List.mem_of_getElem? om_ic148, om_id148⟩
  | 149, _, _, _ => exact ⟨List.mem_of_getElem? om_ic149, om_id149⟩
  | 150, _, _, _ => exact ⟨List.mem_of_getElem? om_ic150, om_id150⟩
  | 151, _, _, _ => exact ⟨List.mem_of_getElem? om_ic151, om_id151⟩
  | 152, _, _, _ => exact ⟨List.mem_of_getElem? om_ic152, om_id152⟩
  | 153, _, _, _ => exact ⟨List.mem_of_getElem? om_ic153, om_id153⟩
  | 154, _, _, _ => exact ⟨List.mem_of_getElem? om_ic154, om_id154⟩
  | 155, _, _, _ => exact ⟨List.mem_of_getElem? om_ic155, om_id155⟩
  | 156, _, _, _ => exact ⟨List.mem_of_getElem? om_ic156, om_id156⟩
  | 157, _, _, _ => exact ⟨List.mem_of_getElem? om_ic157, om_id157⟩
  | 158, _, _, _ => exact ⟨List.mem_of_getElem? om_ic158, om_id158⟩
  | 159, _, _, _ => exact ⟨List.mem_of_getElem? om_ic159, om_id159⟩
  | n + 160, _, h, _ => exact absurd h (by omega)
end
section
/-! ints -/
theorem om_ti {z : Int} (h : om_Z z) : (Int32.ofInt z).toInt = z := by
  have e : (Int32.size : Int) = 4294967296 := rfl
  rw [Int32.toInt_ofInt]
  exact Int.bmod_eq_of_le (by have := h.1; omega) (by have := h.2; omega)
theorem om_els {a b : Int} (h0 : 0 ≤ a) (hb : 0 < b) : a % b ≤ a := by
  have h1 := Int.mul_ediv_add_emod a b
  have h2 : 0 ≤ b * (a / b) := Int.mul_nonneg (Int.le_of_lt hb) (Int.ediv_nonneg h0 (Int.le_of_lt hb))
  omega
theorem om_zi (x : Int32) : om_Z x.toInt := by
  have h1 := Int32.le_toInt x
  have h2 := Int32.toInt_lt x
  exact ⟨by omega, by omega⟩
theorem om_oi (x : Int32) : Int32.ofInt x.toInt = x := Int32.ofInt_toInt x
theorem om_lt {a b : Int} (ha : om_Z a) (hb : om_Z b) : Int32.ofInt a < Int32.ofInt b ↔ a < b := by
  rw [Int32.lt_iff_toInt_lt, om_ti ha, om_ti hb]
theorem om_le {a b : Int} (ha : om_Z a) (hb : om_Z b) : Int32.ofInt a ≤ Int32.ofInt b ↔ a ≤ b := by
  rw [Int32.le_iff_toInt_le, om_ti ha, om_ti hb]
theorem om_eq {a b : Int} (ha : om_Z a) (hb : om_Z b) : Int32.ofInt a = Int32.ofInt b ↔ a = b := by
  rw [← Int32.toInt_inj, om_ti ha, om_ti hb]
theorem om_add (a b : Int) : Int32.ofInt a + Int32.ofInt b = Int32.ofInt (a + b) := (Int32.ofInt_add a b).symm
theorem om_sub (a b : Int) : Int32.ofInt a - Int32.ofInt b = Int32.ofInt (a - b) := (Int32.ofInt_sub a b).symm
theorem om_mul (a b : Int) : Int32.ofInt a * Int32.ofInt b = Int32.ofInt (a * b) := (Int32.ofInt_mul a b).symm
theorem om_neg (a : Int) : - Int32.ofInt a = Int32.ofInt (-a) := (Int32.ofInt_neg a).symm
theorem om_tdz {a b : Int} (ha : om_Z a) (hb : 0 < b) : om_Z (Int.tdiv a b) := by
  have h := Int.natAbs_tdiv_le_natAbs a b
  obtain ⟨h1, h2⟩ := ha
  by_cases h0 : 0 ≤ a
  · have := Int.tdiv_nonneg h0 (Int.le_of_lt hb)
    constructor <;> omega
  · have h3 : Int.tdiv a b ≤ 0 := by
      have h4 := Int.tdiv_nonneg (a := -a) (b := b) (by omega) (by omega)
      rw [Int.neg_tdiv] at h4
      omega
    constructor <;> omega
theorem om_tmz {a b : Int} (ha : om_Z a) (hb : 0 < b) : om_Z (Int.tmod a b) := by
  obtain ⟨h1, h2⟩ := ha
  by_cases h0 : 0 ≤ a
  · have h3 := Int.tmod_nonneg b h0
    have h4 : Int.tmod a b ≤ a := by rw [Int.tmod_eq_emod_of_nonneg h0]; exact om_els h0 hb
    constructor <;> omega
  · have h3 := Int.tmod_nonneg b (a := -a) (by omega)
    have h4 : Int.tmod (-a) b ≤ -a := by rw [Int.tmod_eq_emod_of_nonneg (by omega)]; exact om_els (by omega) hb
    rw [Int.neg_tmod] at h3 h4
    constructor <;> omega
theorem om_div {a b : Int} (ha : om_Z a) (hb : om_Z b) (h0 : 0 < b) : Int32.ofInt a / Int32.ofInt b = Int32.ofInt (Int.tdiv a b) := by
  rw [← Int32.toInt_inj, Int32.toInt_div, om_ti ha, om_ti hb, om_ti (om_tdz ha h0)]
  have h := om_tdz ha h0
  exact Int.bmod_eq_of_le (by have := h.1; omega) (by have := h.2; omega)
theorem om_rem {a b : Int} (ha : om_Z a) (hb : om_Z b) (h0 : 0 < b) : Int32.ofInt a - Int32.ofInt a / Int32.ofInt b * Int32.ofInt b = Int32.ofInt (Int.tmod a b) := by
  rw [om_div ha hb h0, om_mul, om_sub]
  congr 1
  have := Int.mul_tdiv_add_tmod a b
  rw [Int.mul_comm] at this
  omega
theorem om_nz {b : Int} (hb : om_Z b) (h0 : 0 < b) : ¬ Int32.ofInt b = 0 := by
  intro h
  have h2 := (om_eq hb (b := 0) (by decide)).mp h
  omega
theorem om_vin {z : Int} {n : Nat} (h : om_Z z) (h0 : 0 ≤ z) (h1 : z < n) : vp_in (Int32.ofInt z) n := vp_in_iff.mpr (by rw [om_ti h]; exact ⟨h0, h1⟩)
theorem om_cn' {z : Int} (h : om_Z z) : (Int32.ofInt z).toNatClampNeg = z.toNat := by
  show (Int32.ofInt z).toInt.toNat = _
  rw [om_ti h]
theorem om_nn {n : Nat} : Int32.ofNat n = Int32.ofInt n := by
  rw [Int32.ofInt_eq_ofNat]
theorem om_bvn {z : Int} : (Int32.ofInt z).toBitVec.toNat = (z % 4294967296).toNat := by
  show (BitVec.ofInt 32 z).toNat = _
  rw [BitVec.toNat_ofInt]
  rfl
theorem om_a31 {z : Int} : Int32.ofInt z &&& Int32.ofInt 31 = Int32.ofInt (z % 32) := by
  rw [pk_and (Int32.ofInt z) (m := Int32.ofInt 31) 5 (by decide), om_bvn]
  show Int32.ofNat _ = _
  rw [om_nn]
  congr 1
  omega
theorem om_i2c {z : Int} : ((Int32.ofInt z).toUInt32 % 65536).toInt32 = Int32.ofInt (z % 65536) := by
  rw [pk_char, om_bvn]
  show Int32.ofNat _ = _
  rw [om_nn]
  congr 1
  omega
/-! what stands for what -/
def om_tr (ad : List Nat) (b : Nat) : om_V → Value
  | .inl z => .int (Int32.ofInt z)
  | .inr (.inl a) => .ref (ad.getD a 0)
  | .inr (.inr 2) => .ref b
  | .inr (.inr _) => .null
def om_el (ad : List Nat) : om_V → Option Nat
  | .inr (.inl a) => some (ad.getD a 0)
  | _ => none
def om_ce (ad : List Nat) (b : Nat) (dA : Nat → ClassId) (c : Nat × Nat × List om_V) (g : Int → Int) : va_E :=
  if c.1 = 23 then .inl (dA 23, c.2.1, .inr (.inr (.inr (.inr (fun k => om_el ad (c.2.2.getD k om_nu))))))
  else if 20 ≤ c.1 then .inl (dA c.1, c.2.1, .inl (fun k => Int32.ofInt (g k)))
  else .inr (c.1, c.2.2.map (om_tr ad b))
def om_ws (ad : List Nat) (b : Nat) (dA : Nat → ClassId) (h : om_H) : va_W := h.1.mapIdx (fun k c => (ad.getD k 0, om_ce ad b dA c (h.2 k)))
def om_ok (n : Nat) : om_V → Prop
  | .inl z => om_Z z
  | .inr (.inl a) => a < n
  | .inr (.inr k) => k = 1 ∨ k = 2
def om_okc (n : Nat) (c : Nat × Nat × List om_V) : Prop := ∀ v ∈ c.2.2, om_ok n v
def om_wf (h : om_H) : Prop := (∀ c ∈ h.1, om_okc h.1.length c) ∧ (∀ a z, om_Z (h.2 a z)) ∧ ∀ a, h.1.length ≤ a → ∀ z, h.2 a z = 0
def om_Re (D : va_G) (dA : Nat → ClassId) (A : Nat → Prop) (b : Nat) (ad : List Nat) (h : om_H) (H : Heap) : Prop :=
  ad.length = h.1.length ∧ om_wf h ∧ va_P D om_cl (om_ws ad b dA h) H ∧ va_D A (om_ws ad b dA h)
theorem om_ok_le {n n' : Nat} (h : n ≤ n') : ∀ {v : om_V}, om_ok n v → om_ok n' v
  | .inl _, q => q
  | .inr (.inl _), q => Nat.lt_of_lt_of_le q h
  | .inr (.inr _), q => q
theorem om_getD_pre {ad ad' : List Nat} (h : ad <+: ad') {a : Nat} (ha : a < ad.length) : ad'.getD a 0 = ad.getD a 0 := by
  obtain ⟨t, rfl⟩ := h
  simp [List.getD, List.getElem?_append_left ha]
theorem om_tr_pre {ad ad' : List Nat} {b : Nat} (h : ad <+: ad') : ∀ {v : om_V}, om_ok ad.length v → om_tr ad' b v = om_tr ad b v
  | .inl _, _ => rfl
  | .inr (.inl _), q => by show Value.ref _ = Value.ref _; rw [om_getD_pre h q]
  | .inr (.inr 0), _ => rfl
  | .inr (.inr 1), _ => rfl
  | .inr (.inr 2), _ => rfl
  | .inr (.inr (_ + 3)), _ => rfl
theorem om_map_pre {ad ad' : List Nat} {b : Nat} (h : ad <+: ad') {l : List om_V} (hl : ∀ v ∈ l, om_ok ad.length v) : l.map (om_tr ad' b) = l.map (om_tr ad b) :=
  List.map_congr_left (fun v hv => om_tr_pre h (hl v hv))
theorem om_el_pre {ad ad' : List Nat} (h : ad <+: ad') : ∀ {v : om_V}, om_ok ad.length v → om_el ad' v = om_el ad v
  | .inl _, _ => rfl
  | .inr (.inl _), q => by show some _ = some _; rw [om_getD_pre h q]
  | .inr (.inr _), _ => rfl
theorem om_ce_pre {ad ad' : List Nat} {b : Nat} {dA : Nat → ClassId} (h : ad <+: ad') {c : Nat × Nat × List om_V} (hc : om_okc ad.length c) (g : Int → Int) : om_ce ad' b dA c g = om_ce ad b dA c g := by
  unfold om_ce
  split
  · have e : (fun k => om_el ad' (c.2.2.getD k om_nu)) = (fun k => om_el ad (c.2.2.getD k om_nu)) := by
     funext k
     by_cases hk : k < c.2.2.length
     · have hm : c.2.2.getD k om_nu ∈ c.2.2 := by
         simp [List.getD, List.getElem?_eq_getElem hk]
       exact om_el_pre h (hc _ hm)
     · have : c.2.2.getD k om_nu = om_nu := by simp [List.getD, List.getElem?_eq_none (Nat.le_of_not_lt hk)]
       rw [this]
       rfl
    rw [e]
  · split
    · rfl
    · rw [om_map_pre h hc]
theorem om_ws_len {ad : List Nat} {b : Nat} {dA : Nat → ClassId} {h : om_H} : (om_ws ad b dA h).length = h.1.length := by simp [om_ws]
theorem om_ws_get {ad : List Nat} {b : Nat} {dA : Nat → ClassId} {h : om_H} (k : Nat) : (om_ws ad b dA h)[k]? = (h.1[k]?).map (fun c => (ad.getD k 0, om_ce ad b dA c (h.2 k))) := by
  simp [om_ws]
theorem om_ws_at {ad : List Nat} {b : Nat} {dA : Nat → ClassId} {h : om_H} {k : Nat} {c : Nat × Nat × List om_V} (e : h.1[k]? = some c) : (om_ws ad b dA h)[k]? = some (ad.getD k 0, om_ce ad b dA c (h.2 k)) := by
  rw [om_ws_get, e]
  rfl
theorem om_ws_setO {ad : List Nat} {b : Nat} {dA : Nat → ClassId} {h : om_H} {k : Nat} (c' : Nat × Nat × List om_V) : (om_ws ad b dA h).set k (ad.getD k 0, om_ce ad b dA c' (h.2 k)) = om_ws ad b dA (h.1.set k c', h.2) := by
  apply List.ext_getElem?
  intro j
  rw [List.getElem?_set, om_ws_get, om_ws_get, om_ws_len]
  dsimp only
  rw [List.getElem?_set]
  by_cases hj : k = j
  · subst hj
    by_cases hl : k < h.1.length
    · simp [hl]
    · simp [hl]
  · simp [hj]
theorem om_ws_setI {ad : List Nat} {b : Nat} {dA : Nat → ClassId} {h : om_H} {k : Nat} {c : Nat × Nat × List om_V} (e : h.1[k]? = some c) (f : Int → Int) : (om_ws ad b dA h).set k (ad.getD k 0, om_ce ad b dA c f) = om_ws ad b dA (h.1, om_u h.2 k f) := by
  apply List.ext_getElem?
  intro j
  rw [List.getElem?_set, om_ws_get, om_ws_get, om_ws_len]
  dsimp only
  by_cases hj : k = j
  · subst hj
    have hl : k < h.1.length := (List.getElem?_eq_some_iff.mp e).1
    rw [if_pos rfl, if_pos hl, e]
    simp [om_u]
  · rw [if_neg hj]
    have hj' : ¬ j = k := fun q => hj q.symm
    simp [om_u, hj']
theorem om_ws_push {ad : List Nat} {b : Nat} {dA : Nat → ClassId} {h : om_H} (q : Nat) (c : Nat × Nat × List om_V) (hl : ad.length = h.1.length) (hw : om_wf h) : om_ws ad b dA h ++ [(q, om_ce (ad ++ [q]) b dA c (h.2 h.1.length))] = om_ws (ad ++ [q]) b dA (h.1 ++ [c], h.2) := by
  apply List.ext_getElem?
  intro j
  rw [om_ws_get]
  dsimp only
  by_cases hj : j < h.1.length
  · rw [List.getElem?_append_left (by rw [om_ws_len]; exact hj), om_ws_get, List.getElem?_append_left hj, List.getElem?_eq_getElem hj]
    simp only [Option.map_some]
    rw [om_ce_pre (ad := ad) (ad' := ad ++ [q]) ⟨[q], rfl⟩ (by rw [hl]; exact hw.1 _ (List.getElem_mem hj)), om_getD_pre (ad := ad) ⟨[q], rfl⟩ (by omega)]
  · rw [List.getElem?_append_right (by rw [om_ws_len]; omega), List.getElem?_append_right (by omega), om_ws_len]
    by_cases hj2 : j = h.1.length
    · subst hj2
      simp [List.getD, ← hl]
    · have : j - h.1.length ≠ 0 := by omega
      obtain ⟨m, hm⟩ := Nat.exists_eq_succ_of_ne_zero this
      rw [hm]
      simp
theorem om_cat (ad : List Nat) (b : Nat) (v : om_V) : (om_tr ad b v).category = 1 := by
  rcases v with z | a | k
  · rfl
  · rfl
  · match k with
    | 0 => rfl
    | 1 => rfl
    | 2 => rfl
    | _ + 3 => rfl
theorem om_cats (ad : List Nat) (b : Nat) : ∀ l : List om_V, ((l.map (om_tr ad b)).map fun v => v.category).sum = l.length
  | [] => rfl
  | v :: l => by
    simp only [List.map_cons, List.sum_cons, List.length_cons]
    rw [om_cat, om_cats ad b l]
    omega
end
section
/-! one instruction of the small machine is one of the machine -/
def om_lv (ad : List Nat) (b : Nat) (L : List om_V) : List (Nat × Value) := (L.zipIdx.filter (fun q => decide (q.1 ≠ om_un))).map (fun q => (q.2, om_tr ad b q.1))
theorem om_lv_mem {ad : List Nat} {b : Nat} {L : List om_V} {q : Nat × Value} : q ∈ om_lv ad b L ↔ ∃ v, L[q.1]? = some v ∧ v ≠ om_un ∧ q.2 = om_tr ad b v := by
  unfold om_lv
  rw [List.mem_map]
  constructor
  · rintro ⟨⟨v, i⟩, hm, rfl⟩
    rw [List.mem_filter] at hm
    have h1 := List.mem_zipIdx_iff_getElem?.mp hm.1
    exact ⟨v, h1, of_decide_eq_true hm.2, rfl⟩
  · rintro ⟨v, h1, h2, h3⟩
    refine ⟨(v, q.1), List.mem_filter.mpr ⟨List.mem_zipIdx_iff_getElem?.mpr h1, decide_eq_true h2⟩, ?_⟩
    rw [← h3]
theorem om_lv_at {ad : List Nat} {b n : Nat} {L : List om_V} {ls : Array Slot} (hl : lv_has ls n (om_lv ad b L)) {i : Nat} {v : om_V} (h : L[i]? = some v) (hv : v ≠ om_un) : ls[i]? = some (.val (om_tr ad b v)) :=
  hl.2.2 (i, om_tr ad b v) (om_lv_mem.mpr ⟨v, h, hv, rfl⟩)
theorem om_lv_set {ad : List Nat} {b n : Nat} {L : List om_V} {ls : Array Slot} {i : Nat} {v : om_V} (h : lv_has ls n ((i, om_tr ad b v) :: (om_lv ad b L).filter (fun q => !(q.1 == i) && !(q.1 + 1 == i && q.2.category == 2)))) : lv_has ls n (om_lv ad b (L.set i v)) := by
  refine ⟨h.1, h.2.1, fun q hq => ?_⟩
  obtain ⟨w, h1, h2, h3⟩ := om_lv_mem.mp hq
  rw [List.getElem?_set] at h1
  apply h.2.2
  by_cases hj : i = q.1
  · rw [if_pos hj] at h1
    split at h1
    · obtain rfl := Option.some.inj h1
      obtain ⟨q1, q2⟩ := q
      dsimp only at hj h3
      subst hj; subst h3
      exact List.mem_cons_self
    · cases h1
  · rw [if_neg hj] at h1
    refine List.mem_cons_of_mem _ (List.mem_filter.mpr ⟨om_lv_mem.mpr ⟨w, h1, h2, h3⟩, ?_⟩)
    have hj' : ¬ q.1 = i := fun e => hj e.symm
    rw [h3, om_cat]
    simp [hj']
theorem om_lv_pre {ad ad' : List Nat} {b n : Nat} {L : List om_V} {ls : Array Slot} (hp : ad <+: ad') (hL : ∀ v ∈ L, v = om_un ∨ om_ok ad.length v) (h : lv_has ls n (om_lv ad b L)) : lv_has ls n (om_lv ad' b L) := by
  refine ⟨h.1, h.2.1, fun q hq => ?_⟩
  obtain ⟨w, h1, h2, h3⟩ := om_lv_mem.mp hq
  have hw := (hL w (List.mem_of_getElem? h1)).resolve_left h2
  exact h.2.2 q (om_lv_mem.mpr ⟨w, h1, h2, by rw [h3, om_tr_pre hp hw]⟩)
def om_tys (dA : Nat → ClassId) : List (ClassId × FieldType) := [(dA 20, .int), (dA 21, .char), (dA 22, .boolean), (dA 23, .object "OreSolver$Operator")]
def om_scr (n : Nat) (xs : Nat → Int32) : Int × (Int → Int) := ((n : Int), fun z => (xs z.toNat).toInt)
def om_nw : Cond := .methodLinkNest "OreSolver" 17 ⟨"OreSolver$Output", "<init>", "()V"⟩ "OreSolver"
/-- what a state tells of the tables and of the script -/
def om_Kx (D : va_G) (dA : Nat → ClassId) (b bs : Nat) (sc : Int × (Int → Int)) (U : State) : Prop :=
  va_K D om_cl (om_tys dA) U ∧ (∃ (n : Nat) (xs : Nat → Int32), n < 2147483648 ∧ va_X b n xs U U.heap ∧ sc = om_scr n xs) ∧ b < bs ∧ bs ≤ U.heap.size ∧ va_AO "OreSolver$Operator" U ∧ va_Nw om_nw U
def om_Cx (p : Program) (s : State) (m : MethodId) (args : Array Value) (meth : Method) (c : Code) (mi : Nat) (D : va_G) (dA : Nat → ClassId) (b bs : Nat) (sc : Int × (Int → Int)) : Prop :=
  p.tables.exec = Jvm.exec ∧ c.code = om_by mi ∧ c.maxLocals = om_ml mi ∧ s.vm.findClass (om_cn (om_ow mi)) = some m.cls ∧ (∀ w ∈ om_wg, w.before args s = true) ∧ meth.sig.returnType = om_rt mi ∧ meth.locks = false ∧ (om_in mi = true → meth.name = "<init>") ∧ om_Kx D dA b bs sc s
def om_Gd (p : Program) (l : Launch) (e : Env) (R : Room) (s : State) (m : MethodId) (args : Array Value) (below : List Frame) (meth : Method) (c : Code) (Q : State → Prop) (mi : Nat) (D : va_G) (dA : Nat → ClassId) (b bs : Nat) (ad0 : List Nat) (pc : Nat) (L st : List om_V) (h : om_H) (cells slots : Nat) : Prop :=
  ∀ (ad : List Nat) (H : Heap) (locs : List Loc) (ls : Array Slot), ad0 <+: ad → om_Re D dA (fun q => bs ≤ q) b ad h H → va_S (fun q => bs ≤ q) s.heap H locs → lv_has ls (om_ml mi) (om_lv ad b L) → L.length = om_ml mi → (∀ v ∈ L, v = om_un ∨ om_ok h.1.length v) → (∀ v ∈ st, om_ok h.1.length v) →
    W p l e R s m args below meth c H locs cells slots Q (F0 m pc ls (st.map (om_tr ad b)))
theorem om_set_ok {n : Nat} {L : List om_V} (h : ∀ v ∈ L, v = om_un ∨ om_ok n v) {i : Nat} {w : om_V} (hw : om_ok n w) : ∀ v ∈ L.set i w, v = om_un ∨ om_ok n v := by
  intro v hv
  rcases List.mem_or_eq_of_mem_set hv with q | rfl
  · exact h v q
  · exact Or.inr hw
section om_ins
variable {p : Program} {l : Launch} {e : Env} {R : Room} {s : State} {m : MethodId} {args : Array Value} {below : List Frame} {meth : Method} {c : Code} {Q : State → Prop} {mi : Nat} {D : va_G} {dA : Nat → ClassId} {b bs : Nat} {sc : Int × (Int → Int)} {ad0 : List Nat} {cells slots pc : Nat} {L st : List om_V} {h : om_H}
theorem om_g_iconst (C : om_Cx p s m args meth c mi D dA b bs sc) {n : Int} (hd : decode (om_by mi) pc = .ok (.iconst n, 1)) (hz : om_Z n) (k : (om_Gd p l e R s m args below meth c Q mi D dA b bs ad0 (pc + 1) (L) (.inl n :: st) (h) (cells) (slots))) : (om_Gd p l e R s m args below meth c Q mi D dA b bs ad0 (pc) (L) (st) (h) (cells) (slots)) := by
  intro ad H locs ls h0 hRe hS hl hn hL hst
  exact lv_iconst C.1 C.2.1 hd rfl (k ad H locs ls h0 hRe hS hl hn hL (List.forall_mem_cons.mpr ⟨hz, hst⟩))
theorem om_g_bipush (C : om_Cx p s m args meth c mi D dA b bs sc) {n : Int} (hd : decode (om_by mi) pc = .ok (.bipush n, 2)) (hz : -128 ≤ n ∧ n ≤ 127) (k : (om_Gd p l e R s m args below meth c Q mi D dA b bs ad0 (pc + 2) (L) (.inl n :: st) (h) (cells) (slots))) : (om_Gd p l e R s m args below meth c Q mi D dA b bs ad0 (pc) (L) (st) (h) (cells) (slots)) := by
  intro ad H locs ls h0 hRe hS hl hn hL hst
  refine lv_bipush C.1 C.2.1 hd ?_ (k ad H locs ls h0 hRe hS hl hn hL (List.forall_mem_cons.mpr ⟨⟨by omega, by omega⟩, hst⟩))
  rw [← Int32.toInt_inj, om_ti ⟨by omega, by omega⟩, Int8.toInt_toInt32, Int8.toInt_ofInt]
  have e8 : (Int8.size : Int) = 256 := rfl
  exact Int.bmod_eq_of_le (by omega) (by omega)
theorem om_g_sipush (C : om_Cx p s m args meth c mi D dA b bs sc) {n : Int} (hd : decode (om_by mi) pc = .ok (.sipush n, 3)) (hz : -32768 ≤ n ∧ n ≤ 32767) (k : (om_Gd p l e R s m args below meth c Q mi D dA b bs ad0 (pc + 3) (L) (.inl n :: st) (h) (cells) (slots))) : (om_Gd p l e R s m args below meth c Q mi D dA b bs ad0 (pc) (L) (st) (h) (cells) (slots)) := by
  intro ad H locs ls h0 hRe hS hl hn hL hst
  refine lv_sipush C.1 C.2.1 hd ?_ (k ad H locs ls h0 hRe hS hl hn hL (List.forall_mem_cons.mpr ⟨⟨by omega, by omega⟩, hst⟩))
  rw [← Int32.toInt_inj, om_ti ⟨by omega, by omega⟩, Int16.toInt_toInt32, Int16.toInt_ofInt]
  have e8 : (Int16.size : Int) = 65536 := rfl
  exact Int.bmod_eq_of_le (by omega) (by omega)
theorem om_okL {n i : Nat} {L : List om_V} {v : om_V} (hL : ∀ v ∈ L, v = om_un ∨ om_ok n v) (h : L[i]? = some v) (hv : v ≠ om_un) : om_ok n v := (hL v (List.mem_of_getElem? h)).resolve_left hv
theorem om_g_iload (C : om_Cx p s m args meth c mi D dA b bs sc) {i : Nat} {z : Int} (hd : decode (om_by mi) pc = .ok (.iload i, 2)) (hi : L[i]? = some (.inl z)) (k : (om_Gd p l e R s m args below meth c Q mi D dA b bs ad0 (pc + 2) (L) (.inl z :: st) (h) (cells) (slots))) : (om_Gd p l e R s m args below meth c Q mi D dA b bs ad0 (pc) (L) (st) (h) (cells) (slots)) := by
  intro ad H locs ls h0 hRe hS hl hn hL hst
  exact lv_iload C.1 C.2.1 hd (om_lv_at hl hi (by simp)) (k ad H locs ls h0 hRe hS hl hn hL (List.forall_mem_cons.mpr ⟨om_okL hL hi (by simp), hst⟩))
theorem om_g_iload_n (C : om_Cx p s m args meth c mi D dA b bs sc) {i : Fin 4} {z : Int} (hd : decode (om_by mi) pc = .ok (.iload_n i, 1)) (hi : L[i.val]? = some (.inl z)) (k : (om_Gd p l e R s m args below meth c Q mi D dA b bs ad0 (pc + 1) (L) (.inl z :: st) (h) (cells) (slots))) : (om_Gd p l e R s m args below meth c Q mi D dA b bs ad0 (pc) (L) (st) (h) (cells) (slots)) := by
  intro ad H locs ls h0 hRe hS hl hn hL hst
  exact lv_iload_n C.1 C.2.1 hd rfl (om_lv_at hl hi (by simp)) (k ad H locs ls h0 hRe hS hl hn hL (List.forall_mem_cons.mpr ⟨om_okL hL hi (by simp), hst⟩))
theorem om_g_aload (C : om_Cx p s m args meth c mi D dA b bs sc) {i : Nat} {z : Nat ⊕ Nat} (hd : decode (om_by mi) pc = .ok (.aload i, 2)) (hz : (∃ a, z = .inl a) ∨ z = .inr 2) (hi : L[i]? = some (.inr z)) (k : (om_Gd p l e R s m args below meth c Q mi D dA b bs ad0 (pc + 2) (L) (.inr z :: st) (h) (cells) (slots))) : (om_Gd p l e R s m args below meth c Q mi D dA b bs ad0 (pc) (L) (st) (h) (cells) (slots)) := by
  intro ad H locs ls h0 hRe hS hl hn hL hst
  rcases hz with ⟨a, rfl⟩ | rfl
  · exact lv_aload C.1 C.2.1 hd (om_lv_at hl hi (by simp)) (k ad H locs ls h0 hRe hS hl hn hL (List.forall_mem_cons.mpr ⟨om_okL hL hi (by simp), hst⟩))
  · exact lv_aload C.1 C.2.1 hd (om_lv_at hl hi (by simp)) (k ad H locs ls h0 hRe hS hl hn hL (List.forall_mem_cons.mpr ⟨om_okL hL hi (by simp), hst⟩))
theorem om_g_aload_n (C : om_Cx p s m args meth c mi D dA b bs sc) {i : Fin 4} {z : Nat ⊕ Nat} (hd : decode (om_by mi) pc = .ok (.aload_n i, 1)) (hz : (∃ a, z = .inl a) ∨ z = .inr 2) (hi : L[i.val]? = some (.inr z)) (k : (om_Gd p l e R s m args below meth c Q mi D dA b bs ad0 (pc + 1) (L) (.inr z :: st) (h) (cells) (slots))) : (om_Gd p l e R s m args below meth c Q mi D dA b bs ad0 (pc) (L) (st) (h) (cells) (slots)) := by
  intro ad H locs ls h0 hRe hS hl hn hL hst
  rcases hz with ⟨a, rfl⟩ | rfl
  · exact lv_aload_n C.1 C.2.1 hd rfl (om_lv_at hl hi (by simp)) (k ad H locs ls h0 hRe hS hl hn hL (List.forall_mem_cons.mpr ⟨om_okL hL hi (by simp), hst⟩))
  · exact lv_aload_n C.1 C.2.1 hd rfl (om_lv_at hl hi (by simp)) (k ad H locs ls h0 hRe hS hl hn hL (List.forall_mem_cons.mpr ⟨om_okL hL hi (by simp), hst⟩))
theorem om_g_istore (C : om_Cx p s m args meth c mi D dA b bs sc) {i : Nat} {z : Int} (hd : decode (om_by mi) pc = .ok (.istore i, 2)) (hi : i < L.length) (k : (om_Gd p l e R s m args below meth c Q mi D dA b bs ad0 (pc + 2) (L.set i (.inl z)) (st) (h) (cells) (slots))) : (om_Gd p l e R s m args below meth c Q mi D dA b bs ad0 (pc) (L) (.inl z :: st) (h) (cells) (slots)) := by
  intro ad H locs ls h0 hRe hS hl hn hL hst
  have hz := List.forall_mem_cons.mp hst
  exact lv_istore C.1 C.2.1 hd hl (by omega) rfl (fun ls' hl' => k ad H locs ls' h0 hRe hS (om_lv_set (v := .inl z) hl') (by simpa using hn) (om_set_ok hL hz.1) hz.2)
theorem om_g_istore_n (C : om_Cx p s m args meth c mi D dA b bs sc) {i : Fin 4} {z : Int} (hd : decode (om_by mi) pc = .ok (.istore_n i, 1)) (hi : i.val < L.length) (k : (om_Gd p l e R s m args below meth c Q mi D dA b bs ad0 (pc + 1) (L.set i.val (.inl z)) (st) (h) (cells) (slots))) : (om_Gd p l e R s m args below meth c Q mi D dA b bs ad0 (pc) (L) (.inl z :: st) (h) (cells) (slots)) := by
  intro ad H locs ls h0 hRe hS hl hn hL hst
  have hz := List.forall_mem_cons.mp hst
  exact lv_istore_n C.1 C.2.1 hd rfl hl (by omega) rfl (fun ls' hl' => k ad H locs ls' h0 hRe hS (om_lv_set (v := .inl z) hl') (by simpa using hn) (om_set_ok hL hz.1) hz.2)
theorem om_g_astore (C : om_Cx p s m args meth c mi D dA b bs sc) {i : Nat} {z : Nat} (hd : decode (om_by mi) pc = .ok (.astore i, 2)) (hi : i < L.length) (k : (om_Gd p l e R s m args below meth c Q mi D dA b bs ad0 (pc + 2) (L.set i (.inr (.inl z))) (st) (h) (cells) (slots))) : (om_Gd p l e R s m args below meth c Q mi D dA b bs ad0 (pc) (L) (.inr (.inl z) :: st) (h) (cells) (slots)) := by
  intro ad H locs ls h0 hRe hS hl hn hL hst
  have hz := List.forall_mem_cons.mp hst
  exact lv_astore C.1 C.2.1 hd hl (by omega) rfl (fun ls' hl' => k ad H locs ls' h0 hRe hS (om_lv_set (v := .inr (.inl z)) hl') (by simpa using hn) (om_set_ok hL hz.1) hz.2)
theorem om_g_astore_n (C : om_Cx p s m args meth c mi D dA b bs sc) {i : Fin 4} {z : Nat} (hd : decode (om_by mi) pc = .ok (.astore_n i, 1)) (hi : i.val < L.length) (k : (om_Gd p l e R s m args below meth c Q mi D dA b bs ad0 (pc + 1) (L.set i.val (.inr (.inl z))) (st) (h) (cells) (slots))) : (om_Gd p l e R s m args below meth c Q mi D dA b bs ad0 (pc) (L) (.inr (.inl z) :: st) (h) (cells) (slots)) := by
  intro ad H locs ls h0 hRe hS hl hn hL hst
  have hz := List.forall_mem_cons.mp hst
  exact lv_astore_n C.1 C.2.1 hd rfl hl (by omega) rfl (fun ls' hl' => k ad H locs ls' h0 hRe hS (om_lv_set (v := .inr (.inl z)) hl') (by simpa using hn) (om_set_ok hL hz.1) hz.2)
theorem om_g_iinc (C : om_Cx p s m args meth c mi D dA b bs sc) {i : Nat} {n z : Int} (hd : decode (om_by mi) pc = .ok (.iinc i n, 3)) (hi : L[i]? = some (.inl z)) (hz : om_Z (z + n)) (k : (om_Gd p l e R s m args below meth c Q mi D dA b bs ad0 (pc + 3) (L.set i (.inl (z + n))) (st) (h) (cells) (slots))) : (om_Gd p l e R s m args below meth c Q mi D dA b bs ad0 (pc) (L) (st) (h) (cells) (slots)) := by
  intro ad H locs ls h0 hRe hS hl hn hL hst
  have hlt : i < L.length := (List.getElem?_eq_some_iff.mp hi).1
  have hmem : (i, om_tr ad b (.inl z)) ∈ om_lv ad b L := om_lv_mem.mpr ⟨_, hi, by simp, rfl⟩
  obtain ⟨k0, hk0⟩ := List.getElem?_of_mem hmem
  exact lv_iinc (x := Int32.ofInt z) (v := Int32.ofInt (z + n)) (k := k0) C.1 C.2.1 hd hl hk0 (om_add z n) (by omega) rfl (fun ls' hl' => k ad H locs ls' h0 hRe hS (om_lv_set (v := .inl (z + n)) hl') (by simpa using hn) (om_set_ok hL hz) hst)
theorem om_g_iadd (C : om_Cx p s m args meth c mi D dA b bs sc) {x y : Int} (hd : decode (om_by mi) pc = .ok (.iadd, 1)) (hz : om_Z (x + y)) (k : (om_Gd p l e R s m args below meth c Q mi D dA b bs ad0 (pc + 1) (L) (.inl (x + y) :: st) (h) (cells) (slots))) : (om_Gd p l e R s m args below meth c Q mi D dA b bs ad0 (pc) (L) (.inl y :: .inl x :: st) (h) (cells) (slots)) := by
  intro ad H locs ls h0 hRe hS hl hn hL hst
  have hst := (List.forall_mem_cons.mp (List.forall_mem_cons.mp hst).2).2
  refine lv_iadd C.1 C.2.1 hd ?_
  rw [om_add]
  exact k ad H locs ls h0 hRe hS hl hn hL (List.forall_mem_cons.mpr ⟨hz, hst⟩)
theorem om_g_isub (C : om_Cx p s m args meth c mi D dA b bs sc) {x y : Int} (hd : decode (om_by mi) pc = .ok (.isub, 1)) (hz : om_Z (x - y)) (k : (om_Gd p l e R s m args below meth c Q mi D dA b bs ad0 (pc + 1) (L) (.inl (x - y) :: st) (h) (cells) (slots))) : (om_Gd p l e R s m args below meth c Q mi D dA b bs ad0 (pc) (L) (.inl y :: .inl x :: st) (h) (cells) (slots)) := by
  intro ad H locs ls h0 hRe hS hl hn hL hst
  have hst := (List.forall_mem_cons.mp (List.forall_mem_cons.mp hst).2).2
  refine lv_isub C.1 C.2.1 hd ?_
  rw [om_sub]
  exact k ad H locs ls h0 hRe hS hl hn hL (List.forall_mem_cons.mpr ⟨hz, hst⟩)
theorem om_g_imul (C : om_Cx p s m args meth c mi D dA b bs sc) {x y : Int} (hd : decode (om_by mi) pc = .ok (.imul, 1)) (hz : om_Z (x * y)) (k : (om_Gd p l e R s m args below meth c Q mi D dA b bs ad0 (pc + 1) (L) (.inl (x * y) :: st) (h) (cells) (slots))) : (om_Gd p l e R s m args below meth c Q mi D dA b bs ad0 (pc) (L) (.inl y :: .inl x :: st) (h) (cells) (slots)) := by
  intro ad H locs ls h0 hRe hS hl hn hL hst
  have hst := (List.forall_mem_cons.mp (List.forall_mem_cons.mp hst).2).2
  refine lv_imul C.1 C.2.1 hd ?_
  rw [om_mul]
  exact k ad H locs ls h0 hRe hS hl hn hL (List.forall_mem_cons.mpr ⟨hz, hst⟩)
theorem om_g_idiv (C : om_Cx p s m args meth c mi D dA b bs sc) {x y : Int} (hd : decode (om_by mi) pc = .ok (.idiv, 1)) (hy : 0 < y) (k : (om_Gd p l e R s m args below meth c Q mi D dA b bs ad0 (pc + 1) (L) (.inl (Int.tdiv x y) :: st) (h) (cells) (slots))) : (om_Gd p l e R s m args below meth c Q mi D dA b bs ad0 (pc) (L) (.inl y :: .inl x :: st) (h) (cells) (slots)) := by
  intro ad H locs ls h0 hRe hS hl hn hL hst
  obtain ⟨zy, hst⟩ := List.forall_mem_cons.mp hst
  obtain ⟨zx, hst⟩ := List.forall_mem_cons.mp hst
  refine lv_idiv C.1 C.2.1 hd (om_nz zy hy) ?_
  rw [om_div zx zy hy]
  exact k ad H locs ls h0 hRe hS hl hn hL (List.forall_mem_cons.mpr ⟨om_tdz zx hy, hst⟩)
theorem om_g_irem (C : om_Cx p s m args meth c mi D dA b bs sc) {x y : Int} (hd : decode (om_by mi) pc = .ok (.irem, 1)) (hy : 0 < y) (k : (om_Gd p l e R s m args below meth c Q mi D dA b bs ad0 (pc + 1) (L) (.inl (Int.tmod x y) :: st) (h) (cells) (slots))) : (om_Gd p l e R s m args below meth c Q mi D dA b bs ad0 (pc) (L) (.inl y :: .inl x :: st) (h) (cells) (slots)) := by
  intro ad H locs ls h0 hRe hS hl hn hL hst
  obtain ⟨zy, hst⟩ := List.forall_mem_cons.mp hst
  obtain ⟨zx, hst⟩ := List.forall_mem_cons.mp hst
  refine lv_irem C.1 C.2.1 hd (om_nz zy hy) ?_
  rw [om_rem zx zy hy]
  exact k ad H locs ls h0 hRe hS hl hn hL (List.forall_mem_cons.mpr ⟨om_tmz zx hy, hst⟩)
theorem om_g_ineg (C : om_Cx p s m args meth c mi D dA b bs sc) {x : Int} (hd : decode (om_by mi) pc = .ok (.ineg, 1)) (hz : om_Z (-x)) (k : (om_Gd p l e R s m args below meth c Q mi D dA b bs ad0 (pc + 1) (L) (.inl (-x) :: st) (h) (cells) (slots))) : (om_Gd p l e R s m args below meth c Q mi D dA b bs ad0 (pc) (L) (.inl x :: st) (h) (cells) (slots)) := by
  intro ad H locs ls h0 hRe hS hl hn hL hst
  refine lv_ineg C.1 C.2.1 hd ?_
  rw [om_neg]
  exact k ad H locs ls h0 hRe hS hl hn hL (List.forall_mem_cons.mpr ⟨hz, (List.forall_mem_cons.mp hst).2⟩)
theorem om_g_iand (C : om_Cx p s m args meth c mi D dA b bs sc) {x : Int} (hd : decode (om_by mi) pc = .ok (.iand, 1)) (k : (om_Gd p l e R s m args below meth c Q mi D dA b bs ad0 (pc + 1) (L) (.inl (x % 32) :: st) (h) (cells) (slots))) : (om_Gd p l e R s m args below meth c Q mi D dA b bs ad0 (pc) (L) (.inl 31 :: .inl x :: st) (h) (cells) (slots)) := by
  intro ad H locs ls h0 hRe hS hl hn hL hst
  have hst := (List.forall_mem_cons.mp (List.forall_mem_cons.mp hst).2).2
  refine lv_iand C.1 C.2.1 hd ?_
  rw [om_a31]
  exact k ad H locs ls h0 hRe hS hl hn hL (List.forall_mem_cons.mpr ⟨⟨by omega, by omega⟩, hst⟩)
theorem om_g_i2c (C : om_Cx p s m args meth c mi D dA b bs sc) {x : Int} (hd : decode (om_by mi) pc = .ok (.i2c, 1)) (k : (om_Gd p l e R s m args below meth c Q mi D dA b bs ad0 (pc + 1) (L) (.inl (x % 65536) :: st) (h) (cells) (slots))) : (om_Gd p l e R s m args below meth c Q mi D dA b bs ad0 (pc) (L) (.inl x :: st) (h) (cells) (slots)) := by
  intro ad H locs ls h0 hRe hS hl hn hL hst
  exact lv_i2c C.1 C.2.1 hd om_i2c (k ad H locs ls h0 hRe hS hl hn hL (List.forall_mem_cons.mpr ⟨⟨by omega, by omega⟩, (List.forall_mem_cons.mp hst).2⟩))
theorem om_g_dup (C : om_Cx p s m args meth c mi D dA b bs sc) {v : om_V} (hd : decode (om_by mi) pc = .ok (.dup, 1)) (k : (om_Gd p l e R s m args below meth c Q mi D dA b bs ad0 (pc + 1) (L) (v :: v :: st) (h) (cells) (slots))) : (om_Gd p l e R s m args below meth c Q mi D dA b bs ad0 (pc) (L) (v :: st) (h) (cells) (slots)) := by
  intro ad H locs ls h0 hRe hS hl hn hL hst
  exact lv_dup C.1 C.2.1 hd (om_cat ad b v) (k ad H locs ls h0 hRe hS hl hn hL (List.forall_mem_cons.mpr ⟨(List.forall_mem_cons.mp hst).1, hst⟩))
theorem om_go_eq {t : Nat} {off : Int} (h : om_go pc off = some t) : (pc : Int) + off = (t : Int) := by
  unfold om_go at h
  split at h
  · have := Option.some.inj h
    omega
  · cases h
theorem om_g_goto (C : om_Cx p s m args meth c mi D dA b bs sc) {off : Int} {t : Nat} (hd : decode (om_by mi) pc = .ok (.goto off, 3)) (ht : om_go pc off = some t) (k : (om_Gd p l e R s m args below meth c Q mi D dA b bs ad0 (t) (L) (st) (h) (cells) (slots))) : (om_Gd p l e R s m args below meth c Q mi D dA b bs ad0 (pc) (L) (st) (h) (cells) (slots)) := by
  intro ad H locs ls h0 hRe hS hl hn hL hst
  exact lv_goto C.1 C.2.1 hd (om_go_eq ht) (k ad H locs ls h0 hRe hS hl hn hL hst)
theorem om_g_ifc (C : om_Cx p s m args meth c mi D dA b bs sc) {cn : ClassFile.Cond} {off x : Int} {t : Nat} (hd : decode (om_by mi) pc = .ok (.ifCond cn off, 3)) (ht : om_go pc off = some t) (k : (om_Gd p l e R s m args below meth c Q mi D dA b bs ad0 (if om_cmp cn x 0 then t else pc + 3) (L) (st) (h) (cells) (slots))) : (om_Gd p l e R s m args below meth c Q mi D dA b bs ad0 (pc) (L) (.inl x :: st) (h) (cells) (slots)) := by
  intro ad H locs ls h0 hRe hS hl hn hL hst
  have k := k ad H locs ls h0 hRe hS hl hn hL (List.forall_mem_cons.mp hst).2
  have zx : om_Z x := (List.forall_mem_cons.mp hst).1
  have z0 : om_Z 0 := by decide
  cases cn
  · refine lv_if_eq C.1 C.2.1 hd (om_go_eq ht) (fun q => ?_) (fun q => ?_)
    · have q := (om_eq zx z0).mp q; simpa [om_cmp, q] using k
    · have q := (not_congr (om_eq zx z0)).mp q; simpa [om_cmp, q] using k
  · refine lv_if_ne C.1 C.2.1 hd (om_go_eq ht) (fun q => ?_) (fun q => ?_)
    · have q := (not_congr (om_eq zx z0)).mp q; simpa [om_cmp, q] using k
    · have q : x = 0 := (om_eq zx z0).mp q; simpa [om_cmp, q] using k
  · refine lv_if_lt C.1 C.2.1 hd (om_go_eq ht) (fun q => ?_) (fun q => ?_)
    · have q := (om_lt zx z0).mp q; simpa [om_cmp, q] using k
    · have q := (not_congr (om_lt zx z0)).mp q; simpa [om_cmp, q] using k
  · refine lv_if_ge C.1 C.2.1 hd (om_go_eq ht) (fun q => ?_) (fun q => ?_)
    · have q := (om_le z0 zx).mp q; simpa [om_cmp, q] using k
    · have q := (not_congr (om_le z0 zx)).mp q; simpa [om_cmp, q] using k
  · refine lv_if_gt C.1 C.2.1 hd (om_go_eq ht) (fun q => ?_) (fun q => ?_)
    · have q := (om_lt z0 zx).mp q; simpa [om_cmp, q] using k
    · have q := (not_congr (om_lt z0 zx)).mp q; simpa [om_cmp, q] using k
  · refine lv_if_le C.1 C.2.1 hd (om_go_eq ht) (fun q => ?_) (fun q => ?_)
    · have q := (om_le zx z0).mp q; simpa [om_cmp, q] using k
    · have q := (not_congr (om_le zx z0)).mp q; simpa [om_cmp, q] using k
theorem om_g_icmp (C : om_Cx p s m args meth c mi D dA b bs sc) {cn : ClassFile.Cond} {off x y : Int} {t : Nat} (hd : decode (om_by mi) pc = .ok (.if_icmp cn off, 3)) (ht : om_go pc off = some t) (k : (om_Gd p l e R s m args below meth c Q mi D dA b bs ad0 (if om_cmp cn x y then t else pc + 3) (L) (st) (h) (cells) (slots))) : (om_Gd p l e R s m args below meth c Q mi D dA b bs ad0 (pc) (L) (.inl y :: .inl x :: st) (h) (cells) (slots)) := by
  intro ad H locs ls h0 hRe hS hl hn hL hst
  obtain ⟨z0, hst⟩ := List.forall_mem_cons.mp hst
  obtain ⟨zx, hst⟩ := List.forall_mem_cons.mp hst
  have k := k ad H locs ls h0 hRe hS hl hn hL hst
  change om_Z y at z0
  change om_Z x at zx
  cases cn
  · refine lv_icmp_eq C.1 C.2.1 hd (om_go_eq ht) (fun q => ?_) (fun q => ?_)
    · have q := (om_eq zx z0).mp q; simpa [om_cmp, q] using k
    · have q := (not_congr (om_eq zx z0)).mp q; simpa [om_cmp, q] using k
  · refine lv_icmp_ne C.1 C.2.1 hd (om_go_eq ht) (fun q => ?_) (fun q => ?_)
    · have q := (not_congr (om_eq zx z0)).mp q; simpa [om_cmp, q] using k
    · have q : x = y := (om_eq zx z0).mp q; simpa [om_cmp, q] using k
  · refine lv_icmp_lt C.1 C.2.1 hd (om_go_eq ht) (fun q => ?_) (fun q => ?_)
    · have q := (om_lt zx z0).mp q; simpa [om_cmp, q] using k
    · have q := (not_congr (om_lt zx z0)).mp q; simpa [om_cmp, q] using k
  · refine lv_icmp_ge C.1 C.2.1 hd (om_go_eq ht) (fun q => ?_) (fun q => ?_)
    · have q := (om_le z0 zx).mp q; simpa [om_cmp, q] using k
    · have q := (not_congr (om_le z0 zx)).mp q; simpa [om_cmp, q] using k
  · refine lv_icmp_gt C.1 C.2.1 hd (om_go_eq ht) (fun q => ?_) (fun q => ?_)
    · have q := (om_lt z0 zx).mp q; simpa [om_cmp, q] using k
    · have q := (not_congr (om_lt z0 zx)).mp q; simpa [om_cmp, q] using k
  · refine lv_icmp_le C.1 C.2.1 hd (om_go_eq ht) (fun q => ?_) (fun q => ?_)
    · have q := (om_le zx z0).mp q; simpa [om_cmp, q] using k
    · have q := (not_congr (om_le zx z0)).mp q; simpa [om_cmp, q] using k
theorem om_g_tsw (C : om_Cx p s m args meth c mi D dA b bs sc) {df lo hi x : Int} {offs : Array Int} {len t : Nat} (hd : decode (om_by mi) pc = .ok (.tableswitch df lo hi offs, len)) (ht : (if x < lo ∨ hi < x then om_go pc df else (offs[(x - lo).toNat]?).bind (om_go pc)) = some t) (k : (om_Gd p l e R s m args below meth c Q mi D dA b bs ad0 (t) (L) (st) (h) (cells) (slots))) : (om_Gd p l e R s m args below meth c Q mi D dA b bs ad0 (pc) (L) (.inl x :: st) (h) (cells) (slots)) := by
  intro ad H locs ls h0 hRe hS hl hn hL hst
  have k := k ad H locs ls h0 hRe hS hl hn hL (List.forall_mem_cons.mp hst).2
  have zx : om_Z x := (List.forall_mem_cons.mp hst).1
  by_cases hq : x < lo ∨ hi < x
  · rw [if_pos hq] at ht
    exact lv_tableOut C.1 C.2.1 hd (by rw [om_ti zx]; exact hq) (om_go_eq ht) k
  · rw [if_neg hq] at ht
    cases ho : offs[(x - lo).toNat]? with
    | none => rw [ho] at ht; cases ht
    | some o =>
      rw [ho] at ht
      exact lv_tableIn C.1 C.2.1 hd (by rw [om_ti zx]; omega) (by rw [om_ti zx]; omega) (by rw [om_ti zx]; exact ho) (om_go_eq ht) k
end om_ins
end
section
/-! fields, arrays, new cells -/
theorem om_ce_obj {ad : List Nat} {b : Nat} {dA : Nat → ClassId} {c : Nat × Nat × List om_V} {g : Int → Int} (h : c.1 < 10) : om_ce ad b dA c g = .inr (c.1, c.2.2.map (om_tr ad b)) := by
  unfold om_ce
  rw [if_neg (by omega), if_neg (by omega)]
theorem om_ce_arr {ad : List Nat} {b : Nat} {dA : Nat → ClassId} {c : Nat × Nat × List om_V} {g : Int → Int} (h : 20 ≤ c.1) (h2 : c.1 ≠ 23) : om_ce ad b dA c g = .inl (dA c.1, c.2.1, .inl (fun k => Int32.ofInt (g k))) := by
  unfold om_ce
  rw [if_neg h2, if_pos h]
theorem om_ce_ref {ad : List Nat} {b : Nat} {dA : Nat → ClassId} {n : Nat} {vs : List om_V} {g : Int → Int} : om_ce ad b dA (23, n, vs) g = .inl (dA 23, n, .inr (.inr (.inr (.inr (fun k => om_el ad (vs.getD k om_nu)))))) := by
  unfold om_ce
  rw [if_pos rfl]
theorem om_cl_at {ci : Nat} (h : ci < 10) : om_cl[ci]? = some (om_cn ci, om_fT ci, om_fN ci) := by
  match ci, h with
  | 0, _ => rfl
  | 1, _ => rfl
  | 2, _ => rfl
  | 3, _ => rfl
  | 4, _ => rfl
  | 5, _ => rfl
  | 6, _ => rfl
  | 7, _ => rfl
  | 8, _ => rfl
  | 9, _ => rfl
  | n + 10, h => exact absurd h (by omega)
theorem om_ty_ok {ci : Nat} (h : ci < 10) : ∀ k, k < om_fN ci → parseFieldDescriptor (om_fT ci k).2.2.1 = some (om_ty ci k) := by
  match ci, h with
  | 0, _ => exact om_ty0
  | 1, _ => exact om_ty1
  | 2, _ => exact om_ty2
  | 3, _ => exact om_ty3
  | 4, _ => exact om_ty4
  | 5, _ => exact om_ty5
  | 6, _ => exact om_ty6
  | 7, _ => exact om_ty7
  | 8, _ => exact om_ty8
  | 9, _ => exact om_ty9
  | n + 10, h => exact absurd h (by omega)
theorem om_nm_ok {ci : Nat} (h : ci < 10) : ∀ a, a < om_fN ci → ∀ b, b < om_fN ci → a ≠ b → (om_fT ci a).2.1 ≠ (om_fT ci b).2.1 := by
  match ci, h with
  | 0, _ => exact om_nm0
  | 1, _ => exact om_nm1
  | 2, _ => exact om_nm2
  | 3, _ => exact om_nm3
  | 4, _ => exact om_nm4
  | 5, _ => exact om_nm5
  | 6, _ => exact om_nm6
  | 7, _ => exact om_nm7
  | 8, _ => exact om_nm8
  | 9, _ => exact om_nm9
  | n + 10, h => exact absurd h (by omega)
theorem om_lays {ci : Nat} (h : ci < 10) : (∀ w ∈ u_ws (om_cn ci) (om_fT ci) (om_fN ci), w ∈ om_wg) ∧ Cond.instantiable (om_cn ci) (om_fN ci) ∈ om_wg ∧ Cond.initialized (om_cn ci) ∈ om_wg := by
  have h1 := List.all_eq_true.mp om_lok1 ci (List.mem_range.mpr h)
  unfold om_lck at h1
  rw [Bool.and_eq_true] at h1
  refine ⟨fun w hw => ?_, ?_⟩
  · obtain ⟨k, hk, rfl⟩ := List.mem_map.mp hw
    exact om_wgi (List.all_eq_true.mp h1.1 k hk)
  · have h2 := h1.2
    cases hq : om_nwx.getD ci (0, 0) with
    | mk x y =>
      rw [hq] at h2
      rw [Bool.and_eq_true] at h2
      exact ⟨om_wgi h2.1, om_wgi h2.2⟩
theorem om_fl_ok {own i ci k : Nat} (h : om_fl own i = some (ci, k)) : Cond.fieldLink (om_cn own) i (om_fT ci k).1 (om_fT ci k).2.1 (om_fT ci k).2.2.1 ∈ om_wg ∧ k < om_fN ci ∧ ci < 10 := by
  unfold om_fl at h
  cases hf : om_fls.find? (fun e => e.1 == own && e.2.1 == i) with
  | none => rw [hf] at h; cases h
  | some e =>
    rw [hf] at h
    have hm := List.mem_of_find?_eq_some hf
    have hp := List.find?_some hf
    have h3 := List.all_eq_true.mp om_fok e hm
    obtain ⟨a1, a2, a3, a4, a5⟩ := e
    simp only [Bool.and_eq_true, beq_iff_eq] at hp
    obtain ⟨rfl, rfl⟩ := hp
    simp only [Option.map_some, Option.some.injEq, Prod.mk.injEq] at h
    obtain ⟨rfl, rfl⟩ := h
    simp only [Bool.and_eq_true, decide_eq_true_eq] at h3
    exact ⟨om_wgi h3.1, h3.2.1, h3.2.2⟩
theorem om_ck_ok {own i ci : Nat} (h : om_ck own i = some ci) : Cond.classLink (om_cn own) i (om_cn ci) ∈ om_wg := by
  unfold om_ck at h
  cases hf : om_cls.find? (fun e => e.1 == own && e.2.1 == i) with
  | none => rw [hf] at h; cases h
  | some e =>
    rw [hf] at h
    have hm := List.mem_of_find?_eq_some hf
    have hp := List.find?_some hf
    have h3 := List.all_eq_true.mp om_cok e hm
    obtain ⟨a1, a2, a3, a4⟩ := e
    simp only [Bool.and_eq_true, beq_iff_eq] at hp
    obtain ⟨rfl, rfl⟩ := hp
    simp only [Option.map_some, Option.some.injEq] at h
    subst h
    exact om_wgi h3
def om_kck (ci k : Nat) : Bool := match om_fk ci k, om_ty ci k with
  | 0, .int => true
  | 1, .boolean => true
  | 2, .object _ => true
  | 2, .array _ => true
  | _, _ => false
theorem om_kok : (List.range 10).all (fun ci => (List.range (om_fN ci)).all (fun k => om_kck ci k)) = true := by decide +kernel
theorem om_dok : (List.range 10).all (fun ci => decide ((om_def ci).length = om_fN ci) && (List.range (om_fN ci)).all (fun j => decide (defaultValue (om_ty ci j) = vp_V ((om_def ci).map (om_tr [] 0)) j))) = true := by decide +kernel
theorem om_fit_ok {mi ci k : Nat} {v : om_V} (hc : ci < 10) (hk : k < om_fN ci) (h : om_fit mi ci k v = true) (ad : List Nat) (b : Nat) : narrow (om_ty ci k) (om_tr ad b v) = om_tr ad b v ∧ fits (om_ty ci k) (om_tr ad b v) = true ∧ ((om_fT ci k).2.2.2 = true → om_in mi = true ∧ om_ow mi = ci) := by
  have h1 := List.all_eq_true.mp (List.all_eq_true.mp om_kok ci (List.mem_range.mpr hc)) k (List.mem_range.mpr hk)
  unfold om_fit at h
  rw [Bool.and_eq_true] at h
  have h3 : (om_fT ci k).2.2.2 = true → om_in mi = true ∧ om_ow mi = ci := by
    intro q
    have h2 := h.2
    rw [q] at h2
    simpa using h2
  have h2 := h.1
  unfold om_kck at h1
  split at h1
  · rename_i e1 e2
    rw [e1] at h2
    rw [e2]
    rcases v with z | q
    · exact ⟨rfl, rfl, h3⟩
    · cases h2
  · rename_i e1 e2
    rw [e1] at h2
    rw [e2]
    rcases v with z | q
    · simp only [Bool.or_eq_true, decide_eq_true_eq] at h2
      rcases h2 with rfl | rfl
      · exact ⟨rfl, rfl, h3⟩
      · exact ⟨rfl, rfl, h3⟩
    · cases h2
  · rename_i e1 e2
    rw [e1] at h2
    rw [e2]
    rcases v with z | a | q
    · cases h2
    · exact ⟨rfl, rfl, h3⟩
    · cases h2
  · rename_i e1 e2
    rw [e1] at h2
    rw [e2]
    rcases v with z | a | q
    · cases h2
    · exact ⟨rfl, rfl, h3⟩
    · cases h2
  · cases h1
theorem om_wf_set {h : om_H} (hw : om_wf h) {a : Nat} {c : Nat × Nat × List om_V} (hc : om_okc h.1.length c) : om_wf (h.1.set a c, h.2) := by
  refine ⟨fun q hq => ?_, hw.2.1, fun x hx z => hw.2.2 x (by simpa using hx) z⟩
  rw [List.length_set]
  rcases List.mem_or_eq_of_mem_set hq with q1 | rfl
  · exact hw.1 q q1
  · exact hc
theorem om_wf_u {h : om_H} (hw : om_wf h) {a : Nat} (ha : a < h.1.length) {f : Int → Int} (hf : ∀ z, om_Z (f z)) : om_wf (h.1, om_u h.2 a f) := by
  refine ⟨hw.1, fun x z => ?_, fun x hx z => ?_⟩
  · show om_Z (om_u h.2 a f x z)
    unfold om_u
    split
    · exact hf z
    · exact hw.2.1 x z
  · show om_u h.2 a f x z = 0
    have hx : h.1.length ≤ x := hx
    unfold om_u
    rw [if_neg (by omega)]
    exact hw.2.2 x hx z
theorem om_wf_push {h : om_H} (hw : om_wf h) {c : Nat × Nat × List om_V} (hc : om_okc h.1.length c) : om_wf (h.1 ++ [c], h.2) := by
  refine ⟨fun q hq => ?_, hw.2.1, fun x hx z => hw.2.2 x (by simp at hx; omega) z⟩
  rcases List.mem_append.mp hq with q1 | q1
  · exact fun v hv => om_ok_le (by simp) (hw.1 q q1 v hv)
  · rw [List.mem_singleton.mp q1]
    exact fun v hv => om_ok_le (by simp) (hc v hv)
theorem om_p_z {f : Int → Int} (hf : ∀ z, om_Z (f z)) {x v : Int} (hv : om_Z v) : ∀ z, om_Z (om_p f x v z) := by
  intro z
  unfold om_p
  split
  · exact hv
  · exact hf z
theorem om_upd_p {g : Int → Int} {z v : Int} (hz : om_Z z) (h0 : 0 ≤ z) : upd (fun k : Nat => Int32.ofInt (g k)) (Int32.ofInt z).toNatClampNeg (Int32.ofInt v) = fun k : Nat => Int32.ofInt (om_p g z v k) := by
  funext k
  rw [om_cn' hz]
  unfold upd om_p
  by_cases hk : k = z.toNat
  · subst hk
    rw [if_pos rfl, if_pos (by omega)]
  · rw [if_neg hk, if_neg (by omega)]
section om_hp
variable {p : Program} {l : Launch} {e : Env} {R : Room} {s : State} {m : MethodId} {args : Array Value} {below : List Frame} {meth : Method} {c : Code} {Q : State → Prop} {mi : Nat} {D : va_G} {dA : Nat → ClassId} {b bs : Nat} {sc : Int × (Int → Int)} {ad0 : List Nat} {cells slots pc : Nat} {L st : List om_V} {h : om_H}
theorem om_g_getf (C : om_Cx p s m args meth c mi D dA b bs sc) {i ci k a n : Nat} {vs : List om_V} {v : om_V} (hd : decode (om_by mi) pc = .ok (.getfield i, 3)) (hf : om_fl (om_ow mi) i = some (ci, k)) (ha : h.1[a]? = some (ci, n, vs)) (hv : vs[k]? = some v) (kk : (om_Gd p l e R s m args below meth c Q mi D dA b bs ad0 (pc + 3) (L) (v :: st) (h) (cells) (slots))) : (om_Gd p l e R s m args below meth c Q mi D dA b bs ad0 (pc) (L) (.inr (.inl a) :: st) (h) (cells) (slots)) := by
  intro ad H locs ls h0 hRe hS hl hn hL hst
  obtain ⟨hx, hb, hml, hown, hts, hr, hlk, hin, hKx⟩ := C
  obtain ⟨f1, f2, f3⟩ := om_fl_ok hf
  have hat := om_ws_at (ad := ad) (b := b) (dA := dA) ha
  rw [om_ce_obj (show (ci, n, vs).1 < 10 from f3)] at hat
  have hvo : om_ok h.1.length v := hRe.2.1.1 _ (List.mem_of_getElem? ha) v (List.mem_of_getElem? hv)
  exact va_get (v := om_tr ad b v) (C := om_cn ci) (T := om_fT ci) (N := om_fN ci) hx hb hts (om_lays f3).1 hown hKx.1 hRe.2.2.1 a hat (om_cl_at f3) k f2 (hts _ f1) (fun _ q => q) (by simp [hv]) hd (kk ad H locs ls h0 hRe hS hl hn hL (List.forall_mem_cons.mpr ⟨hvo, (List.forall_mem_cons.mp hst).2⟩))
theorem om_g_putf (C : om_Cx p s m args meth c mi D dA b bs sc) {i ci k a n : Nat} {vs : List om_V} {v : om_V} (hd : decode (om_by mi) pc = .ok (.putfield i, 3)) (hf : om_fl (om_ow mi) i = some (ci, k)) (ha : h.1[a]? = some (ci, n, vs)) (hk : k < vs.length) (hfit : om_fit mi ci k v = true) (kk : (om_Gd p l e R s m args below meth c Q mi D dA b bs ad0 (pc + 3) (L) (st) ((h.1.set a (ci, n, vs.set k v), h.2)) (cells) (slots))) : (om_Gd p l e R s m args below meth c Q mi D dA b bs ad0 (pc) (L) (v :: .inr (.inl a) :: st) (h) (cells) (slots)) := by
  intro ad H locs ls h0 hRe hS hl hn hL hst
  obtain ⟨hx, hb, hml, hown, hts, hr, hlk, hin, hKx⟩ := C
  obtain ⟨f1, f2, f3⟩ := om_fl_ok hf
  obtain ⟨g1, g2, g3⟩ := om_fit_ok f3 f2 hfit ad b
  have hat := om_ws_at (ad := ad) (b := b) (dA := dA) ha
  rw [om_ce_obj (show (ci, n, vs).1 < 10 from f3)] at hat
  obtain ⟨hvo, hst⟩ := List.forall_mem_cons.mp hst
  have hst := (List.forall_mem_cons.mp hst).2
  have hwf : om_wf (h.1.set a (ci, n, vs.set k v), h.2) := om_wf_set hRe.2.1 (fun w hw => by
    rcases List.mem_or_eq_of_mem_set hw with q | rfl
    · exact hRe.2.1.1 _ (List.mem_of_getElem? ha) w q
    · exact hvo)
  have hws : (om_ws ad b dA h).set a (ad.getD a 0, .inr (ci, (vs.map (om_tr ad b)).set k (om_tr ad b v))) = om_ws ad b dA (h.1.set a (ci, n, vs.set k v), h.2) := by
    rw [← om_ws_setO, om_ce_obj (show (ci, n, vs.set k v).1 < 10 from f3), List.map_set]
  have go : ∀ (H1 : Heap) (locs1 : List Loc), va_P D om_cl ((om_ws ad b dA h).set a (ad.getD a 0, .inr (ci, (vs.map (om_tr ad b)).set k (om_tr ad b v)))) H1 → va_D (fun q => bs ≤ q) ((om_ws ad b dA h).set a (ad.getD a 0, .inr (ci, (vs.map (om_tr ad b)).set k (om_tr ad b v)))) → va_S (fun q => bs ≤ q) s.heap H1 locs1 → W p l e R s m args below meth c H1 locs1 cells slots Q (F0 m (pc + 3) ls (st.map (om_tr ad b))) := by
    intro H1 locs1 hP1 hD1 hS1
    rw [hws] at hP1 hD1
    exact kk ad H1 locs1 ls h0 ⟨by rw [List.length_set]; exact hRe.1, hwf, hP1, hD1⟩ hS1 hl hn (by rw [List.length_set]; exact hL) (by rw [List.length_set]; exact hst)
  cases hfin : (om_fT ci k).2.2.2 with
  | false => exact va_put (C := om_cn ci) (T := om_fT ci) (N := om_fN ci) (ty := om_ty ci k) hx hb hts (om_lays f3).1 (om_ty ci) (om_ty_ok f3) (om_nm_ok f3) hown hKx.1 hRe.2.2.1 hRe.2.2.2 hS a hat (om_cl_at f3) k f2 (hts _ f1) (fun _ q => q) hfin (om_ty_ok f3 k f2) g1 g2 (by simpa using hk) hd go
  | true =>
    obtain ⟨q1, q2⟩ := g3 hfin
    have hdecl : (om_fT ci k).1 = om_cn (om_ow mi) := by
      rw [q2]
      have := List.all_eq_true.mp (show (List.range 10).all (fun ci => (List.range (om_fN ci)).all (fun k => decide ((om_fT ci k).1 = om_cn ci))) = true by decide +kernel) ci (List.mem_range.mpr f3)
      exact of_decide_eq_true (List.all_eq_true.mp this k (List.mem_range.mpr f2))
    exact va_putF (C := om_cn ci) (T := om_fT ci) (N := om_fN ci) (ty := om_ty ci k) hx hb hts (om_lays f3).1 (om_ty ci) (om_ty_ok f3) (om_nm_ok f3) hown hKx.1 hRe.2.2.1 hRe.2.2.2 hS a hat (om_cl_at f3) k f2 (hts _ f1) (fun _ q => q) hfin (hin q1) hdecl (om_ty_ok f3 k f2) g1 g2 (by simpa using hk) hd go
theorem om_at_arr {ad : List Nat} {a k n : Nat} {vs : List om_V} (h1 : 20 ≤ k) (h2 : k ≠ 23) (ha : h.1[a]? = some (k, n, vs)) : (om_ws ad b dA h)[a]? = some (ad.getD a 0, .inl (dA k, n, .inl (fun j : Nat => Int32.ofInt (h.2 a j)))) := by
  have hat := om_ws_at (ad := ad) (b := b) (dA := dA) ha
  rwa [om_ce_arr (show 20 ≤ (k, n, vs).1 from h1) h2] at hat
theorem om_g_ial (C : om_Cx p s m args meth c mi D dA b bs sc) {a n : Nat} {z : Int} {vs : List om_V} (hd : decode (om_by mi) pc = .ok (.iaload, 1)) (ha : h.1[a]? = some (20, n, vs)) (hz : 0 ≤ z ∧ z < n) (kk : (om_Gd p l e R s m args below meth c Q mi D dA b bs ad0 (pc + 1) (L) (.inl (h.2 a z) :: st) (h) (cells) (slots))) : (om_Gd p l e R s m args below meth c Q mi D dA b bs ad0 (pc) (L) (.inl z :: .inr (.inl a) :: st) (h) (cells) (slots)) := by
  intro ad H locs ls h0 hRe hS hl hn hL hst
  obtain ⟨zz, hst⟩ := List.forall_mem_cons.mp hst
  have hst := (List.forall_mem_cons.mp hst).2
  have k := kk ad H locs ls h0 hRe hS hl hn hL (List.forall_mem_cons.mpr ⟨hRe.2.1.2.1 a z, hst⟩)
  refine va_iald C.1 C.2.1 C.2.2.2.2.2.2.2.2.1 hRe.2.2.1 a 0 (om_at_arr (by omega) (by omega) ha) rfl (om_vin zz hz.1 hz.2) hd ?_
  rw [om_cn' zz, Int.toNat_of_nonneg hz.1]
  exact k
theorem om_g_cal (C : om_Cx p s m args meth c mi D dA b bs sc) {a n : Nat} {z : Int} {vs : List om_V} (hd : decode (om_by mi) pc = .ok (.caload, 1)) (ha : h.1[a]? = some (21, n, vs)) (hz : 0 ≤ z ∧ z < n) (kk : (om_Gd p l e R s m args below meth c Q mi D dA b bs ad0 (pc + 1) (L) (.inl (h.2 a z) :: st) (h) (cells) (slots))) : (om_Gd p l e R s m args below meth c Q mi D dA b bs ad0 (pc) (L) (.inl z :: .inr (.inl a) :: st) (h) (cells) (slots)) := by
  intro ad H locs ls h0 hRe hS hl hn hL hst
  obtain ⟨zz, hst⟩ := List.forall_mem_cons.mp hst
  have hst := (List.forall_mem_cons.mp hst).2
  have k := kk ad H locs ls h0 hRe hS hl hn hL (List.forall_mem_cons.mpr ⟨hRe.2.1.2.1 a z, hst⟩)
  refine va_cald C.1 C.2.1 C.2.2.2.2.2.2.2.2.1 hRe.2.2.1 a 1 (om_at_arr (by omega) (by omega) ha) rfl (om_vin zz hz.1 hz.2) hd ?_
  rw [om_cn' zz, Int.toNat_of_nonneg hz.1]
  exact k
theorem om_g_bal (C : om_Cx p s m args meth c mi D dA b bs sc) {a n : Nat} {z : Int} {vs : List om_V} (hd : decode (om_by mi) pc = .ok (.baload, 1)) (ha : h.1[a]? = some (22, n, vs)) (hz : 0 ≤ z ∧ z < n) (kk : (om_Gd p l e R s m args below meth c Q mi D dA b bs ad0 (pc + 1) (L) (.inl (h.2 a z) :: st) (h) (cells) (slots))) : (om_Gd p l e R s m args below meth c Q mi D dA b bs ad0 (pc) (L) (.inl z :: .inr (.inl a) :: st) (h) (cells) (slots)) := by
  intro ad H locs ls h0 hRe hS hl hn hL hst
  obtain ⟨zz, hst⟩ := List.forall_mem_cons.mp hst
  have hst := (List.forall_mem_cons.mp hst).2
  have k := kk ad H locs ls h0 hRe hS hl hn hL (List.forall_mem_cons.mpr ⟨hRe.2.1.2.1 a z, hst⟩)
  refine va_zald C.1 C.2.1 C.2.2.2.2.2.2.2.2.1 hRe.2.2.1 a 2 (om_at_arr (by omega) (by omega) ha) rfl (om_vin zz hz.1 hz.2) hd ?_
  rw [om_cn' zz, Int.toNat_of_nonneg hz.1]
  exact k
/-- behind a store into an array of numbers -/
theorem om_st_go {ad : List Nat} {ls : Array Slot} {H : Heap} {a k n : Nat} {z x : Int} {vs : List om_V} (pc' : Nat) (h1 : 20 ≤ k) (h2 : k ≠ 23) (ha : h.1[a]? = some (k, n, vs)) (zz : om_Z z) (zx : om_Z x) (hz : 0 ≤ z) (h0 : ad0 <+: ad) (hRe : om_Re D dA (fun q => bs ≤ q) b ad h H) (hl : lv_has ls (om_ml mi) (om_lv ad b L)) (hn : L.length = om_ml mi) (hL : ∀ v ∈ L, v = om_un ∨ om_ok h.1.length v) (hst : ∀ v ∈ st, om_ok h.1.length v) (kk : (om_Gd p l e R s m args below meth c Q mi D dA b bs ad0 (pc') (L) (st) ((h.1, om_u h.2 a (om_p (h.2 a) z x))) (cells) (slots))) {y : Int32} (hy : y = Int32.ofInt x) : ∀ (H1 : Heap) (locs1 : List Loc), va_P D om_cl ((om_ws ad b dA h).set a (ad.getD a 0, .inl (dA k, n, .inl (upd (fun j : Nat => Int32.ofInt (h.2 a j)) (Int32.ofInt z).toNatClampNeg y)))) H1 → va_D (fun q => bs ≤ q) ((om_ws ad b dA h).set a (ad.getD a 0, .inl (dA k, n, .inl (upd (fun j : Nat => Int32.ofInt (h.2 a j)) (Int32.ofInt z).toNatClampNeg y)))) → va_S (fun q => bs ≤ q) s.heap H1 locs1 → W p l e R s m args below meth c H1 locs1 cells slots Q (F0 m pc' ls (st.map (om_tr ad b))) := by
  intro H1 locs1 hP1 hD1 hS1
  have hws : (om_ws ad b dA h).set a (ad.getD a 0, .inl (dA k, n, .inl (upd (fun j : Nat => Int32.ofInt (h.2 a j)) (Int32.ofInt z).toNatClampNeg y))) = om_ws ad b dA (h.1, om_u h.2 a (om_p (h.2 a) z x)) := by
    rw [← om_ws_setI ha, om_ce_arr (show 20 ≤ (k, n, vs).1 from h1) h2, hy, om_upd_p zz hz]
  rw [hws] at hP1 hD1
  exact kk ad H1 locs1 ls h0 ⟨hRe.1, om_wf_u hRe.2.1 (List.getElem?_eq_some_iff.mp ha).1 (om_p_z (hRe.2.1.2.1 a) zx), hP1, hD1⟩ hS1 hl hn hL hst
theorem om_g_ias (C : om_Cx p s m args meth c mi D dA b bs sc) {a n : Nat} {z x : Int} {vs : List om_V} (hd : decode (om_by mi) pc = .ok (.iastore, 1)) (ha : h.1[a]? = some (20, n, vs)) (hz : 0 ≤ z ∧ z < n) (kk : (om_Gd p l e R s m args below meth c Q mi D dA b bs ad0 (pc + 1) (L) (st) ((h.1, om_u h.2 a (om_p (h.2 a) z x))) (cells) (slots))) : (om_Gd p l e R s m args below meth c Q mi D dA b bs ad0 (pc) (L) (.inl x :: .inl z :: .inr (.inl a) :: st) (h) (cells) (slots)) := by
  intro ad H locs ls h0 hRe hS hl hn hL hst
  obtain ⟨zx, hst⟩ := List.forall_mem_cons.mp hst
  obtain ⟨zz, hst⟩ := List.forall_mem_cons.mp hst
  have hst := (List.forall_mem_cons.mp hst).2
  exact va_iast C.1 C.2.1 C.2.2.2.2.2.2.2.2.1 hRe.2.2.1 hRe.2.2.2 hS a 0 (om_at_arr (by omega) (by omega) ha) rfl (om_vin zz hz.1 hz.2) hd (om_st_go (pc + 1) (by omega) (by omega) ha zz zx hz.1 h0 hRe hl hn hL hst kk rfl)
theorem om_nar_c {x : Int} (h0 : 0 ≤ x) (h1 : x ≤ 65535) : vp_nar .char (Int32.ofInt x) = Int32.ofInt x := by
  have h2 := (pk_charN (q := x.toNat) (by omega)).1
  have e1 : nI x.toNat = Int32.ofInt x := by
    show Int32.ofNat _ = _
    rw [om_nn, Int.toNat_of_nonneg h0]
  rw [e1] at h2
  unfold vp_nar
  rw [h2]
theorem om_g_cas (C : om_Cx p s m args meth c mi D dA b bs sc) {a n : Nat} {z x : Int} {vs : List om_V} (hd : decode (om_by mi) pc = .ok (.castore, 1)) (ha : h.1[a]? = some (21, n, vs)) (hz : 0 ≤ z ∧ z < n) (hx : 0 ≤ x ∧ x ≤ 65535) (kk : (om_Gd p l e R s m args below meth c Q mi D dA b bs ad0 (pc + 1) (L) (st) ((h.1, om_u h.2 a (om_p (h.2 a) z x))) (cells) (slots))) : (om_Gd p l e R s m args below meth c Q mi D dA b bs ad0 (pc) (L) (.inl x :: .inl z :: .inr (.inl a) :: st) (h) (cells) (slots)) := by
  intro ad H locs ls h0 hRe hS hl hn hL hst
  obtain ⟨zx, hst⟩ := List.forall_mem_cons.mp hst
  obtain ⟨zz, hst⟩ := List.forall_mem_cons.mp hst
  have hst := (List.forall_mem_cons.mp hst).2
  exact va_cast C.1 C.2.1 C.2.2.2.2.2.2.2.2.1 hRe.2.2.1 hRe.2.2.2 hS a 1 (om_at_arr (by omega) (by omega) ha) rfl (om_vin zz hz.1 hz.2) hd (om_st_go (pc + 1) (by omega) (by omega) ha zz zx hz.1 h0 hRe hl hn hL hst kk (om_nar_c hx.1 hx.2))
theorem om_g_bas (C : om_Cx p s m args meth c mi D dA b bs sc) {a n : Nat} {z x : Int} {vs : List om_V} (hd : decode (om_by mi) pc = .ok (.bastore, 1)) (ha : h.1[a]? = some (22, n, vs)) (hz : 0 ≤ z ∧ z < n) (hx : x = 0 ∨ x = 1) (kk : (om_Gd p l e R s m args below meth c Q mi D dA b bs ad0 (pc + 1) (L) (st) ((h.1, om_u h.2 a (om_p (h.2 a) z x))) (cells) (slots))) : (om_Gd p l e R s m args below meth c Q mi D dA b bs ad0 (pc) (L) (.inl x :: .inl z :: .inr (.inl a) :: st) (h) (cells) (slots)) := by
  intro ad H locs ls h0 hRe hS hl hn hL hst
  obtain ⟨zx, hst⟩ := List.forall_mem_cons.mp hst
  obtain ⟨zz, hst⟩ := List.forall_mem_cons.mp hst
  have hst := (List.forall_mem_cons.mp hst).2
  exact va_zast C.1 C.2.1 C.2.2.2.2.2.2.2.2.1 hRe.2.2.1 hRe.2.2.2 hS a 2 (om_at_arr (by omega) (by omega) ha) rfl (om_vin zz hz.1 hz.2) hd (om_st_go (pc + 1) (by omega) (by omega) ha zz zx hz.1 h0 hRe hl hn hL hst kk (by rcases hx with rfl | rfl <;> rfl))
theorem om_g_aal (C : om_Cx p s m args meth c mi D dA b bs sc) {a n r : Nat} {z : Int} {vs : List om_V} (hd : decode (om_by mi) pc = .ok (.aaload, 1)) (ha : h.1[a]? = some (23, n, vs)) (hz : 0 ≤ z ∧ z < n) (hv : vs[z.toNat]? = some (.inr (.inl r))) (kk : (om_Gd p l e R s m args below meth c Q mi D dA b bs ad0 (pc + 1) (L) (.inr (.inl r) :: st) (h) (cells) (slots))) : (om_Gd p l e R s m args below meth c Q mi D dA b bs ad0 (pc) (L) (.inl z :: .inr (.inl a) :: st) (h) (cells) (slots)) := by
  intro ad H locs ls h0 hRe hS hl hn hL hst
  obtain ⟨zz, hst⟩ := List.forall_mem_cons.mp hst
  have hst := (List.forall_mem_cons.mp hst).2
  have hvo : om_ok h.1.length (.inr (.inl r)) := hRe.2.1.1 _ (List.mem_of_getElem? ha) _ (List.mem_of_getElem? hv)
  have k := kk ad H locs ls h0 hRe hS hl hn hL (List.forall_mem_cons.mpr ⟨hvo, hst⟩)
  have hat := om_ws_at (ad := ad) (b := b) (dA := dA) ha
  rw [om_ce_ref] at hat
  refine va_aldq (C := "OreSolver$Operator") C.1 C.2.1 C.2.2.2.2.2.2.2.2.1 hRe.2.2.1 a 3 hat rfl (om_vin zz hz.1 hz.2) hd ?_
  rw [om_cn' zz, List.getD, hv]
  exact k
theorem om_g_aas (C : om_Cx p s m args meth c mi D dA b bs sc) {a n r nr : Nat} {z : Int} {vs vr : List om_V} (hd : decode (om_by mi) pc = .ok (.aastore, 1)) (ha : h.1[a]? = some (23, n, vs)) (hr : h.1[r]? = some (5, nr, vr)) (hz : 0 ≤ z ∧ z < n) (hv : z.toNat < vs.length) (kk : (om_Gd p l e R s m args below meth c Q mi D dA b bs ad0 (pc + 1) (L) (st) ((h.1.set a (23, n, vs.set z.toNat (.inr (.inl r))), h.2)) (cells) (slots))) : (om_Gd p l e R s m args below meth c Q mi D dA b bs ad0 (pc) (L) (.inr (.inl r) :: .inl z :: .inr (.inl a) :: st) (h) (cells) (slots)) := by
  intro ad H locs ls h0 hRe hS hl hn hL hst
  obtain ⟨zr, hst⟩ := List.forall_mem_cons.mp hst
  obtain ⟨zz, hst⟩ := List.forall_mem_cons.mp hst
  have hst := (List.forall_mem_cons.mp hst).2
  have hat := om_ws_at (ad := ad) (b := b) (dA := dA) ha
  rw [om_ce_ref] at hat
  have hrt := om_ws_at (ad := ad) (b := b) (dA := dA) hr
  rw [om_ce_obj (show (5, nr, vr).1 < 10 from Nat.le_of_ble_eq_true rfl)] at hrt
  have hwf : om_wf (h.1.set a (23, n, vs.set z.toNat (.inr (.inl r))), h.2) := om_wf_set hRe.2.1 (fun w hw => by
    rcases List.mem_or_eq_of_mem_set hw with q | rfl
    · exact hRe.2.1.1 _ (List.mem_of_getElem? ha) w q
    · exact zr)
  refine va_astq C.1 C.2.1 C.2.2.2.2.2.2.2.2.1 hRe.2.2.1 hRe.2.2.2 hS a 3 r 5 hat rfl hrt (om_cl_at (ci := 5) (by decide)) (om_vin zz hz.1 hz.2) hd ?_
  intro H1 locs1 hP1 hD1 hS1
  have hws : (om_ws ad b dA h).set a (ad.getD a 0, .inl (dA 23, n, .inr (.inr (.inr (.inr (va_up (fun k => om_el ad (vs.getD k om_nu)) (Int32.ofInt z).toNatClampNeg (some (ad.getD r 0)))))))) = om_ws ad b dA (h.1.set a (23, n, vs.set z.toNat (.inr (.inl r))), h.2) := by
    rw [← om_ws_setO, om_ce_ref]
    have e1 : va_up (fun k => om_el ad (vs.getD k om_nu)) (Int32.ofInt z).toNatClampNeg (some (ad.getD r 0)) = fun k => om_el ad ((vs.set z.toNat (.inr (.inl r))).getD k om_nu) := by
      funext k
      rw [om_cn' zz]
      unfold va_up
      by_cases hk : k = z.toNat
      · subst hk
        have e2 : (vs.set z.toNat (.inr (.inl r))).getD z.toNat om_nu = .inr (.inl r) := by simp [List.getD, hv]
        rw [if_pos rfl, e2]
        rfl
      · have e2 : (vs.set z.toNat (.inr (.inl r))).getD k om_nu = vs.getD k om_nu := by
          have hk2 : ¬ z.toNat = k := fun q => hk q.symm
          simp only [List.getD, List.getElem?_set, if_neg hk2]
        rw [if_neg hk, e2]
    rw [e1]
  rw [hws] at hP1 hD1
  exact kk ad H1 locs1 ls h0 ⟨by rw [List.length_set]; exact hRe.1, hwf, hP1, hD1⟩ hS1 hl hn (by rw [List.length_set]; exact hL) (by rw [List.length_set]; exact hst)
theorem om_g_sld (C : om_Cx p s m args meth c mi D dA b bs sc) {z : Int} (hd : decode (om_by mi) pc = .ok (.iaload, 1)) (hz : 0 ≤ z ∧ z < sc.1) (kk : (om_Gd p l e R s m args below meth c Q mi D dA b bs ad0 (pc + 1) (L) (.inl (sc.2 z) :: st) (h) (cells) (slots))) : (om_Gd p l e R s m args below meth c Q mi D dA b bs ad0 (pc) (L) (.inl z :: .inr (.inr 2) :: st) (h) (cells) (slots)) := by
  intro ad H locs ls h0 hRe hS hl hn hL hst
  obtain ⟨zz, hst⟩ := List.forall_mem_cons.mp hst
  have hst := (List.forall_mem_cons.mp hst).2
  obtain ⟨hK, ⟨n, xs, hnn, hX, rfl⟩, hb1, hb2, -, -⟩ := C.2.2.2.2.2.2.2.2
  have k := kk ad H locs ls h0 hRe hS hl hn hL (List.forall_mem_cons.mpr ⟨om_zi _, hst⟩)
  refine va_sld C.1 C.2.1 hX (by omega) (show ¬ bs ≤ b by omega) hS (om_vin zz hz.1 hz.2) hd ?_
  rw [om_cn' zz]
  have e1 : om_tr ad b (.inl ((om_scr n xs).2 z)) = .int (xs z.toNat) := by
    show Value.int (Int32.ofInt (xs z.toNat).toInt) = _
    rw [om_oi]
  rw [List.map_cons, e1] at k
  exact k
theorem om_g_slen (C : om_Cx p s m args meth c mi D dA b bs sc) (hd : decode (om_by mi) pc = .ok (.arraylength, 1)) (hz : om_Z sc.1) (kk : (om_Gd p l e R s m args below meth c Q mi D dA b bs ad0 (pc + 1) (L) (.inl sc.1 :: st) (h) (cells) (slots))) : (om_Gd p l e R s m args below meth c Q mi D dA b bs ad0 (pc) (L) (.inr (.inr 2) :: st) (h) (cells) (slots)) := by
  intro ad H locs ls h0 hRe hS hl hn hL hst
  have hst := (List.forall_mem_cons.mp hst).2
  obtain ⟨hK, ⟨n, xs, hnn, hX, rfl⟩, hb1, hb2, -, -⟩ := C.2.2.2.2.2.2.2.2
  have k := kk ad H locs ls h0 hRe hS hl hn hL (List.forall_mem_cons.mpr ⟨hz, hst⟩)
  refine va_slen C.1 C.2.1 hX (by omega) (show ¬ bs ≤ b by omega) hS hd ?_
  rw [om_nn]
  exact k
theorem om_g_alen (C : om_Cx p s m args meth c mi D dA b bs sc) {a kd n : Nat} {vs : List om_V} (hd : decode (om_by mi) pc = .ok (.arraylength, 1)) (ha : h.1[a]? = some (kd, n, vs)) (hkd : 20 ≤ kd ∧ kd ≤ 23) (hz : om_Z n) (kk : (om_Gd p l e R s m args below meth c Q mi D dA b bs ad0 (pc + 1) (L) (.inl (n : Int) :: st) (h) (cells) (slots))) : (om_Gd p l e R s m args below meth c Q mi D dA b bs ad0 (pc) (L) (.inr (.inl a) :: st) (h) (cells) (slots)) := by
  intro ad H locs ls h0 hRe hS hl hn hL hst
  have hst := (List.forall_mem_cons.mp hst).2
  have k := kk ad H locs ls h0 hRe hS hl hn hL (List.forall_mem_cons.mpr ⟨hz, hst⟩)
  by_cases h3 : kd = 23
  · subst h3
    have hat := om_ws_at (ad := ad) (b := b) (dA := dA) ha
    rw [om_ce_ref] at hat
    exact va_alen C.1 C.2.1 C.2.2.2.2.2.2.2.2.1 hRe.2.2.1 a 3 hat rfl om_nn hd k
  · have hat := om_at_arr (ad := ad) (b := b) (dA := dA) hkd.1 h3 ha
    rcases (show kd = 20 ∨ kd = 21 ∨ kd = 22 by omega) with rfl | rfl | rfl
    · exact va_alen C.1 C.2.1 C.2.2.2.2.2.2.2.2.1 hRe.2.2.1 a 0 hat rfl om_nn hd k
    · exact va_alen C.1 C.2.1 C.2.2.2.2.2.2.2.2.1 hRe.2.2.1 a 1 hat rfl om_nn hd k
    · exact va_alen C.1 C.2.1 C.2.2.2.2.2.2.2.2.1 hRe.2.2.1 a 2 hat rfl om_nn hd k
end om_hp
end
section
/-! new cells, arraycopy, min, Object's constructor -/
section om_nw
variable {p : Program} {l : Launch} {e : Env} {R : Room} {s : State} {m : MethodId} {args : Array Value} {below : List Frame} {meth : Method} {c : Code} {Q : State → Prop} {mi : Nat} {D : va_G} {dA : Nat → ClassId} {b bs : Nat} {sc : Int × (Int → Int)} {ad0 : List Nat} {cells slots pc : Nat} {L st : List om_V} {h : om_H}
theorem om_hA (C : om_Cx p s m args meth c mi D dA b bs sc) : ∀ q : Nat, s.heap.size ≤ q → (fun q => bs ≤ q) q := fun q hq => Nat.le_trans C.2.2.2.2.2.2.2.2.2.2.2.1 hq
/-- what a new cell leaves -/
theorem om_push {ad : List Nat} {H1 : Heap} {locs1 : List Loc} {ls : Array Slot} {q : Nat} {cel : Nat × Nat × List om_V} {E : va_E} (pc' cells' slots' : Nat) (h0 : ad0 <+: ad) (hlen : ad.length = h.1.length) (hw : om_wf h) (hc : om_okc h.1.length cel) (hE : E = om_ce (ad ++ [q]) b dA cel (h.2 h.1.length)) (hP : va_P D om_cl (om_ws ad b dA h ++ [(q, E)]) H1) (hD : va_D (fun q => bs ≤ q) (om_ws ad b dA h ++ [(q, E)])) (hS : va_S (fun q => bs ≤ q) s.heap H1 locs1) (hl : lv_has ls (om_ml mi) (om_lv ad b L)) (hn : L.length = om_ml mi) (hL : ∀ v ∈ L, v = om_un ∨ om_ok h.1.length v) (hst : ∀ v ∈ st, om_ok h.1.length v) (kk : (om_Gd p l e R s m args below meth c Q mi D dA b bs ad0 (pc') (L) (.inr (.inl h.1.length) :: st) ((h.1 ++ [cel], h.2)) (cells') (slots'))) : W p l e R s m args below meth c H1 locs1 cells' slots' Q (F0 m pc' ls (.ref q :: st.map (om_tr ad b))) := by
  subst hE
  rw [om_ws_push q cel hlen hw] at hP hD
  have hpre : ad <+: ad ++ [q] := ⟨[q], rfl⟩
  have hle : h.1.length ≤ (h.1 ++ [cel]).length := by simp
  have k := kk (ad ++ [q]) H1 locs1 ls (h0.trans hpre) ⟨by simp [hlen], om_wf_push hw hc, hP, hD⟩ hS (om_lv_pre hpre (by rw [hlen]; exact hL) hl) hn (fun v hv => (hL v hv).imp id (om_ok_le hle)) (List.forall_mem_cons.mpr ⟨show h.1.length < (h.1 ++ [cel]).length by simp, fun v hv => om_ok_le hle (hst v hv)⟩)
  have e1 : (ad ++ [q]).getD h.1.length 0 = q := by simp [List.getD, ← hlen]
  rw [List.map_cons, om_map_pre hpre (by rw [hlen]; exact hst)] at k
  have e2 : om_tr (ad ++ [q]) b (.inr (.inl h.1.length)) = .ref q := by
    show Value.ref _ = _
    rw [e1]
  rw [e2] at k
  exact k
theorem om_def_ok (ci n : Nat) : ∀ v ∈ om_def ci, om_ok n v := by
  intro v hv
  obtain ⟨k, -, rfl⟩ := List.mem_map.mp hv
  split
  · exact Or.inl rfl
  · exact ⟨by decide, by decide⟩
theorem om_def_tr (ad : List Nat) (b ci : Nat) : (om_def ci).map (om_tr ad b) = (om_def ci).map (om_tr [] 0) := by
  apply List.map_congr_left
  intro v hv
  obtain ⟨k, -, rfl⟩ := List.mem_map.mp hv
  split <;> rfl
theorem om_g_new (C : om_Cx p s m args meth c mi D dA b bs sc) {i ci : Nat} (hd : decode (om_by mi) pc = .ok (.new i, 3)) (hck : om_ck (om_ow mi) i = some ci) (hci : ci < 10) (hcells : cells + 1 ≤ R.cells) (hslots : slots + om_fN ci ≤ R.slots) (kk : (om_Gd p l e R s m args below meth c Q mi D dA b bs ad0 (pc + 3) (L) (.inr (.inl h.1.length) :: st) ((h.1 ++ [(ci, om_fN ci, om_def ci)], h.2)) (cells + 1) (slots + om_fN ci))) : (om_Gd p l e R s m args below meth c Q mi D dA b bs ad0 (pc) (L) (st) (h) (cells) (slots)) := by
  intro ad H locs ls h0 hRe hS hl hn hL hst
  have hA := om_hA C
  obtain ⟨hx, hb, hml, hown, hts, hr, hlk, hin, hKx⟩ := C
  have hdk := List.all_eq_true.mp om_dok ci (List.mem_range.mpr hci)
  rw [Bool.and_eq_true] at hdk
  refine va_new (ci := ci) (fs := (om_def ci).map (om_tr [] 0)) (C := om_cn ci) (T := om_fT ci) (N := om_fN ci) hx hb hts (om_lays hci).1 (om_ty ci) (om_ty_ok hci) hown (hts _ (om_ck_ok hck)) (hts _ (om_lays hci).2.1) (hts _ (om_lays hci).2.2) hKx.1 hRe.2.2.1 hRe.2.2.2 hS hA (om_cl_at hci) (fun j hj => of_decide_eq_true (List.all_eq_true.mp hdk.2 j (List.mem_range.mpr hj))) hcells hslots hd (fun q H1 hP1 hD1 hS1 => ?_)
  refine om_push (cel := (ci, om_fN ci, om_def ci)) (pc + 3) (cells + 1) (slots + om_fN ci) h0 hRe.1 hRe.2.1 (om_def_ok ci _) ?_ hP1 hD1 hS1 hl hn hL hst kk
  rw [om_ce_obj (show (ci, om_fN ci, om_def ci).1 < 10 from hci)]
  show (Sum.inr (ci, _) : va_E) = Sum.inr (ci, (om_def ci).map (om_tr (ad ++ [q]) b))
  rw [om_def_tr (ad ++ [q]) b ci]
theorem om_K_arr {tys : List (ClassId × FieldType)} {ty : FieldType} {cA cB : ClassId} {i : Nat} (hty : va_RA s cB ty → va_RA s cA ty → cB = cA) (hK : va_K D om_cl (tys ++ [(cA, ty)]) s) (hi : tys[i]? = some (cB, ty)) : cB = cA := by
  have h1 := hK.2 tys.length (cA, ty) (by simp)
  have h2 := hK.2 i (cB, ty) (by rw [List.getElem?_append_left (List.getElem?_eq_some_iff.mp hi).1]; exact hi)
  exact hty h2.2 h1.2
theorem om_z0 {h : om_H} (hw : om_wf h) : (fun k : Nat => Int32.ofInt (h.2 h.1.length k)) = fun _ => 0 := by
  funext k
  rw [hw.2.2 _ (Nat.le_refl _)]
  rfl
theorem om_g_nai (C : om_Cx p s m args meth c mi D dA b bs sc) {z : Int} (hd : decode (om_by mi) pc = .ok (.newarray .int, 2)) (hz : 0 ≤ z ∧ z ≤ 100000) (hcells : cells + 1 ≤ R.cells) (hslots : slots + z.toNat ≤ R.slots) (kk : (om_Gd p l e R s m args below meth c Q mi D dA b bs ad0 (pc + 2) (L) (.inr (.inl h.1.length) :: st) ((h.1 ++ [(20, z.toNat, [])], h.2)) (cells + 1) (slots + z.toNat))) : (om_Gd p l e R s m args below meth c Q mi D dA b bs ad0 (pc) (L) (.inl z :: st) (h) (cells) (slots)) := by
  intro ad H locs ls h0 hRe hS hl hn hL hst
  have hA := om_hA C
  obtain ⟨hx, hb, hml, hown, hts, hr, hlk, hin, hKx⟩ := C
  obtain ⟨zz, hst⟩ := List.forall_mem_cons.mp hst
  refine va_newa (atype := .int) (ty := .int) (N' := z.toNat) (a0 := (z.toNat, .inl (fun _ => 0))) hx hb (hts _ (by exact om_wgi (i := 129) (by decide +kernel))) rfl hKx.1 hRe.2.2.1 hRe.2.2.2 hS hA (fun cA => rfl) (by rw [show (0 : Int32) = Int32.ofInt 0 from rfl, om_lt zz (by decide)]; omega) (om_cn' zz) (by show z.toNat * 4 ≤ _; omega) hcells hslots hd (fun q cA H1 hK1 hP1 hD1 hS1 => ?_)
  have hcA : dA 20 = cA := om_K_arr (ty := .int) (i := 0) (fun h1 h2 => by
    have h1 : s.vm.findClass ("[" ++ FieldType.toString .int) = some (dA 20) := h1
    have h2 : s.vm.findClass ("[" ++ FieldType.toString .int) = some cA := h2
    exact Option.some.inj (h1.symm.trans h2)) hK1 rfl
  subst hcA
  refine om_push (cel := (20, z.toNat, [])) (pc + 2) (cells + 1) (slots + z.toNat) h0 hRe.1 hRe.2.1 (fun v hv => by cases hv) ?_ hP1 hD1 hS1 hl hn hL hst kk
  rw [om_ce_arr (show 20 ≤ (20, z.toNat, ([] : List om_V)).1 from Nat.le_refl _) (show (20 : Nat) ≠ 23 by decide), om_z0 hRe.2.1]
theorem om_g_nac (C : om_Cx p s m args meth c mi D dA b bs sc) {z : Int} (hd : decode (om_by mi) pc = .ok (.newarray .char, 2)) (hz : 0 ≤ z ∧ z ≤ 100000) (hcells : cells + 1 ≤ R.cells) (hslots : slots + z.toNat ≤ R.slots) (kk : (om_Gd p l e R s m args below meth c Q mi D dA b bs ad0 (pc + 2) (L) (.inr (.inl h.1.length) :: st) ((h.1 ++ [(21, z.toNat, [])], h.2)) (cells + 1) (slots + z.toNat))) : (om_Gd p l e R s m args below meth c Q mi D dA b bs ad0 (pc) (L) (.inl z :: st) (h) (cells) (slots)) := by
  intro ad H locs ls h0 hRe hS hl hn hL hst
  have hA := om_hA C
  obtain ⟨hx, hb, hml, hown, hts, hr, hlk, hin, hKx⟩ := C
  obtain ⟨zz, hst⟩ := List.forall_mem_cons.mp hst
  refine va_newa (atype := .char) (ty := .char) (N' := z.toNat) (a0 := (z.toNat, .inl (fun _ => 0))) hx hb (hts _ (by exact om_wgi (i := 112) (by decide +kernel))) rfl hKx.1 hRe.2.2.1 hRe.2.2.2 hS hA (fun cA => rfl) (by rw [show (0 : Int32) = Int32.ofInt 0 from rfl, om_lt zz (by decide)]; omega) (om_cn' zz) (by show z.toNat * 2 ≤ _; omega) hcells hslots hd (fun q cA H1 hK1 hP1 hD1 hS1 => ?_)
  have hcA : dA 21 = cA := om_K_arr (ty := .char) (i := 1) (fun h1 h2 => by
    have h1 : s.vm.findClass ("[" ++ FieldType.toString .char) = some (dA 21) := h1
    have h2 : s.vm.findClass ("[" ++ FieldType.toString .char) = some cA := h2
    exact Option.some.inj (h1.symm.trans h2)) hK1 rfl
  subst hcA
  refine om_push (cel := (21, z.toNat, [])) (pc + 2) (cells + 1) (slots + z.toNat) h0 hRe.1 hRe.2.1 (fun v hv => by cases hv) ?_ hP1 hD1 hS1 hl hn hL hst kk
  rw [om_ce_arr (show 20 ≤ (21, z.toNat, ([] : List om_V)).1 from Nat.le_succ _) (show (21 : Nat) ≠ 23 by decide), om_z0 hRe.2.1]
theorem om_g_nab (C : om_Cx p s m args meth c mi D dA b bs sc) {z : Int} (hd : decode (om_by mi) pc = .ok (.newarray .boolean, 2)) (hz : 0 ≤ z ∧ z ≤ 100000) (hcells : cells + 1 ≤ R.cells) (hslots : slots + z.toNat ≤ R.slots) (kk : (om_Gd p l e R s m args below meth c Q mi D dA b bs ad0 (pc + 2) (L) (.inr (.inl h.1.length) :: st) ((h.1 ++ [(22, z.toNat, [])], h.2)) (cells + 1) (slots + z.toNat))) : (om_Gd p l e R s m args below meth c Q mi D dA b bs ad0 (pc) (L) (.inl z :: st) (h) (cells) (slots)) := by
  intro ad H locs ls h0 hRe hS hl hn hL hst
  have hA := om_hA C
  obtain ⟨hx, hb, hml, hown, hts, hr, hlk, hin, hKx⟩ := C
  obtain ⟨zz, hst⟩ := List.forall_mem_cons.mp hst
  refine va_newa (atype := .boolean) (ty := .boolean) (N' := z.toNat) (a0 := (z.toNat, .inl (fun _ => 0))) hx hb (hts _ (by exact om_wgi (i := 764) (by decide +kernel))) rfl hKx.1 hRe.2.2.1 hRe.2.2.2 hS hA (fun cA => rfl) (by rw [show (0 : Int32) = Int32.ofInt 0 from rfl, om_lt zz (by decide)]; omega) (om_cn' zz) (by show z.toNat * 1 ≤ _; omega) hcells hslots hd (fun q cA H1 hK1 hP1 hD1 hS1 => ?_)
  have hcA : dA 22 = cA := om_K_arr (ty := .boolean) (i := 2) (fun h1 h2 => by
    have h1 : s.vm.findClass ("[" ++ FieldType.toString .boolean) = some (dA 22) := h1
    have h2 : s.vm.findClass ("[" ++ FieldType.toString .boolean) = some cA := h2
    exact Option.some.inj (h1.symm.trans h2)) hK1 rfl
  subst hcA
  refine om_push (cel := (22, z.toNat, [])) (pc + 2) (cells + 1) (slots + z.toNat) h0 hRe.1 hRe.2.1 (fun v hv => by cases hv) ?_ hP1 hD1 hS1 hl hn hL hst kk
  rw [om_ce_arr (show 20 ≤ (22, z.toNat, ([] : List om_V)).1 from Nat.le_of_ble_eq_true rfl) (show (22 : Nat) ≠ 23 by decide), om_z0 hRe.2.1]
theorem om_g_naq (C : om_Cx p s m args meth c mi D dA b bs sc) {i : Nat} {z : Int} (hd : decode (om_by mi) pc = .ok (.anewarray i, 3)) (hck : om_ck (om_ow mi) i = some 5) (hz : 0 ≤ z ∧ z ≤ 100000) (hcells : cells + 1 ≤ R.cells) (hslots : slots + z.toNat ≤ R.slots) (kk : (om_Gd p l e R s m args below meth c Q mi D dA b bs ad0 (pc + 3) (L) (.inr (.inl h.1.length) :: st) ((h.1 ++ [(23, z.toNat, List.replicate z.toNat om_nu)], h.2)) (cells + 1) (slots + z.toNat))) : (om_Gd p l e R s m args below meth c Q mi D dA b bs ad0 (pc) (L) (.inl z :: st) (h) (cells) (slots)) := by
  intro ad H locs ls h0 hRe hS hl hn hL hst
  have hA := om_hA C
  obtain ⟨hx, hb, hml, hown, hts, hr, hlk, hin, hKx⟩ := C
  obtain ⟨zz, hst⟩ := List.forall_mem_cons.mp hst
  refine va_newq (C := "OreSolver$Operator") (N' := z.toNat) hx hb hown (hts _ (om_ck_ok hck)) hKx.2.2.2.2.1 hKx.1 hRe.2.2.1 hRe.2.2.2 hS hA (by rw [show (0 : Int32) = Int32.ofInt 0 from rfl, om_lt zz (by decide)]; omega) (om_cn' zz) (by omega) hcells hslots hd (fun q cA H1 hK1 hP1 hD1 hS1 => ?_)
  have hcA : dA 23 = cA := om_K_arr (i := 3) (fun h1 h2 => by
    obtain ⟨_, _, _, _, _, h1⟩ := h1
    obtain ⟨_, _, _, _, _, h2⟩ := h2
    exact Option.some.inj (h1.symm.trans h2)) hK1 rfl
  subst hcA
  refine om_push (cel := (23, z.toNat, List.replicate z.toNat om_nu)) (pc + 3) (cells + 1) (slots + z.toNat) h0 hRe.1 hRe.2.1 (fun v hv => by rw [List.eq_of_mem_replicate hv]; exact Or.inl rfl) ?_ hP1 hD1 hS1 hl hn hL hst kk
  rw [om_ce_ref]
  have e1 : (fun k => om_el (ad ++ [q]) ((List.replicate z.toNat om_nu).getD k om_nu)) = fun _ => none := by
    funext k
    have : (List.replicate z.toNat om_nu).getD k om_nu = om_nu := by
      by_cases hk : k < z.toNat
      · simp [List.getD, hk]
      · simp [List.getD, hk]
    rw [this]
    rfl
  rw [e1]
theorem om_g_oin (C : om_Cx p s m args meth c mi D dA b bs sc) {i a x : Nat} (hd : decode (om_by mi) pc = .ok (.invokespecial i, 3)) (hm : om_mk (om_ow mi) i = some (5, x)) (hst8 : st.length ≤ 8) (hfr : 1 ≤ R.frames) (hlo : 40 ≤ R.locals) (kk : (om_Gd p l e R s m args below meth c Q mi D dA b bs ad0 (pc + 3) (L) (st) (h) (cells) (slots))) : (om_Gd p l e R s m args below meth c Q mi D dA b bs ad0 (pc) (L) (.inr (.inl a) :: st) (h) (cells) (slots)) := by
  intro ad H locs ls h0 hRe hS hl hn hL hst
  obtain ⟨hx, hb, hml, hown, hts, hr, hlk, hin, hKx⟩ := C
  have hlink : Cond.methodLink (om_cn (om_ow mi)) i objectInit ∈ om_wg := by
    unfold om_mk at hm
    cases hf : om_mls.find? (fun e => e.1 == om_ow mi && e.2.1 == i) with
    | none => rw [hf] at hm; cases hm
    | some e =>
      rw [hf] at hm
      have hmm := List.mem_of_find?_eq_some hf
      have hp := List.find?_some hf
      have h3 := List.all_eq_true.mp om_mok e hmm
      obtain ⟨a1, a2, a3, a4, a5⟩ := e
      simp only [Bool.and_eq_true, beq_iff_eq] at hp
      obtain ⟨e1, rfl⟩ := hp
      simp only [Option.map_some, Option.some.injEq, Prod.mk.injEq] at hm
      obtain ⟨rfl, rfl⟩ := hm
      rw [← e1]
      exact om_wgi h3
  refine W.objInit (g := F0 m pc ls ((Sum.inr (Sum.inl a) :: st).map (om_tr ad b))) (a := ad.getD a 0) (rest := st.map (om_tr ad b)) hx hb hown (hts _ hlink) (hts _ (om_wgi (i := 93) (by decide +kernel))) (hts _ (om_wgi (i := 94) (by decide +kernel))) rfl (by rw [hml]; exact hl.1) rfl hd hfr (by rw [om_cats]; show 2 * 0 + _ + _ ≤ _; omega) ?_
  exact kk ad H locs ls h0 hRe hS hl hn hL (List.forall_mem_cons.mp hst).2
theorem om_mls_at {own i kd x : Nat} (hm : om_mk own i = some (kd, x)) : ∃ y, (own, i, kd, x, y) ∈ om_mls := by
  unfold om_mk at hm
  cases hf : om_mls.find? (fun e => e.1 == own && e.2.1 == i) with
  | none => rw [hf] at hm; cases hm
  | some e =>
    rw [hf] at hm
    have hmm := List.mem_of_find?_eq_some hf
    have hp := List.find?_some hf
    obtain ⟨a1, a2, a3, a4, a5⟩ := e
    simp only [Bool.and_eq_true, beq_iff_eq] at hp
    obtain ⟨rfl, rfl⟩ := hp
    simp only [Option.map_some, Option.some.injEq, Prod.mk.injEq] at hm
    obtain ⟨rfl, rfl⟩ := hm
    exact ⟨a5, hmm⟩
theorem om_g_min (C : om_Cx p s m args meth c mi D dA b bs sc) {i w : Nat} {x y : Int} (hd : decode (om_by mi) pc = .ok (.invokestatic i, 3)) (hm : om_mk (om_ow mi) i = some (6, w)) (hst8 : st.length ≤ 8) (hfr : 1 ≤ R.frames) (hlo : 40 ≤ R.locals) (hc : cells ≤ R.cells) (hs : slots ≤ R.slots) (kk : (om_Gd p l e R s m args below meth c Q mi D dA b bs ad0 (pc + 3) (L) (.inl (if x ≤ y then x else y) :: st) (h) (cells) (slots))) : (om_Gd p l e R s m args below meth c Q mi D dA b bs ad0 (pc) (L) (.inl y :: .inl x :: st) (h) (cells) (slots)) := by
  intro ad H locs ls h0 hRe hS hl hn hL hst
  obtain ⟨hx, hb, hml, hown, hts, hr, hlk, hin, hKx⟩ := C
  obtain ⟨yy, hmm⟩ := om_mls_at hm
  have hlink := om_wgi (List.all_eq_true.mp om_mok _ hmm)
  obtain ⟨zy, hst⟩ := List.forall_mem_cons.mp hst
  obtain ⟨zx, hst⟩ := List.forall_mem_cons.mp hst
  refine va_mmin (x := Int32.ofInt x) (y := Int32.ofInt y) hx hb (by rw [hml]; exact hl.1.symm) hown (hts _ hlink) (hts _ (om_wgi (i := 406) (by decide +kernel))) (hts _ (om_wgi (i := 85) (by decide +kernel))) (hts _ (om_wgi (i := 407) (by decide +kernel))) hfr (by rw [om_cats]; omega) hc hs hd ?_
  have e1 : (if Int32.ofInt y < Int32.ofInt x then Int32.ofInt y else Int32.ofInt x) = Int32.ofInt (if x ≤ y then x else y) := by
    by_cases hq : x ≤ y
    · rw [if_pos hq, if_neg (by rw [om_lt zy zx]; omega)]
    · rw [if_neg hq, if_pos (by rw [om_lt zy zx]; omega)]
  rw [e1]
  exact kk ad H locs ls h0 hRe hS hl hn hL (List.forall_mem_cons.mpr ⟨by split <;> assumption, hst⟩)
theorem om_g_acp (C : om_Cx p s m args meth c mi D dA b bs sc) {i w a a0 n n0 : Nat} {k sp dp : Int} {vs vs0 : List om_V} (hd : decode (om_by mi) pc = .ok (.invokestatic i, 3)) (hm : om_mk (om_ow mi) i = some (4, w)) (ha : h.1[a]? = some (20, n, vs)) (ha0 : h.1[a0]? = some (20, n0, vs0)) (hq : 0 ≤ sp ∧ 0 ≤ dp ∧ 0 ≤ k ∧ sp + k ≤ n0 ∧ dp + k ≤ n) (hst8 : st.length ≤ 8) (hfr : 1 ≤ R.frames) (hlo : 40 ≤ R.locals) (kk : (om_Gd p l e R s m args below meth c Q mi D dA b bs ad0 (pc + 3) (L) (st) ((h.1, om_u h.2 a (om_cpy (h.2 a0) (h.2 a) sp dp k))) (cells) (slots))) : (om_Gd p l e R s m args below meth c Q mi D dA b bs ad0 (pc) (L) (.inl k :: .inl dp :: .inr (.inl a) :: .inl sp :: .inr (.inl a0) :: st) (h) (cells) (slots)) := by
  intro ad H locs ls h0 hRe hS hl hn hL hst
  obtain ⟨hx, hb, hml, hown, hts, hr, hlk, hin, hKx⟩ := C
  obtain ⟨yy, hmm⟩ := om_mls_at hm
  have hlink := om_wgi (List.all_eq_true.mp om_mok _ hmm)
  obtain ⟨zk, hst⟩ := List.forall_mem_cons.mp hst
  obtain ⟨zd, hst⟩ := List.forall_mem_cons.mp hst
  have hst := (List.forall_mem_cons.mp hst).2
  obtain ⟨zs, hst⟩ := List.forall_mem_cons.mp hst
  have hst := (List.forall_mem_cons.mp hst).2
  change om_Z k at zk
  change om_Z dp at zd
  change om_Z sp at zs
  have hnf : nativeFrameWords "java/lang/System" "arraycopy" 5 ≤ 20 := by decide +kernel
  have zz : ∀ {z : Int}, om_Z z → 0 ≤ z → ¬ Int32.ofInt z < 0 := fun h1 h2 => by
    rw [show (0 : Int32) = Int32.ofInt 0 from rfl, om_lt h1 (by decide)]; omega
  refine va_copyi (ty := .int) (sp := Int32.ofInt sp) (dp := Int32.ofInt dp) (n := Int32.ofInt k) hx hb (by rw [hml]; exact hl.1.symm) hown (hts _ hlink) (hts _ (om_wgi (i := 410) (by decide +kernel))) (hts _ (om_wgi (i := 409) (by decide +kernel))) (hts _ (om_wgi (i := 86) (by decide +kernel))) hKx.1 hRe.2.2.1 hRe.2.2.2 hS a0 a 0 0 (om_at_arr (by omega) (by omega) ha0) (om_at_arr (by omega) (by omega) ha) rfl rfl rfl (zz zs hq.1) (zz zd hq.2.1) (zz zk hq.2.2.1) (by rw [om_cn' zs, om_cn' zk]; omega) (by rw [om_cn' zd, om_cn' zk]; omega) (fun _ _ => rfl) hfr (by rw [om_cats]; omega) hd ?_
  intro H1 locs1 hP1 hD1 hS1
  have hws : (om_ws ad b dA h).set a (ad.getD a 0, .inl (dA 20, n, .inl (va_cpy (fun j : Nat => Int32.ofInt (h.2 a0 j)) (fun j : Nat => Int32.ofInt (h.2 a j)) (Int32.ofInt sp).toNatClampNeg (Int32.ofInt dp).toNatClampNeg (Int32.ofInt k).toNatClampNeg))) = om_ws ad b dA (h.1, om_u h.2 a (om_cpy (h.2 a0) (h.2 a) sp dp k)) := by
    rw [← om_ws_setI ha, om_ce_arr (show 20 ≤ (20, n, vs).1 from Nat.le_refl _) (show (20 : Nat) ≠ 23 by decide), om_cn' zs, om_cn' zd, om_cn' zk]
    have e1 : va_cpy (fun j : Nat => Int32.ofInt (h.2 a0 j)) (fun j : Nat => Int32.ofInt (h.2 a j)) sp.toNat dp.toNat k.toNat = fun j : Nat => Int32.ofInt (om_cpy (h.2 a0) (h.2 a) sp dp k j) := by
      funext j
      unfold va_cpy om_cpy
      by_cases hj : dp.toNat ≤ j ∧ j < dp.toNat + k.toNat
      · rw [if_pos hj, if_pos (by omega)]
        show Int32.ofInt (h.2 a0 ((sp.toNat + (j - dp.toNat) : Nat) : Int)) = Int32.ofInt (h.2 a0 (sp + ((j : Int) - dp)))
        rw [show ((sp.toNat + (j - dp.toNat) : Nat) : Int) = sp + ((j : Int) - dp) by omega]
      · rw [if_neg hj, if_neg (by omega)]
    rw [e1]
  rw [hws] at hP1 hD1
  refine kk ad H1 locs1 ls h0 ⟨hRe.1, om_wf_u hRe.2.1 (List.getElem?_eq_some_iff.mp ha).1 (fun z => ?_), hP1, hD1⟩ hS1 hl hn hL hst
  unfold om_cpy
  split
  · exact hRe.2.1.2.1 _ _
  · exact hRe.2.1.2.1 _ _
end om_nw
end
section
/-! what a step of the small machine is -/
def om_sz (h : om_H) : Nat := (h.1.map (fun c => c.2.1)).sum
theorem om_sz_set {h : om_H} {a k n k' : Nat} {vs vs' : List om_V} {I : Nat → Int → Int} (ha : h.1[a]? = some (k, n, vs)) : om_sz (h.1.set a (k', n, vs'), I) = om_sz h := by
  unfold om_sz
  congr 1
  apply List.ext_getElem?
  intro j
  rw [List.getElem?_map, List.getElem?_map, List.getElem?_set]
  by_cases hj : a = j
  · subst hj
    rw [if_pos rfl, if_pos (List.getElem?_eq_some_iff.mp ha).1, ha]
    rfl
  · rw [if_neg hj]
theorem om_sz_push {h : om_H} {c : Nat × Nat × List om_V} {I : Nat → Int → Int} : om_sz (h.1 ++ [c], I) = om_sz h + c.2.1 := by
  simp [om_sz]
section om_stp
variable {p : Program} {l : Launch} {e : Env} {R : Room} {s : State} {m : MethodId} {args : Array Value} {below : List Frame} {meth : Method} {c : Code} {Q : State → Prop} {mi : Nat} {D : va_G} {dA : Nat → ClassId} {b bs : Nat} {sc : Int × (Int → Int)} {ad0 : List Nat} {cells slots pc : Nat} {L st : List om_V} {h : om_H}
def om_Nf (p : Program) (l : Launch) (e : Env) (R : Room) (s : State) (m : MethodId) (args : Array Value) (below : List Frame) (meth : Method) (c : Code) (Q : State → Prop) (mi : Nat) (D : va_G) (dA : Nat → ClassId) (b bs : Nat) (sc : Int × (Int → Int)) (ad0 : List Nat) (cells slots pc : Nat) (L st : List om_V) (h : om_H) (pc1 : Nat) (L1 st1 : List om_V) (h1 : om_H) : Prop :=
  (h.1.length ≤ h1.1.length ∧ om_sz h ≤ om_sz h1) ∧ (om_Cx p s m args meth c mi D dA b bs sc → 1 ≤ R.frames → 40 ≤ R.locals → cells + (h1.1.length - h.1.length) ≤ R.cells → slots + (om_sz h1 - om_sz h) ≤ R.slots →
    (om_Gd p l e R s m args below meth c Q mi D dA b bs ad0 (pc1) (L1) (st1) (h1) (cells + (h1.1.length - h.1.length)) (slots + (om_sz h1 - om_sz h))) → (om_Gd p l e R s m args below meth c Q mi D dA b bs ad0 (pc) (L) (st) (h) (cells) (slots)))
/-- the ways of a call -/
def om_Cf (mi pc : Nat) (st : List om_V) (h : om_H) (ci : Nat) (as st1 : List om_V) : Prop :=
  0 < ci ∧ ci < 160 ∧ ci ≠ 33 ∧ st = as.reverse ++ st1 ∧ st1.length ≤ 8 ∧
  ((∃ i a n vs, decode (om_by mi) pc = .ok (.invokevirtual i, 3) ∧ Cond.methodLink (om_cn (om_ow mi)) i (om_y ci) ∈ om_wg ∧ om_st ci = false ∧ om_in ci = false ∧ as.length = om_np ci + 1 ∧ as[0]? = some (.inr (.inl a)) ∧ h.1[a]? = some (om_ow ci, n, vs)) ∨
   (∃ i, decode (om_by mi) pc = .ok (.invokestatic i, 3) ∧ Cond.methodLink (om_cn (om_ow mi)) i (om_y ci) ∈ om_wg ∧ om_st ci = true ∧ as.length = om_np ci) ∨
   (∃ i a, decode (om_by mi) pc = .ok (.invokespecial i, 3) ∧ (Cond.methodLink (om_cn (om_ow mi)) i (om_y ci) ∈ om_wg ∨ (om_ow mi = 8 ∧ i = 17 ∧ om_y ci = ⟨"OreSolver$Output", "<init>", "()V"⟩)) ∧ om_st ci = false ∧ om_in ci = true ∧ as.length = om_np ci + 1 ∧ as[0]? = some (.inr (.inl a))))
def om_Rf (mi pc : Nat) (st : List om_V) (v : Option om_V) : Prop :=
  om_rok mi v = true ∧ ((v = none ∧ st = [] ∧ decode (om_by mi) pc = .ok (.return_, 1)) ∨ (∃ z, v = some (.inl z) ∧ st = [.inl z] ∧ decode (om_by mi) pc = .ok (.ireturn, 1)) ∨ ∃ a, v = some (.inr (.inl a)) ∧ st = [.inr (.inl a)] ∧ decode (om_by mi) pc = .ok (.areturn, 1))
def om_Pf (p : Program) (l : Launch) (e : Env) (R : Room) (s : State) (m : MethodId) (args : Array Value) (below : List Frame) (meth : Method) (c : Code) (Q : State → Prop) (mi : Nat) (D : va_G) (dA : Nat → ClassId) (b bs : Nat) (sc : Int × (Int → Int)) (ad0 : List Nat) (cells slots pc : Nat) (L st : List om_V) (h : om_H) : om_S → Prop
  | .inl (v, h1) => h1 = h ∧ om_Rf mi pc st v
  | .inr (.inl (pc1, L1, st1, h1)) => om_Nf p l e R s m args below meth c Q mi D dA b bs sc ad0 cells slots pc L st h pc1 L1 st1 h1
  | .inr (.inr (ci, as, pc1, L1, st1)) => pc1 = pc + 3 ∧ L1 = L ∧ om_Cf mi pc st h ci as st1
theorem om_same {pc1 : Nat} {L1 st1 : List om_V} {r : om_S} (hr : r = .inr (.inl (pc1, L1, st1, h))) (k : om_Cx p s m args meth c mi D dA b bs sc → 1 ≤ R.frames → 40 ≤ R.locals → cells ≤ R.cells → slots ≤ R.slots → (om_Gd p l e R s m args below meth c Q mi D dA b bs ad0 (pc1) (L1) (st1) (h) (cells) (slots)) → (om_Gd p l e R s m args below meth c Q mi D dA b bs ad0 (pc) (L) (st) (h) (cells) (slots))) : om_Pf p l e R s m args below meth c Q mi D dA b bs sc ad0 cells slots pc L st h r := by
  subst hr
  refine ⟨⟨Nat.le_refl _, Nat.le_refl _⟩, fun C h1 h2 h3 h4 g => ?_⟩
  simp only [Nat.sub_self, Nat.add_zero] at h3 h4 g
  exact k C h1 h2 h3 h4 g
theorem om_like {pc1 : Nat} {L1 st1 : List om_V} {h1 : om_H} {r : om_S} (hr : r = .inr (.inl (pc1, L1, st1, h1))) (e1 : h1.1.length = h.1.length) (e2 : om_sz h1 = om_sz h) (k : om_Cx p s m args meth c mi D dA b bs sc → 1 ≤ R.frames → 40 ≤ R.locals → (om_Gd p l e R s m args below meth c Q mi D dA b bs ad0 (pc1) (L1) (st1) (h1) (cells) (slots)) → (om_Gd p l e R s m args below meth c Q mi D dA b bs ad0 (pc) (L) (st) (h) (cells) (slots))) : om_Pf p l e R s m args below meth c Q mi D dA b bs sc ad0 cells slots pc L st h r := by
  subst hr
  refine ⟨⟨by omega, by omega⟩, fun C h1 h2 h3 h4 g => ?_⟩
  rw [e1, e2] at g
  simp only [Nat.sub_self, Nat.add_zero] at g
  exact k C h1 h2 g
theorem om_more {pc1 : Nat} {L1 st1 : List om_V} {cel : Nat × Nat × List om_V} {r : om_S} (hr : r = .inr (.inl (pc1, L1, st1, (h.1 ++ [cel], h.2)))) (k : om_Cx p s m args meth c mi D dA b bs sc → cells + 1 ≤ R.cells → slots + cel.2.1 ≤ R.slots → (om_Gd p l e R s m args below meth c Q mi D dA b bs ad0 (pc1) (L1) (st1) ((h.1 ++ [cel], h.2)) (cells + 1) (slots + cel.2.1)) → (om_Gd p l e R s m args below meth c Q mi D dA b bs ad0 (pc) (L) (st) (h) (cells) (slots))) : om_Pf p l e R s m args below meth c Q mi D dA b bs sc ad0 cells slots pc L st h r := by
  subst hr
  have e1 : (h.1 ++ [cel]).length - h.1.length = 1 := by simp
  have e2 : om_sz (h.1 ++ [cel], h.2) - om_sz h = cel.2.1 := by rw [om_sz_push]; omega
  refine ⟨⟨by simp, by rw [om_sz_push]; omega⟩, fun C h1 h2 h3 h4 g => ?_⟩
  dsimp only at h3 g
  rw [e1] at h3 g
  rw [e2] at h4 g
  exact k C h3 h4 g
theorem om_ild_i {pc' i : Nat} {r : om_S} (e : om_ild pc' L st h i = some r) : ∃ z, L[i]? = some (.inl z) ∧ r = .inr (.inl (pc', L, .inl z :: st, h)) := by
  unfold om_ild at e
  split at e
  · rename_i z hz
    exact ⟨z, hz, (Option.some.inj e).symm⟩
  · cases e
theorem om_ald_i {pc' i : Nat} {r : om_S} (e : om_ald pc' L st h i = some r) : ∃ z : Nat ⊕ Nat, ((∃ a, z = .inl a) ∨ z = .inr 2) ∧ L[i]? = some (.inr z) ∧ r = .inr (.inl (pc', L, .inr z :: st, h)) := by
  unfold om_ald at e
  split at e
  · rename_i z hz
    exact ⟨.inl z, Or.inl ⟨z, rfl⟩, hz, (Option.some.inj e).symm⟩
  · rename_i hz
    exact ⟨.inr 2, Or.inr rfl, hz, (Option.some.inj e).symm⟩
  · cases e
theorem om_ist_i {pc' i : Nat} {r : om_S} (e : om_ist pc' L st h i = some r) : ∃ z st', st = .inl z :: st' ∧ i < L.length ∧ r = .inr (.inl (pc', L.set i (.inl z), st', h)) := by
  unfold om_ist at e
  split at e
  · rename_i z st'
    split at e
    · rename_i hi
      exact ⟨z, st', rfl, hi, (Option.some.inj e).symm⟩
    · cases e
  · cases e
theorem om_ast_i {pc' i : Nat} {r : om_S} (e : om_ast pc' L st h i = some r) : ∃ z st', st = .inr (.inl z) :: st' ∧ i < L.length ∧ r = .inr (.inl (pc', L.set i (.inr (.inl z)), st', h)) := by
  unfold om_ast at e
  split at e
  · rename_i z st'
    split at e
    · rename_i hi
      exact ⟨z, st', rfl, hi, (Option.some.inj e).symm⟩
    · cases e
  · cases e
theorem om_bin_i {pc' : Nat} {g : Int → Int → Int} {r : om_S} (e : om_bin pc' L st h g = some r) : ∃ x y st', st = .inl y :: .inl x :: st' ∧ om_Z (g x y) ∧ r = .inr (.inl (pc', L, .inl (g x y) :: st', h)) := by
  unfold om_bin at e
  split at e
  · rename_i y x st'
    split at e
    · rename_i hi
      exact ⟨x, y, st', rfl, hi, (Option.some.inj e).symm⟩
    · cases e
  · cases e
theorem om_dv_i {pc' : Nat} {g : Int → Int → Int} {r : om_S} (e : om_dv pc' L st h g = some r) : ∃ x y st', st = .inl y :: .inl x :: st' ∧ 0 < y ∧ r = .inr (.inl (pc', L, .inl (g x y) :: st', h)) := by
  unfold om_dv at e
  split at e
  · rename_i y x st'
    split at e
    · rename_i hi
      exact ⟨x, y, st', rfl, hi, (Option.some.inj e).symm⟩
    · cases e
  · cases e
theorem om_xld_i {pc' kd : Nat} {r : om_S} (e : om_xld pc' L st h kd = some r) : ∃ z a st' n vs, st = .inl z :: .inr (.inl a) :: st' ∧ h.1[a]? = some (kd, n, vs) ∧ (0 ≤ z ∧ z < (n : Int)) ∧ r = .inr (.inl (pc', L, .inl (h.2 a z) :: st', h)) := by
  unfold om_xld at e
  split at e
  · rename_i z a st'
    split at e
    · rename_i k n vs ha
      split at e
      · rename_i hi
        obtain ⟨rfl, h1⟩ := hi
        exact ⟨z, a, st', n, vs, rfl, ha, h1, (Option.some.inj e).symm⟩
      · cases e
    · cases e
  · cases e
theorem om_xst_i {pc' kd : Nat} {ok : Int → Bool} {r : om_S} (e : om_xst pc' L st h kd ok = some r) : ∃ x z a st' n vs, st = .inl x :: .inl z :: .inr (.inl a) :: st' ∧ h.1[a]? = some (kd, n, vs) ∧ (0 ≤ z ∧ z < (n : Int)) ∧ ok x = true ∧ r = .inr (.inl (pc', L, st', (h.1, om_u h.2 a (om_p (h.2 a) z x)))) := by
  unfold om_xst at e
  split at e
  · rename_i x z a st'
    split at e
    · rename_i k n vs ha
      split at e
      · rename_i hi
        obtain ⟨rfl, h1, h2, h3⟩ := hi
        exact ⟨x, z, a, st', n, vs, rfl, ha, ⟨h1, h2⟩, h3, (Option.some.inj e).symm⟩
      · cases e
    · cases e
  · cases e
theorem om_cal_i {pc' ci n : Nat} {r : om_S} (e : om_cal pc' L st ci n = some r) : ∃ as st', st = as.reverse ++ st' ∧ as.length = n ∧ st'.length ≤ 8 ∧ as = (st.take n).reverse ∧ r = .inr (.inr (ci, as, pc', L, st')) := by
  unfold om_cal at e
  split at e
  · rename_i hi
    refine ⟨(st.take n).reverse, st.drop n, by simp, by simp; omega, hi.2, rfl, (Option.some.inj e).symm⟩
  · cases e
theorem om_rcv_i {n ci : Nat} (e : om_rcv st h n ci = true) : ∃ a k vs, st[n]? = some (.inr (.inl a)) ∧ h.1[a]? = some (ci, k, vs) := by
  unfold om_rcv at e
  split at e
  · rename_i a ha
    split at e
    · rename_i c k vs hc
      have : c = ci := by simpa using e
      subst this
      exact ⟨a, k, vs, ha, hc⟩
    · cases e
  · cases e
theorem om_rcv_0 {n : Nat} {as st1 : List om_V} {v : om_V} (h1 : as = (st.take (n + 1)).reverse) (h2 : st[n]? = some v) (h3 : as.length = n + 1) : as[0]? = some v := by
  subst h1
  have hl : n < st.length := (List.getElem?_eq_some_iff.mp h2).1
  rw [List.getElem?_reverse (by rw [List.length_reverse] at h3; omega)]
  rw [List.length_reverse] at h3
  rw [h3]
  simp [List.getElem?_take, h2]
end om_stp
end
section
/-! every step of the small machine is of one of three kinds, and each is what the machine does -/
theorem om_kk {mi : Nat} (h : mi < 160) : om_chk (om_by mi) (om_cs.getD mi []) 0 = true := by
  match mi, h with
  | 0, _ => exact om_k0
  | 1, _ => exact om_k1
  | 2, _ => exact om_k2
  | 3, _ => exact om_k3
  | 4, _ => exact om_k4
  | 5, _ => exact om_k5
  | 6, _ => exact om_k6
  | 7, _ => exact om_k7
  | 8, _ => exact om_k8
  | 9, _ => exact om_k9
  | 10, _ => exact om_k10
  | 11, _ => exact om_k11
  | 12, _ => exact om_k12
  | 13, _ => exact om_k13
  | 14, _ => exact om_k14
  | 15, _ => exact om_k15
  | 16, _ => exact om_k16
  | 17, _ => exact om_k17
  | 18, _ => exact om_k18
  | 19, _ => exact om_k19
  | 20, _ => exact om_k20
  | 21, _ => exact om_k21
  | 22, _ => exact om_k22
  | 23, _ => exact om_k23
  | 24, _ => exact om_k24
  | 25, _ => exact om_k25
  | 26, _ => exact om_k26
  | 27, _ => exact om_k27
  | 28, _ => exact om_k28
  | 29, _ => exact om_k29
  | 30, _ => exact om_k30
  | 31, _ => exact om_k31
  | 32, _ => exact om_k32
  | 33, _ => exact om_k33
  | 34, _ => exact om_k34
  | 35, _ => exact om_k35
  | 36, _ => exact om_k36
  | 37, _ => exact om_k37
  | 38, _ => exact om_k38
  | 39, _ => exact om_k39
  | 40, _ => exact om_k40
  | 41, _ => exact om_k41
  | 42, _ => exact om_k42
  | 43, _ => exact om_k43
  | 44, _ => exact om_k44
  | 45, _ => exact om_k45
  | 46, _ => exact om_k46
  | 47, _ => exact om_k47
  | 48, _ => exact om_k48
  | 49, _ => exact om_k49
  | 50, _ => exact om_k50
  | 51, _ => exact om_k51
  | 52, _ => exact om_k52
  | 53, _ => exact om_k53
  | 54, _ => exact om_k54
  | 55, _ => exact om_k55
  | 56, _ => exact om_k56
  | 57, _ => exact om_k57
  | 58, _ => exact om_k58
  | 59, _ => exact om_k59
  | 60, _ => exact om_k60
  | 61, _ => exact om_k61
  | 62, _ => exact om_k62
  | 63, _ => exact om_k63
  | 64, _ => exact om_k64
  | 65, _ => exact om_k65
  | 66, _ => exact om_k66
  | 67, _ => exact om_k67
  | 68, _ => exact om_k68
  | 69, _ => exact om_k69
  | 70, _ => exact om_k70
  | 71, _ => exact om_k71
  | 72, _ => exact om_k72
  | 73, _ => exact om_k73
  | 74, _ => exact om_k74
  | 75, _ => exact om_k75
  | 76, _ => exact om_k76
  | 77, _ => exact om_k77
  | 78, _ => exact om_k78
  | 79, _ => exact om_k79
  | 80, _ => exact om_k80
  | 81, _ => exact om_k81
  | 82, _ => exact om_k82
  | 83, _ => exact om_k83
  | 84, _ => exact om_k84
  | 85, _ => exact om_k85
  | 86, _ => exact om_k86
  | 87, _ => exact om_k87
  | 88, _ => exact om_k88
  | 89, _ => exact om_k89
  | 90, _ => exact om_k90
  | 91, _ => exact om_k91
  | 92, _ => exact om_k92
  | 93, _ => exact om_k93
  | 94, _ => exact om_k94
  | 95, _ => exact om_k95
  | 96, _ => exact om_k96
  | 97, _ => exact om_k97
  | 98, _ => exact om_k98
  | 99, _ => exact om_k99
  | 100, _ => exact om_k100
  | 101, _ => exact om_k101
  | 102, _ => exact om_k102
  | 103, _ => exact om_k103
  | 104, _ => exact om_k104
  | 105, _ => exact om_k105
  | 106, _ => exact om_k106
  | 107, _ => exact om_k107
  | 108, _ => exact om_k108
  | 109, _ => exact om_k109
  | 110, _ => exact om_k110
  | 111, _ => exact om_k111
  | 112, _ => exact om_k112
  | 113, _ => exact om_k113
  | 114, _ => exact om_k114
  | 115, _ => exact om_k115
  | 116, _ => exact om_k116
  | 117, _ => exact om_k117
  | 118, _ => exact om_k118
  | 119, _ => exact om_k119
  | 120, _ => exact om_k120
  | 121, _ => exact om_k121
  | 122, _ => exact om_k122
  | 123, _ => exact om_k123
  | 124, _ => exact om_k124
  | 125, _ => exact om_k125
  | 126, _ => exact om_k126
  | 127, _ => exact om_k127
  | 128, _ => exact om_k128
  | 129, _ => exact om_k129
  | 130, _ => exact om_k130
  | 131, _ => exact om_k131
  | 132, _ => exact om_k132
  | 133, _ => exact om_k133
  | 134, _ => exact om_k134
  | 135, _ => exact om_k135
  | 136, _ => exact om_k136
  | 137, _ => exact om_k137
  | 138, _ => exact om_k138
  | 139, _ => exact om_k139
  | 140, _ => exact om_k140
  | 141, _ => exact om_k141
  | 142, _ => exact om_k142
  | 143, _ => exact om_k143
  | 144, _ => exact om_k144
  | 145, _ => exact om_k145
  | 146, _ => exact om_k146
  | 147, _ => exact om_k147
  | 148, _ => exact om_k148
  | 149, _ => exact om_k149
  | 150, _ => exact om_k150
  | 151, _ => exact om_k151
  | 152, _ => exact om_k152
  | 153, _ => exact om_k153
  | 154, _ => exact om_k154
  | 155, _ => exact om_k155
  | 156, _ => exact om_k156
  | 157, _ => exact om_k157
  | 158, _ => exact om_k158
  | 159, _ => exact om_k159
  | n + 160, h => exact absurd h (by omega)
theorem om_cd_ok {mi pc len : Nat} {ins : Instr} (h : om_cd mi pc = some (ins, len)) : decode (om_by mi) pc = .ok (ins, len) := by
  unfold om_cd at h
  by_cases hm : mi < 160
  · have h1 := om_chk_at (om_kk hm) (k := pc) (x := (ins, len)) (by
      rw [List.getD_eq_getElem?_getD] at h
      cases hq : (om_cs.getD mi [])[pc]? with
      | none => rw [hq] at h; cases h
      | some w => rw [hq] at h; rw [show w = some (ins, len) from h])
    rwa [Nat.zero_add] at h1
  · have e1 : om_cs.getD mi [] = [] := by
      rw [List.getD_eq_getElem?_getD, List.getElem?_eq_none (by have : om_cs.length = 160 := by decide +kernel
                                                                omega)]
      rfl
    rw [e1] at h
    cases h
section om_ivs
variable {p : Program} {l : Launch} {e : Env} {R : Room} {s : State} {m : MethodId} {args : Array Value} {below : List Frame} {meth : Method} {c : Code} {Q : State → Prop} {mi : Nat} {D : va_G} {dA : Nat → ClassId} {b bs : Nat} {sc : Int × (Int → Int)} {ad0 : List Nat} {cells slots pc : Nat} {L st : List om_V} {h : om_H}
set_option maxHeartbeats 4000000 in
theorem om_inv {r : om_S} (hs : om_step sc mi pc L st h = some r) : om_Pf p l e R s m args below meth c Q mi D dA b bs sc ad0 cells slots pc L st h r := by
  unfold om_step at hs
  cases hc : om_cd mi pc with
  | none => rw [hc] at hs; cases hs
  | some il =>
    obtain ⟨ins, len⟩ := il
    rw [hc] at hs
    dsimp only at hs
    split at hs
    · rename_i hlen
      have hd := om_cd_ok hc
      clear hc
      cases ins <;> first | (change (none : Option om_S) = _ at hs; cases hs; done) | skip
      case iconst n =>
        have hl : len = 1 := by simpa [om_lok] using hlen
        subst hl
        change (if om_Z n then om_nx (pc + 1) L (.inl n :: st) h else none) = _ at hs
        split at hs
        · rename_i hz
          exact om_same (Option.some.inj hs).symm (fun C _ _ _ _ g => om_g_iconst C hd hz g)
        · cases hs
      case bipush n =>
        have hl : len = 2 := by simpa [om_lok] using hlen
        subst hl
        change (if -128 ≤ n ∧ n ≤ 127 then om_nx (pc + 2) L (.inl n :: st) h else none) = _ at hs
        split at hs
        · rename_i hz
          exact om_same (Option.some.inj hs).symm (fun C _ _ _ _ g => om_g_bipush C hd hz g)
        · cases hs
      case sipush n =>
        have hl : len = 3 := by simpa [om_lok] using hlen
        subst hl
        change (if -32768 ≤ n ∧ n ≤ 32767 then om_nx (pc + 3) L (.inl n :: st) h else none) = _ at hs
        split at hs
        · rename_i hz
          exact om_same (Option.some.inj hs).symm (fun C _ _ _ _ g => om_g_sipush C hd hz g)
        · cases hs
      case iload_n k =>
        have hl : len = 1 := by simpa [om_lok] using hlen
        subst hl
        obtain ⟨z, h1, h2⟩ := om_ild_i (show om_ild (pc + 1) L st h k.val = some r from hs)
        exact om_same h2 (fun C _ _ _ _ g => om_g_iload_n C hd h1 g)
      case iload k =>
        have hl : len = 2 := by simpa [om_lok] using hlen
        subst hl
        obtain ⟨z, h1, h2⟩ := om_ild_i (show om_ild (pc + 2) L st h k = some r from hs)
        exact om_same h2 (fun C _ _ _ _ g => om_g_iload C hd h1 g)
      case aload_n k =>
        have hl : len = 1 := by simpa [om_lok] using hlen
        subst hl
        obtain ⟨z, hz, h1, h2⟩ := om_ald_i (show om_ald (pc + 1) L st h k.val = some r from hs)
        exact om_same h2 (fun C _ _ _ _ g => om_g_aload_n C hd hz h1 g)
      case aload k =>
        have hl : len = 2 := by simpa [om_lok] using hlen
        subst hl
        obtain ⟨z, hz, h1, h2⟩ := om_ald_i (show om_ald (pc + 2) L st h k = some r from hs)
        exact om_same h2 (fun C _ _ _ _ g => om_g_aload C hd hz h1 g)
      case istore_n k =>
        have hl : len = 1 := by simpa [om_lok] using hlen
        subst hl
        obtain ⟨z, st', rfl, h1, h2⟩ := om_ist_i (show om_ist (pc + 1) L st h k.val = some r from hs)
        exact om_same h2 (fun C _ _ _ _ g => om_g_istore_n C hd h1 g)
      case istore k =>
        have hl : len = 2 := by simpa [om_lok] using hlen
        subst hl
        obtain ⟨z, st', rfl, h1, h2⟩ := om_ist_i (show om_ist (pc + 2) L st h k = some r from hs)
        exact om_same h2 (fun C _ _ _ _ g => om_g_istore C hd h1 g)
      case astore_n k =>
        have hl : len = 1 := by simpa [om_lok] using hlen
        subst hl
        obtain ⟨z, st', rfl, h1, h2⟩ := om_ast_i (show om_ast (pc + 1) L st h k.val = some r from hs)
        exact om_same h2 (fun C _ _ _ _ g => om_g_astore_n C hd h1 g)
      case astore k =>
        have hl : len = 2 := by simpa [om_lok] using hlen
        subst hl
        obtain ⟨z, st', rfl, h1, h2⟩ := om_ast_i (show om_ast (pc + 2) L st h k = some r from hs)
        exact om_same h2 (fun C _ _ _ _ g => om_g_astore C hd h1 g)
      case iinc i n =>
        have hl : len = 3 := by simpa [om_lok] using hlen
        subst hl
        simp only [om_ex] at hs
        split at hs
        · rename_i z hz
          split at hs
          · rename_i hzz
            exact om_same (Option.some.inj hs).symm (fun C _ _ _ _ g => om_g_iinc C hd hz hzz g)
          · cases hs
        · cases hs
      case iadd =>
        have hl : len = 1 := by simpa [om_lok] using hlen
        subst hl
        obtain ⟨x, y, st', rfl, h1, h2⟩ := om_bin_i (show om_bin (pc + 1) L st h (fun a b => a + b) = some r from hs)
        exact om_same h2 (fun C _ _ _ _ g => om_g_iadd C hd h1 g)
      case isub =>
        have hl : len = 1 := by simpa [om_lok] using hlen
        subst hl
        obtain ⟨x, y, st', rfl, h1, h2⟩ := om_bin_i (show om_bin (pc + 1) L st h (fun a b => a - b) = some r from hs)
        exact om_same h2 (fun C _ _ _ _ g => om_g_isub C hd h1 g)
      case imul =>
        have hl : len = 1 := by simpa [om_lok] using hlen
        subst hl
        obtain ⟨x, y, st', rfl, h1, h2⟩ := om_bin_i (show om_bin (pc + 1) L st h (fun a b => a * b) = some r from hs)
        exact om_same h2 (fun C _ _ _ _ g => om_g_imul C hd h1 g)
      case idiv =>
        have hl : len = 1 := by simpa [om_lok] using hlen
        subst hl
        obtain ⟨x, y, st', rfl, h1, h2⟩ := om_dv_i (show om_dv (pc + 1) L st h (fun a b => Int.tdiv a b) = some r from hs)
        exact om_same h2 (fun C _ _ _ _ g => om_g_idiv C hd h1 g)
      case irem =>
        have hl : len = 1 := by simpa [om_lok] using hlen
        subst hl
        obtain ⟨x, y, st', rfl, h1, h2⟩ := om_dv_i (show om_dv (pc + 1) L st h (fun a b => Int.tmod a b) = some r from hs)
        exact om_same h2 (fun C _ _ _ _ g => om_g_irem C hd h1 g)
      case ineg =>
        have hl : len = 1 := by simpa [om_lok] using hlen
        subst hl
        simp only [om_ex] at hs
        split at hs
        · split at hs
          · rename_i hz
            exact om_same (Option.some.inj hs).symm (fun C _ _ _ _ g => om_g_ineg C hd hz g)
          · cases hs
        · cases hs
      case iand =>
        have hl : len = 1 := by simpa [om_lok] using hlen
        subst hl
        simp only [om_ex] at hs
        split at hs
        · split at hs
          · rename_i hz
            subst hz
            exact om_same (Option.some.inj hs).symm (fun C _ _ _ _ g => om_g_iand C hd g)
          · cases hs
        · cases hs
      case i2c =>
        have hl : len = 1 := by simpa [om_lok] using hlen
        subst hl
        simp only [om_ex] at hs
        split at hs
        · exact om_same (Option.some.inj hs).symm (fun C _ _ _ _ g => om_g_i2c C hd g)
        · cases hs
      case dup =>
        have hl : len = 1 := by simpa [om_lok] using hlen
        subst hl
        simp only [om_ex] at hs
        split at hs
        · exact om_same (Option.some.inj hs).symm (fun C _ _ _ _ g => om_g_dup C hd g)
        · cases hs
      case ifCond cn off =>
        have hl : len = 3 := by simpa [om_lok] using hlen
        subst hl
        simp only [om_ex] at hs
        split at hs
        · rename_i x st' t ht
          exact om_same (Option.some.inj hs).symm (fun C _ _ _ _ g => om_g_ifc C hd ht g)
        · cases hs
      case if_icmp cn off =>
        have hl : len = 3 := by simpa [om_lok] using hlen
        subst hl
        simp only [om_ex] at hs
        split at hs
        · rename_i y x st' t ht
          exact om_same (Option.some.inj hs).symm (fun C _ _ _ _ g => om_g_icmp C hd ht g)
        · cases hs
      case goto off =>
        have hl : len = 3 := by simpa [om_lok] using hlen
        subst hl
        simp only [om_ex] at hs
        split at hs
        · rename_i t ht
          exact om_same (Option.some.inj hs).symm (fun C _ _ _ _ g => om_g_goto C hd ht g)
        · cases hs
      case tableswitch df lo hi offs =>
        simp only [om_ex] at hs
        split at hs
        · rename_i x st'
          split at hs
          · rename_i t ht
            exact om_same (Option.some.inj hs).symm (fun C _ _ _ _ g => om_g_tsw C hd ht g)
          · cases hs
        · cases hs
      case getfield i =>
        have hl : len = 3 := by simpa [om_lok] using hlen
        subst hl
        simp only [om_ex] at hs
        split at hs
        · rename_i a st' ci k hf
          split at hs
          · rename_i c' n vs ha
            split at hs
            · rename_i hq
              obtain ⟨rfl, hq⟩ := hq
              split at hs
              · rename_i v hv
                exact om_same (Option.some.inj hs).symm (fun C _ _ _ _ g => om_g_getf C hd hf ha hv g)
              · cases hs
            · cases hs
          · cases hs
        · cases hs
      case putfield i =>
        have hl : len = 3 := by simpa [om_lok] using hlen
        subst hl
        simp only [om_ex] at hs
        split at hs
        · rename_i v a st' ci k hf
          split at hs
          · rename_i c' n vs ha
            split at hs
            · rename_i hq
              obtain ⟨rfl, -, hk, hfit⟩ := hq
              exact om_like (Option.some.inj hs).symm (by simp) (om_sz_set ha) (fun C _ _ g => om_g_putf C hd hf ha hk hfit g)
            · cases hs
          · cases hs
        · cases hs
      case iaload =>
        have hl : len = 1 := by simpa [om_lok] using hlen
        subst hl
        simp only [om_ex] at hs
        split at hs
        · rename_i z st'
          split at hs
          · rename_i hz
            exact om_same (Option.some.inj hs).symm (fun C _ _ _ _ g => om_g_sld C hd hz g)
          · cases hs
        · obtain ⟨z, a, st', n, vs, rfl, ha, hz, h2⟩ := om_xld_i hs
          exact om_same h2 (fun C _ _ _ _ g => om_g_ial C hd ha hz g)
      case caload =>
        have hl : len = 1 := by simpa [om_lok] using hlen
        subst hl
        obtain ⟨z, a, st', n, vs, rfl, ha, hz, h2⟩ := om_xld_i (show om_xld (pc + 1) L st h 21 = some r from hs)
        exact om_same h2 (fun C _ _ _ _ g => om_g_cal C hd ha hz g)
      case baload =>
        have hl : len = 1 := by simpa [om_lok] using hlen
        subst hl
        obtain ⟨z, a, st', n, vs, rfl, ha, hz, h2⟩ := om_xld_i (show om_xld (pc + 1) L st h 22 = some r from hs)
        exact om_same h2 (fun C _ _ _ _ g => om_g_bal C hd ha hz g)
      case iastore =>
        have hl : len = 1 := by simpa [om_lok] using hlen
        subst hl
        obtain ⟨x, z, a, st', n, vs, rfl, ha, hz, hx, h2⟩ := om_xst_i (show om_xst (pc + 1) L st h 20 (fun _ => true) = some r from hs)
        exact om_like h2 rfl rfl (fun C _ _ g => om_g_ias C hd ha hz g)
      case castore =>
        have hl : len = 1 := by simpa [om_lok] using hlen
        subst hl
        obtain ⟨x, z, a, st', n, vs, rfl, ha, hz, hx, h2⟩ := om_xst_i (show om_xst (pc + 1) L st h 21 (fun x => decide (0 ≤ x) && decide (x ≤ 65535)) = some r from hs)
        exact om_like h2 rfl rfl (fun C _ _ g => om_g_cas C hd ha hz (by simpa using hx) g)
      case bastore =>
        have hl : len = 1 := by simpa [om_lok] using hlen
        subst hl
        obtain ⟨x, z, a, st', n, vs, rfl, ha, hz, hx, h2⟩ := om_xst_i (show om_xst (pc + 1) L st h 22 (fun x => decide (x = 0) || decide (x = 1)) = some r from hs)
        exact om_like h2 rfl rfl (fun C _ _ g => om_g_bas C hd ha hz (by simpa using hx) g)
      case aaload =>
        have hl : len = 1 := by simpa [om_lok] using hlen
        subst hl
        simp only [om_ex] at hs
        split at hs
        · rename_i z a st'
          split at hs
          · rename_i k n vs ha
            split at hs
            · rename_i hq
              obtain ⟨rfl, hz⟩ := hq
              split at hs
              · rename_i r' hv
                exact om_same (Option.some.inj hs).symm (fun C _ _ _ _ g => om_g_aal C hd ha hz hv g)
              · cases hs
            · cases hs
          · cases hs
        · cases hs
      case aastore =>
        have hl : len = 1 := by simpa [om_lok] using hlen
        subst hl
        simp only [om_ex] at hs
        split at hs
        · rename_i r' z a st'
          split at hs
          · rename_i k n vs kr nr vr ha hr
            split at hs
            · rename_i hq
              obtain ⟨rfl, hz1, hz2, hv, rfl⟩ := hq
              exact om_like (Option.some.inj hs).symm (by simp) (om_sz_set ha) (fun C _ _ g => om_g_aas C hd ha hr ⟨hz1, hz2⟩ hv g)
            · cases hs
          · cases hs
        · cases hs
      case arraylength =>
        have hl : len = 1 := by simpa [om_lok] using hlen
        subst hl
        simp only [om_ex] at hs
        split at hs
        · rename_i a st'
          split at hs
          · rename_i k n vs ha
            split at hs
            · rename_i hq
              exact om_same (Option.some.inj hs).symm (fun C _ _ _ _ g => om_g_alen C hd ha ⟨hq.1, hq.2.1⟩ hq.2.2 g)
            · cases hs
          · cases hs
        · split at hs
          · rename_i hz
            exact om_same (Option.some.inj hs).symm (fun C _ _ _ _ g => om_g_slen C hd hz g)
          · cases hs
        · cases hs
      case new i =>
        have hl : len = 3 := by simpa [om_lok] using hlen
        subst hl
        simp only [om_ex] at hs
        split at hs
        · rename_i ci hck
          split at hs
          · rename_i hci
            exact om_more (Option.some.inj hs).symm (fun C h1 h2 g => om_g_new C hd hck hci h1 h2 g)
          · cases hs
        · cases hs
      case newarray t =>
        have hl : len = 2 := by simpa [om_lok] using hlen
        subst hl
        simp only [om_ex] at hs
        split at hs
        · split at hs
          · rename_i hz
            exact om_more (Option.some.inj hs).symm (fun C h1 h2 g => om_g_nai C hd hz h1 h2 g)
          · cases hs
        · split at hs
          · rename_i hz
            exact om_more (Option.some.inj hs).symm (fun C h1 h2 g => om_g_nac C hd hz h1 h2 g)
          · cases hs
        · split at hs
          · rename_i hz
            exact om_more (Option.some.inj hs).symm (fun C h1 h2 g => om_g_nab C hd hz h1 h2 g)
          · cases hs
        · cases hs
      case anewarray i =>
        have hl : len = 3 := by simpa [om_lok] using hlen
        subst hl
        simp only [om_ex] at hs
        split at hs
        · rename_i z st' hck
          split at hs
          · rename_i hz
            exact om_more (Option.some.inj hs).symm (fun C h1 h2 g => om_g_naq C hd hck hz h1 h2 g)
          · cases hs
        · cases hs
      case invokevirtual i =>
        have hl : len = 3 := by simpa [om_lok] using hlen
        subst hl
        simp only [om_ex] at hs
        split at hs
        · rename_i ci hm
          split at hs
          · rename_i hrc
            obtain ⟨as, st', h1, h2, h3, h4, rfl⟩ := om_cal_i hs
            obtain ⟨a, n, vs, hr1, hr2⟩ := om_rcv_i hrc
            obtain ⟨yy, hmm⟩ := om_mls_at hm
            have h5 := List.all_eq_true.mp om_mok _ hmm
            simp only [Bool.and_eq_true, decide_eq_true_eq] at h5
            obtain ⟨h5, q1, q2, q3, q4, q5⟩ := h5
            exact ⟨rfl, rfl, q3, q4, q5, h1, h3, Or.inl ⟨i, a, n, vs, hd, om_wgi h5, q1, q2, h2, om_rcv_0 (st1 := st') h4 hr1 h2, hr2⟩⟩
          · cases hs
        · cases hs
      case invokestatic i =>
        have hl : len = 3 := by simpa [om_lok] using hlen
        subst hl
        simp only [om_ex] at hs
        split at hs
        · rename_i ci hm
          obtain ⟨as, st', h1, h2, h3, h4, rfl⟩ := om_cal_i hs
          obtain ⟨yy, hmm⟩ := om_mls_at hm
          have h5 := List.all_eq_true.mp om_mok _ hmm
          simp only [Bool.and_eq_true, decide_eq_true_eq] at h5
          obtain ⟨h5, q1, q3, q4, q5⟩ := h5
          exact ⟨rfl, rfl, q3, q4, q5, h1, h3, Or.inr (Or.inl ⟨i, hd, om_wgi h5, q1, h2⟩)⟩
        · rename_i w hm
          split at hs
          · rename_i y x st'
            split at hs
            · rename_i h8
              exact om_same (Option.some.inj hs).symm (fun C f1 f2 f3 f4 g => om_g_min C hd hm h8 f1 f2 f3 f4 g)
            · cases hs
          · cases hs
        · rename_i w hm
          split at hs
          · rename_i n dp a sp a0 st'
            split at hs
            · rename_i k m1 vs k0 m0 vs0 ha ha0
              split at hs
              · rename_i hq
                obtain ⟨rfl, rfl, q1, q2, q3, q4, q5, q6⟩ := hq
                exact om_like (Option.some.inj hs).symm rfl rfl (fun C f1 f2 g => om_g_acp C hd hm ha ha0 ⟨q1, q2, q3, q4, q5⟩ q6 f1 f2 g)
              · cases hs
            · cases hs
          · cases hs
        · cases hs
      case invokespecial i =>
        have hl : len = 3 := by simpa [om_lok] using hlen
        subst hl
        simp only [om_ex] at hs
        split at hs
        · rename_i ci hm
          split at hs
          · rename_i hrc
            obtain ⟨as, st', h1, h2, h3, h4, rfl⟩ := om_cal_i hs
            obtain ⟨a, n, vs, hr1, hr2⟩ := om_rcv_i hrc
            obtain ⟨yy, hmm⟩ := om_mls_at hm
            have h5 := List.all_eq_true.mp om_mok _ hmm
            simp only [Bool.and_eq_true, decide_eq_true_eq] at h5
            obtain ⟨h5, q1, q2, q3, q4, q5⟩ := h5
            exact ⟨rfl, rfl, q3, q4, q5, h1, h3, Or.inr (Or.inr ⟨i, a, hd, Or.inl (om_wgi h5), q1, q2, h2, om_rcv_0 (st1 := st') h4 hr1 h2⟩)⟩
          · cases hs
        · rename_i ci hm
          split at hs
          · rename_i hrc
            obtain ⟨as, st', h1, h2, h3, h4, rfl⟩ := om_cal_i hs
            obtain ⟨a, n, vs, hr1, hr2⟩ := om_rcv_i hrc
            obtain ⟨yy, hmm⟩ := om_mls_at hm
            have h5 := List.all_eq_true.mp om_mok _ hmm
            simp only [decide_eq_true_eq] at h5
            obtain ⟨g1, g2, g3, q1, q2, q3, q4, q5⟩ := h5
            exact ⟨rfl, rfl, q3, q4, q5, h1, h3, Or.inr (Or.inr ⟨i, a, hd, Or.inr ⟨g1, g2, g3⟩, q1, q2, h2, om_rcv_0 (st1 := st') h4 hr1 h2⟩)⟩
          · cases hs
        · rename_i w hm
          split at hs
          · rename_i a st'
            split at hs
            · rename_i h8
              exact om_same (Option.some.inj hs).symm (fun C f1 f2 _ _ g => om_g_oin C hd hm h8 f1 f2 g)
            · cases hs
          · cases hs
        · cases hs
      case ireturn =>
        have hl : len = 1 := by simpa [om_lok] using hlen
        subst hl
        simp only [om_ex] at hs
        split at hs
        · rename_i z
          split at hs
          · rename_i hq
            obtain rfl := Option.some.inj hs
            exact ⟨rfl, hq, Or.inr (Or.inl ⟨z, rfl, rfl, hd⟩)⟩
          · cases hs
        · cases hs
      case areturn =>
        have hl : len = 1 := by simpa [om_lok] using hlen
        subst hl
        simp only [om_ex] at hs
        split at hs
        · rename_i z
          split at hs
          · rename_i hq
            obtain rfl := Option.some.inj hs
            exact ⟨rfl, hq, Or.inr (Or.inr ⟨z, rfl, rfl, hd⟩)⟩
          · cases hs
        · cases hs
      case return_ =>
        have hl : len = 1 := by simpa [om_lok] using hlen
        subst hl
        simp only [om_ex] at hs
        split at hs
        · split at hs
          · rename_i hq
            obtain rfl := Option.some.inj hs
            exact ⟨rfl, hq, Or.inl ⟨rfl, rfl, hd⟩⟩
          · cases hs
        · cases hs
    · cases hs
end om_ivs
end
section
/-! runs of the small machine are runs of the machine -/
theorem om_Kx_calling {D : va_G} {dA : Nat → ClassId} {b bs : Nat} {sc : Int × (Int → Int)} {U : State} (g : JFrame) (mk : MethodId) (a : Array Value) (k : om_Kx D dA b bs sc U) : om_Kx D dA b bs sc (U.calling g mk a) := by
  obtain ⟨k1, ⟨n, xs, hn, hX, hs⟩, k3, k4, k5, k6⟩ := k
  exact ⟨va_K.moved (u := U) (U := U.calling g mk a) (Vm.Alike.refl U.vm) k1, ⟨n, xs, hn, va_X.moved (u := U) (U := U.calling g mk a) (Vm.Alike.refl U.vm) hX, hs⟩, k3, k4, va_AO.moved (u := U) (U := U.calling g mk a) (Vm.Alike.refl U.vm) k5, va_Nw.same (u := U) (U := U.calling g mk a) (by decide +kernel) rfl k6⟩
theorem om_Kx_warm {D : va_G} {dA : Nat → ClassId} {b bs : Nat} {sc : Int × (Int → Int)} {s U : State} {H : Heap} {locs : List Loc} (hS : va_S (fun q => bs ≤ q) s.heap H locs) (k : om_Kx D dA b bs sc s) (hU : U.heap = H) (hW : s.WarmedH U.vm) : om_Kx D dA b bs sc U := by
  obtain ⟨k1, ⟨n, xs, hn, hX, hs⟩, k3, k4, k5, k6⟩ := k
  refine ⟨va_K.moved hW.alike k1, ⟨n, xs, hn, ?_, hs⟩, k3, Nat.le_trans k4 (by rw [hU]; exact hS.1), va_AO.moved hW.alike k5, va_Nw.warmM hW k6⟩
  obtain ⟨scr, h1, h2, h3⟩ := va_X.moved hW.alike hX
  refine ⟨scr, ?_, h2, h3⟩
  rw [hU, hS.2.1 b (by omega) (show ¬ bs ≤ b by omega)]
  exact h1
theorem om_sl (ad : List Nat) (b : Nat) : ∀ as : List om_V, (lg_sl (as.map (om_tr ad b))).length = as.length
  | [] => rfl
  | v :: as => by
    have h := om_sl ad b as
    have hc : ¬ (om_tr ad b v).category = 2 := by rw [om_cat]; decide
    simp only [lg_sl, List.map_cons, List.flatMap_cons, if_neg hc, List.length_append, List.length_cons, List.length_nil] at h ⊢
    omega
theorem om_args (ad : List Nat) (b : Nat) : ∀ (as : List om_V) (i k : Nat) (v : om_V), as[k]? = some v → (i + k, om_tr ad b v) ∈ lv_args i (as.map (om_tr ad b))
  | [], i, k, v, h => by simp at h
  | w :: as, i, 0, v, h => by
    have : w = v := by simpa using h
    subst this
    exact List.mem_cons_self
  | w :: as, i, k + 1, v, h => by
    have hc : ¬ (om_tr ad b w).category = 2 := by rw [om_cat]; decide
    simp only [List.map_cons, lv_args, if_neg hc]
    have h2 := om_args ad b as (i + 1) k v (by simpa using h)
    rw [show i + (k + 1) = i + 1 + k by omega]
    exact List.mem_cons_of_mem _ h2
theorem om_entry {ad : List Nat} {b n : Nat} {as : List om_V} {ls : Array Slot} (h : lv_has ls n (lv_args 0 (as.map (om_tr ad b)))) (k : Nat) : lv_has ls n (om_lv ad b (as ++ List.replicate k om_un)) := by
  refine ⟨h.1, h.2.1, fun q hq => ?_⟩
  obtain ⟨w, h1, h2, h3⟩ := om_lv_mem.mp hq
  by_cases hl : q.1 < as.length
  · rw [List.getElem?_append_left hl] at h1
    have h4 := om_args ad b as 0 q.1 w h1
    rw [Nat.zero_add, ← h3] at h4
    exact h.2.2 q h4
  · rw [List.getElem?_append_right (by omega)] at h1
    exact absurd (List.eq_of_mem_replicate (List.mem_of_getElem? h1)) h2
theorem om_rk_rt {mi : Nat} (h : mi < 160) : om_rck mi = true := List.all_eq_true.mp om_rok1 mi (List.mem_range.mpr h)
theorem om_nar_b {z : Int} (h : z = 0 ∨ z = 1) : narrow .boolean (.int (Int32.ofInt z)) = .int (Int32.ofInt z) := by
  rcases h with rfl | rfl <;> rfl
theorem om_nar_c2 {x : Int} (h0 : 0 ≤ x) (h1 : x ≤ 65535) : narrow .char (.int (Int32.ofInt x)) = .int (Int32.ofInt x) := by
  have h2 := (pk_charN (q := x.toNat) (by omega)).1
  have e1 : nI x.toNat = Int32.ofInt x := by
    show Int32.ofNat _ = _
    rw [om_nn, Int.toNat_of_nonneg h0]
  rwa [e1] at h2
section om_sims
variable {p : Program} {l : Launch} {e : Env} {R : Room} {s : State} {m : MethodId} {args : Array Value} {below : List Frame} {meth : Method} {c : Code} {Q : State → Prop} {mi : Nat} {D : va_G} {dA : Nat → ClassId} {b bs : Nat} {sc : Int × (Int → Int)} {ad0 : List Nat} {cells slots pc : Nat} {L st : List om_V} {h : om_H}
/-- a method's end -/
def om_Qc (D : va_G) (dA : Nat → ClassId) (b bs : Nat) (ad : List Nat) (v : Option om_V) (h1 : om_H) : Array Value → State → Outcome → State → Prop := fun _ st0 o t =>
  (∃ ad', ad <+: ad' ∧ o = .returned (v.map (om_tr ad' b)) ∧ om_Re D dA (fun q => bs ≤ q) b ad' h1 t.heap ∧ ∀ w ∈ v.toList, om_ok h1.1.length w) ∧ va_F (fun q => bs ≤ q) st0 t
theorem om_fin (hmi : mi < 160) (C : om_Cx p s m args meth c mi D dA b bs sc) {v : Option om_V} (hr : om_Rf mi pc st v) : om_Gd p l e R s m args below meth c (MQ below (om_Qc D dA b bs ad0 v h) args s cells slots (fun q => bs ≤ q)) mi D dA b bs ad0 pc L st h cells slots := by
  intro ad H locs ls h0 hRe hS hl hn hL hst
  obtain ⟨hx, hb, hml, hown, hts, hret, hlk, hin, hKx⟩ := C
  obtain ⟨hok, hr⟩ := hr
  have hk := om_rk_rt hmi
  unfold om_rck at hk
  unfold om_rok at hok
  have good : ∀ t : State, t.heap = H → s.WarmedH t.vm → om_Qc D dA b bs ad0 v h args s (.returned (v.map (om_tr ad b))) t := by
    intro t ht hW
    refine ⟨⟨ad, h0, rfl, by rw [ht]; exact hRe, ?_⟩, hS.F ht⟩
    rcases hr with ⟨rfl, rfl, -⟩ | ⟨z, rfl, rfl, -⟩ | ⟨z, rfl, rfl, -⟩
    · exact fun w hw => by cases hw
    · exact hst
    · exact hst
  rcases hr with ⟨rfl, rfl, hd⟩ | ⟨z, rfl, rfl, hd⟩ | ⟨z, rfl, rfl, hd⟩
  · split at hk
    · rename_i e1 e2
      exact W.vret hx hb (hret.trans e2) good (fun q hq => hS.2.2 q hq) hd hlk
    all_goals (first | (rename_i e1 e2; rw [e1] at hok; cases hok; done) | (cases hk; done))
  · split at hk
    · rename_i e1 e2
      rw [e1] at hok
      cases hok
    · rename_i e1 e2
      exact W.iret hx hb (hret.trans e2) good (fun q hq => hS.2.2 q hq) hd hlk
    · rename_i e1 e2
      rw [e1] at hok
      have hz : z = 0 ∨ z = 1 := by simpa using hok
      exact W.zret hx hb (hret.trans e2) (om_nar_b hz) good (fun q hq => hS.2.2 q hq) hd hlk
    · rename_i e1 e2
      rw [e1] at hok
      have hz : 0 ≤ z ∧ z ≤ 65535 := by simpa using hok
      exact W.zret hx hb (hret.trans e2) (om_nar_c2 hz.1 hz.2) good (fun q hq => hS.2.2 q hq) hd hlk
    · rename_i e1 e2
      rw [e1] at hok
      cases hok
    · cases hk
  · split at hk
    · rename_i e1 e2
      rw [e1] at hok
      cases hok
    · rename_i e1 e2
      rw [e1] at hok
      cases hok
    · rename_i e1 e2
      rw [e1] at hok
      cases hok
    · rename_i e1 e2
      rw [e1] at hok
      cases hok
    · rename_i n e1 e2
      exact W.aret hx hb (hret.trans e2) (Or.inl ⟨_, rfl⟩) (Or.inr ⟨_, rfl⟩) good (fun q hq => hS.2.2 q hq) hd hlk
    · cases hk
/-- behind a call -/
theorem om_after {ad : List Nat} {ls : Array Slot} {H : Heap} {locs : List Loc} {mc ms : Nat} {st0 : List Value} {a : Array Value} {v : Option om_V} {h1 : om_H} (hrun : va_Run p l e R s m args below meth c H locs cells slots mc ms (F0 m pc ls st0) (st.map (om_tr ad b)) (om_Qc D dA b bs ad v h1 a) (fun q => bs ≤ q)) (hlen : h.1.length ≤ h1.1.length) (h0 : ad0 <+: ad) (hRe : om_Re D dA (fun q => bs ≤ q) b ad h H) (hS : va_S (fun q => bs ≤ q) s.heap H locs) (hl : lv_has ls (om_ml mi) (om_lv ad b L)) (hn : L.length = om_ml mi) (hL : ∀ v ∈ L, v = om_un ∨ om_ok h.1.length v) (hst : ∀ v ∈ st, om_ok h.1.length v) (kk : (om_Gd p l e R s m args below meth c Q mi D dA b bs ad0 (pc + 3) (L) (v.toList ++ st) (h1) (cells + mc) (slots + ms))) : W p l e R s m args below meth c H locs cells slots Q (F0 m pc ls st0) := by
  intro T hT X
  obtain ⟨v', st1, t, T', Lc, e0, X', hLc, e1, e2, ⟨⟨ad', hpre, hv, hRe', hvo⟩, hz, hk⟩, hgo⟩ := hrun T hT X
  cases hv
  rw [e0] at hz hk
  have hS' : va_S (fun q => bs ≤ q) s.heap T'.heap (locs ++ Lc) := by
    refine ⟨Nat.le_trans hS.1 (by rw [e1]; exact hz), fun q q1 q2 => ?_, fun q hq => ?_⟩
    · rw [e1, hk q (Nat.lt_of_lt_of_le q1 hS.1) q2]
      exact hS.2.1 q q1 q2
    · rcases List.mem_append.mp hq with q1 | q1
      · exact hS.2.2 q q1
      · exact hLc q q1
  have hle : ad.length ≤ ad'.length := hpre.length_le
  have K := kk ad' T'.heap (locs ++ Lc) ls (h0.trans hpre) (by rw [e1]; exact hRe') hS' (om_lv_pre hpre (by rw [hRe.1]; exact hL) hl) hn (fun w hw => (hL w hw).imp id (om_ok_le hlen)) (fun w hw => by
    rcases List.mem_append.mp hw with q | q
    · exact hvo w q
    · exact om_ok_le hlen (hst w q))
  have e4 := om_map_pre (b := b) (l := st) hpre (by rw [hRe.1]; exact hst)
  rw [List.map_append, e4] at K
  have e3 : (v.toList).map (om_tr ad' b) = (v.map (om_tr ad' b)).toList := by cases v <;> rfl
  rw [e3] at K
  obtain ⟨t2, a1, b1⟩ := K T' rfl X'
  exact ⟨t2, hgo t2 a1, b1⟩
theorem om_cw {ci : Nat} (h1 : 0 < ci) (h2 : ci < 160) (h3 : ci ≠ 33) : Cond.code (om_y ci) (om_by ci) (om_ml ci) (om_rt ci) ∈ om_wg := by
  have h4 := (om_ic h1 h2 h3).1
  exact List.mem_filter.mpr ⟨h4, by rfl⟩
theorem om_gi {ci : Nat} (h1 : 0 < ci) (h2 : ci < 160) (h3 : ci ≠ 33) : GoodIn om_wg (Cond.code (om_y ci) (om_by ci) (om_ml ci) (om_rt ci) :: om_wg) := by
  intro w hw
  have hm : w ∈ om_wg := by
    rcases List.mem_cons.mp hw with rfl | q
    · exact om_cw h1 h2 h3
    · exact q
  exact ⟨hm, good_of_word (om_wg_good w hm).2⟩
/-- what the tables say of a method -/
theorem om_it {ci : Nat} (h1 : 0 < ci) (h2 : ci < 160) (h3 : ci ≠ 33) : (om_st ci = true → Cond.static (om_y ci) ∈ om_wg) ∧ (om_st ci = false → Cond.instanceMethod (om_y ci) ∈ om_wg) ∧ (om_st ci = false → om_in ci = false → Cond.selects (om_cn (om_ow ci)) (om_y ci) (om_y ci) ∈ om_wg) ∧ Cond.initialized (om_y ci).cls ∈ om_wg ∧ (om_y ci).cls = om_cn (om_ow ci) ∧ plainName (om_y ci).cls = true ∧ (om_y ci).cls ≠ "java/lang/invoke/MethodHandle" ∧ (om_y ci).cls ≠ "java/lang/invoke/VarHandle" ∧ (parseMethodDescriptor (om_y ci).desc).map (fun d => d.parameters.length) = some (om_np ci) ∧ (om_in ci = true → (om_y ci).name = "<init>") ∧ om_ml ci ≤ 13 ∧ om_np ci + (if om_st ci then 0 else 1) ≤ om_ml ci := by
  have h4 := (om_ic h1 h2 h3).2
  unfold om_ick at h4
  cases hq : om_mix.getD ci (0, 0, 0, 0) with
  | mk a q =>
    obtain ⟨b, s, n⟩ := q
    rw [hq] at h4
    simp only [Bool.and_eq_true, decide_eq_true_eq] at h4
    obtain ⟨⟨⟨⟨⟨⟨⟨⟨⟨⟨a1, a2⟩, a3⟩, a4⟩, a5⟩, a6⟩, a7⟩, a8⟩, a9⟩, a10⟩, a11⟩ := h4
    refine ⟨fun q => ?_, fun q => ?_, fun q1 q2 => ?_, ?_, a4, a5, a6, a7, a8, fun q => ?_, a10, a11⟩
    · rw [if_pos q] at a1
      exact om_wgi a1
    · rw [if_neg (by rw [q]; decide)] at a1
      exact om_wgi a1
    · rw [q1, q2] at a2
      exact om_wgi (by simpa using a2)
    · rw [a4]
      exact om_wgi a3
    · rw [q] at a9
      simpa using a9
end om_sims
set_option maxHeartbeats 4000000 in
theorem om_sim {sc : Int × (Int → Int)} : ∀ (f d mi pc : Nat) (L st : List om_V) (h : om_H) (v : Option om_V) (h' : om_H), om_run sc d f mi pc L st h = some (v, h') →
    ∀ {p : Program} {l : Launch} {e : Env} {R : Room} {s : State} {m : MethodId} {args : Array Value} {below : List Frame} {meth : Method} {c : Code} {Q : State → Prop} {D : va_G} {dA : Nat → ClassId} {b bs : Nat} {ad0 : List Nat} {cells slots : Nat}, (h.1.length ≤ h'.1.length ∧ om_sz h ≤ om_sz h') ∧ (om_Cx p s m args meth c mi D dA b bs sc → d + 1 ≤ R.frames → 40 * (d + 1) ≤ R.locals → cells + (h'.1.length - h.1.length) ≤ R.cells → slots + (om_sz h' - om_sz h) ≤ R.slots →
      (∀ (pc1 : Nat) (L1 st1 : List om_V), om_Rf mi pc1 st1 v → (om_Gd p l e R s m args below meth c Q mi D dA b bs ad0 (pc1) (L1) (st1) (h') (cells + (h'.1.length - h.1.length)) (slots + (om_sz h' - om_sz h)))) → (om_Gd p l e R s m args below meth c Q mi D dA b bs ad0 (pc) (L) (st) (h) (cells) (slots))) := by
  intro f
  induction f with
  | zero =>
    intro d mi pc L st h v h' hr
    simp [om_run] at hr
  | succ f ih =>
    intro d mi pc L st h v h' hr p l e R s m args below meth c Q D dA b bs ad0 cells slots
    rw [om_run] at hr
    cases hs : om_step sc mi pc L st h with
    | none => rw [hs] at hr; cases hr
    | some r =>
      rw [hs] at hr
      have hP := om_inv (p := p) (l := l) (e := e) (R := R) (s := s) (m := m) (args := args) (below := below) (meth := meth) (c := c) (Q := Q) (D := D) (dA := dA) (b := b) (bs := bs) (ad0 := ad0) (cells := cells) (slots := slots) hs
      rcases r with ⟨v1, h1⟩ | ⟨pc1, L1, st1, h1⟩ | ⟨ci, as, pc1, L1, st1⟩
      · cases hr
        obtain ⟨rfl, hP⟩ := hP
        refine ⟨⟨Nat.le_refl _, Nat.le_refl _⟩, fun C _ _ _ _ fin => ?_⟩
        have g := fin pc L st hP
        simpa only [Nat.sub_self, Nat.add_zero] using g
      · dsimp only at hr
        obtain ⟨⟨m1, m2⟩, hN⟩ := hP
        have I := ih d mi pc1 L1 st1 h1 v h' hr (p := p) (l := l) (e := e) (R := R) (s := s) (m := m) (args := args) (below := below) (meth := meth) (c := c) (Q := Q) (D := D) (dA := dA) (b := b) (bs := bs) (ad0 := ad0) (cells := cells + (h1.1.length - h.1.length)) (slots := slots + (om_sz h1 - om_sz h))
        obtain ⟨⟨m3, m4⟩, hI⟩ := I
        refine ⟨⟨by omega, by omega⟩, fun C r1 r2 r3 r4 fin => ?_⟩
        refine hN C (by omega) (by omega) (by omega) (by omega) (hI C r1 r2 (by omega) (by omega) (fun pc2 L2 st2 hr2 => ?_))
        have g := fin pc2 L2 st2 hr2
        rw [show cells + (h1.1.length - h.1.length) + (h'.1.length - h1.1.length) = cells + (h'.1.length - h.1.length) by omega, show slots + (om_sz h1 - om_sz h) + (om_sz h' - om_sz h1) = slots + (om_sz h' - om_sz h) by omega]
        exact g
      · obtain ⟨hpc1, hL1, q1, q2, q3, q4, q5, hcall⟩ := hP
        rw [hpc1, hL1] at hr
        cases d with
        | zero => cases hr
        | succ d =>
          dsimp only at hr
          cases hc : om_run sc d f ci 0 (om_loc ci as) [] h with
          | none => rw [hc] at hr; cases hr
          | some w =>
            obtain ⟨v1, h1⟩ := w
            rw [hc] at hr
            dsimp only at hr
            have I1 := @ih d ci 0 (om_loc ci as) [] h v1 h1 hc
            obtain ⟨m1, m2⟩ := (I1 (p := p) (l := l) (e := e) (R := R) (s := s) (m := m) (args := args) (below := below) (meth := meth) (c := c) (Q := Q) (D := D) (dA := dA) (b := b) (bs := bs) (ad0 := ad0) (cells := 0) (slots := 0)).1
            have I := ih (d + 1) mi (pc + 3) L (v1.toList ++ st1) h1 v h' hr (p := p) (l := l) (e := e) (R := R) (s := s) (m := m) (args := args) (below := below) (meth := meth) (c := c) (Q := Q) (D := D) (dA := dA) (b := b) (bs := bs) (ad0 := ad0) (cells := cells + (0 + (h1.1.length - h.1.length))) (slots := slots + (0 + (om_sz h1 - om_sz h)))
            obtain ⟨⟨m3, m4⟩, hI⟩ := I
            refine ⟨⟨by omega, by omega⟩, fun C r1 r2 r3 r4 fin => ?_⟩
            have K := hI C r1 r2 (by omega) (by omega) (fun pc2 L2 st2 hr2 => by
              have g := fin pc2 L2 st2 hr2
              rw [show cells + (0 + (h1.1.length - h.1.length)) + (h'.1.length - h1.1.length) = cells + (h'.1.length - h.1.length) by omega, show slots + (0 + (om_sz h1 - om_sz h)) + (om_sz h' - om_sz h1) = slots + (om_sz h' - om_sz h) by omega]
              exact g)
            clear hI ih
            obtain ⟨t1, t2, t3, t4, t5, t6, t7, t8, t9, t10, t11, t12⟩ := om_it q1 q2 q3
            intro ad H locs ls h0 hRe hS hl hn hL hst
            subst q4
            have hasok : ∀ w ∈ as, om_ok h.1.length w := fun w hw => hst w (List.mem_append_left _ (List.mem_reverse.mpr hw))
            have hst1 : ∀ w ∈ st1, om_ok h.1.length w := fun w hw => hst w (List.mem_append_right _ hw)
            have hasl : as.length ≤ om_ml ci := by
              rcases hcall with ⟨_, _, _, _, _, _, s1, _, s2, _⟩ | ⟨_, _, _, s1, s2⟩ | ⟨_, _, _, _, s1, _, s2, _⟩
              · rw [s1] at t12; simp at t12; omega
              · rw [s1] at t12; simp at t12; omega
              · rw [s1] at t12; simp at t12; omega
            have hMet : Met l (om_y ci) (Cond.code (om_y ci) (om_by ci) (om_ml ci) (om_rt ci) :: om_wg) { frames := d + 1, cells := 0 + (h1.1.length - h.1.length), slots := 0 + (om_sz h1 - om_sz h), locals := 40 * (d + 1) } (va_Pc (as.map (om_tr ad b)) (fun U => om_Re D dA (fun q => bs ≤ q) b ad h U.heap ∧ om_Kx D dA b bs sc U)) (om_Qc D dA b bs ad v1 h1) (0 + (h1.1.length - h.1.length)) (0 + (om_sz h1 - om_sz h)) (fun q => bs ≤ q) := by
              refine Met.ofW (cc := om_by ci) (maxL := om_ml ci) (ret := om_rt ci) t6 rfl ?_
              intro p' e' s' m' args' below' meth' c' s₁ B hml hv
              obtain ⟨rfl, hRe', hKx'⟩ := hv
              have hts' := atoms_spec (ws := Cond.code (om_y ci) (om_by ci) (om_ml ci) (om_rt ci) :: om_wg) B.pre
              have C' : om_Cx p' s' m' (as.map (om_tr ad b)).toArray meth' c' ci D dA b bs sc := ⟨B.exec, B.bytes, hml, by rw [← t5]; exact findClass_of_methodNamed B.named, fun w hw => hts' w (List.mem_cons_of_mem _ hw), B.returns, B.notSynchronized, fun q => (name_of_methodNamed B.named B.method).1.trans (t10 q), hKx'⟩
              rw [lg_entry_eq]
              have hl' := lv_entry (as.map (om_tr ad b)) (n := om_ml ci) (by rw [om_sl]; exact hasl)
              have G1 := (I1 (p := p') (l := l) (e := e') (R := { frames := d + 1, cells := 0 + (h1.1.length - h.1.length), slots := 0 + (om_sz h1 - om_sz h), locals := 40 * (d + 1) }) (s := s') (m := m') (args := (as.map (om_tr ad b)).toArray) (below := below') (meth := meth') (c := c') (Q := MQ below' (om_Qc D dA b bs ad v1 h1) (as.map (om_tr ad b)).toArray s' (0 + (h1.1.length - h.1.length)) (0 + (om_sz h1 - om_sz h)) (fun q => bs ≤ q)) (D := D) (dA := dA) (b := b) (bs := bs) (ad0 := ad) (cells := 0) (slots := 0)).2 C' (Nat.le_refl _) (Nat.le_refl _) (Nat.le_refl _) (Nat.le_refl _) (fun pc2 L2 st2 hr2 => om_fin q2 C' hr2)
              refine G1 ad s'.heap [] _ (List.prefix_refl _) hRe' va_S.rf (om_entry hl' (om_ml ci - as.length)) ?_ ?_ (fun w hw => by cases hw)
              · simp only [om_loc, List.length_append, List.length_replicate]
                omega
              · intro w hw
                rcases List.mem_append.mp hw with q | q
                · exact Or.inr (hasok w q)
                · exact Or.inl (List.eq_of_mem_replicate q)
            have hpc : FrameBlind (va_Pc (as.map (om_tr ad b)) (fun U => om_Re D dA (fun q => bs ≤ q) b ad h U.heap ∧ om_Kx D dA b bs sc U)) := fun a U g mk q => ⟨q.1, q.2.1, om_Kx_calling g mk a q.2.2⟩
            have hpre : ∀ U : State, U.heap = H → s.WarmedH U.vm → va_Pc (as.map (om_tr ad b)) (fun U => om_Re D dA (fun q => bs ≤ q) b ad h U.heap ∧ om_Kx D dA b bs sc U) (as.map (om_tr ad b)).toArray U := fun U hU hW => ⟨rfl, by rw [hU]; exact hRe, om_Kx_warm hS C.2.2.2.2.2.2.2.2 hU hW⟩
            have hcb : ∀ {i : Nat}, Cond.methodLink (om_cn (om_ow mi)) i (om_y ci) ∈ om_wg → CallB R s args (om_cn (om_ow mi)) i (om_y ci) (om_by ci) (om_ml ci) (om_rt ci) (Cond.code (om_y ci) (om_by ci) (om_ml ci) (om_rt ci) :: om_wg) { frames := d + 1, cells := 0 + (h1.1.length - h.1.length), slots := 0 + (om_sz h1 - om_sz h), locals := 40 * (d + 1) } (0 + (h1.1.length - h.1.length)) (0 + (om_sz h1 - om_sz h)) (om_np ci) := fun hlink => callB_of (om_np ci) C.2.2.2.2.1 (om_gi q1 q2 q3) rfl rfl rfl (C.2.2.2.2.1 _ t4) (C.2.2.2.2.1 _ hlink) ⟨t7, t8, t9⟩ ⟨r1, by show 8 + (om_ml ci + 11) + 40 * (d + 1) ≤ R.locals; omega⟩
            have hroom : (((st1.map (om_tr ad b)).map fun v => v.category).sum) ≤ 8 := by rw [om_cats]; exact q5
            refine om_after (h := h) ?_ m1 h0 hRe hS hl hn hL hst1 K (a := (as.map (om_tr ad b)).toArray)
            have SF : CallFix p m c (om_by mi) (om_ml mi) s args om_wg (om_cn (om_ow mi)) := ⟨C.1, C.2.1, C.2.2.1, C.2.2.2.1, C.2.2.2.2.1⟩
            have hstk : (as.reverse ++ st1).map (om_tr ad b) = (as.map (om_tr ad b)).reverse ++ st1.map (om_tr ad b) := by simp
            rcases hcall with ⟨i, a, n, vs, hd, hlink, s1, s2, s3, s4, s5⟩ | ⟨i, hd, hlink, s1, s3⟩ | ⟨i, a, hd, hlink, s1, s2, s3, s4⟩
            · cases as with
              | nil => simp at s4
              | cons r0 as' =>
                have hr0 : r0 = .inr (.inl a) := by simpa using s4
                subst hr0
                have hcn : om_ow ci < 10 := by
                  have hat := om_ws_at (ad := ad) (b := b) (dA := dA) s5
                  obtain ⟨yy, hyy⟩ := List.getElem?_of_mem (t3 s1 s2)
                  exact Decidable.byContradiction (fun hge => by
                    have := List.all_eq_true.mp (show (List.range 160).all (fun k => om_st k || decide (om_ow k < 10)) = true by decide +kernel) ci (List.mem_range.mpr q2)
                    rw [s1] at this
                    simp at this
                    omega)
                have hat := om_ws_at (ad := ad) (b := b) (dA := dA) s5
                rw [om_ce_obj (show (om_ow ci, n, vs).1 < 10 from hcn)] at hat
                have hrecv := va_recv C.2.2.2.2.2.2.2.2.1 hRe.2.2.1 (om_cl_at hcn) hat
                exact va_runV (As := as'.map (om_tr ad b)) (b := ad.getD a 0) (C := om_cn (om_ow ci)) SF hMet ⟨hcb hlink, C.2.2.2.2.1 _ (t2 s1), C.2.2.2.2.1 _ (t3 s1 s2)⟩ ⟨hpc, hrecv, hpre⟩ rfl (by simp at s3 ⊢; exact s3) hl.1 (by rw [hstk]; simp [om_tr]) (lv_room hroom) hd ⟨by omega, by omega⟩
            · exact va_runS (As := as.map (om_tr ad b)) SF hMet ⟨hcb hlink, C.2.2.2.2.1 _ (t1 s1)⟩ ⟨hpc, hpre⟩ rfl (by simpa using s3) hl.1 (by rw [hstk]) (lv_room hroom) hd ⟨by omega, by omega⟩
            · cases as with
              | nil => simp at s4
              | cons r0 as' =>
                have hr0 : r0 = .inr (.inl a) := by simpa using s4
                subst hr0
                have hrv : om_rt ci = none := by
                  have h5 := List.all_eq_true.mp (show (List.range 160).all (fun k => !om_in k || decide (om_rt k = none)) = true by decide +kernel) ci (List.mem_range.mpr q2)
                  rw [s2] at h5
                  simpa using h5
                rcases hlink with hlink | ⟨g1, g2, g3⟩
                · have hcb' := hcb hlink
                  rw [hrv] at hcb'
                  rw [hrv] at hMet
                  exact va_runI (As := as'.map (om_tr ad b)) (b := ad.getD a 0) SF hMet ⟨hcb', t10 s2, C.2.2.2.2.1 _ (t2 s1)⟩ ⟨hpc, hpre⟩ rfl (by simp at s3 ⊢; exact s3) hl.1 (by rw [hstk]; simp [om_tr]) (lv_room hroom) hd ⟨by omega, by omega⟩
                · have hnw : va_Nw (.methodLinkNest (om_cn (om_ow mi)) i (om_y ci) "OreSolver") s := by
                    rw [g1, g2, g3]
                    exact C.2.2.2.2.2.2.2.2.2.2.2.2.2
                  have hcn := va_cnB (R := R) (bytes := om_by ci) (maxL := om_ml ci) (ret := om_rt ci) (Ts := om_wg) (ws' := om_wg) (rm := { frames := d + 1, cells := 0 + (h1.1.length - h.1.length), slots := 0 + (om_sz h1 - om_sz h), locals := 40 * (d + 1) }) (om_np ci) C.2.2.2.2.1 (om_gi q1 q2 q3) rfl rfl rfl hnw (C.2.2.2.2.1 _ t4) ⟨t7, t8, t9⟩ ⟨r1, by show 8 + (om_ml ci + 11) + 40 * (d + 1) ≤ R.locals; omega⟩
                  rw [hrv] at hcn
                  rw [hrv] at hMet
                  exact va_runIN (As := as'.map (om_tr ad b)) (b := ad.getD a 0) SF hMet ⟨hcn, t10 s2, C.2.2.2.2.1 _ (t2 s1)⟩ ⟨hpc, hpre⟩ rfl (by simp at s3 ⊢; exact s3) hl.1 (by rw [hstk]; simp [om_tr]) (lv_room hroom) hd ⟨by omega, by omega⟩
end
section
-- ===== end of PART A; then your names; then what follows =====
/-! THE CLAIM OUT OF ONE WALK OF THE LAW'S BODY. Your part is whole_start (and what it stands on); all else here is the same for every law, but numbers. -/
def R_law : String := "OreSolverLaw"
def lw_P (b : Addr) (xs : List Int32) (args : Array Value) (s : State) : Prop := args = #[.ref b] ∧ s.IntsAt b xs ∧ xs.length ≤ 2561 ∧ (Jvm.Cond.and given_1 narrow_1).before args s = true
def lw_Q (_ : Array Value) (s : State) (o : Outcome) (t : State) : Prop := o = .returned (some (.int 1)) ∧ Framed s o t [] 600000 7302250
def lw_Z (below : List Frame) (a : Array Value) (s : State) : State → Prop := fun t => ∃ o, t.status = .running ∧ Ended t below o ∧ lw_Q a s o t
/-- the law's own end, with 1 on the stack, nothing written that was there before, its room as the claim has it -/
theorem lw_ret {p : Program} {l : Launch} {e : Env} {s : State} {m : MethodId} {below : List Frame} {meth : Method} {c : Code} {b : Nat} (hx : p.tables.exec = Jvm.exec) (hb : c.code = code) (hr : meth.sig.returnType = ret) (hlocks : meth.locks = false) {pc : Nat} {H : Heap} {ls : Array Slot} (hdg : decode code pc = .ok (.ireturn, 1)) : W p l e room_1 s m #[Value.ref b] below meth c H [] 600000 7302250 (lw_Z below #[Value.ref b] s) (F0 m pc ls [.int 1]) := by
  intro T hT X
  obtain ⟨fs, hret, hrun, hended, hW, hframe⟩ := X.leave (v := some (.int 1)) (hlocks := hlocks) (fun h => by rw [hr] at h; cases h)
  have hmeth' : T.vm.method? m = some meth := X.method'
  refine ⟨T.setFrames fs, ?_, .returned (some (.int 1)), hrun, hended, rfl, ⟨_, rfl⟩, hW, hframe⟩
  jvm_step X.here [X.here.top, hx, hb, hdg, hmeth', hr, ret, narrow_b1]
  (try refine ⟨rfl, ?_⟩); (try refine ⟨rfl, ?_⟩)
  first | (intro acts; rw [hret _ acts rfl rfl rfl]) | rw [hret _ _ rfl rfl rfl]
  exact Steps.refl _
/-- what holds at the law's entry: the machine, the code, the tables' words (any of lw_tbl by 'hts w (by decide +kernel)'), the script of L ints xs at the cell b, what the Statement gives of the start (any of its parts by flat_of_before) -/
def lw_At (p : Program) (s : State) (m : MethodId) (meth : Method) (c : Code) (b L : Nat) (xs : Nat → Int32) : Prop :=
  p.tables.exec = Jvm.exec ∧ c.code = code ∧ meth.sig.returnType = ret ∧ c.maxLocals = 4 ∧ s.vm.findClass R_law = some m.cls ∧ (∀ w ∈ lw_tbl, w.before #[Value.ref b] s = true) ∧ va_X b L xs s s.heap ∧ b < s.heap.size ∧ meth.locks = false ∧ (Jvm.Cond.and given_1 narrow_1).before #[Value.ref b] s = true
-- ===== YOUR PART BEGINS =====

/-- the law from its entry, out of a run of the small machine -/
theorem om_start (hmain : ∀ (n : Nat) (xs : Nat → Int32), n ≤ 2561 → om_R (om_scr n xs) 60 0 0 [om_sc, om_un, om_un, om_un] [] ([], fun _ _ => 0) (fun v h' => v = some (om_i 1) ∧ h'.1.length ≤ 600000 ∧ om_sz h' ≤ 7302250)) {p : Program} {e : Env} {s : State} {m : MethodId} {below : List Frame} {meth : Method} {c : Code} (l : Launch) {b L : Nat} {xs : Nat → Int32} (hL : L ≤ 2561) (C0 : lw_At p s m meth c b L xs) : W p l e room_1 s m #[Value.ref b] below meth c s.heap [] 0 0 (lw_Z below #[Value.ref b] s) (entryFrame m ([Value.ref b] : List Value).toArray 4) := by
  obtain ⟨hx, hb, hr, hml, hown, hts, hX, hbl, hlocks, hgv⟩ := id C0
  obtain ⟨f, v, h', hrun, rfl, hlen, hsz⟩ := hmain L xs hL
  have hwg : ∀ w ∈ om_wg, w.before #[Value.ref b] s = true := fun w hw => hts w (om_wg_good w hw).1
  have hkn : ∀ ci : Nat, ∃ (cc : ClassId) (iS : Nat → Nat), ci < 10 → u_Kn s (om_cn ci) (om_fT ci) (om_fN ci) cc iS := by
    intro ci
    by_cases hc : ci < 10
    · obtain ⟨c0, iS0, h0⟩ := u_known (C := om_cn ci) (T := om_fT ci) (N := om_fN ci) (n := om_fN ci) hwg (om_lays hc).1 (hwg _ (om_lays hc).2.1)
      exact ⟨c0, iS0, fun _ => h0⟩
    · exact ⟨0, fun _ => 0, fun h => absurd h hc⟩
  obtain ⟨dC, hdC⟩ := Classical.axiomOfChoice hkn
  obtain ⟨dI, hdI⟩ := Classical.axiomOfChoice hdC
  obtain ⟨c20, k20, p20, a20, b20, d20⟩ := Cond.arrayClass_spec (hwg (.arrayClass .int) (om_wgi (i := 129) (by decide +kernel)))
  obtain ⟨c21, k21, p21, a21, b21, d21⟩ := Cond.arrayClass_spec (hwg (.arrayClass .char) (om_wgi (i := 112) (by decide +kernel)))
  obtain ⟨c22, k22, p22, a22, b22, d22⟩ := Cond.arrayClass_spec (hwg (.arrayClass .boolean) (om_wgi (i := 764) (by decide +kernel)))
  have hao : va_AO "OreSolver$Operator" s := va_AO.of (hts (.arrayOver (.object "OreSolver$Operator")) (List.mem_of_getElem? (i := 96) (by decide +kernel)))
  have hnw : va_Nw om_nw s := va_Nw.of (by decide +kernel) (hts om_nw (List.mem_of_getElem? (i := 99) (by decide +kernel)))
  obtain ⟨p23, c23, k23, e23, -, b23, d23, a23⟩ := Cond.arrayOver_spec hao
  have hKx : om_Kx (dC, dI) (fun k => if k = 20 then c20 else if k = 21 then c21 else if k = 22 then c22 else c23) b s.heap.size (om_scr L xs) s := by
    refine ⟨⟨fun ci q hq => ?_, fun k q hk => ?_⟩, ⟨L, xs, by omega, hX, rfl⟩, hbl, Nat.le_refl _, hao, hnw⟩
    · have hc : ci < 10 := (List.getElem?_eq_some_iff.mp hq).1
      rw [om_cl_at hc] at hq
      cases hq
      exact hdI ci hc
    · match k, hk with
      | 0, hk => cases hk; exact ⟨fun N z => ⟨(fun k h => by cases h), k20, b20, p20, d20⟩, a20⟩
      | 1, hk => cases hk; exact ⟨fun N z => ⟨(fun k h => by cases h), k21, b21, p21, d21⟩, a21⟩
      | 2, hk => cases hk; exact ⟨fun N z => ⟨(fun k h => by cases h), k22, b22, p22, d22⟩, a22⟩
      | 3, hk => cases hk; exact ⟨fun N z => ⟨(fun k h => by cases h), k23, b23, p23, d23⟩, k23, p23, b23, d23, e23, a23⟩
      | n + 4, hk => simp [om_tys] at hk
  have C : om_Cx p s m #[Value.ref b] meth c 0 (dC, dI) (fun k => if k = 20 then c20 else if k = 21 then c21 else if k = 22 then c22 else c23) b s.heap.size (om_scr L xs) := ⟨hx, hb, hml, hown, hwg, hr, hlocks, (fun h => absurd h (by decide)), hKx⟩
  have hl := lv_entry ([.ref b]) (n := 4) (Nat.le_of_ble_eq_true rfl)
  rw [lg_entry_eq]
  have G1 := (om_sim f 60 0 0 [om_sc, om_un, om_un, om_un] [] ([], fun _ _ => 0) (some (om_i 1)) h' hrun (p := p) (l := l) (e := e) (R := room_1) (s := s) (m := m) (args := #[Value.ref b]) (below := below) (meth := meth) (c := c) (Q := lw_Z below #[Value.ref b] s) (D := (dC, dI)) (dA := fun k => if k = 20 then c20 else if k = 21 then c21 else if k = 22 then c22 else c23) (b := b) (bs := s.heap.size) (ad0 := []) (cells := 0) (slots := 0)).2 C (by decide) (by decide) (by show 0 + (h'.1.length - 0) ≤ 600000; omega) (by show 0 + (om_sz h' - 0) ≤ 7302250; omega) ?_
  · refine G1 [] s.heap [] _ (List.prefix_refl _) ⟨rfl, ⟨fun q hq => (by cases hq), fun a z => (show om_Z 0 by decide), fun a _ z => rfl⟩, fun k q hk => (by simp [om_ws] at hk), ⟨fun i j p q hi => (by simp [om_ws] at hi), fun k q hk => (by simp [om_ws] at hk)⟩⟩ va_S.rf (om_entry (as := [om_sc]) hl 3) rfl ?_ (fun w hw => by cases hw)
    intro w hw
    simp only [List.mem_cons, List.not_mem_nil, or_false] at hw
    rcases hw with rfl | rfl | rfl | rfl
    · exact Or.inr (Or.inr rfl)
    · exact Or.inl rfl
    · exact Or.inl rfl
    · exact Or.inl rfl
  · intro pc1 L1 st1 hrf
    intro ad H locs ls h0 hRe hS hl hn hL hst
    obtain ⟨-, hrf⟩ := hrf
    rcases hrf with ⟨h1, -⟩ | ⟨z, h1, rfl, hd⟩ | ⟨z, h1, -⟩
    · cases h1
    · cases h1
      refine va_forget (fun q hq => hS.2.2 q hq) ?_
      refine W.widen (k := 600000) (n := 7302250) (by show 0 + (h'.1.length - 0) ≤ 600000; omega) (by show 0 + (om_sz h' - 0) ≤ 7302250; omega) ?_
      exact lw_ret hx hb hr hlocks hd
    · cases h1
end
