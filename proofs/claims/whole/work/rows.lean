section
-- ===== PART A: goes FIRST, ahead of the names: the tables' words, and 'selects' of the private methods out of them =====
/-- a private method of a class that the tables say can be made, by its rows of tables_1 -/
def lw_okq (q : MethodName × Nat) : Prop := (q.1.cls ≠ "java/lang/invoke/MethodHandle" ∧ q.1.cls ≠ "java/lang/invoke/VarHandle") ∧ Cond.instantiable q.1.cls q.2 ∈ tables_1 ∧ Cond.privateMethod q.1 ∈ tables_1 ∧ Cond.instanceMethod q.1 ∈ tables_1
theorem lw_p0 : lw_okq (⟨"GraverCalculator", "takeNewMatrix", "()V"⟩, 10) := ⟨⟨by decide +kernel, by decide +kernel⟩, List.mem_of_getElem? (i := 14) (by decide +kernel), List.mem_of_getElem? (i := 227) (by decide +kernel), List.mem_of_getElem? (i := 228) (by decide +kernel)⟩
theorem lw_p1 : lw_okq (⟨"GraverCalculator$GraverBasis", "choosePivots", "(LGraverCalculator$State;)V"⟩, 14) := ⟨⟨by decide +kernel, by decide +kernel⟩, List.mem_of_getElem? (i := 103) (by decide +kernel), List.mem_of_getElem? (i := 235) (by decide +kernel), List.mem_of_getElem? (i := 236) (by decide +kernel)⟩
theorem lw_p2 : lw_okq (⟨"GraverCalculator$GraverBasis", "takePivot", "(III)V"⟩, 14) := ⟨⟨by decide +kernel, by decide +kernel⟩, List.mem_of_getElem? (i := 103) (by decide +kernel), List.mem_of_getElem? (i := 243) (by decide +kernel), List.mem_of_getElem? (i := 244) (by decide +kernel)⟩
theorem lw_p3 : lw_okq (⟨"GraverCalculator$GraverBasis", "takePivots", "(III)V"⟩, 14) := ⟨⟨by decide +kernel, by decide +kernel⟩, List.mem_of_getElem? (i := 103) (by decide +kernel), List.mem_of_getElem? (i := 252) (by decide +kernel), List.mem_of_getElem? (i := 253) (by decide +kernel)⟩
theorem lw_p4 : lw_okq (⟨"GraverCalculator$GraverBasis", "listFreeColumns", "()V"⟩, 14) := ⟨⟨by decide +kernel, by decide +kernel⟩, List.mem_of_getElem? (i := 103) (by decide +kernel), List.mem_of_getElem? (i := 256) (by decide +kernel), List.mem_of_getElem? (i := 257) (by decide +kernel)⟩
theorem lw_p5 : lw_okq (⟨"GraverCalculator$GraverBasis", "collectCandidates", "(LGraverCalculator$State;)V"⟩, 14) := ⟨⟨by decide +kernel, by decide +kernel⟩, List.mem_of_getElem? (i := 103) (by decide +kernel), List.mem_of_getElem? (i := 260) (by decide +kernel), List.mem_of_getElem? (i := 261) (by decide +kernel)⟩
theorem lw_p6 : lw_okq (⟨"GraverCalculator$GraverBasis", "setFreeColumns", "(II)V"⟩, 14) := ⟨⟨by decide +kernel, by decide +kernel⟩, List.mem_of_getElem? (i := 103) (by decide +kernel), List.mem_of_getElem? (i := 264) (by decide +kernel), List.mem_of_getElem? (i := 265) (by decide +kernel)⟩
theorem lw_p7 : lw_okq (⟨"GraverCalculator$GraverBasis", "solvePivots", "(LGraverCalculator$State;)Z"⟩, 14) := ⟨⟨by decide +kernel, by decide +kernel⟩, List.mem_of_getElem? (i := 103) (by decide +kernel), List.mem_of_getElem? (i := 268) (by decide +kernel), List.mem_of_getElem? (i := 269) (by decide +kernel)⟩
theorem lw_p8 : lw_okq (⟨"GraverCalculator$GraverBasis", "isWithinBound", "()Z"⟩, 14) := ⟨⟨by decide +kernel, by decide +kernel⟩, List.mem_of_getElem? (i := 103) (by decide +kernel), List.mem_of_getElem? (i := 276) (by decide +kernel), List.mem_of_getElem? (i := 277) (by decide +kernel)⟩
theorem lw_p9 : lw_okq (⟨"GraverCalculator$GraverBasis", "leads", "()Z"⟩, 14) := ⟨⟨by decide +kernel, by decide +kernel⟩, List.mem_of_getElem? (i := 103) (by decide +kernel), List.mem_of_getElem? (i := 283) (by decide +kernel), List.mem_of_getElem? (i := 284) (by decide +kernel)⟩
theorem lw_p10 : lw_okq (⟨"GraverCalculator$GraverBasis", "encode", "()I"⟩, 14) := ⟨⟨by decide +kernel, by decide +kernel⟩, List.mem_of_getElem? (i := 103) (by decide +kernel), List.mem_of_getElem? (i := 287) (by decide +kernel), List.mem_of_getElem? (i := 288) (by decide +kernel)⟩
theorem lw_p11 : lw_okq (⟨"GraverCalculator$GraverBasis", "insertCandidate", "(I)V"⟩, 14) := ⟨⟨by decide +kernel, by decide +kernel⟩, List.mem_of_getElem? (i := 103) (by decide +kernel), List.mem_of_getElem? (i := 291) (by decide +kernel), List.mem_of_getElem? (i := 292) (by decide +kernel)⟩
theorem lw_p12 : lw_okq (⟨"GraverCalculator$GraverBasis", "keepLeastCandidates", "()V"⟩, 14) := ⟨⟨by decide +kernel, by decide +kernel⟩, List.mem_of_getElem? (i := 103) (by decide +kernel), List.mem_of_getElem? (i := 295) (by decide +kernel), List.mem_of_getElem? (i := 296) (by decide +kernel)⟩
theorem lw_p13 : lw_okq (⟨"GraverCalculator$GraverBasis", "decode", "(I)V"⟩, 14) := ⟨⟨by decide +kernel, by decide +kernel⟩, List.mem_of_getElem? (i := 103) (by decide +kernel), List.mem_of_getElem? (i := 299) (by decide +kernel), List.mem_of_getElem? (i := 300) (by decide +kernel)⟩
theorem lw_p14 : lw_okq (⟨"GraverCalculator$GraverBasis", "isAboveAnElement", "()Z"⟩, 14) := ⟨⟨by decide +kernel, by decide +kernel⟩, List.mem_of_getElem? (i := 103) (by decide +kernel), List.mem_of_getElem? (i := 303) (by decide +kernel), List.mem_of_getElem? (i := 304) (by decide +kernel)⟩
theorem lw_p15 : lw_okq (⟨"GraverCalculator", "save", "()V"⟩, 10) := ⟨⟨by decide +kernel, by decide +kernel⟩, List.mem_of_getElem? (i := 14) (by decide +kernel), List.mem_of_getElem? (i := 357) (by decide +kernel), List.mem_of_getElem? (i := 358) (by decide +kernel)⟩
def lw_privs_1 : List (MethodName × Nat) := [(⟨"GraverCalculator", "takeNewMatrix", "()V"⟩, 10), (⟨"GraverCalculator$GraverBasis", "choosePivots", "(LGraverCalculator$State;)V"⟩, 14), (⟨"GraverCalculator$GraverBasis", "takePivot", "(III)V"⟩, 14), (⟨"GraverCalculator$GraverBasis", "takePivots", "(III)V"⟩, 14), (⟨"GraverCalculator$GraverBasis", "listFreeColumns", "()V"⟩, 14), (⟨"GraverCalculator$GraverBasis", "collectCandidates", "(LGraverCalculator$State;)V"⟩, 14), (⟨"GraverCalculator$GraverBasis", "setFreeColumns", "(II)V"⟩, 14), (⟨"GraverCalculator$GraverBasis", "solvePivots", "(LGraverCalculator$State;)Z"⟩, 14), (⟨"GraverCalculator$GraverBasis", "isWithinBound", "()Z"⟩, 14), (⟨"GraverCalculator$GraverBasis", "leads", "()Z"⟩, 14), (⟨"GraverCalculator$GraverBasis", "encode", "()I"⟩, 14), (⟨"GraverCalculator$GraverBasis", "insertCandidate", "(I)V"⟩, 14), (⟨"GraverCalculator$GraverBasis", "keepLeastCandidates", "()V"⟩, 14), (⟨"GraverCalculator$GraverBasis", "decode", "(I)V"⟩, 14), (⟨"GraverCalculator$GraverBasis", "isAboveAnElement", "()Z"⟩, 14), (⟨"GraverCalculator", "save", "()V"⟩, 10)]
theorem lw_r1 : ∀ q ∈ lw_privs_1, lw_okq q := List.forall_mem_cons.mpr ⟨lw_p0, List.forall_mem_cons.mpr ⟨lw_p1, List.forall_mem_cons.mpr ⟨lw_p2, List.forall_mem_cons.mpr ⟨lw_p3, List.forall_mem_cons.mpr ⟨lw_p4, List.forall_mem_cons.mpr ⟨lw_p5, List.forall_mem_cons.mpr ⟨lw_p6, List.forall_mem_cons.mpr ⟨lw_p7, List.forall_mem_cons.mpr ⟨lw_p8, List.forall_mem_cons.mpr ⟨lw_p9, List.forall_mem_cons.mpr ⟨lw_p10, List.forall_mem_cons.mpr ⟨lw_p11, List.forall_mem_cons.mpr ⟨lw_p12, List.forall_mem_cons.mpr ⟨lw_p13, List.forall_mem_cons.mpr ⟨lw_p14, List.forall_mem_cons.mpr ⟨lw_p15, fun _ h => absurd h List.not_mem_nil⟩⟩⟩⟩⟩⟩⟩⟩⟩⟩⟩⟩⟩⟩⟩⟩
theorem lw_p16 : lw_okq (⟨"GraverCalculator", "isRow", "(I)Z"⟩, 10) := ⟨⟨by decide +kernel, by decide +kernel⟩, List.mem_of_getElem? (i := 14) (by decide +kernel), List.mem_of_getElem? (i := 374) (by decide +kernel), List.mem_of_getElem? (i := 375) (by decide +kernel)⟩
theorem lw_p17 : lw_okq (⟨"GraverCalculator", "isColumn", "(I)Z"⟩, 10) := ⟨⟨by decide +kernel, by decide +kernel⟩, List.mem_of_getElem? (i := 14) (by decide +kernel), List.mem_of_getElem? (i := 378) (by decide +kernel), List.mem_of_getElem? (i := 379) (by decide +kernel)⟩
theorem lw_p18 : lw_okq (⟨"GraverCalculator$MatrixText", "takes", "(I)Z"⟩, 6) := ⟨⟨by decide +kernel, by decide +kernel⟩, List.mem_of_getElem? (i := 74) (by decide +kernel), List.mem_of_getElem? (i := 404) (by decide +kernel), List.mem_of_getElem? (i := 405) (by decide +kernel)⟩
theorem lw_p19 : lw_okq (⟨"GraverCalculator$MatrixText", "takesRowEnd", "()Z"⟩, 6) := ⟨⟨by decide +kernel, by decide +kernel⟩, List.mem_of_getElem? (i := 74) (by decide +kernel), List.mem_of_getElem? (i := 408) (by decide +kernel), List.mem_of_getElem? (i := 409) (by decide +kernel)⟩
theorem lw_p20 : lw_okq (⟨"GraverCalculator$MatrixText", "takesDigit", "(I)Z"⟩, 6) := ⟨⟨by decide +kernel, by decide +kernel⟩, List.mem_of_getElem? (i := 74) (by decide +kernel), List.mem_of_getElem? (i := 412) (by decide +kernel), List.mem_of_getElem? (i := 413) (by decide +kernel)⟩
theorem lw_p21 : lw_okq (⟨"GraverCalculator$MatrixText", "digitsNeeded", "()I"⟩, 6) := ⟨⟨by decide +kernel, by decide +kernel⟩, List.mem_of_getElem? (i := 74) (by decide +kernel), List.mem_of_getElem? (i := 416) (by decide +kernel), List.mem_of_getElem? (i := 417) (by decide +kernel)⟩
theorem lw_p22 : lw_okq (⟨"GraverCalculator", "isElement", "(I)Z"⟩, 10) := ⟨⟨by decide +kernel, by decide +kernel⟩, List.mem_of_getElem? (i := 14) (by decide +kernel), List.mem_of_getElem? (i := 451) (by decide +kernel), List.mem_of_getElem? (i := 452) (by decide +kernel)⟩
theorem lw_p23 : lw_okq (⟨"GraverCalculator$GraverBasis", "support", "(I)I"⟩, 14) := ⟨⟨by decide +kernel, by decide +kernel⟩, List.mem_of_getElem? (i := 103) (by decide +kernel), List.mem_of_getElem? (i := 464) (by decide +kernel), List.mem_of_getElem? (i := 465) (by decide +kernel)⟩
theorem lw_p24 : lw_okq (⟨"GraverCalculator", "buildElementFiber", "(I)V"⟩, 10) := ⟨⟨by decide +kernel, by decide +kernel⟩, List.mem_of_getElem? (i := 14) (by decide +kernel), List.mem_of_getElem? (i := 472) (by decide +kernel), List.mem_of_getElem? (i := 473) (by decide +kernel)⟩
theorem lw_p25 : lw_okq (⟨"GraverCalculator$Fiber", "takeColumns", "(LGraverCalculator$State;)V"⟩, 5) := ⟨⟨by decide +kernel, by decide +kernel⟩, List.mem_of_getElem? (i := 175) (by decide +kernel), List.mem_of_getElem? (i := 487) (by decide +kernel), List.mem_of_getElem? (i := 488) (by decide +kernel)⟩
theorem lw_p26 : lw_okq (⟨"GraverCalculator$Fiber", "most", "(III)I"⟩, 5) := ⟨⟨by decide +kernel, by decide +kernel⟩, List.mem_of_getElem? (i := 175) (by decide +kernel), List.mem_of_getElem? (i := 493) (by decide +kernel), List.mem_of_getElem? (i := 494) (by decide +kernel)⟩
theorem lw_p27 : lw_okq (⟨"GraverCalculator$Fiber", "addRows", "(III)V"⟩, 5) := ⟨⟨by decide +kernel, by decide +kernel⟩, List.mem_of_getElem? (i := 175) (by decide +kernel), List.mem_of_getElem? (i := 500) (by decide +kernel), List.mem_of_getElem? (i := 501) (by decide +kernel)⟩
theorem lw_p28 : lw_okq (⟨"GraverCalculator$Fiber", "addIfExact", "(III)V"⟩, 5) := ⟨⟨by decide +kernel, by decide +kernel⟩, List.mem_of_getElem? (i := 175) (by decide +kernel), List.mem_of_getElem? (i := 504) (by decide +kernel), List.mem_of_getElem? (i := 505) (by decide +kernel)⟩
theorem lw_p29 : lw_okq (⟨"GraverCalculator$Decomposition", "takeWhileConformal", "(LGraverCalculator$GraverBasis;II)V"⟩, 3) := ⟨⟨by decide +kernel, by decide +kernel⟩, List.mem_of_getElem? (i := 157) (by decide +kernel), List.mem_of_getElem? (i := 530) (by decide +kernel), List.mem_of_getElem? (i := 531) (by decide +kernel)⟩
theorem lw_p30 : lw_okq (⟨"GraverCalculator", "buildPointFiber", "()V"⟩, 10) := ⟨⟨by decide +kernel, by decide +kernel⟩, List.mem_of_getElem? (i := 14) (by decide +kernel), List.mem_of_getElem? (i := 548) (by decide +kernel), List.mem_of_getElem? (i := 549) (by decide +kernel)⟩
theorem lw_p31 : lw_okq (⟨"GraverCalculator$Walk", "forget", "(LGraverCalculator$Fiber;)V"⟩, 3) := ⟨⟨by decide +kernel, by decide +kernel⟩, List.mem_of_getElem? (i := 199) (by decide +kernel), List.mem_of_getElem? (i := 594) (by decide +kernel), List.mem_of_getElem? (i := 595) (by decide +kernel)⟩
def lw_privs_2 : List (MethodName × Nat) := [(⟨"GraverCalculator", "isRow", "(I)Z"⟩, 10), (⟨"GraverCalculator", "isColumn", "(I)Z"⟩, 10), (⟨"GraverCalculator$MatrixText", "takes", "(I)Z"⟩, 6), (⟨"GraverCalculator$MatrixText", "takesRowEnd", "()Z"⟩, 6), (⟨"GraverCalculator$MatrixText", "takesDigit", "(I)Z"⟩, 6), (⟨"GraverCalculator$MatrixText", "digitsNeeded", "()I"⟩, 6), (⟨"GraverCalculator", "isElement", "(I)Z"⟩, 10), (⟨"GraverCalculator$GraverBasis", "support", "(I)I"⟩, 14), (⟨"GraverCalculator", "buildElementFiber", "(I)V"⟩, 10), (⟨"GraverCalculator$Fiber", "takeColumns", "(LGraverCalculator$State;)V"⟩, 5), (⟨"GraverCalculator$Fiber", "most", "(III)I"⟩, 5), (⟨"GraverCalculator$Fiber", "addRows", "(III)V"⟩, 5), (⟨"GraverCalculator$Fiber", "addIfExact", "(III)V"⟩, 5), (⟨"GraverCalculator$Decomposition", "takeWhileConformal", "(LGraverCalculator$GraverBasis;II)V"⟩, 3), (⟨"GraverCalculator", "buildPointFiber", "()V"⟩, 10), (⟨"GraverCalculator$Walk", "forget", "(LGraverCalculator$Fiber;)V"⟩, 3)]
theorem lw_r2 : ∀ q ∈ lw_privs_2, lw_okq q := List.forall_mem_cons.mpr ⟨lw_p16, List.forall_mem_cons.mpr ⟨lw_p17, List.forall_mem_cons.mpr ⟨lw_p18, List.forall_mem_cons.mpr ⟨lw_p19, List.forall_mem_cons.mpr ⟨lw_p20, List.forall_mem_cons.mpr ⟨lw_p21, List.forall_mem_cons.mpr ⟨lw_p22, List.forall_mem_cons.mpr ⟨lw_p23, List.forall_mem_cons.mpr ⟨lw_p24, List.forall_mem_cons.mpr ⟨lw_p25, List.forall_mem_cons.mpr ⟨lw_p26, List.forall_mem_cons.mpr ⟨lw_p27, List.forall_mem_cons.mpr ⟨lw_p28, List.forall_mem_cons.mpr ⟨lw_p29, List.forall_mem_cons.mpr ⟨lw_p30, List.forall_mem_cons.mpr ⟨lw_p31, fun _ h => absurd h List.not_mem_nil⟩⟩⟩⟩⟩⟩⟩⟩⟩⟩⟩⟩⟩⟩⟩⟩
theorem lw_p32 : lw_okq (⟨"GraverCalculator$Walk", "reachFrom", "(ILGraverCalculator$Fiber;LGraverCalculator$GraverBasis;LGraverCalculator$State;)V"⟩, 3) := ⟨⟨by decide +kernel, by decide +kernel⟩, List.mem_of_getElem? (i := 199) (by decide +kernel), List.mem_of_getElem? (i := 598) (by decide +kernel), List.mem_of_getElem? (i := 599) (by decide +kernel)⟩
theorem lw_p33 : lw_okq (⟨"GraverCalculator$Walk", "reach", "(II)V"⟩, 3) := ⟨⟨by decide +kernel, by decide +kernel⟩, List.mem_of_getElem? (i := 199) (by decide +kernel), List.mem_of_getElem? (i := 602) (by decide +kernel), List.mem_of_getElem? (i := 603) (by decide +kernel)⟩
theorem lw_p34 : lw_okq (⟨"GraverCalculator$Fiber", "numberOfPacked", "(I)I"⟩, 5) := ⟨⟨by decide +kernel, by decide +kernel⟩, List.mem_of_getElem? (i := 175) (by decide +kernel), List.mem_of_getElem? (i := 613) (by decide +kernel), List.mem_of_getElem? (i := 614) (by decide +kernel)⟩
theorem lw_p35 : lw_okq (⟨"GraverCalculator", "isMarkovBasis", "()Z"⟩, 10) := ⟨⟨by decide +kernel, by decide +kernel⟩, List.mem_of_getElem? (i := 14) (by decide +kernel), List.mem_of_getElem? (i := 633) (by decide +kernel), List.mem_of_getElem? (i := 634) (by decide +kernel)⟩
theorem lw_p36 : lw_okq (⟨"GraverCalculator", "joinsItsParts", "(I)Z"⟩, 10) := ⟨⟨by decide +kernel, by decide +kernel⟩, List.mem_of_getElem? (i := 14) (by decide +kernel), List.mem_of_getElem? (i := 637) (by decide +kernel), List.mem_of_getElem? (i := 638) (by decide +kernel)⟩
theorem lw_p37 : lw_okq (⟨"GraverCalculator", "switchOffIfSpare", "(I)V"⟩, 10) := ⟨⟨by decide +kernel, by decide +kernel⟩, List.mem_of_getElem? (i := 14) (by decide +kernel), List.mem_of_getElem? (i := 645) (by decide +kernel), List.mem_of_getElem? (i := 646) (by decide +kernel)⟩
theorem lw_p38 : lw_okq (⟨"GraverCalculatorModel", "begin", "(II)V"⟩, 21) := ⟨⟨by decide +kernel, by decide +kernel⟩, List.mem_of_getElem? (i := 657) (by decide +kernel), List.mem_of_getElem? (i := 663) (by decide +kernel), List.mem_of_getElem? (i := 664) (by decide +kernel)⟩
theorem lw_p39 : lw_okq (⟨"GraverCalculatorModel", "changed", "()V"⟩, 21) := ⟨⟨by decide +kernel, by decide +kernel⟩, List.mem_of_getElem? (i := 657) (by decide +kernel), List.mem_of_getElem? (i := 667) (by decide +kernel), List.mem_of_getElem? (i := 668) (by decide +kernel)⟩
theorem lw_p40 : lw_okq (⟨"GraverCalculatorModel", "layBasis", "()V"⟩, 21) := ⟨⟨by decide +kernel, by decide +kernel⟩, List.mem_of_getElem? (i := 657) (by decide +kernel), List.mem_of_getElem? (i := 671) (by decide +kernel), List.mem_of_getElem? (i := 672) (by decide +kernel)⟩
theorem lw_p41 : lw_okq (⟨"GraverCalculatorModel", "rankOf", "()I"⟩, 21) := ⟨⟨by decide +kernel, by decide +kernel⟩, List.mem_of_getElem? (i := 657) (by decide +kernel), List.mem_of_getElem? (i := 675) (by decide +kernel), List.mem_of_getElem? (i := 676) (by decide +kernel)⟩
theorem lw_p42 : lw_okq (⟨"GraverCalculatorModel", "at", "(II)I"⟩, 21) := ⟨⟨by decide +kernel, by decide +kernel⟩, List.mem_of_getElem? (i := 657) (by decide +kernel), List.mem_of_getElem? (i := 679) (by decide +kernel), List.mem_of_getElem? (i := 680) (by decide +kernel)⟩
theorem lw_p43 : lw_okq (⟨"GraverCalculatorModel", "layKernel", "(I)V"⟩, 21) := ⟨⟨by decide +kernel, by decide +kernel⟩, List.mem_of_getElem? (i := 657) (by decide +kernel), List.mem_of_getElem? (i := 683) (by decide +kernel), List.mem_of_getElem? (i := 684) (by decide +kernel)⟩
theorem lw_p44 : lw_okq (⟨"GraverCalculatorModel", "lastEntry", "(I)I"⟩, 21) := ⟨⟨by decide +kernel, by decide +kernel⟩, List.mem_of_getElem? (i := 657) (by decide +kernel), List.mem_of_getElem? (i := 687) (by decide +kernel), List.mem_of_getElem? (i := 688) (by decide +kernel)⟩
theorem lw_p45 : lw_okq (⟨"GraverCalculatorModel", "product", "(I[III)I"⟩, 21) := ⟨⟨by decide +kernel, by decide +kernel⟩, List.mem_of_getElem? (i := 657) (by decide +kernel), List.mem_of_getElem? (i := 691) (by decide +kernel), List.mem_of_getElem? (i := 692) (by decide +kernel)⟩
theorem lw_p46 : lw_okq (⟨"GraverCalculatorModel", "isFirstPositive", "()Z"⟩, 21) := ⟨⟨by decide +kernel, by decide +kernel⟩, List.mem_of_getElem? (i := 657) (by decide +kernel), List.mem_of_getElem? (i := 698) (by decide +kernel), List.mem_of_getElem? (i := 699) (by decide +kernel)⟩
theorem lw_p47 : lw_okq (⟨"GraverCalculatorModel", "addKernel", "()V"⟩, 21) := ⟨⟨by decide +kernel, by decide +kernel⟩, List.mem_of_getElem? (i := 657) (by decide +kernel), List.mem_of_getElem? (i := 702) (by decide +kernel), List.mem_of_getElem? (i := 703) (by decide +kernel)⟩
def lw_privs_3 : List (MethodName × Nat) := [(⟨"GraverCalculator$Walk", "reachFrom", "(ILGraverCalculator$Fiber;LGraverCalculator$GraverBasis;LGraverCalculator$State;)V"⟩, 3), (⟨"GraverCalculator$Walk", "reach", "(II)V"⟩, 3), (⟨"GraverCalculator$Fiber", "numberOfPacked", "(I)I"⟩, 5), (⟨"GraverCalculator", "isMarkovBasis", "()Z"⟩, 10), (⟨"GraverCalculator", "joinsItsParts", "(I)Z"⟩, 10), (⟨"GraverCalculator", "switchOffIfSpare", "(I)V"⟩, 10), (⟨"GraverCalculatorModel", "begin", "(II)V"⟩, 21), (⟨"GraverCalculatorModel", "changed", "()V"⟩, 21), (⟨"GraverCalculatorModel", "layBasis", "()V"⟩, 21), (⟨"GraverCalculatorModel", "rankOf", "()I"⟩, 21), (⟨"GraverCalculatorModel", "at", "(II)I"⟩, 21), (⟨"GraverCalculatorModel", "layKernel", "(I)V"⟩, 21), (⟨"GraverCalculatorModel", "lastEntry", "(I)I"⟩, 21), (⟨"GraverCalculatorModel", "product", "(I[III)I"⟩, 21), (⟨"GraverCalculatorModel", "isFirstPositive", "()Z"⟩, 21), (⟨"GraverCalculatorModel", "addKernel", "()V"⟩, 21)]
theorem lw_r3 : ∀ q ∈ lw_privs_3, lw_okq q := List.forall_mem_cons.mpr ⟨lw_p32, List.forall_mem_cons.mpr ⟨lw_p33, List.forall_mem_cons.mpr ⟨lw_p34, List.forall_mem_cons.mpr ⟨lw_p35, List.forall_mem_cons.mpr ⟨lw_p36, List.forall_mem_cons.mpr ⟨lw_p37, List.forall_mem_cons.mpr ⟨lw_p38, List.forall_mem_cons.mpr ⟨lw_p39, List.forall_mem_cons.mpr ⟨lw_p40, List.forall_mem_cons.mpr ⟨lw_p41, List.forall_mem_cons.mpr ⟨lw_p42, List.forall_mem_cons.mpr ⟨lw_p43, List.forall_mem_cons.mpr ⟨lw_p44, List.forall_mem_cons.mpr ⟨lw_p45, List.forall_mem_cons.mpr ⟨lw_p46, List.forall_mem_cons.mpr ⟨lw_p47, fun _ h => absurd h List.not_mem_nil⟩⟩⟩⟩⟩⟩⟩⟩⟩⟩⟩⟩⟩⟩⟩⟩
theorem lw_p48 : lw_okq (⟨"GraverCalculatorModel", "isZeroColumn", "(I)Z"⟩, 21) := ⟨⟨by decide +kernel, by decide +kernel⟩, List.mem_of_getElem? (i := 657) (by decide +kernel), List.mem_of_getElem? (i := 706) (by decide +kernel), List.mem_of_getElem? (i := 707) (by decide +kernel)⟩
theorem lw_p49 : lw_okq (⟨"GraverCalculatorModel", "isLeast", "(I)Z"⟩, 21) := ⟨⟨by decide +kernel, by decide +kernel⟩, List.mem_of_getElem? (i := 657) (by decide +kernel), List.mem_of_getElem? (i := 713) (by decide +kernel), List.mem_of_getElem? (i := 714) (by decide +kernel)⟩
theorem lw_p50 : lw_okq (⟨"GraverCalculatorModel", "isConformal", "(II[II)Z"⟩, 21) := ⟨⟨by decide +kernel, by decide +kernel⟩, List.mem_of_getElem? (i := 657) (by decide +kernel), List.mem_of_getElem? (i := 717) (by decide +kernel), List.mem_of_getElem? (i := 718) (by decide +kernel)⟩
theorem lw_p51 : lw_okq (⟨"GraverCalculatorModel", "keep", "()V"⟩, 21) := ⟨⟨by decide +kernel, by decide +kernel⟩, List.mem_of_getElem? (i := 657) (by decide +kernel), List.mem_of_getElem? (i := 792) (by decide +kernel), List.mem_of_getElem? (i := 793) (by decide +kernel)⟩
theorem lw_p52 : lw_okq (⟨"GraverCalculatorModel", "isPlace", "(II)Z"⟩, 21) := ⟨⟨by decide +kernel, by decide +kernel⟩, List.mem_of_getElem? (i := 657) (by decide +kernel), List.mem_of_getElem? (i := 800) (by decide +kernel), List.mem_of_getElem? (i := 801) (by decide +kernel)⟩
theorem lw_p53 : lw_okq (⟨"GraverCalculatorModel", "isColumn", "(I)Z"⟩, 21) := ⟨⟨by decide +kernel, by decide +kernel⟩, List.mem_of_getElem? (i := 657) (by decide +kernel), List.mem_of_getElem? (i := 804) (by decide +kernel), List.mem_of_getElem? (i := 805) (by decide +kernel)⟩
theorem lw_p54 : lw_okq (⟨"GraverCalculatorModel", "readsText", "()I"⟩, 21) := ⟨⟨by decide +kernel, by decide +kernel⟩, List.mem_of_getElem? (i := 657) (by decide +kernel), List.mem_of_getElem? (i := 820) (by decide +kernel), List.mem_of_getElem? (i := 821) (by decide +kernel)⟩
theorem lw_p55 : lw_okq (⟨"GraverCalculatorModel", "readsCharacter", "(I)Z"⟩, 21) := ⟨⟨by decide +kernel, by decide +kernel⟩, List.mem_of_getElem? (i := 657) (by decide +kernel), List.mem_of_getElem? (i := 824) (by decide +kernel), List.mem_of_getElem? (i := 825) (by decide +kernel)⟩
theorem lw_p56 : lw_okq (⟨"GraverCalculatorModel", "isAllPositive", "()Z"⟩, 21) := ⟨⟨by decide +kernel, by decide +kernel⟩, List.mem_of_getElem? (i := 657) (by decide +kernel), List.mem_of_getElem? (i := 840) (by decide +kernel), List.mem_of_getElem? (i := 841) (by decide +kernel)⟩
theorem lw_p57 : lw_okq (⟨"GraverCalculatorModel", "isElement", "(I)Z"⟩, 21) := ⟨⟨by decide +kernel, by decide +kernel⟩, List.mem_of_getElem? (i := 657) (by decide +kernel), List.mem_of_getElem? (i := 852) (by decide +kernel), List.mem_of_getElem? (i := 853) (by decide +kernel)⟩
theorem lw_p58 : lw_okq (⟨"GraverCalculatorModel", "support", "(I)I"⟩, 21) := ⟨⟨by decide +kernel, by decide +kernel⟩, List.mem_of_getElem? (i := 657) (by decide +kernel), List.mem_of_getElem? (i := 860) (by decide +kernel), List.mem_of_getElem? (i := 861) (by decide +kernel)⟩
theorem lw_p59 : lw_okq (⟨"GraverCalculatorModel", "setGoal", "(II)V"⟩, 21) := ⟨⟨by decide +kernel, by decide +kernel⟩, List.mem_of_getElem? (i := 657) (by decide +kernel), List.mem_of_getElem? (i := 868) (by decide +kernel), List.mem_of_getElem? (i := 869) (by decide +kernel)⟩
theorem lw_p60 : lw_okq (⟨"GraverCalculatorModel", "layFiber", "()V"⟩, 21) := ⟨⟨by decide +kernel, by decide +kernel⟩, List.mem_of_getElem? (i := 657) (by decide +kernel), List.mem_of_getElem? (i := 872) (by decide +kernel), List.mem_of_getElem? (i := 873) (by decide +kernel)⟩
theorem lw_p61 : lw_okq (⟨"GraverCalculatorModel", "addFiber", "()V"⟩, 21) := ⟨⟨by decide +kernel, by decide +kernel⟩, List.mem_of_getElem? (i := 657) (by decide +kernel), List.mem_of_getElem? (i := 876) (by decide +kernel), List.mem_of_getElem? (i := 877) (by decide +kernel)⟩
theorem lw_p62 : lw_okq (⟨"GraverCalculatorModel", "isKernelVector", "()Z"⟩, 21) := ⟨⟨by decide +kernel, by decide +kernel⟩, List.mem_of_getElem? (i := 657) (by decide +kernel), List.mem_of_getElem? (i := 888) (by decide +kernel), List.mem_of_getElem? (i := 889) (by decide +kernel)⟩
theorem lw_p63 : lw_okq (⟨"GraverCalculatorModel", "decompose", "(I)I"⟩, 21) := ⟨⟨by decide +kernel, by decide +kernel⟩, List.mem_of_getElem? (i := 657) (by decide +kernel), List.mem_of_getElem? (i := 896) (by decide +kernel), List.mem_of_getElem? (i := 897) (by decide +kernel)⟩
def lw_privs_4 : List (MethodName × Nat) := [(⟨"GraverCalculatorModel", "isZeroColumn", "(I)Z"⟩, 21), (⟨"GraverCalculatorModel", "isLeast", "(I)Z"⟩, 21), (⟨"GraverCalculatorModel", "isConformal", "(II[II)Z"⟩, 21), (⟨"GraverCalculatorModel", "keep", "()V"⟩, 21), (⟨"GraverCalculatorModel", "isPlace", "(II)Z"⟩, 21), (⟨"GraverCalculatorModel", "isColumn", "(I)Z"⟩, 21), (⟨"GraverCalculatorModel", "readsText", "()I"⟩, 21), (⟨"GraverCalculatorModel", "readsCharacter", "(I)Z"⟩, 21), (⟨"GraverCalculatorModel", "isAllPositive", "()Z"⟩, 21), (⟨"GraverCalculatorModel", "isElement", "(I)Z"⟩, 21), (⟨"GraverCalculatorModel", "support", "(I)I"⟩, 21), (⟨"GraverCalculatorModel", "setGoal", "(II)V"⟩, 21), (⟨"GraverCalculatorModel", "layFiber", "()V"⟩, 21), (⟨"GraverCalculatorModel", "addFiber", "()V"⟩, 21), (⟨"GraverCalculatorModel", "isKernelVector", "()Z"⟩, 21), (⟨"GraverCalculatorModel", "decompose", "(I)I"⟩, 21)]
theorem lw_r4 : ∀ q ∈ lw_privs_4, lw_okq q := List.forall_mem_cons.mpr ⟨lw_p48, List.forall_mem_cons.mpr ⟨lw_p49, List.forall_mem_cons.mpr ⟨lw_p50, List.forall_mem_cons.mpr ⟨lw_p51, List.forall_mem_cons.mpr ⟨lw_p52, List.forall_mem_cons.mpr ⟨lw_p53, List.forall_mem_cons.mpr ⟨lw_p54, List.forall_mem_cons.mpr ⟨lw_p55, List.forall_mem_cons.mpr ⟨lw_p56, List.forall_mem_cons.mpr ⟨lw_p57, List.forall_mem_cons.mpr ⟨lw_p58, List.forall_mem_cons.mpr ⟨lw_p59, List.forall_mem_cons.mpr ⟨lw_p60, List.forall_mem_cons.mpr ⟨lw_p61, List.forall_mem_cons.mpr ⟨lw_p62, List.forall_mem_cons.mpr ⟨lw_p63, fun _ h => absurd h List.not_mem_nil⟩⟩⟩⟩⟩⟩⟩⟩⟩⟩⟩⟩⟩⟩⟩⟩
theorem lw_p64 : lw_okq (⟨"GraverCalculatorModel", "firstConformal", "()I"⟩, 21) := ⟨⟨by decide +kernel, by decide +kernel⟩, List.mem_of_getElem? (i := 657) (by decide +kernel), List.mem_of_getElem? (i := 900) (by decide +kernel), List.mem_of_getElem? (i := 901) (by decide +kernel)⟩
theorem lw_p65 : lw_okq (⟨"GraverCalculatorModel", "layFiberOfPoint", "()V"⟩, 21) := ⟨⟨by decide +kernel, by decide +kernel⟩, List.mem_of_getElem? (i := 657) (by decide +kernel), List.mem_of_getElem? (i := 916) (by decide +kernel), List.mem_of_getElem? (i := 917) (by decide +kernel)⟩
theorem lw_p66 : lw_okq (⟨"GraverCalculatorModel", "setGoalToPoint", "()V"⟩, 21) := ⟨⟨by decide +kernel, by decide +kernel⟩, List.mem_of_getElem? (i := 657) (by decide +kernel), List.mem_of_getElem? (i := 920) (by decide +kernel), List.mem_of_getElem? (i := 921) (by decide +kernel)⟩
theorem lw_p67 : lw_okq (⟨"GraverCalculatorModel", "activeCount", "()I"⟩, 21) := ⟨⟨by decide +kernel, by decide +kernel⟩, List.mem_of_getElem? (i := 657) (by decide +kernel), List.mem_of_getElem? (i := 932) (by decide +kernel), List.mem_of_getElem? (i := 933) (by decide +kernel)⟩
theorem lw_p68 : lw_okq (⟨"GraverCalculatorModel", "clearFar", "()V"⟩, 21) := ⟨⟨by decide +kernel, by decide +kernel⟩, List.mem_of_getElem? (i := 657) (by decide +kernel), List.mem_of_getElem? (i := 944) (by decide +kernel), List.mem_of_getElem? (i := 945) (by decide +kernel)⟩
theorem lw_p69 : lw_okq (⟨"GraverCalculatorModel", "search", "(I)V"⟩, 21) := ⟨⟨by decide +kernel, by decide +kernel⟩, List.mem_of_getElem? (i := 657) (by decide +kernel), List.mem_of_getElem? (i := 948) (by decide +kernel), List.mem_of_getElem? (i := 949) (by decide +kernel)⟩
theorem lw_p70 : lw_okq (⟨"GraverCalculatorModel", "stepFrom", "(III)I"⟩, 21) := ⟨⟨by decide +kernel, by decide +kernel⟩, List.mem_of_getElem? (i := 657) (by decide +kernel), List.mem_of_getElem? (i := 952) (by decide +kernel), List.mem_of_getElem? (i := 953) (by decide +kernel)⟩
theorem lw_p71 : lw_okq (⟨"GraverCalculatorModel", "numberOf", "()I"⟩, 21) := ⟨⟨by decide +kernel, by decide +kernel⟩, List.mem_of_getElem? (i := 657) (by decide +kernel), List.mem_of_getElem? (i := 956) (by decide +kernel), List.mem_of_getElem? (i := 957) (by decide +kernel)⟩
theorem lw_p72 : lw_okq (⟨"GraverCalculatorModel", "compare", "(I)I"⟩, 21) := ⟨⟨by decide +kernel, by decide +kernel⟩, List.mem_of_getElem? (i := 657) (by decide +kernel), List.mem_of_getElem? (i := 960) (by decide +kernel), List.mem_of_getElem? (i := 961) (by decide +kernel)⟩
theorem lw_p73 : lw_okq (⟨"GraverCalculatorModel", "numberOfGoal", "()I"⟩, 21) := ⟨⟨by decide +kernel, by decide +kernel⟩, List.mem_of_getElem? (i := 657) (by decide +kernel), List.mem_of_getElem? (i := 968) (by decide +kernel), List.mem_of_getElem? (i := 969) (by decide +kernel)⟩
theorem lw_p74 : lw_okq (⟨"GraverCalculatorModel", "areConnected", "()Z"⟩, 21) := ⟨⟨by decide +kernel, by decide +kernel⟩, List.mem_of_getElem? (i := 657) (by decide +kernel), List.mem_of_getElem? (i := 976) (by decide +kernel), List.mem_of_getElem? (i := 977) (by decide +kernel)⟩
def lw_privs_5 : List (MethodName × Nat) := [(⟨"GraverCalculatorModel", "firstConformal", "()I"⟩, 21), (⟨"GraverCalculatorModel", "layFiberOfPoint", "()V"⟩, 21), (⟨"GraverCalculatorModel", "setGoalToPoint", "()V"⟩, 21), (⟨"GraverCalculatorModel", "activeCount", "()I"⟩, 21), (⟨"GraverCalculatorModel", "clearFar", "()V"⟩, 21), (⟨"GraverCalculatorModel", "search", "(I)V"⟩, 21), (⟨"GraverCalculatorModel", "stepFrom", "(III)I"⟩, 21), (⟨"GraverCalculatorModel", "numberOf", "()I"⟩, 21), (⟨"GraverCalculatorModel", "compare", "(I)I"⟩, 21), (⟨"GraverCalculatorModel", "numberOfGoal", "()I"⟩, 21), (⟨"GraverCalculatorModel", "areConnected", "()Z"⟩, 21)]
theorem lw_r5 : ∀ q ∈ lw_privs_5, lw_okq q := List.forall_mem_cons.mpr ⟨lw_p64, List.forall_mem_cons.mpr ⟨lw_p65, List.forall_mem_cons.mpr ⟨lw_p66, List.forall_mem_cons.mpr ⟨lw_p67, List.forall_mem_cons.mpr ⟨lw_p68, List.forall_mem_cons.mpr ⟨lw_p69, List.forall_mem_cons.mpr ⟨lw_p70, List.forall_mem_cons.mpr ⟨lw_p71, List.forall_mem_cons.mpr ⟨lw_p72, List.forall_mem_cons.mpr ⟨lw_p73, List.forall_mem_cons.mpr ⟨lw_p74, fun _ h => absurd h List.not_mem_nil⟩⟩⟩⟩⟩⟩⟩⟩⟩⟩⟩
def lw_privs : List (MethodName × Nat) := lw_privs_1 ++ (lw_privs_2 ++ (lw_privs_3 ++ (lw_privs_4 ++ (lw_privs_5))))
def lw_tbl : List Cond := k2_sels lw_privs ++ tables_1
theorem lw_privs_ok : ∀ q ∈ lw_privs, lw_okq q := by
  show ∀ q ∈ lw_privs_1 ++ (lw_privs_2 ++ (lw_privs_3 ++ (lw_privs_4 ++ (lw_privs_5)))), lw_okq q
  exact List.forall_mem_append.mpr ⟨lw_r1, List.forall_mem_append.mpr ⟨lw_r2, List.forall_mem_append.mpr ⟨lw_r3, List.forall_mem_append.mpr ⟨lw_r4, lw_r5⟩⟩⟩⟩
def RX0 : String := "GraverCalculator$Decomposition"
def TX0 : u_T := fun k => match k with
  | 0 => ("GraverCalculator$Decomposition", "length", "I", false)
  | 1 => ("GraverCalculator$Decomposition", "sequence", "[I", true)
  | _ => ("GraverCalculator$Decomposition", "rest", "[I", true)
def tyX0 : Nat → FieldType := fun k => match k with
  | 0 => .int
  | 1 => .array .int
  | _ => .array .int
abbrev wsX00 : List Cond := u_ws RX0 TX0 3
theorem nmX0 : ∀ a, a < 3 → ∀ b, b < 3 → a ≠ b → (TX0 a).2.1 ≠ (TX0 b).2.1 := by decide +kernel
theorem tyX0_ok : ∀ k, k < 3 → parseFieldDescriptor (TX0 k).2.2.1 = some (tyX0 k) := by decide +kernel
abbrev cX0_init : ByteArray := prog_2_method_1_code
def yX0_init : MethodName := ⟨RX0, "<init>", "()V"⟩
abbrev cX0_find : ByteArray := prog_2_method_2_code
def yX0_find : MethodName := ⟨RX0, "find", "(LGraverCalculator$GraverBasis;[I)V"⟩
abbrev cX0_takeWhileConformal : ByteArray := prog_2_method_3_code
def yX0_takeWhileConformal : MethodName := ⟨RX0, "takeWhileConformal", "(LGraverCalculator$GraverBasis;II)V"⟩
def RX1 : String := "GraverCalculator$Fiber"
def TX1 : u_T := fun k => match k with
  | 0 => ("GraverCalculator$Fiber", "size", "I", false)
  | 1 => ("GraverCalculator$Fiber", "columns", "I", false)
  | 2 => ("GraverCalculator$Fiber", "packed", "[I", true)
  | 3 => ("GraverCalculator$Fiber", "upper", "[I", true)
  | _ => ("GraverCalculator$Fiber", "lower", "[I", true)
def tyX1 : Nat → FieldType := fun k => match k with
  | 0 => .int
  | 1 => .int
  | 2 => .array .int
  | 3 => .array .int
  | _ => .array .int
abbrev wsX10 : List Cond := u_ws RX1 TX1 5
theorem nmX1 : ∀ a, a < 5 → ∀ b, b < 5 → a ≠ b → (TX1 a).2.1 ≠ (TX1 b).2.1 := by decide +kernel
theorem tyX1_ok : ∀ k, k < 5 → parseFieldDescriptor (TX1 k).2.2.1 = some (tyX1 k) := by decide +kernel
abbrev cX1_init : ByteArray := prog_3_method_1_code
def yX1_init : MethodName := ⟨RX1, "<init>", "(I)V"⟩
abbrev cX1_build : ByteArray := prog_3_method_2_code
def yX1_build : MethodName := ⟨RX1, "build", "(LGraverCalculator$State;[I)V"⟩
abbrev cX1_at : ByteArray := prog_3_method_3_code
def yX1_at : MethodName := ⟨RX1, "at", "(II)I"⟩
abbrev cX1_numberOf : ByteArray := prog_3_method_4_code
def yX1_numberOf : MethodName := ⟨RX1, "numberOf", "([I)I"⟩
abbrev cX1_numberOfPacked : ByteArray := prog_3_method_5_code
def yX1_numberOfPacked : MethodName := ⟨RX1, "numberOfPacked", "(I)I"⟩
abbrev cX1_numberAfterStep : ByteArray := prog_3_method_6_code
def yX1_numberAfterStep : MethodName := ⟨RX1, "numberAfterStep", "(ILGraverCalculator$GraverBasis;II)I"⟩
abbrev cX1_takeColumns : ByteArray := prog_3_method_7_code
def yX1_takeColumns : MethodName := ⟨RX1, "takeColumns", "(LGraverCalculator$State;)V"⟩
abbrev cX1_most : ByteArray := prog_3_method_8_code
def yX1_most : MethodName := ⟨RX1, "most", "(III)I"⟩
abbrev cX1_addRows : ByteArray := prog_3_method_9_code
def yX1_addRows : MethodName := ⟨RX1, "addRows", "(III)V"⟩
abbrev cX1_addIfExact : ByteArray := prog_3_method_10_code
def yX1_addIfExact : MethodName := ⟨RX1, "addIfExact", "(III)V"⟩
def RX2 : String := "GraverCalculator$GraverBasis"
def TX2 : u_T := fun k => match k with
  | 0 => ("GraverCalculator$GraverBasis", "count", "I", false)
  | 1 => ("GraverCalculator$GraverBasis", "rankOfMatrix", "I", false)
  | 2 => ("GraverCalculator$GraverBasis", "entries", "[I", true)
  | 3 => ("GraverCalculator$GraverBasis", "columns", "I", false)
  | 4 => ("GraverCalculator$GraverBasis", "bound", "I", false)
  | 5 => ("GraverCalculator$GraverBasis", "firstPivot", "I", false)
  | 6 => ("GraverCalculator$GraverBasis", "secondPivot", "I", false)
  | 7 => ("GraverCalculator$GraverBasis", "pivotRow", "I", false)
  | 8 => ("GraverCalculator$GraverBasis", "divisor", "I", false)
  | 9 => ("GraverCalculator$GraverBasis", "freeCount", "I", false)
  | 10 => ("GraverCalculator$GraverBasis", "freeColumns", "[I", true)
  | 11 => ("GraverCalculator$GraverBasis", "vector", "[I", true)
  | 12 => ("GraverCalculator$GraverBasis", "candidates", "[I", true)
  | _ => ("GraverCalculator$GraverBasis", "candidateCount", "I", false)
def tyX2 : Nat → FieldType := fun k => match k with
  | 0 => .int
  | 1 => .int
  | 2 => .array .int
  | 3 => .int
  | 4 => .int
  | 5 => .int
  | 6 => .int
  | 7 => .int
  | 8 => .int
  | 9 => .int
  | 10 => .array .int
  | 11 => .array .int
  | 12 => .array .int
  | _ => .int
abbrev wsX20 : List Cond := u_ws RX2 TX2 14
theorem nmX2 : ∀ a, a < 14 → ∀ b, b < 14 → a ≠ b → (TX2 a).2.1 ≠ (TX2 b).2.1 := by decide +kernel
theorem tyX2_ok : ∀ k, k < 14 → parseFieldDescriptor (TX2 k).2.2.1 = some (tyX2 k) := by decide +kernel
abbrev cX2_init : ByteArray := prog_4_method_1_code
def yX2_init : MethodName := ⟨RX2, "<init>", "()V"⟩
abbrev cX2_build : ByteArray := prog_4_method_2_code
def yX2_build : MethodName := ⟨RX2, "build", "(LGraverCalculator$State;)V"⟩
abbrev cX2_at : ByteArray := prog_4_method_3_code
def yX2_at : MethodName := ⟨RX2, "at", "(II)I"⟩
abbrev cX2_conforms : ByteArray := prog_4_method_4_code
def yX2_conforms : MethodName := ⟨RX2, "conforms", "(II[I)Z"⟩
abbrev cX2_hasLeastSupport : ByteArray := prog_4_method_5_code
def yX2_hasLeastSupport : MethodName := ⟨RX2, "hasLeastSupport", "(I)Z"⟩
abbrev cX2_copyPart : ByteArray := prog_4_method_6_code
def yX2_copyPart : MethodName := ⟨RX2, "copyPart", "(II[I)V"⟩
abbrev cX2_support : ByteArray := prog_4_method_7_code
def yX2_support : MethodName := ⟨RX2, "support", "(I)I"⟩
abbrev cX2_choosePivots : ByteArray := prog_4_method_8_code
def yX2_choosePivots : MethodName := ⟨RX2, "choosePivots", "(LGraverCalculator$State;)V"⟩
abbrev cX2_takePivot : ByteArray := prog_4_method_9_code
def yX2_takePivot : MethodName := ⟨RX2, "takePivot", "(III)V"⟩
abbrev cX2_takePivots : ByteArray := prog_4_method_10_code
def yX2_takePivots : MethodName := ⟨RX2, "takePivots", "(III)V"⟩
abbrev cX2_listFreeColumns : ByteArray := prog_4_method_11_code
def yX2_listFreeColumns : MethodName := ⟨RX2, "listFreeColumns", "()V"⟩
abbrev cX2_collectCandidates : ByteArray := prog_4_method_12_code
def yX2_collectCandidates : MethodName := ⟨RX2, "collectCandidates", "(LGraverCalculator$State;)V"⟩
abbrev cX2_setFreeColumns : ByteArray := prog_4_method_13_code
def yX2_setFreeColumns : MethodName := ⟨RX2, "setFreeColumns", "(II)V"⟩
abbrev cX2_solvePivots : ByteArray := prog_4_method_14_code
def yX2_solvePivots : MethodName := ⟨RX2, "solvePivots", "(LGraverCalculator$State;)Z"⟩
abbrev cX2_isWithinBound : ByteArray := prog_4_method_15_code
def yX2_isWithinBound : MethodName := ⟨RX2, "isWithinBound", "()Z"⟩
abbrev cX2_leads : ByteArray := prog_4_method_16_code
def yX2_leads : MethodName := ⟨RX2, "leads", "()Z"⟩
abbrev cX2_encode : ByteArray := prog_4_method_17_code
def yX2_encode : MethodName := ⟨RX2, "encode", "()I"⟩
abbrev cX2_decode : ByteArray := prog_4_method_18_code
def yX2_decode : MethodName := ⟨RX2, "decode", "(I)V"⟩
abbrev cX2_insertCandidate : ByteArray := prog_4_method_19_code
def yX2_insertCandidate : MethodName := ⟨RX2, "insertCandidate", "(I)V"⟩
abbrev cX2_keepLeastCandidates : ByteArray := prog_4_method_20_code
def yX2_keepLeastCandidates : MethodName := ⟨RX2, "keepLeastCandidates", "()V"⟩
abbrev cX2_isAboveAnElement : ByteArray := prog_4_method_21_code
def yX2_isAboveAnElement : MethodName := ⟨RX2, "isAboveAnElement", "()Z"⟩
def RX3 : String := "GraverCalculator$History"
def TX3 : u_T := fun k => match k with
  | 0 => ("GraverCalculator$History", "count", "I", false)
  | 1 => ("GraverCalculator$History", "oldest", "I", false)
  | _ => ("GraverCalculator$History", "saved", "[LGraverCalculator$State;", true)
def tyX3 : Nat → FieldType := fun k => match k with
  | 0 => .int
  | 1 => .int
  | _ => .array (.object "GraverCalculator$State")
abbrev wsX30 : List Cond := u_ws RX3 TX3 3
theorem nmX3 : ∀ a, a < 3 → ∀ b, b < 3 → a ≠ b → (TX3 a).2.1 ≠ (TX3 b).2.1 := by decide +kernel
theorem tyX3_ok : ∀ k, k < 3 → parseFieldDescriptor (TX3 k).2.2.1 = some (tyX3 k) := by decide +kernel
abbrev cX3_init : ByteArray := prog_5_method_1_code
def yX3_init : MethodName := ⟨RX3, "<init>", "()V"⟩
abbrev cX3_save : ByteArray := prog_5_method_2_code
def yX3_save : MethodName := ⟨RX3, "save", "(LGraverCalculator$State;)V"⟩
abbrev cX3_restore : ByteArray := prog_5_method_3_code
def yX3_restore : MethodName := ⟨RX3, "restore", "(LGraverCalculator$State;)V"⟩
def RX4 : String := "GraverCalculator$MatrixText"
def TX4 : u_T := fun k => match k with
  | 0 => ("GraverCalculator$MatrixText", "length", "I", false)
  | 1 => ("GraverCalculator$MatrixText", "rows", "I", false)
  | 2 => ("GraverCalculator$MatrixText", "columns", "I", false)
  | 3 => ("GraverCalculator$MatrixText", "digits", "[I", true)
  | 4 => ("GraverCalculator$MatrixText", "characters", "[I", true)
  | _ => ("GraverCalculator$MatrixText", "digitsInRow", "I", false)
def tyX4 : Nat → FieldType := fun k => match k with
  | 0 => .int
  | 1 => .int
  | 2 => .int
  | 3 => .array .int
  | 4 => .array .int
  | _ => .int
abbrev wsX40 : List Cond := u_ws RX4 TX4 6
theorem nmX4 : ∀ a, a < 6 → ∀ b, b < 6 → a ≠ b → (TX4 a).2.1 ≠ (TX4 b).2.1 := by decide +kernel
theorem tyX4_ok : ∀ k, k < 6 → parseFieldDescriptor (TX4 k).2.2.1 = some (tyX4 k) := by decide +kernel
abbrev cX4_init : ByteArray := prog_6_method_1_code
def yX4_init : MethodName := ⟨RX4, "<init>", "()V"⟩
abbrev cX4_add : ByteArray := prog_6_method_2_code
def yX4_add : MethodName := ⟨RX4, "add", "(I)V"⟩
abbrev cX4_findError : ByteArray := prog_6_method_3_code
def yX4_findError : MethodName := ⟨RX4, "findError", "()I"⟩
abbrev cX4_digitsNeeded : ByteArray := prog_6_method_4_code
def yX4_digitsNeeded : MethodName := ⟨RX4, "digitsNeeded", "()I"⟩
abbrev cX4_takes : ByteArray := prog_6_method_5_code
def yX4_takes : MethodName := ⟨RX4, "takes", "(I)Z"⟩
abbrev cX4_takesRowEnd : ByteArray := prog_6_method_6_code
def yX4_takesRowEnd : MethodName := ⟨RX4, "takesRowEnd", "()Z"⟩
abbrev cX4_takesDigit : ByteArray := prog_6_method_7_code
def yX4_takesDigit : MethodName := ⟨RX4, "takesDigit", "(I)Z"⟩
def RX5 : String := "GraverCalculator$State"
def TX5 : u_T := fun k => match k with
  | 0 => ("GraverCalculator$State", "rows", "I", false)
  | 1 => ("GraverCalculator$State", "columns", "I", false)
  | 2 => ("GraverCalculator$State", "matrix", "[I", true)
  | 3 => ("GraverCalculator$State", "vector", "[I", true)
  | 4 => ("GraverCalculator$State", "point", "[I", true)
  | _ => ("GraverCalculator$State", "active", "I", false)
def tyX5 : Nat → FieldType := fun k => match k with
  | 0 => .int
  | 1 => .int
  | 2 => .array .int
  | 3 => .array .int
  | 4 => .array .int
  | _ => .int
abbrev wsX50 : List Cond := u_ws RX5 TX5 6
theorem nmX5 : ∀ a, a < 6 → ∀ b, b < 6 → a ≠ b → (TX5 a).2.1 ≠ (TX5 b).2.1 := by decide +kernel
theorem tyX5_ok : ∀ k, k < 6 → parseFieldDescriptor (TX5 k).2.2.1 = some (tyX5 k) := by decide +kernel
abbrev cX5_init : ByteArray := prog_7_method_1_code
def yX5_init : MethodName := ⟨RX5, "<init>", "()V"⟩
abbrev cX5_at : ByteArray := prog_7_method_2_code
def yX5_at : MethodName := ⟨RX5, "at", "(II)I"⟩
abbrev cX5_put : ByteArray := prog_7_method_3_code
def yX5_put : MethodName := ⟨RX5, "put", "(III)V"⟩
abbrev cX5_reshape : ByteArray := prog_7_method_4_code
def yX5_reshape : MethodName := ⟨RX5, "reshape", "(II)V"⟩
abbrev cX5_fillWithOnes : ByteArray := prog_7_method_5_code
def yX5_fillWithOnes : MethodName := ⟨RX5, "fillWithOnes", "()V"⟩
abbrev cX5_fillFrom : ByteArray := prog_7_method_6_code
def yX5_fillFrom : MethodName := ⟨RX5, "fillFrom", "([I)V"⟩
abbrev cX5_product : ByteArray := prog_7_method_7_code
def yX5_product : MethodName := ⟨RX5, "product", "(I[I)I"⟩
abbrev cX5_minor : ByteArray := prog_7_method_8_code
def yX5_minor : MethodName := ⟨RX5, "minor", "(II)I"⟩
abbrev cX5_hasNoZeroColumn : ByteArray := prog_7_method_9_code
def yX5_hasNoZeroColumn : MethodName := ⟨RX5, "hasNoZeroColumn", "()Z"⟩
abbrev cX5_hasVectorInKernel : ByteArray := prog_7_method_10_code
def yX5_hasVectorInKernel : MethodName := ⟨RX5, "hasVectorInKernel", "()Z"⟩
abbrev cX5_isOn : ByteArray := prog_7_method_11_code
def yX5_isOn : MethodName := ⟨RX5, "isOn", "(I)Z"⟩
abbrev cX5_switchTo : ByteArray := prog_7_method_12_code
def yX5_switchTo : MethodName := ⟨RX5, "switchTo", "(IZ)V"⟩
abbrev cX5_switchAllOn : ByteArray := prog_7_method_13_code
def yX5_switchAllOn : MethodName := ⟨RX5, "switchAllOn", "(I)V"⟩
abbrev cX5_countOn : ByteArray := prog_7_method_14_code
def yX5_countOn : MethodName := ⟨RX5, "countOn", "()I"⟩
abbrev cX5_copyFrom : ByteArray := prog_7_method_15_code
def yX5_copyFrom : MethodName := ⟨RX5, "copyFrom", "(LGraverCalculator$State;)V"⟩
def RX6 : String := "GraverCalculator$Walk"
def TX6 : u_T := fun k => match k with
  | 0 => ("GraverCalculator$Walk", "queue", "[I", true)
  | 1 => ("GraverCalculator$Walk", "steps", "[I", true)
  | _ => ("GraverCalculator$Walk", "queued", "I", false)
def tyX6 : Nat → FieldType := fun k => match k with
  | 0 => .array .int
  | 1 => .array .int
  | _ => .int
abbrev wsX60 : List Cond := u_ws RX6 TX6 3
theorem nmX6 : ∀ a, a < 3 → ∀ b, b < 3 → a ≠ b → (TX6 a).2.1 ≠ (TX6 b).2.1 := by decide +kernel
theorem tyX6_ok : ∀ k, k < 3 → parseFieldDescriptor (TX6 k).2.2.1 = some (tyX6 k) := by decide +kernel
abbrev cX6_init : ByteArray := prog_8_method_1_code
def yX6_init : MethodName := ⟨RX6, "<init>", "()V"⟩
abbrev cX6_countClasses : ByteArray := prog_8_method_2_code
def yX6_countClasses : MethodName := ⟨RX6, "countClasses", "(LGraverCalculator$Fiber;LGraverCalculator$GraverBasis;LGraverCalculator$State;)I"⟩
abbrev cX6_countSteps : ByteArray := prog_8_method_3_code
def yX6_countSteps : MethodName := ⟨RX6, "countSteps", "(LGraverCalculator$Fiber;LGraverCalculator$GraverBasis;LGraverCalculator$State;II)I"⟩
abbrev cX6_forget : ByteArray := prog_8_method_4_code
def yX6_forget : MethodName := ⟨RX6, "forget", "(LGraverCalculator$Fiber;)V"⟩
abbrev cX6_reachFrom : ByteArray := prog_8_method_5_code
def yX6_reachFrom : MethodName := ⟨RX6, "reachFrom", "(ILGraverCalculator$Fiber;LGraverCalculator$GraverBasis;LGraverCalculator$State;)V"⟩
abbrev cX6_reach : ByteArray := prog_8_method_6_code
def yX6_reach : MethodName := ⟨RX6, "reach", "(II)V"⟩
def RX7 : String := "GraverCalculator"
def TX7 : u_T := fun k => match k with
  | 0 => ("GraverCalculator", "state", "LGraverCalculator$State;", true)
  | 1 => ("GraverCalculator", "history", "LGraverCalculator$History;", true)
  | 2 => ("GraverCalculator", "text", "LGraverCalculator$MatrixText;", true)
  | 3 => ("GraverCalculator", "basis", "LGraverCalculator$GraverBasis;", true)
  | 4 => ("GraverCalculator", "decomposition", "LGraverCalculator$Decomposition;", true)
  | 5 => ("GraverCalculator", "pointFiber", "LGraverCalculator$Fiber;", true)
  | 6 => ("GraverCalculator", "elementFiber", "LGraverCalculator$Fiber;", true)
  | 7 => ("GraverCalculator", "walk", "LGraverCalculator$Walk;", true)
  | 8 => ("GraverCalculator", "part", "[I", true)
  | _ => ("GraverCalculator", "pointFiberBuilt", "Z", false)
def tyX7 : Nat → FieldType := fun k => match k with
  | 0 => .object "GraverCalculator$State"
  | 1 => .object "GraverCalculator$History"
  | 2 => .object "GraverCalculator$MatrixText"
  | 3 => .object "GraverCalculator$GraverBasis"
  | 4 => .object "GraverCalculator$Decomposition"
  | 5 => .object "GraverCalculator$Fiber"
  | 6 => .object "GraverCalculator$Fiber"
  | 7 => .object "GraverCalculator$Walk"
  | 8 => .array .int
  | _ => .boolean
abbrev wsX70 : List Cond := u_ws RX7 TX7 10
theorem nmX7 : ∀ a, a < 10 → ∀ b, b < 10 → a ≠ b → (TX7 a).2.1 ≠ (TX7 b).2.1 := by decide +kernel
theorem tyX7_ok : ∀ k, k < 10 → parseFieldDescriptor (TX7 k).2.2.1 = some (tyX7 k) := by decide +kernel
abbrev cX7_init : ByteArray := prog_1_method_1_code
def yX7_init : MethodName := ⟨RX7, "<init>", "()V"⟩
abbrev cX7_configure : ByteArray := prog_1_method_2_code
def yX7_configure : MethodName := ⟨RX7, "configure", "(II)I"⟩
abbrev cX7_setEntry : ByteArray := prog_1_method_3_code
def yX7_setEntry : MethodName := ⟨RX7, "setEntry", "(III)I"⟩
abbrev cX7_append : ByteArray := prog_1_method_4_code
def yX7_append : MethodName := ⟨RX7, "append", "(I)I"⟩
abbrev cX7_clearText : ByteArray := prog_1_method_5_code
def yX7_clearText : MethodName := ⟨RX7, "clearText", "()I"⟩
abbrev cX7_loadText : ByteArray := prog_1_method_6_code
def yX7_loadText : MethodName := ⟨RX7, "loadText", "()I"⟩
abbrev cX7_entry : ByteArray := prog_1_method_7_code
def yX7_entry : MethodName := ⟨RX7, "entry", "(II)I"⟩
abbrev cX7_rank : ByteArray := prog_1_method_8_code
def yX7_rank : MethodName := ⟨RX7, "rank", "()I"⟩
abbrev cX7_isPositive : ByteArray := prog_1_method_9_code
def yX7_isPositive : MethodName := ⟨RX7, "isPositive", "()I"⟩
abbrev cX7_graverCount : ByteArray := prog_1_method_10_code
def yX7_graverCount : MethodName := ⟨RX7, "graverCount", "()I"⟩
abbrev cX7_graverEntry : ByteArray := prog_1_method_11_code
def yX7_graverEntry : MethodName := ⟨RX7, "graverEntry", "(II)I"⟩
abbrev cX7_isCircuit : ByteArray := prog_1_method_12_code
def yX7_isCircuit : MethodName := ⟨RX7, "isCircuit", "(I)I"⟩
abbrev cX7_isIndispensable : ByteArray := prog_1_method_13_code
def yX7_isIndispensable : MethodName := ⟨RX7, "isIndispensable", "(I)I"⟩
abbrev cX7_setVector : ByteArray := prog_1_method_14_code
def yX7_setVector : MethodName := ⟨RX7, "setVector", "(II)I"⟩
abbrev cX7_isInKernel : ByteArray := prog_1_method_15_code
def yX7_isInKernel : MethodName := ⟨RX7, "isInKernel", "()I"⟩
abbrev cX7_decompositionLength : ByteArray := prog_1_method_16_code
def yX7_decompositionLength : MethodName := ⟨RX7, "decompositionLength", "()I"⟩
abbrev cX7_decompositionStep : ByteArray := prog_1_method_17_code
def yX7_decompositionStep : MethodName := ⟨RX7, "decompositionStep", "(I)I"⟩
abbrev cX7_setPoint : ByteArray := prog_1_method_18_code
def yX7_setPoint : MethodName := ⟨RX7, "setPoint", "(II)I"⟩
abbrev cX7_fiberSize : ByteArray := prog_1_method_19_code
def yX7_fiberSize : MethodName := ⟨RX7, "fiberSize", "()I"⟩
abbrev cX7_fiberEntry : ByteArray := prog_1_method_20_code
def yX7_fiberEntry : MethodName := ⟨RX7, "fiberEntry", "(II)I"⟩
abbrev cX7_activate : ByteArray := prog_1_method_21_code
def yX7_activate : MethodName := ⟨RX7, "activate", "(II)I"⟩
abbrev cX7_isActive : ByteArray := prog_1_method_22_code
def yX7_isActive : MethodName := ⟨RX7, "isActive", "(I)I"⟩
abbrev cX7_classes : ByteArray := prog_1_method_23_code
def yX7_classes : MethodName := ⟨RX7, "classes", "()I"⟩
abbrev cX7_distance : ByteArray := prog_1_method_24_code
def yX7_distance : MethodName := ⟨RX7, "distance", "(I)I"⟩
abbrev cX7_isMarkov : ByteArray := prog_1_method_25_code
def yX7_isMarkov : MethodName := ⟨RX7, "isMarkov", "()I"⟩
abbrev cX7_reduce : ByteArray := prog_1_method_26_code
def yX7_reduce : MethodName := ⟨RX7, "reduce", "()I"⟩
abbrev cX7_undo : ByteArray := prog_1_method_27_code
def yX7_undo : MethodName := ⟨RX7, "undo", "()I"⟩
abbrev cX7_asNumber : ByteArray := prog_1_method_28_code
def yX7_asNumber : MethodName := ⟨RX7, "asNumber", "(Z)I"⟩
abbrev cX7_isRow : ByteArray := prog_1_method_29_code
def yX7_isRow : MethodName := ⟨RX7, "isRow", "(I)Z"⟩
abbrev cX7_isColumn : ByteArray := prog_1_method_30_code
def yX7_isColumn : MethodName := ⟨RX7, "isColumn", "(I)Z"⟩
abbrev cX7_isElement : ByteArray := prog_1_method_31_code
def yX7_isElement : MethodName := ⟨RX7, "isElement", "(I)Z"⟩
abbrev cX7_save : ByteArray := prog_1_method_32_code
def yX7_save : MethodName := ⟨RX7, "save", "()V"⟩
abbrev cX7_takeNewMatrix : ByteArray := prog_1_method_33_code
def yX7_takeNewMatrix : MethodName := ⟨RX7, "takeNewMatrix", "()V"⟩
abbrev cX7_buildPointFiber : ByteArray := prog_1_method_34_code
def yX7_buildPointFiber : MethodName := ⟨RX7, "buildPointFiber", "()V"⟩
abbrev cX7_buildElementFiber : ByteArray := prog_1_method_35_code
def yX7_buildElementFiber : MethodName := ⟨RX7, "buildElementFiber", "(I)V"⟩
abbrev cX7_isMarkovBasis : ByteArray := prog_1_method_36_code
def yX7_isMarkovBasis : MethodName := ⟨RX7, "isMarkovBasis", "()Z"⟩
abbrev cX7_switchOffIfSpare : ByteArray := prog_1_method_37_code
def yX7_switchOffIfSpare : MethodName := ⟨RX7, "switchOffIfSpare", "(I)V"⟩
abbrev cX7_joinsItsParts : ByteArray := prog_1_method_38_code
def yX7_joinsItsParts : MethodName := ⟨RX7, "joinsItsParts", "(I)Z"⟩
def RX8 : String := "GraverCalculatorModel"
def TX8 : u_T := fun k => match k with
  | 0 => ("GraverCalculatorModel", "now", "[I", true)
  | 1 => ("GraverCalculatorModel", "saved", "[I", true)
  | 2 => ("GraverCalculatorModel", "savedCount", "I", false)
  | 3 => ("GraverCalculatorModel", "text", "[I", true)
  | 4 => ("GraverCalculatorModel", "length", "I", false)
  | 5 => ("GraverCalculatorModel", "count", "I", false)
  | 6 => ("GraverCalculatorModel", "basis", "[I", true)
  | 7 => ("GraverCalculatorModel", "kernel", "[I", true)
  | 8 => ("GraverCalculatorModel", "kernelCount", "I", false)
  | 9 => ("GraverCalculatorModel", "z", "[I", true)
  | 10 => ("GraverCalculatorModel", "readRows", "I", false)
  | 11 => ("GraverCalculatorModel", "readMany", "[I", true)
  | 12 => ("GraverCalculatorModel", "readDigit", "[I", true)
  | 13 => ("GraverCalculatorModel", "fiber", "[I", true)
  | 14 => ("GraverCalculatorModel", "fiberCount", "I", false)
  | 15 => ("GraverCalculatorModel", "goal", "[I", true)
  | 16 => ("GraverCalculatorModel", "y", "[I", true)
  | 17 => ("GraverCalculatorModel", "far", "[I", true)
  | 18 => ("GraverCalculatorModel", "queue", "[I", true)
  | 19 => ("GraverCalculatorModel", "queued", "I", false)
  | _ => ("GraverCalculatorModel", "rest", "[I", true)
def tyX8 : Nat → FieldType := fun k => match k with
  | 0 => .array .int
  | 1 => .array .int
  | 2 => .int
  | 3 => .array .int
  | 4 => .int
  | 5 => .int
  | 6 => .array .int
  | 7 => .array .int
  | 8 => .int
  | 9 => .array .int
  | 10 => .int
  | 11 => .array .int
  | 12 => .array .int
  | 13 => .array .int
  | 14 => .int
  | 15 => .array .int
  | 16 => .array .int
  | 17 => .array .int
  | 18 => .array .int
  | 19 => .int
  | _ => .array .int
abbrev wsX80 : List Cond := u_ws RX8 TX8 21
theorem nmX8 : ∀ a, a < 21 → ∀ b, b < 21 → a ≠ b → (TX8 a).2.1 ≠ (TX8 b).2.1 := by decide +kernel
theorem tyX8_ok : ∀ k, k < 21 → parseFieldDescriptor (TX8 k).2.2.1 = some (tyX8 k) := by decide +kernel
abbrev cX8_init : ByteArray := prog_10_method_1_code
def yX8_init : MethodName := ⟨RX8, "<init>", "()V"⟩
abbrev cX8_in : ByteArray := prog_10_method_3_code
def yX8_in : MethodName := ⟨RX8, "in", "(III)Z"⟩
abbrev cX8_size : ByteArray := prog_10_method_4_code
def yX8_size : MethodName := ⟨RX8, "size", "(I)I"⟩
abbrev cX8_at : ByteArray := prog_10_method_5_code
def yX8_at : MethodName := ⟨RX8, "at", "(II)I"⟩
abbrev cX8_isColumn : ByteArray := prog_10_method_6_code
def yX8_isColumn : MethodName := ⟨RX8, "isColumn", "(I)Z"⟩
abbrev cX8_keep : ByteArray := prog_10_method_7_code
def yX8_keep : MethodName := ⟨RX8, "keep", "()V"⟩
abbrev cX8_begin : ByteArray := prog_10_method_8_code
def yX8_begin : MethodName := ⟨RX8, "begin", "(II)V"⟩
abbrev cX8_changed : ByteArray := prog_10_method_9_code
def yX8_changed : MethodName := ⟨RX8, "changed", "()V"⟩
abbrev cX8_rankOf : ByteArray := prog_10_method_10_code
def yX8_rankOf : MethodName := ⟨RX8, "rankOf", "()I"⟩
abbrev cX8_isZeroColumn : ByteArray := prog_10_method_11_code
def yX8_isZeroColumn : MethodName := ⟨RX8, "isZeroColumn", "(I)Z"⟩
abbrev cX8_product : ByteArray := prog_10_method_12_code
def yX8_product : MethodName := ⟨RX8, "product", "(I[III)I"⟩
abbrev cX8_lastEntry : ByteArray := prog_10_method_13_code
def yX8_lastEntry : MethodName := ⟨RX8, "lastEntry", "(I)I"⟩
abbrev cX8_isFirstPositive : ByteArray := prog_10_method_14_code
def yX8_isFirstPositive : MethodName := ⟨RX8, "isFirstPositive", "()Z"⟩
abbrev cX8_addKernel : ByteArray := prog_10_method_15_code
def yX8_addKernel : MethodName := ⟨RX8, "addKernel", "()V"⟩
abbrev cX8_layKernel : ByteArray := prog_10_method_16_code
def yX8_layKernel : MethodName := ⟨RX8, "layKernel", "(I)V"⟩
abbrev cX8_norm : ByteArray := prog_10_method_17_code
def yX8_norm : MethodName := ⟨RX8, "norm", "([II)I"⟩
abbrev cX8_isConformal : ByteArray := prog_10_method_18_code
def yX8_isConformal : MethodName := ⟨RX8, "isConformal", "(II[II)Z"⟩
abbrev cX8_layBasis : ByteArray := prog_10_method_19_code
def yX8_layBasis : MethodName := ⟨RX8, "layBasis", "()V"⟩
abbrev cX8_isLeast : ByteArray := prog_10_method_20_code
def yX8_isLeast : MethodName := ⟨RX8, "isLeast", "(I)Z"⟩
abbrev cX8_configure : ByteArray := prog_10_method_21_code
def yX8_configure : MethodName := ⟨RX8, "configure", "(II)I"⟩
abbrev cX8_isPlace : ByteArray := prog_10_method_22_code
def yX8_isPlace : MethodName := ⟨RX8, "isPlace", "(II)Z"⟩
abbrev cX8_setEntry : ByteArray := prog_10_method_23_code
def yX8_setEntry : MethodName := ⟨RX8, "setEntry", "(III)I"⟩
abbrev cX8_append : ByteArray := prog_10_method_24_code
def yX8_append : MethodName := ⟨RX8, "append", "(I)I"⟩
abbrev cX8_clearText : ByteArray := prog_10_method_25_code
def yX8_clearText : MethodName := ⟨RX8, "clearText", "()I"⟩
abbrev cX8_readsCharacter : ByteArray := prog_10_method_26_code
def yX8_readsCharacter : MethodName := ⟨RX8, "readsCharacter", "(I)Z"⟩
abbrev cX8_readsText : ByteArray := prog_10_method_27_code
def yX8_readsText : MethodName := ⟨RX8, "readsText", "()I"⟩
abbrev cX8_loadText : ByteArray := prog_10_method_28_code
def yX8_loadText : MethodName := ⟨RX8, "loadText", "()I"⟩
abbrev cX8_entry : ByteArray := prog_10_method_29_code
def yX8_entry : MethodName := ⟨RX8, "entry", "(II)I"⟩
abbrev cX8_rank : ByteArray := prog_10_method_30_code
def yX8_rank : MethodName := ⟨RX8, "rank", "()I"⟩
abbrev cX8_isAllPositive : ByteArray := prog_10_method_31_code
def yX8_isAllPositive : MethodName := ⟨RX8, "isAllPositive", "()Z"⟩
abbrev cX8_isPositive : ByteArray := prog_10_method_32_code
def yX8_isPositive : MethodName := ⟨RX8, "isPositive", "()I"⟩
abbrev cX8_isElement : ByteArray := prog_10_method_33_code
def yX8_isElement : MethodName := ⟨RX8, "isElement", "(I)Z"⟩
abbrev cX8_graverCount : ByteArray := prog_10_method_34_code
def yX8_graverCount : MethodName := ⟨RX8, "graverCount", "()I"⟩
abbrev cX8_graverEntry : ByteArray := prog_10_method_35_code
def yX8_graverEntry : MethodName := ⟨RX8, "graverEntry", "(II)I"⟩
abbrev cX8_support : ByteArray := prog_10_method_36_code
def yX8_support : MethodName := ⟨RX8, "support", "(I)I"⟩
abbrev cX8_isCircuit : ByteArray := prog_10_method_37_code
def yX8_isCircuit : MethodName := ⟨RX8, "isCircuit", "(I)I"⟩
abbrev cX8_setGoal : ByteArray := prog_10_method_38_code
def yX8_setGoal : MethodName := ⟨RX8, "setGoal", "(II)V"⟩
abbrev cX8_setGoalToPoint : ByteArray := prog_10_method_39_code
def yX8_setGoalToPoint : MethodName := ⟨RX8, "setGoalToPoint", "()V"⟩
abbrev cX8_addFiber : ByteArray := prog_10_method_40_code
def yX8_addFiber : MethodName := ⟨RX8, "addFiber", "()V"⟩
abbrev cX8_layFiber : ByteArray := prog_10_method_41_code
def yX8_layFiber : MethodName := ⟨RX8, "layFiber", "()V"⟩
abbrev cX8_compare : ByteArray := prog_10_method_42_code
def yX8_compare : MethodName := ⟨RX8, "compare", "(I)I"⟩
abbrev cX8_numberOf : ByteArray := prog_10_method_43_code
def yX8_numberOf : MethodName := ⟨RX8, "numberOf", "()I"⟩
abbrev cX8_numberOfGoal : ByteArray := prog_10_method_44_code
def yX8_numberOfGoal : MethodName := ⟨RX8, "numberOfGoal", "()I"⟩
abbrev cX8_clearFar : ByteArray := prog_10_method_45_code
def yX8_clearFar : MethodName := ⟨RX8, "clearFar", "()V"⟩
abbrev cX8_stepFrom : ByteArray := prog_10_method_46_code
def yX8_stepFrom : MethodName := ⟨RX8, "stepFrom", "(III)I"⟩
abbrev cX8_search : ByteArray := prog_10_method_47_code
def yX8_search : MethodName := ⟨RX8, "search", "(I)V"⟩
abbrev cX8_isIndispensable : ByteArray := prog_10_method_48_code
def yX8_isIndispensable : MethodName := ⟨RX8, "isIndispensable", "(I)I"⟩
abbrev cX8_setVector : ByteArray := prog_10_method_49_code
def yX8_setVector : MethodName := ⟨RX8, "setVector", "(II)I"⟩
abbrev cX8_isKernelVector : ByteArray := prog_10_method_50_code
def yX8_isKernelVector : MethodName := ⟨RX8, "isKernelVector", "()Z"⟩
abbrev cX8_isInKernel : ByteArray := prog_10_method_51_code
def yX8_isInKernel : MethodName := ⟨RX8, "isInKernel", "()I"⟩
abbrev cX8_firstConformal : ByteArray := prog_10_method_52_code
def yX8_firstConformal : MethodName := ⟨RX8, "firstConformal", "()I"⟩
abbrev cX8_decompose : ByteArray := prog_10_method_53_code
def yX8_decompose : MethodName := ⟨RX8, "decompose", "(I)I"⟩
abbrev cX8_decompositionLength : ByteArray := prog_10_method_54_code
def yX8_decompositionLength : MethodName := ⟨RX8, "decompositionLength", "()I"⟩
abbrev cX8_decompositionStep : ByteArray := prog_10_method_55_code
def yX8_decompositionStep : MethodName := ⟨RX8, "decompositionStep", "(I)I"⟩
abbrev cX8_setPoint : ByteArray := prog_10_method_56_code
def yX8_setPoint : MethodName := ⟨RX8, "setPoint", "(II)I"⟩
abbrev cX8_layFiberOfPoint : ByteArray := prog_10_method_57_code
def yX8_layFiberOfPoint : MethodName := ⟨RX8, "layFiberOfPoint", "()V"⟩
abbrev cX8_fiberSize : ByteArray := prog_10_method_58_code
def yX8_fiberSize : MethodName := ⟨RX8, "fiberSize", "()I"⟩
abbrev cX8_fiberEntry : ByteArray := prog_10_method_59_code
def yX8_fiberEntry : MethodName := ⟨RX8, "fiberEntry", "(II)I"⟩
abbrev cX8_activeCount : ByteArray := prog_10_method_60_code
def yX8_activeCount : MethodName := ⟨RX8, "activeCount", "()I"⟩
abbrev cX8_activate : ByteArray := prog_10_method_61_code
def yX8_activate : MethodName := ⟨RX8, "activate", "(II)I"⟩
abbrev cX8_isActive : ByteArray := prog_10_method_62_code
def yX8_isActive : MethodName := ⟨RX8, "isActive", "(I)I"⟩
abbrev cX8_classes : ByteArray := prog_10_method_63_code
def yX8_classes : MethodName := ⟨RX8, "classes", "()I"⟩
abbrev cX8_distance : ByteArray := prog_10_method_64_code
def yX8_distance : MethodName := ⟨RX8, "distance", "(I)I"⟩
abbrev cX8_areConnected : ByteArray := prog_10_method_65_code
def yX8_areConnected : MethodName := ⟨RX8, "areConnected", "()Z"⟩
abbrev cX8_isMarkov : ByteArray := prog_10_method_66_code
def yX8_isMarkov : MethodName := ⟨RX8, "isMarkov", "()I"⟩
abbrev cX8_reduce : ByteArray := prog_10_method_67_code
def yX8_reduce : MethodName := ⟨RX8, "reduce", "()I"⟩
abbrev cX8_undo : ByteArray := prog_10_method_68_code
def yX8_undo : MethodName := ⟨RX8, "undo", "()I"⟩
def RJ6 : String := "java/lang/Integer"
def TJ6 : u_T := fun k => match k with
  | _ => ("", "", "", false)
def tyJ6 : Nat → FieldType := fun k => match k with
  | _ => .int
abbrev wsJ60 : List Cond := u_ws RJ6 TJ6 0
theorem nmJ6 : ∀ a, a < 0 → ∀ b, b < 0 → a ≠ b → (TJ6 a).2.1 ≠ (TJ6 b).2.1 := by decide +kernel
theorem tyJ6_ok : ∀ k, k < 0 → parseFieldDescriptor (TJ6 k).2.2.1 = some (tyJ6 k) := by decide +kernel
abbrev cJ6_bitCount_0f7a4 : ByteArray := prog_11_method_49_code
def yJ6_bitCount_0f7a4 : MethodName := ⟨RJ6, "bitCount", "(I)I"⟩
def RJ9 : String := "java/lang/Math"
def TJ9 : u_T := fun k => match k with
  | _ => ("", "", "", false)
def tyJ9 : Nat → FieldType := fun k => match k with
  | _ => .int
abbrev wsJ90 : List Cond := u_ws RJ9 TJ9 0
theorem nmJ9 : ∀ a, a < 0 → ∀ b, b < 0 → a ≠ b → (TJ9 a).2.1 ≠ (TJ9 b).2.1 := by decide +kernel
theorem tyJ9_ok : ∀ k, k < 0 → parseFieldDescriptor (TJ9 k).2.2.1 = some (tyJ9 k) := by decide +kernel
abbrev cJ9_abs_0f7a4 : ByteArray := prog_12_method_59_code
def yJ9_abs_0f7a4 : MethodName := ⟨RJ9, "abs", "(I)I"⟩
abbrev cJ9_max_7cf53 : ByteArray := prog_12_method_65_code
def yJ9_max_7cf53 : MethodName := ⟨RJ9, "max", "(II)I"⟩
abbrev cJ9_min_7cf53 : ByteArray := prog_12_method_69_code
def yJ9_min_7cf53 : MethodName := ⟨RJ9, "min", "(II)I"⟩
def RJ10 : String := "java/lang/System"
def TJ10 : u_T := fun k => match k with
  | _ => ("", "", "", false)
def tyJ10 : Nat → FieldType := fun k => match k with
  | _ => .int
abbrev wsJ100 : List Cond := u_ws RJ10 TJ10 0
theorem nmJ10 : ∀ a, a < 0 → ∀ b, b < 0 → a ≠ b → (TJ10 a).2.1 ≠ (TJ10 b).2.1 := by decide +kernel
theorem tyJ10_ok : ∀ k, k < 0 → parseFieldDescriptor (TJ10 k).2.2.1 = some (tyJ10 k) := by decide +kernel
def RL : String := "GraverCalculatorLaw"
abbrev cL_law : ByteArray := code
def yL_law : MethodName := ⟨RL, "law", "([I)Z"⟩
abbrev vwCl : List vw_C := [(RX0, TX0, 3), (RX1, TX1, 5), (RX2, TX2, 14), (RX3, TX3, 3), (RX4, TX4, 6), (RX5, TX5, 6), (RX6, TX6, 3), (RX7, TX7, 10), (RX8, TX8, 21)]
/-- the tables' words that a method may rely on -/
def gtbl : List Cond := lw_tbl.filter goodWord
theorem gin {w : Cond} (i : Nat) (h : lw_tbl[i]? = some w) (hg : goodWord w = true) : w ∈ gtbl := List.mem_filter.mpr ⟨List.mem_of_getElem? h, hg⟩
def CC : Nat → String := fun k => match k with
  | 0 => RX0
  | 1 => RX1
  | 2 => RX2
  | 3 => RX3
  | 4 => RX4
  | 5 => RX5
  | 6 => RX6
  | 7 => RX7
  | _ => RX8
def TT : Nat → u_T := fun k => match k with
  | 0 => TX0
  | 1 => TX1
  | 2 => TX2
  | 3 => TX3
  | 4 => TX4
  | 5 => TX5
  | 6 => TX6
  | 7 => TX7
  | _ => TX8
def NN : Nat → Nat := fun k => match k with
  | 0 => 3
  | 1 => 5
  | 2 => 14
  | 3 => 3
  | 4 => 6
  | 5 => 6
  | 6 => 3
  | 7 => 10
  | _ => 21
def YY : Nat → Nat → FieldType := fun k => match k with
  | 0 => tyX0
  | 1 => tyX1
  | 2 => tyX2
  | 3 => tyX3
  | 4 => tyX4
  | 5 => tyX5
  | 6 => tyX6
  | 7 => tyX7
  | _ => tyX8
theorem cl_ok : ∀ (ci : Nat), ci < 9 → vwCl[ci]? = some (CC ci, TT ci, NN ci)
  | 0, _ => rfl
  | 1, _ => rfl
  | 2, _ => rfl
  | 3, _ => rfl
  | 4, _ => rfl
  | 5, _ => rfl
  | 6, _ => rfl
  | 7, _ => rfl
  | 8, _ => rfl
  | n + 9, h => absurd h (by omega)
theorem nm_ok : ∀ (ci : Nat), ci < 9 → ∀ a, a < NN ci → ∀ b, b < NN ci → a ≠ b → (TT ci a).2.1 ≠ (TT ci b).2.1
  | 0, _ => nmX0
  | 1, _ => nmX1
  | 2, _ => nmX2
  | 3, _ => nmX3
  | 4, _ => nmX4
  | 5, _ => nmX5
  | 6, _ => nmX6
  | 7, _ => nmX7
  | 8, _ => nmX8
  | n + 9, h => absurd h (by omega)
theorem ty_ok : ∀ (ci : Nat), ci < 9 → ∀ k, k < NN ci → parseFieldDescriptor (TT ci k).2.2.1 = some (YY ci k)
  | 0, _ => tyX0_ok
  | 1, _ => tyX1_ok
  | 2, _ => tyX2_ok
  | 3, _ => tyX3_ok
  | 4, _ => tyX4_ok
  | 5, _ => tyX5_ok
  | 6, _ => tyX6_ok
  | 7, _ => tyX7_ok
  | 8, _ => tyX8_ok
  | n + 9, h => absurd h (by omega)
theorem inX0 : ∀ w ∈ u_ws RX0 TX0 3, w ∈ gtbl := by
  intro w h
  obtain ⟨k, hk, rfl⟩ := List.mem_map.mp h
  have hk := List.mem_range.mp hk
  match k, hk with
  | 0, _ => exact gin 242 (by decide +kernel) (by decide +kernel)
  | 1, _ => exact gin 244 (by decide +kernel) (by decide +kernel)
  | 2, _ => exact gin 246 (by decide +kernel) (by decide +kernel)
  | k + 3, hk => exact absurd hk (by omega)
theorem inX1 : ∀ w ∈ u_ws RX1 TX1 5, w ∈ gtbl := by
  intro w h
  obtain ⟨k, hk, rfl⟩ := List.mem_map.mp h
  have hk := List.mem_range.mp hk
  match k, hk with
  | 0, _ => exact gin 262 (by decide +kernel) (by decide +kernel)
  | 1, _ => exact gin 264 (by decide +kernel) (by decide +kernel)
  | 2, _ => exact gin 266 (by decide +kernel) (by decide +kernel)
  | 3, _ => exact gin 268 (by decide +kernel) (by decide +kernel)
  | 4, _ => exact gin 270 (by decide +kernel) (by decide +kernel)
  | k + 5, hk => exact absurd hk (by omega)
theorem inX2 : ∀ w ∈ u_ws RX2 TX2 14, w ∈ gtbl := by
  intro w h
  obtain ⟨k, hk, rfl⟩ := List.mem_map.mp h
  have hk := List.mem_range.mp hk
  match k, hk with
  | 0, _ => exact gin 202 (by decide +kernel) (by decide +kernel)
  | 1, _ => exact gin 204 (by decide +kernel) (by decide +kernel)
  | 2, _ => exact gin 206 (by decide +kernel) (by decide +kernel)
  | 3, _ => exact gin 208 (by decide +kernel) (by decide +kernel)
  | 4, _ => exact gin 210 (by decide +kernel) (by decide +kernel)
  | 5, _ => exact gin 212 (by decide +kernel) (by decide +kernel)
  | 6, _ => exact gin 214 (by decide +kernel) (by decide +kernel)
  | 7, _ => exact gin 216 (by decide +kernel) (by decide +kernel)
  | 8, _ => exact gin 218 (by decide +kernel) (by decide +kernel)
  | 9, _ => exact gin 220 (by decide +kernel) (by decide +kernel)
  | 10, _ => exact gin 222 (by decide +kernel) (by decide +kernel)
  | 11, _ => exact gin 224 (by decide +kernel) (by decide +kernel)
  | 12, _ => exact gin 226 (by decide +kernel) (by decide +kernel)
  | 13, _ => exact gin 228 (by decide +kernel) (by decide +kernel)
  | k + 14, hk => exact absurd hk (by omega)
theorem inX3 : ∀ w ∈ u_ws RX3 TX3 3, w ∈ gtbl := by
  intro w h
  obtain ⟨k, hk, rfl⟩ := List.mem_map.mp h
  have hk := List.mem_range.mp hk
  match k, hk with
  | 0, _ => exact gin 141 (by decide +kernel) (by decide +kernel)
  | 1, _ => exact gin 143 (by decide +kernel) (by decide +kernel)
  | 2, _ => exact gin 145 (by decide +kernel) (by decide +kernel)
  | k + 3, hk => exact absurd hk (by omega)
theorem inX4 : ∀ w ∈ u_ws RX4 TX4 6, w ∈ gtbl := by
  intro w h
  obtain ⟨k, hk, rfl⟩ := List.mem_map.mp h
  have hk := List.mem_range.mp hk
  match k, hk with
  | 0, _ => exact gin 164 (by decide +kernel) (by decide +kernel)
  | 1, _ => exact gin 166 (by decide +kernel) (by decide +kernel)
  | 2, _ => exact gin 168 (by decide +kernel) (by decide +kernel)
  | 3, _ => exact gin 170 (by decide +kernel) (by decide +kernel)
  | 4, _ => exact gin 172 (by decide +kernel) (by decide +kernel)
  | 5, _ => exact gin 174 (by decide +kernel) (by decide +kernel)
  | k + 6, hk => exact absurd hk (by omega)
theorem inX5 : ∀ w ∈ u_ws RX5 TX5 6, w ∈ gtbl := by
  intro w h
  obtain ⟨k, hk, rfl⟩ := List.mem_map.mp h
  have hk := List.mem_range.mp hk
  match k, hk with
  | 0, _ => exact gin 114 (by decide +kernel) (by decide +kernel)
  | 1, _ => exact gin 116 (by decide +kernel) (by decide +kernel)
  | 2, _ => exact gin 118 (by decide +kernel) (by decide +kernel)
  | 3, _ => exact gin 120 (by decide +kernel) (by decide +kernel)
  | 4, _ => exact gin 122 (by decide +kernel) (by decide +kernel)
  | 5, _ => exact gin 124 (by decide +kernel) (by decide +kernel)
  | k + 6, hk => exact absurd hk (by omega)
theorem inX6 : ∀ w ∈ u_ws RX6 TX6 3, w ∈ gtbl := by
  intro w h
  obtain ⟨k, hk, rfl⟩ := List.mem_map.mp h
  have hk := List.mem_range.mp hk
  match k, hk with
  | 0, _ => exact gin 282 (by decide +kernel) (by decide +kernel)
  | 1, _ => exact gin 284 (by decide +kernel) (by decide +kernel)
  | 2, _ => exact gin 286 (by decide +kernel) (by decide +kernel)
  | k + 3, hk => exact absurd hk (by omega)
theorem inX7 : ∀ w ∈ u_ws RX7 TX7 10, w ∈ gtbl := by
  intro w h
  obtain ⟨k, hk, rfl⟩ := List.mem_map.mp h
  have hk := List.mem_range.mp hk
  match k, hk with
  | 0, _ => exact gin 406 (by decide +kernel) (by decide +kernel)
  | 1, _ => exact gin 408 (by decide +kernel) (by decide +kernel)
  | 2, _ => exact gin 410 (by decide +kernel) (by decide +kernel)
  | 3, _ => exact gin 412 (by decide +kernel) (by decide +kernel)
  | 4, _ => exact gin 414 (by decide +kernel) (by decide +kernel)
  | 5, _ => exact gin 416 (by decide +kernel) (by decide +kernel)
  | 6, _ => exact gin 418 (by decide +kernel) (by decide +kernel)
  | 7, _ => exact gin 420 (by decide +kernel) (by decide +kernel)
  | 8, _ => exact gin 422 (by decide +kernel) (by decide +kernel)
  | 9, _ => exact gin 424 (by decide +kernel) (by decide +kernel)
  | k + 10, hk => exact absurd hk (by omega)
theorem inX8 : ∀ w ∈ u_ws RX8 TX8 21, w ∈ gtbl := by
  intro w h
  obtain ⟨k, hk, rfl⟩ := List.mem_map.mp h
  have hk := List.mem_range.mp hk
  match k, hk with
  | 0, _ => exact gin 816 (by decide +kernel) (by decide +kernel)
  | 1, _ => exact gin 818 (by decide +kernel) (by decide +kernel)
  | 2, _ => exact gin 820 (by decide +kernel) (by decide +kernel)
  | 3, _ => exact gin 822 (by decide +kernel) (by decide +kernel)
  | 4, _ => exact gin 824 (by decide +kernel) (by decide +kernel)
  | 5, _ => exact gin 826 (by decide +kernel) (by decide +kernel)
  | 6, _ => exact gin 828 (by decide +kernel) (by decide +kernel)
  | 7, _ => exact gin 830 (by decide +kernel) (by decide +kernel)
  | 8, _ => exact gin 832 (by decide +kernel) (by decide +kernel)
  | 9, _ => exact gin 834 (by decide +kernel) (by decide +kernel)
  | 10, _ => exact gin 836 (by decide +kernel) (by decide +kernel)
  | 11, _ => exact gin 838 (by decide +kernel) (by decide +kernel)
  | 12, _ => exact gin 840 (by decide +kernel) (by decide +kernel)
  | 13, _ => exact gin 842 (by decide +kernel) (by decide +kernel)
  | 14, _ => exact gin 844 (by decide +kernel) (by decide +kernel)
  | 15, _ => exact gin 846 (by decide +kernel) (by decide +kernel)
  | 16, _ => exact gin 848 (by decide +kernel) (by decide +kernel)
  | 17, _ => exact gin 850 (by decide +kernel) (by decide +kernel)
  | 18, _ => exact gin 852 (by decide +kernel) (by decide +kernel)
  | 19, _ => exact gin 854 (by decide +kernel) (by decide +kernel)
  | 20, _ => exact gin 856 (by decide +kernel) (by decide +kernel)
  | k + 21, hk => exact absurd hk (by omega)
theorem in_ok : ∀ (ci : Nat), ci < 9 → ∀ w ∈ u_ws (CC ci) (TT ci) (NN ci), w ∈ gtbl
  | 0, _ => inX0
  | 1, _ => inX1
  | 2, _ => inX2
  | 3, _ => inX3
  | 4, _ => inX4
  | 5, _ => inX5
  | 6, _ => inX6
  | 7, _ => inX7
  | 8, _ => inX8
  | n + 9, h => absurd h (by omega)
theorem q_0 : (Cond.selects RX7 yX7_takeNewMatrix yX7_takeNewMatrix) ∈ gtbl := gin 0 (by decide +kernel) (by decide +kernel)
theorem q_1 : (Cond.selects RX2 yX2_choosePivots yX2_choosePivots) ∈ gtbl := gin 1 (by decide +kernel) (by decide +kernel)
theorem q_2 : (Cond.selects RX2 yX2_takePivot yX2_takePivot) ∈ gtbl := gin 2 (by decide +kernel) (by decide +kernel)
theorem q_3 : (Cond.selects RX2 yX2_takePivots yX2_takePivots) ∈ gtbl := gin 3 (by decide +kernel) (by decide +kernel)
theorem q_4 : (Cond.selects RX2 yX2_listFreeColumns yX2_listFreeColumns) ∈ gtbl := gin 4 (by decide +kernel) (by decide +kernel)
theorem q_5 : (Cond.selects RX2 yX2_collectCandidates yX2_collectCandidates) ∈ gtbl := gin 5 (by decide +kernel) (by decide +kernel)
theorem q_6 : (Cond.selects RX2 yX2_setFreeColumns yX2_setFreeColumns) ∈ gtbl := gin 6 (by decide +kernel) (by decide +kernel)
theorem q_7 : (Cond.selects RX2 yX2_solvePivots yX2_solvePivots) ∈ gtbl := gin 7 (by decide +kernel) (by decide +kernel)
theorem q_8 : (Cond.selects RX2 yX2_isWithinBound yX2_isWithinBound) ∈ gtbl := gin 8 (by decide +kernel) (by decide +kernel)
theorem q_9 : (Cond.selects RX2 yX2_leads yX2_leads) ∈ gtbl := gin 9 (by decide +kernel) (by decide +kernel)
theorem q_10 : (Cond.selects RX2 yX2_encode yX2_encode) ∈ gtbl := gin 10 (by decide +kernel) (by decide +kernel)
theorem q_11 : (Cond.selects RX2 yX2_insertCandidate yX2_insertCandidate) ∈ gtbl := gin 11 (by decide +kernel) (by decide +kernel)
theorem q_12 : (Cond.selects RX2 yX2_keepLeastCandidates yX2_keepLeastCandidates) ∈ gtbl := gin 12 (by decide +kernel) (by decide +kernel)
theorem q_13 : (Cond.selects RX2 yX2_decode yX2_decode) ∈ gtbl := gin 13 (by decide +kernel) (by decide +kernel)
theorem q_14 : (Cond.selects RX2 yX2_isAboveAnElement yX2_isAboveAnElement) ∈ gtbl := gin 14 (by decide +kernel) (by decide +kernel)
theorem q_15 : (Cond.selects RX7 yX7_save yX7_save) ∈ gtbl := gin 15 (by decide +kernel) (by decide +kernel)
theorem q_16 : (Cond.selects RX7 yX7_isRow yX7_isRow) ∈ gtbl := gin 16 (by decide +kernel) (by decide +kernel)
theorem q_17 : (Cond.selects RX7 yX7_isColumn yX7_isColumn) ∈ gtbl := gin 17 (by decide +kernel) (by decide +kernel)
theorem q_18 : (Cond.selects RX4 yX4_takes yX4_takes) ∈ gtbl := gin 18 (by decide +kernel) (by decide +kernel)
theorem q_19 : (Cond.selects RX4 yX4_takesRowEnd yX4_takesRowEnd) ∈ gtbl := gin 19 (by decide +kernel) (by decide +kernel)
theorem q_20 : (Cond.selects RX4 yX4_takesDigit yX4_takesDigit) ∈ gtbl := gin 20 (by decide +kernel) (by decide +kernel)
theorem q_21 : (Cond.selects RX4 yX4_digitsNeeded yX4_digitsNeeded) ∈ gtbl := gin 21 (by decide +kernel) (by decide +kernel)
theorem q_22 : (Cond.selects RX7 yX7_isElement yX7_isElement) ∈ gtbl := gin 22 (by decide +kernel) (by decide +kernel)
theorem q_23 : (Cond.selects RX2 yX2_support yX2_support) ∈ gtbl := gin 23 (by decide +kernel) (by decide +kernel)
theorem q_24 : (Cond.selects RX7 yX7_buildElementFiber yX7_buildElementFiber) ∈ gtbl := gin 24 (by decide +kernel) (by decide +kernel)
theorem q_25 : (Cond.selects RX1 yX1_takeColumns yX1_takeColumns) ∈ gtbl := gin 25 (by decide +kernel) (by decide +kernel)
theorem q_26 : (Cond.selects RX1 yX1_most yX1_most) ∈ gtbl := gin 26 (by decide +kernel) (by decide +kernel)
theorem q_27 : (Cond.selects RX1 yX1_addRows yX1_addRows) ∈ gtbl := gin 27 (by decide +kernel) (by decide +kernel)
theorem q_28 : (Cond.selects RX1 yX1_addIfExact yX1_addIfExact) ∈ gtbl := gin 28 (by decide +kernel) (by decide +kernel)
theorem q_29 : (Cond.selects RX0 yX0_takeWhileConformal yX0_takeWhileConformal) ∈ gtbl := gin 29 (by decide +kernel) (by decide +kernel)
theorem q_30 : (Cond.selects RX7 yX7_buildPointFiber yX7_buildPointFiber) ∈ gtbl := gin 30 (by decide +kernel) (by decide +kernel)
theorem q_31 : (Cond.selects RX6 yX6_forget yX6_forget) ∈ gtbl := gin 31 (by decide +kernel) (by decide +kernel)
theorem q_32 : (Cond.selects RX6 yX6_reachFrom yX6_reachFrom) ∈ gtbl := gin 32 (by decide +kernel) (by decide +kernel)
theorem q_33 : (Cond.selects RX6 yX6_reach yX6_reach) ∈ gtbl := gin 33 (by decide +kernel) (by decide +kernel)
theorem q_34 : (Cond.selects RX1 yX1_numberOfPacked yX1_numberOfPacked) ∈ gtbl := gin 34 (by decide +kernel) (by decide +kernel)
theorem q_35 : (Cond.selects RX7 yX7_isMarkovBasis yX7_isMarkovBasis) ∈ gtbl := gin 35 (by decide +kernel) (by decide +kernel)
theorem q_36 : (Cond.selects RX7 yX7_joinsItsParts yX7_joinsItsParts) ∈ gtbl := gin 36 (by decide +kernel) (by decide +kernel)
theorem q_37 : (Cond.selects RX7 yX7_switchOffIfSpare yX7_switchOffIfSpare) ∈ gtbl := gin 37 (by decide +kernel) (by decide +kernel)
theorem q_38 : (Cond.selects RX8 yX8_begin yX8_begin) ∈ gtbl := gin 38 (by decide +kernel) (by decide +kernel)
theorem q_39 : (Cond.selects RX8 yX8_changed yX8_changed) ∈ gtbl := gin 39 (by decide +kernel) (by decide +kernel)
theorem q_40 : (Cond.selects RX8 yX8_layBasis yX8_layBasis) ∈ gtbl := gin 40 (by decide +kernel) (by decide +kernel)
theorem q_41 : (Cond.selects RX8 yX8_rankOf yX8_rankOf) ∈ gtbl := gin 41 (by decide +kernel) (by decide +kernel)
theorem q_42 : (Cond.selects RX8 yX8_at yX8_at) ∈ gtbl := gin 42 (by decide +kernel) (by decide +kernel)
theorem q_43 : (Cond.selects RX8 yX8_layKernel yX8_layKernel) ∈ gtbl := gin 43 (by decide +kernel) (by decide +kernel)
theorem q_44 : (Cond.selects RX8 yX8_lastEntry yX8_lastEntry) ∈ gtbl := gin 44 (by decide +kernel) (by decide +kernel)
theorem q_45 : (Cond.selects RX8 yX8_product yX8_product) ∈ gtbl := gin 45 (by decide +kernel) (by decide +kernel)
theorem q_46 : (Cond.selects RX8 yX8_isFirstPositive yX8_isFirstPositive) ∈ gtbl := gin 46 (by decide +kernel) (by decide +kernel)
theorem q_47 : (Cond.selects RX8 yX8_addKernel yX8_addKernel) ∈ gtbl := gin 47 (by decide +kernel) (by decide +kernel)
theorem q_48 : (Cond.selects RX8 yX8_isZeroColumn yX8_isZeroColumn) ∈ gtbl := gin 48 (by decide +kernel) (by decide +kernel)
theorem q_49 : (Cond.selects RX8 yX8_isLeast yX8_isLeast) ∈ gtbl := gin 49 (by decide +kernel) (by decide +kernel)
theorem q_50 : (Cond.selects RX8 yX8_isConformal yX8_isConformal) ∈ gtbl := gin 50 (by decide +kernel) (by decide +kernel)
theorem q_51 : (Cond.selects RX8 yX8_keep yX8_keep) ∈ gtbl := gin 51 (by decide +kernel) (by decide +kernel)
theorem q_52 : (Cond.selects RX8 yX8_isPlace yX8_isPlace) ∈ gtbl := gin 52 (by decide +kernel) (by decide +kernel)
theorem q_53 : (Cond.selects RX8 yX8_isColumn yX8_isColumn) ∈ gtbl := gin 53 (by decide +kernel) (by decide +kernel)
theorem q_54 : (Cond.selects RX8 yX8_readsText yX8_readsText) ∈ gtbl := gin 54 (by decide +kernel) (by decide +kernel)
theorem q_55 : (Cond.selects RX8 yX8_readsCharacter yX8_readsCharacter) ∈ gtbl := gin 55 (by decide +kernel) (by decide +kernel)
theorem q_56 : (Cond.selects RX8 yX8_isAllPositive yX8_isAllPositive) ∈ gtbl := gin 56 (by decide +kernel) (by decide +kernel)
theorem q_57 : (Cond.selects RX8 yX8_isElement yX8_isElement) ∈ gtbl := gin 57 (by decide +kernel) (by decide +kernel)
theorem q_58 : (Cond.selects RX8 yX8_support yX8_support) ∈ gtbl := gin 58 (by decide +kernel) (by decide +kernel)
theorem q_59 : (Cond.selects RX8 yX8_setGoal yX8_setGoal) ∈ gtbl := gin 59 (by decide +kernel) (by decide +kernel)
theorem q_60 : (Cond.selects RX8 yX8_layFiber yX8_layFiber) ∈ gtbl := gin 60 (by decide +kernel) (by decide +kernel)
theorem q_61 : (Cond.selects RX8 yX8_addFiber yX8_addFiber) ∈ gtbl := gin 61 (by decide +kernel) (by decide +kernel)
theorem q_62 : (Cond.selects RX8 yX8_isKernelVector yX8_isKernelVector) ∈ gtbl := gin 62 (by decide +kernel) (by decide +kernel)
theorem q_63 : (Cond.selects RX8 yX8_decompose yX8_decompose) ∈ gtbl := gin 63 (by decide +kernel) (by decide +kernel)
theorem q_64 : (Cond.selects RX8 yX8_firstConformal yX8_firstConformal) ∈ gtbl := gin 64 (by decide +kernel) (by decide +kernel)
theorem q_65 : (Cond.selects RX8 yX8_layFiberOfPoint yX8_layFiberOfPoint) ∈ gtbl := gin 65 (by decide +kernel) (by decide +kernel)
theorem q_66 : (Cond.selects RX8 yX8_setGoalToPoint yX8_setGoalToPoint) ∈ gtbl := gin 66 (by decide +kernel) (by decide +kernel)
theorem q_67 : (Cond.selects RX8 yX8_activeCount yX8_activeCount) ∈ gtbl := gin 67 (by decide +kernel) (by decide +kernel)
theorem q_68 : (Cond.selects RX8 yX8_clearFar yX8_clearFar) ∈ gtbl := gin 68 (by decide +kernel) (by decide +kernel)
theorem q_69 : (Cond.selects RX8 yX8_search yX8_search) ∈ gtbl := gin 69 (by decide +kernel) (by decide +kernel)
theorem q_70 : (Cond.selects RX8 yX8_stepFrom yX8_stepFrom) ∈ gtbl := gin 70 (by decide +kernel) (by decide +kernel)
theorem q_71 : (Cond.selects RX8 yX8_numberOf yX8_numberOf) ∈ gtbl := gin 71 (by decide +kernel) (by decide +kernel)
theorem q_72 : (Cond.selects RX8 yX8_compare yX8_compare) ∈ gtbl := gin 72 (by decide +kernel) (by decide +kernel)
theorem q_73 : (Cond.selects RX8 yX8_numberOfGoal yX8_numberOfGoal) ∈ gtbl := gin 73 (by decide +kernel) (by decide +kernel)
theorem q_74 : (Cond.selects RX8 yX8_areConnected yX8_areConnected) ∈ gtbl := gin 74 (by decide +kernel) (by decide +kernel)
theorem q_75 : (Cond.initialized RL) ∈ gtbl := gin 75 (by decide +kernel) (by decide +kernel)
theorem q_76 : (Cond.initialized RX7) ∈ gtbl := gin 76 (by decide +kernel) (by decide +kernel)
theorem q_77 : (Cond.initialized RX5) ∈ gtbl := gin 77 (by decide +kernel) (by decide +kernel)
theorem q_78 : (Cond.initialized RX3) ∈ gtbl := gin 78 (by decide +kernel) (by decide +kernel)
theorem q_79 : (Cond.initialized RX4) ∈ gtbl := gin 79 (by decide +kernel) (by decide +kernel)
theorem q_80 : (Cond.initialized RX2) ∈ gtbl := gin 80 (by decide +kernel) (by decide +kernel)
theorem q_81 : (Cond.initialized RX0) ∈ gtbl := gin 81 (by decide +kernel) (by decide +kernel)
theorem q_82 : (Cond.initialized RX1) ∈ gtbl := gin 82 (by decide +kernel) (by decide +kernel)
theorem q_83 : (Cond.initialized RX6) ∈ gtbl := gin 83 (by decide +kernel) (by decide +kernel)
theorem q_84 : (Cond.initialized RJ9) ∈ gtbl := gin 84 (by decide +kernel) (by decide +kernel)
theorem q_85 : (Cond.initialized RJ10) ∈ gtbl := gin 85 (by decide +kernel) (by decide +kernel)
theorem q_86 : (Cond.initialized RX8) ∈ gtbl := gin 86 (by decide +kernel) (by decide +kernel)
theorem q_87 : (Cond.initialized RJ6) ∈ gtbl := gin 87 (by decide +kernel) (by decide +kernel)
theorem q_88 : (Cond.classLink RL 7 RX7) ∈ gtbl := gin 88 (by decide +kernel) (by decide +kernel)
theorem q_89 : (Cond.instantiable RX7 10) ∈ gtbl := gin 89 (by decide +kernel) (by decide +kernel)
theorem q_90 : (Cond.methodLink RL 9 yX7_init) ∈ gtbl := gin 90 (by decide +kernel) (by decide +kernel)
theorem q_91 : (Cond.instanceMethod yX7_init) ∈ gtbl := gin 91 (by decide +kernel) (by decide +kernel)
theorem q_92 : (Cond.code yX7_init cX7_init 1 none) ∈ gtbl := gin 92 (by decide +kernel) (by decide +kernel)
theorem q_93 : (Cond.methodLink RX7 3 objectInit) ∈ gtbl := gin 93 (by decide +kernel) (by decide +kernel)
theorem q_94 : (Cond.instanceMethod objectInit) ∈ gtbl := gin 94 (by decide +kernel) (by decide +kernel)
theorem q_95 : (Cond.code objectInit ⟨#[0xb1]⟩ 1 none) ∈ gtbl := gin 95 (by decide +kernel) (by decide +kernel)
theorem q_96 : (Cond.classLink RX7 9 RX5) ∈ gtbl := gin 96 (by decide +kernel) (by decide +kernel)
theorem q_97 : (Cond.instantiable RX5 6) ∈ gtbl := gin 97 (by decide +kernel) (by decide +kernel)
theorem q_99 : (Cond.instanceMethod yX5_init) ∈ gtbl := gin 99 (by decide +kernel) (by decide +kernel)
theorem q_100 : (Cond.code yX5_init cX5_init 1 none) ∈ gtbl := gin 100 (by decide +kernel) (by decide +kernel)
theorem q_101 : (Cond.methodLink RX5 3 objectInit) ∈ gtbl := gin 101 (by decide +kernel) (by decide +kernel)
theorem q_102 : (Cond.fieldLink RX5 25 (TT 5 0).1 (TT 5 0).2.1 (TT 5 0).2.2.1) ∈ gtbl := gin 102 (by decide +kernel) (by decide +kernel)
theorem q_103 : (Cond.fieldLink RX7 120 (TT 5 0).1 (TT 5 0).2.1 (TT 5 0).2.2.1) ∈ gtbl := gin 103 (by decide +kernel) (by decide +kernel)
theorem q_104 : (Cond.fieldLink RX2 24 (TT 5 1).1 (TT 5 1).2.1 (TT 5 1).2.2.1) ∈ gtbl := gin 104 (by decide +kernel) (by decide +kernel)
theorem q_105 : (Cond.fieldLink RX7 77 (TT 5 1).1 (TT 5 1).2.1 (TT 5 1).2.2.1) ∈ gtbl := gin 105 (by decide +kernel) (by decide +kernel)
theorem q_106 : (Cond.fieldLink RX5 21 (TT 5 1).1 (TT 5 1).2.1 (TT 5 1).2.2.1) ∈ gtbl := gin 106 (by decide +kernel) (by decide +kernel)
theorem q_107 : (Cond.fieldLink RX1 57 (TT 5 1).1 (TT 5 1).2.1 (TT 5 1).2.2.1) ∈ gtbl := gin 107 (by decide +kernel) (by decide +kernel)
theorem q_108 : (Cond.fieldLink RX5 9 (TT 5 2).1 (TT 5 2).2.1 (TT 5 2).2.2.1) ∈ gtbl := gin 108 (by decide +kernel) (by decide +kernel)
theorem q_109 : (Cond.fieldLink RX5 15 (TT 5 3).1 (TT 5 3).2.1 (TT 5 3).2.2.1) ∈ gtbl := gin 109 (by decide +kernel) (by decide +kernel)
theorem q_110 : (Cond.fieldLink RX7 148 (TT 5 3).1 (TT 5 3).2.1 (TT 5 3).2.2.1) ∈ gtbl := gin 110 (by decide +kernel) (by decide +kernel)
theorem q_111 : (Cond.fieldLink RX5 18 (TT 5 4).1 (TT 5 4).2.1 (TT 5 4).2.2.1) ∈ gtbl := gin 111 (by decide +kernel) (by decide +kernel)
theorem q_112 : (Cond.fieldLink RX7 162 (TT 5 4).1 (TT 5 4).2.1 (TT 5 4).2.2.1) ∈ gtbl := gin 112 (by decide +kernel) (by decide +kernel)
theorem q_113 : (Cond.fieldLink RX5 40 (TT 5 5).1 (TT 5 5).2.1 (TT 5 5).2.2.1) ∈ gtbl := gin 113 (by decide +kernel) (by decide +kernel)
theorem q_127 : (Cond.arrayClass .int) ∈ gtbl := gin 127 (by decide +kernel) (by decide +kernel)
theorem q_128 : (Cond.classLink RX7 16 RX3) ∈ gtbl := gin 128 (by decide +kernel) (by decide +kernel)
theorem q_129 : (Cond.instantiable RX3 3) ∈ gtbl := gin 129 (by decide +kernel) (by decide +kernel)
theorem q_130 : (Cond.methodLink RX7 18 yX3_init) ∈ gtbl := gin 130 (by decide +kernel) (by decide +kernel)
theorem q_131 : (Cond.instanceMethod yX3_init) ∈ gtbl := gin 131 (by decide +kernel) (by decide +kernel)
theorem q_132 : (Cond.code yX3_init cX3_init 2 none) ∈ gtbl := gin 132 (by decide +kernel) (by decide +kernel)
theorem q_133 : (Cond.methodLink RX3 3 objectInit) ∈ gtbl := gin 133 (by decide +kernel) (by decide +kernel)
theorem q_134 : (Cond.classLink RX3 9 RX5) ∈ gtbl := gin 134 (by decide +kernel) (by decide +kernel)
theorem q_137 : (Cond.fieldLink RX3 18 (TT 3 0).1 (TT 3 0).2.1 (TT 3 0).2.2.1) ∈ gtbl := gin 137 (by decide +kernel) (by decide +kernel)
theorem q_138 : (Cond.fieldLink RX7 197 (TT 3 0).1 (TT 3 0).2.1 (TT 3 0).2.2.1) ∈ gtbl := gin 138 (by decide +kernel) (by decide +kernel)
theorem q_139 : (Cond.fieldLink RX3 22 (TT 3 1).1 (TT 3 1).2.1 (TT 3 1).2.2.1) ∈ gtbl := gin 139 (by decide +kernel) (by decide +kernel)
theorem q_140 : (Cond.fieldLink RX3 11 (TT 3 2).1 (TT 3 2).2.1 (TT 3 2).2.2.1) ∈ gtbl := gin 140 (by decide +kernel) (by decide +kernel)
theorem q_148 : (Cond.classLink RX7 23 RX4) ∈ gtbl := gin 148 (by decide +kernel) (by decide +kernel)
theorem q_149 : (Cond.instantiable RX4 6) ∈ gtbl := gin 149 (by decide +kernel) (by decide +kernel)
theorem q_151 : (Cond.instanceMethod yX4_init) ∈ gtbl := gin 151 (by decide +kernel) (by decide +kernel)
theorem q_152 : (Cond.code yX4_init cX4_init 1 none) ∈ gtbl := gin 152 (by decide +kernel) (by decide +kernel)
theorem q_153 : (Cond.methodLink RX4 3 objectInit) ∈ gtbl := gin 153 (by decide +kernel) (by decide +kernel)
theorem q_154 : (Cond.fieldLink RX4 18 (TT 4 0).1 (TT 4 0).2.1 (TT 4 0).2.2.1) ∈ gtbl := gin 154 (by decide +kernel) (by decide +kernel)
theorem q_155 : (Cond.fieldLink RX7 99 (TT 4 0).1 (TT 4 0).2.1 (TT 4 0).2.2.1) ∈ gtbl := gin 155 (by decide +kernel) (by decide +kernel)
theorem q_156 : (Cond.fieldLink RX4 22 (TT 4 1).1 (TT 4 1).2.1 (TT 4 1).2.2.1) ∈ gtbl := gin 156 (by decide +kernel) (by decide +kernel)
theorem q_157 : (Cond.fieldLink RX7 109 (TT 4 1).1 (TT 4 1).2.1 (TT 4 1).2.2.1) ∈ gtbl := gin 157 (by decide +kernel) (by decide +kernel)
theorem q_158 : (Cond.fieldLink RX4 36 (TT 4 2).1 (TT 4 2).2.1 (TT 4 2).2.2.1) ∈ gtbl := gin 158 (by decide +kernel) (by decide +kernel)
theorem q_159 : (Cond.fieldLink RX7 112 (TT 4 2).1 (TT 4 2).2.1 (TT 4 2).2.2.1) ∈ gtbl := gin 159 (by decide +kernel) (by decide +kernel)
theorem q_160 : (Cond.fieldLink RX4 9 (TT 4 3).1 (TT 4 3).2.1 (TT 4 3).2.2.1) ∈ gtbl := gin 160 (by decide +kernel) (by decide +kernel)
theorem q_161 : (Cond.fieldLink RX7 113 (TT 4 3).1 (TT 4 3).2.1 (TT 4 3).2.2.1) ∈ gtbl := gin 161 (by decide +kernel) (by decide +kernel)
theorem q_162 : (Cond.fieldLink RX4 15 (TT 4 4).1 (TT 4 4).2.1 (TT 4 4).2.2.1) ∈ gtbl := gin 162 (by decide +kernel) (by decide +kernel)
theorem q_163 : (Cond.fieldLink RX4 25 (TT 4 5).1 (TT 4 5).2.1 (TT 4 5).2.2.1) ∈ gtbl := gin 163 (by decide +kernel) (by decide +kernel)
theorem q_177 : (Cond.classLink RX7 30 RX2) ∈ gtbl := gin 177 (by decide +kernel) (by decide +kernel)
theorem q_178 : (Cond.instantiable RX2 14) ∈ gtbl := gin 178 (by decide +kernel) (by decide +kernel)
theorem q_180 : (Cond.instanceMethod yX2_init) ∈ gtbl := gin 180 (by decide +kernel) (by decide +kernel)
theorem q_181 : (Cond.code yX2_init cX2_init 1 none) ∈ gtbl := gin 181 (by decide +kernel) (by decide +kernel)
theorem q_182 : (Cond.methodLink RX2 5 objectInit) ∈ gtbl := gin 182 (by decide +kernel) (by decide +kernel)
theorem q_183 : (Cond.fieldLink RX0 28 (TT 2 0).1 (TT 2 0).2.1 (TT 2 0).2.2.1) ∈ gtbl := gin 183 (by decide +kernel) (by decide +kernel)
theorem q_184 : (Cond.fieldLink RX2 57 (TT 2 0).1 (TT 2 0).2.1 (TT 2 0).2.2.1) ∈ gtbl := gin 184 (by decide +kernel) (by decide +kernel)
theorem q_185 : (Cond.fieldLink RX6 39 (TT 2 0).1 (TT 2 0).2.1 (TT 2 0).2.2.1) ∈ gtbl := gin 185 (by decide +kernel) (by decide +kernel)
theorem q_186 : (Cond.fieldLink RX7 132 (TT 2 0).1 (TT 2 0).2.1 (TT 2 0).2.2.1) ∈ gtbl := gin 186 (by decide +kernel) (by decide +kernel)
theorem q_187 : (Cond.fieldLink RX2 63 (TT 2 1).1 (TT 2 1).2.1 (TT 2 1).2.2.1) ∈ gtbl := gin 187 (by decide +kernel) (by decide +kernel)
theorem q_188 : (Cond.fieldLink RX7 121 (TT 2 1).1 (TT 2 1).2.1 (TT 2 1).2.2.1) ∈ gtbl := gin 188 (by decide +kernel) (by decide +kernel)
theorem q_189 : (Cond.fieldLink RX2 11 (TT 2 2).1 (TT 2 2).2.1 (TT 2 2).2.2.1) ∈ gtbl := gin 189 (by decide +kernel) (by decide +kernel)
theorem q_190 : (Cond.fieldLink RX2 30 (TT 2 3).1 (TT 2 3).2.1 (TT 2 3).2.2.1) ∈ gtbl := gin 190 (by decide +kernel) (by decide +kernel)
theorem q_192 : (Cond.fieldLink RX2 66 (TT 2 4).1 (TT 2 4).2.1 (TT 2 4).2.2.1) ∈ gtbl := gin 192 (by decide +kernel) (by decide +kernel)
theorem q_193 : (Cond.fieldLink RX2 69 (TT 2 5).1 (TT 2 5).2.1 (TT 2 5).2.2.1) ∈ gtbl := gin 193 (by decide +kernel) (by decide +kernel)
theorem q_194 : (Cond.fieldLink RX2 72 (TT 2 6).1 (TT 2 6).2.1 (TT 2 6).2.2.1) ∈ gtbl := gin 194 (by decide +kernel) (by decide +kernel)
theorem q_195 : (Cond.fieldLink RX2 89 (TT 2 7).1 (TT 2 7).2.1 (TT 2 7).2.2.1) ∈ gtbl := gin 195 (by decide +kernel) (by decide +kernel)
theorem q_196 : (Cond.fieldLink RX2 75 (TT 2 8).1 (TT 2 8).2.1 (TT 2 8).2.2.1) ∈ gtbl := gin 196 (by decide +kernel) (by decide +kernel)
theorem q_197 : (Cond.fieldLink RX2 92 (TT 2 9).1 (TT 2 9).2.1 (TT 2 9).2.2.1) ∈ gtbl := gin 197 (by decide +kernel) (by decide +kernel)
theorem q_198 : (Cond.fieldLink RX2 15 (TT 2 10).1 (TT 2 10).2.1 (TT 2 10).2.2.1) ∈ gtbl := gin 198 (by decide +kernel) (by decide +kernel)
theorem q_199 : (Cond.fieldLink RX2 18 (TT 2 11).1 (TT 2 11).2.1 (TT 2 11).2.2.1) ∈ gtbl := gin 199 (by decide +kernel) (by decide +kernel)
theorem q_200 : (Cond.fieldLink RX2 21 (TT 2 12).1 (TT 2 12).2.1 (TT 2 12).2.2.1) ∈ gtbl := gin 200 (by decide +kernel) (by decide +kernel)
theorem q_201 : (Cond.fieldLink RX2 95 (TT 2 13).1 (TT 2 13).2.1 (TT 2 13).2.2.1) ∈ gtbl := gin 201 (by decide +kernel) (by decide +kernel)
theorem q_231 : (Cond.classLink RX7 37 RX0) ∈ gtbl := gin 231 (by decide +kernel) (by decide +kernel)
theorem q_232 : (Cond.instantiable RX0 3) ∈ gtbl := gin 232 (by decide +kernel) (by decide +kernel)
theorem q_234 : (Cond.instanceMethod yX0_init) ∈ gtbl := gin 234 (by decide +kernel) (by decide +kernel)
theorem q_235 : (Cond.code yX0_init cX0_init 1 none) ∈ gtbl := gin 235 (by decide +kernel) (by decide +kernel)
theorem q_236 : (Cond.methodLink RX0 3 objectInit) ∈ gtbl := gin 236 (by decide +kernel) (by decide +kernel)
theorem q_237 : (Cond.fieldLink RX0 24 (TT 0 0).1 (TT 0 0).2.1 (TT 0 0).2.2.1) ∈ gtbl := gin 237 (by decide +kernel) (by decide +kernel)
theorem q_238 : (Cond.fieldLink RX7 158 (TT 0 0).1 (TT 0 0).2.1 (TT 0 0).2.2.1) ∈ gtbl := gin 238 (by decide +kernel) (by decide +kernel)
theorem q_239 : (Cond.fieldLink RX0 9 (TT 0 1).1 (TT 0 1).2.1 (TT 0 1).2.2.1) ∈ gtbl := gin 239 (by decide +kernel) (by decide +kernel)
theorem q_240 : (Cond.fieldLink RX7 159 (TT 0 1).1 (TT 0 1).2.1 (TT 0 1).2.2.1) ∈ gtbl := gin 240 (by decide +kernel) (by decide +kernel)
theorem q_241 : (Cond.fieldLink RX0 15 (TT 0 2).1 (TT 0 2).2.1 (TT 0 2).2.2.1) ∈ gtbl := gin 241 (by decide +kernel) (by decide +kernel)
theorem q_249 : (Cond.classLink RX7 44 RX1) ∈ gtbl := gin 249 (by decide +kernel) (by decide +kernel)
theorem q_250 : (Cond.instantiable RX1 5) ∈ gtbl := gin 250 (by decide +kernel) (by decide +kernel)
theorem q_251 : (Cond.methodLink RX7 46 yX1_init) ∈ gtbl := gin 251 (by decide +kernel) (by decide +kernel)
theorem q_252 : (Cond.instanceMethod yX1_init) ∈ gtbl := gin 252 (by decide +kernel) (by decide +kernel)
theorem q_253 : (Cond.code yX1_init cX1_init 2 none) ∈ gtbl := gin 253 (by decide +kernel) (by decide +kernel)
theorem q_254 : (Cond.methodLink RX1 5 objectInit) ∈ gtbl := gin 254 (by decide +kernel) (by decide +kernel)
theorem q_255 : (Cond.fieldLink RX1 25 (TT 1 0).1 (TT 1 0).2.1 (TT 1 0).2.2.1) ∈ gtbl := gin 255 (by decide +kernel) (by decide +kernel)
theorem q_256 : (Cond.fieldLink RX6 22 (TT 1 0).1 (TT 1 0).2.1 (TT 1 0).2.2.1) ∈ gtbl := gin 256 (by decide +kernel) (by decide +kernel)
theorem q_257 : (Cond.fieldLink RX7 145 (TT 1 0).1 (TT 1 0).2.1 (TT 1 0).2.2.1) ∈ gtbl := gin 257 (by decide +kernel) (by decide +kernel)
theorem q_258 : (Cond.fieldLink RX1 43 (TT 1 1).1 (TT 1 1).2.1 (TT 1 1).2.2.1) ∈ gtbl := gin 258 (by decide +kernel) (by decide +kernel)
theorem q_259 : (Cond.fieldLink RX1 18 (TT 1 2).1 (TT 1 2).2.1 (TT 1 2).2.2.1) ∈ gtbl := gin 259 (by decide +kernel) (by decide +kernel)
theorem q_260 : (Cond.fieldLink RX1 11 (TT 1 3).1 (TT 1 3).2.1 (TT 1 3).2.2.1) ∈ gtbl := gin 260 (by decide +kernel) (by decide +kernel)
theorem q_261 : (Cond.fieldLink RX1 15 (TT 1 4).1 (TT 1 4).2.1 (TT 1 4).2.2.1) ∈ gtbl := gin 261 (by decide +kernel) (by decide +kernel)
theorem q_273 : (Cond.classLink RX7 56 RX6) ∈ gtbl := gin 273 (by decide +kernel) (by decide +kernel)
theorem q_274 : (Cond.instantiable RX6 3) ∈ gtbl := gin 274 (by decide +kernel) (by decide +kernel)
theorem q_276 : (Cond.instanceMethod yX6_init) ∈ gtbl := gin 276 (by decide +kernel) (by decide +kernel)
theorem q_277 : (Cond.code yX6_init cX6_init 1 none) ∈ gtbl := gin 277 (by decide +kernel) (by decide +kernel)
theorem q_278 : (Cond.methodLink RX6 3 objectInit) ∈ gtbl := gin 278 (by decide +kernel) (by decide +kernel)
theorem q_279 : (Cond.fieldLink RX6 9 (TT 6 0).1 (TT 6 0).2.1 (TT 6 0).2.2.1) ∈ gtbl := gin 279 (by decide +kernel) (by decide +kernel)
theorem q_280 : (Cond.fieldLink RX6 15 (TT 6 1).1 (TT 6 1).2.1 (TT 6 1).2.2.1) ∈ gtbl := gin 280 (by decide +kernel) (by decide +kernel)
theorem q_281 : (Cond.fieldLink RX6 32 (TT 6 2).1 (TT 6 2).2.1 (TT 6 2).2.2.1) ∈ gtbl := gin 281 (by decide +kernel) (by decide +kernel)
theorem q_289 : (Cond.methodLink RX7 67 yX5_reshape) ∈ gtbl := gin 289 (by decide +kernel) (by decide +kernel)
theorem q_290 : (Cond.instanceMethod yX5_reshape) ∈ gtbl := gin 290 (by decide +kernel) (by decide +kernel)
theorem q_291 : (Cond.selects RX5 yX5_reshape yX5_reshape) ∈ gtbl := gin 291 (by decide +kernel) (by decide +kernel)
theorem q_292 : (Cond.code yX5_reshape cX5_reshape 4 none) ∈ gtbl := gin 292 (by decide +kernel) (by decide +kernel)
theorem q_293 : (Cond.methodLink RX7 71 yX5_fillWithOnes) ∈ gtbl := gin 293 (by decide +kernel) (by decide +kernel)
theorem q_294 : (Cond.instanceMethod yX5_fillWithOnes) ∈ gtbl := gin 294 (by decide +kernel) (by decide +kernel)
theorem q_295 : (Cond.selects RX5 yX5_fillWithOnes yX5_fillWithOnes) ∈ gtbl := gin 295 (by decide +kernel) (by decide +kernel)
theorem q_296 : (Cond.code yX5_fillWithOnes cX5_fillWithOnes 3 none) ∈ gtbl := gin 296 (by decide +kernel) (by decide +kernel)
theorem q_297 : (Cond.methodLink RX5 28 yX5_put) ∈ gtbl := gin 297 (by decide +kernel) (by decide +kernel)
theorem q_298 : (Cond.instanceMethod yX5_put) ∈ gtbl := gin 298 (by decide +kernel) (by decide +kernel)
theorem q_299 : (Cond.selects RX5 yX5_put yX5_put) ∈ gtbl := gin 299 (by decide +kernel) (by decide +kernel)
theorem q_300 : (Cond.code yX5_put cX5_put 5 none) ∈ gtbl := gin 300 (by decide +kernel) (by decide +kernel)
theorem q_301 : (Cond.methodLink RX7 74 yX7_takeNewMatrix) ∈ gtbl := gin 301 (by decide +kernel) (by decide +kernel)
theorem q_303 : (Cond.instanceMethod yX7_takeNewMatrix) ∈ gtbl := gin 303 (by decide +kernel) (by decide +kernel)
theorem q_304 : (Cond.code yX7_takeNewMatrix cX7_takeNewMatrix 1 none) ∈ gtbl := gin 304 (by decide +kernel) (by decide +kernel)
theorem q_305 : (Cond.methodLink RX7 206 yX2_build) ∈ gtbl := gin 305 (by decide +kernel) (by decide +kernel)
theorem q_306 : (Cond.instanceMethod yX2_build) ∈ gtbl := gin 306 (by decide +kernel) (by decide +kernel)
theorem q_307 : (Cond.selects RX2 yX2_build yX2_build) ∈ gtbl := gin 307 (by decide +kernel) (by decide +kernel)
theorem q_308 : (Cond.code yX2_build cX2_build 2 none) ∈ gtbl := gin 308 (by decide +kernel) (by decide +kernel)
theorem q_309 : (Cond.methodLink RX2 31 yX2_choosePivots) ∈ gtbl := gin 309 (by decide +kernel) (by decide +kernel)
theorem q_311 : (Cond.instanceMethod yX2_choosePivots) ∈ gtbl := gin 311 (by decide +kernel) (by decide +kernel)
theorem q_312 : (Cond.code yX2_choosePivots cX2_choosePivots 4 none) ∈ gtbl := gin 312 (by decide +kernel) (by decide +kernel)
theorem q_313 : (Cond.methodLink RX2 78 yX5_at) ∈ gtbl := gin 313 (by decide +kernel) (by decide +kernel)
theorem q_314 : (Cond.instanceMethod yX5_at) ∈ gtbl := gin 314 (by decide +kernel) (by decide +kernel)
theorem q_315 : (Cond.selects RX5 yX5_at yX5_at) ∈ gtbl := gin 315 (by decide +kernel) (by decide +kernel)
theorem q_316 : (Cond.code yX5_at cX5_at 4 (some .int)) ∈ gtbl := gin 316 (by decide +kernel) (by decide +kernel)
theorem q_317 : (Cond.methodLink RX2 79 yX2_takePivot) ∈ gtbl := gin 317 (by decide +kernel) (by decide +kernel)
theorem q_319 : (Cond.instanceMethod yX2_takePivot) ∈ gtbl := gin 319 (by decide +kernel) (by decide +kernel)
theorem q_320 : (Cond.code yX2_takePivot cX2_takePivot 4 none) ∈ gtbl := gin 320 (by decide +kernel) (by decide +kernel)
theorem q_321 : (Cond.methodLink RX2 83 yX5_minor) ∈ gtbl := gin 321 (by decide +kernel) (by decide +kernel)
theorem q_322 : (Cond.instanceMethod yX5_minor) ∈ gtbl := gin 322 (by decide +kernel) (by decide +kernel)
theorem q_323 : (Cond.selects RX5 yX5_minor yX5_minor) ∈ gtbl := gin 323 (by decide +kernel) (by decide +kernel)
theorem q_324 : (Cond.code yX5_minor cX5_minor 3 (some .int)) ∈ gtbl := gin 324 (by decide +kernel) (by decide +kernel)
theorem q_325 : (Cond.methodLink RX5 32 yX5_at) ∈ gtbl := gin 325 (by decide +kernel) (by decide +kernel)
theorem q_326 : (Cond.methodLink RX2 86 yX2_takePivots) ∈ gtbl := gin 326 (by decide +kernel) (by decide +kernel)
theorem q_328 : (Cond.instanceMethod yX2_takePivots) ∈ gtbl := gin 328 (by decide +kernel) (by decide +kernel)
theorem q_329 : (Cond.code yX2_takePivots cX2_takePivots 4 none) ∈ gtbl := gin 329 (by decide +kernel) (by decide +kernel)
theorem q_330 : (Cond.methodLink RX2 35 yX2_listFreeColumns) ∈ gtbl := gin 330 (by decide +kernel) (by decide +kernel)
theorem q_332 : (Cond.instanceMethod yX2_listFreeColumns) ∈ gtbl := gin 332 (by decide +kernel) (by decide +kernel)
theorem q_333 : (Cond.code yX2_listFreeColumns cX2_listFreeColumns 2 none) ∈ gtbl := gin 333 (by decide +kernel) (by decide +kernel)
theorem q_334 : (Cond.methodLink RX2 38 yX2_collectCandidates) ∈ gtbl := gin 334 (by decide +kernel) (by decide +kernel)
theorem q_336 : (Cond.instanceMethod yX2_collectCandidates) ∈ gtbl := gin 336 (by decide +kernel) (by decide +kernel)
theorem q_337 : (Cond.code yX2_collectCandidates cX2_collectCandidates 5 none) ∈ gtbl := gin 337 (by decide +kernel) (by decide +kernel)
theorem q_338 : (Cond.methodLink RX2 98 yX2_setFreeColumns) ∈ gtbl := gin 338 (by decide +kernel) (by decide +kernel)
theorem q_340 : (Cond.instanceMethod yX2_setFreeColumns) ∈ gtbl := gin 340 (by decide +kernel) (by decide +kernel)
theorem q_341 : (Cond.code yX2_setFreeColumns cX2_setFreeColumns 5 none) ∈ gtbl := gin 341 (by decide +kernel) (by decide +kernel)
theorem q_342 : (Cond.methodLink RX2 102 yX2_solvePivots) ∈ gtbl := gin 342 (by decide +kernel) (by decide +kernel)
theorem q_344 : (Cond.instanceMethod yX2_solvePivots) ∈ gtbl := gin 344 (by decide +kernel) (by decide +kernel)
theorem q_345 : (Cond.code yX2_solvePivots cX2_solvePivots 6 (some .boolean)) ∈ gtbl := gin 345 (by decide +kernel) (by decide +kernel)
theorem q_346 : (Cond.methodLink RX2 121 yX5_product) ∈ gtbl := gin 346 (by decide +kernel) (by decide +kernel)
theorem q_347 : (Cond.instanceMethod yX5_product) ∈ gtbl := gin 347 (by decide +kernel) (by decide +kernel)
theorem q_348 : (Cond.selects RX5 yX5_product yX5_product) ∈ gtbl := gin 348 (by decide +kernel) (by decide +kernel)
theorem q_349 : (Cond.code yX5_product cX5_product 5 (some .int)) ∈ gtbl := gin 349 (by decide +kernel) (by decide +kernel)
theorem q_350 : (Cond.methodLink RX2 106 yX2_isWithinBound) ∈ gtbl := gin 350 (by decide +kernel) (by decide +kernel)
theorem q_352 : (Cond.instanceMethod yX2_isWithinBound) ∈ gtbl := gin 352 (by decide +kernel) (by decide +kernel)
theorem q_353 : (Cond.code yX2_isWithinBound cX2_isWithinBound 2 (some .boolean)) ∈ gtbl := gin 353 (by decide +kernel) (by decide +kernel)
theorem q_354 : (Cond.methodLink RX2 48 yJ9_abs_0f7a4) ∈ gtbl := gin 354 (by decide +kernel) (by decide +kernel)
theorem q_355 : (Cond.static yJ9_abs_0f7a4) ∈ gtbl := gin 355 (by decide +kernel) (by decide +kernel)
theorem q_356 : (Cond.code yJ9_abs_0f7a4 cJ9_abs_0f7a4 1 (some .int)) ∈ gtbl := gin 356 (by decide +kernel) (by decide +kernel)
theorem q_357 : (Cond.methodLink RX2 110 yX2_leads) ∈ gtbl := gin 357 (by decide +kernel) (by decide +kernel)
theorem q_359 : (Cond.instanceMethod yX2_leads) ∈ gtbl := gin 359 (by decide +kernel) (by decide +kernel)
theorem q_360 : (Cond.code yX2_leads cX2_leads 2 (some .boolean)) ∈ gtbl := gin 360 (by decide +kernel) (by decide +kernel)
theorem q_361 : (Cond.methodLink RX2 113 yX2_encode) ∈ gtbl := gin 361 (by decide +kernel) (by decide +kernel)
theorem q_363 : (Cond.instanceMethod yX2_encode) ∈ gtbl := gin 363 (by decide +kernel) (by decide +kernel)
theorem q_364 : (Cond.code yX2_encode cX2_encode 4 (some .int)) ∈ gtbl := gin 364 (by decide +kernel) (by decide +kernel)
theorem q_365 : (Cond.methodLink RX2 117 yX2_insertCandidate) ∈ gtbl := gin 365 (by decide +kernel) (by decide +kernel)
theorem q_367 : (Cond.instanceMethod yX2_insertCandidate) ∈ gtbl := gin 367 (by decide +kernel) (by decide +kernel)
theorem q_368 : (Cond.code yX2_insertCandidate cX2_insertCandidate 3 none) ∈ gtbl := gin 368 (by decide +kernel) (by decide +kernel)
theorem q_369 : (Cond.methodLink RX2 41 yX2_keepLeastCandidates) ∈ gtbl := gin 369 (by decide +kernel) (by decide +kernel)
theorem q_371 : (Cond.instanceMethod yX2_keepLeastCandidates) ∈ gtbl := gin 371 (by decide +kernel) (by decide +kernel)
theorem q_372 : (Cond.code yX2_keepLeastCandidates cX2_keepLeastCandidates 2 none) ∈ gtbl := gin 372 (by decide +kernel) (by decide +kernel)
theorem q_373 : (Cond.methodLink RX2 125 yX2_decode) ∈ gtbl := gin 373 (by decide +kernel) (by decide +kernel)
theorem q_375 : (Cond.instanceMethod yX2_decode) ∈ gtbl := gin 375 (by decide +kernel) (by decide +kernel)
theorem q_376 : (Cond.code yX2_decode cX2_decode 3 none) ∈ gtbl := gin 376 (by decide +kernel) (by decide +kernel)
theorem q_377 : (Cond.methodLink RX2 128 yX2_isAboveAnElement) ∈ gtbl := gin 377 (by decide +kernel) (by decide +kernel)
theorem q_379 : (Cond.instanceMethod yX2_isAboveAnElement) ∈ gtbl := gin 379 (by decide +kernel) (by decide +kernel)
theorem q_380 : (Cond.code yX2_isAboveAnElement cX2_isAboveAnElement 2 (some .boolean)) ∈ gtbl := gin 380 (by decide +kernel) (by decide +kernel)
theorem q_381 : (Cond.methodLink RX2 137 yX2_conforms) ∈ gtbl := gin 381 (by decide +kernel) (by decide +kernel)
theorem q_382 : (Cond.instanceMethod yX2_conforms) ∈ gtbl := gin 382 (by decide +kernel) (by decide +kernel)
theorem q_383 : (Cond.selects RX2 yX2_conforms yX2_conforms) ∈ gtbl := gin 383 (by decide +kernel) (by decide +kernel)
theorem q_384 : (Cond.code yX2_conforms cX2_conforms 6 (some .boolean)) ∈ gtbl := gin 384 (by decide +kernel) (by decide +kernel)
theorem q_385 : (Cond.methodLink RX2 44 yX2_at) ∈ gtbl := gin 385 (by decide +kernel) (by decide +kernel)
theorem q_386 : (Cond.instanceMethod yX2_at) ∈ gtbl := gin 386 (by decide +kernel) (by decide +kernel)
theorem q_387 : (Cond.selects RX2 yX2_at yX2_at) ∈ gtbl := gin 387 (by decide +kernel) (by decide +kernel)
theorem q_388 : (Cond.code yX2_at cX2_at 4 (some .int)) ∈ gtbl := gin 388 (by decide +kernel) (by decide +kernel)
theorem q_389 : (Cond.methodLink RX2 131 arraycopyName) ∈ gtbl := gin 389 (by decide +kernel) (by decide +kernel)
theorem q_390 : (Cond.static arraycopyName) ∈ gtbl := gin 390 (by decide +kernel) (by decide +kernel)
theorem q_391 : (Cond.native arraycopyName) ∈ gtbl := gin 391 (by decide +kernel) (by decide +kernel)
theorem q_392 : (Cond.methodLink RX7 211 yX5_switchAllOn) ∈ gtbl := gin 392 (by decide +kernel) (by decide +kernel)
theorem q_393 : (Cond.instanceMethod yX5_switchAllOn) ∈ gtbl := gin 393 (by decide +kernel) (by decide +kernel)
theorem q_394 : (Cond.selects RX5 yX5_switchAllOn yX5_switchAllOn) ∈ gtbl := gin 394 (by decide +kernel) (by decide +kernel)
theorem q_395 : (Cond.code yX5_switchAllOn cX5_switchAllOn 2 none) ∈ gtbl := gin 395 (by decide +kernel) (by decide +kernel)
theorem q_396 : (Cond.fieldLink RX7 12 (TT 7 0).1 (TT 7 0).2.1 (TT 7 0).2.2.1) ∈ gtbl := gin 396 (by decide +kernel) (by decide +kernel)
theorem q_397 : (Cond.fieldLink RX7 19 (TT 7 1).1 (TT 7 1).2.1 (TT 7 1).2.2.1) ∈ gtbl := gin 397 (by decide +kernel) (by decide +kernel)
theorem q_398 : (Cond.fieldLink RX7 26 (TT 7 2).1 (TT 7 2).2.1 (TT 7 2).2.2.1) ∈ gtbl := gin 398 (by decide +kernel) (by decide +kernel)
theorem q_399 : (Cond.fieldLink RX7 33 (TT 7 3).1 (TT 7 3).2.1 (TT 7 3).2.2.1) ∈ gtbl := gin 399 (by decide +kernel) (by decide +kernel)
theorem q_400 : (Cond.fieldLink RX7 40 (TT 7 4).1 (TT 7 4).2.1 (TT 7 4).2.2.1) ∈ gtbl := gin 400 (by decide +kernel) (by decide +kernel)
theorem q_401 : (Cond.fieldLink RX7 49 (TT 7 5).1 (TT 7 5).2.1 (TT 7 5).2.2.1) ∈ gtbl := gin 401 (by decide +kernel) (by decide +kernel)
theorem q_402 : (Cond.fieldLink RX7 53 (TT 7 6).1 (TT 7 6).2.1 (TT 7 6).2.2.1) ∈ gtbl := gin 402 (by decide +kernel) (by decide +kernel)
theorem q_403 : (Cond.fieldLink RX7 59 (TT 7 7).1 (TT 7 7).2.1 (TT 7 7).2.2.1) ∈ gtbl := gin 403 (by decide +kernel) (by decide +kernel)
theorem q_404 : (Cond.fieldLink RX7 63 (TT 7 8).1 (TT 7 8).2.1 (TT 7 8).2.2.1) ∈ gtbl := gin 404 (by decide +kernel) (by decide +kernel)
theorem q_405 : (Cond.fieldLink RX7 202 (TT 7 9).1 (TT 7 9).2.1 (TT 7 9).2.2.1) ∈ gtbl := gin 405 (by decide +kernel) (by decide +kernel)
theorem q_427 : (Cond.methodLink RL 13 yX7_configure) ∈ gtbl := gin 427 (by decide +kernel) (by decide +kernel)
theorem q_428 : (Cond.instanceMethod yX7_configure) ∈ gtbl := gin 428 (by decide +kernel) (by decide +kernel)
theorem q_429 : (Cond.selects RX7 yX7_configure yX7_configure) ∈ gtbl := gin 429 (by decide +kernel) (by decide +kernel)
theorem q_430 : (Cond.code yX7_configure cX7_configure 4 (some .int)) ∈ gtbl := gin 430 (by decide +kernel) (by decide +kernel)
theorem q_431 : (Cond.methodLink RX7 81 yX7_save) ∈ gtbl := gin 431 (by decide +kernel) (by decide +kernel)
theorem q_433 : (Cond.instanceMethod yX7_save) ∈ gtbl := gin 433 (by decide +kernel) (by decide +kernel)
theorem q_434 : (Cond.code yX7_save cX7_save 1 none) ∈ gtbl := gin 434 (by decide +kernel) (by decide +kernel)
theorem q_435 : (Cond.methodLink RX7 209 yX3_save) ∈ gtbl := gin 435 (by decide +kernel) (by decide +kernel)
theorem q_436 : (Cond.instanceMethod yX3_save) ∈ gtbl := gin 436 (by decide +kernel) (by decide +kernel)
theorem q_437 : (Cond.selects RX3 yX3_save yX3_save) ∈ gtbl := gin 437 (by decide +kernel) (by decide +kernel)
theorem q_438 : (Cond.code yX3_save cX3_save 2 none) ∈ gtbl := gin 438 (by decide +kernel) (by decide +kernel)
theorem q_439 : (Cond.methodLink RX3 25 yX5_copyFrom) ∈ gtbl := gin 439 (by decide +kernel) (by decide +kernel)
theorem q_440 : (Cond.instanceMethod yX5_copyFrom) ∈ gtbl := gin 440 (by decide +kernel) (by decide +kernel)
theorem q_441 : (Cond.selects RX5 yX5_copyFrom yX5_copyFrom) ∈ gtbl := gin 441 (by decide +kernel) (by decide +kernel)
theorem q_442 : (Cond.code yX5_copyFrom cX5_copyFrom 2 none) ∈ gtbl := gin 442 (by decide +kernel) (by decide +kernel)
theorem q_443 : (Cond.methodLink RX5 49 arraycopyName) ∈ gtbl := gin 443 (by decide +kernel) (by decide +kernel)
theorem q_444 : (Cond.methodLink RL 18 yX7_setEntry) ∈ gtbl := gin 444 (by decide +kernel) (by decide +kernel)
theorem q_445 : (Cond.instanceMethod yX7_setEntry) ∈ gtbl := gin 445 (by decide +kernel) (by decide +kernel)
theorem q_446 : (Cond.selects RX7 yX7_setEntry yX7_setEntry) ∈ gtbl := gin 446 (by decide +kernel) (by decide +kernel)
theorem q_447 : (Cond.code yX7_setEntry cX7_setEntry 5 (some .int)) ∈ gtbl := gin 447 (by decide +kernel) (by decide +kernel)
theorem q_448 : (Cond.methodLink RX7 84 yX7_isRow) ∈ gtbl := gin 448 (by decide +kernel) (by decide +kernel)
theorem q_450 : (Cond.instanceMethod yX7_isRow) ∈ gtbl := gin 450 (by decide +kernel) (by decide +kernel)
theorem q_451 : (Cond.code yX7_isRow cX7_isRow 2 (some .boolean)) ∈ gtbl := gin 451 (by decide +kernel) (by decide +kernel)
theorem q_452 : (Cond.methodLink RX7 88 yX7_isColumn) ∈ gtbl := gin 452 (by decide +kernel) (by decide +kernel)
theorem q_454 : (Cond.instanceMethod yX7_isColumn) ∈ gtbl := gin 454 (by decide +kernel) (by decide +kernel)
theorem q_455 : (Cond.code yX7_isColumn cX7_isColumn 2 (some .boolean)) ∈ gtbl := gin 455 (by decide +kernel) (by decide +kernel)
theorem q_456 : (Cond.methodLink RX7 91 yX5_at) ∈ gtbl := gin 456 (by decide +kernel) (by decide +kernel)
theorem q_457 : (Cond.methodLink RX7 95 yX5_put) ∈ gtbl := gin 457 (by decide +kernel) (by decide +kernel)
theorem q_458 : (Cond.methodLink RL 23 yX7_append) ∈ gtbl := gin 458 (by decide +kernel) (by decide +kernel)
theorem q_459 : (Cond.instanceMethod yX7_append) ∈ gtbl := gin 459 (by decide +kernel) (by decide +kernel)
theorem q_460 : (Cond.selects RX7 yX7_append yX7_append) ∈ gtbl := gin 460 (by decide +kernel) (by decide +kernel)
theorem q_461 : (Cond.code yX7_append cX7_append 2 (some .int)) ∈ gtbl := gin 461 (by decide +kernel) (by decide +kernel)
theorem q_462 : (Cond.methodLink RX7 102 yX4_add) ∈ gtbl := gin 462 (by decide +kernel) (by decide +kernel)
theorem q_463 : (Cond.instanceMethod yX4_add) ∈ gtbl := gin 463 (by decide +kernel) (by decide +kernel)
theorem q_464 : (Cond.selects RX4 yX4_add yX4_add) ∈ gtbl := gin 464 (by decide +kernel) (by decide +kernel)
theorem q_465 : (Cond.code yX4_add cX4_add 2 none) ∈ gtbl := gin 465 (by decide +kernel) (by decide +kernel)
theorem q_466 : (Cond.methodLink RL 28 yX7_clearText) ∈ gtbl := gin 466 (by decide +kernel) (by decide +kernel)
theorem q_467 : (Cond.instanceMethod yX7_clearText) ∈ gtbl := gin 467 (by decide +kernel) (by decide +kernel)
theorem q_468 : (Cond.selects RX7 yX7_clearText yX7_clearText) ∈ gtbl := gin 468 (by decide +kernel) (by decide +kernel)
theorem q_469 : (Cond.code yX7_clearText cX7_clearText 2 (some .int)) ∈ gtbl := gin 469 (by decide +kernel) (by decide +kernel)
theorem q_470 : (Cond.methodLink RL 33 yX7_loadText) ∈ gtbl := gin 470 (by decide +kernel) (by decide +kernel)
theorem q_471 : (Cond.instanceMethod yX7_loadText) ∈ gtbl := gin 471 (by decide +kernel) (by decide +kernel)
theorem q_472 : (Cond.selects RX7 yX7_loadText yX7_loadText) ∈ gtbl := gin 472 (by decide +kernel) (by decide +kernel)
theorem q_473 : (Cond.code yX7_loadText cX7_loadText 2 (some .int)) ∈ gtbl := gin 473 (by decide +kernel) (by decide +kernel)
theorem q_474 : (Cond.methodLink RX7 105 yX4_findError) ∈ gtbl := gin 474 (by decide +kernel) (by decide +kernel)
theorem q_475 : (Cond.instanceMethod yX4_findError) ∈ gtbl := gin 475 (by decide +kernel) (by decide +kernel)
theorem q_476 : (Cond.selects RX4 yX4_findError yX4_findError) ∈ gtbl := gin 476 (by decide +kernel) (by decide +kernel)
theorem q_477 : (Cond.code yX4_findError cX4_findError 2 (some .int)) ∈ gtbl := gin 477 (by decide +kernel) (by decide +kernel)
theorem q_478 : (Cond.methodLink RX4 28 yX4_takes) ∈ gtbl := gin 478 (by decide +kernel) (by decide +kernel)
theorem q_480 : (Cond.instanceMethod yX4_takes) ∈ gtbl := gin 480 (by decide +kernel) (by decide +kernel)
theorem q_481 : (Cond.code yX4_takes cX4_takes 2 (some .boolean)) ∈ gtbl := gin 481 (by decide +kernel) (by decide +kernel)
theorem q_482 : (Cond.methodLink RX4 39 yX4_takesRowEnd) ∈ gtbl := gin 482 (by decide +kernel) (by decide +kernel)
theorem q_484 : (Cond.instanceMethod yX4_takesRowEnd) ∈ gtbl := gin 484 (by decide +kernel) (by decide +kernel)
theorem q_485 : (Cond.code yX4_takesRowEnd cX4_takesRowEnd 1 (some .boolean)) ∈ gtbl := gin 485 (by decide +kernel) (by decide +kernel)
theorem q_486 : (Cond.methodLink RX4 43 yX4_takesDigit) ∈ gtbl := gin 486 (by decide +kernel) (by decide +kernel)
theorem q_488 : (Cond.instanceMethod yX4_takesDigit) ∈ gtbl := gin 488 (by decide +kernel) (by decide +kernel)
theorem q_489 : (Cond.code yX4_takesDigit cX4_takesDigit 3 (some .boolean)) ∈ gtbl := gin 489 (by decide +kernel) (by decide +kernel)
theorem q_490 : (Cond.methodLink RX4 32 yX4_digitsNeeded) ∈ gtbl := gin 490 (by decide +kernel) (by decide +kernel)
theorem q_492 : (Cond.instanceMethod yX4_digitsNeeded) ∈ gtbl := gin 492 (by decide +kernel) (by decide +kernel)
theorem q_493 : (Cond.code yX4_digitsNeeded cX4_digitsNeeded 1 (some .int)) ∈ gtbl := gin 493 (by decide +kernel) (by decide +kernel)
theorem q_494 : (Cond.methodLink RX7 116 yX5_fillFrom) ∈ gtbl := gin 494 (by decide +kernel) (by decide +kernel)
theorem q_495 : (Cond.instanceMethod yX5_fillFrom) ∈ gtbl := gin 495 (by decide +kernel) (by decide +kernel)
theorem q_496 : (Cond.selects RX5 yX5_fillFrom yX5_fillFrom) ∈ gtbl := gin 496 (by decide +kernel) (by decide +kernel)
theorem q_497 : (Cond.code yX5_fillFrom cX5_fillFrom 4 none) ∈ gtbl := gin 497 (by decide +kernel) (by decide +kernel)
theorem q_498 : (Cond.methodLink RL 37 yX7_entry) ∈ gtbl := gin 498 (by decide +kernel) (by decide +kernel)
theorem q_499 : (Cond.instanceMethod yX7_entry) ∈ gtbl := gin 499 (by decide +kernel) (by decide +kernel)
theorem q_500 : (Cond.selects RX7 yX7_entry yX7_entry) ∈ gtbl := gin 500 (by decide +kernel) (by decide +kernel)
theorem q_501 : (Cond.code yX7_entry cX7_entry 3 (some .int)) ∈ gtbl := gin 501 (by decide +kernel) (by decide +kernel)
theorem q_502 : (Cond.methodLink RL 41 yX7_rank) ∈ gtbl := gin 502 (by decide +kernel) (by decide +kernel)
theorem q_503 : (Cond.instanceMethod yX7_rank) ∈ gtbl := gin 503 (by decide +kernel) (by decide +kernel)
theorem q_504 : (Cond.selects RX7 yX7_rank yX7_rank) ∈ gtbl := gin 504 (by decide +kernel) (by decide +kernel)
theorem q_505 : (Cond.code yX7_rank cX7_rank 1 (some .int)) ∈ gtbl := gin 505 (by decide +kernel) (by decide +kernel)
theorem q_506 : (Cond.methodLink RL 45 yX7_isPositive) ∈ gtbl := gin 506 (by decide +kernel) (by decide +kernel)
theorem q_507 : (Cond.instanceMethod yX7_isPositive) ∈ gtbl := gin 507 (by decide +kernel) (by decide +kernel)
theorem q_508 : (Cond.selects RX7 yX7_isPositive yX7_isPositive) ∈ gtbl := gin 508 (by decide +kernel) (by decide +kernel)
theorem q_509 : (Cond.code yX7_isPositive cX7_isPositive 1 (some .int)) ∈ gtbl := gin 509 (by decide +kernel) (by decide +kernel)
theorem q_510 : (Cond.methodLink RX7 124 yX5_hasNoZeroColumn) ∈ gtbl := gin 510 (by decide +kernel) (by decide +kernel)
theorem q_511 : (Cond.instanceMethod yX5_hasNoZeroColumn) ∈ gtbl := gin 511 (by decide +kernel) (by decide +kernel)
theorem q_512 : (Cond.selects RX5 yX5_hasNoZeroColumn yX5_hasNoZeroColumn) ∈ gtbl := gin 512 (by decide +kernel) (by decide +kernel)
theorem q_513 : (Cond.code yX5_hasNoZeroColumn cX5_hasNoZeroColumn 2 (some .boolean)) ∈ gtbl := gin 513 (by decide +kernel) (by decide +kernel)
theorem q_514 : (Cond.methodLink RX7 128 yX7_asNumber) ∈ gtbl := gin 514 (by decide +kernel) (by decide +kernel)
theorem q_515 : (Cond.static yX7_asNumber) ∈ gtbl := gin 515 (by decide +kernel) (by decide +kernel)
theorem q_516 : (Cond.code yX7_asNumber cX7_asNumber 1 (some .int)) ∈ gtbl := gin 516 (by decide +kernel) (by decide +kernel)
theorem q_517 : (Cond.methodLink RL 49 yX7_graverCount) ∈ gtbl := gin 517 (by decide +kernel) (by decide +kernel)
theorem q_518 : (Cond.instanceMethod yX7_graverCount) ∈ gtbl := gin 518 (by decide +kernel) (by decide +kernel)
theorem q_519 : (Cond.selects RX7 yX7_graverCount yX7_graverCount) ∈ gtbl := gin 519 (by decide +kernel) (by decide +kernel)
theorem q_520 : (Cond.code yX7_graverCount cX7_graverCount 1 (some .int)) ∈ gtbl := gin 520 (by decide +kernel) (by decide +kernel)
theorem q_521 : (Cond.methodLink RL 53 yX7_graverEntry) ∈ gtbl := gin 521 (by decide +kernel) (by decide +kernel)
theorem q_522 : (Cond.instanceMethod yX7_graverEntry) ∈ gtbl := gin 522 (by decide +kernel) (by decide +kernel)
theorem q_523 : (Cond.selects RX7 yX7_graverEntry yX7_graverEntry) ∈ gtbl := gin 523 (by decide +kernel) (by decide +kernel)
theorem q_524 : (Cond.code yX7_graverEntry cX7_graverEntry 3 (some .int)) ∈ gtbl := gin 524 (by decide +kernel) (by decide +kernel)
theorem q_525 : (Cond.methodLink RX7 135 yX7_isElement) ∈ gtbl := gin 525 (by decide +kernel) (by decide +kernel)
theorem q_527 : (Cond.instanceMethod yX7_isElement) ∈ gtbl := gin 527 (by decide +kernel) (by decide +kernel)
theorem q_528 : (Cond.code yX7_isElement cX7_isElement 2 (some .boolean)) ∈ gtbl := gin 528 (by decide +kernel) (by decide +kernel)
theorem q_529 : (Cond.methodLink RX7 138 yX2_at) ∈ gtbl := gin 529 (by decide +kernel) (by decide +kernel)
theorem q_530 : (Cond.methodLink RL 57 yX7_isCircuit) ∈ gtbl := gin 530 (by decide +kernel) (by decide +kernel)
theorem q_531 : (Cond.instanceMethod yX7_isCircuit) ∈ gtbl := gin 531 (by decide +kernel) (by decide +kernel)
theorem q_532 : (Cond.selects RX7 yX7_isCircuit yX7_isCircuit) ∈ gtbl := gin 532 (by decide +kernel) (by decide +kernel)
theorem q_533 : (Cond.code yX7_isCircuit cX7_isCircuit 2 (some .int)) ∈ gtbl := gin 533 (by decide +kernel) (by decide +kernel)
theorem q_534 : (Cond.methodLink RX7 139 yX2_hasLeastSupport) ∈ gtbl := gin 534 (by decide +kernel) (by decide +kernel)
theorem q_535 : (Cond.instanceMethod yX2_hasLeastSupport) ∈ gtbl := gin 535 (by decide +kernel) (by decide +kernel)
theorem q_536 : (Cond.selects RX2 yX2_hasLeastSupport yX2_hasLeastSupport) ∈ gtbl := gin 536 (by decide +kernel) (by decide +kernel)
theorem q_537 : (Cond.code yX2_hasLeastSupport cX2_hasLeastSupport 5 (some .boolean)) ∈ gtbl := gin 537 (by decide +kernel) (by decide +kernel)
theorem q_538 : (Cond.methodLink RX2 54 yX2_support) ∈ gtbl := gin 538 (by decide +kernel) (by decide +kernel)
theorem q_540 : (Cond.instanceMethod yX2_support) ∈ gtbl := gin 540 (by decide +kernel) (by decide +kernel)
theorem q_541 : (Cond.code yX2_support cX2_support 4 (some .int)) ∈ gtbl := gin 541 (by decide +kernel) (by decide +kernel)
theorem q_542 : (Cond.methodLink RL 61 yX7_isIndispensable) ∈ gtbl := gin 542 (by decide +kernel) (by decide +kernel)
theorem q_543 : (Cond.instanceMethod yX7_isIndispensable) ∈ gtbl := gin 543 (by decide +kernel) (by decide +kernel)
theorem q_544 : (Cond.selects RX7 yX7_isIndispensable yX7_isIndispensable) ∈ gtbl := gin 544 (by decide +kernel) (by decide +kernel)
theorem q_545 : (Cond.code yX7_isIndispensable cX7_isIndispensable 2 (some .int)) ∈ gtbl := gin 545 (by decide +kernel) (by decide +kernel)
theorem q_546 : (Cond.methodLink RX7 142 yX7_buildElementFiber) ∈ gtbl := gin 546 (by decide +kernel) (by decide +kernel)
theorem q_548 : (Cond.instanceMethod yX7_buildElementFiber) ∈ gtbl := gin 548 (by decide +kernel) (by decide +kernel)
theorem q_549 : (Cond.code yX7_buildElementFiber cX7_buildElementFiber 2 none) ∈ gtbl := gin 549 (by decide +kernel) (by decide +kernel)
theorem q_550 : (Cond.methodLink RX7 217 yX2_copyPart) ∈ gtbl := gin 550 (by decide +kernel) (by decide +kernel)
theorem q_551 : (Cond.instanceMethod yX2_copyPart) ∈ gtbl := gin 551 (by decide +kernel) (by decide +kernel)
theorem q_552 : (Cond.selects RX2 yX2_copyPart yX2_copyPart) ∈ gtbl := gin 552 (by decide +kernel) (by decide +kernel)
theorem q_553 : (Cond.code yX2_copyPart cX2_copyPart 5 none) ∈ gtbl := gin 553 (by decide +kernel) (by decide +kernel)
theorem q_554 : (Cond.methodLink RX2 60 yJ9_max_7cf53) ∈ gtbl := gin 554 (by decide +kernel) (by decide +kernel)
theorem q_555 : (Cond.static yJ9_max_7cf53) ∈ gtbl := gin 555 (by decide +kernel) (by decide +kernel)
theorem q_556 : (Cond.code yJ9_max_7cf53 cJ9_max_7cf53 2 (some .int)) ∈ gtbl := gin 556 (by decide +kernel) (by decide +kernel)
theorem q_557 : (Cond.methodLink RX7 214 yX1_build) ∈ gtbl := gin 557 (by decide +kernel) (by decide +kernel)
theorem q_558 : (Cond.instanceMethod yX1_build) ∈ gtbl := gin 558 (by decide +kernel) (by decide +kernel)
theorem q_559 : (Cond.selects RX1 yX1_build yX1_build) ∈ gtbl := gin 559 (by decide +kernel) (by decide +kernel)
theorem q_560 : (Cond.code yX1_build cX1_build 11 none) ∈ gtbl := gin 560 (by decide +kernel) (by decide +kernel)
theorem q_561 : (Cond.methodLink RX1 21 yX1_takeColumns) ∈ gtbl := gin 561 (by decide +kernel) (by decide +kernel)
theorem q_563 : (Cond.instanceMethod yX1_takeColumns) ∈ gtbl := gin 563 (by decide +kernel) (by decide +kernel)
theorem q_564 : (Cond.code yX1_takeColumns cX1_takeColumns 5 none) ∈ gtbl := gin 564 (by decide +kernel) (by decide +kernel)
theorem q_565 : (Cond.methodLink RX1 58 yX5_at) ∈ gtbl := gin 565 (by decide +kernel) (by decide +kernel)
theorem q_566 : (Cond.methodLink RX1 29 yX5_product) ∈ gtbl := gin 566 (by decide +kernel) (by decide +kernel)
theorem q_567 : (Cond.methodLink RX1 35 yX1_most) ∈ gtbl := gin 567 (by decide +kernel) (by decide +kernel)
theorem q_569 : (Cond.instanceMethod yX1_most) ∈ gtbl := gin 569 (by decide +kernel) (by decide +kernel)
theorem q_570 : (Cond.code yX1_most cX1_most 5 (some .int)) ∈ gtbl := gin 570 (by decide +kernel) (by decide +kernel)
theorem q_571 : (Cond.methodLink RX1 59 yJ9_min_7cf53) ∈ gtbl := gin 571 (by decide +kernel) (by decide +kernel)
theorem q_572 : (Cond.static yJ9_min_7cf53) ∈ gtbl := gin 572 (by decide +kernel) (by decide +kernel)
theorem q_573 : (Cond.code yJ9_min_7cf53 cJ9_min_7cf53 2 (some .int)) ∈ gtbl := gin 573 (by decide +kernel) (by decide +kernel)
theorem q_574 : (Cond.methodLink RX1 39 yX1_addRows) ∈ gtbl := gin 574 (by decide +kernel) (by decide +kernel)
theorem q_576 : (Cond.instanceMethod yX1_addRows) ∈ gtbl := gin 576 (by decide +kernel) (by decide +kernel)
theorem q_577 : (Cond.code yX1_addRows cX1_addRows 6 none) ∈ gtbl := gin 577 (by decide +kernel) (by decide +kernel)
theorem q_578 : (Cond.methodLink RX1 64 yX1_addIfExact) ∈ gtbl := gin 578 (by decide +kernel) (by decide +kernel)
theorem q_580 : (Cond.instanceMethod yX1_addIfExact) ∈ gtbl := gin 580 (by decide +kernel) (by decide +kernel)
theorem q_581 : (Cond.code yX1_addIfExact cX1_addIfExact 5 none) ∈ gtbl := gin 581 (by decide +kernel) (by decide +kernel)
theorem q_582 : (Cond.methodLink RL 65 yX7_setVector) ∈ gtbl := gin 582 (by decide +kernel) (by decide +kernel)
theorem q_583 : (Cond.instanceMethod yX7_setVector) ∈ gtbl := gin 583 (by decide +kernel) (by decide +kernel)
theorem q_584 : (Cond.selects RX7 yX7_setVector yX7_setVector) ∈ gtbl := gin 584 (by decide +kernel) (by decide +kernel)
theorem q_585 : (Cond.code yX7_setVector cX7_setVector 4 (some .int)) ∈ gtbl := gin 585 (by decide +kernel) (by decide +kernel)
theorem q_586 : (Cond.methodLink RL 69 yX7_isInKernel) ∈ gtbl := gin 586 (by decide +kernel) (by decide +kernel)
theorem q_587 : (Cond.instanceMethod yX7_isInKernel) ∈ gtbl := gin 587 (by decide +kernel) (by decide +kernel)
theorem q_588 : (Cond.selects RX7 yX7_isInKernel yX7_isInKernel) ∈ gtbl := gin 588 (by decide +kernel) (by decide +kernel)
theorem q_589 : (Cond.code yX7_isInKernel cX7_isInKernel 1 (some .int)) ∈ gtbl := gin 589 (by decide +kernel) (by decide +kernel)
theorem q_590 : (Cond.methodLink RX7 151 yX5_hasVectorInKernel) ∈ gtbl := gin 590 (by decide +kernel) (by decide +kernel)
theorem q_591 : (Cond.instanceMethod yX5_hasVectorInKernel) ∈ gtbl := gin 591 (by decide +kernel) (by decide +kernel)
theorem q_592 : (Cond.selects RX5 yX5_hasVectorInKernel yX5_hasVectorInKernel) ∈ gtbl := gin 592 (by decide +kernel) (by decide +kernel)
theorem q_593 : (Cond.code yX5_hasVectorInKernel cX5_hasVectorInKernel 1 (some .boolean)) ∈ gtbl := gin 593 (by decide +kernel) (by decide +kernel)
theorem q_594 : (Cond.methodLink RX5 36 yX5_product) ∈ gtbl := gin 594 (by decide +kernel) (by decide +kernel)
theorem q_595 : (Cond.methodLink RL 73 yX7_decompositionLength) ∈ gtbl := gin 595 (by decide +kernel) (by decide +kernel)
theorem q_596 : (Cond.instanceMethod yX7_decompositionLength) ∈ gtbl := gin 596 (by decide +kernel) (by decide +kernel)
theorem q_597 : (Cond.selects RX7 yX7_decompositionLength yX7_decompositionLength) ∈ gtbl := gin 597 (by decide +kernel) (by decide +kernel)
theorem q_598 : (Cond.code yX7_decompositionLength cX7_decompositionLength 1 (some .int)) ∈ gtbl := gin 598 (by decide +kernel) (by decide +kernel)
theorem q_599 : (Cond.methodLink RX7 154 yX0_find) ∈ gtbl := gin 599 (by decide +kernel) (by decide +kernel)
theorem q_600 : (Cond.instanceMethod yX0_find) ∈ gtbl := gin 600 (by decide +kernel) (by decide +kernel)
theorem q_601 : (Cond.selects RX0 yX0_find yX0_find) ∈ gtbl := gin 601 (by decide +kernel) (by decide +kernel)
theorem q_602 : (Cond.code yX0_find cX0_find 4 none) ∈ gtbl := gin 602 (by decide +kernel) (by decide +kernel)
theorem q_603 : (Cond.methodLink RX0 18 arraycopyName) ∈ gtbl := gin 603 (by decide +kernel) (by decide +kernel)
theorem q_604 : (Cond.methodLink RX0 33 yX0_takeWhileConformal) ∈ gtbl := gin 604 (by decide +kernel) (by decide +kernel)
theorem q_606 : (Cond.instanceMethod yX0_takeWhileConformal) ∈ gtbl := gin 606 (by decide +kernel) (by decide +kernel)
theorem q_607 : (Cond.code yX0_takeWhileConformal cX0_takeWhileConformal 5 none) ∈ gtbl := gin 607 (by decide +kernel) (by decide +kernel)
theorem q_608 : (Cond.methodLink RX0 37 yX2_conforms) ∈ gtbl := gin 608 (by decide +kernel) (by decide +kernel)
theorem q_609 : (Cond.methodLink RX0 44 yX2_at) ∈ gtbl := gin 609 (by decide +kernel) (by decide +kernel)
theorem q_610 : (Cond.methodLink RL 77 yX7_decompositionStep) ∈ gtbl := gin 610 (by decide +kernel) (by decide +kernel)
theorem q_611 : (Cond.instanceMethod yX7_decompositionStep) ∈ gtbl := gin 611 (by decide +kernel) (by decide +kernel)
theorem q_612 : (Cond.selects RX7 yX7_decompositionStep yX7_decompositionStep) ∈ gtbl := gin 612 (by decide +kernel) (by decide +kernel)
theorem q_613 : (Cond.code yX7_decompositionStep cX7_decompositionStep 2 (some .int)) ∈ gtbl := gin 613 (by decide +kernel) (by decide +kernel)
theorem q_614 : (Cond.methodLink RL 81 yX7_setPoint) ∈ gtbl := gin 614 (by decide +kernel) (by decide +kernel)
theorem q_615 : (Cond.instanceMethod yX7_setPoint) ∈ gtbl := gin 615 (by decide +kernel) (by decide +kernel)
theorem q_616 : (Cond.selects RX7 yX7_setPoint yX7_setPoint) ∈ gtbl := gin 616 (by decide +kernel) (by decide +kernel)
theorem q_617 : (Cond.code yX7_setPoint cX7_setPoint 4 (some .int)) ∈ gtbl := gin 617 (by decide +kernel) (by decide +kernel)
theorem q_618 : (Cond.methodLink RL 85 yX7_fiberSize) ∈ gtbl := gin 618 (by decide +kernel) (by decide +kernel)
theorem q_619 : (Cond.instanceMethod yX7_fiberSize) ∈ gtbl := gin 619 (by decide +kernel) (by decide +kernel)
theorem q_620 : (Cond.selects RX7 yX7_fiberSize yX7_fiberSize) ∈ gtbl := gin 620 (by decide +kernel) (by decide +kernel)
theorem q_621 : (Cond.code yX7_fiberSize cX7_fiberSize 1 (some .int)) ∈ gtbl := gin 621 (by decide +kernel) (by decide +kernel)
theorem q_622 : (Cond.methodLink RX7 165 yX7_buildPointFiber) ∈ gtbl := gin 622 (by decide +kernel) (by decide +kernel)
theorem q_624 : (Cond.instanceMethod yX7_buildPointFiber) ∈ gtbl := gin 624 (by decide +kernel) (by decide +kernel)
theorem q_625 : (Cond.code yX7_buildPointFiber cX7_buildPointFiber 1 none) ∈ gtbl := gin 625 (by decide +kernel) (by decide +kernel)
theorem q_626 : (Cond.methodLink RL 89 yX7_fiberEntry) ∈ gtbl := gin 626 (by decide +kernel) (by decide +kernel)
theorem q_627 : (Cond.instanceMethod yX7_fiberEntry) ∈ gtbl := gin 627 (by decide +kernel) (by decide +kernel)
theorem q_628 : (Cond.selects RX7 yX7_fiberEntry yX7_fiberEntry) ∈ gtbl := gin 628 (by decide +kernel) (by decide +kernel)
theorem q_629 : (Cond.code yX7_fiberEntry cX7_fiberEntry 3 (some .int)) ∈ gtbl := gin 629 (by decide +kernel) (by decide +kernel)
theorem q_630 : (Cond.methodLink RX7 168 yX1_at) ∈ gtbl := gin 630 (by decide +kernel) (by decide +kernel)
theorem q_631 : (Cond.instanceMethod yX1_at) ∈ gtbl := gin 631 (by decide +kernel) (by decide +kernel)
theorem q_632 : (Cond.selects RX1 yX1_at yX1_at) ∈ gtbl := gin 632 (by decide +kernel) (by decide +kernel)
theorem q_633 : (Cond.code yX1_at cX1_at 3 (some .int)) ∈ gtbl := gin 633 (by decide +kernel) (by decide +kernel)
theorem q_634 : (Cond.methodLink RL 93 yX7_activate) ∈ gtbl := gin 634 (by decide +kernel) (by decide +kernel)
theorem q_635 : (Cond.instanceMethod yX7_activate) ∈ gtbl := gin 635 (by decide +kernel) (by decide +kernel)
theorem q_636 : (Cond.selects RX7 yX7_activate yX7_activate) ∈ gtbl := gin 636 (by decide +kernel) (by decide +kernel)
theorem q_637 : (Cond.code yX7_activate cX7_activate 3 (some .int)) ∈ gtbl := gin 637 (by decide +kernel) (by decide +kernel)
theorem q_638 : (Cond.methodLink RX7 169 yX5_isOn) ∈ gtbl := gin 638 (by decide +kernel) (by decide +kernel)
theorem q_639 : (Cond.instanceMethod yX5_isOn) ∈ gtbl := gin 639 (by decide +kernel) (by decide +kernel)
theorem q_640 : (Cond.selects RX5 yX5_isOn yX5_isOn) ∈ gtbl := gin 640 (by decide +kernel) (by decide +kernel)
theorem q_641 : (Cond.code yX5_isOn cX5_isOn 2 (some .boolean)) ∈ gtbl := gin 641 (by decide +kernel) (by decide +kernel)
theorem q_642 : (Cond.methodLink RX7 172 yX5_switchTo) ∈ gtbl := gin 642 (by decide +kernel) (by decide +kernel)
theorem q_643 : (Cond.instanceMethod yX5_switchTo) ∈ gtbl := gin 643 (by decide +kernel) (by decide +kernel)
theorem q_644 : (Cond.selects RX5 yX5_switchTo yX5_switchTo) ∈ gtbl := gin 644 (by decide +kernel) (by decide +kernel)
theorem q_645 : (Cond.code yX5_switchTo cX5_switchTo 4 none) ∈ gtbl := gin 645 (by decide +kernel) (by decide +kernel)
theorem q_646 : (Cond.methodLink RX7 176 yX5_countOn) ∈ gtbl := gin 646 (by decide +kernel) (by decide +kernel)
theorem q_647 : (Cond.instanceMethod yX5_countOn) ∈ gtbl := gin 647 (by decide +kernel) (by decide +kernel)
theorem q_648 : (Cond.selects RX5 yX5_countOn yX5_countOn) ∈ gtbl := gin 648 (by decide +kernel) (by decide +kernel)
theorem q_649 : (Cond.code yX5_countOn cX5_countOn 1 (some .int)) ∈ gtbl := gin 649 (by decide +kernel) (by decide +kernel)
theorem q_650 : (Cond.methodLink RX5 43 yJ6_bitCount_0f7a4) ∈ gtbl := gin 650 (by decide +kernel) (by decide +kernel)
theorem q_651 : (Cond.static yJ6_bitCount_0f7a4) ∈ gtbl := gin 651 (by decide +kernel) (by decide +kernel)
theorem q_652 : (Cond.code yJ6_bitCount_0f7a4 cJ6_bitCount_0f7a4 1 (some .int)) ∈ gtbl := gin 652 (by decide +kernel) (by decide +kernel)
theorem q_653 : (Cond.constant RJ6 265 (1431655765)) ∈ gtbl := gin 653 (by decide +kernel) (by decide +kernel)
theorem q_654 : (Cond.constant RJ6 266 (858993459)) ∈ gtbl := gin 654 (by decide +kernel) (by decide +kernel)
theorem q_655 : (Cond.constant RJ6 267 (252645135)) ∈ gtbl := gin 655 (by decide +kernel) (by decide +kernel)
theorem q_656 : (Cond.methodLink RL 97 yX7_isActive) ∈ gtbl := gin 656 (by decide +kernel) (by decide +kernel)
theorem q_657 : (Cond.instanceMethod yX7_isActive) ∈ gtbl := gin 657 (by decide +kernel) (by decide +kernel)
theorem q_658 : (Cond.selects RX7 yX7_isActive yX7_isActive) ∈ gtbl := gin 658 (by decide +kernel) (by decide +kernel)
theorem q_659 : (Cond.code yX7_isActive cX7_isActive 2 (some .int)) ∈ gtbl := gin 659 (by decide +kernel) (by decide +kernel)
theorem q_660 : (Cond.methodLink RL 101 yX7_classes) ∈ gtbl := gin 660 (by decide +kernel) (by decide +kernel)
theorem q_661 : (Cond.instanceMethod yX7_classes) ∈ gtbl := gin 661 (by decide +kernel) (by decide +kernel)
theorem q_662 : (Cond.selects RX7 yX7_classes yX7_classes) ∈ gtbl := gin 662 (by decide +kernel) (by decide +kernel)
theorem q_663 : (Cond.code yX7_classes cX7_classes 1 (some .int)) ∈ gtbl := gin 663 (by decide +kernel) (by decide +kernel)
theorem q_664 : (Cond.methodLink RX7 179 yX6_countClasses) ∈ gtbl := gin 664 (by decide +kernel) (by decide +kernel)
theorem q_665 : (Cond.instanceMethod yX6_countClasses) ∈ gtbl := gin 665 (by decide +kernel) (by decide +kernel)
theorem q_666 : (Cond.selects RX6 yX6_countClasses yX6_countClasses) ∈ gtbl := gin 666 (by decide +kernel) (by decide +kernel)
theorem q_667 : (Cond.code yX6_countClasses cX6_countClasses 6 (some .int)) ∈ gtbl := gin 667 (by decide +kernel) (by decide +kernel)
theorem q_668 : (Cond.methodLink RX6 18 yX6_forget) ∈ gtbl := gin 668 (by decide +kernel) (by decide +kernel)
theorem q_670 : (Cond.instanceMethod yX6_forget) ∈ gtbl := gin 670 (by decide +kernel) (by decide +kernel)
theorem q_671 : (Cond.code yX6_forget cX6_forget 3 none) ∈ gtbl := gin 671 (by decide +kernel) (by decide +kernel)
theorem q_672 : (Cond.methodLink RX6 28 yX6_reachFrom) ∈ gtbl := gin 672 (by decide +kernel) (by decide +kernel)
theorem q_674 : (Cond.instanceMethod yX6_reachFrom) ∈ gtbl := gin 674 (by decide +kernel) (by decide +kernel)
theorem q_675 : (Cond.code yX6_reachFrom cX6_reachFrom 9 none) ∈ gtbl := gin 675 (by decide +kernel) (by decide +kernel)
theorem q_676 : (Cond.methodLink RX6 35 yX6_reach) ∈ gtbl := gin 676 (by decide +kernel) (by decide +kernel)
theorem q_678 : (Cond.instanceMethod yX6_reach) ∈ gtbl := gin 678 (by decide +kernel) (by decide +kernel)
theorem q_679 : (Cond.code yX6_reach cX6_reach 3 none) ∈ gtbl := gin 679 (by decide +kernel) (by decide +kernel)
theorem q_680 : (Cond.methodLink RX6 44 yX5_isOn) ∈ gtbl := gin 680 (by decide +kernel) (by decide +kernel)
theorem q_681 : (Cond.methodLink RX6 50 yX1_numberAfterStep) ∈ gtbl := gin 681 (by decide +kernel) (by decide +kernel)
theorem q_682 : (Cond.instanceMethod yX1_numberAfterStep) ∈ gtbl := gin 682 (by decide +kernel) (by decide +kernel)
theorem q_683 : (Cond.selects RX1 yX1_numberAfterStep yX1_numberAfterStep) ∈ gtbl := gin 683 (by decide +kernel) (by decide +kernel)
theorem q_684 : (Cond.code yX1_numberAfterStep cX1_numberAfterStep 8 (some .int)) ∈ gtbl := gin 684 (by decide +kernel) (by decide +kernel)
theorem q_685 : (Cond.methodLink RX1 50 yX1_at) ∈ gtbl := gin 685 (by decide +kernel) (by decide +kernel)
theorem q_686 : (Cond.methodLink RX1 54 yX2_at) ∈ gtbl := gin 686 (by decide +kernel) (by decide +kernel)
theorem q_687 : (Cond.methodLink RX1 46 yX1_numberOfPacked) ∈ gtbl := gin 687 (by decide +kernel) (by decide +kernel)
theorem q_689 : (Cond.instanceMethod yX1_numberOfPacked) ∈ gtbl := gin 689 (by decide +kernel) (by decide +kernel)
theorem q_690 : (Cond.code yX1_numberOfPacked cX1_numberOfPacked 4 (some .int)) ∈ gtbl := gin 690 (by decide +kernel) (by decide +kernel)
theorem q_691 : (Cond.methodLink RL 105 yX7_distance) ∈ gtbl := gin 691 (by decide +kernel) (by decide +kernel)
theorem q_692 : (Cond.instanceMethod yX7_distance) ∈ gtbl := gin 692 (by decide +kernel) (by decide +kernel)
theorem q_693 : (Cond.selects RX7 yX7_distance yX7_distance) ∈ gtbl := gin 693 (by decide +kernel) (by decide +kernel)
theorem q_694 : (Cond.code yX7_distance cX7_distance 4 (some .int)) ∈ gtbl := gin 694 (by decide +kernel) (by decide +kernel)
theorem q_695 : (Cond.methodLink RX7 183 yX1_numberOf) ∈ gtbl := gin 695 (by decide +kernel) (by decide +kernel)
theorem q_696 : (Cond.instanceMethod yX1_numberOf) ∈ gtbl := gin 696 (by decide +kernel) (by decide +kernel)
theorem q_697 : (Cond.selects RX1 yX1_numberOf yX1_numberOf) ∈ gtbl := gin 697 (by decide +kernel) (by decide +kernel)
theorem q_698 : (Cond.code yX1_numberOf cX1_numberOf 4 (some .int)) ∈ gtbl := gin 698 (by decide +kernel) (by decide +kernel)
theorem q_699 : (Cond.methodLink RX7 187 yX6_countSteps) ∈ gtbl := gin 699 (by decide +kernel) (by decide +kernel)
theorem q_700 : (Cond.instanceMethod yX6_countSteps) ∈ gtbl := gin 700 (by decide +kernel) (by decide +kernel)
theorem q_701 : (Cond.selects RX6 yX6_countSteps yX6_countSteps) ∈ gtbl := gin 701 (by decide +kernel) (by decide +kernel)
theorem q_702 : (Cond.code yX6_countSteps cX6_countSteps 6 (some .int)) ∈ gtbl := gin 702 (by decide +kernel) (by decide +kernel)
theorem q_703 : (Cond.methodLink RL 109 yX7_isMarkov) ∈ gtbl := gin 703 (by decide +kernel) (by decide +kernel)
theorem q_704 : (Cond.instanceMethod yX7_isMarkov) ∈ gtbl := gin 704 (by decide +kernel) (by decide +kernel)
theorem q_705 : (Cond.selects RX7 yX7_isMarkov yX7_isMarkov) ∈ gtbl := gin 705 (by decide +kernel) (by decide +kernel)
theorem q_706 : (Cond.code yX7_isMarkov cX7_isMarkov 1 (some .int)) ∈ gtbl := gin 706 (by decide +kernel) (by decide +kernel)
theorem q_707 : (Cond.methodLink RX7 191 yX7_isMarkovBasis) ∈ gtbl := gin 707 (by decide +kernel) (by decide +kernel)
theorem q_709 : (Cond.instanceMethod yX7_isMarkovBasis) ∈ gtbl := gin 709 (by decide +kernel) (by decide +kernel)
theorem q_710 : (Cond.code yX7_isMarkovBasis cX7_isMarkovBasis 2 (some .boolean)) ∈ gtbl := gin 710 (by decide +kernel) (by decide +kernel)
theorem q_711 : (Cond.methodLink RX7 221 yX7_joinsItsParts) ∈ gtbl := gin 711 (by decide +kernel) (by decide +kernel)
theorem q_713 : (Cond.instanceMethod yX7_joinsItsParts) ∈ gtbl := gin 713 (by decide +kernel) (by decide +kernel)
theorem q_714 : (Cond.code yX7_joinsItsParts cX7_joinsItsParts 4 (some .boolean)) ∈ gtbl := gin 714 (by decide +kernel) (by decide +kernel)
theorem q_715 : (Cond.methodLink RL 113 yX7_reduce) ∈ gtbl := gin 715 (by decide +kernel) (by decide +kernel)
theorem q_716 : (Cond.instanceMethod yX7_reduce) ∈ gtbl := gin 716 (by decide +kernel) (by decide +kernel)
theorem q_717 : (Cond.selects RX7 yX7_reduce yX7_reduce) ∈ gtbl := gin 717 (by decide +kernel) (by decide +kernel)
theorem q_718 : (Cond.code yX7_reduce cX7_reduce 2 (some .int)) ∈ gtbl := gin 718 (by decide +kernel) (by decide +kernel)
theorem q_719 : (Cond.methodLink RX7 194 yX7_switchOffIfSpare) ∈ gtbl := gin 719 (by decide +kernel) (by decide +kernel)
theorem q_721 : (Cond.instanceMethod yX7_switchOffIfSpare) ∈ gtbl := gin 721 (by decide +kernel) (by decide +kernel)
theorem q_722 : (Cond.code yX7_switchOffIfSpare cX7_switchOffIfSpare 2 none) ∈ gtbl := gin 722 (by decide +kernel) (by decide +kernel)
theorem q_723 : (Cond.methodLink RL 117 yX7_undo) ∈ gtbl := gin 723 (by decide +kernel) (by decide +kernel)
theorem q_724 : (Cond.instanceMethod yX7_undo) ∈ gtbl := gin 724 (by decide +kernel) (by decide +kernel)
theorem q_725 : (Cond.selects RX7 yX7_undo yX7_undo) ∈ gtbl := gin 725 (by decide +kernel) (by decide +kernel)
theorem q_726 : (Cond.code yX7_undo cX7_undo 1 (some .int)) ∈ gtbl := gin 726 (by decide +kernel) (by decide +kernel)
theorem q_727 : (Cond.methodLink RX7 198 yX3_restore) ∈ gtbl := gin 727 (by decide +kernel) (by decide +kernel)
theorem q_728 : (Cond.instanceMethod yX3_restore) ∈ gtbl := gin 728 (by decide +kernel) (by decide +kernel)
theorem q_729 : (Cond.selects RX3 yX3_restore yX3_restore) ∈ gtbl := gin 729 (by decide +kernel) (by decide +kernel)
theorem q_730 : (Cond.code yX3_restore cX3_restore 2 none) ∈ gtbl := gin 730 (by decide +kernel) (by decide +kernel)
theorem q_731 : (Cond.classLink RL 10 RX8) ∈ gtbl := gin 731 (by decide +kernel) (by decide +kernel)
theorem q_732 : (Cond.instantiable RX8 21) ∈ gtbl := gin 732 (by decide +kernel) (by decide +kernel)
theorem q_733 : (Cond.methodLink RL 12 yX8_init) ∈ gtbl := gin 733 (by decide +kernel) (by decide +kernel)
theorem q_734 : (Cond.instanceMethod yX8_init) ∈ gtbl := gin 734 (by decide +kernel) (by decide +kernel)
theorem q_735 : (Cond.code yX8_init cX8_init 1 none) ∈ gtbl := gin 735 (by decide +kernel) (by decide +kernel)
theorem q_736 : (Cond.methodLink RX8 1 objectInit) ∈ gtbl := gin 736 (by decide +kernel) (by decide +kernel)
theorem q_737 : (Cond.methodLink RX8 52 yX8_begin) ∈ gtbl := gin 737 (by decide +kernel) (by decide +kernel)
theorem q_739 : (Cond.instanceMethod yX8_begin) ∈ gtbl := gin 739 (by decide +kernel) (by decide +kernel)
theorem q_740 : (Cond.code yX8_begin cX8_begin 4 none) ∈ gtbl := gin 740 (by decide +kernel) (by decide +kernel)
theorem q_741 : (Cond.methodLink RX8 64 yX8_changed) ∈ gtbl := gin 741 (by decide +kernel) (by decide +kernel)
theorem q_743 : (Cond.instanceMethod yX8_changed) ∈ gtbl := gin 743 (by decide +kernel) (by decide +kernel)
theorem q_744 : (Cond.code yX8_changed cX8_changed 2 none) ∈ gtbl := gin 744 (by decide +kernel) (by decide +kernel)
theorem q_745 : (Cond.methodLink RX8 67 yX8_layBasis) ∈ gtbl := gin 745 (by decide +kernel) (by decide +kernel)
theorem q_747 : (Cond.instanceMethod yX8_layBasis) ∈ gtbl := gin 747 (by decide +kernel) (by decide +kernel)
theorem q_748 : (Cond.code yX8_layBasis cX8_layBasis 6 none) ∈ gtbl := gin 748 (by decide +kernel) (by decide +kernel)
theorem q_749 : (Cond.methodLink RX8 102 yX8_rankOf) ∈ gtbl := gin 749 (by decide +kernel) (by decide +kernel)
theorem q_751 : (Cond.instanceMethod yX8_rankOf) ∈ gtbl := gin 751 (by decide +kernel) (by decide +kernel)
theorem q_752 : (Cond.code yX8_rankOf cX8_rankOf 6 (some .int)) ∈ gtbl := gin 752 (by decide +kernel) (by decide +kernel)
theorem q_753 : (Cond.methodLink RX8 73 yX8_at) ∈ gtbl := gin 753 (by decide +kernel) (by decide +kernel)
theorem q_755 : (Cond.instanceMethod yX8_at) ∈ gtbl := gin 755 (by decide +kernel) (by decide +kernel)
theorem q_756 : (Cond.code yX8_at cX8_at 3 (some .int)) ∈ gtbl := gin 756 (by decide +kernel) (by decide +kernel)
theorem q_757 : (Cond.methodLink RX8 106 yX8_layKernel) ∈ gtbl := gin 757 (by decide +kernel) (by decide +kernel)
theorem q_759 : (Cond.instanceMethod yX8_layKernel) ∈ gtbl := gin 759 (by decide +kernel) (by decide +kernel)
theorem q_760 : (Cond.code yX8_layKernel cX8_layKernel 8 none) ∈ gtbl := gin 760 (by decide +kernel) (by decide +kernel)
theorem q_761 : (Cond.methodLink RX8 88 yX8_lastEntry) ∈ gtbl := gin 761 (by decide +kernel) (by decide +kernel)
theorem q_763 : (Cond.instanceMethod yX8_lastEntry) ∈ gtbl := gin 763 (by decide +kernel) (by decide +kernel)
theorem q_764 : (Cond.code yX8_lastEntry cX8_lastEntry 9 (some .int)) ∈ gtbl := gin 764 (by decide +kernel) (by decide +kernel)
theorem q_765 : (Cond.methodLink RX8 77 yX8_product) ∈ gtbl := gin 765 (by decide +kernel) (by decide +kernel)
theorem q_767 : (Cond.instanceMethod yX8_product) ∈ gtbl := gin 767 (by decide +kernel) (by decide +kernel)
theorem q_768 : (Cond.code yX8_product cX8_product 7 (some .int)) ∈ gtbl := gin 768 (by decide +kernel) (by decide +kernel)
theorem q_769 : (Cond.methodLink RX8 81 yX8_size) ∈ gtbl := gin 769 (by decide +kernel) (by decide +kernel)
theorem q_770 : (Cond.static yX8_size) ∈ gtbl := gin 770 (by decide +kernel) (by decide +kernel)
theorem q_771 : (Cond.code yX8_size cX8_size 1 (some .int)) ∈ gtbl := gin 771 (by decide +kernel) (by decide +kernel)
theorem q_772 : (Cond.methodLink RX8 91 yX8_isFirstPositive) ∈ gtbl := gin 772 (by decide +kernel) (by decide +kernel)
theorem q_774 : (Cond.instanceMethod yX8_isFirstPositive) ∈ gtbl := gin 774 (by decide +kernel) (by decide +kernel)
theorem q_775 : (Cond.code yX8_isFirstPositive cX8_isFirstPositive 2 (some .boolean)) ∈ gtbl := gin 775 (by decide +kernel) (by decide +kernel)
theorem q_776 : (Cond.methodLink RX8 95 yX8_addKernel) ∈ gtbl := gin 776 (by decide +kernel) (by decide +kernel)
theorem q_778 : (Cond.instanceMethod yX8_addKernel) ∈ gtbl := gin 778 (by decide +kernel) (by decide +kernel)
theorem q_779 : (Cond.code yX8_addKernel cX8_addKernel 2 none) ∈ gtbl := gin 779 (by decide +kernel) (by decide +kernel)
theorem q_780 : (Cond.methodLink RX8 98 yX8_isZeroColumn) ∈ gtbl := gin 780 (by decide +kernel) (by decide +kernel)
theorem q_782 : (Cond.instanceMethod yX8_isZeroColumn) ∈ gtbl := gin 782 (by decide +kernel) (by decide +kernel)
theorem q_783 : (Cond.code yX8_isZeroColumn cX8_isZeroColumn 2 (some .boolean)) ∈ gtbl := gin 783 (by decide +kernel) (by decide +kernel)
theorem q_784 : (Cond.methodLink RX8 110 yX8_norm) ∈ gtbl := gin 784 (by decide +kernel) (by decide +kernel)
theorem q_785 : (Cond.static yX8_norm) ∈ gtbl := gin 785 (by decide +kernel) (by decide +kernel)
theorem q_786 : (Cond.code yX8_norm cX8_norm 2 (some .int)) ∈ gtbl := gin 786 (by decide +kernel) (by decide +kernel)
theorem q_787 : (Cond.methodLink RX8 114 yX8_isLeast) ∈ gtbl := gin 787 (by decide +kernel) (by decide +kernel)
theorem q_789 : (Cond.instanceMethod yX8_isLeast) ∈ gtbl := gin 789 (by decide +kernel) (by decide +kernel)
theorem q_790 : (Cond.code yX8_isLeast cX8_isLeast 4 (some .boolean)) ∈ gtbl := gin 790 (by decide +kernel) (by decide +kernel)
theorem q_791 : (Cond.methodLink RX8 117 yX8_isConformal) ∈ gtbl := gin 791 (by decide +kernel) (by decide +kernel)
theorem q_793 : (Cond.instanceMethod yX8_isConformal) ∈ gtbl := gin 793 (by decide +kernel) (by decide +kernel)
theorem q_794 : (Cond.code yX8_isConformal cX8_isConformal 8 (some .boolean)) ∈ gtbl := gin 794 (by decide +kernel) (by decide +kernel)
theorem q_795 : (Cond.fieldLink RX8 7 (TT 8 0).1 (TT 8 0).2.1 (TT 8 0).2.2.1) ∈ gtbl := gin 795 (by decide +kernel) (by decide +kernel)
theorem q_796 : (Cond.fieldLink RX8 13 (TT 8 1).1 (TT 8 1).2.1 (TT 8 1).2.2.1) ∈ gtbl := gin 796 (by decide +kernel) (by decide +kernel)
theorem q_797 : (Cond.fieldLink RX8 60 (TT 8 2).1 (TT 8 2).2.1 (TT 8 2).2.2.1) ∈ gtbl := gin 797 (by decide +kernel) (by decide +kernel)
theorem q_798 : (Cond.fieldLink RX8 16 (TT 8 3).1 (TT 8 3).2.1 (TT 8 3).2.2.1) ∈ gtbl := gin 798 (by decide +kernel) (by decide +kernel)
theorem q_799 : (Cond.fieldLink RX8 131 (TT 8 4).1 (TT 8 4).2.1 (TT 8 4).2.2.1) ∈ gtbl := gin 799 (by decide +kernel) (by decide +kernel)
theorem q_800 : (Cond.fieldLink RX8 70 (TT 8 5).1 (TT 8 5).2.1 (TT 8 5).2.2.1) ∈ gtbl := gin 800 (by decide +kernel) (by decide +kernel)
theorem q_801 : (Cond.fieldLink RX8 19 (TT 8 6).1 (TT 8 6).2.1 (TT 8 6).2.2.1) ∈ gtbl := gin 801 (by decide +kernel) (by decide +kernel)
theorem q_802 : (Cond.fieldLink RX8 22 (TT 8 7).1 (TT 8 7).2.1 (TT 8 7).2.2.1) ∈ gtbl := gin 802 (by decide +kernel) (by decide +kernel)
theorem q_803 : (Cond.fieldLink RX8 85 (TT 8 8).1 (TT 8 8).2.1 (TT 8 8).2.2.1) ∈ gtbl := gin 803 (by decide +kernel) (by decide +kernel)
theorem q_804 : (Cond.fieldLink RX8 25 (TT 8 9).1 (TT 8 9).2.1 (TT 8 9).2.2.1) ∈ gtbl := gin 804 (by decide +kernel) (by decide +kernel)
theorem q_805 : (Cond.fieldLink RX8 134 (TT 8 10).1 (TT 8 10).2.1 (TT 8 10).2.2.1) ∈ gtbl := gin 805 (by decide +kernel) (by decide +kernel)
theorem q_806 : (Cond.fieldLink RX8 28 (TT 8 11).1 (TT 8 11).2.1 (TT 8 11).2.2.1) ∈ gtbl := gin 806 (by decide +kernel) (by decide +kernel)
theorem q_807 : (Cond.fieldLink RX8 31 (TT 8 12).1 (TT 8 12).2.1 (TT 8 12).2.2.1) ∈ gtbl := gin 807 (by decide +kernel) (by decide +kernel)
theorem q_808 : (Cond.fieldLink RX8 34 (TT 8 13).1 (TT 8 13).2.1 (TT 8 13).2.2.1) ∈ gtbl := gin 808 (by decide +kernel) (by decide +kernel)
theorem q_809 : (Cond.fieldLink RX8 152 (TT 8 14).1 (TT 8 14).2.1 (TT 8 14).2.2.1) ∈ gtbl := gin 809 (by decide +kernel) (by decide +kernel)
theorem q_810 : (Cond.fieldLink RX8 37 (TT 8 15).1 (TT 8 15).2.1 (TT 8 15).2.2.1) ∈ gtbl := gin 810 (by decide +kernel) (by decide +kernel)
theorem q_811 : (Cond.fieldLink RX8 40 (TT 8 16).1 (TT 8 16).2.1 (TT 8 16).2.2.1) ∈ gtbl := gin 811 (by decide +kernel) (by decide +kernel)
theorem q_812 : (Cond.fieldLink RX8 43 (TT 8 17).1 (TT 8 17).2.1 (TT 8 17).2.2.1) ∈ gtbl := gin 812 (by decide +kernel) (by decide +kernel)
theorem q_813 : (Cond.fieldLink RX8 46 (TT 8 18).1 (TT 8 18).2.1 (TT 8 18).2.2.1) ∈ gtbl := gin 813 (by decide +kernel) (by decide +kernel)
theorem q_814 : (Cond.fieldLink RX8 164 (TT 8 19).1 (TT 8 19).2.1 (TT 8 19).2.2.1) ∈ gtbl := gin 814 (by decide +kernel) (by decide +kernel)
theorem q_815 : (Cond.fieldLink RX8 49 (TT 8 20).1 (TT 8 20).2.1 (TT 8 20).2.2.1) ∈ gtbl := gin 815 (by decide +kernel) (by decide +kernel)
theorem q_859 : (Cond.methodLink RL 17 yX8_configure) ∈ gtbl := gin 859 (by decide +kernel) (by decide +kernel)
theorem q_860 : (Cond.instanceMethod yX8_configure) ∈ gtbl := gin 860 (by decide +kernel) (by decide +kernel)
theorem q_861 : (Cond.selects RX8 yX8_configure yX8_configure) ∈ gtbl := gin 861 (by decide +kernel) (by decide +kernel)
theorem q_862 : (Cond.code yX8_configure cX8_configure 4 (some .int)) ∈ gtbl := gin 862 (by decide +kernel) (by decide +kernel)
theorem q_863 : (Cond.methodLink RX8 56 yX8_in) ∈ gtbl := gin 863 (by decide +kernel) (by decide +kernel)
theorem q_864 : (Cond.static yX8_in) ∈ gtbl := gin 864 (by decide +kernel) (by decide +kernel)
theorem q_865 : (Cond.code yX8_in cX8_in 3 (some .boolean)) ∈ gtbl := gin 865 (by decide +kernel) (by decide +kernel)
theorem q_866 : (Cond.methodLink RX8 121 yX8_keep) ∈ gtbl := gin 866 (by decide +kernel) (by decide +kernel)
theorem q_868 : (Cond.instanceMethod yX8_keep) ∈ gtbl := gin 868 (by decide +kernel) (by decide +kernel)
theorem q_869 : (Cond.code yX8_keep cX8_keep 2 none) ∈ gtbl := gin 869 (by decide +kernel) (by decide +kernel)
theorem q_870 : (Cond.methodLink RL 22 yX8_setEntry) ∈ gtbl := gin 870 (by decide +kernel) (by decide +kernel)
theorem q_871 : (Cond.instanceMethod yX8_setEntry) ∈ gtbl := gin 871 (by decide +kernel) (by decide +kernel)
theorem q_872 : (Cond.selects RX8 yX8_setEntry yX8_setEntry) ∈ gtbl := gin 872 (by decide +kernel) (by decide +kernel)
theorem q_873 : (Cond.code yX8_setEntry cX8_setEntry 5 (some .int)) ∈ gtbl := gin 873 (by decide +kernel) (by decide +kernel)
theorem q_874 : (Cond.methodLink RX8 127 yX8_isPlace) ∈ gtbl := gin 874 (by decide +kernel) (by decide +kernel)
theorem q_876 : (Cond.instanceMethod yX8_isPlace) ∈ gtbl := gin 876 (by decide +kernel) (by decide +kernel)
theorem q_877 : (Cond.code yX8_isPlace cX8_isPlace 3 (some .boolean)) ∈ gtbl := gin 877 (by decide +kernel) (by decide +kernel)
theorem q_878 : (Cond.methodLink RX8 124 yX8_isColumn) ∈ gtbl := gin 878 (by decide +kernel) (by decide +kernel)
theorem q_880 : (Cond.instanceMethod yX8_isColumn) ∈ gtbl := gin 880 (by decide +kernel) (by decide +kernel)
theorem q_881 : (Cond.code yX8_isColumn cX8_isColumn 2 (some .boolean)) ∈ gtbl := gin 881 (by decide +kernel) (by decide +kernel)
theorem q_882 : (Cond.methodLink RL 27 yX8_append) ∈ gtbl := gin 882 (by decide +kernel) (by decide +kernel)
theorem q_883 : (Cond.instanceMethod yX8_append) ∈ gtbl := gin 883 (by decide +kernel) (by decide +kernel)
theorem q_884 : (Cond.selects RX8 yX8_append yX8_append) ∈ gtbl := gin 884 (by decide +kernel) (by decide +kernel)
theorem q_885 : (Cond.code yX8_append cX8_append 2 (some .int)) ∈ gtbl := gin 885 (by decide +kernel) (by decide +kernel)
theorem q_886 : (Cond.methodLink RL 32 yX8_clearText) ∈ gtbl := gin 886 (by decide +kernel) (by decide +kernel)
theorem q_887 : (Cond.instanceMethod yX8_clearText) ∈ gtbl := gin 887 (by decide +kernel) (by decide +kernel)
theorem q_888 : (Cond.selects RX8 yX8_clearText yX8_clearText) ∈ gtbl := gin 888 (by decide +kernel) (by decide +kernel)
theorem q_889 : (Cond.code yX8_clearText cX8_clearText 2 (some .int)) ∈ gtbl := gin 889 (by decide +kernel) (by decide +kernel)
theorem q_890 : (Cond.methodLink RL 36 yX8_loadText) ∈ gtbl := gin 890 (by decide +kernel) (by decide +kernel)
theorem q_891 : (Cond.instanceMethod yX8_loadText) ∈ gtbl := gin 891 (by decide +kernel) (by decide +kernel)
theorem q_892 : (Cond.selects RX8 yX8_loadText yX8_loadText) ∈ gtbl := gin 892 (by decide +kernel) (by decide +kernel)
theorem q_893 : (Cond.code yX8_loadText cX8_loadText 3 (some .int)) ∈ gtbl := gin 893 (by decide +kernel) (by decide +kernel)
theorem q_894 : (Cond.methodLink RX8 140 yX8_readsText) ∈ gtbl := gin 894 (by decide +kernel) (by decide +kernel)
theorem q_896 : (Cond.instanceMethod yX8_readsText) ∈ gtbl := gin 896 (by decide +kernel) (by decide +kernel)
theorem q_897 : (Cond.code yX8_readsText cX8_readsText 2 (some .int)) ∈ gtbl := gin 897 (by decide +kernel) (by decide +kernel)
theorem q_898 : (Cond.methodLink RX8 137 yX8_readsCharacter) ∈ gtbl := gin 898 (by decide +kernel) (by decide +kernel)
theorem q_900 : (Cond.instanceMethod yX8_readsCharacter) ∈ gtbl := gin 900 (by decide +kernel) (by decide +kernel)
theorem q_901 : (Cond.code yX8_readsCharacter cX8_readsCharacter 4 (some .boolean)) ∈ gtbl := gin 901 (by decide +kernel) (by decide +kernel)
theorem q_902 : (Cond.methodLink RL 40 yX8_entry) ∈ gtbl := gin 902 (by decide +kernel) (by decide +kernel)
theorem q_903 : (Cond.instanceMethod yX8_entry) ∈ gtbl := gin 903 (by decide +kernel) (by decide +kernel)
theorem q_904 : (Cond.selects RX8 yX8_entry yX8_entry) ∈ gtbl := gin 904 (by decide +kernel) (by decide +kernel)
theorem q_905 : (Cond.code yX8_entry cX8_entry 3 (some .int)) ∈ gtbl := gin 905 (by decide +kernel) (by decide +kernel)
theorem q_906 : (Cond.methodLink RL 44 yX8_rank) ∈ gtbl := gin 906 (by decide +kernel) (by decide +kernel)
theorem q_907 : (Cond.instanceMethod yX8_rank) ∈ gtbl := gin 907 (by decide +kernel) (by decide +kernel)
theorem q_908 : (Cond.selects RX8 yX8_rank yX8_rank) ∈ gtbl := gin 908 (by decide +kernel) (by decide +kernel)
theorem q_909 : (Cond.code yX8_rank cX8_rank 1 (some .int)) ∈ gtbl := gin 909 (by decide +kernel) (by decide +kernel)
theorem q_910 : (Cond.methodLink RL 48 yX8_isPositive) ∈ gtbl := gin 910 (by decide +kernel) (by decide +kernel)
theorem q_911 : (Cond.instanceMethod yX8_isPositive) ∈ gtbl := gin 911 (by decide +kernel) (by decide +kernel)
theorem q_912 : (Cond.selects RX8 yX8_isPositive yX8_isPositive) ∈ gtbl := gin 912 (by decide +kernel) (by decide +kernel)
theorem q_913 : (Cond.code yX8_isPositive cX8_isPositive 1 (some .int)) ∈ gtbl := gin 913 (by decide +kernel) (by decide +kernel)
theorem q_914 : (Cond.methodLink RX8 143 yX8_isAllPositive) ∈ gtbl := gin 914 (by decide +kernel) (by decide +kernel)
theorem q_916 : (Cond.instanceMethod yX8_isAllPositive) ∈ gtbl := gin 916 (by decide +kernel) (by decide +kernel)
theorem q_917 : (Cond.code yX8_isAllPositive cX8_isAllPositive 3 (some .boolean)) ∈ gtbl := gin 917 (by decide +kernel) (by decide +kernel)
theorem q_918 : (Cond.methodLink RL 52 yX8_graverCount) ∈ gtbl := gin 918 (by decide +kernel) (by decide +kernel)
theorem q_919 : (Cond.instanceMethod yX8_graverCount) ∈ gtbl := gin 919 (by decide +kernel) (by decide +kernel)
theorem q_920 : (Cond.selects RX8 yX8_graverCount yX8_graverCount) ∈ gtbl := gin 920 (by decide +kernel) (by decide +kernel)
theorem q_921 : (Cond.code yX8_graverCount cX8_graverCount 1 (some .int)) ∈ gtbl := gin 921 (by decide +kernel) (by decide +kernel)
theorem q_922 : (Cond.methodLink RL 56 yX8_graverEntry) ∈ gtbl := gin 922 (by decide +kernel) (by decide +kernel)
theorem q_923 : (Cond.instanceMethod yX8_graverEntry) ∈ gtbl := gin 923 (by decide +kernel) (by decide +kernel)
theorem q_924 : (Cond.selects RX8 yX8_graverEntry yX8_graverEntry) ∈ gtbl := gin 924 (by decide +kernel) (by decide +kernel)
theorem q_925 : (Cond.code yX8_graverEntry cX8_graverEntry 3 (some .int)) ∈ gtbl := gin 925 (by decide +kernel) (by decide +kernel)
theorem q_926 : (Cond.methodLink RX8 146 yX8_isElement) ∈ gtbl := gin 926 (by decide +kernel) (by decide +kernel)
theorem q_928 : (Cond.instanceMethod yX8_isElement) ∈ gtbl := gin 928 (by decide +kernel) (by decide +kernel)
theorem q_929 : (Cond.code yX8_isElement cX8_isElement 2 (some .boolean)) ∈ gtbl := gin 929 (by decide +kernel) (by decide +kernel)
theorem q_930 : (Cond.methodLink RL 60 yX8_isCircuit) ∈ gtbl := gin 930 (by decide +kernel) (by decide +kernel)
theorem q_931 : (Cond.instanceMethod yX8_isCircuit) ∈ gtbl := gin 931 (by decide +kernel) (by decide +kernel)
theorem q_932 : (Cond.selects RX8 yX8_isCircuit yX8_isCircuit) ∈ gtbl := gin 932 (by decide +kernel) (by decide +kernel)
theorem q_933 : (Cond.code yX8_isCircuit cX8_isCircuit 5 (some .int)) ∈ gtbl := gin 933 (by decide +kernel) (by decide +kernel)
theorem q_934 : (Cond.methodLink RX8 149 yX8_support) ∈ gtbl := gin 934 (by decide +kernel) (by decide +kernel)
theorem q_936 : (Cond.instanceMethod yX8_support) ∈ gtbl := gin 936 (by decide +kernel) (by decide +kernel)
theorem q_937 : (Cond.code yX8_support cX8_support 4 (some .int)) ∈ gtbl := gin 937 (by decide +kernel) (by decide +kernel)
theorem q_938 : (Cond.methodLink RL 64 yX8_isIndispensable) ∈ gtbl := gin 938 (by decide +kernel) (by decide +kernel)
theorem q_939 : (Cond.instanceMethod yX8_isIndispensable) ∈ gtbl := gin 939 (by decide +kernel) (by decide +kernel)
theorem q_940 : (Cond.selects RX8 yX8_isIndispensable yX8_isIndispensable) ∈ gtbl := gin 940 (by decide +kernel) (by decide +kernel)
theorem q_941 : (Cond.code yX8_isIndispensable cX8_isIndispensable 2 (some .int)) ∈ gtbl := gin 941 (by decide +kernel) (by decide +kernel)
theorem q_942 : (Cond.methodLink RX8 171 yX8_setGoal) ∈ gtbl := gin 942 (by decide +kernel) (by decide +kernel)
theorem q_944 : (Cond.instanceMethod yX8_setGoal) ∈ gtbl := gin 944 (by decide +kernel) (by decide +kernel)
theorem q_945 : (Cond.code yX8_setGoal cX8_setGoal 5 none) ∈ gtbl := gin 945 (by decide +kernel) (by decide +kernel)
theorem q_946 : (Cond.methodLink RX8 174 yX8_layFiber) ∈ gtbl := gin 946 (by decide +kernel) (by decide +kernel)
theorem q_948 : (Cond.instanceMethod yX8_layFiber) ∈ gtbl := gin 948 (by decide +kernel) (by decide +kernel)
theorem q_949 : (Cond.code yX8_layFiber cX8_layFiber 7 none) ∈ gtbl := gin 949 (by decide +kernel) (by decide +kernel)
theorem q_950 : (Cond.methodLink RX8 155 yX8_addFiber) ∈ gtbl := gin 950 (by decide +kernel) (by decide +kernel)
theorem q_952 : (Cond.instanceMethod yX8_addFiber) ∈ gtbl := gin 952 (by decide +kernel) (by decide +kernel)
theorem q_953 : (Cond.code yX8_addFiber cX8_addFiber 2 none) ∈ gtbl := gin 953 (by decide +kernel) (by decide +kernel)
theorem q_954 : (Cond.methodLink RL 68 yX8_setVector) ∈ gtbl := gin 954 (by decide +kernel) (by decide +kernel)
theorem q_955 : (Cond.instanceMethod yX8_setVector) ∈ gtbl := gin 955 (by decide +kernel) (by decide +kernel)
theorem q_956 : (Cond.selects RX8 yX8_setVector yX8_setVector) ∈ gtbl := gin 956 (by decide +kernel) (by decide +kernel)
theorem q_957 : (Cond.code yX8_setVector cX8_setVector 4 (some .int)) ∈ gtbl := gin 957 (by decide +kernel) (by decide +kernel)
theorem q_958 : (Cond.methodLink RL 72 yX8_isInKernel) ∈ gtbl := gin 958 (by decide +kernel) (by decide +kernel)
theorem q_959 : (Cond.instanceMethod yX8_isInKernel) ∈ gtbl := gin 959 (by decide +kernel) (by decide +kernel)
theorem q_960 : (Cond.selects RX8 yX8_isInKernel yX8_isInKernel) ∈ gtbl := gin 960 (by decide +kernel) (by decide +kernel)
theorem q_961 : (Cond.code yX8_isInKernel cX8_isInKernel 1 (some .int)) ∈ gtbl := gin 961 (by decide +kernel) (by decide +kernel)
theorem q_962 : (Cond.methodLink RX8 177 yX8_isKernelVector) ∈ gtbl := gin 962 (by decide +kernel) (by decide +kernel)
theorem q_964 : (Cond.instanceMethod yX8_isKernelVector) ∈ gtbl := gin 964 (by decide +kernel) (by decide +kernel)
theorem q_965 : (Cond.code yX8_isKernelVector cX8_isKernelVector 1 (some .boolean)) ∈ gtbl := gin 965 (by decide +kernel) (by decide +kernel)
theorem q_966 : (Cond.methodLink RL 76 yX8_decompositionLength) ∈ gtbl := gin 966 (by decide +kernel) (by decide +kernel)
theorem q_967 : (Cond.instanceMethod yX8_decompositionLength) ∈ gtbl := gin 967 (by decide +kernel) (by decide +kernel)
theorem q_968 : (Cond.selects RX8 yX8_decompositionLength yX8_decompositionLength) ∈ gtbl := gin 968 (by decide +kernel) (by decide +kernel)
theorem q_969 : (Cond.code yX8_decompositionLength cX8_decompositionLength 1 (some .int)) ∈ gtbl := gin 969 (by decide +kernel) (by decide +kernel)
theorem q_970 : (Cond.methodLink RX8 183 yX8_decompose) ∈ gtbl := gin 970 (by decide +kernel) (by decide +kernel)
theorem q_972 : (Cond.instanceMethod yX8_decompose) ∈ gtbl := gin 972 (by decide +kernel) (by decide +kernel)
theorem q_973 : (Cond.code yX8_decompose cX8_decompose 5 (some .int)) ∈ gtbl := gin 973 (by decide +kernel) (by decide +kernel)
theorem q_974 : (Cond.methodLink RX8 180 yX8_firstConformal) ∈ gtbl := gin 974 (by decide +kernel) (by decide +kernel)
theorem q_976 : (Cond.instanceMethod yX8_firstConformal) ∈ gtbl := gin 976 (by decide +kernel) (by decide +kernel)
theorem q_977 : (Cond.code yX8_firstConformal cX8_firstConformal 3 (some .int)) ∈ gtbl := gin 977 (by decide +kernel) (by decide +kernel)
theorem q_978 : (Cond.methodLink RL 80 yX8_decompositionStep) ∈ gtbl := gin 978 (by decide +kernel) (by decide +kernel)
theorem q_979 : (Cond.instanceMethod yX8_decompositionStep) ∈ gtbl := gin 979 (by decide +kernel) (by decide +kernel)
theorem q_980 : (Cond.selects RX8 yX8_decompositionStep yX8_decompositionStep) ∈ gtbl := gin 980 (by decide +kernel) (by decide +kernel)
theorem q_981 : (Cond.code yX8_decompositionStep cX8_decompositionStep 3 (some .int)) ∈ gtbl := gin 981 (by decide +kernel) (by decide +kernel)
theorem q_982 : (Cond.methodLink RL 84 yX8_setPoint) ∈ gtbl := gin 982 (by decide +kernel) (by decide +kernel)
theorem q_983 : (Cond.instanceMethod yX8_setPoint) ∈ gtbl := gin 983 (by decide +kernel) (by decide +kernel)
theorem q_984 : (Cond.selects RX8 yX8_setPoint yX8_setPoint) ∈ gtbl := gin 984 (by decide +kernel) (by decide +kernel)
theorem q_985 : (Cond.code yX8_setPoint cX8_setPoint 4 (some .int)) ∈ gtbl := gin 985 (by decide +kernel) (by decide +kernel)
theorem q_986 : (Cond.methodLink RL 88 yX8_fiberSize) ∈ gtbl := gin 986 (by decide +kernel) (by decide +kernel)
theorem q_987 : (Cond.instanceMethod yX8_fiberSize) ∈ gtbl := gin 987 (by decide +kernel) (by decide +kernel)
theorem q_988 : (Cond.selects RX8 yX8_fiberSize yX8_fiberSize) ∈ gtbl := gin 988 (by decide +kernel) (by decide +kernel)
theorem q_989 : (Cond.code yX8_fiberSize cX8_fiberSize 1 (some .int)) ∈ gtbl := gin 989 (by decide +kernel) (by decide +kernel)
theorem q_990 : (Cond.methodLink RX8 189 yX8_layFiberOfPoint) ∈ gtbl := gin 990 (by decide +kernel) (by decide +kernel)
theorem q_992 : (Cond.instanceMethod yX8_layFiberOfPoint) ∈ gtbl := gin 992 (by decide +kernel) (by decide +kernel)
theorem q_993 : (Cond.code yX8_layFiberOfPoint cX8_layFiberOfPoint 1 none) ∈ gtbl := gin 993 (by decide +kernel) (by decide +kernel)
theorem q_994 : (Cond.methodLink RX8 186 yX8_setGoalToPoint) ∈ gtbl := gin 994 (by decide +kernel) (by decide +kernel)
theorem q_996 : (Cond.instanceMethod yX8_setGoalToPoint) ∈ gtbl := gin 996 (by decide +kernel) (by decide +kernel)
theorem q_997 : (Cond.code yX8_setGoalToPoint cX8_setGoalToPoint 2 none) ∈ gtbl := gin 997 (by decide +kernel) (by decide +kernel)
theorem q_998 : (Cond.methodLink RL 92 yX8_fiberEntry) ∈ gtbl := gin 998 (by decide +kernel) (by decide +kernel)
theorem q_999 : (Cond.instanceMethod yX8_fiberEntry) ∈ gtbl := gin 999 (by decide +kernel) (by decide +kernel)
theorem q_1000 : (Cond.selects RX8 yX8_fiberEntry yX8_fiberEntry) ∈ gtbl := gin 1000 (by decide +kernel) (by decide +kernel)
theorem q_1001 : (Cond.code yX8_fiberEntry cX8_fiberEntry 3 (some .int)) ∈ gtbl := gin 1001 (by decide +kernel) (by decide +kernel)
theorem q_1002 : (Cond.methodLink RL 96 yX8_activate) ∈ gtbl := gin 1002 (by decide +kernel) (by decide +kernel)
theorem q_1003 : (Cond.instanceMethod yX8_activate) ∈ gtbl := gin 1003 (by decide +kernel) (by decide +kernel)
theorem q_1004 : (Cond.selects RX8 yX8_activate yX8_activate) ∈ gtbl := gin 1004 (by decide +kernel) (by decide +kernel)
theorem q_1005 : (Cond.code yX8_activate cX8_activate 3 (some .int)) ∈ gtbl := gin 1005 (by decide +kernel) (by decide +kernel)
theorem q_1006 : (Cond.methodLink RX8 192 yX8_activeCount) ∈ gtbl := gin 1006 (by decide +kernel) (by decide +kernel)
theorem q_1008 : (Cond.instanceMethod yX8_activeCount) ∈ gtbl := gin 1008 (by decide +kernel) (by decide +kernel)
theorem q_1009 : (Cond.code yX8_activeCount cX8_activeCount 3 (some .int)) ∈ gtbl := gin 1009 (by decide +kernel) (by decide +kernel)
theorem q_1010 : (Cond.methodLink RL 100 yX8_isActive) ∈ gtbl := gin 1010 (by decide +kernel) (by decide +kernel)
theorem q_1011 : (Cond.instanceMethod yX8_isActive) ∈ gtbl := gin 1011 (by decide +kernel) (by decide +kernel)
theorem q_1012 : (Cond.selects RX8 yX8_isActive yX8_isActive) ∈ gtbl := gin 1012 (by decide +kernel) (by decide +kernel)
theorem q_1013 : (Cond.code yX8_isActive cX8_isActive 2 (some .int)) ∈ gtbl := gin 1013 (by decide +kernel) (by decide +kernel)
theorem q_1014 : (Cond.methodLink RL 104 yX8_classes) ∈ gtbl := gin 1014 (by decide +kernel) (by decide +kernel)
theorem q_1015 : (Cond.instanceMethod yX8_classes) ∈ gtbl := gin 1015 (by decide +kernel) (by decide +kernel)
theorem q_1016 : (Cond.selects RX8 yX8_classes yX8_classes) ∈ gtbl := gin 1016 (by decide +kernel) (by decide +kernel)
theorem q_1017 : (Cond.code yX8_classes cX8_classes 3 (some .int)) ∈ gtbl := gin 1017 (by decide +kernel) (by decide +kernel)
theorem q_1018 : (Cond.methodLink RX8 195 yX8_clearFar) ∈ gtbl := gin 1018 (by decide +kernel) (by decide +kernel)
theorem q_1020 : (Cond.instanceMethod yX8_clearFar) ∈ gtbl := gin 1020 (by decide +kernel) (by decide +kernel)
theorem q_1021 : (Cond.code yX8_clearFar cX8_clearFar 2 none) ∈ gtbl := gin 1021 (by decide +kernel) (by decide +kernel)
theorem q_1022 : (Cond.methodLink RX8 198 yX8_search) ∈ gtbl := gin 1022 (by decide +kernel) (by decide +kernel)
theorem q_1024 : (Cond.instanceMethod yX8_search) ∈ gtbl := gin 1024 (by decide +kernel) (by decide +kernel)
theorem q_1025 : (Cond.code yX8_search cX8_search 5 none) ∈ gtbl := gin 1025 (by decide +kernel) (by decide +kernel)
theorem q_1026 : (Cond.methodLink RX8 167 yX8_stepFrom) ∈ gtbl := gin 1026 (by decide +kernel) (by decide +kernel)
theorem q_1028 : (Cond.instanceMethod yX8_stepFrom) ∈ gtbl := gin 1028 (by decide +kernel) (by decide +kernel)
theorem q_1029 : (Cond.code yX8_stepFrom cX8_stepFrom 6 (some .int)) ∈ gtbl := gin 1029 (by decide +kernel) (by decide +kernel)
theorem q_1030 : (Cond.methodLink RX8 161 yX8_numberOf) ∈ gtbl := gin 1030 (by decide +kernel) (by decide +kernel)
theorem q_1032 : (Cond.instanceMethod yX8_numberOf) ∈ gtbl := gin 1032 (by decide +kernel) (by decide +kernel)
theorem q_1033 : (Cond.code yX8_numberOf cX8_numberOf 4 (some .int)) ∈ gtbl := gin 1033 (by decide +kernel) (by decide +kernel)
theorem q_1034 : (Cond.methodLink RX8 158 yX8_compare) ∈ gtbl := gin 1034 (by decide +kernel) (by decide +kernel)
theorem q_1036 : (Cond.instanceMethod yX8_compare) ∈ gtbl := gin 1036 (by decide +kernel) (by decide +kernel)
theorem q_1037 : (Cond.code yX8_compare cX8_compare 3 (some .int)) ∈ gtbl := gin 1037 (by decide +kernel) (by decide +kernel)
theorem q_1038 : (Cond.methodLink RL 108 yX8_distance) ∈ gtbl := gin 1038 (by decide +kernel) (by decide +kernel)
theorem q_1039 : (Cond.instanceMethod yX8_distance) ∈ gtbl := gin 1039 (by decide +kernel) (by decide +kernel)
theorem q_1040 : (Cond.selects RX8 yX8_distance yX8_distance) ∈ gtbl := gin 1040 (by decide +kernel) (by decide +kernel)
theorem q_1041 : (Cond.code yX8_distance cX8_distance 2 (some .int)) ∈ gtbl := gin 1041 (by decide +kernel) (by decide +kernel)
theorem q_1042 : (Cond.methodLink RX8 201 yX8_numberOfGoal) ∈ gtbl := gin 1042 (by decide +kernel) (by decide +kernel)
theorem q_1044 : (Cond.instanceMethod yX8_numberOfGoal) ∈ gtbl := gin 1044 (by decide +kernel) (by decide +kernel)
theorem q_1045 : (Cond.code yX8_numberOfGoal cX8_numberOfGoal 2 (some .int)) ∈ gtbl := gin 1045 (by decide +kernel) (by decide +kernel)
theorem q_1046 : (Cond.methodLink RL 112 yX8_isMarkov) ∈ gtbl := gin 1046 (by decide +kernel) (by decide +kernel)
theorem q_1047 : (Cond.instanceMethod yX8_isMarkov) ∈ gtbl := gin 1047 (by decide +kernel) (by decide +kernel)
theorem q_1048 : (Cond.selects RX8 yX8_isMarkov yX8_isMarkov) ∈ gtbl := gin 1048 (by decide +kernel) (by decide +kernel)
theorem q_1049 : (Cond.code yX8_isMarkov cX8_isMarkov 1 (some .int)) ∈ gtbl := gin 1049 (by decide +kernel) (by decide +kernel)
theorem q_1050 : (Cond.methodLink RX8 204 yX8_areConnected) ∈ gtbl := gin 1050 (by decide +kernel) (by decide +kernel)
theorem q_1052 : (Cond.instanceMethod yX8_areConnected) ∈ gtbl := gin 1052 (by decide +kernel) (by decide +kernel)
theorem q_1053 : (Cond.code yX8_areConnected cX8_areConnected 3 (some .boolean)) ∈ gtbl := gin 1053 (by decide +kernel) (by decide +kernel)
theorem q_1054 : (Cond.methodLink RL 116 yX8_reduce) ∈ gtbl := gin 1054 (by decide +kernel) (by decide +kernel)
theorem q_1055 : (Cond.instanceMethod yX8_reduce) ∈ gtbl := gin 1055 (by decide +kernel) (by decide +kernel)
theorem q_1056 : (Cond.selects RX8 yX8_reduce yX8_reduce) ∈ gtbl := gin 1056 (by decide +kernel) (by decide +kernel)
theorem q_1057 : (Cond.code yX8_reduce cX8_reduce 2 (some .int)) ∈ gtbl := gin 1057 (by decide +kernel) (by decide +kernel)
theorem q_1058 : (Cond.methodLink RL 120 yX8_undo) ∈ gtbl := gin 1058 (by decide +kernel) (by decide +kernel)
theorem q_1059 : (Cond.instanceMethod yX8_undo) ∈ gtbl := gin 1059 (by decide +kernel) (by decide +kernel)
theorem q_1060 : (Cond.selects RX8 yX8_undo yX8_undo) ∈ gtbl := gin 1060 (by decide +kernel) (by decide +kernel)
theorem q_1061 : (Cond.code yX8_undo cX8_undo 2 (some .int)) ∈ gtbl := gin 1061 (by decide +kernel) (by decide +kernel)
end
section
/-- a method: its name, the class whose pool it reads, its bytes, its locals, its answer's type -/
abbrev MI : Type := MethodName × String × ByteArray × Nat × Option FieldType
abbrev inR (x : Int) : Prop := -2147483648 ≤ x ∧ x ≤ 2147483647
/-- facts of instructions: (bytes) (place) (next place) .. -/
def ILi (c : ByteArray) (pc n k : Nat) : Prop := (∃ j : Fin 4, decode c pc = .ok (.iload_n j, 1) ∧ (j : Nat) = k ∧ pc + 1 = n) ∨ (decode c pc = .ok (.iload k, 2) ∧ pc + 2 = n)
def ILa (c : ByteArray) (pc n k : Nat) : Prop := (∃ j : Fin 4, decode c pc = .ok (.aload_n j, 1) ∧ (j : Nat) = k ∧ pc + 1 = n) ∨ (decode c pc = .ok (.aload k, 2) ∧ pc + 2 = n)
def ISi (c : ByteArray) (pc n k : Nat) : Prop := (∃ j : Fin 4, decode c pc = .ok (.istore_n j, 1) ∧ (j : Nat) = k ∧ pc + 1 = n) ∨ (decode c pc = .ok (.istore k, 2) ∧ pc + 2 = n)
def IC (c : ByteArray) (pc n : Nat) (v : Int) : Prop := inR v ∧ ((decode c pc = .ok (.iconst v, 1) ∧ pc + 1 = n) ∨ (decode c pc = .ok (.bipush v, 2) ∧ (Int8.ofInt v).toInt32 = Int32.ofInt v ∧ pc + 2 = n) ∨ (decode c pc = .ok (.sipush v, 3) ∧ (Int16.ofInt v).toInt32 = Int32.ofInt v ∧ pc + 3 = n))
def IO (c : ByteArray) (pc n : Nat) (i : Instr) : Prop := decode c pc = .ok (i, 1) ∧ pc + 1 = n
def II (c : ByteArray) (pc n k : Nat) (v : Int) : Prop := decode c pc = .ok (.iinc k v, 3) ∧ inR v ∧ pc + 3 = n
def IJ (c : ByteArray) (pc n t : Nat) (i : Int → Instr) : Prop := ∃ off : Int, decode c pc = .ok (i off, 3) ∧ pc + 3 = n ∧ (pc : Int) + off = (t : Int)
def IGF (μ : MI) (pc n ci k : Nat) : Prop := ∃ idx : Nat, decode μ.2.2.1 pc = .ok (.getfield idx, 3) ∧ pc + 3 = n ∧ ci < 9 ∧ k < NN ci ∧ Cond.fieldLink μ.2.1 idx (TT ci k).1 (TT ci k).2.1 (TT ci k).2.2.1 ∈ gtbl
def IPF (μ : MI) (pc n ci k : Nat) : Prop := ∃ idx : Nat, decode μ.2.2.1 pc = .ok (.putfield idx, 3) ∧ pc + 3 = n ∧ ci < 9 ∧ k < NN ci ∧ Cond.fieldLink μ.2.1 idx (TT ci k).1 (TT ci k).2.1 (TT ci k).2.2.1 ∈ gtbl ∧ (TT ci k).2.2.2 = false
def IPZ (μ : MI) (pc n ci k : Nat) : Prop := ∃ idx : Nat, decode μ.2.2.1 pc = .ok (.putfield idx, 3) ∧ pc + 3 = n ∧ ci < 9 ∧ k < NN ci ∧ Cond.fieldLink μ.2.1 idx (TT ci k).1 (TT ci k).2.1 (TT ci k).2.2.1 ∈ gtbl ∧ (TT ci k).2.2.2 = true ∧ μ.1.name = "<init>" ∧ (TT ci k).1 = μ.2.1
def ILD (μ : MI) (pc n : Nat) (v : Int) : Prop := ∃ idx : Nat, decode μ.2.2.1 pc = .ok (.ldc_w idx, 3) ∧ pc + 3 = n ∧ inR v ∧ Cond.constant μ.2.1 idx (Int32.ofInt v) ∈ gtbl
def INA (c : ByteArray) (pc n : Nat) : Prop := decode c pc = .ok (.newarray .int, 2) ∧ pc + 2 = n
def INQ (μ : MI) (pc n : Nat) : Prop := ∃ idx : Nat, decode μ.2.2.1 pc = .ok (.anewarray idx, 3) ∧ pc + 3 = n ∧ Cond.classLink μ.2.1 idx RX5 ∈ gtbl
def INW (μ : MI) (pc n ci : Nat) : Prop := ∃ idx : Nat, decode μ.2.2.1 pc = .ok (.new idx, 3) ∧ pc + 3 = n ∧ ci < 9 ∧ Cond.classLink μ.2.1 idx (CC ci) ∈ gtbl ∧ Cond.instantiable (CC ci) (NN ci) ∈ gtbl ∧ Cond.initialized (CC ci) ∈ gtbl
def ICV (μ : MI) (pc n : Nat) (μ' : MI) : Prop := ∃ idx : Nat, decode μ.2.2.1 pc = .ok (.invokevirtual idx, 3) ∧ pc + 3 = n ∧ Cond.methodLink μ.2.1 idx μ'.1 ∈ gtbl
def ICS (μ : MI) (pc n : Nat) (y : MethodName) : Prop := ∃ idx : Nat, decode μ.2.2.1 pc = .ok (.invokestatic idx, 3) ∧ pc + 3 = n ∧ Cond.methodLink μ.2.1 idx y ∈ gtbl
def ICI (μ : MI) (pc n : Nat) (y : MethodName) : Prop := ∃ idx : Nat, decode μ.2.2.1 pc = .ok (.invokespecial idx, 3) ∧ pc + 3 = n ∧ Cond.methodLink μ.2.1 idx y ∈ gtbl
def ICN (μ : MI) (pc n idx : Nat) : Prop := decode μ.2.2.1 pc = .ok (.invokespecial idx, 3) ∧ pc + 3 = n
/-- facts of a method: its code's word, its class, its number of parameters -/
def MF (μ : MI) (k : Nat) : Prop := Cond.code μ.1 μ.2.2.1 μ.2.2.2.1 μ.2.2.2.2 ∈ gtbl ∧ Cond.initialized μ.1.cls ∈ gtbl ∧ μ.1.cls ≠ "java/lang/invoke/MethodHandle" ∧ μ.1.cls ≠ "java/lang/invoke/VarHandle" ∧ (parseMethodDescriptor μ.1.desc).map (fun d => d.parameters.length) = some k ∧ plainName μ.1.cls = true ∧ μ.2.2.2.1 ≤ 11
def MV (μ : MI) : Prop := Cond.instanceMethod μ.1 ∈ gtbl ∧ Cond.selects μ.1.cls μ.1 μ.1 ∈ gtbl
def MS_ (μ : MI) : Prop := Cond.static μ.1 ∈ gtbl
def MN (μ : MI) : Prop := Cond.instanceMethod μ.1 ∈ gtbl ∧ μ.1.name = "<init>"
abbrev m0_init : MI := (yX0_init, RX0, cX0_init, 1, none)
theorem f0_init : MF m0_init 0 := ⟨q_235, q_81, by decide +kernel, by decide +kernel, by decide +kernel, by decide +kernel, by decide +kernel⟩
theorem v0_init : MN m0_init := ⟨q_234, rfl⟩
abbrev m0_find : MI := (yX0_find, RX0, cX0_find, 4, none)
theorem f0_find : MF m0_find 2 := ⟨q_602, q_81, by decide +kernel, by decide +kernel, by decide +kernel, by decide +kernel, by decide +kernel⟩
theorem v0_find : MV m0_find := ⟨q_600, q_601⟩
abbrev m0_takeWhileConformal : MI := (yX0_takeWhileConformal, RX0, cX0_takeWhileConformal, 5, none)
theorem f0_takeWhileConformal : MF m0_takeWhileConformal 3 := ⟨q_607, q_81, by decide +kernel, by decide +kernel, by decide +kernel, by decide +kernel, by decide +kernel⟩
theorem v0_takeWhileConformal : MV m0_takeWhileConformal := ⟨q_606, q_29⟩
abbrev m1_init : MI := (yX1_init, RX1, cX1_init, 2, none)
theorem f1_init : MF m1_init 1 := ⟨q_253, q_82, by decide +kernel, by decide +kernel, by decide +kernel, by decide +kernel, by decide +kernel⟩
theorem v1_init : MN m1_init := ⟨q_252, rfl⟩
abbrev m1_build : MI := (yX1_build, RX1, cX1_build, 11, none)
theorem f1_build : MF m1_build 2 := ⟨q_560, q_82, by decide +kernel, by decide +kernel, by decide +kernel, by decide +kernel, by decide +kernel⟩
theorem v1_build : MV m1_build := ⟨q_558, q_559⟩
abbrev m1_at : MI := (yX1_at, RX1, cX1_at, 3, some .int)
theorem f1_at : MF m1_at 2 := ⟨q_633, q_82, by decide +kernel, by decide +kernel, by decide +kernel, by decide +kernel, by decide +kernel⟩
theorem v1_at : MV m1_at := ⟨q_631, q_632⟩
abbrev m1_numberOf : MI := (yX1_numberOf, RX1, cX1_numberOf, 4, some .int)
theorem f1_numberOf : MF m1_numberOf 1 := ⟨q_698, q_82, by decide +kernel, by decide +kernel, by decide +kernel, by decide +kernel, by decide +kernel⟩
theorem v1_numberOf : MV m1_numberOf := ⟨q_696, q_697⟩
abbrev m1_numberOfPacked : MI := (yX1_numberOfPacked, RX1, cX1_numberOfPacked, 4, some .int)
theorem f1_numberOfPacked : MF m1_numberOfPacked 1 := ⟨q_690, q_82, by decide +kernel, by decide +kernel, by decide +kernel, by decide +kernel, by decide +kernel⟩
theorem v1_numberOfPacked : MV m1_numberOfPacked := ⟨q_689, q_34⟩
abbrev m1_numberAfterStep : MI := (yX1_numberAfterStep, RX1, cX1_numberAfterStep, 8, some .int)
theorem f1_numberAfterStep : MF m1_numberAfterStep 4 := ⟨q_684, q_82, by decide +kernel, by decide +kernel, by decide +kernel, by decide +kernel, by decide +kernel⟩
theorem v1_numberAfterStep : MV m1_numberAfterStep := ⟨q_682, q_683⟩
abbrev m1_takeColumns : MI := (yX1_takeColumns, RX1, cX1_takeColumns, 5, none)
theorem f1_takeColumns : MF m1_takeColumns 1 := ⟨q_564, q_82, by decide +kernel, by decide +kernel, by decide +kernel, by decide +kernel, by decide +kernel⟩
theorem v1_takeColumns : MV m1_takeColumns := ⟨q_563, q_25⟩
abbrev m1_most : MI := (yX1_most, RX1, cX1_most, 5, some .int)
theorem f1_most : MF m1_most 3 := ⟨q_570, q_82, by decide +kernel, by decide +kernel, by decide +kernel, by decide +kernel, by decide +kernel⟩
theorem v1_most : MV m1_most := ⟨q_569, q_26⟩
abbrev m1_addRows : MI := (yX1_addRows, RX1, cX1_addRows, 6, none)
theorem f1_addRows : MF m1_addRows 3 := ⟨q_577, q_82, by decide +kernel, by decide +kernel, by decide +kernel, by decide +kernel, by decide +kernel⟩
theorem v1_addRows : MV m1_addRows := ⟨q_576, q_27⟩
abbrev m1_addIfExact : MI := (yX1_addIfExact, RX1, cX1_addIfExact, 5, none)
theorem f1_addIfExact : MF m1_addIfExact 3 := ⟨q_581, q_82, by decide +kernel, by decide +kernel, by decide +kernel, by decide +kernel, by decide +kernel⟩
theorem v1_addIfExact : MV m1_addIfExact := ⟨q_580, q_28⟩
abbrev m2_init : MI := (yX2_init, RX2, cX2_init, 1, none)
theorem f2_init : MF m2_init 0 := ⟨q_181, q_80, by decide +kernel, by decide +kernel, by decide +kernel, by decide +kernel, by decide +kernel⟩
theorem v2_init : MN m2_init := ⟨q_180, rfl⟩
abbrev m2_build : MI := (yX2_build, RX2, cX2_build, 2, none)
theorem f2_build : MF m2_build 1 := ⟨q_308, q_80, by decide +kernel, by decide +kernel, by decide +kernel, by decide +kernel, by decide +kernel⟩
theorem v2_build : MV m2_build := ⟨q_306, q_307⟩
abbrev m2_at : MI := (yX2_at, RX2, cX2_at, 4, some .int)
theorem f2_at : MF m2_at 2 := ⟨q_388, q_80, by decide +kernel, by decide +kernel, by decide +kernel, by decide +kernel, by decide +kernel⟩
theorem v2_at : MV m2_at := ⟨q_386, q_387⟩
abbrev m2_conforms : MI := (yX2_conforms, RX2, cX2_conforms, 6, some .boolean)
theorem f2_conforms : MF m2_conforms 3 := ⟨q_384, q_80, by decide +kernel, by decide +kernel, by decide +kernel, by decide +kernel, by decide +kernel⟩
theorem v2_conforms : MV m2_conforms := ⟨q_382, q_383⟩
abbrev m2_hasLeastSupport : MI := (yX2_hasLeastSupport, RX2, cX2_hasLeastSupport, 5, some .boolean)
theorem f2_hasLeastSupport : MF m2_hasLeastSupport 1 := ⟨q_537, q_80, by decide +kernel, by decide +kernel, by decide +kernel, by decide +kernel, by decide +kernel⟩
theorem v2_hasLeastSupport : MV m2_hasLeastSupport := ⟨q_535, q_536⟩
abbrev m2_copyPart : MI := (yX2_copyPart, RX2, cX2_copyPart, 5, none)
theorem f2_copyPart : MF m2_copyPart 3 := ⟨q_553, q_80, by decide +kernel, by decide +kernel, by decide +kernel, by decide +kernel, by decide +kernel⟩
theorem v2_copyPart : MV m2_copyPart := ⟨q_551, q_552⟩
abbrev m2_support : MI := (yX2_support, RX2, cX2_support, 4, some .int)
theorem f2_support : MF m2_support 1 := ⟨q_541, q_80, by decide +kernel, by decide +kernel, by decide +kernel, by decide +kernel, by decide +kernel⟩
theorem v2_support : MV m2_support := ⟨q_540, q_23⟩
abbrev m2_choosePivots : MI := (yX2_choosePivots, RX2, cX2_choosePivots, 4, none)
theorem f2_choosePivots : MF m2_choosePivots 1 := ⟨q_312, q_80, by decide +kernel, by decide +kernel, by decide +kernel, by decide +kernel, by decide +kernel⟩
theorem v2_choosePivots : MV m2_choosePivots := ⟨q_311, q_1⟩
abbrev m2_takePivot : MI := (yX2_takePivot, RX2, cX2_takePivot, 4, none)
theorem f2_takePivot : MF m2_takePivot 3 := ⟨q_320, q_80, by decide +kernel, by decide +kernel, by decide +kernel, by decide +kernel, by decide +kernel⟩
theorem v2_takePivot : MV m2_takePivot := ⟨q_319, q_2⟩
abbrev m2_takePivots : MI := (yX2_takePivots, RX2, cX2_takePivots, 4, none)
theorem f2_takePivots : MF m2_takePivots 3 := ⟨q_329, q_80, by decide +kernel, by decide +kernel, by decide +kernel, by decide +kernel, by decide +kernel⟩
theorem v2_takePivots : MV m2_takePivots := ⟨q_328, q_3⟩
abbrev m2_listFreeColumns : MI := (yX2_listFreeColumns, RX2, cX2_listFreeColumns, 2, none)
theorem f2_listFreeColumns : MF m2_listFreeColumns 0 := ⟨q_333, q_80, by decide +kernel, by decide +kernel, by decide +kernel, by decide +kernel, by decide +kernel⟩
theorem v2_listFreeColumns : MV m2_listFreeColumns := ⟨q_332, q_4⟩
abbrev m2_collectCandidates : MI := (yX2_collectCandidates, RX2, cX2_collectCandidates, 5, none)
theorem f2_collectCandidates : MF m2_collectCandidates 1 := ⟨q_337, q_80, by decide +kernel, by decide +kernel, by decide +kernel, by decide +kernel, by decide +kernel⟩
theorem v2_collectCandidates : MV m2_collectCandidates := ⟨q_336, q_5⟩
abbrev m2_setFreeColumns : MI := (yX2_setFreeColumns, RX2, cX2_setFreeColumns, 5, none)
theorem f2_setFreeColumns : MF m2_setFreeColumns 2 := ⟨q_341, q_80, by decide +kernel, by decide +kernel, by decide +kernel, by decide +kernel, by decide +kernel⟩
theorem v2_setFreeColumns : MV m2_setFreeColumns := ⟨q_340, q_6⟩
abbrev m2_solvePivots : MI := (yX2_solvePivots, RX2, cX2_solvePivots, 6, some .boolean)
theorem f2_solvePivots : MF m2_solvePivots 1 := ⟨q_345, q_80, by decide +kernel, by decide +kernel, by decide +kernel, by decide +kernel, by decide +kernel⟩
theorem v2_solvePivots : MV m2_solvePivots := ⟨q_344, q_7⟩
abbrev m2_isWithinBound : MI := (yX2_isWithinBound, RX2, cX2_isWithinBound, 2, some .boolean)
theorem f2_isWithinBound : MF m2_isWithinBound 0 := ⟨q_353, q_80, by decide +kernel, by decide +kernel, by decide +kernel, by decide +kernel, by decide +kernel⟩
theorem v2_isWithinBound : MV m2_isWithinBound := ⟨q_352, q_8⟩
abbrev m2_leads : MI := (yX2_leads, RX2, cX2_leads, 2, some .boolean)
theorem f2_leads : MF m2_leads 0 := ⟨q_360, q_80, by decide +kernel, by decide +kernel, by decide +kernel, by decide +kernel, by decide +kernel⟩
theorem v2_leads : MV m2_leads := ⟨q_359, q_9⟩
abbrev m2_encode : MI := (yX2_encode, RX2, cX2_encode, 4, some .int)
theorem f2_encode : MF m2_encode 0 := ⟨q_364, q_80, by decide +kernel, by decide +kernel, by decide +kernel, by decide +kernel, by decide +kernel⟩
theorem v2_encode : MV m2_encode := ⟨q_363, q_10⟩
abbrev m2_decode : MI := (yX2_decode, RX2, cX2_decode, 3, none)
theorem f2_decode : MF m2_decode 1 := ⟨q_376, q_80, by decide +kernel, by decide +kernel, by decide +kernel, by decide +kernel, by decide +kernel⟩
theorem v2_decode : MV m2_decode := ⟨q_375, q_13⟩
abbrev m2_insertCandidate : MI := (yX2_insertCandidate, RX2, cX2_insertCandidate, 3, none)
theorem f2_insertCandidate : MF m2_insertCandidate 1 := ⟨q_368, q_80, by decide +kernel, by decide +kernel, by decide +kernel, by decide +kernel, by decide +kernel⟩
theorem v2_insertCandidate : MV m2_insertCandidate := ⟨q_367, q_11⟩
abbrev m2_keepLeastCandidates : MI := (yX2_keepLeastCandidates, RX2, cX2_keepLeastCandidates, 2, none)
theorem f2_keepLeastCandidates : MF m2_keepLeastCandidates 0 := ⟨q_372, q_80, by decide +kernel, by decide +kernel, by decide +kernel, by decide +kernel, by decide +kernel⟩
theorem v2_keepLeastCandidates : MV m2_keepLeastCandidates := ⟨q_371, q_12⟩
abbrev m2_isAboveAnElement : MI := (yX2_isAboveAnElement, RX2, cX2_isAboveAnElement, 2, some .boolean)
theorem f2_isAboveAnElement : MF m2_isAboveAnElement 0 := ⟨q_380, q_80, by decide +kernel, by decide +kernel, by decide +kernel, by decide +kernel, by decide +kernel⟩
theorem v2_isAboveAnElement : MV m2_isAboveAnElement := ⟨q_379, q_14⟩
abbrev m3_init : MI := (yX3_init, RX3, cX3_init, 2, none)
theorem f3_init : MF m3_init 0 := ⟨q_132, q_78, by decide +kernel, by decide +kernel, by decide +kernel, by decide +kernel, by decide +kernel⟩
theorem v3_init : MN m3_init := ⟨q_131, rfl⟩
abbrev m3_save : MI := (yX3_save, RX3, cX3_save, 2, none)
theorem f3_save : MF m3_save 1 := ⟨q_438, q_78, by decide +kernel, by decide +kernel, by decide +kernel, by decide +kernel, by decide +kernel⟩
theorem v3_save : MV m3_save := ⟨q_436, q_437⟩
abbrev m3_restore : MI := (yX3_restore, RX3, cX3_restore, 2, none)
theorem f3_restore : MF m3_restore 1 := ⟨q_730, q_78, by decide +kernel, by decide +kernel, by decide +kernel, by decide +kernel, by decide +kernel⟩
theorem v3_restore : MV m3_restore := ⟨q_728, q_729⟩
abbrev m4_init : MI := (yX4_init, RX4, cX4_init, 1, none)
theorem f4_init : MF m4_init 0 := ⟨q_152, q_79, by decide +kernel, by decide +kernel, by decide +kernel, by decide +kernel, by decide +kernel⟩
theorem v4_init : MN m4_init := ⟨q_151, rfl⟩
abbrev m4_add : MI := (yX4_add, RX4, cX4_add, 2, none)
theorem f4_add : MF m4_add 1 := ⟨q_465, q_79, by decide +kernel, by decide +kernel, by decide +kernel, by decide +kernel, by decide +kernel⟩
theorem v4_add : MV m4_add := ⟨q_463, q_464⟩
abbrev m4_findError : MI := (yX4_findError, RX4, cX4_findError, 2, some .int)
theorem f4_findError : MF m4_findError 0 := ⟨q_477, q_79, by decide +kernel, by decide +kernel, by decide +kernel, by decide +kernel, by decide +kernel⟩
theorem v4_findError : MV m4_findError := ⟨q_475, q_476⟩
abbrev m4_digitsNeeded : MI := (yX4_digitsNeeded, RX4, cX4_digitsNeeded, 1, some .int)
theorem f4_digitsNeeded : MF m4_digitsNeeded 0 := ⟨q_493, q_79, by decide +kernel, by decide +kernel, by decide +kernel, by decide +kernel, by decide +kernel⟩
theorem v4_digitsNeeded : MV m4_digitsNeeded := ⟨q_492, q_21⟩
abbrev m4_takes : MI := (yX4_takes, RX4, cX4_takes, 2, some .boolean)
theorem f4_takes : MF m4_takes 1 := ⟨q_481, q_79, by decide +kernel, by decide +kernel, by decide +kernel, by decide +kernel, by decide +kernel⟩
theorem v4_takes : MV m4_takes := ⟨q_480, q_18⟩
abbrev m4_takesRowEnd : MI := (yX4_takesRowEnd, RX4, cX4_takesRowEnd, 1, some .boolean)
theorem f4_takesRowEnd : MF m4_takesRowEnd 0 := ⟨q_485, q_79, by decide +kernel, by decide +kernel, by decide +kernel, by decide +kernel, by decide +kernel⟩
theorem v4_takesRowEnd : MV m4_takesRowEnd := ⟨q_484, q_19⟩
abbrev m4_takesDigit : MI := (yX4_takesDigit, RX4, cX4_takesDigit, 3, some .boolean)
theorem f4_takesDigit : MF m4_takesDigit 1 := ⟨q_489, q_79, by decide +kernel, by decide +kernel, by decide +kernel, by decide +kernel, by decide +kernel⟩
theorem v4_takesDigit : MV m4_takesDigit := ⟨q_488, q_20⟩
abbrev m5_init : MI := (yX5_init, RX5, cX5_init, 1, none)
theorem f5_init : MF m5_init 0 := ⟨q_100, q_77, by decide +kernel, by decide +kernel, by decide +kernel, by decide +kernel, by decide +kernel⟩
theorem v5_init : MN m5_init := ⟨q_99, rfl⟩
abbrev m5_at : MI := (yX5_at, RX5, cX5_at, 4, some .int)
theorem f5_at : MF m5_at 2 := ⟨q_316, q_77, by decide +kernel, by decide +kernel, by decide +kernel, by decide +kernel, by decide +kernel⟩
theorem v5_at : MV m5_at := ⟨q_314, q_315⟩
abbrev m5_put : MI := (yX5_put, RX5, cX5_put, 5, none)
theorem f5_put : MF m5_put 3 := ⟨q_300, q_77, by decide +kernel, by decide +kernel, by decide +kernel, by decide +kernel, by decide +kernel⟩
theorem v5_put : MV m5_put := ⟨q_298, q_299⟩
abbrev m5_reshape : MI := (yX5_reshape, RX5, cX5_reshape, 4, none)
theorem f5_reshape : MF m5_reshape 2 := ⟨q_292, q_77, by decide +kernel, by decide +kernel, by decide +kernel, by decide +kernel, by decide +kernel⟩
theorem v5_reshape : MV m5_reshape := ⟨q_290, q_291⟩
abbrev m5_fillWithOnes : MI := (yX5_fillWithOnes, RX5, cX5_fillWithOnes, 3, none)
theorem f5_fillWithOnes : MF m5_fillWithOnes 0 := ⟨q_296, q_77, by decide +kernel, by decide +kernel, by decide +kernel, by decide +kernel, by decide +kernel⟩
theorem v5_fillWithOnes : MV m5_fillWithOnes := ⟨q_294, q_295⟩
abbrev m5_fillFrom : MI := (yX5_fillFrom, RX5, cX5_fillFrom, 4, none)
theorem f5_fillFrom : MF m5_fillFrom 1 := ⟨q_497, q_77, by decide +kernel, by decide +kernel, by decide +kernel, by decide +kernel, by decide +kernel⟩
theorem v5_fillFrom : MV m5_fillFrom := ⟨q_495, q_496⟩
abbrev m5_product : MI := (yX5_product, RX5, cX5_product, 5, some .int)
theorem f5_product : MF m5_product 2 := ⟨q_349, q_77, by decide +kernel, by decide +kernel, by decide +kernel, by decide +kernel, by decide +kernel⟩
theorem v5_product : MV m5_product := ⟨q_347, q_348⟩
abbrev m5_minor : MI := (yX5_minor, RX5, cX5_minor, 3, some .int)
theorem f5_minor : MF m5_minor 2 := ⟨q_324, q_77, by decide +kernel, by decide +kernel, by decide +kernel, by decide +kernel, by decide +kernel⟩
theorem v5_minor : MV m5_minor := ⟨q_322, q_323⟩
abbrev m5_hasNoZeroColumn : MI := (yX5_hasNoZeroColumn, RX5, cX5_hasNoZeroColumn, 2, some .boolean)
theorem f5_hasNoZeroColumn : MF m5_hasNoZeroColumn 0 := ⟨q_513, q_77, by decide +kernel, by decide +kernel, by decide +kernel, by decide +kernel, by decide +kernel⟩
theorem v5_hasNoZeroColumn : MV m5_hasNoZeroColumn := ⟨q_511, q_512⟩
abbrev m5_hasVectorInKernel : MI := (yX5_hasVectorInKernel, RX5, cX5_hasVectorInKernel, 1, some .boolean)
theorem f5_hasVectorInKernel : MF m5_hasVectorInKernel 0 := ⟨q_593, q_77, by decide +kernel, by decide +kernel, by decide +kernel, by decide +kernel, by decide +kernel⟩
theorem v5_hasVectorInKernel : MV m5_hasVectorInKernel := ⟨q_591, q_592⟩
abbrev m5_isOn : MI := (yX5_isOn, RX5, cX5_isOn, 2, some .boolean)
theorem f5_isOn : MF m5_isOn 1 := ⟨q_641, q_77, by decide +kernel, by decide +kernel, by decide +kernel, by decide +kernel, by decide +kernel⟩
theorem v5_isOn : MV m5_isOn := ⟨q_639, q_640⟩
abbrev m5_switchTo : MI := (yX5_switchTo, RX5, cX5_switchTo, 4, none)
theorem f5_switchTo : MF m5_switchTo 2 := ⟨q_645, q_77, by decide +kernel, by decide +kernel, by decide +kernel, by decide +kernel, by decide +kernel⟩
theorem v5_switchTo : MV m5_switchTo := ⟨q_643, q_644⟩
abbrev m5_switchAllOn : MI := (yX5_switchAllOn, RX5, cX5_switchAllOn, 2, none)
theorem f5_switchAllOn : MF m5_switchAllOn 1 := ⟨q_395, q_77, by decide +kernel, by decide +kernel, by decide +kernel, by decide +kernel, by decide +kernel⟩
theorem v5_switchAllOn : MV m5_switchAllOn := ⟨q_393, q_394⟩
abbrev m5_countOn : MI := (yX5_countOn, RX5, cX5_countOn, 1, some .int)
theorem f5_countOn : MF m5_countOn 0 := ⟨q_649, q_77, by decide +kernel, by decide +kernel, by decide +kernel, by decide +kernel, by decide +kernel⟩
theorem v5_countOn : MV m5_countOn := ⟨q_647, q_648⟩
abbrev m5_copyFrom : MI := (yX5_copyFrom, RX5, cX5_copyFrom, 2, none)
theorem f5_copyFrom : MF m5_copyFrom 1 := ⟨q_442, q_77, by decide +kernel, by decide +kernel, by decide +kernel, by decide +kernel, by decide +kernel⟩
theorem v5_copyFrom : MV m5_copyFrom := ⟨q_440, q_441⟩
abbrev m6_init : MI := (yX6_init, RX6, cX6_init, 1, none)
theorem f6_init : MF m6_init 0 := ⟨q_277, q_83, by decide +kernel, by decide +kernel, by decide +kernel, by decide +kernel, by decide +kernel⟩
theorem v6_init : MN m6_init := ⟨q_276, rfl⟩
abbrev m6_countClasses : MI := (yX6_countClasses, RX6, cX6_countClasses, 6, some .int)
theorem f6_countClasses : MF m6_countClasses 3 := ⟨q_667, q_83, by decide +kernel, by decide +kernel, by decide +kernel, by decide +kernel, by decide +kernel⟩
theorem v6_countClasses : MV m6_countClasses := ⟨q_665, q_666⟩
abbrev m6_countSteps : MI := (yX6_countSteps, RX6, cX6_countSteps, 6, some .int)
theorem f6_countSteps : MF m6_countSteps 5 := ⟨q_702, q_83, by decide +kernel, by decide +kernel, by decide +kernel, by decide +kernel, by decide +kernel⟩
theorem v6_countSteps : MV m6_countSteps := ⟨q_700, q_701⟩
abbrev m6_forget : MI := (yX6_forget, RX6, cX6_forget, 3, none)
theorem f6_forget : MF m6_forget 1 := ⟨q_671, q_83, by decide +kernel, by decide +kernel, by decide +kernel, by decide +kernel, by decide +kernel⟩
theorem v6_forget : MV m6_forget := ⟨q_670, q_31⟩
abbrev m6_reachFrom : MI := (yX6_reachFrom, RX6, cX6_reachFrom, 9, none)
theorem f6_reachFrom : MF m6_reachFrom 4 := ⟨q_675, q_83, by decide +kernel, by decide +kernel, by decide +kernel, by decide +kernel, by decide +kernel⟩
theorem v6_reachFrom : MV m6_reachFrom := ⟨q_674, q_32⟩
abbrev m6_reach : MI := (yX6_reach, RX6, cX6_reach, 3, none)
theorem f6_reach : MF m6_reach 2 := ⟨q_679, q_83, by decide +kernel, by decide +kernel, by decide +kernel, by decide +kernel, by decide +kernel⟩
theorem v6_reach : MV m6_reach := ⟨q_678, q_33⟩
abbrev m7_init : MI := (yX7_init, RX7, cX7_init, 1, none)
theorem f7_init : MF m7_init 0 := ⟨q_92, q_76, by decide +kernel, by decide +kernel, by decide +kernel, by decide +kernel, by decide +kernel⟩
theorem v7_init : MN m7_init := ⟨q_91, rfl⟩
abbrev m7_configure : MI := (yX7_configure, RX7, cX7_configure, 4, some .int)
theorem f7_configure : MF m7_configure 2 := ⟨q_430, q_76, by decide +kernel, by decide +kernel, by decide +kernel, by decide +kernel, by decide +kernel⟩
theorem v7_configure : MV m7_configure := ⟨q_428, q_429⟩
abbrev m7_setEntry : MI := (yX7_setEntry, RX7, cX7_setEntry, 5, some .int)
theorem f7_setEntry : MF m7_setEntry 3 := ⟨q_447, q_76, by decide +kernel, by decide +kernel, by decide +kernel, by decide +kernel, by decide +kernel⟩
theorem v7_setEntry : MV m7_setEntry := ⟨q_445, q_446⟩
abbrev m7_append : MI := (yX7_append, RX7, cX7_append, 2, some .int)
theorem f7_append : MF m7_append 1 := ⟨q_461, q_76, by decide +kernel, by decide +kernel, by decide +kernel, by decide +kernel, by decide +kernel⟩
theorem v7_append : MV m7_append := ⟨q_459, q_460⟩
abbrev m7_clearText : MI := (yX7_clearText, RX7, cX7_clearText, 2, some .int)
theorem f7_clearText : MF m7_clearText 0 := ⟨q_469, q_76, by decide +kernel, by decide +kernel, by decide +kernel, by decide +kernel, by decide +kernel⟩
theorem v7_clearText : MV m7_clearText := ⟨q_467, q_468⟩
abbrev m7_loadText : MI := (yX7_loadText, RX7, cX7_loadText, 2, some .int)
theorem f7_loadText : MF m7_loadText 0 := ⟨q_473, q_76, by decide +kernel, by decide +kernel, by decide +kernel, by decide +kernel, by decide +kernel⟩
theorem v7_loadText : MV m7_loadText := ⟨q_471, q_472⟩
abbrev m7_entry : MI := (yX7_entry, RX7, cX7_entry, 3, some .int)
theorem f7_entry : MF m7_entry 2 := ⟨q_501, q_76, by decide +kernel, by decide +kernel, by decide +kernel, by decide +kernel, by decide +kernel⟩
theorem v7_entry : MV m7_entry := ⟨q_499, q_500⟩
abbrev m7_rank : MI := (yX7_rank, RX7, cX7_rank, 1, some .int)
theorem f7_rank : MF m7_rank 0 := ⟨q_505, q_76, by decide +kernel, by decide +kernel, by decide +kernel, by decide +kernel, by decide +kernel⟩
theorem v7_rank : MV m7_rank := ⟨q_503, q_504⟩
abbrev m7_isPositive : MI := (yX7_isPositive, RX7, cX7_isPositive, 1, some .int)
theorem f7_isPositive : MF m7_isPositive 0 := ⟨q_509, q_76, by decide +kernel, by decide +kernel, by decide +kernel, by decide +kernel, by decide +kernel⟩
theorem v7_isPositive : MV m7_isPositive := ⟨q_507, q_508⟩
abbrev m7_graverCount : MI := (yX7_graverCount, RX7, cX7_graverCount, 1, some .int)
theorem f7_graverCount : MF m7_graverCount 0 := ⟨q_520, q_76, by decide +kernel, by decide +kernel, by decide +kernel, by decide +kernel, by decide +kernel⟩
theorem v7_graverCount : MV m7_graverCount := ⟨q_518, q_519⟩
abbrev m7_graverEntry : MI := (yX7_graverEntry, RX7, cX7_graverEntry, 3, some .int)
theorem f7_graverEntry : MF m7_graverEntry 2 := ⟨q_524, q_76, by decide +kernel, by decide +kernel, by decide +kernel, by decide +kernel, by decide +kernel⟩
theorem v7_graverEntry : MV m7_graverEntry := ⟨q_522, q_523⟩
abbrev m7_isCircuit : MI := (yX7_isCircuit, RX7, cX7_isCircuit, 2, some .int)
theorem f7_isCircuit : MF m7_isCircuit 1 := ⟨q_533, q_76, by decide +kernel, by decide +kernel, by decide +kernel, by decide +kernel, by decide +kernel⟩
theorem v7_isCircuit : MV m7_isCircuit := ⟨q_531, q_532⟩
abbrev m7_isIndispensable : MI := (yX7_isIndispensable, RX7, cX7_isIndispensable, 2, some .int)
theorem f7_isIndispensable : MF m7_isIndispensable 1 := ⟨q_545, q_76, by decide +kernel, by decide +kernel, by decide +kernel, by decide +kernel, by decide +kernel⟩
theorem v7_isIndispensable : MV m7_isIndispensable := ⟨q_543, q_544⟩
abbrev m7_setVector : MI := (yX7_setVector, RX7, cX7_setVector, 4, some .int)
theorem f7_setVector : MF m7_setVector 2 := ⟨q_585, q_76, by decide +kernel, by decide +kernel, by decide +kernel, by decide +kernel, by decide +kernel⟩
theorem v7_setVector : MV m7_setVector := ⟨q_583, q_584⟩
abbrev m7_isInKernel : MI := (yX7_isInKernel, RX7, cX7_isInKernel, 1, some .int)
theorem f7_isInKernel : MF m7_isInKernel 0 := ⟨q_589, q_76, by decide +kernel, by decide +kernel, by decide +kernel, by decide +kernel, by decide +kernel⟩
theorem v7_isInKernel : MV m7_isInKernel := ⟨q_587, q_588⟩
abbrev m7_decompositionLength : MI := (yX7_decompositionLength, RX7, cX7_decompositionLength, 1, some .int)
theorem f7_decompositionLength : MF m7_decompositionLength 0 := ⟨q_598, q_76, by decide +kernel, by decide +kernel, by decide +kernel, by decide +kernel, by decide +kernel⟩
theorem v7_decompositionLength : MV m7_decompositionLength := ⟨q_596, q_597⟩
abbrev m7_decompositionStep : MI := (yX7_decompositionStep, RX7, cX7_decompositionStep, 2, some .int)
theorem f7_decompositionStep : MF m7_decompositionStep 1 := ⟨q_613, q_76, by decide +kernel, by decide +kernel, by decide +kernel, by decide +kernel, by decide +kernel⟩
theorem v7_decompositionStep : MV m7_decompositionStep := ⟨q_611, q_612⟩
abbrev m7_setPoint : MI := (yX7_setPoint, RX7, cX7_setPoint, 4, some .int)
theorem f7_setPoint : MF m7_setPoint 2 := ⟨q_617, q_76, by decide +kernel, by decide +kernel, by decide +kernel, by decide +kernel, by decide +kernel⟩
theorem v7_setPoint : MV m7_setPoint := ⟨q_615, q_616⟩
abbrev m7_fiberSize : MI := (yX7_fiberSize, RX7, cX7_fiberSize, 1, some .int)
theorem f7_fiberSize : MF m7_fiberSize 0 := ⟨q_621, q_76, by decide +kernel, by decide +kernel, by decide +kernel, by decide +kernel, by decide +kernel⟩
theorem v7_fiberSize : MV m7_fiberSize := ⟨q_619, q_620⟩
abbrev m7_fiberEntry : MI := (yX7_fiberEntry, RX7, cX7_fiberEntry, 3, some .int)
theorem f7_fiberEntry : MF m7_fiberEntry 2 := ⟨q_629, q_76, by decide +kernel, by decide +kernel, by decide +kernel, by decide +kernel, by decide +kernel⟩
theorem v7_fiberEntry : MV m7_fiberEntry := ⟨q_627, q_628⟩
abbrev m7_activate : MI := (yX7_activate, RX7, cX7_activate, 3, some .int)
theorem f7_activate : MF m7_activate 2 := ⟨q_637, q_76, by decide +kernel, by decide +kernel, by decide +kernel, by decide +kernel, by decide +kernel⟩
theorem v7_activate : MV m7_activate := ⟨q_635, q_636⟩
abbrev m7_isActive : MI := (yX7_isActive, RX7, cX7_isActive, 2, some .int)
theorem f7_isActive : MF m7_isActive 1 := ⟨q_659, q_76, by decide +kernel, by decide +kernel, by decide +kernel, by decide +kernel, by decide +kernel⟩
theorem v7_isActive : MV m7_isActive := ⟨q_657, q_658⟩
abbrev m7_classes : MI := (yX7_classes, RX7, cX7_classes, 1, some .int)
theorem f7_classes : MF m7_classes 0 := ⟨q_663, q_76, by decide +kernel, by decide +kernel, by decide +kernel, by decide +kernel, by decide +kernel⟩
theorem v7_classes : MV m7_classes := ⟨q_661, q_662⟩
abbrev m7_distance : MI := (yX7_distance, RX7, cX7_distance, 4, some .int)
theorem f7_distance : MF m7_distance 1 := ⟨q_694, q_76, by decide +kernel, by decide +kernel, by decide +kernel, by decide +kernel, by decide +kernel⟩
theorem v7_distance : MV m7_distance := ⟨q_692, q_693⟩
abbrev m7_isMarkov : MI := (yX7_isMarkov, RX7, cX7_isMarkov, 1, some .int)
theorem f7_isMarkov : MF m7_isMarkov 0 := ⟨q_706, q_76, by decide +kernel, by decide +kernel, by decide +kernel, by decide +kernel, by decide +kernel⟩
theorem v7_isMarkov : MV m7_isMarkov := ⟨q_704, q_705⟩
abbrev m7_reduce : MI := (yX7_reduce, RX7, cX7_reduce, 2, some .int)
theorem f7_reduce : MF m7_reduce 0 := ⟨q_718, q_76, by decide +kernel, by decide +kernel, by decide +kernel, by decide +kernel, by decide +kernel⟩
theorem v7_reduce : MV m7_reduce := ⟨q_716, q_717⟩
abbrev m7_undo : MI := (yX7_undo, RX7, cX7_undo, 1, some .int)
theorem f7_undo : MF m7_undo 0 := ⟨q_726, q_76, by decide +kernel, by decide +kernel, by decide +kernel, by decide +kernel, by decide +kernel⟩
theorem v7_undo : MV m7_undo := ⟨q_724, q_725⟩
abbrev m7_asNumber : MI := (yX7_asNumber, RX7, cX7_asNumber, 1, some .int)
theorem f7_asNumber : MF m7_asNumber 1 := ⟨q_516, q_76, by decide +kernel, by decide +kernel, by decide +kernel, by decide +kernel, by decide +kernel⟩
theorem v7_asNumber : MS_ m7_asNumber := q_515
abbrev m7_isRow : MI := (yX7_isRow, RX7, cX7_isRow, 2, some .boolean)
theorem f7_isRow : MF m7_isRow 1 := ⟨q_451, q_76, by decide +kernel, by decide +kernel, by decide +kernel, by decide +kernel, by decide +kernel⟩
theorem v7_isRow : MV m7_isRow := ⟨q_450, q_16⟩
abbrev m7_isColumn : MI := (yX7_isColumn, RX7, cX7_isColumn, 2, some .boolean)
theorem f7_isColumn : MF m7_isColumn 1 := ⟨q_455, q_76, by decide +kernel, by decide +kernel, by decide +kernel, by decide +kernel, by decide +kernel⟩
theorem v7_isColumn : MV m7_isColumn := ⟨q_454, q_17⟩
abbrev m7_isElement : MI := (yX7_isElement, RX7, cX7_isElement, 2, some .boolean)
theorem f7_isElement : MF m7_isElement 1 := ⟨q_528, q_76, by decide +kernel, by decide +kernel, by decide +kernel, by decide +kernel, by decide +kernel⟩
theorem v7_isElement : MV m7_isElement := ⟨q_527, q_22⟩
abbrev m7_save : MI := (yX7_save, RX7, cX7_save, 1, none)
theorem f7_save : MF m7_save 0 := ⟨q_434, q_76, by decide +kernel, by decide +kernel, by decide +kernel, by decide +kernel, by decide +kernel⟩
theorem v7_save : MV m7_save := ⟨q_433, q_15⟩
abbrev m7_takeNewMatrix : MI := (yX7_takeNewMatrix, RX7, cX7_takeNewMatrix, 1, none)
theorem f7_takeNewMatrix : MF m7_takeNewMatrix 0 := ⟨q_304, q_76, by decide +kernel, by decide +kernel, by decide +kernel, by decide +kernel, by decide +kernel⟩
theorem v7_takeNewMatrix : MV m7_takeNewMatrix := ⟨q_303, q_0⟩
abbrev m7_buildPointFiber : MI := (yX7_buildPointFiber, RX7, cX7_buildPointFiber, 1, none)
theorem f7_buildPointFiber : MF m7_buildPointFiber 0 := ⟨q_625, q_76, by decide +kernel, by decide +kernel, by decide +kernel, by decide +kernel, by decide +kernel⟩
theorem v7_buildPointFiber : MV m7_buildPointFiber := ⟨q_624, q_30⟩
abbrev m7_buildElementFiber : MI := (yX7_buildElementFiber, RX7, cX7_buildElementFiber, 2, none)
theorem f7_buildElementFiber : MF m7_buildElementFiber 1 := ⟨q_549, q_76, by decide +kernel, by decide +kernel, by decide +kernel, by decide +kernel, by decide +kernel⟩
theorem v7_buildElementFiber : MV m7_buildElementFiber := ⟨q_548, q_24⟩
abbrev m7_isMarkovBasis : MI := (yX7_isMarkovBasis, RX7, cX7_isMarkovBasis, 2, some .boolean)
theorem f7_isMarkovBasis : MF m7_isMarkovBasis 0 := ⟨q_710, q_76, by decide +kernel, by decide +kernel, by decide +kernel, by decide +kernel, by decide +kernel⟩
theorem v7_isMarkovBasis : MV m7_isMarkovBasis := ⟨q_709, q_35⟩
abbrev m7_switchOffIfSpare : MI := (yX7_switchOffIfSpare, RX7, cX7_switchOffIfSpare, 2, none)
theorem f7_switchOffIfSpare : MF m7_switchOffIfSpare 1 := ⟨q_722, q_76, by decide +kernel, by decide +kernel, by decide +kernel, by decide +kernel, by decide +kernel⟩
theorem v7_switchOffIfSpare : MV m7_switchOffIfSpare := ⟨q_721, q_37⟩
abbrev m7_joinsItsParts : MI := (yX7_joinsItsParts, RX7, cX7_joinsItsParts, 4, some .boolean)
theorem f7_joinsItsParts : MF m7_joinsItsParts 1 := ⟨q_714, q_76, by decide +kernel, by decide +kernel, by decide +kernel, by decide +kernel, by decide +kernel⟩
theorem v7_joinsItsParts : MV m7_joinsItsParts := ⟨q_713, q_36⟩
abbrev m8_init : MI := (yX8_init, RX8, cX8_init, 1, none)
theorem f8_init : MF m8_init 0 := ⟨q_735, q_86, by decide +kernel, by decide +kernel, by decide +kernel, by decide +kernel, by decide +kernel⟩
theorem v8_init : MN m8_init := ⟨q_734, rfl⟩
abbrev m8_in : MI := (yX8_in, RX8, cX8_in, 3, some .boolean)
theorem f8_in : MF m8_in 3 := ⟨q_865, q_86, by decide +kernel, by decide +kernel, by decide +kernel, by decide +kernel, by decide +kernel⟩
theorem v8_in : MS_ m8_in := q_864
abbrev m8_size : MI := (yX8_size, RX8, cX8_size, 1, some .int)
theorem f8_size : MF m8_size 1 := ⟨q_771, q_86, by decide +kernel, by decide +kernel, by decide +kernel, by decide +kernel, by decide +kernel⟩
theorem v8_size : MS_ m8_size := q_770
abbrev m8_at : MI := (yX8_at, RX8, cX8_at, 3, some .int)
theorem f8_at : MF m8_at 2 := ⟨q_756, q_86, by decide +kernel, by decide +kernel, by decide +kernel, by decide +kernel, by decide +kernel⟩
theorem v8_at : MV m8_at := ⟨q_755, q_42⟩
abbrev m8_isColumn : MI := (yX8_isColumn, RX8, cX8_isColumn, 2, some .boolean)
theorem f8_isColumn : MF m8_isColumn 1 := ⟨q_881, q_86, by decide +kernel, by decide +kernel, by decide +kernel, by decide +kernel, by decide +kernel⟩
theorem v8_isColumn : MV m8_isColumn := ⟨q_880, q_53⟩
abbrev m8_keep : MI := (yX8_keep, RX8, cX8_keep, 2, none)
theorem f8_keep : MF m8_keep 0 := ⟨q_869, q_86, by decide +kernel, by decide +kernel, by decide +kernel, by decide +kernel, by decide +kernel⟩
theorem v8_keep : MV m8_keep := ⟨q_868, q_51⟩
abbrev m8_begin : MI := (yX8_begin, RX8, cX8_begin, 4, none)
theorem f8_begin : MF m8_begin 2 := ⟨q_740, q_86, by decide +kernel, by decide +kernel, by decide +kernel, by decide +kernel, by decide +kernel⟩
theorem v8_begin : MV m8_begin := ⟨q_739, q_38⟩
abbrev m8_changed : MI := (yX8_changed, RX8, cX8_changed, 2, none)
theorem f8_changed : MF m8_changed 0 := ⟨q_744, q_86, by decide +kernel, by decide +kernel, by decide +kernel, by decide +kernel, by decide +kernel⟩
theorem v8_changed : MV m8_changed := ⟨q_743, q_39⟩
abbrev m8_rankOf : MI := (yX8_rankOf, RX8, cX8_rankOf, 6, some .int)
theorem f8_rankOf : MF m8_rankOf 0 := ⟨q_752, q_86, by decide +kernel, by decide +kernel, by decide +kernel, by decide +kernel, by decide +kernel⟩
theorem v8_rankOf : MV m8_rankOf := ⟨q_751, q_41⟩
abbrev m8_isZeroColumn : MI := (yX8_isZeroColumn, RX8, cX8_isZeroColumn, 2, some .boolean)
theorem f8_isZeroColumn : MF m8_isZeroColumn 1 := ⟨q_783, q_86, by decide +kernel, by decide +kernel, by decide +kernel, by decide +kernel, by decide +kernel⟩
theorem v8_isZeroColumn : MV m8_isZeroColumn := ⟨q_782, q_48⟩
abbrev m8_product : MI := (yX8_product, RX8, cX8_product, 7, some .int)
theorem f8_product : MF m8_product 4 := ⟨q_768, q_86, by decide +kernel, by decide +kernel, by decide +kernel, by decide +kernel, by decide +kernel⟩
theorem v8_product : MV m8_product := ⟨q_767, q_45⟩
abbrev m8_lastEntry : MI := (yX8_lastEntry, RX8, cX8_lastEntry, 9, some .int)
theorem f8_lastEntry : MF m8_lastEntry 1 := ⟨q_764, q_86, by decide +kernel, by decide +kernel, by decide +kernel, by decide +kernel, by decide +kernel⟩
theorem v8_lastEntry : MV m8_lastEntry := ⟨q_763, q_44⟩
abbrev m8_isFirstPositive : MI := (yX8_isFirstPositive, RX8, cX8_isFirstPositive, 2, some .boolean)
theorem f8_isFirstPositive : MF m8_isFirstPositive 0 := ⟨q_775, q_86, by decide +kernel, by decide +kernel, by decide +kernel, by decide +kernel, by decide +kernel⟩
theorem v8_isFirstPositive : MV m8_isFirstPositive := ⟨q_774, q_46⟩
abbrev m8_addKernel : MI := (yX8_addKernel, RX8, cX8_addKernel, 2, none)
theorem f8_addKernel : MF m8_addKernel 0 := ⟨q_779, q_86, by decide +kernel, by decide +kernel, by decide +kernel, by decide +kernel, by decide +kernel⟩
theorem v8_addKernel : MV m8_addKernel := ⟨q_778, q_47⟩
abbrev m8_layKernel : MI := (yX8_layKernel, RX8, cX8_layKernel, 8, none)
theorem f8_layKernel : MF m8_layKernel 1 := ⟨q_760, q_86, by decide +kernel, by decide +kernel, by decide +kernel, by decide +kernel, by decide +kernel⟩
theorem v8_layKernel : MV m8_layKernel := ⟨q_759, q_43⟩
abbrev m8_norm : MI := (yX8_norm, RX8, cX8_norm, 2, some .int)
theorem f8_norm : MF m8_norm 2 := ⟨q_786, q_86, by decide +kernel, by decide +kernel, by decide +kernel, by decide +kernel, by decide +kernel⟩
theorem v8_norm : MS_ m8_norm := q_785
abbrev m8_isConformal : MI := (yX8_isConformal, RX8, cX8_isConformal, 8, some .boolean)
theorem f8_isConformal : MF m8_isConformal 4 := ⟨q_794, q_86, by decide +kernel, by decide +kernel, by decide +kernel, by decide +kernel, by decide +kernel⟩
theorem v8_isConformal : MV m8_isConformal := ⟨q_793, q_50⟩
abbrev m8_layBasis : MI := (yX8_layBasis, RX8, cX8_layBasis, 6, none)
theorem f8_layBasis : MF m8_layBasis 0 := ⟨q_748, q_86, by decide +kernel, by decide +kernel, by decide +kernel, by decide +kernel, by decide +kernel⟩
theorem v8_layBasis : MV m8_layBasis := ⟨q_747, q_40⟩
abbrev m8_isLeast : MI := (yX8_isLeast, RX8, cX8_isLeast, 4, some .boolean)
theorem f8_isLeast : MF m8_isLeast 1 := ⟨q_790, q_86, by decide +kernel, by decide +kernel, by decide +kernel, by decide +kernel, by decide +kernel⟩
theorem v8_isLeast : MV m8_isLeast := ⟨q_789, q_49⟩
abbrev m8_configure : MI := (yX8_configure, RX8, cX8_configure, 4, some .int)
theorem f8_configure : MF m8_configure 2 := ⟨q_862, q_86, by decide +kernel, by decide +kernel, by decide +kernel, by decide +kernel, by decide +kernel⟩
theorem v8_configure : MV m8_configure := ⟨q_860, q_861⟩
abbrev m8_isPlace : MI := (yX8_isPlace, RX8, cX8_isPlace, 3, some .boolean)
theorem f8_isPlace : MF m8_isPlace 2 := ⟨q_877, q_86, by decide +kernel, by decide +kernel, by decide +kernel, by decide +kernel, by decide +kernel⟩
theorem v8_isPlace : MV m8_isPlace := ⟨q_876, q_52⟩
abbrev m8_setEntry : MI := (yX8_setEntry, RX8, cX8_setEntry, 5, some .int)
theorem f8_setEntry : MF m8_setEntry 3 := ⟨q_873, q_86, by decide +kernel, by decide +kernel, by decide +kernel, by decide +kernel, by decide +kernel⟩
theorem v8_setEntry : MV m8_setEntry := ⟨q_871, q_872⟩
abbrev m8_append : MI := (yX8_append, RX8, cX8_append, 2, some .int)
theorem f8_append : MF m8_append 1 := ⟨q_885, q_86, by decide +kernel, by decide +kernel, by decide +kernel, by decide +kernel, by decide +kernel⟩
theorem v8_append : MV m8_append := ⟨q_883, q_884⟩
abbrev m8_clearText : MI := (yX8_clearText, RX8, cX8_clearText, 2, some .int)
theorem f8_clearText : MF m8_clearText 0 := ⟨q_889, q_86, by decide +kernel, by decide +kernel, by decide +kernel, by decide +kernel, by decide +kernel⟩
theorem v8_clearText : MV m8_clearText := ⟨q_887, q_888⟩
abbrev m8_readsCharacter : MI := (yX8_readsCharacter, RX8, cX8_readsCharacter, 4, some .boolean)
theorem f8_readsCharacter : MF m8_readsCharacter 1 := ⟨q_901, q_86, by decide +kernel, by decide +kernel, by decide +kernel, by decide +kernel, by decide +kernel⟩
theorem v8_readsCharacter : MV m8_readsCharacter := ⟨q_900, q_55⟩
abbrev m8_readsText : MI := (yX8_readsText, RX8, cX8_readsText, 2, some .int)
theorem f8_readsText : MF m8_readsText 0 := ⟨q_897, q_86, by decide +kernel, by decide +kernel, by decide +kernel, by decide +kernel, by decide +kernel⟩
theorem v8_readsText : MV m8_readsText := ⟨q_896, q_54⟩
abbrev m8_loadText : MI := (yX8_loadText, RX8, cX8_loadText, 3, some .int)
theorem f8_loadText : MF m8_loadText 0 := ⟨q_893, q_86, by decide +kernel, by decide +kernel, by decide +kernel, by decide +kernel, by decide +kernel⟩
theorem v8_loadText : MV m8_loadText := ⟨q_891, q_892⟩
abbrev m8_entry : MI := (yX8_entry, RX8, cX8_entry, 3, some .int)
theorem f8_entry : MF m8_entry 2 := ⟨q_905, q_86, by decide +kernel, by decide +kernel, by decide +kernel, by decide +kernel, by decide +kernel⟩
theorem v8_entry : MV m8_entry := ⟨q_903, q_904⟩
abbrev m8_rank : MI := (yX8_rank, RX8, cX8_rank, 1, some .int)
theorem f8_rank : MF m8_rank 0 := ⟨q_909, q_86, by decide +kernel, by decide +kernel, by decide +kernel, by decide +kernel, by decide +kernel⟩
theorem v8_rank : MV m8_rank := ⟨q_907, q_908⟩
abbrev m8_isAllPositive : MI := (yX8_isAllPositive, RX8, cX8_isAllPositive, 3, some .boolean)
theorem f8_isAllPositive : MF m8_isAllPositive 0 := ⟨q_917, q_86, by decide +kernel, by decide +kernel, by decide +kernel, by decide +kernel, by decide +kernel⟩
theorem v8_isAllPositive : MV m8_isAllPositive := ⟨q_916, q_56⟩
abbrev m8_isPositive : MI := (yX8_isPositive, RX8, cX8_isPositive, 1, some .int)
theorem f8_isPositive : MF m8_isPositive 0 := ⟨q_913, q_86, by decide +kernel, by decide +kernel, by decide +kernel, by decide +kernel, by decide +kernel⟩
theorem v8_isPositive : MV m8_isPositive := ⟨q_911, q_912⟩
abbrev m8_isElement : MI := (yX8_isElement, RX8, cX8_isElement, 2, some .boolean)
theorem f8_isElement : MF m8_isElement 1 := ⟨q_929, q_86, by decide +kernel, by decide +kernel, by decide +kernel, by decide +kernel, by decide +kernel⟩
theorem v8_isElement : MV m8_isElement := ⟨q_928, q_57⟩
abbrev m8_graverCount : MI := (yX8_graverCount, RX8, cX8_graverCount, 1, some .int)
theorem f8_graverCount : MF m8_graverCount 0 := ⟨q_921, q_86, by decide +kernel, by decide +kernel, by decide +kernel, by decide +kernel, by decide +kernel⟩
theorem v8_graverCount : MV m8_graverCount := ⟨q_919, q_920⟩
abbrev m8_graverEntry : MI := (yX8_graverEntry, RX8, cX8_graverEntry, 3, some .int)
theorem f8_graverEntry : MF m8_graverEntry 2 := ⟨q_925, q_86, by decide +kernel, by decide +kernel, by decide +kernel, by decide +kernel, by decide +kernel⟩
theorem v8_graverEntry : MV m8_graverEntry := ⟨q_923, q_924⟩
abbrev m8_support : MI := (yX8_support, RX8, cX8_support, 4, some .int)
theorem f8_support : MF m8_support 1 := ⟨q_937, q_86, by decide +kernel, by decide +kernel, by decide +kernel, by decide +kernel, by decide +kernel⟩
theorem v8_support : MV m8_support := ⟨q_936, q_58⟩
abbrev m8_isCircuit : MI := (yX8_isCircuit, RX8, cX8_isCircuit, 5, some .int)
theorem f8_isCircuit : MF m8_isCircuit 1 := ⟨q_933, q_86, by decide +kernel, by decide +kernel, by decide +kernel, by decide +kernel, by decide +kernel⟩
theorem v8_isCircuit : MV m8_isCircuit := ⟨q_931, q_932⟩
abbrev m8_setGoal : MI := (yX8_setGoal, RX8, cX8_setGoal, 5, none)
theorem f8_setGoal : MF m8_setGoal 2 := ⟨q_945, q_86, by decide +kernel, by decide +kernel, by decide +kernel, by decide +kernel, by decide +kernel⟩
theorem v8_setGoal : MV m8_setGoal := ⟨q_944, q_59⟩
abbrev m8_setGoalToPoint : MI := (yX8_setGoalToPoint, RX8, cX8_setGoalToPoint, 2, none)
theorem f8_setGoalToPoint : MF m8_setGoalToPoint 0 := ⟨q_997, q_86, by decide +kernel, by decide +kernel, by decide +kernel, by decide +kernel, by decide +kernel⟩
theorem v8_setGoalToPoint : MV m8_setGoalToPoint := ⟨q_996, q_66⟩
abbrev m8_addFiber : MI := (yX8_addFiber, RX8, cX8_addFiber, 2, none)
theorem f8_addFiber : MF m8_addFiber 0 := ⟨q_953, q_86, by decide +kernel, by decide +kernel, by decide +kernel, by decide +kernel, by decide +kernel⟩
theorem v8_addFiber : MV m8_addFiber := ⟨q_952, q_61⟩
abbrev m8_layFiber : MI := (yX8_layFiber, RX8, cX8_layFiber, 7, none)
theorem f8_layFiber : MF m8_layFiber 0 := ⟨q_949, q_86, by decide +kernel, by decide +kernel, by decide +kernel, by decide +kernel, by decide +kernel⟩
theorem v8_layFiber : MV m8_layFiber := ⟨q_948, q_60⟩
abbrev m8_compare : MI := (yX8_compare, RX8, cX8_compare, 3, some .int)
theorem f8_compare : MF m8_compare 1 := ⟨q_1037, q_86, by decide +kernel, by decide +kernel, by decide +kernel, by decide +kernel, by decide +kernel⟩
theorem v8_compare : MV m8_compare := ⟨q_1036, q_72⟩
abbrev m8_numberOf : MI := (yX8_numberOf, RX8, cX8_numberOf, 4, some .int)
theorem f8_numberOf : MF m8_numberOf 0 := ⟨q_1033, q_86, by decide +kernel, by decide +kernel, by decide +kernel, by decide +kernel, by decide +kernel⟩
theorem v8_numberOf : MV m8_numberOf := ⟨q_1032, q_71⟩
abbrev m8_numberOfGoal : MI := (yX8_numberOfGoal, RX8, cX8_numberOfGoal, 2, some .int)
theorem f8_numberOfGoal : MF m8_numberOfGoal 0 := ⟨q_1045, q_86, by decide +kernel, by decide +kernel, by decide +kernel, by decide +kernel, by decide +kernel⟩
theorem v8_numberOfGoal : MV m8_numberOfGoal := ⟨q_1044, q_73⟩
abbrev m8_clearFar : MI := (yX8_clearFar, RX8, cX8_clearFar, 2, none)
theorem f8_clearFar : MF m8_clearFar 0 := ⟨q_1021, q_86, by decide +kernel, by decide +kernel, by decide +kernel, by decide +kernel, by decide +kernel⟩
theorem v8_clearFar : MV m8_clearFar := ⟨q_1020, q_68⟩
abbrev m8_stepFrom : MI := (yX8_stepFrom, RX8, cX8_stepFrom, 6, some .int)
theorem f8_stepFrom : MF m8_stepFrom 3 := ⟨q_1029, q_86, by decide +kernel, by decide +kernel, by decide +kernel, by decide +kernel, by decide +kernel⟩
theorem v8_stepFrom : MV m8_stepFrom := ⟨q_1028, q_70⟩
abbrev m8_search : MI := (yX8_search, RX8, cX8_search, 5, none)
theorem f8_search : MF m8_search 1 := ⟨q_1025, q_86, by decide +kernel, by decide +kernel, by decide +kernel, by decide +kernel, by decide +kernel⟩
theorem v8_search : MV m8_search := ⟨q_1024, q_69⟩
abbrev m8_isIndispensable : MI := (yX8_isIndispensable, RX8, cX8_isIndispensable, 2, some .int)
theorem f8_isIndispensable : MF m8_isIndispensable 1 := ⟨q_941, q_86, by decide +kernel, by decide +kernel, by decide +kernel, by decide +kernel, by decide +kernel⟩
theorem v8_isIndispensable : MV m8_isIndispensable := ⟨q_939, q_940⟩
abbrev m8_setVector : MI := (yX8_setVector, RX8, cX8_setVector, 4, some .int)
theorem f8_setVector : MF m8_setVector 2 := ⟨q_957, q_86, by decide +kernel, by decide +kernel, by decide +kernel, by decide +kernel, by decide +kernel⟩
theorem v8_setVector : MV m8_setVector := ⟨q_955, q_956⟩
abbrev m8_isKernelVector : MI := (yX8_isKernelVector, RX8, cX8_isKernelVector, 1, some .boolean)
theorem f8_isKernelVector : MF m8_isKernelVector 0 := ⟨q_965, q_86, by decide +kernel, by decide +kernel, by decide +kernel, by decide +kernel, by decide +kernel⟩
theorem v8_isKernelVector : MV m8_isKernelVector := ⟨q_964, q_62⟩
abbrev m8_isInKernel : MI := (yX8_isInKernel, RX8, cX8_isInKernel, 1, some .int)
theorem f8_isInKernel : MF m8_isInKernel 0 := ⟨q_961, q_86, by decide +kernel, by decide +kernel, by decide +kernel, by decide +kernel, by decide +kernel⟩
theorem v8_isInKernel : MV m8_isInKernel := ⟨q_959, q_960⟩
abbrev m8_firstConformal : MI := (yX8_firstConformal, RX8, cX8_firstConformal, 3, some .int)
theorem f8_firstConformal : MF m8_firstConformal 0 := ⟨q_977, q_86, by decide +kernel, by decide +kernel, by decide +kernel, by decide +kernel, by decide +kernel⟩
theorem v8_firstConformal : MV m8_firstConformal := ⟨q_976, q_64⟩
abbrev m8_decompose : MI := (yX8_decompose, RX8, cX8_decompose, 5, some .int)
theorem f8_decompose : MF m8_decompose 1 := ⟨q_973, q_86, by decide +kernel, by decide +kernel, by decide +kernel, by decide +kernel, by decide +kernel⟩
theorem v8_decompose : MV m8_decompose := ⟨q_972, q_63⟩
abbrev m8_decompositionLength : MI := (yX8_decompositionLength, RX8, cX8_decompositionLength, 1, some .int)
theorem f8_decompositionLength : MF m8_decompositionLength 0 := ⟨q_969, q_86, by decide +kernel, by decide +kernel, by decide +kernel, by decide +kernel, by decide +kernel⟩
theorem v8_decompositionLength : MV m8_decompositionLength := ⟨q_967, q_968⟩
abbrev m8_decompositionStep : MI := (yX8_decompositionStep, RX8, cX8_decompositionStep, 3, some .int)
theorem f8_decompositionStep : MF m8_decompositionStep 1 := ⟨q_981, q_86, by decide +kernel, by decide +kernel, by decide +kernel, by decide +kernel, by decide +kernel⟩
theorem v8_decompositionStep : MV m8_decompositionStep := ⟨q_979, q_980⟩
abbrev m8_setPoint : MI := (yX8_setPoint, RX8, cX8_setPoint, 4, some .int)
theorem f8_setPoint : MF m8_setPoint 2 := ⟨q_985, q_86, by decide +kernel, by decide +kernel, by decide +kernel, by decide +kernel, by decide +kernel⟩
theorem v8_setPoint : MV m8_setPoint := ⟨q_983, q_984⟩
abbrev m8_layFiberOfPoint : MI := (yX8_layFiberOfPoint, RX8, cX8_layFiberOfPoint, 1, none)
theorem f8_layFiberOfPoint : MF m8_layFiberOfPoint 0 := ⟨q_993, q_86, by decide +kernel, by decide +kernel, by decide +kernel, by decide +kernel, by decide +kernel⟩
theorem v8_layFiberOfPoint : MV m8_layFiberOfPoint := ⟨q_992, q_65⟩
abbrev m8_fiberSize : MI := (yX8_fiberSize, RX8, cX8_fiberSize, 1, some .int)
theorem f8_fiberSize : MF m8_fiberSize 0 := ⟨q_989, q_86, by decide +kernel, by decide +kernel, by decide +kernel, by decide +kernel, by decide +kernel⟩
theorem v8_fiberSize : MV m8_fiberSize := ⟨q_987, q_988⟩
abbrev m8_fiberEntry : MI := (yX8_fiberEntry, RX8, cX8_fiberEntry, 3, some .int)
theorem f8_fiberEntry : MF m8_fiberEntry 2 := ⟨q_1001, q_86, by decide +kernel, by decide +kernel, by decide +kernel, by decide +kernel, by decide +kernel⟩
theorem v8_fiberEntry : MV m8_fiberEntry := ⟨q_999, q_1000⟩
abbrev m8_activeCount : MI := (yX8_activeCount, RX8, cX8_activeCount, 3, some .int)
theorem f8_activeCount : MF m8_activeCount 0 := ⟨q_1009, q_86, by decide +kernel, by decide +kernel, by decide +kernel, by decide +kernel, by decide +kernel⟩
theorem v8_activeCount : MV m8_activeCount := ⟨q_1008, q_67⟩
abbrev m8_activate : MI := (yX8_activate, RX8, cX8_activate, 3, some .int)
theorem f8_activate : MF m8_activate 2 := ⟨q_1005, q_86, by decide +kernel, by decide +kernel, by decide +kernel, by decide +kernel, by decide +kernel⟩
theorem v8_activate : MV m8_activate := ⟨q_1003, q_1004⟩
abbrev m8_isActive : MI := (yX8_isActive, RX8, cX8_isActive, 2, some .int)
theorem f8_isActive : MF m8_isActive 1 := ⟨q_1013, q_86, by decide +kernel, by decide +kernel, by decide +kernel, by decide +kernel, by decide +kernel⟩
theorem v8_isActive : MV m8_isActive := ⟨q_1011, q_1012⟩
abbrev m8_classes : MI := (yX8_classes, RX8, cX8_classes, 3, some .int)
theorem f8_classes : MF m8_classes 0 := ⟨q_1017, q_86, by decide +kernel, by decide +kernel, by decide +kernel, by decide +kernel, by decide +kernel⟩
theorem v8_classes : MV m8_classes := ⟨q_1015, q_1016⟩
abbrev m8_distance : MI := (yX8_distance, RX8, cX8_distance, 2, some .int)
theorem f8_distance : MF m8_distance 1 := ⟨q_1041, q_86, by decide +kernel, by decide +kernel, by decide +kernel, by decide +kernel, by decide +kernel⟩
theorem v8_distance : MV m8_distance := ⟨q_1039, q_1040⟩
abbrev m8_areConnected : MI := (yX8_areConnected, RX8, cX8_areConnected, 3, some .boolean)
theorem f8_areConnected : MF m8_areConnected 0 := ⟨q_1053, q_86, by decide +kernel, by decide +kernel, by decide +kernel, by decide +kernel, by decide +kernel⟩
theorem v8_areConnected : MV m8_areConnected := ⟨q_1052, q_74⟩
abbrev m8_isMarkov : MI := (yX8_isMarkov, RX8, cX8_isMarkov, 1, some .int)
theorem f8_isMarkov : MF m8_isMarkov 0 := ⟨q_1049, q_86, by decide +kernel, by decide +kernel, by decide +kernel, by decide +kernel, by decide +kernel⟩
theorem v8_isMarkov : MV m8_isMarkov := ⟨q_1047, q_1048⟩
abbrev m8_reduce : MI := (yX8_reduce, RX8, cX8_reduce, 2, some .int)
theorem f8_reduce : MF m8_reduce 0 := ⟨q_1057, q_86, by decide +kernel, by decide +kernel, by decide +kernel, by decide +kernel, by decide +kernel⟩
theorem v8_reduce : MV m8_reduce := ⟨q_1055, q_1056⟩
abbrev m8_undo : MI := (yX8_undo, RX8, cX8_undo, 2, some .int)
theorem f8_undo : MF m8_undo 0 := ⟨q_1061, q_86, by decide +kernel, by decide +kernel, by decide +kernel, by decide +kernel, by decide +kernel⟩
theorem v8_undo : MV m8_undo := ⟨q_1059, q_1060⟩
abbrev mJ6_bitCount_0f7a4 : MI := (yJ6_bitCount_0f7a4, RJ6, cJ6_bitCount_0f7a4, 1, some .int)
theorem fJ6_bitCount_0f7a4 : MF mJ6_bitCount_0f7a4 1 := ⟨q_652, q_87, by decide +kernel, by decide +kernel, by decide +kernel, by decide +kernel, by decide +kernel⟩
theorem vJ6_bitCount_0f7a4 : MS_ mJ6_bitCount_0f7a4 := q_651
end
section
theorem i0_init_0 : ILa cX0_init 0 1 0 := Or.inl ⟨0, by decide +kernel, rfl, rfl⟩
theorem i0_init_1 : ICI m0_init 1 4 objectInit := ⟨3, by decide +kernel, rfl, q_236⟩
theorem i0_init_4 : ILa cX0_init 4 5 0 := Or.inl ⟨0, by decide +kernel, rfl, rfl⟩
theorem i0_init_5 : IC cX0_init 5 7 (120) := ⟨by decide, Or.inr (Or.inl ⟨by decide +kernel, by decide +kernel, rfl⟩)⟩
theorem i0_init_7 : INA cX0_init 7 9 := ⟨by decide +kernel, rfl⟩
theorem i0_init_9 : IPZ m0_init 9 12 0 1 := ⟨9, by decide +kernel, rfl, by decide, by decide, q_239, rfl, rfl, rfl⟩
theorem i0_init_12 : ILa cX0_init 12 13 0 := Or.inl ⟨0, by decide +kernel, rfl, rfl⟩
theorem i0_init_13 : IC cX0_init 13 14 (4) := ⟨by decide, Or.inl ⟨by decide +kernel, rfl⟩⟩
theorem i0_init_14 : INA cX0_init 14 16 := ⟨by decide +kernel, rfl⟩
theorem i0_init_16 : IPZ m0_init 16 19 0 2 := ⟨15, by decide +kernel, rfl, by decide, by decide, q_241, rfl, rfl, rfl⟩
theorem i0_init_19 : IO cX0_init 19 20 .return_ := ⟨by decide +kernel, rfl⟩
theorem i0_find_0 : ILa cX0_find 0 1 2 := Or.inl ⟨2, by decide +kernel, rfl, rfl⟩
theorem i0_find_1 : IC cX0_find 1 2 (0) := ⟨by decide, Or.inl ⟨by decide +kernel, rfl⟩⟩
theorem i0_find_2 : ILa cX0_find 2 3 0 := Or.inl ⟨0, by decide +kernel, rfl, rfl⟩
theorem i0_find_3 : IGF m0_find 3 6 0 2 := ⟨15, by decide +kernel, rfl, by decide, by decide, q_241⟩
theorem i0_find_6 : IC cX0_find 6 7 (0) := ⟨by decide, Or.inl ⟨by decide +kernel, rfl⟩⟩
theorem i0_find_7 : IC cX0_find 7 8 (4) := ⟨by decide, Or.inl ⟨by decide +kernel, rfl⟩⟩
theorem i0_find_8 : ICS m0_find 8 11 arraycopyName := ⟨18, by decide +kernel, rfl, q_603⟩
theorem i0_find_11 : ILa cX0_find 11 12 0 := Or.inl ⟨0, by decide +kernel, rfl, rfl⟩
theorem i0_find_12 : IC cX0_find 12 13 (0) := ⟨by decide, Or.inl ⟨by decide +kernel, rfl⟩⟩
theorem i0_find_13 : IPF m0_find 13 16 0 0 := ⟨24, by decide +kernel, rfl, by decide, by decide, q_237, rfl⟩
theorem i0_find_16 : IC cX0_find 16 17 (0) := ⟨by decide, Or.inl ⟨by decide +kernel, rfl⟩⟩
theorem i0_find_17 : ISi cX0_find 17 18 3 := Or.inl ⟨3, by decide +kernel, rfl, rfl⟩
theorem i0_find_18 : ILi cX0_find 18 19 3 := Or.inl ⟨3, by decide +kernel, rfl, rfl⟩
theorem i0_find_19 : ILa cX0_find 19 20 1 := Or.inl ⟨1, by decide +kernel, rfl, rfl⟩
theorem i0_find_20 : IGF m0_find 20 23 2 0 := ⟨28, by decide +kernel, rfl, by decide, by decide, q_183⟩
theorem i0_find_23 : IJ cX0_find 23 26 46 (.if_icmp .ge) := ⟨23, by decide +kernel, rfl, by decide⟩
theorem i0_find_26 : ILa cX0_find 26 27 0 := Or.inl ⟨0, by decide +kernel, rfl, rfl⟩
theorem i0_find_27 : ILa cX0_find 27 28 1 := Or.inl ⟨1, by decide +kernel, rfl, rfl⟩
theorem i0_find_28 : ILi cX0_find 28 29 3 := Or.inl ⟨3, by decide +kernel, rfl, rfl⟩
theorem i0_find_29 : IC cX0_find 29 30 (1) := ⟨by decide, Or.inl ⟨by decide +kernel, rfl⟩⟩
theorem i0_find_30 : ICV m0_find 30 33 m0_takeWhileConformal := ⟨33, by decide +kernel, rfl, q_604⟩
theorem i0_find_33 : ILa cX0_find 33 34 0 := Or.inl ⟨0, by decide +kernel, rfl, rfl⟩
theorem i0_find_34 : ILa cX0_find 34 35 1 := Or.inl ⟨1, by decide +kernel, rfl, rfl⟩
theorem i0_find_35 : ILi cX0_find 35 36 3 := Or.inl ⟨3, by decide +kernel, rfl, rfl⟩
theorem i0_find_36 : IC cX0_find 36 37 (-1) := ⟨by decide, Or.inl ⟨by decide +kernel, rfl⟩⟩
theorem i0_find_37 : ICV m0_find 37 40 m0_takeWhileConformal := ⟨33, by decide +kernel, rfl, q_604⟩
theorem i0_find_40 : II cX0_find 40 43 3 (1) := ⟨by decide +kernel, by decide, rfl⟩
theorem i0_find_43 : IJ cX0_find 43 46 18 .goto := ⟨-25, by decide +kernel, rfl, by decide⟩
theorem i0_find_46 : IO cX0_find 46 47 .return_ := ⟨by decide +kernel, rfl⟩
theorem i0_takeWhileConformal_0 : ILa cX0_takeWhileConformal 0 1 0 := Or.inl ⟨0, by decide +kernel, rfl, rfl⟩
theorem i0_takeWhileConformal_1 : IGF m0_takeWhileConformal 1 4 0 0 := ⟨24, by decide +kernel, rfl, by decide, by decide, q_237⟩
theorem i0_takeWhileConformal_4 : IC cX0_takeWhileConformal 4 6 (120) := ⟨by decide, Or.inr (Or.inl ⟨by decide +kernel, by decide +kernel, rfl⟩)⟩
theorem i0_takeWhileConformal_6 : IJ cX0_takeWhileConformal 6 9 86 (.if_icmp .ge) := ⟨80, by decide +kernel, rfl, by decide⟩
theorem i0_takeWhileConformal_9 : ILa cX0_takeWhileConformal 9 10 1 := Or.inl ⟨1, by decide +kernel, rfl, rfl⟩
theorem i0_takeWhileConformal_10 : ILi cX0_takeWhileConformal 10 11 2 := Or.inl ⟨2, by decide +kernel, rfl, rfl⟩
theorem i0_takeWhileConformal_11 : ILi cX0_takeWhileConformal 11 12 3 := Or.inl ⟨3, by decide +kernel, rfl, rfl⟩
theorem i0_takeWhileConformal_12 : ILa cX0_takeWhileConformal 12 13 0 := Or.inl ⟨0, by decide +kernel, rfl, rfl⟩
theorem i0_takeWhileConformal_13 : IGF m0_takeWhileConformal 13 16 0 2 := ⟨15, by decide +kernel, rfl, by decide, by decide, q_241⟩
theorem i0_takeWhileConformal_16 : ICV m0_takeWhileConformal 16 19 m2_conforms := ⟨37, by decide +kernel, rfl, q_608⟩
theorem i0_takeWhileConformal_19 : IJ cX0_takeWhileConformal 19 22 86 (.ifCond .eq) := ⟨67, by decide +kernel, rfl, by decide⟩
theorem i0_takeWhileConformal_22 : IC cX0_takeWhileConformal 22 23 (0) := ⟨by decide, Or.inl ⟨by decide +kernel, rfl⟩⟩
theorem i0_takeWhileConformal_23 : ISi cX0_takeWhileConformal 23 25 4 := Or.inr ⟨by decide +kernel, rfl⟩
theorem i0_takeWhileConformal_25 : ILi cX0_takeWhileConformal 25 27 4 := Or.inr ⟨by decide +kernel, rfl⟩
theorem i0_takeWhileConformal_27 : ILa cX0_takeWhileConformal 27 28 1 := Or.inl ⟨1, by decide +kernel, rfl, rfl⟩
theorem i0_takeWhileConformal_28 : decode cX0_takeWhileConformal 28 = .ok (.getfield 41, 3) := by decide +kernel
theorem i0_takeWhileConformal_31 : IJ cX0_takeWhileConformal 31 34 59 (.if_icmp .ge) := ⟨28, by decide +kernel, rfl, by decide⟩
theorem i0_takeWhileConformal_34 : ILa cX0_takeWhileConformal 34 35 0 := Or.inl ⟨0, by decide +kernel, rfl, rfl⟩
theorem i0_takeWhileConformal_35 : IGF m0_takeWhileConformal 35 38 0 2 := ⟨15, by decide +kernel, rfl, by decide, by decide, q_241⟩
theorem i0_takeWhileConformal_38 : ILi cX0_takeWhileConformal 38 40 4 := Or.inr ⟨by decide +kernel, rfl⟩
theorem i0_takeWhileConformal_40 : IO cX0_takeWhileConformal 40 41 .dup2 := ⟨by decide +kernel, rfl⟩
theorem i0_takeWhileConformal_41 : IO cX0_takeWhileConformal 41 42 .iaload := ⟨by decide +kernel, rfl⟩
theorem i0_takeWhileConformal_42 : ILi cX0_takeWhileConformal 42 43 3 := Or.inl ⟨3, by decide +kernel, rfl, rfl⟩
theorem i0_takeWhileConformal_43 : ILa cX0_takeWhileConformal 43 44 1 := Or.inl ⟨1, by decide +kernel, rfl, rfl⟩
theorem i0_takeWhileConformal_44 : ILi cX0_takeWhileConformal 44 45 2 := Or.inl ⟨2, by decide +kernel, rfl, rfl⟩
theorem i0_takeWhileConformal_45 : ILi cX0_takeWhileConformal 45 47 4 := Or.inr ⟨by decide +kernel, rfl⟩
theorem i0_takeWhileConformal_47 : ICV m0_takeWhileConformal 47 50 m2_at := ⟨44, by decide +kernel, rfl, q_609⟩
theorem i0_takeWhileConformal_50 : IO cX0_takeWhileConformal 50 51 .imul := ⟨by decide +kernel, rfl⟩
theorem i0_takeWhileConformal_51 : IO cX0_takeWhileConformal 51 52 .isub := ⟨by decide +kernel, rfl⟩
theorem i0_takeWhileConformal_52 : IO cX0_takeWhileConformal 52 53 .iastore := ⟨by decide +kernel, rfl⟩
theorem i0_takeWhileConformal_53 : II cX0_takeWhileConformal 53 56 4 (1) := ⟨by decide +kernel, by decide, rfl⟩
theorem i0_takeWhileConformal_56 : IJ cX0_takeWhileConformal 56 59 25 .goto := ⟨-31, by decide +kernel, rfl, by decide⟩
theorem i0_takeWhileConformal_59 : ILa cX0_takeWhileConformal 59 60 0 := Or.inl ⟨0, by decide +kernel, rfl, rfl⟩
theorem i0_takeWhileConformal_60 : IGF m0_takeWhileConformal 60 63 0 1 := ⟨9, by decide +kernel, rfl, by decide, by decide, q_239⟩
theorem i0_takeWhileConformal_63 : ILa cX0_takeWhileConformal 63 64 0 := Or.inl ⟨0, by decide +kernel, rfl, rfl⟩
theorem i0_takeWhileConformal_64 : IGF m0_takeWhileConformal 64 67 0 0 := ⟨24, by decide +kernel, rfl, by decide, by decide, q_237⟩
theorem i0_takeWhileConformal_67 : ILi cX0_takeWhileConformal 67 68 3 := Or.inl ⟨3, by decide +kernel, rfl, rfl⟩
theorem i0_takeWhileConformal_68 : ILi cX0_takeWhileConformal 68 69 2 := Or.inl ⟨2, by decide +kernel, rfl, rfl⟩
theorem i0_takeWhileConformal_69 : IC cX0_takeWhileConformal 69 70 (1) := ⟨by decide, Or.inl ⟨by decide +kernel, rfl⟩⟩
theorem i0_takeWhileConformal_70 : IO cX0_takeWhileConformal 70 71 .iadd := ⟨by decide +kernel, rfl⟩
theorem i0_takeWhileConformal_71 : IO cX0_takeWhileConformal 71 72 .imul := ⟨by decide +kernel, rfl⟩
theorem i0_takeWhileConformal_72 : IO cX0_takeWhileConformal 72 73 .iastore := ⟨by decide +kernel, rfl⟩
theorem i0_takeWhileConformal_73 : ILa cX0_takeWhileConformal 73 74 0 := Or.inl ⟨0, by decide +kernel, rfl, rfl⟩
theorem i0_takeWhileConformal_74 : IO cX0_takeWhileConformal 74 75 .dup := ⟨by decide +kernel, rfl⟩
theorem i0_takeWhileConformal_75 : IGF m0_takeWhileConformal 75 78 0 0 := ⟨24, by decide +kernel, rfl, by decide, by decide, q_237⟩
theorem i0_takeWhileConformal_78 : IC cX0_takeWhileConformal 78 79 (1) := ⟨by decide, Or.inl ⟨by decide +kernel, rfl⟩⟩
theorem i0_takeWhileConformal_79 : IO cX0_takeWhileConformal 79 80 .iadd := ⟨by decide +kernel, rfl⟩
theorem i0_takeWhileConformal_80 : IPF m0_takeWhileConformal 80 83 0 0 := ⟨24, by decide +kernel, rfl, by decide, by decide, q_237, rfl⟩
theorem i0_takeWhileConformal_83 : IJ cX0_takeWhileConformal 83 86 0 .goto := ⟨-83, by decide +kernel, rfl, by decide⟩
theorem i0_takeWhileConformal_86 : IO cX0_takeWhileConformal 86 87 .return_ := ⟨by decide +kernel, rfl⟩
theorem i1_init_0 : ILa cX1_init 0 1 0 := Or.inl ⟨0, by decide +kernel, rfl, rfl⟩
theorem i1_init_1 : ICI m1_init 1 4 objectInit := ⟨5, by decide +kernel, rfl, q_254⟩
theorem i1_init_4 : ILa cX1_init 4 5 0 := Or.inl ⟨0, by decide +kernel, rfl, rfl⟩
theorem i1_init_5 : IC cX1_init 5 6 (4) := ⟨by decide, Or.inl ⟨by decide +kernel, rfl⟩⟩
theorem i1_init_6 : INA cX1_init 6 8 := ⟨by decide +kernel, rfl⟩
theorem i1_init_8 : IPZ m1_init 8 11 1 3 := ⟨11, by decide +kernel, rfl, by decide, by decide, q_260, rfl, rfl, rfl⟩
theorem i1_init_11 : ILa cX1_init 11 12 0 := Or.inl ⟨0, by decide +kernel, rfl, rfl⟩
theorem i1_init_12 : IC cX1_init 12 13 (4) := ⟨by decide, Or.inl ⟨by decide +kernel, rfl⟩⟩
theorem i1_init_13 : INA cX1_init 13 15 := ⟨by decide +kernel, rfl⟩
theorem i1_init_15 : IPZ m1_init 15 18 1 4 := ⟨15, by decide +kernel, rfl, by decide, by decide, q_261, rfl, rfl, rfl⟩
theorem i1_init_18 : ILa cX1_init 18 19 0 := Or.inl ⟨0, by decide +kernel, rfl, rfl⟩
theorem i1_init_19 : ILi cX1_init 19 20 1 := Or.inl ⟨1, by decide +kernel, rfl, rfl⟩
theorem i1_init_20 : INA cX1_init 20 22 := ⟨by decide +kernel, rfl⟩
theorem i1_init_22 : IPZ m1_init 22 25 1 2 := ⟨18, by decide +kernel, rfl, by decide, by decide, q_259, rfl, rfl, rfl⟩
theorem i1_init_25 : IO cX1_init 25 26 .return_ := ⟨by decide +kernel, rfl⟩
theorem i1_build_0 : ILa cX1_build 0 1 0 := Or.inl ⟨0, by decide +kernel, rfl, rfl⟩
theorem i1_build_1 : ILa cX1_build 1 2 1 := Or.inl ⟨1, by decide +kernel, rfl, rfl⟩
theorem i1_build_2 : ICV m1_build 2 5 m1_takeColumns := ⟨21, by decide +kernel, rfl, q_561⟩
theorem i1_build_5 : ILa cX1_build 5 6 0 := Or.inl ⟨0, by decide +kernel, rfl, rfl⟩
theorem i1_build_6 : IC cX1_build 6 7 (0) := ⟨by decide, Or.inl ⟨by decide +kernel, rfl⟩⟩
theorem i1_build_7 : IPF m1_build 7 10 1 0 := ⟨25, by decide +kernel, rfl, by decide, by decide, q_255, rfl⟩
theorem i1_build_10 : ILa cX1_build 10 11 1 := Or.inl ⟨1, by decide +kernel, rfl, rfl⟩
theorem i1_build_11 : IC cX1_build 11 12 (0) := ⟨by decide, Or.inl ⟨by decide +kernel, rfl⟩⟩
theorem i1_build_12 : ILa cX1_build 12 13 2 := Or.inl ⟨2, by decide +kernel, rfl, rfl⟩
theorem i1_build_13 : ICV m1_build 13 16 m5_product := ⟨29, by decide +kernel, rfl, q_566⟩
theorem i1_build_16 : ISi cX1_build 16 17 3 := Or.inl ⟨3, by decide +kernel, rfl, rfl⟩
theorem i1_build_17 : ILa cX1_build 17 18 1 := Or.inl ⟨1, by decide +kernel, rfl, rfl⟩
theorem i1_build_18 : IC cX1_build 18 19 (1) := ⟨by decide, Or.inl ⟨by decide +kernel, rfl⟩⟩
theorem i1_build_19 : ILa cX1_build 19 20 2 := Or.inl ⟨2, by decide +kernel, rfl, rfl⟩
theorem i1_build_20 : ICV m1_build 20 23 m5_product := ⟨29, by decide +kernel, rfl, q_566⟩
theorem i1_build_23 : ISi cX1_build 23 25 4 := Or.inr ⟨by decide +kernel, rfl⟩
theorem i1_build_25 : ILa cX1_build 25 26 0 := Or.inl ⟨0, by decide +kernel, rfl, rfl⟩
theorem i1_build_26 : IC cX1_build 26 27 (0) := ⟨by decide, Or.inl ⟨by decide +kernel, rfl⟩⟩
theorem i1_build_27 : ILi cX1_build 27 28 3 := Or.inl ⟨3, by decide +kernel, rfl, rfl⟩
theorem i1_build_28 : ILi cX1_build 28 30 4 := Or.inr ⟨by decide +kernel, rfl⟩
theorem i1_build_30 : ICV m1_build 30 33 m1_most := ⟨35, by decide +kernel, rfl, q_567⟩
theorem i1_build_33 : ISi cX1_build 33 35 5 := Or.inr ⟨by decide +kernel, rfl⟩
theorem i1_build_35 : IC cX1_build 35 36 (0) := ⟨by decide, Or.inl ⟨by decide +kernel, rfl⟩⟩
theorem i1_build_36 : ISi cX1_build 36 38 6 := Or.inr ⟨by decide +kernel, rfl⟩
theorem i1_build_38 : ILi cX1_build 38 40 6 := Or.inr ⟨by decide +kernel, rfl⟩
theorem i1_build_40 : ILi cX1_build 40 42 5 := Or.inr ⟨by decide +kernel, rfl⟩
theorem i1_build_42 : IJ cX1_build 42 45 141 (.if_icmp .gt) := ⟨99, by decide +kernel, rfl, by decide⟩
theorem i1_build_45 : ILi cX1_build 45 46 3 := Or.inl ⟨3, by decide +kernel, rfl, rfl⟩
theorem i1_build_46 : ILa cX1_build 46 47 0 := Or.inl ⟨0, by decide +kernel, rfl, rfl⟩
theorem i1_build_47 : IGF m1_build 47 50 1 3 := ⟨11, by decide +kernel, rfl, by decide, by decide, q_260⟩
theorem i1_build_50 : IC cX1_build 50 51 (0) := ⟨by decide, Or.inl ⟨by decide +kernel, rfl⟩⟩
theorem i1_build_51 : IO cX1_build 51 52 .iaload := ⟨by decide +kernel, rfl⟩
theorem i1_build_52 : ILi cX1_build 52 54 6 := Or.inr ⟨by decide +kernel, rfl⟩
theorem i1_build_54 : IO cX1_build 54 55 .imul := ⟨by decide +kernel, rfl⟩
theorem i1_build_55 : IO cX1_build 55 56 .isub := ⟨by decide +kernel, rfl⟩
theorem i1_build_56 : ISi cX1_build 56 58 7 := Or.inr ⟨by decide +kernel, rfl⟩
theorem i1_build_58 : ILi cX1_build 58 60 4 := Or.inr ⟨by decide +kernel, rfl⟩
theorem i1_build_60 : ILa cX1_build 60 61 0 := Or.inl ⟨0, by decide +kernel, rfl, rfl⟩
theorem i1_build_61 : IGF m1_build 61 64 1 4 := ⟨15, by decide +kernel, rfl, by decide, by decide, q_261⟩
theorem i1_build_64 : IC cX1_build 64 65 (0) := ⟨by decide, Or.inl ⟨by decide +kernel, rfl⟩⟩
theorem i1_build_65 : IO cX1_build 65 66 .iaload := ⟨by decide +kernel, rfl⟩
theorem i1_build_66 : ILi cX1_build 66 68 6 := Or.inr ⟨by decide +kernel, rfl⟩
theorem i1_build_68 : IO cX1_build 68 69 .imul := ⟨by decide +kernel, rfl⟩
theorem i1_build_69 : IO cX1_build 69 70 .isub := ⟨by decide +kernel, rfl⟩
theorem i1_build_70 : ISi cX1_build 70 72 8 := Or.inr ⟨by decide +kernel, rfl⟩
theorem i1_build_72 : ILa cX1_build 72 73 0 := Or.inl ⟨0, by decide +kernel, rfl, rfl⟩
theorem i1_build_73 : IC cX1_build 73 74 (1) := ⟨by decide, Or.inl ⟨by decide +kernel, rfl⟩⟩
theorem i1_build_74 : ILi cX1_build 74 76 7 := Or.inr ⟨by decide +kernel, rfl⟩
theorem i1_build_76 : ILi cX1_build 76 78 8 := Or.inr ⟨by decide +kernel, rfl⟩
theorem i1_build_78 : ICV m1_build 78 81 m1_most := ⟨35, by decide +kernel, rfl, q_567⟩
theorem i1_build_81 : ISi cX1_build 81 83 9 := Or.inr ⟨by decide +kernel, rfl⟩
theorem i1_build_83 : IC cX1_build 83 84 (0) := ⟨by decide, Or.inl ⟨by decide +kernel, rfl⟩⟩
theorem i1_build_84 : ISi cX1_build 84 86 10 := Or.inr ⟨by decide +kernel, rfl⟩
theorem i1_build_86 : ILi cX1_build 86 88 10 := Or.inr ⟨by decide +kernel, rfl⟩
theorem i1_build_88 : ILi cX1_build 88 90 9 := Or.inr ⟨by decide +kernel, rfl⟩
theorem i1_build_90 : IJ cX1_build 90 93 135 (.if_icmp .gt) := ⟨45, by decide +kernel, rfl, by decide⟩
theorem i1_build_93 : ILa cX1_build 93 94 0 := Or.inl ⟨0, by decide +kernel, rfl, rfl⟩
theorem i1_build_94 : ILi cX1_build 94 96 6 := Or.inr ⟨by decide +kernel, rfl⟩
theorem i1_build_96 : IC cX1_build 96 98 (7) := ⟨by decide, Or.inr (Or.inl ⟨by decide +kernel, by decide +kernel, rfl⟩)⟩
theorem i1_build_98 : IO cX1_build 98 99 .ishl := ⟨by decide +kernel, rfl⟩
theorem i1_build_99 : ILi cX1_build 99 101 10 := Or.inr ⟨by decide +kernel, rfl⟩
theorem i1_build_101 : IO cX1_build 101 102 .ior := ⟨by decide +kernel, rfl⟩
theorem i1_build_102 : ILi cX1_build 102 104 7 := Or.inr ⟨by decide +kernel, rfl⟩
theorem i1_build_104 : ILa cX1_build 104 105 0 := Or.inl ⟨0, by decide +kernel, rfl, rfl⟩
theorem i1_build_105 : IGF m1_build 105 108 1 3 := ⟨11, by decide +kernel, rfl, by decide, by decide, q_260⟩
theorem i1_build_108 : IC cX1_build 108 109 (1) := ⟨by decide, Or.inl ⟨by decide +kernel, rfl⟩⟩
theorem i1_build_109 : IO cX1_build 109 110 .iaload := ⟨by decide +kernel, rfl⟩
theorem i1_build_110 : ILi cX1_build 110 112 10 := Or.inr ⟨by decide +kernel, rfl⟩
theorem i1_build_112 : IO cX1_build 112 113 .imul := ⟨by decide +kernel, rfl⟩
theorem i1_build_113 : IO cX1_build 113 114 .isub := ⟨by decide +kernel, rfl⟩
theorem i1_build_114 : ILi cX1_build 114 116 8 := Or.inr ⟨by decide +kernel, rfl⟩
theorem i1_build_116 : ILa cX1_build 116 117 0 := Or.inl ⟨0, by decide +kernel, rfl, rfl⟩
theorem i1_build_117 : IGF m1_build 117 120 1 4 := ⟨15, by decide +kernel, rfl, by decide, by decide, q_261⟩
theorem i1_build_120 : IC cX1_build 120 121 (1) := ⟨by decide, Or.inl ⟨by decide +kernel, rfl⟩⟩
theorem i1_build_121 : IO cX1_build 121 122 .iaload := ⟨by decide +kernel, rfl⟩
theorem i1_build_122 : ILi cX1_build 122 124 10 := Or.inr ⟨by decide +kernel, rfl⟩
theorem i1_build_124 : IO cX1_build 124 125 .imul := ⟨by decide +kernel, rfl⟩
theorem i1_build_125 : IO cX1_build 125 126 .isub := ⟨by decide +kernel, rfl⟩
theorem i1_build_126 : ICV m1_build 126 129 m1_addRows := ⟨39, by decide +kernel, rfl, q_574⟩
theorem i1_build_129 : II cX1_build 129 132 10 (1) := ⟨by decide +kernel, by decide, rfl⟩
theorem i1_build_132 : IJ cX1_build 132 135 86 .goto := ⟨-46, by decide +kernel, rfl, by decide⟩
theorem i1_build_135 : II cX1_build 135 138 6 (1) := ⟨by decide +kernel, by decide, rfl⟩
theorem i1_build_138 : IJ cX1_build 138 141 38 .goto := ⟨-100, by decide +kernel, rfl, by decide⟩
theorem i1_build_141 : IO cX1_build 141 142 .return_ := ⟨by decide +kernel, rfl⟩
theorem i1_at_0 : ILi cX1_at 0 1 1 := Or.inl ⟨1, by decide +kernel, rfl, rfl⟩
theorem i1_at_1 : IJ cX1_at 1 4 24 (.ifCond .lt) := ⟨23, by decide +kernel, rfl, by decide⟩
theorem i1_at_4 : ILi cX1_at 4 5 1 := Or.inl ⟨1, by decide +kernel, rfl, rfl⟩
theorem i1_at_5 : ILa cX1_at 5 6 0 := Or.inl ⟨0, by decide +kernel, rfl, rfl⟩
theorem i1_at_6 : IGF m1_at 6 9 1 0 := ⟨25, by decide +kernel, rfl, by decide, by decide, q_255⟩
theorem i1_at_9 : IJ cX1_at 9 12 24 (.if_icmp .ge) := ⟨15, by decide +kernel, rfl, by decide⟩
theorem i1_at_12 : ILi cX1_at 12 13 2 := Or.inl ⟨2, by decide +kernel, rfl, rfl⟩
theorem i1_at_13 : IJ cX1_at 13 16 24 (.ifCond .lt) := ⟨11, by decide +kernel, rfl, by decide⟩
theorem i1_at_16 : ILi cX1_at 16 17 2 := Or.inl ⟨2, by decide +kernel, rfl, rfl⟩
theorem i1_at_17 : ILa cX1_at 17 18 0 := Or.inl ⟨0, by decide +kernel, rfl, rfl⟩
theorem i1_at_18 : IGF m1_at 18 21 1 1 := ⟨43, by decide +kernel, rfl, by decide, by decide, q_258⟩
theorem i1_at_21 : IJ cX1_at 21 24 26 (.if_icmp .lt) := ⟨5, by decide +kernel, rfl, by decide⟩
theorem i1_at_24 : IC cX1_at 24 25 (0) := ⟨by decide, Or.inl ⟨by decide +kernel, rfl⟩⟩
theorem i1_at_25 : IO cX1_at 25 26 .ireturn := ⟨by decide +kernel, rfl⟩
theorem i1_at_26 : ILa cX1_at 26 27 0 := Or.inl ⟨0, by decide +kernel, rfl, rfl⟩
theorem i1_at_27 : IGF m1_at 27 30 1 2 := ⟨18, by decide +kernel, rfl, by decide, by decide, q_259⟩
theorem i1_at_30 : ILi cX1_at 30 31 1 := Or.inl ⟨1, by decide +kernel, rfl, rfl⟩
theorem i1_at_31 : IO cX1_at 31 32 .iaload := ⟨by decide +kernel, rfl⟩
theorem i1_at_32 : IC cX1_at 32 34 (7) := ⟨by decide, Or.inr (Or.inl ⟨by decide +kernel, by decide +kernel, rfl⟩)⟩
theorem i1_at_34 : ILa cX1_at 34 35 0 := Or.inl ⟨0, by decide +kernel, rfl, rfl⟩
theorem i1_at_35 : IGF m1_at 35 38 1 1 := ⟨43, by decide +kernel, rfl, by decide, by decide, q_258⟩
theorem i1_at_38 : IC cX1_at 38 39 (1) := ⟨by decide, Or.inl ⟨by decide +kernel, rfl⟩⟩
theorem i1_at_39 : IO cX1_at 39 40 .isub := ⟨by decide +kernel, rfl⟩
theorem i1_at_40 : ILi cX1_at 40 41 2 := Or.inl ⟨2, by decide +kernel, rfl, rfl⟩
theorem i1_at_41 : IO cX1_at 41 42 .isub := ⟨by decide +kernel, rfl⟩
theorem i1_at_42 : IO cX1_at 42 43 .imul := ⟨by decide +kernel, rfl⟩
theorem i1_at_43 : IO cX1_at 43 44 .ishr := ⟨by decide +kernel, rfl⟩
theorem i1_at_44 : IC cX1_at 44 46 (127) := ⟨by decide, Or.inr (Or.inl ⟨by decide +kernel, by decide +kernel, rfl⟩)⟩
theorem i1_at_46 : IO cX1_at 46 47 .iand := ⟨by decide +kernel, rfl⟩
theorem i1_at_47 : IO cX1_at 47 48 .ireturn := ⟨by decide +kernel, rfl⟩
theorem i1_numberOf_0 : IC cX1_numberOf 0 1 (0) := ⟨by decide, Or.inl ⟨by decide +kernel, rfl⟩⟩
theorem i1_numberOf_1 : ISi cX1_numberOf 1 2 2 := Or.inl ⟨2, by decide +kernel, rfl, rfl⟩
theorem i1_numberOf_2 : IC cX1_numberOf 2 3 (0) := ⟨by decide, Or.inl ⟨by decide +kernel, rfl⟩⟩
theorem i1_numberOf_3 : ISi cX1_numberOf 3 4 3 := Or.inl ⟨3, by decide +kernel, rfl, rfl⟩
theorem i1_numberOf_4 : ILi cX1_numberOf 4 5 3 := Or.inl ⟨3, by decide +kernel, rfl, rfl⟩
theorem i1_numberOf_5 : ILa cX1_numberOf 5 6 0 := Or.inl ⟨0, by decide +kernel, rfl, rfl⟩
theorem i1_numberOf_6 : IGF m1_numberOf 6 9 1 1 := ⟨43, by decide +kernel, rfl, by decide, by decide, q_258⟩
theorem i1_numberOf_9 : IJ cX1_numberOf 9 12 27 (.if_icmp .ge) := ⟨18, by decide +kernel, rfl, by decide⟩
theorem i1_numberOf_12 : ILi cX1_numberOf 12 13 2 := Or.inl ⟨2, by decide +kernel, rfl, rfl⟩
theorem i1_numberOf_13 : IC cX1_numberOf 13 15 (7) := ⟨by decide, Or.inr (Or.inl ⟨by decide +kernel, by decide +kernel, rfl⟩)⟩
theorem i1_numberOf_15 : IO cX1_numberOf 15 16 .ishl := ⟨by decide +kernel, rfl⟩
theorem i1_numberOf_16 : ILa cX1_numberOf 16 17 1 := Or.inl ⟨1, by decide +kernel, rfl, rfl⟩
theorem i1_numberOf_17 : ILi cX1_numberOf 17 18 3 := Or.inl ⟨3, by decide +kernel, rfl, rfl⟩
theorem i1_numberOf_18 : IO cX1_numberOf 18 19 .iaload := ⟨by decide +kernel, rfl⟩
theorem i1_numberOf_19 : IO cX1_numberOf 19 20 .ior := ⟨by decide +kernel, rfl⟩
theorem i1_numberOf_20 : ISi cX1_numberOf 20 21 2 := Or.inl ⟨2, by decide +kernel, rfl, rfl⟩
theorem i1_numberOf_21 : II cX1_numberOf 21 24 3 (1) := ⟨by decide +kernel, by decide, rfl⟩
theorem i1_numberOf_24 : IJ cX1_numberOf 24 27 4 .goto := ⟨-20, by decide +kernel, rfl, by decide⟩
theorem i1_numberOf_27 : ILa cX1_numberOf 27 28 0 := Or.inl ⟨0, by decide +kernel, rfl, rfl⟩
theorem i1_numberOf_28 : ILi cX1_numberOf 28 29 2 := Or.inl ⟨2, by decide +kernel, rfl, rfl⟩
theorem i1_numberOf_29 : ICV m1_numberOf 29 32 m1_numberOfPacked := ⟨46, by decide +kernel, rfl, q_687⟩
theorem i1_numberOf_32 : IO cX1_numberOf 32 33 .ireturn := ⟨by decide +kernel, rfl⟩
theorem i1_numberOfPacked_0 : IC cX1_numberOfPacked 0 1 (0) := ⟨by decide, Or.inl ⟨by decide +kernel, rfl⟩⟩
theorem i1_numberOfPacked_1 : ISi cX1_numberOfPacked 1 2 2 := Or.inl ⟨2, by decide +kernel, rfl, rfl⟩
theorem i1_numberOfPacked_2 : ILa cX1_numberOfPacked 2 3 0 := Or.inl ⟨0, by decide +kernel, rfl, rfl⟩
theorem i1_numberOfPacked_3 : IGF m1_numberOfPacked 3 6 1 2 := ⟨18, by decide +kernel, rfl, by decide, by decide, q_259⟩
theorem i1_numberOfPacked_6 : IO cX1_numberOfPacked 6 7 .arraylength := ⟨by decide +kernel, rfl⟩
theorem i1_numberOfPacked_7 : IC cX1_numberOfPacked 7 8 (2) := ⟨by decide, Or.inl ⟨by decide +kernel, rfl⟩⟩
theorem i1_numberOfPacked_8 : IO cX1_numberOfPacked 8 9 .idiv := ⟨by decide +kernel, rfl⟩
theorem i1_numberOfPacked_9 : ISi cX1_numberOfPacked 9 10 3 := Or.inl ⟨3, by decide +kernel, rfl, rfl⟩
theorem i1_numberOfPacked_10 : ILi cX1_numberOfPacked 10 11 3 := Or.inl ⟨3, by decide +kernel, rfl, rfl⟩
theorem i1_numberOfPacked_11 : IJ cX1_numberOfPacked 11 14 47 (.ifCond .le) := ⟨36, by decide +kernel, rfl, by decide⟩
theorem i1_numberOfPacked_14 : ILi cX1_numberOfPacked 14 15 2 := Or.inl ⟨2, by decide +kernel, rfl, rfl⟩
theorem i1_numberOfPacked_15 : ILi cX1_numberOfPacked 15 16 3 := Or.inl ⟨3, by decide +kernel, rfl, rfl⟩
theorem i1_numberOfPacked_16 : IO cX1_numberOfPacked 16 17 .iadd := ⟨by decide +kernel, rfl⟩
theorem i1_numberOfPacked_17 : ILa cX1_numberOfPacked 17 18 0 := Or.inl ⟨0, by decide +kernel, rfl, rfl⟩
theorem i1_numberOfPacked_18 : IGF m1_numberOfPacked 18 21 1 0 := ⟨25, by decide +kernel, rfl, by decide, by decide, q_255⟩
theorem i1_numberOfPacked_21 : IJ cX1_numberOfPacked 21 24 40 (.if_icmp .ge) := ⟨19, by decide +kernel, rfl, by decide⟩
theorem i1_numberOfPacked_24 : ILa cX1_numberOfPacked 24 25 0 := Or.inl ⟨0, by decide +kernel, rfl, rfl⟩
theorem i1_numberOfPacked_25 : IGF m1_numberOfPacked 25 28 1 2 := ⟨18, by decide +kernel, rfl, by decide, by decide, q_259⟩
theorem i1_numberOfPacked_28 : ILi cX1_numberOfPacked 28 29 2 := Or.inl ⟨2, by decide +kernel, rfl, rfl⟩
theorem i1_numberOfPacked_29 : ILi cX1_numberOfPacked 29 30 3 := Or.inl ⟨3, by decide +kernel, rfl, rfl⟩
theorem i1_numberOfPacked_30 : IO cX1_numberOfPacked 30 31 .iadd := ⟨by decide +kernel, rfl⟩
theorem i1_numberOfPacked_31 : IO cX1_numberOfPacked 31 32 .iaload := ⟨by decide +kernel, rfl⟩
theorem i1_numberOfPacked_32 : ILi cX1_numberOfPacked 32 33 1 := Or.inl ⟨1, by decide +kernel, rfl, rfl⟩
theorem i1_numberOfPacked_33 : IJ cX1_numberOfPacked 33 36 40 (.if_icmp .gt) := ⟨7, by decide +kernel, rfl, by decide⟩
theorem i1_numberOfPacked_36 : ILi cX1_numberOfPacked 36 37 2 := Or.inl ⟨2, by decide +kernel, rfl, rfl⟩
theorem i1_numberOfPacked_37 : ILi cX1_numberOfPacked 37 38 3 := Or.inl ⟨3, by decide +kernel, rfl, rfl⟩
theorem i1_numberOfPacked_38 : IO cX1_numberOfPacked 38 39 .iadd := ⟨by decide +kernel, rfl⟩
theorem i1_numberOfPacked_39 : ISi cX1_numberOfPacked 39 40 2 := Or.inl ⟨2, by decide +kernel, rfl, rfl⟩
theorem i1_numberOfPacked_40 : ILi cX1_numberOfPacked 40 41 3 := Or.inl ⟨3, by decide +kernel, rfl, rfl⟩
theorem i1_numberOfPacked_41 : IC cX1_numberOfPacked 41 42 (2) := ⟨by decide, Or.inl ⟨by decide +kernel, rfl⟩⟩
theorem i1_numberOfPacked_42 : IO cX1_numberOfPacked 42 43 .idiv := ⟨by decide +kernel, rfl⟩
theorem i1_numberOfPacked_43 : ISi cX1_numberOfPacked 43 44 3 := Or.inl ⟨3, by decide +kernel, rfl, rfl⟩
theorem i1_numberOfPacked_44 : IJ cX1_numberOfPacked 44 47 10 .goto := ⟨-34, by decide +kernel, rfl, by decide⟩
theorem i1_numberOfPacked_47 : ILi cX1_numberOfPacked 47 48 2 := Or.inl ⟨2, by decide +kernel, rfl, rfl⟩
theorem i1_numberOfPacked_48 : ILa cX1_numberOfPacked 48 49 0 := Or.inl ⟨0, by decide +kernel, rfl, rfl⟩
theorem i1_numberOfPacked_49 : IGF m1_numberOfPacked 49 52 1 0 := ⟨25, by decide +kernel, rfl, by decide, by decide, q_255⟩
theorem i1_numberOfPacked_52 : IJ cX1_numberOfPacked 52 55 69 (.if_icmp .ge) := ⟨17, by decide +kernel, rfl, by decide⟩
theorem i1_numberOfPacked_55 : ILa cX1_numberOfPacked 55 56 0 := Or.inl ⟨0, by decide +kernel, rfl, rfl⟩
theorem i1_numberOfPacked_56 : IGF m1_numberOfPacked 56 59 1 2 := ⟨18, by decide +kernel, rfl, by decide, by decide, q_259⟩
theorem i1_numberOfPacked_59 : ILi cX1_numberOfPacked 59 60 2 := Or.inl ⟨2, by decide +kernel, rfl, rfl⟩
theorem i1_numberOfPacked_60 : IO cX1_numberOfPacked 60 61 .iaload := ⟨by decide +kernel, rfl⟩
theorem i1_numberOfPacked_61 : ILi cX1_numberOfPacked 61 62 1 := Or.inl ⟨1, by decide +kernel, rfl, rfl⟩
theorem i1_numberOfPacked_62 : IJ cX1_numberOfPacked 62 65 69 (.if_icmp .ne) := ⟨7, by decide +kernel, rfl, by decide⟩
theorem i1_numberOfPacked_65 : ILi cX1_numberOfPacked 65 66 2 := Or.inl ⟨2, by decide +kernel, rfl, rfl⟩
theorem i1_numberOfPacked_66 : IJ cX1_numberOfPacked 66 69 70 .goto := ⟨4, by decide +kernel, rfl, by decide⟩
theorem i1_numberOfPacked_69 : IC cX1_numberOfPacked 69 70 (-1) := ⟨by decide, Or.inl ⟨by decide +kernel, rfl⟩⟩
theorem i1_numberOfPacked_70 : IO cX1_numberOfPacked 70 71 .ireturn := ⟨by decide +kernel, rfl⟩
theorem i1_numberAfterStep_0 : IC cX1_numberAfterStep 0 1 (0) := ⟨by decide, Or.inl ⟨by decide +kernel, rfl⟩⟩
theorem i1_numberAfterStep_1 : ISi cX1_numberAfterStep 1 3 5 := Or.inr ⟨by decide +kernel, rfl⟩
theorem i1_numberAfterStep_3 : IC cX1_numberAfterStep 3 4 (0) := ⟨by decide, Or.inl ⟨by decide +kernel, rfl⟩⟩
theorem i1_numberAfterStep_4 : ISi cX1_numberAfterStep 4 6 6 := Or.inr ⟨by decide +kernel, rfl⟩
theorem i1_numberAfterStep_6 : ILi cX1_numberAfterStep 6 8 6 := Or.inr ⟨by decide +kernel, rfl⟩
theorem i1_numberAfterStep_8 : ILa cX1_numberAfterStep 8 9 0 := Or.inl ⟨0, by decide +kernel, rfl, rfl⟩
theorem i1_numberAfterStep_9 : IGF m1_numberAfterStep 9 12 1 1 := ⟨43, by decide +kernel, rfl, by decide, by decide, q_258⟩
theorem i1_numberAfterStep_12 : IJ cX1_numberAfterStep 12 15 58 (.if_icmp .ge) := ⟨46, by decide +kernel, rfl, by decide⟩
theorem i1_numberAfterStep_15 : ILa cX1_numberAfterStep 15 16 0 := Or.inl ⟨0, by decide +kernel, rfl, rfl⟩
theorem i1_numberAfterStep_16 : ILi cX1_numberAfterStep 16 17 1 := Or.inl ⟨1, by decide +kernel, rfl, rfl⟩
theorem i1_numberAfterStep_17 : ILi cX1_numberAfterStep 17 19 6 := Or.inr ⟨by decide +kernel, rfl⟩
theorem i1_numberAfterStep_19 : ICV m1_numberAfterStep 19 22 m1_at := ⟨50, by decide +kernel, rfl, q_685⟩
theorem i1_numberAfterStep_22 : ILi cX1_numberAfterStep 22 24 4 := Or.inr ⟨by decide +kernel, rfl⟩
theorem i1_numberAfterStep_24 : ILa cX1_numberAfterStep 24 25 2 := Or.inl ⟨2, by decide +kernel, rfl, rfl⟩
theorem i1_numberAfterStep_25 : ILi cX1_numberAfterStep 25 26 3 := Or.inl ⟨3, by decide +kernel, rfl, rfl⟩
theorem i1_numberAfterStep_26 : ILi cX1_numberAfterStep 26 28 6 := Or.inr ⟨by decide +kernel, rfl⟩
theorem i1_numberAfterStep_28 : ICV m1_numberAfterStep 28 31 m2_at := ⟨54, by decide +kernel, rfl, q_686⟩
theorem i1_numberAfterStep_31 : IO cX1_numberAfterStep 31 32 .imul := ⟨by decide +kernel, rfl⟩
theorem i1_numberAfterStep_32 : IO cX1_numberAfterStep 32 33 .iadd := ⟨by decide +kernel, rfl⟩
theorem i1_numberAfterStep_33 : ISi cX1_numberAfterStep 33 35 7 := Or.inr ⟨by decide +kernel, rfl⟩
theorem i1_numberAfterStep_35 : ILi cX1_numberAfterStep 35 37 7 := Or.inr ⟨by decide +kernel, rfl⟩
theorem i1_numberAfterStep_37 : IJ cX1_numberAfterStep 37 40 42 (.ifCond .ge) := ⟨5, by decide +kernel, rfl, by decide⟩
theorem i1_numberAfterStep_40 : IC cX1_numberAfterStep 40 41 (-1) := ⟨by decide, Or.inl ⟨by decide +kernel, rfl⟩⟩
theorem i1_numberAfterStep_41 : IO cX1_numberAfterStep 41 42 .ireturn := ⟨by decide +kernel, rfl⟩
theorem i1_numberAfterStep_42 : ILi cX1_numberAfterStep 42 44 5 := Or.inr ⟨by decide +kernel, rfl⟩
theorem i1_numberAfterStep_44 : IC cX1_numberAfterStep 44 46 (7) := ⟨by decide, Or.inr (Or.inl ⟨by decide +kernel, by decide +kernel, rfl⟩)⟩
theorem i1_numberAfterStep_46 : IO cX1_numberAfterStep 46 47 .ishl := ⟨by decide +kernel, rfl⟩
theorem i1_numberAfterStep_47 : ILi cX1_numberAfterStep 47 49 7 := Or.inr ⟨by decide +kernel, rfl⟩
theorem i1_numberAfterStep_49 : IO cX1_numberAfterStep 49 50 .ior := ⟨by decide +kernel, rfl⟩
theorem i1_numberAfterStep_50 : ISi cX1_numberAfterStep 50 52 5 := Or.inr ⟨by decide +kernel, rfl⟩
theorem i1_numberAfterStep_52 : II cX1_numberAfterStep 52 55 6 (1) := ⟨by decide +kernel, by decide, rfl⟩
theorem i1_numberAfterStep_55 : IJ cX1_numberAfterStep 55 58 6 .goto := ⟨-49, by decide +kernel, rfl, by decide⟩
theorem i1_numberAfterStep_58 : ILa cX1_numberAfterStep 58 59 0 := Or.inl ⟨0, by decide +kernel, rfl, rfl⟩
theorem i1_numberAfterStep_59 : ILi cX1_numberAfterStep 59 61 5 := Or.inr ⟨by decide +kernel, rfl⟩
theorem i1_numberAfterStep_61 : ICV m1_numberAfterStep 61 64 m1_numberOfPacked := ⟨46, by decide +kernel, rfl, q_687⟩
theorem i1_numberAfterStep_64 : IO cX1_numberAfterStep 64 65 .ireturn := ⟨by decide +kernel, rfl⟩
theorem i1_takeColumns_0 : ILa cX1_takeColumns 0 1 0 := Or.inl ⟨0, by decide +kernel, rfl, rfl⟩
theorem i1_takeColumns_1 : ILa cX1_takeColumns 1 2 1 := Or.inl ⟨1, by decide +kernel, rfl, rfl⟩
theorem i1_takeColumns_2 : IGF m1_takeColumns 2 5 5 1 := ⟨57, by decide +kernel, rfl, by decide, by decide, q_107⟩
theorem i1_takeColumns_5 : IPF m1_takeColumns 5 8 1 1 := ⟨43, by decide +kernel, rfl, by decide, by decide, q_258, rfl⟩
theorem i1_takeColumns_8 : IC cX1_takeColumns 8 9 (4) := ⟨by decide, Or.inl ⟨by decide +kernel, rfl⟩⟩
theorem i1_takeColumns_9 : ILa cX1_takeColumns 9 10 0 := Or.inl ⟨0, by decide +kernel, rfl, rfl⟩
theorem i1_takeColumns_10 : IGF m1_takeColumns 10 13 1 1 := ⟨43, by decide +kernel, rfl, by decide, by decide, q_258⟩
theorem i1_takeColumns_13 : IO cX1_takeColumns 13 14 .isub := ⟨by decide +kernel, rfl⟩
theorem i1_takeColumns_14 : ISi cX1_takeColumns 14 15 2 := Or.inl ⟨2, by decide +kernel, rfl, rfl⟩
theorem i1_takeColumns_15 : IC cX1_takeColumns 15 16 (0) := ⟨by decide, Or.inl ⟨by decide +kernel, rfl⟩⟩
theorem i1_takeColumns_16 : ISi cX1_takeColumns 16 17 3 := Or.inl ⟨3, by decide +kernel, rfl, rfl⟩
theorem i1_takeColumns_17 : ILi cX1_takeColumns 17 18 3 := Or.inl ⟨3, by decide +kernel, rfl, rfl⟩
theorem i1_takeColumns_18 : IC cX1_takeColumns 18 19 (4) := ⟨by decide, Or.inl ⟨by decide +kernel, rfl⟩⟩
theorem i1_takeColumns_19 : IJ cX1_takeColumns 19 22 86 (.if_icmp .ge) := ⟨67, by decide +kernel, rfl, by decide⟩
theorem i1_takeColumns_22 : ILi cX1_takeColumns 22 23 3 := Or.inl ⟨3, by decide +kernel, rfl, rfl⟩
theorem i1_takeColumns_23 : ILi cX1_takeColumns 23 24 2 := Or.inl ⟨2, by decide +kernel, rfl, rfl⟩
theorem i1_takeColumns_24 : IJ cX1_takeColumns 24 27 31 (.if_icmp .lt) := ⟨7, by decide +kernel, rfl, by decide⟩
theorem i1_takeColumns_27 : IC cX1_takeColumns 27 28 (1) := ⟨by decide, Or.inl ⟨by decide +kernel, rfl⟩⟩
theorem i1_takeColumns_28 : IJ cX1_takeColumns 28 31 32 .goto := ⟨4, by decide +kernel, rfl, by decide⟩
theorem i1_takeColumns_31 : IC cX1_takeColumns 31 32 (0) := ⟨by decide, Or.inl ⟨by decide +kernel, rfl⟩⟩
theorem i1_takeColumns_32 : ISi cX1_takeColumns 32 34 4 := Or.inr ⟨by decide +kernel, rfl⟩
theorem i1_takeColumns_34 : ILa cX1_takeColumns 34 35 0 := Or.inl ⟨0, by decide +kernel, rfl, rfl⟩
theorem i1_takeColumns_35 : IGF m1_takeColumns 35 38 1 3 := ⟨11, by decide +kernel, rfl, by decide, by decide, q_260⟩
theorem i1_takeColumns_38 : ILi cX1_takeColumns 38 39 3 := Or.inl ⟨3, by decide +kernel, rfl, rfl⟩
theorem i1_takeColumns_39 : ILi cX1_takeColumns 39 41 4 := Or.inr ⟨by decide +kernel, rfl⟩
theorem i1_takeColumns_41 : IJ cX1_takeColumns 41 44 55 (.ifCond .eq) := ⟨14, by decide +kernel, rfl, by decide⟩
theorem i1_takeColumns_44 : ILa cX1_takeColumns 44 45 1 := Or.inl ⟨1, by decide +kernel, rfl, rfl⟩
theorem i1_takeColumns_45 : IC cX1_takeColumns 45 46 (0) := ⟨by decide, Or.inl ⟨by decide +kernel, rfl⟩⟩
theorem i1_takeColumns_46 : ILi cX1_takeColumns 46 47 3 := Or.inl ⟨3, by decide +kernel, rfl, rfl⟩
theorem i1_takeColumns_47 : ILi cX1_takeColumns 47 48 2 := Or.inl ⟨2, by decide +kernel, rfl, rfl⟩
theorem i1_takeColumns_48 : IO cX1_takeColumns 48 49 .isub := ⟨by decide +kernel, rfl⟩
theorem i1_takeColumns_49 : ICV m1_takeColumns 49 52 m5_at := ⟨58, by decide +kernel, rfl, q_565⟩
theorem i1_takeColumns_52 : IJ cX1_takeColumns 52 55 56 .goto := ⟨4, by decide +kernel, rfl, by decide⟩
theorem i1_takeColumns_55 : IC cX1_takeColumns 55 56 (0) := ⟨by decide, Or.inl ⟨by decide +kernel, rfl⟩⟩
theorem i1_takeColumns_56 : IO cX1_takeColumns 56 57 .iastore := ⟨by decide +kernel, rfl⟩
theorem i1_takeColumns_57 : ILa cX1_takeColumns 57 58 0 := Or.inl ⟨0, by decide +kernel, rfl, rfl⟩
theorem i1_takeColumns_58 : IGF m1_takeColumns 58 61 1 4 := ⟨15, by decide +kernel, rfl, by decide, by decide, q_261⟩
theorem i1_takeColumns_61 : ILi cX1_takeColumns 61 62 3 := Or.inl ⟨3, by decide +kernel, rfl, rfl⟩
theorem i1_takeColumns_62 : ILi cX1_takeColumns 62 64 4 := Or.inr ⟨by decide +kernel, rfl⟩
theorem i1_takeColumns_64 : IJ cX1_takeColumns 64 67 78 (.ifCond .eq) := ⟨14, by decide +kernel, rfl, by decide⟩
theorem i1_takeColumns_67 : ILa cX1_takeColumns 67 68 1 := Or.inl ⟨1, by decide +kernel, rfl, rfl⟩
theorem i1_takeColumns_68 : IC cX1_takeColumns 68 69 (1) := ⟨by decide, Or.inl ⟨by decide +kernel, rfl⟩⟩
theorem i1_takeColumns_69 : ILi cX1_takeColumns 69 70 3 := Or.inl ⟨3, by decide +kernel, rfl, rfl⟩
theorem i1_takeColumns_70 : ILi cX1_takeColumns 70 71 2 := Or.inl ⟨2, by decide +kernel, rfl, rfl⟩
theorem i1_takeColumns_71 : IO cX1_takeColumns 71 72 .isub := ⟨by decide +kernel, rfl⟩
theorem i1_takeColumns_72 : ICV m1_takeColumns 72 75 m5_at := ⟨58, by decide +kernel, rfl, q_565⟩
theorem i1_takeColumns_75 : IJ cX1_takeColumns 75 78 79 .goto := ⟨4, by decide +kernel, rfl, by decide⟩
theorem i1_takeColumns_78 : IC cX1_takeColumns 78 79 (0) := ⟨by decide, Or.inl ⟨by decide +kernel, rfl⟩⟩
theorem i1_takeColumns_79 : IO cX1_takeColumns 79 80 .iastore := ⟨by decide +kernel, rfl⟩
theorem i1_takeColumns_80 : II cX1_takeColumns 80 83 3 (1) := ⟨by decide +kernel, by decide, rfl⟩
theorem i1_takeColumns_83 : IJ cX1_takeColumns 83 86 17 .goto := ⟨-66, by decide +kernel, rfl, by decide⟩
theorem i1_takeColumns_86 : IO cX1_takeColumns 86 87 .return_ := ⟨by decide +kernel, rfl⟩
theorem i1_most_0 : ILa cX1_most 0 1 0 := Or.inl ⟨0, by decide +kernel, rfl, rfl⟩
theorem i1_most_1 : IGF m1_most 1 4 1 3 := ⟨11, by decide +kernel, rfl, by decide, by decide, q_260⟩
theorem i1_most_4 : ILi cX1_most 4 5 1 := Or.inl ⟨1, by decide +kernel, rfl, rfl⟩
theorem i1_most_5 : IO cX1_most 5 6 .iaload := ⟨by decide +kernel, rfl⟩
theorem i1_most_6 : IJ cX1_most 6 9 20 (.ifCond .ne) := ⟨14, by decide +kernel, rfl, by decide⟩
theorem i1_most_9 : ILa cX1_most 9 10 0 := Or.inl ⟨0, by decide +kernel, rfl, rfl⟩
theorem i1_most_10 : IGF m1_most 10 13 1 4 := ⟨15, by decide +kernel, rfl, by decide, by decide, q_261⟩
theorem i1_most_13 : ILi cX1_most 13 14 1 := Or.inl ⟨1, by decide +kernel, rfl, rfl⟩
theorem i1_most_14 : IO cX1_most 14 15 .iaload := ⟨by decide +kernel, rfl⟩
theorem i1_most_15 : IJ cX1_most 15 18 20 (.ifCond .ne) := ⟨5, by decide +kernel, rfl, by decide⟩
theorem i1_most_18 : IC cX1_most 18 19 (0) := ⟨by decide, Or.inl ⟨by decide +kernel, rfl⟩⟩
theorem i1_most_19 : IO cX1_most 19 20 .ireturn := ⟨by decide +kernel, rfl⟩
theorem i1_most_20 : IC cX1_most 20 22 (127) := ⟨by decide, Or.inr (Or.inl ⟨by decide +kernel, by decide +kernel, rfl⟩)⟩
theorem i1_most_22 : ISi cX1_most 22 24 4 := Or.inr ⟨by decide +kernel, rfl⟩
theorem i1_most_24 : ILa cX1_most 24 25 0 := Or.inl ⟨0, by decide +kernel, rfl, rfl⟩
theorem i1_most_25 : IGF m1_most 25 28 1 3 := ⟨11, by decide +kernel, rfl, by decide, by decide, q_260⟩
theorem i1_most_28 : ILi cX1_most 28 29 1 := Or.inl ⟨1, by decide +kernel, rfl, rfl⟩
theorem i1_most_29 : IO cX1_most 29 30 .iaload := ⟨by decide +kernel, rfl⟩
theorem i1_most_30 : IJ cX1_most 30 33 48 (.ifCond .le) := ⟨18, by decide +kernel, rfl, by decide⟩
theorem i1_most_33 : ILi cX1_most 33 35 4 := Or.inr ⟨by decide +kernel, rfl⟩
theorem i1_most_35 : ILi cX1_most 35 36 2 := Or.inl ⟨2, by decide +kernel, rfl, rfl⟩
theorem i1_most_36 : ILa cX1_most 36 37 0 := Or.inl ⟨0, by decide +kernel, rfl, rfl⟩
theorem i1_most_37 : IGF m1_most 37 40 1 3 := ⟨11, by decide +kernel, rfl, by decide, by decide, q_260⟩
theorem i1_most_40 : ILi cX1_most 40 41 1 := Or.inl ⟨1, by decide +kernel, rfl, rfl⟩
theorem i1_most_41 : IO cX1_most 41 42 .iaload := ⟨by decide +kernel, rfl⟩
theorem i1_most_42 : IO cX1_most 42 43 .idiv := ⟨by decide +kernel, rfl⟩
theorem i1_most_43 : ICS m1_most 43 46 yJ9_min_7cf53 := ⟨59, by decide +kernel, rfl, q_571⟩
theorem i1_most_46 : ISi cX1_most 46 48 4 := Or.inr ⟨by decide +kernel, rfl⟩
theorem i1_most_48 : ILa cX1_most 48 49 0 := Or.inl ⟨0, by decide +kernel, rfl, rfl⟩
theorem i1_most_49 : IGF m1_most 49 52 1 4 := ⟨15, by decide +kernel, rfl, by decide, by decide, q_261⟩
theorem i1_most_52 : ILi cX1_most 52 53 1 := Or.inl ⟨1, by decide +kernel, rfl, rfl⟩
theorem i1_most_53 : IO cX1_most 53 54 .iaload := ⟨by decide +kernel, rfl⟩
theorem i1_most_54 : IJ cX1_most 54 57 72 (.ifCond .le) := ⟨18, by decide +kernel, rfl, by decide⟩
theorem i1_most_57 : ILi cX1_most 57 59 4 := Or.inr ⟨by decide +kernel, rfl⟩
theorem i1_most_59 : ILi cX1_most 59 60 3 := Or.inl ⟨3, by decide +kernel, rfl, rfl⟩
theorem i1_most_60 : ILa cX1_most 60 61 0 := Or.inl ⟨0, by decide +kernel, rfl, rfl⟩
theorem i1_most_61 : IGF m1_most 61 64 1 4 := ⟨15, by decide +kernel, rfl, by decide, by decide, q_261⟩
theorem i1_most_64 : ILi cX1_most 64 65 1 := Or.inl ⟨1, by decide +kernel, rfl, rfl⟩
theorem i1_most_65 : IO cX1_most 65 66 .iaload := ⟨by decide +kernel, rfl⟩
theorem i1_most_66 : IO cX1_most 66 67 .idiv := ⟨by decide +kernel, rfl⟩
theorem i1_most_67 : ICS m1_most 67 70 yJ9_min_7cf53 := ⟨59, by decide +kernel, rfl, q_571⟩
theorem i1_most_70 : ISi cX1_most 70 72 4 := Or.inr ⟨by decide +kernel, rfl⟩
theorem i1_most_72 : ILi cX1_most 72 74 4 := Or.inr ⟨by decide +kernel, rfl⟩
theorem i1_most_74 : IO cX1_most 74 75 .ireturn := ⟨by decide +kernel, rfl⟩
theorem i1_addRows_0 : ILa cX1_addRows 0 1 0 := Or.inl ⟨0, by decide +kernel, rfl, rfl⟩
theorem i1_addRows_1 : IC cX1_addRows 1 2 (2) := ⟨by decide, Or.inl ⟨by decide +kernel, rfl⟩⟩
theorem i1_addRows_2 : ILi cX1_addRows 2 3 2 := Or.inl ⟨2, by decide +kernel, rfl, rfl⟩
theorem i1_addRows_3 : ILi cX1_addRows 3 4 3 := Or.inl ⟨3, by decide +kernel, rfl, rfl⟩
theorem i1_addRows_4 : ICV m1_addRows 4 7 m1_most := ⟨35, by decide +kernel, rfl, q_567⟩
theorem i1_addRows_7 : ISi cX1_addRows 7 9 4 := Or.inr ⟨by decide +kernel, rfl⟩
theorem i1_addRows_9 : IC cX1_addRows 9 10 (0) := ⟨by decide, Or.inl ⟨by decide +kernel, rfl⟩⟩
theorem i1_addRows_10 : ISi cX1_addRows 10 12 5 := Or.inr ⟨by decide +kernel, rfl⟩
theorem i1_addRows_12 : ILi cX1_addRows 12 14 5 := Or.inr ⟨by decide +kernel, rfl⟩
theorem i1_addRows_14 : ILi cX1_addRows 14 16 4 := Or.inr ⟨by decide +kernel, rfl⟩
theorem i1_addRows_16 : IJ cX1_addRows 16 19 58 (.if_icmp .gt) := ⟨42, by decide +kernel, rfl, by decide⟩
theorem i1_addRows_19 : ILa cX1_addRows 19 20 0 := Or.inl ⟨0, by decide +kernel, rfl, rfl⟩
theorem i1_addRows_20 : ILi cX1_addRows 20 21 1 := Or.inl ⟨1, by decide +kernel, rfl, rfl⟩
theorem i1_addRows_21 : IC cX1_addRows 21 23 (7) := ⟨by decide, Or.inr (Or.inl ⟨by decide +kernel, by decide +kernel, rfl⟩)⟩
theorem i1_addRows_23 : IO cX1_addRows 23 24 .ishl := ⟨by decide +kernel, rfl⟩
theorem i1_addRows_24 : ILi cX1_addRows 24 26 5 := Or.inr ⟨by decide +kernel, rfl⟩
theorem i1_addRows_26 : IO cX1_addRows 26 27 .ior := ⟨by decide +kernel, rfl⟩
theorem i1_addRows_27 : ILi cX1_addRows 27 28 2 := Or.inl ⟨2, by decide +kernel, rfl, rfl⟩
theorem i1_addRows_28 : ILa cX1_addRows 28 29 0 := Or.inl ⟨0, by decide +kernel, rfl, rfl⟩
theorem i1_addRows_29 : IGF m1_addRows 29 32 1 3 := ⟨11, by decide +kernel, rfl, by decide, by decide, q_260⟩
theorem i1_addRows_32 : IC cX1_addRows 32 33 (2) := ⟨by decide, Or.inl ⟨by decide +kernel, rfl⟩⟩
theorem i1_addRows_33 : IO cX1_addRows 33 34 .iaload := ⟨by decide +kernel, rfl⟩
theorem i1_addRows_34 : ILi cX1_addRows 34 36 5 := Or.inr ⟨by decide +kernel, rfl⟩
theorem i1_addRows_36 : IO cX1_addRows 36 37 .imul := ⟨by decide +kernel, rfl⟩
theorem i1_addRows_37 : IO cX1_addRows 37 38 .isub := ⟨by decide +kernel, rfl⟩
theorem i1_addRows_38 : ILi cX1_addRows 38 39 3 := Or.inl ⟨3, by decide +kernel, rfl, rfl⟩
theorem i1_addRows_39 : ILa cX1_addRows 39 40 0 := Or.inl ⟨0, by decide +kernel, rfl, rfl⟩
theorem i1_addRows_40 : IGF m1_addRows 40 43 1 4 := ⟨15, by decide +kernel, rfl, by decide, by decide, q_261⟩
theorem i1_addRows_43 : IC cX1_addRows 43 44 (2) := ⟨by decide, Or.inl ⟨by decide +kernel, rfl⟩⟩
theorem i1_addRows_44 : IO cX1_addRows 44 45 .iaload := ⟨by decide +kernel, rfl⟩
theorem i1_addRows_45 : ILi cX1_addRows 45 47 5 := Or.inr ⟨by decide +kernel, rfl⟩
theorem i1_addRows_47 : IO cX1_addRows 47 48 .imul := ⟨by decide +kernel, rfl⟩
theorem i1_addRows_48 : IO cX1_addRows 48 49 .isub := ⟨by decide +kernel, rfl⟩
theorem i1_addRows_49 : ICV m1_addRows 49 52 m1_addIfExact := ⟨64, by decide +kernel, rfl, q_578⟩
theorem i1_addRows_52 : II cX1_addRows 52 55 5 (1) := ⟨by decide +kernel, by decide, rfl⟩
theorem i1_addRows_55 : IJ cX1_addRows 55 58 12 .goto := ⟨-43, by decide +kernel, rfl, by decide⟩
theorem i1_addRows_58 : IO cX1_addRows 58 59 .return_ := ⟨by decide +kernel, rfl⟩
theorem i1_addIfExact_0 : ILa cX1_addIfExact 0 1 0 := Or.inl ⟨0, by decide +kernel, rfl, rfl⟩
theorem i1_addIfExact_1 : IC cX1_addIfExact 1 2 (3) := ⟨by decide, Or.inl ⟨by decide +kernel, rfl⟩⟩
theorem i1_addIfExact_2 : ILi cX1_addIfExact 2 3 2 := Or.inl ⟨2, by decide +kernel, rfl, rfl⟩
theorem i1_addIfExact_3 : ILi cX1_addIfExact 3 4 3 := Or.inl ⟨3, by decide +kernel, rfl, rfl⟩
theorem i1_addIfExact_4 : ICV m1_addIfExact 4 7 m1_most := ⟨35, by decide +kernel, rfl, q_567⟩
theorem i1_addIfExact_7 : ISi cX1_addIfExact 7 9 4 := Or.inr ⟨by decide +kernel, rfl⟩
theorem i1_addIfExact_9 : ILa cX1_addIfExact 9 10 0 := Or.inl ⟨0, by decide +kernel, rfl, rfl⟩
theorem i1_addIfExact_10 : IGF m1_addIfExact 10 13 1 3 := ⟨11, by decide +kernel, rfl, by decide, by decide, q_260⟩
theorem i1_addIfExact_13 : IC cX1_addIfExact 13 14 (3) := ⟨by decide, Or.inl ⟨by decide +kernel, rfl⟩⟩
theorem i1_addIfExact_14 : IO cX1_addIfExact 14 15 .iaload := ⟨by decide +kernel, rfl⟩
theorem i1_addIfExact_15 : ILi cX1_addIfExact 15 17 4 := Or.inr ⟨by decide +kernel, rfl⟩
theorem i1_addIfExact_17 : IO cX1_addIfExact 17 18 .imul := ⟨by decide +kernel, rfl⟩
theorem i1_addIfExact_18 : ILi cX1_addIfExact 18 19 2 := Or.inl ⟨2, by decide +kernel, rfl, rfl⟩
theorem i1_addIfExact_19 : IJ cX1_addIfExact 19 22 73 (.if_icmp .ne) := ⟨54, by decide +kernel, rfl, by decide⟩
theorem i1_addIfExact_22 : ILa cX1_addIfExact 22 23 0 := Or.inl ⟨0, by decide +kernel, rfl, rfl⟩
theorem i1_addIfExact_23 : IGF m1_addIfExact 23 26 1 4 := ⟨15, by decide +kernel, rfl, by decide, by decide, q_261⟩
theorem i1_addIfExact_26 : IC cX1_addIfExact 26 27 (3) := ⟨by decide, Or.inl ⟨by decide +kernel, rfl⟩⟩
theorem i1_addIfExact_27 : IO cX1_addIfExact 27 28 .iaload := ⟨by decide +kernel, rfl⟩
theorem i1_addIfExact_28 : ILi cX1_addIfExact 28 30 4 := Or.inr ⟨by decide +kernel, rfl⟩
theorem i1_addIfExact_30 : IO cX1_addIfExact 30 31 .imul := ⟨by decide +kernel, rfl⟩
theorem i1_addIfExact_31 : ILi cX1_addIfExact 31 32 3 := Or.inl ⟨3, by decide +kernel, rfl, rfl⟩
theorem i1_addIfExact_32 : IJ cX1_addIfExact 32 35 73 (.if_icmp .ne) := ⟨41, by decide +kernel, rfl, by decide⟩
theorem i1_addIfExact_35 : ILa cX1_addIfExact 35 36 0 := Or.inl ⟨0, by decide +kernel, rfl, rfl⟩
theorem i1_addIfExact_36 : IGF m1_addIfExact 36 39 1 0 := ⟨25, by decide +kernel, rfl, by decide, by decide, q_255⟩
theorem i1_addIfExact_39 : ILa cX1_addIfExact 39 40 0 := Or.inl ⟨0, by decide +kernel, rfl, rfl⟩
theorem i1_addIfExact_40 : IGF m1_addIfExact 40 43 1 2 := ⟨18, by decide +kernel, rfl, by decide, by decide, q_259⟩
theorem i1_addIfExact_43 : IO cX1_addIfExact 43 44 .arraylength := ⟨by decide +kernel, rfl⟩
theorem i1_addIfExact_44 : IJ cX1_addIfExact 44 47 73 (.if_icmp .ge) := ⟨29, by decide +kernel, rfl, by decide⟩
theorem i1_addIfExact_47 : ILa cX1_addIfExact 47 48 0 := Or.inl ⟨0, by decide +kernel, rfl, rfl⟩
theorem i1_addIfExact_48 : IGF m1_addIfExact 48 51 1 2 := ⟨18, by decide +kernel, rfl, by decide, by decide, q_259⟩
theorem i1_addIfExact_51 : ILa cX1_addIfExact 51 52 0 := Or.inl ⟨0, by decide +kernel, rfl, rfl⟩
theorem i1_addIfExact_52 : IGF m1_addIfExact 52 55 1 0 := ⟨25, by decide +kernel, rfl, by decide, by decide, q_255⟩
theorem i1_addIfExact_55 : ILi cX1_addIfExact 55 56 1 := Or.inl ⟨1, by decide +kernel, rfl, rfl⟩
theorem i1_addIfExact_56 : IC cX1_addIfExact 56 58 (7) := ⟨by decide, Or.inr (Or.inl ⟨by decide +kernel, by decide +kernel, rfl⟩)⟩
theorem i1_addIfExact_58 : IO cX1_addIfExact 58 59 .ishl := ⟨by decide +kernel, rfl⟩
theorem i1_addIfExact_59 : ILi cX1_addIfExact 59 61 4 := Or.inr ⟨by decide +kernel, rfl⟩
theorem i1_addIfExact_61 : IO cX1_addIfExact 61 62 .ior := ⟨by decide +kernel, rfl⟩
theorem i1_addIfExact_62 : IO cX1_addIfExact 62 63 .iastore := ⟨by decide +kernel, rfl⟩
theorem i1_addIfExact_63 : ILa cX1_addIfExact 63 64 0 := Or.inl ⟨0, by decide +kernel, rfl, rfl⟩
theorem i1_addIfExact_64 : IO cX1_addIfExact 64 65 .dup := ⟨by decide +kernel, rfl⟩
theorem i1_addIfExact_65 : IGF m1_addIfExact 65 68 1 0 := ⟨25, by decide +kernel, rfl, by decide, by decide, q_255⟩
theorem i1_addIfExact_68 : IC cX1_addIfExact 68 69 (1) := ⟨by decide, Or.inl ⟨by decide +kernel, rfl⟩⟩
theorem i1_addIfExact_69 : IO cX1_addIfExact 69 70 .iadd := ⟨by decide +kernel, rfl⟩
theorem i1_addIfExact_70 : IPF m1_addIfExact 70 73 1 0 := ⟨25, by decide +kernel, rfl, by decide, by decide, q_255, rfl⟩
theorem i1_addIfExact_73 : IO cX1_addIfExact 73 74 .return_ := ⟨by decide +kernel, rfl⟩
theorem i2_init_0 : ILa cX2_init 0 1 0 := Or.inl ⟨0, by decide +kernel, rfl, rfl⟩
theorem i2_init_1 : ICI m2_init 1 4 objectInit := ⟨5, by decide +kernel, rfl, q_182⟩
theorem i2_init_4 : ILa cX2_init 4 5 0 := Or.inl ⟨0, by decide +kernel, rfl, rfl⟩
theorem i2_init_5 : IC cX2_init 5 7 (64) := ⟨by decide, Or.inr (Or.inl ⟨by decide +kernel, by decide +kernel, rfl⟩)⟩
theorem i2_init_7 : INA cX2_init 7 9 := ⟨by decide +kernel, rfl⟩
theorem i2_init_9 : IPZ m2_init 9 12 2 2 := ⟨11, by decide +kernel, rfl, by decide, by decide, q_189, rfl, rfl, rfl⟩
theorem i2_init_12 : ILa cX2_init 12 13 0 := Or.inl ⟨0, by decide +kernel, rfl, rfl⟩
theorem i2_init_13 : IC cX2_init 13 14 (4) := ⟨by decide, Or.inl ⟨by decide +kernel, rfl⟩⟩
theorem i2_init_14 : INA cX2_init 14 16 := ⟨by decide +kernel, rfl⟩
theorem i2_init_16 : IPZ m2_init 16 19 2 10 := ⟨15, by decide +kernel, rfl, by decide, by decide, q_198, rfl, rfl, rfl⟩
theorem i2_init_19 : ILa cX2_init 19 20 0 := Or.inl ⟨0, by decide +kernel, rfl, rfl⟩
theorem i2_init_20 : IC cX2_init 20 21 (4) := ⟨by decide, Or.inl ⟨by decide +kernel, rfl⟩⟩
theorem i2_init_21 : INA cX2_init 21 23 := ⟨by decide +kernel, rfl⟩
theorem i2_init_23 : IPZ m2_init 23 26 2 11 := ⟨18, by decide +kernel, rfl, by decide, by decide, q_199, rfl, rfl, rfl⟩
theorem i2_init_26 : ILa cX2_init 26 27 0 := Or.inl ⟨0, by decide +kernel, rfl, rfl⟩
theorem i2_init_27 : IC cX2_init 27 30 (192) := ⟨by decide, Or.inr (Or.inr ⟨by decide +kernel, by decide +kernel, rfl⟩)⟩
theorem i2_init_30 : INA cX2_init 30 32 := ⟨by decide +kernel, rfl⟩
theorem i2_init_32 : IPZ m2_init 32 35 2 12 := ⟨21, by decide +kernel, rfl, by decide, by decide, q_200, rfl, rfl, rfl⟩
theorem i2_init_35 : IO cX2_init 35 36 .return_ := ⟨by decide +kernel, rfl⟩
theorem i2_build_0 : ILa cX2_build 0 1 0 := Or.inl ⟨0, by decide +kernel, rfl, rfl⟩
theorem i2_build_1 : ILa cX2_build 1 2 1 := Or.inl ⟨1, by decide +kernel, rfl, rfl⟩
theorem i2_build_2 : IGF m2_build 2 5 5 1 := ⟨24, by decide +kernel, rfl, by decide, by decide, q_104⟩
theorem i2_build_5 : IPF m2_build 5 8 2 3 := ⟨30, by decide +kernel, rfl, by decide, by decide, q_190, rfl⟩
theorem i2_build_8 : ILa cX2_build 8 9 0 := Or.inl ⟨0, by decide +kernel, rfl, rfl⟩
theorem i2_build_9 : ILa cX2_build 9 10 1 := Or.inl ⟨1, by decide +kernel, rfl, rfl⟩
theorem i2_build_10 : ICV m2_build 10 13 m2_choosePivots := ⟨31, by decide +kernel, rfl, q_309⟩
theorem i2_build_13 : ILa cX2_build 13 14 0 := Or.inl ⟨0, by decide +kernel, rfl, rfl⟩
theorem i2_build_14 : ICV m2_build 14 17 m2_listFreeColumns := ⟨35, by decide +kernel, rfl, q_330⟩
theorem i2_build_17 : ILa cX2_build 17 18 0 := Or.inl ⟨0, by decide +kernel, rfl, rfl⟩
theorem i2_build_18 : ILa cX2_build 18 19 1 := Or.inl ⟨1, by decide +kernel, rfl, rfl⟩
theorem i2_build_19 : ICV m2_build 19 22 m2_collectCandidates := ⟨38, by decide +kernel, rfl, q_334⟩
theorem i2_build_22 : ILa cX2_build 22 23 0 := Or.inl ⟨0, by decide +kernel, rfl, rfl⟩
theorem i2_build_23 : ICV m2_build 23 26 m2_keepLeastCandidates := ⟨41, by decide +kernel, rfl, q_369⟩
theorem i2_build_26 : IO cX2_build 26 27 .return_ := ⟨by decide +kernel, rfl⟩
theorem i2_at_0 : ILi cX2_at 0 1 1 := Or.inl ⟨1, by decide +kernel, rfl, rfl⟩
theorem i2_at_1 : IC cX2_at 1 2 (4) := ⟨by decide, Or.inl ⟨by decide +kernel, rfl⟩⟩
theorem i2_at_2 : IO cX2_at 2 3 .imul := ⟨by decide +kernel, rfl⟩
theorem i2_at_3 : ILi cX2_at 3 4 2 := Or.inl ⟨2, by decide +kernel, rfl, rfl⟩
theorem i2_at_4 : IO cX2_at 4 5 .iadd := ⟨by decide +kernel, rfl⟩
theorem i2_at_5 : ISi cX2_at 5 6 3 := Or.inl ⟨3, by decide +kernel, rfl, rfl⟩
theorem i2_at_6 : ILi cX2_at 6 7 3 := Or.inl ⟨3, by decide +kernel, rfl, rfl⟩
theorem i2_at_7 : IJ cX2_at 7 10 28 (.ifCond .lt) := ⟨21, by decide +kernel, rfl, by decide⟩
theorem i2_at_10 : ILi cX2_at 10 11 3 := Or.inl ⟨3, by decide +kernel, rfl, rfl⟩
theorem i2_at_11 : ILa cX2_at 11 12 0 := Or.inl ⟨0, by decide +kernel, rfl, rfl⟩
theorem i2_at_12 : IGF m2_at 12 15 2 2 := ⟨11, by decide +kernel, rfl, by decide, by decide, q_189⟩
theorem i2_at_15 : IO cX2_at 15 16 .arraylength := ⟨by decide +kernel, rfl⟩
theorem i2_at_16 : IJ cX2_at 16 19 28 (.if_icmp .ge) := ⟨12, by decide +kernel, rfl, by decide⟩
theorem i2_at_19 : ILa cX2_at 19 20 0 := Or.inl ⟨0, by decide +kernel, rfl, rfl⟩
theorem i2_at_20 : IGF m2_at 20 23 2 2 := ⟨11, by decide +kernel, rfl, by decide, by decide, q_189⟩
theorem i2_at_23 : ILi cX2_at 23 24 3 := Or.inl ⟨3, by decide +kernel, rfl, rfl⟩
theorem i2_at_24 : IO cX2_at 24 25 .iaload := ⟨by decide +kernel, rfl⟩
theorem i2_at_25 : IJ cX2_at 25 28 29 .goto := ⟨4, by decide +kernel, rfl, by decide⟩
theorem i2_at_28 : IC cX2_at 28 29 (0) := ⟨by decide, Or.inl ⟨by decide +kernel, rfl⟩⟩
theorem i2_at_29 : IO cX2_at 29 30 .ireturn := ⟨by decide +kernel, rfl⟩
theorem i2_conforms_0 : IC cX2_conforms 0 1 (0) := ⟨by decide, Or.inl ⟨by decide +kernel, rfl⟩⟩
theorem i2_conforms_1 : ISi cX2_conforms 1 3 4 := Or.inr ⟨by decide +kernel, rfl⟩
theorem i2_conforms_3 : ILi cX2_conforms 3 5 4 := Or.inr ⟨by decide +kernel, rfl⟩
theorem i2_conforms_5 : ILa cX2_conforms 5 6 0 := Or.inl ⟨0, by decide +kernel, rfl, rfl⟩
theorem i2_conforms_6 : IGF m2_conforms 6 9 2 3 := ⟨30, by decide +kernel, rfl, by decide, by decide, q_190⟩
theorem i2_conforms_9 : IJ cX2_conforms 9 12 56 (.if_icmp .ge) := ⟨47, by decide +kernel, rfl, by decide⟩
theorem i2_conforms_12 : ILi cX2_conforms 12 13 2 := Or.inl ⟨2, by decide +kernel, rfl, rfl⟩
theorem i2_conforms_13 : ILa cX2_conforms 13 14 0 := Or.inl ⟨0, by decide +kernel, rfl, rfl⟩
theorem i2_conforms_14 : ILi cX2_conforms 14 15 1 := Or.inl ⟨1, by decide +kernel, rfl, rfl⟩
theorem i2_conforms_15 : ILi cX2_conforms 15 17 4 := Or.inr ⟨by decide +kernel, rfl⟩
theorem i2_conforms_17 : ICV m2_conforms 17 20 m2_at := ⟨44, by decide +kernel, rfl, q_385⟩
theorem i2_conforms_20 : IO cX2_conforms 20 21 .imul := ⟨by decide +kernel, rfl⟩
theorem i2_conforms_21 : ISi cX2_conforms 21 23 5 := Or.inr ⟨by decide +kernel, rfl⟩
theorem i2_conforms_23 : ILi cX2_conforms 23 25 5 := Or.inr ⟨by decide +kernel, rfl⟩
theorem i2_conforms_25 : ILa cX2_conforms 25 26 3 := Or.inl ⟨3, by decide +kernel, rfl, rfl⟩
theorem i2_conforms_26 : ILi cX2_conforms 26 28 4 := Or.inr ⟨by decide +kernel, rfl⟩
theorem i2_conforms_28 : IO cX2_conforms 28 29 .iaload := ⟨by decide +kernel, rfl⟩
theorem i2_conforms_29 : IO cX2_conforms 29 30 .imul := ⟨by decide +kernel, rfl⟩
theorem i2_conforms_30 : IJ cX2_conforms 30 33 48 (.ifCond .lt) := ⟨18, by decide +kernel, rfl, by decide⟩
theorem i2_conforms_33 : ILi cX2_conforms 33 35 5 := Or.inr ⟨by decide +kernel, rfl⟩
theorem i2_conforms_35 : ICS m2_conforms 35 38 yJ9_abs_0f7a4 := ⟨48, by decide +kernel, rfl, q_354⟩
theorem i2_conforms_38 : ILa cX2_conforms 38 39 3 := Or.inl ⟨3, by decide +kernel, rfl, rfl⟩
theorem i2_conforms_39 : ILi cX2_conforms 39 41 4 := Or.inr ⟨by decide +kernel, rfl⟩
theorem i2_conforms_41 : IO cX2_conforms 41 42 .iaload := ⟨by decide +kernel, rfl⟩
theorem i2_conforms_42 : ICS m2_conforms 42 45 yJ9_abs_0f7a4 := ⟨48, by decide +kernel, rfl, q_354⟩
theorem i2_conforms_45 : IJ cX2_conforms 45 48 50 (.if_icmp .le) := ⟨5, by decide +kernel, rfl, by decide⟩
theorem i2_conforms_48 : IC cX2_conforms 48 49 (0) := ⟨by decide, Or.inl ⟨by decide +kernel, rfl⟩⟩
theorem i2_conforms_49 : IO cX2_conforms 49 50 .ireturn := ⟨by decide +kernel, rfl⟩
theorem i2_conforms_50 : II cX2_conforms 50 53 4 (1) := ⟨by decide +kernel, by decide, rfl⟩
theorem i2_conforms_53 : IJ cX2_conforms 53 56 3 .goto := ⟨-50, by decide +kernel, rfl, by decide⟩
theorem i2_conforms_56 : IC cX2_conforms 56 57 (1) := ⟨by decide, Or.inl ⟨by decide +kernel, rfl⟩⟩
theorem i2_conforms_57 : IO cX2_conforms 57 58 .ireturn := ⟨by decide +kernel, rfl⟩
theorem i2_hasLeastSupport_0 : ILa cX2_hasLeastSupport 0 1 0 := Or.inl ⟨0, by decide +kernel, rfl, rfl⟩
theorem i2_hasLeastSupport_1 : ILi cX2_hasLeastSupport 1 2 1 := Or.inl ⟨1, by decide +kernel, rfl, rfl⟩
theorem i2_hasLeastSupport_2 : ICV m2_hasLeastSupport 2 5 m2_support := ⟨54, by decide +kernel, rfl, q_538⟩
theorem i2_hasLeastSupport_5 : ISi cX2_hasLeastSupport 5 6 2 := Or.inl ⟨2, by decide +kernel, rfl, rfl⟩
theorem i2_hasLeastSupport_6 : IC cX2_hasLeastSupport 6 7 (0) := ⟨by decide, Or.inl ⟨by decide +kernel, rfl⟩⟩
theorem i2_hasLeastSupport_7 : ISi cX2_hasLeastSupport 7 8 3 := Or.inl ⟨3, by decide +kernel, rfl, rfl⟩
theorem i2_hasLeastSupport_8 : ILi cX2_hasLeastSupport 8 9 3 := Or.inl ⟨3, by decide +kernel, rfl, rfl⟩
theorem i2_hasLeastSupport_9 : ILa cX2_hasLeastSupport 9 10 0 := Or.inl ⟨0, by decide +kernel, rfl, rfl⟩
theorem i2_hasLeastSupport_10 : IGF m2_hasLeastSupport 10 13 2 0 := ⟨57, by decide +kernel, rfl, by decide, by decide, q_184⟩
theorem i2_hasLeastSupport_13 : IJ cX2_hasLeastSupport 13 16 46 (.if_icmp .ge) := ⟨33, by decide +kernel, rfl, by decide⟩
theorem i2_hasLeastSupport_16 : ILa cX2_hasLeastSupport 16 17 0 := Or.inl ⟨0, by decide +kernel, rfl, rfl⟩
theorem i2_hasLeastSupport_17 : ILi cX2_hasLeastSupport 17 18 3 := Or.inl ⟨3, by decide +kernel, rfl, rfl⟩
theorem i2_hasLeastSupport_18 : ICV m2_hasLeastSupport 18 21 m2_support := ⟨54, by decide +kernel, rfl, q_538⟩
theorem i2_hasLeastSupport_21 : ISi cX2_hasLeastSupport 21 23 4 := Or.inr ⟨by decide +kernel, rfl⟩
theorem i2_hasLeastSupport_23 : ILi cX2_hasLeastSupport 23 25 4 := Or.inr ⟨by decide +kernel, rfl⟩
theorem i2_hasLeastSupport_25 : ILi cX2_hasLeastSupport 25 26 2 := Or.inl ⟨2, by decide +kernel, rfl, rfl⟩
theorem i2_hasLeastSupport_26 : IJ cX2_hasLeastSupport 26 29 40 (.if_icmp .eq) := ⟨14, by decide +kernel, rfl, by decide⟩
theorem i2_hasLeastSupport_29 : ILi cX2_hasLeastSupport 29 31 4 := Or.inr ⟨by decide +kernel, rfl⟩
theorem i2_hasLeastSupport_31 : ILi cX2_hasLeastSupport 31 32 2 := Or.inl ⟨2, by decide +kernel, rfl, rfl⟩
theorem i2_hasLeastSupport_32 : IO cX2_hasLeastSupport 32 33 .iand := ⟨by decide +kernel, rfl⟩
theorem i2_hasLeastSupport_33 : ILi cX2_hasLeastSupport 33 35 4 := Or.inr ⟨by decide +kernel, rfl⟩
theorem i2_hasLeastSupport_35 : IJ cX2_hasLeastSupport 35 38 40 (.if_icmp .ne) := ⟨5, by decide +kernel, rfl, by decide⟩
theorem i2_hasLeastSupport_38 : IC cX2_hasLeastSupport 38 39 (0) := ⟨by decide, Or.inl ⟨by decide +kernel, rfl⟩⟩
theorem i2_hasLeastSupport_39 : IO cX2_hasLeastSupport 39 40 .ireturn := ⟨by decide +kernel, rfl⟩
theorem i2_hasLeastSupport_40 : II cX2_hasLeastSupport 40 43 3 (1) := ⟨by decide +kernel, by decide, rfl⟩
theorem i2_hasLeastSupport_43 : IJ cX2_hasLeastSupport 43 46 8 .goto := ⟨-35, by decide +kernel, rfl, by decide⟩
theorem i2_hasLeastSupport_46 : IC cX2_hasLeastSupport 46 47 (1) := ⟨by decide, Or.inl ⟨by decide +kernel, rfl⟩⟩
theorem i2_hasLeastSupport_47 : IO cX2_hasLeastSupport 47 48 .ireturn := ⟨by decide +kernel, rfl⟩
theorem i2_copyPart_0 : IC cX2_copyPart 0 1 (0) := ⟨by decide, Or.inl ⟨by decide +kernel, rfl⟩⟩
theorem i2_copyPart_1 : ISi cX2_copyPart 1 3 4 := Or.inr ⟨by decide +kernel, rfl⟩
theorem i2_copyPart_3 : ILi cX2_copyPart 3 5 4 := Or.inr ⟨by decide +kernel, rfl⟩
theorem i2_copyPart_5 : ILa cX2_copyPart 5 6 0 := Or.inl ⟨0, by decide +kernel, rfl, rfl⟩
theorem i2_copyPart_6 : IGF m2_copyPart 6 9 2 3 := ⟨30, by decide +kernel, rfl, by decide, by decide, q_190⟩
theorem i2_copyPart_9 : IJ cX2_copyPart 9 12 35 (.if_icmp .ge) := ⟨26, by decide +kernel, rfl, by decide⟩
theorem i2_copyPart_12 : ILa cX2_copyPart 12 13 3 := Or.inl ⟨3, by decide +kernel, rfl, rfl⟩
theorem i2_copyPart_13 : ILi cX2_copyPart 13 15 4 := Or.inr ⟨by decide +kernel, rfl⟩
theorem i2_copyPart_15 : ILi cX2_copyPart 15 16 2 := Or.inl ⟨2, by decide +kernel, rfl, rfl⟩
theorem i2_copyPart_16 : ILa cX2_copyPart 16 17 0 := Or.inl ⟨0, by decide +kernel, rfl, rfl⟩
theorem i2_copyPart_17 : ILi cX2_copyPart 17 18 1 := Or.inl ⟨1, by decide +kernel, rfl, rfl⟩
theorem i2_copyPart_18 : ILi cX2_copyPart 18 20 4 := Or.inr ⟨by decide +kernel, rfl⟩
theorem i2_copyPart_20 : ICV m2_copyPart 20 23 m2_at := ⟨44, by decide +kernel, rfl, q_385⟩
theorem i2_copyPart_23 : IO cX2_copyPart 23 24 .imul := ⟨by decide +kernel, rfl⟩
theorem i2_copyPart_24 : IC cX2_copyPart 24 25 (0) := ⟨by decide, Or.inl ⟨by decide +kernel, rfl⟩⟩
theorem i2_copyPart_25 : ICS m2_copyPart 25 28 yJ9_max_7cf53 := ⟨60, by decide +kernel, rfl, q_554⟩
theorem i2_copyPart_28 : IO cX2_copyPart 28 29 .iastore := ⟨by decide +kernel, rfl⟩
theorem i2_copyPart_29 : II cX2_copyPart 29 32 4 (1) := ⟨by decide +kernel, by decide, rfl⟩
theorem i2_copyPart_32 : IJ cX2_copyPart 32 35 3 .goto := ⟨-29, by decide +kernel, rfl, by decide⟩
theorem i2_copyPart_35 : IO cX2_copyPart 35 36 .return_ := ⟨by decide +kernel, rfl⟩
theorem i2_support_0 : IC cX2_support 0 1 (0) := ⟨by decide, Or.inl ⟨by decide +kernel, rfl⟩⟩
theorem i2_support_1 : ISi cX2_support 1 2 2 := Or.inl ⟨2, by decide +kernel, rfl, rfl⟩
theorem i2_support_2 : IC cX2_support 2 3 (0) := ⟨by decide, Or.inl ⟨by decide +kernel, rfl⟩⟩
theorem i2_support_3 : ISi cX2_support 3 4 3 := Or.inl ⟨3, by decide +kernel, rfl, rfl⟩
theorem i2_support_4 : ILi cX2_support 4 5 3 := Or.inl ⟨3, by decide +kernel, rfl, rfl⟩
theorem i2_support_5 : ILa cX2_support 5 6 0 := Or.inl ⟨0, by decide +kernel, rfl, rfl⟩
theorem i2_support_6 : IGF m2_support 6 9 2 3 := ⟨30, by decide +kernel, rfl, by decide, by decide, q_190⟩
theorem i2_support_9 : IJ cX2_support 9 12 33 (.if_icmp .ge) := ⟨24, by decide +kernel, rfl, by decide⟩
theorem i2_support_12 : ILa cX2_support 12 13 0 := Or.inl ⟨0, by decide +kernel, rfl, rfl⟩
theorem i2_support_13 : ILi cX2_support 13 14 1 := Or.inl ⟨1, by decide +kernel, rfl, rfl⟩
theorem i2_support_14 : ILi cX2_support 14 15 3 := Or.inl ⟨3, by decide +kernel, rfl, rfl⟩
theorem i2_support_15 : ICV m2_support 15 18 m2_at := ⟨44, by decide +kernel, rfl, q_385⟩
theorem i2_support_18 : IJ cX2_support 18 21 27 (.ifCond .eq) := ⟨9, by decide +kernel, rfl, by decide⟩
theorem i2_support_21 : ILi cX2_support 21 22 2 := Or.inl ⟨2, by decide +kernel, rfl, rfl⟩
theorem i2_support_22 : IC cX2_support 22 23 (1) := ⟨by decide, Or.inl ⟨by decide +kernel, rfl⟩⟩
theorem i2_support_23 : ILi cX2_support 23 24 3 := Or.inl ⟨3, by decide +kernel, rfl, rfl⟩
theorem i2_support_24 : IO cX2_support 24 25 .ishl := ⟨by decide +kernel, rfl⟩
theorem i2_support_25 : IO cX2_support 25 26 .ior := ⟨by decide +kernel, rfl⟩
theorem i2_support_26 : ISi cX2_support 26 27 2 := Or.inl ⟨2, by decide +kernel, rfl, rfl⟩
theorem i2_support_27 : II cX2_support 27 30 3 (1) := ⟨by decide +kernel, by decide, rfl⟩
theorem i2_support_30 : IJ cX2_support 30 33 4 .goto := ⟨-26, by decide +kernel, rfl, by decide⟩
theorem i2_support_33 : ILi cX2_support 33 34 2 := Or.inl ⟨2, by decide +kernel, rfl, rfl⟩
theorem i2_support_34 : IO cX2_support 34 35 .ireturn := ⟨by decide +kernel, rfl⟩
theorem i2_choosePivots_0 : ILa cX2_choosePivots 0 1 0 := Or.inl ⟨0, by decide +kernel, rfl, rfl⟩
theorem i2_choosePivots_1 : IC cX2_choosePivots 1 2 (0) := ⟨by decide, Or.inl ⟨by decide +kernel, rfl⟩⟩
theorem i2_choosePivots_2 : IPF m2_choosePivots 2 5 2 1 := ⟨63, by decide +kernel, rfl, by decide, by decide, q_187, rfl⟩
theorem i2_choosePivots_5 : ILa cX2_choosePivots 5 6 0 := Or.inl ⟨0, by decide +kernel, rfl, rfl⟩
theorem i2_choosePivots_6 : IC cX2_choosePivots 6 7 (1) := ⟨by decide, Or.inl ⟨by decide +kernel, rfl⟩⟩
theorem i2_choosePivots_7 : IPF m2_choosePivots 7 10 2 4 := ⟨66, by decide +kernel, rfl, by decide, by decide, q_192, rfl⟩
theorem i2_choosePivots_10 : ILa cX2_choosePivots 10 11 0 := Or.inl ⟨0, by decide +kernel, rfl, rfl⟩
theorem i2_choosePivots_11 : IC cX2_choosePivots 11 12 (-1) := ⟨by decide, Or.inl ⟨by decide +kernel, rfl⟩⟩
theorem i2_choosePivots_12 : IPF m2_choosePivots 12 15 2 5 := ⟨69, by decide +kernel, rfl, by decide, by decide, q_193, rfl⟩
theorem i2_choosePivots_15 : ILa cX2_choosePivots 15 16 0 := Or.inl ⟨0, by decide +kernel, rfl, rfl⟩
theorem i2_choosePivots_16 : IC cX2_choosePivots 16 17 (-1) := ⟨by decide, Or.inl ⟨by decide +kernel, rfl⟩⟩
theorem i2_choosePivots_17 : IPF m2_choosePivots 17 20 2 6 := ⟨72, by decide +kernel, rfl, by decide, by decide, q_194, rfl⟩
theorem i2_choosePivots_20 : ILa cX2_choosePivots 20 21 0 := Or.inl ⟨0, by decide +kernel, rfl, rfl⟩
theorem i2_choosePivots_21 : IC cX2_choosePivots 21 22 (0) := ⟨by decide, Or.inl ⟨by decide +kernel, rfl⟩⟩
theorem i2_choosePivots_22 : IPF m2_choosePivots 22 25 2 8 := ⟨75, by decide +kernel, rfl, by decide, by decide, q_196, rfl⟩
theorem i2_choosePivots_25 : IC cX2_choosePivots 25 26 (0) := ⟨by decide, Or.inl ⟨by decide +kernel, rfl⟩⟩
theorem i2_choosePivots_26 : ISi cX2_choosePivots 26 27 2 := Or.inl ⟨2, by decide +kernel, rfl, rfl⟩
theorem i2_choosePivots_27 : ILi cX2_choosePivots 27 28 2 := Or.inl ⟨2, by decide +kernel, rfl, rfl⟩
theorem i2_choosePivots_28 : ILa cX2_choosePivots 28 29 0 := Or.inl ⟨0, by decide +kernel, rfl, rfl⟩
theorem i2_choosePivots_29 : IGF m2_choosePivots 29 32 2 3 := ⟨30, by decide +kernel, rfl, by decide, by decide, q_190⟩
theorem i2_choosePivots_32 : IJ cX2_choosePivots 32 35 75 (.if_icmp .ge) := ⟨43, by decide +kernel, rfl, by decide⟩
theorem i2_choosePivots_35 : IC cX2_choosePivots 35 36 (0) := ⟨by decide, Or.inl ⟨by decide +kernel, rfl⟩⟩
theorem i2_choosePivots_36 : ISi cX2_choosePivots 36 37 3 := Or.inl ⟨3, by decide +kernel, rfl, rfl⟩
theorem i2_choosePivots_37 : ILi cX2_choosePivots 37 38 3 := Or.inl ⟨3, by decide +kernel, rfl, rfl⟩
theorem i2_choosePivots_38 : IC cX2_choosePivots 38 39 (2) := ⟨by decide, Or.inl ⟨by decide +kernel, rfl⟩⟩
theorem i2_choosePivots_39 : IJ cX2_choosePivots 39 42 69 (.if_icmp .ge) := ⟨30, by decide +kernel, rfl, by decide⟩
theorem i2_choosePivots_42 : ILa cX2_choosePivots 42 43 1 := Or.inl ⟨1, by decide +kernel, rfl, rfl⟩
theorem i2_choosePivots_43 : ILi cX2_choosePivots 43 44 3 := Or.inl ⟨3, by decide +kernel, rfl, rfl⟩
theorem i2_choosePivots_44 : ILi cX2_choosePivots 44 45 2 := Or.inl ⟨2, by decide +kernel, rfl, rfl⟩
theorem i2_choosePivots_45 : ICV m2_choosePivots 45 48 m5_at := ⟨78, by decide +kernel, rfl, q_313⟩
theorem i2_choosePivots_48 : IJ cX2_choosePivots 48 51 63 (.ifCond .eq) := ⟨15, by decide +kernel, rfl, by decide⟩
theorem i2_choosePivots_51 : ILa cX2_choosePivots 51 52 0 := Or.inl ⟨0, by decide +kernel, rfl, rfl⟩
theorem i2_choosePivots_52 : ILi cX2_choosePivots 52 53 3 := Or.inl ⟨3, by decide +kernel, rfl, rfl⟩
theorem i2_choosePivots_53 : ILi cX2_choosePivots 53 54 2 := Or.inl ⟨2, by decide +kernel, rfl, rfl⟩
theorem i2_choosePivots_54 : ILa cX2_choosePivots 54 55 1 := Or.inl ⟨1, by decide +kernel, rfl, rfl⟩
theorem i2_choosePivots_55 : ILi cX2_choosePivots 55 56 3 := Or.inl ⟨3, by decide +kernel, rfl, rfl⟩
theorem i2_choosePivots_56 : ILi cX2_choosePivots 56 57 2 := Or.inl ⟨2, by decide +kernel, rfl, rfl⟩
theorem i2_choosePivots_57 : ICV m2_choosePivots 57 60 m5_at := ⟨78, by decide +kernel, rfl, q_313⟩
theorem i2_choosePivots_60 : ICV m2_choosePivots 60 63 m2_takePivot := ⟨79, by decide +kernel, rfl, q_317⟩
theorem i2_choosePivots_63 : II cX2_choosePivots 63 66 3 (1) := ⟨by decide +kernel, by decide, rfl⟩
theorem i2_choosePivots_66 : IJ cX2_choosePivots 66 69 37 .goto := ⟨-29, by decide +kernel, rfl, by decide⟩
theorem i2_choosePivots_69 : II cX2_choosePivots 69 72 2 (1) := ⟨by decide +kernel, by decide, rfl⟩
theorem i2_choosePivots_72 : IJ cX2_choosePivots 72 75 27 .goto := ⟨-45, by decide +kernel, rfl, by decide⟩
theorem i2_choosePivots_75 : IC cX2_choosePivots 75 76 (0) := ⟨by decide, Or.inl ⟨by decide +kernel, rfl⟩⟩
theorem i2_choosePivots_76 : ISi cX2_choosePivots 76 77 2 := Or.inl ⟨2, by decide +kernel, rfl, rfl⟩
theorem i2_choosePivots_77 : ILi cX2_choosePivots 77 78 2 := Or.inl ⟨2, by decide +kernel, rfl, rfl⟩
theorem i2_choosePivots_78 : ILa cX2_choosePivots 78 79 0 := Or.inl ⟨0, by decide +kernel, rfl, rfl⟩
theorem i2_choosePivots_79 : IGF m2_choosePivots 79 82 2 3 := ⟨30, by decide +kernel, rfl, by decide, by decide, q_190⟩
theorem i2_choosePivots_82 : IJ cX2_choosePivots 82 85 130 (.if_icmp .ge) := ⟨48, by decide +kernel, rfl, by decide⟩
theorem i2_choosePivots_85 : ILi cX2_choosePivots 85 86 2 := Or.inl ⟨2, by decide +kernel, rfl, rfl⟩
theorem i2_choosePivots_86 : IC cX2_choosePivots 86 87 (1) := ⟨by decide, Or.inl ⟨by decide +kernel, rfl⟩⟩
theorem i2_choosePivots_87 : IO cX2_choosePivots 87 88 .iadd := ⟨by decide +kernel, rfl⟩
theorem i2_choosePivots_88 : ISi cX2_choosePivots 88 89 3 := Or.inl ⟨3, by decide +kernel, rfl, rfl⟩
theorem i2_choosePivots_89 : ILi cX2_choosePivots 89 90 3 := Or.inl ⟨3, by decide +kernel, rfl, rfl⟩
theorem i2_choosePivots_90 : ILa cX2_choosePivots 90 91 0 := Or.inl ⟨0, by decide +kernel, rfl, rfl⟩
theorem i2_choosePivots_91 : IGF m2_choosePivots 91 94 2 3 := ⟨30, by decide +kernel, rfl, by decide, by decide, q_190⟩
theorem i2_choosePivots_94 : IJ cX2_choosePivots 94 97 124 (.if_icmp .ge) := ⟨30, by decide +kernel, rfl, by decide⟩
theorem i2_choosePivots_97 : ILa cX2_choosePivots 97 98 1 := Or.inl ⟨1, by decide +kernel, rfl, rfl⟩
theorem i2_choosePivots_98 : ILi cX2_choosePivots 98 99 2 := Or.inl ⟨2, by decide +kernel, rfl, rfl⟩
theorem i2_choosePivots_99 : ILi cX2_choosePivots 99 100 3 := Or.inl ⟨3, by decide +kernel, rfl, rfl⟩
theorem i2_choosePivots_100 : ICV m2_choosePivots 100 103 m5_minor := ⟨83, by decide +kernel, rfl, q_321⟩
theorem i2_choosePivots_103 : IJ cX2_choosePivots 103 106 118 (.ifCond .eq) := ⟨15, by decide +kernel, rfl, by decide⟩
theorem i2_choosePivots_106 : ILa cX2_choosePivots 106 107 0 := Or.inl ⟨0, by decide +kernel, rfl, rfl⟩
theorem i2_choosePivots_107 : ILi cX2_choosePivots 107 108 2 := Or.inl ⟨2, by decide +kernel, rfl, rfl⟩
theorem i2_choosePivots_108 : ILi cX2_choosePivots 108 109 3 := Or.inl ⟨3, by decide +kernel, rfl, rfl⟩
theorem i2_choosePivots_109 : ILa cX2_choosePivots 109 110 1 := Or.inl ⟨1, by decide +kernel, rfl, rfl⟩
theorem i2_choosePivots_110 : ILi cX2_choosePivots 110 111 2 := Or.inl ⟨2, by decide +kernel, rfl, rfl⟩
theorem i2_choosePivots_111 : ILi cX2_choosePivots 111 112 3 := Or.inl ⟨3, by decide +kernel, rfl, rfl⟩
theorem i2_choosePivots_112 : ICV m2_choosePivots 112 115 m5_minor := ⟨83, by decide +kernel, rfl, q_321⟩
theorem i2_choosePivots_115 : ICV m2_choosePivots 115 118 m2_takePivots := ⟨86, by decide +kernel, rfl, q_326⟩
theorem i2_choosePivots_118 : II cX2_choosePivots 118 121 3 (1) := ⟨by decide +kernel, by decide, rfl⟩
theorem i2_choosePivots_121 : IJ cX2_choosePivots 121 124 89 .goto := ⟨-32, by decide +kernel, rfl, by decide⟩
theorem i2_choosePivots_124 : II cX2_choosePivots 124 127 2 (1) := ⟨by decide +kernel, by decide, rfl⟩
theorem i2_choosePivots_127 : IJ cX2_choosePivots 127 130 77 .goto := ⟨-50, by decide +kernel, rfl, by decide⟩
theorem i2_choosePivots_130 : IO cX2_choosePivots 130 131 .return_ := ⟨by decide +kernel, rfl⟩
theorem i2_takePivot_0 : ILa cX2_takePivot 0 1 0 := Or.inl ⟨0, by decide +kernel, rfl, rfl⟩
theorem i2_takePivot_1 : IC cX2_takePivot 1 2 (1) := ⟨by decide, Or.inl ⟨by decide +kernel, rfl⟩⟩
theorem i2_takePivot_2 : IPF m2_takePivot 2 5 2 1 := ⟨63, by decide +kernel, rfl, by decide, by decide, q_187, rfl⟩
theorem i2_takePivot_5 : ILa cX2_takePivot 5 6 0 := Or.inl ⟨0, by decide +kernel, rfl, rfl⟩
theorem i2_takePivot_6 : IC cX2_takePivot 6 7 (3) := ⟨by decide, Or.inl ⟨by decide +kernel, rfl⟩⟩
theorem i2_takePivot_7 : IPF m2_takePivot 7 10 2 4 := ⟨66, by decide +kernel, rfl, by decide, by decide, q_192, rfl⟩
theorem i2_takePivot_10 : ILa cX2_takePivot 10 11 0 := Or.inl ⟨0, by decide +kernel, rfl, rfl⟩
theorem i2_takePivot_11 : ILi cX2_takePivot 11 12 1 := Or.inl ⟨1, by decide +kernel, rfl, rfl⟩
theorem i2_takePivot_12 : IPF m2_takePivot 12 15 2 7 := ⟨89, by decide +kernel, rfl, by decide, by decide, q_195, rfl⟩
theorem i2_takePivot_15 : ILa cX2_takePivot 15 16 0 := Or.inl ⟨0, by decide +kernel, rfl, rfl⟩
theorem i2_takePivot_16 : ILi cX2_takePivot 16 17 2 := Or.inl ⟨2, by decide +kernel, rfl, rfl⟩
theorem i2_takePivot_17 : IPF m2_takePivot 17 20 2 5 := ⟨69, by decide +kernel, rfl, by decide, by decide, q_193, rfl⟩
theorem i2_takePivot_20 : ILa cX2_takePivot 20 21 0 := Or.inl ⟨0, by decide +kernel, rfl, rfl⟩
theorem i2_takePivot_21 : ILi cX2_takePivot 21 22 3 := Or.inl ⟨3, by decide +kernel, rfl, rfl⟩
theorem i2_takePivot_22 : IPF m2_takePivot 22 25 2 8 := ⟨75, by decide +kernel, rfl, by decide, by decide, q_196, rfl⟩
theorem i2_takePivot_25 : IO cX2_takePivot 25 26 .return_ := ⟨by decide +kernel, rfl⟩
theorem i2_takePivots_0 : ILa cX2_takePivots 0 1 0 := Or.inl ⟨0, by decide +kernel, rfl, rfl⟩
theorem i2_takePivots_1 : IC cX2_takePivots 1 2 (2) := ⟨by decide, Or.inl ⟨by decide +kernel, rfl⟩⟩
theorem i2_takePivots_2 : IPF m2_takePivots 2 5 2 1 := ⟨63, by decide +kernel, rfl, by decide, by decide, q_187, rfl⟩
theorem i2_takePivots_5 : ILa cX2_takePivots 5 6 0 := Or.inl ⟨0, by decide +kernel, rfl, rfl⟩
theorem i2_takePivots_6 : IC cX2_takePivots 6 8 (9) := ⟨by decide, Or.inr (Or.inl ⟨by decide +kernel, by decide +kernel, rfl⟩)⟩
theorem i2_takePivots_8 : IPF m2_takePivots 8 11 2 4 := ⟨66, by decide +kernel, rfl, by decide, by decide, q_192, rfl⟩
theorem i2_takePivots_11 : ILa cX2_takePivots 11 12 0 := Or.inl ⟨0, by decide +kernel, rfl, rfl⟩
theorem i2_takePivots_12 : ILi cX2_takePivots 12 13 1 := Or.inl ⟨1, by decide +kernel, rfl, rfl⟩
theorem i2_takePivots_13 : IPF m2_takePivots 13 16 2 5 := ⟨69, by decide +kernel, rfl, by decide, by decide, q_193, rfl⟩
theorem i2_takePivots_16 : ILa cX2_takePivots 16 17 0 := Or.inl ⟨0, by decide +kernel, rfl, rfl⟩
theorem i2_takePivots_17 : ILi cX2_takePivots 17 18 2 := Or.inl ⟨2, by decide +kernel, rfl, rfl⟩
theorem i2_takePivots_18 : IPF m2_takePivots 18 21 2 6 := ⟨72, by decide +kernel, rfl, by decide, by decide, q_194, rfl⟩
theorem i2_takePivots_21 : ILa cX2_takePivots 21 22 0 := Or.inl ⟨0, by decide +kernel, rfl, rfl⟩
theorem i2_takePivots_22 : ILi cX2_takePivots 22 23 3 := Or.inl ⟨3, by decide +kernel, rfl, rfl⟩
theorem i2_takePivots_23 : IPF m2_takePivots 23 26 2 8 := ⟨75, by decide +kernel, rfl, by decide, by decide, q_196, rfl⟩
theorem i2_takePivots_26 : IO cX2_takePivots 26 27 .return_ := ⟨by decide +kernel, rfl⟩
theorem i2_listFreeColumns_0 : ILa cX2_listFreeColumns 0 1 0 := Or.inl ⟨0, by decide +kernel, rfl, rfl⟩
theorem i2_listFreeColumns_1 : IC cX2_listFreeColumns 1 2 (0) := ⟨by decide, Or.inl ⟨by decide +kernel, rfl⟩⟩
theorem i2_listFreeColumns_2 : IPF m2_listFreeColumns 2 5 2 9 := ⟨92, by decide +kernel, rfl, by decide, by decide, q_197, rfl⟩
theorem i2_listFreeColumns_5 : IC cX2_listFreeColumns 5 6 (0) := ⟨by decide, Or.inl ⟨by decide +kernel, rfl⟩⟩
theorem i2_listFreeColumns_6 : ISi cX2_listFreeColumns 6 7 1 := Or.inl ⟨1, by decide +kernel, rfl, rfl⟩
theorem i2_listFreeColumns_7 : ILi cX2_listFreeColumns 7 8 1 := Or.inl ⟨1, by decide +kernel, rfl, rfl⟩
theorem i2_listFreeColumns_8 : ILa cX2_listFreeColumns 8 9 0 := Or.inl ⟨0, by decide +kernel, rfl, rfl⟩
theorem i2_listFreeColumns_9 : IGF m2_listFreeColumns 9 12 2 3 := ⟨30, by decide +kernel, rfl, by decide, by decide, q_190⟩
theorem i2_listFreeColumns_12 : IJ cX2_listFreeColumns 12 15 57 (.if_icmp .ge) := ⟨45, by decide +kernel, rfl, by decide⟩
theorem i2_listFreeColumns_15 : ILi cX2_listFreeColumns 15 16 1 := Or.inl ⟨1, by decide +kernel, rfl, rfl⟩
theorem i2_listFreeColumns_16 : ILa cX2_listFreeColumns 16 17 0 := Or.inl ⟨0, by decide +kernel, rfl, rfl⟩
theorem i2_listFreeColumns_17 : IGF m2_listFreeColumns 17 20 2 5 := ⟨69, by decide +kernel, rfl, by decide, by decide, q_193⟩
theorem i2_listFreeColumns_20 : IJ cX2_listFreeColumns 20 23 51 (.if_icmp .eq) := ⟨31, by decide +kernel, rfl, by decide⟩
theorem i2_listFreeColumns_23 : ILi cX2_listFreeColumns 23 24 1 := Or.inl ⟨1, by decide +kernel, rfl, rfl⟩
theorem i2_listFreeColumns_24 : ILa cX2_listFreeColumns 24 25 0 := Or.inl ⟨0, by decide +kernel, rfl, rfl⟩
theorem i2_listFreeColumns_25 : IGF m2_listFreeColumns 25 28 2 6 := ⟨72, by decide +kernel, rfl, by decide, by decide, q_194⟩
theorem i2_listFreeColumns_28 : IJ cX2_listFreeColumns 28 31 51 (.if_icmp .eq) := ⟨23, by decide +kernel, rfl, by decide⟩
theorem i2_listFreeColumns_31 : ILa cX2_listFreeColumns 31 32 0 := Or.inl ⟨0, by decide +kernel, rfl, rfl⟩
theorem i2_listFreeColumns_32 : IGF m2_listFreeColumns 32 35 2 10 := ⟨15, by decide +kernel, rfl, by decide, by decide, q_198⟩
theorem i2_listFreeColumns_35 : ILa cX2_listFreeColumns 35 36 0 := Or.inl ⟨0, by decide +kernel, rfl, rfl⟩
theorem i2_listFreeColumns_36 : IGF m2_listFreeColumns 36 39 2 9 := ⟨92, by decide +kernel, rfl, by decide, by decide, q_197⟩
theorem i2_listFreeColumns_39 : ILi cX2_listFreeColumns 39 40 1 := Or.inl ⟨1, by decide +kernel, rfl, rfl⟩
theorem i2_listFreeColumns_40 : IO cX2_listFreeColumns 40 41 .iastore := ⟨by decide +kernel, rfl⟩
theorem i2_listFreeColumns_41 : ILa cX2_listFreeColumns 41 42 0 := Or.inl ⟨0, by decide +kernel, rfl, rfl⟩
theorem i2_listFreeColumns_42 : IO cX2_listFreeColumns 42 43 .dup := ⟨by decide +kernel, rfl⟩
theorem i2_listFreeColumns_43 : IGF m2_listFreeColumns 43 46 2 9 := ⟨92, by decide +kernel, rfl, by decide, by decide, q_197⟩
theorem i2_listFreeColumns_46 : IC cX2_listFreeColumns 46 47 (1) := ⟨by decide, Or.inl ⟨by decide +kernel, rfl⟩⟩
theorem i2_listFreeColumns_47 : IO cX2_listFreeColumns 47 48 .iadd := ⟨by decide +kernel, rfl⟩
theorem i2_listFreeColumns_48 : IPF m2_listFreeColumns 48 51 2 9 := ⟨92, by decide +kernel, rfl, by decide, by decide, q_197, rfl⟩
theorem i2_listFreeColumns_51 : II cX2_listFreeColumns 51 54 1 (1) := ⟨by decide +kernel, by decide, rfl⟩
theorem i2_listFreeColumns_54 : IJ cX2_listFreeColumns 54 57 7 .goto := ⟨-47, by decide +kernel, rfl, by decide⟩
theorem i2_listFreeColumns_57 : IO cX2_listFreeColumns 57 58 .return_ := ⟨by decide +kernel, rfl⟩
theorem i2_collectCandidates_0 : IC cX2_collectCandidates 0 1 (2) := ⟨by decide, Or.inl ⟨by decide +kernel, rfl⟩⟩
theorem i2_collectCandidates_1 : ILa cX2_collectCandidates 1 2 0 := Or.inl ⟨0, by decide +kernel, rfl, rfl⟩
theorem i2_collectCandidates_2 : IGF m2_collectCandidates 2 5 2 4 := ⟨66, by decide +kernel, rfl, by decide, by decide, q_192⟩
theorem i2_collectCandidates_5 : IO cX2_collectCandidates 5 6 .imul := ⟨by decide +kernel, rfl⟩
theorem i2_collectCandidates_6 : IC cX2_collectCandidates 6 7 (1) := ⟨by decide, Or.inl ⟨by decide +kernel, rfl⟩⟩
theorem i2_collectCandidates_7 : IO cX2_collectCandidates 7 8 .iadd := ⟨by decide +kernel, rfl⟩
theorem i2_collectCandidates_8 : ISi cX2_collectCandidates 8 9 2 := Or.inl ⟨2, by decide +kernel, rfl, rfl⟩
theorem i2_collectCandidates_9 : IC cX2_collectCandidates 9 10 (1) := ⟨by decide, Or.inl ⟨by decide +kernel, rfl⟩⟩
theorem i2_collectCandidates_10 : ISi cX2_collectCandidates 10 11 3 := Or.inl ⟨3, by decide +kernel, rfl, rfl⟩
theorem i2_collectCandidates_11 : IC cX2_collectCandidates 11 12 (0) := ⟨by decide, Or.inl ⟨by decide +kernel, rfl⟩⟩
theorem i2_collectCandidates_12 : ISi cX2_collectCandidates 12 14 4 := Or.inr ⟨by decide +kernel, rfl⟩
theorem i2_collectCandidates_14 : ILi cX2_collectCandidates 14 16 4 := Or.inr ⟨by decide +kernel, rfl⟩
theorem i2_collectCandidates_16 : ILa cX2_collectCandidates 16 17 0 := Or.inl ⟨0, by decide +kernel, rfl, rfl⟩
theorem i2_collectCandidates_17 : IGF m2_collectCandidates 17 20 2 9 := ⟨92, by decide +kernel, rfl, by decide, by decide, q_197⟩
theorem i2_collectCandidates_20 : IJ cX2_collectCandidates 20 23 33 (.if_icmp .ge) := ⟨13, by decide +kernel, rfl, by decide⟩
theorem i2_collectCandidates_23 : ILi cX2_collectCandidates 23 24 3 := Or.inl ⟨3, by decide +kernel, rfl, rfl⟩
theorem i2_collectCandidates_24 : ILi cX2_collectCandidates 24 25 2 := Or.inl ⟨2, by decide +kernel, rfl, rfl⟩
theorem i2_collectCandidates_25 : IO cX2_collectCandidates 25 26 .imul := ⟨by decide +kernel, rfl⟩
theorem i2_collectCandidates_26 : ISi cX2_collectCandidates 26 27 3 := Or.inl ⟨3, by decide +kernel, rfl, rfl⟩
theorem i2_collectCandidates_27 : II cX2_collectCandidates 27 30 4 (1) := ⟨by decide +kernel, by decide, rfl⟩
theorem i2_collectCandidates_30 : IJ cX2_collectCandidates 30 33 14 .goto := ⟨-16, by decide +kernel, rfl, by decide⟩
theorem i2_collectCandidates_33 : ILa cX2_collectCandidates 33 34 0 := Or.inl ⟨0, by decide +kernel, rfl, rfl⟩
theorem i2_collectCandidates_34 : IC cX2_collectCandidates 34 35 (0) := ⟨by decide, Or.inl ⟨by decide +kernel, rfl⟩⟩
theorem i2_collectCandidates_35 : IPF m2_collectCandidates 35 38 2 13 := ⟨95, by decide +kernel, rfl, by decide, by decide, q_201, rfl⟩
theorem i2_collectCandidates_38 : IC cX2_collectCandidates 38 39 (0) := ⟨by decide, Or.inl ⟨by decide +kernel, rfl⟩⟩
theorem i2_collectCandidates_39 : ISi cX2_collectCandidates 39 41 4 := Or.inr ⟨by decide +kernel, rfl⟩
theorem i2_collectCandidates_41 : ILi cX2_collectCandidates 41 43 4 := Or.inr ⟨by decide +kernel, rfl⟩
theorem i2_collectCandidates_43 : ILi cX2_collectCandidates 43 44 3 := Or.inl ⟨3, by decide +kernel, rfl, rfl⟩
theorem i2_collectCandidates_44 : IJ cX2_collectCandidates 44 47 90 (.if_icmp .ge) := ⟨46, by decide +kernel, rfl, by decide⟩
theorem i2_collectCandidates_47 : ILa cX2_collectCandidates 47 48 0 := Or.inl ⟨0, by decide +kernel, rfl, rfl⟩
theorem i2_collectCandidates_48 : ILi cX2_collectCandidates 48 50 4 := Or.inr ⟨by decide +kernel, rfl⟩
theorem i2_collectCandidates_50 : ILi cX2_collectCandidates 50 51 2 := Or.inl ⟨2, by decide +kernel, rfl, rfl⟩
theorem i2_collectCandidates_51 : ICV m2_collectCandidates 51 54 m2_setFreeColumns := ⟨98, by decide +kernel, rfl, q_338⟩
theorem i2_collectCandidates_54 : ILa cX2_collectCandidates 54 55 0 := Or.inl ⟨0, by decide +kernel, rfl, rfl⟩
theorem i2_collectCandidates_55 : ILa cX2_collectCandidates 55 56 1 := Or.inl ⟨1, by decide +kernel, rfl, rfl⟩
theorem i2_collectCandidates_56 : ICV m2_collectCandidates 56 59 m2_solvePivots := ⟨102, by decide +kernel, rfl, q_342⟩
theorem i2_collectCandidates_59 : IJ cX2_collectCandidates 59 62 84 (.ifCond .eq) := ⟨25, by decide +kernel, rfl, by decide⟩
theorem i2_collectCandidates_62 : ILa cX2_collectCandidates 62 63 0 := Or.inl ⟨0, by decide +kernel, rfl, rfl⟩
theorem i2_collectCandidates_63 : ICV m2_collectCandidates 63 66 m2_isWithinBound := ⟨106, by decide +kernel, rfl, q_350⟩
theorem i2_collectCandidates_66 : IJ cX2_collectCandidates 66 69 84 (.ifCond .eq) := ⟨18, by decide +kernel, rfl, by decide⟩
theorem i2_collectCandidates_69 : ILa cX2_collectCandidates 69 70 0 := Or.inl ⟨0, by decide +kernel, rfl, rfl⟩
theorem i2_collectCandidates_70 : ICV m2_collectCandidates 70 73 m2_leads := ⟨110, by decide +kernel, rfl, q_357⟩
theorem i2_collectCandidates_73 : IJ cX2_collectCandidates 73 76 84 (.ifCond .eq) := ⟨11, by decide +kernel, rfl, by decide⟩
theorem i2_collectCandidates_76 : ILa cX2_collectCandidates 76 77 0 := Or.inl ⟨0, by decide +kernel, rfl, rfl⟩
theorem i2_collectCandidates_77 : ILa cX2_collectCandidates 77 78 0 := Or.inl ⟨0, by decide +kernel, rfl, rfl⟩
theorem i2_collectCandidates_78 : ICV m2_collectCandidates 78 81 m2_encode := ⟨113, by decide +kernel, rfl, q_361⟩
theorem i2_collectCandidates_81 : ICV m2_collectCandidates 81 84 m2_insertCandidate := ⟨117, by decide +kernel, rfl, q_365⟩
theorem i2_collectCandidates_84 : II cX2_collectCandidates 84 87 4 (1) := ⟨by decide +kernel, by decide, rfl⟩
theorem i2_collectCandidates_87 : IJ cX2_collectCandidates 87 90 41 .goto := ⟨-46, by decide +kernel, rfl, by decide⟩
theorem i2_collectCandidates_90 : IO cX2_collectCandidates 90 91 .return_ := ⟨by decide +kernel, rfl⟩
theorem i2_setFreeColumns_0 : IC cX2_setFreeColumns 0 1 (0) := ⟨by decide, Or.inl ⟨by decide +kernel, rfl⟩⟩
theorem i2_setFreeColumns_1 : ISi cX2_setFreeColumns 1 2 3 := Or.inl ⟨3, by decide +kernel, rfl, rfl⟩
theorem i2_setFreeColumns_2 : ILi cX2_setFreeColumns 2 3 3 := Or.inl ⟨3, by decide +kernel, rfl, rfl⟩
theorem i2_setFreeColumns_3 : IC cX2_setFreeColumns 3 4 (4) := ⟨by decide, Or.inl ⟨by decide +kernel, rfl⟩⟩
theorem i2_setFreeColumns_4 : IJ cX2_setFreeColumns 4 7 20 (.if_icmp .ge) := ⟨16, by decide +kernel, rfl, by decide⟩
theorem i2_setFreeColumns_7 : ILa cX2_setFreeColumns 7 8 0 := Or.inl ⟨0, by decide +kernel, rfl, rfl⟩
theorem i2_setFreeColumns_8 : IGF m2_setFreeColumns 8 11 2 11 := ⟨18, by decide +kernel, rfl, by decide, by decide, q_199⟩
theorem i2_setFreeColumns_11 : ILi cX2_setFreeColumns 11 12 3 := Or.inl ⟨3, by decide +kernel, rfl, rfl⟩
theorem i2_setFreeColumns_12 : IC cX2_setFreeColumns 12 13 (0) := ⟨by decide, Or.inl ⟨by decide +kernel, rfl⟩⟩
theorem i2_setFreeColumns_13 : IO cX2_setFreeColumns 13 14 .iastore := ⟨by decide +kernel, rfl⟩
theorem i2_setFreeColumns_14 : II cX2_setFreeColumns 14 17 3 (1) := ⟨by decide +kernel, by decide, rfl⟩
theorem i2_setFreeColumns_17 : IJ cX2_setFreeColumns 17 20 2 .goto := ⟨-15, by decide +kernel, rfl, by decide⟩
theorem i2_setFreeColumns_20 : ILi cX2_setFreeColumns 20 21 1 := Or.inl ⟨1, by decide +kernel, rfl, rfl⟩
theorem i2_setFreeColumns_21 : ISi cX2_setFreeColumns 21 22 3 := Or.inl ⟨3, by decide +kernel, rfl, rfl⟩
theorem i2_setFreeColumns_22 : IC cX2_setFreeColumns 22 23 (0) := ⟨by decide, Or.inl ⟨by decide +kernel, rfl⟩⟩
theorem i2_setFreeColumns_23 : ISi cX2_setFreeColumns 23 25 4 := Or.inr ⟨by decide +kernel, rfl⟩
theorem i2_setFreeColumns_25 : ILi cX2_setFreeColumns 25 27 4 := Or.inr ⟨by decide +kernel, rfl⟩
theorem i2_setFreeColumns_27 : ILa cX2_setFreeColumns 27 28 0 := Or.inl ⟨0, by decide +kernel, rfl, rfl⟩
theorem i2_setFreeColumns_28 : IGF m2_setFreeColumns 28 31 2 9 := ⟨92, by decide +kernel, rfl, by decide, by decide, q_197⟩
theorem i2_setFreeColumns_31 : IJ cX2_setFreeColumns 31 34 64 (.if_icmp .ge) := ⟨33, by decide +kernel, rfl, by decide⟩
theorem i2_setFreeColumns_34 : ILa cX2_setFreeColumns 34 35 0 := Or.inl ⟨0, by decide +kernel, rfl, rfl⟩
theorem i2_setFreeColumns_35 : IGF m2_setFreeColumns 35 38 2 11 := ⟨18, by decide +kernel, rfl, by decide, by decide, q_199⟩
theorem i2_setFreeColumns_38 : ILa cX2_setFreeColumns 38 39 0 := Or.inl ⟨0, by decide +kernel, rfl, rfl⟩
theorem i2_setFreeColumns_39 : IGF m2_setFreeColumns 39 42 2 10 := ⟨15, by decide +kernel, rfl, by decide, by decide, q_198⟩
theorem i2_setFreeColumns_42 : ILi cX2_setFreeColumns 42 44 4 := Or.inr ⟨by decide +kernel, rfl⟩
theorem i2_setFreeColumns_44 : IO cX2_setFreeColumns 44 45 .iaload := ⟨by decide +kernel, rfl⟩
theorem i2_setFreeColumns_45 : ILi cX2_setFreeColumns 45 46 3 := Or.inl ⟨3, by decide +kernel, rfl, rfl⟩
theorem i2_setFreeColumns_46 : ILi cX2_setFreeColumns 46 47 2 := Or.inl ⟨2, by decide +kernel, rfl, rfl⟩
theorem i2_setFreeColumns_47 : IO cX2_setFreeColumns 47 48 .irem := ⟨by decide +kernel, rfl⟩
theorem i2_setFreeColumns_48 : ILa cX2_setFreeColumns 48 49 0 := Or.inl ⟨0, by decide +kernel, rfl, rfl⟩
theorem i2_setFreeColumns_49 : IGF m2_setFreeColumns 49 52 2 4 := ⟨66, by decide +kernel, rfl, by decide, by decide, q_192⟩
theorem i2_setFreeColumns_52 : IO cX2_setFreeColumns 52 53 .isub := ⟨by decide +kernel, rfl⟩
theorem i2_setFreeColumns_53 : IO cX2_setFreeColumns 53 54 .iastore := ⟨by decide +kernel, rfl⟩
theorem i2_setFreeColumns_54 : ILi cX2_setFreeColumns 54 55 3 := Or.inl ⟨3, by decide +kernel, rfl, rfl⟩
theorem i2_setFreeColumns_55 : ILi cX2_setFreeColumns 55 56 2 := Or.inl ⟨2, by decide +kernel, rfl, rfl⟩
theorem i2_setFreeColumns_56 : IO cX2_setFreeColumns 56 57 .idiv := ⟨by decide +kernel, rfl⟩
theorem i2_setFreeColumns_57 : ISi cX2_setFreeColumns 57 58 3 := Or.inl ⟨3, by decide +kernel, rfl, rfl⟩
theorem i2_setFreeColumns_58 : II cX2_setFreeColumns 58 61 4 (1) := ⟨by decide +kernel, by decide, rfl⟩
theorem i2_setFreeColumns_61 : IJ cX2_setFreeColumns 61 64 25 .goto := ⟨-36, by decide +kernel, rfl, by decide⟩
theorem i2_setFreeColumns_64 : IO cX2_setFreeColumns 64 65 .return_ := ⟨by decide +kernel, rfl⟩
theorem i2_solvePivots_0 : ILa cX2_solvePivots 0 1 0 := Or.inl ⟨0, by decide +kernel, rfl, rfl⟩
theorem i2_solvePivots_1 : IGF m2_solvePivots 1 4 2 8 := ⟨75, by decide +kernel, rfl, by decide, by decide, q_196⟩
theorem i2_solvePivots_4 : IJ cX2_solvePivots 4 7 9 (.ifCond .ne) := ⟨5, by decide +kernel, rfl, by decide⟩
theorem i2_solvePivots_7 : IC cX2_solvePivots 7 8 (1) := ⟨by decide, Or.inl ⟨by decide +kernel, rfl⟩⟩
theorem i2_solvePivots_8 : IO cX2_solvePivots 8 9 .ireturn := ⟨by decide +kernel, rfl⟩
theorem i2_solvePivots_9 : ILa cX2_solvePivots 9 10 0 := Or.inl ⟨0, by decide +kernel, rfl, rfl⟩
theorem i2_solvePivots_10 : IGF m2_solvePivots 10 13 2 1 := ⟨63, by decide +kernel, rfl, by decide, by decide, q_187⟩
theorem i2_solvePivots_13 : IC cX2_solvePivots 13 14 (1) := ⟨by decide, Or.inl ⟨by decide +kernel, rfl⟩⟩
theorem i2_solvePivots_14 : IJ cX2_solvePivots 14 17 61 (.if_icmp .ne) := ⟨47, by decide +kernel, rfl, by decide⟩
theorem i2_solvePivots_17 : ILa cX2_solvePivots 17 18 1 := Or.inl ⟨1, by decide +kernel, rfl, rfl⟩
theorem i2_solvePivots_18 : ILa cX2_solvePivots 18 19 0 := Or.inl ⟨0, by decide +kernel, rfl, rfl⟩
theorem i2_solvePivots_19 : IGF m2_solvePivots 19 22 2 7 := ⟨89, by decide +kernel, rfl, by decide, by decide, q_195⟩
theorem i2_solvePivots_22 : ILa cX2_solvePivots 22 23 0 := Or.inl ⟨0, by decide +kernel, rfl, rfl⟩
theorem i2_solvePivots_23 : IGF m2_solvePivots 23 26 2 11 := ⟨18, by decide +kernel, rfl, by decide, by decide, q_199⟩
theorem i2_solvePivots_26 : ICV m2_solvePivots 26 29 m5_product := ⟨121, by decide +kernel, rfl, q_346⟩
theorem i2_solvePivots_29 : ISi cX2_solvePivots 29 30 2 := Or.inl ⟨2, by decide +kernel, rfl, rfl⟩
theorem i2_solvePivots_30 : ILa cX2_solvePivots 30 31 0 := Or.inl ⟨0, by decide +kernel, rfl, rfl⟩
theorem i2_solvePivots_31 : IGF m2_solvePivots 31 34 2 11 := ⟨18, by decide +kernel, rfl, by decide, by decide, q_199⟩
theorem i2_solvePivots_34 : ILa cX2_solvePivots 34 35 0 := Or.inl ⟨0, by decide +kernel, rfl, rfl⟩
theorem i2_solvePivots_35 : IGF m2_solvePivots 35 38 2 5 := ⟨69, by decide +kernel, rfl, by decide, by decide, q_193⟩
theorem i2_solvePivots_38 : ILi cX2_solvePivots 38 39 2 := Or.inl ⟨2, by decide +kernel, rfl, rfl⟩
theorem i2_solvePivots_39 : IO cX2_solvePivots 39 40 .ineg := ⟨by decide +kernel, rfl⟩
theorem i2_solvePivots_40 : ILa cX2_solvePivots 40 41 0 := Or.inl ⟨0, by decide +kernel, rfl, rfl⟩
theorem i2_solvePivots_41 : IGF m2_solvePivots 41 44 2 8 := ⟨75, by decide +kernel, rfl, by decide, by decide, q_196⟩
theorem i2_solvePivots_44 : IO cX2_solvePivots 44 45 .idiv := ⟨by decide +kernel, rfl⟩
theorem i2_solvePivots_45 : IO cX2_solvePivots 45 46 .iastore := ⟨by decide +kernel, rfl⟩
theorem i2_solvePivots_46 : ILi cX2_solvePivots 46 47 2 := Or.inl ⟨2, by decide +kernel, rfl, rfl⟩
theorem i2_solvePivots_47 : ILa cX2_solvePivots 47 48 0 := Or.inl ⟨0, by decide +kernel, rfl, rfl⟩
theorem i2_solvePivots_48 : IGF m2_solvePivots 48 51 2 8 := ⟨75, by decide +kernel, rfl, by decide, by decide, q_196⟩
theorem i2_solvePivots_51 : IO cX2_solvePivots 51 52 .irem := ⟨by decide +kernel, rfl⟩
theorem i2_solvePivots_52 : IJ cX2_solvePivots 52 55 59 (.ifCond .ne) := ⟨7, by decide +kernel, rfl, by decide⟩
theorem i2_solvePivots_55 : IC cX2_solvePivots 55 56 (1) := ⟨by decide, Or.inl ⟨by decide +kernel, rfl⟩⟩
theorem i2_solvePivots_56 : IJ cX2_solvePivots 56 59 60 .goto := ⟨4, by decide +kernel, rfl, by decide⟩
theorem i2_solvePivots_59 : IC cX2_solvePivots 59 60 (0) := ⟨by decide, Or.inl ⟨by decide +kernel, rfl⟩⟩
theorem i2_solvePivots_60 : IO cX2_solvePivots 60 61 .ireturn := ⟨by decide +kernel, rfl⟩
theorem i2_solvePivots_61 : ILa cX2_solvePivots 61 62 1 := Or.inl ⟨1, by decide +kernel, rfl, rfl⟩
theorem i2_solvePivots_62 : IC cX2_solvePivots 62 63 (0) := ⟨by decide, Or.inl ⟨by decide +kernel, rfl⟩⟩
theorem i2_solvePivots_63 : ILa cX2_solvePivots 63 64 0 := Or.inl ⟨0, by decide +kernel, rfl, rfl⟩
theorem i2_solvePivots_64 : IGF m2_solvePivots 64 67 2 11 := ⟨18, by decide +kernel, rfl, by decide, by decide, q_199⟩
theorem i2_solvePivots_67 : ICV m2_solvePivots 67 70 m5_product := ⟨121, by decide +kernel, rfl, q_346⟩
theorem i2_solvePivots_70 : ISi cX2_solvePivots 70 71 2 := Or.inl ⟨2, by decide +kernel, rfl, rfl⟩
theorem i2_solvePivots_71 : ILa cX2_solvePivots 71 72 1 := Or.inl ⟨1, by decide +kernel, rfl, rfl⟩
theorem i2_solvePivots_72 : IC cX2_solvePivots 72 73 (1) := ⟨by decide, Or.inl ⟨by decide +kernel, rfl⟩⟩
theorem i2_solvePivots_73 : ILa cX2_solvePivots 73 74 0 := Or.inl ⟨0, by decide +kernel, rfl, rfl⟩
theorem i2_solvePivots_74 : IGF m2_solvePivots 74 77 2 11 := ⟨18, by decide +kernel, rfl, by decide, by decide, q_199⟩
theorem i2_solvePivots_77 : ICV m2_solvePivots 77 80 m5_product := ⟨121, by decide +kernel, rfl, q_346⟩
theorem i2_solvePivots_80 : ISi cX2_solvePivots 80 81 3 := Or.inl ⟨3, by decide +kernel, rfl, rfl⟩
theorem i2_solvePivots_81 : ILa cX2_solvePivots 81 82 1 := Or.inl ⟨1, by decide +kernel, rfl, rfl⟩
theorem i2_solvePivots_82 : IC cX2_solvePivots 82 83 (0) := ⟨by decide, Or.inl ⟨by decide +kernel, rfl⟩⟩
theorem i2_solvePivots_83 : ILa cX2_solvePivots 83 84 0 := Or.inl ⟨0, by decide +kernel, rfl, rfl⟩
theorem i2_solvePivots_84 : IGF m2_solvePivots 84 87 2 6 := ⟨72, by decide +kernel, rfl, by decide, by decide, q_194⟩
theorem i2_solvePivots_87 : ICV m2_solvePivots 87 90 m5_at := ⟨78, by decide +kernel, rfl, q_313⟩
theorem i2_solvePivots_90 : ILi cX2_solvePivots 90 91 3 := Or.inl ⟨3, by decide +kernel, rfl, rfl⟩
theorem i2_solvePivots_91 : IO cX2_solvePivots 91 92 .imul := ⟨by decide +kernel, rfl⟩
theorem i2_solvePivots_92 : ILa cX2_solvePivots 92 93 1 := Or.inl ⟨1, by decide +kernel, rfl, rfl⟩
theorem i2_solvePivots_93 : IC cX2_solvePivots 93 94 (1) := ⟨by decide, Or.inl ⟨by decide +kernel, rfl⟩⟩
theorem i2_solvePivots_94 : ILa cX2_solvePivots 94 95 0 := Or.inl ⟨0, by decide +kernel, rfl, rfl⟩
theorem i2_solvePivots_95 : IGF m2_solvePivots 95 98 2 6 := ⟨72, by decide +kernel, rfl, by decide, by decide, q_194⟩
theorem i2_solvePivots_98 : ICV m2_solvePivots 98 101 m5_at := ⟨78, by decide +kernel, rfl, q_313⟩
theorem i2_solvePivots_101 : ILi cX2_solvePivots 101 102 2 := Or.inl ⟨2, by decide +kernel, rfl, rfl⟩
theorem i2_solvePivots_102 : IO cX2_solvePivots 102 103 .imul := ⟨by decide +kernel, rfl⟩
theorem i2_solvePivots_103 : IO cX2_solvePivots 103 104 .isub := ⟨by decide +kernel, rfl⟩
theorem i2_solvePivots_104 : ISi cX2_solvePivots 104 106 4 := Or.inr ⟨by decide +kernel, rfl⟩
theorem i2_solvePivots_106 : ILa cX2_solvePivots 106 107 1 := Or.inl ⟨1, by decide +kernel, rfl, rfl⟩
theorem i2_solvePivots_107 : IC cX2_solvePivots 107 108 (1) := ⟨by decide, Or.inl ⟨by decide +kernel, rfl⟩⟩
theorem i2_solvePivots_108 : ILa cX2_solvePivots 108 109 0 := Or.inl ⟨0, by decide +kernel, rfl, rfl⟩
theorem i2_solvePivots_109 : IGF m2_solvePivots 109 112 2 5 := ⟨69, by decide +kernel, rfl, by decide, by decide, q_193⟩
theorem i2_solvePivots_112 : ICV m2_solvePivots 112 115 m5_at := ⟨78, by decide +kernel, rfl, q_313⟩
theorem i2_solvePivots_115 : ILi cX2_solvePivots 115 116 2 := Or.inl ⟨2, by decide +kernel, rfl, rfl⟩
theorem i2_solvePivots_116 : IO cX2_solvePivots 116 117 .imul := ⟨by decide +kernel, rfl⟩
theorem i2_solvePivots_117 : ILa cX2_solvePivots 117 118 1 := Or.inl ⟨1, by decide +kernel, rfl, rfl⟩
theorem i2_solvePivots_118 : IC cX2_solvePivots 118 119 (0) := ⟨by decide, Or.inl ⟨by decide +kernel, rfl⟩⟩
theorem i2_solvePivots_119 : ILa cX2_solvePivots 119 120 0 := Or.inl ⟨0, by decide +kernel, rfl, rfl⟩
theorem i2_solvePivots_120 : IGF m2_solvePivots 120 123 2 5 := ⟨69, by decide +kernel, rfl, by decide, by decide, q_193⟩
theorem i2_solvePivots_123 : ICV m2_solvePivots 123 126 m5_at := ⟨78, by decide +kernel, rfl, q_313⟩
theorem i2_solvePivots_126 : ILi cX2_solvePivots 126 127 3 := Or.inl ⟨3, by decide +kernel, rfl, rfl⟩
theorem i2_solvePivots_127 : IO cX2_solvePivots 127 128 .imul := ⟨by decide +kernel, rfl⟩
theorem i2_solvePivots_128 : IO cX2_solvePivots 128 129 .isub := ⟨by decide +kernel, rfl⟩
theorem i2_solvePivots_129 : ISi cX2_solvePivots 129 131 5 := Or.inr ⟨by decide +kernel, rfl⟩
theorem i2_solvePivots_131 : ILa cX2_solvePivots 131 132 0 := Or.inl ⟨0, by decide +kernel, rfl, rfl⟩
theorem i2_solvePivots_132 : IGF m2_solvePivots 132 135 2 11 := ⟨18, by decide +kernel, rfl, by decide, by decide, q_199⟩
theorem i2_solvePivots_135 : ILa cX2_solvePivots 135 136 0 := Or.inl ⟨0, by decide +kernel, rfl, rfl⟩
theorem i2_solvePivots_136 : IGF m2_solvePivots 136 139 2 5 := ⟨69, by decide +kernel, rfl, by decide, by decide, q_193⟩
theorem i2_solvePivots_139 : ILi cX2_solvePivots 139 141 4 := Or.inr ⟨by decide +kernel, rfl⟩
theorem i2_solvePivots_141 : ILa cX2_solvePivots 141 142 0 := Or.inl ⟨0, by decide +kernel, rfl, rfl⟩
theorem i2_solvePivots_142 : IGF m2_solvePivots 142 145 2 8 := ⟨75, by decide +kernel, rfl, by decide, by decide, q_196⟩
theorem i2_solvePivots_145 : IO cX2_solvePivots 145 146 .idiv := ⟨by decide +kernel, rfl⟩
theorem i2_solvePivots_146 : IO cX2_solvePivots 146 147 .iastore := ⟨by decide +kernel, rfl⟩
theorem i2_solvePivots_147 : ILa cX2_solvePivots 147 148 0 := Or.inl ⟨0, by decide +kernel, rfl, rfl⟩
theorem i2_solvePivots_148 : IGF m2_solvePivots 148 151 2 11 := ⟨18, by decide +kernel, rfl, by decide, by decide, q_199⟩
theorem i2_solvePivots_151 : ILa cX2_solvePivots 151 152 0 := Or.inl ⟨0, by decide +kernel, rfl, rfl⟩
theorem i2_solvePivots_152 : IGF m2_solvePivots 152 155 2 6 := ⟨72, by decide +kernel, rfl, by decide, by decide, q_194⟩
theorem i2_solvePivots_155 : ILi cX2_solvePivots 155 157 5 := Or.inr ⟨by decide +kernel, rfl⟩
theorem i2_solvePivots_157 : ILa cX2_solvePivots 157 158 0 := Or.inl ⟨0, by decide +kernel, rfl, rfl⟩
theorem i2_solvePivots_158 : IGF m2_solvePivots 158 161 2 8 := ⟨75, by decide +kernel, rfl, by decide, by decide, q_196⟩
theorem i2_solvePivots_161 : IO cX2_solvePivots 161 162 .idiv := ⟨by decide +kernel, rfl⟩
theorem i2_solvePivots_162 : IO cX2_solvePivots 162 163 .iastore := ⟨by decide +kernel, rfl⟩
theorem i2_solvePivots_163 : ILi cX2_solvePivots 163 165 4 := Or.inr ⟨by decide +kernel, rfl⟩
theorem i2_solvePivots_165 : ILa cX2_solvePivots 165 166 0 := Or.inl ⟨0, by decide +kernel, rfl, rfl⟩
theorem i2_solvePivots_166 : IGF m2_solvePivots 166 169 2 8 := ⟨75, by decide +kernel, rfl, by decide, by decide, q_196⟩
theorem i2_solvePivots_169 : IO cX2_solvePivots 169 170 .irem := ⟨by decide +kernel, rfl⟩
theorem i2_solvePivots_170 : IJ cX2_solvePivots 170 173 187 (.ifCond .ne) := ⟨17, by decide +kernel, rfl, by decide⟩
theorem i2_solvePivots_173 : ILi cX2_solvePivots 173 175 5 := Or.inr ⟨by decide +kernel, rfl⟩
theorem i2_solvePivots_175 : ILa cX2_solvePivots 175 176 0 := Or.inl ⟨0, by decide +kernel, rfl, rfl⟩
theorem i2_solvePivots_176 : IGF m2_solvePivots 176 179 2 8 := ⟨75, by decide +kernel, rfl, by decide, by decide, q_196⟩
theorem i2_solvePivots_179 : IO cX2_solvePivots 179 180 .irem := ⟨by decide +kernel, rfl⟩
theorem i2_solvePivots_180 : IJ cX2_solvePivots 180 183 187 (.ifCond .ne) := ⟨7, by decide +kernel, rfl, by decide⟩
theorem i2_solvePivots_183 : IC cX2_solvePivots 183 184 (1) := ⟨by decide, Or.inl ⟨by decide +kernel, rfl⟩⟩
theorem i2_solvePivots_184 : IJ cX2_solvePivots 184 187 188 .goto := ⟨4, by decide +kernel, rfl, by decide⟩
theorem i2_solvePivots_187 : IC cX2_solvePivots 187 188 (0) := ⟨by decide, Or.inl ⟨by decide +kernel, rfl⟩⟩
theorem i2_solvePivots_188 : IO cX2_solvePivots 188 189 .ireturn := ⟨by decide +kernel, rfl⟩
theorem i2_isWithinBound_0 : IC cX2_isWithinBound 0 1 (0) := ⟨by decide, Or.inl ⟨by decide +kernel, rfl⟩⟩
theorem i2_isWithinBound_1 : ISi cX2_isWithinBound 1 2 1 := Or.inl ⟨1, by decide +kernel, rfl, rfl⟩
theorem i2_isWithinBound_2 : ILi cX2_isWithinBound 2 3 1 := Or.inl ⟨1, by decide +kernel, rfl, rfl⟩
theorem i2_isWithinBound_3 : ILa cX2_isWithinBound 3 4 0 := Or.inl ⟨0, by decide +kernel, rfl, rfl⟩
theorem i2_isWithinBound_4 : IGF m2_isWithinBound 4 7 2 3 := ⟨30, by decide +kernel, rfl, by decide, by decide, q_190⟩
theorem i2_isWithinBound_7 : IJ cX2_isWithinBound 7 10 34 (.if_icmp .ge) := ⟨27, by decide +kernel, rfl, by decide⟩
theorem i2_isWithinBound_10 : ILa cX2_isWithinBound 10 11 0 := Or.inl ⟨0, by decide +kernel, rfl, rfl⟩
theorem i2_isWithinBound_11 : IGF m2_isWithinBound 11 14 2 11 := ⟨18, by decide +kernel, rfl, by decide, by decide, q_199⟩
theorem i2_isWithinBound_14 : ILi cX2_isWithinBound 14 15 1 := Or.inl ⟨1, by decide +kernel, rfl, rfl⟩
theorem i2_isWithinBound_15 : IO cX2_isWithinBound 15 16 .iaload := ⟨by decide +kernel, rfl⟩
theorem i2_isWithinBound_16 : ICS m2_isWithinBound 16 19 yJ9_abs_0f7a4 := ⟨48, by decide +kernel, rfl, q_354⟩
theorem i2_isWithinBound_19 : ILa cX2_isWithinBound 19 20 0 := Or.inl ⟨0, by decide +kernel, rfl, rfl⟩
theorem i2_isWithinBound_20 : IGF m2_isWithinBound 20 23 2 4 := ⟨66, by decide +kernel, rfl, by decide, by decide, q_192⟩
theorem i2_isWithinBound_23 : IJ cX2_isWithinBound 23 26 28 (.if_icmp .le) := ⟨5, by decide +kernel, rfl, by decide⟩
theorem i2_isWithinBound_26 : IC cX2_isWithinBound 26 27 (0) := ⟨by decide, Or.inl ⟨by decide +kernel, rfl⟩⟩
theorem i2_isWithinBound_27 : IO cX2_isWithinBound 27 28 .ireturn := ⟨by decide +kernel, rfl⟩
theorem i2_isWithinBound_28 : II cX2_isWithinBound 28 31 1 (1) := ⟨by decide +kernel, by decide, rfl⟩
theorem i2_isWithinBound_31 : IJ cX2_isWithinBound 31 34 2 .goto := ⟨-29, by decide +kernel, rfl, by decide⟩
theorem i2_isWithinBound_34 : IC cX2_isWithinBound 34 35 (1) := ⟨by decide, Or.inl ⟨by decide +kernel, rfl⟩⟩
theorem i2_isWithinBound_35 : IO cX2_isWithinBound 35 36 .ireturn := ⟨by decide +kernel, rfl⟩
theorem i2_leads_0 : IC cX2_leads 0 1 (0) := ⟨by decide, Or.inl ⟨by decide +kernel, rfl⟩⟩
theorem i2_leads_1 : ISi cX2_leads 1 2 1 := Or.inl ⟨1, by decide +kernel, rfl, rfl⟩
theorem i2_leads_2 : ILi cX2_leads 2 3 1 := Or.inl ⟨1, by decide +kernel, rfl, rfl⟩
theorem i2_leads_3 : ILa cX2_leads 3 4 0 := Or.inl ⟨0, by decide +kernel, rfl, rfl⟩
theorem i2_leads_4 : IGF m2_leads 4 7 2 3 := ⟨30, by decide +kernel, rfl, by decide, by decide, q_190⟩
theorem i2_leads_7 : IJ cX2_leads 7 10 40 (.if_icmp .ge) := ⟨33, by decide +kernel, rfl, by decide⟩
theorem i2_leads_10 : ILa cX2_leads 10 11 0 := Or.inl ⟨0, by decide +kernel, rfl, rfl⟩
theorem i2_leads_11 : IGF m2_leads 11 14 2 11 := ⟨18, by decide +kernel, rfl, by decide, by decide, q_199⟩
theorem i2_leads_14 : ILi cX2_leads 14 15 1 := Or.inl ⟨1, by decide +kernel, rfl, rfl⟩
theorem i2_leads_15 : IO cX2_leads 15 16 .iaload := ⟨by decide +kernel, rfl⟩
theorem i2_leads_16 : IJ cX2_leads 16 19 34 (.ifCond .eq) := ⟨18, by decide +kernel, rfl, by decide⟩
theorem i2_leads_19 : ILa cX2_leads 19 20 0 := Or.inl ⟨0, by decide +kernel, rfl, rfl⟩
theorem i2_leads_20 : IGF m2_leads 20 23 2 11 := ⟨18, by decide +kernel, rfl, by decide, by decide, q_199⟩
theorem i2_leads_23 : ILi cX2_leads 23 24 1 := Or.inl ⟨1, by decide +kernel, rfl, rfl⟩
theorem i2_leads_24 : IO cX2_leads 24 25 .iaload := ⟨by decide +kernel, rfl⟩
theorem i2_leads_25 : IJ cX2_leads 25 28 32 (.ifCond .le) := ⟨7, by decide +kernel, rfl, by decide⟩
theorem i2_leads_28 : IC cX2_leads 28 29 (1) := ⟨by decide, Or.inl ⟨by decide +kernel, rfl⟩⟩
theorem i2_leads_29 : IJ cX2_leads 29 32 33 .goto := ⟨4, by decide +kernel, rfl, by decide⟩
theorem i2_leads_32 : IC cX2_leads 32 33 (0) := ⟨by decide, Or.inl ⟨by decide +kernel, rfl⟩⟩
theorem i2_leads_33 : IO cX2_leads 33 34 .ireturn := ⟨by decide +kernel, rfl⟩
theorem i2_leads_34 : II cX2_leads 34 37 1 (1) := ⟨by decide +kernel, by decide, rfl⟩
theorem i2_leads_37 : IJ cX2_leads 37 40 2 .goto := ⟨-35, by decide +kernel, rfl, by decide⟩
theorem i2_leads_40 : IC cX2_leads 40 41 (0) := ⟨by decide, Or.inl ⟨by decide +kernel, rfl⟩⟩
theorem i2_leads_41 : IO cX2_leads 41 42 .ireturn := ⟨by decide +kernel, rfl⟩
theorem i2_encode_0 : IC cX2_encode 0 1 (0) := ⟨by decide, Or.inl ⟨by decide +kernel, rfl⟩⟩
theorem i2_encode_1 : ISi cX2_encode 1 2 1 := Or.inl ⟨1, by decide +kernel, rfl, rfl⟩
theorem i2_encode_2 : IC cX2_encode 2 3 (0) := ⟨by decide, Or.inl ⟨by decide +kernel, rfl⟩⟩
theorem i2_encode_3 : ISi cX2_encode 3 4 2 := Or.inl ⟨2, by decide +kernel, rfl, rfl⟩
theorem i2_encode_4 : IC cX2_encode 4 5 (0) := ⟨by decide, Or.inl ⟨by decide +kernel, rfl⟩⟩
theorem i2_encode_5 : ISi cX2_encode 5 6 3 := Or.inl ⟨3, by decide +kernel, rfl, rfl⟩
theorem i2_encode_6 : ILi cX2_encode 6 7 3 := Or.inl ⟨3, by decide +kernel, rfl, rfl⟩
theorem i2_encode_7 : IC cX2_encode 7 8 (4) := ⟨by decide, Or.inl ⟨by decide +kernel, rfl⟩⟩
theorem i2_encode_8 : IJ cX2_encode 8 11 43 (.if_icmp .ge) := ⟨35, by decide +kernel, rfl, by decide⟩
theorem i2_encode_11 : ILi cX2_encode 11 12 1 := Or.inl ⟨1, by decide +kernel, rfl, rfl⟩
theorem i2_encode_12 : ILa cX2_encode 12 13 0 := Or.inl ⟨0, by decide +kernel, rfl, rfl⟩
theorem i2_encode_13 : IGF m2_encode 13 16 2 11 := ⟨18, by decide +kernel, rfl, by decide, by decide, q_199⟩
theorem i2_encode_16 : ILi cX2_encode 16 17 3 := Or.inl ⟨3, by decide +kernel, rfl, rfl⟩
theorem i2_encode_17 : IO cX2_encode 17 18 .iaload := ⟨by decide +kernel, rfl⟩
theorem i2_encode_18 : ICS m2_encode 18 21 yJ9_abs_0f7a4 := ⟨48, by decide +kernel, rfl, q_354⟩
theorem i2_encode_21 : IO cX2_encode 21 22 .iadd := ⟨by decide +kernel, rfl⟩
theorem i2_encode_22 : ISi cX2_encode 22 23 1 := Or.inl ⟨1, by decide +kernel, rfl, rfl⟩
theorem i2_encode_23 : ILi cX2_encode 23 24 2 := Or.inl ⟨2, by decide +kernel, rfl, rfl⟩
theorem i2_encode_24 : IC cX2_encode 24 25 (5) := ⟨by decide, Or.inl ⟨by decide +kernel, rfl⟩⟩
theorem i2_encode_25 : IO cX2_encode 25 26 .ishl := ⟨by decide +kernel, rfl⟩
theorem i2_encode_26 : IC cX2_encode 26 28 (9) := ⟨by decide, Or.inr (Or.inl ⟨by decide +kernel, by decide +kernel, rfl⟩)⟩
theorem i2_encode_28 : ILa cX2_encode 28 29 0 := Or.inl ⟨0, by decide +kernel, rfl, rfl⟩
theorem i2_encode_29 : IGF m2_encode 29 32 2 11 := ⟨18, by decide +kernel, rfl, by decide, by decide, q_199⟩
theorem i2_encode_32 : ILi cX2_encode 32 33 3 := Or.inl ⟨3, by decide +kernel, rfl, rfl⟩
theorem i2_encode_33 : IO cX2_encode 33 34 .iaload := ⟨by decide +kernel, rfl⟩
theorem i2_encode_34 : IO cX2_encode 34 35 .isub := ⟨by decide +kernel, rfl⟩
theorem i2_encode_35 : IO cX2_encode 35 36 .ior := ⟨by decide +kernel, rfl⟩
theorem i2_encode_36 : ISi cX2_encode 36 37 2 := Or.inl ⟨2, by decide +kernel, rfl, rfl⟩
theorem i2_encode_37 : II cX2_encode 37 40 3 (1) := ⟨by decide +kernel, by decide, rfl⟩
theorem i2_encode_40 : IJ cX2_encode 40 43 6 .goto := ⟨-34, by decide +kernel, rfl, by decide⟩
theorem i2_encode_43 : ILi cX2_encode 43 44 1 := Or.inl ⟨1, by decide +kernel, rfl, rfl⟩
theorem i2_encode_44 : IC cX2_encode 44 46 (20) := ⟨by decide, Or.inr (Or.inl ⟨by decide +kernel, by decide +kernel, rfl⟩)⟩
theorem i2_encode_46 : IO cX2_encode 46 47 .ishl := ⟨by decide +kernel, rfl⟩
theorem i2_encode_47 : ILi cX2_encode 47 48 2 := Or.inl ⟨2, by decide +kernel, rfl, rfl⟩
theorem i2_encode_48 : IO cX2_encode 48 49 .ior := ⟨by decide +kernel, rfl⟩
theorem i2_encode_49 : IO cX2_encode 49 50 .ireturn := ⟨by decide +kernel, rfl⟩
theorem i2_decode_0 : IC cX2_decode 0 1 (0) := ⟨by decide, Or.inl ⟨by decide +kernel, rfl⟩⟩
theorem i2_decode_1 : ISi cX2_decode 1 2 2 := Or.inl ⟨2, by decide +kernel, rfl, rfl⟩
theorem i2_decode_2 : ILi cX2_decode 2 3 2 := Or.inl ⟨2, by decide +kernel, rfl, rfl⟩
theorem i2_decode_3 : IC cX2_decode 3 4 (4) := ⟨by decide, Or.inl ⟨by decide +kernel, rfl⟩⟩
theorem i2_decode_4 : IJ cX2_decode 4 7 32 (.if_icmp .ge) := ⟨28, by decide +kernel, rfl, by decide⟩
theorem i2_decode_7 : ILa cX2_decode 7 8 0 := Or.inl ⟨0, by decide +kernel, rfl, rfl⟩
theorem i2_decode_8 : IGF m2_decode 8 11 2 11 := ⟨18, by decide +kernel, rfl, by decide, by decide, q_199⟩
theorem i2_decode_11 : ILi cX2_decode 11 12 2 := Or.inl ⟨2, by decide +kernel, rfl, rfl⟩
theorem i2_decode_12 : IC cX2_decode 12 14 (9) := ⟨by decide, Or.inr (Or.inl ⟨by decide +kernel, by decide +kernel, rfl⟩)⟩
theorem i2_decode_14 : ILi cX2_decode 14 15 1 := Or.inl ⟨1, by decide +kernel, rfl, rfl⟩
theorem i2_decode_15 : IC cX2_decode 15 16 (5) := ⟨by decide, Or.inl ⟨by decide +kernel, rfl⟩⟩
theorem i2_decode_16 : IC cX2_decode 16 17 (3) := ⟨by decide, Or.inl ⟨by decide +kernel, rfl⟩⟩
theorem i2_decode_17 : ILi cX2_decode 17 18 2 := Or.inl ⟨2, by decide +kernel, rfl, rfl⟩
theorem i2_decode_18 : IO cX2_decode 18 19 .isub := ⟨by decide +kernel, rfl⟩
theorem i2_decode_19 : IO cX2_decode 19 20 .imul := ⟨by decide +kernel, rfl⟩
theorem i2_decode_20 : IO cX2_decode 20 21 .ishr := ⟨by decide +kernel, rfl⟩
theorem i2_decode_21 : IC cX2_decode 21 23 (31) := ⟨by decide, Or.inr (Or.inl ⟨by decide +kernel, by decide +kernel, rfl⟩)⟩
theorem i2_decode_23 : IO cX2_decode 23 24 .iand := ⟨by decide +kernel, rfl⟩
theorem i2_decode_24 : IO cX2_decode 24 25 .isub := ⟨by decide +kernel, rfl⟩
theorem i2_decode_25 : IO cX2_decode 25 26 .iastore := ⟨by decide +kernel, rfl⟩
theorem i2_decode_26 : II cX2_decode 26 29 2 (1) := ⟨by decide +kernel, by decide, rfl⟩
theorem i2_decode_29 : IJ cX2_decode 29 32 2 .goto := ⟨-27, by decide +kernel, rfl, by decide⟩
theorem i2_decode_32 : IO cX2_decode 32 33 .return_ := ⟨by decide +kernel, rfl⟩
theorem i2_insertCandidate_0 : ILa cX2_insertCandidate 0 1 0 := Or.inl ⟨0, by decide +kernel, rfl, rfl⟩
theorem i2_insertCandidate_1 : IGF m2_insertCandidate 1 4 2 13 := ⟨95, by decide +kernel, rfl, by decide, by decide, q_201⟩
theorem i2_insertCandidate_4 : IC cX2_insertCandidate 4 7 (192) := ⟨by decide, Or.inr (Or.inr ⟨by decide +kernel, by decide +kernel, rfl⟩)⟩
theorem i2_insertCandidate_7 : IJ cX2_insertCandidate 7 10 11 (.if_icmp .lt) := ⟨4, by decide +kernel, rfl, by decide⟩
theorem i2_insertCandidate_10 : IO cX2_insertCandidate 10 11 .return_ := ⟨by decide +kernel, rfl⟩
theorem i2_insertCandidate_11 : ILa cX2_insertCandidate 11 12 0 := Or.inl ⟨0, by decide +kernel, rfl, rfl⟩
theorem i2_insertCandidate_12 : IGF m2_insertCandidate 12 15 2 13 := ⟨95, by decide +kernel, rfl, by decide, by decide, q_201⟩
theorem i2_insertCandidate_15 : ISi cX2_insertCandidate 15 16 2 := Or.inl ⟨2, by decide +kernel, rfl, rfl⟩
theorem i2_insertCandidate_16 : ILi cX2_insertCandidate 16 17 2 := Or.inl ⟨2, by decide +kernel, rfl, rfl⟩
theorem i2_insertCandidate_17 : IJ cX2_insertCandidate 17 20 52 (.ifCond .le) := ⟨35, by decide +kernel, rfl, by decide⟩
theorem i2_insertCandidate_20 : ILa cX2_insertCandidate 20 21 0 := Or.inl ⟨0, by decide +kernel, rfl, rfl⟩
theorem i2_insertCandidate_21 : IGF m2_insertCandidate 21 24 2 12 := ⟨21, by decide +kernel, rfl, by decide, by decide, q_200⟩
theorem i2_insertCandidate_24 : ILi cX2_insertCandidate 24 25 2 := Or.inl ⟨2, by decide +kernel, rfl, rfl⟩
theorem i2_insertCandidate_25 : IC cX2_insertCandidate 25 26 (1) := ⟨by decide, Or.inl ⟨by decide +kernel, rfl⟩⟩
theorem i2_insertCandidate_26 : IO cX2_insertCandidate 26 27 .isub := ⟨by decide +kernel, rfl⟩
theorem i2_insertCandidate_27 : IO cX2_insertCandidate 27 28 .iaload := ⟨by decide +kernel, rfl⟩
theorem i2_insertCandidate_28 : ILi cX2_insertCandidate 28 29 1 := Or.inl ⟨1, by decide +kernel, rfl, rfl⟩
theorem i2_insertCandidate_29 : IJ cX2_insertCandidate 29 32 52 (.if_icmp .le) := ⟨23, by decide +kernel, rfl, by decide⟩
theorem i2_insertCandidate_32 : ILa cX2_insertCandidate 32 33 0 := Or.inl ⟨0, by decide +kernel, rfl, rfl⟩
theorem i2_insertCandidate_33 : IGF m2_insertCandidate 33 36 2 12 := ⟨21, by decide +kernel, rfl, by decide, by decide, q_200⟩
theorem i2_insertCandidate_36 : ILi cX2_insertCandidate 36 37 2 := Or.inl ⟨2, by decide +kernel, rfl, rfl⟩
theorem i2_insertCandidate_37 : ILa cX2_insertCandidate 37 38 0 := Or.inl ⟨0, by decide +kernel, rfl, rfl⟩
theorem i2_insertCandidate_38 : IGF m2_insertCandidate 38 41 2 12 := ⟨21, by decide +kernel, rfl, by decide, by decide, q_200⟩
theorem i2_insertCandidate_41 : ILi cX2_insertCandidate 41 42 2 := Or.inl ⟨2, by decide +kernel, rfl, rfl⟩
theorem i2_insertCandidate_42 : IC cX2_insertCandidate 42 43 (1) := ⟨by decide, Or.inl ⟨by decide +kernel, rfl⟩⟩
theorem i2_insertCandidate_43 : IO cX2_insertCandidate 43 44 .isub := ⟨by decide +kernel, rfl⟩
theorem i2_insertCandidate_44 : IO cX2_insertCandidate 44 45 .iaload := ⟨by decide +kernel, rfl⟩
theorem i2_insertCandidate_45 : IO cX2_insertCandidate 45 46 .iastore := ⟨by decide +kernel, rfl⟩
theorem i2_insertCandidate_46 : II cX2_insertCandidate 46 49 2 (-1) := ⟨by decide +kernel, by decide, rfl⟩
theorem i2_insertCandidate_49 : IJ cX2_insertCandidate 49 52 16 .goto := ⟨-33, by decide +kernel, rfl, by decide⟩
theorem i2_insertCandidate_52 : ILa cX2_insertCandidate 52 53 0 := Or.inl ⟨0, by decide +kernel, rfl, rfl⟩
theorem i2_insertCandidate_53 : IGF m2_insertCandidate 53 56 2 12 := ⟨21, by decide +kernel, rfl, by decide, by decide, q_200⟩
theorem i2_insertCandidate_56 : ILi cX2_insertCandidate 56 57 2 := Or.inl ⟨2, by decide +kernel, rfl, rfl⟩
theorem i2_insertCandidate_57 : ILi cX2_insertCandidate 57 58 1 := Or.inl ⟨1, by decide +kernel, rfl, rfl⟩
theorem i2_insertCandidate_58 : IO cX2_insertCandidate 58 59 .iastore := ⟨by decide +kernel, rfl⟩
theorem i2_insertCandidate_59 : ILa cX2_insertCandidate 59 60 0 := Or.inl ⟨0, by decide +kernel, rfl, rfl⟩
theorem i2_insertCandidate_60 : IO cX2_insertCandidate 60 61 .dup := ⟨by decide +kernel, rfl⟩
theorem i2_insertCandidate_61 : IGF m2_insertCandidate 61 64 2 13 := ⟨95, by decide +kernel, rfl, by decide, by decide, q_201⟩
theorem i2_insertCandidate_64 : IC cX2_insertCandidate 64 65 (1) := ⟨by decide, Or.inl ⟨by decide +kernel, rfl⟩⟩
theorem i2_insertCandidate_65 : IO cX2_insertCandidate 65 66 .iadd := ⟨by decide +kernel, rfl⟩
theorem i2_insertCandidate_66 : IPF m2_insertCandidate 66 69 2 13 := ⟨95, by decide +kernel, rfl, by decide, by decide, q_201, rfl⟩
theorem i2_insertCandidate_69 : IO cX2_insertCandidate 69 70 .return_ := ⟨by decide +kernel, rfl⟩
theorem i2_keepLeastCandidates_0 : ILa cX2_keepLeastCandidates 0 1 0 := Or.inl ⟨0, by decide +kernel, rfl, rfl⟩
theorem i2_keepLeastCandidates_1 : IC cX2_keepLeastCandidates 1 2 (0) := ⟨by decide, Or.inl ⟨by decide +kernel, rfl⟩⟩
theorem i2_keepLeastCandidates_2 : IPF m2_keepLeastCandidates 2 5 2 0 := ⟨57, by decide +kernel, rfl, by decide, by decide, q_184, rfl⟩
theorem i2_keepLeastCandidates_5 : IC cX2_keepLeastCandidates 5 6 (0) := ⟨by decide, Or.inl ⟨by decide +kernel, rfl⟩⟩
theorem i2_keepLeastCandidates_6 : ISi cX2_keepLeastCandidates 6 7 1 := Or.inl ⟨1, by decide +kernel, rfl, rfl⟩
theorem i2_keepLeastCandidates_7 : ILi cX2_keepLeastCandidates 7 8 1 := Or.inl ⟨1, by decide +kernel, rfl, rfl⟩
theorem i2_keepLeastCandidates_8 : ILa cX2_keepLeastCandidates 8 9 0 := Or.inl ⟨0, by decide +kernel, rfl, rfl⟩
theorem i2_keepLeastCandidates_9 : IGF m2_keepLeastCandidates 9 12 2 13 := ⟨95, by decide +kernel, rfl, by decide, by decide, q_201⟩
theorem i2_keepLeastCandidates_12 : IJ cX2_keepLeastCandidates 12 15 76 (.if_icmp .ge) := ⟨64, by decide +kernel, rfl, by decide⟩
theorem i2_keepLeastCandidates_15 : ILa cX2_keepLeastCandidates 15 16 0 := Or.inl ⟨0, by decide +kernel, rfl, rfl⟩
theorem i2_keepLeastCandidates_16 : ILa cX2_keepLeastCandidates 16 17 0 := Or.inl ⟨0, by decide +kernel, rfl, rfl⟩
theorem i2_keepLeastCandidates_17 : IGF m2_keepLeastCandidates 17 20 2 12 := ⟨21, by decide +kernel, rfl, by decide, by decide, q_200⟩
theorem i2_keepLeastCandidates_20 : ILi cX2_keepLeastCandidates 20 21 1 := Or.inl ⟨1, by decide +kernel, rfl, rfl⟩
theorem i2_keepLeastCandidates_21 : IO cX2_keepLeastCandidates 21 22 .iaload := ⟨by decide +kernel, rfl⟩
theorem i2_keepLeastCandidates_22 : ICV m2_keepLeastCandidates 22 25 m2_decode := ⟨125, by decide +kernel, rfl, q_373⟩
theorem i2_keepLeastCandidates_25 : ILa cX2_keepLeastCandidates 25 26 0 := Or.inl ⟨0, by decide +kernel, rfl, rfl⟩
theorem i2_keepLeastCandidates_26 : IGF m2_keepLeastCandidates 26 29 2 0 := ⟨57, by decide +kernel, rfl, by decide, by decide, q_184⟩
theorem i2_keepLeastCandidates_29 : IC cX2_keepLeastCandidates 29 31 (16) := ⟨by decide, Or.inr (Or.inl ⟨by decide +kernel, by decide +kernel, rfl⟩)⟩
theorem i2_keepLeastCandidates_31 : IJ cX2_keepLeastCandidates 31 34 70 (.if_icmp .ge) := ⟨39, by decide +kernel, rfl, by decide⟩
theorem i2_keepLeastCandidates_34 : ILa cX2_keepLeastCandidates 34 35 0 := Or.inl ⟨0, by decide +kernel, rfl, rfl⟩
theorem i2_keepLeastCandidates_35 : ICV m2_keepLeastCandidates 35 38 m2_isAboveAnElement := ⟨128, by decide +kernel, rfl, q_377⟩
theorem i2_keepLeastCandidates_38 : IJ cX2_keepLeastCandidates 38 41 70 (.ifCond .ne) := ⟨32, by decide +kernel, rfl, by decide⟩
theorem i2_keepLeastCandidates_41 : ILa cX2_keepLeastCandidates 41 42 0 := Or.inl ⟨0, by decide +kernel, rfl, rfl⟩
theorem i2_keepLeastCandidates_42 : IGF m2_keepLeastCandidates 42 45 2 11 := ⟨18, by decide +kernel, rfl, by decide, by decide, q_199⟩
theorem i2_keepLeastCandidates_45 : IC cX2_keepLeastCandidates 45 46 (0) := ⟨by decide, Or.inl ⟨by decide +kernel, rfl⟩⟩
theorem i2_keepLeastCandidates_46 : ILa cX2_keepLeastCandidates 46 47 0 := Or.inl ⟨0, by decide +kernel, rfl, rfl⟩
theorem i2_keepLeastCandidates_47 : IGF m2_keepLeastCandidates 47 50 2 2 := ⟨11, by decide +kernel, rfl, by decide, by decide, q_189⟩
theorem i2_keepLeastCandidates_50 : ILa cX2_keepLeastCandidates 50 51 0 := Or.inl ⟨0, by decide +kernel, rfl, rfl⟩
theorem i2_keepLeastCandidates_51 : IGF m2_keepLeastCandidates 51 54 2 0 := ⟨57, by decide +kernel, rfl, by decide, by decide, q_184⟩
theorem i2_keepLeastCandidates_54 : IC cX2_keepLeastCandidates 54 55 (4) := ⟨by decide, Or.inl ⟨by decide +kernel, rfl⟩⟩
theorem i2_keepLeastCandidates_55 : IO cX2_keepLeastCandidates 55 56 .imul := ⟨by decide +kernel, rfl⟩
theorem i2_keepLeastCandidates_56 : IC cX2_keepLeastCandidates 56 57 (4) := ⟨by decide, Or.inl ⟨by decide +kernel, rfl⟩⟩
theorem i2_keepLeastCandidates_57 : ICS m2_keepLeastCandidates 57 60 arraycopyName := ⟨131, by decide +kernel, rfl, q_389⟩
theorem i2_keepLeastCandidates_60 : ILa cX2_keepLeastCandidates 60 61 0 := Or.inl ⟨0, by decide +kernel, rfl, rfl⟩
theorem i2_keepLeastCandidates_61 : IO cX2_keepLeastCandidates 61 62 .dup := ⟨by decide +kernel, rfl⟩
theorem i2_keepLeastCandidates_62 : IGF m2_keepLeastCandidates 62 65 2 0 := ⟨57, by decide +kernel, rfl, by decide, by decide, q_184⟩
theorem i2_keepLeastCandidates_65 : IC cX2_keepLeastCandidates 65 66 (1) := ⟨by decide, Or.inl ⟨by decide +kernel, rfl⟩⟩
theorem i2_keepLeastCandidates_66 : IO cX2_keepLeastCandidates 66 67 .iadd := ⟨by decide +kernel, rfl⟩
theorem i2_keepLeastCandidates_67 : IPF m2_keepLeastCandidates 67 70 2 0 := ⟨57, by decide +kernel, rfl, by decide, by decide, q_184, rfl⟩
theorem i2_keepLeastCandidates_70 : II cX2_keepLeastCandidates 70 73 1 (1) := ⟨by decide +kernel, by decide, rfl⟩
theorem i2_keepLeastCandidates_73 : IJ cX2_keepLeastCandidates 73 76 7 .goto := ⟨-66, by decide +kernel, rfl, by decide⟩
theorem i2_keepLeastCandidates_76 : IO cX2_keepLeastCandidates 76 77 .return_ := ⟨by decide +kernel, rfl⟩
theorem i2_isAboveAnElement_0 : IC cX2_isAboveAnElement 0 1 (0) := ⟨by decide, Or.inl ⟨by decide +kernel, rfl⟩⟩
theorem i2_isAboveAnElement_1 : ISi cX2_isAboveAnElement 1 2 1 := Or.inl ⟨1, by decide +kernel, rfl, rfl⟩
theorem i2_isAboveAnElement_2 : ILi cX2_isAboveAnElement 2 3 1 := Or.inl ⟨1, by decide +kernel, rfl, rfl⟩
theorem i2_isAboveAnElement_3 : ILa cX2_isAboveAnElement 3 4 0 := Or.inl ⟨0, by decide +kernel, rfl, rfl⟩
theorem i2_isAboveAnElement_4 : IGF m2_isAboveAnElement 4 7 2 0 := ⟨57, by decide +kernel, rfl, by decide, by decide, q_184⟩
theorem i2_isAboveAnElement_7 : IJ cX2_isAboveAnElement 7 10 44 (.if_icmp .ge) := ⟨37, by decide +kernel, rfl, by decide⟩
theorem i2_isAboveAnElement_10 : ILa cX2_isAboveAnElement 10 11 0 := Or.inl ⟨0, by decide +kernel, rfl, rfl⟩
theorem i2_isAboveAnElement_11 : ILi cX2_isAboveAnElement 11 12 1 := Or.inl ⟨1, by decide +kernel, rfl, rfl⟩
theorem i2_isAboveAnElement_12 : IC cX2_isAboveAnElement 12 13 (1) := ⟨by decide, Or.inl ⟨by decide +kernel, rfl⟩⟩
theorem i2_isAboveAnElement_13 : ILa cX2_isAboveAnElement 13 14 0 := Or.inl ⟨0, by decide +kernel, rfl, rfl⟩
theorem i2_isAboveAnElement_14 : IGF m2_isAboveAnElement 14 17 2 11 := ⟨18, by decide +kernel, rfl, by decide, by decide, q_199⟩
theorem i2_isAboveAnElement_17 : ICV m2_isAboveAnElement 17 20 m2_conforms := ⟨137, by decide +kernel, rfl, q_381⟩
theorem i2_isAboveAnElement_20 : IJ cX2_isAboveAnElement 20 23 36 (.ifCond .ne) := ⟨16, by decide +kernel, rfl, by decide⟩
theorem i2_isAboveAnElement_23 : ILa cX2_isAboveAnElement 23 24 0 := Or.inl ⟨0, by decide +kernel, rfl, rfl⟩
theorem i2_isAboveAnElement_24 : ILi cX2_isAboveAnElement 24 25 1 := Or.inl ⟨1, by decide +kernel, rfl, rfl⟩
theorem i2_isAboveAnElement_25 : IC cX2_isAboveAnElement 25 26 (-1) := ⟨by decide, Or.inl ⟨by decide +kernel, rfl⟩⟩
theorem i2_isAboveAnElement_26 : ILa cX2_isAboveAnElement 26 27 0 := Or.inl ⟨0, by decide +kernel, rfl, rfl⟩
theorem i2_isAboveAnElement_27 : IGF m2_isAboveAnElement 27 30 2 11 := ⟨18, by decide +kernel, rfl, by decide, by decide, q_199⟩
theorem i2_isAboveAnElement_30 : ICV m2_isAboveAnElement 30 33 m2_conforms := ⟨137, by decide +kernel, rfl, q_381⟩
theorem i2_isAboveAnElement_33 : IJ cX2_isAboveAnElement 33 36 38 (.ifCond .eq) := ⟨5, by decide +kernel, rfl, by decide⟩
theorem i2_isAboveAnElement_36 : IC cX2_isAboveAnElement 36 37 (1) := ⟨by decide, Or.inl ⟨by decide +kernel, rfl⟩⟩
theorem i2_isAboveAnElement_37 : IO cX2_isAboveAnElement 37 38 .ireturn := ⟨by decide +kernel, rfl⟩
theorem i2_isAboveAnElement_38 : II cX2_isAboveAnElement 38 41 1 (1) := ⟨by decide +kernel, by decide, rfl⟩
theorem i2_isAboveAnElement_41 : IJ cX2_isAboveAnElement 41 44 2 .goto := ⟨-39, by decide +kernel, rfl, by decide⟩
theorem i2_isAboveAnElement_44 : IC cX2_isAboveAnElement 44 45 (0) := ⟨by decide, Or.inl ⟨by decide +kernel, rfl⟩⟩
theorem i2_isAboveAnElement_45 : IO cX2_isAboveAnElement 45 46 .ireturn := ⟨by decide +kernel, rfl⟩
theorem i3_init_0 : ILa cX3_init 0 1 0 := Or.inl ⟨0, by decide +kernel, rfl, rfl⟩
theorem i3_init_1 : ICI m3_init 1 4 objectInit := ⟨3, by decide +kernel, rfl, q_133⟩
theorem i3_init_4 : ILa cX3_init 4 5 0 := Or.inl ⟨0, by decide +kernel, rfl, rfl⟩
theorem i3_init_5 : IC cX3_init 5 7 (8) := ⟨by decide, Or.inr (Or.inl ⟨by decide +kernel, by decide +kernel, rfl⟩)⟩
theorem i3_init_7 : INQ m3_init 7 10 := ⟨9, by decide +kernel, rfl, q_134⟩
theorem i3_init_10 : IPZ m3_init 10 13 3 2 := ⟨11, by decide +kernel, rfl, by decide, by decide, q_140, rfl, rfl, rfl⟩
theorem i3_init_13 : IC cX3_init 13 14 (0) := ⟨by decide, Or.inl ⟨by decide +kernel, rfl⟩⟩
theorem i3_init_14 : ISi cX3_init 14 15 1 := Or.inl ⟨1, by decide +kernel, rfl, rfl⟩
theorem i3_init_15 : ILi cX3_init 15 16 1 := Or.inl ⟨1, by decide +kernel, rfl, rfl⟩
theorem i3_init_16 : IC cX3_init 16 18 (8) := ⟨by decide, Or.inr (Or.inl ⟨by decide +kernel, by decide +kernel, rfl⟩)⟩
theorem i3_init_18 : IJ cX3_init 18 21 40 (.if_icmp .ge) := ⟨22, by decide +kernel, rfl, by decide⟩
theorem i3_init_21 : ILa cX3_init 21 22 0 := Or.inl ⟨0, by decide +kernel, rfl, rfl⟩
theorem i3_init_22 : IGF m3_init 22 25 3 2 := ⟨11, by decide +kernel, rfl, by decide, by decide, q_140⟩
theorem i3_init_25 : ILi cX3_init 25 26 1 := Or.inl ⟨1, by decide +kernel, rfl, rfl⟩
theorem i3_init_26 : INW m3_init 26 29 5 := ⟨9, by decide +kernel, rfl, by decide, q_134, q_97, q_77⟩
theorem i3_init_29 : IO cX3_init 29 30 .dup := ⟨by decide +kernel, rfl⟩
theorem i3_init_30 : ICN m3_init 30 33 17 := ⟨by decide +kernel, rfl⟩
theorem i3_init_33 : IO cX3_init 33 34 .aastore := ⟨by decide +kernel, rfl⟩
theorem i3_init_34 : II cX3_init 34 37 1 (1) := ⟨by decide +kernel, by decide, rfl⟩
theorem i3_init_37 : IJ cX3_init 37 40 15 .goto := ⟨-22, by decide +kernel, rfl, by decide⟩
theorem i3_init_40 : IO cX3_init 40 41 .return_ := ⟨by decide +kernel, rfl⟩
theorem i3_save_0 : ILa cX3_save 0 1 0 := Or.inl ⟨0, by decide +kernel, rfl, rfl⟩
theorem i3_save_1 : IGF m3_save 1 4 3 0 := ⟨18, by decide +kernel, rfl, by decide, by decide, q_137⟩
theorem i3_save_4 : IC cX3_save 4 6 (8) := ⟨by decide, Or.inr (Or.inl ⟨by decide +kernel, by decide +kernel, rfl⟩)⟩
theorem i3_save_6 : IJ cX3_save 6 9 32 (.if_icmp .ne) := ⟨26, by decide +kernel, rfl, by decide⟩
theorem i3_save_9 : ILa cX3_save 9 10 0 := Or.inl ⟨0, by decide +kernel, rfl, rfl⟩
theorem i3_save_10 : ILa cX3_save 10 11 0 := Or.inl ⟨0, by decide +kernel, rfl, rfl⟩
theorem i3_save_11 : IGF m3_save 11 14 3 1 := ⟨22, by decide +kernel, rfl, by decide, by decide, q_139⟩
theorem i3_save_14 : IC cX3_save 14 15 (1) := ⟨by decide, Or.inl ⟨by decide +kernel, rfl⟩⟩
theorem i3_save_15 : IO cX3_save 15 16 .iadd := ⟨by decide +kernel, rfl⟩
theorem i3_save_16 : IC cX3_save 16 18 (8) := ⟨by decide, Or.inr (Or.inl ⟨by decide +kernel, by decide +kernel, rfl⟩)⟩
theorem i3_save_18 : IO cX3_save 18 19 .irem := ⟨by decide +kernel, rfl⟩
theorem i3_save_19 : IPF m3_save 19 22 3 1 := ⟨22, by decide +kernel, rfl, by decide, by decide, q_139, rfl⟩
theorem i3_save_22 : ILa cX3_save 22 23 0 := Or.inl ⟨0, by decide +kernel, rfl, rfl⟩
theorem i3_save_23 : IO cX3_save 23 24 .dup := ⟨by decide +kernel, rfl⟩
theorem i3_save_24 : IGF m3_save 24 27 3 0 := ⟨18, by decide +kernel, rfl, by decide, by decide, q_137⟩
theorem i3_save_27 : IC cX3_save 27 28 (1) := ⟨by decide, Or.inl ⟨by decide +kernel, rfl⟩⟩
theorem i3_save_28 : IO cX3_save 28 29 .isub := ⟨by decide +kernel, rfl⟩
theorem i3_save_29 : IPF m3_save 29 32 3 0 := ⟨18, by decide +kernel, rfl, by decide, by decide, q_137, rfl⟩
theorem i3_save_32 : ILa cX3_save 32 33 0 := Or.inl ⟨0, by decide +kernel, rfl, rfl⟩
theorem i3_save_33 : IGF m3_save 33 36 3 2 := ⟨11, by decide +kernel, rfl, by decide, by decide, q_140⟩
theorem i3_save_36 : ILa cX3_save 36 37 0 := Or.inl ⟨0, by decide +kernel, rfl, rfl⟩
theorem i3_save_37 : IGF m3_save 37 40 3 1 := ⟨22, by decide +kernel, rfl, by decide, by decide, q_139⟩
theorem i3_save_40 : ILa cX3_save 40 41 0 := Or.inl ⟨0, by decide +kernel, rfl, rfl⟩
theorem i3_save_41 : IGF m3_save 41 44 3 0 := ⟨18, by decide +kernel, rfl, by decide, by decide, q_137⟩
theorem i3_save_44 : IO cX3_save 44 45 .iadd := ⟨by decide +kernel, rfl⟩
theorem i3_save_45 : IC cX3_save 45 47 (8) := ⟨by decide, Or.inr (Or.inl ⟨by decide +kernel, by decide +kernel, rfl⟩)⟩
theorem i3_save_47 : IO cX3_save 47 48 .irem := ⟨by decide +kernel, rfl⟩
theorem i3_save_48 : IO cX3_save 48 49 .aaload := ⟨by decide +kernel, rfl⟩
theorem i3_save_49 : ILa cX3_save 49 50 1 := Or.inl ⟨1, by decide +kernel, rfl, rfl⟩
theorem i3_save_50 : ICV m3_save 50 53 m5_copyFrom := ⟨25, by decide +kernel, rfl, q_439⟩
theorem i3_save_53 : ILa cX3_save 53 54 0 := Or.inl ⟨0, by decide +kernel, rfl, rfl⟩
theorem i3_save_54 : IO cX3_save 54 55 .dup := ⟨by decide +kernel, rfl⟩
theorem i3_save_55 : IGF m3_save 55 58 3 0 := ⟨18, by decide +kernel, rfl, by decide, by decide, q_137⟩
theorem i3_save_58 : IC cX3_save 58 59 (1) := ⟨by decide, Or.inl ⟨by decide +kernel, rfl⟩⟩
theorem i3_save_59 : IO cX3_save 59 60 .iadd := ⟨by decide +kernel, rfl⟩
theorem i3_save_60 : IPF m3_save 60 63 3 0 := ⟨18, by decide +kernel, rfl, by decide, by decide, q_137, rfl⟩
theorem i3_save_63 : IO cX3_save 63 64 .return_ := ⟨by decide +kernel, rfl⟩
theorem i3_restore_0 : ILa cX3_restore 0 1 0 := Or.inl ⟨0, by decide +kernel, rfl, rfl⟩
theorem i3_restore_1 : IGF m3_restore 1 4 3 0 := ⟨18, by decide +kernel, rfl, by decide, by decide, q_137⟩
theorem i3_restore_4 : IJ cX3_restore 4 7 38 (.ifCond .le) := ⟨34, by decide +kernel, rfl, by decide⟩
theorem i3_restore_7 : ILa cX3_restore 7 8 0 := Or.inl ⟨0, by decide +kernel, rfl, rfl⟩
theorem i3_restore_8 : IO cX3_restore 8 9 .dup := ⟨by decide +kernel, rfl⟩
theorem i3_restore_9 : IGF m3_restore 9 12 3 0 := ⟨18, by decide +kernel, rfl, by decide, by decide, q_137⟩
theorem i3_restore_12 : IC cX3_restore 12 13 (1) := ⟨by decide, Or.inl ⟨by decide +kernel, rfl⟩⟩
theorem i3_restore_13 : IO cX3_restore 13 14 .isub := ⟨by decide +kernel, rfl⟩
theorem i3_restore_14 : IPF m3_restore 14 17 3 0 := ⟨18, by decide +kernel, rfl, by decide, by decide, q_137, rfl⟩
theorem i3_restore_17 : ILa cX3_restore 17 18 1 := Or.inl ⟨1, by decide +kernel, rfl, rfl⟩
theorem i3_restore_18 : ILa cX3_restore 18 19 0 := Or.inl ⟨0, by decide +kernel, rfl, rfl⟩
theorem i3_restore_19 : IGF m3_restore 19 22 3 2 := ⟨11, by decide +kernel, rfl, by decide, by decide, q_140⟩
theorem i3_restore_22 : ILa cX3_restore 22 23 0 := Or.inl ⟨0, by decide +kernel, rfl, rfl⟩
theorem i3_restore_23 : IGF m3_restore 23 26 3 1 := ⟨22, by decide +kernel, rfl, by decide, by decide, q_139⟩
theorem i3_restore_26 : ILa cX3_restore 26 27 0 := Or.inl ⟨0, by decide +kernel, rfl, rfl⟩
theorem i3_restore_27 : IGF m3_restore 27 30 3 0 := ⟨18, by decide +kernel, rfl, by decide, by decide, q_137⟩
theorem i3_restore_30 : IO cX3_restore 30 31 .iadd := ⟨by decide +kernel, rfl⟩
theorem i3_restore_31 : IC cX3_restore 31 33 (8) := ⟨by decide, Or.inr (Or.inl ⟨by decide +kernel, by decide +kernel, rfl⟩)⟩
theorem i3_restore_33 : IO cX3_restore 33 34 .irem := ⟨by decide +kernel, rfl⟩
theorem i3_restore_34 : IO cX3_restore 34 35 .aaload := ⟨by decide +kernel, rfl⟩
theorem i3_restore_35 : ICV m3_restore 35 38 m5_copyFrom := ⟨25, by decide +kernel, rfl, q_439⟩
theorem i3_restore_38 : IO cX3_restore 38 39 .return_ := ⟨by decide +kernel, rfl⟩
theorem i4_init_0 : ILa cX4_init 0 1 0 := Or.inl ⟨0, by decide +kernel, rfl, rfl⟩
theorem i4_init_1 : ICI m4_init 1 4 objectInit := ⟨3, by decide +kernel, rfl, q_153⟩
theorem i4_init_4 : ILa cX4_init 4 5 0 := Or.inl ⟨0, by decide +kernel, rfl, rfl⟩
theorem i4_init_5 : IC cX4_init 5 7 (8) := ⟨by decide, Or.inr (Or.inl ⟨by decide +kernel, by decide +kernel, rfl⟩)⟩
theorem i4_init_7 : INA cX4_init 7 9 := ⟨by decide +kernel, rfl⟩
theorem i4_init_9 : IPZ m4_init 9 12 4 3 := ⟨9, by decide +kernel, rfl, by decide, by decide, q_160, rfl, rfl, rfl⟩
theorem i4_init_12 : ILa cX4_init 12 13 0 := Or.inl ⟨0, by decide +kernel, rfl, rfl⟩
theorem i4_init_13 : IC cX4_init 13 15 (40) := ⟨by decide, Or.inr (Or.inl ⟨by decide +kernel, by decide +kernel, rfl⟩)⟩
theorem i4_init_15 : INA cX4_init 15 17 := ⟨by decide +kernel, rfl⟩
theorem i4_init_17 : IPZ m4_init 17 20 4 4 := ⟨15, by decide +kernel, rfl, by decide, by decide, q_162, rfl, rfl, rfl⟩
theorem i4_init_20 : IO cX4_init 20 21 .return_ := ⟨by decide +kernel, rfl⟩
theorem i4_add_0 : ILa cX4_add 0 1 0 := Or.inl ⟨0, by decide +kernel, rfl, rfl⟩
theorem i4_add_1 : IGF m4_add 1 4 4 0 := ⟨18, by decide +kernel, rfl, by decide, by decide, q_154⟩
theorem i4_add_4 : IC cX4_add 4 6 (40) := ⟨by decide, Or.inr (Or.inl ⟨by decide +kernel, by decide +kernel, rfl⟩)⟩
theorem i4_add_6 : IJ cX4_add 6 9 29 (.if_icmp .ge) := ⟨23, by decide +kernel, rfl, by decide⟩
theorem i4_add_9 : ILa cX4_add 9 10 0 := Or.inl ⟨0, by decide +kernel, rfl, rfl⟩
theorem i4_add_10 : IGF m4_add 10 13 4 4 := ⟨15, by decide +kernel, rfl, by decide, by decide, q_162⟩
theorem i4_add_13 : ILa cX4_add 13 14 0 := Or.inl ⟨0, by decide +kernel, rfl, rfl⟩
theorem i4_add_14 : IGF m4_add 14 17 4 0 := ⟨18, by decide +kernel, rfl, by decide, by decide, q_154⟩
theorem i4_add_17 : ILi cX4_add 17 18 1 := Or.inl ⟨1, by decide +kernel, rfl, rfl⟩
theorem i4_add_18 : IO cX4_add 18 19 .iastore := ⟨by decide +kernel, rfl⟩
theorem i4_add_19 : ILa cX4_add 19 20 0 := Or.inl ⟨0, by decide +kernel, rfl, rfl⟩
theorem i4_add_20 : IO cX4_add 20 21 .dup := ⟨by decide +kernel, rfl⟩
theorem i4_add_21 : IGF m4_add 21 24 4 0 := ⟨18, by decide +kernel, rfl, by decide, by decide, q_154⟩
theorem i4_add_24 : IC cX4_add 24 25 (1) := ⟨by decide, Or.inl ⟨by decide +kernel, rfl⟩⟩
theorem i4_add_25 : IO cX4_add 25 26 .iadd := ⟨by decide +kernel, rfl⟩
theorem i4_add_26 : IPF m4_add 26 29 4 0 := ⟨18, by decide +kernel, rfl, by decide, by decide, q_154, rfl⟩
theorem i4_add_29 : IO cX4_add 29 30 .return_ := ⟨by decide +kernel, rfl⟩
theorem i4_findError_0 : ILa cX4_findError 0 1 0 := Or.inl ⟨0, by decide +kernel, rfl, rfl⟩
theorem i4_findError_1 : IC cX4_findError 1 2 (1) := ⟨by decide, Or.inl ⟨by decide +kernel, rfl⟩⟩
theorem i4_findError_2 : IPF m4_findError 2 5 4 1 := ⟨22, by decide +kernel, rfl, by decide, by decide, q_156, rfl⟩
theorem i4_findError_5 : ILa cX4_findError 5 6 0 := Or.inl ⟨0, by decide +kernel, rfl, rfl⟩
theorem i4_findError_6 : IC cX4_findError 6 7 (0) := ⟨by decide, Or.inl ⟨by decide +kernel, rfl⟩⟩
theorem i4_findError_7 : IPF m4_findError 7 10 4 5 := ⟨25, by decide +kernel, rfl, by decide, by decide, q_163, rfl⟩
theorem i4_findError_10 : IC cX4_findError 10 11 (0) := ⟨by decide, Or.inl ⟨by decide +kernel, rfl⟩⟩
theorem i4_findError_11 : ISi cX4_findError 11 12 1 := Or.inl ⟨1, by decide +kernel, rfl, rfl⟩
theorem i4_findError_12 : ILi cX4_findError 12 13 1 := Or.inl ⟨1, by decide +kernel, rfl, rfl⟩
theorem i4_findError_13 : ILa cX4_findError 13 14 0 := Or.inl ⟨0, by decide +kernel, rfl, rfl⟩
theorem i4_findError_14 : IGF m4_findError 14 17 4 0 := ⟨18, by decide +kernel, rfl, by decide, by decide, q_154⟩
theorem i4_findError_17 : IJ cX4_findError 17 20 41 (.if_icmp .ge) := ⟨24, by decide +kernel, rfl, by decide⟩
theorem i4_findError_20 : ILa cX4_findError 20 21 0 := Or.inl ⟨0, by decide +kernel, rfl, rfl⟩
theorem i4_findError_21 : ILa cX4_findError 21 22 0 := Or.inl ⟨0, by decide +kernel, rfl, rfl⟩
theorem i4_findError_22 : IGF m4_findError 22 25 4 4 := ⟨15, by decide +kernel, rfl, by decide, by decide, q_162⟩
theorem i4_findError_25 : ILi cX4_findError 25 26 1 := Or.inl ⟨1, by decide +kernel, rfl, rfl⟩
theorem i4_findError_26 : IO cX4_findError 26 27 .iaload := ⟨by decide +kernel, rfl⟩
theorem i4_findError_27 : ICV m4_findError 27 30 m4_takes := ⟨28, by decide +kernel, rfl, q_478⟩
theorem i4_findError_30 : IJ cX4_findError 30 33 35 (.ifCond .ne) := ⟨5, by decide +kernel, rfl, by decide⟩
theorem i4_findError_33 : ILi cX4_findError 33 34 1 := Or.inl ⟨1, by decide +kernel, rfl, rfl⟩
theorem i4_findError_34 : IO cX4_findError 34 35 .ireturn := ⟨by decide +kernel, rfl⟩
theorem i4_findError_35 : II cX4_findError 35 38 1 (1) := ⟨by decide +kernel, by decide, rfl⟩
theorem i4_findError_38 : IJ cX4_findError 38 41 12 .goto := ⟨-26, by decide +kernel, rfl, by decide⟩
theorem i4_findError_41 : ILa cX4_findError 41 42 0 := Or.inl ⟨0, by decide +kernel, rfl, rfl⟩
theorem i4_findError_42 : IGF m4_findError 42 45 4 5 := ⟨25, by decide +kernel, rfl, by decide, by decide, q_163⟩
theorem i4_findError_45 : ILa cX4_findError 45 46 0 := Or.inl ⟨0, by decide +kernel, rfl, rfl⟩
theorem i4_findError_46 : ICV m4_findError 46 49 m4_digitsNeeded := ⟨32, by decide +kernel, rfl, q_490⟩
theorem i4_findError_49 : IJ cX4_findError 49 52 57 (.if_icmp .ge) := ⟨8, by decide +kernel, rfl, by decide⟩
theorem i4_findError_52 : ILa cX4_findError 52 53 0 := Or.inl ⟨0, by decide +kernel, rfl, rfl⟩
theorem i4_findError_53 : IGF m4_findError 53 56 4 0 := ⟨18, by decide +kernel, rfl, by decide, by decide, q_154⟩
theorem i4_findError_56 : IO cX4_findError 56 57 .ireturn := ⟨by decide +kernel, rfl⟩
theorem i4_findError_57 : ILa cX4_findError 57 58 0 := Or.inl ⟨0, by decide +kernel, rfl, rfl⟩
theorem i4_findError_58 : IGF m4_findError 58 61 4 1 := ⟨22, by decide +kernel, rfl, by decide, by decide, q_156⟩
theorem i4_findError_61 : IC cX4_findError 61 62 (1) := ⟨by decide, Or.inl ⟨by decide +kernel, rfl⟩⟩
theorem i4_findError_62 : IJ cX4_findError 62 65 73 (.if_icmp .ne) := ⟨11, by decide +kernel, rfl, by decide⟩
theorem i4_findError_65 : ILa cX4_findError 65 66 0 := Or.inl ⟨0, by decide +kernel, rfl, rfl⟩
theorem i4_findError_66 : ILa cX4_findError 66 67 0 := Or.inl ⟨0, by decide +kernel, rfl, rfl⟩
theorem i4_findError_67 : IGF m4_findError 67 70 4 5 := ⟨25, by decide +kernel, rfl, by decide, by decide, q_163⟩
theorem i4_findError_70 : IPF m4_findError 70 73 4 2 := ⟨36, by decide +kernel, rfl, by decide, by decide, q_158, rfl⟩
theorem i4_findError_73 : IC cX4_findError 73 74 (-1) := ⟨by decide, Or.inl ⟨by decide +kernel, rfl⟩⟩
theorem i4_findError_74 : IO cX4_findError 74 75 .ireturn := ⟨by decide +kernel, rfl⟩
theorem i4_digitsNeeded_0 : ILa cX4_digitsNeeded 0 1 0 := Or.inl ⟨0, by decide +kernel, rfl, rfl⟩
theorem i4_digitsNeeded_1 : IGF m4_digitsNeeded 1 4 4 1 := ⟨22, by decide +kernel, rfl, by decide, by decide, q_156⟩
theorem i4_digitsNeeded_4 : IC cX4_digitsNeeded 4 5 (1) := ⟨by decide, Or.inl ⟨by decide +kernel, rfl⟩⟩
theorem i4_digitsNeeded_5 : IJ cX4_digitsNeeded 5 8 12 (.if_icmp .ne) := ⟨7, by decide +kernel, rfl, by decide⟩
theorem i4_digitsNeeded_8 : IC cX4_digitsNeeded 8 9 (2) := ⟨by decide, Or.inl ⟨by decide +kernel, rfl⟩⟩
theorem i4_digitsNeeded_9 : IJ cX4_digitsNeeded 9 12 16 .goto := ⟨7, by decide +kernel, rfl, by decide⟩
theorem i4_digitsNeeded_12 : ILa cX4_digitsNeeded 12 13 0 := Or.inl ⟨0, by decide +kernel, rfl, rfl⟩
theorem i4_digitsNeeded_13 : IGF m4_digitsNeeded 13 16 4 2 := ⟨36, by decide +kernel, rfl, by decide, by decide, q_158⟩
theorem i4_digitsNeeded_16 : IO cX4_digitsNeeded 16 17 .ireturn := ⟨by decide +kernel, rfl⟩
theorem i4_takes_0 : ILi cX4_takes 0 1 1 := Or.inl ⟨1, by decide +kernel, rfl, rfl⟩
theorem i4_takes_1 : IC cX4_takes 1 3 (32) := ⟨by decide, Or.inr (Or.inl ⟨by decide +kernel, by decide +kernel, rfl⟩)⟩
theorem i4_takes_3 : IJ cX4_takes 3 6 8 (.if_icmp .ne) := ⟨5, by decide +kernel, rfl, by decide⟩
theorem i4_takes_6 : IC cX4_takes 6 7 (1) := ⟨by decide, Or.inl ⟨by decide +kernel, rfl⟩⟩
theorem i4_takes_7 : IO cX4_takes 7 8 .ireturn := ⟨by decide +kernel, rfl⟩
theorem i4_takes_8 : ILi cX4_takes 8 9 1 := Or.inl ⟨1, by decide +kernel, rfl, rfl⟩
theorem i4_takes_9 : IC cX4_takes 9 11 (59) := ⟨by decide, Or.inr (Or.inl ⟨by decide +kernel, by decide +kernel, rfl⟩)⟩
theorem i4_takes_11 : IJ cX4_takes 11 14 21 (.if_icmp .ne) := ⟨10, by decide +kernel, rfl, by decide⟩
theorem i4_takes_14 : ILa cX4_takes 14 15 0 := Or.inl ⟨0, by decide +kernel, rfl, rfl⟩
theorem i4_takes_15 : ICV m4_takes 15 18 m4_takesRowEnd := ⟨39, by decide +kernel, rfl, q_482⟩
theorem i4_takes_18 : IJ cX4_takes 18 21 29 .goto := ⟨11, by decide +kernel, rfl, by decide⟩
theorem i4_takes_21 : ILa cX4_takes 21 22 0 := Or.inl ⟨0, by decide +kernel, rfl, rfl⟩
theorem i4_takes_22 : ILi cX4_takes 22 23 1 := Or.inl ⟨1, by decide +kernel, rfl, rfl⟩
theorem i4_takes_23 : IC cX4_takes 23 25 (48) := ⟨by decide, Or.inr (Or.inl ⟨by decide +kernel, by decide +kernel, rfl⟩)⟩
theorem i4_takes_25 : IO cX4_takes 25 26 .isub := ⟨by decide +kernel, rfl⟩
theorem i4_takes_26 : ICV m4_takes 26 29 m4_takesDigit := ⟨43, by decide +kernel, rfl, q_486⟩
theorem i4_takes_29 : IO cX4_takes 29 30 .ireturn := ⟨by decide +kernel, rfl⟩
theorem i4_takesRowEnd_0 : ILa cX4_takesRowEnd 0 1 0 := Or.inl ⟨0, by decide +kernel, rfl, rfl⟩
theorem i4_takesRowEnd_1 : IGF m4_takesRowEnd 1 4 4 1 := ⟨22, by decide +kernel, rfl, by decide, by decide, q_156⟩
theorem i4_takesRowEnd_4 : IC cX4_takesRowEnd 4 5 (2) := ⟨by decide, Or.inl ⟨by decide +kernel, rfl⟩⟩
theorem i4_takesRowEnd_5 : IJ cX4_takesRowEnd 5 8 16 (.if_icmp .eq) := ⟨11, by decide +kernel, rfl, by decide⟩
theorem i4_takesRowEnd_8 : ILa cX4_takesRowEnd 8 9 0 := Or.inl ⟨0, by decide +kernel, rfl, rfl⟩
theorem i4_takesRowEnd_9 : IGF m4_takesRowEnd 9 12 4 5 := ⟨25, by decide +kernel, rfl, by decide, by decide, q_163⟩
theorem i4_takesRowEnd_12 : IC cX4_takesRowEnd 12 13 (2) := ⟨by decide, Or.inl ⟨by decide +kernel, rfl⟩⟩
theorem i4_takesRowEnd_13 : IJ cX4_takesRowEnd 13 16 18 (.if_icmp .ge) := ⟨5, by decide +kernel, rfl, by decide⟩
theorem i4_takesRowEnd_16 : IC cX4_takesRowEnd 16 17 (0) := ⟨by decide, Or.inl ⟨by decide +kernel, rfl⟩⟩
theorem i4_takesRowEnd_17 : IO cX4_takesRowEnd 17 18 .ireturn := ⟨by decide +kernel, rfl⟩
theorem i4_takesRowEnd_18 : ILa cX4_takesRowEnd 18 19 0 := Or.inl ⟨0, by decide +kernel, rfl, rfl⟩
theorem i4_takesRowEnd_19 : ILa cX4_takesRowEnd 19 20 0 := Or.inl ⟨0, by decide +kernel, rfl, rfl⟩
theorem i4_takesRowEnd_20 : IGF m4_takesRowEnd 20 23 4 5 := ⟨25, by decide +kernel, rfl, by decide, by decide, q_163⟩
theorem i4_takesRowEnd_23 : IPF m4_takesRowEnd 23 26 4 2 := ⟨36, by decide +kernel, rfl, by decide, by decide, q_158, rfl⟩
theorem i4_takesRowEnd_26 : ILa cX4_takesRowEnd 26 27 0 := Or.inl ⟨0, by decide +kernel, rfl, rfl⟩
theorem i4_takesRowEnd_27 : IC cX4_takesRowEnd 27 28 (0) := ⟨by decide, Or.inl ⟨by decide +kernel, rfl⟩⟩
theorem i4_takesRowEnd_28 : IPF m4_takesRowEnd 28 31 4 5 := ⟨25, by decide +kernel, rfl, by decide, by decide, q_163, rfl⟩
theorem i4_takesRowEnd_31 : ILa cX4_takesRowEnd 31 32 0 := Or.inl ⟨0, by decide +kernel, rfl, rfl⟩
theorem i4_takesRowEnd_32 : IC cX4_takesRowEnd 32 33 (2) := ⟨by decide, Or.inl ⟨by decide +kernel, rfl⟩⟩
theorem i4_takesRowEnd_33 : IPF m4_takesRowEnd 33 36 4 1 := ⟨22, by decide +kernel, rfl, by decide, by decide, q_156, rfl⟩
theorem i4_takesRowEnd_36 : IC cX4_takesRowEnd 36 37 (1) := ⟨by decide, Or.inl ⟨by decide +kernel, rfl⟩⟩
theorem i4_takesRowEnd_37 : IO cX4_takesRowEnd 37 38 .ireturn := ⟨by decide +kernel, rfl⟩
theorem i4_takesDigit_0 : ILa cX4_takesDigit 0 1 0 := Or.inl ⟨0, by decide +kernel, rfl, rfl⟩
theorem i4_takesDigit_1 : IGF m4_takesDigit 1 4 4 1 := ⟨22, by decide +kernel, rfl, by decide, by decide, q_156⟩
theorem i4_takesDigit_4 : IC cX4_takesDigit 4 5 (1) := ⟨by decide, Or.inl ⟨by decide +kernel, rfl⟩⟩
theorem i4_takesDigit_5 : IJ cX4_takesDigit 5 8 12 (.if_icmp .ne) := ⟨7, by decide +kernel, rfl, by decide⟩
theorem i4_takesDigit_8 : IC cX4_takesDigit 8 9 (4) := ⟨by decide, Or.inl ⟨by decide +kernel, rfl⟩⟩
theorem i4_takesDigit_9 : IJ cX4_takesDigit 9 12 16 .goto := ⟨7, by decide +kernel, rfl, by decide⟩
theorem i4_takesDigit_12 : ILa cX4_takesDigit 12 13 0 := Or.inl ⟨0, by decide +kernel, rfl, rfl⟩
theorem i4_takesDigit_13 : IGF m4_takesDigit 13 16 4 2 := ⟨36, by decide +kernel, rfl, by decide, by decide, q_158⟩
theorem i4_takesDigit_16 : ISi cX4_takesDigit 16 17 2 := Or.inl ⟨2, by decide +kernel, rfl, rfl⟩
theorem i4_takesDigit_17 : ILi cX4_takesDigit 17 18 1 := Or.inl ⟨1, by decide +kernel, rfl, rfl⟩
theorem i4_takesDigit_18 : IJ cX4_takesDigit 18 21 34 (.ifCond .lt) := ⟨16, by decide +kernel, rfl, by decide⟩
theorem i4_takesDigit_21 : ILi cX4_takesDigit 21 22 1 := Or.inl ⟨1, by decide +kernel, rfl, rfl⟩
theorem i4_takesDigit_22 : IC cX4_takesDigit 22 23 (3) := ⟨by decide, Or.inl ⟨by decide +kernel, rfl⟩⟩
theorem i4_takesDigit_23 : IJ cX4_takesDigit 23 26 34 (.if_icmp .gt) := ⟨11, by decide +kernel, rfl, by decide⟩
theorem i4_takesDigit_26 : ILa cX4_takesDigit 26 27 0 := Or.inl ⟨0, by decide +kernel, rfl, rfl⟩
theorem i4_takesDigit_27 : IGF m4_takesDigit 27 30 4 5 := ⟨25, by decide +kernel, rfl, by decide, by decide, q_163⟩
theorem i4_takesDigit_30 : ILi cX4_takesDigit 30 31 2 := Or.inl ⟨2, by decide +kernel, rfl, rfl⟩
theorem i4_takesDigit_31 : IJ cX4_takesDigit 31 34 36 (.if_icmp .lt) := ⟨5, by decide +kernel, rfl, by decide⟩
theorem i4_takesDigit_34 : IC cX4_takesDigit 34 35 (0) := ⟨by decide, Or.inl ⟨by decide +kernel, rfl⟩⟩
theorem i4_takesDigit_35 : IO cX4_takesDigit 35 36 .ireturn := ⟨by decide +kernel, rfl⟩
theorem i4_takesDigit_36 : ILa cX4_takesDigit 36 37 0 := Or.inl ⟨0, by decide +kernel, rfl, rfl⟩
theorem i4_takesDigit_37 : IGF m4_takesDigit 37 40 4 3 := ⟨9, by decide +kernel, rfl, by decide, by decide, q_160⟩
theorem i4_takesDigit_40 : ILa cX4_takesDigit 40 41 0 := Or.inl ⟨0, by decide +kernel, rfl, rfl⟩
theorem i4_takesDigit_41 : IGF m4_takesDigit 41 44 4 1 := ⟨22, by decide +kernel, rfl, by decide, by decide, q_156⟩
theorem i4_takesDigit_44 : IC cX4_takesDigit 44 45 (1) := ⟨by decide, Or.inl ⟨by decide +kernel, rfl⟩⟩
theorem i4_takesDigit_45 : IO cX4_takesDigit 45 46 .isub := ⟨by decide +kernel, rfl⟩
theorem i4_takesDigit_46 : IC cX4_takesDigit 46 47 (4) := ⟨by decide, Or.inl ⟨by decide +kernel, rfl⟩⟩
theorem i4_takesDigit_47 : IO cX4_takesDigit 47 48 .imul := ⟨by decide +kernel, rfl⟩
theorem i4_takesDigit_48 : ILa cX4_takesDigit 48 49 0 := Or.inl ⟨0, by decide +kernel, rfl, rfl⟩
theorem i4_takesDigit_49 : IGF m4_takesDigit 49 52 4 5 := ⟨25, by decide +kernel, rfl, by decide, by decide, q_163⟩
theorem i4_takesDigit_52 : IO cX4_takesDigit 52 53 .iadd := ⟨by decide +kernel, rfl⟩
theorem i4_takesDigit_53 : ILi cX4_takesDigit 53 54 1 := Or.inl ⟨1, by decide +kernel, rfl, rfl⟩
theorem i4_takesDigit_54 : IO cX4_takesDigit 54 55 .iastore := ⟨by decide +kernel, rfl⟩
theorem i4_takesDigit_55 : ILa cX4_takesDigit 55 56 0 := Or.inl ⟨0, by decide +kernel, rfl, rfl⟩
theorem i4_takesDigit_56 : IO cX4_takesDigit 56 57 .dup := ⟨by decide +kernel, rfl⟩
theorem i4_takesDigit_57 : IGF m4_takesDigit 57 60 4 5 := ⟨25, by decide +kernel, rfl, by decide, by decide, q_163⟩
theorem i4_takesDigit_60 : IC cX4_takesDigit 60 61 (1) := ⟨by decide, Or.inl ⟨by decide +kernel, rfl⟩⟩
theorem i4_takesDigit_61 : IO cX4_takesDigit 61 62 .iadd := ⟨by decide +kernel, rfl⟩
theorem i4_takesDigit_62 : IPF m4_takesDigit 62 65 4 5 := ⟨25, by decide +kernel, rfl, by decide, by decide, q_163, rfl⟩
theorem i4_takesDigit_65 : IC cX4_takesDigit 65 66 (1) := ⟨by decide, Or.inl ⟨by decide +kernel, rfl⟩⟩
theorem i4_takesDigit_66 : IO cX4_takesDigit 66 67 .ireturn := ⟨by decide +kernel, rfl⟩
theorem i5_init_0 : ILa cX5_init 0 1 0 := Or.inl ⟨0, by decide +kernel, rfl, rfl⟩
theorem i5_init_1 : ICI m5_init 1 4 objectInit := ⟨3, by decide +kernel, rfl, q_101⟩
theorem i5_init_4 : ILa cX5_init 4 5 0 := Or.inl ⟨0, by decide +kernel, rfl, rfl⟩
theorem i5_init_5 : IC cX5_init 5 7 (8) := ⟨by decide, Or.inr (Or.inl ⟨by decide +kernel, by decide +kernel, rfl⟩)⟩
theorem i5_init_7 : INA cX5_init 7 9 := ⟨by decide +kernel, rfl⟩
theorem i5_init_9 : IPZ m5_init 9 12 5 2 := ⟨9, by decide +kernel, rfl, by decide, by decide, q_108, rfl, rfl, rfl⟩
theorem i5_init_12 : ILa cX5_init 12 13 0 := Or.inl ⟨0, by decide +kernel, rfl, rfl⟩
theorem i5_init_13 : IC cX5_init 13 14 (4) := ⟨by decide, Or.inl ⟨by decide +kernel, rfl⟩⟩
theorem i5_init_14 : INA cX5_init 14 16 := ⟨by decide +kernel, rfl⟩
theorem i5_init_16 : IPZ m5_init 16 19 5 3 := ⟨15, by decide +kernel, rfl, by decide, by decide, q_109, rfl, rfl, rfl⟩
theorem i5_init_19 : ILa cX5_init 19 20 0 := Or.inl ⟨0, by decide +kernel, rfl, rfl⟩
theorem i5_init_20 : IC cX5_init 20 21 (4) := ⟨by decide, Or.inl ⟨by decide +kernel, rfl⟩⟩
theorem i5_init_21 : INA cX5_init 21 23 := ⟨by decide +kernel, rfl⟩
theorem i5_init_23 : IPZ m5_init 23 26 5 4 := ⟨18, by decide +kernel, rfl, by decide, by decide, q_111, rfl, rfl, rfl⟩
theorem i5_init_26 : IO cX5_init 26 27 .return_ := ⟨by decide +kernel, rfl⟩
theorem i5_at_0 : ILi cX5_at 0 1 1 := Or.inl ⟨1, by decide +kernel, rfl, rfl⟩
theorem i5_at_1 : IC cX5_at 1 2 (4) := ⟨by decide, Or.inl ⟨by decide +kernel, rfl⟩⟩
theorem i5_at_2 : IO cX5_at 2 3 .imul := ⟨by decide +kernel, rfl⟩
theorem i5_at_3 : ILi cX5_at 3 4 2 := Or.inl ⟨2, by decide +kernel, rfl, rfl⟩
theorem i5_at_4 : IO cX5_at 4 5 .iadd := ⟨by decide +kernel, rfl⟩
theorem i5_at_5 : ISi cX5_at 5 6 3 := Or.inl ⟨3, by decide +kernel, rfl, rfl⟩
theorem i5_at_6 : ILi cX5_at 6 7 3 := Or.inl ⟨3, by decide +kernel, rfl, rfl⟩
theorem i5_at_7 : IJ cX5_at 7 10 28 (.ifCond .lt) := ⟨21, by decide +kernel, rfl, by decide⟩
theorem i5_at_10 : ILi cX5_at 10 11 3 := Or.inl ⟨3, by decide +kernel, rfl, rfl⟩
theorem i5_at_11 : ILa cX5_at 11 12 0 := Or.inl ⟨0, by decide +kernel, rfl, rfl⟩
theorem i5_at_12 : IGF m5_at 12 15 5 2 := ⟨9, by decide +kernel, rfl, by decide, by decide, q_108⟩
theorem i5_at_15 : IO cX5_at 15 16 .arraylength := ⟨by decide +kernel, rfl⟩
theorem i5_at_16 : IJ cX5_at 16 19 28 (.if_icmp .ge) := ⟨12, by decide +kernel, rfl, by decide⟩
theorem i5_at_19 : ILa cX5_at 19 20 0 := Or.inl ⟨0, by decide +kernel, rfl, rfl⟩
theorem i5_at_20 : IGF m5_at 20 23 5 2 := ⟨9, by decide +kernel, rfl, by decide, by decide, q_108⟩
theorem i5_at_23 : ILi cX5_at 23 24 3 := Or.inl ⟨3, by decide +kernel, rfl, rfl⟩
theorem i5_at_24 : IO cX5_at 24 25 .iaload := ⟨by decide +kernel, rfl⟩
theorem i5_at_25 : IJ cX5_at 25 28 29 .goto := ⟨4, by decide +kernel, rfl, by decide⟩
theorem i5_at_28 : IC cX5_at 28 29 (0) := ⟨by decide, Or.inl ⟨by decide +kernel, rfl⟩⟩
theorem i5_at_29 : IO cX5_at 29 30 .ireturn := ⟨by decide +kernel, rfl⟩
theorem i5_put_0 : ILi cX5_put 0 1 1 := Or.inl ⟨1, by decide +kernel, rfl, rfl⟩
theorem i5_put_1 : IC cX5_put 1 2 (4) := ⟨by decide, Or.inl ⟨by decide +kernel, rfl⟩⟩
theorem i5_put_2 : IO cX5_put 2 3 .imul := ⟨by decide +kernel, rfl⟩
theorem i5_put_3 : ILi cX5_put 3 4 2 := Or.inl ⟨2, by decide +kernel, rfl, rfl⟩
theorem i5_put_4 : IO cX5_put 4 5 .iadd := ⟨by decide +kernel, rfl⟩
theorem i5_put_5 : ISi cX5_put 5 7 4 := Or.inr ⟨by decide +kernel, rfl⟩
theorem i5_put_7 : ILi cX5_put 7 9 4 := Or.inr ⟨by decide +kernel, rfl⟩
theorem i5_put_9 : IJ cX5_put 9 12 30 (.ifCond .lt) := ⟨21, by decide +kernel, rfl, by decide⟩
theorem i5_put_12 : ILi cX5_put 12 14 4 := Or.inr ⟨by decide +kernel, rfl⟩
theorem i5_put_14 : ILa cX5_put 14 15 0 := Or.inl ⟨0, by decide +kernel, rfl, rfl⟩
theorem i5_put_15 : IGF m5_put 15 18 5 2 := ⟨9, by decide +kernel, rfl, by decide, by decide, q_108⟩
theorem i5_put_18 : IO cX5_put 18 19 .arraylength := ⟨by decide +kernel, rfl⟩
theorem i5_put_19 : IJ cX5_put 19 22 30 (.if_icmp .ge) := ⟨11, by decide +kernel, rfl, by decide⟩
theorem i5_put_22 : ILa cX5_put 22 23 0 := Or.inl ⟨0, by decide +kernel, rfl, rfl⟩
theorem i5_put_23 : IGF m5_put 23 26 5 2 := ⟨9, by decide +kernel, rfl, by decide, by decide, q_108⟩
theorem i5_put_26 : ILi cX5_put 26 28 4 := Or.inr ⟨by decide +kernel, rfl⟩
theorem i5_put_28 : ILi cX5_put 28 29 3 := Or.inl ⟨3, by decide +kernel, rfl, rfl⟩
theorem i5_put_29 : IO cX5_put 29 30 .iastore := ⟨by decide +kernel, rfl⟩
theorem i5_put_30 : IO cX5_put 30 31 .return_ := ⟨by decide +kernel, rfl⟩
theorem i5_reshape_0 : ILa cX5_reshape 0 1 0 := Or.inl ⟨0, by decide +kernel, rfl, rfl⟩
theorem i5_reshape_1 : IGF m5_reshape 1 4 5 1 := ⟨21, by decide +kernel, rfl, by decide, by decide, q_106⟩
theorem i5_reshape_4 : ILi cX5_reshape 4 5 2 := Or.inl ⟨2, by decide +kernel, rfl, rfl⟩
theorem i5_reshape_5 : IJ cX5_reshape 5 8 35 (.if_icmp .eq) := ⟨30, by decide +kernel, rfl, by decide⟩
theorem i5_reshape_8 : IC cX5_reshape 8 9 (0) := ⟨by decide, Or.inl ⟨by decide +kernel, rfl⟩⟩
theorem i5_reshape_9 : ISi cX5_reshape 9 10 3 := Or.inl ⟨3, by decide +kernel, rfl, rfl⟩
theorem i5_reshape_10 : ILi cX5_reshape 10 11 3 := Or.inl ⟨3, by decide +kernel, rfl, rfl⟩
theorem i5_reshape_11 : IC cX5_reshape 11 12 (4) := ⟨by decide, Or.inl ⟨by decide +kernel, rfl⟩⟩
theorem i5_reshape_12 : IJ cX5_reshape 12 15 35 (.if_icmp .ge) := ⟨23, by decide +kernel, rfl, by decide⟩
theorem i5_reshape_15 : ILa cX5_reshape 15 16 0 := Or.inl ⟨0, by decide +kernel, rfl, rfl⟩
theorem i5_reshape_16 : IGF m5_reshape 16 19 5 3 := ⟨15, by decide +kernel, rfl, by decide, by decide, q_109⟩
theorem i5_reshape_19 : ILi cX5_reshape 19 20 3 := Or.inl ⟨3, by decide +kernel, rfl, rfl⟩
theorem i5_reshape_20 : IC cX5_reshape 20 21 (0) := ⟨by decide, Or.inl ⟨by decide +kernel, rfl⟩⟩
theorem i5_reshape_21 : IO cX5_reshape 21 22 .iastore := ⟨by decide +kernel, rfl⟩
theorem i5_reshape_22 : ILa cX5_reshape 22 23 0 := Or.inl ⟨0, by decide +kernel, rfl, rfl⟩
theorem i5_reshape_23 : IGF m5_reshape 23 26 5 4 := ⟨18, by decide +kernel, rfl, by decide, by decide, q_111⟩
theorem i5_reshape_26 : ILi cX5_reshape 26 27 3 := Or.inl ⟨3, by decide +kernel, rfl, rfl⟩
theorem i5_reshape_27 : IC cX5_reshape 27 28 (0) := ⟨by decide, Or.inl ⟨by decide +kernel, rfl⟩⟩
theorem i5_reshape_28 : IO cX5_reshape 28 29 .iastore := ⟨by decide +kernel, rfl⟩
theorem i5_reshape_29 : II cX5_reshape 29 32 3 (1) := ⟨by decide +kernel, by decide, rfl⟩
theorem i5_reshape_32 : IJ cX5_reshape 32 35 10 .goto := ⟨-22, by decide +kernel, rfl, by decide⟩
theorem i5_reshape_35 : ILa cX5_reshape 35 36 0 := Or.inl ⟨0, by decide +kernel, rfl, rfl⟩
theorem i5_reshape_36 : ILi cX5_reshape 36 37 1 := Or.inl ⟨1, by decide +kernel, rfl, rfl⟩
theorem i5_reshape_37 : IPF m5_reshape 37 40 5 0 := ⟨25, by decide +kernel, rfl, by decide, by decide, q_102, rfl⟩
theorem i5_reshape_40 : ILa cX5_reshape 40 41 0 := Or.inl ⟨0, by decide +kernel, rfl, rfl⟩
theorem i5_reshape_41 : ILi cX5_reshape 41 42 2 := Or.inl ⟨2, by decide +kernel, rfl, rfl⟩
theorem i5_reshape_42 : IPF m5_reshape 42 45 5 1 := ⟨21, by decide +kernel, rfl, by decide, by decide, q_106, rfl⟩
theorem i5_reshape_45 : IC cX5_reshape 45 46 (0) := ⟨by decide, Or.inl ⟨by decide +kernel, rfl⟩⟩
theorem i5_reshape_46 : ISi cX5_reshape 46 47 3 := Or.inl ⟨3, by decide +kernel, rfl, rfl⟩
theorem i5_reshape_47 : ILi cX5_reshape 47 48 3 := Or.inl ⟨3, by decide +kernel, rfl, rfl⟩
theorem i5_reshape_48 : ILa cX5_reshape 48 49 0 := Or.inl ⟨0, by decide +kernel, rfl, rfl⟩
theorem i5_reshape_49 : IGF m5_reshape 49 52 5 2 := ⟨9, by decide +kernel, rfl, by decide, by decide, q_108⟩
theorem i5_reshape_52 : IO cX5_reshape 52 53 .arraylength := ⟨by decide +kernel, rfl⟩
theorem i5_reshape_53 : IJ cX5_reshape 53 56 69 (.if_icmp .ge) := ⟨16, by decide +kernel, rfl, by decide⟩
theorem i5_reshape_56 : ILa cX5_reshape 56 57 0 := Or.inl ⟨0, by decide +kernel, rfl, rfl⟩
theorem i5_reshape_57 : IGF m5_reshape 57 60 5 2 := ⟨9, by decide +kernel, rfl, by decide, by decide, q_108⟩
theorem i5_reshape_60 : ILi cX5_reshape 60 61 3 := Or.inl ⟨3, by decide +kernel, rfl, rfl⟩
theorem i5_reshape_61 : IC cX5_reshape 61 62 (0) := ⟨by decide, Or.inl ⟨by decide +kernel, rfl⟩⟩
theorem i5_reshape_62 : IO cX5_reshape 62 63 .iastore := ⟨by decide +kernel, rfl⟩
theorem i5_reshape_63 : II cX5_reshape 63 66 3 (1) := ⟨by decide +kernel, by decide, rfl⟩
theorem i5_reshape_66 : IJ cX5_reshape 66 69 47 .goto := ⟨-19, by decide +kernel, rfl, by decide⟩
theorem i5_reshape_69 : IO cX5_reshape 69 70 .return_ := ⟨by decide +kernel, rfl⟩
theorem i5_fillWithOnes_0 : IC cX5_fillWithOnes 0 1 (0) := ⟨by decide, Or.inl ⟨by decide +kernel, rfl⟩⟩
theorem i5_fillWithOnes_1 : ISi cX5_fillWithOnes 1 2 1 := Or.inl ⟨1, by decide +kernel, rfl, rfl⟩
theorem i5_fillWithOnes_2 : ILi cX5_fillWithOnes 2 3 1 := Or.inl ⟨1, by decide +kernel, rfl, rfl⟩
theorem i5_fillWithOnes_3 : ILa cX5_fillWithOnes 3 4 0 := Or.inl ⟨0, by decide +kernel, rfl, rfl⟩
theorem i5_fillWithOnes_4 : IGF m5_fillWithOnes 4 7 5 0 := ⟨25, by decide +kernel, rfl, by decide, by decide, q_102⟩
theorem i5_fillWithOnes_7 : IJ cX5_fillWithOnes 7 10 39 (.if_icmp .ge) := ⟨32, by decide +kernel, rfl, by decide⟩
theorem i5_fillWithOnes_10 : IC cX5_fillWithOnes 10 11 (0) := ⟨by decide, Or.inl ⟨by decide +kernel, rfl⟩⟩
theorem i5_fillWithOnes_11 : ISi cX5_fillWithOnes 11 12 2 := Or.inl ⟨2, by decide +kernel, rfl, rfl⟩
theorem i5_fillWithOnes_12 : ILi cX5_fillWithOnes 12 13 2 := Or.inl ⟨2, by decide +kernel, rfl, rfl⟩
theorem i5_fillWithOnes_13 : ILa cX5_fillWithOnes 13 14 0 := Or.inl ⟨0, by decide +kernel, rfl, rfl⟩
theorem i5_fillWithOnes_14 : IGF m5_fillWithOnes 14 17 5 1 := ⟨21, by decide +kernel, rfl, by decide, by decide, q_106⟩
theorem i5_fillWithOnes_17 : IJ cX5_fillWithOnes 17 20 33 (.if_icmp .ge) := ⟨16, by decide +kernel, rfl, by decide⟩
theorem i5_fillWithOnes_20 : ILa cX5_fillWithOnes 20 21 0 := Or.inl ⟨0, by decide +kernel, rfl, rfl⟩
theorem i5_fillWithOnes_21 : ILi cX5_fillWithOnes 21 22 1 := Or.inl ⟨1, by decide +kernel, rfl, rfl⟩
theorem i5_fillWithOnes_22 : ILi cX5_fillWithOnes 22 23 2 := Or.inl ⟨2, by decide +kernel, rfl, rfl⟩
theorem i5_fillWithOnes_23 : IC cX5_fillWithOnes 23 24 (1) := ⟨by decide, Or.inl ⟨by decide +kernel, rfl⟩⟩
theorem i5_fillWithOnes_24 : ICV m5_fillWithOnes 24 27 m5_put := ⟨28, by decide +kernel, rfl, q_297⟩
theorem i5_fillWithOnes_27 : II cX5_fillWithOnes 27 30 2 (1) := ⟨by decide +kernel, by decide, rfl⟩
theorem i5_fillWithOnes_30 : IJ cX5_fillWithOnes 30 33 12 .goto := ⟨-18, by decide +kernel, rfl, by decide⟩
theorem i5_fillWithOnes_33 : II cX5_fillWithOnes 33 36 1 (1) := ⟨by decide +kernel, by decide, rfl⟩
theorem i5_fillWithOnes_36 : IJ cX5_fillWithOnes 36 39 2 .goto := ⟨-34, by decide +kernel, rfl, by decide⟩
theorem i5_fillWithOnes_39 : IO cX5_fillWithOnes 39 40 .return_ := ⟨by decide +kernel, rfl⟩
theorem i5_fillFrom_0 : IC cX5_fillFrom 0 1 (0) := ⟨by decide, Or.inl ⟨by decide +kernel, rfl⟩⟩
theorem i5_fillFrom_1 : ISi cX5_fillFrom 1 2 2 := Or.inl ⟨2, by decide +kernel, rfl, rfl⟩
theorem i5_fillFrom_2 : ILi cX5_fillFrom 2 3 2 := Or.inl ⟨2, by decide +kernel, rfl, rfl⟩
theorem i5_fillFrom_3 : ILa cX5_fillFrom 3 4 0 := Or.inl ⟨0, by decide +kernel, rfl, rfl⟩
theorem i5_fillFrom_4 : IGF m5_fillFrom 4 7 5 0 := ⟨25, by decide +kernel, rfl, by decide, by decide, q_102⟩
theorem i5_fillFrom_7 : IJ cX5_fillFrom 7 10 45 (.if_icmp .ge) := ⟨38, by decide +kernel, rfl, by decide⟩
theorem i5_fillFrom_10 : IC cX5_fillFrom 10 11 (0) := ⟨by decide, Or.inl ⟨by decide +kernel, rfl⟩⟩
theorem i5_fillFrom_11 : ISi cX5_fillFrom 11 12 3 := Or.inl ⟨3, by decide +kernel, rfl, rfl⟩
theorem i5_fillFrom_12 : ILi cX5_fillFrom 12 13 3 := Or.inl ⟨3, by decide +kernel, rfl, rfl⟩
theorem i5_fillFrom_13 : ILa cX5_fillFrom 13 14 0 := Or.inl ⟨0, by decide +kernel, rfl, rfl⟩
theorem i5_fillFrom_14 : IGF m5_fillFrom 14 17 5 1 := ⟨21, by decide +kernel, rfl, by decide, by decide, q_106⟩
theorem i5_fillFrom_17 : IJ cX5_fillFrom 17 20 39 (.if_icmp .ge) := ⟨22, by decide +kernel, rfl, by decide⟩
theorem i5_fillFrom_20 : ILa cX5_fillFrom 20 21 0 := Or.inl ⟨0, by decide +kernel, rfl, rfl⟩
theorem i5_fillFrom_21 : ILi cX5_fillFrom 21 22 2 := Or.inl ⟨2, by decide +kernel, rfl, rfl⟩
theorem i5_fillFrom_22 : ILi cX5_fillFrom 22 23 3 := Or.inl ⟨3, by decide +kernel, rfl, rfl⟩
theorem i5_fillFrom_23 : ILa cX5_fillFrom 23 24 1 := Or.inl ⟨1, by decide +kernel, rfl, rfl⟩
theorem i5_fillFrom_24 : ILi cX5_fillFrom 24 25 2 := Or.inl ⟨2, by decide +kernel, rfl, rfl⟩
theorem i5_fillFrom_25 : IC cX5_fillFrom 25 26 (4) := ⟨by decide, Or.inl ⟨by decide +kernel, rfl⟩⟩
theorem i5_fillFrom_26 : IO cX5_fillFrom 26 27 .imul := ⟨by decide +kernel, rfl⟩
theorem i5_fillFrom_27 : ILi cX5_fillFrom 27 28 3 := Or.inl ⟨3, by decide +kernel, rfl, rfl⟩
theorem i5_fillFrom_28 : IO cX5_fillFrom 28 29 .iadd := ⟨by decide +kernel, rfl⟩
theorem i5_fillFrom_29 : IO cX5_fillFrom 29 30 .iaload := ⟨by decide +kernel, rfl⟩
theorem i5_fillFrom_30 : ICV m5_fillFrom 30 33 m5_put := ⟨28, by decide +kernel, rfl, q_297⟩
theorem i5_fillFrom_33 : II cX5_fillFrom 33 36 3 (1) := ⟨by decide +kernel, by decide, rfl⟩
theorem i5_fillFrom_36 : IJ cX5_fillFrom 36 39 12 .goto := ⟨-24, by decide +kernel, rfl, by decide⟩
theorem i5_fillFrom_39 : II cX5_fillFrom 39 42 2 (1) := ⟨by decide +kernel, by decide, rfl⟩
theorem i5_fillFrom_42 : IJ cX5_fillFrom 42 45 2 .goto := ⟨-40, by decide +kernel, rfl, by decide⟩
theorem i5_fillFrom_45 : IO cX5_fillFrom 45 46 .return_ := ⟨by decide +kernel, rfl⟩
theorem i5_product_0 : IC cX5_product 0 1 (0) := ⟨by decide, Or.inl ⟨by decide +kernel, rfl⟩⟩
theorem i5_product_1 : ISi cX5_product 1 2 3 := Or.inl ⟨3, by decide +kernel, rfl, rfl⟩
theorem i5_product_2 : IC cX5_product 2 3 (0) := ⟨by decide, Or.inl ⟨by decide +kernel, rfl⟩⟩
theorem i5_product_3 : ISi cX5_product 3 5 4 := Or.inr ⟨by decide +kernel, rfl⟩
theorem i5_product_5 : ILi cX5_product 5 7 4 := Or.inr ⟨by decide +kernel, rfl⟩
theorem i5_product_7 : ILa cX5_product 7 8 0 := Or.inl ⟨0, by decide +kernel, rfl, rfl⟩
theorem i5_product_8 : IGF m5_product 8 11 5 1 := ⟨21, by decide +kernel, rfl, by decide, by decide, q_106⟩
theorem i5_product_11 : IJ cX5_product 11 14 35 (.if_icmp .ge) := ⟨24, by decide +kernel, rfl, by decide⟩
theorem i5_product_14 : ILi cX5_product 14 15 3 := Or.inl ⟨3, by decide +kernel, rfl, rfl⟩
theorem i5_product_15 : ILa cX5_product 15 16 0 := Or.inl ⟨0, by decide +kernel, rfl, rfl⟩
theorem i5_product_16 : ILi cX5_product 16 17 1 := Or.inl ⟨1, by decide +kernel, rfl, rfl⟩
theorem i5_product_17 : ILi cX5_product 17 19 4 := Or.inr ⟨by decide +kernel, rfl⟩
theorem i5_product_19 : ICV m5_product 19 22 m5_at := ⟨32, by decide +kernel, rfl, q_325⟩
theorem i5_product_22 : ILa cX5_product 22 23 2 := Or.inl ⟨2, by decide +kernel, rfl, rfl⟩
theorem i5_product_23 : ILi cX5_product 23 25 4 := Or.inr ⟨by decide +kernel, rfl⟩
theorem i5_product_25 : IO cX5_product 25 26 .iaload := ⟨by decide +kernel, rfl⟩
theorem i5_product_26 : IO cX5_product 26 27 .imul := ⟨by decide +kernel, rfl⟩
theorem i5_product_27 : IO cX5_product 27 28 .iadd := ⟨by decide +kernel, rfl⟩
theorem i5_product_28 : ISi cX5_product 28 29 3 := Or.inl ⟨3, by decide +kernel, rfl, rfl⟩
theorem i5_product_29 : II cX5_product 29 32 4 (1) := ⟨by decide +kernel, by decide, rfl⟩
theorem i5_product_32 : IJ cX5_product 32 35 5 .goto := ⟨-27, by decide +kernel, rfl, by decide⟩
theorem i5_product_35 : ILi cX5_product 35 36 3 := Or.inl ⟨3, by decide +kernel, rfl, rfl⟩
theorem i5_product_36 : IO cX5_product 36 37 .ireturn := ⟨by decide +kernel, rfl⟩
theorem i5_minor_0 : ILa cX5_minor 0 1 0 := Or.inl ⟨0, by decide +kernel, rfl, rfl⟩
theorem i5_minor_1 : IC cX5_minor 1 2 (0) := ⟨by decide, Or.inl ⟨by decide +kernel, rfl⟩⟩
theorem i5_minor_2 : ILi cX5_minor 2 3 1 := Or.inl ⟨1, by decide +kernel, rfl, rfl⟩
theorem i5_minor_3 : ICV m5_minor 3 6 m5_at := ⟨32, by decide +kernel, rfl, q_325⟩
theorem i5_minor_6 : ILa cX5_minor 6 7 0 := Or.inl ⟨0, by decide +kernel, rfl, rfl⟩
theorem i5_minor_7 : IC cX5_minor 7 8 (1) := ⟨by decide, Or.inl ⟨by decide +kernel, rfl⟩⟩
theorem i5_minor_8 : ILi cX5_minor 8 9 2 := Or.inl ⟨2, by decide +kernel, rfl, rfl⟩
theorem i5_minor_9 : ICV m5_minor 9 12 m5_at := ⟨32, by decide +kernel, rfl, q_325⟩
theorem i5_minor_12 : IO cX5_minor 12 13 .imul := ⟨by decide +kernel, rfl⟩
theorem i5_minor_13 : ILa cX5_minor 13 14 0 := Or.inl ⟨0, by decide +kernel, rfl, rfl⟩
theorem i5_minor_14 : IC cX5_minor 14 15 (1) := ⟨by decide, Or.inl ⟨by decide +kernel, rfl⟩⟩
theorem i5_minor_15 : ILi cX5_minor 15 16 1 := Or.inl ⟨1, by decide +kernel, rfl, rfl⟩
theorem i5_minor_16 : ICV m5_minor 16 19 m5_at := ⟨32, by decide +kernel, rfl, q_325⟩
theorem i5_minor_19 : ILa cX5_minor 19 20 0 := Or.inl ⟨0, by decide +kernel, rfl, rfl⟩
theorem i5_minor_20 : IC cX5_minor 20 21 (0) := ⟨by decide, Or.inl ⟨by decide +kernel, rfl⟩⟩
theorem i5_minor_21 : ILi cX5_minor 21 22 2 := Or.inl ⟨2, by decide +kernel, rfl, rfl⟩
theorem i5_minor_22 : ICV m5_minor 22 25 m5_at := ⟨32, by decide +kernel, rfl, q_325⟩
theorem i5_minor_25 : IO cX5_minor 25 26 .imul := ⟨by decide +kernel, rfl⟩
theorem i5_minor_26 : IO cX5_minor 26 27 .isub := ⟨by decide +kernel, rfl⟩
theorem i5_minor_27 : IO cX5_minor 27 28 .ireturn := ⟨by decide +kernel, rfl⟩
theorem i5_hasNoZeroColumn_0 : IC cX5_hasNoZeroColumn 0 1 (0) := ⟨by decide, Or.inl ⟨by decide +kernel, rfl⟩⟩
theorem i5_hasNoZeroColumn_1 : ISi cX5_hasNoZeroColumn 1 2 1 := Or.inl ⟨1, by decide +kernel, rfl, rfl⟩
theorem i5_hasNoZeroColumn_2 : ILi cX5_hasNoZeroColumn 2 3 1 := Or.inl ⟨1, by decide +kernel, rfl, rfl⟩
theorem i5_hasNoZeroColumn_3 : ILa cX5_hasNoZeroColumn 3 4 0 := Or.inl ⟨0, by decide +kernel, rfl, rfl⟩
theorem i5_hasNoZeroColumn_4 : IGF m5_hasNoZeroColumn 4 7 5 1 := ⟨21, by decide +kernel, rfl, by decide, by decide, q_106⟩
theorem i5_hasNoZeroColumn_7 : IJ cX5_hasNoZeroColumn 7 10 36 (.if_icmp .ge) := ⟨29, by decide +kernel, rfl, by decide⟩
theorem i5_hasNoZeroColumn_10 : ILa cX5_hasNoZeroColumn 10 11 0 := Or.inl ⟨0, by decide +kernel, rfl, rfl⟩
theorem i5_hasNoZeroColumn_11 : IC cX5_hasNoZeroColumn 11 12 (0) := ⟨by decide, Or.inl ⟨by decide +kernel, rfl⟩⟩
theorem i5_hasNoZeroColumn_12 : ILi cX5_hasNoZeroColumn 12 13 1 := Or.inl ⟨1, by decide +kernel, rfl, rfl⟩
theorem i5_hasNoZeroColumn_13 : ICV m5_hasNoZeroColumn 13 16 m5_at := ⟨32, by decide +kernel, rfl, q_325⟩
theorem i5_hasNoZeroColumn_16 : IJ cX5_hasNoZeroColumn 16 19 30 (.ifCond .ne) := ⟨14, by decide +kernel, rfl, by decide⟩
theorem i5_hasNoZeroColumn_19 : ILa cX5_hasNoZeroColumn 19 20 0 := Or.inl ⟨0, by decide +kernel, rfl, rfl⟩
theorem i5_hasNoZeroColumn_20 : IC cX5_hasNoZeroColumn 20 21 (1) := ⟨by decide, Or.inl ⟨by decide +kernel, rfl⟩⟩
theorem i5_hasNoZeroColumn_21 : ILi cX5_hasNoZeroColumn 21 22 1 := Or.inl ⟨1, by decide +kernel, rfl, rfl⟩
theorem i5_hasNoZeroColumn_22 : ICV m5_hasNoZeroColumn 22 25 m5_at := ⟨32, by decide +kernel, rfl, q_325⟩
theorem i5_hasNoZeroColumn_25 : IJ cX5_hasNoZeroColumn 25 28 30 (.ifCond .ne) := ⟨5, by decide +kernel, rfl, by decide⟩
theorem i5_hasNoZeroColumn_28 : IC cX5_hasNoZeroColumn 28 29 (0) := ⟨by decide, Or.inl ⟨by decide +kernel, rfl⟩⟩
theorem i5_hasNoZeroColumn_29 : IO cX5_hasNoZeroColumn 29 30 .ireturn := ⟨by decide +kernel, rfl⟩
theorem i5_hasNoZeroColumn_30 : II cX5_hasNoZeroColumn 30 33 1 (1) := ⟨by decide +kernel, by decide, rfl⟩
theorem i5_hasNoZeroColumn_33 : IJ cX5_hasNoZeroColumn 33 36 2 .goto := ⟨-31, by decide +kernel, rfl, by decide⟩
theorem i5_hasNoZeroColumn_36 : IC cX5_hasNoZeroColumn 36 37 (1) := ⟨by decide, Or.inl ⟨by decide +kernel, rfl⟩⟩
theorem i5_hasNoZeroColumn_37 : IO cX5_hasNoZeroColumn 37 38 .ireturn := ⟨by decide +kernel, rfl⟩
theorem i5_hasVectorInKernel_0 : ILa cX5_hasVectorInKernel 0 1 0 := Or.inl ⟨0, by decide +kernel, rfl, rfl⟩
theorem i5_hasVectorInKernel_1 : IC cX5_hasVectorInKernel 1 2 (0) := ⟨by decide, Or.inl ⟨by decide +kernel, rfl⟩⟩
theorem i5_hasVectorInKernel_2 : ILa cX5_hasVectorInKernel 2 3 0 := Or.inl ⟨0, by decide +kernel, rfl, rfl⟩
theorem i5_hasVectorInKernel_3 : IGF m5_hasVectorInKernel 3 6 5 3 := ⟨15, by decide +kernel, rfl, by decide, by decide, q_109⟩
theorem i5_hasVectorInKernel_6 : ICV m5_hasVectorInKernel 6 9 m5_product := ⟨36, by decide +kernel, rfl, q_594⟩
theorem i5_hasVectorInKernel_9 : IJ cX5_hasVectorInKernel 9 12 28 (.ifCond .ne) := ⟨19, by decide +kernel, rfl, by decide⟩
theorem i5_hasVectorInKernel_12 : ILa cX5_hasVectorInKernel 12 13 0 := Or.inl ⟨0, by decide +kernel, rfl, rfl⟩
theorem i5_hasVectorInKernel_13 : IC cX5_hasVectorInKernel 13 14 (1) := ⟨by decide, Or.inl ⟨by decide +kernel, rfl⟩⟩
theorem i5_hasVectorInKernel_14 : ILa cX5_hasVectorInKernel 14 15 0 := Or.inl ⟨0, by decide +kernel, rfl, rfl⟩
theorem i5_hasVectorInKernel_15 : IGF m5_hasVectorInKernel 15 18 5 3 := ⟨15, by decide +kernel, rfl, by decide, by decide, q_109⟩
theorem i5_hasVectorInKernel_18 : ICV m5_hasVectorInKernel 18 21 m5_product := ⟨36, by decide +kernel, rfl, q_594⟩
theorem i5_hasVectorInKernel_21 : IJ cX5_hasVectorInKernel 21 24 28 (.ifCond .ne) := ⟨7, by decide +kernel, rfl, by decide⟩
theorem i5_hasVectorInKernel_24 : IC cX5_hasVectorInKernel 24 25 (1) := ⟨by decide, Or.inl ⟨by decide +kernel, rfl⟩⟩
theorem i5_hasVectorInKernel_25 : IJ cX5_hasVectorInKernel 25 28 29 .goto := ⟨4, by decide +kernel, rfl, by decide⟩
theorem i5_hasVectorInKernel_28 : IC cX5_hasVectorInKernel 28 29 (0) := ⟨by decide, Or.inl ⟨by decide +kernel, rfl⟩⟩
theorem i5_hasVectorInKernel_29 : IO cX5_hasVectorInKernel 29 30 .ireturn := ⟨by decide +kernel, rfl⟩
theorem i5_isOn_0 : ILa cX5_isOn 0 1 0 := Or.inl ⟨0, by decide +kernel, rfl, rfl⟩
theorem i5_isOn_1 : IGF m5_isOn 1 4 5 5 := ⟨40, by decide +kernel, rfl, by decide, by decide, q_113⟩
theorem i5_isOn_4 : ILi cX5_isOn 4 5 1 := Or.inl ⟨1, by decide +kernel, rfl, rfl⟩
theorem i5_isOn_5 : IO cX5_isOn 5 6 .ishr := ⟨by decide +kernel, rfl⟩
theorem i5_isOn_6 : IC cX5_isOn 6 7 (1) := ⟨by decide, Or.inl ⟨by decide +kernel, rfl⟩⟩
theorem i5_isOn_7 : IO cX5_isOn 7 8 .iand := ⟨by decide +kernel, rfl⟩
theorem i5_isOn_8 : IC cX5_isOn 8 9 (1) := ⟨by decide, Or.inl ⟨by decide +kernel, rfl⟩⟩
theorem i5_isOn_9 : IJ cX5_isOn 9 12 16 (.if_icmp .ne) := ⟨7, by decide +kernel, rfl, by decide⟩
theorem i5_isOn_12 : IC cX5_isOn 12 13 (1) := ⟨by decide, Or.inl ⟨by decide +kernel, rfl⟩⟩
theorem i5_isOn_13 : IJ cX5_isOn 13 16 17 .goto := ⟨4, by decide +kernel, rfl, by decide⟩
theorem i5_isOn_16 : IC cX5_isOn 16 17 (0) := ⟨by decide, Or.inl ⟨by decide +kernel, rfl⟩⟩
theorem i5_isOn_17 : IO cX5_isOn 17 18 .ireturn := ⟨by decide +kernel, rfl⟩
theorem i5_switchTo_0 : IC cX5_switchTo 0 1 (1) := ⟨by decide, Or.inl ⟨by decide +kernel, rfl⟩⟩
theorem i5_switchTo_1 : ILi cX5_switchTo 1 2 1 := Or.inl ⟨1, by decide +kernel, rfl, rfl⟩
theorem i5_switchTo_2 : IO cX5_switchTo 2 3 .ishl := ⟨by decide +kernel, rfl⟩
theorem i5_switchTo_3 : ISi cX5_switchTo 3 4 3 := Or.inl ⟨3, by decide +kernel, rfl, rfl⟩
theorem i5_switchTo_4 : ILa cX5_switchTo 4 5 0 := Or.inl ⟨0, by decide +kernel, rfl, rfl⟩
theorem i5_switchTo_5 : ILi cX5_switchTo 5 6 2 := Or.inl ⟨2, by decide +kernel, rfl, rfl⟩
theorem i5_switchTo_6 : IJ cX5_switchTo 6 9 18 (.ifCond .eq) := ⟨12, by decide +kernel, rfl, by decide⟩
theorem i5_switchTo_9 : ILa cX5_switchTo 9 10 0 := Or.inl ⟨0, by decide +kernel, rfl, rfl⟩
theorem i5_switchTo_10 : IGF m5_switchTo 10 13 5 5 := ⟨40, by decide +kernel, rfl, by decide, by decide, q_113⟩
theorem i5_switchTo_13 : ILi cX5_switchTo 13 14 3 := Or.inl ⟨3, by decide +kernel, rfl, rfl⟩
theorem i5_switchTo_14 : IO cX5_switchTo 14 15 .ior := ⟨by decide +kernel, rfl⟩
theorem i5_switchTo_15 : IJ cX5_switchTo 15 18 26 .goto := ⟨11, by decide +kernel, rfl, by decide⟩
theorem i5_switchTo_18 : ILa cX5_switchTo 18 19 0 := Or.inl ⟨0, by decide +kernel, rfl, rfl⟩
theorem i5_switchTo_19 : IGF m5_switchTo 19 22 5 5 := ⟨40, by decide +kernel, rfl, by decide, by decide, q_113⟩
theorem i5_switchTo_22 : ILi cX5_switchTo 22 23 3 := Or.inl ⟨3, by decide +kernel, rfl, rfl⟩
theorem i5_switchTo_23 : IC cX5_switchTo 23 24 (-1) := ⟨by decide, Or.inl ⟨by decide +kernel, rfl⟩⟩
theorem i5_switchTo_24 : IO cX5_switchTo 24 25 .ixor := ⟨by decide +kernel, rfl⟩
theorem i5_switchTo_25 : IO cX5_switchTo 25 26 .iand := ⟨by decide +kernel, rfl⟩
theorem i5_switchTo_26 : IPF m5_switchTo 26 29 5 5 := ⟨40, by decide +kernel, rfl, by decide, by decide, q_113, rfl⟩
theorem i5_switchTo_29 : IO cX5_switchTo 29 30 .return_ := ⟨by decide +kernel, rfl⟩
theorem i5_switchAllOn_0 : ILa cX5_switchAllOn 0 1 0 := Or.inl ⟨0, by decide +kernel, rfl, rfl⟩
theorem i5_switchAllOn_1 : IC cX5_switchAllOn 1 2 (1) := ⟨by decide, Or.inl ⟨by decide +kernel, rfl⟩⟩
theorem i5_switchAllOn_2 : ILi cX5_switchAllOn 2 3 1 := Or.inl ⟨1, by decide +kernel, rfl, rfl⟩
theorem i5_switchAllOn_3 : IO cX5_switchAllOn 3 4 .ishl := ⟨by decide +kernel, rfl⟩
theorem i5_switchAllOn_4 : IC cX5_switchAllOn 4 5 (1) := ⟨by decide, Or.inl ⟨by decide +kernel, rfl⟩⟩
theorem i5_switchAllOn_5 : IO cX5_switchAllOn 5 6 .isub := ⟨by decide +kernel, rfl⟩
theorem i5_switchAllOn_6 : IPF m5_switchAllOn 6 9 5 5 := ⟨40, by decide +kernel, rfl, by decide, by decide, q_113, rfl⟩
theorem i5_switchAllOn_9 : IO cX5_switchAllOn 9 10 .return_ := ⟨by decide +kernel, rfl⟩
theorem i5_countOn_0 : ILa cX5_countOn 0 1 0 := Or.inl ⟨0, by decide +kernel, rfl, rfl⟩
theorem i5_countOn_1 : IGF m5_countOn 1 4 5 5 := ⟨40, by decide +kernel, rfl, by decide, by decide, q_113⟩
theorem i5_countOn_4 : ICS m5_countOn 4 7 yJ6_bitCount_0f7a4 := ⟨43, by decide +kernel, rfl, q_650⟩
theorem i5_countOn_7 : IO cX5_countOn 7 8 .ireturn := ⟨by decide +kernel, rfl⟩
theorem i5_copyFrom_0 : ILa cX5_copyFrom 0 1 0 := Or.inl ⟨0, by decide +kernel, rfl, rfl⟩
theorem i5_copyFrom_1 : ILa cX5_copyFrom 1 2 1 := Or.inl ⟨1, by decide +kernel, rfl, rfl⟩
theorem i5_copyFrom_2 : IGF m5_copyFrom 2 5 5 0 := ⟨25, by decide +kernel, rfl, by decide, by decide, q_102⟩
theorem i5_copyFrom_5 : IPF m5_copyFrom 5 8 5 0 := ⟨25, by decide +kernel, rfl, by decide, by decide, q_102, rfl⟩
theorem i5_copyFrom_8 : ILa cX5_copyFrom 8 9 0 := Or.inl ⟨0, by decide +kernel, rfl, rfl⟩
theorem i5_copyFrom_9 : ILa cX5_copyFrom 9 10 1 := Or.inl ⟨1, by decide +kernel, rfl, rfl⟩
theorem i5_copyFrom_10 : IGF m5_copyFrom 10 13 5 1 := ⟨21, by decide +kernel, rfl, by decide, by decide, q_106⟩
theorem i5_copyFrom_13 : IPF m5_copyFrom 13 16 5 1 := ⟨21, by decide +kernel, rfl, by decide, by decide, q_106, rfl⟩
theorem i5_copyFrom_16 : ILa cX5_copyFrom 16 17 0 := Or.inl ⟨0, by decide +kernel, rfl, rfl⟩
theorem i5_copyFrom_17 : ILa cX5_copyFrom 17 18 1 := Or.inl ⟨1, by decide +kernel, rfl, rfl⟩
theorem i5_copyFrom_18 : IGF m5_copyFrom 18 21 5 5 := ⟨40, by decide +kernel, rfl, by decide, by decide, q_113⟩
theorem i5_copyFrom_21 : IPF m5_copyFrom 21 24 5 5 := ⟨40, by decide +kernel, rfl, by decide, by decide, q_113, rfl⟩
theorem i5_copyFrom_24 : ILa cX5_copyFrom 24 25 1 := Or.inl ⟨1, by decide +kernel, rfl, rfl⟩
theorem i5_copyFrom_25 : IGF m5_copyFrom 25 28 5 2 := ⟨9, by decide +kernel, rfl, by decide, by decide, q_108⟩
theorem i5_copyFrom_28 : IC cX5_copyFrom 28 29 (0) := ⟨by decide, Or.inl ⟨by decide +kernel, rfl⟩⟩
theorem i5_copyFrom_29 : ILa cX5_copyFrom 29 30 0 := Or.inl ⟨0, by decide +kernel, rfl, rfl⟩
theorem i5_copyFrom_30 : IGF m5_copyFrom 30 33 5 2 := ⟨9, by decide +kernel, rfl, by decide, by decide, q_108⟩
theorem i5_copyFrom_33 : IC cX5_copyFrom 33 34 (0) := ⟨by decide, Or.inl ⟨by decide +kernel, rfl⟩⟩
theorem i5_copyFrom_34 : ILa cX5_copyFrom 34 35 0 := Or.inl ⟨0, by decide +kernel, rfl, rfl⟩
theorem i5_copyFrom_35 : IGF m5_copyFrom 35 38 5 2 := ⟨9, by decide +kernel, rfl, by decide, by decide, q_108⟩
theorem i5_copyFrom_38 : IO cX5_copyFrom 38 39 .arraylength := ⟨by decide +kernel, rfl⟩
theorem i5_copyFrom_39 : ICS m5_copyFrom 39 42 arraycopyName := ⟨49, by decide +kernel, rfl, q_443⟩
theorem i5_copyFrom_42 : ILa cX5_copyFrom 42 43 1 := Or.inl ⟨1, by decide +kernel, rfl, rfl⟩
theorem i5_copyFrom_43 : IGF m5_copyFrom 43 46 5 3 := ⟨15, by decide +kernel, rfl, by decide, by decide, q_109⟩
theorem i5_copyFrom_46 : IC cX5_copyFrom 46 47 (0) := ⟨by decide, Or.inl ⟨by decide +kernel, rfl⟩⟩
theorem i5_copyFrom_47 : ILa cX5_copyFrom 47 48 0 := Or.inl ⟨0, by decide +kernel, rfl, rfl⟩
theorem i5_copyFrom_48 : IGF m5_copyFrom 48 51 5 3 := ⟨15, by decide +kernel, rfl, by decide, by decide, q_109⟩
theorem i5_copyFrom_51 : IC cX5_copyFrom 51 52 (0) := ⟨by decide, Or.inl ⟨by decide +kernel, rfl⟩⟩
theorem i5_copyFrom_52 : ILa cX5_copyFrom 52 53 0 := Or.inl ⟨0, by decide +kernel, rfl, rfl⟩
theorem i5_copyFrom_53 : IGF m5_copyFrom 53 56 5 3 := ⟨15, by decide +kernel, rfl, by decide, by decide, q_109⟩
theorem i5_copyFrom_56 : IO cX5_copyFrom 56 57 .arraylength := ⟨by decide +kernel, rfl⟩
theorem i5_copyFrom_57 : ICS m5_copyFrom 57 60 arraycopyName := ⟨49, by decide +kernel, rfl, q_443⟩
theorem i5_copyFrom_60 : ILa cX5_copyFrom 60 61 1 := Or.inl ⟨1, by decide +kernel, rfl, rfl⟩
theorem i5_copyFrom_61 : IGF m5_copyFrom 61 64 5 4 := ⟨18, by decide +kernel, rfl, by decide, by decide, q_111⟩
theorem i5_copyFrom_64 : IC cX5_copyFrom 64 65 (0) := ⟨by decide, Or.inl ⟨by decide +kernel, rfl⟩⟩
theorem i5_copyFrom_65 : ILa cX5_copyFrom 65 66 0 := Or.inl ⟨0, by decide +kernel, rfl, rfl⟩
theorem i5_copyFrom_66 : IGF m5_copyFrom 66 69 5 4 := ⟨18, by decide +kernel, rfl, by decide, by decide, q_111⟩
theorem i5_copyFrom_69 : IC cX5_copyFrom 69 70 (0) := ⟨by decide, Or.inl ⟨by decide +kernel, rfl⟩⟩
theorem i5_copyFrom_70 : ILa cX5_copyFrom 70 71 0 := Or.inl ⟨0, by decide +kernel, rfl, rfl⟩
theorem i5_copyFrom_71 : IGF m5_copyFrom 71 74 5 4 := ⟨18, by decide +kernel, rfl, by decide, by decide, q_111⟩
theorem i5_copyFrom_74 : IO cX5_copyFrom 74 75 .arraylength := ⟨by decide +kernel, rfl⟩
theorem i5_copyFrom_75 : ICS m5_copyFrom 75 78 arraycopyName := ⟨49, by decide +kernel, rfl, q_443⟩
theorem i5_copyFrom_78 : IO cX5_copyFrom 78 79 .return_ := ⟨by decide +kernel, rfl⟩
theorem i6_init_0 : ILa cX6_init 0 1 0 := Or.inl ⟨0, by decide +kernel, rfl, rfl⟩
theorem i6_init_1 : ICI m6_init 1 4 objectInit := ⟨3, by decide +kernel, rfl, q_278⟩
theorem i6_init_4 : ILa cX6_init 4 5 0 := Or.inl ⟨0, by decide +kernel, rfl, rfl⟩
theorem i6_init_5 : IC cX6_init 5 8 (2048) := ⟨by decide, Or.inr (Or.inr ⟨by decide +kernel, by decide +kernel, rfl⟩)⟩
theorem i6_init_8 : INA cX6_init 8 10 := ⟨by decide +kernel, rfl⟩
theorem i6_init_10 : IPZ m6_init 10 13 6 0 := ⟨9, by decide +kernel, rfl, by decide, by decide, q_279, rfl, rfl, rfl⟩
theorem i6_init_13 : ILa cX6_init 13 14 0 := Or.inl ⟨0, by decide +kernel, rfl, rfl⟩
theorem i6_init_14 : IC cX6_init 14 17 (2048) := ⟨by decide, Or.inr (Or.inr ⟨by decide +kernel, by decide +kernel, rfl⟩)⟩
theorem i6_init_17 : INA cX6_init 17 19 := ⟨by decide +kernel, rfl⟩
theorem i6_init_19 : IPZ m6_init 19 22 6 1 := ⟨15, by decide +kernel, rfl, by decide, by decide, q_280, rfl, rfl, rfl⟩
theorem i6_init_22 : IO cX6_init 22 23 .return_ := ⟨by decide +kernel, rfl⟩
theorem i6_countClasses_0 : ILa cX6_countClasses 0 1 0 := Or.inl ⟨0, by decide +kernel, rfl, rfl⟩
theorem i6_countClasses_1 : ILa cX6_countClasses 1 2 1 := Or.inl ⟨1, by decide +kernel, rfl, rfl⟩
theorem i6_countClasses_2 : ICV m6_countClasses 2 5 m6_forget := ⟨18, by decide +kernel, rfl, q_668⟩
theorem i6_countClasses_5 : IC cX6_countClasses 5 6 (0) := ⟨by decide, Or.inl ⟨by decide +kernel, rfl⟩⟩
theorem i6_countClasses_6 : ISi cX6_countClasses 6 8 4 := Or.inr ⟨by decide +kernel, rfl⟩
theorem i6_countClasses_8 : IC cX6_countClasses 8 9 (0) := ⟨by decide, Or.inl ⟨by decide +kernel, rfl⟩⟩
theorem i6_countClasses_9 : ISi cX6_countClasses 9 11 5 := Or.inr ⟨by decide +kernel, rfl⟩
theorem i6_countClasses_11 : ILi cX6_countClasses 11 13 5 := Or.inr ⟨by decide +kernel, rfl⟩
theorem i6_countClasses_13 : ILa cX6_countClasses 13 14 1 := Or.inl ⟨1, by decide +kernel, rfl, rfl⟩
theorem i6_countClasses_14 : IGF m6_countClasses 14 17 1 0 := ⟨22, by decide +kernel, rfl, by decide, by decide, q_256⟩
theorem i6_countClasses_17 : IJ cX6_countClasses 17 20 48 (.if_icmp .ge) := ⟨31, by decide +kernel, rfl, by decide⟩
theorem i6_countClasses_20 : ILa cX6_countClasses 20 21 0 := Or.inl ⟨0, by decide +kernel, rfl, rfl⟩
theorem i6_countClasses_21 : IGF m6_countClasses 21 24 6 1 := ⟨15, by decide +kernel, rfl, by decide, by decide, q_280⟩
theorem i6_countClasses_24 : ILi cX6_countClasses 24 26 5 := Or.inr ⟨by decide +kernel, rfl⟩
theorem i6_countClasses_26 : IO cX6_countClasses 26 27 .iaload := ⟨by decide +kernel, rfl⟩
theorem i6_countClasses_27 : IJ cX6_countClasses 27 30 42 (.ifCond .ge) := ⟨15, by decide +kernel, rfl, by decide⟩
theorem i6_countClasses_30 : II cX6_countClasses 30 33 4 (1) := ⟨by decide +kernel, by decide, rfl⟩
theorem i6_countClasses_33 : ILa cX6_countClasses 33 34 0 := Or.inl ⟨0, by decide +kernel, rfl, rfl⟩
theorem i6_countClasses_34 : ILi cX6_countClasses 34 36 5 := Or.inr ⟨by decide +kernel, rfl⟩
theorem i6_countClasses_36 : ILa cX6_countClasses 36 37 1 := Or.inl ⟨1, by decide +kernel, rfl, rfl⟩
theorem i6_countClasses_37 : ILa cX6_countClasses 37 38 2 := Or.inl ⟨2, by decide +kernel, rfl, rfl⟩
theorem i6_countClasses_38 : ILa cX6_countClasses 38 39 3 := Or.inl ⟨3, by decide +kernel, rfl, rfl⟩
theorem i6_countClasses_39 : ICV m6_countClasses 39 42 m6_reachFrom := ⟨28, by decide +kernel, rfl, q_672⟩
theorem i6_countClasses_42 : II cX6_countClasses 42 45 5 (1) := ⟨by decide +kernel, by decide, rfl⟩
theorem i6_countClasses_45 : IJ cX6_countClasses 45 48 11 .goto := ⟨-34, by decide +kernel, rfl, by decide⟩
theorem i6_countClasses_48 : ILi cX6_countClasses 48 50 4 := Or.inr ⟨by decide +kernel, rfl⟩
theorem i6_countClasses_50 : IO cX6_countClasses 50 51 .ireturn := ⟨by decide +kernel, rfl⟩
theorem i6_countSteps_0 : ILi cX6_countSteps 0 2 4 := Or.inr ⟨by decide +kernel, rfl⟩
theorem i6_countSteps_2 : IJ cX6_countSteps 2 5 28 (.ifCond .lt) := ⟨26, by decide +kernel, rfl, by decide⟩
theorem i6_countSteps_5 : ILi cX6_countSteps 5 7 4 := Or.inr ⟨by decide +kernel, rfl⟩
theorem i6_countSteps_7 : ILa cX6_countSteps 7 8 1 := Or.inl ⟨1, by decide +kernel, rfl, rfl⟩
theorem i6_countSteps_8 : IGF m6_countSteps 8 11 1 0 := ⟨22, by decide +kernel, rfl, by decide, by decide, q_256⟩
theorem i6_countSteps_11 : IJ cX6_countSteps 11 14 28 (.if_icmp .ge) := ⟨17, by decide +kernel, rfl, by decide⟩
theorem i6_countSteps_14 : ILi cX6_countSteps 14 16 5 := Or.inr ⟨by decide +kernel, rfl⟩
theorem i6_countSteps_16 : IJ cX6_countSteps 16 19 28 (.ifCond .lt) := ⟨12, by decide +kernel, rfl, by decide⟩
theorem i6_countSteps_19 : ILi cX6_countSteps 19 21 5 := Or.inr ⟨by decide +kernel, rfl⟩
theorem i6_countSteps_21 : ILa cX6_countSteps 21 22 1 := Or.inl ⟨1, by decide +kernel, rfl, rfl⟩
theorem i6_countSteps_22 : IGF m6_countSteps 22 25 1 0 := ⟨22, by decide +kernel, rfl, by decide, by decide, q_256⟩
theorem i6_countSteps_25 : IJ cX6_countSteps 25 28 30 (.if_icmp .lt) := ⟨5, by decide +kernel, rfl, by decide⟩
theorem i6_countSteps_28 : IC cX6_countSteps 28 29 (-1) := ⟨by decide, Or.inl ⟨by decide +kernel, rfl⟩⟩
theorem i6_countSteps_29 : IO cX6_countSteps 29 30 .ireturn := ⟨by decide +kernel, rfl⟩
theorem i6_countSteps_30 : ILa cX6_countSteps 30 31 0 := Or.inl ⟨0, by decide +kernel, rfl, rfl⟩
theorem i6_countSteps_31 : ILa cX6_countSteps 31 32 1 := Or.inl ⟨1, by decide +kernel, rfl, rfl⟩
theorem i6_countSteps_32 : ICV m6_countSteps 32 35 m6_forget := ⟨18, by decide +kernel, rfl, q_668⟩
theorem i6_countSteps_35 : ILa cX6_countSteps 35 36 0 := Or.inl ⟨0, by decide +kernel, rfl, rfl⟩
theorem i6_countSteps_36 : ILi cX6_countSteps 36 38 4 := Or.inr ⟨by decide +kernel, rfl⟩
theorem i6_countSteps_38 : ILa cX6_countSteps 38 39 1 := Or.inl ⟨1, by decide +kernel, rfl, rfl⟩
theorem i6_countSteps_39 : ILa cX6_countSteps 39 40 2 := Or.inl ⟨2, by decide +kernel, rfl, rfl⟩
theorem i6_countSteps_40 : ILa cX6_countSteps 40 41 3 := Or.inl ⟨3, by decide +kernel, rfl, rfl⟩
theorem i6_countSteps_41 : ICV m6_countSteps 41 44 m6_reachFrom := ⟨28, by decide +kernel, rfl, q_672⟩
theorem i6_countSteps_44 : ILa cX6_countSteps 44 45 0 := Or.inl ⟨0, by decide +kernel, rfl, rfl⟩
theorem i6_countSteps_45 : IGF m6_countSteps 45 48 6 1 := ⟨15, by decide +kernel, rfl, by decide, by decide, q_280⟩
theorem i6_countSteps_48 : ILi cX6_countSteps 48 50 5 := Or.inr ⟨by decide +kernel, rfl⟩
theorem i6_countSteps_50 : IO cX6_countSteps 50 51 .iaload := ⟨by decide +kernel, rfl⟩
theorem i6_countSteps_51 : IO cX6_countSteps 51 52 .ireturn := ⟨by decide +kernel, rfl⟩
theorem i6_forget_0 : IC cX6_forget 0 1 (0) := ⟨by decide, Or.inl ⟨by decide +kernel, rfl⟩⟩
theorem i6_forget_1 : ISi cX6_forget 1 2 2 := Or.inl ⟨2, by decide +kernel, rfl, rfl⟩
theorem i6_forget_2 : ILi cX6_forget 2 3 2 := Or.inl ⟨2, by decide +kernel, rfl, rfl⟩
theorem i6_forget_3 : ILa cX6_forget 3 4 1 := Or.inl ⟨1, by decide +kernel, rfl, rfl⟩
theorem i6_forget_4 : IGF m6_forget 4 7 1 0 := ⟨22, by decide +kernel, rfl, by decide, by decide, q_256⟩
theorem i6_forget_7 : IJ cX6_forget 7 10 23 (.if_icmp .ge) := ⟨16, by decide +kernel, rfl, by decide⟩
theorem i6_forget_10 : ILa cX6_forget 10 11 0 := Or.inl ⟨0, by decide +kernel, rfl, rfl⟩
theorem i6_forget_11 : IGF m6_forget 11 14 6 1 := ⟨15, by decide +kernel, rfl, by decide, by decide, q_280⟩
theorem i6_forget_14 : ILi cX6_forget 14 15 2 := Or.inl ⟨2, by decide +kernel, rfl, rfl⟩
theorem i6_forget_15 : IC cX6_forget 15 16 (-1) := ⟨by decide, Or.inl ⟨by decide +kernel, rfl⟩⟩
theorem i6_forget_16 : IO cX6_forget 16 17 .iastore := ⟨by decide +kernel, rfl⟩
theorem i6_forget_17 : II cX6_forget 17 20 2 (1) := ⟨by decide +kernel, by decide, rfl⟩
theorem i6_forget_20 : IJ cX6_forget 20 23 2 .goto := ⟨-18, by decide +kernel, rfl, by decide⟩
theorem i6_forget_23 : IO cX6_forget 23 24 .return_ := ⟨by decide +kernel, rfl⟩
theorem i6_reachFrom_0 : ILa cX6_reachFrom 0 1 0 := Or.inl ⟨0, by decide +kernel, rfl, rfl⟩
theorem i6_reachFrom_1 : IC cX6_reachFrom 1 2 (0) := ⟨by decide, Or.inl ⟨by decide +kernel, rfl⟩⟩
theorem i6_reachFrom_2 : IPF m6_reachFrom 2 5 6 2 := ⟨32, by decide +kernel, rfl, by decide, by decide, q_281, rfl⟩
theorem i6_reachFrom_5 : ILa cX6_reachFrom 5 6 0 := Or.inl ⟨0, by decide +kernel, rfl, rfl⟩
theorem i6_reachFrom_6 : ILi cX6_reachFrom 6 7 1 := Or.inl ⟨1, by decide +kernel, rfl, rfl⟩
theorem i6_reachFrom_7 : IC cX6_reachFrom 7 8 (0) := ⟨by decide, Or.inl ⟨by decide +kernel, rfl⟩⟩
theorem i6_reachFrom_8 : ICV m6_reachFrom 8 11 m6_reach := ⟨35, by decide +kernel, rfl, q_676⟩
theorem i6_reachFrom_11 : IC cX6_reachFrom 11 12 (0) := ⟨by decide, Or.inl ⟨by decide +kernel, rfl⟩⟩
theorem i6_reachFrom_12 : ISi cX6_reachFrom 12 14 5 := Or.inr ⟨by decide +kernel, rfl⟩
theorem i6_reachFrom_14 : ILi cX6_reachFrom 14 16 5 := Or.inr ⟨by decide +kernel, rfl⟩
theorem i6_reachFrom_16 : ILa cX6_reachFrom 16 17 0 := Or.inl ⟨0, by decide +kernel, rfl, rfl⟩
theorem i6_reachFrom_17 : IGF m6_reachFrom 17 20 6 2 := ⟨32, by decide +kernel, rfl, by decide, by decide, q_281⟩
theorem i6_reachFrom_20 : IJ cX6_reachFrom 20 23 119 (.if_icmp .ge) := ⟨99, by decide +kernel, rfl, by decide⟩
theorem i6_reachFrom_23 : ILi cX6_reachFrom 23 25 5 := Or.inr ⟨by decide +kernel, rfl⟩
theorem i6_reachFrom_25 : ILa cX6_reachFrom 25 26 0 := Or.inl ⟨0, by decide +kernel, rfl, rfl⟩
theorem i6_reachFrom_26 : IGF m6_reachFrom 26 29 6 0 := ⟨9, by decide +kernel, rfl, by decide, by decide, q_279⟩
theorem i6_reachFrom_29 : IO cX6_reachFrom 29 30 .arraylength := ⟨by decide +kernel, rfl⟩
theorem i6_reachFrom_30 : IJ cX6_reachFrom 30 33 119 (.if_icmp .ge) := ⟨89, by decide +kernel, rfl, by decide⟩
theorem i6_reachFrom_33 : ILa cX6_reachFrom 33 34 0 := Or.inl ⟨0, by decide +kernel, rfl, rfl⟩
theorem i6_reachFrom_34 : IGF m6_reachFrom 34 37 6 0 := ⟨9, by decide +kernel, rfl, by decide, by decide, q_279⟩
theorem i6_reachFrom_37 : ILi cX6_reachFrom 37 39 5 := Or.inr ⟨by decide +kernel, rfl⟩
theorem i6_reachFrom_39 : IO cX6_reachFrom 39 40 .iaload := ⟨by decide +kernel, rfl⟩
theorem i6_reachFrom_40 : ISi cX6_reachFrom 40 42 6 := Or.inr ⟨by decide +kernel, rfl⟩
theorem i6_reachFrom_42 : IC cX6_reachFrom 42 43 (0) := ⟨by decide, Or.inl ⟨by decide +kernel, rfl⟩⟩
theorem i6_reachFrom_43 : ISi cX6_reachFrom 43 45 7 := Or.inr ⟨by decide +kernel, rfl⟩
theorem i6_reachFrom_45 : ILi cX6_reachFrom 45 47 7 := Or.inr ⟨by decide +kernel, rfl⟩
theorem i6_reachFrom_47 : ILa cX6_reachFrom 47 48 3 := Or.inl ⟨3, by decide +kernel, rfl, rfl⟩
theorem i6_reachFrom_48 : IGF m6_reachFrom 48 51 2 0 := ⟨39, by decide +kernel, rfl, by decide, by decide, q_185⟩
theorem i6_reachFrom_51 : IJ cX6_reachFrom 51 54 113 (.if_icmp .ge) := ⟨62, by decide +kernel, rfl, by decide⟩
theorem i6_reachFrom_54 : ILa cX6_reachFrom 54 56 4 := Or.inr ⟨by decide +kernel, rfl⟩
theorem i6_reachFrom_56 : ILi cX6_reachFrom 56 58 7 := Or.inr ⟨by decide +kernel, rfl⟩
theorem i6_reachFrom_58 : ICV m6_reachFrom 58 61 m5_isOn := ⟨44, by decide +kernel, rfl, q_680⟩
theorem i6_reachFrom_61 : IJ cX6_reachFrom 61 64 107 (.ifCond .eq) := ⟨46, by decide +kernel, rfl, by decide⟩
theorem i6_reachFrom_64 : ILa cX6_reachFrom 64 65 0 := Or.inl ⟨0, by decide +kernel, rfl, rfl⟩
theorem i6_reachFrom_65 : IGF m6_reachFrom 65 68 6 1 := ⟨15, by decide +kernel, rfl, by decide, by decide, q_280⟩
theorem i6_reachFrom_68 : ILi cX6_reachFrom 68 70 6 := Or.inr ⟨by decide +kernel, rfl⟩
theorem i6_reachFrom_70 : IO cX6_reachFrom 70 71 .iaload := ⟨by decide +kernel, rfl⟩
theorem i6_reachFrom_71 : IC cX6_reachFrom 71 72 (1) := ⟨by decide, Or.inl ⟨by decide +kernel, rfl⟩⟩
theorem i6_reachFrom_72 : IO cX6_reachFrom 72 73 .iadd := ⟨by decide +kernel, rfl⟩
theorem i6_reachFrom_73 : ISi cX6_reachFrom 73 75 8 := Or.inr ⟨by decide +kernel, rfl⟩
theorem i6_reachFrom_75 : ILa cX6_reachFrom 75 76 0 := Or.inl ⟨0, by decide +kernel, rfl, rfl⟩
theorem i6_reachFrom_76 : ILa cX6_reachFrom 76 77 2 := Or.inl ⟨2, by decide +kernel, rfl, rfl⟩
theorem i6_reachFrom_77 : ILi cX6_reachFrom 77 79 6 := Or.inr ⟨by decide +kernel, rfl⟩
theorem i6_reachFrom_79 : ILa cX6_reachFrom 79 80 3 := Or.inl ⟨3, by decide +kernel, rfl, rfl⟩
theorem i6_reachFrom_80 : ILi cX6_reachFrom 80 82 7 := Or.inr ⟨by decide +kernel, rfl⟩
theorem i6_reachFrom_82 : IC cX6_reachFrom 82 83 (1) := ⟨by decide, Or.inl ⟨by decide +kernel, rfl⟩⟩
theorem i6_reachFrom_83 : ICV m6_reachFrom 83 86 m1_numberAfterStep := ⟨50, by decide +kernel, rfl, q_681⟩
theorem i6_reachFrom_86 : ILi cX6_reachFrom 86 88 8 := Or.inr ⟨by decide +kernel, rfl⟩
theorem i6_reachFrom_88 : ICV m6_reachFrom 88 91 m6_reach := ⟨35, by decide +kernel, rfl, q_676⟩
theorem i6_reachFrom_91 : ILa cX6_reachFrom 91 92 0 := Or.inl ⟨0, by decide +kernel, rfl, rfl⟩
theorem i6_reachFrom_92 : ILa cX6_reachFrom 92 93 2 := Or.inl ⟨2, by decide +kernel, rfl, rfl⟩
theorem i6_reachFrom_93 : ILi cX6_reachFrom 93 95 6 := Or.inr ⟨by decide +kernel, rfl⟩
theorem i6_reachFrom_95 : ILa cX6_reachFrom 95 96 3 := Or.inl ⟨3, by decide +kernel, rfl, rfl⟩
theorem i6_reachFrom_96 : ILi cX6_reachFrom 96 98 7 := Or.inr ⟨by decide +kernel, rfl⟩
theorem i6_reachFrom_98 : IC cX6_reachFrom 98 99 (-1) := ⟨by decide, Or.inl ⟨by decide +kernel, rfl⟩⟩
theorem i6_reachFrom_99 : ICV m6_reachFrom 99 102 m1_numberAfterStep := ⟨50, by decide +kernel, rfl, q_681⟩
theorem i6_reachFrom_102 : ILi cX6_reachFrom 102 104 8 := Or.inr ⟨by decide +kernel, rfl⟩
theorem i6_reachFrom_104 : ICV m6_reachFrom 104 107 m6_reach := ⟨35, by decide +kernel, rfl, q_676⟩
theorem i6_reachFrom_107 : II cX6_reachFrom 107 110 7 (1) := ⟨by decide +kernel, by decide, rfl⟩
theorem i6_reachFrom_110 : IJ cX6_reachFrom 110 113 45 .goto := ⟨-65, by decide +kernel, rfl, by decide⟩
theorem i6_reachFrom_113 : II cX6_reachFrom 113 116 5 (1) := ⟨by decide +kernel, by decide, rfl⟩
theorem i6_reachFrom_116 : IJ cX6_reachFrom 116 119 14 .goto := ⟨-102, by decide +kernel, rfl, by decide⟩
theorem i6_reachFrom_119 : IO cX6_reachFrom 119 120 .return_ := ⟨by decide +kernel, rfl⟩
theorem i6_reach_0 : ILi cX6_reach 0 1 1 := Or.inl ⟨1, by decide +kernel, rfl, rfl⟩
theorem i6_reach_1 : IJ cX6_reach 1 4 61 (.ifCond .lt) := ⟨60, by decide +kernel, rfl, by decide⟩
theorem i6_reach_4 : ILi cX6_reach 4 5 1 := Or.inl ⟨1, by decide +kernel, rfl, rfl⟩
theorem i6_reach_5 : ILa cX6_reach 5 6 0 := Or.inl ⟨0, by decide +kernel, rfl, rfl⟩
theorem i6_reach_6 : IGF m6_reach 6 9 6 1 := ⟨15, by decide +kernel, rfl, by decide, by decide, q_280⟩
theorem i6_reach_9 : IO cX6_reach 9 10 .arraylength := ⟨by decide +kernel, rfl⟩
theorem i6_reach_10 : IJ cX6_reach 10 13 61 (.if_icmp .ge) := ⟨51, by decide +kernel, rfl, by decide⟩
theorem i6_reach_13 : ILa cX6_reach 13 14 0 := Or.inl ⟨0, by decide +kernel, rfl, rfl⟩
theorem i6_reach_14 : IGF m6_reach 14 17 6 1 := ⟨15, by decide +kernel, rfl, by decide, by decide, q_280⟩
theorem i6_reach_17 : ILi cX6_reach 17 18 1 := Or.inl ⟨1, by decide +kernel, rfl, rfl⟩
theorem i6_reach_18 : IO cX6_reach 18 19 .iaload := ⟨by decide +kernel, rfl⟩
theorem i6_reach_19 : IJ cX6_reach 19 22 61 (.ifCond .ge) := ⟨42, by decide +kernel, rfl, by decide⟩
theorem i6_reach_22 : ILa cX6_reach 22 23 0 := Or.inl ⟨0, by decide +kernel, rfl, rfl⟩
theorem i6_reach_23 : IGF m6_reach 23 26 6 2 := ⟨32, by decide +kernel, rfl, by decide, by decide, q_281⟩
theorem i6_reach_26 : ILa cX6_reach 26 27 0 := Or.inl ⟨0, by decide +kernel, rfl, rfl⟩
theorem i6_reach_27 : IGF m6_reach 27 30 6 0 := ⟨9, by decide +kernel, rfl, by decide, by decide, q_279⟩
theorem i6_reach_30 : IO cX6_reach 30 31 .arraylength := ⟨by decide +kernel, rfl⟩
theorem i6_reach_31 : IJ cX6_reach 31 34 61 (.if_icmp .ge) := ⟨30, by decide +kernel, rfl, by decide⟩
theorem i6_reach_34 : ILa cX6_reach 34 35 0 := Or.inl ⟨0, by decide +kernel, rfl, rfl⟩
theorem i6_reach_35 : IGF m6_reach 35 38 6 1 := ⟨15, by decide +kernel, rfl, by decide, by decide, q_280⟩
theorem i6_reach_38 : ILi cX6_reach 38 39 1 := Or.inl ⟨1, by decide +kernel, rfl, rfl⟩
theorem i6_reach_39 : ILi cX6_reach 39 40 2 := Or.inl ⟨2, by decide +kernel, rfl, rfl⟩
theorem i6_reach_40 : IO cX6_reach 40 41 .iastore := ⟨by decide +kernel, rfl⟩
theorem i6_reach_41 : ILa cX6_reach 41 42 0 := Or.inl ⟨0, by decide +kernel, rfl, rfl⟩
theorem i6_reach_42 : IGF m6_reach 42 45 6 0 := ⟨9, by decide +kernel, rfl, by decide, by decide, q_279⟩
theorem i6_reach_45 : ILa cX6_reach 45 46 0 := Or.inl ⟨0, by decide +kernel, rfl, rfl⟩
theorem i6_reach_46 : IGF m6_reach 46 49 6 2 := ⟨32, by decide +kernel, rfl, by decide, by decide, q_281⟩
theorem i6_reach_49 : ILi cX6_reach 49 50 1 := Or.inl ⟨1, by decide +kernel, rfl, rfl⟩
theorem i6_reach_50 : IO cX6_reach 50 51 .iastore := ⟨by decide +kernel, rfl⟩
theorem i6_reach_51 : ILa cX6_reach 51 52 0 := Or.inl ⟨0, by decide +kernel, rfl, rfl⟩
theorem i6_reach_52 : IO cX6_reach 52 53 .dup := ⟨by decide +kernel, rfl⟩
theorem i6_reach_53 : IGF m6_reach 53 56 6 2 := ⟨32, by decide +kernel, rfl, by decide, by decide, q_281⟩
theorem i6_reach_56 : IC cX6_reach 56 57 (1) := ⟨by decide, Or.inl ⟨by decide +kernel, rfl⟩⟩
theorem i6_reach_57 : IO cX6_reach 57 58 .iadd := ⟨by decide +kernel, rfl⟩
theorem i6_reach_58 : IPF m6_reach 58 61 6 2 := ⟨32, by decide +kernel, rfl, by decide, by decide, q_281, rfl⟩
theorem i6_reach_61 : IO cX6_reach 61 62 .return_ := ⟨by decide +kernel, rfl⟩
theorem i7_init_0 : ILa cX7_init 0 1 0 := Or.inl ⟨0, by decide +kernel, rfl, rfl⟩
theorem i7_init_1 : ICI m7_init 1 4 objectInit := ⟨3, by decide +kernel, rfl, q_93⟩
theorem i7_init_4 : ILa cX7_init 4 5 0 := Or.inl ⟨0, by decide +kernel, rfl, rfl⟩
theorem i7_init_5 : INW m7_init 5 8 5 := ⟨9, by decide +kernel, rfl, by decide, q_96, q_97, q_77⟩
theorem i7_init_8 : IO cX7_init 8 9 .dup := ⟨by decide +kernel, rfl⟩
theorem i7_init_9 : ICN m7_init 9 12 11 := ⟨by decide +kernel, rfl⟩
theorem i7_init_12 : IPZ m7_init 12 15 7 0 := ⟨12, by decide +kernel, rfl, by decide, by decide, q_396, rfl, rfl, rfl⟩
theorem i7_init_15 : ILa cX7_init 15 16 0 := Or.inl ⟨0, by decide +kernel, rfl, rfl⟩
theorem i7_init_16 : INW m7_init 16 19 3 := ⟨16, by decide +kernel, rfl, by decide, q_128, q_129, q_78⟩
theorem i7_init_19 : IO cX7_init 19 20 .dup := ⟨by decide +kernel, rfl⟩
theorem i7_init_20 : ICI m7_init 20 23 yX3_init := ⟨18, by decide +kernel, rfl, q_130⟩
theorem i7_init_23 : IPZ m7_init 23 26 7 1 := ⟨19, by decide +kernel, rfl, by decide, by decide, q_397, rfl, rfl, rfl⟩
theorem i7_init_26 : ILa cX7_init 26 27 0 := Or.inl ⟨0, by decide +kernel, rfl, rfl⟩
theorem i7_init_27 : INW m7_init 27 30 4 := ⟨23, by decide +kernel, rfl, by decide, q_148, q_149, q_79⟩
theorem i7_init_30 : IO cX7_init 30 31 .dup := ⟨by decide +kernel, rfl⟩
theorem i7_init_31 : ICN m7_init 31 34 25 := ⟨by decide +kernel, rfl⟩
theorem i7_init_34 : IPZ m7_init 34 37 7 2 := ⟨26, by decide +kernel, rfl, by decide, by decide, q_398, rfl, rfl, rfl⟩
theorem i7_init_37 : ILa cX7_init 37 38 0 := Or.inl ⟨0, by decide +kernel, rfl, rfl⟩
theorem i7_init_38 : INW m7_init 38 41 2 := ⟨30, by decide +kernel, rfl, by decide, q_177, q_178, q_80⟩
theorem i7_init_41 : IO cX7_init 41 42 .dup := ⟨by decide +kernel, rfl⟩
theorem i7_init_42 : ICN m7_init 42 45 32 := ⟨by decide +kernel, rfl⟩
theorem i7_init_45 : IPZ m7_init 45 48 7 3 := ⟨33, by decide +kernel, rfl, by decide, by decide, q_399, rfl, rfl, rfl⟩
theorem i7_init_48 : ILa cX7_init 48 49 0 := Or.inl ⟨0, by decide +kernel, rfl, rfl⟩
theorem i7_init_49 : INW m7_init 49 52 0 := ⟨37, by decide +kernel, rfl, by decide, q_231, q_232, q_81⟩
theorem i7_init_52 : IO cX7_init 52 53 .dup := ⟨by decide +kernel, rfl⟩
theorem i7_init_53 : ICN m7_init 53 56 39 := ⟨by decide +kernel, rfl⟩
theorem i7_init_56 : IPZ m7_init 56 59 7 4 := ⟨40, by decide +kernel, rfl, by decide, by decide, q_400, rfl, rfl, rfl⟩
theorem i7_init_59 : ILa cX7_init 59 60 0 := Or.inl ⟨0, by decide +kernel, rfl, rfl⟩
theorem i7_init_60 : INW m7_init 60 63 1 := ⟨44, by decide +kernel, rfl, by decide, q_249, q_250, q_82⟩
theorem i7_init_63 : IO cX7_init 63 64 .dup := ⟨by decide +kernel, rfl⟩
theorem i7_init_64 : IC cX7_init 64 67 (2048) := ⟨by decide, Or.inr (Or.inr ⟨by decide +kernel, by decide +kernel, rfl⟩)⟩
theorem i7_init_67 : ICI m7_init 67 70 yX1_init := ⟨46, by decide +kernel, rfl, q_251⟩
theorem i7_init_70 : IPZ m7_init 70 73 7 5 := ⟨49, by decide +kernel, rfl, by decide, by decide, q_401, rfl, rfl, rfl⟩
theorem i7_init_73 : ILa cX7_init 73 74 0 := Or.inl ⟨0, by decide +kernel, rfl, rfl⟩
theorem i7_init_74 : INW m7_init 74 77 1 := ⟨44, by decide +kernel, rfl, by decide, q_249, q_250, q_82⟩
theorem i7_init_77 : IO cX7_init 77 78 .dup := ⟨by decide +kernel, rfl⟩
theorem i7_init_78 : IC cX7_init 78 80 (32) := ⟨by decide, Or.inr (Or.inl ⟨by decide +kernel, by decide +kernel, rfl⟩)⟩
theorem i7_init_80 : ICI m7_init 80 83 yX1_init := ⟨46, by decide +kernel, rfl, q_251⟩
theorem i7_init_83 : IPZ m7_init 83 86 7 6 := ⟨53, by decide +kernel, rfl, by decide, by decide, q_402, rfl, rfl, rfl⟩
theorem i7_init_86 : ILa cX7_init 86 87 0 := Or.inl ⟨0, by decide +kernel, rfl, rfl⟩
theorem i7_init_87 : INW m7_init 87 90 6 := ⟨56, by decide +kernel, rfl, by decide, q_273, q_274, q_83⟩
theorem i7_init_90 : IO cX7_init 90 91 .dup := ⟨by decide +kernel, rfl⟩
theorem i7_init_91 : ICN m7_init 91 94 58 := ⟨by decide +kernel, rfl⟩
theorem i7_init_94 : IPZ m7_init 94 97 7 7 := ⟨59, by decide +kernel, rfl, by decide, by decide, q_403, rfl, rfl, rfl⟩
theorem i7_init_97 : ILa cX7_init 97 98 0 := Or.inl ⟨0, by decide +kernel, rfl, rfl⟩
theorem i7_init_98 : IC cX7_init 98 99 (4) := ⟨by decide, Or.inl ⟨by decide +kernel, rfl⟩⟩
theorem i7_init_99 : INA cX7_init 99 101 := ⟨by decide +kernel, rfl⟩
theorem i7_init_101 : IPZ m7_init 101 104 7 8 := ⟨63, by decide +kernel, rfl, by decide, by decide, q_404, rfl, rfl, rfl⟩
theorem i7_init_104 : ILa cX7_init 104 105 0 := Or.inl ⟨0, by decide +kernel, rfl, rfl⟩
theorem i7_init_105 : IGF m7_init 105 108 7 0 := ⟨12, by decide +kernel, rfl, by decide, by decide, q_396⟩
theorem i7_init_108 : IC cX7_init 108 109 (1) := ⟨by decide, Or.inl ⟨by decide +kernel, rfl⟩⟩
theorem i7_init_109 : IC cX7_init 109 110 (3) := ⟨by decide, Or.inl ⟨by decide +kernel, rfl⟩⟩
theorem i7_init_110 : ICV m7_init 110 113 m5_reshape := ⟨67, by decide +kernel, rfl, q_289⟩
theorem i7_init_113 : ILa cX7_init 113 114 0 := Or.inl ⟨0, by decide +kernel, rfl, rfl⟩
theorem i7_init_114 : IGF m7_init 114 117 7 0 := ⟨12, by decide +kernel, rfl, by decide, by decide, q_396⟩
theorem i7_init_117 : ICV m7_init 117 120 m5_fillWithOnes := ⟨71, by decide +kernel, rfl, q_293⟩
theorem i7_init_120 : ILa cX7_init 120 121 0 := Or.inl ⟨0, by decide +kernel, rfl, rfl⟩
theorem i7_init_121 : ICV m7_init 121 124 m7_takeNewMatrix := ⟨74, by decide +kernel, rfl, q_301⟩
theorem i7_init_124 : IO cX7_init 124 125 .return_ := ⟨by decide +kernel, rfl⟩
theorem i7_configure_0 : ILi cX7_configure 0 1 1 := Or.inl ⟨1, by decide +kernel, rfl, rfl⟩
theorem i7_configure_1 : IC cX7_configure 1 2 (1) := ⟨by decide, Or.inl ⟨by decide +kernel, rfl⟩⟩
theorem i7_configure_2 : IJ cX7_configure 2 5 20 (.if_icmp .lt) := ⟨18, by decide +kernel, rfl, by decide⟩
theorem i7_configure_5 : ILi cX7_configure 5 6 1 := Or.inl ⟨1, by decide +kernel, rfl, rfl⟩
theorem i7_configure_6 : IC cX7_configure 6 7 (2) := ⟨by decide, Or.inl ⟨by decide +kernel, rfl⟩⟩
theorem i7_configure_7 : IJ cX7_configure 7 10 20 (.if_icmp .gt) := ⟨13, by decide +kernel, rfl, by decide⟩
theorem i7_configure_10 : ILi cX7_configure 10 11 2 := Or.inl ⟨2, by decide +kernel, rfl, rfl⟩
theorem i7_configure_11 : IC cX7_configure 11 12 (2) := ⟨by decide, Or.inl ⟨by decide +kernel, rfl⟩⟩
theorem i7_configure_12 : IJ cX7_configure 12 15 20 (.if_icmp .lt) := ⟨8, by decide +kernel, rfl, by decide⟩
theorem i7_configure_15 : ILi cX7_configure 15 16 2 := Or.inl ⟨2, by decide +kernel, rfl, rfl⟩
theorem i7_configure_16 : IC cX7_configure 16 17 (4) := ⟨by decide, Or.inl ⟨by decide +kernel, rfl⟩⟩
theorem i7_configure_17 : IJ cX7_configure 17 20 24 (.if_icmp .le) := ⟨7, by decide +kernel, rfl, by decide⟩
theorem i7_configure_20 : IC cX7_configure 20 23 (-1001) := ⟨by decide, Or.inr (Or.inr ⟨by decide +kernel, by decide +kernel, rfl⟩)⟩
theorem i7_configure_23 : IO cX7_configure 23 24 .ireturn := ⟨by decide +kernel, rfl⟩
theorem i7_configure_24 : ILa cX7_configure 24 25 0 := Or.inl ⟨0, by decide +kernel, rfl, rfl⟩
theorem i7_configure_25 : IGF m7_configure 25 28 7 0 := ⟨12, by decide +kernel, rfl, by decide, by decide, q_396⟩
theorem i7_configure_28 : IGF m7_configure 28 31 5 1 := ⟨77, by decide +kernel, rfl, by decide, by decide, q_105⟩
theorem i7_configure_31 : ISi cX7_configure 31 32 3 := Or.inl ⟨3, by decide +kernel, rfl, rfl⟩
theorem i7_configure_32 : ILa cX7_configure 32 33 0 := Or.inl ⟨0, by decide +kernel, rfl, rfl⟩
theorem i7_configure_33 : ICV m7_configure 33 36 m7_save := ⟨81, by decide +kernel, rfl, q_431⟩
theorem i7_configure_36 : ILa cX7_configure 36 37 0 := Or.inl ⟨0, by decide +kernel, rfl, rfl⟩
theorem i7_configure_37 : IGF m7_configure 37 40 7 0 := ⟨12, by decide +kernel, rfl, by decide, by decide, q_396⟩
theorem i7_configure_40 : ILi cX7_configure 40 41 1 := Or.inl ⟨1, by decide +kernel, rfl, rfl⟩
theorem i7_configure_41 : ILi cX7_configure 41 42 2 := Or.inl ⟨2, by decide +kernel, rfl, rfl⟩
theorem i7_configure_42 : ICV m7_configure 42 45 m5_reshape := ⟨67, by decide +kernel, rfl, q_289⟩
theorem i7_configure_45 : ILa cX7_configure 45 46 0 := Or.inl ⟨0, by decide +kernel, rfl, rfl⟩
theorem i7_configure_46 : IGF m7_configure 46 49 7 0 := ⟨12, by decide +kernel, rfl, by decide, by decide, q_396⟩
theorem i7_configure_49 : ICV m7_configure 49 52 m5_fillWithOnes := ⟨71, by decide +kernel, rfl, q_293⟩
theorem i7_configure_52 : ILa cX7_configure 52 53 0 := Or.inl ⟨0, by decide +kernel, rfl, rfl⟩
theorem i7_configure_53 : ICV m7_configure 53 56 m7_takeNewMatrix := ⟨74, by decide +kernel, rfl, q_301⟩
theorem i7_configure_56 : ILi cX7_configure 56 57 3 := Or.inl ⟨3, by decide +kernel, rfl, rfl⟩
theorem i7_configure_57 : IO cX7_configure 57 58 .ireturn := ⟨by decide +kernel, rfl⟩
theorem i7_setEntry_0 : ILa cX7_setEntry 0 1 0 := Or.inl ⟨0, by decide +kernel, rfl, rfl⟩
theorem i7_setEntry_1 : ILi cX7_setEntry 1 2 1 := Or.inl ⟨1, by decide +kernel, rfl, rfl⟩
theorem i7_setEntry_2 : ICV m7_setEntry 2 5 m7_isRow := ⟨84, by decide +kernel, rfl, q_448⟩
theorem i7_setEntry_5 : IJ cX7_setEntry 5 8 25 (.ifCond .eq) := ⟨20, by decide +kernel, rfl, by decide⟩
theorem i7_setEntry_8 : ILa cX7_setEntry 8 9 0 := Or.inl ⟨0, by decide +kernel, rfl, rfl⟩
theorem i7_setEntry_9 : ILi cX7_setEntry 9 10 2 := Or.inl ⟨2, by decide +kernel, rfl, rfl⟩
theorem i7_setEntry_10 : ICV m7_setEntry 10 13 m7_isColumn := ⟨88, by decide +kernel, rfl, q_452⟩
theorem i7_setEntry_13 : IJ cX7_setEntry 13 16 25 (.ifCond .eq) := ⟨12, by decide +kernel, rfl, by decide⟩
theorem i7_setEntry_16 : ILi cX7_setEntry 16 17 3 := Or.inl ⟨3, by decide +kernel, rfl, rfl⟩
theorem i7_setEntry_17 : IJ cX7_setEntry 17 20 25 (.ifCond .lt) := ⟨8, by decide +kernel, rfl, by decide⟩
theorem i7_setEntry_20 : ILi cX7_setEntry 20 21 3 := Or.inl ⟨3, by decide +kernel, rfl, rfl⟩
theorem i7_setEntry_21 : IC cX7_setEntry 21 22 (3) := ⟨by decide, Or.inl ⟨by decide +kernel, rfl⟩⟩
theorem i7_setEntry_22 : IJ cX7_setEntry 22 25 29 (.if_icmp .le) := ⟨7, by decide +kernel, rfl, by decide⟩
theorem i7_setEntry_25 : IC cX7_setEntry 25 28 (-1001) := ⟨by decide, Or.inr (Or.inr ⟨by decide +kernel, by decide +kernel, rfl⟩)⟩
theorem i7_setEntry_28 : IO cX7_setEntry 28 29 .ireturn := ⟨by decide +kernel, rfl⟩
theorem i7_setEntry_29 : ILa cX7_setEntry 29 30 0 := Or.inl ⟨0, by decide +kernel, rfl, rfl⟩
theorem i7_setEntry_30 : IGF m7_setEntry 30 33 7 0 := ⟨12, by decide +kernel, rfl, by decide, by decide, q_396⟩
theorem i7_setEntry_33 : ILi cX7_setEntry 33 34 1 := Or.inl ⟨1, by decide +kernel, rfl, rfl⟩
theorem i7_setEntry_34 : ILi cX7_setEntry 34 35 2 := Or.inl ⟨2, by decide +kernel, rfl, rfl⟩
theorem i7_setEntry_35 : ICV m7_setEntry 35 38 m5_at := ⟨91, by decide +kernel, rfl, q_456⟩
theorem i7_setEntry_38 : ISi cX7_setEntry 38 40 4 := Or.inr ⟨by decide +kernel, rfl⟩
theorem i7_setEntry_40 : ILi cX7_setEntry 40 42 4 := Or.inr ⟨by decide +kernel, rfl⟩
theorem i7_setEntry_42 : ILi cX7_setEntry 42 43 3 := Or.inl ⟨3, by decide +kernel, rfl, rfl⟩
theorem i7_setEntry_43 : IJ cX7_setEntry 43 46 50 (.if_icmp .ne) := ⟨7, by decide +kernel, rfl, by decide⟩
theorem i7_setEntry_46 : IC cX7_setEntry 46 49 (-1002) := ⟨by decide, Or.inr (Or.inr ⟨by decide +kernel, by decide +kernel, rfl⟩)⟩
theorem i7_setEntry_49 : IO cX7_setEntry 49 50 .ireturn := ⟨by decide +kernel, rfl⟩
theorem i7_setEntry_50 : ILa cX7_setEntry 50 51 0 := Or.inl ⟨0, by decide +kernel, rfl, rfl⟩
theorem i7_setEntry_51 : ICV m7_setEntry 51 54 m7_save := ⟨81, by decide +kernel, rfl, q_431⟩
theorem i7_setEntry_54 : ILa cX7_setEntry 54 55 0 := Or.inl ⟨0, by decide +kernel, rfl, rfl⟩
theorem i7_setEntry_55 : IGF m7_setEntry 55 58 7 0 := ⟨12, by decide +kernel, rfl, by decide, by decide, q_396⟩
theorem i7_setEntry_58 : ILi cX7_setEntry 58 59 1 := Or.inl ⟨1, by decide +kernel, rfl, rfl⟩
theorem i7_setEntry_59 : ILi cX7_setEntry 59 60 2 := Or.inl ⟨2, by decide +kernel, rfl, rfl⟩
theorem i7_setEntry_60 : ILi cX7_setEntry 60 61 3 := Or.inl ⟨3, by decide +kernel, rfl, rfl⟩
theorem i7_setEntry_61 : ICV m7_setEntry 61 64 m5_put := ⟨95, by decide +kernel, rfl, q_457⟩
theorem i7_setEntry_64 : ILa cX7_setEntry 64 65 0 := Or.inl ⟨0, by decide +kernel, rfl, rfl⟩
theorem i7_setEntry_65 : ICV m7_setEntry 65 68 m7_takeNewMatrix := ⟨74, by decide +kernel, rfl, q_301⟩
theorem i7_setEntry_68 : ILi cX7_setEntry 68 70 4 := Or.inr ⟨by decide +kernel, rfl⟩
theorem i7_setEntry_70 : IO cX7_setEntry 70 71 .ireturn := ⟨by decide +kernel, rfl⟩
theorem i7_append_0 : ILi cX7_append 0 1 1 := Or.inl ⟨1, by decide +kernel, rfl, rfl⟩
theorem i7_append_1 : IJ cX7_append 1 4 11 (.ifCond .lt) := ⟨10, by decide +kernel, rfl, by decide⟩
theorem i7_append_4 : ILi cX7_append 4 5 1 := Or.inl ⟨1, by decide +kernel, rfl, rfl⟩
theorem i7_append_5 : IC cX7_append 5 8 (255) := ⟨by decide, Or.inr (Or.inr ⟨by decide +kernel, by decide +kernel, rfl⟩)⟩
theorem i7_append_8 : IJ cX7_append 8 11 15 (.if_icmp .le) := ⟨7, by decide +kernel, rfl, by decide⟩
theorem i7_append_11 : IC cX7_append 11 14 (-1001) := ⟨by decide, Or.inr (Or.inr ⟨by decide +kernel, by decide +kernel, rfl⟩)⟩
theorem i7_append_14 : IO cX7_append 14 15 .ireturn := ⟨by decide +kernel, rfl⟩
theorem i7_append_15 : ILa cX7_append 15 16 0 := Or.inl ⟨0, by decide +kernel, rfl, rfl⟩
theorem i7_append_16 : IGF m7_append 16 19 7 2 := ⟨26, by decide +kernel, rfl, by decide, by decide, q_398⟩
theorem i7_append_19 : IGF m7_append 19 22 4 0 := ⟨99, by decide +kernel, rfl, by decide, by decide, q_155⟩
theorem i7_append_22 : IC cX7_append 22 24 (40) := ⟨by decide, Or.inr (Or.inl ⟨by decide +kernel, by decide +kernel, rfl⟩)⟩
theorem i7_append_24 : IJ cX7_append 24 27 31 (.if_icmp .lt) := ⟨7, by decide +kernel, rfl, by decide⟩
theorem i7_append_27 : IC cX7_append 27 30 (-1003) := ⟨by decide, Or.inr (Or.inr ⟨by decide +kernel, by decide +kernel, rfl⟩)⟩
theorem i7_append_30 : IO cX7_append 30 31 .ireturn := ⟨by decide +kernel, rfl⟩
theorem i7_append_31 : ILa cX7_append 31 32 0 := Or.inl ⟨0, by decide +kernel, rfl, rfl⟩
theorem i7_append_32 : IGF m7_append 32 35 7 2 := ⟨26, by decide +kernel, rfl, by decide, by decide, q_398⟩
theorem i7_append_35 : ILi cX7_append 35 36 1 := Or.inl ⟨1, by decide +kernel, rfl, rfl⟩
theorem i7_append_36 : ICV m7_append 36 39 m4_add := ⟨102, by decide +kernel, rfl, q_462⟩
theorem i7_append_39 : ILa cX7_append 39 40 0 := Or.inl ⟨0, by decide +kernel, rfl, rfl⟩
theorem i7_append_40 : IGF m7_append 40 43 7 2 := ⟨26, by decide +kernel, rfl, by decide, by decide, q_398⟩
theorem i7_append_43 : IGF m7_append 43 46 4 0 := ⟨99, by decide +kernel, rfl, by decide, by decide, q_155⟩
theorem i7_append_46 : IO cX7_append 46 47 .ireturn := ⟨by decide +kernel, rfl⟩
theorem i7_clearText_0 : ILa cX7_clearText 0 1 0 := Or.inl ⟨0, by decide +kernel, rfl, rfl⟩
theorem i7_clearText_1 : IGF m7_clearText 1 4 7 2 := ⟨26, by decide +kernel, rfl, by decide, by decide, q_398⟩
theorem i7_clearText_4 : IGF m7_clearText 4 7 4 0 := ⟨99, by decide +kernel, rfl, by decide, by decide, q_155⟩
theorem i7_clearText_7 : ISi cX7_clearText 7 8 1 := Or.inl ⟨1, by decide +kernel, rfl, rfl⟩
theorem i7_clearText_8 : ILa cX7_clearText 8 9 0 := Or.inl ⟨0, by decide +kernel, rfl, rfl⟩
theorem i7_clearText_9 : IGF m7_clearText 9 12 7 2 := ⟨26, by decide +kernel, rfl, by decide, by decide, q_398⟩
theorem i7_clearText_12 : IC cX7_clearText 12 13 (0) := ⟨by decide, Or.inl ⟨by decide +kernel, rfl⟩⟩
theorem i7_clearText_13 : IPF m7_clearText 13 16 4 0 := ⟨99, by decide +kernel, rfl, by decide, by decide, q_155, rfl⟩
theorem i7_clearText_16 : ILi cX7_clearText 16 17 1 := Or.inl ⟨1, by decide +kernel, rfl, rfl⟩
theorem i7_clearText_17 : IO cX7_clearText 17 18 .ireturn := ⟨by decide +kernel, rfl⟩
theorem i7_loadText_0 : ILa cX7_loadText 0 1 0 := Or.inl ⟨0, by decide +kernel, rfl, rfl⟩
theorem i7_loadText_1 : IGF m7_loadText 1 4 7 2 := ⟨26, by decide +kernel, rfl, by decide, by decide, q_398⟩
theorem i7_loadText_4 : ICV m7_loadText 4 7 m4_findError := ⟨105, by decide +kernel, rfl, q_474⟩
theorem i7_loadText_7 : ISi cX7_loadText 7 8 1 := Or.inl ⟨1, by decide +kernel, rfl, rfl⟩
theorem i7_loadText_8 : ILi cX7_loadText 8 9 1 := Or.inl ⟨1, by decide +kernel, rfl, rfl⟩
theorem i7_loadText_9 : IJ cX7_loadText 9 12 17 (.ifCond .lt) := ⟨8, by decide +kernel, rfl, by decide⟩
theorem i7_loadText_12 : IC cX7_loadText 12 14 (-10) := ⟨by decide, Or.inr (Or.inl ⟨by decide +kernel, by decide +kernel, rfl⟩)⟩
theorem i7_loadText_14 : ILi cX7_loadText 14 15 1 := Or.inl ⟨1, by decide +kernel, rfl, rfl⟩
theorem i7_loadText_15 : IO cX7_loadText 15 16 .isub := ⟨by decide +kernel, rfl⟩
theorem i7_loadText_16 : IO cX7_loadText 16 17 .ireturn := ⟨by decide +kernel, rfl⟩
theorem i7_loadText_17 : ILa cX7_loadText 17 18 0 := Or.inl ⟨0, by decide +kernel, rfl, rfl⟩
theorem i7_loadText_18 : ICV m7_loadText 18 21 m7_save := ⟨81, by decide +kernel, rfl, q_431⟩
theorem i7_loadText_21 : ILa cX7_loadText 21 22 0 := Or.inl ⟨0, by decide +kernel, rfl, rfl⟩
theorem i7_loadText_22 : IGF m7_loadText 22 25 7 0 := ⟨12, by decide +kernel, rfl, by decide, by decide, q_396⟩
theorem i7_loadText_25 : ILa cX7_loadText 25 26 0 := Or.inl ⟨0, by decide +kernel, rfl, rfl⟩
theorem i7_loadText_26 : IGF m7_loadText 26 29 7 2 := ⟨26, by decide +kernel, rfl, by decide, by decide, q_398⟩
theorem i7_loadText_29 : IGF m7_loadText 29 32 4 1 := ⟨109, by decide +kernel, rfl, by decide, by decide, q_157⟩
theorem i7_loadText_32 : ILa cX7_loadText 32 33 0 := Or.inl ⟨0, by decide +kernel, rfl, rfl⟩
theorem i7_loadText_33 : IGF m7_loadText 33 36 7 2 := ⟨26, by decide +kernel, rfl, by decide, by decide, q_398⟩
theorem i7_loadText_36 : IGF m7_loadText 36 39 4 2 := ⟨112, by decide +kernel, rfl, by decide, by decide, q_159⟩
theorem i7_loadText_39 : ICV m7_loadText 39 42 m5_reshape := ⟨67, by decide +kernel, rfl, q_289⟩
theorem i7_loadText_42 : ILa cX7_loadText 42 43 0 := Or.inl ⟨0, by decide +kernel, rfl, rfl⟩
theorem i7_loadText_43 : IGF m7_loadText 43 46 7 0 := ⟨12, by decide +kernel, rfl, by decide, by decide, q_396⟩
theorem i7_loadText_46 : ILa cX7_loadText 46 47 0 := Or.inl ⟨0, by decide +kernel, rfl, rfl⟩
theorem i7_loadText_47 : IGF m7_loadText 47 50 7 2 := ⟨26, by decide +kernel, rfl, by decide, by decide, q_398⟩
theorem i7_loadText_50 : IGF m7_loadText 50 53 4 3 := ⟨113, by decide +kernel, rfl, by decide, by decide, q_161⟩
theorem i7_loadText_53 : ICV m7_loadText 53 56 m5_fillFrom := ⟨116, by decide +kernel, rfl, q_494⟩
theorem i7_loadText_56 : ILa cX7_loadText 56 57 0 := Or.inl ⟨0, by decide +kernel, rfl, rfl⟩
theorem i7_loadText_57 : ICV m7_loadText 57 60 m7_takeNewMatrix := ⟨74, by decide +kernel, rfl, q_301⟩
theorem i7_loadText_60 : ILa cX7_loadText 60 61 0 := Or.inl ⟨0, by decide +kernel, rfl, rfl⟩
theorem i7_loadText_61 : IGF m7_loadText 61 64 7 2 := ⟨26, by decide +kernel, rfl, by decide, by decide, q_398⟩
theorem i7_loadText_64 : IC cX7_loadText 64 65 (0) := ⟨by decide, Or.inl ⟨by decide +kernel, rfl⟩⟩
theorem i7_loadText_65 : IPF m7_loadText 65 68 4 0 := ⟨99, by decide +kernel, rfl, by decide, by decide, q_155, rfl⟩
theorem i7_loadText_68 : ILa cX7_loadText 68 69 0 := Or.inl ⟨0, by decide +kernel, rfl, rfl⟩
theorem i7_loadText_69 : IGF m7_loadText 69 72 7 0 := ⟨12, by decide +kernel, rfl, by decide, by decide, q_396⟩
theorem i7_loadText_72 : IGF m7_loadText 72 75 5 0 := ⟨120, by decide +kernel, rfl, by decide, by decide, q_103⟩
theorem i7_loadText_75 : IO cX7_loadText 75 76 .ireturn := ⟨by decide +kernel, rfl⟩
theorem i7_entry_0 : ILa cX7_entry 0 1 0 := Or.inl ⟨0, by decide +kernel, rfl, rfl⟩
theorem i7_entry_1 : ILi cX7_entry 1 2 1 := Or.inl ⟨1, by decide +kernel, rfl, rfl⟩
theorem i7_entry_2 : ICV m7_entry 2 5 m7_isRow := ⟨84, by decide +kernel, rfl, q_448⟩
theorem i7_entry_5 : IJ cX7_entry 5 8 16 (.ifCond .eq) := ⟨11, by decide +kernel, rfl, by decide⟩
theorem i7_entry_8 : ILa cX7_entry 8 9 0 := Or.inl ⟨0, by decide +kernel, rfl, rfl⟩
theorem i7_entry_9 : ILi cX7_entry 9 10 2 := Or.inl ⟨2, by decide +kernel, rfl, rfl⟩
theorem i7_entry_10 : ICV m7_entry 10 13 m7_isColumn := ⟨88, by decide +kernel, rfl, q_452⟩
theorem i7_entry_13 : IJ cX7_entry 13 16 20 (.ifCond .ne) := ⟨7, by decide +kernel, rfl, by decide⟩
theorem i7_entry_16 : IC cX7_entry 16 19 (-1001) := ⟨by decide, Or.inr (Or.inr ⟨by decide +kernel, by decide +kernel, rfl⟩)⟩
theorem i7_entry_19 : IO cX7_entry 19 20 .ireturn := ⟨by decide +kernel, rfl⟩
theorem i7_entry_20 : ILa cX7_entry 20 21 0 := Or.inl ⟨0, by decide +kernel, rfl, rfl⟩
theorem i7_entry_21 : IGF m7_entry 21 24 7 0 := ⟨12, by decide +kernel, rfl, by decide, by decide, q_396⟩
theorem i7_entry_24 : ILi cX7_entry 24 25 1 := Or.inl ⟨1, by decide +kernel, rfl, rfl⟩
theorem i7_entry_25 : ILi cX7_entry 25 26 2 := Or.inl ⟨2, by decide +kernel, rfl, rfl⟩
theorem i7_entry_26 : ICV m7_entry 26 29 m5_at := ⟨91, by decide +kernel, rfl, q_456⟩
theorem i7_entry_29 : IO cX7_entry 29 30 .ireturn := ⟨by decide +kernel, rfl⟩
theorem i7_rank_0 : ILa cX7_rank 0 1 0 := Or.inl ⟨0, by decide +kernel, rfl, rfl⟩
theorem i7_rank_1 : IGF m7_rank 1 4 7 3 := ⟨33, by decide +kernel, rfl, by decide, by decide, q_399⟩
theorem i7_rank_4 : IGF m7_rank 4 7 2 1 := ⟨121, by decide +kernel, rfl, by decide, by decide, q_188⟩
theorem i7_rank_7 : IO cX7_rank 7 8 .ireturn := ⟨by decide +kernel, rfl⟩
theorem i7_isPositive_0 : ILa cX7_isPositive 0 1 0 := Or.inl ⟨0, by decide +kernel, rfl, rfl⟩
theorem i7_isPositive_1 : IGF m7_isPositive 1 4 7 0 := ⟨12, by decide +kernel, rfl, by decide, by decide, q_396⟩
theorem i7_isPositive_4 : ICV m7_isPositive 4 7 m5_hasNoZeroColumn := ⟨124, by decide +kernel, rfl, q_510⟩
theorem i7_isPositive_7 : ICS m7_isPositive 7 10 yX7_asNumber := ⟨128, by decide +kernel, rfl, q_514⟩
theorem i7_isPositive_10 : IO cX7_isPositive 10 11 .ireturn := ⟨by decide +kernel, rfl⟩
theorem i7_graverCount_0 : ILa cX7_graverCount 0 1 0 := Or.inl ⟨0, by decide +kernel, rfl, rfl⟩
theorem i7_graverCount_1 : IGF m7_graverCount 1 4 7 3 := ⟨33, by decide +kernel, rfl, by decide, by decide, q_399⟩
theorem i7_graverCount_4 : IGF m7_graverCount 4 7 2 0 := ⟨132, by decide +kernel, rfl, by decide, by decide, q_186⟩
theorem i7_graverCount_7 : IO cX7_graverCount 7 8 .ireturn := ⟨by decide +kernel, rfl⟩
theorem i7_graverEntry_0 : ILa cX7_graverEntry 0 1 0 := Or.inl ⟨0, by decide +kernel, rfl, rfl⟩
theorem i7_graverEntry_1 : ILi cX7_graverEntry 1 2 1 := Or.inl ⟨1, by decide +kernel, rfl, rfl⟩
theorem i7_graverEntry_2 : ICV m7_graverEntry 2 5 m7_isElement := ⟨135, by decide +kernel, rfl, q_525⟩
theorem i7_graverEntry_5 : IJ cX7_graverEntry 5 8 16 (.ifCond .eq) := ⟨11, by decide +kernel, rfl, by decide⟩
theorem i7_graverEntry_8 : ILa cX7_graverEntry 8 9 0 := Or.inl ⟨0, by decide +kernel, rfl, rfl⟩
theorem i7_graverEntry_9 : ILi cX7_graverEntry 9 10 2 := Or.inl ⟨2, by decide +kernel, rfl, rfl⟩
theorem i7_graverEntry_10 : ICV m7_graverEntry 10 13 m7_isColumn := ⟨88, by decide +kernel, rfl, q_452⟩
theorem i7_graverEntry_13 : IJ cX7_graverEntry 13 16 20 (.ifCond .ne) := ⟨7, by decide +kernel, rfl, by decide⟩
theorem i7_graverEntry_16 : IC cX7_graverEntry 16 19 (-1001) := ⟨by decide, Or.inr (Or.inr ⟨by decide +kernel, by decide +kernel, rfl⟩)⟩
theorem i7_graverEntry_19 : IO cX7_graverEntry 19 20 .ireturn := ⟨by decide +kernel, rfl⟩
theorem i7_graverEntry_20 : ILa cX7_graverEntry 20 21 0 := Or.inl ⟨0, by decide +kernel, rfl, rfl⟩
theorem i7_graverEntry_21 : IGF m7_graverEntry 21 24 7 3 := ⟨33, by decide +kernel, rfl, by decide, by decide, q_399⟩
theorem i7_graverEntry_24 : ILi cX7_graverEntry 24 25 1 := Or.inl ⟨1, by decide +kernel, rfl, rfl⟩
theorem i7_graverEntry_25 : ILi cX7_graverEntry 25 26 2 := Or.inl ⟨2, by decide +kernel, rfl, rfl⟩
theorem i7_graverEntry_26 : ICV m7_graverEntry 26 29 m2_at := ⟨138, by decide +kernel, rfl, q_529⟩
theorem i7_graverEntry_29 : IO cX7_graverEntry 29 30 .ireturn := ⟨by decide +kernel, rfl⟩
theorem i7_isCircuit_0 : ILa cX7_isCircuit 0 1 0 := Or.inl ⟨0, by decide +kernel, rfl, rfl⟩
theorem i7_isCircuit_1 : ILi cX7_isCircuit 1 2 1 := Or.inl ⟨1, by decide +kernel, rfl, rfl⟩
theorem i7_isCircuit_2 : ICV m7_isCircuit 2 5 m7_isElement := ⟨135, by decide +kernel, rfl, q_525⟩
theorem i7_isCircuit_5 : IJ cX7_isCircuit 5 8 12 (.ifCond .ne) := ⟨7, by decide +kernel, rfl, by decide⟩
theorem i7_isCircuit_8 : IC cX7_isCircuit 8 11 (-1001) := ⟨by decide, Or.inr (Or.inr ⟨by decide +kernel, by decide +kernel, rfl⟩)⟩
theorem i7_isCircuit_11 : IO cX7_isCircuit 11 12 .ireturn := ⟨by decide +kernel, rfl⟩
theorem i7_isCircuit_12 : ILa cX7_isCircuit 12 13 0 := Or.inl ⟨0, by decide +kernel, rfl, rfl⟩
theorem i7_isCircuit_13 : IGF m7_isCircuit 13 16 7 3 := ⟨33, by decide +kernel, rfl, by decide, by decide, q_399⟩
theorem i7_isCircuit_16 : ILi cX7_isCircuit 16 17 1 := Or.inl ⟨1, by decide +kernel, rfl, rfl⟩
theorem i7_isCircuit_17 : ICV m7_isCircuit 17 20 m2_hasLeastSupport := ⟨139, by decide +kernel, rfl, q_534⟩
theorem i7_isCircuit_20 : ICS m7_isCircuit 20 23 yX7_asNumber := ⟨128, by decide +kernel, rfl, q_514⟩
theorem i7_isCircuit_23 : IO cX7_isCircuit 23 24 .ireturn := ⟨by decide +kernel, rfl⟩
theorem i7_isIndispensable_0 : ILa cX7_isIndispensable 0 1 0 := Or.inl ⟨0, by decide +kernel, rfl, rfl⟩
theorem i7_isIndispensable_1 : ILi cX7_isIndispensable 1 2 1 := Or.inl ⟨1, by decide +kernel, rfl, rfl⟩
theorem i7_isIndispensable_2 : ICV m7_isIndispensable 2 5 m7_isElement := ⟨135, by decide +kernel, rfl, q_525⟩
theorem i7_isIndispensable_5 : IJ cX7_isIndispensable 5 8 12 (.ifCond .ne) := ⟨7, by decide +kernel, rfl, by decide⟩
theorem i7_isIndispensable_8 : IC cX7_isIndispensable 8 11 (-1001) := ⟨by decide, Or.inr (Or.inr ⟨by decide +kernel, by decide +kernel, rfl⟩)⟩
theorem i7_isIndispensable_11 : IO cX7_isIndispensable 11 12 .ireturn := ⟨by decide +kernel, rfl⟩
theorem i7_isIndispensable_12 : ILa cX7_isIndispensable 12 13 0 := Or.inl ⟨0, by decide +kernel, rfl, rfl⟩
theorem i7_isIndispensable_13 : IGF m7_isIndispensable 13 16 7 0 := ⟨12, by decide +kernel, rfl, by decide, by decide, q_396⟩
theorem i7_isIndispensable_16 : ICV m7_isIndispensable 16 19 m5_hasNoZeroColumn := ⟨124, by decide +kernel, rfl, q_510⟩
theorem i7_isIndispensable_19 : IJ cX7_isIndispensable 19 22 26 (.ifCond .ne) := ⟨7, by decide +kernel, rfl, by decide⟩
theorem i7_isIndispensable_22 : IC cX7_isIndispensable 22 25 (-1002) := ⟨by decide, Or.inr (Or.inr ⟨by decide +kernel, by decide +kernel, rfl⟩)⟩
theorem i7_isIndispensable_25 : IO cX7_isIndispensable 25 26 .ireturn := ⟨by decide +kernel, rfl⟩
theorem i7_isIndispensable_26 : ILa cX7_isIndispensable 26 27 0 := Or.inl ⟨0, by decide +kernel, rfl, rfl⟩
theorem i7_isIndispensable_27 : ILi cX7_isIndispensable 27 28 1 := Or.inl ⟨1, by decide +kernel, rfl, rfl⟩
theorem i7_isIndispensable_28 : ICV m7_isIndispensable 28 31 m7_buildElementFiber := ⟨142, by decide +kernel, rfl, q_546⟩
theorem i7_isIndispensable_31 : ILa cX7_isIndispensable 31 32 0 := Or.inl ⟨0, by decide +kernel, rfl, rfl⟩
theorem i7_isIndispensable_32 : IGF m7_isIndispensable 32 35 7 6 := ⟨53, by decide +kernel, rfl, by decide, by decide, q_402⟩
theorem i7_isIndispensable_35 : IGF m7_isIndispensable 35 38 1 0 := ⟨145, by decide +kernel, rfl, by decide, by decide, q_257⟩
theorem i7_isIndispensable_38 : IC cX7_isIndispensable 38 39 (2) := ⟨by decide, Or.inl ⟨by decide +kernel, rfl⟩⟩
theorem i7_isIndispensable_39 : IJ cX7_isIndispensable 39 42 46 (.if_icmp .ne) := ⟨7, by decide +kernel, rfl, by decide⟩
theorem i7_isIndispensable_42 : IC cX7_isIndispensable 42 43 (1) := ⟨by decide, Or.inl ⟨by decide +kernel, rfl⟩⟩
theorem i7_isIndispensable_43 : IJ cX7_isIndispensable 43 46 47 .goto := ⟨4, by decide +kernel, rfl, by decide⟩
theorem i7_isIndispensable_46 : IC cX7_isIndispensable 46 47 (0) := ⟨by decide, Or.inl ⟨by decide +kernel, rfl⟩⟩
theorem i7_isIndispensable_47 : ICS m7_isIndispensable 47 50 yX7_asNumber := ⟨128, by decide +kernel, rfl, q_514⟩
theorem i7_isIndispensable_50 : IO cX7_isIndispensable 50 51 .ireturn := ⟨by decide +kernel, rfl⟩
theorem i7_setVector_0 : ILa cX7_setVector 0 1 0 := Or.inl ⟨0, by decide +kernel, rfl, rfl⟩
theorem i7_setVector_1 : ILi cX7_setVector 1 2 1 := Or.inl ⟨1, by decide +kernel, rfl, rfl⟩
theorem i7_setVector_2 : ICV m7_setVector 2 5 m7_isColumn := ⟨88, by decide +kernel, rfl, q_452⟩
theorem i7_setVector_5 : IJ cX7_setVector 5 8 20 (.ifCond .eq) := ⟨15, by decide +kernel, rfl, by decide⟩
theorem i7_setVector_8 : ILi cX7_setVector 8 9 2 := Or.inl ⟨2, by decide +kernel, rfl, rfl⟩
theorem i7_setVector_9 : IC cX7_setVector 9 11 (-30) := ⟨by decide, Or.inr (Or.inl ⟨by decide +kernel, by decide +kernel, rfl⟩)⟩
theorem i7_setVector_11 : IJ cX7_setVector 11 14 20 (.if_icmp .lt) := ⟨9, by decide +kernel, rfl, by decide⟩
theorem i7_setVector_14 : ILi cX7_setVector 14 15 2 := Or.inl ⟨2, by decide +kernel, rfl, rfl⟩
theorem i7_setVector_15 : IC cX7_setVector 15 17 (30) := ⟨by decide, Or.inr (Or.inl ⟨by decide +kernel, by decide +kernel, rfl⟩)⟩
theorem i7_setVector_17 : IJ cX7_setVector 17 20 24 (.if_icmp .le) := ⟨7, by decide +kernel, rfl, by decide⟩
theorem i7_setVector_20 : IC cX7_setVector 20 23 (-1001) := ⟨by decide, Or.inr (Or.inr ⟨by decide +kernel, by decide +kernel, rfl⟩)⟩
theorem i7_setVector_23 : IO cX7_setVector 23 24 .ireturn := ⟨by decide +kernel, rfl⟩
theorem i7_setVector_24 : ILa cX7_setVector 24 25 0 := Or.inl ⟨0, by decide +kernel, rfl, rfl⟩
theorem i7_setVector_25 : IGF m7_setVector 25 28 7 0 := ⟨12, by decide +kernel, rfl, by decide, by decide, q_396⟩
theorem i7_setVector_28 : IGF m7_setVector 28 31 5 3 := ⟨148, by decide +kernel, rfl, by decide, by decide, q_110⟩
theorem i7_setVector_31 : ILi cX7_setVector 31 32 1 := Or.inl ⟨1, by decide +kernel, rfl, rfl⟩
theorem i7_setVector_32 : IO cX7_setVector 32 33 .iaload := ⟨by decide +kernel, rfl⟩
theorem i7_setVector_33 : ISi cX7_setVector 33 34 3 := Or.inl ⟨3, by decide +kernel, rfl, rfl⟩
theorem i7_setVector_34 : ILa cX7_setVector 34 35 0 := Or.inl ⟨0, by decide +kernel, rfl, rfl⟩
theorem i7_setVector_35 : ICV m7_setVector 35 38 m7_save := ⟨81, by decide +kernel, rfl, q_431⟩
theorem i7_setVector_38 : ILa cX7_setVector 38 39 0 := Or.inl ⟨0, by decide +kernel, rfl, rfl⟩
theorem i7_setVector_39 : IGF m7_setVector 39 42 7 0 := ⟨12, by decide +kernel, rfl, by decide, by decide, q_396⟩
theorem i7_setVector_42 : IGF m7_setVector 42 45 5 3 := ⟨148, by decide +kernel, rfl, by decide, by decide, q_110⟩
theorem i7_setVector_45 : ILi cX7_setVector 45 46 1 := Or.inl ⟨1, by decide +kernel, rfl, rfl⟩
theorem i7_setVector_46 : ILi cX7_setVector 46 47 2 := Or.inl ⟨2, by decide +kernel, rfl, rfl⟩
theorem i7_setVector_47 : IO cX7_setVector 47 48 .iastore := ⟨by decide +kernel, rfl⟩
theorem i7_setVector_48 : ILi cX7_setVector 48 49 3 := Or.inl ⟨3, by decide +kernel, rfl, rfl⟩
theorem i7_setVector_49 : IO cX7_setVector 49 50 .ireturn := ⟨by decide +kernel, rfl⟩
theorem i7_isInKernel_0 : ILa cX7_isInKernel 0 1 0 := Or.inl ⟨0, by decide +kernel, rfl, rfl⟩
theorem i7_isInKernel_1 : IGF m7_isInKernel 1 4 7 0 := ⟨12, by decide +kernel, rfl, by decide, by decide, q_396⟩
theorem i7_isInKernel_4 : ICV m7_isInKernel 4 7 m5_hasVectorInKernel := ⟨151, by decide +kernel, rfl, q_590⟩
theorem i7_isInKernel_7 : ICS m7_isInKernel 7 10 yX7_asNumber := ⟨128, by decide +kernel, rfl, q_514⟩
theorem i7_isInKernel_10 : IO cX7_isInKernel 10 11 .ireturn := ⟨by decide +kernel, rfl⟩
theorem i7_decompositionLength_0 : ILa cX7_decompositionLength 0 1 0 := Or.inl ⟨0, by decide +kernel, rfl, rfl⟩
theorem i7_decompositionLength_1 : IGF m7_decompositionLength 1 4 7 0 := ⟨12, by decide +kernel, rfl, by decide, by decide, q_396⟩
theorem i7_decompositionLength_4 : ICV m7_decompositionLength 4 7 m5_hasVectorInKernel := ⟨151, by decide +kernel, rfl, q_590⟩
theorem i7_decompositionLength_7 : IJ cX7_decompositionLength 7 10 14 (.ifCond .ne) := ⟨7, by decide +kernel, rfl, by decide⟩
theorem i7_decompositionLength_10 : IC cX7_decompositionLength 10 13 (-1002) := ⟨by decide, Or.inr (Or.inr ⟨by decide +kernel, by decide +kernel, rfl⟩)⟩
theorem i7_decompositionLength_13 : IO cX7_decompositionLength 13 14 .ireturn := ⟨by decide +kernel, rfl⟩
theorem i7_decompositionLength_14 : ILa cX7_decompositionLength 14 15 0 := Or.inl ⟨0, by decide +kernel, rfl, rfl⟩
theorem i7_decompositionLength_15 : IGF m7_decompositionLength 15 18 7 4 := ⟨40, by decide +kernel, rfl, by decide, by decide, q_400⟩
theorem i7_decompositionLength_18 : ILa cX7_decompositionLength 18 19 0 := Or.inl ⟨0, by decide +kernel, rfl, rfl⟩
theorem i7_decompositionLength_19 : IGF m7_decompositionLength 19 22 7 3 := ⟨33, by decide +kernel, rfl, by decide, by decide, q_399⟩
theorem i7_decompositionLength_22 : ILa cX7_decompositionLength 22 23 0 := Or.inl ⟨0, by decide +kernel, rfl, rfl⟩
theorem i7_decompositionLength_23 : IGF m7_decompositionLength 23 26 7 0 := ⟨12, by decide +kernel, rfl, by decide, by decide, q_396⟩
theorem i7_decompositionLength_26 : IGF m7_decompositionLength 26 29 5 3 := ⟨148, by decide +kernel, rfl, by decide, by decide, q_110⟩
theorem i7_decompositionLength_29 : ICV m7_decompositionLength 29 32 m0_find := ⟨154, by decide +kernel, rfl, q_599⟩
theorem i7_decompositionLength_32 : ILa cX7_decompositionLength 32 33 0 := Or.inl ⟨0, by decide +kernel, rfl, rfl⟩
theorem i7_decompositionLength_33 : IGF m7_decompositionLength 33 36 7 4 := ⟨40, by decide +kernel, rfl, by decide, by decide, q_400⟩
theorem i7_decompositionLength_36 : IGF m7_decompositionLength 36 39 0 0 := ⟨158, by decide +kernel, rfl, by decide, by decide, q_238⟩
theorem i7_decompositionLength_39 : IO cX7_decompositionLength 39 40 .ireturn := ⟨by decide +kernel, rfl⟩
theorem i7_decompositionStep_0 : ILi cX7_decompositionStep 0 1 1 := Or.inl ⟨1, by decide +kernel, rfl, rfl⟩
theorem i7_decompositionStep_1 : IJ cX7_decompositionStep 1 4 8 (.ifCond .ge) := ⟨7, by decide +kernel, rfl, by decide⟩
theorem i7_decompositionStep_4 : IC cX7_decompositionStep 4 7 (-1001) := ⟨by decide, Or.inr (Or.inr ⟨by decide +kernel, by decide +kernel, rfl⟩)⟩
theorem i7_decompositionStep_7 : IO cX7_decompositionStep 7 8 .ireturn := ⟨by decide +kernel, rfl⟩
theorem i7_decompositionStep_8 : ILa cX7_decompositionStep 8 9 0 := Or.inl ⟨0, by decide +kernel, rfl, rfl⟩
theorem i7_decompositionStep_9 : IGF m7_decompositionStep 9 12 7 0 := ⟨12, by decide +kernel, rfl, by decide, by decide, q_396⟩
theorem i7_decompositionStep_12 : ICV m7_decompositionStep 12 15 m5_hasVectorInKernel := ⟨151, by decide +kernel, rfl, q_590⟩
theorem i7_decompositionStep_15 : IJ cX7_decompositionStep 15 18 22 (.ifCond .ne) := ⟨7, by decide +kernel, rfl, by decide⟩
theorem i7_decompositionStep_18 : IC cX7_decompositionStep 18 21 (-1002) := ⟨by decide, Or.inr (Or.inr ⟨by decide +kernel, by decide +kernel, rfl⟩)⟩
theorem i7_decompositionStep_21 : IO cX7_decompositionStep 21 22 .ireturn := ⟨by decide +kernel, rfl⟩
theorem i7_decompositionStep_22 : ILa cX7_decompositionStep 22 23 0 := Or.inl ⟨0, by decide +kernel, rfl, rfl⟩
theorem i7_decompositionStep_23 : IGF m7_decompositionStep 23 26 7 4 := ⟨40, by decide +kernel, rfl, by decide, by decide, q_400⟩
theorem i7_decompositionStep_26 : ILa cX7_decompositionStep 26 27 0 := Or.inl ⟨0, by decide +kernel, rfl, rfl⟩
theorem i7_decompositionStep_27 : IGF m7_decompositionStep 27 30 7 3 := ⟨33, by decide +kernel, rfl, by decide, by decide, q_399⟩
theorem i7_decompositionStep_30 : ILa cX7_decompositionStep 30 31 0 := Or.inl ⟨0, by decide +kernel, rfl, rfl⟩
theorem i7_decompositionStep_31 : IGF m7_decompositionStep 31 34 7 0 := ⟨12, by decide +kernel, rfl, by decide, by decide, q_396⟩
theorem i7_decompositionStep_34 : IGF m7_decompositionStep 34 37 5 3 := ⟨148, by decide +kernel, rfl, by decide, by decide, q_110⟩
theorem i7_decompositionStep_37 : ICV m7_decompositionStep 37 40 m0_find := ⟨154, by decide +kernel, rfl, q_599⟩
theorem i7_decompositionStep_40 : ILi cX7_decompositionStep 40 41 1 := Or.inl ⟨1, by decide +kernel, rfl, rfl⟩
theorem i7_decompositionStep_41 : ILa cX7_decompositionStep 41 42 0 := Or.inl ⟨0, by decide +kernel, rfl, rfl⟩
theorem i7_decompositionStep_42 : IGF m7_decompositionStep 42 45 7 4 := ⟨40, by decide +kernel, rfl, by decide, by decide, q_400⟩
theorem i7_decompositionStep_45 : IGF m7_decompositionStep 45 48 0 0 := ⟨158, by decide +kernel, rfl, by decide, by decide, q_238⟩
theorem i7_decompositionStep_48 : IJ cX7_decompositionStep 48 51 55 (.if_icmp .lt) := ⟨7, by decide +kernel, rfl, by decide⟩
theorem i7_decompositionStep_51 : IC cX7_decompositionStep 51 54 (-1009) := ⟨by decide, Or.inr (Or.inr ⟨by decide +kernel, by decide +kernel, rfl⟩)⟩
theorem i7_decompositionStep_54 : IO cX7_decompositionStep 54 55 .ireturn := ⟨by decide +kernel, rfl⟩
theorem i7_decompositionStep_55 : ILa cX7_decompositionStep 55 56 0 := Or.inl ⟨0, by decide +kernel, rfl, rfl⟩
theorem i7_decompositionStep_56 : IGF m7_decompositionStep 56 59 7 4 := ⟨40, by decide +kernel, rfl, by decide, by decide, q_400⟩
theorem i7_decompositionStep_59 : IGF m7_decompositionStep 59 62 0 1 := ⟨159, by decide +kernel, rfl, by decide, by decide, q_240⟩
theorem i7_decompositionStep_62 : ILi cX7_decompositionStep 62 63 1 := Or.inl ⟨1, by decide +kernel, rfl, rfl⟩
theorem i7_decompositionStep_63 : IO cX7_decompositionStep 63 64 .iaload := ⟨by decide +kernel, rfl⟩
theorem i7_decompositionStep_64 : IO cX7_decompositionStep 64 65 .ireturn := ⟨by decide +kernel, rfl⟩
theorem i7_setPoint_0 : ILa cX7_setPoint 0 1 0 := Or.inl ⟨0, by decide +kernel, rfl, rfl⟩
theorem i7_setPoint_1 : ILi cX7_setPoint 1 2 1 := Or.inl ⟨1, by decide +kernel, rfl, rfl⟩
theorem i7_setPoint_2 : ICV m7_setPoint 2 5 m7_isColumn := ⟨88, by decide +kernel, rfl, q_452⟩
theorem i7_setPoint_5 : IJ cX7_setPoint 5 8 17 (.ifCond .eq) := ⟨12, by decide +kernel, rfl, by decide⟩
theorem i7_setPoint_8 : ILi cX7_setPoint 8 9 2 := Or.inl ⟨2, by decide +kernel, rfl, rfl⟩
theorem i7_setPoint_9 : IJ cX7_setPoint 9 12 17 (.ifCond .lt) := ⟨8, by decide +kernel, rfl, by decide⟩
theorem i7_setPoint_12 : ILi cX7_setPoint 12 13 2 := Or.inl ⟨2, by decide +kernel, rfl, rfl⟩
theorem i7_setPoint_13 : IC cX7_setPoint 13 14 (5) := ⟨by decide, Or.inl ⟨by decide +kernel, rfl⟩⟩
theorem i7_setPoint_14 : IJ cX7_setPoint 14 17 21 (.if_icmp .le) := ⟨7, by decide +kernel, rfl, by decide⟩
theorem i7_setPoint_17 : IC cX7_setPoint 17 20 (-1001) := ⟨by decide, Or.inr (Or.inr ⟨by decide +kernel, by decide +kernel, rfl⟩)⟩
theorem i7_setPoint_20 : IO cX7_setPoint 20 21 .ireturn := ⟨by decide +kernel, rfl⟩
theorem i7_setPoint_21 : ILa cX7_setPoint 21 22 0 := Or.inl ⟨0, by decide +kernel, rfl, rfl⟩
theorem i7_setPoint_22 : IGF m7_setPoint 22 25 7 0 := ⟨12, by decide +kernel, rfl, by decide, by decide, q_396⟩
theorem i7_setPoint_25 : IGF m7_setPoint 25 28 5 4 := ⟨162, by decide +kernel, rfl, by decide, by decide, q_112⟩
theorem i7_setPoint_28 : ILi cX7_setPoint 28 29 1 := Or.inl ⟨1, by decide +kernel, rfl, rfl⟩
theorem i7_setPoint_29 : IO cX7_setPoint 29 30 .iaload := ⟨by decide +kernel, rfl⟩
theorem i7_setPoint_30 : ISi cX7_setPoint 30 31 3 := Or.inl ⟨3, by decide +kernel, rfl, rfl⟩
theorem i7_setPoint_31 : ILa cX7_setPoint 31 32 0 := Or.inl ⟨0, by decide +kernel, rfl, rfl⟩
theorem i7_setPoint_32 : ICV m7_setPoint 32 35 m7_save := ⟨81, by decide +kernel, rfl, q_431⟩
theorem i7_setPoint_35 : ILa cX7_setPoint 35 36 0 := Or.inl ⟨0, by decide +kernel, rfl, rfl⟩
theorem i7_setPoint_36 : IGF m7_setPoint 36 39 7 0 := ⟨12, by decide +kernel, rfl, by decide, by decide, q_396⟩
theorem i7_setPoint_39 : IGF m7_setPoint 39 42 5 4 := ⟨162, by decide +kernel, rfl, by decide, by decide, q_112⟩
theorem i7_setPoint_42 : ILi cX7_setPoint 42 43 1 := Or.inl ⟨1, by decide +kernel, rfl, rfl⟩
theorem i7_setPoint_43 : ILi cX7_setPoint 43 44 2 := Or.inl ⟨2, by decide +kernel, rfl, rfl⟩
theorem i7_setPoint_44 : IO cX7_setPoint 44 45 .iastore := ⟨by decide +kernel, rfl⟩
theorem i7_setPoint_45 : ILi cX7_setPoint 45 46 3 := Or.inl ⟨3, by decide +kernel, rfl, rfl⟩
theorem i7_setPoint_46 : IO cX7_setPoint 46 47 .ireturn := ⟨by decide +kernel, rfl⟩
theorem i7_fiberSize_0 : ILa cX7_fiberSize 0 1 0 := Or.inl ⟨0, by decide +kernel, rfl, rfl⟩
theorem i7_fiberSize_1 : IGF m7_fiberSize 1 4 7 0 := ⟨12, by decide +kernel, rfl, by decide, by decide, q_396⟩
theorem i7_fiberSize_4 : ICV m7_fiberSize 4 7 m5_hasNoZeroColumn := ⟨124, by decide +kernel, rfl, q_510⟩
theorem i7_fiberSize_7 : IJ cX7_fiberSize 7 10 14 (.ifCond .ne) := ⟨7, by decide +kernel, rfl, by decide⟩
theorem i7_fiberSize_10 : IC cX7_fiberSize 10 13 (-1002) := ⟨by decide, Or.inr (Or.inr ⟨by decide +kernel, by decide +kernel, rfl⟩)⟩
theorem i7_fiberSize_13 : IO cX7_fiberSize 13 14 .ireturn := ⟨by decide +kernel, rfl⟩
theorem i7_fiberSize_14 : ILa cX7_fiberSize 14 15 0 := Or.inl ⟨0, by decide +kernel, rfl, rfl⟩
theorem i7_fiberSize_15 : ICV m7_fiberSize 15 18 m7_buildPointFiber := ⟨165, by decide +kernel, rfl, q_622⟩
theorem i7_fiberSize_18 : ILa cX7_fiberSize 18 19 0 := Or.inl ⟨0, by decide +kernel, rfl, rfl⟩
theorem i7_fiberSize_19 : IGF m7_fiberSize 19 22 7 5 := ⟨49, by decide +kernel, rfl, by decide, by decide, q_401⟩
theorem i7_fiberSize_22 : IGF m7_fiberSize 22 25 1 0 := ⟨145, by decide +kernel, rfl, by decide, by decide, q_257⟩
theorem i7_fiberSize_25 : IO cX7_fiberSize 25 26 .ireturn := ⟨by decide +kernel, rfl⟩
theorem i7_fiberEntry_0 : ILi cX7_fiberEntry 0 1 1 := Or.inl ⟨1, by decide +kernel, rfl, rfl⟩
theorem i7_fiberEntry_1 : IJ cX7_fiberEntry 1 4 12 (.ifCond .lt) := ⟨11, by decide +kernel, rfl, by decide⟩
theorem i7_fiberEntry_4 : ILa cX7_fiberEntry 4 5 0 := Or.inl ⟨0, by decide +kernel, rfl, rfl⟩
theorem i7_fiberEntry_5 : ILi cX7_fiberEntry 5 6 2 := Or.inl ⟨2, by decide +kernel, rfl, rfl⟩
theorem i7_fiberEntry_6 : ICV m7_fiberEntry 6 9 m7_isColumn := ⟨88, by decide +kernel, rfl, q_452⟩
theorem i7_fiberEntry_9 : IJ cX7_fiberEntry 9 12 16 (.ifCond .ne) := ⟨7, by decide +kernel, rfl, by decide⟩
theorem i7_fiberEntry_12 : IC cX7_fiberEntry 12 15 (-1001) := ⟨by decide, Or.inr (Or.inr ⟨by decide +kernel, by decide +kernel, rfl⟩)⟩
theorem i7_fiberEntry_15 : IO cX7_fiberEntry 15 16 .ireturn := ⟨by decide +kernel, rfl⟩
theorem i7_fiberEntry_16 : ILa cX7_fiberEntry 16 17 0 := Or.inl ⟨0, by decide +kernel, rfl, rfl⟩
theorem i7_fiberEntry_17 : IGF m7_fiberEntry 17 20 7 0 := ⟨12, by decide +kernel, rfl, by decide, by decide, q_396⟩
theorem i7_fiberEntry_20 : ICV m7_fiberEntry 20 23 m5_hasNoZeroColumn := ⟨124, by decide +kernel, rfl, q_510⟩
theorem i7_fiberEntry_23 : IJ cX7_fiberEntry 23 26 30 (.ifCond .ne) := ⟨7, by decide +kernel, rfl, by decide⟩
theorem i7_fiberEntry_26 : IC cX7_fiberEntry 26 29 (-1002) := ⟨by decide, Or.inr (Or.inr ⟨by decide +kernel, by decide +kernel, rfl⟩)⟩
theorem i7_fiberEntry_29 : IO cX7_fiberEntry 29 30 .ireturn := ⟨by decide +kernel, rfl⟩
theorem i7_fiberEntry_30 : ILa cX7_fiberEntry 30 31 0 := Or.inl ⟨0, by decide +kernel, rfl, rfl⟩
theorem i7_fiberEntry_31 : ICV m7_fiberEntry 31 34 m7_buildPointFiber := ⟨165, by decide +kernel, rfl, q_622⟩
theorem i7_fiberEntry_34 : ILi cX7_fiberEntry 34 35 1 := Or.inl ⟨1, by decide +kernel, rfl, rfl⟩
theorem i7_fiberEntry_35 : ILa cX7_fiberEntry 35 36 0 := Or.inl ⟨0, by decide +kernel, rfl, rfl⟩
theorem i7_fiberEntry_36 : IGF m7_fiberEntry 36 39 7 5 := ⟨49, by decide +kernel, rfl, by decide, by decide, q_401⟩
theorem i7_fiberEntry_39 : IGF m7_fiberEntry 39 42 1 0 := ⟨145, by decide +kernel, rfl, by decide, by decide, q_257⟩
theorem i7_fiberEntry_42 : IJ cX7_fiberEntry 42 45 49 (.if_icmp .lt) := ⟨7, by decide +kernel, rfl, by decide⟩
theorem i7_fiberEntry_45 : IC cX7_fiberEntry 45 48 (-1009) := ⟨by decide, Or.inr (Or.inr ⟨by decide +kernel, by decide +kernel, rfl⟩)⟩
theorem i7_fiberEntry_48 : IO cX7_fiberEntry 48 49 .ireturn := ⟨by decide +kernel, rfl⟩
theorem i7_fiberEntry_49 : ILa cX7_fiberEntry 49 50 0 := Or.inl ⟨0, by decide +kernel, rfl, rfl⟩
theorem i7_fiberEntry_50 : IGF m7_fiberEntry 50 53 7 5 := ⟨49, by decide +kernel, rfl, by decide, by decide, q_401⟩
theorem i7_fiberEntry_53 : ILi cX7_fiberEntry 53 54 1 := Or.inl ⟨1, by decide +kernel, rfl, rfl⟩
theorem i7_fiberEntry_54 : ILi cX7_fiberEntry 54 55 2 := Or.inl ⟨2, by decide +kernel, rfl, rfl⟩
theorem i7_fiberEntry_55 : ICV m7_fiberEntry 55 58 m1_at := ⟨168, by decide +kernel, rfl, q_630⟩
theorem i7_fiberEntry_58 : IO cX7_fiberEntry 58 59 .ireturn := ⟨by decide +kernel, rfl⟩
theorem i7_activate_0 : ILa cX7_activate 0 1 0 := Or.inl ⟨0, by decide +kernel, rfl, rfl⟩
theorem i7_activate_1 : ILi cX7_activate 1 2 1 := Or.inl ⟨1, by decide +kernel, rfl, rfl⟩
theorem i7_activate_2 : ICV m7_activate 2 5 m7_isElement := ⟨135, by decide +kernel, rfl, q_525⟩
theorem i7_activate_5 : IJ cX7_activate 5 8 17 (.ifCond .eq) := ⟨12, by decide +kernel, rfl, by decide⟩
theorem i7_activate_8 : ILi cX7_activate 8 9 2 := Or.inl ⟨2, by decide +kernel, rfl, rfl⟩
theorem i7_activate_9 : IJ cX7_activate 9 12 17 (.ifCond .lt) := ⟨8, by decide +kernel, rfl, by decide⟩
theorem i7_activate_12 : ILi cX7_activate 12 13 2 := Or.inl ⟨2, by decide +kernel, rfl, rfl⟩
theorem i7_activate_13 : IC cX7_activate 13 14 (1) := ⟨by decide, Or.inl ⟨by decide +kernel, rfl⟩⟩
theorem i7_activate_14 : IJ cX7_activate 14 17 21 (.if_icmp .le) := ⟨7, by decide +kernel, rfl, by decide⟩
theorem i7_activate_17 : IC cX7_activate 17 20 (-1001) := ⟨by decide, Or.inr (Or.inr ⟨by decide +kernel, by decide +kernel, rfl⟩)⟩
theorem i7_activate_20 : IO cX7_activate 20 21 .ireturn := ⟨by decide +kernel, rfl⟩
theorem i7_activate_21 : ILa cX7_activate 21 22 0 := Or.inl ⟨0, by decide +kernel, rfl, rfl⟩
theorem i7_activate_22 : IGF m7_activate 22 25 7 0 := ⟨12, by decide +kernel, rfl, by decide, by decide, q_396⟩
theorem i7_activate_25 : ILi cX7_activate 25 26 1 := Or.inl ⟨1, by decide +kernel, rfl, rfl⟩
theorem i7_activate_26 : ICV m7_activate 26 29 m5_isOn := ⟨169, by decide +kernel, rfl, q_638⟩
theorem i7_activate_29 : ICS m7_activate 29 32 yX7_asNumber := ⟨128, by decide +kernel, rfl, q_514⟩
theorem i7_activate_32 : ILi cX7_activate 32 33 2 := Or.inl ⟨2, by decide +kernel, rfl, rfl⟩
theorem i7_activate_33 : IJ cX7_activate 33 36 40 (.if_icmp .ne) := ⟨7, by decide +kernel, rfl, by decide⟩
theorem i7_activate_36 : IC cX7_activate 36 39 (-1002) := ⟨by decide, Or.inr (Or.inr ⟨by decide +kernel, by decide +kernel, rfl⟩)⟩
theorem i7_activate_39 : IO cX7_activate 39 40 .ireturn := ⟨by decide +kernel, rfl⟩
theorem i7_activate_40 : ILa cX7_activate 40 41 0 := Or.inl ⟨0, by decide +kernel, rfl, rfl⟩
theorem i7_activate_41 : ICV m7_activate 41 44 m7_save := ⟨81, by decide +kernel, rfl, q_431⟩
theorem i7_activate_44 : ILa cX7_activate 44 45 0 := Or.inl ⟨0, by decide +kernel, rfl, rfl⟩
theorem i7_activate_45 : IGF m7_activate 45 48 7 0 := ⟨12, by decide +kernel, rfl, by decide, by decide, q_396⟩
theorem i7_activate_48 : ILi cX7_activate 48 49 1 := Or.inl ⟨1, by decide +kernel, rfl, rfl⟩
theorem i7_activate_49 : ILi cX7_activate 49 50 2 := Or.inl ⟨2, by decide +kernel, rfl, rfl⟩
theorem i7_activate_50 : IC cX7_activate 50 51 (1) := ⟨by decide, Or.inl ⟨by decide +kernel, rfl⟩⟩
theorem i7_activate_51 : IJ cX7_activate 51 54 58 (.if_icmp .ne) := ⟨7, by decide +kernel, rfl, by decide⟩
theorem i7_activate_54 : IC cX7_activate 54 55 (1) := ⟨by decide, Or.inl ⟨by decide +kernel, rfl⟩⟩
theorem i7_activate_55 : IJ cX7_activate 55 58 59 .goto := ⟨4, by decide +kernel, rfl, by decide⟩
theorem i7_activate_58 : IC cX7_activate 58 59 (0) := ⟨by decide, Or.inl ⟨by decide +kernel, rfl⟩⟩
theorem i7_activate_59 : ICV m7_activate 59 62 m5_switchTo := ⟨172, by decide +kernel, rfl, q_642⟩
theorem i7_activate_62 : ILa cX7_activate 62 63 0 := Or.inl ⟨0, by decide +kernel, rfl, rfl⟩
theorem i7_activate_63 : IGF m7_activate 63 66 7 0 := ⟨12, by decide +kernel, rfl, by decide, by decide, q_396⟩
theorem i7_activate_66 : ICV m7_activate 66 69 m5_countOn := ⟨176, by decide +kernel, rfl, q_646⟩
theorem i7_activate_69 : IO cX7_activate 69 70 .ireturn := ⟨by decide +kernel, rfl⟩
theorem i7_isActive_0 : ILa cX7_isActive 0 1 0 := Or.inl ⟨0, by decide +kernel, rfl, rfl⟩
theorem i7_isActive_1 : ILi cX7_isActive 1 2 1 := Or.inl ⟨1, by decide +kernel, rfl, rfl⟩
theorem i7_isActive_2 : ICV m7_isActive 2 5 m7_isElement := ⟨135, by decide +kernel, rfl, q_525⟩
theorem i7_isActive_5 : IJ cX7_isActive 5 8 12 (.ifCond .ne) := ⟨7, by decide +kernel, rfl, by decide⟩
theorem i7_isActive_8 : IC cX7_isActive 8 11 (-1001) := ⟨by decide, Or.inr (Or.inr ⟨by decide +kernel, by decide +kernel, rfl⟩)⟩
theorem i7_isActive_11 : IO cX7_isActive 11 12 .ireturn := ⟨by decide +kernel, rfl⟩
theorem i7_isActive_12 : ILa cX7_isActive 12 13 0 := Or.inl ⟨0, by decide +kernel, rfl, rfl⟩
theorem i7_isActive_13 : IGF m7_isActive 13 16 7 0 := ⟨12, by decide +kernel, rfl, by decide, by decide, q_396⟩
theorem i7_isActive_16 : ILi cX7_isActive 16 17 1 := Or.inl ⟨1, by decide +kernel, rfl, rfl⟩
theorem i7_isActive_17 : ICV m7_isActive 17 20 m5_isOn := ⟨169, by decide +kernel, rfl, q_638⟩
theorem i7_isActive_20 : ICS m7_isActive 20 23 yX7_asNumber := ⟨128, by decide +kernel, rfl, q_514⟩
theorem i7_isActive_23 : IO cX7_isActive 23 24 .ireturn := ⟨by decide +kernel, rfl⟩
theorem i7_classes_0 : ILa cX7_classes 0 1 0 := Or.inl ⟨0, by decide +kernel, rfl, rfl⟩
theorem i7_classes_1 : IGF m7_classes 1 4 7 0 := ⟨12, by decide +kernel, rfl, by decide, by decide, q_396⟩
theorem i7_classes_4 : ICV m7_classes 4 7 m5_hasNoZeroColumn := ⟨124, by decide +kernel, rfl, q_510⟩
theorem i7_classes_7 : IJ cX7_classes 7 10 14 (.ifCond .ne) := ⟨7, by decide +kernel, rfl, by decide⟩
theorem i7_classes_10 : IC cX7_classes 10 13 (-1002) := ⟨by decide, Or.inr (Or.inr ⟨by decide +kernel, by decide +kernel, rfl⟩)⟩
theorem i7_classes_13 : IO cX7_classes 13 14 .ireturn := ⟨by decide +kernel, rfl⟩
theorem i7_classes_14 : ILa cX7_classes 14 15 0 := Or.inl ⟨0, by decide +kernel, rfl, rfl⟩
theorem i7_classes_15 : ICV m7_classes 15 18 m7_buildPointFiber := ⟨165, by decide +kernel, rfl, q_622⟩
theorem i7_classes_18 : ILa cX7_classes 18 19 0 := Or.inl ⟨0, by decide +kernel, rfl, rfl⟩
theorem i7_classes_19 : IGF m7_classes 19 22 7 7 := ⟨59, by decide +kernel, rfl, by decide, by decide, q_403⟩
theorem i7_classes_22 : ILa cX7_classes 22 23 0 := Or.inl ⟨0, by decide +kernel, rfl, rfl⟩
theorem i7_classes_23 : IGF m7_classes 23 26 7 5 := ⟨49, by decide +kernel, rfl, by decide, by decide, q_401⟩
theorem i7_classes_26 : ILa cX7_classes 26 27 0 := Or.inl ⟨0, by decide +kernel, rfl, rfl⟩
theorem i7_classes_27 : IGF m7_classes 27 30 7 3 := ⟨33, by decide +kernel, rfl, by decide, by decide, q_399⟩
theorem i7_classes_30 : ILa cX7_classes 30 31 0 := Or.inl ⟨0, by decide +kernel, rfl, rfl⟩
theorem i7_classes_31 : IGF m7_classes 31 34 7 0 := ⟨12, by decide +kernel, rfl, by decide, by decide, q_396⟩
theorem i7_classes_34 : ICV m7_classes 34 37 m6_countClasses := ⟨179, by decide +kernel, rfl, q_664⟩
theorem i7_classes_37 : IO cX7_classes 37 38 .ireturn := ⟨by decide +kernel, rfl⟩
theorem i7_distance_0 : ILi cX7_distance 0 1 1 := Or.inl ⟨1, by decide +kernel, rfl, rfl⟩
theorem i7_distance_1 : IJ cX7_distance 1 4 8 (.ifCond .ge) := ⟨7, by decide +kernel, rfl, by decide⟩
theorem i7_distance_4 : IC cX7_distance 4 7 (-1001) := ⟨by decide, Or.inr (Or.inr ⟨by decide +kernel, by decide +kernel, rfl⟩)⟩
theorem i7_distance_7 : IO cX7_distance 7 8 .ireturn := ⟨by decide +kernel, rfl⟩
theorem i7_distance_8 : ILa cX7_distance 8 9 0 := Or.inl ⟨0, by decide +kernel, rfl, rfl⟩
theorem i7_distance_9 : IGF m7_distance 9 12 7 0 := ⟨12, by decide +kernel, rfl, by decide, by decide, q_396⟩
theorem i7_distance_12 : ICV m7_distance 12 15 m5_hasNoZeroColumn := ⟨124, by decide +kernel, rfl, q_510⟩
theorem i7_distance_15 : IJ cX7_distance 15 18 22 (.ifCond .ne) := ⟨7, by decide +kernel, rfl, by decide⟩
theorem i7_distance_18 : IC cX7_distance 18 21 (-1002) := ⟨by decide, Or.inr (Or.inr ⟨by decide +kernel, by decide +kernel, rfl⟩)⟩
theorem i7_distance_21 : IO cX7_distance 21 22 .ireturn := ⟨by decide +kernel, rfl⟩
theorem i7_distance_22 : ILa cX7_distance 22 23 0 := Or.inl ⟨0, by decide +kernel, rfl, rfl⟩
theorem i7_distance_23 : ICV m7_distance 23 26 m7_buildPointFiber := ⟨165, by decide +kernel, rfl, q_622⟩
theorem i7_distance_26 : ILa cX7_distance 26 27 0 := Or.inl ⟨0, by decide +kernel, rfl, rfl⟩
theorem i7_distance_27 : IGF m7_distance 27 30 7 5 := ⟨49, by decide +kernel, rfl, by decide, by decide, q_401⟩
theorem i7_distance_30 : ILa cX7_distance 30 31 0 := Or.inl ⟨0, by decide +kernel, rfl, rfl⟩
theorem i7_distance_31 : IGF m7_distance 31 34 7 0 := ⟨12, by decide +kernel, rfl, by decide, by decide, q_396⟩
theorem i7_distance_34 : IGF m7_distance 34 37 5 4 := ⟨162, by decide +kernel, rfl, by decide, by decide, q_112⟩
theorem i7_distance_37 : ICV m7_distance 37 40 m1_numberOf := ⟨183, by decide +kernel, rfl, q_695⟩
theorem i7_distance_40 : ISi cX7_distance 40 41 2 := Or.inl ⟨2, by decide +kernel, rfl, rfl⟩
theorem i7_distance_41 : ILa cX7_distance 41 42 0 := Or.inl ⟨0, by decide +kernel, rfl, rfl⟩
theorem i7_distance_42 : IGF m7_distance 42 45 7 7 := ⟨59, by decide +kernel, rfl, by decide, by decide, q_403⟩
theorem i7_distance_45 : ILa cX7_distance 45 46 0 := Or.inl ⟨0, by decide +kernel, rfl, rfl⟩
theorem i7_distance_46 : IGF m7_distance 46 49 7 5 := ⟨49, by decide +kernel, rfl, by decide, by decide, q_401⟩
theorem i7_distance_49 : ILa cX7_distance 49 50 0 := Or.inl ⟨0, by decide +kernel, rfl, rfl⟩
theorem i7_distance_50 : IGF m7_distance 50 53 7 3 := ⟨33, by decide +kernel, rfl, by decide, by decide, q_399⟩
theorem i7_distance_53 : ILa cX7_distance 53 54 0 := Or.inl ⟨0, by decide +kernel, rfl, rfl⟩
theorem i7_distance_54 : IGF m7_distance 54 57 7 0 := ⟨12, by decide +kernel, rfl, by decide, by decide, q_396⟩
theorem i7_distance_57 : ILi cX7_distance 57 58 2 := Or.inl ⟨2, by decide +kernel, rfl, rfl⟩
theorem i7_distance_58 : ILi cX7_distance 58 59 1 := Or.inl ⟨1, by decide +kernel, rfl, rfl⟩
theorem i7_distance_59 : ICV m7_distance 59 62 m6_countSteps := ⟨187, by decide +kernel, rfl, q_699⟩
theorem i7_distance_62 : ISi cX7_distance 62 63 3 := Or.inl ⟨3, by decide +kernel, rfl, rfl⟩
theorem i7_distance_63 : ILi cX7_distance 63 64 3 := Or.inl ⟨3, by decide +kernel, rfl, rfl⟩
theorem i7_distance_64 : IJ cX7_distance 64 67 73 (.ifCond .ge) := ⟨9, by decide +kernel, rfl, by decide⟩
theorem i7_distance_67 : IC cX7_distance 67 70 (-1009) := ⟨by decide, Or.inr (Or.inr ⟨by decide +kernel, by decide +kernel, rfl⟩)⟩
theorem i7_distance_70 : IJ cX7_distance 70 73 74 .goto := ⟨4, by decide +kernel, rfl, by decide⟩
theorem i7_distance_73 : ILi cX7_distance 73 74 3 := Or.inl ⟨3, by decide +kernel, rfl, rfl⟩
theorem i7_distance_74 : IO cX7_distance 74 75 .ireturn := ⟨by decide +kernel, rfl⟩
theorem i7_isMarkov_0 : ILa cX7_isMarkov 0 1 0 := Or.inl ⟨0, by decide +kernel, rfl, rfl⟩
theorem i7_isMarkov_1 : IGF m7_isMarkov 1 4 7 0 := ⟨12, by decide +kernel, rfl, by decide, by decide, q_396⟩
theorem i7_isMarkov_4 : ICV m7_isMarkov 4 7 m5_hasNoZeroColumn := ⟨124, by decide +kernel, rfl, q_510⟩
theorem i7_isMarkov_7 : IJ cX7_isMarkov 7 10 14 (.ifCond .ne) := ⟨7, by decide +kernel, rfl, by decide⟩
theorem i7_isMarkov_10 : IC cX7_isMarkov 10 13 (-1002) := ⟨by decide, Or.inr (Or.inr ⟨by decide +kernel, by decide +kernel, rfl⟩)⟩
theorem i7_isMarkov_13 : IO cX7_isMarkov 13 14 .ireturn := ⟨by decide +kernel, rfl⟩
theorem i7_isMarkov_14 : ILa cX7_isMarkov 14 15 0 := Or.inl ⟨0, by decide +kernel, rfl, rfl⟩
theorem i7_isMarkov_15 : ICV m7_isMarkov 15 18 m7_isMarkovBasis := ⟨191, by decide +kernel, rfl, q_707⟩
theorem i7_isMarkov_18 : ICS m7_isMarkov 18 21 yX7_asNumber := ⟨128, by decide +kernel, rfl, q_514⟩
theorem i7_isMarkov_21 : IO cX7_isMarkov 21 22 .ireturn := ⟨by decide +kernel, rfl⟩
theorem i7_reduce_0 : ILa cX7_reduce 0 1 0 := Or.inl ⟨0, by decide +kernel, rfl, rfl⟩
theorem i7_reduce_1 : IGF m7_reduce 1 4 7 0 := ⟨12, by decide +kernel, rfl, by decide, by decide, q_396⟩
theorem i7_reduce_4 : ICV m7_reduce 4 7 m5_hasNoZeroColumn := ⟨124, by decide +kernel, rfl, q_510⟩
theorem i7_reduce_7 : IJ cX7_reduce 7 10 17 (.ifCond .eq) := ⟨10, by decide +kernel, rfl, by decide⟩
theorem i7_reduce_10 : ILa cX7_reduce 10 11 0 := Or.inl ⟨0, by decide +kernel, rfl, rfl⟩
theorem i7_reduce_11 : ICV m7_reduce 11 14 m7_isMarkovBasis := ⟨191, by decide +kernel, rfl, q_707⟩
theorem i7_reduce_14 : IJ cX7_reduce 14 17 21 (.ifCond .ne) := ⟨7, by decide +kernel, rfl, by decide⟩
theorem i7_reduce_17 : IC cX7_reduce 17 20 (-1002) := ⟨by decide, Or.inr (Or.inr ⟨by decide +kernel, by decide +kernel, rfl⟩)⟩
theorem i7_reduce_20 : IO cX7_reduce 20 21 .ireturn := ⟨by decide +kernel, rfl⟩
theorem i7_reduce_21 : ILa cX7_reduce 21 22 0 := Or.inl ⟨0, by decide +kernel, rfl, rfl⟩
theorem i7_reduce_22 : ICV m7_reduce 22 25 m7_save := ⟨81, by decide +kernel, rfl, q_431⟩
theorem i7_reduce_25 : ILa cX7_reduce 25 26 0 := Or.inl ⟨0, by decide +kernel, rfl, rfl⟩
theorem i7_reduce_26 : IGF m7_reduce 26 29 7 3 := ⟨33, by decide +kernel, rfl, by decide, by decide, q_399⟩
theorem i7_reduce_29 : IGF m7_reduce 29 32 2 0 := ⟨132, by decide +kernel, rfl, by decide, by decide, q_186⟩
theorem i7_reduce_32 : IC cX7_reduce 32 33 (1) := ⟨by decide, Or.inl ⟨by decide +kernel, rfl⟩⟩
theorem i7_reduce_33 : IO cX7_reduce 33 34 .isub := ⟨by decide +kernel, rfl⟩
theorem i7_reduce_34 : ISi cX7_reduce 34 35 1 := Or.inl ⟨1, by decide +kernel, rfl, rfl⟩
theorem i7_reduce_35 : ILi cX7_reduce 35 36 1 := Or.inl ⟨1, by decide +kernel, rfl, rfl⟩
theorem i7_reduce_36 : IJ cX7_reduce 36 39 61 (.ifCond .lt) := ⟨25, by decide +kernel, rfl, by decide⟩
theorem i7_reduce_39 : ILa cX7_reduce 39 40 0 := Or.inl ⟨0, by decide +kernel, rfl, rfl⟩
theorem i7_reduce_40 : IGF m7_reduce 40 43 7 0 := ⟨12, by decide +kernel, rfl, by decide, by decide, q_396⟩
theorem i7_reduce_43 : ILi cX7_reduce 43 44 1 := Or.inl ⟨1, by decide +kernel, rfl, rfl⟩
theorem i7_reduce_44 : ICV m7_reduce 44 47 m5_isOn := ⟨169, by decide +kernel, rfl, q_638⟩
theorem i7_reduce_47 : IJ cX7_reduce 47 50 55 (.ifCond .eq) := ⟨8, by decide +kernel, rfl, by decide⟩
theorem i7_reduce_50 : ILa cX7_reduce 50 51 0 := Or.inl ⟨0, by decide +kernel, rfl, rfl⟩
theorem i7_reduce_51 : ILi cX7_reduce 51 52 1 := Or.inl ⟨1, by decide +kernel, rfl, rfl⟩
theorem i7_reduce_52 : ICV m7_reduce 52 55 m7_switchOffIfSpare := ⟨194, by decide +kernel, rfl, q_719⟩
theorem i7_reduce_55 : II cX7_reduce 55 58 1 (-1) := ⟨by decide +kernel, by decide, rfl⟩
theorem i7_reduce_58 : IJ cX7_reduce 58 61 35 .goto := ⟨-23, by decide +kernel, rfl, by decide⟩
theorem i7_reduce_61 : ILa cX7_reduce 61 62 0 := Or.inl ⟨0, by decide +kernel, rfl, rfl⟩
theorem i7_reduce_62 : IGF m7_reduce 62 65 7 0 := ⟨12, by decide +kernel, rfl, by decide, by decide, q_396⟩
theorem i7_reduce_65 : ICV m7_reduce 65 68 m5_countOn := ⟨176, by decide +kernel, rfl, q_646⟩
theorem i7_reduce_68 : IO cX7_reduce 68 69 .ireturn := ⟨by decide +kernel, rfl⟩
theorem i7_undo_0 : ILa cX7_undo 0 1 0 := Or.inl ⟨0, by decide +kernel, rfl, rfl⟩
theorem i7_undo_1 : IGF m7_undo 1 4 7 1 := ⟨19, by decide +kernel, rfl, by decide, by decide, q_397⟩
theorem i7_undo_4 : IGF m7_undo 4 7 3 0 := ⟨197, by decide +kernel, rfl, by decide, by decide, q_138⟩
theorem i7_undo_7 : IJ cX7_undo 7 10 14 (.ifCond .ne) := ⟨7, by decide +kernel, rfl, by decide⟩
theorem i7_undo_10 : IC cX7_undo 10 13 (-1002) := ⟨by decide, Or.inr (Or.inr ⟨by decide +kernel, by decide +kernel, rfl⟩)⟩
theorem i7_undo_13 : IO cX7_undo 13 14 .ireturn := ⟨by decide +kernel, rfl⟩
theorem i7_undo_14 : ILa cX7_undo 14 15 0 := Or.inl ⟨0, by decide +kernel, rfl, rfl⟩
theorem i7_undo_15 : IGF m7_undo 15 18 7 1 := ⟨19, by decide +kernel, rfl, by decide, by decide, q_397⟩
theorem i7_undo_18 : ILa cX7_undo 18 19 0 := Or.inl ⟨0, by decide +kernel, rfl, rfl⟩
theorem i7_undo_19 : IGF m7_undo 19 22 7 0 := ⟨12, by decide +kernel, rfl, by decide, by decide, q_396⟩
theorem i7_undo_22 : ICV m7_undo 22 25 m3_restore := ⟨198, by decide +kernel, rfl, q_727⟩
theorem i7_undo_25 : ILa cX7_undo 25 26 0 := Or.inl ⟨0, by decide +kernel, rfl, rfl⟩
theorem i7_undo_26 : IC cX7_undo 26 27 (0) := ⟨by decide, Or.inl ⟨by decide +kernel, rfl⟩⟩
theorem i7_undo_27 : IPF m7_undo 27 30 7 9 := ⟨202, by decide +kernel, rfl, by decide, by decide, q_405, rfl⟩
theorem i7_undo_30 : ILa cX7_undo 30 31 0 := Or.inl ⟨0, by decide +kernel, rfl, rfl⟩
theorem i7_undo_31 : IGF m7_undo 31 34 7 3 := ⟨33, by decide +kernel, rfl, by decide, by decide, q_399⟩
theorem i7_undo_34 : ILa cX7_undo 34 35 0 := Or.inl ⟨0, by decide +kernel, rfl, rfl⟩
theorem i7_undo_35 : IGF m7_undo 35 38 7 0 := ⟨12, by decide +kernel, rfl, by decide, by decide, q_396⟩
theorem i7_undo_38 : ICV m7_undo 38 41 m2_build := ⟨206, by decide +kernel, rfl, q_305⟩
theorem i7_undo_41 : ILa cX7_undo 41 42 0 := Or.inl ⟨0, by decide +kernel, rfl, rfl⟩
theorem i7_undo_42 : IGF m7_undo 42 45 7 1 := ⟨19, by decide +kernel, rfl, by decide, by decide, q_397⟩
theorem i7_undo_45 : IGF m7_undo 45 48 3 0 := ⟨197, by decide +kernel, rfl, by decide, by decide, q_138⟩
theorem i7_undo_48 : IO cX7_undo 48 49 .ireturn := ⟨by decide +kernel, rfl⟩
theorem i7_asNumber_0 : ILi cX7_asNumber 0 1 0 := Or.inl ⟨0, by decide +kernel, rfl, rfl⟩
theorem i7_asNumber_1 : IJ cX7_asNumber 1 4 8 (.ifCond .eq) := ⟨7, by decide +kernel, rfl, by decide⟩
theorem i7_asNumber_4 : IC cX7_asNumber 4 5 (1) := ⟨by decide, Or.inl ⟨by decide +kernel, rfl⟩⟩
theorem i7_asNumber_5 : IJ cX7_asNumber 5 8 9 .goto := ⟨4, by decide +kernel, rfl, by decide⟩
theorem i7_asNumber_8 : IC cX7_asNumber 8 9 (0) := ⟨by decide, Or.inl ⟨by decide +kernel, rfl⟩⟩
theorem i7_asNumber_9 : IO cX7_asNumber 9 10 .ireturn := ⟨by decide +kernel, rfl⟩
theorem i7_isRow_0 : ILi cX7_isRow 0 1 1 := Or.inl ⟨1, by decide +kernel, rfl, rfl⟩
theorem i7_isRow_1 : IJ cX7_isRow 1 4 19 (.ifCond .lt) := ⟨18, by decide +kernel, rfl, by decide⟩
theorem i7_isRow_4 : ILi cX7_isRow 4 5 1 := Or.inl ⟨1, by decide +kernel, rfl, rfl⟩
theorem i7_isRow_5 : ILa cX7_isRow 5 6 0 := Or.inl ⟨0, by decide +kernel, rfl, rfl⟩
theorem i7_isRow_6 : IGF m7_isRow 6 9 7 0 := ⟨12, by decide +kernel, rfl, by decide, by decide, q_396⟩
theorem i7_isRow_9 : IGF m7_isRow 9 12 5 0 := ⟨120, by decide +kernel, rfl, by decide, by decide, q_103⟩
theorem i7_isRow_12 : IJ cX7_isRow 12 15 19 (.if_icmp .ge) := ⟨7, by decide +kernel, rfl, by decide⟩
theorem i7_isRow_15 : IC cX7_isRow 15 16 (1) := ⟨by decide, Or.inl ⟨by decide +kernel, rfl⟩⟩
theorem i7_isRow_16 : IJ cX7_isRow 16 19 20 .goto := ⟨4, by decide +kernel, rfl, by decide⟩
theorem i7_isRow_19 : IC cX7_isRow 19 20 (0) := ⟨by decide, Or.inl ⟨by decide +kernel, rfl⟩⟩
theorem i7_isRow_20 : IO cX7_isRow 20 21 .ireturn := ⟨by decide +kernel, rfl⟩
theorem i7_isColumn_0 : ILi cX7_isColumn 0 1 1 := Or.inl ⟨1, by decide +kernel, rfl, rfl⟩
theorem i7_isColumn_1 : IJ cX7_isColumn 1 4 19 (.ifCond .lt) := ⟨18, by decide +kernel, rfl, by decide⟩
theorem i7_isColumn_4 : ILi cX7_isColumn 4 5 1 := Or.inl ⟨1, by decide +kernel, rfl, rfl⟩
theorem i7_isColumn_5 : ILa cX7_isColumn 5 6 0 := Or.inl ⟨0, by decide +kernel, rfl, rfl⟩
theorem i7_isColumn_6 : IGF m7_isColumn 6 9 7 0 := ⟨12, by decide +kernel, rfl, by decide, by decide, q_396⟩
theorem i7_isColumn_9 : IGF m7_isColumn 9 12 5 1 := ⟨77, by decide +kernel, rfl, by decide, by decide, q_105⟩
theorem i7_isColumn_12 : IJ cX7_isColumn 12 15 19 (.if_icmp .ge) := ⟨7, by decide +kernel, rfl, by decide⟩
theorem i7_isColumn_15 : IC cX7_isColumn 15 16 (1) := ⟨by decide, Or.inl ⟨by decide +kernel, rfl⟩⟩
theorem i7_isColumn_16 : IJ cX7_isColumn 16 19 20 .goto := ⟨4, by decide +kernel, rfl, by decide⟩
theorem i7_isColumn_19 : IC cX7_isColumn 19 20 (0) := ⟨by decide, Or.inl ⟨by decide +kernel, rfl⟩⟩
theorem i7_isColumn_20 : IO cX7_isColumn 20 21 .ireturn := ⟨by decide +kernel, rfl⟩
theorem i7_isElement_0 : ILi cX7_isElement 0 1 1 := Or.inl ⟨1, by decide +kernel, rfl, rfl⟩
theorem i7_isElement_1 : IJ cX7_isElement 1 4 19 (.ifCond .lt) := ⟨18, by decide +kernel, rfl, by decide⟩
theorem i7_isElement_4 : ILi cX7_isElement 4 5 1 := Or.inl ⟨1, by decide +kernel, rfl, rfl⟩
theorem i7_isElement_5 : ILa cX7_isElement 5 6 0 := Or.inl ⟨0, by decide +kernel, rfl, rfl⟩
theorem i7_isElement_6 : IGF m7_isElement 6 9 7 3 := ⟨33, by decide +kernel, rfl, by decide, by decide, q_399⟩
theorem i7_isElement_9 : IGF m7_isElement 9 12 2 0 := ⟨132, by decide +kernel, rfl, by decide, by decide, q_186⟩
theorem i7_isElement_12 : IJ cX7_isElement 12 15 19 (.if_icmp .ge) := ⟨7, by decide +kernel, rfl, by decide⟩
theorem i7_isElement_15 : IC cX7_isElement 15 16 (1) := ⟨by decide, Or.inl ⟨by decide +kernel, rfl⟩⟩
theorem i7_isElement_16 : IJ cX7_isElement 16 19 20 .goto := ⟨4, by decide +kernel, rfl, by decide⟩
theorem i7_isElement_19 : IC cX7_isElement 19 20 (0) := ⟨by decide, Or.inl ⟨by decide +kernel, rfl⟩⟩
theorem i7_isElement_20 : IO cX7_isElement 20 21 .ireturn := ⟨by decide +kernel, rfl⟩
theorem i7_save_0 : ILa cX7_save 0 1 0 := Or.inl ⟨0, by decide +kernel, rfl, rfl⟩
theorem i7_save_1 : IGF m7_save 1 4 7 1 := ⟨19, by decide +kernel, rfl, by decide, by decide, q_397⟩
theorem i7_save_4 : ILa cX7_save 4 5 0 := Or.inl ⟨0, by decide +kernel, rfl, rfl⟩
theorem i7_save_5 : IGF m7_save 5 8 7 0 := ⟨12, by decide +kernel, rfl, by decide, by decide, q_396⟩
theorem i7_save_8 : ICV m7_save 8 11 m3_save := ⟨209, by decide +kernel, rfl, q_435⟩
theorem i7_save_11 : ILa cX7_save 11 12 0 := Or.inl ⟨0, by decide +kernel, rfl, rfl⟩
theorem i7_save_12 : IC cX7_save 12 13 (0) := ⟨by decide, Or.inl ⟨by decide +kernel, rfl⟩⟩
theorem i7_save_13 : IPF m7_save 13 16 7 9 := ⟨202, by decide +kernel, rfl, by decide, by decide, q_405, rfl⟩
theorem i7_save_16 : IO cX7_save 16 17 .return_ := ⟨by decide +kernel, rfl⟩
theorem i7_takeNewMatrix_0 : ILa cX7_takeNewMatrix 0 1 0 := Or.inl ⟨0, by decide +kernel, rfl, rfl⟩
theorem i7_takeNewMatrix_1 : IGF m7_takeNewMatrix 1 4 7 3 := ⟨33, by decide +kernel, rfl, by decide, by decide, q_399⟩
theorem i7_takeNewMatrix_4 : ILa cX7_takeNewMatrix 4 5 0 := Or.inl ⟨0, by decide +kernel, rfl, rfl⟩
theorem i7_takeNewMatrix_5 : IGF m7_takeNewMatrix 5 8 7 0 := ⟨12, by decide +kernel, rfl, by decide, by decide, q_396⟩
theorem i7_takeNewMatrix_8 : ICV m7_takeNewMatrix 8 11 m2_build := ⟨206, by decide +kernel, rfl, q_305⟩
theorem i7_takeNewMatrix_11 : ILa cX7_takeNewMatrix 11 12 0 := Or.inl ⟨0, by decide +kernel, rfl, rfl⟩
theorem i7_takeNewMatrix_12 : IGF m7_takeNewMatrix 12 15 7 0 := ⟨12, by decide +kernel, rfl, by decide, by decide, q_396⟩
theorem i7_takeNewMatrix_15 : ILa cX7_takeNewMatrix 15 16 0 := Or.inl ⟨0, by decide +kernel, rfl, rfl⟩
theorem i7_takeNewMatrix_16 : IGF m7_takeNewMatrix 16 19 7 3 := ⟨33, by decide +kernel, rfl, by decide, by decide, q_399⟩
theorem i7_takeNewMatrix_19 : IGF m7_takeNewMatrix 19 22 2 0 := ⟨132, by decide +kernel, rfl, by decide, by decide, q_186⟩
theorem i7_takeNewMatrix_22 : ICV m7_takeNewMatrix 22 25 m5_switchAllOn := ⟨211, by decide +kernel, rfl, q_392⟩
theorem i7_takeNewMatrix_25 : IO cX7_takeNewMatrix 25 26 .return_ := ⟨by decide +kernel, rfl⟩
theorem i7_buildPointFiber_0 : ILa cX7_buildPointFiber 0 1 0 := Or.inl ⟨0, by decide +kernel, rfl, rfl⟩
theorem i7_buildPointFiber_1 : IGF m7_buildPointFiber 1 4 7 9 := ⟨202, by decide +kernel, rfl, by decide, by decide, q_405⟩
theorem i7_buildPointFiber_4 : IJ cX7_buildPointFiber 4 7 30 (.ifCond .ne) := ⟨26, by decide +kernel, rfl, by decide⟩
theorem i7_buildPointFiber_7 : ILa cX7_buildPointFiber 7 8 0 := Or.inl ⟨0, by decide +kernel, rfl, rfl⟩
theorem i7_buildPointFiber_8 : IGF m7_buildPointFiber 8 11 7 5 := ⟨49, by decide +kernel, rfl, by decide, by decide, q_401⟩
theorem i7_buildPointFiber_11 : ILa cX7_buildPointFiber 11 12 0 := Or.inl ⟨0, by decide +kernel, rfl, rfl⟩
theorem i7_buildPointFiber_12 : IGF m7_buildPointFiber 12 15 7 0 := ⟨12, by decide +kernel, rfl, by decide, by decide, q_396⟩
theorem i7_buildPointFiber_15 : ILa cX7_buildPointFiber 15 16 0 := Or.inl ⟨0, by decide +kernel, rfl, rfl⟩
theorem i7_buildPointFiber_16 : IGF m7_buildPointFiber 16 19 7 0 := ⟨12, by decide +kernel, rfl, by decide, by decide, q_396⟩
theorem i7_buildPointFiber_19 : IGF m7_buildPointFiber 19 22 5 4 := ⟨162, by decide +kernel, rfl, by decide, by decide, q_112⟩
theorem i7_buildPointFiber_22 : ICV m7_buildPointFiber 22 25 m1_build := ⟨214, by decide +kernel, rfl, q_557⟩
theorem i7_buildPointFiber_25 : ILa cX7_buildPointFiber 25 26 0 := Or.inl ⟨0, by decide +kernel, rfl, rfl⟩
theorem i7_buildPointFiber_26 : IC cX7_buildPointFiber 26 27 (1) := ⟨by decide, Or.inl ⟨by decide +kernel, rfl⟩⟩
theorem i7_buildPointFiber_27 : IPF m7_buildPointFiber 27 30 7 9 := ⟨202, by decide +kernel, rfl, by decide, by decide, q_405, rfl⟩
theorem i7_buildPointFiber_30 : IO cX7_buildPointFiber 30 31 .return_ := ⟨by decide +kernel, rfl⟩
theorem i7_buildElementFiber_0 : ILa cX7_buildElementFiber 0 1 0 := Or.inl ⟨0, by decide +kernel, rfl, rfl⟩
theorem i7_buildElementFiber_1 : IGF m7_buildElementFiber 1 4 7 3 := ⟨33, by decide +kernel, rfl, by decide, by decide, q_399⟩
theorem i7_buildElementFiber_4 : ILi cX7_buildElementFiber 4 5 1 := Or.inl ⟨1, by decide +kernel, rfl, rfl⟩
theorem i7_buildElementFiber_5 : IC cX7_buildElementFiber 5 6 (1) := ⟨by decide, Or.inl ⟨by decide +kernel, rfl⟩⟩
theorem i7_buildElementFiber_6 : ILa cX7_buildElementFiber 6 7 0 := Or.inl ⟨0, by decide +kernel, rfl, rfl⟩
theorem i7_buildElementFiber_7 : IGF m7_buildElementFiber 7 10 7 8 := ⟨63, by decide +kernel, rfl, by decide, by decide, q_404⟩
theorem i7_buildElementFiber_10 : ICV m7_buildElementFiber 10 13 m2_copyPart := ⟨217, by decide +kernel, rfl, q_550⟩
theorem i7_buildElementFiber_13 : ILa cX7_buildElementFiber 13 14 0 := Or.inl ⟨0, by decide +kernel, rfl, rfl⟩
theorem i7_buildElementFiber_14 : IGF m7_buildElementFiber 14 17 7 6 := ⟨53, by decide +kernel, rfl, by decide, by decide, q_402⟩
theorem i7_buildElementFiber_17 : ILa cX7_buildElementFiber 17 18 0 := Or.inl ⟨0, by decide +kernel, rfl, rfl⟩
theorem i7_buildElementFiber_18 : IGF m7_buildElementFiber 18 21 7 0 := ⟨12, by decide +kernel, rfl, by decide, by decide, q_396⟩
theorem i7_buildElementFiber_21 : ILa cX7_buildElementFiber 21 22 0 := Or.inl ⟨0, by decide +kernel, rfl, rfl⟩
theorem i7_buildElementFiber_22 : IGF m7_buildElementFiber 22 25 7 8 := ⟨63, by decide +kernel, rfl, by decide, by decide, q_404⟩
theorem i7_buildElementFiber_25 : ICV m7_buildElementFiber 25 28 m1_build := ⟨214, by decide +kernel, rfl, q_557⟩
theorem i7_buildElementFiber_28 : IO cX7_buildElementFiber 28 29 .return_ := ⟨by decide +kernel, rfl⟩
theorem i7_isMarkovBasis_0 : IC cX7_isMarkovBasis 0 1 (0) := ⟨by decide, Or.inl ⟨by decide +kernel, rfl⟩⟩
theorem i7_isMarkovBasis_1 : ISi cX7_isMarkovBasis 1 2 1 := Or.inl ⟨1, by decide +kernel, rfl, rfl⟩
theorem i7_isMarkovBasis_2 : ILi cX7_isMarkovBasis 2 3 1 := Or.inl ⟨1, by decide +kernel, rfl, rfl⟩
theorem i7_isMarkovBasis_3 : ILa cX7_isMarkovBasis 3 4 0 := Or.inl ⟨0, by decide +kernel, rfl, rfl⟩
theorem i7_isMarkovBasis_4 : IGF m7_isMarkovBasis 4 7 7 3 := ⟨33, by decide +kernel, rfl, by decide, by decide, q_399⟩
theorem i7_isMarkovBasis_7 : IGF m7_isMarkovBasis 7 10 2 0 := ⟨132, by decide +kernel, rfl, by decide, by decide, q_186⟩
theorem i7_isMarkovBasis_10 : IJ cX7_isMarkovBasis 10 13 40 (.if_icmp .ge) := ⟨30, by decide +kernel, rfl, by decide⟩
theorem i7_isMarkovBasis_13 : ILa cX7_isMarkovBasis 13 14 0 := Or.inl ⟨0, by decide +kernel, rfl, rfl⟩
theorem i7_isMarkovBasis_14 : IGF m7_isMarkovBasis 14 17 7 0 := ⟨12, by decide +kernel, rfl, by decide, by decide, q_396⟩
theorem i7_isMarkovBasis_17 : ILi cX7_isMarkovBasis 17 18 1 := Or.inl ⟨1, by decide +kernel, rfl, rfl⟩
theorem i7_isMarkovBasis_18 : ICV m7_isMarkovBasis 18 21 m5_isOn := ⟨169, by decide +kernel, rfl, q_638⟩
theorem i7_isMarkovBasis_21 : IJ cX7_isMarkovBasis 21 24 34 (.ifCond .ne) := ⟨13, by decide +kernel, rfl, by decide⟩
theorem i7_isMarkovBasis_24 : ILa cX7_isMarkovBasis 24 25 0 := Or.inl ⟨0, by decide +kernel, rfl, rfl⟩
theorem i7_isMarkovBasis_25 : ILi cX7_isMarkovBasis 25 26 1 := Or.inl ⟨1, by decide +kernel, rfl, rfl⟩
theorem i7_isMarkovBasis_26 : ICV m7_isMarkovBasis 26 29 m7_joinsItsParts := ⟨221, by decide +kernel, rfl, q_711⟩
theorem i7_isMarkovBasis_29 : IJ cX7_isMarkovBasis 29 32 34 (.ifCond .ne) := ⟨5, by decide +kernel, rfl, by decide⟩
theorem i7_isMarkovBasis_32 : IC cX7_isMarkovBasis 32 33 (0) := ⟨by decide, Or.inl ⟨by decide +kernel, rfl⟩⟩
theorem i7_isMarkovBasis_33 : IO cX7_isMarkovBasis 33 34 .ireturn := ⟨by decide +kernel, rfl⟩
theorem i7_isMarkovBasis_34 : II cX7_isMarkovBasis 34 37 1 (1) := ⟨by decide +kernel, by decide, rfl⟩
theorem i7_isMarkovBasis_37 : IJ cX7_isMarkovBasis 37 40 2 .goto := ⟨-35, by decide +kernel, rfl, by decide⟩
theorem i7_isMarkovBasis_40 : IC cX7_isMarkovBasis 40 41 (1) := ⟨by decide, Or.inl ⟨by decide +kernel, rfl⟩⟩
theorem i7_isMarkovBasis_41 : IO cX7_isMarkovBasis 41 42 .ireturn := ⟨by decide +kernel, rfl⟩
theorem i7_switchOffIfSpare_0 : ILa cX7_switchOffIfSpare 0 1 0 := Or.inl ⟨0, by decide +kernel, rfl, rfl⟩
theorem i7_switchOffIfSpare_1 : IGF m7_switchOffIfSpare 1 4 7 0 := ⟨12, by decide +kernel, rfl, by decide, by decide, q_396⟩
theorem i7_switchOffIfSpare_4 : ILi cX7_switchOffIfSpare 4 5 1 := Or.inl ⟨1, by decide +kernel, rfl, rfl⟩
theorem i7_switchOffIfSpare_5 : IC cX7_switchOffIfSpare 5 6 (0) := ⟨by decide, Or.inl ⟨by decide +kernel, rfl⟩⟩
theorem i7_switchOffIfSpare_6 : ICV m7_switchOffIfSpare 6 9 m5_switchTo := ⟨172, by decide +kernel, rfl, q_642⟩
theorem i7_switchOffIfSpare_9 : ILa cX7_switchOffIfSpare 9 10 0 := Or.inl ⟨0, by decide +kernel, rfl, rfl⟩
theorem i7_switchOffIfSpare_10 : ILi cX7_switchOffIfSpare 10 11 1 := Or.inl ⟨1, by decide +kernel, rfl, rfl⟩
theorem i7_switchOffIfSpare_11 : ICV m7_switchOffIfSpare 11 14 m7_joinsItsParts := ⟨221, by decide +kernel, rfl, q_711⟩
theorem i7_switchOffIfSpare_14 : IJ cX7_switchOffIfSpare 14 17 26 (.ifCond .ne) := ⟨12, by decide +kernel, rfl, by decide⟩
theorem i7_switchOffIfSpare_17 : ILa cX7_switchOffIfSpare 17 18 0 := Or.inl ⟨0, by decide +kernel, rfl, rfl⟩
theorem i7_switchOffIfSpare_18 : IGF m7_switchOffIfSpare 18 21 7 0 := ⟨12, by decide +kernel, rfl, by decide, by decide, q_396⟩
theorem i7_switchOffIfSpare_21 : ILi cX7_switchOffIfSpare 21 22 1 := Or.inl ⟨1, by decide +kernel, rfl, rfl⟩
theorem i7_switchOffIfSpare_22 : IC cX7_switchOffIfSpare 22 23 (1) := ⟨by decide, Or.inl ⟨by decide +kernel, rfl⟩⟩
theorem i7_switchOffIfSpare_23 : ICV m7_switchOffIfSpare 23 26 m5_switchTo := ⟨172, by decide +kernel, rfl, q_642⟩
theorem i7_switchOffIfSpare_26 : IO cX7_switchOffIfSpare 26 27 .return_ := ⟨by decide +kernel, rfl⟩
theorem i7_joinsItsParts_0 : ILa cX7_joinsItsParts 0 1 0 := Or.inl ⟨0, by decide +kernel, rfl, rfl⟩
theorem i7_joinsItsParts_1 : ILi cX7_joinsItsParts 1 2 1 := Or.inl ⟨1, by decide +kernel, rfl, rfl⟩
theorem i7_joinsItsParts_2 : ICV m7_joinsItsParts 2 5 m7_buildElementFiber := ⟨142, by decide +kernel, rfl, q_546⟩
theorem i7_joinsItsParts_5 : ILa cX7_joinsItsParts 5 6 0 := Or.inl ⟨0, by decide +kernel, rfl, rfl⟩
theorem i7_joinsItsParts_6 : IGF m7_joinsItsParts 6 9 7 6 := ⟨53, by decide +kernel, rfl, by decide, by decide, q_402⟩
theorem i7_joinsItsParts_9 : ILa cX7_joinsItsParts 9 10 0 := Or.inl ⟨0, by decide +kernel, rfl, rfl⟩
theorem i7_joinsItsParts_10 : IGF m7_joinsItsParts 10 13 7 8 := ⟨63, by decide +kernel, rfl, by decide, by decide, q_404⟩
theorem i7_joinsItsParts_13 : ICV m7_joinsItsParts 13 16 m1_numberOf := ⟨183, by decide +kernel, rfl, q_695⟩
theorem i7_joinsItsParts_16 : ISi cX7_joinsItsParts 16 17 2 := Or.inl ⟨2, by decide +kernel, rfl, rfl⟩
theorem i7_joinsItsParts_17 : ILa cX7_joinsItsParts 17 18 0 := Or.inl ⟨0, by decide +kernel, rfl, rfl⟩
theorem i7_joinsItsParts_18 : IGF m7_joinsItsParts 18 21 7 3 := ⟨33, by decide +kernel, rfl, by decide, by decide, q_399⟩
theorem i7_joinsItsParts_21 : ILi cX7_joinsItsParts 21 22 1 := Or.inl ⟨1, by decide +kernel, rfl, rfl⟩
theorem i7_joinsItsParts_22 : IC cX7_joinsItsParts 22 23 (-1) := ⟨by decide, Or.inl ⟨by decide +kernel, rfl⟩⟩
theorem i7_joinsItsParts_23 : ILa cX7_joinsItsParts 23 24 0 := Or.inl ⟨0, by decide +kernel, rfl, rfl⟩
theorem i7_joinsItsParts_24 : IGF m7_joinsItsParts 24 27 7 8 := ⟨63, by decide +kernel, rfl, by decide, by decide, q_404⟩
theorem i7_joinsItsParts_27 : ICV m7_joinsItsParts 27 30 m2_copyPart := ⟨217, by decide +kernel, rfl, q_550⟩
theorem i7_joinsItsParts_30 : ILa cX7_joinsItsParts 30 31 0 := Or.inl ⟨0, by decide +kernel, rfl, rfl⟩
theorem i7_joinsItsParts_31 : IGF m7_joinsItsParts 31 34 7 6 := ⟨53, by decide +kernel, rfl, by decide, by decide, q_402⟩
theorem i7_joinsItsParts_34 : ILa cX7_joinsItsParts 34 35 0 := Or.inl ⟨0, by decide +kernel, rfl, rfl⟩
theorem i7_joinsItsParts_35 : IGF m7_joinsItsParts 35 38 7 8 := ⟨63, by decide +kernel, rfl, by decide, by decide, q_404⟩
theorem i7_joinsItsParts_38 : ICV m7_joinsItsParts 38 41 m1_numberOf := ⟨183, by decide +kernel, rfl, q_695⟩
theorem i7_joinsItsParts_41 : ISi cX7_joinsItsParts 41 42 3 := Or.inl ⟨3, by decide +kernel, rfl, rfl⟩
theorem i7_joinsItsParts_42 : ILa cX7_joinsItsParts 42 43 0 := Or.inl ⟨0, by decide +kernel, rfl, rfl⟩
theorem i7_joinsItsParts_43 : IGF m7_joinsItsParts 43 46 7 7 := ⟨59, by decide +kernel, rfl, by decide, by decide, q_403⟩
theorem i7_joinsItsParts_46 : ILa cX7_joinsItsParts 46 47 0 := Or.inl ⟨0, by decide +kernel, rfl, rfl⟩
theorem i7_joinsItsParts_47 : IGF m7_joinsItsParts 47 50 7 6 := ⟨53, by decide +kernel, rfl, by decide, by decide, q_402⟩
theorem i7_joinsItsParts_50 : ILa cX7_joinsItsParts 50 51 0 := Or.inl ⟨0, by decide +kernel, rfl, rfl⟩
theorem i7_joinsItsParts_51 : IGF m7_joinsItsParts 51 54 7 3 := ⟨33, by decide +kernel, rfl, by decide, by decide, q_399⟩
theorem i7_joinsItsParts_54 : ILa cX7_joinsItsParts 54 55 0 := Or.inl ⟨0, by decide +kernel, rfl, rfl⟩
theorem i7_joinsItsParts_55 : IGF m7_joinsItsParts 55 58 7 0 := ⟨12, by decide +kernel, rfl, by decide, by decide, q_396⟩
theorem i7_joinsItsParts_58 : ILi cX7_joinsItsParts 58 59 2 := Or.inl ⟨2, by decide +kernel, rfl, rfl⟩
theorem i7_joinsItsParts_59 : ILi cX7_joinsItsParts 59 60 3 := Or.inl ⟨3, by decide +kernel, rfl, rfl⟩
theorem i7_joinsItsParts_60 : ICV m7_joinsItsParts 60 63 m6_countSteps := ⟨187, by decide +kernel, rfl, q_699⟩
theorem i7_joinsItsParts_63 : IJ cX7_joinsItsParts 63 66 70 (.ifCond .lt) := ⟨7, by decide +kernel, rfl, by decide⟩
theorem i7_joinsItsParts_66 : IC cX7_joinsItsParts 66 67 (1) := ⟨by decide, Or.inl ⟨by decide +kernel, rfl⟩⟩
theorem i7_joinsItsParts_67 : IJ cX7_joinsItsParts 67 70 71 .goto := ⟨4, by decide +kernel, rfl, by decide⟩
theorem i7_joinsItsParts_70 : IC cX7_joinsItsParts 70 71 (0) := ⟨by decide, Or.inl ⟨by decide +kernel, rfl⟩⟩
theorem i7_joinsItsParts_71 : IO cX7_joinsItsParts 71 72 .ireturn := ⟨by decide +kernel, rfl⟩
theorem iJ6_bitCount_0f7a4_0 : ILi cJ6_bitCount_0f7a4 0 1 0 := Or.inl ⟨0, by decide +kernel, rfl, rfl⟩
theorem iJ6_bitCount_0f7a4_1 : ILi cJ6_bitCount_0f7a4 1 2 0 := Or.inl ⟨0, by decide +kernel, rfl, rfl⟩
theorem iJ6_bitCount_0f7a4_2 : IC cJ6_bitCount_0f7a4 2 3 (1) := ⟨by decide, Or.inl ⟨by decide +kernel, rfl⟩⟩
theorem iJ6_bitCount_0f7a4_3 : IO cJ6_bitCount_0f7a4 3 4 .iushr := ⟨by decide +kernel, rfl⟩
theorem iJ6_bitCount_0f7a4_4 : ILD mJ6_bitCount_0f7a4 4 7 (1431655765) := ⟨265, by decide +kernel, rfl, by decide, q_653⟩
theorem iJ6_bitCount_0f7a4_7 : IO cJ6_bitCount_0f7a4 7 8 .iand := ⟨by decide +kernel, rfl⟩
theorem iJ6_bitCount_0f7a4_8 : IO cJ6_bitCount_0f7a4 8 9 .isub := ⟨by decide +kernel, rfl⟩
theorem iJ6_bitCount_0f7a4_9 : ISi cJ6_bitCount_0f7a4 9 10 0 := Or.inl ⟨0, by decide +kernel, rfl, rfl⟩
theorem iJ6_bitCount_0f7a4_10 : ILi cJ6_bitCount_0f7a4 10 11 0 := Or.inl ⟨0, by decide +kernel, rfl, rfl⟩
theorem iJ6_bitCount_0f7a4_11 : ILD mJ6_bitCount_0f7a4 11 14 (858993459) := ⟨266, by decide +kernel, rfl, by decide, q_654⟩
theorem iJ6_bitCount_0f7a4_14 : IO cJ6_bitCount_0f7a4 14 15 .iand := ⟨by decide +kernel, rfl⟩
theorem iJ6_bitCount_0f7a4_15 : ILi cJ6_bitCount_0f7a4 15 16 0 := Or.inl ⟨0, by decide +kernel, rfl, rfl⟩
theorem iJ6_bitCount_0f7a4_16 : IC cJ6_bitCount_0f7a4 16 17 (2) := ⟨by decide, Or.inl ⟨by decide +kernel, rfl⟩⟩
theorem iJ6_bitCount_0f7a4_17 : IO cJ6_bitCount_0f7a4 17 18 .iushr := ⟨by decide +kernel, rfl⟩
theorem iJ6_bitCount_0f7a4_18 : ILD mJ6_bitCount_0f7a4 18 21 (858993459) := ⟨266, by decide +kernel, rfl, by decide, q_654⟩
theorem iJ6_bitCount_0f7a4_21 : IO cJ6_bitCount_0f7a4 21 22 .iand := ⟨by decide +kernel, rfl⟩
theorem iJ6_bitCount_0f7a4_22 : IO cJ6_bitCount_0f7a4 22 23 .iadd := ⟨by decide +kernel, rfl⟩
theorem iJ6_bitCount_0f7a4_23 : ISi cJ6_bitCount_0f7a4 23 24 0 := Or.inl ⟨0, by decide +kernel, rfl, rfl⟩
theorem iJ6_bitCount_0f7a4_24 : ILi cJ6_bitCount_0f7a4 24 25 0 := Or.inl ⟨0, by decide +kernel, rfl, rfl⟩
theorem iJ6_bitCount_0f7a4_25 : ILi cJ6_bitCount_0f7a4 25 26 0 := Or.inl ⟨0, by decide +kernel, rfl, rfl⟩
theorem iJ6_bitCount_0f7a4_26 : IC cJ6_bitCount_0f7a4 26 27 (4) := ⟨by decide, Or.inl ⟨by decide +kernel, rfl⟩⟩
theorem iJ6_bitCount_0f7a4_27 : IO cJ6_bitCount_0f7a4 27 28 .iushr := ⟨by decide +kernel, rfl⟩
theorem iJ6_bitCount_0f7a4_28 : IO cJ6_bitCount_0f7a4 28 29 .iadd := ⟨by decide +kernel, rfl⟩
theorem iJ6_bitCount_0f7a4_29 : ILD mJ6_bitCount_0f7a4 29 32 (252645135) := ⟨267, by decide +kernel, rfl, by decide, q_655⟩
theorem iJ6_bitCount_0f7a4_32 : IO cJ6_bitCount_0f7a4 32 33 .iand := ⟨by decide +kernel, rfl⟩
theorem iJ6_bitCount_0f7a4_33 : ISi cJ6_bitCount_0f7a4 33 34 0 := Or.inl ⟨0, by decide +kernel, rfl, rfl⟩
theorem iJ6_bitCount_0f7a4_34 : ILi cJ6_bitCount_0f7a4 34 35 0 := Or.inl ⟨0, by decide +kernel, rfl, rfl⟩
theorem iJ6_bitCount_0f7a4_35 : ILi cJ6_bitCount_0f7a4 35 36 0 := Or.inl ⟨0, by decide +kernel, rfl, rfl⟩
theorem iJ6_bitCount_0f7a4_36 : IC cJ6_bitCount_0f7a4 36 38 (8) := ⟨by decide, Or.inr (Or.inl ⟨by decide +kernel, by decide +kernel, rfl⟩)⟩
theorem iJ6_bitCount_0f7a4_38 : IO cJ6_bitCount_0f7a4 38 39 .iushr := ⟨by decide +kernel, rfl⟩
theorem iJ6_bitCount_0f7a4_39 : IO cJ6_bitCount_0f7a4 39 40 .iadd := ⟨by decide +kernel, rfl⟩
theorem iJ6_bitCount_0f7a4_40 : ISi cJ6_bitCount_0f7a4 40 41 0 := Or.inl ⟨0, by decide +kernel, rfl, rfl⟩
theorem iJ6_bitCount_0f7a4_41 : ILi cJ6_bitCount_0f7a4 41 42 0 := Or.inl ⟨0, by decide +kernel, rfl, rfl⟩
theorem iJ6_bitCount_0f7a4_42 : ILi cJ6_bitCount_0f7a4 42 43 0 := Or.inl ⟨0, by decide +kernel, rfl, rfl⟩
theorem iJ6_bitCount_0f7a4_43 : IC cJ6_bitCount_0f7a4 43 45 (16) := ⟨by decide, Or.inr (Or.inl ⟨by decide +kernel, by decide +kernel, rfl⟩)⟩
theorem iJ6_bitCount_0f7a4_45 : IO cJ6_bitCount_0f7a4 45 46 .iushr := ⟨by decide +kernel, rfl⟩
theorem iJ6_bitCount_0f7a4_46 : IO cJ6_bitCount_0f7a4 46 47 .iadd := ⟨by decide +kernel, rfl⟩
theorem iJ6_bitCount_0f7a4_47 : ISi cJ6_bitCount_0f7a4 47 48 0 := Or.inl ⟨0, by decide +kernel, rfl, rfl⟩
theorem iJ6_bitCount_0f7a4_48 : ILi cJ6_bitCount_0f7a4 48 49 0 := Or.inl ⟨0, by decide +kernel, rfl, rfl⟩
theorem iJ6_bitCount_0f7a4_49 : IC cJ6_bitCount_0f7a4 49 51 (63) := ⟨by decide, Or.inr (Or.inl ⟨by decide +kernel, by decide +kernel, rfl⟩)⟩
theorem iJ6_bitCount_0f7a4_51 : IO cJ6_bitCount_0f7a4 51 52 .iand := ⟨by decide +kernel, rfl⟩
theorem iJ6_bitCount_0f7a4_52 : IO cJ6_bitCount_0f7a4 52 53 .ireturn := ⟨by decide +kernel, rfl⟩
end
section
theorem i8_init_0 : ILa cX8_init 0 1 0 := Or.inl ⟨0, by decide +kernel, rfl, rfl⟩
theorem i8_init_1 : ICI m8_init 1 4 objectInit := ⟨1, by decide +kernel, rfl, q_736⟩
theorem i8_init_4 : ILa cX8_init 4 5 0 := Or.inl ⟨0, by decide +kernel, rfl, rfl⟩
theorem i8_init_5 : IC cX8_init 5 8 (178) := ⟨by decide, Or.inr (Or.inr ⟨by decide +kernel, by decide +kernel, rfl⟩)⟩
theorem i8_init_8 : INA cX8_init 8 10 := ⟨by decide +kernel, rfl⟩
theorem i8_init_10 : IPZ m8_init 10 13 8 0 := ⟨7, by decide +kernel, rfl, by decide, by decide, q_795, rfl, rfl, rfl⟩
theorem i8_init_13 : ILa cX8_init 13 14 0 := Or.inl ⟨0, by decide +kernel, rfl, rfl⟩
theorem i8_init_14 : IC cX8_init 14 17 (1424) := ⟨by decide, Or.inr (Or.inr ⟨by decide +kernel, by decide +kernel, rfl⟩)⟩
theorem i8_init_17 : INA cX8_init 17 19 := ⟨by decide +kernel, rfl⟩
theorem i8_init_19 : IPZ m8_init 19 22 8 1 := ⟨13, by decide +kernel, rfl, by decide, by decide, q_796, rfl, rfl, rfl⟩
theorem i8_init_22 : ILa cX8_init 22 23 0 := Or.inl ⟨0, by decide +kernel, rfl, rfl⟩
theorem i8_init_23 : IC cX8_init 23 25 (40) := ⟨by decide, Or.inr (Or.inl ⟨by decide +kernel, by decide +kernel, rfl⟩)⟩
theorem i8_init_25 : INA cX8_init 25 27 := ⟨by decide +kernel, rfl⟩
theorem i8_init_27 : IPZ m8_init 27 30 8 3 := ⟨16, by decide +kernel, rfl, by decide, by decide, q_798, rfl, rfl, rfl⟩
theorem i8_init_30 : ILa cX8_init 30 31 0 := Or.inl ⟨0, by decide +kernel, rfl, rfl⟩
theorem i8_init_31 : IC cX8_init 31 34 (640) := ⟨by decide, Or.inr (Or.inr ⟨by decide +kernel, by decide +kernel, rfl⟩)⟩
theorem i8_init_34 : INA cX8_init 34 36 := ⟨by decide +kernel, rfl⟩
theorem i8_init_36 : IPZ m8_init 36 39 8 6 := ⟨19, by decide +kernel, rfl, by decide, by decide, q_801, rfl, rfl, rfl⟩
theorem i8_init_39 : ILa cX8_init 39 40 0 := Or.inl ⟨0, by decide +kernel, rfl, rfl⟩
theorem i8_init_40 : IC cX8_init 40 43 (3200) := ⟨by decide, Or.inr (Or.inr ⟨by decide +kernel, by decide +kernel, rfl⟩)⟩
theorem i8_init_43 : INA cX8_init 43 45 := ⟨by decide +kernel, rfl⟩
theorem i8_init_45 : IPZ m8_init 45 48 8 7 := ⟨22, by decide +kernel, rfl, by decide, by decide, q_802, rfl, rfl, rfl⟩
theorem i8_init_48 : ILa cX8_init 48 49 0 := Or.inl ⟨0, by decide +kernel, rfl, rfl⟩
theorem i8_init_49 : IC cX8_init 49 50 (4) := ⟨by decide, Or.inl ⟨by decide +kernel, rfl⟩⟩
theorem i8_init_50 : INA cX8_init 50 52 := ⟨by decide +kernel, rfl⟩
theorem i8_init_52 : IPZ m8_init 52 55 8 9 := ⟨25, by decide +kernel, rfl, by decide, by decide, q_804, rfl, rfl, rfl⟩
theorem i8_init_55 : ILa cX8_init 55 56 0 := Or.inl ⟨0, by decide +kernel, rfl, rfl⟩
theorem i8_init_56 : IC cX8_init 56 57 (2) := ⟨by decide, Or.inl ⟨by decide +kernel, rfl⟩⟩
theorem i8_init_57 : INA cX8_init 57 59 := ⟨by decide +kernel, rfl⟩
theorem i8_init_59 : IPZ m8_init 59 62 8 11 := ⟨28, by decide +kernel, rfl, by decide, by decide, q_806, rfl, rfl, rfl⟩
theorem i8_init_62 : ILa cX8_init 62 63 0 := Or.inl ⟨0, by decide +kernel, rfl, rfl⟩
theorem i8_init_63 : IC cX8_init 63 65 (8) := ⟨by decide, Or.inr (Or.inl ⟨by decide +kernel, by decide +kernel, rfl⟩)⟩
theorem i8_init_65 : INA cX8_init 65 67 := ⟨by decide +kernel, rfl⟩
theorem i8_init_67 : IPZ m8_init 67 70 8 12 := ⟨31, by decide +kernel, rfl, by decide, by decide, q_807, rfl, rfl, rfl⟩
theorem i8_init_70 : ILa cX8_init 70 71 0 := Or.inl ⟨0, by decide +kernel, rfl, rfl⟩
theorem i8_init_71 : IC cX8_init 71 74 (8400) := ⟨by decide, Or.inr (Or.inr ⟨by decide +kernel, by decide +kernel, rfl⟩)⟩
theorem i8_init_74 : INA cX8_init 74 76 := ⟨by decide +kernel, rfl⟩
theorem i8_init_76 : IPZ m8_init 76 79 8 13 := ⟨34, by decide +kernel, rfl, by decide, by decide, q_808, rfl, rfl, rfl⟩
theorem i8_init_79 : ILa cX8_init 79 80 0 := Or.inl ⟨0, by decide +kernel, rfl, rfl⟩
theorem i8_init_80 : IC cX8_init 80 81 (4) := ⟨by decide, Or.inl ⟨by decide +kernel, rfl⟩⟩
theorem i8_init_81 : INA cX8_init 81 83 := ⟨by decide +kernel, rfl⟩
theorem i8_init_83 : IPZ m8_init 83 86 8 15 := ⟨37, by decide +kernel, rfl, by decide, by decide, q_810, rfl, rfl, rfl⟩
theorem i8_init_86 : ILa cX8_init 86 87 0 := Or.inl ⟨0, by decide +kernel, rfl, rfl⟩
theorem i8_init_87 : IC cX8_init 87 88 (4) := ⟨by decide, Or.inl ⟨by decide +kernel, rfl⟩⟩
theorem i8_init_88 : INA cX8_init 88 90 := ⟨by decide +kernel, rfl⟩
theorem i8_init_90 : IPZ m8_init 90 93 8 16 := ⟨40, by decide +kernel, rfl, by decide, by decide, q_811, rfl, rfl, rfl⟩
theorem i8_init_93 : ILa cX8_init 93 94 0 := Or.inl ⟨0, by decide +kernel, rfl, rfl⟩
theorem i8_init_94 : IC cX8_init 94 97 (2100) := ⟨by decide, Or.inr (Or.inr ⟨by decide +kernel, by decide +kernel, rfl⟩)⟩
theorem i8_init_97 : INA cX8_init 97 99 := ⟨by decide +kernel, rfl⟩
theorem i8_init_99 : IPZ m8_init 99 102 8 17 := ⟨43, by decide +kernel, rfl, by decide, by decide, q_812, rfl, rfl, rfl⟩
theorem i8_init_102 : ILa cX8_init 102 103 0 := Or.inl ⟨0, by decide +kernel, rfl, rfl⟩
theorem i8_init_103 : IC cX8_init 103 106 (2100) := ⟨by decide, Or.inr (Or.inr ⟨by decide +kernel, by decide +kernel, rfl⟩)⟩
theorem i8_init_106 : INA cX8_init 106 108 := ⟨by decide +kernel, rfl⟩
theorem i8_init_108 : IPZ m8_init 108 111 8 18 := ⟨46, by decide +kernel, rfl, by decide, by decide, q_813, rfl, rfl, rfl⟩
theorem i8_init_111 : ILa cX8_init 111 112 0 := Or.inl ⟨0, by decide +kernel, rfl, rfl⟩
theorem i8_init_112 : IC cX8_init 112 113 (4) := ⟨by decide, Or.inl ⟨by decide +kernel, rfl⟩⟩
theorem i8_init_113 : INA cX8_init 113 115 := ⟨by decide +kernel, rfl⟩
theorem i8_init_115 : IPZ m8_init 115 118 8 20 := ⟨49, by decide +kernel, rfl, by decide, by decide, q_815, rfl, rfl, rfl⟩
theorem i8_init_118 : ILa cX8_init 118 119 0 := Or.inl ⟨0, by decide +kernel, rfl, rfl⟩
theorem i8_init_119 : IC cX8_init 119 120 (1) := ⟨by decide, Or.inl ⟨by decide +kernel, rfl⟩⟩
theorem i8_init_120 : IC cX8_init 120 121 (3) := ⟨by decide, Or.inl ⟨by decide +kernel, rfl⟩⟩
theorem i8_init_121 : ICV m8_init 121 124 m8_begin := ⟨52, by decide +kernel, rfl, q_737⟩
theorem i8_init_124 : IO cX8_init 124 125 .return_ := ⟨by decide +kernel, rfl⟩
theorem i8_in_0 : ILi cX8_in 0 1 0 := Or.inl ⟨0, by decide +kernel, rfl, rfl⟩
theorem i8_in_1 : ILi cX8_in 1 2 1 := Or.inl ⟨1, by decide +kernel, rfl, rfl⟩
theorem i8_in_2 : IJ cX8_in 2 5 14 (.if_icmp .lt) := ⟨12, by decide +kernel, rfl, by decide⟩
theorem i8_in_5 : ILi cX8_in 5 6 0 := Or.inl ⟨0, by decide +kernel, rfl, rfl⟩
theorem i8_in_6 : ILi cX8_in 6 7 2 := Or.inl ⟨2, by decide +kernel, rfl, rfl⟩
theorem i8_in_7 : IJ cX8_in 7 10 14 (.if_icmp .gt) := ⟨7, by decide +kernel, rfl, by decide⟩
theorem i8_in_10 : IC cX8_in 10 11 (1) := ⟨by decide, Or.inl ⟨by decide +kernel, rfl⟩⟩
theorem i8_in_11 : IJ cX8_in 11 14 15 .goto := ⟨4, by decide +kernel, rfl, by decide⟩
theorem i8_in_14 : IC cX8_in 14 15 (0) := ⟨by decide, Or.inl ⟨by decide +kernel, rfl⟩⟩
theorem i8_in_15 : IO cX8_in 15 16 .ireturn := ⟨by decide +kernel, rfl⟩
theorem i8_size_0 : ILi cX8_size 0 1 0 := Or.inl ⟨0, by decide +kernel, rfl, rfl⟩
theorem i8_size_1 : IJ cX8_size 1 4 9 (.ifCond .ge) := ⟨8, by decide +kernel, rfl, by decide⟩
theorem i8_size_4 : ILi cX8_size 4 5 0 := Or.inl ⟨0, by decide +kernel, rfl, rfl⟩
theorem i8_size_5 : IO cX8_size 5 6 .ineg := ⟨by decide +kernel, rfl⟩
theorem i8_size_6 : IJ cX8_size 6 9 10 .goto := ⟨4, by decide +kernel, rfl, by decide⟩
theorem i8_size_9 : ILi cX8_size 9 10 0 := Or.inl ⟨0, by decide +kernel, rfl, rfl⟩
theorem i8_size_10 : IO cX8_size 10 11 .ireturn := ⟨by decide +kernel, rfl⟩
theorem i8_at_0 : ILa cX8_at 0 1 0 := Or.inl ⟨0, by decide +kernel, rfl, rfl⟩
theorem i8_at_1 : IGF m8_at 1 4 8 0 := ⟨7, by decide +kernel, rfl, by decide, by decide, q_795⟩
theorem i8_at_4 : IC cX8_at 4 5 (2) := ⟨by decide, Or.inl ⟨by decide +kernel, rfl⟩⟩
theorem i8_at_5 : IC cX8_at 5 6 (4) := ⟨by decide, Or.inl ⟨by decide +kernel, rfl⟩⟩
theorem i8_at_6 : ILi cX8_at 6 7 1 := Or.inl ⟨1, by decide +kernel, rfl, rfl⟩
theorem i8_at_7 : IO cX8_at 7 8 .imul := ⟨by decide +kernel, rfl⟩
theorem i8_at_8 : IO cX8_at 8 9 .iadd := ⟨by decide +kernel, rfl⟩
theorem i8_at_9 : ILi cX8_at 9 10 2 := Or.inl ⟨2, by decide +kernel, rfl, rfl⟩
theorem i8_at_10 : IO cX8_at 10 11 .iadd := ⟨by decide +kernel, rfl⟩
theorem i8_at_11 : IO cX8_at 11 12 .iaload := ⟨by decide +kernel, rfl⟩
theorem i8_at_12 : IO cX8_at 12 13 .ireturn := ⟨by decide +kernel, rfl⟩
theorem i8_isColumn_0 : ILi cX8_isColumn 0 1 1 := Or.inl ⟨1, by decide +kernel, rfl, rfl⟩
theorem i8_isColumn_1 : IC cX8_isColumn 1 2 (0) := ⟨by decide, Or.inl ⟨by decide +kernel, rfl⟩⟩
theorem i8_isColumn_2 : ILa cX8_isColumn 2 3 0 := Or.inl ⟨0, by decide +kernel, rfl, rfl⟩
theorem i8_isColumn_3 : IGF m8_isColumn 3 6 8 0 := ⟨7, by decide +kernel, rfl, by decide, by decide, q_795⟩
theorem i8_isColumn_6 : IC cX8_isColumn 6 7 (1) := ⟨by decide, Or.inl ⟨by decide +kernel, rfl⟩⟩
theorem i8_isColumn_7 : IO cX8_isColumn 7 8 .iaload := ⟨by decide +kernel, rfl⟩
theorem i8_isColumn_8 : IC cX8_isColumn 8 9 (1) := ⟨by decide, Or.inl ⟨by decide +kernel, rfl⟩⟩
theorem i8_isColumn_9 : IO cX8_isColumn 9 10 .isub := ⟨by decide +kernel, rfl⟩
theorem i8_isColumn_10 : ICS m8_isColumn 10 13 yX8_in := ⟨56, by decide +kernel, rfl, q_863⟩
theorem i8_isColumn_13 : IO cX8_isColumn 13 14 .ireturn := ⟨by decide +kernel, rfl⟩
theorem i8_keep_0 : ILa cX8_keep 0 1 0 := Or.inl ⟨0, by decide +kernel, rfl, rfl⟩
theorem i8_keep_1 : IGF m8_keep 1 4 8 2 := ⟨60, by decide +kernel, rfl, by decide, by decide, q_797⟩
theorem i8_keep_4 : IC cX8_keep 4 6 (8) := ⟨by decide, Or.inr (Or.inl ⟨by decide +kernel, by decide +kernel, rfl⟩)⟩
theorem i8_keep_6 : IJ cX8_keep 6 9 50 (.if_icmp .ne) := ⟨44, by decide +kernel, rfl, by decide⟩
theorem i8_keep_9 : IC cX8_keep 9 10 (0) := ⟨by decide, Or.inl ⟨by decide +kernel, rfl⟩⟩
theorem i8_keep_10 : ISi cX8_keep 10 11 1 := Or.inl ⟨1, by decide +kernel, rfl, rfl⟩
theorem i8_keep_11 : ILi cX8_keep 11 12 1 := Or.inl ⟨1, by decide +kernel, rfl, rfl⟩
theorem i8_keep_12 : IC cX8_keep 12 15 (1246) := ⟨by decide, Or.inr (Or.inr ⟨by decide +kernel, by decide +kernel, rfl⟩)⟩
theorem i8_keep_15 : IJ cX8_keep 15 18 40 (.if_icmp .ge) := ⟨25, by decide +kernel, rfl, by decide⟩
theorem i8_keep_18 : ILa cX8_keep 18 19 0 := Or.inl ⟨0, by decide +kernel, rfl, rfl⟩
theorem i8_keep_19 : IGF m8_keep 19 22 8 1 := ⟨13, by decide +kernel, rfl, by decide, by decide, q_796⟩
theorem i8_keep_22 : ILi cX8_keep 22 23 1 := Or.inl ⟨1, by decide +kernel, rfl, rfl⟩
theorem i8_keep_23 : ILa cX8_keep 23 24 0 := Or.inl ⟨0, by decide +kernel, rfl, rfl⟩
theorem i8_keep_24 : IGF m8_keep 24 27 8 1 := ⟨13, by decide +kernel, rfl, by decide, by decide, q_796⟩
theorem i8_keep_27 : ILi cX8_keep 27 28 1 := Or.inl ⟨1, by decide +kernel, rfl, rfl⟩
theorem i8_keep_28 : IC cX8_keep 28 31 (178) := ⟨by decide, Or.inr (Or.inr ⟨by decide +kernel, by decide +kernel, rfl⟩)⟩
theorem i8_keep_31 : IO cX8_keep 31 32 .iadd := ⟨by decide +kernel, rfl⟩
theorem i8_keep_32 : IO cX8_keep 32 33 .iaload := ⟨by decide +kernel, rfl⟩
theorem i8_keep_33 : IO cX8_keep 33 34 .iastore := ⟨by decide +kernel, rfl⟩
theorem i8_keep_34 : II cX8_keep 34 37 1 (1) := ⟨by decide +kernel, by decide, rfl⟩
theorem i8_keep_37 : IJ cX8_keep 37 40 11 .goto := ⟨-26, by decide +kernel, rfl, by decide⟩
theorem i8_keep_40 : ILa cX8_keep 40 41 0 := Or.inl ⟨0, by decide +kernel, rfl, rfl⟩
theorem i8_keep_41 : IO cX8_keep 41 42 .dup := ⟨by decide +kernel, rfl⟩
theorem i8_keep_42 : IGF m8_keep 42 45 8 2 := ⟨60, by decide +kernel, rfl, by decide, by decide, q_797⟩
theorem i8_keep_45 : IC cX8_keep 45 46 (1) := ⟨by decide, Or.inl ⟨by decide +kernel, rfl⟩⟩
theorem i8_keep_46 : IO cX8_keep 46 47 .isub := ⟨by decide +kernel, rfl⟩
theorem i8_keep_47 : IPF m8_keep 47 50 8 2 := ⟨60, by decide +kernel, rfl, by decide, by decide, q_797, rfl⟩
theorem i8_keep_50 : IC cX8_keep 50 51 (0) := ⟨by decide, Or.inl ⟨by decide +kernel, rfl⟩⟩
theorem i8_keep_51 : ISi cX8_keep 51 52 1 := Or.inl ⟨1, by decide +kernel, rfl, rfl⟩
theorem i8_keep_52 : ILi cX8_keep 52 53 1 := Or.inl ⟨1, by decide +kernel, rfl, rfl⟩
theorem i8_keep_53 : IC cX8_keep 53 56 (178) := ⟨by decide, Or.inr (Or.inr ⟨by decide +kernel, by decide +kernel, rfl⟩)⟩
theorem i8_keep_56 : IJ cX8_keep 56 59 86 (.if_icmp .ge) := ⟨30, by decide +kernel, rfl, by decide⟩
theorem i8_keep_59 : ILa cX8_keep 59 60 0 := Or.inl ⟨0, by decide +kernel, rfl, rfl⟩
theorem i8_keep_60 : IGF m8_keep 60 63 8 1 := ⟨13, by decide +kernel, rfl, by decide, by decide, q_796⟩
theorem i8_keep_63 : IC cX8_keep 63 66 (178) := ⟨by decide, Or.inr (Or.inr ⟨by decide +kernel, by decide +kernel, rfl⟩)⟩
theorem i8_keep_66 : ILa cX8_keep 66 67 0 := Or.inl ⟨0, by decide +kernel, rfl, rfl⟩
theorem i8_keep_67 : IGF m8_keep 67 70 8 2 := ⟨60, by decide +kernel, rfl, by decide, by decide, q_797⟩
theorem i8_keep_70 : IO cX8_keep 70 71 .imul := ⟨by decide +kernel, rfl⟩
theorem i8_keep_71 : ILi cX8_keep 71 72 1 := Or.inl ⟨1, by decide +kernel, rfl, rfl⟩
theorem i8_keep_72 : IO cX8_keep 72 73 .iadd := ⟨by decide +kernel, rfl⟩
theorem i8_keep_73 : ILa cX8_keep 73 74 0 := Or.inl ⟨0, by decide +kernel, rfl, rfl⟩
theorem i8_keep_74 : IGF m8_keep 74 77 8 0 := ⟨7, by decide +kernel, rfl, by decide, by decide, q_795⟩
theorem i8_keep_77 : ILi cX8_keep 77 78 1 := Or.inl ⟨1, by decide +kernel, rfl, rfl⟩
theorem i8_keep_78 : IO cX8_keep 78 79 .iaload := ⟨by decide +kernel, rfl⟩
theorem i8_keep_79 : IO cX8_keep 79 80 .iastore := ⟨by decide +kernel, rfl⟩
theorem i8_keep_80 : II cX8_keep 80 83 1 (1) := ⟨by decide +kernel, by decide, rfl⟩
theorem i8_keep_83 : IJ cX8_keep 83 86 52 .goto := ⟨-31, by decide +kernel, rfl, by decide⟩
theorem i8_keep_86 : ILa cX8_keep 86 87 0 := Or.inl ⟨0, by decide +kernel, rfl, rfl⟩
theorem i8_keep_87 : IO cX8_keep 87 88 .dup := ⟨by decide +kernel, rfl⟩
theorem i8_keep_88 : IGF m8_keep 88 91 8 2 := ⟨60, by decide +kernel, rfl, by decide, by decide, q_797⟩
theorem i8_keep_91 : IC cX8_keep 91 92 (1) := ⟨by decide, Or.inl ⟨by decide +kernel, rfl⟩⟩
theorem i8_keep_92 : IO cX8_keep 92 93 .iadd := ⟨by decide +kernel, rfl⟩
theorem i8_keep_93 : IPF m8_keep 93 96 8 2 := ⟨60, by decide +kernel, rfl, by decide, by decide, q_797, rfl⟩
theorem i8_keep_96 : IO cX8_keep 96 97 .return_ := ⟨by decide +kernel, rfl⟩
theorem i8_begin_0 : ILi cX8_begin 0 1 2 := Or.inl ⟨2, by decide +kernel, rfl, rfl⟩
theorem i8_begin_1 : ILa cX8_begin 1 2 0 := Or.inl ⟨0, by decide +kernel, rfl, rfl⟩
theorem i8_begin_2 : IGF m8_begin 2 5 8 0 := ⟨7, by decide +kernel, rfl, by decide, by decide, q_795⟩
theorem i8_begin_5 : IC cX8_begin 5 6 (1) := ⟨by decide, Or.inl ⟨by decide +kernel, rfl⟩⟩
theorem i8_begin_6 : IO cX8_begin 6 7 .iaload := ⟨by decide +kernel, rfl⟩
theorem i8_begin_7 : IJ cX8_begin 7 10 43 (.if_icmp .eq) := ⟨36, by decide +kernel, rfl, by decide⟩
theorem i8_begin_10 : IC cX8_begin 10 11 (0) := ⟨by decide, Or.inl ⟨by decide +kernel, rfl⟩⟩
theorem i8_begin_11 : ISi cX8_begin 11 12 3 := Or.inl ⟨3, by decide +kernel, rfl, rfl⟩
theorem i8_begin_12 : ILi cX8_begin 12 13 3 := Or.inl ⟨3, by decide +kernel, rfl, rfl⟩
theorem i8_begin_13 : IC cX8_begin 13 14 (4) := ⟨by decide, Or.inl ⟨by decide +kernel, rfl⟩⟩
theorem i8_begin_14 : IJ cX8_begin 14 17 43 (.if_icmp .ge) := ⟨29, by decide +kernel, rfl, by decide⟩
theorem i8_begin_17 : ILa cX8_begin 17 18 0 := Or.inl ⟨0, by decide +kernel, rfl, rfl⟩
theorem i8_begin_18 : IGF m8_begin 18 21 8 0 := ⟨7, by decide +kernel, rfl, by decide, by decide, q_795⟩
theorem i8_begin_21 : IC cX8_begin 21 23 (10) := ⟨by decide, Or.inr (Or.inl ⟨by decide +kernel, by decide +kernel, rfl⟩)⟩
theorem i8_begin_23 : ILi cX8_begin 23 24 3 := Or.inl ⟨3, by decide +kernel, rfl, rfl⟩
theorem i8_begin_24 : IO cX8_begin 24 25 .iadd := ⟨by decide +kernel, rfl⟩
theorem i8_begin_25 : IC cX8_begin 25 26 (0) := ⟨by decide, Or.inl ⟨by decide +kernel, rfl⟩⟩
theorem i8_begin_26 : IO cX8_begin 26 27 .iastore := ⟨by decide +kernel, rfl⟩
theorem i8_begin_27 : ILa cX8_begin 27 28 0 := Or.inl ⟨0, by decide +kernel, rfl, rfl⟩
theorem i8_begin_28 : IGF m8_begin 28 31 8 0 := ⟨7, by decide +kernel, rfl, by decide, by decide, q_795⟩
theorem i8_begin_31 : IC cX8_begin 31 33 (14) := ⟨by decide, Or.inr (Or.inl ⟨by decide +kernel, by decide +kernel, rfl⟩)⟩
theorem i8_begin_33 : ILi cX8_begin 33 34 3 := Or.inl ⟨3, by decide +kernel, rfl, rfl⟩
theorem i8_begin_34 : IO cX8_begin 34 35 .iadd := ⟨by decide +kernel, rfl⟩
theorem i8_begin_35 : IC cX8_begin 35 36 (0) := ⟨by decide, Or.inl ⟨by decide +kernel, rfl⟩⟩
theorem i8_begin_36 : IO cX8_begin 36 37 .iastore := ⟨by decide +kernel, rfl⟩
theorem i8_begin_37 : II cX8_begin 37 40 3 (1) := ⟨by decide +kernel, by decide, rfl⟩
theorem i8_begin_40 : IJ cX8_begin 40 43 12 .goto := ⟨-28, by decide +kernel, rfl, by decide⟩
theorem i8_begin_43 : ILa cX8_begin 43 44 0 := Or.inl ⟨0, by decide +kernel, rfl, rfl⟩
theorem i8_begin_44 : IGF m8_begin 44 47 8 0 := ⟨7, by decide +kernel, rfl, by decide, by decide, q_795⟩
theorem i8_begin_47 : IC cX8_begin 47 48 (0) := ⟨by decide, Or.inl ⟨by decide +kernel, rfl⟩⟩
theorem i8_begin_48 : ILi cX8_begin 48 49 1 := Or.inl ⟨1, by decide +kernel, rfl, rfl⟩
theorem i8_begin_49 : IO cX8_begin 49 50 .iastore := ⟨by decide +kernel, rfl⟩
theorem i8_begin_50 : ILa cX8_begin 50 51 0 := Or.inl ⟨0, by decide +kernel, rfl, rfl⟩
theorem i8_begin_51 : IGF m8_begin 51 54 8 0 := ⟨7, by decide +kernel, rfl, by decide, by decide, q_795⟩
theorem i8_begin_54 : IC cX8_begin 54 55 (1) := ⟨by decide, Or.inl ⟨by decide +kernel, rfl⟩⟩
theorem i8_begin_55 : ILi cX8_begin 55 56 2 := Or.inl ⟨2, by decide +kernel, rfl, rfl⟩
theorem i8_begin_56 : IO cX8_begin 56 57 .iastore := ⟨by decide +kernel, rfl⟩
theorem i8_begin_57 : IC cX8_begin 57 58 (0) := ⟨by decide, Or.inl ⟨by decide +kernel, rfl⟩⟩
theorem i8_begin_58 : ISi cX8_begin 58 59 3 := Or.inl ⟨3, by decide +kernel, rfl, rfl⟩
theorem i8_begin_59 : ILi cX8_begin 59 60 3 := Or.inl ⟨3, by decide +kernel, rfl, rfl⟩
theorem i8_begin_60 : IC cX8_begin 60 62 (8) := ⟨by decide, Or.inr (Or.inl ⟨by decide +kernel, by decide +kernel, rfl⟩)⟩
theorem i8_begin_62 : IJ cX8_begin 62 65 98 (.if_icmp .ge) := ⟨36, by decide +kernel, rfl, by decide⟩
theorem i8_begin_65 : ILa cX8_begin 65 66 0 := Or.inl ⟨0, by decide +kernel, rfl, rfl⟩
theorem i8_begin_66 : IGF m8_begin 66 69 8 0 := ⟨7, by decide +kernel, rfl, by decide, by decide, q_795⟩
theorem i8_begin_69 : IC cX8_begin 69 70 (2) := ⟨by decide, Or.inl ⟨by decide +kernel, rfl⟩⟩
theorem i8_begin_70 : ILi cX8_begin 70 71 3 := Or.inl ⟨3, by decide +kernel, rfl, rfl⟩
theorem i8_begin_71 : IO cX8_begin 71 72 .iadd := ⟨by decide +kernel, rfl⟩
theorem i8_begin_72 : ILi cX8_begin 72 73 3 := Or.inl ⟨3, by decide +kernel, rfl, rfl⟩
theorem i8_begin_73 : IC cX8_begin 73 74 (4) := ⟨by decide, Or.inl ⟨by decide +kernel, rfl⟩⟩
theorem i8_begin_74 : IO cX8_begin 74 75 .idiv := ⟨by decide +kernel, rfl⟩
theorem i8_begin_75 : ILi cX8_begin 75 76 1 := Or.inl ⟨1, by decide +kernel, rfl, rfl⟩
theorem i8_begin_76 : IJ cX8_begin 76 79 90 (.if_icmp .ge) := ⟨14, by decide +kernel, rfl, by decide⟩
theorem i8_begin_79 : ILi cX8_begin 79 80 3 := Or.inl ⟨3, by decide +kernel, rfl, rfl⟩
theorem i8_begin_80 : IC cX8_begin 80 81 (4) := ⟨by decide, Or.inl ⟨by decide +kernel, rfl⟩⟩
theorem i8_begin_81 : IO cX8_begin 81 82 .irem := ⟨by decide +kernel, rfl⟩
theorem i8_begin_82 : ILi cX8_begin 82 83 2 := Or.inl ⟨2, by decide +kernel, rfl, rfl⟩
theorem i8_begin_83 : IJ cX8_begin 83 86 90 (.if_icmp .ge) := ⟨7, by decide +kernel, rfl, by decide⟩
theorem i8_begin_86 : IC cX8_begin 86 87 (1) := ⟨by decide, Or.inl ⟨by decide +kernel, rfl⟩⟩
theorem i8_begin_87 : IJ cX8_begin 87 90 91 .goto := ⟨4, by decide +kernel, rfl, by decide⟩
theorem i8_begin_90 : IC cX8_begin 90 91 (0) := ⟨by decide, Or.inl ⟨by decide +kernel, rfl⟩⟩
theorem i8_begin_91 : IO cX8_begin 91 92 .iastore := ⟨by decide +kernel, rfl⟩
theorem i8_begin_92 : II cX8_begin 92 95 3 (1) := ⟨by decide +kernel, by decide, rfl⟩
theorem i8_begin_95 : IJ cX8_begin 95 98 59 .goto := ⟨-36, by decide +kernel, rfl, by decide⟩
theorem i8_begin_98 : ILa cX8_begin 98 99 0 := Or.inl ⟨0, by decide +kernel, rfl, rfl⟩
theorem i8_begin_99 : ICV m8_begin 99 102 m8_changed := ⟨64, by decide +kernel, rfl, q_741⟩
theorem i8_begin_102 : IO cX8_begin 102 103 .return_ := ⟨by decide +kernel, rfl⟩
theorem i8_changed_0 : ILa cX8_changed 0 1 0 := Or.inl ⟨0, by decide +kernel, rfl, rfl⟩
theorem i8_changed_1 : ICV m8_changed 1 4 m8_layBasis := ⟨67, by decide +kernel, rfl, q_745⟩
theorem i8_changed_4 : IC cX8_changed 4 5 (0) := ⟨by decide, Or.inl ⟨by decide +kernel, rfl⟩⟩
theorem i8_changed_5 : ISi cX8_changed 5 6 1 := Or.inl ⟨1, by decide +kernel, rfl, rfl⟩
theorem i8_changed_6 : ILi cX8_changed 6 7 1 := Or.inl ⟨1, by decide +kernel, rfl, rfl⟩
theorem i8_changed_7 : IC cX8_changed 7 10 (160) := ⟨by decide, Or.inr (Or.inr ⟨by decide +kernel, by decide +kernel, rfl⟩)⟩
theorem i8_changed_10 : IJ cX8_changed 10 13 41 (.if_icmp .ge) := ⟨31, by decide +kernel, rfl, by decide⟩
theorem i8_changed_13 : ILa cX8_changed 13 14 0 := Or.inl ⟨0, by decide +kernel, rfl, rfl⟩
theorem i8_changed_14 : IGF m8_changed 14 17 8 0 := ⟨7, by decide +kernel, rfl, by decide, by decide, q_795⟩
theorem i8_changed_17 : IC cX8_changed 17 19 (18) := ⟨by decide, Or.inr (Or.inl ⟨by decide +kernel, by decide +kernel, rfl⟩)⟩
theorem i8_changed_19 : ILi cX8_changed 19 20 1 := Or.inl ⟨1, by decide +kernel, rfl, rfl⟩
theorem i8_changed_20 : IO cX8_changed 20 21 .iadd := ⟨by decide +kernel, rfl⟩
theorem i8_changed_21 : ILi cX8_changed 21 22 1 := Or.inl ⟨1, by decide +kernel, rfl, rfl⟩
theorem i8_changed_22 : ILa cX8_changed 22 23 0 := Or.inl ⟨0, by decide +kernel, rfl, rfl⟩
theorem i8_changed_23 : IGF m8_changed 23 26 8 5 := ⟨70, by decide +kernel, rfl, by decide, by decide, q_800⟩
theorem i8_changed_26 : IJ cX8_changed 26 29 33 (.if_icmp .ge) := ⟨7, by decide +kernel, rfl, by decide⟩
theorem i8_changed_29 : IC cX8_changed 29 30 (1) := ⟨by decide, Or.inl ⟨by decide +kernel, rfl⟩⟩
theorem i8_changed_30 : IJ cX8_changed 30 33 34 .goto := ⟨4, by decide +kernel, rfl, by decide⟩
theorem i8_changed_33 : IC cX8_changed 33 34 (0) := ⟨by decide, Or.inl ⟨by decide +kernel, rfl⟩⟩
theorem i8_changed_34 : IO cX8_changed 34 35 .iastore := ⟨by decide +kernel, rfl⟩
theorem i8_changed_35 : II cX8_changed 35 38 1 (1) := ⟨by decide +kernel, by decide, rfl⟩
theorem i8_changed_38 : IJ cX8_changed 38 41 6 .goto := ⟨-32, by decide +kernel, rfl, by decide⟩
theorem i8_changed_41 : IO cX8_changed 41 42 .return_ := ⟨by decide +kernel, rfl⟩
theorem i8_rankOf_0 : IC cX8_rankOf 0 1 (0) := ⟨by decide, Or.inl ⟨by decide +kernel, rfl⟩⟩
theorem i8_rankOf_1 : ISi cX8_rankOf 1 2 1 := Or.inl ⟨1, by decide +kernel, rfl, rfl⟩
theorem i8_rankOf_2 : IC cX8_rankOf 2 3 (0) := ⟨by decide, Or.inl ⟨by decide +kernel, rfl⟩⟩
theorem i8_rankOf_3 : ISi cX8_rankOf 3 4 2 := Or.inl ⟨2, by decide +kernel, rfl, rfl⟩
theorem i8_rankOf_4 : ILi cX8_rankOf 4 5 2 := Or.inl ⟨2, by decide +kernel, rfl, rfl⟩
theorem i8_rankOf_5 : IC cX8_rankOf 5 6 (4) := ⟨by decide, Or.inl ⟨by decide +kernel, rfl⟩⟩
theorem i8_rankOf_6 : IJ cX8_rankOf 6 9 108 (.if_icmp .ge) := ⟨102, by decide +kernel, rfl, by decide⟩
theorem i8_rankOf_9 : IC cX8_rankOf 9 10 (0) := ⟨by decide, Or.inl ⟨by decide +kernel, rfl⟩⟩
theorem i8_rankOf_10 : ISi cX8_rankOf 10 11 3 := Or.inl ⟨3, by decide +kernel, rfl, rfl⟩
theorem i8_rankOf_11 : ILi cX8_rankOf 11 12 3 := Or.inl ⟨3, by decide +kernel, rfl, rfl⟩
theorem i8_rankOf_12 : IC cX8_rankOf 12 13 (4) := ⟨by decide, Or.inl ⟨by decide +kernel, rfl⟩⟩
theorem i8_rankOf_13 : IJ cX8_rankOf 13 16 102 (.if_icmp .ge) := ⟨89, by decide +kernel, rfl, by decide⟩
theorem i8_rankOf_16 : ILa cX8_rankOf 16 17 0 := Or.inl ⟨0, by decide +kernel, rfl, rfl⟩
theorem i8_rankOf_17 : IC cX8_rankOf 17 18 (0) := ⟨by decide, Or.inl ⟨by decide +kernel, rfl⟩⟩
theorem i8_rankOf_18 : ILi cX8_rankOf 18 19 2 := Or.inl ⟨2, by decide +kernel, rfl, rfl⟩
theorem i8_rankOf_19 : ICV m8_rankOf 19 22 m8_at := ⟨73, by decide +kernel, rfl, q_753⟩
theorem i8_rankOf_22 : ILa cX8_rankOf 22 23 0 := Or.inl ⟨0, by decide +kernel, rfl, rfl⟩
theorem i8_rankOf_23 : IC cX8_rankOf 23 24 (1) := ⟨by decide, Or.inl ⟨by decide +kernel, rfl⟩⟩
theorem i8_rankOf_24 : ILi cX8_rankOf 24 25 3 := Or.inl ⟨3, by decide +kernel, rfl, rfl⟩
theorem i8_rankOf_25 : ICV m8_rankOf 25 28 m8_at := ⟨73, by decide +kernel, rfl, q_753⟩
theorem i8_rankOf_28 : IO cX8_rankOf 28 29 .imul := ⟨by decide +kernel, rfl⟩
theorem i8_rankOf_29 : ILa cX8_rankOf 29 30 0 := Or.inl ⟨0, by decide +kernel, rfl, rfl⟩
theorem i8_rankOf_30 : IC cX8_rankOf 30 31 (0) := ⟨by decide, Or.inl ⟨by decide +kernel, rfl⟩⟩
theorem i8_rankOf_31 : ILi cX8_rankOf 31 32 3 := Or.inl ⟨3, by decide +kernel, rfl, rfl⟩
theorem i8_rankOf_32 : ICV m8_rankOf 32 35 m8_at := ⟨73, by decide +kernel, rfl, q_753⟩
theorem i8_rankOf_35 : ILa cX8_rankOf 35 36 0 := Or.inl ⟨0, by decide +kernel, rfl, rfl⟩
theorem i8_rankOf_36 : IC cX8_rankOf 36 37 (1) := ⟨by decide, Or.inl ⟨by decide +kernel, rfl⟩⟩
theorem i8_rankOf_37 : ILi cX8_rankOf 37 38 2 := Or.inl ⟨2, by decide +kernel, rfl, rfl⟩
theorem i8_rankOf_38 : ICV m8_rankOf 38 41 m8_at := ⟨73, by decide +kernel, rfl, q_753⟩
theorem i8_rankOf_41 : IO cX8_rankOf 41 42 .imul := ⟨by decide +kernel, rfl⟩
theorem i8_rankOf_42 : IO cX8_rankOf 42 43 .isub := ⟨by decide +kernel, rfl⟩
theorem i8_rankOf_43 : ISi cX8_rankOf 43 45 4 := Or.inr ⟨by decide +kernel, rfl⟩
theorem i8_rankOf_45 : ILa cX8_rankOf 45 46 0 := Or.inl ⟨0, by decide +kernel, rfl, rfl⟩
theorem i8_rankOf_46 : IC cX8_rankOf 46 47 (0) := ⟨by decide, Or.inl ⟨by decide +kernel, rfl⟩⟩
theorem i8_rankOf_47 : ILi cX8_rankOf 47 48 2 := Or.inl ⟨2, by decide +kernel, rfl, rfl⟩
theorem i8_rankOf_48 : ICV m8_rankOf 48 51 m8_at := ⟨73, by decide +kernel, rfl, q_753⟩
theorem i8_rankOf_51 : IJ cX8_rankOf 51 54 63 (.ifCond .ne) := ⟨12, by decide +kernel, rfl, by decide⟩
theorem i8_rankOf_54 : ILa cX8_rankOf 54 55 0 := Or.inl ⟨0, by decide +kernel, rfl, rfl⟩
theorem i8_rankOf_55 : IC cX8_rankOf 55 56 (1) := ⟨by decide, Or.inl ⟨by decide +kernel, rfl⟩⟩
theorem i8_rankOf_56 : ILi cX8_rankOf 56 57 2 := Or.inl ⟨2, by decide +kernel, rfl, rfl⟩
theorem i8_rankOf_57 : ICV m8_rankOf 57 60 m8_at := ⟨73, by decide +kernel, rfl, q_753⟩
theorem i8_rankOf_60 : IJ cX8_rankOf 60 63 67 (.ifCond .eq) := ⟨7, by decide +kernel, rfl, by decide⟩
theorem i8_rankOf_63 : IC cX8_rankOf 63 64 (1) := ⟨by decide, Or.inl ⟨by decide +kernel, rfl⟩⟩
theorem i8_rankOf_64 : IJ cX8_rankOf 64 67 68 .goto := ⟨4, by decide +kernel, rfl, by decide⟩
theorem i8_rankOf_67 : IC cX8_rankOf 67 68 (0) := ⟨by decide, Or.inl ⟨by decide +kernel, rfl⟩⟩
theorem i8_rankOf_68 : ISi cX8_rankOf 68 70 5 := Or.inr ⟨by decide +kernel, rfl⟩
theorem i8_rankOf_70 : ILi cX8_rankOf 70 72 4 := Or.inr ⟨by decide +kernel, rfl⟩
theorem i8_rankOf_72 : IJ cX8_rankOf 72 75 79 (.ifCond .eq) := ⟨7, by decide +kernel, rfl, by decide⟩
theorem i8_rankOf_75 : IC cX8_rankOf 75 76 (2) := ⟨by decide, Or.inl ⟨by decide +kernel, rfl⟩⟩
theorem i8_rankOf_76 : IJ cX8_rankOf 76 79 81 .goto := ⟨5, by decide +kernel, rfl, by decide⟩
theorem i8_rankOf_79 : ILi cX8_rankOf 79 81 5 := Or.inr ⟨by decide +kernel, rfl⟩
theorem i8_rankOf_81 : ISi cX8_rankOf 81 83 5 := Or.inr ⟨by decide +kernel, rfl⟩
theorem i8_rankOf_83 : ILi cX8_rankOf 83 85 5 := Or.inr ⟨by decide +kernel, rfl⟩
theorem i8_rankOf_85 : ILi cX8_rankOf 85 86 1 := Or.inl ⟨1, by decide +kernel, rfl, rfl⟩
theorem i8_rankOf_86 : IJ cX8_rankOf 86 89 94 (.if_icmp .le) := ⟨8, by decide +kernel, rfl, by decide⟩
theorem i8_rankOf_89 : ILi cX8_rankOf 89 91 5 := Or.inr ⟨by decide +kernel, rfl⟩
theorem i8_rankOf_91 : IJ cX8_rankOf 91 94 95 .goto := ⟨4, by decide +kernel, rfl, by decide⟩
theorem i8_rankOf_94 : ILi cX8_rankOf 94 95 1 := Or.inl ⟨1, by decide +kernel, rfl, rfl⟩
theorem i8_rankOf_95 : ISi cX8_rankOf 95 96 1 := Or.inl ⟨1, by decide +kernel, rfl, rfl⟩
theorem i8_rankOf_96 : II cX8_rankOf 96 99 3 (1) := ⟨by decide +kernel, by decide, rfl⟩
theorem i8_rankOf_99 : IJ cX8_rankOf 99 102 11 .goto := ⟨-88, by decide +kernel, rfl, by decide⟩
theorem i8_rankOf_102 : II cX8_rankOf 102 105 2 (1) := ⟨by decide +kernel, by decide, rfl⟩
theorem i8_rankOf_105 : IJ cX8_rankOf 105 108 4 .goto := ⟨-101, by decide +kernel, rfl, by decide⟩
theorem i8_rankOf_108 : ILi cX8_rankOf 108 109 1 := Or.inl ⟨1, by decide +kernel, rfl, rfl⟩
theorem i8_rankOf_109 : IO cX8_rankOf 109 110 .ireturn := ⟨by decide +kernel, rfl⟩
theorem i8_isZeroColumn_0 : ILa cX8_isZeroColumn 0 1 0 := Or.inl ⟨0, by decide +kernel, rfl, rfl⟩
theorem i8_isZeroColumn_1 : IC cX8_isZeroColumn 1 2 (0) := ⟨by decide, Or.inl ⟨by decide +kernel, rfl⟩⟩
theorem i8_isZeroColumn_2 : ILi cX8_isZeroColumn 2 3 1 := Or.inl ⟨1, by decide +kernel, rfl, rfl⟩
theorem i8_isZeroColumn_3 : ICV m8_isZeroColumn 3 6 m8_at := ⟨73, by decide +kernel, rfl, q_753⟩
theorem i8_isZeroColumn_6 : IJ cX8_isZeroColumn 6 9 22 (.ifCond .ne) := ⟨16, by decide +kernel, rfl, by decide⟩
theorem i8_isZeroColumn_9 : ILa cX8_isZeroColumn 9 10 0 := Or.inl ⟨0, by decide +kernel, rfl, rfl⟩
theorem i8_isZeroColumn_10 : IC cX8_isZeroColumn 10 11 (1) := ⟨by decide, Or.inl ⟨by decide +kernel, rfl⟩⟩
theorem i8_isZeroColumn_11 : ILi cX8_isZeroColumn 11 12 1 := Or.inl ⟨1, by decide +kernel, rfl, rfl⟩
theorem i8_isZeroColumn_12 : ICV m8_isZeroColumn 12 15 m8_at := ⟨73, by decide +kernel, rfl, q_753⟩
theorem i8_isZeroColumn_15 : IJ cX8_isZeroColumn 15 18 22 (.ifCond .ne) := ⟨7, by decide +kernel, rfl, by decide⟩
theorem i8_isZeroColumn_18 : IC cX8_isZeroColumn 18 19 (1) := ⟨by decide, Or.inl ⟨by decide +kernel, rfl⟩⟩
theorem i8_isZeroColumn_19 : IJ cX8_isZeroColumn 19 22 23 .goto := ⟨4, by decide +kernel, rfl, by decide⟩
theorem i8_isZeroColumn_22 : IC cX8_isZeroColumn 22 23 (0) := ⟨by decide, Or.inl ⟨by decide +kernel, rfl⟩⟩
theorem i8_isZeroColumn_23 : IO cX8_isZeroColumn 23 24 .ireturn := ⟨by decide +kernel, rfl⟩
theorem i8_product_0 : IC cX8_product 0 1 (0) := ⟨by decide, Or.inl ⟨by decide +kernel, rfl⟩⟩
theorem i8_product_1 : ISi cX8_product 1 3 5 := Or.inr ⟨by decide +kernel, rfl⟩
theorem i8_product_3 : IC cX8_product 3 4 (0) := ⟨by decide, Or.inl ⟨by decide +kernel, rfl⟩⟩
theorem i8_product_4 : ISi cX8_product 4 6 6 := Or.inr ⟨by decide +kernel, rfl⟩
theorem i8_product_6 : ILi cX8_product 6 8 6 := Or.inr ⟨by decide +kernel, rfl⟩
theorem i8_product_8 : ILi cX8_product 8 10 4 := Or.inr ⟨by decide +kernel, rfl⟩
theorem i8_product_10 : IJ cX8_product 10 13 38 (.if_icmp .ge) := ⟨28, by decide +kernel, rfl, by decide⟩
theorem i8_product_13 : ILi cX8_product 13 15 5 := Or.inr ⟨by decide +kernel, rfl⟩
theorem i8_product_15 : ILa cX8_product 15 16 0 := Or.inl ⟨0, by decide +kernel, rfl, rfl⟩
theorem i8_product_16 : ILi cX8_product 16 17 1 := Or.inl ⟨1, by decide +kernel, rfl, rfl⟩
theorem i8_product_17 : ILi cX8_product 17 19 6 := Or.inr ⟨by decide +kernel, rfl⟩
theorem i8_product_19 : ICV m8_product 19 22 m8_at := ⟨73, by decide +kernel, rfl, q_753⟩
theorem i8_product_22 : ILa cX8_product 22 23 2 := Or.inl ⟨2, by decide +kernel, rfl, rfl⟩
theorem i8_product_23 : ILi cX8_product 23 24 3 := Or.inl ⟨3, by decide +kernel, rfl, rfl⟩
theorem i8_product_24 : ILi cX8_product 24 26 6 := Or.inr ⟨by decide +kernel, rfl⟩
theorem i8_product_26 : IO cX8_product 26 27 .iadd := ⟨by decide +kernel, rfl⟩
theorem i8_product_27 : IO cX8_product 27 28 .iaload := ⟨by decide +kernel, rfl⟩
theorem i8_product_28 : IO cX8_product 28 29 .imul := ⟨by decide +kernel, rfl⟩
theorem i8_product_29 : IO cX8_product 29 30 .iadd := ⟨by decide +kernel, rfl⟩
theorem i8_product_30 : ISi cX8_product 30 32 5 := Or.inr ⟨by decide +kernel, rfl⟩
theorem i8_product_32 : II cX8_product 32 35 6 (1) := ⟨by decide +kernel, by decide, rfl⟩
theorem i8_product_35 : IJ cX8_product 35 38 6 .goto := ⟨-29, by decide +kernel, rfl, by decide⟩
theorem i8_product_38 : ILi cX8_product 38 40 5 := Or.inr ⟨by decide +kernel, rfl⟩
theorem i8_product_40 : IO cX8_product 40 41 .ireturn := ⟨by decide +kernel, rfl⟩
theorem i8_lastEntry_0 : ILa cX8_lastEntry 0 1 0 := Or.inl ⟨0, by decide +kernel, rfl, rfl⟩
theorem i8_lastEntry_1 : IGF m8_lastEntry 1 4 8 0 := ⟨7, by decide +kernel, rfl, by decide, by decide, q_795⟩
theorem i8_lastEntry_4 : IC cX8_lastEntry 4 5 (1) := ⟨by decide, Or.inl ⟨by decide +kernel, rfl⟩⟩
theorem i8_lastEntry_5 : IO cX8_lastEntry 5 6 .iaload := ⟨by decide +kernel, rfl⟩
theorem i8_lastEntry_6 : IC cX8_lastEntry 6 7 (1) := ⟨by decide, Or.inl ⟨by decide +kernel, rfl⟩⟩
theorem i8_lastEntry_7 : IO cX8_lastEntry 7 8 .isub := ⟨by decide +kernel, rfl⟩
theorem i8_lastEntry_8 : ISi cX8_lastEntry 8 9 2 := Or.inl ⟨2, by decide +kernel, rfl, rfl⟩
theorem i8_lastEntry_9 : ILa cX8_lastEntry 9 10 0 := Or.inl ⟨0, by decide +kernel, rfl, rfl⟩
theorem i8_lastEntry_10 : IC cX8_lastEntry 10 11 (0) := ⟨by decide, Or.inl ⟨by decide +kernel, rfl⟩⟩
theorem i8_lastEntry_11 : ILa cX8_lastEntry 11 12 0 := Or.inl ⟨0, by decide +kernel, rfl, rfl⟩
theorem i8_lastEntry_12 : IGF m8_lastEntry 12 15 8 9 := ⟨25, by decide +kernel, rfl, by decide, by decide, q_804⟩
theorem i8_lastEntry_15 : IC cX8_lastEntry 15 16 (0) := ⟨by decide, Or.inl ⟨by decide +kernel, rfl⟩⟩
theorem i8_lastEntry_16 : ILi cX8_lastEntry 16 17 2 := Or.inl ⟨2, by decide +kernel, rfl, rfl⟩
theorem i8_lastEntry_17 : ICV m8_lastEntry 17 20 m8_product := ⟨77, by decide +kernel, rfl, q_765⟩
theorem i8_lastEntry_20 : ISi cX8_lastEntry 20 21 3 := Or.inl ⟨3, by decide +kernel, rfl, rfl⟩
theorem i8_lastEntry_21 : ILa cX8_lastEntry 21 22 0 := Or.inl ⟨0, by decide +kernel, rfl, rfl⟩
theorem i8_lastEntry_22 : IC cX8_lastEntry 22 23 (1) := ⟨by decide, Or.inl ⟨by decide +kernel, rfl⟩⟩
theorem i8_lastEntry_23 : ILa cX8_lastEntry 23 24 0 := Or.inl ⟨0, by decide +kernel, rfl, rfl⟩
theorem i8_lastEntry_24 : IGF m8_lastEntry 24 27 8 9 := ⟨25, by decide +kernel, rfl, by decide, by decide, q_804⟩
theorem i8_lastEntry_27 : IC cX8_lastEntry 27 28 (0) := ⟨by decide, Or.inl ⟨by decide +kernel, rfl⟩⟩
theorem i8_lastEntry_28 : ILi cX8_lastEntry 28 29 2 := Or.inl ⟨2, by decide +kernel, rfl, rfl⟩
theorem i8_lastEntry_29 : ICV m8_lastEntry 29 32 m8_product := ⟨77, by decide +kernel, rfl, q_765⟩
theorem i8_lastEntry_32 : ISi cX8_lastEntry 32 34 4 := Or.inr ⟨by decide +kernel, rfl⟩
theorem i8_lastEntry_34 : ILa cX8_lastEntry 34 35 0 := Or.inl ⟨0, by decide +kernel, rfl, rfl⟩
theorem i8_lastEntry_35 : IC cX8_lastEntry 35 36 (0) := ⟨by decide, Or.inl ⟨by decide +kernel, rfl⟩⟩
theorem i8_lastEntry_36 : ILi cX8_lastEntry 36 37 2 := Or.inl ⟨2, by decide +kernel, rfl, rfl⟩
theorem i8_lastEntry_37 : ICV m8_lastEntry 37 40 m8_at := ⟨73, by decide +kernel, rfl, q_753⟩
theorem i8_lastEntry_40 : IJ cX8_lastEntry 40 43 52 (.ifCond .eq) := ⟨12, by decide +kernel, rfl, by decide⟩
theorem i8_lastEntry_43 : ILa cX8_lastEntry 43 44 0 := Or.inl ⟨0, by decide +kernel, rfl, rfl⟩
theorem i8_lastEntry_44 : IC cX8_lastEntry 44 45 (0) := ⟨by decide, Or.inl ⟨by decide +kernel, rfl⟩⟩
theorem i8_lastEntry_45 : ILi cX8_lastEntry 45 46 2 := Or.inl ⟨2, by decide +kernel, rfl, rfl⟩
theorem i8_lastEntry_46 : ICV m8_lastEntry 46 49 m8_at := ⟨73, by decide +kernel, rfl, q_753⟩
theorem i8_lastEntry_49 : IJ cX8_lastEntry 49 52 58 .goto := ⟨9, by decide +kernel, rfl, by decide⟩
theorem i8_lastEntry_52 : ILa cX8_lastEntry 52 53 0 := Or.inl ⟨0, by decide +kernel, rfl, rfl⟩
theorem i8_lastEntry_53 : IC cX8_lastEntry 53 54 (1) := ⟨by decide, Or.inl ⟨by decide +kernel, rfl⟩⟩
theorem i8_lastEntry_54 : ILi cX8_lastEntry 54 55 2 := Or.inl ⟨2, by decide +kernel, rfl, rfl⟩
theorem i8_lastEntry_55 : ICV m8_lastEntry 55 58 m8_at := ⟨73, by decide +kernel, rfl, q_753⟩
theorem i8_lastEntry_58 : ISi cX8_lastEntry 58 60 5 := Or.inr ⟨by decide +kernel, rfl⟩
theorem i8_lastEntry_60 : ILa cX8_lastEntry 60 61 0 := Or.inl ⟨0, by decide +kernel, rfl, rfl⟩
theorem i8_lastEntry_61 : IC cX8_lastEntry 61 62 (0) := ⟨by decide, Or.inl ⟨by decide +kernel, rfl⟩⟩
theorem i8_lastEntry_62 : ILi cX8_lastEntry 62 63 2 := Or.inl ⟨2, by decide +kernel, rfl, rfl⟩
theorem i8_lastEntry_63 : ICV m8_lastEntry 63 66 m8_at := ⟨73, by decide +kernel, rfl, q_753⟩
theorem i8_lastEntry_66 : IJ cX8_lastEntry 66 69 73 (.ifCond .eq) := ⟨7, by decide +kernel, rfl, by decide⟩
theorem i8_lastEntry_69 : ILi cX8_lastEntry 69 70 3 := Or.inl ⟨3, by decide +kernel, rfl, rfl⟩
theorem i8_lastEntry_70 : IJ cX8_lastEntry 70 73 75 .goto := ⟨5, by decide +kernel, rfl, by decide⟩
theorem i8_lastEntry_73 : ILi cX8_lastEntry 73 75 4 := Or.inr ⟨by decide +kernel, rfl⟩
theorem i8_lastEntry_75 : ISi cX8_lastEntry 75 77 6 := Or.inr ⟨by decide +kernel, rfl⟩
theorem i8_lastEntry_77 : ILi cX8_lastEntry 77 79 5 := Or.inr ⟨by decide +kernel, rfl⟩
theorem i8_lastEntry_79 : IJ cX8_lastEntry 79 82 86 (.ifCond .ne) := ⟨7, by decide +kernel, rfl, by decide⟩
theorem i8_lastEntry_82 : IC cX8_lastEntry 82 83 (0) := ⟨by decide, Or.inl ⟨by decide +kernel, rfl⟩⟩
theorem i8_lastEntry_83 : IJ cX8_lastEntry 83 86 92 .goto := ⟨9, by decide +kernel, rfl, by decide⟩
theorem i8_lastEntry_86 : ILi cX8_lastEntry 86 88 6 := Or.inr ⟨by decide +kernel, rfl⟩
theorem i8_lastEntry_88 : IO cX8_lastEntry 88 89 .ineg := ⟨by decide +kernel, rfl⟩
theorem i8_lastEntry_89 : ILi cX8_lastEntry 89 91 5 := Or.inr ⟨by decide +kernel, rfl⟩
theorem i8_lastEntry_91 : IO cX8_lastEntry 91 92 .idiv := ⟨by decide +kernel, rfl⟩
theorem i8_lastEntry_92 : ISi cX8_lastEntry 92 94 7 := Or.inr ⟨by decide +kernel, rfl⟩
theorem i8_lastEntry_94 : ILi cX8_lastEntry 94 95 3 := Or.inl ⟨3, by decide +kernel, rfl, rfl⟩
theorem i8_lastEntry_95 : ILa cX8_lastEntry 95 96 0 := Or.inl ⟨0, by decide +kernel, rfl, rfl⟩
theorem i8_lastEntry_96 : IC cX8_lastEntry 96 97 (0) := ⟨by decide, Or.inl ⟨by decide +kernel, rfl⟩⟩
theorem i8_lastEntry_97 : ILi cX8_lastEntry 97 98 2 := Or.inl ⟨2, by decide +kernel, rfl, rfl⟩
theorem i8_lastEntry_98 : ICV m8_lastEntry 98 101 m8_at := ⟨73, by decide +kernel, rfl, q_753⟩
theorem i8_lastEntry_101 : ILi cX8_lastEntry 101 103 7 := Or.inr ⟨by decide +kernel, rfl⟩
theorem i8_lastEntry_103 : IO cX8_lastEntry 103 104 .imul := ⟨by decide +kernel, rfl⟩
theorem i8_lastEntry_104 : IO cX8_lastEntry 104 105 .iadd := ⟨by decide +kernel, rfl⟩
theorem i8_lastEntry_105 : IJ cX8_lastEntry 105 108 127 (.ifCond .ne) := ⟨22, by decide +kernel, rfl, by decide⟩
theorem i8_lastEntry_108 : ILi cX8_lastEntry 108 110 4 := Or.inr ⟨by decide +kernel, rfl⟩
theorem i8_lastEntry_110 : ILa cX8_lastEntry 110 111 0 := Or.inl ⟨0, by decide +kernel, rfl, rfl⟩
theorem i8_lastEntry_111 : IC cX8_lastEntry 111 112 (1) := ⟨by decide, Or.inl ⟨by decide +kernel, rfl⟩⟩
theorem i8_lastEntry_112 : ILi cX8_lastEntry 112 113 2 := Or.inl ⟨2, by decide +kernel, rfl, rfl⟩
theorem i8_lastEntry_113 : ICV m8_lastEntry 113 116 m8_at := ⟨73, by decide +kernel, rfl, q_753⟩
theorem i8_lastEntry_116 : ILi cX8_lastEntry 116 118 7 := Or.inr ⟨by decide +kernel, rfl⟩
theorem i8_lastEntry_118 : IO cX8_lastEntry 118 119 .imul := ⟨by decide +kernel, rfl⟩
theorem i8_lastEntry_119 : IO cX8_lastEntry 119 120 .iadd := ⟨by decide +kernel, rfl⟩
theorem i8_lastEntry_120 : IJ cX8_lastEntry 120 123 127 (.ifCond .ne) := ⟨7, by decide +kernel, rfl, by decide⟩
theorem i8_lastEntry_123 : IC cX8_lastEntry 123 124 (1) := ⟨by decide, Or.inl ⟨by decide +kernel, rfl⟩⟩
theorem i8_lastEntry_124 : IJ cX8_lastEntry 124 127 128 .goto := ⟨4, by decide +kernel, rfl, by decide⟩
theorem i8_lastEntry_127 : IC cX8_lastEntry 127 128 (0) := ⟨by decide, Or.inl ⟨by decide +kernel, rfl⟩⟩
theorem i8_lastEntry_128 : ISi cX8_lastEntry 128 130 8 := Or.inr ⟨by decide +kernel, rfl⟩
theorem i8_lastEntry_130 : ILi cX8_lastEntry 130 132 8 := Or.inr ⟨by decide +kernel, rfl⟩
theorem i8_lastEntry_132 : IJ cX8_lastEntry 132 135 149 (.ifCond .eq) := ⟨17, by decide +kernel, rfl, by decide⟩
theorem i8_lastEntry_135 : ILi cX8_lastEntry 135 137 7 := Or.inr ⟨by decide +kernel, rfl⟩
theorem i8_lastEntry_137 : ICS m8_lastEntry 137 140 yX8_size := ⟨81, by decide +kernel, rfl, q_769⟩
theorem i8_lastEntry_140 : ILi cX8_lastEntry 140 141 1 := Or.inl ⟨1, by decide +kernel, rfl, rfl⟩
theorem i8_lastEntry_141 : IJ cX8_lastEntry 141 144 149 (.if_icmp .gt) := ⟨8, by decide +kernel, rfl, by decide⟩
theorem i8_lastEntry_144 : ILi cX8_lastEntry 144 146 7 := Or.inr ⟨by decide +kernel, rfl⟩
theorem i8_lastEntry_146 : IJ cX8_lastEntry 146 149 152 .goto := ⟨6, by decide +kernel, rfl, by decide⟩
theorem i8_lastEntry_149 : ILi cX8_lastEntry 149 150 1 := Or.inl ⟨1, by decide +kernel, rfl, rfl⟩
theorem i8_lastEntry_150 : IC cX8_lastEntry 150 151 (1) := ⟨by decide, Or.inl ⟨by decide +kernel, rfl⟩⟩
theorem i8_lastEntry_151 : IO cX8_lastEntry 151 152 .iadd := ⟨by decide +kernel, rfl⟩
theorem i8_lastEntry_152 : IO cX8_lastEntry 152 153 .ireturn := ⟨by decide +kernel, rfl⟩
theorem i8_isFirstPositive_0 : IC cX8_isFirstPositive 0 1 (0) := ⟨by decide, Or.inl ⟨by decide +kernel, rfl⟩⟩
theorem i8_isFirstPositive_1 : ISi cX8_isFirstPositive 1 2 1 := Or.inl ⟨1, by decide +kernel, rfl, rfl⟩
theorem i8_isFirstPositive_2 : ILi cX8_isFirstPositive 2 3 1 := Or.inl ⟨1, by decide +kernel, rfl, rfl⟩
theorem i8_isFirstPositive_3 : ILa cX8_isFirstPositive 3 4 0 := Or.inl ⟨0, by decide +kernel, rfl, rfl⟩
theorem i8_isFirstPositive_4 : IGF m8_isFirstPositive 4 7 8 0 := ⟨7, by decide +kernel, rfl, by decide, by decide, q_795⟩
theorem i8_isFirstPositive_7 : IC cX8_isFirstPositive 7 8 (1) := ⟨by decide, Or.inl ⟨by decide +kernel, rfl⟩⟩
theorem i8_isFirstPositive_8 : IO cX8_isFirstPositive 8 9 .iaload := ⟨by decide +kernel, rfl⟩
theorem i8_isFirstPositive_9 : IJ cX8_isFirstPositive 9 12 27 (.if_icmp .ge) := ⟨18, by decide +kernel, rfl, by decide⟩
theorem i8_isFirstPositive_12 : ILa cX8_isFirstPositive 12 13 0 := Or.inl ⟨0, by decide +kernel, rfl, rfl⟩
theorem i8_isFirstPositive_13 : IGF m8_isFirstPositive 13 16 8 9 := ⟨25, by decide +kernel, rfl, by decide, by decide, q_804⟩
theorem i8_isFirstPositive_16 : ILi cX8_isFirstPositive 16 17 1 := Or.inl ⟨1, by decide +kernel, rfl, rfl⟩
theorem i8_isFirstPositive_17 : IO cX8_isFirstPositive 17 18 .iaload := ⟨by decide +kernel, rfl⟩
theorem i8_isFirstPositive_18 : IJ cX8_isFirstPositive 18 21 27 (.ifCond .ne) := ⟨9, by decide +kernel, rfl, by decide⟩
theorem i8_isFirstPositive_21 : II cX8_isFirstPositive 21 24 1 (1) := ⟨by decide +kernel, by decide, rfl⟩
theorem i8_isFirstPositive_24 : IJ cX8_isFirstPositive 24 27 2 .goto := ⟨-22, by decide +kernel, rfl, by decide⟩
theorem i8_isFirstPositive_27 : ILi cX8_isFirstPositive 27 28 1 := Or.inl ⟨1, by decide +kernel, rfl, rfl⟩
theorem i8_isFirstPositive_28 : ILa cX8_isFirstPositive 28 29 0 := Or.inl ⟨0, by decide +kernel, rfl, rfl⟩
theorem i8_isFirstPositive_29 : IGF m8_isFirstPositive 29 32 8 0 := ⟨7, by decide +kernel, rfl, by decide, by decide, q_795⟩
theorem i8_isFirstPositive_32 : IC cX8_isFirstPositive 32 33 (1) := ⟨by decide, Or.inl ⟨by decide +kernel, rfl⟩⟩
theorem i8_isFirstPositive_33 : IO cX8_isFirstPositive 33 34 .iaload := ⟨by decide +kernel, rfl⟩
theorem i8_isFirstPositive_34 : IJ cX8_isFirstPositive 34 37 50 (.if_icmp .ge) := ⟨16, by decide +kernel, rfl, by decide⟩
theorem i8_isFirstPositive_37 : ILa cX8_isFirstPositive 37 38 0 := Or.inl ⟨0, by decide +kernel, rfl, rfl⟩
theorem i8_isFirstPositive_38 : IGF m8_isFirstPositive 38 41 8 9 := ⟨25, by decide +kernel, rfl, by decide, by decide, q_804⟩
theorem i8_isFirstPositive_41 : ILi cX8_isFirstPositive 41 42 1 := Or.inl ⟨1, by decide +kernel, rfl, rfl⟩
theorem i8_isFirstPositive_42 : IO cX8_isFirstPositive 42 43 .iaload := ⟨by decide +kernel, rfl⟩
theorem i8_isFirstPositive_43 : IJ cX8_isFirstPositive 43 46 50 (.ifCond .le) := ⟨7, by decide +kernel, rfl, by decide⟩
theorem i8_isFirstPositive_46 : IC cX8_isFirstPositive 46 47 (1) := ⟨by decide, Or.inl ⟨by decide +kernel, rfl⟩⟩
theorem i8_isFirstPositive_47 : IJ cX8_isFirstPositive 47 50 51 .goto := ⟨4, by decide +kernel, rfl, by decide⟩
theorem i8_isFirstPositive_50 : IC cX8_isFirstPositive 50 51 (0) := ⟨by decide, Or.inl ⟨by decide +kernel, rfl⟩⟩
theorem i8_isFirstPositive_51 : IO cX8_isFirstPositive 51 52 .ireturn := ⟨by decide +kernel, rfl⟩
theorem i8_addKernel_0 : ILa cX8_addKernel 0 1 0 := Or.inl ⟨0, by decide +kernel, rfl, rfl⟩
theorem i8_addKernel_1 : IGF m8_addKernel 1 4 8 8 := ⟨85, by decide +kernel, rfl, by decide, by decide, q_803⟩
theorem i8_addKernel_4 : IC cX8_addKernel 4 7 (800) := ⟨by decide, Or.inr (Or.inr ⟨by decide +kernel, by decide +kernel, rfl⟩)⟩
theorem i8_addKernel_7 : IJ cX8_addKernel 7 10 52 (.if_icmp .ge) := ⟨45, by decide +kernel, rfl, by decide⟩
theorem i8_addKernel_10 : IC cX8_addKernel 10 11 (0) := ⟨by decide, Or.inl ⟨by decide +kernel, rfl⟩⟩
theorem i8_addKernel_11 : ISi cX8_addKernel 11 12 1 := Or.inl ⟨1, by decide +kernel, rfl, rfl⟩
theorem i8_addKernel_12 : ILi cX8_addKernel 12 13 1 := Or.inl ⟨1, by decide +kernel, rfl, rfl⟩
theorem i8_addKernel_13 : IC cX8_addKernel 13 14 (4) := ⟨by decide, Or.inl ⟨by decide +kernel, rfl⟩⟩
theorem i8_addKernel_14 : IJ cX8_addKernel 14 17 42 (.if_icmp .ge) := ⟨28, by decide +kernel, rfl, by decide⟩
theorem i8_addKernel_17 : ILa cX8_addKernel 17 18 0 := Or.inl ⟨0, by decide +kernel, rfl, rfl⟩
theorem i8_addKernel_18 : IGF m8_addKernel 18 21 8 7 := ⟨22, by decide +kernel, rfl, by decide, by decide, q_802⟩
theorem i8_addKernel_21 : IC cX8_addKernel 21 22 (4) := ⟨by decide, Or.inl ⟨by decide +kernel, rfl⟩⟩
theorem i8_addKernel_22 : ILa cX8_addKernel 22 23 0 := Or.inl ⟨0, by decide +kernel, rfl, rfl⟩
theorem i8_addKernel_23 : IGF m8_addKernel 23 26 8 8 := ⟨85, by decide +kernel, rfl, by decide, by decide, q_803⟩
theorem i8_addKernel_26 : IO cX8_addKernel 26 27 .imul := ⟨by decide +kernel, rfl⟩
theorem i8_addKernel_27 : ILi cX8_addKernel 27 28 1 := Or.inl ⟨1, by decide +kernel, rfl, rfl⟩
theorem i8_addKernel_28 : IO cX8_addKernel 28 29 .iadd := ⟨by decide +kernel, rfl⟩
theorem i8_addKernel_29 : ILa cX8_addKernel 29 30 0 := Or.inl ⟨0, by decide +kernel, rfl, rfl⟩
theorem i8_addKernel_30 : IGF m8_addKernel 30 33 8 9 := ⟨25, by decide +kernel, rfl, by decide, by decide, q_804⟩
theorem i8_addKernel_33 : ILi cX8_addKernel 33 34 1 := Or.inl ⟨1, by decide +kernel, rfl, rfl⟩
theorem i8_addKernel_34 : IO cX8_addKernel 34 35 .iaload := ⟨by decide +kernel, rfl⟩
theorem i8_addKernel_35 : IO cX8_addKernel 35 36 .iastore := ⟨by decide +kernel, rfl⟩
theorem i8_addKernel_36 : II cX8_addKernel 36 39 1 (1) := ⟨by decide +kernel, by decide, rfl⟩
theorem i8_addKernel_39 : IJ cX8_addKernel 39 42 12 .goto := ⟨-27, by decide +kernel, rfl, by decide⟩
theorem i8_addKernel_42 : ILa cX8_addKernel 42 43 0 := Or.inl ⟨0, by decide +kernel, rfl, rfl⟩
theorem i8_addKernel_43 : IO cX8_addKernel 43 44 .dup := ⟨by decide +kernel, rfl⟩
theorem i8_addKernel_44 : IGF m8_addKernel 44 47 8 8 := ⟨85, by decide +kernel, rfl, by decide, by decide, q_803⟩
theorem i8_addKernel_47 : IC cX8_addKernel 47 48 (1) := ⟨by decide, Or.inl ⟨by decide +kernel, rfl⟩⟩
theorem i8_addKernel_48 : IO cX8_addKernel 48 49 .iadd := ⟨by decide +kernel, rfl⟩
theorem i8_addKernel_49 : IPF m8_addKernel 49 52 8 8 := ⟨85, by decide +kernel, rfl, by decide, by decide, q_803, rfl⟩
theorem i8_addKernel_52 : IO cX8_addKernel 52 53 .return_ := ⟨by decide +kernel, rfl⟩
theorem i8_layKernel_0 : ILa cX8_layKernel 0 1 0 := Or.inl ⟨0, by decide +kernel, rfl, rfl⟩
theorem i8_layKernel_1 : IGF m8_layKernel 1 4 8 0 := ⟨7, by decide +kernel, rfl, by decide, by decide, q_795⟩
theorem i8_layKernel_4 : IC cX8_layKernel 4 5 (1) := ⟨by decide, Or.inl ⟨by decide +kernel, rfl⟩⟩
theorem i8_layKernel_5 : IO cX8_layKernel 5 6 .iaload := ⟨by decide +kernel, rfl⟩
theorem i8_layKernel_6 : ISi cX8_layKernel 6 7 2 := Or.inl ⟨2, by decide +kernel, rfl, rfl⟩
theorem i8_layKernel_7 : IC cX8_layKernel 7 8 (2) := ⟨by decide, Or.inl ⟨by decide +kernel, rfl⟩⟩
theorem i8_layKernel_8 : ILi cX8_layKernel 8 9 1 := Or.inl ⟨1, by decide +kernel, rfl, rfl⟩
theorem i8_layKernel_9 : IO cX8_layKernel 9 10 .imul := ⟨by decide +kernel, rfl⟩
theorem i8_layKernel_10 : IC cX8_layKernel 10 11 (1) := ⟨by decide, Or.inl ⟨by decide +kernel, rfl⟩⟩
theorem i8_layKernel_11 : IO cX8_layKernel 11 12 .iadd := ⟨by decide +kernel, rfl⟩
theorem i8_layKernel_12 : ISi cX8_layKernel 12 13 3 := Or.inl ⟨3, by decide +kernel, rfl, rfl⟩
theorem i8_layKernel_13 : IC cX8_layKernel 13 14 (1) := ⟨by decide, Or.inl ⟨by decide +kernel, rfl⟩⟩
theorem i8_layKernel_14 : ISi cX8_layKernel 14 16 4 := Or.inr ⟨by decide +kernel, rfl⟩
theorem i8_layKernel_16 : IC cX8_layKernel 16 17 (1) := ⟨by decide, Or.inl ⟨by decide +kernel, rfl⟩⟩
theorem i8_layKernel_17 : ISi cX8_layKernel 17 19 5 := Or.inr ⟨by decide +kernel, rfl⟩
theorem i8_layKernel_19 : ILi cX8_layKernel 19 21 5 := Or.inr ⟨by decide +kernel, rfl⟩
theorem i8_layKernel_21 : ILi cX8_layKernel 21 22 2 := Or.inl ⟨2, by decide +kernel, rfl, rfl⟩
theorem i8_layKernel_22 : IJ cX8_layKernel 22 25 37 (.if_icmp .ge) := ⟨15, by decide +kernel, rfl, by decide⟩
theorem i8_layKernel_25 : ILi cX8_layKernel 25 27 4 := Or.inr ⟨by decide +kernel, rfl⟩
theorem i8_layKernel_27 : ILi cX8_layKernel 27 28 3 := Or.inl ⟨3, by decide +kernel, rfl, rfl⟩
theorem i8_layKernel_28 : IO cX8_layKernel 28 29 .imul := ⟨by decide +kernel, rfl⟩
theorem i8_layKernel_29 : ISi cX8_layKernel 29 31 4 := Or.inr ⟨by decide +kernel, rfl⟩
theorem i8_layKernel_31 : II cX8_layKernel 31 34 5 (1) := ⟨by decide +kernel, by decide, rfl⟩
theorem i8_layKernel_34 : IJ cX8_layKernel 34 37 19 .goto := ⟨-15, by decide +kernel, rfl, by decide⟩
theorem i8_layKernel_37 : ILa cX8_layKernel 37 38 0 := Or.inl ⟨0, by decide +kernel, rfl, rfl⟩
theorem i8_layKernel_38 : IC cX8_layKernel 38 39 (0) := ⟨by decide, Or.inl ⟨by decide +kernel, rfl⟩⟩
theorem i8_layKernel_39 : IPF m8_layKernel 39 42 8 8 := ⟨85, by decide +kernel, rfl, by decide, by decide, q_803, rfl⟩
theorem i8_layKernel_42 : IC cX8_layKernel 42 43 (0) := ⟨by decide, Or.inl ⟨by decide +kernel, rfl⟩⟩
theorem i8_layKernel_43 : ISi cX8_layKernel 43 45 5 := Or.inr ⟨by decide +kernel, rfl⟩
theorem i8_layKernel_45 : ILi cX8_layKernel 45 47 5 := Or.inr ⟨by decide +kernel, rfl⟩
theorem i8_layKernel_47 : ILi cX8_layKernel 47 49 4 := Or.inr ⟨by decide +kernel, rfl⟩
theorem i8_layKernel_49 : IJ cX8_layKernel 49 52 158 (.if_icmp .ge) := ⟨109, by decide +kernel, rfl, by decide⟩
theorem i8_layKernel_52 : ILi cX8_layKernel 52 54 5 := Or.inr ⟨by decide +kernel, rfl⟩
theorem i8_layKernel_54 : ISi cX8_layKernel 54 56 6 := Or.inr ⟨by decide +kernel, rfl⟩
theorem i8_layKernel_56 : ILi cX8_layKernel 56 57 2 := Or.inl ⟨2, by decide +kernel, rfl, rfl⟩
theorem i8_layKernel_57 : IC cX8_layKernel 57 58 (2) := ⟨by decide, Or.inl ⟨by decide +kernel, rfl⟩⟩
theorem i8_layKernel_58 : IO cX8_layKernel 58 59 .isub := ⟨by decide +kernel, rfl⟩
theorem i8_layKernel_59 : ISi cX8_layKernel 59 61 7 := Or.inr ⟨by decide +kernel, rfl⟩
theorem i8_layKernel_61 : ILi cX8_layKernel 61 63 7 := Or.inr ⟨by decide +kernel, rfl⟩
theorem i8_layKernel_63 : IJ cX8_layKernel 63 66 91 (.ifCond .lt) := ⟨28, by decide +kernel, rfl, by decide⟩
theorem i8_layKernel_66 : ILa cX8_layKernel 66 67 0 := Or.inl ⟨0, by decide +kernel, rfl, rfl⟩
theorem i8_layKernel_67 : IGF m8_layKernel 67 70 8 9 := ⟨25, by decide +kernel, rfl, by decide, by decide, q_804⟩
theorem i8_layKernel_70 : ILi cX8_layKernel 70 72 7 := Or.inr ⟨by decide +kernel, rfl⟩
theorem i8_layKernel_72 : ILi cX8_layKernel 72 73 1 := Or.inl ⟨1, by decide +kernel, rfl, rfl⟩
theorem i8_layKernel_73 : ILi cX8_layKernel 73 75 6 := Or.inr ⟨by decide +kernel, rfl⟩
theorem i8_layKernel_75 : ILi cX8_layKernel 75 76 3 := Or.inl ⟨3, by decide +kernel, rfl, rfl⟩
theorem i8_layKernel_76 : IO cX8_layKernel 76 77 .irem := ⟨by decide +kernel, rfl⟩
theorem i8_layKernel_77 : IO cX8_layKernel 77 78 .isub := ⟨by decide +kernel, rfl⟩
theorem i8_layKernel_78 : IO cX8_layKernel 78 79 .iastore := ⟨by decide +kernel, rfl⟩
theorem i8_layKernel_79 : ILi cX8_layKernel 79 81 6 := Or.inr ⟨by decide +kernel, rfl⟩
theorem i8_layKernel_81 : ILi cX8_layKernel 81 82 3 := Or.inl ⟨3, by decide +kernel, rfl, rfl⟩
theorem i8_layKernel_82 : IO cX8_layKernel 82 83 .idiv := ⟨by decide +kernel, rfl⟩
theorem i8_layKernel_83 : ISi cX8_layKernel 83 85 6 := Or.inr ⟨by decide +kernel, rfl⟩
theorem i8_layKernel_85 : II cX8_layKernel 85 88 7 (-1) := ⟨by decide +kernel, by decide, rfl⟩
theorem i8_layKernel_88 : IJ cX8_layKernel 88 91 61 .goto := ⟨-27, by decide +kernel, rfl, by decide⟩
theorem i8_layKernel_91 : ILi cX8_layKernel 91 92 2 := Or.inl ⟨2, by decide +kernel, rfl, rfl⟩
theorem i8_layKernel_92 : IC cX8_layKernel 92 93 (1) := ⟨by decide, Or.inl ⟨by decide +kernel, rfl⟩⟩
theorem i8_layKernel_93 : IO cX8_layKernel 93 94 .isub := ⟨by decide +kernel, rfl⟩
theorem i8_layKernel_94 : ISi cX8_layKernel 94 96 7 := Or.inr ⟨by decide +kernel, rfl⟩
theorem i8_layKernel_96 : ILi cX8_layKernel 96 98 7 := Or.inr ⟨by decide +kernel, rfl⟩
theorem i8_layKernel_98 : IC cX8_layKernel 98 99 (4) := ⟨by decide, Or.inl ⟨by decide +kernel, rfl⟩⟩
theorem i8_layKernel_99 : IJ cX8_layKernel 99 102 116 (.if_icmp .ge) := ⟨17, by decide +kernel, rfl, by decide⟩
theorem i8_layKernel_102 : ILa cX8_layKernel 102 103 0 := Or.inl ⟨0, by decide +kernel, rfl, rfl⟩
theorem i8_layKernel_103 : IGF m8_layKernel 103 106 8 9 := ⟨25, by decide +kernel, rfl, by decide, by decide, q_804⟩
theorem i8_layKernel_106 : ILi cX8_layKernel 106 108 7 := Or.inr ⟨by decide +kernel, rfl⟩
theorem i8_layKernel_108 : IC cX8_layKernel 108 109 (0) := ⟨by decide, Or.inl ⟨by decide +kernel, rfl⟩⟩
theorem i8_layKernel_109 : IO cX8_layKernel 109 110 .iastore := ⟨by decide +kernel, rfl⟩
theorem i8_layKernel_110 : II cX8_layKernel 110 113 7 (1) := ⟨by decide +kernel, by decide, rfl⟩
theorem i8_layKernel_113 : IJ cX8_layKernel 113 116 96 .goto := ⟨-17, by decide +kernel, rfl, by decide⟩
theorem i8_layKernel_116 : ILa cX8_layKernel 116 117 0 := Or.inl ⟨0, by decide +kernel, rfl, rfl⟩
theorem i8_layKernel_117 : IGF m8_layKernel 117 120 8 9 := ⟨25, by decide +kernel, rfl, by decide, by decide, q_804⟩
theorem i8_layKernel_120 : ILi cX8_layKernel 120 121 2 := Or.inl ⟨2, by decide +kernel, rfl, rfl⟩
theorem i8_layKernel_121 : IC cX8_layKernel 121 122 (1) := ⟨by decide, Or.inl ⟨by decide +kernel, rfl⟩⟩
theorem i8_layKernel_122 : IO cX8_layKernel 122 123 .isub := ⟨by decide +kernel, rfl⟩
theorem i8_layKernel_123 : ILa cX8_layKernel 123 124 0 := Or.inl ⟨0, by decide +kernel, rfl, rfl⟩
theorem i8_layKernel_124 : ILi cX8_layKernel 124 125 1 := Or.inl ⟨1, by decide +kernel, rfl, rfl⟩
theorem i8_layKernel_125 : ICV m8_layKernel 125 128 m8_lastEntry := ⟨88, by decide +kernel, rfl, q_761⟩
theorem i8_layKernel_128 : IO cX8_layKernel 128 129 .iastore := ⟨by decide +kernel, rfl⟩
theorem i8_layKernel_129 : ILa cX8_layKernel 129 130 0 := Or.inl ⟨0, by decide +kernel, rfl, rfl⟩
theorem i8_layKernel_130 : IGF m8_layKernel 130 133 8 9 := ⟨25, by decide +kernel, rfl, by decide, by decide, q_804⟩
theorem i8_layKernel_133 : ILi cX8_layKernel 133 134 2 := Or.inl ⟨2, by decide +kernel, rfl, rfl⟩
theorem i8_layKernel_134 : IC cX8_layKernel 134 135 (1) := ⟨by decide, Or.inl ⟨by decide +kernel, rfl⟩⟩
theorem i8_layKernel_135 : IO cX8_layKernel 135 136 .isub := ⟨by decide +kernel, rfl⟩
theorem i8_layKernel_136 : IO cX8_layKernel 136 137 .iaload := ⟨by decide +kernel, rfl⟩
theorem i8_layKernel_137 : ILi cX8_layKernel 137 138 1 := Or.inl ⟨1, by decide +kernel, rfl, rfl⟩
theorem i8_layKernel_138 : IJ cX8_layKernel 138 141 152 (.if_icmp .gt) := ⟨14, by decide +kernel, rfl, by decide⟩
theorem i8_layKernel_141 : ILa cX8_layKernel 141 142 0 := Or.inl ⟨0, by decide +kernel, rfl, rfl⟩
theorem i8_layKernel_142 : ICV m8_layKernel 142 145 m8_isFirstPositive := ⟨91, by decide +kernel, rfl, q_772⟩
theorem i8_layKernel_145 : IJ cX8_layKernel 145 148 152 (.ifCond .eq) := ⟨7, by decide +kernel, rfl, by decide⟩
theorem i8_layKernel_148 : ILa cX8_layKernel 148 149 0 := Or.inl ⟨0, by decide +kernel, rfl, rfl⟩
theorem i8_layKernel_149 : ICV m8_layKernel 149 152 m8_addKernel := ⟨95, by decide +kernel, rfl, q_776⟩
theorem i8_layKernel_152 : II cX8_layKernel 152 155 5 (1) := ⟨by decide +kernel, by decide, rfl⟩
theorem i8_layKernel_155 : IJ cX8_layKernel 155 158 45 .goto := ⟨-110, by decide +kernel, rfl, by decide⟩
theorem i8_layKernel_158 : ILa cX8_layKernel 158 159 0 := Or.inl ⟨0, by decide +kernel, rfl, rfl⟩
theorem i8_layKernel_159 : ILi cX8_layKernel 159 160 2 := Or.inl ⟨2, by decide +kernel, rfl, rfl⟩
theorem i8_layKernel_160 : IC cX8_layKernel 160 161 (1) := ⟨by decide, Or.inl ⟨by decide +kernel, rfl⟩⟩
theorem i8_layKernel_161 : IO cX8_layKernel 161 162 .isub := ⟨by decide +kernel, rfl⟩
theorem i8_layKernel_162 : ICV m8_layKernel 162 165 m8_isZeroColumn := ⟨98, by decide +kernel, rfl, q_780⟩
theorem i8_layKernel_165 : IJ cX8_layKernel 165 168 207 (.ifCond .eq) := ⟨42, by decide +kernel, rfl, by decide⟩
theorem i8_layKernel_168 : IC cX8_layKernel 168 169 (0) := ⟨by decide, Or.inl ⟨by decide +kernel, rfl⟩⟩
theorem i8_layKernel_169 : ISi cX8_layKernel 169 171 5 := Or.inr ⟨by decide +kernel, rfl⟩
theorem i8_layKernel_171 : ILi cX8_layKernel 171 173 5 := Or.inr ⟨by decide +kernel, rfl⟩
theorem i8_layKernel_173 : IC cX8_layKernel 173 174 (4) := ⟨by decide, Or.inl ⟨by decide +kernel, rfl⟩⟩
theorem i8_layKernel_174 : IJ cX8_layKernel 174 177 203 (.if_icmp .ge) := ⟨29, by decide +kernel, rfl, by decide⟩
theorem i8_layKernel_177 : ILa cX8_layKernel 177 178 0 := Or.inl ⟨0, by decide +kernel, rfl, rfl⟩
theorem i8_layKernel_178 : IGF m8_layKernel 178 181 8 9 := ⟨25, by decide +kernel, rfl, by decide, by decide, q_804⟩
theorem i8_layKernel_181 : ILi cX8_layKernel 181 183 5 := Or.inr ⟨by decide +kernel, rfl⟩
theorem i8_layKernel_183 : ILi cX8_layKernel 183 185 5 := Or.inr ⟨by decide +kernel, rfl⟩
theorem i8_layKernel_185 : ILi cX8_layKernel 185 186 2 := Or.inl ⟨2, by decide +kernel, rfl, rfl⟩
theorem i8_layKernel_186 : IC cX8_layKernel 186 187 (1) := ⟨by decide, Or.inl ⟨by decide +kernel, rfl⟩⟩
theorem i8_layKernel_187 : IO cX8_layKernel 187 188 .isub := ⟨by decide +kernel, rfl⟩
theorem i8_layKernel_188 : IJ cX8_layKernel 188 191 195 (.if_icmp .ne) := ⟨7, by decide +kernel, rfl, by decide⟩
theorem i8_layKernel_191 : IC cX8_layKernel 191 192 (1) := ⟨by decide, Or.inl ⟨by decide +kernel, rfl⟩⟩
theorem i8_layKernel_192 : IJ cX8_layKernel 192 195 196 .goto := ⟨4, by decide +kernel, rfl, by decide⟩
theorem i8_layKernel_195 : IC cX8_layKernel 195 196 (0) := ⟨by decide, Or.inl ⟨by decide +kernel, rfl⟩⟩
theorem i8_layKernel_196 : IO cX8_layKernel 196 197 .iastore := ⟨by decide +kernel, rfl⟩
theorem i8_layKernel_197 : II cX8_layKernel 197 200 5 (1) := ⟨by decide +kernel, by decide, rfl⟩
theorem i8_layKernel_200 : IJ cX8_layKernel 200 203 171 .goto := ⟨-29, by decide +kernel, rfl, by decide⟩
theorem i8_layKernel_203 : ILa cX8_layKernel 203 204 0 := Or.inl ⟨0, by decide +kernel, rfl, rfl⟩
theorem i8_layKernel_204 : ICV m8_layKernel 204 207 m8_addKernel := ⟨95, by decide +kernel, rfl, q_776⟩
theorem i8_layKernel_207 : IO cX8_layKernel 207 208 .return_ := ⟨by decide +kernel, rfl⟩
theorem i8_norm_0 : ILa cX8_norm 0 1 0 := Or.inl ⟨0, by decide +kernel, rfl, rfl⟩
theorem i8_norm_1 : ILi cX8_norm 1 2 1 := Or.inl ⟨1, by decide +kernel, rfl, rfl⟩
theorem i8_norm_2 : IO cX8_norm 2 3 .iaload := ⟨by decide +kernel, rfl⟩
theorem i8_norm_3 : ICS m8_norm 3 6 yX8_size := ⟨81, by decide +kernel, rfl, q_769⟩
theorem i8_norm_6 : ILa cX8_norm 6 7 0 := Or.inl ⟨0, by decide +kernel, rfl, rfl⟩
theorem i8_norm_7 : ILi cX8_norm 7 8 1 := Or.inl ⟨1, by decide +kernel, rfl, rfl⟩
theorem i8_norm_8 : IC cX8_norm 8 9 (1) := ⟨by decide, Or.inl ⟨by decide +kernel, rfl⟩⟩
theorem i8_norm_9 : IO cX8_norm 9 10 .iadd := ⟨by decide +kernel, rfl⟩
theorem i8_norm_10 : IO cX8_norm 10 11 .iaload := ⟨by decide +kernel, rfl⟩
theorem i8_norm_11 : ICS m8_norm 11 14 yX8_size := ⟨81, by decide +kernel, rfl, q_769⟩
theorem i8_norm_14 : IO cX8_norm 14 15 .iadd := ⟨by decide +kernel, rfl⟩
theorem i8_norm_15 : ILa cX8_norm 15 16 0 := Or.inl ⟨0, by decide +kernel, rfl, rfl⟩
theorem i8_norm_16 : ILi cX8_norm 16 17 1 := Or.inl ⟨1, by decide +kernel, rfl, rfl⟩
theorem i8_norm_17 : IC cX8_norm 17 18 (2) := ⟨by decide, Or.inl ⟨by decide +kernel, rfl⟩⟩
theorem i8_norm_18 : IO cX8_norm 18 19 .iadd := ⟨by decide +kernel, rfl⟩
theorem i8_norm_19 : IO cX8_norm 19 20 .iaload := ⟨by decide +kernel, rfl⟩
theorem i8_norm_20 : ICS m8_norm 20 23 yX8_size := ⟨81, by decide +kernel, rfl, q_769⟩
theorem i8_norm_23 : IO cX8_norm 23 24 .iadd := ⟨by decide +kernel, rfl⟩
theorem i8_norm_24 : ILa cX8_norm 24 25 0 := Or.inl ⟨0, by decide +kernel, rfl, rfl⟩
theorem i8_norm_25 : ILi cX8_norm 25 26 1 := Or.inl ⟨1, by decide +kernel, rfl, rfl⟩
theorem i8_norm_26 : IC cX8_norm 26 27 (3) := ⟨by decide, Or.inl ⟨by decide +kernel, rfl⟩⟩
theorem i8_norm_27 : IO cX8_norm 27 28 .iadd := ⟨by decide +kernel, rfl⟩
theorem i8_norm_28 : IO cX8_norm 28 29 .iaload := ⟨by decide +kernel, rfl⟩
theorem i8_norm_29 : ICS m8_norm 29 32 yX8_size := ⟨81, by decide +kernel, rfl, q_769⟩
theorem i8_norm_32 : IO cX8_norm 32 33 .iadd := ⟨by decide +kernel, rfl⟩
theorem i8_norm_33 : IO cX8_norm 33 34 .ireturn := ⟨by decide +kernel, rfl⟩
theorem i8_isConformal_0 : IC cX8_isConformal 0 1 (1) := ⟨by decide, Or.inl ⟨by decide +kernel, rfl⟩⟩
theorem i8_isConformal_1 : ISi cX8_isConformal 1 3 5 := Or.inr ⟨by decide +kernel, rfl⟩
theorem i8_isConformal_3 : IC cX8_isConformal 3 4 (0) := ⟨by decide, Or.inl ⟨by decide +kernel, rfl⟩⟩
theorem i8_isConformal_4 : ISi cX8_isConformal 4 6 6 := Or.inr ⟨by decide +kernel, rfl⟩
theorem i8_isConformal_6 : ILi cX8_isConformal 6 8 6 := Or.inr ⟨by decide +kernel, rfl⟩
theorem i8_isConformal_8 : IC cX8_isConformal 8 9 (4) := ⟨by decide, Or.inl ⟨by decide +kernel, rfl⟩⟩
theorem i8_isConformal_9 : IJ cX8_isConformal 9 12 76 (.if_icmp .ge) := ⟨67, by decide +kernel, rfl, by decide⟩
theorem i8_isConformal_12 : ILi cX8_isConformal 12 13 2 := Or.inl ⟨2, by decide +kernel, rfl, rfl⟩
theorem i8_isConformal_13 : ILa cX8_isConformal 13 14 0 := Or.inl ⟨0, by decide +kernel, rfl, rfl⟩
theorem i8_isConformal_14 : IGF m8_isConformal 14 17 8 6 := ⟨19, by decide +kernel, rfl, by decide, by decide, q_801⟩
theorem i8_isConformal_17 : IC cX8_isConformal 17 18 (4) := ⟨by decide, Or.inl ⟨by decide +kernel, rfl⟩⟩
theorem i8_isConformal_18 : ILi cX8_isConformal 18 19 1 := Or.inl ⟨1, by decide +kernel, rfl, rfl⟩
theorem i8_isConformal_19 : IO cX8_isConformal 19 20 .imul := ⟨by decide +kernel, rfl⟩
theorem i8_isConformal_20 : ILi cX8_isConformal 20 22 6 := Or.inr ⟨by decide +kernel, rfl⟩
theorem i8_isConformal_22 : IO cX8_isConformal 22 23 .iadd := ⟨by decide +kernel, rfl⟩
theorem i8_isConformal_23 : IO cX8_isConformal 23 24 .iaload := ⟨by decide +kernel, rfl⟩
theorem i8_isConformal_24 : IO cX8_isConformal 24 25 .imul := ⟨by decide +kernel, rfl⟩
theorem i8_isConformal_25 : ISi cX8_isConformal 25 27 7 := Or.inr ⟨by decide +kernel, rfl⟩
theorem i8_isConformal_27 : ILi cX8_isConformal 27 29 5 := Or.inr ⟨by decide +kernel, rfl⟩
theorem i8_isConformal_29 : IJ cX8_isConformal 29 32 67 (.ifCond .eq) := ⟨38, by decide +kernel, rfl, by decide⟩
theorem i8_isConformal_32 : ILi cX8_isConformal 32 34 7 := Or.inr ⟨by decide +kernel, rfl⟩
theorem i8_isConformal_34 : ILa cX8_isConformal 34 35 3 := Or.inl ⟨3, by decide +kernel, rfl, rfl⟩
theorem i8_isConformal_35 : ILi cX8_isConformal 35 37 4 := Or.inr ⟨by decide +kernel, rfl⟩
theorem i8_isConformal_37 : ILi cX8_isConformal 37 39 6 := Or.inr ⟨by decide +kernel, rfl⟩
theorem i8_isConformal_39 : IO cX8_isConformal 39 40 .iadd := ⟨by decide +kernel, rfl⟩
theorem i8_isConformal_40 : IO cX8_isConformal 40 41 .iaload := ⟨by decide +kernel, rfl⟩
theorem i8_isConformal_41 : IO cX8_isConformal 41 42 .imul := ⟨by decide +kernel, rfl⟩
theorem i8_isConformal_42 : IJ cX8_isConformal 42 45 67 (.ifCond .lt) := ⟨25, by decide +kernel, rfl, by decide⟩
theorem i8_isConformal_45 : ILi cX8_isConformal 45 47 7 := Or.inr ⟨by decide +kernel, rfl⟩
theorem i8_isConformal_47 : ICS m8_isConformal 47 50 yX8_size := ⟨81, by decide +kernel, rfl, q_769⟩
theorem i8_isConformal_50 : ILa cX8_isConformal 50 51 3 := Or.inl ⟨3, by decide +kernel, rfl, rfl⟩
theorem i8_isConformal_51 : ILi cX8_isConformal 51 53 4 := Or.inr ⟨by decide +kernel, rfl⟩
theorem i8_isConformal_53 : ILi cX8_isConformal 53 55 6 := Or.inr ⟨by decide +kernel, rfl⟩
theorem i8_isConformal_55 : IO cX8_isConformal 55 56 .iadd := ⟨by decide +kernel, rfl⟩
theorem i8_isConformal_56 : IO cX8_isConformal 56 57 .iaload := ⟨by decide +kernel, rfl⟩
theorem i8_isConformal_57 : ICS m8_isConformal 57 60 yX8_size := ⟨81, by decide +kernel, rfl, q_769⟩
theorem i8_isConformal_60 : IJ cX8_isConformal 60 63 67 (.if_icmp .gt) := ⟨7, by decide +kernel, rfl, by decide⟩
theorem i8_isConformal_63 : IC cX8_isConformal 63 64 (1) := ⟨by decide, Or.inl ⟨by decide +kernel, rfl⟩⟩
theorem i8_isConformal_64 : IJ cX8_isConformal 64 67 68 .goto := ⟨4, by decide +kernel, rfl, by decide⟩
theorem i8_isConformal_67 : IC cX8_isConformal 67 68 (0) := ⟨by decide, Or.inl ⟨by decide +kernel, rfl⟩⟩
theorem i8_isConformal_68 : ISi cX8_isConformal 68 70 5 := Or.inr ⟨by decide +kernel, rfl⟩
theorem i8_isConformal_70 : II cX8_isConformal 70 73 6 (1) := ⟨by decide +kernel, by decide, rfl⟩
theorem i8_isConformal_73 : IJ cX8_isConformal 73 76 6 .goto := ⟨-67, by decide +kernel, rfl, by decide⟩
theorem i8_isConformal_76 : ILi cX8_isConformal 76 78 5 := Or.inr ⟨by decide +kernel, rfl⟩
theorem i8_isConformal_78 : IO cX8_isConformal 78 79 .ireturn := ⟨by decide +kernel, rfl⟩
theorem i8_layBasis_0 : ILa cX8_layBasis 0 1 0 := Or.inl ⟨0, by decide +kernel, rfl, rfl⟩
theorem i8_layBasis_1 : ICV m8_layBasis 1 4 m8_rankOf := ⟨102, by decide +kernel, rfl, q_749⟩
theorem i8_layBasis_4 : ISi cX8_layBasis 4 5 1 := Or.inl ⟨1, by decide +kernel, rfl, rfl⟩
theorem i8_layBasis_5 : ILi cX8_layBasis 5 6 1 := Or.inl ⟨1, by decide +kernel, rfl, rfl⟩
theorem i8_layBasis_6 : IJ cX8_layBasis 6 9 13 (.ifCond .ne) := ⟨7, by decide +kernel, rfl, by decide⟩
theorem i8_layBasis_9 : IC cX8_layBasis 9 10 (1) := ⟨by decide, Or.inl ⟨by decide +kernel, rfl⟩⟩
theorem i8_layBasis_10 : IJ cX8_layBasis 10 13 24 .goto := ⟨14, by decide +kernel, rfl, by decide⟩
theorem i8_layBasis_13 : ILi cX8_layBasis 13 14 1 := Or.inl ⟨1, by decide +kernel, rfl, rfl⟩
theorem i8_layBasis_14 : IC cX8_layBasis 14 15 (1) := ⟨by decide, Or.inl ⟨by decide +kernel, rfl⟩⟩
theorem i8_layBasis_15 : IJ cX8_layBasis 15 18 22 (.if_icmp .ne) := ⟨7, by decide +kernel, rfl, by decide⟩
theorem i8_layBasis_18 : IC cX8_layBasis 18 19 (3) := ⟨by decide, Or.inl ⟨by decide +kernel, rfl⟩⟩
theorem i8_layBasis_19 : IJ cX8_layBasis 19 22 24 .goto := ⟨5, by decide +kernel, rfl, by decide⟩
theorem i8_layBasis_22 : IC cX8_layBasis 22 24 (18) := ⟨by decide, Or.inr (Or.inl ⟨by decide +kernel, by decide +kernel, rfl⟩)⟩
theorem i8_layBasis_24 : ISi cX8_layBasis 24 25 2 := Or.inl ⟨2, by decide +kernel, rfl, rfl⟩
theorem i8_layBasis_25 : ILa cX8_layBasis 25 26 0 := Or.inl ⟨0, by decide +kernel, rfl, rfl⟩
theorem i8_layBasis_26 : ILi cX8_layBasis 26 27 2 := Or.inl ⟨2, by decide +kernel, rfl, rfl⟩
theorem i8_layBasis_27 : ICV m8_layBasis 27 30 m8_layKernel := ⟨106, by decide +kernel, rfl, q_757⟩
theorem i8_layBasis_30 : ILa cX8_layBasis 30 31 0 := Or.inl ⟨0, by decide +kernel, rfl, rfl⟩
theorem i8_layBasis_31 : IC cX8_layBasis 31 32 (0) := ⟨by decide, Or.inl ⟨by decide +kernel, rfl⟩⟩
theorem i8_layBasis_32 : IPF m8_layBasis 32 35 8 5 := ⟨70, by decide +kernel, rfl, by decide, by decide, q_800, rfl⟩
theorem i8_layBasis_35 : IC cX8_layBasis 35 36 (1) := ⟨by decide, Or.inl ⟨by decide +kernel, rfl⟩⟩
theorem i8_layBasis_36 : ISi cX8_layBasis 36 37 3 := Or.inl ⟨3, by decide +kernel, rfl, rfl⟩
theorem i8_layBasis_37 : ILi cX8_layBasis 37 38 3 := Or.inl ⟨3, by decide +kernel, rfl, rfl⟩
theorem i8_layBasis_38 : IC cX8_layBasis 38 39 (4) := ⟨by decide, Or.inl ⟨by decide +kernel, rfl⟩⟩
theorem i8_layBasis_39 : ILi cX8_layBasis 39 40 2 := Or.inl ⟨2, by decide +kernel, rfl, rfl⟩
theorem i8_layBasis_40 : IO cX8_layBasis 40 41 .imul := ⟨by decide +kernel, rfl⟩
theorem i8_layBasis_41 : IJ cX8_layBasis 41 44 153 (.if_icmp .gt) := ⟨112, by decide +kernel, rfl, by decide⟩
theorem i8_layBasis_44 : IC cX8_layBasis 44 45 (0) := ⟨by decide, Or.inl ⟨by decide +kernel, rfl⟩⟩
theorem i8_layBasis_45 : ISi cX8_layBasis 45 47 4 := Or.inr ⟨by decide +kernel, rfl⟩
theorem i8_layBasis_47 : ILi cX8_layBasis 47 49 4 := Or.inr ⟨by decide +kernel, rfl⟩
theorem i8_layBasis_49 : ILa cX8_layBasis 49 50 0 := Or.inl ⟨0, by decide +kernel, rfl, rfl⟩
theorem i8_layBasis_50 : IGF m8_layBasis 50 53 8 8 := ⟨85, by decide +kernel, rfl, by decide, by decide, q_803⟩
theorem i8_layBasis_53 : IJ cX8_layBasis 53 56 147 (.if_icmp .ge) := ⟨94, by decide +kernel, rfl, by decide⟩
theorem i8_layBasis_56 : ILa cX8_layBasis 56 57 0 := Or.inl ⟨0, by decide +kernel, rfl, rfl⟩
theorem i8_layBasis_57 : IGF m8_layBasis 57 60 8 7 := ⟨22, by decide +kernel, rfl, by decide, by decide, q_802⟩
theorem i8_layBasis_60 : IC cX8_layBasis 60 61 (4) := ⟨by decide, Or.inl ⟨by decide +kernel, rfl⟩⟩
theorem i8_layBasis_61 : ILi cX8_layBasis 61 63 4 := Or.inr ⟨by decide +kernel, rfl⟩
theorem i8_layBasis_63 : IO cX8_layBasis 63 64 .imul := ⟨by decide +kernel, rfl⟩
theorem i8_layBasis_64 : ICS m8_layBasis 64 67 yX8_norm := ⟨110, by decide +kernel, rfl, q_784⟩
theorem i8_layBasis_67 : ILi cX8_layBasis 67 68 3 := Or.inl ⟨3, by decide +kernel, rfl, rfl⟩
theorem i8_layBasis_68 : IJ cX8_layBasis 68 71 141 (.if_icmp .ne) := ⟨73, by decide +kernel, rfl, by decide⟩
theorem i8_layBasis_71 : ILa cX8_layBasis 71 72 0 := Or.inl ⟨0, by decide +kernel, rfl, rfl⟩
theorem i8_layBasis_72 : ILi cX8_layBasis 72 74 4 := Or.inr ⟨by decide +kernel, rfl⟩
theorem i8_layBasis_74 : ICV m8_layBasis 74 77 m8_isLeast := ⟨114, by decide +kernel, rfl, q_787⟩
theorem i8_layBasis_77 : IJ cX8_layBasis 77 80 141 (.ifCond .eq) := ⟨64, by decide +kernel, rfl, by decide⟩
theorem i8_layBasis_80 : ILa cX8_layBasis 80 81 0 := Or.inl ⟨0, by decide +kernel, rfl, rfl⟩
theorem i8_layBasis_81 : IGF m8_layBasis 81 84 8 5 := ⟨70, by decide +kernel, rfl, by decide, by decide, q_800⟩
theorem i8_layBasis_84 : IC cX8_layBasis 84 87 (160) := ⟨by decide, Or.inr (Or.inr ⟨by decide +kernel, by decide +kernel, rfl⟩)⟩
theorem i8_layBasis_87 : IJ cX8_layBasis 87 90 141 (.if_icmp .ge) := ⟨54, by decide +kernel, rfl, by decide⟩
theorem i8_layBasis_90 : IC cX8_layBasis 90 91 (0) := ⟨by decide, Or.inl ⟨by decide +kernel, rfl⟩⟩
theorem i8_layBasis_91 : ISi cX8_layBasis 91 93 5 := Or.inr ⟨by decide +kernel, rfl⟩
theorem i8_layBasis_93 : ILi cX8_layBasis 93 95 5 := Or.inr ⟨by decide +kernel, rfl⟩
theorem i8_layBasis_95 : IC cX8_layBasis 95 96 (4) := ⟨by decide, Or.inl ⟨by decide +kernel, rfl⟩⟩
theorem i8_layBasis_96 : IJ cX8_layBasis 96 99 131 (.if_icmp .ge) := ⟨35, by decide +kernel, rfl, by decide⟩
theorem i8_layBasis_99 : ILa cX8_layBasis 99 100 0 := Or.inl ⟨0, by decide +kernel, rfl, rfl⟩
theorem i8_layBasis_100 : IGF m8_layBasis 100 103 8 6 := ⟨19, by decide +kernel, rfl, by decide, by decide, q_801⟩
theorem i8_layBasis_103 : IC cX8_layBasis 103 104 (4) := ⟨by decide, Or.inl ⟨by decide +kernel, rfl⟩⟩
theorem i8_layBasis_104 : ILa cX8_layBasis 104 105 0 := Or.inl ⟨0, by decide +kernel, rfl, rfl⟩
theorem i8_layBasis_105 : IGF m8_layBasis 105 108 8 5 := ⟨70, by decide +kernel, rfl, by decide, by decide, q_800⟩
theorem i8_layBasis_108 : IO cX8_layBasis 108 109 .imul := ⟨by decide +kernel, rfl⟩
theorem i8_layBasis_109 : ILi cX8_layBasis 109 111 5 := Or.inr ⟨by decide +kernel, rfl⟩
theorem i8_layBasis_111 : IO cX8_layBasis 111 112 .iadd := ⟨by decide +kernel, rfl⟩
theorem i8_layBasis_112 : ILa cX8_layBasis 112 113 0 := Or.inl ⟨0, by decide +kernel, rfl, rfl⟩
theorem i8_layBasis_113 : IGF m8_layBasis 113 116 8 7 := ⟨22, by decide +kernel, rfl, by decide, by decide, q_802⟩
theorem i8_layBasis_116 : IC cX8_layBasis 116 117 (4) := ⟨by decide, Or.inl ⟨by decide +kernel, rfl⟩⟩
theorem i8_layBasis_117 : ILi cX8_layBasis 117 119 4 := Or.inr ⟨by decide +kernel, rfl⟩
theorem i8_layBasis_119 : IO cX8_layBasis 119 120 .imul := ⟨by decide +kernel, rfl⟩
theorem i8_layBasis_120 : ILi cX8_layBasis 120 122 5 := Or.inr ⟨by decide +kernel, rfl⟩
theorem i8_layBasis_122 : IO cX8_layBasis 122 123 .iadd := ⟨by decide +kernel, rfl⟩
theorem i8_layBasis_123 : IO cX8_layBasis 123 124 .iaload := ⟨by decide +kernel, rfl⟩
theorem i8_layBasis_124 : IO cX8_layBasis 124 125 .iastore := ⟨by decide +kernel, rfl⟩
theorem i8_layBasis_125 : II cX8_layBasis 125 128 5 (1) := ⟨by decide +kernel, by decide, rfl⟩
theorem i8_layBasis_128 : IJ cX8_layBasis 128 131 93 .goto := ⟨-35, by decide +kernel, rfl, by decide⟩
theorem i8_layBasis_131 : ILa cX8_layBasis 131 132 0 := Or.inl ⟨0, by decide +kernel, rfl, rfl⟩
theorem i8_layBasis_132 : IO cX8_layBasis 132 133 .dup := ⟨by decide +kernel, rfl⟩
theorem i8_layBasis_133 : IGF m8_layBasis 133 136 8 5 := ⟨70, by decide +kernel, rfl, by decide, by decide, q_800⟩
theorem i8_layBasis_136 : IC cX8_layBasis 136 137 (1) := ⟨by decide, Or.inl ⟨by decide +kernel, rfl⟩⟩
theorem i8_layBasis_137 : IO cX8_layBasis 137 138 .iadd := ⟨by decide +kernel, rfl⟩
theorem i8_layBasis_138 : IPF m8_layBasis 138 141 8 5 := ⟨70, by decide +kernel, rfl, by decide, by decide, q_800, rfl⟩
theorem i8_layBasis_141 : II cX8_layBasis 141 144 4 (1) := ⟨by decide +kernel, by decide, rfl⟩
theorem i8_layBasis_144 : IJ cX8_layBasis 144 147 47 .goto := ⟨-97, by decide +kernel, rfl, by decide⟩
theorem i8_layBasis_147 : II cX8_layBasis 147 150 3 (1) := ⟨by decide +kernel, by decide, rfl⟩
theorem i8_layBasis_150 : IJ cX8_layBasis 150 153 37 .goto := ⟨-113, by decide +kernel, rfl, by decide⟩
theorem i8_layBasis_153 : IO cX8_layBasis 153 154 .return_ := ⟨by decide +kernel, rfl⟩
theorem i8_isLeast_0 : IC cX8_isLeast 0 1 (1) := ⟨by decide, Or.inl ⟨by decide +kernel, rfl⟩⟩
theorem i8_isLeast_1 : ISi cX8_isLeast 1 2 2 := Or.inl ⟨2, by decide +kernel, rfl, rfl⟩
theorem i8_isLeast_2 : IC cX8_isLeast 2 3 (0) := ⟨by decide, Or.inl ⟨by decide +kernel, rfl⟩⟩
theorem i8_isLeast_3 : ISi cX8_isLeast 3 4 3 := Or.inl ⟨3, by decide +kernel, rfl, rfl⟩
theorem i8_isLeast_4 : ILi cX8_isLeast 4 5 3 := Or.inl ⟨3, by decide +kernel, rfl, rfl⟩
theorem i8_isLeast_5 : ILa cX8_isLeast 5 6 0 := Or.inl ⟨0, by decide +kernel, rfl, rfl⟩
theorem i8_isLeast_6 : IGF m8_isLeast 6 9 8 5 := ⟨70, by decide +kernel, rfl, by decide, by decide, q_800⟩
theorem i8_isLeast_9 : IJ cX8_isLeast 9 12 60 (.if_icmp .ge) := ⟨51, by decide +kernel, rfl, by decide⟩
theorem i8_isLeast_12 : ILi cX8_isLeast 12 13 2 := Or.inl ⟨2, by decide +kernel, rfl, rfl⟩
theorem i8_isLeast_13 : IJ cX8_isLeast 13 16 60 (.ifCond .eq) := ⟨47, by decide +kernel, rfl, by decide⟩
theorem i8_isLeast_16 : ILa cX8_isLeast 16 17 0 := Or.inl ⟨0, by decide +kernel, rfl, rfl⟩
theorem i8_isLeast_17 : ILi cX8_isLeast 17 18 3 := Or.inl ⟨3, by decide +kernel, rfl, rfl⟩
theorem i8_isLeast_18 : IC cX8_isLeast 18 19 (1) := ⟨by decide, Or.inl ⟨by decide +kernel, rfl⟩⟩
theorem i8_isLeast_19 : ILa cX8_isLeast 19 20 0 := Or.inl ⟨0, by decide +kernel, rfl, rfl⟩
theorem i8_isLeast_20 : IGF m8_isLeast 20 23 8 7 := ⟨22, by decide +kernel, rfl, by decide, by decide, q_802⟩
theorem i8_isLeast_23 : IC cX8_isLeast 23 24 (4) := ⟨by decide, Or.inl ⟨by decide +kernel, rfl⟩⟩
theorem i8_isLeast_24 : ILi cX8_isLeast 24 25 1 := Or.inl ⟨1, by decide +kernel, rfl, rfl⟩
theorem i8_isLeast_25 : IO cX8_isLeast 25 26 .imul := ⟨by decide +kernel, rfl⟩
theorem i8_isLeast_26 : ICV m8_isLeast 26 29 m8_isConformal := ⟨117, by decide +kernel, rfl, q_791⟩
theorem i8_isLeast_29 : IJ cX8_isLeast 29 32 52 (.ifCond .ne) := ⟨23, by decide +kernel, rfl, by decide⟩
theorem i8_isLeast_32 : ILa cX8_isLeast 32 33 0 := Or.inl ⟨0, by decide +kernel, rfl, rfl⟩
theorem i8_isLeast_33 : ILi cX8_isLeast 33 34 3 := Or.inl ⟨3, by decide +kernel, rfl, rfl⟩
theorem i8_isLeast_34 : IC cX8_isLeast 34 35 (-1) := ⟨by decide, Or.inl ⟨by decide +kernel, rfl⟩⟩
theorem i8_isLeast_35 : ILa cX8_isLeast 35 36 0 := Or.inl ⟨0, by decide +kernel, rfl, rfl⟩
theorem i8_isLeast_36 : IGF m8_isLeast 36 39 8 7 := ⟨22, by decide +kernel, rfl, by decide, by decide, q_802⟩
theorem i8_isLeast_39 : IC cX8_isLeast 39 40 (4) := ⟨by decide, Or.inl ⟨by decide +kernel, rfl⟩⟩
theorem i8_isLeast_40 : ILi cX8_isLeast 40 41 1 := Or.inl ⟨1, by decide +kernel, rfl, rfl⟩
theorem i8_isLeast_41 : IO cX8_isLeast 41 42 .imul := ⟨by decide +kernel, rfl⟩
theorem i8_isLeast_42 : ICV m8_isLeast 42 45 m8_isConformal := ⟨117, by decide +kernel, rfl, q_791⟩
theorem i8_isLeast_45 : IJ cX8_isLeast 45 48 52 (.ifCond .ne) := ⟨7, by decide +kernel, rfl, by decide⟩
theorem i8_isLeast_48 : IC cX8_isLeast 48 49 (1) := ⟨by decide, Or.inl ⟨by decide +kernel, rfl⟩⟩
theorem i8_isLeast_49 : IJ cX8_isLeast 49 52 53 .goto := ⟨4, by decide +kernel, rfl, by decide⟩
theorem i8_isLeast_52 : IC cX8_isLeast 52 53 (0) := ⟨by decide, Or.inl ⟨by decide +kernel, rfl⟩⟩
theorem i8_isLeast_53 : ISi cX8_isLeast 53 54 2 := Or.inl ⟨2, by decide +kernel, rfl, rfl⟩
theorem i8_isLeast_54 : II cX8_isLeast 54 57 3 (1) := ⟨by decide +kernel, by decide, rfl⟩
theorem i8_isLeast_57 : IJ cX8_isLeast 57 60 4 .goto := ⟨-53, by decide +kernel, rfl, by decide⟩
theorem i8_isLeast_60 : ILi cX8_isLeast 60 61 2 := Or.inl ⟨2, by decide +kernel, rfl, rfl⟩
theorem i8_isLeast_61 : IO cX8_isLeast 61 62 .ireturn := ⟨by decide +kernel, rfl⟩
theorem i8_configure_0 : ILi cX8_configure 0 1 1 := Or.inl ⟨1, by decide +kernel, rfl, rfl⟩
theorem i8_configure_1 : IC cX8_configure 1 2 (1) := ⟨by decide, Or.inl ⟨by decide +kernel, rfl⟩⟩
theorem i8_configure_2 : IC cX8_configure 2 3 (2) := ⟨by decide, Or.inl ⟨by decide +kernel, rfl⟩⟩
theorem i8_configure_3 : ICS m8_configure 3 6 yX8_in := ⟨56, by decide +kernel, rfl, q_863⟩
theorem i8_configure_6 : IJ cX8_configure 6 9 18 (.ifCond .eq) := ⟨12, by decide +kernel, rfl, by decide⟩
theorem i8_configure_9 : ILi cX8_configure 9 10 2 := Or.inl ⟨2, by decide +kernel, rfl, rfl⟩
theorem i8_configure_10 : IC cX8_configure 10 11 (2) := ⟨by decide, Or.inl ⟨by decide +kernel, rfl⟩⟩
theorem i8_configure_11 : IC cX8_configure 11 12 (4) := ⟨by decide, Or.inl ⟨by decide +kernel, rfl⟩⟩
theorem i8_configure_12 : ICS m8_configure 12 15 yX8_in := ⟨56, by decide +kernel, rfl, q_863⟩
theorem i8_configure_15 : IJ cX8_configure 15 18 22 (.ifCond .ne) := ⟨7, by decide +kernel, rfl, by decide⟩
theorem i8_configure_18 : IC cX8_configure 18 21 (-1001) := ⟨by decide, Or.inr (Or.inr ⟨by decide +kernel, by decide +kernel, rfl⟩)⟩
theorem i8_configure_21 : IO cX8_configure 21 22 .ireturn := ⟨by decide +kernel, rfl⟩
theorem i8_configure_22 : ILa cX8_configure 22 23 0 := Or.inl ⟨0, by decide +kernel, rfl, rfl⟩
theorem i8_configure_23 : ICV m8_configure 23 26 m8_keep := ⟨121, by decide +kernel, rfl, q_866⟩
theorem i8_configure_26 : ILa cX8_configure 26 27 0 := Or.inl ⟨0, by decide +kernel, rfl, rfl⟩
theorem i8_configure_27 : IGF m8_configure 27 30 8 0 := ⟨7, by decide +kernel, rfl, by decide, by decide, q_795⟩
theorem i8_configure_30 : IC cX8_configure 30 31 (1) := ⟨by decide, Or.inl ⟨by decide +kernel, rfl⟩⟩
theorem i8_configure_31 : IO cX8_configure 31 32 .iaload := ⟨by decide +kernel, rfl⟩
theorem i8_configure_32 : ISi cX8_configure 32 33 3 := Or.inl ⟨3, by decide +kernel, rfl, rfl⟩
theorem i8_configure_33 : ILa cX8_configure 33 34 0 := Or.inl ⟨0, by decide +kernel, rfl, rfl⟩
theorem i8_configure_34 : ILi cX8_configure 34 35 1 := Or.inl ⟨1, by decide +kernel, rfl, rfl⟩
theorem i8_configure_35 : ILi cX8_configure 35 36 2 := Or.inl ⟨2, by decide +kernel, rfl, rfl⟩
theorem i8_configure_36 : ICV m8_configure 36 39 m8_begin := ⟨52, by decide +kernel, rfl, q_737⟩
theorem i8_configure_39 : ILi cX8_configure 39 40 3 := Or.inl ⟨3, by decide +kernel, rfl, rfl⟩
theorem i8_configure_40 : IO cX8_configure 40 41 .ireturn := ⟨by decide +kernel, rfl⟩
theorem i8_isPlace_0 : ILi cX8_isPlace 0 1 1 := Or.inl ⟨1, by decide +kernel, rfl, rfl⟩
theorem i8_isPlace_1 : IC cX8_isPlace 1 2 (0) := ⟨by decide, Or.inl ⟨by decide +kernel, rfl⟩⟩
theorem i8_isPlace_2 : ILa cX8_isPlace 2 3 0 := Or.inl ⟨0, by decide +kernel, rfl, rfl⟩
theorem i8_isPlace_3 : IGF m8_isPlace 3 6 8 0 := ⟨7, by decide +kernel, rfl, by decide, by decide, q_795⟩
theorem i8_isPlace_6 : IC cX8_isPlace 6 7 (0) := ⟨by decide, Or.inl ⟨by decide +kernel, rfl⟩⟩
theorem i8_isPlace_7 : IO cX8_isPlace 7 8 .iaload := ⟨by decide +kernel, rfl⟩
theorem i8_isPlace_8 : IC cX8_isPlace 8 9 (1) := ⟨by decide, Or.inl ⟨by decide +kernel, rfl⟩⟩
theorem i8_isPlace_9 : IO cX8_isPlace 9 10 .isub := ⟨by decide +kernel, rfl⟩
theorem i8_isPlace_10 : ICS m8_isPlace 10 13 yX8_in := ⟨56, by decide +kernel, rfl, q_863⟩
theorem i8_isPlace_13 : IJ cX8_isPlace 13 16 28 (.ifCond .eq) := ⟨15, by decide +kernel, rfl, by decide⟩
theorem i8_isPlace_16 : ILa cX8_isPlace 16 17 0 := Or.inl ⟨0, by decide +kernel, rfl, rfl⟩
theorem i8_isPlace_17 : ILi cX8_isPlace 17 18 2 := Or.inl ⟨2, by decide +kernel, rfl, rfl⟩
theorem i8_isPlace_18 : ICV m8_isPlace 18 21 m8_isColumn := ⟨124, by decide +kernel, rfl, q_878⟩
theorem i8_isPlace_21 : IJ cX8_isPlace 21 24 28 (.ifCond .eq) := ⟨7, by decide +kernel, rfl, by decide⟩
theorem i8_isPlace_24 : IC cX8_isPlace 24 25 (1) := ⟨by decide, Or.inl ⟨by decide +kernel, rfl⟩⟩
theorem i8_isPlace_25 : IJ cX8_isPlace 25 28 29 .goto := ⟨4, by decide +kernel, rfl, by decide⟩
theorem i8_isPlace_28 : IC cX8_isPlace 28 29 (0) := ⟨by decide, Or.inl ⟨by decide +kernel, rfl⟩⟩
theorem i8_isPlace_29 : IO cX8_isPlace 29 30 .ireturn := ⟨by decide +kernel, rfl⟩
theorem i8_setEntry_0 : ILa cX8_setEntry 0 1 0 := Or.inl ⟨0, by decide +kernel, rfl, rfl⟩
theorem i8_setEntry_1 : ILi cX8_setEntry 1 2 1 := Or.inl ⟨1, by decide +kernel, rfl, rfl⟩
theorem i8_setEntry_2 : ILi cX8_setEntry 2 3 2 := Or.inl ⟨2, by decide +kernel, rfl, rfl⟩
theorem i8_setEntry_3 : ICV m8_setEntry 3 6 m8_isPlace := ⟨127, by decide +kernel, rfl, q_874⟩
theorem i8_setEntry_6 : IJ cX8_setEntry 6 9 18 (.ifCond .eq) := ⟨12, by decide +kernel, rfl, by decide⟩
theorem i8_setEntry_9 : ILi cX8_setEntry 9 10 3 := Or.inl ⟨3, by decide +kernel, rfl, rfl⟩
theorem i8_setEntry_10 : IC cX8_setEntry 10 11 (0) := ⟨by decide, Or.inl ⟨by decide +kernel, rfl⟩⟩
theorem i8_setEntry_11 : IC cX8_setEntry 11 12 (3) := ⟨by decide, Or.inl ⟨by decide +kernel, rfl⟩⟩
theorem i8_setEntry_12 : ICS m8_setEntry 12 15 yX8_in := ⟨56, by decide +kernel, rfl, q_863⟩
theorem i8_setEntry_15 : IJ cX8_setEntry 15 18 22 (.ifCond .ne) := ⟨7, by decide +kernel, rfl, by decide⟩
theorem i8_setEntry_18 : IC cX8_setEntry 18 21 (-1001) := ⟨by decide, Or.inr (Or.inr ⟨by decide +kernel, by decide +kernel, rfl⟩)⟩
theorem i8_setEntry_21 : IO cX8_setEntry 21 22 .ireturn := ⟨by decide +kernel, rfl⟩
theorem i8_setEntry_22 : ILa cX8_setEntry 22 23 0 := Or.inl ⟨0, by decide +kernel, rfl, rfl⟩
theorem i8_setEntry_23 : ILi cX8_setEntry 23 24 1 := Or.inl ⟨1, by decide +kernel, rfl, rfl⟩
theorem i8_setEntry_24 : ILi cX8_setEntry 24 25 2 := Or.inl ⟨2, by decide +kernel, rfl, rfl⟩
theorem i8_setEntry_25 : ICV m8_setEntry 25 28 m8_at := ⟨73, by decide +kernel, rfl, q_753⟩
theorem i8_setEntry_28 : ISi cX8_setEntry 28 30 4 := Or.inr ⟨by decide +kernel, rfl⟩
theorem i8_setEntry_30 : ILi cX8_setEntry 30 32 4 := Or.inr ⟨by decide +kernel, rfl⟩
theorem i8_setEntry_32 : ILi cX8_setEntry 32 33 3 := Or.inl ⟨3, by decide +kernel, rfl, rfl⟩
theorem i8_setEntry_33 : IJ cX8_setEntry 33 36 40 (.if_icmp .ne) := ⟨7, by decide +kernel, rfl, by decide⟩
theorem i8_setEntry_36 : IC cX8_setEntry 36 39 (-1002) := ⟨by decide, Or.inr (Or.inr ⟨by decide +kernel, by decide +kernel, rfl⟩)⟩
theorem i8_setEntry_39 : IO cX8_setEntry 39 40 .ireturn := ⟨by decide +kernel, rfl⟩
theorem i8_setEntry_40 : ILa cX8_setEntry 40 41 0 := Or.inl ⟨0, by decide +kernel, rfl, rfl⟩
theorem i8_setEntry_41 : ICV m8_setEntry 41 44 m8_keep := ⟨121, by decide +kernel, rfl, q_866⟩
theorem i8_setEntry_44 : ILa cX8_setEntry 44 45 0 := Or.inl ⟨0, by decide +kernel, rfl, rfl⟩
theorem i8_setEntry_45 : IGF m8_setEntry 45 48 8 0 := ⟨7, by decide +kernel, rfl, by decide, by decide, q_795⟩
theorem i8_setEntry_48 : IC cX8_setEntry 48 49 (2) := ⟨by decide, Or.inl ⟨by decide +kernel, rfl⟩⟩
theorem i8_setEntry_49 : IC cX8_setEntry 49 50 (4) := ⟨by decide, Or.inl ⟨by decide +kernel, rfl⟩⟩
theorem i8_setEntry_50 : ILi cX8_setEntry 50 51 1 := Or.inl ⟨1, by decide +kernel, rfl, rfl⟩
theorem i8_setEntry_51 : IO cX8_setEntry 51 52 .imul := ⟨by decide +kernel, rfl⟩
theorem i8_setEntry_52 : IO cX8_setEntry 52 53 .iadd := ⟨by decide +kernel, rfl⟩
theorem i8_setEntry_53 : ILi cX8_setEntry 53 54 2 := Or.inl ⟨2, by decide +kernel, rfl, rfl⟩
theorem i8_setEntry_54 : IO cX8_setEntry 54 55 .iadd := ⟨by decide +kernel, rfl⟩
theorem i8_setEntry_55 : ILi cX8_setEntry 55 56 3 := Or.inl ⟨3, by decide +kernel, rfl, rfl⟩
theorem i8_setEntry_56 : IO cX8_setEntry 56 57 .iastore := ⟨by decide +kernel, rfl⟩
theorem i8_setEntry_57 : ILa cX8_setEntry 57 58 0 := Or.inl ⟨0, by decide +kernel, rfl, rfl⟩
theorem i8_setEntry_58 : ICV m8_setEntry 58 61 m8_changed := ⟨64, by decide +kernel, rfl, q_741⟩
theorem i8_setEntry_61 : ILi cX8_setEntry 61 63 4 := Or.inr ⟨by decide +kernel, rfl⟩
theorem i8_setEntry_63 : IO cX8_setEntry 63 64 .ireturn := ⟨by decide +kernel, rfl⟩
theorem i8_append_0 : ILi cX8_append 0 1 1 := Or.inl ⟨1, by decide +kernel, rfl, rfl⟩
theorem i8_append_1 : IC cX8_append 1 2 (0) := ⟨by decide, Or.inl ⟨by decide +kernel, rfl⟩⟩
theorem i8_append_2 : IC cX8_append 2 5 (255) := ⟨by decide, Or.inr (Or.inr ⟨by decide +kernel, by decide +kernel, rfl⟩)⟩
theorem i8_append_5 : ICS m8_append 5 8 yX8_in := ⟨56, by decide +kernel, rfl, q_863⟩
theorem i8_append_8 : IJ cX8_append 8 11 15 (.ifCond .ne) := ⟨7, by decide +kernel, rfl, by decide⟩
theorem i8_append_11 : IC cX8_append 11 14 (-1001) := ⟨by decide, Or.inr (Or.inr ⟨by decide +kernel, by decide +kernel, rfl⟩)⟩
theorem i8_append_14 : IO cX8_append 14 15 .ireturn := ⟨by decide +kernel, rfl⟩
theorem i8_append_15 : ILa cX8_append 15 16 0 := Or.inl ⟨0, by decide +kernel, rfl, rfl⟩
theorem i8_append_16 : IGF m8_append 16 19 8 4 := ⟨131, by decide +kernel, rfl, by decide, by decide, q_799⟩
theorem i8_append_19 : IC cX8_append 19 21 (40) := ⟨by decide, Or.inr (Or.inl ⟨by decide +kernel, by decide +kernel, rfl⟩)⟩
theorem i8_append_21 : IJ cX8_append 21 24 28 (.if_icmp .ne) := ⟨7, by decide +kernel, rfl, by decide⟩
theorem i8_append_24 : IC cX8_append 24 27 (-1003) := ⟨by decide, Or.inr (Or.inr ⟨by decide +kernel, by decide +kernel, rfl⟩)⟩
theorem i8_append_27 : IO cX8_append 27 28 .ireturn := ⟨by decide +kernel, rfl⟩
theorem i8_append_28 : ILa cX8_append 28 29 0 := Or.inl ⟨0, by decide +kernel, rfl, rfl⟩
theorem i8_append_29 : IGF m8_append 29 32 8 3 := ⟨16, by decide +kernel, rfl, by decide, by decide, q_798⟩
theorem i8_append_32 : ILa cX8_append 32 33 0 := Or.inl ⟨0, by decide +kernel, rfl, rfl⟩
theorem i8_append_33 : IGF m8_append 33 36 8 4 := ⟨131, by decide +kernel, rfl, by decide, by decide, q_799⟩
theorem i8_append_36 : ILi cX8_append 36 37 1 := Or.inl ⟨1, by decide +kernel, rfl, rfl⟩
theorem i8_append_37 : IO cX8_append 37 38 .iastore := ⟨by decide +kernel, rfl⟩
theorem i8_append_38 : ILa cX8_append 38 39 0 := Or.inl ⟨0, by decide +kernel, rfl, rfl⟩
theorem i8_append_39 : IO cX8_append 39 40 .dup := ⟨by decide +kernel, rfl⟩
theorem i8_append_40 : IGF m8_append 40 43 8 4 := ⟨131, by decide +kernel, rfl, by decide, by decide, q_799⟩
theorem i8_append_43 : IC cX8_append 43 44 (1) := ⟨by decide, Or.inl ⟨by decide +kernel, rfl⟩⟩
theorem i8_append_44 : IO cX8_append 44 45 .iadd := ⟨by decide +kernel, rfl⟩
theorem i8_append_45 : IPF m8_append 45 48 8 4 := ⟨131, by decide +kernel, rfl, by decide, by decide, q_799, rfl⟩
theorem i8_append_48 : ILa cX8_append 48 49 0 := Or.inl ⟨0, by decide +kernel, rfl, rfl⟩
theorem i8_append_49 : IGF m8_append 49 52 8 4 := ⟨131, by decide +kernel, rfl, by decide, by decide, q_799⟩
theorem i8_append_52 : IO cX8_append 52 53 .ireturn := ⟨by decide +kernel, rfl⟩
theorem i8_clearText_0 : ILa cX8_clearText 0 1 0 := Or.inl ⟨0, by decide +kernel, rfl, rfl⟩
theorem i8_clearText_1 : IGF m8_clearText 1 4 8 4 := ⟨131, by decide +kernel, rfl, by decide, by decide, q_799⟩
theorem i8_clearText_4 : ISi cX8_clearText 4 5 1 := Or.inl ⟨1, by decide +kernel, rfl, rfl⟩
theorem i8_clearText_5 : ILa cX8_clearText 5 6 0 := Or.inl ⟨0, by decide +kernel, rfl, rfl⟩
theorem i8_clearText_6 : IC cX8_clearText 6 7 (0) := ⟨by decide, Or.inl ⟨by decide +kernel, rfl⟩⟩
theorem i8_clearText_7 : IPF m8_clearText 7 10 8 4 := ⟨131, by decide +kernel, rfl, by decide, by decide, q_799, rfl⟩
theorem i8_clearText_10 : ILi cX8_clearText 10 11 1 := Or.inl ⟨1, by decide +kernel, rfl, rfl⟩
theorem i8_clearText_11 : IO cX8_clearText 11 12 .ireturn := ⟨by decide +kernel, rfl⟩
theorem i8_readsCharacter_0 : ILa cX8_readsCharacter 0 1 0 := Or.inl ⟨0, by decide +kernel, rfl, rfl⟩
theorem i8_readsCharacter_1 : IGF m8_readsCharacter 1 4 8 10 := ⟨134, by decide +kernel, rfl, by decide, by decide, q_805⟩
theorem i8_readsCharacter_4 : IC cX8_readsCharacter 4 5 (1) := ⟨by decide, Or.inl ⟨by decide +kernel, rfl⟩⟩
theorem i8_readsCharacter_5 : IO cX8_readsCharacter 5 6 .isub := ⟨by decide +kernel, rfl⟩
theorem i8_readsCharacter_6 : ISi cX8_readsCharacter 6 7 2 := Or.inl ⟨2, by decide +kernel, rfl, rfl⟩
theorem i8_readsCharacter_7 : ILi cX8_readsCharacter 7 8 2 := Or.inl ⟨2, by decide +kernel, rfl, rfl⟩
theorem i8_readsCharacter_8 : IJ cX8_readsCharacter 8 11 15 (.ifCond .ne) := ⟨7, by decide +kernel, rfl, by decide⟩
theorem i8_readsCharacter_11 : IC cX8_readsCharacter 11 12 (4) := ⟨by decide, Or.inl ⟨by decide +kernel, rfl⟩⟩
theorem i8_readsCharacter_12 : IJ cX8_readsCharacter 12 15 21 .goto := ⟨9, by decide +kernel, rfl, by decide⟩
theorem i8_readsCharacter_15 : ILa cX8_readsCharacter 15 16 0 := Or.inl ⟨0, by decide +kernel, rfl, rfl⟩
theorem i8_readsCharacter_16 : IGF m8_readsCharacter 16 19 8 11 := ⟨28, by decide +kernel, rfl, by decide, by decide, q_806⟩
theorem i8_readsCharacter_19 : IC cX8_readsCharacter 19 20 (0) := ⟨by decide, Or.inl ⟨by decide +kernel, rfl⟩⟩
theorem i8_readsCharacter_20 : IO cX8_readsCharacter 20 21 .iaload := ⟨by decide +kernel, rfl⟩
theorem i8_readsCharacter_21 : ISi cX8_readsCharacter 21 22 3 := Or.inl ⟨3, by decide +kernel, rfl, rfl⟩
theorem i8_readsCharacter_22 : ILi cX8_readsCharacter 22 23 1 := Or.inl ⟨1, by decide +kernel, rfl, rfl⟩
theorem i8_readsCharacter_23 : IC cX8_readsCharacter 23 25 (48) := ⟨by decide, Or.inr (Or.inl ⟨by decide +kernel, by decide +kernel, rfl⟩)⟩
theorem i8_readsCharacter_25 : IC cX8_readsCharacter 25 27 (51) := ⟨by decide, Or.inr (Or.inl ⟨by decide +kernel, by decide +kernel, rfl⟩)⟩
theorem i8_readsCharacter_27 : ICS m8_readsCharacter 27 30 yX8_in := ⟨56, by decide +kernel, rfl, q_863⟩
theorem i8_readsCharacter_30 : IJ cX8_readsCharacter 30 33 74 (.ifCond .eq) := ⟨44, by decide +kernel, rfl, by decide⟩
theorem i8_readsCharacter_33 : ILa cX8_readsCharacter 33 34 0 := Or.inl ⟨0, by decide +kernel, rfl, rfl⟩
theorem i8_readsCharacter_34 : IGF m8_readsCharacter 34 37 8 11 := ⟨28, by decide +kernel, rfl, by decide, by decide, q_806⟩
theorem i8_readsCharacter_37 : ILi cX8_readsCharacter 37 38 2 := Or.inl ⟨2, by decide +kernel, rfl, rfl⟩
theorem i8_readsCharacter_38 : IO cX8_readsCharacter 38 39 .iaload := ⟨by decide +kernel, rfl⟩
theorem i8_readsCharacter_39 : ILi cX8_readsCharacter 39 40 3 := Or.inl ⟨3, by decide +kernel, rfl, rfl⟩
theorem i8_readsCharacter_40 : IJ cX8_readsCharacter 40 43 74 (.if_icmp .ge) := ⟨34, by decide +kernel, rfl, by decide⟩
theorem i8_readsCharacter_43 : ILa cX8_readsCharacter 43 44 0 := Or.inl ⟨0, by decide +kernel, rfl, rfl⟩
theorem i8_readsCharacter_44 : IGF m8_readsCharacter 44 47 8 12 := ⟨31, by decide +kernel, rfl, by decide, by decide, q_807⟩
theorem i8_readsCharacter_47 : IC cX8_readsCharacter 47 48 (4) := ⟨by decide, Or.inl ⟨by decide +kernel, rfl⟩⟩
theorem i8_readsCharacter_48 : ILi cX8_readsCharacter 48 49 2 := Or.inl ⟨2, by decide +kernel, rfl, rfl⟩
theorem i8_readsCharacter_49 : IO cX8_readsCharacter 49 50 .imul := ⟨by decide +kernel, rfl⟩
theorem i8_readsCharacter_50 : ILa cX8_readsCharacter 50 51 0 := Or.inl ⟨0, by decide +kernel, rfl, rfl⟩
theorem i8_readsCharacter_51 : IGF m8_readsCharacter 51 54 8 11 := ⟨28, by decide +kernel, rfl, by decide, by decide, q_806⟩
theorem i8_readsCharacter_54 : ILi cX8_readsCharacter 54 55 2 := Or.inl ⟨2, by decide +kernel, rfl, rfl⟩
theorem i8_readsCharacter_55 : IO cX8_readsCharacter 55 56 .iaload := ⟨by decide +kernel, rfl⟩
theorem i8_readsCharacter_56 : IO cX8_readsCharacter 56 57 .iadd := ⟨by decide +kernel, rfl⟩
theorem i8_readsCharacter_57 : ILi cX8_readsCharacter 57 58 1 := Or.inl ⟨1, by decide +kernel, rfl, rfl⟩
theorem i8_readsCharacter_58 : IC cX8_readsCharacter 58 60 (48) := ⟨by decide, Or.inr (Or.inl ⟨by decide +kernel, by decide +kernel, rfl⟩)⟩
theorem i8_readsCharacter_60 : IO cX8_readsCharacter 60 61 .isub := ⟨by decide +kernel, rfl⟩
theorem i8_readsCharacter_61 : IO cX8_readsCharacter 61 62 .iastore := ⟨by decide +kernel, rfl⟩
theorem i8_readsCharacter_62 : ILa cX8_readsCharacter 62 63 0 := Or.inl ⟨0, by decide +kernel, rfl, rfl⟩
theorem i8_readsCharacter_63 : IGF m8_readsCharacter 63 66 8 11 := ⟨28, by decide +kernel, rfl, by decide, by decide, q_806⟩
theorem i8_readsCharacter_66 : ILi cX8_readsCharacter 66 67 2 := Or.inl ⟨2, by decide +kernel, rfl, rfl⟩
theorem i8_readsCharacter_67 : IO cX8_readsCharacter 67 68 .dup2 := ⟨by decide +kernel, rfl⟩
theorem i8_readsCharacter_68 : IO cX8_readsCharacter 68 69 .iaload := ⟨by decide +kernel, rfl⟩
theorem i8_readsCharacter_69 : IC cX8_readsCharacter 69 70 (1) := ⟨by decide, Or.inl ⟨by decide +kernel, rfl⟩⟩
theorem i8_readsCharacter_70 : IO cX8_readsCharacter 70 71 .iadd := ⟨by decide +kernel, rfl⟩
theorem i8_readsCharacter_71 : IO cX8_readsCharacter 71 72 .iastore := ⟨by decide +kernel, rfl⟩
theorem i8_readsCharacter_72 : IC cX8_readsCharacter 72 73 (1) := ⟨by decide, Or.inl ⟨by decide +kernel, rfl⟩⟩
theorem i8_readsCharacter_73 : IO cX8_readsCharacter 73 74 .ireturn := ⟨by decide +kernel, rfl⟩
theorem i8_readsCharacter_74 : ILi cX8_readsCharacter 74 75 1 := Or.inl ⟨1, by decide +kernel, rfl, rfl⟩
theorem i8_readsCharacter_75 : IC cX8_readsCharacter 75 77 (59) := ⟨by decide, Or.inr (Or.inl ⟨by decide +kernel, by decide +kernel, rfl⟩)⟩
theorem i8_readsCharacter_77 : IJ cX8_readsCharacter 77 80 101 (.if_icmp .ne) := ⟨24, by decide +kernel, rfl, by decide⟩
theorem i8_readsCharacter_80 : ILi cX8_readsCharacter 80 81 2 := Or.inl ⟨2, by decide +kernel, rfl, rfl⟩
theorem i8_readsCharacter_81 : IJ cX8_readsCharacter 81 84 101 (.ifCond .ne) := ⟨20, by decide +kernel, rfl, by decide⟩
theorem i8_readsCharacter_84 : ILa cX8_readsCharacter 84 85 0 := Or.inl ⟨0, by decide +kernel, rfl, rfl⟩
theorem i8_readsCharacter_85 : IGF m8_readsCharacter 85 88 8 11 := ⟨28, by decide +kernel, rfl, by decide, by decide, q_806⟩
theorem i8_readsCharacter_88 : IC cX8_readsCharacter 88 89 (0) := ⟨by decide, Or.inl ⟨by decide +kernel, rfl⟩⟩
theorem i8_readsCharacter_89 : IO cX8_readsCharacter 89 90 .iaload := ⟨by decide +kernel, rfl⟩
theorem i8_readsCharacter_90 : IC cX8_readsCharacter 90 91 (2) := ⟨by decide, Or.inl ⟨by decide +kernel, rfl⟩⟩
theorem i8_readsCharacter_91 : IJ cX8_readsCharacter 91 94 101 (.if_icmp .lt) := ⟨10, by decide +kernel, rfl, by decide⟩
theorem i8_readsCharacter_94 : ILa cX8_readsCharacter 94 95 0 := Or.inl ⟨0, by decide +kernel, rfl, rfl⟩
theorem i8_readsCharacter_95 : IC cX8_readsCharacter 95 96 (2) := ⟨by decide, Or.inl ⟨by decide +kernel, rfl⟩⟩
theorem i8_readsCharacter_96 : IPF m8_readsCharacter 96 99 8 10 := ⟨134, by decide +kernel, rfl, by decide, by decide, q_805, rfl⟩
theorem i8_readsCharacter_99 : IC cX8_readsCharacter 99 100 (1) := ⟨by decide, Or.inl ⟨by decide +kernel, rfl⟩⟩
theorem i8_readsCharacter_100 : IO cX8_readsCharacter 100 101 .ireturn := ⟨by decide +kernel, rfl⟩
theorem i8_readsCharacter_101 : ILi cX8_readsCharacter 101 102 1 := Or.inl ⟨1, by decide +kernel, rfl, rfl⟩
theorem i8_readsCharacter_102 : IC cX8_readsCharacter 102 104 (32) := ⟨by decide, Or.inr (Or.inl ⟨by decide +kernel, by decide +kernel, rfl⟩)⟩
theorem i8_readsCharacter_104 : IJ cX8_readsCharacter 104 107 111 (.if_icmp .ne) := ⟨7, by decide +kernel, rfl, by decide⟩
theorem i8_readsCharacter_107 : IC cX8_readsCharacter 107 108 (1) := ⟨by decide, Or.inl ⟨by decide +kernel, rfl⟩⟩
theorem i8_readsCharacter_108 : IJ cX8_readsCharacter 108 111 112 .goto := ⟨4, by decide +kernel, rfl, by decide⟩
theorem i8_readsCharacter_111 : IC cX8_readsCharacter 111 112 (0) := ⟨by decide, Or.inl ⟨by decide +kernel, rfl⟩⟩
theorem i8_readsCharacter_112 : IO cX8_readsCharacter 112 113 .ireturn := ⟨by decide +kernel, rfl⟩
theorem i8_readsText_0 : ILa cX8_readsText 0 1 0 := Or.inl ⟨0, by decide +kernel, rfl, rfl⟩
theorem i8_readsText_1 : IC cX8_readsText 1 2 (1) := ⟨by decide, Or.inl ⟨by decide +kernel, rfl⟩⟩
theorem i8_readsText_2 : IPF m8_readsText 2 5 8 10 := ⟨134, by decide +kernel, rfl, by decide, by decide, q_805, rfl⟩
theorem i8_readsText_5 : ILa cX8_readsText 5 6 0 := Or.inl ⟨0, by decide +kernel, rfl, rfl⟩
theorem i8_readsText_6 : IGF m8_readsText 6 9 8 11 := ⟨28, by decide +kernel, rfl, by decide, by decide, q_806⟩
theorem i8_readsText_9 : IC cX8_readsText 9 10 (0) := ⟨by decide, Or.inl ⟨by decide +kernel, rfl⟩⟩
theorem i8_readsText_10 : IC cX8_readsText 10 11 (0) := ⟨by decide, Or.inl ⟨by decide +kernel, rfl⟩⟩
theorem i8_readsText_11 : IO cX8_readsText 11 12 .iastore := ⟨by decide +kernel, rfl⟩
theorem i8_readsText_12 : ILa cX8_readsText 12 13 0 := Or.inl ⟨0, by decide +kernel, rfl, rfl⟩
theorem i8_readsText_13 : IGF m8_readsText 13 16 8 11 := ⟨28, by decide +kernel, rfl, by decide, by decide, q_806⟩
theorem i8_readsText_16 : IC cX8_readsText 16 17 (1) := ⟨by decide, Or.inl ⟨by decide +kernel, rfl⟩⟩
theorem i8_readsText_17 : IC cX8_readsText 17 18 (0) := ⟨by decide, Or.inl ⟨by decide +kernel, rfl⟩⟩
theorem i8_readsText_18 : IO cX8_readsText 18 19 .iastore := ⟨by decide +kernel, rfl⟩
theorem i8_readsText_19 : IC cX8_readsText 19 20 (0) := ⟨by decide, Or.inl ⟨by decide +kernel, rfl⟩⟩
theorem i8_readsText_20 : ISi cX8_readsText 20 21 1 := Or.inl ⟨1, by decide +kernel, rfl, rfl⟩
theorem i8_readsText_21 : ILi cX8_readsText 21 22 1 := Or.inl ⟨1, by decide +kernel, rfl, rfl⟩
theorem i8_readsText_22 : ILa cX8_readsText 22 23 0 := Or.inl ⟨0, by decide +kernel, rfl, rfl⟩
theorem i8_readsText_23 : IGF m8_readsText 23 26 8 4 := ⟨131, by decide +kernel, rfl, by decide, by decide, q_799⟩
theorem i8_readsText_26 : IJ cX8_readsText 26 29 50 (.if_icmp .ge) := ⟨24, by decide +kernel, rfl, by decide⟩
theorem i8_readsText_29 : ILa cX8_readsText 29 30 0 := Or.inl ⟨0, by decide +kernel, rfl, rfl⟩
theorem i8_readsText_30 : ILa cX8_readsText 30 31 0 := Or.inl ⟨0, by decide +kernel, rfl, rfl⟩
theorem i8_readsText_31 : IGF m8_readsText 31 34 8 3 := ⟨16, by decide +kernel, rfl, by decide, by decide, q_798⟩
theorem i8_readsText_34 : ILi cX8_readsText 34 35 1 := Or.inl ⟨1, by decide +kernel, rfl, rfl⟩
theorem i8_readsText_35 : IO cX8_readsText 35 36 .iaload := ⟨by decide +kernel, rfl⟩
theorem i8_readsText_36 : ICV m8_readsText 36 39 m8_readsCharacter := ⟨137, by decide +kernel, rfl, q_898⟩
theorem i8_readsText_39 : IJ cX8_readsText 39 42 44 (.ifCond .ne) := ⟨5, by decide +kernel, rfl, by decide⟩
theorem i8_readsText_42 : ILi cX8_readsText 42 43 1 := Or.inl ⟨1, by decide +kernel, rfl, rfl⟩
theorem i8_readsText_43 : IO cX8_readsText 43 44 .ireturn := ⟨by decide +kernel, rfl⟩
theorem i8_readsText_44 : II cX8_readsText 44 47 1 (1) := ⟨by decide +kernel, by decide, rfl⟩
theorem i8_readsText_47 : IJ cX8_readsText 47 50 21 .goto := ⟨-26, by decide +kernel, rfl, by decide⟩
theorem i8_readsText_50 : ILa cX8_readsText 50 51 0 := Or.inl ⟨0, by decide +kernel, rfl, rfl⟩
theorem i8_readsText_51 : IGF m8_readsText 51 54 8 11 := ⟨28, by decide +kernel, rfl, by decide, by decide, q_806⟩
theorem i8_readsText_54 : IC cX8_readsText 54 55 (0) := ⟨by decide, Or.inl ⟨by decide +kernel, rfl⟩⟩
theorem i8_readsText_55 : IO cX8_readsText 55 56 .iaload := ⟨by decide +kernel, rfl⟩
theorem i8_readsText_56 : IC cX8_readsText 56 57 (2) := ⟨by decide, Or.inl ⟨by decide +kernel, rfl⟩⟩
theorem i8_readsText_57 : IJ cX8_readsText 57 60 83 (.if_icmp .lt) := ⟨26, by decide +kernel, rfl, by decide⟩
theorem i8_readsText_60 : ILa cX8_readsText 60 61 0 := Or.inl ⟨0, by decide +kernel, rfl, rfl⟩
theorem i8_readsText_61 : IGF m8_readsText 61 64 8 10 := ⟨134, by decide +kernel, rfl, by decide, by decide, q_805⟩
theorem i8_readsText_64 : IC cX8_readsText 64 65 (2) := ⟨by decide, Or.inl ⟨by decide +kernel, rfl⟩⟩
theorem i8_readsText_65 : IJ cX8_readsText 65 68 90 (.if_icmp .ne) := ⟨25, by decide +kernel, rfl, by decide⟩
theorem i8_readsText_68 : ILa cX8_readsText 68 69 0 := Or.inl ⟨0, by decide +kernel, rfl, rfl⟩
theorem i8_readsText_69 : IGF m8_readsText 69 72 8 11 := ⟨28, by decide +kernel, rfl, by decide, by decide, q_806⟩
theorem i8_readsText_72 : IC cX8_readsText 72 73 (1) := ⟨by decide, Or.inl ⟨by decide +kernel, rfl⟩⟩
theorem i8_readsText_73 : IO cX8_readsText 73 74 .iaload := ⟨by decide +kernel, rfl⟩
theorem i8_readsText_74 : ILa cX8_readsText 74 75 0 := Or.inl ⟨0, by decide +kernel, rfl, rfl⟩
theorem i8_readsText_75 : IGF m8_readsText 75 78 8 11 := ⟨28, by decide +kernel, rfl, by decide, by decide, q_806⟩
theorem i8_readsText_78 : IC cX8_readsText 78 79 (0) := ⟨by decide, Or.inl ⟨by decide +kernel, rfl⟩⟩
theorem i8_readsText_79 : IO cX8_readsText 79 80 .iaload := ⟨by decide +kernel, rfl⟩
theorem i8_readsText_80 : IJ cX8_readsText 80 83 90 (.if_icmp .ge) := ⟨10, by decide +kernel, rfl, by decide⟩
theorem i8_readsText_83 : ILa cX8_readsText 83 84 0 := Or.inl ⟨0, by decide +kernel, rfl, rfl⟩
theorem i8_readsText_84 : IGF m8_readsText 84 87 8 4 := ⟨131, by decide +kernel, rfl, by decide, by decide, q_799⟩
theorem i8_readsText_87 : IJ cX8_readsText 87 90 93 .goto := ⟨6, by decide +kernel, rfl, by decide⟩
theorem i8_readsText_90 : IC cX8_readsText 90 93 (-1009) := ⟨by decide, Or.inr (Or.inr ⟨by decide +kernel, by decide +kernel, rfl⟩)⟩
theorem i8_readsText_93 : IO cX8_readsText 93 94 .ireturn := ⟨by decide +kernel, rfl⟩
theorem i8_loadText_0 : ILa cX8_loadText 0 1 0 := Or.inl ⟨0, by decide +kernel, rfl, rfl⟩
theorem i8_loadText_1 : ICV m8_loadText 1 4 m8_readsText := ⟨140, by decide +kernel, rfl, q_894⟩
theorem i8_loadText_4 : ISi cX8_loadText 4 5 1 := Or.inl ⟨1, by decide +kernel, rfl, rfl⟩
theorem i8_loadText_5 : ILi cX8_loadText 5 6 1 := Or.inl ⟨1, by decide +kernel, rfl, rfl⟩
theorem i8_loadText_6 : IC cX8_loadText 6 9 (-1009) := ⟨by decide, Or.inr (Or.inr ⟨by decide +kernel, by decide +kernel, rfl⟩)⟩
theorem i8_loadText_9 : IJ cX8_loadText 9 12 17 (.if_icmp .eq) := ⟨8, by decide +kernel, rfl, by decide⟩
theorem i8_loadText_12 : IC cX8_loadText 12 14 (-10) := ⟨by decide, Or.inr (Or.inl ⟨by decide +kernel, by decide +kernel, rfl⟩)⟩
theorem i8_loadText_14 : ILi cX8_loadText 14 15 1 := Or.inl ⟨1, by decide +kernel, rfl, rfl⟩
theorem i8_loadText_15 : IO cX8_loadText 15 16 .isub := ⟨by decide +kernel, rfl⟩
theorem i8_loadText_16 : IO cX8_loadText 16 17 .ireturn := ⟨by decide +kernel, rfl⟩
theorem i8_loadText_17 : ILa cX8_loadText 17 18 0 := Or.inl ⟨0, by decide +kernel, rfl, rfl⟩
theorem i8_loadText_18 : ICV m8_loadText 18 21 m8_keep := ⟨121, by decide +kernel, rfl, q_866⟩
theorem i8_loadText_21 : ILa cX8_loadText 21 22 0 := Or.inl ⟨0, by decide +kernel, rfl, rfl⟩
theorem i8_loadText_22 : ILa cX8_loadText 22 23 0 := Or.inl ⟨0, by decide +kernel, rfl, rfl⟩
theorem i8_loadText_23 : IGF m8_loadText 23 26 8 10 := ⟨134, by decide +kernel, rfl, by decide, by decide, q_805⟩
theorem i8_loadText_26 : ILa cX8_loadText 26 27 0 := Or.inl ⟨0, by decide +kernel, rfl, rfl⟩
theorem i8_loadText_27 : IGF m8_loadText 27 30 8 11 := ⟨28, by decide +kernel, rfl, by decide, by decide, q_806⟩
theorem i8_loadText_30 : IC cX8_loadText 30 31 (0) := ⟨by decide, Or.inl ⟨by decide +kernel, rfl⟩⟩
theorem i8_loadText_31 : IO cX8_loadText 31 32 .iaload := ⟨by decide +kernel, rfl⟩
theorem i8_loadText_32 : ICV m8_loadText 32 35 m8_begin := ⟨52, by decide +kernel, rfl, q_737⟩
theorem i8_loadText_35 : IC cX8_loadText 35 36 (0) := ⟨by decide, Or.inl ⟨by decide +kernel, rfl⟩⟩
theorem i8_loadText_36 : ISi cX8_loadText 36 37 2 := Or.inl ⟨2, by decide +kernel, rfl, rfl⟩
theorem i8_loadText_37 : ILi cX8_loadText 37 38 2 := Or.inl ⟨2, by decide +kernel, rfl, rfl⟩
theorem i8_loadText_38 : IC cX8_loadText 38 39 (4) := ⟨by decide, Or.inl ⟨by decide +kernel, rfl⟩⟩
theorem i8_loadText_39 : ILa cX8_loadText 39 40 0 := Or.inl ⟨0, by decide +kernel, rfl, rfl⟩
theorem i8_loadText_40 : IGF m8_loadText 40 43 8 10 := ⟨134, by decide +kernel, rfl, by decide, by decide, q_805⟩
theorem i8_loadText_43 : IO cX8_loadText 43 44 .imul := ⟨by decide +kernel, rfl⟩
theorem i8_loadText_44 : IJ cX8_loadText 44 47 83 (.if_icmp .ge) := ⟨39, by decide +kernel, rfl, by decide⟩
theorem i8_loadText_47 : ILa cX8_loadText 47 48 0 := Or.inl ⟨0, by decide +kernel, rfl, rfl⟩
theorem i8_loadText_48 : IGF m8_loadText 48 51 8 0 := ⟨7, by decide +kernel, rfl, by decide, by decide, q_795⟩
theorem i8_loadText_51 : IC cX8_loadText 51 52 (2) := ⟨by decide, Or.inl ⟨by decide +kernel, rfl⟩⟩
theorem i8_loadText_52 : ILi cX8_loadText 52 53 2 := Or.inl ⟨2, by decide +kernel, rfl, rfl⟩
theorem i8_loadText_53 : IO cX8_loadText 53 54 .iadd := ⟨by decide +kernel, rfl⟩
theorem i8_loadText_54 : ILi cX8_loadText 54 55 2 := Or.inl ⟨2, by decide +kernel, rfl, rfl⟩
theorem i8_loadText_55 : IC cX8_loadText 55 56 (4) := ⟨by decide, Or.inl ⟨by decide +kernel, rfl⟩⟩
theorem i8_loadText_56 : IO cX8_loadText 56 57 .irem := ⟨by decide +kernel, rfl⟩
theorem i8_loadText_57 : ILa cX8_loadText 57 58 0 := Or.inl ⟨0, by decide +kernel, rfl, rfl⟩
theorem i8_loadText_58 : IGF m8_loadText 58 61 8 11 := ⟨28, by decide +kernel, rfl, by decide, by decide, q_806⟩
theorem i8_loadText_61 : IC cX8_loadText 61 62 (0) := ⟨by decide, Or.inl ⟨by decide +kernel, rfl⟩⟩
theorem i8_loadText_62 : IO cX8_loadText 62 63 .iaload := ⟨by decide +kernel, rfl⟩
theorem i8_loadText_63 : IJ cX8_loadText 63 66 75 (.if_icmp .ge) := ⟨12, by decide +kernel, rfl, by decide⟩
theorem i8_loadText_66 : ILa cX8_loadText 66 67 0 := Or.inl ⟨0, by decide +kernel, rfl, rfl⟩
theorem i8_loadText_67 : IGF m8_loadText 67 70 8 12 := ⟨31, by decide +kernel, rfl, by decide, by decide, q_807⟩
theorem i8_loadText_70 : ILi cX8_loadText 70 71 2 := Or.inl ⟨2, by decide +kernel, rfl, rfl⟩
theorem i8_loadText_71 : IO cX8_loadText 71 72 .iaload := ⟨by decide +kernel, rfl⟩
theorem i8_loadText_72 : IJ cX8_loadText 72 75 76 .goto := ⟨4, by decide +kernel, rfl, by decide⟩
theorem i8_loadText_75 : IC cX8_loadText 75 76 (0) := ⟨by decide, Or.inl ⟨by decide +kernel, rfl⟩⟩
theorem i8_loadText_76 : IO cX8_loadText 76 77 .iastore := ⟨by decide +kernel, rfl⟩
theorem i8_loadText_77 : II cX8_loadText 77 80 2 (1) := ⟨by decide +kernel, by decide, rfl⟩
theorem i8_loadText_80 : IJ cX8_loadText 80 83 37 .goto := ⟨-43, by decide +kernel, rfl, by decide⟩
theorem i8_loadText_83 : ILa cX8_loadText 83 84 0 := Or.inl ⟨0, by decide +kernel, rfl, rfl⟩
theorem i8_loadText_84 : ICV m8_loadText 84 87 m8_changed := ⟨64, by decide +kernel, rfl, q_741⟩
theorem i8_loadText_87 : ILa cX8_loadText 87 88 0 := Or.inl ⟨0, by decide +kernel, rfl, rfl⟩
theorem i8_loadText_88 : IC cX8_loadText 88 89 (0) := ⟨by decide, Or.inl ⟨by decide +kernel, rfl⟩⟩
theorem i8_loadText_89 : IPF m8_loadText 89 92 8 4 := ⟨131, by decide +kernel, rfl, by decide, by decide, q_799, rfl⟩
theorem i8_loadText_92 : ILa cX8_loadText 92 93 0 := Or.inl ⟨0, by decide +kernel, rfl, rfl⟩
theorem i8_loadText_93 : IGF m8_loadText 93 96 8 10 := ⟨134, by decide +kernel, rfl, by decide, by decide, q_805⟩
theorem i8_loadText_96 : IO cX8_loadText 96 97 .ireturn := ⟨by decide +kernel, rfl⟩
theorem i8_entry_0 : ILa cX8_entry 0 1 0 := Or.inl ⟨0, by decide +kernel, rfl, rfl⟩
theorem i8_entry_1 : ILi cX8_entry 1 2 1 := Or.inl ⟨1, by decide +kernel, rfl, rfl⟩
theorem i8_entry_2 : ILi cX8_entry 2 3 2 := Or.inl ⟨2, by decide +kernel, rfl, rfl⟩
theorem i8_entry_3 : ICV m8_entry 3 6 m8_isPlace := ⟨127, by decide +kernel, rfl, q_874⟩
theorem i8_entry_6 : IJ cX8_entry 6 9 18 (.ifCond .eq) := ⟨12, by decide +kernel, rfl, by decide⟩
theorem i8_entry_9 : ILa cX8_entry 9 10 0 := Or.inl ⟨0, by decide +kernel, rfl, rfl⟩
theorem i8_entry_10 : ILi cX8_entry 10 11 1 := Or.inl ⟨1, by decide +kernel, rfl, rfl⟩
theorem i8_entry_11 : ILi cX8_entry 11 12 2 := Or.inl ⟨2, by decide +kernel, rfl, rfl⟩
theorem i8_entry_12 : ICV m8_entry 12 15 m8_at := ⟨73, by decide +kernel, rfl, q_753⟩
theorem i8_entry_15 : IJ cX8_entry 15 18 21 .goto := ⟨6, by decide +kernel, rfl, by decide⟩
theorem i8_entry_18 : IC cX8_entry 18 21 (-1001) := ⟨by decide, Or.inr (Or.inr ⟨by decide +kernel, by decide +kernel, rfl⟩)⟩
theorem i8_entry_21 : IO cX8_entry 21 22 .ireturn := ⟨by decide +kernel, rfl⟩
theorem i8_rank_0 : ILa cX8_rank 0 1 0 := Or.inl ⟨0, by decide +kernel, rfl, rfl⟩
theorem i8_rank_1 : ICV m8_rank 1 4 m8_rankOf := ⟨102, by decide +kernel, rfl, q_749⟩
theorem i8_rank_4 : IO cX8_rank 4 5 .ireturn := ⟨by decide +kernel, rfl⟩
theorem i8_isAllPositive_0 : IC cX8_isAllPositive 0 1 (1) := ⟨by decide, Or.inl ⟨by decide +kernel, rfl⟩⟩
theorem i8_isAllPositive_1 : ISi cX8_isAllPositive 1 2 1 := Or.inl ⟨1, by decide +kernel, rfl, rfl⟩
theorem i8_isAllPositive_2 : IC cX8_isAllPositive 2 3 (0) := ⟨by decide, Or.inl ⟨by decide +kernel, rfl⟩⟩
theorem i8_isAllPositive_3 : ISi cX8_isAllPositive 3 4 2 := Or.inl ⟨2, by decide +kernel, rfl, rfl⟩
theorem i8_isAllPositive_4 : ILi cX8_isAllPositive 4 5 2 := Or.inl ⟨2, by decide +kernel, rfl, rfl⟩
theorem i8_isAllPositive_5 : ILa cX8_isAllPositive 5 6 0 := Or.inl ⟨0, by decide +kernel, rfl, rfl⟩
theorem i8_isAllPositive_6 : IGF m8_isAllPositive 6 9 8 0 := ⟨7, by decide +kernel, rfl, by decide, by decide, q_795⟩
theorem i8_isAllPositive_9 : IC cX8_isAllPositive 9 10 (1) := ⟨by decide, Or.inl ⟨by decide +kernel, rfl⟩⟩
theorem i8_isAllPositive_10 : IO cX8_isAllPositive 10 11 .iaload := ⟨by decide +kernel, rfl⟩
theorem i8_isAllPositive_11 : IJ cX8_isAllPositive 11 14 38 (.if_icmp .ge) := ⟨27, by decide +kernel, rfl, by decide⟩
theorem i8_isAllPositive_14 : ILi cX8_isAllPositive 14 15 1 := Or.inl ⟨1, by decide +kernel, rfl, rfl⟩
theorem i8_isAllPositive_15 : IJ cX8_isAllPositive 15 18 30 (.ifCond .eq) := ⟨15, by decide +kernel, rfl, by decide⟩
theorem i8_isAllPositive_18 : ILa cX8_isAllPositive 18 19 0 := Or.inl ⟨0, by decide +kernel, rfl, rfl⟩
theorem i8_isAllPositive_19 : ILi cX8_isAllPositive 19 20 2 := Or.inl ⟨2, by decide +kernel, rfl, rfl⟩
theorem i8_isAllPositive_20 : ICV m8_isAllPositive 20 23 m8_isZeroColumn := ⟨98, by decide +kernel, rfl, q_780⟩
theorem i8_isAllPositive_23 : IJ cX8_isAllPositive 23 26 30 (.ifCond .ne) := ⟨7, by decide +kernel, rfl, by decide⟩
theorem i8_isAllPositive_26 : IC cX8_isAllPositive 26 27 (1) := ⟨by decide, Or.inl ⟨by decide +kernel, rfl⟩⟩
theorem i8_isAllPositive_27 : IJ cX8_isAllPositive 27 30 31 .goto := ⟨4, by decide +kernel, rfl, by decide⟩
theorem i8_isAllPositive_30 : IC cX8_isAllPositive 30 31 (0) := ⟨by decide, Or.inl ⟨by decide +kernel, rfl⟩⟩
theorem i8_isAllPositive_31 : ISi cX8_isAllPositive 31 32 1 := Or.inl ⟨1, by decide +kernel, rfl, rfl⟩
theorem i8_isAllPositive_32 : II cX8_isAllPositive 32 35 2 (1) := ⟨by decide +kernel, by decide, rfl⟩
theorem i8_isAllPositive_35 : IJ cX8_isAllPositive 35 38 4 .goto := ⟨-31, by decide +kernel, rfl, by decide⟩
theorem i8_isAllPositive_38 : ILi cX8_isAllPositive 38 39 1 := Or.inl ⟨1, by decide +kernel, rfl, rfl⟩
theorem i8_isAllPositive_39 : IO cX8_isAllPositive 39 40 .ireturn := ⟨by decide +kernel, rfl⟩
theorem i8_isPositive_0 : ILa cX8_isPositive 0 1 0 := Or.inl ⟨0, by decide +kernel, rfl, rfl⟩
theorem i8_isPositive_1 : ICV m8_isPositive 1 4 m8_isAllPositive := ⟨143, by decide +kernel, rfl, q_914⟩
theorem i8_isPositive_4 : IJ cX8_isPositive 4 7 11 (.ifCond .eq) := ⟨7, by decide +kernel, rfl, by decide⟩
theorem i8_isPositive_7 : IC cX8_isPositive 7 8 (1) := ⟨by decide, Or.inl ⟨by decide +kernel, rfl⟩⟩
theorem i8_isPositive_8 : IJ cX8_isPositive 8 11 12 .goto := ⟨4, by decide +kernel, rfl, by decide⟩
theorem i8_isPositive_11 : IC cX8_isPositive 11 12 (0) := ⟨by decide, Or.inl ⟨by decide +kernel, rfl⟩⟩
theorem i8_isPositive_12 : IO cX8_isPositive 12 13 .ireturn := ⟨by decide +kernel, rfl⟩
theorem i8_isElement_0 : ILi cX8_isElement 0 1 1 := Or.inl ⟨1, by decide +kernel, rfl, rfl⟩
theorem i8_isElement_1 : IC cX8_isElement 1 2 (0) := ⟨by decide, Or.inl ⟨by decide +kernel, rfl⟩⟩
theorem i8_isElement_2 : ILa cX8_isElement 2 3 0 := Or.inl ⟨0, by decide +kernel, rfl, rfl⟩
theorem i8_isElement_3 : IGF m8_isElement 3 6 8 5 := ⟨70, by decide +kernel, rfl, by decide, by decide, q_800⟩
theorem i8_isElement_6 : IC cX8_isElement 6 7 (1) := ⟨by decide, Or.inl ⟨by decide +kernel, rfl⟩⟩
theorem i8_isElement_7 : IO cX8_isElement 7 8 .isub := ⟨by decide +kernel, rfl⟩
theorem i8_isElement_8 : ICS m8_isElement 8 11 yX8_in := ⟨56, by decide +kernel, rfl, q_863⟩
theorem i8_isElement_11 : IO cX8_isElement 11 12 .ireturn := ⟨by decide +kernel, rfl⟩
theorem i8_graverCount_0 : ILa cX8_graverCount 0 1 0 := Or.inl ⟨0, by decide +kernel, rfl, rfl⟩
theorem i8_graverCount_1 : IGF m8_graverCount 1 4 8 5 := ⟨70, by decide +kernel, rfl, by decide, by decide, q_800⟩
theorem i8_graverCount_4 : IO cX8_graverCount 4 5 .ireturn := ⟨by decide +kernel, rfl⟩
theorem i8_graverEntry_0 : ILa cX8_graverEntry 0 1 0 := Or.inl ⟨0, by decide +kernel, rfl, rfl⟩
theorem i8_graverEntry_1 : ILi cX8_graverEntry 1 2 1 := Or.inl ⟨1, by decide +kernel, rfl, rfl⟩
theorem i8_graverEntry_2 : ICV m8_graverEntry 2 5 m8_isElement := ⟨146, by decide +kernel, rfl, q_926⟩
theorem i8_graverEntry_5 : IJ cX8_graverEntry 5 8 29 (.ifCond .eq) := ⟨24, by decide +kernel, rfl, by decide⟩
theorem i8_graverEntry_8 : ILa cX8_graverEntry 8 9 0 := Or.inl ⟨0, by decide +kernel, rfl, rfl⟩
theorem i8_graverEntry_9 : ILi cX8_graverEntry 9 10 2 := Or.inl ⟨2, by decide +kernel, rfl, rfl⟩
theorem i8_graverEntry_10 : ICV m8_graverEntry 10 13 m8_isColumn := ⟨124, by decide +kernel, rfl, q_878⟩
theorem i8_graverEntry_13 : IJ cX8_graverEntry 13 16 29 (.ifCond .eq) := ⟨16, by decide +kernel, rfl, by decide⟩
theorem i8_graverEntry_16 : ILa cX8_graverEntry 16 17 0 := Or.inl ⟨0, by decide +kernel, rfl, rfl⟩
theorem i8_graverEntry_17 : IGF m8_graverEntry 17 20 8 6 := ⟨19, by decide +kernel, rfl, by decide, by decide, q_801⟩
theorem i8_graverEntry_20 : IC cX8_graverEntry 20 21 (4) := ⟨by decide, Or.inl ⟨by decide +kernel, rfl⟩⟩
theorem i8_graverEntry_21 : ILi cX8_graverEntry 21 22 1 := Or.inl ⟨1, by decide +kernel, rfl, rfl⟩
theorem i8_graverEntry_22 : IO cX8_graverEntry 22 23 .imul := ⟨by decide +kernel, rfl⟩
theorem i8_graverEntry_23 : ILi cX8_graverEntry 23 24 2 := Or.inl ⟨2, by decide +kernel, rfl, rfl⟩
theorem i8_graverEntry_24 : IO cX8_graverEntry 24 25 .iadd := ⟨by decide +kernel, rfl⟩
theorem i8_graverEntry_25 : IO cX8_graverEntry 25 26 .iaload := ⟨by decide +kernel, rfl⟩
theorem i8_graverEntry_26 : IJ cX8_graverEntry 26 29 32 .goto := ⟨6, by decide +kernel, rfl, by decide⟩
theorem i8_graverEntry_29 : IC cX8_graverEntry 29 32 (-1001) := ⟨by decide, Or.inr (Or.inr ⟨by decide +kernel, by decide +kernel, rfl⟩)⟩
theorem i8_graverEntry_32 : IO cX8_graverEntry 32 33 .ireturn := ⟨by decide +kernel, rfl⟩
theorem i8_support_0 : IC cX8_support 0 1 (0) := ⟨by decide, Or.inl ⟨by decide +kernel, rfl⟩⟩
theorem i8_support_1 : ISi cX8_support 1 2 2 := Or.inl ⟨2, by decide +kernel, rfl, rfl⟩
theorem i8_support_2 : IC cX8_support 2 3 (0) := ⟨by decide, Or.inl ⟨by decide +kernel, rfl⟩⟩
theorem i8_support_3 : ISi cX8_support 3 4 3 := Or.inl ⟨3, by decide +kernel, rfl, rfl⟩
theorem i8_support_4 : ILi cX8_support 4 5 3 := Or.inl ⟨3, by decide +kernel, rfl, rfl⟩
theorem i8_support_5 : IC cX8_support 5 6 (4) := ⟨by decide, Or.inl ⟨by decide +kernel, rfl⟩⟩
theorem i8_support_6 : IJ cX8_support 6 9 38 (.if_icmp .ge) := ⟨32, by decide +kernel, rfl, by decide⟩
theorem i8_support_9 : ILi cX8_support 9 10 2 := Or.inl ⟨2, by decide +kernel, rfl, rfl⟩
theorem i8_support_10 : ILa cX8_support 10 11 0 := Or.inl ⟨0, by decide +kernel, rfl, rfl⟩
theorem i8_support_11 : IGF m8_support 11 14 8 6 := ⟨19, by decide +kernel, rfl, by decide, by decide, q_801⟩
theorem i8_support_14 : IC cX8_support 14 15 (4) := ⟨by decide, Or.inl ⟨by decide +kernel, rfl⟩⟩
theorem i8_support_15 : ILi cX8_support 15 16 1 := Or.inl ⟨1, by decide +kernel, rfl, rfl⟩
theorem i8_support_16 : IO cX8_support 16 17 .imul := ⟨by decide +kernel, rfl⟩
theorem i8_support_17 : ILi cX8_support 17 18 3 := Or.inl ⟨3, by decide +kernel, rfl, rfl⟩
theorem i8_support_18 : IO cX8_support 18 19 .iadd := ⟨by decide +kernel, rfl⟩
theorem i8_support_19 : IO cX8_support 19 20 .iaload := ⟨by decide +kernel, rfl⟩
theorem i8_support_20 : IJ cX8_support 20 23 29 (.ifCond .eq) := ⟨9, by decide +kernel, rfl, by decide⟩
theorem i8_support_23 : IC cX8_support 23 24 (1) := ⟨by decide, Or.inl ⟨by decide +kernel, rfl⟩⟩
theorem i8_support_24 : ILi cX8_support 24 25 3 := Or.inl ⟨3, by decide +kernel, rfl, rfl⟩
theorem i8_support_25 : IO cX8_support 25 26 .ishl := ⟨by decide +kernel, rfl⟩
theorem i8_support_26 : IJ cX8_support 26 29 30 .goto := ⟨4, by decide +kernel, rfl, by decide⟩
theorem i8_support_29 : IC cX8_support 29 30 (0) := ⟨by decide, Or.inl ⟨by decide +kernel, rfl⟩⟩
theorem i8_support_30 : IO cX8_support 30 31 .ior := ⟨by decide +kernel, rfl⟩
theorem i8_support_31 : ISi cX8_support 31 32 2 := Or.inl ⟨2, by decide +kernel, rfl, rfl⟩
theorem i8_support_32 : II cX8_support 32 35 3 (1) := ⟨by decide +kernel, by decide, rfl⟩
theorem i8_support_35 : IJ cX8_support 35 38 4 .goto := ⟨-31, by decide +kernel, rfl, by decide⟩
theorem i8_support_38 : ILi cX8_support 38 39 2 := Or.inl ⟨2, by decide +kernel, rfl, rfl⟩
theorem i8_support_39 : IO cX8_support 39 40 .ireturn := ⟨by decide +kernel, rfl⟩
theorem i8_isCircuit_0 : ILa cX8_isCircuit 0 1 0 := Or.inl ⟨0, by decide +kernel, rfl, rfl⟩
theorem i8_isCircuit_1 : ILi cX8_isCircuit 1 2 1 := Or.inl ⟨1, by decide +kernel, rfl, rfl⟩
theorem i8_isCircuit_2 : ICV m8_isCircuit 2 5 m8_isElement := ⟨146, by decide +kernel, rfl, q_926⟩
theorem i8_isCircuit_5 : IJ cX8_isCircuit 5 8 12 (.ifCond .ne) := ⟨7, by decide +kernel, rfl, by decide⟩
theorem i8_isCircuit_8 : IC cX8_isCircuit 8 11 (-1001) := ⟨by decide, Or.inr (Or.inr ⟨by decide +kernel, by decide +kernel, rfl⟩)⟩
theorem i8_isCircuit_11 : IO cX8_isCircuit 11 12 .ireturn := ⟨by decide +kernel, rfl⟩
theorem i8_isCircuit_12 : ILa cX8_isCircuit 12 13 0 := Or.inl ⟨0, by decide +kernel, rfl, rfl⟩
theorem i8_isCircuit_13 : ILi cX8_isCircuit 13 14 1 := Or.inl ⟨1, by decide +kernel, rfl, rfl⟩
theorem i8_isCircuit_14 : ICV m8_isCircuit 14 17 m8_support := ⟨149, by decide +kernel, rfl, q_934⟩
theorem i8_isCircuit_17 : ISi cX8_isCircuit 17 18 2 := Or.inl ⟨2, by decide +kernel, rfl, rfl⟩
theorem i8_isCircuit_18 : IC cX8_isCircuit 18 19 (0) := ⟨by decide, Or.inl ⟨by decide +kernel, rfl⟩⟩
theorem i8_isCircuit_19 : ISi cX8_isCircuit 19 20 3 := Or.inl ⟨3, by decide +kernel, rfl, rfl⟩
theorem i8_isCircuit_20 : ILi cX8_isCircuit 20 21 3 := Or.inl ⟨3, by decide +kernel, rfl, rfl⟩
theorem i8_isCircuit_21 : ILa cX8_isCircuit 21 22 0 := Or.inl ⟨0, by decide +kernel, rfl, rfl⟩
theorem i8_isCircuit_22 : IGF m8_isCircuit 22 25 8 5 := ⟨70, by decide +kernel, rfl, by decide, by decide, q_800⟩
theorem i8_isCircuit_25 : IJ cX8_isCircuit 25 28 58 (.if_icmp .ge) := ⟨33, by decide +kernel, rfl, by decide⟩
theorem i8_isCircuit_28 : ILa cX8_isCircuit 28 29 0 := Or.inl ⟨0, by decide +kernel, rfl, rfl⟩
theorem i8_isCircuit_29 : ILi cX8_isCircuit 29 30 3 := Or.inl ⟨3, by decide +kernel, rfl, rfl⟩
theorem i8_isCircuit_30 : ICV m8_isCircuit 30 33 m8_support := ⟨149, by decide +kernel, rfl, q_934⟩
theorem i8_isCircuit_33 : ISi cX8_isCircuit 33 35 4 := Or.inr ⟨by decide +kernel, rfl⟩
theorem i8_isCircuit_35 : ILi cX8_isCircuit 35 37 4 := Or.inr ⟨by decide +kernel, rfl⟩
theorem i8_isCircuit_37 : ILi cX8_isCircuit 37 38 2 := Or.inl ⟨2, by decide +kernel, rfl, rfl⟩
theorem i8_isCircuit_38 : IJ cX8_isCircuit 38 41 52 (.if_icmp .eq) := ⟨14, by decide +kernel, rfl, by decide⟩
theorem i8_isCircuit_41 : ILi cX8_isCircuit 41 43 4 := Or.inr ⟨by decide +kernel, rfl⟩
theorem i8_isCircuit_43 : ILi cX8_isCircuit 43 44 2 := Or.inl ⟨2, by decide +kernel, rfl, rfl⟩
theorem i8_isCircuit_44 : IC cX8_isCircuit 44 45 (-1) := ⟨by decide, Or.inl ⟨by decide +kernel, rfl⟩⟩
theorem i8_isCircuit_45 : IO cX8_isCircuit 45 46 .ixor := ⟨by decide +kernel, rfl⟩
theorem i8_isCircuit_46 : IO cX8_isCircuit 46 47 .iand := ⟨by decide +kernel, rfl⟩
theorem i8_isCircuit_47 : IJ cX8_isCircuit 47 50 52 (.ifCond .ne) := ⟨5, by decide +kernel, rfl, by decide⟩
theorem i8_isCircuit_50 : IC cX8_isCircuit 50 51 (0) := ⟨by decide, Or.inl ⟨by decide +kernel, rfl⟩⟩
theorem i8_isCircuit_51 : IO cX8_isCircuit 51 52 .ireturn := ⟨by decide +kernel, rfl⟩
theorem i8_isCircuit_52 : II cX8_isCircuit 52 55 3 (1) := ⟨by decide +kernel, by decide, rfl⟩
theorem i8_isCircuit_55 : IJ cX8_isCircuit 55 58 20 .goto := ⟨-35, by decide +kernel, rfl, by decide⟩
theorem i8_isCircuit_58 : IC cX8_isCircuit 58 59 (1) := ⟨by decide, Or.inl ⟨by decide +kernel, rfl⟩⟩
theorem i8_isCircuit_59 : IO cX8_isCircuit 59 60 .ireturn := ⟨by decide +kernel, rfl⟩
theorem i8_setGoal_0 : IC cX8_setGoal 0 1 (0) := ⟨by decide, Or.inl ⟨by decide +kernel, rfl⟩⟩
theorem i8_setGoal_1 : ISi cX8_setGoal 1 2 3 := Or.inl ⟨3, by decide +kernel, rfl, rfl⟩
theorem i8_setGoal_2 : ILi cX8_setGoal 2 3 3 := Or.inl ⟨3, by decide +kernel, rfl, rfl⟩
theorem i8_setGoal_3 : IC cX8_setGoal 3 4 (4) := ⟨by decide, Or.inl ⟨by decide +kernel, rfl⟩⟩
theorem i8_setGoal_4 : IJ cX8_setGoal 4 7 44 (.if_icmp .ge) := ⟨40, by decide +kernel, rfl, by decide⟩
theorem i8_setGoal_7 : ILi cX8_setGoal 7 8 2 := Or.inl ⟨2, by decide +kernel, rfl, rfl⟩
theorem i8_setGoal_8 : ILa cX8_setGoal 8 9 0 := Or.inl ⟨0, by decide +kernel, rfl, rfl⟩
theorem i8_setGoal_9 : IGF m8_setGoal 9 12 8 6 := ⟨19, by decide +kernel, rfl, by decide, by decide, q_801⟩
theorem i8_setGoal_12 : IC cX8_setGoal 12 13 (4) := ⟨by decide, Or.inl ⟨by decide +kernel, rfl⟩⟩
theorem i8_setGoal_13 : ILi cX8_setGoal 13 14 1 := Or.inl ⟨1, by decide +kernel, rfl, rfl⟩
theorem i8_setGoal_14 : IO cX8_setGoal 14 15 .imul := ⟨by decide +kernel, rfl⟩
theorem i8_setGoal_15 : ILi cX8_setGoal 15 16 3 := Or.inl ⟨3, by decide +kernel, rfl, rfl⟩
theorem i8_setGoal_16 : IO cX8_setGoal 16 17 .iadd := ⟨by decide +kernel, rfl⟩
theorem i8_setGoal_17 : IO cX8_setGoal 17 18 .iaload := ⟨by decide +kernel, rfl⟩
theorem i8_setGoal_18 : IO cX8_setGoal 18 19 .imul := ⟨by decide +kernel, rfl⟩
theorem i8_setGoal_19 : ISi cX8_setGoal 19 21 4 := Or.inr ⟨by decide +kernel, rfl⟩
theorem i8_setGoal_21 : ILa cX8_setGoal 21 22 0 := Or.inl ⟨0, by decide +kernel, rfl, rfl⟩
theorem i8_setGoal_22 : IGF m8_setGoal 22 25 8 15 := ⟨37, by decide +kernel, rfl, by decide, by decide, q_810⟩
theorem i8_setGoal_25 : ILi cX8_setGoal 25 26 3 := Or.inl ⟨3, by decide +kernel, rfl, rfl⟩
theorem i8_setGoal_26 : ILi cX8_setGoal 26 28 4 := Or.inr ⟨by decide +kernel, rfl⟩
theorem i8_setGoal_28 : IJ cX8_setGoal 28 31 36 (.ifCond .le) := ⟨8, by decide +kernel, rfl, by decide⟩
theorem i8_setGoal_31 : ILi cX8_setGoal 31 33 4 := Or.inr ⟨by decide +kernel, rfl⟩
theorem i8_setGoal_33 : IJ cX8_setGoal 33 36 37 .goto := ⟨4, by decide +kernel, rfl, by decide⟩
theorem i8_setGoal_36 : IC cX8_setGoal 36 37 (0) := ⟨by decide, Or.inl ⟨by decide +kernel, rfl⟩⟩
theorem i8_setGoal_37 : IO cX8_setGoal 37 38 .iastore := ⟨by decide +kernel, rfl⟩
theorem i8_setGoal_38 : II cX8_setGoal 38 41 3 (1) := ⟨by decide +kernel, by decide, rfl⟩
theorem i8_setGoal_41 : IJ cX8_setGoal 41 44 2 .goto := ⟨-39, by decide +kernel, rfl, by decide⟩
theorem i8_setGoal_44 : IO cX8_setGoal 44 45 .return_ := ⟨by decide +kernel, rfl⟩
theorem i8_setGoalToPoint_0 : IC cX8_setGoalToPoint 0 1 (0) := ⟨by decide, Or.inl ⟨by decide +kernel, rfl⟩⟩
theorem i8_setGoalToPoint_1 : ISi cX8_setGoalToPoint 1 2 1 := Or.inl ⟨1, by decide +kernel, rfl, rfl⟩
theorem i8_setGoalToPoint_2 : ILi cX8_setGoalToPoint 2 3 1 := Or.inl ⟨1, by decide +kernel, rfl, rfl⟩
theorem i8_setGoalToPoint_3 : IC cX8_setGoalToPoint 3 4 (4) := ⟨by decide, Or.inl ⟨by decide +kernel, rfl⟩⟩
theorem i8_setGoalToPoint_4 : IJ cX8_setGoalToPoint 4 7 28 (.if_icmp .ge) := ⟨24, by decide +kernel, rfl, by decide⟩
theorem i8_setGoalToPoint_7 : ILa cX8_setGoalToPoint 7 8 0 := Or.inl ⟨0, by decide +kernel, rfl, rfl⟩
theorem i8_setGoalToPoint_8 : IGF m8_setGoalToPoint 8 11 8 15 := ⟨37, by decide +kernel, rfl, by decide, by decide, q_810⟩
theorem i8_setGoalToPoint_11 : ILi cX8_setGoalToPoint 11 12 1 := Or.inl ⟨1, by decide +kernel, rfl, rfl⟩
theorem i8_setGoalToPoint_12 : ILa cX8_setGoalToPoint 12 13 0 := Or.inl ⟨0, by decide +kernel, rfl, rfl⟩
theorem i8_setGoalToPoint_13 : IGF m8_setGoalToPoint 13 16 8 0 := ⟨7, by decide +kernel, rfl, by decide, by decide, q_795⟩
theorem i8_setGoalToPoint_16 : IC cX8_setGoalToPoint 16 18 (14) := ⟨by decide, Or.inr (Or.inl ⟨by decide +kernel, by decide +kernel, rfl⟩)⟩
theorem i8_setGoalToPoint_18 : ILi cX8_setGoalToPoint 18 19 1 := Or.inl ⟨1, by decide +kernel, rfl, rfl⟩
theorem i8_setGoalToPoint_19 : IO cX8_setGoalToPoint 19 20 .iadd := ⟨by decide +kernel, rfl⟩
theorem i8_setGoalToPoint_20 : IO cX8_setGoalToPoint 20 21 .iaload := ⟨by decide +kernel, rfl⟩
theorem i8_setGoalToPoint_21 : IO cX8_setGoalToPoint 21 22 .iastore := ⟨by decide +kernel, rfl⟩
theorem i8_setGoalToPoint_22 : II cX8_setGoalToPoint 22 25 1 (1) := ⟨by decide +kernel, by decide, rfl⟩
theorem i8_setGoalToPoint_25 : IJ cX8_setGoalToPoint 25 28 2 .goto := ⟨-23, by decide +kernel, rfl, by decide⟩
theorem i8_setGoalToPoint_28 : IO cX8_setGoalToPoint 28 29 .return_ := ⟨by decide +kernel, rfl⟩
theorem i8_addFiber_0 : ILa cX8_addFiber 0 1 0 := Or.inl ⟨0, by decide +kernel, rfl, rfl⟩
theorem i8_addFiber_1 : IGF m8_addFiber 1 4 8 14 := ⟨152, by decide +kernel, rfl, by decide, by decide, q_809⟩
theorem i8_addFiber_4 : IC cX8_addFiber 4 7 (2100) := ⟨by decide, Or.inr (Or.inr ⟨by decide +kernel, by decide +kernel, rfl⟩)⟩
theorem i8_addFiber_7 : IJ cX8_addFiber 7 10 66 (.if_icmp .ge) := ⟨59, by decide +kernel, rfl, by decide⟩
theorem i8_addFiber_10 : IC cX8_addFiber 10 11 (0) := ⟨by decide, Or.inl ⟨by decide +kernel, rfl⟩⟩
theorem i8_addFiber_11 : ISi cX8_addFiber 11 12 1 := Or.inl ⟨1, by decide +kernel, rfl, rfl⟩
theorem i8_addFiber_12 : ILi cX8_addFiber 12 13 1 := Or.inl ⟨1, by decide +kernel, rfl, rfl⟩
theorem i8_addFiber_13 : IC cX8_addFiber 13 14 (4) := ⟨by decide, Or.inl ⟨by decide +kernel, rfl⟩⟩
theorem i8_addFiber_14 : IJ cX8_addFiber 14 17 56 (.if_icmp .ge) := ⟨42, by decide +kernel, rfl, by decide⟩
theorem i8_addFiber_17 : ILa cX8_addFiber 17 18 0 := Or.inl ⟨0, by decide +kernel, rfl, rfl⟩
theorem i8_addFiber_18 : IGF m8_addFiber 18 21 8 13 := ⟨34, by decide +kernel, rfl, by decide, by decide, q_808⟩
theorem i8_addFiber_21 : IC cX8_addFiber 21 22 (4) := ⟨by decide, Or.inl ⟨by decide +kernel, rfl⟩⟩
theorem i8_addFiber_22 : ILa cX8_addFiber 22 23 0 := Or.inl ⟨0, by decide +kernel, rfl, rfl⟩
theorem i8_addFiber_23 : IGF m8_addFiber 23 26 8 14 := ⟨152, by decide +kernel, rfl, by decide, by decide, q_809⟩
theorem i8_addFiber_26 : IO cX8_addFiber 26 27 .imul := ⟨by decide +kernel, rfl⟩
theorem i8_addFiber_27 : ILi cX8_addFiber 27 28 1 := Or.inl ⟨1, by decide +kernel, rfl, rfl⟩
theorem i8_addFiber_28 : IO cX8_addFiber 28 29 .iadd := ⟨by decide +kernel, rfl⟩
theorem i8_addFiber_29 : ILi cX8_addFiber 29 30 1 := Or.inl ⟨1, by decide +kernel, rfl, rfl⟩
theorem i8_addFiber_30 : ILa cX8_addFiber 30 31 0 := Or.inl ⟨0, by decide +kernel, rfl, rfl⟩
theorem i8_addFiber_31 : IGF m8_addFiber 31 34 8 0 := ⟨7, by decide +kernel, rfl, by decide, by decide, q_795⟩
theorem i8_addFiber_34 : IC cX8_addFiber 34 35 (1) := ⟨by decide, Or.inl ⟨by decide +kernel, rfl⟩⟩
theorem i8_addFiber_35 : IO cX8_addFiber 35 36 .iaload := ⟨by decide +kernel, rfl⟩
theorem i8_addFiber_36 : IJ cX8_addFiber 36 39 48 (.if_icmp .ge) := ⟨12, by decide +kernel, rfl, by decide⟩
theorem i8_addFiber_39 : ILa cX8_addFiber 39 40 0 := Or.inl ⟨0, by decide +kernel, rfl, rfl⟩
theorem i8_addFiber_40 : IGF m8_addFiber 40 43 8 16 := ⟨40, by decide +kernel, rfl, by decide, by decide, q_811⟩
theorem i8_addFiber_43 : ILi cX8_addFiber 43 44 1 := Or.inl ⟨1, by decide +kernel, rfl, rfl⟩
theorem i8_addFiber_44 : IO cX8_addFiber 44 45 .iaload := ⟨by decide +kernel, rfl⟩
theorem i8_addFiber_45 : IJ cX8_addFiber 45 48 49 .goto := ⟨4, by decide +kernel, rfl, by decide⟩
theorem i8_addFiber_48 : IC cX8_addFiber 48 49 (0) := ⟨by decide, Or.inl ⟨by decide +kernel, rfl⟩⟩
theorem i8_addFiber_49 : IO cX8_addFiber 49 50 .iastore := ⟨by decide +kernel, rfl⟩
theorem i8_addFiber_50 : II cX8_addFiber 50 53 1 (1) := ⟨by decide +kernel, by decide, rfl⟩
theorem i8_addFiber_53 : IJ cX8_addFiber 53 56 12 .goto := ⟨-41, by decide +kernel, rfl, by decide⟩
theorem i8_addFiber_56 : ILa cX8_addFiber 56 57 0 := Or.inl ⟨0, by decide +kernel, rfl, rfl⟩
theorem i8_addFiber_57 : IO cX8_addFiber 57 58 .dup := ⟨by decide +kernel, rfl⟩
theorem i8_addFiber_58 : IGF m8_addFiber 58 61 8 14 := ⟨152, by decide +kernel, rfl, by decide, by decide, q_809⟩
theorem i8_addFiber_61 : IC cX8_addFiber 61 62 (1) := ⟨by decide, Or.inl ⟨by decide +kernel, rfl⟩⟩
theorem i8_addFiber_62 : IO cX8_addFiber 62 63 .iadd := ⟨by decide +kernel, rfl⟩
theorem i8_addFiber_63 : IPF m8_addFiber 63 66 8 14 := ⟨152, by decide +kernel, rfl, by decide, by decide, q_809, rfl⟩
theorem i8_addFiber_66 : IO cX8_addFiber 66 67 .return_ := ⟨by decide +kernel, rfl⟩
theorem i8_layFiber_0 : ILa cX8_layFiber 0 1 0 := Or.inl ⟨0, by decide +kernel, rfl, rfl⟩
theorem i8_layFiber_1 : IGF m8_layFiber 1 4 8 0 := ⟨7, by decide +kernel, rfl, by decide, by decide, q_795⟩
theorem i8_layFiber_4 : IC cX8_layFiber 4 5 (1) := ⟨by decide, Or.inl ⟨by decide +kernel, rfl⟩⟩
theorem i8_layFiber_5 : IO cX8_layFiber 5 6 .iaload := ⟨by decide +kernel, rfl⟩
theorem i8_layFiber_6 : ISi cX8_layFiber 6 7 1 := Or.inl ⟨1, by decide +kernel, rfl, rfl⟩
theorem i8_layFiber_7 : ILa cX8_layFiber 7 8 0 := Or.inl ⟨0, by decide +kernel, rfl, rfl⟩
theorem i8_layFiber_8 : IC cX8_layFiber 8 9 (0) := ⟨by decide, Or.inl ⟨by decide +kernel, rfl⟩⟩
theorem i8_layFiber_9 : ILa cX8_layFiber 9 10 0 := Or.inl ⟨0, by decide +kernel, rfl, rfl⟩
theorem i8_layFiber_10 : IGF m8_layFiber 10 13 8 15 := ⟨37, by decide +kernel, rfl, by decide, by decide, q_810⟩
theorem i8_layFiber_13 : IC cX8_layFiber 13 14 (0) := ⟨by decide, Or.inl ⟨by decide +kernel, rfl⟩⟩
theorem i8_layFiber_14 : ILi cX8_layFiber 14 15 1 := Or.inl ⟨1, by decide +kernel, rfl, rfl⟩
theorem i8_layFiber_15 : ICV m8_layFiber 15 18 m8_product := ⟨77, by decide +kernel, rfl, q_765⟩
theorem i8_layFiber_18 : ISi cX8_layFiber 18 19 2 := Or.inl ⟨2, by decide +kernel, rfl, rfl⟩
theorem i8_layFiber_19 : ILa cX8_layFiber 19 20 0 := Or.inl ⟨0, by decide +kernel, rfl, rfl⟩
theorem i8_layFiber_20 : IC cX8_layFiber 20 21 (1) := ⟨by decide, Or.inl ⟨by decide +kernel, rfl⟩⟩
theorem i8_layFiber_21 : ILa cX8_layFiber 21 22 0 := Or.inl ⟨0, by decide +kernel, rfl, rfl⟩
theorem i8_layFiber_22 : IGF m8_layFiber 22 25 8 15 := ⟨37, by decide +kernel, rfl, by decide, by decide, q_810⟩
theorem i8_layFiber_25 : IC cX8_layFiber 25 26 (0) := ⟨by decide, Or.inl ⟨by decide +kernel, rfl⟩⟩
theorem i8_layFiber_26 : ILi cX8_layFiber 26 27 1 := Or.inl ⟨1, by decide +kernel, rfl, rfl⟩
theorem i8_layFiber_27 : ICV m8_layFiber 27 30 m8_product := ⟨77, by decide +kernel, rfl, q_765⟩
theorem i8_layFiber_30 : ISi cX8_layFiber 30 31 3 := Or.inl ⟨3, by decide +kernel, rfl, rfl⟩
theorem i8_layFiber_31 : IC cX8_layFiber 31 32 (0) := ⟨by decide, Or.inl ⟨by decide +kernel, rfl⟩⟩
theorem i8_layFiber_32 : ISi cX8_layFiber 32 34 4 := Or.inr ⟨by decide +kernel, rfl⟩
theorem i8_layFiber_34 : ILa cX8_layFiber 34 35 0 := Or.inl ⟨0, by decide +kernel, rfl, rfl⟩
theorem i8_layFiber_35 : IC cX8_layFiber 35 36 (0) := ⟨by decide, Or.inl ⟨by decide +kernel, rfl⟩⟩
theorem i8_layFiber_36 : IPF m8_layFiber 36 39 8 14 := ⟨152, by decide +kernel, rfl, by decide, by decide, q_809, rfl⟩
theorem i8_layFiber_39 : ILa cX8_layFiber 39 40 0 := Or.inl ⟨0, by decide +kernel, rfl, rfl⟩
theorem i8_layFiber_40 : IGF m8_layFiber 40 43 8 16 := ⟨40, by decide +kernel, rfl, by decide, by decide, q_811⟩
theorem i8_layFiber_43 : IC cX8_layFiber 43 44 (0) := ⟨by decide, Or.inl ⟨by decide +kernel, rfl⟩⟩
theorem i8_layFiber_44 : IC cX8_layFiber 44 45 (-1) := ⟨by decide, Or.inl ⟨by decide +kernel, rfl⟩⟩
theorem i8_layFiber_45 : IO cX8_layFiber 45 46 .iastore := ⟨by decide +kernel, rfl⟩
theorem i8_layFiber_46 : ILi cX8_layFiber 46 48 4 := Or.inr ⟨by decide +kernel, rfl⟩
theorem i8_layFiber_48 : IJ cX8_layFiber 48 51 153 (.ifCond .lt) := ⟨105, by decide +kernel, rfl, by decide⟩
theorem i8_layFiber_51 : ILa cX8_layFiber 51 52 0 := Or.inl ⟨0, by decide +kernel, rfl, rfl⟩
theorem i8_layFiber_52 : IGF m8_layFiber 52 55 8 16 := ⟨40, by decide +kernel, rfl, by decide, by decide, q_811⟩
theorem i8_layFiber_55 : ILi cX8_layFiber 55 57 4 := Or.inr ⟨by decide +kernel, rfl⟩
theorem i8_layFiber_57 : IO cX8_layFiber 57 58 .dup2 := ⟨by decide +kernel, rfl⟩
theorem i8_layFiber_58 : IO cX8_layFiber 58 59 .iaload := ⟨by decide +kernel, rfl⟩
theorem i8_layFiber_59 : IC cX8_layFiber 59 60 (1) := ⟨by decide, Or.inl ⟨by decide +kernel, rfl⟩⟩
theorem i8_layFiber_60 : IO cX8_layFiber 60 61 .iadd := ⟨by decide +kernel, rfl⟩
theorem i8_layFiber_61 : IO cX8_layFiber 61 62 .iastore := ⟨by decide +kernel, rfl⟩
theorem i8_layFiber_62 : ILa cX8_layFiber 62 63 0 := Or.inl ⟨0, by decide +kernel, rfl, rfl⟩
theorem i8_layFiber_63 : IC cX8_layFiber 63 64 (0) := ⟨by decide, Or.inl ⟨by decide +kernel, rfl⟩⟩
theorem i8_layFiber_64 : ILa cX8_layFiber 64 65 0 := Or.inl ⟨0, by decide +kernel, rfl, rfl⟩
theorem i8_layFiber_65 : IGF m8_layFiber 65 68 8 16 := ⟨40, by decide +kernel, rfl, by decide, by decide, q_811⟩
theorem i8_layFiber_68 : IC cX8_layFiber 68 69 (0) := ⟨by decide, Or.inl ⟨by decide +kernel, rfl⟩⟩
theorem i8_layFiber_69 : ILi cX8_layFiber 69 71 4 := Or.inr ⟨by decide +kernel, rfl⟩
theorem i8_layFiber_71 : IC cX8_layFiber 71 72 (1) := ⟨by decide, Or.inl ⟨by decide +kernel, rfl⟩⟩
theorem i8_layFiber_72 : IO cX8_layFiber 72 73 .iadd := ⟨by decide +kernel, rfl⟩
theorem i8_layFiber_73 : ICV m8_layFiber 73 76 m8_product := ⟨77, by decide +kernel, rfl, q_765⟩
theorem i8_layFiber_76 : ISi cX8_layFiber 76 78 5 := Or.inr ⟨by decide +kernel, rfl⟩
theorem i8_layFiber_78 : ILa cX8_layFiber 78 79 0 := Or.inl ⟨0, by decide +kernel, rfl, rfl⟩
theorem i8_layFiber_79 : IC cX8_layFiber 79 80 (1) := ⟨by decide, Or.inl ⟨by decide +kernel, rfl⟩⟩
theorem i8_layFiber_80 : ILa cX8_layFiber 80 81 0 := Or.inl ⟨0, by decide +kernel, rfl, rfl⟩
theorem i8_layFiber_81 : IGF m8_layFiber 81 84 8 16 := ⟨40, by decide +kernel, rfl, by decide, by decide, q_811⟩
theorem i8_layFiber_84 : IC cX8_layFiber 84 85 (0) := ⟨by decide, Or.inl ⟨by decide +kernel, rfl⟩⟩
theorem i8_layFiber_85 : ILi cX8_layFiber 85 87 4 := Or.inr ⟨by decide +kernel, rfl⟩
theorem i8_layFiber_87 : IC cX8_layFiber 87 88 (1) := ⟨by decide, Or.inl ⟨by decide +kernel, rfl⟩⟩
theorem i8_layFiber_88 : IO cX8_layFiber 88 89 .iadd := ⟨by decide +kernel, rfl⟩
theorem i8_layFiber_89 : ICV m8_layFiber 89 92 m8_product := ⟨77, by decide +kernel, rfl, q_765⟩
theorem i8_layFiber_92 : ISi cX8_layFiber 92 94 6 := Or.inr ⟨by decide +kernel, rfl⟩
theorem i8_layFiber_94 : ILi cX8_layFiber 94 96 5 := Or.inr ⟨by decide +kernel, rfl⟩
theorem i8_layFiber_96 : ILi cX8_layFiber 96 97 2 := Or.inl ⟨2, by decide +kernel, rfl, rfl⟩
theorem i8_layFiber_97 : IJ cX8_layFiber 97 100 106 (.if_icmp .gt) := ⟨9, by decide +kernel, rfl, by decide⟩
theorem i8_layFiber_100 : ILi cX8_layFiber 100 102 6 := Or.inr ⟨by decide +kernel, rfl⟩
theorem i8_layFiber_102 : ILi cX8_layFiber 102 103 3 := Or.inl ⟨3, by decide +kernel, rfl, rfl⟩
theorem i8_layFiber_103 : IJ cX8_layFiber 103 106 112 (.if_icmp .le) := ⟨9, by decide +kernel, rfl, by decide⟩
theorem i8_layFiber_106 : II cX8_layFiber 106 109 4 (-1) := ⟨by decide +kernel, by decide, rfl⟩
theorem i8_layFiber_109 : IJ cX8_layFiber 109 112 150 .goto := ⟨41, by decide +kernel, rfl, by decide⟩
theorem i8_layFiber_112 : ILi cX8_layFiber 112 114 4 := Or.inr ⟨by decide +kernel, rfl⟩
theorem i8_layFiber_114 : ILi cX8_layFiber 114 115 1 := Or.inl ⟨1, by decide +kernel, rfl, rfl⟩
theorem i8_layFiber_115 : IC cX8_layFiber 115 116 (1) := ⟨by decide, Or.inl ⟨by decide +kernel, rfl⟩⟩
theorem i8_layFiber_116 : IO cX8_layFiber 116 117 .isub := ⟨by decide +kernel, rfl⟩
theorem i8_layFiber_117 : IJ cX8_layFiber 117 120 134 (.if_icmp .ge) := ⟨17, by decide +kernel, rfl, by decide⟩
theorem i8_layFiber_120 : II cX8_layFiber 120 123 4 (1) := ⟨by decide +kernel, by decide, rfl⟩
theorem i8_layFiber_123 : ILa cX8_layFiber 123 124 0 := Or.inl ⟨0, by decide +kernel, rfl, rfl⟩
theorem i8_layFiber_124 : IGF m8_layFiber 124 127 8 16 := ⟨40, by decide +kernel, rfl, by decide, by decide, q_811⟩
theorem i8_layFiber_127 : ILi cX8_layFiber 127 129 4 := Or.inr ⟨by decide +kernel, rfl⟩
theorem i8_layFiber_129 : IC cX8_layFiber 129 130 (-1) := ⟨by decide, Or.inl ⟨by decide +kernel, rfl⟩⟩
theorem i8_layFiber_130 : IO cX8_layFiber 130 131 .iastore := ⟨by decide +kernel, rfl⟩
theorem i8_layFiber_131 : IJ cX8_layFiber 131 134 150 .goto := ⟨19, by decide +kernel, rfl, by decide⟩
theorem i8_layFiber_134 : ILi cX8_layFiber 134 136 5 := Or.inr ⟨by decide +kernel, rfl⟩
theorem i8_layFiber_136 : ILi cX8_layFiber 136 137 2 := Or.inl ⟨2, by decide +kernel, rfl, rfl⟩
theorem i8_layFiber_137 : IJ cX8_layFiber 137 140 150 (.if_icmp .ne) := ⟨13, by decide +kernel, rfl, by decide⟩
theorem i8_layFiber_140 : ILi cX8_layFiber 140 142 6 := Or.inr ⟨by decide +kernel, rfl⟩
theorem i8_layFiber_142 : ILi cX8_layFiber 142 143 3 := Or.inl ⟨3, by decide +kernel, rfl, rfl⟩
theorem i8_layFiber_143 : IJ cX8_layFiber 143 146 150 (.if_icmp .ne) := ⟨7, by decide +kernel, rfl, by decide⟩
theorem i8_layFiber_146 : ILa cX8_layFiber 146 147 0 := Or.inl ⟨0, by decide +kernel, rfl, rfl⟩
theorem i8_layFiber_147 : ICV m8_layFiber 147 150 m8_addFiber := ⟨155, by decide +kernel, rfl, q_950⟩
theorem i8_layFiber_150 : IJ cX8_layFiber 150 153 46 .goto := ⟨-104, by decide +kernel, rfl, by decide⟩
theorem i8_layFiber_153 : IO cX8_layFiber 153 154 .return_ := ⟨by decide +kernel, rfl⟩
theorem i8_compare_0 : IC cX8_compare 0 1 (0) := ⟨by decide, Or.inl ⟨by decide +kernel, rfl⟩⟩
theorem i8_compare_1 : ISi cX8_compare 1 2 2 := Or.inl ⟨2, by decide +kernel, rfl, rfl⟩
theorem i8_compare_2 : ILi cX8_compare 2 3 2 := Or.inl ⟨2, by decide +kernel, rfl, rfl⟩
theorem i8_compare_3 : IC cX8_compare 3 4 (3) := ⟨by decide, Or.inl ⟨by decide +kernel, rfl⟩⟩
theorem i8_compare_4 : IJ cX8_compare 4 7 32 (.if_icmp .ge) := ⟨28, by decide +kernel, rfl, by decide⟩
theorem i8_compare_7 : ILa cX8_compare 7 8 0 := Or.inl ⟨0, by decide +kernel, rfl, rfl⟩
theorem i8_compare_8 : IGF m8_compare 8 11 8 13 := ⟨34, by decide +kernel, rfl, by decide, by decide, q_808⟩
theorem i8_compare_11 : IC cX8_compare 11 12 (4) := ⟨by decide, Or.inl ⟨by decide +kernel, rfl⟩⟩
theorem i8_compare_12 : ILi cX8_compare 12 13 1 := Or.inl ⟨1, by decide +kernel, rfl, rfl⟩
theorem i8_compare_13 : IO cX8_compare 13 14 .imul := ⟨by decide +kernel, rfl⟩
theorem i8_compare_14 : ILi cX8_compare 14 15 2 := Or.inl ⟨2, by decide +kernel, rfl, rfl⟩
theorem i8_compare_15 : IO cX8_compare 15 16 .iadd := ⟨by decide +kernel, rfl⟩
theorem i8_compare_16 : IO cX8_compare 16 17 .iaload := ⟨by decide +kernel, rfl⟩
theorem i8_compare_17 : ILa cX8_compare 17 18 0 := Or.inl ⟨0, by decide +kernel, rfl, rfl⟩
theorem i8_compare_18 : IGF m8_compare 18 21 8 16 := ⟨40, by decide +kernel, rfl, by decide, by decide, q_811⟩
theorem i8_compare_21 : ILi cX8_compare 21 22 2 := Or.inl ⟨2, by decide +kernel, rfl, rfl⟩
theorem i8_compare_22 : IO cX8_compare 22 23 .iaload := ⟨by decide +kernel, rfl⟩
theorem i8_compare_23 : IJ cX8_compare 23 26 32 (.if_icmp .ne) := ⟨9, by decide +kernel, rfl, by decide⟩
theorem i8_compare_26 : II cX8_compare 26 29 2 (1) := ⟨by decide +kernel, by decide, rfl⟩
theorem i8_compare_29 : IJ cX8_compare 29 32 2 .goto := ⟨-27, by decide +kernel, rfl, by decide⟩
theorem i8_compare_32 : ILa cX8_compare 32 33 0 := Or.inl ⟨0, by decide +kernel, rfl, rfl⟩
theorem i8_compare_33 : IGF m8_compare 33 36 8 13 := ⟨34, by decide +kernel, rfl, by decide, by decide, q_808⟩
theorem i8_compare_36 : IC cX8_compare 36 37 (4) := ⟨by decide, Or.inl ⟨by decide +kernel, rfl⟩⟩
theorem i8_compare_37 : ILi cX8_compare 37 38 1 := Or.inl ⟨1, by decide +kernel, rfl, rfl⟩
theorem i8_compare_38 : IO cX8_compare 38 39 .imul := ⟨by decide +kernel, rfl⟩
theorem i8_compare_39 : ILi cX8_compare 39 40 2 := Or.inl ⟨2, by decide +kernel, rfl, rfl⟩
theorem i8_compare_40 : IO cX8_compare 40 41 .iadd := ⟨by decide +kernel, rfl⟩
theorem i8_compare_41 : IO cX8_compare 41 42 .iaload := ⟨by decide +kernel, rfl⟩
theorem i8_compare_42 : ILa cX8_compare 42 43 0 := Or.inl ⟨0, by decide +kernel, rfl, rfl⟩
theorem i8_compare_43 : IGF m8_compare 43 46 8 16 := ⟨40, by decide +kernel, rfl, by decide, by decide, q_811⟩
theorem i8_compare_46 : ILi cX8_compare 46 47 2 := Or.inl ⟨2, by decide +kernel, rfl, rfl⟩
theorem i8_compare_47 : IO cX8_compare 47 48 .iaload := ⟨by decide +kernel, rfl⟩
theorem i8_compare_48 : IO cX8_compare 48 49 .isub := ⟨by decide +kernel, rfl⟩
theorem i8_compare_49 : IO cX8_compare 49 50 .ireturn := ⟨by decide +kernel, rfl⟩
theorem i8_numberOf_0 : IC cX8_numberOf 0 1 (0) := ⟨by decide, Or.inl ⟨by decide +kernel, rfl⟩⟩
theorem i8_numberOf_1 : ISi cX8_numberOf 1 2 1 := Or.inl ⟨1, by decide +kernel, rfl, rfl⟩
theorem i8_numberOf_2 : ILa cX8_numberOf 2 3 0 := Or.inl ⟨0, by decide +kernel, rfl, rfl⟩
theorem i8_numberOf_3 : IGF m8_numberOf 3 6 8 14 := ⟨152, by decide +kernel, rfl, by decide, by decide, q_809⟩
theorem i8_numberOf_6 : IC cX8_numberOf 6 7 (1) := ⟨by decide, Or.inl ⟨by decide +kernel, rfl⟩⟩
theorem i8_numberOf_7 : IO cX8_numberOf 7 8 .isub := ⟨by decide +kernel, rfl⟩
theorem i8_numberOf_8 : ISi cX8_numberOf 8 9 2 := Or.inl ⟨2, by decide +kernel, rfl, rfl⟩
theorem i8_numberOf_9 : ILi cX8_numberOf 9 10 1 := Or.inl ⟨1, by decide +kernel, rfl, rfl⟩
theorem i8_numberOf_10 : ILi cX8_numberOf 10 11 2 := Or.inl ⟨2, by decide +kernel, rfl, rfl⟩
theorem i8_numberOf_11 : IJ cX8_numberOf 11 14 40 (.if_icmp .ge) := ⟨29, by decide +kernel, rfl, by decide⟩
theorem i8_numberOf_14 : ILi cX8_numberOf 14 15 1 := Or.inl ⟨1, by decide +kernel, rfl, rfl⟩
theorem i8_numberOf_15 : ILi cX8_numberOf 15 16 2 := Or.inl ⟨2, by decide +kernel, rfl, rfl⟩
theorem i8_numberOf_16 : IO cX8_numberOf 16 17 .iadd := ⟨by decide +kernel, rfl⟩
theorem i8_numberOf_17 : IC cX8_numberOf 17 18 (2) := ⟨by decide, Or.inl ⟨by decide +kernel, rfl⟩⟩
theorem i8_numberOf_18 : IO cX8_numberOf 18 19 .idiv := ⟨by decide +kernel, rfl⟩
theorem i8_numberOf_19 : ISi cX8_numberOf 19 20 3 := Or.inl ⟨3, by decide +kernel, rfl, rfl⟩
theorem i8_numberOf_20 : ILa cX8_numberOf 20 21 0 := Or.inl ⟨0, by decide +kernel, rfl, rfl⟩
theorem i8_numberOf_21 : ILi cX8_numberOf 21 22 3 := Or.inl ⟨3, by decide +kernel, rfl, rfl⟩
theorem i8_numberOf_22 : ICV m8_numberOf 22 25 m8_compare := ⟨158, by decide +kernel, rfl, q_1034⟩
theorem i8_numberOf_25 : IJ cX8_numberOf 25 28 35 (.ifCond .ge) := ⟨10, by decide +kernel, rfl, by decide⟩
theorem i8_numberOf_28 : ILi cX8_numberOf 28 29 3 := Or.inl ⟨3, by decide +kernel, rfl, rfl⟩
theorem i8_numberOf_29 : IC cX8_numberOf 29 30 (1) := ⟨by decide, Or.inl ⟨by decide +kernel, rfl⟩⟩
theorem i8_numberOf_30 : IO cX8_numberOf 30 31 .iadd := ⟨by decide +kernel, rfl⟩
theorem i8_numberOf_31 : ISi cX8_numberOf 31 32 1 := Or.inl ⟨1, by decide +kernel, rfl, rfl⟩
theorem i8_numberOf_32 : IJ cX8_numberOf 32 35 37 .goto := ⟨5, by decide +kernel, rfl, by decide⟩
theorem i8_numberOf_35 : ILi cX8_numberOf 35 36 3 := Or.inl ⟨3, by decide +kernel, rfl, rfl⟩
theorem i8_numberOf_36 : ISi cX8_numberOf 36 37 2 := Or.inl ⟨2, by decide +kernel, rfl, rfl⟩
theorem i8_numberOf_37 : IJ cX8_numberOf 37 40 9 .goto := ⟨-28, by decide +kernel, rfl, by decide⟩
theorem i8_numberOf_40 : ILi cX8_numberOf 40 41 1 := Or.inl ⟨1, by decide +kernel, rfl, rfl⟩
theorem i8_numberOf_41 : IO cX8_numberOf 41 42 .ireturn := ⟨by decide +kernel, rfl⟩
theorem i8_numberOfGoal_0 : IC cX8_numberOfGoal 0 1 (0) := ⟨by decide, Or.inl ⟨by decide +kernel, rfl⟩⟩
theorem i8_numberOfGoal_1 : ISi cX8_numberOfGoal 1 2 1 := Or.inl ⟨1, by decide +kernel, rfl, rfl⟩
theorem i8_numberOfGoal_2 : ILi cX8_numberOfGoal 2 3 1 := Or.inl ⟨1, by decide +kernel, rfl, rfl⟩
theorem i8_numberOfGoal_3 : IC cX8_numberOfGoal 3 4 (4) := ⟨by decide, Or.inl ⟨by decide +kernel, rfl⟩⟩
theorem i8_numberOfGoal_4 : IJ cX8_numberOfGoal 4 7 25 (.if_icmp .ge) := ⟨21, by decide +kernel, rfl, by decide⟩
theorem i8_numberOfGoal_7 : ILa cX8_numberOfGoal 7 8 0 := Or.inl ⟨0, by decide +kernel, rfl, rfl⟩
theorem i8_numberOfGoal_8 : IGF m8_numberOfGoal 8 11 8 16 := ⟨40, by decide +kernel, rfl, by decide, by decide, q_811⟩
theorem i8_numberOfGoal_11 : ILi cX8_numberOfGoal 11 12 1 := Or.inl ⟨1, by decide +kernel, rfl, rfl⟩
theorem i8_numberOfGoal_12 : ILa cX8_numberOfGoal 12 13 0 := Or.inl ⟨0, by decide +kernel, rfl, rfl⟩
theorem i8_numberOfGoal_13 : IGF m8_numberOfGoal 13 16 8 15 := ⟨37, by decide +kernel, rfl, by decide, by decide, q_810⟩
theorem i8_numberOfGoal_16 : ILi cX8_numberOfGoal 16 17 1 := Or.inl ⟨1, by decide +kernel, rfl, rfl⟩
theorem i8_numberOfGoal_17 : IO cX8_numberOfGoal 17 18 .iaload := ⟨by decide +kernel, rfl⟩
theorem i8_numberOfGoal_18 : IO cX8_numberOfGoal 18 19 .iastore := ⟨by decide +kernel, rfl⟩
theorem i8_numberOfGoal_19 : II cX8_numberOfGoal 19 22 1 (1) := ⟨by decide +kernel, by decide, rfl⟩
theorem i8_numberOfGoal_22 : IJ cX8_numberOfGoal 22 25 2 .goto := ⟨-20, by decide +kernel, rfl, by decide⟩
theorem i8_numberOfGoal_25 : ILa cX8_numberOfGoal 25 26 0 := Or.inl ⟨0, by decide +kernel, rfl, rfl⟩
theorem i8_numberOfGoal_26 : ICV m8_numberOfGoal 26 29 m8_numberOf := ⟨161, by decide +kernel, rfl, q_1030⟩
theorem i8_numberOfGoal_29 : IO cX8_numberOfGoal 29 30 .ireturn := ⟨by decide +kernel, rfl⟩
theorem i8_clearFar_0 : IC cX8_clearFar 0 1 (0) := ⟨by decide, Or.inl ⟨by decide +kernel, rfl⟩⟩
theorem i8_clearFar_1 : ISi cX8_clearFar 1 2 1 := Or.inl ⟨1, by decide +kernel, rfl, rfl⟩
theorem i8_clearFar_2 : ILi cX8_clearFar 2 3 1 := Or.inl ⟨1, by decide +kernel, rfl, rfl⟩
theorem i8_clearFar_3 : ILa cX8_clearFar 3 4 0 := Or.inl ⟨0, by decide +kernel, rfl, rfl⟩
theorem i8_clearFar_4 : IGF m8_clearFar 4 7 8 14 := ⟨152, by decide +kernel, rfl, by decide, by decide, q_809⟩
theorem i8_clearFar_7 : IJ cX8_clearFar 7 10 25 (.if_icmp .ge) := ⟨18, by decide +kernel, rfl, by decide⟩
theorem i8_clearFar_10 : ILa cX8_clearFar 10 11 0 := Or.inl ⟨0, by decide +kernel, rfl, rfl⟩
theorem i8_clearFar_11 : IGF m8_clearFar 11 14 8 17 := ⟨43, by decide +kernel, rfl, by decide, by decide, q_812⟩
theorem i8_clearFar_14 : ILi cX8_clearFar 14 15 1 := Or.inl ⟨1, by decide +kernel, rfl, rfl⟩
theorem i8_clearFar_15 : IC cX8_clearFar 15 18 (-1009) := ⟨by decide, Or.inr (Or.inr ⟨by decide +kernel, by decide +kernel, rfl⟩)⟩
theorem i8_clearFar_18 : IO cX8_clearFar 18 19 .iastore := ⟨by decide +kernel, rfl⟩
theorem i8_clearFar_19 : II cX8_clearFar 19 22 1 (1) := ⟨by decide +kernel, by decide, rfl⟩
theorem i8_clearFar_22 : IJ cX8_clearFar 22 25 2 .goto := ⟨-20, by decide +kernel, rfl, by decide⟩
theorem i8_clearFar_25 : IO cX8_clearFar 25 26 .return_ := ⟨by decide +kernel, rfl⟩
theorem i8_stepFrom_0 : IC cX8_stepFrom 0 1 (1) := ⟨by decide, Or.inl ⟨by decide +kernel, rfl⟩⟩
theorem i8_stepFrom_1 : ISi cX8_stepFrom 1 3 4 := Or.inr ⟨by decide +kernel, rfl⟩
theorem i8_stepFrom_3 : IC cX8_stepFrom 3 4 (0) := ⟨by decide, Or.inl ⟨by decide +kernel, rfl⟩⟩
theorem i8_stepFrom_4 : ISi cX8_stepFrom 4 6 5 := Or.inr ⟨by decide +kernel, rfl⟩
theorem i8_stepFrom_6 : ILi cX8_stepFrom 6 8 5 := Or.inr ⟨by decide +kernel, rfl⟩
theorem i8_stepFrom_8 : IC cX8_stepFrom 8 9 (4) := ⟨by decide, Or.inl ⟨by decide +kernel, rfl⟩⟩
theorem i8_stepFrom_9 : IJ cX8_stepFrom 9 12 72 (.if_icmp .ge) := ⟨63, by decide +kernel, rfl, by decide⟩
theorem i8_stepFrom_12 : ILa cX8_stepFrom 12 13 0 := Or.inl ⟨0, by decide +kernel, rfl, rfl⟩
theorem i8_stepFrom_13 : IGF m8_stepFrom 13 16 8 16 := ⟨40, by decide +kernel, rfl, by decide, by decide, q_811⟩
theorem i8_stepFrom_16 : ILi cX8_stepFrom 16 18 5 := Or.inr ⟨by decide +kernel, rfl⟩
theorem i8_stepFrom_18 : ILa cX8_stepFrom 18 19 0 := Or.inl ⟨0, by decide +kernel, rfl, rfl⟩
theorem i8_stepFrom_19 : IGF m8_stepFrom 19 22 8 13 := ⟨34, by decide +kernel, rfl, by decide, by decide, q_808⟩
theorem i8_stepFrom_22 : IC cX8_stepFrom 22 23 (4) := ⟨by decide, Or.inl ⟨by decide +kernel, rfl⟩⟩
theorem i8_stepFrom_23 : ILi cX8_stepFrom 23 24 1 := Or.inl ⟨1, by decide +kernel, rfl, rfl⟩
theorem i8_stepFrom_24 : IO cX8_stepFrom 24 25 .imul := ⟨by decide +kernel, rfl⟩
theorem i8_stepFrom_25 : ILi cX8_stepFrom 25 27 5 := Or.inr ⟨by decide +kernel, rfl⟩
theorem i8_stepFrom_27 : IO cX8_stepFrom 27 28 .iadd := ⟨by decide +kernel, rfl⟩
theorem i8_stepFrom_28 : IO cX8_stepFrom 28 29 .iaload := ⟨by decide +kernel, rfl⟩
theorem i8_stepFrom_29 : ILi cX8_stepFrom 29 30 3 := Or.inl ⟨3, by decide +kernel, rfl, rfl⟩
theorem i8_stepFrom_30 : ILa cX8_stepFrom 30 31 0 := Or.inl ⟨0, by decide +kernel, rfl, rfl⟩
theorem i8_stepFrom_31 : IGF m8_stepFrom 31 34 8 6 := ⟨19, by decide +kernel, rfl, by decide, by decide, q_801⟩
theorem i8_stepFrom_34 : IC cX8_stepFrom 34 35 (4) := ⟨by decide, Or.inl ⟨by decide +kernel, rfl⟩⟩
theorem i8_stepFrom_35 : ILi cX8_stepFrom 35 36 2 := Or.inl ⟨2, by decide +kernel, rfl, rfl⟩
theorem i8_stepFrom_36 : IO cX8_stepFrom 36 37 .imul := ⟨by decide +kernel, rfl⟩
theorem i8_stepFrom_37 : ILi cX8_stepFrom 37 39 5 := Or.inr ⟨by decide +kernel, rfl⟩
theorem i8_stepFrom_39 : IO cX8_stepFrom 39 40 .iadd := ⟨by decide +kernel, rfl⟩
theorem i8_stepFrom_40 : IO cX8_stepFrom 40 41 .iaload := ⟨by decide +kernel, rfl⟩
theorem i8_stepFrom_41 : IO cX8_stepFrom 41 42 .imul := ⟨by decide +kernel, rfl⟩
theorem i8_stepFrom_42 : IO cX8_stepFrom 42 43 .iadd := ⟨by decide +kernel, rfl⟩
theorem i8_stepFrom_43 : IO cX8_stepFrom 43 44 .iastore := ⟨by decide +kernel, rfl⟩
theorem i8_stepFrom_44 : ILi cX8_stepFrom 44 46 4 := Or.inr ⟨by decide +kernel, rfl⟩
theorem i8_stepFrom_46 : IJ cX8_stepFrom 46 49 63 (.ifCond .eq) := ⟨17, by decide +kernel, rfl, by decide⟩
theorem i8_stepFrom_49 : ILa cX8_stepFrom 49 50 0 := Or.inl ⟨0, by decide +kernel, rfl, rfl⟩
theorem i8_stepFrom_50 : IGF m8_stepFrom 50 53 8 16 := ⟨40, by decide +kernel, rfl, by decide, by decide, q_811⟩
theorem i8_stepFrom_53 : ILi cX8_stepFrom 53 55 5 := Or.inr ⟨by decide +kernel, rfl⟩
theorem i8_stepFrom_55 : IO cX8_stepFrom 55 56 .iaload := ⟨by decide +kernel, rfl⟩
theorem i8_stepFrom_56 : IJ cX8_stepFrom 56 59 63 (.ifCond .lt) := ⟨7, by decide +kernel, rfl, by decide⟩
theorem i8_stepFrom_59 : IC cX8_stepFrom 59 60 (1) := ⟨by decide, Or.inl ⟨by decide +kernel, rfl⟩⟩
theorem i8_stepFrom_60 : IJ cX8_stepFrom 60 63 64 .goto := ⟨4, by decide +kernel, rfl, by decide⟩
theorem i8_stepFrom_63 : IC cX8_stepFrom 63 64 (0) := ⟨by decide, Or.inl ⟨by decide +kernel, rfl⟩⟩
theorem i8_stepFrom_64 : ISi cX8_stepFrom 64 66 4 := Or.inr ⟨by decide +kernel, rfl⟩
theorem i8_stepFrom_66 : II cX8_stepFrom 66 69 5 (1) := ⟨by decide +kernel, by decide, rfl⟩
theorem i8_stepFrom_69 : IJ cX8_stepFrom 69 72 6 .goto := ⟨-63, by decide +kernel, rfl, by decide⟩
theorem i8_stepFrom_72 : ILi cX8_stepFrom 72 74 4 := Or.inr ⟨by decide +kernel, rfl⟩
theorem i8_stepFrom_74 : IJ cX8_stepFrom 74 77 84 (.ifCond .eq) := ⟨10, by decide +kernel, rfl, by decide⟩
theorem i8_stepFrom_77 : ILa cX8_stepFrom 77 78 0 := Or.inl ⟨0, by decide +kernel, rfl, rfl⟩
theorem i8_stepFrom_78 : ICV m8_stepFrom 78 81 m8_numberOf := ⟨161, by decide +kernel, rfl, q_1030⟩
theorem i8_stepFrom_81 : IJ cX8_stepFrom 81 84 87 .goto := ⟨6, by decide +kernel, rfl, by decide⟩
theorem i8_stepFrom_84 : IC cX8_stepFrom 84 87 (-1009) := ⟨by decide, Or.inr (Or.inr ⟨by decide +kernel, by decide +kernel, rfl⟩)⟩
theorem i8_stepFrom_87 : IO cX8_stepFrom 87 88 .ireturn := ⟨by decide +kernel, rfl⟩
theorem i8_search_0 : ILa cX8_search 0 1 0 := Or.inl ⟨0, by decide +kernel, rfl, rfl⟩
theorem i8_search_1 : IGF m8_search 1 4 8 18 := ⟨46, by decide +kernel, rfl, by decide, by decide, q_813⟩
theorem i8_search_4 : IC cX8_search 4 5 (0) := ⟨by decide, Or.inl ⟨by decide +kernel, rfl⟩⟩
theorem i8_search_5 : ILi cX8_search 5 6 1 := Or.inl ⟨1, by decide +kernel, rfl, rfl⟩
theorem i8_search_6 : IO cX8_search 6 7 .iastore := ⟨by decide +kernel, rfl⟩
theorem i8_search_7 : ILa cX8_search 7 8 0 := Or.inl ⟨0, by decide +kernel, rfl, rfl⟩
theorem i8_search_8 : IC cX8_search 8 9 (1) := ⟨by decide, Or.inl ⟨by decide +kernel, rfl⟩⟩
theorem i8_search_9 : IPF m8_search 9 12 8 19 := ⟨164, by decide +kernel, rfl, by decide, by decide, q_814, rfl⟩
theorem i8_search_12 : ILa cX8_search 12 13 0 := Or.inl ⟨0, by decide +kernel, rfl, rfl⟩
theorem i8_search_13 : IGF m8_search 13 16 8 17 := ⟨43, by decide +kernel, rfl, by decide, by decide, q_812⟩
theorem i8_search_16 : ILi cX8_search 16 17 1 := Or.inl ⟨1, by decide +kernel, rfl, rfl⟩
theorem i8_search_17 : IC cX8_search 17 18 (0) := ⟨by decide, Or.inl ⟨by decide +kernel, rfl⟩⟩
theorem i8_search_18 : IO cX8_search 18 19 .iastore := ⟨by decide +kernel, rfl⟩
theorem i8_search_19 : IC cX8_search 19 20 (0) := ⟨by decide, Or.inl ⟨by decide +kernel, rfl⟩⟩
theorem i8_search_20 : ISi cX8_search 20 21 2 := Or.inl ⟨2, by decide +kernel, rfl, rfl⟩
theorem i8_search_21 : ILi cX8_search 21 22 2 := Or.inl ⟨2, by decide +kernel, rfl, rfl⟩
theorem i8_search_22 : ILa cX8_search 22 23 0 := Or.inl ⟨0, by decide +kernel, rfl, rfl⟩
theorem i8_search_23 : IGF m8_search 23 26 8 19 := ⟨164, by decide +kernel, rfl, by decide, by decide, q_814⟩
theorem i8_search_26 : IJ cX8_search 26 29 158 (.if_icmp .ge) := ⟨132, by decide +kernel, rfl, by decide⟩
theorem i8_search_29 : IC cX8_search 29 30 (0) := ⟨by decide, Or.inl ⟨by decide +kernel, rfl⟩⟩
theorem i8_search_30 : ISi cX8_search 30 31 3 := Or.inl ⟨3, by decide +kernel, rfl, rfl⟩
theorem i8_search_31 : ILi cX8_search 31 32 3 := Or.inl ⟨3, by decide +kernel, rfl, rfl⟩
theorem i8_search_32 : IC cX8_search 32 33 (2) := ⟨by decide, Or.inl ⟨by decide +kernel, rfl⟩⟩
theorem i8_search_33 : ILa cX8_search 33 34 0 := Or.inl ⟨0, by decide +kernel, rfl, rfl⟩
theorem i8_search_34 : IGF m8_search 34 37 8 5 := ⟨70, by decide +kernel, rfl, by decide, by decide, q_800⟩
theorem i8_search_37 : IO cX8_search 37 38 .imul := ⟨by decide +kernel, rfl⟩
theorem i8_search_38 : IJ cX8_search 38 41 152 (.if_icmp .ge) := ⟨114, by decide +kernel, rfl, by decide⟩
theorem i8_search_41 : ILa cX8_search 41 42 0 := Or.inl ⟨0, by decide +kernel, rfl, rfl⟩
theorem i8_search_42 : IGF m8_search 42 45 8 0 := ⟨7, by decide +kernel, rfl, by decide, by decide, q_795⟩
theorem i8_search_45 : IC cX8_search 45 47 (18) := ⟨by decide, Or.inr (Or.inl ⟨by decide +kernel, by decide +kernel, rfl⟩)⟩
theorem i8_search_47 : ILi cX8_search 47 48 3 := Or.inl ⟨3, by decide +kernel, rfl, rfl⟩
theorem i8_search_48 : IC cX8_search 48 49 (2) := ⟨by decide, Or.inl ⟨by decide +kernel, rfl⟩⟩
theorem i8_search_49 : IO cX8_search 49 50 .idiv := ⟨by decide +kernel, rfl⟩
theorem i8_search_50 : IO cX8_search 50 51 .iadd := ⟨by decide +kernel, rfl⟩
theorem i8_search_51 : IO cX8_search 51 52 .iaload := ⟨by decide +kernel, rfl⟩
theorem i8_search_52 : IC cX8_search 52 53 (1) := ⟨by decide, Or.inl ⟨by decide +kernel, rfl⟩⟩
theorem i8_search_53 : IJ cX8_search 53 56 79 (.if_icmp .ne) := ⟨26, by decide +kernel, rfl, by decide⟩
theorem i8_search_56 : ILa cX8_search 56 57 0 := Or.inl ⟨0, by decide +kernel, rfl, rfl⟩
theorem i8_search_57 : ILa cX8_search 57 58 0 := Or.inl ⟨0, by decide +kernel, rfl, rfl⟩
theorem i8_search_58 : IGF m8_search 58 61 8 18 := ⟨46, by decide +kernel, rfl, by decide, by decide, q_813⟩
theorem i8_search_61 : ILi cX8_search 61 62 2 := Or.inl ⟨2, by decide +kernel, rfl, rfl⟩
theorem i8_search_62 : IO cX8_search 62 63 .iaload := ⟨by decide +kernel, rfl⟩
theorem i8_search_63 : ILi cX8_search 63 64 3 := Or.inl ⟨3, by decide +kernel, rfl, rfl⟩
theorem i8_search_64 : IC cX8_search 64 65 (2) := ⟨by decide, Or.inl ⟨by decide +kernel, rfl⟩⟩
theorem i8_search_65 : IO cX8_search 65 66 .idiv := ⟨by decide +kernel, rfl⟩
theorem i8_search_66 : IC cX8_search 66 67 (1) := ⟨by decide, Or.inl ⟨by decide +kernel, rfl⟩⟩
theorem i8_search_67 : ILi cX8_search 67 68 3 := Or.inl ⟨3, by decide +kernel, rfl, rfl⟩
theorem i8_search_68 : IC cX8_search 68 69 (2) := ⟨by decide, Or.inl ⟨by decide +kernel, rfl⟩⟩
theorem i8_search_69 : IO cX8_search 69 70 .irem := ⟨by decide +kernel, rfl⟩
theorem i8_search_70 : IC cX8_search 70 71 (2) := ⟨by decide, Or.inl ⟨by decide +kernel, rfl⟩⟩
theorem i8_search_71 : IO cX8_search 71 72 .imul := ⟨by decide +kernel, rfl⟩
theorem i8_search_72 : IO cX8_search 72 73 .isub := ⟨by decide +kernel, rfl⟩
theorem i8_search_73 : ICV m8_search 73 76 m8_stepFrom := ⟨167, by decide +kernel, rfl, q_1026⟩
theorem i8_search_76 : IJ cX8_search 76 79 82 .goto := ⟨6, by decide +kernel, rfl, by decide⟩
theorem i8_search_79 : IC cX8_search 79 82 (-1009) := ⟨by decide, Or.inr (Or.inr ⟨by decide +kernel, by decide +kernel, rfl⟩)⟩
theorem i8_search_82 : ISi cX8_search 82 84 4 := Or.inr ⟨by decide +kernel, rfl⟩
theorem i8_search_84 : ILi cX8_search 84 86 4 := Or.inr ⟨by decide +kernel, rfl⟩
theorem i8_search_86 : IC cX8_search 86 89 (-1009) := ⟨by decide, Or.inr (Or.inr ⟨by decide +kernel, by decide +kernel, rfl⟩)⟩
theorem i8_search_89 : IJ cX8_search 89 92 146 (.if_icmp .eq) := ⟨57, by decide +kernel, rfl, by decide⟩
theorem i8_search_92 : ILa cX8_search 92 93 0 := Or.inl ⟨0, by decide +kernel, rfl, rfl⟩
theorem i8_search_93 : IGF m8_search 93 96 8 17 := ⟨43, by decide +kernel, rfl, by decide, by decide, q_812⟩
theorem i8_search_96 : ILi cX8_search 96 98 4 := Or.inr ⟨by decide +kernel, rfl⟩
theorem i8_search_98 : IO cX8_search 98 99 .iaload := ⟨by decide +kernel, rfl⟩
theorem i8_search_99 : IC cX8_search 99 102 (-1009) := ⟨by decide, Or.inr (Or.inr ⟨by decide +kernel, by decide +kernel, rfl⟩)⟩
theorem i8_search_102 : IJ cX8_search 102 105 146 (.if_icmp .ne) := ⟨44, by decide +kernel, rfl, by decide⟩
theorem i8_search_105 : ILa cX8_search 105 106 0 := Or.inl ⟨0, by decide +kernel, rfl, rfl⟩
theorem i8_search_106 : IGF m8_search 106 109 8 17 := ⟨43, by decide +kernel, rfl, by decide, by decide, q_812⟩
theorem i8_search_109 : ILi cX8_search 109 111 4 := Or.inr ⟨by decide +kernel, rfl⟩
theorem i8_search_111 : ILa cX8_search 111 112 0 := Or.inl ⟨0, by decide +kernel, rfl, rfl⟩
theorem i8_search_112 : IGF m8_search 112 115 8 17 := ⟨43, by decide +kernel, rfl, by decide, by decide, q_812⟩
theorem i8_search_115 : ILa cX8_search 115 116 0 := Or.inl ⟨0, by decide +kernel, rfl, rfl⟩
theorem i8_search_116 : IGF m8_search 116 119 8 18 := ⟨46, by decide +kernel, rfl, by decide, by decide, q_813⟩
theorem i8_search_119 : ILi cX8_search 119 120 2 := Or.inl ⟨2, by decide +kernel, rfl, rfl⟩
theorem i8_search_120 : IO cX8_search 120 121 .iaload := ⟨by decide +kernel, rfl⟩
theorem i8_search_121 : IO cX8_search 121 122 .iaload := ⟨by decide +kernel, rfl⟩
theorem i8_search_122 : IC cX8_search 122 123 (1) := ⟨by decide, Or.inl ⟨by decide +kernel, rfl⟩⟩
theorem i8_search_123 : IO cX8_search 123 124 .iadd := ⟨by decide +kernel, rfl⟩
theorem i8_search_124 : IO cX8_search 124 125 .iastore := ⟨by decide +kernel, rfl⟩
theorem i8_search_125 : ILa cX8_search 125 126 0 := Or.inl ⟨0, by decide +kernel, rfl, rfl⟩
theorem i8_search_126 : IGF m8_search 126 129 8 18 := ⟨46, by decide +kernel, rfl, by decide, by decide, q_813⟩
theorem i8_search_129 : ILa cX8_search 129 130 0 := Or.inl ⟨0, by decide +kernel, rfl, rfl⟩
theorem i8_search_130 : IGF m8_search 130 133 8 19 := ⟨164, by decide +kernel, rfl, by decide, by decide, q_814⟩
theorem i8_search_133 : ILi cX8_search 133 135 4 := Or.inr ⟨by decide +kernel, rfl⟩
theorem i8_search_135 : IO cX8_search 135 136 .iastore := ⟨by decide +kernel, rfl⟩
theorem i8_search_136 : ILa cX8_search 136 137 0 := Or.inl ⟨0, by decide +kernel, rfl, rfl⟩
theorem i8_search_137 : IO cX8_search 137 138 .dup := ⟨by decide +kernel, rfl⟩
theorem i8_search_138 : IGF m8_search 138 141 8 19 := ⟨164, by decide +kernel, rfl, by decide, by decide, q_814⟩
theorem i8_search_141 : IC cX8_search 141 142 (1) := ⟨by decide, Or.inl ⟨by decide +kernel, rfl⟩⟩
theorem i8_search_142 : IO cX8_search 142 143 .iadd := ⟨by decide +kernel, rfl⟩
theorem i8_search_143 : IPF m8_search 143 146 8 19 := ⟨164, by decide +kernel, rfl, by decide, by decide, q_814, rfl⟩
theorem i8_search_146 : II cX8_search 146 149 3 (1) := ⟨by decide +kernel, by decide, rfl⟩
theorem i8_search_149 : IJ cX8_search 149 152 31 .goto := ⟨-118, by decide +kernel, rfl, by decide⟩
theorem i8_search_152 : II cX8_search 152 155 2 (1) := ⟨by decide +kernel, by decide, rfl⟩
theorem i8_search_155 : IJ cX8_search 155 158 21 .goto := ⟨-134, by decide +kernel, rfl, by decide⟩
theorem i8_search_158 : IO cX8_search 158 159 .return_ := ⟨by decide +kernel, rfl⟩
theorem i8_isIndispensable_0 : ILa cX8_isIndispensable 0 1 0 := Or.inl ⟨0, by decide +kernel, rfl, rfl⟩
theorem i8_isIndispensable_1 : ILi cX8_isIndispensable 1 2 1 := Or.inl ⟨1, by decide +kernel, rfl, rfl⟩
theorem i8_isIndispensable_2 : ICV m8_isIndispensable 2 5 m8_isElement := ⟨146, by decide +kernel, rfl, q_926⟩
theorem i8_isIndispensable_5 : IJ cX8_isIndispensable 5 8 12 (.ifCond .ne) := ⟨7, by decide +kernel, rfl, by decide⟩
theorem i8_isIndispensable_8 : IC cX8_isIndispensable 8 11 (-1001) := ⟨by decide, Or.inr (Or.inr ⟨by decide +kernel, by decide +kernel, rfl⟩)⟩
theorem i8_isIndispensable_11 : IO cX8_isIndispensable 11 12 .ireturn := ⟨by decide +kernel, rfl⟩
theorem i8_isIndispensable_12 : ILa cX8_isIndispensable 12 13 0 := Or.inl ⟨0, by decide +kernel, rfl, rfl⟩
theorem i8_isIndispensable_13 : ICV m8_isIndispensable 13 16 m8_isAllPositive := ⟨143, by decide +kernel, rfl, q_914⟩
theorem i8_isIndispensable_16 : IJ cX8_isIndispensable 16 19 23 (.ifCond .ne) := ⟨7, by decide +kernel, rfl, by decide⟩
theorem i8_isIndispensable_19 : IC cX8_isIndispensable 19 22 (-1002) := ⟨by decide, Or.inr (Or.inr ⟨by decide +kernel, by decide +kernel, rfl⟩)⟩
theorem i8_isIndispensable_22 : IO cX8_isIndispensable 22 23 .ireturn := ⟨by decide +kernel, rfl⟩
theorem i8_isIndispensable_23 : ILa cX8_isIndispensable 23 24 0 := Or.inl ⟨0, by decide +kernel, rfl, rfl⟩
theorem i8_isIndispensable_24 : ILi cX8_isIndispensable 24 25 1 := Or.inl ⟨1, by decide +kernel, rfl, rfl⟩
theorem i8_isIndispensable_25 : IC cX8_isIndispensable 25 26 (1) := ⟨by decide, Or.inl ⟨by decide +kernel, rfl⟩⟩
theorem i8_isIndispensable_26 : ICV m8_isIndispensable 26 29 m8_setGoal := ⟨171, by decide +kernel, rfl, q_942⟩
theorem i8_isIndispensable_29 : ILa cX8_isIndispensable 29 30 0 := Or.inl ⟨0, by decide +kernel, rfl, rfl⟩
theorem i8_isIndispensable_30 : ICV m8_isIndispensable 30 33 m8_layFiber := ⟨174, by decide +kernel, rfl, q_946⟩
theorem i8_isIndispensable_33 : ILa cX8_isIndispensable 33 34 0 := Or.inl ⟨0, by decide +kernel, rfl, rfl⟩
theorem i8_isIndispensable_34 : IGF m8_isIndispensable 34 37 8 14 := ⟨152, by decide +kernel, rfl, by decide, by decide, q_809⟩
theorem i8_isIndispensable_37 : IC cX8_isIndispensable 37 38 (2) := ⟨by decide, Or.inl ⟨by decide +kernel, rfl⟩⟩
theorem i8_isIndispensable_38 : IJ cX8_isIndispensable 38 41 45 (.if_icmp .ne) := ⟨7, by decide +kernel, rfl, by decide⟩
theorem i8_isIndispensable_41 : IC cX8_isIndispensable 41 42 (1) := ⟨by decide, Or.inl ⟨by decide +kernel, rfl⟩⟩
theorem i8_isIndispensable_42 : IJ cX8_isIndispensable 42 45 46 .goto := ⟨4, by decide +kernel, rfl, by decide⟩
theorem i8_isIndispensable_45 : IC cX8_isIndispensable 45 46 (0) := ⟨by decide, Or.inl ⟨by decide +kernel, rfl⟩⟩
theorem i8_isIndispensable_46 : IO cX8_isIndispensable 46 47 .ireturn := ⟨by decide +kernel, rfl⟩
theorem i8_setVector_0 : ILa cX8_setVector 0 1 0 := Or.inl ⟨0, by decide +kernel, rfl, rfl⟩
theorem i8_setVector_1 : ILi cX8_setVector 1 2 1 := Or.inl ⟨1, by decide +kernel, rfl, rfl⟩
theorem i8_setVector_2 : ICV m8_setVector 2 5 m8_isColumn := ⟨124, by decide +kernel, rfl, q_878⟩
theorem i8_setVector_5 : IJ cX8_setVector 5 8 19 (.ifCond .eq) := ⟨14, by decide +kernel, rfl, by decide⟩
theorem i8_setVector_8 : ILi cX8_setVector 8 9 2 := Or.inl ⟨2, by decide +kernel, rfl, rfl⟩
theorem i8_setVector_9 : IC cX8_setVector 9 11 (-30) := ⟨by decide, Or.inr (Or.inl ⟨by decide +kernel, by decide +kernel, rfl⟩)⟩
theorem i8_setVector_11 : IC cX8_setVector 11 13 (30) := ⟨by decide, Or.inr (Or.inl ⟨by decide +kernel, by decide +kernel, rfl⟩)⟩
theorem i8_setVector_13 : ICS m8_setVector 13 16 yX8_in := ⟨56, by decide +kernel, rfl, q_863⟩
theorem i8_setVector_16 : IJ cX8_setVector 16 19 23 (.ifCond .ne) := ⟨7, by decide +kernel, rfl, by decide⟩
theorem i8_setVector_19 : IC cX8_setVector 19 22 (-1001) := ⟨by decide, Or.inr (Or.inr ⟨by decide +kernel, by decide +kernel, rfl⟩)⟩
theorem i8_setVector_22 : IO cX8_setVector 22 23 .ireturn := ⟨by decide +kernel, rfl⟩
theorem i8_setVector_23 : ILa cX8_setVector 23 24 0 := Or.inl ⟨0, by decide +kernel, rfl, rfl⟩
theorem i8_setVector_24 : ICV m8_setVector 24 27 m8_keep := ⟨121, by decide +kernel, rfl, q_866⟩
theorem i8_setVector_27 : ILa cX8_setVector 27 28 0 := Or.inl ⟨0, by decide +kernel, rfl, rfl⟩
theorem i8_setVector_28 : IGF m8_setVector 28 31 8 0 := ⟨7, by decide +kernel, rfl, by decide, by decide, q_795⟩
theorem i8_setVector_31 : IC cX8_setVector 31 33 (10) := ⟨by decide, Or.inr (Or.inl ⟨by decide +kernel, by decide +kernel, rfl⟩)⟩
theorem i8_setVector_33 : ILi cX8_setVector 33 34 1 := Or.inl ⟨1, by decide +kernel, rfl, rfl⟩
theorem i8_setVector_34 : IO cX8_setVector 34 35 .iadd := ⟨by decide +kernel, rfl⟩
theorem i8_setVector_35 : IO cX8_setVector 35 36 .iaload := ⟨by decide +kernel, rfl⟩
theorem i8_setVector_36 : ISi cX8_setVector 36 37 3 := Or.inl ⟨3, by decide +kernel, rfl, rfl⟩
theorem i8_setVector_37 : ILa cX8_setVector 37 38 0 := Or.inl ⟨0, by decide +kernel, rfl, rfl⟩
theorem i8_setVector_38 : IGF m8_setVector 38 41 8 0 := ⟨7, by decide +kernel, rfl, by decide, by decide, q_795⟩
theorem i8_setVector_41 : IC cX8_setVector 41 43 (10) := ⟨by decide, Or.inr (Or.inl ⟨by decide +kernel, by decide +kernel, rfl⟩)⟩
theorem i8_setVector_43 : ILi cX8_setVector 43 44 1 := Or.inl ⟨1, by decide +kernel, rfl, rfl⟩
theorem i8_setVector_44 : IO cX8_setVector 44 45 .iadd := ⟨by decide +kernel, rfl⟩
theorem i8_setVector_45 : ILi cX8_setVector 45 46 2 := Or.inl ⟨2, by decide +kernel, rfl, rfl⟩
theorem i8_setVector_46 : IO cX8_setVector 46 47 .iastore := ⟨by decide +kernel, rfl⟩
theorem i8_setVector_47 : ILi cX8_setVector 47 48 3 := Or.inl ⟨3, by decide +kernel, rfl, rfl⟩
theorem i8_setVector_48 : IO cX8_setVector 48 49 .ireturn := ⟨by decide +kernel, rfl⟩
theorem i8_isKernelVector_0 : ILa cX8_isKernelVector 0 1 0 := Or.inl ⟨0, by decide +kernel, rfl, rfl⟩
theorem i8_isKernelVector_1 : IC cX8_isKernelVector 1 2 (0) := ⟨by decide, Or.inl ⟨by decide +kernel, rfl⟩⟩
theorem i8_isKernelVector_2 : ILa cX8_isKernelVector 2 3 0 := Or.inl ⟨0, by decide +kernel, rfl, rfl⟩
theorem i8_isKernelVector_3 : IGF m8_isKernelVector 3 6 8 0 := ⟨7, by decide +kernel, rfl, by decide, by decide, q_795⟩
theorem i8_isKernelVector_6 : IC cX8_isKernelVector 6 8 (10) := ⟨by decide, Or.inr (Or.inl ⟨by decide +kernel, by decide +kernel, rfl⟩)⟩
theorem i8_isKernelVector_8 : ILa cX8_isKernelVector 8 9 0 := Or.inl ⟨0, by decide +kernel, rfl, rfl⟩
theorem i8_isKernelVector_9 : IGF m8_isKernelVector 9 12 8 0 := ⟨7, by decide +kernel, rfl, by decide, by decide, q_795⟩
theorem i8_isKernelVector_12 : IC cX8_isKernelVector 12 13 (1) := ⟨by decide, Or.inl ⟨by decide +kernel, rfl⟩⟩
theorem i8_isKernelVector_13 : IO cX8_isKernelVector 13 14 .iaload := ⟨by decide +kernel, rfl⟩
theorem i8_isKernelVector_14 : ICV m8_isKernelVector 14 17 m8_product := ⟨77, by decide +kernel, rfl, q_765⟩
theorem i8_isKernelVector_17 : IJ cX8_isKernelVector 17 20 44 (.ifCond .ne) := ⟨27, by decide +kernel, rfl, by decide⟩
theorem i8_isKernelVector_20 : ILa cX8_isKernelVector 20 21 0 := Or.inl ⟨0, by decide +kernel, rfl, rfl⟩
theorem i8_isKernelVector_21 : IC cX8_isKernelVector 21 22 (1) := ⟨by decide, Or.inl ⟨by decide +kernel, rfl⟩⟩
theorem i8_isKernelVector_22 : ILa cX8_isKernelVector 22 23 0 := Or.inl ⟨0, by decide +kernel, rfl, rfl⟩
theorem i8_isKernelVector_23 : IGF m8_isKernelVector 23 26 8 0 := ⟨7, by decide +kernel, rfl, by decide, by decide, q_795⟩
theorem i8_isKernelVector_26 : IC cX8_isKernelVector 26 28 (10) := ⟨by decide, Or.inr (Or.inl ⟨by decide +kernel, by decide +kernel, rfl⟩)⟩
theorem i8_isKernelVector_28 : ILa cX8_isKernelVector 28 29 0 := Or.inl ⟨0, by decide +kernel, rfl, rfl⟩
theorem i8_isKernelVector_29 : IGF m8_isKernelVector 29 32 8 0 := ⟨7, by decide +kernel, rfl, by decide, by decide, q_795⟩
theorem i8_isKernelVector_32 : IC cX8_isKernelVector 32 33 (1) := ⟨by decide, Or.inl ⟨by decide +kernel, rfl⟩⟩
theorem i8_isKernelVector_33 : IO cX8_isKernelVector 33 34 .iaload := ⟨by decide +kernel, rfl⟩
theorem i8_isKernelVector_34 : ICV m8_isKernelVector 34 37 m8_product := ⟨77, by decide +kernel, rfl, q_765⟩
theorem i8_isKernelVector_37 : IJ cX8_isKernelVector 37 40 44 (.ifCond .ne) := ⟨7, by decide +kernel, rfl, by decide⟩
theorem i8_isKernelVector_40 : IC cX8_isKernelVector 40 41 (1) := ⟨by decide, Or.inl ⟨by decide +kernel, rfl⟩⟩
theorem i8_isKernelVector_41 : IJ cX8_isKernelVector 41 44 45 .goto := ⟨4, by decide +kernel, rfl, by decide⟩
theorem i8_isKernelVector_44 : IC cX8_isKernelVector 44 45 (0) := ⟨by decide, Or.inl ⟨by decide +kernel, rfl⟩⟩
theorem i8_isKernelVector_45 : IO cX8_isKernelVector 45 46 .ireturn := ⟨by decide +kernel, rfl⟩
theorem i8_isInKernel_0 : ILa cX8_isInKernel 0 1 0 := Or.inl ⟨0, by decide +kernel, rfl, rfl⟩
theorem i8_isInKernel_1 : ICV m8_isInKernel 1 4 m8_isKernelVector := ⟨177, by decide +kernel, rfl, q_962⟩
theorem i8_isInKernel_4 : IJ cX8_isInKernel 4 7 11 (.ifCond .eq) := ⟨7, by decide +kernel, rfl, by decide⟩
theorem i8_isInKernel_7 : IC cX8_isInKernel 7 8 (1) := ⟨by decide, Or.inl ⟨by decide +kernel, rfl⟩⟩
theorem i8_isInKernel_8 : IJ cX8_isInKernel 8 11 12 .goto := ⟨4, by decide +kernel, rfl, by decide⟩
theorem i8_isInKernel_11 : IC cX8_isInKernel 11 12 (0) := ⟨by decide, Or.inl ⟨by decide +kernel, rfl⟩⟩
theorem i8_isInKernel_12 : IO cX8_isInKernel 12 13 .ireturn := ⟨by decide +kernel, rfl⟩
theorem i8_firstConformal_0 : IC cX8_firstConformal 0 1 (0) := ⟨by decide, Or.inl ⟨by decide +kernel, rfl⟩⟩
theorem i8_firstConformal_1 : ISi cX8_firstConformal 1 2 1 := Or.inl ⟨1, by decide +kernel, rfl, rfl⟩
theorem i8_firstConformal_2 : ILi cX8_firstConformal 2 3 1 := Or.inl ⟨1, by decide +kernel, rfl, rfl⟩
theorem i8_firstConformal_3 : ILa cX8_firstConformal 3 4 0 := Or.inl ⟨0, by decide +kernel, rfl, rfl⟩
theorem i8_firstConformal_4 : IGF m8_firstConformal 4 7 8 5 := ⟨70, by decide +kernel, rfl, by decide, by decide, q_800⟩
theorem i8_firstConformal_7 : IJ cX8_firstConformal 7 10 49 (.if_icmp .ge) := ⟨42, by decide +kernel, rfl, by decide⟩
theorem i8_firstConformal_10 : IC cX8_firstConformal 10 11 (1) := ⟨by decide, Or.inl ⟨by decide +kernel, rfl⟩⟩
theorem i8_firstConformal_11 : ISi cX8_firstConformal 11 12 2 := Or.inl ⟨2, by decide +kernel, rfl, rfl⟩
theorem i8_firstConformal_12 : ILi cX8_firstConformal 12 13 2 := Or.inl ⟨2, by decide +kernel, rfl, rfl⟩
theorem i8_firstConformal_13 : IC cX8_firstConformal 13 14 (-1) := ⟨by decide, Or.inl ⟨by decide +kernel, rfl⟩⟩
theorem i8_firstConformal_14 : IJ cX8_firstConformal 14 17 43 (.if_icmp .lt) := ⟨29, by decide +kernel, rfl, by decide⟩
theorem i8_firstConformal_17 : ILa cX8_firstConformal 17 18 0 := Or.inl ⟨0, by decide +kernel, rfl, rfl⟩
theorem i8_firstConformal_18 : ILi cX8_firstConformal 18 19 1 := Or.inl ⟨1, by decide +kernel, rfl, rfl⟩
theorem i8_firstConformal_19 : ILi cX8_firstConformal 19 20 2 := Or.inl ⟨2, by decide +kernel, rfl, rfl⟩
theorem i8_firstConformal_20 : ILa cX8_firstConformal 20 21 0 := Or.inl ⟨0, by decide +kernel, rfl, rfl⟩
theorem i8_firstConformal_21 : IGF m8_firstConformal 21 24 8 20 := ⟨49, by decide +kernel, rfl, by decide, by decide, q_815⟩
theorem i8_firstConformal_24 : IC cX8_firstConformal 24 25 (0) := ⟨by decide, Or.inl ⟨by decide +kernel, rfl⟩⟩
theorem i8_firstConformal_25 : ICV m8_firstConformal 25 28 m8_isConformal := ⟨117, by decide +kernel, rfl, q_791⟩
theorem i8_firstConformal_28 : IJ cX8_firstConformal 28 31 37 (.ifCond .eq) := ⟨9, by decide +kernel, rfl, by decide⟩
theorem i8_firstConformal_31 : ILi cX8_firstConformal 31 32 2 := Or.inl ⟨2, by decide +kernel, rfl, rfl⟩
theorem i8_firstConformal_32 : ILi cX8_firstConformal 32 33 1 := Or.inl ⟨1, by decide +kernel, rfl, rfl⟩
theorem i8_firstConformal_33 : IC cX8_firstConformal 33 34 (1) := ⟨by decide, Or.inl ⟨by decide +kernel, rfl⟩⟩
theorem i8_firstConformal_34 : IO cX8_firstConformal 34 35 .iadd := ⟨by decide +kernel, rfl⟩
theorem i8_firstConformal_35 : IO cX8_firstConformal 35 36 .imul := ⟨by decide +kernel, rfl⟩
theorem i8_firstConformal_36 : IO cX8_firstConformal 36 37 .ireturn := ⟨by decide +kernel, rfl⟩
theorem i8_firstConformal_37 : II cX8_firstConformal 37 40 2 (-2) := ⟨by decide +kernel, by decide, rfl⟩
theorem i8_firstConformal_40 : IJ cX8_firstConformal 40 43 12 .goto := ⟨-28, by decide +kernel, rfl, by decide⟩
theorem i8_firstConformal_43 : II cX8_firstConformal 43 46 1 (1) := ⟨by decide +kernel, by decide, rfl⟩
theorem i8_firstConformal_46 : IJ cX8_firstConformal 46 49 2 .goto := ⟨-44, by decide +kernel, rfl, by decide⟩
theorem i8_firstConformal_49 : IC cX8_firstConformal 49 50 (0) := ⟨by decide, Or.inl ⟨by decide +kernel, rfl⟩⟩
theorem i8_firstConformal_50 : IO cX8_firstConformal 50 51 .ireturn := ⟨by decide +kernel, rfl⟩
theorem i8_decompose_0 : IC cX8_decompose 0 1 (0) := ⟨by decide, Or.inl ⟨by decide +kernel, rfl⟩⟩
theorem i8_decompose_1 : ISi cX8_decompose 1 2 2 := Or.inl ⟨2, by decide +kernel, rfl, rfl⟩
theorem i8_decompose_2 : ILi cX8_decompose 2 3 2 := Or.inl ⟨2, by decide +kernel, rfl, rfl⟩
theorem i8_decompose_3 : IC cX8_decompose 3 4 (4) := ⟨by decide, Or.inl ⟨by decide +kernel, rfl⟩⟩
theorem i8_decompose_4 : IJ cX8_decompose 4 7 28 (.if_icmp .ge) := ⟨24, by decide +kernel, rfl, by decide⟩
theorem i8_decompose_7 : ILa cX8_decompose 7 8 0 := Or.inl ⟨0, by decide +kernel, rfl, rfl⟩
theorem i8_decompose_8 : IGF m8_decompose 8 11 8 20 := ⟨49, by decide +kernel, rfl, by decide, by decide, q_815⟩
theorem i8_decompose_11 : ILi cX8_decompose 11 12 2 := Or.inl ⟨2, by decide +kernel, rfl, rfl⟩
theorem i8_decompose_12 : ILa cX8_decompose 12 13 0 := Or.inl ⟨0, by decide +kernel, rfl, rfl⟩
theorem i8_decompose_13 : IGF m8_decompose 13 16 8 0 := ⟨7, by decide +kernel, rfl, by decide, by decide, q_795⟩
theorem i8_decompose_16 : IC cX8_decompose 16 18 (10) := ⟨by decide, Or.inr (Or.inl ⟨by decide +kernel, by decide +kernel, rfl⟩)⟩
theorem i8_decompose_18 : ILi cX8_decompose 18 19 2 := Or.inl ⟨2, by decide +kernel, rfl, rfl⟩
theorem i8_decompose_19 : IO cX8_decompose 19 20 .iadd := ⟨by decide +kernel, rfl⟩
theorem i8_decompose_20 : IO cX8_decompose 20 21 .iaload := ⟨by decide +kernel, rfl⟩
theorem i8_decompose_21 : IO cX8_decompose 21 22 .iastore := ⟨by decide +kernel, rfl⟩
theorem i8_decompose_22 : II cX8_decompose 22 25 2 (1) := ⟨by decide +kernel, by decide, rfl⟩
theorem i8_decompose_25 : IJ cX8_decompose 25 28 2 .goto := ⟨-23, by decide +kernel, rfl, by decide⟩
theorem i8_decompose_28 : IC cX8_decompose 28 29 (0) := ⟨by decide, Or.inl ⟨by decide +kernel, rfl⟩⟩
theorem i8_decompose_29 : ISi cX8_decompose 29 30 2 := Or.inl ⟨2, by decide +kernel, rfl, rfl⟩
theorem i8_decompose_30 : ILa cX8_decompose 30 31 0 := Or.inl ⟨0, by decide +kernel, rfl, rfl⟩
theorem i8_decompose_31 : IGF m8_decompose 31 34 8 20 := ⟨49, by decide +kernel, rfl, by decide, by decide, q_815⟩
theorem i8_decompose_34 : IC cX8_decompose 34 35 (0) := ⟨by decide, Or.inl ⟨by decide +kernel, rfl⟩⟩
theorem i8_decompose_35 : ICS m8_decompose 35 38 yX8_norm := ⟨110, by decide +kernel, rfl, q_784⟩
theorem i8_decompose_38 : IJ cX8_decompose 38 41 119 (.ifCond .le) := ⟨81, by decide +kernel, rfl, by decide⟩
theorem i8_decompose_41 : ILa cX8_decompose 41 42 0 := Or.inl ⟨0, by decide +kernel, rfl, rfl⟩
theorem i8_decompose_42 : ICV m8_decompose 42 45 m8_firstConformal := ⟨180, by decide +kernel, rfl, q_974⟩
theorem i8_decompose_45 : ISi cX8_decompose 45 46 3 := Or.inl ⟨3, by decide +kernel, rfl, rfl⟩
theorem i8_decompose_46 : ILi cX8_decompose 46 47 2 := Or.inl ⟨2, by decide +kernel, rfl, rfl⟩
theorem i8_decompose_47 : ILi cX8_decompose 47 48 1 := Or.inl ⟨1, by decide +kernel, rfl, rfl⟩
theorem i8_decompose_48 : IJ cX8_decompose 48 51 53 (.if_icmp .ne) := ⟨5, by decide +kernel, rfl, by decide⟩
theorem i8_decompose_51 : ILi cX8_decompose 51 52 3 := Or.inl ⟨3, by decide +kernel, rfl, rfl⟩
theorem i8_decompose_52 : IO cX8_decompose 52 53 .ireturn := ⟨by decide +kernel, rfl⟩
theorem i8_decompose_53 : IC cX8_decompose 53 54 (0) := ⟨by decide, Or.inl ⟨by decide +kernel, rfl⟩⟩
theorem i8_decompose_54 : ISi cX8_decompose 54 56 4 := Or.inr ⟨by decide +kernel, rfl⟩
theorem i8_decompose_56 : ILi cX8_decompose 56 58 4 := Or.inr ⟨by decide +kernel, rfl⟩
theorem i8_decompose_58 : IC cX8_decompose 58 59 (4) := ⟨by decide, Or.inl ⟨by decide +kernel, rfl⟩⟩
theorem i8_decompose_59 : IJ cX8_decompose 59 62 113 (.if_icmp .ge) := ⟨54, by decide +kernel, rfl, by decide⟩
theorem i8_decompose_62 : ILa cX8_decompose 62 63 0 := Or.inl ⟨0, by decide +kernel, rfl, rfl⟩
theorem i8_decompose_63 : IGF m8_decompose 63 66 8 20 := ⟨49, by decide +kernel, rfl, by decide, by decide, q_815⟩
theorem i8_decompose_66 : ILi cX8_decompose 66 68 4 := Or.inr ⟨by decide +kernel, rfl⟩
theorem i8_decompose_68 : IO cX8_decompose 68 69 .dup2 := ⟨by decide +kernel, rfl⟩
theorem i8_decompose_69 : IO cX8_decompose 69 70 .iaload := ⟨by decide +kernel, rfl⟩
theorem i8_decompose_70 : ILi cX8_decompose 70 71 3 := Or.inl ⟨3, by decide +kernel, rfl, rfl⟩
theorem i8_decompose_71 : IJ cX8_decompose 71 74 90 (.ifCond .le) := ⟨19, by decide +kernel, rfl, by decide⟩
theorem i8_decompose_74 : ILa cX8_decompose 74 75 0 := Or.inl ⟨0, by decide +kernel, rfl, rfl⟩
theorem i8_decompose_75 : IGF m8_decompose 75 78 8 6 := ⟨19, by decide +kernel, rfl, by decide, by decide, q_801⟩
theorem i8_decompose_78 : IC cX8_decompose 78 79 (4) := ⟨by decide, Or.inl ⟨by decide +kernel, rfl⟩⟩
theorem i8_decompose_79 : ILi cX8_decompose 79 80 3 := Or.inl ⟨3, by decide +kernel, rfl, rfl⟩
theorem i8_decompose_80 : IC cX8_decompose 80 81 (1) := ⟨by decide, Or.inl ⟨by decide +kernel, rfl⟩⟩
theorem i8_decompose_81 : IO cX8_decompose 81 82 .isub := ⟨by decide +kernel, rfl⟩
theorem i8_decompose_82 : IO cX8_decompose 82 83 .imul := ⟨by decide +kernel, rfl⟩
theorem i8_decompose_83 : ILi cX8_decompose 83 85 4 := Or.inr ⟨by decide +kernel, rfl⟩
theorem i8_decompose_85 : IO cX8_decompose 85 86 .iadd := ⟨by decide +kernel, rfl⟩
theorem i8_decompose_86 : IO cX8_decompose 86 87 .iaload := ⟨by decide +kernel, rfl⟩
theorem i8_decompose_87 : IJ cX8_decompose 87 90 105 .goto := ⟨18, by decide +kernel, rfl, by decide⟩
theorem i8_decompose_90 : ILa cX8_decompose 90 91 0 := Or.inl ⟨0, by decide +kernel, rfl, rfl⟩
theorem i8_decompose_91 : IGF m8_decompose 91 94 8 6 := ⟨19, by decide +kernel, rfl, by decide, by decide, q_801⟩
theorem i8_decompose_94 : IC cX8_decompose 94 95 (4) := ⟨by decide, Or.inl ⟨by decide +kernel, rfl⟩⟩
theorem i8_decompose_95 : ILi cX8_decompose 95 96 3 := Or.inl ⟨3, by decide +kernel, rfl, rfl⟩
theorem i8_decompose_96 : IO cX8_decompose 96 97 .ineg := ⟨by decide +kernel, rfl⟩
theorem i8_decompose_97 : IC cX8_decompose 97 98 (1) := ⟨by decide, Or.inl ⟨by decide +kernel, rfl⟩⟩
theorem i8_decompose_98 : IO cX8_decompose 98 99 .isub := ⟨by decide +kernel, rfl⟩
theorem i8_decompose_99 : IO cX8_decompose 99 100 .imul := ⟨by decide +kernel, rfl⟩
theorem i8_decompose_100 : ILi cX8_decompose 100 102 4 := Or.inr ⟨by decide +kernel, rfl⟩
theorem i8_decompose_102 : IO cX8_decompose 102 103 .iadd := ⟨by decide +kernel, rfl⟩
theorem i8_decompose_103 : IO cX8_decompose 103 104 .iaload := ⟨by decide +kernel, rfl⟩
theorem i8_decompose_104 : IO cX8_decompose 104 105 .ineg := ⟨by decide +kernel, rfl⟩
theorem i8_decompose_105 : IO cX8_decompose 105 106 .isub := ⟨by decide +kernel, rfl⟩
theorem i8_decompose_106 : IO cX8_decompose 106 107 .iastore := ⟨by decide +kernel, rfl⟩
theorem i8_decompose_107 : II cX8_decompose 107 110 4 (1) := ⟨by decide +kernel, by decide, rfl⟩
theorem i8_decompose_110 : IJ cX8_decompose 110 113 56 .goto := ⟨-54, by decide +kernel, rfl, by decide⟩
theorem i8_decompose_113 : II cX8_decompose 113 116 2 (1) := ⟨by decide +kernel, by decide, rfl⟩
theorem i8_decompose_116 : IJ cX8_decompose 116 119 30 .goto := ⟨-86, by decide +kernel, rfl, by decide⟩
theorem i8_decompose_119 : ILi cX8_decompose 119 120 1 := Or.inl ⟨1, by decide +kernel, rfl, rfl⟩
theorem i8_decompose_120 : IJ cX8_decompose 120 123 127 (.ifCond .ge) := ⟨7, by decide +kernel, rfl, by decide⟩
theorem i8_decompose_123 : ILi cX8_decompose 123 124 2 := Or.inl ⟨2, by decide +kernel, rfl, rfl⟩
theorem i8_decompose_124 : IJ cX8_decompose 124 127 128 .goto := ⟨4, by decide +kernel, rfl, by decide⟩
theorem i8_decompose_127 : IC cX8_decompose 127 128 (0) := ⟨by decide, Or.inl ⟨by decide +kernel, rfl⟩⟩
theorem i8_decompose_128 : IO cX8_decompose 128 129 .ireturn := ⟨by decide +kernel, rfl⟩
theorem i8_decompositionLength_0 : ILa cX8_decompositionLength 0 1 0 := Or.inl ⟨0, by decide +kernel, rfl, rfl⟩
theorem i8_decompositionLength_1 : ICV m8_decompositionLength 1 4 m8_isKernelVector := ⟨177, by decide +kernel, rfl, q_962⟩
theorem i8_decompositionLength_4 : IJ cX8_decompositionLength 4 7 15 (.ifCond .eq) := ⟨11, by decide +kernel, rfl, by decide⟩
theorem i8_decompositionLength_7 : ILa cX8_decompositionLength 7 8 0 := Or.inl ⟨0, by decide +kernel, rfl, rfl⟩
theorem i8_decompositionLength_8 : IC cX8_decompositionLength 8 9 (-1) := ⟨by decide, Or.inl ⟨by decide +kernel, rfl⟩⟩
theorem i8_decompositionLength_9 : ICV m8_decompositionLength 9 12 m8_decompose := ⟨183, by decide +kernel, rfl, q_970⟩
theorem i8_decompositionLength_12 : IJ cX8_decompositionLength 12 15 18 .goto := ⟨6, by decide +kernel, rfl, by decide⟩
theorem i8_decompositionLength_15 : IC cX8_decompositionLength 15 18 (-1002) := ⟨by decide, Or.inr (Or.inr ⟨by decide +kernel, by decide +kernel, rfl⟩)⟩
theorem i8_decompositionLength_18 : IO cX8_decompositionLength 18 19 .ireturn := ⟨by decide +kernel, rfl⟩
theorem i8_decompositionStep_0 : ILi cX8_decompositionStep 0 1 1 := Or.inl ⟨1, by decide +kernel, rfl, rfl⟩
theorem i8_decompositionStep_1 : IJ cX8_decompositionStep 1 4 8 (.ifCond .ge) := ⟨7, by decide +kernel, rfl, by decide⟩
theorem i8_decompositionStep_4 : IC cX8_decompositionStep 4 7 (-1001) := ⟨by decide, Or.inr (Or.inr ⟨by decide +kernel, by decide +kernel, rfl⟩)⟩
theorem i8_decompositionStep_7 : IO cX8_decompositionStep 7 8 .ireturn := ⟨by decide +kernel, rfl⟩
theorem i8_decompositionStep_8 : ILa cX8_decompositionStep 8 9 0 := Or.inl ⟨0, by decide +kernel, rfl, rfl⟩
theorem i8_decompositionStep_9 : ICV m8_decompositionStep 9 12 m8_isKernelVector := ⟨177, by decide +kernel, rfl, q_962⟩
theorem i8_decompositionStep_12 : IJ cX8_decompositionStep 12 15 19 (.ifCond .ne) := ⟨7, by decide +kernel, rfl, by decide⟩
theorem i8_decompositionStep_15 : IC cX8_decompositionStep 15 18 (-1002) := ⟨by decide, Or.inr (Or.inr ⟨by decide +kernel, by decide +kernel, rfl⟩)⟩
theorem i8_decompositionStep_18 : IO cX8_decompositionStep 18 19 .ireturn := ⟨by decide +kernel, rfl⟩
theorem i8_decompositionStep_19 : ILa cX8_decompositionStep 19 20 0 := Or.inl ⟨0, by decide +kernel, rfl, rfl⟩
theorem i8_decompositionStep_20 : ILi cX8_decompositionStep 20 21 1 := Or.inl ⟨1, by decide +kernel, rfl, rfl⟩
theorem i8_decompositionStep_21 : ICV m8_decompositionStep 21 24 m8_decompose := ⟨183, by decide +kernel, rfl, q_970⟩
theorem i8_decompositionStep_24 : ISi cX8_decompositionStep 24 25 2 := Or.inl ⟨2, by decide +kernel, rfl, rfl⟩
theorem i8_decompositionStep_25 : ILi cX8_decompositionStep 25 26 2 := Or.inl ⟨2, by decide +kernel, rfl, rfl⟩
theorem i8_decompositionStep_26 : IJ cX8_decompositionStep 26 29 35 (.ifCond .ne) := ⟨9, by decide +kernel, rfl, by decide⟩
theorem i8_decompositionStep_29 : IC cX8_decompositionStep 29 32 (-1009) := ⟨by decide, Or.inr (Or.inr ⟨by decide +kernel, by decide +kernel, rfl⟩)⟩
theorem i8_decompositionStep_32 : IJ cX8_decompositionStep 32 35 36 .goto := ⟨4, by decide +kernel, rfl, by decide⟩
theorem i8_decompositionStep_35 : ILi cX8_decompositionStep 35 36 2 := Or.inl ⟨2, by decide +kernel, rfl, rfl⟩
theorem i8_decompositionStep_36 : IO cX8_decompositionStep 36 37 .ireturn := ⟨by decide +kernel, rfl⟩
theorem i8_setPoint_0 : ILa cX8_setPoint 0 1 0 := Or.inl ⟨0, by decide +kernel, rfl, rfl⟩
theorem i8_setPoint_1 : ILi cX8_setPoint 1 2 1 := Or.inl ⟨1, by decide +kernel, rfl, rfl⟩
theorem i8_setPoint_2 : ICV m8_setPoint 2 5 m8_isColumn := ⟨124, by decide +kernel, rfl, q_878⟩
theorem i8_setPoint_5 : IJ cX8_setPoint 5 8 17 (.ifCond .eq) := ⟨12, by decide +kernel, rfl, by decide⟩
theorem i8_setPoint_8 : ILi cX8_setPoint 8 9 2 := Or.inl ⟨2, by decide +kernel, rfl, rfl⟩
theorem i8_setPoint_9 : IC cX8_setPoint 9 10 (0) := ⟨by decide, Or.inl ⟨by decide +kernel, rfl⟩⟩
theorem i8_setPoint_10 : IC cX8_setPoint 10 11 (5) := ⟨by decide, Or.inl ⟨by decide +kernel, rfl⟩⟩
theorem i8_setPoint_11 : ICS m8_setPoint 11 14 yX8_in := ⟨56, by decide +kernel, rfl, q_863⟩
theorem i8_setPoint_14 : IJ cX8_setPoint 14 17 21 (.ifCond .ne) := ⟨7, by decide +kernel, rfl, by decide⟩
theorem i8_setPoint_17 : IC cX8_setPoint 17 20 (-1001) := ⟨by decide, Or.inr (Or.inr ⟨by decide +kernel, by decide +kernel, rfl⟩)⟩
theorem i8_setPoint_20 : IO cX8_setPoint 20 21 .ireturn := ⟨by decide +kernel, rfl⟩
theorem i8_setPoint_21 : ILa cX8_setPoint 21 22 0 := Or.inl ⟨0, by decide +kernel, rfl, rfl⟩
theorem i8_setPoint_22 : ICV m8_setPoint 22 25 m8_keep := ⟨121, by decide +kernel, rfl, q_866⟩
theorem i8_setPoint_25 : ILa cX8_setPoint 25 26 0 := Or.inl ⟨0, by decide +kernel, rfl, rfl⟩
theorem i8_setPoint_26 : IGF m8_setPoint 26 29 8 0 := ⟨7, by decide +kernel, rfl, by decide, by decide, q_795⟩
theorem i8_setPoint_29 : IC cX8_setPoint 29 31 (14) := ⟨by decide, Or.inr (Or.inl ⟨by decide +kernel, by decide +kernel, rfl⟩)⟩
theorem i8_setPoint_31 : ILi cX8_setPoint 31 32 1 := Or.inl ⟨1, by decide +kernel, rfl, rfl⟩
theorem i8_setPoint_32 : IO cX8_setPoint 32 33 .iadd := ⟨by decide +kernel, rfl⟩
theorem i8_setPoint_33 : IO cX8_setPoint 33 34 .iaload := ⟨by decide +kernel, rfl⟩
theorem i8_setPoint_34 : ISi cX8_setPoint 34 35 3 := Or.inl ⟨3, by decide +kernel, rfl, rfl⟩
theorem i8_setPoint_35 : ILa cX8_setPoint 35 36 0 := Or.inl ⟨0, by decide +kernel, rfl, rfl⟩
theorem i8_setPoint_36 : IGF m8_setPoint 36 39 8 0 := ⟨7, by decide +kernel, rfl, by decide, by decide, q_795⟩
theorem i8_setPoint_39 : IC cX8_setPoint 39 41 (14) := ⟨by decide, Or.inr (Or.inl ⟨by decide +kernel, by decide +kernel, rfl⟩)⟩
theorem i8_setPoint_41 : ILi cX8_setPoint 41 42 1 := Or.inl ⟨1, by decide +kernel, rfl, rfl⟩
theorem i8_setPoint_42 : IO cX8_setPoint 42 43 .iadd := ⟨by decide +kernel, rfl⟩
theorem i8_setPoint_43 : ILi cX8_setPoint 43 44 2 := Or.inl ⟨2, by decide +kernel, rfl, rfl⟩
theorem i8_setPoint_44 : IO cX8_setPoint 44 45 .iastore := ⟨by decide +kernel, rfl⟩
theorem i8_setPoint_45 : ILi cX8_setPoint 45 46 3 := Or.inl ⟨3, by decide +kernel, rfl, rfl⟩
theorem i8_setPoint_46 : IO cX8_setPoint 46 47 .ireturn := ⟨by decide +kernel, rfl⟩
theorem i8_layFiberOfPoint_0 : ILa cX8_layFiberOfPoint 0 1 0 := Or.inl ⟨0, by decide +kernel, rfl, rfl⟩
theorem i8_layFiberOfPoint_1 : ICV m8_layFiberOfPoint 1 4 m8_setGoalToPoint := ⟨186, by decide +kernel, rfl, q_994⟩
theorem i8_layFiberOfPoint_4 : ILa cX8_layFiberOfPoint 4 5 0 := Or.inl ⟨0, by decide +kernel, rfl, rfl⟩
theorem i8_layFiberOfPoint_5 : ICV m8_layFiberOfPoint 5 8 m8_layFiber := ⟨174, by decide +kernel, rfl, q_946⟩
theorem i8_layFiberOfPoint_8 : IO cX8_layFiberOfPoint 8 9 .return_ := ⟨by decide +kernel, rfl⟩
theorem i8_fiberSize_0 : ILa cX8_fiberSize 0 1 0 := Or.inl ⟨0, by decide +kernel, rfl, rfl⟩
theorem i8_fiberSize_1 : ICV m8_fiberSize 1 4 m8_isAllPositive := ⟨143, by decide +kernel, rfl, q_914⟩
theorem i8_fiberSize_4 : IJ cX8_fiberSize 4 7 11 (.ifCond .ne) := ⟨7, by decide +kernel, rfl, by decide⟩
theorem i8_fiberSize_7 : IC cX8_fiberSize 7 10 (-1002) := ⟨by decide, Or.inr (Or.inr ⟨by decide +kernel, by decide +kernel, rfl⟩)⟩
theorem i8_fiberSize_10 : IO cX8_fiberSize 10 11 .ireturn := ⟨by decide +kernel, rfl⟩
theorem i8_fiberSize_11 : ILa cX8_fiberSize 11 12 0 := Or.inl ⟨0, by decide +kernel, rfl, rfl⟩
theorem i8_fiberSize_12 : ICV m8_fiberSize 12 15 m8_layFiberOfPoint := ⟨189, by decide +kernel, rfl, q_990⟩
theorem i8_fiberSize_15 : ILa cX8_fiberSize 15 16 0 := Or.inl ⟨0, by decide +kernel, rfl, rfl⟩
theorem i8_fiberSize_16 : IGF m8_fiberSize 16 19 8 14 := ⟨152, by decide +kernel, rfl, by decide, by decide, q_809⟩
theorem i8_fiberSize_19 : IO cX8_fiberSize 19 20 .ireturn := ⟨by decide +kernel, rfl⟩
theorem i8_fiberEntry_0 : ILi cX8_fiberEntry 0 1 1 := Or.inl ⟨1, by decide +kernel, rfl, rfl⟩
theorem i8_fiberEntry_1 : IJ cX8_fiberEntry 1 4 12 (.ifCond .lt) := ⟨11, by decide +kernel, rfl, by decide⟩
theorem i8_fiberEntry_4 : ILa cX8_fiberEntry 4 5 0 := Or.inl ⟨0, by decide +kernel, rfl, rfl⟩
theorem i8_fiberEntry_5 : ILi cX8_fiberEntry 5 6 2 := Or.inl ⟨2, by decide +kernel, rfl, rfl⟩
theorem i8_fiberEntry_6 : ICV m8_fiberEntry 6 9 m8_isColumn := ⟨124, by decide +kernel, rfl, q_878⟩
theorem i8_fiberEntry_9 : IJ cX8_fiberEntry 9 12 16 (.ifCond .ne) := ⟨7, by decide +kernel, rfl, by decide⟩
theorem i8_fiberEntry_12 : IC cX8_fiberEntry 12 15 (-1001) := ⟨by decide, Or.inr (Or.inr ⟨by decide +kernel, by decide +kernel, rfl⟩)⟩
theorem i8_fiberEntry_15 : IO cX8_fiberEntry 15 16 .ireturn := ⟨by decide +kernel, rfl⟩
theorem i8_fiberEntry_16 : ILa cX8_fiberEntry 16 17 0 := Or.inl ⟨0, by decide +kernel, rfl, rfl⟩
theorem i8_fiberEntry_17 : ICV m8_fiberEntry 17 20 m8_isAllPositive := ⟨143, by decide +kernel, rfl, q_914⟩
theorem i8_fiberEntry_20 : IJ cX8_fiberEntry 20 23 27 (.ifCond .ne) := ⟨7, by decide +kernel, rfl, by decide⟩
theorem i8_fiberEntry_23 : IC cX8_fiberEntry 23 26 (-1002) := ⟨by decide, Or.inr (Or.inr ⟨by decide +kernel, by decide +kernel, rfl⟩)⟩
theorem i8_fiberEntry_26 : IO cX8_fiberEntry 26 27 .ireturn := ⟨by decide +kernel, rfl⟩
theorem i8_fiberEntry_27 : ILa cX8_fiberEntry 27 28 0 := Or.inl ⟨0, by decide +kernel, rfl, rfl⟩
theorem i8_fiberEntry_28 : ICV m8_fiberEntry 28 31 m8_layFiberOfPoint := ⟨189, by decide +kernel, rfl, q_990⟩
theorem i8_fiberEntry_31 : ILi cX8_fiberEntry 31 32 1 := Or.inl ⟨1, by decide +kernel, rfl, rfl⟩
theorem i8_fiberEntry_32 : ILa cX8_fiberEntry 32 33 0 := Or.inl ⟨0, by decide +kernel, rfl, rfl⟩
theorem i8_fiberEntry_33 : IGF m8_fiberEntry 33 36 8 14 := ⟨152, by decide +kernel, rfl, by decide, by decide, q_809⟩
theorem i8_fiberEntry_36 : IJ cX8_fiberEntry 36 39 52 (.if_icmp .ge) := ⟨16, by decide +kernel, rfl, by decide⟩
theorem i8_fiberEntry_39 : ILa cX8_fiberEntry 39 40 0 := Or.inl ⟨0, by decide +kernel, rfl, rfl⟩
theorem i8_fiberEntry_40 : IGF m8_fiberEntry 40 43 8 13 := ⟨34, by decide +kernel, rfl, by decide, by decide, q_808⟩
theorem i8_fiberEntry_43 : IC cX8_fiberEntry 43 44 (4) := ⟨by decide, Or.inl ⟨by decide +kernel, rfl⟩⟩
theorem i8_fiberEntry_44 : ILi cX8_fiberEntry 44 45 1 := Or.inl ⟨1, by decide +kernel, rfl, rfl⟩
theorem i8_fiberEntry_45 : IO cX8_fiberEntry 45 46 .imul := ⟨by decide +kernel, rfl⟩
theorem i8_fiberEntry_46 : ILi cX8_fiberEntry 46 47 2 := Or.inl ⟨2, by decide +kernel, rfl, rfl⟩
theorem i8_fiberEntry_47 : IO cX8_fiberEntry 47 48 .iadd := ⟨by decide +kernel, rfl⟩
theorem i8_fiberEntry_48 : IO cX8_fiberEntry 48 49 .iaload := ⟨by decide +kernel, rfl⟩
theorem i8_fiberEntry_49 : IJ cX8_fiberEntry 49 52 55 .goto := ⟨6, by decide +kernel, rfl, by decide⟩
theorem i8_fiberEntry_52 : IC cX8_fiberEntry 52 55 (-1009) := ⟨by decide, Or.inr (Or.inr ⟨by decide +kernel, by decide +kernel, rfl⟩)⟩
theorem i8_fiberEntry_55 : IO cX8_fiberEntry 55 56 .ireturn := ⟨by decide +kernel, rfl⟩
theorem i8_activeCount_0 : IC cX8_activeCount 0 1 (0) := ⟨by decide, Or.inl ⟨by decide +kernel, rfl⟩⟩
theorem i8_activeCount_1 : ISi cX8_activeCount 1 2 1 := Or.inl ⟨1, by decide +kernel, rfl, rfl⟩
theorem i8_activeCount_2 : IC cX8_activeCount 2 3 (0) := ⟨by decide, Or.inl ⟨by decide +kernel, rfl⟩⟩
theorem i8_activeCount_3 : ISi cX8_activeCount 3 4 2 := Or.inl ⟨2, by decide +kernel, rfl, rfl⟩
theorem i8_activeCount_4 : ILi cX8_activeCount 4 5 2 := Or.inl ⟨2, by decide +kernel, rfl, rfl⟩
theorem i8_activeCount_5 : ILa cX8_activeCount 5 6 0 := Or.inl ⟨0, by decide +kernel, rfl, rfl⟩
theorem i8_activeCount_6 : IGF m8_activeCount 6 9 8 5 := ⟨70, by decide +kernel, rfl, by decide, by decide, q_800⟩
theorem i8_activeCount_9 : IJ cX8_activeCount 9 12 30 (.if_icmp .ge) := ⟨21, by decide +kernel, rfl, by decide⟩
theorem i8_activeCount_12 : ILi cX8_activeCount 12 13 1 := Or.inl ⟨1, by decide +kernel, rfl, rfl⟩
theorem i8_activeCount_13 : ILa cX8_activeCount 13 14 0 := Or.inl ⟨0, by decide +kernel, rfl, rfl⟩
theorem i8_activeCount_14 : IGF m8_activeCount 14 17 8 0 := ⟨7, by decide +kernel, rfl, by decide, by decide, q_795⟩
theorem i8_activeCount_17 : IC cX8_activeCount 17 19 (18) := ⟨by decide, Or.inr (Or.inl ⟨by decide +kernel, by decide +kernel, rfl⟩)⟩
theorem i8_activeCount_19 : ILi cX8_activeCount 19 20 2 := Or.inl ⟨2, by decide +kernel, rfl, rfl⟩
theorem i8_activeCount_20 : IO cX8_activeCount 20 21 .iadd := ⟨by decide +kernel, rfl⟩
theorem i8_activeCount_21 : IO cX8_activeCount 21 22 .iaload := ⟨by decide +kernel, rfl⟩
theorem i8_activeCount_22 : IO cX8_activeCount 22 23 .iadd := ⟨by decide +kernel, rfl⟩
theorem i8_activeCount_23 : ISi cX8_activeCount 23 24 1 := Or.inl ⟨1, by decide +kernel, rfl, rfl⟩
theorem i8_activeCount_24 : II cX8_activeCount 24 27 2 (1) := ⟨by decide +kernel, by decide, rfl⟩
theorem i8_activeCount_27 : IJ cX8_activeCount 27 30 4 .goto := ⟨-23, by decide +kernel, rfl, by decide⟩
theorem i8_activeCount_30 : ILi cX8_activeCount 30 31 1 := Or.inl ⟨1, by decide +kernel, rfl, rfl⟩
theorem i8_activeCount_31 : IO cX8_activeCount 31 32 .ireturn := ⟨by decide +kernel, rfl⟩
theorem i8_activate_0 : ILa cX8_activate 0 1 0 := Or.inl ⟨0, by decide +kernel, rfl, rfl⟩
theorem i8_activate_1 : ILi cX8_activate 1 2 1 := Or.inl ⟨1, by decide +kernel, rfl, rfl⟩
theorem i8_activate_2 : ICV m8_activate 2 5 m8_isElement := ⟨146, by decide +kernel, rfl, q_926⟩
theorem i8_activate_5 : IJ cX8_activate 5 8 17 (.ifCond .eq) := ⟨12, by decide +kernel, rfl, by decide⟩
theorem i8_activate_8 : ILi cX8_activate 8 9 2 := Or.inl ⟨2, by decide +kernel, rfl, rfl⟩
theorem i8_activate_9 : IC cX8_activate 9 10 (0) := ⟨by decide, Or.inl ⟨by decide +kernel, rfl⟩⟩
theorem i8_activate_10 : IC cX8_activate 10 11 (1) := ⟨by decide, Or.inl ⟨by decide +kernel, rfl⟩⟩
theorem i8_activate_11 : ICS m8_activate 11 14 yX8_in := ⟨56, by decide +kernel, rfl, q_863⟩
theorem i8_activate_14 : IJ cX8_activate 14 17 21 (.ifCond .ne) := ⟨7, by decide +kernel, rfl, by decide⟩
theorem i8_activate_17 : IC cX8_activate 17 20 (-1001) := ⟨by decide, Or.inr (Or.inr ⟨by decide +kernel, by decide +kernel, rfl⟩)⟩
theorem i8_activate_20 : IO cX8_activate 20 21 .ireturn := ⟨by decide +kernel, rfl⟩
theorem i8_activate_21 : ILa cX8_activate 21 22 0 := Or.inl ⟨0, by decide +kernel, rfl, rfl⟩
theorem i8_activate_22 : IGF m8_activate 22 25 8 0 := ⟨7, by decide +kernel, rfl, by decide, by decide, q_795⟩
theorem i8_activate_25 : IC cX8_activate 25 27 (18) := ⟨by decide, Or.inr (Or.inl ⟨by decide +kernel, by decide +kernel, rfl⟩)⟩
theorem i8_activate_27 : ILi cX8_activate 27 28 1 := Or.inl ⟨1, by decide +kernel, rfl, rfl⟩
theorem i8_activate_28 : IO cX8_activate 28 29 .iadd := ⟨by decide +kernel, rfl⟩
theorem i8_activate_29 : IO cX8_activate 29 30 .iaload := ⟨by decide +kernel, rfl⟩
theorem i8_activate_30 : ILi cX8_activate 30 31 2 := Or.inl ⟨2, by decide +kernel, rfl, rfl⟩
theorem i8_activate_31 : IJ cX8_activate 31 34 38 (.if_icmp .ne) := ⟨7, by decide +kernel, rfl, by decide⟩
theorem i8_activate_34 : IC cX8_activate 34 37 (-1002) := ⟨by decide, Or.inr (Or.inr ⟨by decide +kernel, by decide +kernel, rfl⟩)⟩
theorem i8_activate_37 : IO cX8_activate 37 38 .ireturn := ⟨by decide +kernel, rfl⟩
theorem i8_activate_38 : ILa cX8_activate 38 39 0 := Or.inl ⟨0, by decide +kernel, rfl, rfl⟩
theorem i8_activate_39 : ICV m8_activate 39 42 m8_keep := ⟨121, by decide +kernel, rfl, q_866⟩
theorem i8_activate_42 : ILa cX8_activate 42 43 0 := Or.inl ⟨0, by decide +kernel, rfl, rfl⟩
theorem i8_activate_43 : IGF m8_activate 43 46 8 0 := ⟨7, by decide +kernel, rfl, by decide, by decide, q_795⟩
theorem i8_activate_46 : IC cX8_activate 46 48 (18) := ⟨by decide, Or.inr (Or.inl ⟨by decide +kernel, by decide +kernel, rfl⟩)⟩
theorem i8_activate_48 : ILi cX8_activate 48 49 1 := Or.inl ⟨1, by decide +kernel, rfl, rfl⟩
theorem i8_activate_49 : IO cX8_activate 49 50 .iadd := ⟨by decide +kernel, rfl⟩
theorem i8_activate_50 : ILi cX8_activate 50 51 2 := Or.inl ⟨2, by decide +kernel, rfl, rfl⟩
theorem i8_activate_51 : IO cX8_activate 51 52 .iastore := ⟨by decide +kernel, rfl⟩
theorem i8_activate_52 : ILa cX8_activate 52 53 0 := Or.inl ⟨0, by decide +kernel, rfl, rfl⟩
theorem i8_activate_53 : ICV m8_activate 53 56 m8_activeCount := ⟨192, by decide +kernel, rfl, q_1006⟩
theorem i8_activate_56 : IO cX8_activate 56 57 .ireturn := ⟨by decide +kernel, rfl⟩
theorem i8_isActive_0 : ILa cX8_isActive 0 1 0 := Or.inl ⟨0, by decide +kernel, rfl, rfl⟩
theorem i8_isActive_1 : ILi cX8_isActive 1 2 1 := Or.inl ⟨1, by decide +kernel, rfl, rfl⟩
theorem i8_isActive_2 : ICV m8_isActive 2 5 m8_isElement := ⟨146, by decide +kernel, rfl, q_926⟩
theorem i8_isActive_5 : IJ cX8_isActive 5 8 20 (.ifCond .eq) := ⟨15, by decide +kernel, rfl, by decide⟩
theorem i8_isActive_8 : ILa cX8_isActive 8 9 0 := Or.inl ⟨0, by decide +kernel, rfl, rfl⟩
theorem i8_isActive_9 : IGF m8_isActive 9 12 8 0 := ⟨7, by decide +kernel, rfl, by decide, by decide, q_795⟩
theorem i8_isActive_12 : IC cX8_isActive 12 14 (18) := ⟨by decide, Or.inr (Or.inl ⟨by decide +kernel, by decide +kernel, rfl⟩)⟩
theorem i8_isActive_14 : ILi cX8_isActive 14 15 1 := Or.inl ⟨1, by decide +kernel, rfl, rfl⟩
theorem i8_isActive_15 : IO cX8_isActive 15 16 .iadd := ⟨by decide +kernel, rfl⟩
theorem i8_isActive_16 : IO cX8_isActive 16 17 .iaload := ⟨by decide +kernel, rfl⟩
theorem i8_isActive_17 : IJ cX8_isActive 17 20 23 .goto := ⟨6, by decide +kernel, rfl, by decide⟩
theorem i8_isActive_20 : IC cX8_isActive 20 23 (-1001) := ⟨by decide, Or.inr (Or.inr ⟨by decide +kernel, by decide +kernel, rfl⟩)⟩
theorem i8_isActive_23 : IO cX8_isActive 23 24 .ireturn := ⟨by decide +kernel, rfl⟩
theorem i8_classes_0 : ILa cX8_classes 0 1 0 := Or.inl ⟨0, by decide +kernel, rfl, rfl⟩
theorem i8_classes_1 : ICV m8_classes 1 4 m8_isAllPositive := ⟨143, by decide +kernel, rfl, q_914⟩
theorem i8_classes_4 : IJ cX8_classes 4 7 11 (.ifCond .ne) := ⟨7, by decide +kernel, rfl, by decide⟩
theorem i8_classes_7 : IC cX8_classes 7 10 (-1002) := ⟨by decide, Or.inr (Or.inr ⟨by decide +kernel, by decide +kernel, rfl⟩)⟩
theorem i8_classes_10 : IO cX8_classes 10 11 .ireturn := ⟨by decide +kernel, rfl⟩
theorem i8_classes_11 : ILa cX8_classes 11 12 0 := Or.inl ⟨0, by decide +kernel, rfl, rfl⟩
theorem i8_classes_12 : ICV m8_classes 12 15 m8_layFiberOfPoint := ⟨189, by decide +kernel, rfl, q_990⟩
theorem i8_classes_15 : ILa cX8_classes 15 16 0 := Or.inl ⟨0, by decide +kernel, rfl, rfl⟩
theorem i8_classes_16 : ICV m8_classes 16 19 m8_clearFar := ⟨195, by decide +kernel, rfl, q_1018⟩
theorem i8_classes_19 : IC cX8_classes 19 20 (0) := ⟨by decide, Or.inl ⟨by decide +kernel, rfl⟩⟩
theorem i8_classes_20 : ISi cX8_classes 20 21 1 := Or.inl ⟨1, by decide +kernel, rfl, rfl⟩
theorem i8_classes_21 : IC cX8_classes 21 22 (0) := ⟨by decide, Or.inl ⟨by decide +kernel, rfl⟩⟩
theorem i8_classes_22 : ISi cX8_classes 22 23 2 := Or.inl ⟨2, by decide +kernel, rfl, rfl⟩
theorem i8_classes_23 : ILi cX8_classes 23 24 2 := Or.inl ⟨2, by decide +kernel, rfl, rfl⟩
theorem i8_classes_24 : ILa cX8_classes 24 25 0 := Or.inl ⟨0, by decide +kernel, rfl, rfl⟩
theorem i8_classes_25 : IGF m8_classes 25 28 8 14 := ⟨152, by decide +kernel, rfl, by decide, by decide, q_809⟩
theorem i8_classes_28 : IJ cX8_classes 28 31 57 (.if_icmp .ge) := ⟨29, by decide +kernel, rfl, by decide⟩
theorem i8_classes_31 : ILa cX8_classes 31 32 0 := Or.inl ⟨0, by decide +kernel, rfl, rfl⟩
theorem i8_classes_32 : IGF m8_classes 32 35 8 17 := ⟨43, by decide +kernel, rfl, by decide, by decide, q_812⟩
theorem i8_classes_35 : ILi cX8_classes 35 36 2 := Or.inl ⟨2, by decide +kernel, rfl, rfl⟩
theorem i8_classes_36 : IO cX8_classes 36 37 .iaload := ⟨by decide +kernel, rfl⟩
theorem i8_classes_37 : IC cX8_classes 37 40 (-1009) := ⟨by decide, Or.inr (Or.inr ⟨by decide +kernel, by decide +kernel, rfl⟩)⟩
theorem i8_classes_40 : IJ cX8_classes 40 43 51 (.if_icmp .ne) := ⟨11, by decide +kernel, rfl, by decide⟩
theorem i8_classes_43 : ILa cX8_classes 43 44 0 := Or.inl ⟨0, by decide +kernel, rfl, rfl⟩
theorem i8_classes_44 : ILi cX8_classes 44 45 2 := Or.inl ⟨2, by decide +kernel, rfl, rfl⟩
theorem i8_classes_45 : ICV m8_classes 45 48 m8_search := ⟨198, by decide +kernel, rfl, q_1022⟩
theorem i8_classes_48 : II cX8_classes 48 51 1 (1) := ⟨by decide +kernel, by decide, rfl⟩
theorem i8_classes_51 : II cX8_classes 51 54 2 (1) := ⟨by decide +kernel, by decide, rfl⟩
theorem i8_classes_54 : IJ cX8_classes 54 57 23 .goto := ⟨-31, by decide +kernel, rfl, by decide⟩
theorem i8_classes_57 : ILi cX8_classes 57 58 1 := Or.inl ⟨1, by decide +kernel, rfl, rfl⟩
theorem i8_classes_58 : IO cX8_classes 58 59 .ireturn := ⟨by decide +kernel, rfl⟩
theorem i8_distance_0 : ILi cX8_distance 0 1 1 := Or.inl ⟨1, by decide +kernel, rfl, rfl⟩
theorem i8_distance_1 : IJ cX8_distance 1 4 8 (.ifCond .ge) := ⟨7, by decide +kernel, rfl, by decide⟩
theorem i8_distance_4 : IC cX8_distance 4 7 (-1001) := ⟨by decide, Or.inr (Or.inr ⟨by decide +kernel, by decide +kernel, rfl⟩)⟩
theorem i8_distance_7 : IO cX8_distance 7 8 .ireturn := ⟨by decide +kernel, rfl⟩
theorem i8_distance_8 : ILa cX8_distance 8 9 0 := Or.inl ⟨0, by decide +kernel, rfl, rfl⟩
theorem i8_distance_9 : ICV m8_distance 9 12 m8_isAllPositive := ⟨143, by decide +kernel, rfl, q_914⟩
theorem i8_distance_12 : IJ cX8_distance 12 15 19 (.ifCond .ne) := ⟨7, by decide +kernel, rfl, by decide⟩
theorem i8_distance_15 : IC cX8_distance 15 18 (-1002) := ⟨by decide, Or.inr (Or.inr ⟨by decide +kernel, by decide +kernel, rfl⟩)⟩
theorem i8_distance_18 : IO cX8_distance 18 19 .ireturn := ⟨by decide +kernel, rfl⟩
theorem i8_distance_19 : ILa cX8_distance 19 20 0 := Or.inl ⟨0, by decide +kernel, rfl, rfl⟩
theorem i8_distance_20 : ICV m8_distance 20 23 m8_layFiberOfPoint := ⟨189, by decide +kernel, rfl, q_990⟩
theorem i8_distance_23 : ILa cX8_distance 23 24 0 := Or.inl ⟨0, by decide +kernel, rfl, rfl⟩
theorem i8_distance_24 : ICV m8_distance 24 27 m8_clearFar := ⟨195, by decide +kernel, rfl, q_1018⟩
theorem i8_distance_27 : ILa cX8_distance 27 28 0 := Or.inl ⟨0, by decide +kernel, rfl, rfl⟩
theorem i8_distance_28 : ILa cX8_distance 28 29 0 := Or.inl ⟨0, by decide +kernel, rfl, rfl⟩
theorem i8_distance_29 : ICV m8_distance 29 32 m8_numberOfGoal := ⟨201, by decide +kernel, rfl, q_1042⟩
theorem i8_distance_32 : ICV m8_distance 32 35 m8_search := ⟨198, by decide +kernel, rfl, q_1022⟩
theorem i8_distance_35 : ILi cX8_distance 35 36 1 := Or.inl ⟨1, by decide +kernel, rfl, rfl⟩
theorem i8_distance_36 : ILa cX8_distance 36 37 0 := Or.inl ⟨0, by decide +kernel, rfl, rfl⟩
theorem i8_distance_37 : IGF m8_distance 37 40 8 14 := ⟨152, by decide +kernel, rfl, by decide, by decide, q_809⟩
theorem i8_distance_40 : IJ cX8_distance 40 43 52 (.if_icmp .ge) := ⟨12, by decide +kernel, rfl, by decide⟩
theorem i8_distance_43 : ILa cX8_distance 43 44 0 := Or.inl ⟨0, by decide +kernel, rfl, rfl⟩
theorem i8_distance_44 : IGF m8_distance 44 47 8 17 := ⟨43, by decide +kernel, rfl, by decide, by decide, q_812⟩
theorem i8_distance_47 : ILi cX8_distance 47 48 1 := Or.inl ⟨1, by decide +kernel, rfl, rfl⟩
theorem i8_distance_48 : IO cX8_distance 48 49 .iaload := ⟨by decide +kernel, rfl⟩
theorem i8_distance_49 : IJ cX8_distance 49 52 55 .goto := ⟨6, by decide +kernel, rfl, by decide⟩
theorem i8_distance_52 : IC cX8_distance 52 55 (-1009) := ⟨by decide, Or.inr (Or.inr ⟨by decide +kernel, by decide +kernel, rfl⟩)⟩
theorem i8_distance_55 : IO cX8_distance 55 56 .ireturn := ⟨by decide +kernel, rfl⟩
theorem i8_areConnected_0 : IC cX8_areConnected 0 1 (1) := ⟨by decide, Or.inl ⟨by decide +kernel, rfl⟩⟩
theorem i8_areConnected_1 : ISi cX8_areConnected 1 2 1 := Or.inl ⟨1, by decide +kernel, rfl, rfl⟩
theorem i8_areConnected_2 : IC cX8_areConnected 2 3 (0) := ⟨by decide, Or.inl ⟨by decide +kernel, rfl⟩⟩
theorem i8_areConnected_3 : ISi cX8_areConnected 3 4 2 := Or.inl ⟨2, by decide +kernel, rfl, rfl⟩
theorem i8_areConnected_4 : ILi cX8_areConnected 4 5 2 := Or.inl ⟨2, by decide +kernel, rfl, rfl⟩
theorem i8_areConnected_5 : ILa cX8_areConnected 5 6 0 := Or.inl ⟨0, by decide +kernel, rfl, rfl⟩
theorem i8_areConnected_6 : IGF m8_areConnected 6 9 8 5 := ⟨70, by decide +kernel, rfl, by decide, by decide, q_800⟩
theorem i8_areConnected_9 : IJ cX8_areConnected 9 12 71 (.if_icmp .ge) := ⟨62, by decide +kernel, rfl, by decide⟩
theorem i8_areConnected_12 : ILi cX8_areConnected 12 13 1 := Or.inl ⟨1, by decide +kernel, rfl, rfl⟩
theorem i8_areConnected_13 : IJ cX8_areConnected 13 16 71 (.ifCond .eq) := ⟨58, by decide +kernel, rfl, by decide⟩
theorem i8_areConnected_16 : ILa cX8_areConnected 16 17 0 := Or.inl ⟨0, by decide +kernel, rfl, rfl⟩
theorem i8_areConnected_17 : ILi cX8_areConnected 17 18 2 := Or.inl ⟨2, by decide +kernel, rfl, rfl⟩
theorem i8_areConnected_18 : IC cX8_areConnected 18 19 (1) := ⟨by decide, Or.inl ⟨by decide +kernel, rfl⟩⟩
theorem i8_areConnected_19 : ICV m8_areConnected 19 22 m8_setGoal := ⟨171, by decide +kernel, rfl, q_942⟩
theorem i8_areConnected_22 : ILa cX8_areConnected 22 23 0 := Or.inl ⟨0, by decide +kernel, rfl, rfl⟩
theorem i8_areConnected_23 : ICV m8_areConnected 23 26 m8_layFiber := ⟨174, by decide +kernel, rfl, q_946⟩
theorem i8_areConnected_26 : ILa cX8_areConnected 26 27 0 := Or.inl ⟨0, by decide +kernel, rfl, rfl⟩
theorem i8_areConnected_27 : ICV m8_areConnected 27 30 m8_clearFar := ⟨195, by decide +kernel, rfl, q_1018⟩
theorem i8_areConnected_30 : ILa cX8_areConnected 30 31 0 := Or.inl ⟨0, by decide +kernel, rfl, rfl⟩
theorem i8_areConnected_31 : ILa cX8_areConnected 31 32 0 := Or.inl ⟨0, by decide +kernel, rfl, rfl⟩
theorem i8_areConnected_32 : ICV m8_areConnected 32 35 m8_numberOfGoal := ⟨201, by decide +kernel, rfl, q_1042⟩
theorem i8_areConnected_35 : ICV m8_areConnected 35 38 m8_search := ⟨198, by decide +kernel, rfl, q_1022⟩
theorem i8_areConnected_38 : ILa cX8_areConnected 38 39 0 := Or.inl ⟨0, by decide +kernel, rfl, rfl⟩
theorem i8_areConnected_39 : ILi cX8_areConnected 39 40 2 := Or.inl ⟨2, by decide +kernel, rfl, rfl⟩
theorem i8_areConnected_40 : IC cX8_areConnected 40 41 (-1) := ⟨by decide, Or.inl ⟨by decide +kernel, rfl⟩⟩
theorem i8_areConnected_41 : ICV m8_areConnected 41 44 m8_setGoal := ⟨171, by decide +kernel, rfl, q_942⟩
theorem i8_areConnected_44 : ILa cX8_areConnected 44 45 0 := Or.inl ⟨0, by decide +kernel, rfl, rfl⟩
theorem i8_areConnected_45 : IGF m8_areConnected 45 48 8 17 := ⟨43, by decide +kernel, rfl, by decide, by decide, q_812⟩
theorem i8_areConnected_48 : ILa cX8_areConnected 48 49 0 := Or.inl ⟨0, by decide +kernel, rfl, rfl⟩
theorem i8_areConnected_49 : ICV m8_areConnected 49 52 m8_numberOfGoal := ⟨201, by decide +kernel, rfl, q_1042⟩
theorem i8_areConnected_52 : IO cX8_areConnected 52 53 .iaload := ⟨by decide +kernel, rfl⟩
theorem i8_areConnected_53 : IC cX8_areConnected 53 56 (-1009) := ⟨by decide, Or.inr (Or.inr ⟨by decide +kernel, by decide +kernel, rfl⟩)⟩
theorem i8_areConnected_56 : IJ cX8_areConnected 56 59 63 (.if_icmp .eq) := ⟨7, by decide +kernel, rfl, by decide⟩
theorem i8_areConnected_59 : IC cX8_areConnected 59 60 (1) := ⟨by decide, Or.inl ⟨by decide +kernel, rfl⟩⟩
theorem i8_areConnected_60 : IJ cX8_areConnected 60 63 64 .goto := ⟨4, by decide +kernel, rfl, by decide⟩
theorem i8_areConnected_63 : IC cX8_areConnected 63 64 (0) := ⟨by decide, Or.inl ⟨by decide +kernel, rfl⟩⟩
theorem i8_areConnected_64 : ISi cX8_areConnected 64 65 1 := Or.inl ⟨1, by decide +kernel, rfl, rfl⟩
theorem i8_areConnected_65 : II cX8_areConnected 65 68 2 (1) := ⟨by decide +kernel, by decide, rfl⟩
theorem i8_areConnected_68 : IJ cX8_areConnected 68 71 4 .goto := ⟨-64, by decide +kernel, rfl, by decide⟩
theorem i8_areConnected_71 : ILi cX8_areConnected 71 72 1 := Or.inl ⟨1, by decide +kernel, rfl, rfl⟩
theorem i8_areConnected_72 : IO cX8_areConnected 72 73 .ireturn := ⟨by decide +kernel, rfl⟩
theorem i8_isMarkov_0 : ILa cX8_isMarkov 0 1 0 := Or.inl ⟨0, by decide +kernel, rfl, rfl⟩
theorem i8_isMarkov_1 : ICV m8_isMarkov 1 4 m8_isAllPositive := ⟨143, by decide +kernel, rfl, q_914⟩
theorem i8_isMarkov_4 : IJ cX8_isMarkov 4 7 13 (.ifCond .ne) := ⟨9, by decide +kernel, rfl, by decide⟩
theorem i8_isMarkov_7 : IC cX8_isMarkov 7 10 (-1002) := ⟨by decide, Or.inr (Or.inr ⟨by decide +kernel, by decide +kernel, rfl⟩)⟩
theorem i8_isMarkov_10 : IJ cX8_isMarkov 10 13 25 .goto := ⟨15, by decide +kernel, rfl, by decide⟩
theorem i8_isMarkov_13 : ILa cX8_isMarkov 13 14 0 := Or.inl ⟨0, by decide +kernel, rfl, rfl⟩
theorem i8_isMarkov_14 : ICV m8_isMarkov 14 17 m8_areConnected := ⟨204, by decide +kernel, rfl, q_1050⟩
theorem i8_isMarkov_17 : IJ cX8_isMarkov 17 20 24 (.ifCond .eq) := ⟨7, by decide +kernel, rfl, by decide⟩
theorem i8_isMarkov_20 : IC cX8_isMarkov 20 21 (1) := ⟨by decide, Or.inl ⟨by decide +kernel, rfl⟩⟩
theorem i8_isMarkov_21 : IJ cX8_isMarkov 21 24 25 .goto := ⟨4, by decide +kernel, rfl, by decide⟩
theorem i8_isMarkov_24 : IC cX8_isMarkov 24 25 (0) := ⟨by decide, Or.inl ⟨by decide +kernel, rfl⟩⟩
theorem i8_isMarkov_25 : IO cX8_isMarkov 25 26 .ireturn := ⟨by decide +kernel, rfl⟩
theorem i8_reduce_0 : ILa cX8_reduce 0 1 0 := Or.inl ⟨0, by decide +kernel, rfl, rfl⟩
theorem i8_reduce_1 : ICV m8_reduce 1 4 m8_isAllPositive := ⟨143, by decide +kernel, rfl, q_914⟩
theorem i8_reduce_4 : IJ cX8_reduce 4 7 14 (.ifCond .eq) := ⟨10, by decide +kernel, rfl, by decide⟩
theorem i8_reduce_7 : ILa cX8_reduce 7 8 0 := Or.inl ⟨0, by decide +kernel, rfl, rfl⟩
theorem i8_reduce_8 : ICV m8_reduce 8 11 m8_areConnected := ⟨204, by decide +kernel, rfl, q_1050⟩
theorem i8_reduce_11 : IJ cX8_reduce 11 14 18 (.ifCond .ne) := ⟨7, by decide +kernel, rfl, by decide⟩
theorem i8_reduce_14 : IC cX8_reduce 14 17 (-1002) := ⟨by decide, Or.inr (Or.inr ⟨by decide +kernel, by decide +kernel, rfl⟩)⟩
theorem i8_reduce_17 : IO cX8_reduce 17 18 .ireturn := ⟨by decide +kernel, rfl⟩
theorem i8_reduce_18 : ILa cX8_reduce 18 19 0 := Or.inl ⟨0, by decide +kernel, rfl, rfl⟩
theorem i8_reduce_19 : ICV m8_reduce 19 22 m8_keep := ⟨121, by decide +kernel, rfl, q_866⟩
theorem i8_reduce_22 : ILa cX8_reduce 22 23 0 := Or.inl ⟨0, by decide +kernel, rfl, rfl⟩
theorem i8_reduce_23 : IGF m8_reduce 23 26 8 5 := ⟨70, by decide +kernel, rfl, by decide, by decide, q_800⟩
theorem i8_reduce_26 : IC cX8_reduce 26 27 (1) := ⟨by decide, Or.inl ⟨by decide +kernel, rfl⟩⟩
theorem i8_reduce_27 : IO cX8_reduce 27 28 .isub := ⟨by decide +kernel, rfl⟩
theorem i8_reduce_28 : ISi cX8_reduce 28 29 1 := Or.inl ⟨1, by decide +kernel, rfl, rfl⟩
theorem i8_reduce_29 : ILi cX8_reduce 29 30 1 := Or.inl ⟨1, by decide +kernel, rfl, rfl⟩
theorem i8_reduce_30 : IJ cX8_reduce 30 33 83 (.ifCond .lt) := ⟨53, by decide +kernel, rfl, by decide⟩
theorem i8_reduce_33 : ILa cX8_reduce 33 34 0 := Or.inl ⟨0, by decide +kernel, rfl, rfl⟩
theorem i8_reduce_34 : IGF m8_reduce 34 37 8 0 := ⟨7, by decide +kernel, rfl, by decide, by decide, q_795⟩
theorem i8_reduce_37 : IC cX8_reduce 37 39 (18) := ⟨by decide, Or.inr (Or.inl ⟨by decide +kernel, by decide +kernel, rfl⟩)⟩
theorem i8_reduce_39 : ILi cX8_reduce 39 40 1 := Or.inl ⟨1, by decide +kernel, rfl, rfl⟩
theorem i8_reduce_40 : IO cX8_reduce 40 41 .iadd := ⟨by decide +kernel, rfl⟩
theorem i8_reduce_41 : IO cX8_reduce 41 42 .iaload := ⟨by decide +kernel, rfl⟩
theorem i8_reduce_42 : IC cX8_reduce 42 43 (1) := ⟨by decide, Or.inl ⟨by decide +kernel, rfl⟩⟩
theorem i8_reduce_43 : IJ cX8_reduce 43 46 77 (.if_icmp .ne) := ⟨34, by decide +kernel, rfl, by decide⟩
theorem i8_reduce_46 : ILa cX8_reduce 46 47 0 := Or.inl ⟨0, by decide +kernel, rfl, rfl⟩
theorem i8_reduce_47 : IGF m8_reduce 47 50 8 0 := ⟨7, by decide +kernel, rfl, by decide, by decide, q_795⟩
theorem i8_reduce_50 : IC cX8_reduce 50 52 (18) := ⟨by decide, Or.inr (Or.inl ⟨by decide +kernel, by decide +kernel, rfl⟩)⟩
theorem i8_reduce_52 : ILi cX8_reduce 52 53 1 := Or.inl ⟨1, by decide +kernel, rfl, rfl⟩
theorem i8_reduce_53 : IO cX8_reduce 53 54 .iadd := ⟨by decide +kernel, rfl⟩
theorem i8_reduce_54 : IC cX8_reduce 54 55 (0) := ⟨by decide, Or.inl ⟨by decide +kernel, rfl⟩⟩
theorem i8_reduce_55 : IO cX8_reduce 55 56 .iastore := ⟨by decide +kernel, rfl⟩
theorem i8_reduce_56 : ILa cX8_reduce 56 57 0 := Or.inl ⟨0, by decide +kernel, rfl, rfl⟩
theorem i8_reduce_57 : IGF m8_reduce 57 60 8 0 := ⟨7, by decide +kernel, rfl, by decide, by decide, q_795⟩
theorem i8_reduce_60 : IC cX8_reduce 60 62 (18) := ⟨by decide, Or.inr (Or.inl ⟨by decide +kernel, by decide +kernel, rfl⟩)⟩
theorem i8_reduce_62 : ILi cX8_reduce 62 63 1 := Or.inl ⟨1, by decide +kernel, rfl, rfl⟩
theorem i8_reduce_63 : IO cX8_reduce 63 64 .iadd := ⟨by decide +kernel, rfl⟩
theorem i8_reduce_64 : ILa cX8_reduce 64 65 0 := Or.inl ⟨0, by decide +kernel, rfl, rfl⟩
theorem i8_reduce_65 : ICV m8_reduce 65 68 m8_areConnected := ⟨204, by decide +kernel, rfl, q_1050⟩
theorem i8_reduce_68 : IJ cX8_reduce 68 71 75 (.ifCond .eq) := ⟨7, by decide +kernel, rfl, by decide⟩
theorem i8_reduce_71 : IC cX8_reduce 71 72 (0) := ⟨by decide, Or.inl ⟨by decide +kernel, rfl⟩⟩
theorem i8_reduce_72 : IJ cX8_reduce 72 75 76 .goto := ⟨4, by decide +kernel, rfl, by decide⟩
theorem i8_reduce_75 : IC cX8_reduce 75 76 (1) := ⟨by decide, Or.inl ⟨by decide +kernel, rfl⟩⟩
theorem i8_reduce_76 : IO cX8_reduce 76 77 .iastore := ⟨by decide +kernel, rfl⟩
theorem i8_reduce_77 : II cX8_reduce 77 80 1 (-1) := ⟨by decide +kernel, by decide, rfl⟩
theorem i8_reduce_80 : IJ cX8_reduce 80 83 29 .goto := ⟨-51, by decide +kernel, rfl, by decide⟩
theorem i8_reduce_83 : ILa cX8_reduce 83 84 0 := Or.inl ⟨0, by decide +kernel, rfl, rfl⟩
theorem i8_reduce_84 : ICV m8_reduce 84 87 m8_activeCount := ⟨192, by decide +kernel, rfl, q_1006⟩
theorem i8_reduce_87 : IO cX8_reduce 87 88 .ireturn := ⟨by decide +kernel, rfl⟩
theorem i8_undo_0 : ILa cX8_undo 0 1 0 := Or.inl ⟨0, by decide +kernel, rfl, rfl⟩
theorem i8_undo_1 : IGF m8_undo 1 4 8 2 := ⟨60, by decide +kernel, rfl, by decide, by decide, q_797⟩
theorem i8_undo_4 : IJ cX8_undo 4 7 11 (.ifCond .ne) := ⟨7, by decide +kernel, rfl, by decide⟩
theorem i8_undo_7 : IC cX8_undo 7 10 (-1002) := ⟨by decide, Or.inr (Or.inr ⟨by decide +kernel, by decide +kernel, rfl⟩)⟩
theorem i8_undo_10 : IO cX8_undo 10 11 .ireturn := ⟨by decide +kernel, rfl⟩
theorem i8_undo_11 : ILa cX8_undo 11 12 0 := Or.inl ⟨0, by decide +kernel, rfl, rfl⟩
theorem i8_undo_12 : IO cX8_undo 12 13 .dup := ⟨by decide +kernel, rfl⟩
theorem i8_undo_13 : IGF m8_undo 13 16 8 2 := ⟨60, by decide +kernel, rfl, by decide, by decide, q_797⟩
theorem i8_undo_16 : IC cX8_undo 16 17 (1) := ⟨by decide, Or.inl ⟨by decide +kernel, rfl⟩⟩
theorem i8_undo_17 : IO cX8_undo 17 18 .isub := ⟨by decide +kernel, rfl⟩
theorem i8_undo_18 : IPF m8_undo 18 21 8 2 := ⟨60, by decide +kernel, rfl, by decide, by decide, q_797, rfl⟩
theorem i8_undo_21 : IC cX8_undo 21 22 (0) := ⟨by decide, Or.inl ⟨by decide +kernel, rfl⟩⟩
theorem i8_undo_22 : ISi cX8_undo 22 23 1 := Or.inl ⟨1, by decide +kernel, rfl, rfl⟩
theorem i8_undo_23 : ILi cX8_undo 23 24 1 := Or.inl ⟨1, by decide +kernel, rfl, rfl⟩
theorem i8_undo_24 : IC cX8_undo 24 27 (178) := ⟨by decide, Or.inr (Or.inr ⟨by decide +kernel, by decide +kernel, rfl⟩)⟩
theorem i8_undo_27 : IJ cX8_undo 27 30 57 (.if_icmp .ge) := ⟨30, by decide +kernel, rfl, by decide⟩
theorem i8_undo_30 : ILa cX8_undo 30 31 0 := Or.inl ⟨0, by decide +kernel, rfl, rfl⟩
theorem i8_undo_31 : IGF m8_undo 31 34 8 0 := ⟨7, by decide +kernel, rfl, by decide, by decide, q_795⟩
theorem i8_undo_34 : ILi cX8_undo 34 35 1 := Or.inl ⟨1, by decide +kernel, rfl, rfl⟩
theorem i8_undo_35 : ILa cX8_undo 35 36 0 := Or.inl ⟨0, by decide +kernel, rfl, rfl⟩
theorem i8_undo_36 : IGF m8_undo 36 39 8 1 := ⟨13, by decide +kernel, rfl, by decide, by decide, q_796⟩
theorem i8_undo_39 : IC cX8_undo 39 42 (178) := ⟨by decide, Or.inr (Or.inr ⟨by decide +kernel, by decide +kernel, rfl⟩)⟩
theorem i8_undo_42 : ILa cX8_undo 42 43 0 := Or.inl ⟨0, by decide +kernel, rfl, rfl⟩
theorem i8_undo_43 : IGF m8_undo 43 46 8 2 := ⟨60, by decide +kernel, rfl, by decide, by decide, q_797⟩
theorem i8_undo_46 : IO cX8_undo 46 47 .imul := ⟨by decide +kernel, rfl⟩
theorem i8_undo_47 : ILi cX8_undo 47 48 1 := Or.inl ⟨1, by decide +kernel, rfl, rfl⟩
theorem i8_undo_48 : IO cX8_undo 48 49 .iadd := ⟨by decide +kernel, rfl⟩
theorem i8_undo_49 : IO cX8_undo 49 50 .iaload := ⟨by decide +kernel, rfl⟩
theorem i8_undo_50 : IO cX8_undo 50 51 .iastore := ⟨by decide +kernel, rfl⟩
theorem i8_undo_51 : II cX8_undo 51 54 1 (1) := ⟨by decide +kernel, by decide, rfl⟩
theorem i8_undo_54 : IJ cX8_undo 54 57 23 .goto := ⟨-31, by decide +kernel, rfl, by decide⟩
theorem i8_undo_57 : ILa cX8_undo 57 58 0 := Or.inl ⟨0, by decide +kernel, rfl, rfl⟩
theorem i8_undo_58 : ICV m8_undo 58 61 m8_layBasis := ⟨67, by decide +kernel, rfl, q_745⟩
theorem i8_undo_61 : ILa cX8_undo 61 62 0 := Or.inl ⟨0, by decide +kernel, rfl, rfl⟩
theorem i8_undo_62 : IGF m8_undo 62 65 8 2 := ⟨60, by decide +kernel, rfl, by decide, by decide, q_797⟩
theorem i8_undo_65 : IO cX8_undo 65 66 .ireturn := ⟨by decide +kernel, rfl⟩
end
section
theorem dL_0 : decode code 0 = .ok (.new 7, 3) := by decide +kernel
theorem dL_3 : decode code 3 = .ok (.dup, 1) := by decide +kernel
theorem dL_4 : decode code 4 = .ok (.invokespecial 9, 3) := by decide +kernel
theorem dL_7 : decode code 7 = .ok (.astore_n 1, 1) := by decide +kernel
theorem dL_8 : decode code 8 = .ok (.new 10, 3) := by decide +kernel
theorem dL_11 : decode code 11 = .ok (.dup, 1) := by decide +kernel
theorem dL_12 : decode code 12 = .ok (.invokespecial 12, 3) := by decide +kernel
theorem dL_15 : decode code 15 = .ok (.astore_n 2, 1) := by decide +kernel
theorem dL_16 : decode code 16 = .ok (.iconst 0, 1) := by decide +kernel
theorem dL_17 : decode code 17 = .ok (.istore_n 3, 1) := by decide +kernel
theorem dL_18 : decode code 18 = .ok (.iload_n 3, 1) := by decide +kernel
theorem dL_19 : decode code 19 = .ok (.aload_n 0, 1) := by decide +kernel
theorem dL_20 : decode code 20 = .ok (.arraylength, 1) := by decide +kernel
theorem dL_21 : decode code 21 = .ok (.iconst 4, 1) := by decide +kernel
theorem dL_22 : decode code 22 = .ok (.isub, 1) := by decide +kernel
theorem dL_23 : decode code 23 = .ok (.if_icmp .gt 703, 3) := by decide +kernel
theorem dL_26 : decode code 26 = .ok (.aload_n 0, 1) := by decide +kernel
theorem dL_27 : decode code 27 = .ok (.iload_n 3, 1) := by decide +kernel
theorem dL_28 : decode code 28 = .ok (.iaload, 1) := by decide +kernel
theorem dL_29 : decode code 29 = .ok (.bipush 31, 2) := by decide +kernel
theorem dL_31 : decode code 31 = .ok (.iand, 1) := by decide +kernel
theorem dL_32 : decode code 32 = .ok (.tableswitch 688 0 25 #[120, 153, 196, 219, 232, 245, 278, 291, 304, 317, 350, 373, 396, 429, 442, 455, 478, 511, 524, 557, 590, 613, 626, 649, 662, 675], 120) := by decide +kernel
theorem dL_152 : decode code 152 = .ok (.aload_n 1, 1) := by decide +kernel
theorem dL_153 : decode code 153 = .ok (.aload_n 0, 1) := by decide +kernel
theorem dL_154 : decode code 154 = .ok (.iload_n 3, 1) := by decide +kernel
theorem dL_155 : decode code 155 = .ok (.iconst 1, 1) := by decide +kernel
theorem dL_156 : decode code 156 = .ok (.iadd, 1) := by decide +kernel
theorem dL_157 : decode code 157 = .ok (.iaload, 1) := by decide +kernel
theorem dL_158 : decode code 158 = .ok (.aload_n 0, 1) := by decide +kernel
theorem dL_159 : decode code 159 = .ok (.iload_n 3, 1) := by decide +kernel
theorem dL_160 : decode code 160 = .ok (.iconst 2, 1) := by decide +kernel
theorem dL_161 : decode code 161 = .ok (.iadd, 1) := by decide +kernel
theorem dL_162 : decode code 162 = .ok (.iaload, 1) := by decide +kernel
theorem dL_163 : decode code 163 = .ok (.invokevirtual 13, 3) := by decide +kernel
theorem dL_166 : decode code 166 = .ok (.aload_n 2, 1) := by decide +kernel
theorem dL_167 : decode code 167 = .ok (.aload_n 0, 1) := by decide +kernel
theorem dL_168 : decode code 168 = .ok (.iload_n 3, 1) := by decide +kernel
theorem dL_169 : decode code 169 = .ok (.iconst 1, 1) := by decide +kernel
theorem dL_170 : decode code 170 = .ok (.iadd, 1) := by decide +kernel
theorem dL_171 : decode code 171 = .ok (.iaload, 1) := by decide +kernel
theorem dL_172 : decode code 172 = .ok (.aload_n 0, 1) := by decide +kernel
theorem dL_173 : decode code 173 = .ok (.iload_n 3, 1) := by decide +kernel
theorem dL_174 : decode code 174 = .ok (.iconst 2, 1) := by decide +kernel
theorem dL_175 : decode code 175 = .ok (.iadd, 1) := by decide +kernel
theorem dL_176 : decode code 176 = .ok (.iaload, 1) := by decide +kernel
theorem dL_177 : decode code 177 = .ok (.invokevirtual 17, 3) := by decide +kernel
theorem dL_180 : decode code 180 = .ok (.if_icmp .eq 540, 3) := by decide +kernel
theorem dL_183 : decode code 183 = .ok (.iconst 0, 1) := by decide +kernel
theorem dL_184 : decode code 184 = .ok (.ireturn, 1) := by decide +kernel
theorem dL_185 : decode code 185 = .ok (.aload_n 1, 1) := by decide +kernel
theorem dL_186 : decode code 186 = .ok (.aload_n 0, 1) := by decide +kernel
theorem dL_187 : decode code 187 = .ok (.iload_n 3, 1) := by decide +kernel
theorem dL_188 : decode code 188 = .ok (.iconst 1, 1) := by decide +kernel
theorem dL_189 : decode code 189 = .ok (.iadd, 1) := by decide +kernel
theorem dL_190 : decode code 190 = .ok (.iaload, 1) := by decide +kernel
theorem dL_191 : decode code 191 = .ok (.aload_n 0, 1) := by decide +kernel
theorem dL_192 : decode code 192 = .ok (.iload_n 3, 1) := by decide +kernel
theorem dL_193 : decode code 193 = .ok (.iconst 2, 1) := by decide +kernel
theorem dL_194 : decode code 194 = .ok (.iadd, 1) := by decide +kernel
theorem dL_195 : decode code 195 = .ok (.iaload, 1) := by decide +kernel
theorem dL_196 : decode code 196 = .ok (.aload_n 0, 1) := by decide +kernel
theorem dL_197 : decode code 197 = .ok (.iload_n 3, 1) := by decide +kernel
theorem dL_198 : decode code 198 = .ok (.iconst 3, 1) := by decide +kernel
theorem dL_199 : decode code 199 = .ok (.iadd, 1) := by decide +kernel
theorem dL_200 : decode code 200 = .ok (.iaload, 1) := by decide +kernel
theorem dL_201 : decode code 201 = .ok (.invokevirtual 18, 3) := by decide +kernel
theorem dL_204 : decode code 204 = .ok (.aload_n 2, 1) := by decide +kernel
theorem dL_205 : decode code 205 = .ok (.aload_n 0, 1) := by decide +kernel
theorem dL_206 : decode code 206 = .ok (.iload_n 3, 1) := by decide +kernel
theorem dL_207 : decode code 207 = .ok (.iconst 1, 1) := by decide +kernel
theorem dL_208 : decode code 208 = .ok (.iadd, 1) := by decide +kernel
theorem dL_209 : decode code 209 = .ok (.iaload, 1) := by decide +kernel
theorem dL_210 : decode code 210 = .ok (.aload_n 0, 1) := by decide +kernel
theorem dL_211 : decode code 211 = .ok (.iload_n 3, 1) := by decide +kernel
theorem dL_212 : decode code 212 = .ok (.iconst 2, 1) := by decide +kernel
theorem dL_213 : decode code 213 = .ok (.iadd, 1) := by decide +kernel
theorem dL_214 : decode code 214 = .ok (.iaload, 1) := by decide +kernel
theorem dL_215 : decode code 215 = .ok (.aload_n 0, 1) := by decide +kernel
theorem dL_216 : decode code 216 = .ok (.iload_n 3, 1) := by decide +kernel
theorem dL_217 : decode code 217 = .ok (.iconst 3, 1) := by decide +kernel
theorem dL_218 : decode code 218 = .ok (.iadd, 1) := by decide +kernel
theorem dL_219 : decode code 219 = .ok (.iaload, 1) := by decide +kernel
theorem dL_220 : decode code 220 = .ok (.invokevirtual 22, 3) := by decide +kernel
theorem dL_223 : decode code 223 = .ok (.if_icmp .eq 497, 3) := by decide +kernel
theorem dL_226 : decode code 226 = .ok (.iconst 0, 1) := by decide +kernel
theorem dL_227 : decode code 227 = .ok (.ireturn, 1) := by decide +kernel
theorem dL_228 : decode code 228 = .ok (.aload_n 1, 1) := by decide +kernel
theorem dL_229 : decode code 229 = .ok (.aload_n 0, 1) := by decide +kernel
theorem dL_230 : decode code 230 = .ok (.iload_n 3, 1) := by decide +kernel
theorem dL_231 : decode code 231 = .ok (.iconst 1, 1) := by decide +kernel
theorem dL_232 : decode code 232 = .ok (.iadd, 1) := by decide +kernel
theorem dL_233 : decode code 233 = .ok (.iaload, 1) := by decide +kernel
theorem dL_234 : decode code 234 = .ok (.invokevirtual 23, 3) := by decide +kernel
theorem dL_237 : decode code 237 = .ok (.aload_n 2, 1) := by decide +kernel
theorem dL_238 : decode code 238 = .ok (.aload_n 0, 1) := by decide +kernel
theorem dL_239 : decode code 239 = .ok (.iload_n 3, 1) := by decide +kernel
theorem dL_240 : decode code 240 = .ok (.iconst 1, 1) := by decide +kernel
theorem dL_241 : decode code 241 = .ok (.iadd, 1) := by decide +kernel
theorem dL_242 : decode code 242 = .ok (.iaload, 1) := by decide +kernel
theorem dL_243 : decode code 243 = .ok (.invokevirtual 27, 3) := by decide +kernel
theorem dL_246 : decode code 246 = .ok (.if_icmp .eq 474, 3) := by decide +kernel
theorem dL_249 : decode code 249 = .ok (.iconst 0, 1) := by decide +kernel
theorem dL_250 : decode code 250 = .ok (.ireturn, 1) := by decide +kernel
theorem dL_251 : decode code 251 = .ok (.aload_n 1, 1) := by decide +kernel
theorem dL_252 : decode code 252 = .ok (.invokevirtual 28, 3) := by decide +kernel
theorem dL_255 : decode code 255 = .ok (.aload_n 2, 1) := by decide +kernel
theorem dL_256 : decode code 256 = .ok (.invokevirtual 32, 3) := by decide +kernel
theorem dL_259 : decode code 259 = .ok (.if_icmp .eq 461, 3) := by decide +kernel
theorem dL_262 : decode code 262 = .ok (.iconst 0, 1) := by decide +kernel
theorem dL_263 : decode code 263 = .ok (.ireturn, 1) := by decide +kernel
theorem dL_264 : decode code 264 = .ok (.aload_n 1, 1) := by decide +kernel
theorem dL_265 : decode code 265 = .ok (.invokevirtual 33, 3) := by decide +kernel
theorem dL_268 : decode code 268 = .ok (.aload_n 2, 1) := by decide +kernel
theorem dL_269 : decode code 269 = .ok (.invokevirtual 36, 3) := by decide +kernel
theorem dL_272 : decode code 272 = .ok (.if_icmp .eq 448, 3) := by decide +kernel
theorem dL_275 : decode code 275 = .ok (.iconst 0, 1) := by decide +kernel
theorem dL_276 : decode code 276 = .ok (.ireturn, 1) := by decide +kernel
theorem dL_277 : decode code 277 = .ok (.aload_n 1, 1) := by decide +kernel
theorem dL_278 : decode code 278 = .ok (.aload_n 0, 1) := by decide +kernel
theorem dL_279 : decode code 279 = .ok (.iload_n 3, 1) := by decide +kernel
theorem dL_280 : decode code 280 = .ok (.iconst 1, 1) := by decide +kernel
theorem dL_281 : decode code 281 = .ok (.iadd, 1) := by decide +kernel
theorem dL_282 : decode code 282 = .ok (.iaload, 1) := by decide +kernel
theorem dL_283 : decode code 283 = .ok (.aload_n 0, 1) := by decide +kernel
theorem dL_284 : decode code 284 = .ok (.iload_n 3, 1) := by decide +kernel
theorem dL_285 : decode code 285 = .ok (.iconst 2, 1) := by decide +kernel
theorem dL_286 : decode code 286 = .ok (.iadd, 1) := by decide +kernel
theorem dL_287 : decode code 287 = .ok (.iaload, 1) := by decide +kernel
theorem dL_288 : decode code 288 = .ok (.invokevirtual 37, 3) := by decide +kernel
theorem dL_291 : decode code 291 = .ok (.aload_n 2, 1) := by decide +kernel
theorem dL_292 : decode code 292 = .ok (.aload_n 0, 1) := by decide +kernel
theorem dL_293 : decode code 293 = .ok (.iload_n 3, 1) := by decide +kernel
theorem dL_294 : decode code 294 = .ok (.iconst 1, 1) := by decide +kernel
theorem dL_295 : decode code 295 = .ok (.iadd, 1) := by decide +kernel
theorem dL_296 : decode code 296 = .ok (.iaload, 1) := by decide +kernel
theorem dL_297 : decode code 297 = .ok (.aload_n 0, 1) := by decide +kernel
theorem dL_298 : decode code 298 = .ok (.iload_n 3, 1) := by decide +kernel
theorem dL_299 : decode code 299 = .ok (.iconst 2, 1) := by decide +kernel
theorem dL_300 : decode code 300 = .ok (.iadd, 1) := by decide +kernel
theorem dL_301 : decode code 301 = .ok (.iaload, 1) := by decide +kernel
theorem dL_302 : decode code 302 = .ok (.invokevirtual 40, 3) := by decide +kernel
theorem dL_305 : decode code 305 = .ok (.if_icmp .eq 415, 3) := by decide +kernel
theorem dL_308 : decode code 308 = .ok (.iconst 0, 1) := by decide +kernel
theorem dL_309 : decode code 309 = .ok (.ireturn, 1) := by decide +kernel
theorem dL_310 : decode code 310 = .ok (.aload_n 1, 1) := by decide +kernel
theorem dL_311 : decode code 311 = .ok (.invokevirtual 41, 3) := by decide +kernel
theorem dL_314 : decode code 314 = .ok (.aload_n 2, 1) := by decide +kernel
theorem dL_315 : decode code 315 = .ok (.invokevirtual 44, 3) := by decide +kernel
theorem dL_318 : decode code 318 = .ok (.if_icmp .eq 402, 3) := by decide +kernel
theorem dL_321 : decode code 321 = .ok (.iconst 0, 1) := by decide +kernel
theorem dL_322 : decode code 322 = .ok (.ireturn, 1) := by decide +kernel
theorem dL_323 : decode code 323 = .ok (.aload_n 1, 1) := by decide +kernel
theorem dL_324 : decode code 324 = .ok (.invokevirtual 45, 3) := by decide +kernel
theorem dL_327 : decode code 327 = .ok (.aload_n 2, 1) := by decide +kernel
theorem dL_328 : decode code 328 = .ok (.invokevirtual 48, 3) := by decide +kernel
theorem dL_331 : decode code 331 = .ok (.if_icmp .eq 389, 3) := by decide +kernel
theorem dL_334 : decode code 334 = .ok (.iconst 0, 1) := by decide +kernel
theorem dL_335 : decode code 335 = .ok (.ireturn, 1) := by decide +kernel
theorem dL_336 : decode code 336 = .ok (.aload_n 1, 1) := by decide +kernel
theorem dL_337 : decode code 337 = .ok (.invokevirtual 49, 3) := by decide +kernel
theorem dL_340 : decode code 340 = .ok (.aload_n 2, 1) := by decide +kernel
theorem dL_341 : decode code 341 = .ok (.invokevirtual 52, 3) := by decide +kernel
theorem dL_344 : decode code 344 = .ok (.if_icmp .eq 376, 3) := by decide +kernel
theorem dL_347 : decode code 347 = .ok (.iconst 0, 1) := by decide +kernel
theorem dL_348 : decode code 348 = .ok (.ireturn, 1) := by decide +kernel
theorem dL_349 : decode code 349 = .ok (.aload_n 1, 1) := by decide +kernel
theorem dL_350 : decode code 350 = .ok (.aload_n 0, 1) := by decide +kernel
theorem dL_351 : decode code 351 = .ok (.iload_n 3, 1) := by decide +kernel
theorem dL_352 : decode code 352 = .ok (.iconst 1, 1) := by decide +kernel
theorem dL_353 : decode code 353 = .ok (.iadd, 1) := by decide +kernel
theorem dL_354 : decode code 354 = .ok (.iaload, 1) := by decide +kernel
theorem dL_355 : decode code 355 = .ok (.aload_n 0, 1) := by decide +kernel
theorem dL_356 : decode code 356 = .ok (.iload_n 3, 1) := by decide +kernel
theorem dL_357 : decode code 357 = .ok (.iconst 2, 1) := by decide +kernel
theorem dL_358 : decode code 358 = .ok (.iadd, 1) := by decide +kernel
theorem dL_359 : decode code 359 = .ok (.iaload, 1) := by decide +kernel
theorem dL_360 : decode code 360 = .ok (.invokevirtual 53, 3) := by decide +kernel
theorem dL_363 : decode code 363 = .ok (.aload_n 2, 1) := by decide +kernel
theorem dL_364 : decode code 364 = .ok (.aload_n 0, 1) := by decide +kernel
theorem dL_365 : decode code 365 = .ok (.iload_n 3, 1) := by decide +kernel
theorem dL_366 : decode code 366 = .ok (.iconst 1, 1) := by decide +kernel
theorem dL_367 : decode code 367 = .ok (.iadd, 1) := by decide +kernel
theorem dL_368 : decode code 368 = .ok (.iaload, 1) := by decide +kernel
theorem dL_369 : decode code 369 = .ok (.aload_n 0, 1) := by decide +kernel
theorem dL_370 : decode code 370 = .ok (.iload_n 3, 1) := by decide +kernel
theorem dL_371 : decode code 371 = .ok (.iconst 2, 1) := by decide +kernel
theorem dL_372 : decode code 372 = .ok (.iadd, 1) := by decide +kernel
theorem dL_373 : decode code 373 = .ok (.iaload, 1) := by decide +kernel
theorem dL_374 : decode code 374 = .ok (.invokevirtual 56, 3) := by decide +kernel
theorem dL_377 : decode code 377 = .ok (.if_icmp .eq 343, 3) := by decide +kernel
theorem dL_380 : decode code 380 = .ok (.iconst 0, 1) := by decide +kernel
theorem dL_381 : decode code 381 = .ok (.ireturn, 1) := by decide +kernel
theorem dL_382 : decode code 382 = .ok (.aload_n 1, 1) := by decide +kernel
theorem dL_383 : decode code 383 = .ok (.aload_n 0, 1) := by decide +kernel
theorem dL_384 : decode code 384 = .ok (.iload_n 3, 1) := by decide +kernel
theorem dL_385 : decode code 385 = .ok (.iconst 1, 1) := by decide +kernel
theorem dL_386 : decode code 386 = .ok (.iadd, 1) := by decide +kernel
theorem dL_387 : decode code 387 = .ok (.iaload, 1) := by decide +kernel
theorem dL_388 : decode code 388 = .ok (.invokevirtual 57, 3) := by decide +kernel
theorem dL_391 : decode code 391 = .ok (.aload_n 2, 1) := by decide +kernel
theorem dL_392 : decode code 392 = .ok (.aload_n 0, 1) := by decide +kernel
theorem dL_393 : decode code 393 = .ok (.iload_n 3, 1) := by decide +kernel
theorem dL_394 : decode code 394 = .ok (.iconst 1, 1) := by decide +kernel
theorem dL_395 : decode code 395 = .ok (.iadd, 1) := by decide +kernel
theorem dL_396 : decode code 396 = .ok (.iaload, 1) := by decide +kernel
theorem dL_397 : decode code 397 = .ok (.invokevirtual 60, 3) := by decide +kernel
theorem dL_400 : decode code 400 = .ok (.if_icmp .eq 320, 3) := by decide +kernel
theorem dL_403 : decode code 403 = .ok (.iconst 0, 1) := by decide +kernel
theorem dL_404 : decode code 404 = .ok (.ireturn, 1) := by decide +kernel
theorem dL_405 : decode code 405 = .ok (.aload_n 1, 1) := by decide +kernel
theorem dL_406 : decode code 406 = .ok (.aload_n 0, 1) := by decide +kernel
theorem dL_407 : decode code 407 = .ok (.iload_n 3, 1) := by decide +kernel
theorem dL_408 : decode code 408 = .ok (.iconst 1, 1) := by decide +kernel
theorem dL_409 : decode code 409 = .ok (.iadd, 1) := by decide +kernel
theorem dL_410 : decode code 410 = .ok (.iaload, 1) := by decide +kernel
theorem dL_411 : decode code 411 = .ok (.invokevirtual 61, 3) := by decide +kernel
theorem dL_414 : decode code 414 = .ok (.aload_n 2, 1) := by decide +kernel
theorem dL_415 : decode code 415 = .ok (.aload_n 0, 1) := by decide +kernel
theorem dL_416 : decode code 416 = .ok (.iload_n 3, 1) := by decide +kernel
theorem dL_417 : decode code 417 = .ok (.iconst 1, 1) := by decide +kernel
theorem dL_418 : decode code 418 = .ok (.iadd, 1) := by decide +kernel
theorem dL_419 : decode code 419 = .ok (.iaload, 1) := by decide +kernel
theorem dL_420 : decode code 420 = .ok (.invokevirtual 64, 3) := by decide +kernel
theorem dL_423 : decode code 423 = .ok (.if_icmp .eq 297, 3) := by decide +kernel
theorem dL_426 : decode code 426 = .ok (.iconst 0, 1) := by decide +kernel
theorem dL_427 : decode code 427 = .ok (.ireturn, 1) := by decide +kernel
theorem dL_428 : decode code 428 = .ok (.aload_n 1, 1) := by decide +kernel
theorem dL_429 : decode code 429 = .ok (.aload_n 0, 1) := by decide +kernel
theorem dL_430 : decode code 430 = .ok (.iload_n 3, 1) := by decide +kernel
theorem dL_431 : decode code 431 = .ok (.iconst 1, 1) := by decide +kernel
theorem dL_432 : decode code 432 = .ok (.iadd, 1) := by decide +kernel
theorem dL_433 : decode code 433 = .ok (.iaload, 1) := by decide +kernel
theorem dL_434 : decode code 434 = .ok (.aload_n 0, 1) := by decide +kernel
theorem dL_435 : decode code 435 = .ok (.iload_n 3, 1) := by decide +kernel
theorem dL_436 : decode code 436 = .ok (.iconst 2, 1) := by decide +kernel
theorem dL_437 : decode code 437 = .ok (.iadd, 1) := by decide +kernel
theorem dL_438 : decode code 438 = .ok (.iaload, 1) := by decide +kernel
theorem dL_439 : decode code 439 = .ok (.invokevirtual 65, 3) := by decide +kernel
theorem dL_442 : decode code 442 = .ok (.aload_n 2, 1) := by decide +kernel
theorem dL_443 : decode code 443 = .ok (.aload_n 0, 1) := by decide +kernel
theorem dL_444 : decode code 444 = .ok (.iload_n 3, 1) := by decide +kernel
theorem dL_445 : decode code 445 = .ok (.iconst 1, 1) := by decide +kernel
theorem dL_446 : decode code 446 = .ok (.iadd, 1) := by decide +kernel
theorem dL_447 : decode code 447 = .ok (.iaload, 1) := by decide +kernel
theorem dL_448 : decode code 448 = .ok (.aload_n 0, 1) := by decide +kernel
theorem dL_449 : decode code 449 = .ok (.iload_n 3, 1) := by decide +kernel
theorem dL_450 : decode code 450 = .ok (.iconst 2, 1) := by decide +kernel
theorem dL_451 : decode code 451 = .ok (.iadd, 1) := by decide +kernel
theorem dL_452 : decode code 452 = .ok (.iaload, 1) := by decide +kernel
theorem dL_453 : decode code 453 = .ok (.invokevirtual 68, 3) := by decide +kernel
theorem dL_456 : decode code 456 = .ok (.if_icmp .eq 264, 3) := by decide +kernel
theorem dL_459 : decode code 459 = .ok (.iconst 0, 1) := by decide +kernel
theorem dL_460 : decode code 460 = .ok (.ireturn, 1) := by decide +kernel
theorem dL_461 : decode code 461 = .ok (.aload_n 1, 1) := by decide +kernel
theorem dL_462 : decode code 462 = .ok (.invokevirtual 69, 3) := by decide +kernel
theorem dL_465 : decode code 465 = .ok (.aload_n 2, 1) := by decide +kernel
theorem dL_466 : decode code 466 = .ok (.invokevirtual 72, 3) := by decide +kernel
theorem dL_469 : decode code 469 = .ok (.if_icmp .eq 251, 3) := by decide +kernel
theorem dL_472 : decode code 472 = .ok (.iconst 0, 1) := by decide +kernel
theorem dL_473 : decode code 473 = .ok (.ireturn, 1) := by decide +kernel
theorem dL_474 : decode code 474 = .ok (.aload_n 1, 1) := by decide +kernel
theorem dL_475 : decode code 475 = .ok (.invokevirtual 73, 3) := by decide +kernel
theorem dL_478 : decode code 478 = .ok (.aload_n 2, 1) := by decide +kernel
theorem dL_479 : decode code 479 = .ok (.invokevirtual 76, 3) := by decide +kernel
theorem dL_482 : decode code 482 = .ok (.if_icmp .eq 238, 3) := by decide +kernel
theorem dL_485 : decode code 485 = .ok (.iconst 0, 1) := by decide +kernel
theorem dL_486 : decode code 486 = .ok (.ireturn, 1) := by decide +kernel
theorem dL_487 : decode code 487 = .ok (.aload_n 1, 1) := by decide +kernel
theorem dL_488 : decode code 488 = .ok (.aload_n 0, 1) := by decide +kernel
theorem dL_489 : decode code 489 = .ok (.iload_n 3, 1) := by decide +kernel
theorem dL_490 : decode code 490 = .ok (.iconst 1, 1) := by decide +kernel
theorem dL_491 : decode code 491 = .ok (.iadd, 1) := by decide +kernel
theorem dL_492 : decode code 492 = .ok (.iaload, 1) := by decide +kernel
theorem dL_493 : decode code 493 = .ok (.invokevirtual 77, 3) := by decide +kernel
theorem dL_496 : decode code 496 = .ok (.aload_n 2, 1) := by decide +kernel
theorem dL_497 : decode code 497 = .ok (.aload_n 0, 1) := by decide +kernel
theorem dL_498 : decode code 498 = .ok (.iload_n 3, 1) := by decide +kernel
theorem dL_499 : decode code 499 = .ok (.iconst 1, 1) := by decide +kernel
theorem dL_500 : decode code 500 = .ok (.iadd, 1) := by decide +kernel
theorem dL_501 : decode code 501 = .ok (.iaload, 1) := by decide +kernel
theorem dL_502 : decode code 502 = .ok (.invokevirtual 80, 3) := by decide +kernel
theorem dL_505 : decode code 505 = .ok (.if_icmp .eq 215, 3) := by decide +kernel
theorem dL_508 : decode code 508 = .ok (.iconst 0, 1) := by decide +kernel
theorem dL_509 : decode code 509 = .ok (.ireturn, 1) := by decide +kernel
theorem dL_510 : decode code 510 = .ok (.aload_n 1, 1) := by decide +kernel
theorem dL_511 : decode code 511 = .ok (.aload_n 0, 1) := by decide +kernel
theorem dL_512 : decode code 512 = .ok (.iload_n 3, 1) := by decide +kernel
theorem dL_513 : decode code 513 = .ok (.iconst 1, 1) := by decide +kernel
theorem dL_514 : decode code 514 = .ok (.iadd, 1) := by decide +kernel
theorem dL_515 : decode code 515 = .ok (.iaload, 1) := by decide +kernel
theorem dL_516 : decode code 516 = .ok (.aload_n 0, 1) := by decide +kernel
theorem dL_517 : decode code 517 = .ok (.iload_n 3, 1) := by decide +kernel
theorem dL_518 : decode code 518 = .ok (.iconst 2, 1) := by decide +kernel
theorem dL_519 : decode code 519 = .ok (.iadd, 1) := by decide +kernel
theorem dL_520 : decode code 520 = .ok (.iaload, 1) := by decide +kernel
theorem dL_521 : decode code 521 = .ok (.invokevirtual 81, 3) := by decide +kernel
theorem dL_524 : decode code 524 = .ok (.aload_n 2, 1) := by decide +kernel
theorem dL_525 : decode code 525 = .ok (.aload_n 0, 1) := by decide +kernel
theorem dL_526 : decode code 526 = .ok (.iload_n 3, 1) := by decide +kernel
theorem dL_527 : decode code 527 = .ok (.iconst 1, 1) := by decide +kernel
theorem dL_528 : decode code 528 = .ok (.iadd, 1) := by decide +kernel
theorem dL_529 : decode code 529 = .ok (.iaload, 1) := by decide +kernel
theorem dL_530 : decode code 530 = .ok (.aload_n 0, 1) := by decide +kernel
theorem dL_531 : decode code 531 = .ok (.iload_n 3, 1) := by decide +kernel
theorem dL_532 : decode code 532 = .ok (.iconst 2, 1) := by decide +kernel
theorem dL_533 : decode code 533 = .ok (.iadd, 1) := by decide +kernel
theorem dL_534 : decode code 534 = .ok (.iaload, 1) := by decide +kernel
theorem dL_535 : decode code 535 = .ok (.invokevirtual 84, 3) := by decide +kernel
theorem dL_538 : decode code 538 = .ok (.if_icmp .eq 182, 3) := by decide +kernel
theorem dL_541 : decode code 541 = .ok (.iconst 0, 1) := by decide +kernel
theorem dL_542 : decode code 542 = .ok (.ireturn, 1) := by decide +kernel
theorem dL_543 : decode code 543 = .ok (.aload_n 1, 1) := by decide +kernel
theorem dL_544 : decode code 544 = .ok (.invokevirtual 85, 3) := by decide +kernel
theorem dL_547 : decode code 547 = .ok (.aload_n 2, 1) := by decide +kernel
theorem dL_548 : decode code 548 = .ok (.invokevirtual 88, 3) := by decide +kernel
theorem dL_551 : decode code 551 = .ok (.if_icmp .eq 169, 3) := by decide +kernel
theorem dL_554 : decode code 554 = .ok (.iconst 0, 1) := by decide +kernel
theorem dL_555 : decode code 555 = .ok (.ireturn, 1) := by decide +kernel
theorem dL_556 : decode code 556 = .ok (.aload_n 1, 1) := by decide +kernel
theorem dL_557 : decode code 557 = .ok (.aload_n 0, 1) := by decide +kernel
theorem dL_558 : decode code 558 = .ok (.iload_n 3, 1) := by decide +kernel
theorem dL_559 : decode code 559 = .ok (.iconst 1, 1) := by decide +kernel
theorem dL_560 : decode code 560 = .ok (.iadd, 1) := by decide +kernel
theorem dL_561 : decode code 561 = .ok (.iaload, 1) := by decide +kernel
theorem dL_562 : decode code 562 = .ok (.aload_n 0, 1) := by decide +kernel
theorem dL_563 : decode code 563 = .ok (.iload_n 3, 1) := by decide +kernel
theorem dL_564 : decode code 564 = .ok (.iconst 2, 1) := by decide +kernel
theorem dL_565 : decode code 565 = .ok (.iadd, 1) := by decide +kernel
theorem dL_566 : decode code 566 = .ok (.iaload, 1) := by decide +kernel
theorem dL_567 : decode code 567 = .ok (.invokevirtual 89, 3) := by decide +kernel
theorem dL_570 : decode code 570 = .ok (.aload_n 2, 1) := by decide +kernel
theorem dL_571 : decode code 571 = .ok (.aload_n 0, 1) := by decide +kernel
theorem dL_572 : decode code 572 = .ok (.iload_n 3, 1) := by decide +kernel
theorem dL_573 : decode code 573 = .ok (.iconst 1, 1) := by decide +kernel
theorem dL_574 : decode code 574 = .ok (.iadd, 1) := by decide +kernel
theorem dL_575 : decode code 575 = .ok (.iaload, 1) := by decide +kernel
theorem dL_576 : decode code 576 = .ok (.aload_n 0, 1) := by decide +kernel
theorem dL_577 : decode code 577 = .ok (.iload_n 3, 1) := by decide +kernel
theorem dL_578 : decode code 578 = .ok (.iconst 2, 1) := by decide +kernel
theorem dL_579 : decode code 579 = .ok (.iadd, 1) := by decide +kernel
theorem dL_580 : decode code 580 = .ok (.iaload, 1) := by decide +kernel
theorem dL_581 : decode code 581 = .ok (.invokevirtual 92, 3) := by decide +kernel
theorem dL_584 : decode code 584 = .ok (.if_icmp .eq 136, 3) := by decide +kernel
theorem dL_587 : decode code 587 = .ok (.iconst 0, 1) := by decide +kernel
theorem dL_588 : decode code 588 = .ok (.ireturn, 1) := by decide +kernel
theorem dL_589 : decode code 589 = .ok (.aload_n 1, 1) := by decide +kernel
theorem dL_590 : decode code 590 = .ok (.aload_n 0, 1) := by decide +kernel
theorem dL_591 : decode code 591 = .ok (.iload_n 3, 1) := by decide +kernel
theorem dL_592 : decode code 592 = .ok (.iconst 1, 1) := by decide +kernel
theorem dL_593 : decode code 593 = .ok (.iadd, 1) := by decide +kernel
theorem dL_594 : decode code 594 = .ok (.iaload, 1) := by decide +kernel
theorem dL_595 : decode code 595 = .ok (.aload_n 0, 1) := by decide +kernel
theorem dL_596 : decode code 596 = .ok (.iload_n 3, 1) := by decide +kernel
theorem dL_597 : decode code 597 = .ok (.iconst 2, 1) := by decide +kernel
theorem dL_598 : decode code 598 = .ok (.iadd, 1) := by decide +kernel
theorem dL_599 : decode code 599 = .ok (.iaload, 1) := by decide +kernel
theorem dL_600 : decode code 600 = .ok (.invokevirtual 93, 3) := by decide +kernel
theorem dL_603 : decode code 603 = .ok (.aload_n 2, 1) := by decide +kernel
theorem dL_604 : decode code 604 = .ok (.aload_n 0, 1) := by decide +kernel
theorem dL_605 : decode code 605 = .ok (.iload_n 3, 1) := by decide +kernel
theorem dL_606 : decode code 606 = .ok (.iconst 1, 1) := by decide +kernel
theorem dL_607 : decode code 607 = .ok (.iadd, 1) := by decide +kernel
theorem dL_608 : decode code 608 = .ok (.iaload, 1) := by decide +kernel
theorem dL_609 : decode code 609 = .ok (.aload_n 0, 1) := by decide +kernel
theorem dL_610 : decode code 610 = .ok (.iload_n 3, 1) := by decide +kernel
theorem dL_611 : decode code 611 = .ok (.iconst 2, 1) := by decide +kernel
theorem dL_612 : decode code 612 = .ok (.iadd, 1) := by decide +kernel
theorem dL_613 : decode code 613 = .ok (.iaload, 1) := by decide +kernel
theorem dL_614 : decode code 614 = .ok (.invokevirtual 96, 3) := by decide +kernel
theorem dL_617 : decode code 617 = .ok (.if_icmp .eq 103, 3) := by decide +kernel
theorem dL_620 : decode code 620 = .ok (.iconst 0, 1) := by decide +kernel
theorem dL_621 : decode code 621 = .ok (.ireturn, 1) := by decide +kernel
theorem dL_622 : decode code 622 = .ok (.aload_n 1, 1) := by decide +kernel
theorem dL_623 : decode code 623 = .ok (.aload_n 0, 1) := by decide +kernel
theorem dL_624 : decode code 624 = .ok (.iload_n 3, 1) := by decide +kernel
theorem dL_625 : decode code 625 = .ok (.iconst 1, 1) := by decide +kernel
theorem dL_626 : decode code 626 = .ok (.iadd, 1) := by decide +kernel
theorem dL_627 : decode code 627 = .ok (.iaload, 1) := by decide +kernel
theorem dL_628 : decode code 628 = .ok (.invokevirtual 97, 3) := by decide +kernel
theorem dL_631 : decode code 631 = .ok (.aload_n 2, 1) := by decide +kernel
theorem dL_632 : decode code 632 = .ok (.aload_n 0, 1) := by decide +kernel
theorem dL_633 : decode code 633 = .ok (.iload_n 3, 1) := by decide +kernel
theorem dL_634 : decode code 634 = .ok (.iconst 1, 1) := by decide +kernel
theorem dL_635 : decode code 635 = .ok (.iadd, 1) := by decide +kernel
theorem dL_636 : decode code 636 = .ok (.iaload, 1) := by decide +kernel
theorem dL_637 : decode code 637 = .ok (.invokevirtual 100, 3) := by decide +kernel
theorem dL_640 : decode code 640 = .ok (.if_icmp .eq 80, 3) := by decide +kernel
theorem dL_643 : decode code 643 = .ok (.iconst 0, 1) := by decide +kernel
theorem dL_644 : decode code 644 = .ok (.ireturn, 1) := by decide +kernel
theorem dL_645 : decode code 645 = .ok (.aload_n 1, 1) := by decide +kernel
theorem dL_646 : decode code 646 = .ok (.invokevirtual 101, 3) := by decide +kernel
theorem dL_649 : decode code 649 = .ok (.aload_n 2, 1) := by decide +kernel
theorem dL_650 : decode code 650 = .ok (.invokevirtual 104, 3) := by decide +kernel
theorem dL_653 : decode code 653 = .ok (.if_icmp .eq 67, 3) := by decide +kernel
theorem dL_656 : decode code 656 = .ok (.iconst 0, 1) := by decide +kernel
theorem dL_657 : decode code 657 = .ok (.ireturn, 1) := by decide +kernel
theorem dL_658 : decode code 658 = .ok (.aload_n 1, 1) := by decide +kernel
theorem dL_659 : decode code 659 = .ok (.aload_n 0, 1) := by decide +kernel
theorem dL_660 : decode code 660 = .ok (.iload_n 3, 1) := by decide +kernel
theorem dL_661 : decode code 661 = .ok (.iconst 1, 1) := by decide +kernel
theorem dL_662 : decode code 662 = .ok (.iadd, 1) := by decide +kernel
theorem dL_663 : decode code 663 = .ok (.iaload, 1) := by decide +kernel
theorem dL_664 : decode code 664 = .ok (.invokevirtual 105, 3) := by decide +kernel
theorem dL_667 : decode code 667 = .ok (.aload_n 2, 1) := by decide +kernel
theorem dL_668 : decode code 668 = .ok (.aload_n 0, 1) := by decide +kernel
theorem dL_669 : decode code 669 = .ok (.iload_n 3, 1) := by decide +kernel
theorem dL_670 : decode code 670 = .ok (.iconst 1, 1) := by decide +kernel
theorem dL_671 : decode code 671 = .ok (.iadd, 1) := by decide +kernel
theorem dL_672 : decode code 672 = .ok (.iaload, 1) := by decide +kernel
theorem dL_673 : decode code 673 = .ok (.invokevirtual 108, 3) := by decide +kernel
theorem dL_676 : decode code 676 = .ok (.if_icmp .eq 44, 3) := by decide +kernel
theorem dL_679 : decode code 679 = .ok (.iconst 0, 1) := by decide +kernel
theorem dL_680 : decode code 680 = .ok (.ireturn, 1) := by decide +kernel
theorem dL_681 : decode code 681 = .ok (.aload_n 1, 1) := by decide +kernel
theorem dL_682 : decode code 682 = .ok (.invokevirtual 109, 3) := by decide +kernel
theorem dL_685 : decode code 685 = .ok (.aload_n 2, 1) := by decide +kernel
theorem dL_686 : decode code 686 = .ok (.invokevirtual 112, 3) := by decide +kernel
theorem dL_689 : decode code 689 = .ok (.if_icmp .eq 31, 3) := by decide +kernel
theorem dL_692 : decode code 692 = .ok (.iconst 0, 1) := by decide +kernel
theorem dL_693 : decode code 693 = .ok (.ireturn, 1) := by decide +kernel
theorem dL_694 : decode code 694 = .ok (.aload_n 1, 1) := by decide +kernel
theorem dL_695 : decode code 695 = .ok (.invokevirtual 113, 3) := by decide +kernel
theorem dL_698 : decode code 698 = .ok (.aload_n 2, 1) := by decide +kernel
theorem dL_699 : decode code 699 = .ok (.invokevirtual 116, 3) := by decide +kernel
theorem dL_702 : decode code 702 = .ok (.if_icmp .eq 18, 3) := by decide +kernel
theorem dL_705 : decode code 705 = .ok (.iconst 0, 1) := by decide +kernel
theorem dL_706 : decode code 706 = .ok (.ireturn, 1) := by decide +kernel
theorem dL_707 : decode code 707 = .ok (.aload_n 1, 1) := by decide +kernel
theorem dL_708 : decode code 708 = .ok (.invokevirtual 117, 3) := by decide +kernel
theorem dL_711 : decode code 711 = .ok (.aload_n 2, 1) := by decide +kernel
theorem dL_712 : decode code 712 = .ok (.invokevirtual 120, 3) := by decide +kernel
theorem dL_715 : decode code 715 = .ok (.if_icmp .eq 5, 3) := by decide +kernel
theorem dL_718 : decode code 718 = .ok (.iconst 0, 1) := by decide +kernel
theorem dL_719 : decode code 719 = .ok (.ireturn, 1) := by decide +kernel
theorem dL_720 : decode code 720 = .ok (.iinc 3 4, 3) := by decide +kernel
theorem dL_723 : decode code 723 = .ok (.goto (-705), 3) := by decide +kernel
theorem dL_726 : decode code 726 = .ok (.iconst 1, 1) := by decide +kernel
theorem dL_727 : decode code 727 = .ok (.ireturn, 1) := by decide +kernel
end
section
abbrev AV : Type := Int ⊕ Option Nat
abbrev Sc : Type := Nat ⊕ (Nat × List (Option (Option Nat)))
abbrev Shp : Type := List Sc
abbrev IE : Type := Nat → Nat → Int
abbrev FE : Type := Nat → Int → Int
abbrev PQ : Type := Option AV → Shp → IE → FE → Prop
def upI (I : IE) (a k : Nat) (x : Int) : IE := fun b j => if b = a ∧ j = k then x else I b j
def upF (F : FE) (a : Nat) (i x : Int) : FE := fun b j => if b = a ∧ j = i then x else F b j
def cpF (F : FE) (a0 : Nat) (sp : Int) (a1 : Nat) (dp n : Int) : FE := fun b j => if b = a1 ∧ dp ≤ j ∧ j < dp + n then F a0 (sp + (j - dp)) else F b j
def cv (ad : Nat → Nat) (v : AV) : Value := match v with
  | .inl x => .int (Int32.ofInt x)
  | .inr none => .null
  | .inr (some k) => .ref (ad k)
def okv (n : Nat) (v : AV) : Prop := match v with
  | .inl x => inR x
  | .inr none => True
  | .inr (some k) => k < n
def sv (ad : Nat → Nat) (x : Int) (s : Option (Option Nat)) : Value := match s with
  | none => .int (Int32.ofInt x)
  | some none => .null
  | some (some r) => .ref (ad r)
def cq (ad : Nat → Nat) (sl : List (Option (Option Nat))) (k : Nat) : Option Nat := match sl[k]? with
  | some (some (some r)) => some (ad r)
  | _ => none
def cel (cI cS : ClassId) (ad : Nat → Nat) (I : IE) (F : FE) (p : Nat) (c : Sc) : va_E := match c with
  | .inl n => .inl (cI, n, .inl (fun k => Int32.ofInt (F p k)))
  | .inr (ci, sl) => if ci = 50 then .inl (cS, sl.length, .inr (.inr (.inr (.inr (cq ad sl))))) else .inr (ci, sl.mapIdx (fun k s => sv ad (I p k) s))
def cw (cI cS : ClassId) (ad : Nat → Nat) (sh : Shp) (I : IE) (F : FE) : va_W := sh.mapIdx (fun p c => (ad p, cel cI cS ad I F p c))
def okSh (sh : Shp) : Prop := ∀ (p ci : Nat) (sl : List (Option (Option Nat))), sh[p]? = some (.inr (ci, sl)) → ((ci < 9 ∧ sl.length = NN ci) ∨ ci = 50) ∧ ∀ (k r : Nat), sl[k]? = some (some (some r)) → r < sh.length
def Wd (D : va_G) (cI cS : ClassId) (A : Nat → Prop) (ad : Nat → Nat) (sh : Shp) (I : IE) (F : FE) (H : Heap) : Prop := va_P D vwCl (cw cI cS ad sh I F) H ∧ va_D A (cw cI cS ad sh I F) ∧ okSh sh ∧ (∀ a k, inR (I a k)) ∧ (∀ a i, inR (F a i))
def nwM : List (String × Nat × MethodName × String) := [(RX7, 11, yX5_init, "GraverCalculator"), (RX3, 17, yX5_init, "GraverCalculator"), (RX7, 25, yX4_init, "GraverCalculator"), (RX7, 32, yX2_init, "GraverCalculator"), (RX7, 39, yX0_init, "GraverCalculator"), (RX7, 58, yX6_init, "GraverCalculator")]
def NW (s : State) : Prop := va_Nw (.fieldLinkNest RX0 41 "GraverCalculator$GraverBasis" "columns" "I" "GraverCalculator") s ∧ (∀ q ∈ nwM, va_Nw (.methodLinkNest q.1 q.2.1 q.2.2.1 q.2.2.2) s) ∧ va_AO RX5 s
def Kn (D : va_G) (cI cS : ClassId) (s : State) : Prop := va_K D vwCl [(cI, .int), (cS, .object RX5)] s ∧ NW s
theorem Kn.warm {D : va_G} {cI cS : ClassId} {s U : State} (hW : s.WarmedH U.vm) (h : Kn D cI cS s) : Kn D cI cS U :=
  ⟨va_K.moved hW.alike h.1, va_Nw.warmF hW h.2.1, fun q hq => va_Nw.warmM hW (h.2.2.1 q hq), va_AO.moved hW.alike h.2.2.2⟩
theorem Kn.same {D : va_G} {cI cS : ClassId} {s U : State} (hW : s.vm = U.vm) (h : Kn D cI cS s) : Kn D cI cS U :=
  ⟨va_K.moved (by rw [hW]; exact Vm.Alike.refl U.vm) h.1, va_Nw.same rfl hW h.2.1, fun q hq => va_Nw.same rfl hW (h.2.2.1 q hq), va_AO.moved (by rw [hW]; exact Vm.Alike.refl U.vm) h.2.2.2⟩
def Cx (μ : MI) (p : Program) (s : State) (m : MethodId) (args : Array Value) (meth : Method) (c : Code) : Prop :=
  p.tables.exec = Jvm.exec ∧ c.code = μ.2.2.1 ∧ meth.sig.returnType = μ.2.2.2.2 ∧ c.maxLocals = μ.2.2.2.1 ∧ s.vm.findClass μ.2.1 = some m.cls ∧ (∀ w ∈ gtbl, w.before args s = true) ∧ meth.locks = false ∧ meth.name = μ.1.name
def Lcl (ad : Nat → Nat) (n : Nat) (lsc : Array Slot) (mL : Nat) (ls : List (Option AV)) : Prop := ls.length = mL ∧ ∃ lv, lv_has lsc mL lv ∧ ∀ (k : Nat) (v : AV), ls[k]? = some (some v) → (k, cv ad v) ∈ lv ∧ okv n v
def PP (D : va_G) (cI cS : ClassId) (A : Nat → Prop) (ad0 : Nat → Nat) (n0 : Nat) (Q : PQ) : Array Value → State → Outcome → State → Prop := fun _ st oc t =>
  (∃ (r : Option AV) (sh' : Shp) (I' : IE) (F' : FE) (ad' : Nat → Nat), oc = .returned (r.map (cv ad')) ∧ Q r sh' I' F' ∧ (∀ k, k < n0 → ad' k = ad0 k) ∧ n0 ≤ sh'.length ∧ Wd D cI cS A ad' sh' I' F' t.heap ∧ ∀ v, r = some v → okv sh'.length v) ∧ va_F A st t
def rmd (d mc ms : Nat) : Room := { frames := d, cells := mc, slots := ms, locals := 30 * d }
/-- inside a method: from here it comes to its end, with Q -/
def WS (μ : MI) (d mc ms n0 : Nat) (Q : PQ) (kc ks pc : Nat) (ls : List (Option AV)) (st : List AV) (sh : Shp) (I : IE) (F : FE) : Prop :=
  ∀ (p : Program) (l : Launch) (e : Env) (s : State) (m : MethodId) (args : Array Value) (below : List Frame) (meth : Method) (c : Code) (D : va_G) (cI cS : ClassId) (A : Nat → Prop) (ad0 ad : Nat → Nat) (H : Heap) (locs : List Loc) (lsc : Array Slot),
  Cx μ p s m args meth c → Kn D cI cS s → (∀ q : Nat, s.heap.size ≤ q → A q) → (∀ k, k < n0 → ad k = ad0 k) → n0 ≤ sh.length → Wd D cI cS A ad sh I F H → va_S A s.heap H locs → Lcl ad sh.length lsc μ.2.2.2.1 ls → (∀ v ∈ st, okv sh.length v) →
  W p l e (rmd d mc ms) s m args below meth c H locs kc ks (MQ below (PP D cI cS A ad0 n0 Q) args s mc ms A) (F0 m pc lsc (st.map (cv ad)))
def wsy (μ : MI) : List Cond := .code μ.1 μ.2.2.1 μ.2.2.2.1 μ.2.2.2.2 :: gtbl
/-- a method's contract -/
def MS (μ : MI) (d mc ms : Nat) (sh : Shp) (as : List AV) (I : IE) (F : FE) (Q : PQ) : Prop :=
  ∀ (l : Launch) (D : va_G) (cI cS : ClassId) (ad : Nat → Nat) (sz : Nat), Met l μ.1 (wsy μ) (rmd d mc ms) (va_Pc (as.map (cv ad)) (fun U => U.heap.size = sz ∧ Wd D cI cS (fun _ => True) ad sh I F U.heap ∧ Kn D cI cS U ∧ ∀ v ∈ as, okv sh.length v))
    (PP D cI cS (va_A (cw cI cS ad sh I F) sz) ad sh.length Q) mc ms (va_A (cw cI cS ad sh I F) sz)
-- numbers
theorem oi_toInt {x : Int} (h : inR x) : (Int32.ofInt x).toInt = x := Int32.toInt_ofInt_of_le (by have := h.1; omega) (by have := h.2; omega)
theorem ti_R (x : Int32) : inR x.toInt := ⟨by have := x.le_toInt; omega, by have := x.toInt_lt; omega⟩
theorem oi_le {x y : Int} (hx : inR x) (hy : inR y) : Int32.ofInt x ≤ Int32.ofInt y ↔ x ≤ y := by rw [Int32.le_iff_toInt_le, oi_toInt hx, oi_toInt hy]
theorem oi_lt {x y : Int} (hx : inR x) (hy : inR y) : Int32.ofInt x < Int32.ofInt y ↔ x < y := by rw [Int32.lt_iff_toInt_lt, oi_toInt hx, oi_toInt hy]
theorem oi_eq {x y : Int} (hx : inR x) (hy : inR y) : Int32.ofInt x = Int32.ofInt y ↔ x = y := by rw [← Int32.toInt_inj, oi_toInt hx, oi_toInt hy]
theorem oi_nat {x : Int} (hx : inR x) : (Int32.ofInt x).toNatClampNeg = x.toNat := Int32.toNatClampNeg_ofInt_of_le (by have := hx.1; omega) (by have := hx.2; omega)
theorem oi_0 : Int32.ofInt 0 = 0 := by decide
theorem inR0 : inR 0 := by decide
theorem oi_in {x : Int} {n : Nat} (hx : inR x) (h : 0 ≤ x ∧ x < n) : vp_in (Int32.ofInt x) n := by rw [vp_in_iff, oi_toInt hx]; exact h
def bandI (x y : Int) : Int := (Int32.ofInt x &&& Int32.ofInt y).toInt
def borI (x y : Int) : Int := (Int32.ofInt x ||| Int32.ofInt y).toInt
def bxorI (x y : Int) : Int := (Int32.ofInt x ^^^ Int32.ofInt y).toInt
def shlI (x y : Int) : Int := (Int32.ofInt x <<< (Int32.ofInt y &&& 31)).toInt
def shrI (x y : Int) : Int := (Int32.ofInt x >>> (Int32.ofInt y &&& 31)).toInt
def ushrI (x y : Int) : Int := ((Int32.ofInt x).toUInt32 >>> ((Int32.ofInt y).toUInt32 &&& Int32.toUInt32 31)).toInt32.toInt
-- worlds
theorem cw_at {cI cS : ClassId} {ad : Nat → Nat} {sh : Shp} {I : IE} {F : FE} {p : Nat} {c : Sc} (h : sh[p]? = some c) : (cw cI cS ad sh I F)[p]? = some (ad p, cel cI cS ad I F p c) := by
  simp [cw, List.getElem?_mapIdx, h]
theorem cw_len {cI cS : ClassId} {ad : Nat → Nat} {sh : Shp} {I : IE} {F : FE} : (cw cI cS ad sh I F).length = sh.length := by simp [cw]
theorem cel_arr {cI cS : ClassId} {ad : Nat → Nat} {I : IE} {F : FE} {p n : Nat} : cel cI cS ad I F p (.inl n) = .inl (cI, n, .inl (fun k => Int32.ofInt (F p k))) := rfl
theorem cel_obj {cI cS : ClassId} {ad : Nat → Nat} {I : IE} {F : FE} {p ci : Nat} {sl : List (Option (Option Nat))} (h : ci < 9) : cel cI cS ad I F p (.inr (ci, sl)) = .inr (ci, sl.mapIdx (fun k s => sv ad (I p k) s)) := by
  simp only [cel]; rw [if_neg (by omega)]
theorem cel_q {cI cS : ClassId} {ad : Nat → Nat} {I : IE} {F : FE} {p : Nat} {sl : List (Option (Option Nat))} : cel cI cS ad I F p (.inr (50, sl)) = .inl (cS, sl.length, .inr (.inr (.inr (.inr (cq ad sl))))) := by
  simp [cel]
theorem cw_set {cI cS : ClassId} {ad : Nat → Nat} {sh sh' : Shp} {I I' : IE} {F F' : FE} {p : Nat} {c : Sc} {E : va_E} (hl : sh'.length = sh.length) (hp : sh'[p]? = some c) (hE : cel cI cS ad I' F' p c = E)
    (ho : ∀ q, q ≠ p → sh'[q]? = sh[q]? ∧ ∀ c', sh[q]? = some c' → cel cI cS ad I' F' q c' = cel cI cS ad I F q c') : (cw cI cS ad sh I F).set p (ad p, E) = cw cI cS ad sh' I' F' := by
  apply List.ext_getElem?
  intro j
  rw [List.getElem?_set]
  by_cases hj : p = j
  · subst hj
    have hlt := (List.getElem?_eq_some_iff.mp hp).1
    rw [if_pos rfl, if_pos (by rw [cw_len]; omega), cw_at hp, hE]
  · rw [if_neg hj]
    obtain ⟨h1, h2⟩ := ho j (Ne.symm hj)
    simp only [cw, List.getElem?_mapIdx, h1]
    cases hc : sh[j]? with
    | none => rfl
    | some c' => simp only [Option.map_some]; rw [h2 c' hc]
theorem cw_push {cI cS : ClassId} {ad : Nat → Nat} {sh : Shp} {I : IE} {F : FE} {c : Sc} {E : va_E} {q : Nat} {ad' : Nat → Nat} (hag : ∀ k, k < sh.length → ad' k = ad k) (hq : ad' sh.length = q) (hok : okSh sh) (hE : cel cI cS ad' I F sh.length c = E) :
    cw cI cS ad sh I F ++ [(q, E)] = cw cI cS ad' (sh ++ [c]) I F := by
  apply List.ext_getElem?
  intro j
  by_cases hj : j < sh.length
  · rw [List.getElem?_append_left (by rw [cw_len]; exact hj)]
    simp only [cw, List.getElem?_mapIdx]
    rw [List.getElem?_append_left hj]
    cases hc : sh[j]? with
    | none => rfl
    | some c' =>
      simp only [Option.map_some]
      rw [hag j hj]
      congr 2
      cases c' with
      | inl n => rfl
      | inr o =>
        obtain ⟨ci, sl⟩ := o
        have hk := (hok j ci sl hc).2
        simp only [cel]
        by_cases h50 : ci = 50
        · rw [if_pos h50, if_pos h50]
          congr 7
          funext k
          simp only [cq]
          rcases hs : sl[k]? with _ | ⟨_ | ⟨_ | r⟩⟩ <;> try rfl
          simp only
          rw [hag r (hk k r hs)]
        · rw [if_neg h50, if_neg h50]
          congr 2
          apply List.ext_getElem?
          intro k
          simp only [List.getElem?_mapIdx]
          rcases hs : sl[k]? with _ | ⟨_ | ⟨_ | r⟩⟩ <;> try rfl
          simp only [Option.map_some, sv]
          rw [hag r (hk k r hs)]
  · by_cases hj2 : j = sh.length
    · subst hj2
      rw [List.getElem?_append_right (by rw [cw_len]; omega), cw_len, Nat.sub_self]
      simp only [cw, List.getElem?_mapIdx]
      rw [List.getElem?_append_right (Nat.le_refl _), Nat.sub_self]
      simp only [List.getElem?_cons_zero, Option.map_some, hq, hE]
    · rw [List.getElem?_eq_none (by rw [List.length_append, cw_len, List.length_singleton]; omega), List.getElem?_eq_none (by rw [cw_len, List.length_append, List.length_singleton]; omega)]
theorem upI_ok {I : IE} {a k : Nat} {x : Int} (h : ∀ a k, inR (I a k)) (hx : inR x) : ∀ b j, inR (upI I a k x b j) := by
  intro b j
  unfold upI
  split
  · exact hx
  · exact h b j
theorem upF_ok {F : FE} {a : Nat} {i x : Int} (h : ∀ a k, inR (F a k)) (hx : inR x) : ∀ b j, inR (upF F a i x b j) := by
  intro b j
  unfold upF
  split
  · exact hx
  · exact h b j
theorem cv_cat (ad : Nat → Nat) (v : AV) : (cv ad v).category = 1 := by rcases v with x | _ | k <;> rfl
theorem cv_len (ad : Nat → Nat) (st : List AV) : ((st.map (cv ad)).map fun v => v.category).sum = st.length := by
  induction st with
  | nil => rfl
  | cons a t ih =>
    simp only [List.map_cons, List.sum_cons, List.length_cons, cv_cat]
    omega
theorem cv_ag {ad ad' : Nat → Nat} {n : Nat} (h : ∀ k, k < n → ad' k = ad k) {v : AV} (hv : okv n v) : cv ad' v = cv ad v := by
  rcases v with x | _ | k
  · rfl
  · rfl
  · simp only [cv]; rw [h k hv]
theorem okv_mono {n n' : Nat} (h : n ≤ n') {v : AV} (hv : okv n v) : okv n' v := by
  rcases v with x | _ | k
  · exact hv
  · trivial
  · exact Nat.lt_of_lt_of_le hv h
theorem Lcl.get {ad : Nat → Nat} {n : Nat} {lsc : Array Slot} {mL : Nat} {ls : List (Option AV)} (h : Lcl ad n lsc mL ls) {k : Nat} {v : AV} (hk : ls[k]? = some (some v)) : lsc[k]? = some (.val (cv ad v)) ∧ okv n v := by
  obtain ⟨-, lv, hv, hm⟩ := h
  exact ⟨hv.2.2 _ (hm k v hk).1, (hm k v hk).2⟩
theorem Lcl.size {ad : Nat → Nat} {n : Nat} {lsc : Array Slot} {mL : Nat} {ls : List (Option AV)} (h : Lcl ad n lsc mL ls) : lsc.size = mL := by
  obtain ⟨-, lv, hv, -⟩ := h
  exact hv.1
theorem Lcl.mono {ad ad' : Nat → Nat} {n n' : Nat} {lsc : Array Slot} {mL : Nat} {ls : List (Option AV)} (h : Lcl ad n lsc mL ls) (hn : n ≤ n') (hag : ∀ k, k < n → ad' k = ad k) : Lcl ad' n' lsc mL ls := by
  obtain ⟨hl, lv, hv, hm⟩ := h
  refine ⟨hl, lv, hv, fun k v hk => ?_⟩
  rw [cv_ag hag (hm k v hk).2]
  exact ⟨(hm k v hk).1, okv_mono hn (hm k v hk).2⟩
theorem Lcl.put {ad : Nat → Nat} {n : Nat} {lsc : Array Slot} {mL : Nat} {ls : List (Option AV)} {lv : List (Nat × Value)} (hl : ls.length = mL) (hm : ∀ (k : Nat) (v : AV), ls[k]? = some (some v) → (k, cv ad v) ∈ lv ∧ okv n v) {i : Nat} {w : AV} (hw : okv n w)
    (h' : lv_has lsc mL ((i, cv ad w) :: lv.filter (fun q => !(q.1 == i) && !(q.1 + 1 == i && q.2.category == 2)))) : Lcl ad n lsc mL (ls.set i (some w)) := by
  refine ⟨by rw [List.length_set]; exact hl, _, h', fun k v hk => ?_⟩
  rw [List.getElem?_set] at hk
  by_cases hki : i = k
  · subst hki
    rw [if_pos rfl] at hk
    split at hk
    · cases hk
      exact ⟨List.mem_cons_self, hw⟩
    · cases hk
  · rw [if_neg hki] at hk
    refine ⟨List.mem_cons_of_mem _ (List.mem_filter.mpr ⟨(hm k v hk).1, ?_⟩), (hm k v hk).2⟩
    simp [cv_cat, Ne.symm hki]
theorem ok_cons {n : Nat} {v : AV} {st : List AV} (h : okv n v) (hs : ∀ w ∈ st, okv n w) : ∀ w ∈ v :: st, okv n w := List.forall_mem_cons.mpr ⟨h, hs⟩
theorem ok_tail {n : Nat} {v : AV} {st : List AV} (hs : ∀ w ∈ v :: st, okv n w) : ∀ w ∈ st, okv n w := fun w h => hs w (List.mem_cons_of_mem _ h)
theorem ok_head {n : Nat} {v : AV} {st : List AV} (hs : ∀ w ∈ v :: st, okv n w) : okv n v := hs v List.mem_cons_self
theorem mem_good {w : Cond} (h : w ∈ gtbl) : (w.onTables && w.keeps) = true ∨ ∃ ty, w = .arrayClass ty := good_of_word (List.mem_filter.mp h).2
section LAYER
variable {μ : MI} {d mc ms n0 kc ks pc n t : Nat} {Q : PQ} {ls : List (Option AV)} {st : List AV} {sh : Shp} {I : IE} {F : FE}
theorem w_iload {k : Nat} {x : Int} (h : ILi μ.2.2.1 pc n k) (hl : ls[k]? = some (some (.inl x)))
    (K : (WS μ d mc ms n0 Q kc ks n ls (.inl x :: st) sh I F)) : (WS μ d mc ms n0 Q kc ks pc ls (st) sh I F) := by
  intro p l e s m args below meth c D cI cS A ad0 ad H locs lsc hC hK hA had hn0 hW hS hL hst
  obtain ⟨hv, ho⟩ := hL.get hl
  have hk := K p l e s m args below meth c D cI cS A ad0 ad H locs lsc hC hK hA had hn0 hW hS hL (ok_cons ho hst)
  rcases h with ⟨j, hd, hj, rfl⟩ | ⟨hd, rfl⟩
  · exact lv_iload_n hC.1 hC.2.1 hd hj hv hk
  · exact lv_iload hC.1 hC.2.1 hd hv hk
theorem w_aload {k : Nat} {x : Nat} (h : ILa μ.2.2.1 pc n k) (hl : ls[k]? = some (some (.inr (some x))))
    (K : (WS μ d mc ms n0 Q kc ks n ls (.inr (some x) :: st) sh I F)) : (WS μ d mc ms n0 Q kc ks pc ls (st) sh I F) := by
  intro p l e s m args below meth c D cI cS A ad0 ad H locs lsc hC hK hA had hn0 hW hS hL hst
  obtain ⟨hv, ho⟩ := hL.get hl
  have hk := K p l e s m args below meth c D cI cS A ad0 ad H locs lsc hC hK hA had hn0 hW hS hL (ok_cons ho hst)
  rcases h with ⟨j, hd, hj, rfl⟩ | ⟨hd, rfl⟩
  · exact lv_aload_n hC.1 hC.2.1 hd hj hv hk
  · exact lv_aload hC.1 hC.2.1 hd hv hk
theorem w_istore {k : Nat} {x : Int} (h : ISi μ.2.2.1 pc n k) (hk : k < ls.length)
    (K : (WS μ d mc ms n0 Q kc ks n (ls.set k (some (.inl x))) (st) sh I F)) : (WS μ d mc ms n0 Q kc ks pc ls (.inl x :: st) sh I F) := by
  intro p l e s m args below meth c D cI cS A ad0 ad H locs lsc hC hK hA had hn0 hW hS hL hst
  obtain ⟨hl, lv, hv, hm⟩ := hL
  have kk : ∀ ls' : Array Slot, lv_has ls' μ.2.2.2.1 ((k, Value.int (Int32.ofInt x)) :: lv.filter (fun q => !(q.1 == k) && !(q.1 + 1 == k && q.2.category == 2))) → W p l e (rmd d mc ms) s m args below meth c H locs kc ks (MQ below (PP D cI cS A ad0 n0 Q) args s mc ms A) (F0 m n ls' (st.map (cv ad))) := fun ls' h' => K p l e s m args below meth c D cI cS A ad0 ad H locs ls' hC hK hA had hn0 hW hS (Lcl.put hl hm (ok_head hst) h') (ok_tail hst)
  rcases h with ⟨j, hd, hj, rfl⟩ | ⟨hd, rfl⟩
  · exact lv_istore_n hC.1 hC.2.1 hd hj hv (by omega) rfl kk
  · exact lv_istore hC.1 hC.2.1 hd hv (by omega) rfl kk
theorem w_iinc {k : Nat} {v x : Int} (h : II μ.2.2.1 pc n k v) (hx : ls[k]? = some (some (.inl x))) (hr : inR (x + v))
    (K : (WS μ d mc ms n0 Q kc ks n (ls.set k (some (.inl (x + v)))) (st) sh I F)) : (WS μ d mc ms n0 Q kc ks pc ls (st) sh I F) := by
  intro p l e s m args below meth c D cI cS A ad0 ad H locs lsc hC hK hA had hn0 hW hS hL hst
  obtain ⟨hd, hrv, rfl⟩ := h
  obtain ⟨hl, lv, hv, hm⟩ := hL
  obtain ⟨q, hq⟩ := List.getElem?_of_mem (hm k _ hx).1
  have hlt := (List.getElem?_eq_some_iff.mp hx).1
  refine lv_iinc (v := Int32.ofInt (x + v)) hC.1 hC.2.1 hd hv hq (by rw [Int32.ofInt_add]) (by omega) rfl (fun ls' h' => ?_)
  exact K p l e s m args below meth c D cI cS A ad0 ad H locs ls' hC hK hA had hn0 hW hS (Lcl.put hl hm (w := .inl (x + v)) hr h') hst
theorem w_const {v : Int} (h : IC μ.2.2.1 pc n v)
    (K : (WS μ d mc ms n0 Q kc ks n ls (.inl v :: st) sh I F)) : (WS μ d mc ms n0 Q kc ks pc ls (st) sh I F) := by
  intro p l e s m args below meth c D cI cS A ad0 ad H locs lsc hC hK hA had hn0 hW hS hL hst
  obtain ⟨hr, h⟩ := h
  have hk := K p l e s m args below meth c D cI cS A ad0 ad H locs lsc hC hK hA had hn0 hW hS hL (ok_cons (v := .inl v) hr hst)
  rcases h with ⟨hd, rfl⟩ | ⟨hd, hv, rfl⟩ | ⟨hd, hv, rfl⟩
  · exact lv_iconst hC.1 hC.2.1 hd rfl hk
  · exact lv_bipush hC.1 hC.2.1 hd hv hk
  · exact lv_sipush hC.1 hC.2.1 hd hv hk
theorem w_ldc {v : Int} (h : ILD μ pc n v)
    (K : (WS μ d mc ms n0 Q kc ks n ls (.inl v :: st) sh I F)) : (WS μ d mc ms n0 Q kc ks pc ls (st) sh I F) := by
  intro p l e s m args below meth c D cI cS A ad0 ad H locs lsc hC hK hA had hn0 hW hS hL hst
  obtain ⟨idx, hd, rfl, hr, hw⟩ := h
  exact lv_ldcw hC.1 hC.2.1 hC.2.2.2.2.1 (hC.2.2.2.2.2.1 _ hw) hd (K p l e s m args below meth c D cI cS A ad0 ad H locs lsc hC hK hA had hn0 hW hS hL (ok_cons (v := .inl v) hr hst))
theorem w_dup {v : AV} (h : IO μ.2.2.1 pc n .dup)
    (K : (WS μ d mc ms n0 Q kc ks n ls (v :: v :: st) sh I F)) : (WS μ d mc ms n0 Q kc ks pc ls (v :: st) sh I F) := by
  intro p l e s m args below meth c D cI cS A ad0 ad H locs lsc hC hK hA had hn0 hW hS hL hst
  obtain ⟨hd, rfl⟩ := h
  exact lv_dup hC.1 hC.2.1 hd (cv_cat ad v) (K p l e s m args below meth c D cI cS A ad0 ad H locs lsc hC hK hA had hn0 hW hS hL (ok_cons (ok_head hst) hst))
theorem w_dup2 {v w : AV} (h : IO μ.2.2.1 pc n .dup2)
    (K : (WS μ d mc ms n0 Q kc ks n ls (v :: w :: v :: w :: st) sh I F)) : (WS μ d mc ms n0 Q kc ks pc ls (v :: w :: st) sh I F) := by
  intro p l e s m args below meth c D cI cS A ad0 ad H locs lsc hC hK hA had hn0 hW hS hL hst
  obtain ⟨hd, rfl⟩ := h
  exact lv_dup2_11 hC.1 hC.2.1 hd (cv_cat ad v) (cv_cat ad w) (K p l e s m args below meth c D cI cS A ad0 ad H locs lsc hC hK hA had hn0 hW hS hL (ok_cons (ok_head hst) (ok_cons (ok_head (ok_tail hst)) hst)))
theorem w_iadd {x y : Int} (h : IO μ.2.2.1 pc n .iadd) (hr : inR (x + y))
    (K : (WS μ d mc ms n0 Q kc ks n ls (.inl (x + y) :: st) sh I F)) : (WS μ d mc ms n0 Q kc ks pc ls (.inl y :: .inl x :: st) sh I F) := by
  intro p l e s m args below meth c D cI cS A ad0 ad H locs lsc hC hK hA had hn0 hW hS hL hst
  obtain ⟨hd, rfl⟩ := h
  have hk := K p l e s m args below meth c D cI cS A ad0 ad H locs lsc hC hK hA had hn0 hW hS hL (ok_cons (v := .inl (x + y)) hr (ok_tail (ok_tail hst)))
  simp only [List.map_cons, cv, Int32.ofInt_add] at hk
  exact lv_iadd hC.1 hC.2.1 hd hk
theorem w_isub {x y : Int} (h : IO μ.2.2.1 pc n .isub) (hr : inR (x - y))
    (K : (WS μ d mc ms n0 Q kc ks n ls (.inl (x - y) :: st) sh I F)) : (WS μ d mc ms n0 Q kc ks pc ls (.inl y :: .inl x :: st) sh I F) := by
  intro p l e s m args below meth c D cI cS A ad0 ad H locs lsc hC hK hA had hn0 hW hS hL hst
  obtain ⟨hd, rfl⟩ := h
  have hk := K p l e s m args below meth c D cI cS A ad0 ad H locs lsc hC hK hA had hn0 hW hS hL (ok_cons (v := .inl (x - y)) hr (ok_tail (ok_tail hst)))
  simp only [List.map_cons, cv, Int32.ofInt_sub] at hk
  exact lv_isub hC.1 hC.2.1 hd hk
theorem w_imul {x y : Int} (h : IO μ.2.2.1 pc n .imul) (hr : inR (x * y))
    (K : (WS μ d mc ms n0 Q kc ks n ls (.inl (x * y) :: st) sh I F)) : (WS μ d mc ms n0 Q kc ks pc ls (.inl y :: .inl x :: st) sh I F) := by
  intro p l e s m args below meth c D cI cS A ad0 ad H locs lsc hC hK hA had hn0 hW hS hL hst
  obtain ⟨hd, rfl⟩ := h
  have hk := K p l e s m args below meth c D cI cS A ad0 ad H locs lsc hC hK hA had hn0 hW hS hL (ok_cons (v := .inl (x * y)) hr (ok_tail (ok_tail hst)))
  simp only [List.map_cons, cv, Int32.ofInt_mul] at hk
  exact lv_imul hC.1 hC.2.1 hd hk
theorem w_idiv {x y : Int} (h : IO μ.2.2.1 pc n .idiv) (hy : y ≠ 0) (hr : inR (x.tdiv y))
    (K : (WS μ d mc ms n0 Q kc ks n ls (.inl (x.tdiv y) :: st) sh I F)) : (WS μ d mc ms n0 Q kc ks pc ls (.inl y :: .inl x :: st) sh I F) := by
  intro p l e s m args below meth c D cI cS A ad0 ad H locs lsc hC hK hA had hn0 hW hS hL hst
  obtain ⟨hd, rfl⟩ := h
  have h1 : inR y := ok_head hst
  have h2 : inR x := ok_head (ok_tail hst)
  have hk := K p l e s m args below meth c D cI cS A ad0 ad H locs lsc hC hK hA had hn0 hW hS hL (ok_cons (v := .inl (x.tdiv y)) hr (ok_tail (ok_tail hst)))
  have m1 : Int32.minValue.toInt = -2147483648 := by decide
  have m2 : Int32.maxValue.toInt = 2147483647 := by decide
  have he0 : Int32.ofInt (x.tdiv y) = Int32.ofInt x / Int32.ofInt y := Int32.ofInt_tdiv (by rw [m1]; exact h2.1) (by rw [m2]; exact h2.2) (by rw [m1]; exact h1.1) (by rw [m2]; exact h1.2)
  have he : Int32.ofInt (x.tdiv y) = Int32.ofInt x / Int32.ofInt y := he0
  simp only [List.map_cons, cv, he] at hk
  exact lv_idiv hC.1 hC.2.1 hd (by rw [← oi_0, oi_eq h1 inR0]; exact hy) hk
theorem w_irem {x y : Int} (h : IO μ.2.2.1 pc n .irem) (hy : y ≠ 0) (hr : inR (x.tmod y))
    (K : (WS μ d mc ms n0 Q kc ks n ls (.inl (x.tmod y) :: st) sh I F)) : (WS μ d mc ms n0 Q kc ks pc ls (.inl y :: .inl x :: st) sh I F) := by
  intro p l e s m args below meth c D cI cS A ad0 ad H locs lsc hC hK hA had hn0 hW hS hL hst
  obtain ⟨hd, rfl⟩ := h
  have h1 : inR y := ok_head hst
  have h2 : inR x := ok_head (ok_tail hst)
  have hk := K p l e s m args below meth c D cI cS A ad0 ad H locs lsc hC hK hA had hn0 hW hS hL (ok_cons (v := .inl (x.tmod y)) hr (ok_tail (ok_tail hst)))
  have m1 : Int32.minValue.toInt = -2147483648 := by decide
  have m2 : Int32.maxValue.toInt = 2147483647 := by decide
  have he0 : Int32.ofInt (x.tdiv y) = Int32.ofInt x / Int32.ofInt y := Int32.ofInt_tdiv (by rw [m1]; exact h2.1) (by rw [m2]; exact h2.2) (by rw [m1]; exact h1.1) (by rw [m2]; exact h1.2)
  have he : Int32.ofInt (x.tmod y) = Int32.ofInt x - Int32.ofInt x / Int32.ofInt y * Int32.ofInt y := by rw [Int.tmod_def, Int32.ofInt_sub, Int32.ofInt_mul, he0, Int32.mul_comm]
  simp only [List.map_cons, cv, he] at hk
  exact lv_irem hC.1 hC.2.1 hd (by rw [← oi_0, oi_eq h1 inR0]; exact hy) hk
theorem w_ineg {x : Int} (h : IO μ.2.2.1 pc n .ineg) (hr : inR (-x))
    (K : (WS μ d mc ms n0 Q kc ks n ls (.inl (-x) :: st) sh I F)) : (WS μ d mc ms n0 Q kc ks pc ls (.inl x :: st) sh I F) := by
  intro p l e s m args below meth c D cI cS A ad0 ad H locs lsc hC hK hA had hn0 hW hS hL hst
  obtain ⟨hd, rfl⟩ := h
  have hk := K p l e s m args below meth c D cI cS A ad0 ad H locs lsc hC hK hA had hn0 hW hS hL (ok_cons (v := .inl (-x)) hr (ok_tail hst))
  simp only [List.map_cons, cv, Int32.ofInt_neg] at hk
  exact lv_ineg hC.1 hC.2.1 hd (by first | exact hk | (rw [Int32.zero_sub]; exact hk) | simpa using hk)
theorem w_iand {x y : Int} (h : IO μ.2.2.1 pc n .iand)
    (K : (WS μ d mc ms n0 Q kc ks n ls (.inl (bandI x y) :: st) sh I F)) : (WS μ d mc ms n0 Q kc ks pc ls (.inl y :: .inl x :: st) sh I F) := by
  intro p l e s m args below meth c D cI cS A ad0 ad H locs lsc hC hK hA had hn0 hW hS hL hst
  obtain ⟨hd, rfl⟩ := h
  have hk := K p l e s m args below meth c D cI cS A ad0 ad H locs lsc hC hK hA had hn0 hW hS hL (ok_cons (v := .inl (bandI x y)) (ti_R _) (ok_tail (ok_tail hst)))
  simp only [List.map_cons, cv, bandI, Int32.ofInt_toInt] at hk
  exact lv_iand hC.1 hC.2.1 hd hk
theorem w_ior {x y : Int} (h : IO μ.2.2.1 pc n .ior)
    (K : (WS μ d mc ms n0 Q kc ks n ls (.inl (borI x y) :: st) sh I F)) : (WS μ d mc ms n0 Q kc ks pc ls (.inl y :: .inl x :: st) sh I F) := by
  intro p l e s m args below meth c D cI cS A ad0 ad H locs lsc hC hK hA had hn0 hW hS hL hst
  obtain ⟨hd, rfl⟩ := h
  have hk := K p l e s m args below meth c D cI cS A ad0 ad H locs lsc hC hK hA had hn0 hW hS hL (ok_cons (v := .inl (borI x y)) (ti_R _) (ok_tail (ok_tail hst)))
  simp only [List.map_cons, cv, borI, Int32.ofInt_toInt] at hk
  exact lv_ior hC.1 hC.2.1 hd hk
theorem w_ixor {x y : Int} (h : IO μ.2.2.1 pc n .ixor)
    (K : (WS μ d mc ms n0 Q kc ks n ls (.inl (bxorI x y) :: st) sh I F)) : (WS μ d mc ms n0 Q kc ks pc ls (.inl y :: .inl x :: st) sh I F) := by
  intro p l e s m args below meth c D cI cS A ad0 ad H locs lsc hC hK hA had hn0 hW hS hL hst
  obtain ⟨hd, rfl⟩ := h
  have hk := K p l e s m args below meth c D cI cS A ad0 ad H locs lsc hC hK hA had hn0 hW hS hL (ok_cons (v := .inl (bxorI x y)) (ti_R _) (ok_tail (ok_tail hst)))
  simp only [List.map_cons, cv, bxorI, Int32.ofInt_toInt] at hk
  exact lv_ixor hC.1 hC.2.1 hd hk
theorem w_ishl {x y : Int} (h : IO μ.2.2.1 pc n .ishl)
    (K : (WS μ d mc ms n0 Q kc ks n ls (.inl (shlI x y) :: st) sh I F)) : (WS μ d mc ms n0 Q kc ks pc ls (.inl y :: .inl x :: st) sh I F) := by
  intro p l e s m args below meth c D cI cS A ad0 ad H locs lsc hC hK hA had hn0 hW hS hL hst
  obtain ⟨hd, rfl⟩ := h
  have hk := K p l e s m args below meth c D cI cS A ad0 ad H locs lsc hC hK hA had hn0 hW hS hL (ok_cons (v := .inl (shlI x y)) (ti_R _) (ok_tail (ok_tail hst)))
  simp only [List.map_cons, cv, shlI, Int32.ofInt_toInt] at hk
  exact lv_ishl hC.1 hC.2.1 hd hk
theorem w_ishr {x y : Int} (h : IO μ.2.2.1 pc n .ishr)
    (K : (WS μ d mc ms n0 Q kc ks n ls (.inl (shrI x y) :: st) sh I F)) : (WS μ d mc ms n0 Q kc ks pc ls (.inl y :: .inl x :: st) sh I F) := by
  intro p l e s m args below meth c D cI cS A ad0 ad H locs lsc hC hK hA had hn0 hW hS hL hst
  obtain ⟨hd, rfl⟩ := h
  have hk := K p l e s m args below meth c D cI cS A ad0 ad H locs lsc hC hK hA had hn0 hW hS hL (ok_cons (v := .inl (shrI x y)) (ti_R _) (ok_tail (ok_tail hst)))
  simp only [List.map_cons, cv, shrI, Int32.ofInt_toInt] at hk
  exact lv_ishr hC.1 hC.2.1 hd hk
theorem w_iushr {x y : Int} (h : IO μ.2.2.1 pc n .iushr)
    (K : (WS μ d mc ms n0 Q kc ks n ls (.inl (ushrI x y) :: st) sh I F)) : (WS μ d mc ms n0 Q kc ks pc ls (.inl y :: .inl x :: st) sh I F) := by
  intro p l e s m args below meth c D cI cS A ad0 ad H locs lsc hC hK hA had hn0 hW hS hL hst
  obtain ⟨hd, rfl⟩ := h
  have hk := K p l e s m args below meth c D cI cS A ad0 ad H locs lsc hC hK hA had hn0 hW hS hL (ok_cons (v := .inl (ushrI x y)) (ti_R _) (ok_tail (ok_tail hst)))
  simp only [List.map_cons, cv, ushrI, Int32.ofInt_toInt] at hk
  exact lv_iushr hC.1 hC.2.1 hd rfl hk
theorem w_ifeq {x : Int} (h : IJ μ.2.2.1 pc n t (.ifCond .eq))
    (kt : x = 0 → (WS μ d mc ms n0 Q kc ks t ls (st) sh I F)) (kf : ¬ x = 0 → (WS μ d mc ms n0 Q kc ks n ls (st) sh I F)) : (WS μ d mc ms n0 Q kc ks pc ls (.inl x :: st) sh I F) := by
  intro p l e s m args below meth c D cI cS A ad0 ad H locs lsc hC hK hA had hn0 hW hS hL hst
  obtain ⟨off, hd, rfl, ht⟩ := h
  have hx : inR x := ok_head hst
  have hy : inR 0 := inR0
  have hs := ok_tail hst
  have hi : (Int32.ofInt x = (0 : Int32)) ↔ (x = 0) := by rw [← oi_0]; exact oi_eq hx hy
  refine lv_if_eq hC.1 hC.2.1 hd ht (fun hc => ?_) (fun hc => ?_)
  · exact kt (hi.mp hc) p l e s m args below meth c D cI cS A ad0 ad H locs lsc hC hK hA had hn0 hW hS hL hs
  · exact kf (fun z => hc (hi.mpr z)) p l e s m args below meth c D cI cS A ad0 ad H locs lsc hC hK hA had hn0 hW hS hL hs
theorem w_icmpeq {x y : Int} (h : IJ μ.2.2.1 pc n t (.if_icmp .eq))
    (kt : x = y → (WS μ d mc ms n0 Q kc ks t ls (st) sh I F)) (kf : ¬ x = y → (WS μ d mc ms n0 Q kc ks n ls (st) sh I F)) : (WS μ d mc ms n0 Q kc ks pc ls (.inl y :: .inl x :: st) sh I F) := by
  intro p l e s m args below meth c D cI cS A ad0 ad H locs lsc hC hK hA had hn0 hW hS hL hst
  obtain ⟨off, hd, rfl, ht⟩ := h
  have hx : inR x := ok_head (ok_tail hst)
  have hy : inR y := ok_head hst
  have hs := ok_tail (ok_tail hst)
  have hi : (Int32.ofInt x = Int32.ofInt y) ↔ (x = y) := oi_eq hx hy
  refine lv_icmp_eq hC.1 hC.2.1 hd ht (fun hc => ?_) (fun hc => ?_)
  · exact kt (hi.mp hc) p l e s m args below meth c D cI cS A ad0 ad H locs lsc hC hK hA had hn0 hW hS hL hs
  · exact kf (fun z => hc (hi.mpr z)) p l e s m args below meth c D cI cS A ad0 ad H locs lsc hC hK hA had hn0 hW hS hL hs
theorem w_ifne {x : Int} (h : IJ μ.2.2.1 pc n t (.ifCond .ne))
    (kt : ¬ x = 0 → (WS μ d mc ms n0 Q kc ks t ls (st) sh I F)) (kf : x = 0 → (WS μ d mc ms n0 Q kc ks n ls (st) sh I F)) : (WS μ d mc ms n0 Q kc ks pc ls (.inl x :: st) sh I F) := by
  intro p l e s m args below meth c D cI cS A ad0 ad H locs lsc hC hK hA had hn0 hW hS hL hst
  obtain ⟨off, hd, rfl, ht⟩ := h
  have hx : inR x := ok_head hst
  have hy : inR 0 := inR0
  have hs := ok_tail hst
  have hi : (Int32.ofInt x = (0 : Int32)) ↔ (x = 0) := by rw [← oi_0]; exact oi_eq hx hy
  refine lv_if_ne hC.1 hC.2.1 hd ht (fun hc => ?_) (fun hc => ?_)
  · exact kt (fun z => hc (hi.mpr z)) p l e s m args below meth c D cI cS A ad0 ad H locs lsc hC hK hA had hn0 hW hS hL hs
  · exact kf (hi.mp hc) p l e s m args below meth c D cI cS A ad0 ad H locs lsc hC hK hA had hn0 hW hS hL hs
theorem w_icmpne {x y : Int} (h : IJ μ.2.2.1 pc n t (.if_icmp .ne))
    (kt : ¬ x = y → (WS μ d mc ms n0 Q kc ks t ls (st) sh I F)) (kf : x = y → (WS μ d mc ms n0 Q kc ks n ls (st) sh I F)) : (WS μ d mc ms n0 Q kc ks pc ls (.inl y :: .inl x :: st) sh I F) := by
  intro p l e s m args below meth c D cI cS A ad0 ad H locs lsc hC hK hA had hn0 hW hS hL hst
  obtain ⟨off, hd, rfl, ht⟩ := h
  have hx : inR x := ok_head (ok_tail hst)
  have hy : inR y := ok_head hst
  have hs := ok_tail (ok_tail hst)
  have hi : (Int32.ofInt x = Int32.ofInt y) ↔ (x = y) := oi_eq hx hy
  refine lv_icmp_ne hC.1 hC.2.1 hd ht (fun hc => ?_) (fun hc => ?_)
  · exact kt (fun z => hc (hi.mpr z)) p l e s m args below meth c D cI cS A ad0 ad H locs lsc hC hK hA had hn0 hW hS hL hs
  · exact kf (hi.mp hc) p l e s m args below meth c D cI cS A ad0 ad H locs lsc hC hK hA had hn0 hW hS hL hs
theorem w_iflt {x : Int} (h : IJ μ.2.2.1 pc n t (.ifCond .lt))
    (kt : x < 0 → (WS μ d mc ms n0 Q kc ks t ls (st) sh I F)) (kf : 0 ≤ x → (WS μ d mc ms n0 Q kc ks n ls (st) sh I F)) : (WS μ d mc ms n0 Q kc ks pc ls (.inl x :: st) sh I F) := by
  intro p l e s m args below meth c D cI cS A ad0 ad H locs lsc hC hK hA had hn0 hW hS hL hst
  obtain ⟨off, hd, rfl, ht⟩ := h
  have hx : inR x := ok_head hst
  have hy : inR 0 := inR0
  have hs := ok_tail hst
  have hi : (Int32.ofInt x < (0 : Int32)) ↔ (x < 0) := by rw [← oi_0]; exact oi_lt hx hy
  refine lv_if_lt hC.1 hC.2.1 hd ht (fun hc => ?_) (fun hc => ?_)
  · exact kt (hi.mp hc) p l e s m args below meth c D cI cS A ad0 ad H locs lsc hC hK hA had hn0 hW hS hL hs
  · exact kf (by have := mt hi.mpr hc; omega) p l e s m args below meth c D cI cS A ad0 ad H locs lsc hC hK hA had hn0 hW hS hL hs
theorem w_icmplt {x y : Int} (h : IJ μ.2.2.1 pc n t (.if_icmp .lt))
    (kt : x < y → (WS μ d mc ms n0 Q kc ks t ls (st) sh I F)) (kf : y ≤ x → (WS μ d mc ms n0 Q kc ks n ls (st) sh I F)) : (WS μ d mc ms n0 Q kc ks pc ls (.inl y :: .inl x :: st) sh I F) := by
  intro p l e s m args below meth c D cI cS A ad0 ad H locs lsc hC hK hA had hn0 hW hS hL hst
  obtain ⟨off, hd, rfl, ht⟩ := h
  have hx : inR x := ok_head (ok_tail hst)
  have hy : inR y := ok_head hst
  have hs := ok_tail (ok_tail hst)
  have hi : (Int32.ofInt x < Int32.ofInt y) ↔ (x < y) := oi_lt hx hy
  refine lv_icmp_lt hC.1 hC.2.1 hd ht (fun hc => ?_) (fun hc => ?_)
  · exact kt (hi.mp hc) p l e s m args below meth c D cI cS A ad0 ad H locs lsc hC hK hA had hn0 hW hS hL hs
  · exact kf (by have := mt hi.mpr hc; omega) p l e s m args below meth c D cI cS A ad0 ad H locs lsc hC hK hA had hn0 hW hS hL hs
theorem w_ifge {x : Int} (h : IJ μ.2.2.1 pc n t (.ifCond .ge))
    (kt : 0 ≤ x → (WS μ d mc ms n0 Q kc ks t ls (st) sh I F)) (kf : x < 0 → (WS μ d mc ms n0 Q kc ks n ls (st) sh I F)) : (WS μ d mc ms n0 Q kc ks pc ls (.inl x :: st) sh I F) := by
  intro p l e s m args below meth c D cI cS A ad0 ad H locs lsc hC hK hA had hn0 hW hS hL hst
  obtain ⟨off, hd, rfl, ht⟩ := h
  have hx : inR x := ok_head hst
  have hy : inR 0 := inR0
  have hs := ok_tail hst
  have hi : ((0 : Int32) ≤ Int32.ofInt x) ↔ (0 ≤ x) := by rw [← oi_0]; exact oi_le hy hx
  refine lv_if_ge hC.1 hC.2.1 hd ht (fun hc => ?_) (fun hc => ?_)
  · exact kt (hi.mp hc) p l e s m args below meth c D cI cS A ad0 ad H locs lsc hC hK hA had hn0 hW hS hL hs
  · exact kf (by have := mt hi.mpr hc; omega) p l e s m args below meth c D cI cS A ad0 ad H locs lsc hC hK hA had hn0 hW hS hL hs
theorem w_icmpge {x y : Int} (h : IJ μ.2.2.1 pc n t (.if_icmp .ge))
    (kt : y ≤ x → (WS μ d mc ms n0 Q kc ks t ls (st) sh I F)) (kf : x < y → (WS μ d mc ms n0 Q kc ks n ls (st) sh I F)) : (WS μ d mc ms n0 Q kc ks pc ls (.inl y :: .inl x :: st) sh I F) := by
  intro p l e s m args below meth c D cI cS A ad0 ad H locs lsc hC hK hA had hn0 hW hS hL hst
  obtain ⟨off, hd, rfl, ht⟩ := h
  have hx : inR x := ok_head (ok_tail hst)
  have hy : inR y := ok_head hst
  have hs := ok_tail (ok_tail hst)
  have hi : (Int32.ofInt y ≤ Int32.ofInt x) ↔ (y ≤ x) := oi_le hy hx
  refine lv_icmp_ge hC.1 hC.2.1 hd ht (fun hc => ?_) (fun hc => ?_)
  · exact kt (hi.mp hc) p l e s m args below meth c D cI cS A ad0 ad H locs lsc hC hK hA had hn0 hW hS hL hs
  · exact kf (by have := mt hi.mpr hc; omega) p l e s m args below meth c D cI cS A ad0 ad H locs lsc hC hK hA had hn0 hW hS hL hs
theorem w_ifgt {x : Int} (h : IJ μ.2.2.1 pc n t (.ifCond .gt))
    (kt : 0 < x → (WS μ d mc ms n0 Q kc ks t ls (st) sh I F)) (kf : x ≤ 0 → (WS μ d mc ms n0 Q kc ks n ls (st) sh I F)) : (WS μ d mc ms n0 Q kc ks pc ls (.inl x :: st) sh I F) := by
  intro p l e s m args below meth c D cI cS A ad0 ad H locs lsc hC hK hA had hn0 hW hS hL hst
  obtain ⟨off, hd, rfl, ht⟩ := h
  have hx : inR x := ok_head hst
  have hy : inR 0 := inR0
  have hs := ok_tail hst
  have hi : ((0 : Int32) < Int32.ofInt x) ↔ (0 < x) := by rw [← oi_0]; exact oi_lt hy hx
  refine lv_if_gt hC.1 hC.2.1 hd ht (fun hc => ?_) (fun hc => ?_)
  · exact kt (hi.mp hc) p l e s m args below meth c D cI cS A ad0 ad H locs lsc hC hK hA had hn0 hW hS hL hs
  · exact kf (by have := mt hi.mpr hc; omega) p l e s m args below meth c D cI cS A ad0 ad H locs lsc hC hK hA had hn0 hW hS hL hs
theorem w_icmpgt {x y : Int} (h : IJ μ.2.2.1 pc n t (.if_icmp .gt))
    (kt : y < x → (WS μ d mc ms n0 Q kc ks t ls (st) sh I F)) (kf : x ≤ y → (WS μ d mc ms n0 Q kc ks n ls (st) sh I F)) : (WS μ d mc ms n0 Q kc ks pc ls (.inl y :: .inl x :: st) sh I F) := by
  intro p l e s m args below meth c D cI cS A ad0 ad H locs lsc hC hK hA had hn0 hW hS hL hst
  obtain ⟨off, hd, rfl, ht⟩ := h
  have hx : inR x := ok_head (ok_tail hst)
  have hy : inR y := ok_head hst
  have hs := ok_tail (ok_tail hst)
  have hi : (Int32.ofInt y < Int32.ofInt x) ↔ (y < x) := oi_lt hy hx
  refine lv_icmp_gt hC.1 hC.2.1 hd ht (fun hc => ?_) (fun hc => ?_)
  · exact kt (hi.mp hc) p l e s m args below meth c D cI cS A ad0 ad H locs lsc hC hK hA had hn0 hW hS hL hs
  · exact kf (by have := mt hi.mpr hc; omega) p l e s m args below meth c D cI cS A ad0 ad H locs lsc hC hK hA had hn0 hW hS hL hs
theorem w_ifle {x : Int} (h : IJ μ.2.2.1 pc n t (.ifCond .le))
    (kt : x ≤ 0 → (WS μ d mc ms n0 Q kc ks t ls (st) sh I F)) (kf : 0 < x → (WS μ d mc ms n0 Q kc ks n ls (st) sh I F)) : (WS μ d mc ms n0 Q kc ks pc ls (.inl x :: st) sh I F) := by
  intro p l e s m args below meth c D cI cS A ad0 ad H locs lsc hC hK hA had hn0 hW hS hL hst
  obtain ⟨off, hd, rfl, ht⟩ := h
  have hx : inR x := ok_head hst
  have hy : inR 0 := inR0
  have hs := ok_tail hst
  have hi : (Int32.ofInt x ≤ (0 : Int32)) ↔ (x ≤ 0) := by rw [← oi_0]; exact oi_le hx hy
  refine lv_if_le hC.1 hC.2.1 hd ht (fun hc => ?_) (fun hc => ?_)
  · exact kt (hi.mp hc) p l e s m args below meth c D cI cS A ad0 ad H locs lsc hC hK hA had hn0 hW hS hL hs
  · exact kf (by have := mt hi.mpr hc; omega) p l e s m args below meth c D cI cS A ad0 ad H locs lsc hC hK hA had hn0 hW hS hL hs
theorem w_icmple {x y : Int} (h : IJ μ.2.2.1 pc n t (.if_icmp .le))
    (kt : x ≤ y → (WS μ d mc ms n0 Q kc ks t ls (st) sh I F)) (kf : y < x → (WS μ d mc ms n0 Q kc ks n ls (st) sh I F)) : (WS μ d mc ms n0 Q kc ks pc ls (.inl y :: .inl x :: st) sh I F) := by
  intro p l e s m args below meth c D cI cS A ad0 ad H locs lsc hC hK hA had hn0 hW hS hL hst
  obtain ⟨off, hd, rfl, ht⟩ := h
  have hx : inR x := ok_head (ok_tail hst)
  have hy : inR y := ok_head hst
  have hs := ok_tail (ok_tail hst)
  have hi : (Int32.ofInt x ≤ Int32.ofInt y) ↔ (x ≤ y) := oi_le hx hy
  refine lv_icmp_le hC.1 hC.2.1 hd ht (fun hc => ?_) (fun hc => ?_)
  · exact kt (hi.mp hc) p l e s m args below meth c D cI cS A ad0 ad H locs lsc hC hK hA had hn0 hW hS hL hs
  · exact kf (by have := mt hi.mpr hc; omega) p l e s m args below meth c D cI cS A ad0 ad H locs lsc hC hK hA had hn0 hW hS hL hs
theorem w_goto (h : IJ μ.2.2.1 pc n t .goto)
    (K : (WS μ d mc ms n0 Q kc ks t ls (st) sh I F)) : (WS μ d mc ms n0 Q kc ks pc ls (st) sh I F) := by
  intro p l e s m args below meth c D cI cS A ad0 ad H locs lsc hC hK hA had hn0 hW hS hL hst
  obtain ⟨off, hd, rfl, ht⟩ := h
  exact lv_goto hC.1 hC.2.1 hd ht (K p l e s m args below meth c D cI cS A ad0 ad H locs lsc hC hK hA had hn0 hW hS hL hst)
theorem w_get {a ci k : Nat} {sl : List (Option (Option Nat))} (h : IGF μ pc n ci k) (hs : sh[a]? = some (.inr (ci, sl))) (hv : sl[k]? = some none)
    (K : (WS μ d mc ms n0 Q kc ks n ls (.inl (I a k) :: st) sh I F)) : (WS μ d mc ms n0 Q kc ks pc ls (.inr (some a) :: st) sh I F) := by
  intro p l e s m args below meth c D cI cS A ad0 ad H locs lsc hC hK hA had hn0 hW hS hL hst
  obtain ⟨idx, hd, rfl, hci, hk, hw⟩ := h
  have he := cw_at (cI := cI) (cS := cS) (ad := ad) (I := I) (F := F) hs
  rw [cel_obj hci] at he
  have hv' : (sl.mapIdx (fun k s => sv ad (I a k) s))[k]? = some (.int (Int32.ofInt (I a k))) := by rw [List.getElem?_mapIdx, hv]; rfl
  exact va_get (D := D) hC.1 hC.2.1 hC.2.2.2.2.2.1 (in_ok ci hci) hC.2.2.2.2.1 hK.1 hW.1 a he (cl_ok ci hci) k hk (hC.2.2.2.2.2.1 _ hw) (fun _ h9 => h9) hv' hd (K p l e s m args below meth c D cI cS A ad0 ad H locs lsc hC hK hA had hn0 hW hS hL (ok_cons (v := .inl (I a k)) (hW.2.2.2.1 a k) (ok_tail hst)))
theorem w_getr {a ci k : Nat} {sl : List (Option (Option Nat))} {r : Nat} (h : IGF μ pc n ci k) (hs : sh[a]? = some (.inr (ci, sl))) (hv : sl[k]? = some (some (some r)))
    (K : (WS μ d mc ms n0 Q kc ks n ls (.inr (some r) :: st) sh I F)) : (WS μ d mc ms n0 Q kc ks pc ls (.inr (some a) :: st) sh I F) := by
  intro p l e s m args below meth c D cI cS A ad0 ad H locs lsc hC hK hA had hn0 hW hS hL hst
  obtain ⟨idx, hd, rfl, hci, hk, hw⟩ := h
  have he := cw_at (cI := cI) (cS := cS) (ad := ad) (I := I) (F := F) hs
  rw [cel_obj hci] at he
  have hv' : (sl.mapIdx (fun k s => sv ad (I a k) s))[k]? = some (.ref (ad r)) := by rw [List.getElem?_mapIdx, hv]; rfl
  exact va_get (D := D) hC.1 hC.2.1 hC.2.2.2.2.2.1 (in_ok ci hci) hC.2.2.2.2.1 hK.1 hW.1 a he (cl_ok ci hci) k hk (hC.2.2.2.2.2.1 _ hw) (fun _ h9 => h9) hv' hd (K p l e s m args below meth c D cI cS A ad0 ad H locs lsc hC hK hA had hn0 hW hS hL (ok_cons (v := .inr (some r)) ((hW.2.2.1 a ci sl hs).2 k r hv) (ok_tail hst)))
theorem w_getN {a : Nat} {sl : List (Option (Option Nat))} (hm : μ.2.1 = RX0) (h : decode μ.2.2.1 pc = .ok (.getfield 41, 3)) (hn : pc + 3 = n) (hs : sh[a]? = some (.inr (2, sl))) (hv : sl[3]? = some none)
    (K : (WS μ d mc ms n0 Q kc ks n ls (.inl (I a 3) :: st) sh I F)) : (WS μ d mc ms n0 Q kc ks pc ls (.inr (some a) :: st) sh I F) := by
  intro p l e s m args below meth c D cI cS A ad0 ad H locs lsc hC hK hA had hn0 hW hS hL hst
  subst hn
  have he := cw_at (cI := cI) (cS := cS) (ad := ad) (I := I) (F := F) hs
  rw [cel_obj (by decide)] at he
  have hv' : (sl.mapIdx (fun k s => sv ad (I a k) s))[3]? = some (.int (Int32.ofInt (I a 3))) := by rw [List.getElem?_mapIdx, hv]; rfl
  have hown := hC.2.2.2.2.1
  rw [hm] at hown
  exact va_getN (D := D) (ref := RX2) hC.1 hC.2.1 hC.2.2.2.2.2.1 (in_ok 2 (by decide)) hown hK.1 hW.1 a he (cl_ok 2 (by decide)) 3 (by decide) (va_Nw.use rfl hK.2.1) (fun _ h9 => h9) hv' h (K p l e s m args below meth c D cI cS A ad0 ad H locs lsc hC hK hA had hn0 hW hS hL (ok_cons (v := .inl (I a 3)) (hW.2.2.2.1 a 3) (ok_tail hst)))
theorem w_put {a ci k : Nat} {sl : List (Option (Option Nat))} {x : Int} (h : IPF μ pc n ci k) (hs : sh[a]? = some (.inr (ci, sl))) (hv : sl[k]? = some none) (hty : YY ci k = .int ∨ YY ci k = .boolean ∧ (x = 0 ∨ x = 1))
    (K : (WS μ d mc ms n0 Q kc ks n ls (st) sh (upI I a k x) F)) : (WS μ d mc ms n0 Q kc ks pc ls (.inl x :: .inr (some a) :: st) sh I F) := by
  intro p l e s m args below meth c D cI cS A ad0 ad H locs lsc hC hK hA had hn0 hW hS hL hst
  obtain ⟨idx, hd, rfl, hci, hk, hw, hfin⟩ := h
  have he := cw_at (cI := cI) (cS := cS) (ad := ad) (I := I) (F := F) hs
  rw [cel_obj hci] at he
  have hx : inR x := ok_head hst
  have hkl := (List.getElem?_eq_some_iff.mp hv).1
  have hnar : narrow (YY ci k) (.int (Int32.ofInt x)) = .int (Int32.ofInt x) := by
    rcases hty with h1 | ⟨h1, rfl | rfl⟩
    · rw [h1]; rfl
    · rw [h1]; rfl
    · rw [h1]; rfl
  have hfit : fits (YY ci k) (.int (Int32.ofInt x)) = true := by
    rcases hty with h1 | ⟨h1, rfl | rfl⟩
    · rw [h1]; rfl
    · rw [h1]; rfl
    · rw [h1]; rfl
  have hset : (cw cI cS ad sh I F).set a (ad a, .inr (ci, (sl.mapIdx (fun k s => sv ad (I a k) s)).set k (cv ad (.inl x)))) = cw cI cS ad sh (upI I a k x) F := by
    refine cw_set rfl hs ?_ (fun q hq => ⟨rfl, fun c' _ => ?_⟩)
    · rw [cel_obj hci]
      congr 2
      apply List.ext_getElem?
      intro j
      rw [List.getElem?_set, List.getElem?_mapIdx, List.getElem?_mapIdx]
      by_cases hj : k = j
      · subst hj
        rw [if_pos rfl, if_pos (by simpa using hkl), hv]
        simp [sv, upI, cv]
      · rw [if_neg hj]
        have : ∀ s, sv ad (upI I a k x a j) s = sv ad (I a j) s := fun s => by simp [upI, Ne.symm hj]
        cases sl[j]? <;> simp [this]
    · rcases c' with n' | ⟨cj, sj⟩
      · rfl
      · simp only [cel]
        have : ∀ j s, sv ad (upI I a k x q j) s = sv ad (I q j) s := fun j s => by simp [upI, hq]
        simp only [this]
  refine va_put (D := D) hC.1 hC.2.1 hC.2.2.2.2.2.1 (in_ok ci hci) (YY ci) (ty_ok ci hci) (nm_ok ci hci) hC.2.2.2.2.1 hK.1 hW.1 hW.2.1 hS a he (cl_ok ci hci) k hk (hC.2.2.2.2.2.1 _ hw) (fun _ h9 => h9) hfin (ty_ok ci hci k hk) hnar hfit (by simpa using hkl) hd (fun H1 locs1 hP1 hD1 hS1 => ?_)
  rw [hset] at hP1 hD1
  exact K p l e s m args below meth c D cI cS A ad0 ad H1 locs1 lsc hC hK hA had hn0 ⟨hP1, hD1, hW.2.2.1, upI_ok hW.2.2.2.1 hx, hW.2.2.2.2⟩ hS1 hL (ok_tail (ok_tail hst))
theorem w_putz {a ci k : Nat} {sl : List (Option (Option Nat))} {r : Nat} {r0 : Option Nat} (h : IPZ μ pc n ci k) (hs : sh[a]? = some (.inr (ci, sl))) (hv : sl[k]? = some (some r0)) (hty : ∀ q, fits (YY ci k) (.ref q) = true ∧ narrow (YY ci k) (.ref q) = .ref q)
    (K : (WS μ d mc ms n0 Q kc ks n ls (st) (sh.set a (.inr (ci, sl.set k (some (some r))))) I F)) : (WS μ d mc ms n0 Q kc ks pc ls (.inr (some r) :: .inr (some a) :: st) sh I F) := by
  intro p l e s m args below meth c D cI cS A ad0 ad H locs lsc hC hK hA had hn0 hW hS hL hst
  obtain ⟨idx, hd, rfl, hci, hk, hw, hfin, hin, hdecl⟩ := h
  have he := cw_at (cI := cI) (cS := cS) (ad := ad) (I := I) (F := F) hs
  rw [cel_obj hci] at he
  have hr : r < sh.length := ok_head hst
  have hkl := (List.getElem?_eq_some_iff.mp hv).1
  have hal := (List.getElem?_eq_some_iff.mp hs).1
  have hset : (cw cI cS ad sh I F).set a (ad a, .inr (ci, (sl.mapIdx (fun k s => sv ad (I a k) s)).set k (cv ad (.inr (some r))))) = cw cI cS ad (sh.set a (.inr (ci, sl.set k (some (some r))))) I F := by
    refine cw_set (c := .inr (ci, sl.set k (some (some r)))) (by simp) (by rw [List.getElem?_set, if_pos rfl, if_pos hal]) ?_ (fun q hq => ⟨by rw [List.getElem?_set_ne (Ne.symm hq)], fun c' _ => rfl⟩)
    rw [cel_obj hci]
    congr 2
    apply List.ext_getElem?
    intro j
    rw [List.getElem?_set, List.getElem?_mapIdx, List.getElem?_mapIdx, List.getElem?_set]
    by_cases hj : k = j
    · subst hj
      simp [hkl, sv, cv]
    · rw [if_neg hj, if_neg hj]
  have hok : okSh (sh.set a (.inr (ci, sl.set k (some (some r))))) := by
    intro q cj sj hq
    rw [List.length_set]
    rw [List.getElem?_set] at hq
    by_cases hqa : a = q
    · subst hqa
      rw [if_pos rfl, if_pos hal] at hq
      cases hq
      obtain ⟨g1, g2⟩ := hW.2.2.1 a ci sl hs
      refine ⟨by rw [List.length_set]; exact g1, fun k' r' h' => ?_⟩
      rw [List.getElem?_set] at h'
      by_cases hkk : k = k'
      · subst hkk
        rw [if_pos rfl, if_pos hkl] at h'
        cases h'
        exact hr
      · rw [if_neg hkk] at h'
        exact g2 k' r' h'
    · rw [if_neg hqa] at hq
      exact hW.2.2.1 q cj sj hq
  refine va_putF (D := D) hC.1 hC.2.1 hC.2.2.2.2.2.1 (in_ok ci hci) (YY ci) (ty_ok ci hci) (nm_ok ci hci) hC.2.2.2.2.1 hK.1 hW.1 hW.2.1 hS a he (cl_ok ci hci) k hk (hC.2.2.2.2.2.1 _ hw) (fun _ h9 => h9) hfin (by rw [hC.2.2.2.2.2.2.2]; exact hin) hdecl (ty_ok ci hci k hk) (hty _).2 (hty _).1 (by simpa using hkl) hd (fun H1 locs1 hP1 hD1 hS1 => ?_)
  rw [hset] at hP1 hD1
  have hn0' : n0 ≤ (sh.set a (.inr (ci, sl.set k (some (some r))))).length := by rw [List.length_set]; exact hn0
  have hL' : Lcl ad (sh.set a (.inr (ci, sl.set k (some (some r))))).length lsc μ.2.2.2.1 ls := by rw [List.length_set]; exact hL
  exact K p l e s m args below meth c D cI cS A ad0 ad H1 locs1 lsc hC hK hA had hn0' ⟨hP1, hD1, hok, hW.2.2.2⟩ hS1 hL' (by rw [List.length_set]; exact ok_tail (ok_tail hst))
theorem w_iald {a N : Nat} {i : Int} (h : IO μ.2.2.1 pc n .iaload) (hs : sh[a]? = some (.inl N)) (hi : 0 ≤ i ∧ i < N)
    (K : (WS μ d mc ms n0 Q kc ks n ls (.inl (F a i) :: st) sh I F)) : (WS μ d mc ms n0 Q kc ks pc ls (.inl i :: .inr (some a) :: st) sh I F) := by
  intro p l e s m args below meth c D cI cS A ad0 ad H locs lsc hC hK hA had hn0 hW hS hL hst
  obtain ⟨hd, rfl⟩ := h
  have he := cw_at (cI := cI) (cS := cS) (ad := ad) (I := I) (F := F) hs
  have hx : inR i := ok_head hst
  have hk := K p l e s m args below meth c D cI cS A ad0 ad H locs lsc hC hK hA had hn0 hW hS hL (ok_cons (v := .inl (F a i)) (hW.2.2.2.2 a i) (ok_tail (ok_tail hst)))
  refine va_iald (D := D) hC.1 hC.2.1 hK.1 hW.1 a 0 he rfl (oi_in hx hi) hd ?_
  rw [oi_nat hx, show ((i.toNat : Nat) : Int) = i by omega]
  exact hk
theorem w_iast {a N : Nat} {i x : Int} (h : IO μ.2.2.1 pc n .iastore) (hs : sh[a]? = some (.inl N)) (hi : 0 ≤ i ∧ i < N)
    (K : (WS μ d mc ms n0 Q kc ks n ls (st) sh I (upF F a i x))) : (WS μ d mc ms n0 Q kc ks pc ls (.inl x :: .inl i :: .inr (some a) :: st) sh I F) := by
  intro p l e s m args below meth c D cI cS A ad0 ad H locs lsc hC hK hA had hn0 hW hS hL hst
  obtain ⟨hd, rfl⟩ := h
  have he := cw_at (cI := cI) (cS := cS) (ad := ad) (I := I) (F := F) hs
  have hx : inR x := ok_head hst
  have hri : inR i := ok_head (ok_tail hst)
  have hset : (cw cI cS ad sh I F).set a (ad a, .inl (cI, N, .inl (upd (fun k => Int32.ofInt (F a k)) (Int32.ofInt i).toNatClampNeg (Int32.ofInt x)))) = cw cI cS ad sh I (upF F a i x) := by
    refine cw_set rfl hs ?_ (fun q hq => ⟨rfl, fun c' _ => ?_⟩)
    · rw [cel_arr]
      congr 4
      funext j
      rw [oi_nat hri]
      simp only [upF, upd, true_and]
      by_cases hj : (j : Int) = i
      · rw [if_pos hj, if_pos (by omega)]
      · rw [if_neg hj, if_neg (by omega)]
    · rcases c' with n' | ⟨cj, sj⟩
      · simp only [cel, upF, hq, false_and, if_false]
      · rfl
  refine va_iast (D := D) hC.1 hC.2.1 hK.1 hW.1 hW.2.1 hS a 0 he rfl (oi_in hri hi) hd (fun H1 locs1 hP1 hD1 hS1 => ?_)
  rw [hset] at hP1 hD1
  exact K p l e s m args below meth c D cI cS A ad0 ad H1 locs1 lsc hC hK hA had hn0 ⟨hP1, hD1, hW.2.2.1, hW.2.2.2.1, upF_ok hW.2.2.2.2 hx⟩ hS1 hL (ok_tail (ok_tail (ok_tail hst)))
theorem w_alen {a N : Nat} (h : IO μ.2.2.1 pc n .arraylength) (hs : sh[a]? = some (.inl N)) (hN : (N : Int) ≤ 2147483647)
    (K : (WS μ d mc ms n0 Q kc ks n ls (.inl (N : Int) :: st) sh I F)) : (WS μ d mc ms n0 Q kc ks pc ls (.inr (some a) :: st) sh I F) := by
  intro p l e s m args below meth c D cI cS A ad0 ad H locs lsc hC hK hA had hn0 hW hS hL hst
  obtain ⟨hd, rfl⟩ := h
  have he := cw_at (cI := cI) (cS := cS) (ad := ad) (I := I) (F := F) hs
  exact va_alen (D := D) hC.1 hC.2.1 hK.1 hW.1 a 0 he rfl (v := Int32.ofInt (N : Int)) (by first | rfl | exact (Int32.ofInt_natCast _).symm | simp) hd (K p l e s m args below meth c D cI cS A ad0 ad H locs lsc hC hK hA had hn0 hW hS hL (ok_cons (v := .inl (N : Int)) ⟨by omega, hN⟩ (ok_tail hst)))
theorem w_aald {a r : Nat} {sl : List (Option (Option Nat))} {i : Int} (h : IO μ.2.2.1 pc n .aaload) (hs : sh[a]? = some (.inr (50, sl))) (hi : 0 ≤ i ∧ i < sl.length) (hv : sl[i.toNat]? = some (some (some r)))
    (K : (WS μ d mc ms n0 Q kc ks n ls (.inr (some r) :: st) sh I F)) : (WS μ d mc ms n0 Q kc ks pc ls (.inl i :: .inr (some a) :: st) sh I F) := by
  intro p l e s m args below meth c D cI cS A ad0 ad H locs lsc hC hK hA had hn0 hW hS hL hst
  obtain ⟨hd, rfl⟩ := h
  have he := cw_at (cI := cI) (cS := cS) (ad := ad) (I := I) (F := F) hs
  rw [cel_q] at he
  have hx : inR i := ok_head hst
  have hk := K p l e s m args below meth c D cI cS A ad0 ad H locs lsc hC hK hA had hn0 hW hS hL (ok_cons (v := .inr (some r)) ((hW.2.2.1 a 50 sl hs).2 _ r hv) (ok_tail (ok_tail hst)))
  refine va_aldq (D := D) hC.1 hC.2.1 hK.1 hW.1 a 1 he rfl (oi_in hx hi) hd ?_
  rw [oi_nat hx]
  have : cq ad sl i.toNat = some (ad r) := by simp only [cq, hv]
  rw [this]
  exact hk
end LAYER
end
section
section CALLS
variable {μ μ' : MI} {d mc ms d' mc' ms' n0 kc ks pc n t : Nat} {Q Q' : PQ} {ls : List (Option AV)} {st : List AV} {sh : Shp} {I : IE} {F : FE}
theorem lv_args_at : ∀ (vs : List Value) (i j : Nat) (v : Value), (∀ v ∈ vs, v.category = 1) → vs[j]? = some v → (i + j, v) ∈ lv_args i vs
  | [], i, j, v, _, h => by simp at h
  | a :: vs, i, j, v, hc, h => by
    have ha : a.category = 1 := hc a List.mem_cons_self
    have e : lv_args i (a :: vs) = (i, a) :: lv_args (i + 1) vs := by simp only [lv_args]; rw [if_neg (by rw [ha]; decide)]
    rw [e]
    cases j with
    | zero =>
      simp only [List.getElem?_cons_zero, Option.some.injEq] at h
      subst h
      exact List.mem_cons_self
    | succ j =>
      rw [List.getElem?_cons_succ] at h
      have := lv_args_at vs (i + 1) j v (fun v hv => hc v (List.mem_cons_of_mem _ hv)) h
      rw [show i + 1 + j = i + (j + 1) by omega] at this
      exact List.mem_cons_of_mem _ this
theorem lg_sl_len : ∀ (vs : List Value), (∀ v ∈ vs, v.category = 1) → (lg_sl vs).length = vs.length
  | [], _ => rfl
  | a :: vs, hc => by
    have ha : a.category = 1 := hc a List.mem_cons_self
    have := lg_sl_len vs (fun v hv => hc v (List.mem_cons_of_mem _ hv))
    simp only [lg_sl, List.flatMap_cons, List.length_append, List.length_cons] at this ⊢
    rw [if_neg (by rw [ha]; decide), this, List.length_singleton]
    omega
theorem w_vret (h : IO μ.2.2.1 pc n .return_) (hr : μ.2.2.2.2 = none) (hc : kc ≤ mc ∧ ks ≤ ms) (q : Q none sh I F) : WS μ d mc ms n0 Q kc ks pc ls [] sh I F := by
  intro p l e s m args below meth c D cI cS A ad0 ad H locs lsc hC hK hA had hn0 hW hS hL hst
  obtain ⟨hd, rfl⟩ := h
  refine W.widen hc.1 hc.2 ?_
  exact W.vret hC.1 hC.2.1 (by rw [hC.2.2.1, hr]) (fun t ht _ => ⟨⟨none, sh, I, F, ad, rfl, q, had, hn0, by rw [ht]; exact hW, fun v h => by cases h⟩, hS.F ht⟩) hS.2.2 hd (hlocks := hC.2.2.2.2.2.2.1)
theorem w_iret {x : Int} (h : IO μ.2.2.1 pc n .ireturn) (hr : μ.2.2.2.2 = some .int ∨ μ.2.2.2.2 = some .boolean ∧ (x = 0 ∨ x = 1)) (hc : kc ≤ mc ∧ ks ≤ ms) (q : Q (some (.inl x)) sh I F) : WS μ d mc ms n0 Q kc ks pc ls [.inl x] sh I F := by
  intro p l e s m args below meth c D cI cS A ad0 ad H locs lsc hC hK hA had hn0 hW hS hL hst
  obtain ⟨hd, rfl⟩ := h
  have hx : inR x := ok_head hst
  refine W.widen hc.1 hc.2 ?_
  rcases hr with hr | ⟨hr, hx01⟩
  · exact W.iret hC.1 hC.2.1 (by rw [hC.2.2.1, hr]) (fun t ht _ => ⟨⟨some (.inl x), sh, I, F, ad, rfl, q, had, hn0, by rw [ht]; exact hW, fun v h => by cases h; exact hx⟩, hS.F ht⟩) hS.2.2 hd (hlocks := hC.2.2.2.2.2.2.1)
  · exact W.zret hC.1 hC.2.1 (by rw [hC.2.2.1, hr]) (by rcases hx01 with rfl | rfl <;> rfl) (fun t ht _ => ⟨⟨some (.inl x), sh, I, F, ad, rfl, q, had, hn0, by rw [ht]; exact hW, fun v h => by cases h; exact hx⟩, hS.F ht⟩) hS.2.2 hd (hlocks := hC.2.2.2.2.2.2.1)
theorem MS_of {k : Nat} {as : List AV} (hF : MF μ k) (hown : μ.2.1 = μ.1.cls) (hls : as.map some ++ List.replicate (μ.2.2.2.1 - as.length) none = ls) (hlen : as.length ≤ μ.2.2.2.1) (Kw : WS μ d mc ms sh.length Q 0 0 0 ls [] sh I F) : MS μ d mc ms sh as I F Q := by
  intro l D cI cS ad sz
  refine Met.ofW (cc := μ.2.2.1) (maxL := μ.2.2.2.1) (ret := μ.2.2.2.2) hF.2.2.2.2.2.1 rfl ?_
  intro p e s m args below meth c s₁ B hml hv
  obtain ⟨rfl, hsz, hW, hK, hok⟩ := hv
  subst hsz
  have hts := atoms_spec (ws := wsy μ) B.pre
  have hcat : ∀ v ∈ as.map (cv ad), v.category = 1 := fun v hv => by
    obtain ⟨a, -, rfl⟩ := List.mem_map.mp hv
    exact cv_cat ad a
  have hl := lv_entry (as.map (cv ad)) (n := μ.2.2.2.1) (by rw [lg_sl_len _ hcat, List.length_map]; exact hlen)
  rw [lg_entry_eq]
  refine Kw p l e s m _ below meth c D cI cS (va_A (cw cI cS ad sh I F) s.heap.size) ad ad s.heap [] _ ⟨B.exec, B.bytes, B.returns, hml, by rw [hown]; exact findClass_of_methodNamed B.named, fun w hw => hts w (List.mem_cons_of_mem _ hw), B.notSynchronized, (name_of_methodNamed B.named B.method).1⟩ hK (fun q h => Or.inr h) (fun _ _ => rfl) (Nat.le_refl _) ⟨hW.1, hW.2.1.self, hW.2.2⟩ va_S.rf ⟨?_, _, hl, fun k v hk => ?_⟩ (fun _ h => by cases h)
  · rw [← hls]; simp; omega
  · rw [← hls] at hk
    by_cases hka : k < as.length
    · rw [List.getElem?_append_left (by simpa using hka), List.getElem?_map] at hk
      cases hak : as[k]? with
      | none => rw [hak] at hk; cases hk
      | some a =>
        rw [hak] at hk
        have hav : a = v := Option.some.inj (Option.some.inj hk)
        subst hav
        refine ⟨?_, hok _ (List.mem_of_getElem? hak)⟩
        have := lv_args_at (as.map (cv ad)) 0 k (cv ad a) hcat (by rw [List.getElem?_map, hak]; rfl)
        rw [Nat.zero_add] at this
        exact this
    · rw [List.getElem?_append_right (by simpa using hka), List.getElem?_replicate] at hk
      split at hk <;> cases hk
theorem goodG : GoodIn gtbl (wsy μ') ↔ Cond.code μ'.1 μ'.2.2.1 μ'.2.2.2.1 μ'.2.2.2.2 ∈ gtbl := by
  constructor
  · intro h
    exact (h _ List.mem_cons_self).1
  · intro h w hw
    rcases List.mem_cons.mp hw with rfl | hw
    · exact ⟨h, mem_good h⟩
    · exact ⟨hw, mem_good hw⟩
/-- behind a call: what the callee's contract says, in the caller's words -/
theorem w_back {p : Program} {l : Launch} {e : Env} {s : State} {m : MethodId} {args : Array Value} {below : List Frame} {meth : Method} {c : Code} {D : va_G} {cI cS : ClassId} {A : Nat → Prop} {ad0 ad : Nat → Nat} {H : Heap} {locs : List Loc} {lsc : Array Slot} {rest : List AV} {st1 : List Value} {ca : Array Value}
    (hC : Cx μ p s m args meth c) (hK : Kn D cI cS s) (hA : ∀ q : Nat, s.heap.size ≤ q → A q) (had : ∀ k, k < n0 → ad k = ad0 k) (hn0 : n0 ≤ sh.length) (hW : Wd D cI cS A ad sh I F H) (hS : va_S A s.heap H locs) (hL : Lcl ad sh.length lsc μ.2.2.2.1 ls) (hst : ∀ v ∈ rest, okv sh.length v)
    (hrun : va_Run p l e (rmd d mc ms) s m args below meth c H locs kc ks mc' ms' (F0 m pc lsc st1) (rest.map (cv ad)) (PP D cI cS (va_A (cw cI cS ad sh I F) H.size) ad sh.length Q' ca) (va_A (cw cI cS ad sh I F) H.size))
    (K : ∀ r sh' I' F', Q' r sh' I' F' → WS μ d mc ms n0 Q (kc + mc') (ks + ms') (pc + 3) ls (r.toList ++ rest) sh' I' F') :
    W p l e (rmd d mc ms) s m args below meth c H locs kc ks (MQ below (PP D cI cS A ad0 n0 Q) args s mc ms A) (F0 m pc lsc st1) := by
  intro T hT X
  obtain ⟨v, st₀, t, T', L, h0, X', hL2, e1, e2, ⟨⟨r, sh', I', F', ad', hv, hq, hag, hlen, hW', hokr⟩, hz, hkeep⟩, stp⟩ := hrun T hT X
  have hv : v = r.map (cv ad') := by cases hv; rfl
  subst hv
  rw [h0] at hz hkeep
  have hAA : ∀ q : Nat, va_A (cw cI cS ad sh I F) H.size q → A q := fun q hq => by
    rcases hq with ⟨k, e, hk⟩ | hq
    · exact hW.2.1.2 k _ hk
    · exact hA q (Nat.le_trans hS.1 hq)
  have hS' : va_S A s.heap T'.heap (locs ++ L) := ⟨Nat.le_trans hS.1 (by rw [e1]; exact hz), fun q h1 h2 => by rw [e1, hkeep q (Nat.lt_of_lt_of_le h1 hS.1) (fun z => h2 (hAA q z))]; exact hS.2.1 q h1 h2, fun q hq => by
      rcases List.mem_append.mp hq with h | h
      · exact hS.2.2 q h
      · exact hAA _ (hL2 q h)⟩
  have hst' : ∀ v ∈ r.toList ++ rest, okv sh'.length v := fun v hv => by
    rcases List.mem_append.mp hv with h | h
    · cases r with
      | none => cases h
      | some r =>
        have : v = r := by simpa using h
        subst this
        exact hokr v rfl
    · exact okv_mono hlen (hst v h)
  have key := K r sh' I' F' hq p l e s m args below meth c D cI cS A ad0 ad' T'.heap (locs ++ L) lsc hC hK hA (fun k hk => by rw [hag k (Nat.lt_of_lt_of_le hk hn0)]; exact had k hk) (Nat.le_trans hn0 hlen)
    ⟨by rw [e1]; exact hW'.1, hW'.2.1.weaken (fun k q _ h => hAA q.1 h), hW'.2.2⟩ hS' (hL.mono hlen hag) hst' T' rfl X'
  obtain ⟨t2, a1, b1⟩ := key
  refine ⟨t2, stp t2 ?_, b1⟩
  have es : (r.toList ++ rest).map (cv ad') = (r.map (cv ad')).toList ++ rest.map (cv ad) := by
    rw [List.map_append]
    congr 1
    · cases r <;> rfl
    · exact List.map_congr_left (fun v hv => cv_ag hag (hst v hv))
  rw [es] at a1
  exact a1
theorem pre_ok {D : va_G} {cI cS : ClassId} {A : Nat → Prop} {ad : Nat → Nat} {s : State} {H : Heap} {as : List AV} (hK : Kn D cI cS s) (hW : Wd D cI cS A ad sh I F H) (ho : ∀ v ∈ as, okv sh.length v) :
    FrameBlind (va_Pc (as.map (cv ad)) (fun U => U.heap.size = H.size ∧ Wd D cI cS (fun _ => True) ad sh I F U.heap ∧ Kn D cI cS U ∧ ∀ v ∈ as, okv sh.length v)) ∧ ∀ U : State, U.heap = H → s.WarmedH U.vm → (va_Pc (as.map (cv ad)) (fun U => U.heap.size = H.size ∧ Wd D cI cS (fun _ => True) ad sh I F U.heap ∧ Kn D cI cS U ∧ ∀ v ∈ as, okv sh.length v)) (as.map (cv ad)).toArray U := by
  refine ⟨fun a U g mk h => ?_, fun U hU hw => ⟨rfl, by rw [hU], by rw [hU]; exact ⟨hW.1, hW.2.1.weaken (fun _ _ _ _ => trivial), hW.2.2⟩, hK.warm hw, ho⟩⟩
  obtain ⟨h1, h2, h3, h4, h5⟩ := h
  exact ⟨h1, h2, h3, h4.same rfl, h5⟩
theorem w_callV {k a ci : Nat} {as rest : List AV} {sl : List (Option (Option Nat))} (h : ICV μ pc n μ') (hF : MF μ' k) (hV : MV μ') (hM : MS μ' d' mc' ms' sh (.inr (some a) :: as) I F Q') (hk : as.length = k) (hs : sh[a]? = some (.inr (ci, sl))) (hci : ci < 9) (hcc : CC ci = μ'.1.cls)
    (hst0 : as.reverse ++ .inr (some a) :: rest = st) (hrest : rest.length ≤ 8) (hd : d' + 1 ≤ d) (hcap : kc + mc' ≤ mc ∧ ks + ms' ≤ ms)
    (K : ∀ r sh' I' F', Q' r sh' I' F' → WS μ d mc ms n0 Q (kc + mc') (ks + ms') n ls (r.toList ++ rest) sh' I' F') : WS μ d mc ms n0 Q kc ks pc ls st sh I F := by
  intro p l e s m args below meth c D cI cS A ad0 ad H locs lsc hC hK hA had hn0 hW hS hL hst
  subst hst0
  obtain ⟨idx, hdg, rfl, hlk⟩ := h
  have hts := hC.2.2.2.2.2.1
  have hoas : ∀ v ∈ Sum.inr (some a) :: as, okv sh.length v := fun v hv => by
    rcases List.mem_cons.mp hv with rfl | hv
    · exact hst _ (by simp)
    · exact hst _ (by simp [hv])
  have hpre := pre_ok (as := .inr (some a) :: as) hK hW hoas
  have he := cw_at (cI := cI) (cS := cS) (ad := ad) (I := I) (F := F) hs
  rw [cel_obj hci] at he
  have hrecv := va_recv hK.1 hW.1 (cl_ok ci hci) he
  have cb : CallB (rmd d mc ms) s args μ.2.1 idx μ'.1 μ'.2.2.1 μ'.2.2.2.1 μ'.2.2.2.2 (wsy μ') (rmd d' mc' ms') mc' ms' k := callB_of k hts (goodG.mpr hF.1) rfl rfl rfl (hts _ hF.2.1) (hts _ hlk) ⟨hF.2.2.1, hF.2.2.2.1, hF.2.2.2.2.1⟩ ⟨hd, by have := hF.2.2.2.2.2.2; show 8 + (μ'.2.2.2.1 + 11) + 30 * d' ≤ 30 * d; omega⟩
  have hrun := va_runV (locs := locs) (cells := kc) (slots := ks) (p := p) (e := e) (below := below) (meth := meth) (C := μ'.1.cls) (As := as.map (cv ad)) (rest := rest.map (cv ad)) (g := F0 m pc lsc ((as.reverse ++ .inr (some a) :: rest).map (cv ad))) (nL := μ.2.2.2.1) (cc := μ.2.2.1) (b := ad a) (H := H)
    ⟨hC.1, hC.2.1, hC.2.2.2.1, hC.2.2.2.2.1, hts⟩ (hM l D cI cS ad H.size) ⟨cb, hts _ hV.1, hts _ hV.2⟩ ⟨hpre.1, by rw [← hcc]; exact hrecv, hpre.2⟩ rfl (by rw [List.length_map]; exact hk) hL.size (by simp [List.map_append, List.map_reverse, cv])
    (by show 2 * 0 + _ ≤ 8; rw [cv_len]; omega) hdg hcap
  exact w_back hC hK hA had hn0 hW hS hL (fun v hv => hst v (by simp [hv])) hrun K
theorem w_callS {k : Nat} {as rest : List AV} (h : ICS μ pc n μ'.1) (hF : MF μ' k) (hV : MS_ μ') (hM : MS μ' d' mc' ms' sh as I F Q') (hk : as.length = k)
    (hst0 : as.reverse ++ rest = st) (hrest : rest.length ≤ 8) (hd : d' + 1 ≤ d) (hcap : kc + mc' ≤ mc ∧ ks + ms' ≤ ms)
    (K : ∀ r sh' I' F', Q' r sh' I' F' → WS μ d mc ms n0 Q (kc + mc') (ks + ms') n ls (r.toList ++ rest) sh' I' F') : WS μ d mc ms n0 Q kc ks pc ls st sh I F := by
  intro p l e s m args below meth c D cI cS A ad0 ad H locs lsc hC hK hA had hn0 hW hS hL hst
  subst hst0
  obtain ⟨idx, hdg, rfl, hlk⟩ := h
  have hts := hC.2.2.2.2.2.1
  have hpre := pre_ok (as := as) hK hW (fun v hv => hst v (by simp [hv]))
  have cb : CallB (rmd d mc ms) s args μ.2.1 idx μ'.1 μ'.2.2.1 μ'.2.2.2.1 μ'.2.2.2.2 (wsy μ') (rmd d' mc' ms') mc' ms' k := callB_of k hts (goodG.mpr hF.1) rfl rfl rfl (hts _ hF.2.1) (hts _ hlk) ⟨hF.2.2.1, hF.2.2.2.1, hF.2.2.2.2.1⟩ ⟨hd, by have := hF.2.2.2.2.2.2; show 8 + (μ'.2.2.2.1 + 11) + 30 * d' ≤ 30 * d; omega⟩
  have hrun := va_runS (locs := locs) (cells := kc) (slots := ks) (p := p) (e := e) (below := below) (meth := meth) (As := as.map (cv ad)) (rest := rest.map (cv ad)) (g := F0 m pc lsc ((as.reverse ++ rest).map (cv ad))) (nL := μ.2.2.2.1) (cc := μ.2.2.1) (H := H)
    ⟨hC.1, hC.2.1, hC.2.2.2.1, hC.2.2.2.2.1, hts⟩ (hM l D cI cS ad H.size) ⟨cb, hts _ hV⟩ ⟨hpre.1, hpre.2⟩ rfl (by rw [List.length_map]; exact hk) hL.size (by simp [List.map_append, List.map_reverse])
    (by show 2 * 0 + _ ≤ 8; rw [cv_len]; omega) hdg hcap
  exact w_back hC hK hA had hn0 hW hS hL (fun v hv => hst v (by simp [hv])) hrun K
theorem w_callI {k a : Nat} {as rest : List AV} (h : ICI μ pc n μ'.1) (hF : MF μ' k) (hV : MN μ') (hret : μ'.2.2.2.2 = none) (hM : MS μ' d' mc' ms' sh (.inr (some a) :: as) I F Q') (hk : as.length = k)
    (hst0 : as.reverse ++ .inr (some a) :: rest = st) (hrest : rest.length ≤ 8) (hd : d' + 1 ≤ d) (hcap : kc + mc' ≤ mc ∧ ks + ms' ≤ ms)
    (K : ∀ r sh' I' F', Q' r sh' I' F' → WS μ d mc ms n0 Q (kc + mc') (ks + ms') n ls (r.toList ++ rest) sh' I' F') : WS μ d mc ms n0 Q kc ks pc ls st sh I F := by
  intro p l e s m args below meth c D cI cS A ad0 ad H locs lsc hC hK hA had hn0 hW hS hL hst
  subst hst0
  obtain ⟨idx, hdg, rfl, hlk⟩ := h
  have hts := hC.2.2.2.2.2.1
  have hoas : ∀ v ∈ Sum.inr (some a) :: as, okv sh.length v := fun v hv => by
    rcases List.mem_cons.mp hv with rfl | hv
    · exact hst _ (by simp)
    · exact hst _ (by simp [hv])
  have hpre := pre_ok (as := .inr (some a) :: as) hK hW hoas
  have cb : CallB (rmd d mc ms) s args μ.2.1 idx μ'.1 μ'.2.2.1 μ'.2.2.2.1 μ'.2.2.2.2 (wsy μ') (rmd d' mc' ms') mc' ms' k := callB_of k hts (goodG.mpr hF.1) rfl rfl rfl (hts _ hF.2.1) (hts _ hlk) ⟨hF.2.2.1, hF.2.2.2.1, hF.2.2.2.2.1⟩ ⟨hd, by have := hF.2.2.2.2.2.2; show 8 + (μ'.2.2.2.1 + 11) + 30 * d' ≤ 30 * d; omega⟩
  rw [hret] at cb
  have hrun := va_runI (locs := locs) (cells := kc) (slots := ks) (p := p) (e := e) (below := below) (meth := meth) (As := as.map (cv ad)) (rest := rest.map (cv ad)) (g := F0 m pc lsc ((as.reverse ++ .inr (some a) :: rest).map (cv ad))) (nL := μ.2.2.2.1) (cc := μ.2.2.1) (b := ad a) (H := H)
    ⟨hC.1, hC.2.1, hC.2.2.2.1, hC.2.2.2.2.1, hts⟩ (hM l D cI cS ad H.size) ⟨cb, hV.2, hts _ hV.1⟩ ⟨hpre.1, hpre.2⟩ rfl (by rw [List.length_map]; exact hk) hL.size (by simp [List.map_append, List.map_reverse, cv])
    (by show 2 * 0 + _ ≤ 8; rw [cv_len]; omega) hdg hcap
  exact w_back hC hK hA had hn0 hW hS hL (fun v hv => hst v (by simp [hv])) hrun K
/-- a private constructor of a nest mate -/
theorem w_callN {k a idx : Nat} {as rest : List AV} {host : String} (h : ICN μ pc n idx) (hnw : (μ.2.1, idx, μ'.1, host) ∈ nwM) (hF : MF μ' k) (hV : MN μ') (hret : μ'.2.2.2.2 = none) (hM : MS μ' d' mc' ms' sh (.inr (some a) :: as) I F Q') (hk : as.length = k)
    (hst0 : as.reverse ++ .inr (some a) :: rest = st) (hrest : rest.length ≤ 8) (hd : d' + 1 ≤ d) (hcap : kc + mc' ≤ mc ∧ ks + ms' ≤ ms)
    (K : ∀ r sh' I' F', Q' r sh' I' F' → WS μ d mc ms n0 Q (kc + mc') (ks + ms') n ls (r.toList ++ rest) sh' I' F') : WS μ d mc ms n0 Q kc ks pc ls st sh I F := by
  intro p l e s m args below meth c D cI cS A ad0 ad H locs lsc hC hK hA had hn0 hW hS hL hst
  subst hst0
  obtain ⟨hdg, rfl⟩ := h
  have hts := hC.2.2.2.2.2.1
  have hoas : ∀ v ∈ Sum.inr (some a) :: as, okv sh.length v := fun v hv => by
    rcases List.mem_cons.mp hv with rfl | hv
    · exact hst _ (by simp)
    · exact hst _ (by simp [hv])
  have hpre := pre_ok (as := .inr (some a) :: as) hK hW hoas
  have cb : va_CN (rmd d mc ms) s args μ.2.1 idx μ'.1 host μ'.2.2.1 μ'.2.2.2.1 μ'.2.2.2.2 (wsy μ') (rmd d' mc' ms') mc' ms' k := va_cnB k hts (goodG.mpr hF.1) rfl rfl rfl (hK.2.2.1 _ hnw) (hts _ hF.2.1) ⟨hF.2.2.1, hF.2.2.2.1, hF.2.2.2.2.1⟩ ⟨hd, by have := hF.2.2.2.2.2.2; show 8 + (μ'.2.2.2.1 + 11) + 30 * d' ≤ 30 * d; omega⟩
  rw [hret] at cb
  have hrun := va_runIN (locs := locs) (cells := kc) (slots := ks) (p := p) (e := e) (below := below) (meth := meth) (As := as.map (cv ad)) (rest := rest.map (cv ad)) (g := F0 m pc lsc ((as.reverse ++ .inr (some a) :: rest).map (cv ad))) (nL := μ.2.2.2.1) (cc := μ.2.2.1) (b := ad a) (H := H)
    ⟨hC.1, hC.2.1, hC.2.2.2.1, hC.2.2.2.2.1, hts⟩ (hM l D cI cS ad H.size) ⟨cb, hV.2, hts _ hV.1⟩ ⟨hpre.1, hpre.2⟩ rfl (by rw [List.length_map]; exact hk) hL.size (by simp [List.map_append, List.map_reverse, cv])
    (by show 2 * 0 + _ ≤ 8; rw [cv_len]; omega) hdg hcap
  exact w_back hC hK hA had hn0 hW hS hL (fun v hv => hst v (by simp [hv])) hrun K
theorem w_obj {a : Nat} {rest : List AV} (h : ICI μ pc n objectInit) (hd : 1 ≤ d) (hrest : rest.length ≤ 8) (K : WS μ d mc ms n0 Q kc ks n ls rest sh I F) : WS μ d mc ms n0 Q kc ks pc ls (.inr (some a) :: rest) sh I F := by
  intro p l e s m args below meth c D cI cS A ad0 ad H locs lsc hC hK hA had hn0 hW hS hL hst
  obtain ⟨idx, hdg, rfl, hlk⟩ := h
  have hts := hC.2.2.2.2.2.1
  exact W.objInit hC.1 hC.2.1 hC.2.2.2.2.1 (hts _ hlk) (hts _ q_94) (hts _ q_95) rfl (by rw [hC.2.2.2.1]; exact hL.size) rfl hdg hd (by show 2 * 0 + _ + 12 ≤ 30 * d; rw [cv_len]; omega) (K p l e s m args below meth c D cI cS A ad0 ad H locs lsc hC hK hA had hn0 hW hS hL (ok_tail hst))
theorem w_mabs {x : Int} {rest : List AV} (h : ICS μ pc n yJ9_abs_0f7a4) (hr : -2147483647 ≤ x) (hd : 1 ≤ d) (hc : kc ≤ mc ∧ ks ≤ ms) (hrest : rest.length ≤ 8) (K : WS μ d mc ms n0 Q kc ks n ls (.inl (if 0 ≤ x then x else -x) :: rest) sh I F) : WS μ d mc ms n0 Q kc ks pc ls (.inl x :: rest) sh I F := by
  intro p l e s m args below meth c D cI cS A ad0 ad H locs lsc hC hK hA had hn0 hW hS hL hst
  obtain ⟨idx, hdg, rfl, hlk⟩ := h
  have hts := hC.2.2.2.2.2.1
  have hx : inR x := ok_head hst
  have hk := K p l e s m args below meth c D cI cS A ad0 ad H locs lsc hC hK hA had hn0 hW hS hL (ok_cons (v := .inl (if 0 ≤ x then x else -x)) (by show inR _; have := hx.2; split <;> constructor <;> omega) (ok_tail hst))
  refine va_mabs hC.1 hC.2.1 (by rw [hC.2.2.2.1, hL.size]) hC.2.2.2.2.1 (hts _ hlk) (hts _ q_355) (hts _ q_84) (hts _ q_356) hd (by show _ + 13 ≤ 30 * d; rw [cv_len]; omega) hc.1 hc.2 hdg ?_
  have e1 : (if (0 : Int32) ≤ Int32.ofInt x then Int32.ofInt x else 0 - Int32.ofInt x) = Int32.ofInt (if 0 ≤ x then x else -x) := by
    by_cases h0 : 0 ≤ x
    · rw [if_pos h0, if_pos (by rw [← oi_0]; exact (oi_le inR0 hx).mpr h0)]
    · rw [if_neg h0, if_neg (by rw [← oi_0]; exact fun z => h0 ((oi_le inR0 hx).mp z)), Int32.ofInt_neg, Int32.zero_sub]
  rw [e1]
  exact hk
theorem w_mmax {x y : Int} {rest : List AV} (h : ICS μ pc n yJ9_max_7cf53) (hd : 1 ≤ d) (hc : kc ≤ mc ∧ ks ≤ ms) (hrest : rest.length ≤ 8) (K : WS μ d mc ms n0 Q kc ks n ls (.inl (if x < y then y else x) :: rest) sh I F) : WS μ d mc ms n0 Q kc ks pc ls (.inl y :: .inl x :: rest) sh I F := by
  intro p l e s m args below meth c D cI cS A ad0 ad H locs lsc hC hK hA had hn0 hW hS hL hst
  obtain ⟨idx, hdg, rfl, hlk⟩ := h
  have hts := hC.2.2.2.2.2.1
  have hy : inR y := ok_head hst
  have hx : inR x := ok_head (ok_tail hst)
  have hk := K p l e s m args below meth c D cI cS A ad0 ad H locs lsc hC hK hA had hn0 hW hS hL (ok_cons (v := .inl (if x < y then y else x)) (by show inR _; split <;> assumption) (ok_tail (ok_tail hst)))
  refine va_mmax hC.1 hC.2.1 (by rw [hC.2.2.2.1, hL.size]) hC.2.2.2.2.1 (hts _ hlk) (hts _ q_555) (hts _ q_84) (hts _ q_556) hd (by show _ + 13 ≤ 30 * d; rw [cv_len]; omega) hc.1 hc.2 hdg ?_
  have e1 : (if Int32.ofInt x < Int32.ofInt y then Int32.ofInt y else Int32.ofInt x) = Int32.ofInt (if x < y then y else x) := by
    by_cases h0 : x < y
    · rw [if_pos h0, if_pos ((oi_lt hx hy).mpr h0)]
    · rw [if_neg h0, if_neg (fun z => h0 ((oi_lt hx hy).mp z))]
  rw [e1]
  exact hk
theorem w_mmin {x y : Int} {rest : List AV} (h : ICS μ pc n yJ9_min_7cf53) (hd : 1 ≤ d) (hc : kc ≤ mc ∧ ks ≤ ms) (hrest : rest.length ≤ 8) (K : WS μ d mc ms n0 Q kc ks n ls (.inl (if y < x then y else x) :: rest) sh I F) : WS μ d mc ms n0 Q kc ks pc ls (.inl y :: .inl x :: rest) sh I F := by
  intro p l e s m args below meth c D cI cS A ad0 ad H locs lsc hC hK hA had hn0 hW hS hL hst
  obtain ⟨idx, hdg, rfl, hlk⟩ := h
  have hts := hC.2.2.2.2.2.1
  have hy : inR y := ok_head hst
  have hx : inR x := ok_head (ok_tail hst)
  have hk := K p l e s m args below meth c D cI cS A ad0 ad H locs lsc hC hK hA had hn0 hW hS hL (ok_cons (v := .inl (if y < x then y else x)) (by show inR _; split <;> assumption) (ok_tail (ok_tail hst)))
  refine va_mmin hC.1 hC.2.1 (by rw [hC.2.2.2.1, hL.size]) hC.2.2.2.2.1 (hts _ hlk) (hts _ q_572) (hts _ q_84) (hts _ q_573) hd (by show _ + 13 ≤ 30 * d; rw [cv_len]; omega) hc.1 hc.2 hdg ?_
  have e1 : (if Int32.ofInt y < Int32.ofInt x then Int32.ofInt y else Int32.ofInt x) = Int32.ofInt (if y < x then y else x) := by
    by_cases h0 : y < x
    · rw [if_pos h0, if_pos ((oi_lt hy hx).mpr h0)]
    · rw [if_neg h0, if_neg (fun z => h0 ((oi_lt hy hx).mp z))]
  first | (rw [e1]; exact hk) | (rw [show (if Int32.ofInt x ≤ Int32.ofInt y then Int32.ofInt x else Int32.ofInt y) = Int32.ofInt (if y < x then y else x) by
    by_cases h0 : y < x
    · rw [if_pos h0, if_neg (fun z => by have := (oi_le hx hy).mp z; omega)]
    · rw [if_neg h0, if_pos ((oi_le hx hy).mpr (by omega))]]; exact hk)
theorem w_copy {a0 a1 N0 N1 : Nat} {sp dp x : Int} {rest : List AV} (h : ICS μ pc n arraycopyName) (hs0 : sh[a0]? = some (.inl N0)) (hs1 : sh[a1]? = some (.inl N1)) (h1 : 0 ≤ sp ∧ 0 ≤ dp ∧ 0 ≤ x) (h2 : sp + x ≤ N0 ∧ dp + x ≤ N1) (hd : 1 ≤ d) (hrest : rest.length ≤ 8)
    (K : WS μ d mc ms n0 Q kc ks n ls rest sh I (cpF F a0 sp a1 dp x)) : WS μ d mc ms n0 Q kc ks pc ls (.inl x :: .inl dp :: .inr (some a1) :: .inl sp :: .inr (some a0) :: rest) sh I F := by
  intro p l e s m args below meth c D cI cS A ad0 ad H locs lsc hC hK hA had hn0 hW hS hL hst
  obtain ⟨idx, hdg, rfl, hlk⟩ := h
  have hts := hC.2.2.2.2.2.1
  have hx : inR x := ok_head hst
  have hdp : inR dp := ok_head (ok_tail hst)
  have hsp : inR sp := ok_head (ok_tail (ok_tail (ok_tail hst)))
  have e0 := cw_at (cI := cI) (cS := cS) (ad := ad) (I := I) (F := F) hs0
  have e1 := cw_at (cI := cI) (cS := cS) (ad := ad) (I := I) (F := F) hs1
  have hset : (cw cI cS ad sh I F).set a1 (ad a1, .inl (cI, N1, .inl (va_cpy (fun k => Int32.ofInt (F a0 k)) (fun k => Int32.ofInt (F a1 k)) (Int32.ofInt sp).toNatClampNeg (Int32.ofInt dp).toNatClampNeg (Int32.ofInt x).toNatClampNeg))) = cw cI cS ad sh I (cpF F a0 sp a1 dp x) := by
    refine cw_set rfl hs1 ?_ (fun q hq => ⟨rfl, fun c' _ => ?_⟩)
    · rw [cel_arr]
      congr 4
      funext j
      rw [oi_nat hsp, oi_nat hdp, oi_nat hx]
      simp only [cpF, va_cpy, true_and]
      by_cases hj : dp ≤ (j : Int) ∧ (j : Int) < dp + x
      · rw [if_pos hj, if_pos (by omega), show sp + ((j : Int) - dp) = ((sp.toNat + (j - dp.toNat) : Nat) : Int) by omega]
      · rw [if_neg hj, if_neg (by omega)]
    · rcases c' with n' | ⟨cj, sj⟩
      · simp only [cel, cpF, hq, false_and, if_false]
      · rfl
  have nn : ∀ z : Int, inR z → 0 ≤ z → ¬ Int32.ofInt z < 0 := fun z hz h0 w => by rw [← oi_0, oi_lt hz inR0] at w; omega
  refine va_copyi (D := D) hC.1 hC.2.1 (by rw [hC.2.2.2.1, hL.size]) hC.2.2.2.2.1 (hts _ hlk) (hts _ q_391) (hts _ q_390) (hts _ q_85) hK.1 hW.1 hW.2.1 hS a0 a1 0 0 e0 e1 rfl rfl rfl (nn sp hsp h1.1) (nn dp hdp h1.2.1) (nn x hx h1.2.2) (by rw [oi_nat hsp, oi_nat hx]; omega) (by rw [oi_nat hdp, oi_nat hx]; omega) (fun _ _ => rfl) hd (by show _ + (7 + 11) ≤ 30 * d; rw [cv_len]; omega) hdg (fun H1 locs1 hP1 hD1 hS1 => ?_)
  rw [hset] at hP1 hD1
  refine K p l e s m args below meth c D cI cS A ad0 ad H1 locs1 lsc hC hK hA had hn0 ⟨hP1, hD1, hW.2.2.1, hW.2.2.2.1, fun b j => ?_⟩ hS1 hL (ok_tail (ok_tail (ok_tail (ok_tail (ok_tail hst)))))
  unfold cpF
  split
  · exact hW.2.2.2.2 _ _
  · exact hW.2.2.2.2 _ _
def dsl (ci : Nat) : List (Option (Option Nat)) := (List.range (NN ci)).map (fun k => match YY ci k with | .int => none | .boolean => none | _ => some none)
theorem w_new {ci : Nat} (h : INW μ pc n ci) (hds : ∀ j, j < NN ci → ∃ s, (dsl ci)[j]? = some s ∧ defaultValue (YY ci j) = sv (fun _ => 0) 0 s ∧ ∀ r, s ≠ some (some r)) (hz : ∀ k, I sh.length k = 0) (hcap : kc + 1 ≤ mc ∧ ks + NN ci ≤ ms)
    (K : WS μ d mc ms n0 Q (kc + 1) (ks + NN ci) n ls (.inr (some sh.length) :: st) (sh ++ [.inr (ci, dsl ci)]) I F) : WS μ d mc ms n0 Q kc ks pc ls st sh I F := by
  intro p l e s m args below meth c D cI cS A ad0 ad H locs lsc hC hK hA had hn0 hW hS hL hst
  obtain ⟨idx, hdg, rfl, hci, hlk, hins, hini⟩ := h
  have hts := hC.2.2.2.2.2.1
  have hlen : (dsl ci).length = NN ci := by simp [dsl]
  have hnr : ∀ (k r : Nat), (dsl ci)[k]? = some (some (some r)) → False := fun k r hk => by
    have hkl := (List.getElem?_eq_some_iff.mp hk).1
    obtain ⟨s', h1, -, h3⟩ := hds k (by omega)
    rw [hk] at h1
    cases h1
    exact h3 r rfl
  refine va_new (D := D) hC.1 hC.2.1 hts (in_ok ci hci) (YY ci) (ty_ok ci hci) hC.2.2.2.2.1 (hts _ hlk) (hts _ hins) (hts _ hini) hK.1 hW.1 hW.2.1 hS hA (cl_ok ci hci) (fs := (dsl ci).map (sv (fun _ => 0) 0)) (fun j hj => ?_) hcap.1 hcap.2 hdg (fun q H1 hP1 hD1 hS1 => ?_)
  · obtain ⟨s', h1, h2, -⟩ := hds j hj
    rw [h2]
    simp [vp_V, h1]
  · have hag : ∀ k, k < sh.length → (fun k => if k = sh.length then q else ad k) k = ad k := fun k hk => if_neg (by omega)
    have hw : cw cI cS ad sh I F ++ [(q, .inr (ci, (dsl ci).map (sv (fun _ => 0) 0)))] = cw cI cS (fun k => if k = sh.length then q else ad k) (sh ++ [.inr (ci, dsl ci)]) I F := by
      refine cw_push hag (if_pos rfl) hW.2.2.1 ?_
      rw [cel_obj hci]
      congr 2
      apply List.ext_getElem?
      intro j
      rw [List.getElem?_mapIdx, List.getElem?_map]
      rcases hs : (dsl ci)[j]? with _ | ⟨_ | ⟨_ | r⟩⟩
      · rfl
      · simp [sv, hz]
      · rfl
      · exact absurd hs (fun z => hnr j r z)
    rw [hw] at hP1 hD1
    have hlen2 : (sh ++ [Sum.inr (ci, dsl ci)] : Shp).length = sh.length + 1 := by simp
    have zok : okSh (sh ++ [Sum.inr (ci, dsl ci)]) := by
      intro p' cj sj hp'
      rw [hlen2]
      by_cases hp2 : p' < sh.length
      · rw [List.getElem?_append_left hp2] at hp'
        obtain ⟨g1, g2⟩ := hW.2.2.1 p' cj sj hp'
        exact ⟨g1, fun k r hk => Nat.lt_succ_of_lt (g2 k r hk)⟩
      · rw [List.getElem?_append_right (by omega)] at hp'
        have : p' - sh.length = 0 := by
          have := (List.getElem?_eq_some_iff.mp hp').1
          simp at this
          omega
        rw [this] at hp'
        cases hp'
        exact ⟨Or.inl ⟨hci, hlen⟩, fun k r hk => (hnr k r hk).elim⟩
    have zL : Lcl (fun k => if k = sh.length then q else ad k) (sh ++ [Sum.inr (ci, dsl ci)] : Shp).length lsc μ.2.2.2.1 ls := by
      rw [hlen2]; exact hL.mono (Nat.le_succ _) hag
    have zst : ∀ v ∈ (Sum.inr (some sh.length) :: st : List AV), okv (sh ++ [Sum.inr (ci, dsl ci)] : Shp).length v := by
      rw [hlen2]
      exact ok_cons (v := .inr (some sh.length)) (Nat.lt_succ_self _) (fun v hv => okv_mono (Nat.le_succ _) (hst v hv))
    have z := K p l e s m args below meth c D cI cS A ad0 (fun k => if k = sh.length then q else ad k) H1 locs lsc hC hK hA (fun k hk => by rw [← had k hk]; exact hag k (by omega)) (by rw [hlen2]; omega) ⟨hP1, hD1, zok, hW.2.2.2⟩ hS1 zL zst
    have e2 : (Sum.inr (some sh.length) :: st).map (cv (fun k => if k = sh.length then q else ad k)) = .ref q :: st.map (cv ad) := by
      rw [List.map_cons]
      congr 1
      · simp [cv]
      · exact List.map_congr_left (fun v hv => cv_ag hag (hst v hv))
    rw [e2] at z
    exact z
theorem w_newa {x : Int} (h : INA μ.2.2.1 pc n) (hx0 : 0 ≤ x ∧ x ≤ 100000) (hz : ∀ j, F sh.length j = 0) (hcap : kc + 1 ≤ mc ∧ ks + x.toNat ≤ ms)
    (K : WS μ d mc ms n0 Q (kc + 1) (ks + x.toNat) n ls (.inr (some sh.length) :: st) (sh ++ [.inl x.toNat]) I F) : WS μ d mc ms n0 Q kc ks pc ls (.inl x :: st) sh I F := by
  intro p l e s m args below meth c D cI cS A ad0 ad H locs lsc hC hK hA had hn0 hW hS hL hst
  obtain ⟨hdg, rfl⟩ := h
  have hts := hC.2.2.2.2.2.1
  have hx : inR x := ok_head hst
  refine va_newa (D := D) (atype := .int) hC.1 hC.2.1 (hts _ q_127) (ty := .int) rfl hK.1 hW.1 hW.2.1 hS hA (a0 := (x.toNat, .inl (fun _ => 0))) (fun cA => rfl) (by intro w; rw [← oi_0, oi_lt hx inR0] at w; omega) (oi_nat hx) (by show x.toNat * 4 ≤ _; omega) hcap.1 hcap.2 hdg (fun q cA H1 hK1 hP1 hD1 hS1 => ?_)
  have hcA : cA = cI := by
    have h1 : va_RA s cA .int := (hK1.2 2 (cA, .int) (by simp)).2
    have h2 : va_RA s cI .int := (hK.1.2 0 (cI, .int) rfl).2
    exact Option.some.inj ((show s.vm.findClass _ = some cA from h1).symm.trans (show s.vm.findClass _ = some cI from h2))
  subst hcA
  have hag : ∀ k, k < sh.length → (fun k => if k = sh.length then q else ad k) k = ad k := fun k hk => if_neg (by omega)
  have hw : cw cA cS ad sh I F ++ [(q, .inl (cA, (x.toNat, .inl (fun _ => 0))))] = cw cA cS (fun k => if k = sh.length then q else ad k) (sh ++ [.inl x.toNat]) I F := by
    refine cw_push hag (if_pos rfl) hW.2.2.1 ?_
    rw [cel_arr]
    congr 4
    funext j
    rw [hz, oi_0]
  rw [hw] at hP1 hD1
  have hlen2 : (sh ++ [Sum.inl x.toNat] : Shp).length = sh.length + 1 := by simp
  have zok : okSh (sh ++ [Sum.inl x.toNat]) := by
    intro p' cj sj hp'
    rw [hlen2]
    by_cases hp2 : p' < sh.length
    · rw [List.getElem?_append_left hp2] at hp'
      obtain ⟨g1, g2⟩ := hW.2.2.1 p' cj sj hp'
      exact ⟨g1, fun k r hk => Nat.lt_succ_of_lt (g2 k r hk)⟩
    · rw [List.getElem?_append_right (by omega)] at hp'
      have : p' - sh.length = 0 := by
        have := (List.getElem?_eq_some_iff.mp hp').1
        simp at this
        omega
      rw [this] at hp'
      cases hp'
  have zL : Lcl (fun k => if k = sh.length then q else ad k) (sh ++ [Sum.inl x.toNat] : Shp).length lsc μ.2.2.2.1 ls := by
    rw [hlen2]; exact hL.mono (Nat.le_succ _) hag
  have zst : ∀ v ∈ (Sum.inr (some sh.length) :: st : List AV), okv (sh ++ [Sum.inl x.toNat] : Shp).length v := by
    rw [hlen2]
    exact ok_cons (v := .inr (some sh.length)) (Nat.lt_succ_self _) (fun v hv => okv_mono (Nat.le_succ _) (ok_tail hst v hv))
  have z := K p l e s m args below meth c D cA cS A ad0 (fun k => if k = sh.length then q else ad k) H1 locs lsc hC hK hA (fun k hk => by rw [← had k hk]; exact hag k (by omega)) (by rw [hlen2]; omega) ⟨hP1, hD1, zok, hW.2.2.2⟩ hS1 zL zst
  have e2 : (Sum.inr (some sh.length) :: st).map (cv (fun k => if k = sh.length then q else ad k)) = .ref q :: st.map (cv ad) := by
    rw [List.map_cons]
    congr 1
    · simp [cv]
    · exact List.map_congr_left (fun v hv => cv_ag hag (ok_tail hst v hv))
  rw [e2] at z
  exact z
theorem w_newq {x : Int} (h : INQ μ pc n) (hx0 : 0 ≤ x ∧ x ≤ 100000) (hcap : kc + 1 ≤ mc ∧ ks + x.toNat ≤ ms)
    (K : WS μ d mc ms n0 Q (kc + 1) (ks + x.toNat) n ls (.inr (some sh.length) :: st) (sh ++ [.inr (50, List.replicate x.toNat (some none))]) I F) : WS μ d mc ms n0 Q kc ks pc ls (.inl x :: st) sh I F := by
  intro p l e s m args below meth c D cI cS A ad0 ad H locs lsc hC hK hA had hn0 hW hS hL hst
  obtain ⟨idx, hdg, rfl, hlk⟩ := h
  have hts := hC.2.2.2.2.2.1
  have hx : inR x := ok_head hst
  refine va_newq (D := D) hC.1 hC.2.1 hC.2.2.2.2.1 (hts _ hlk) hK.2.2.2 hK.1 hW.1 hW.2.1 hS hA (by intro w; rw [← oi_0, oi_lt hx inR0] at w; omega) (oi_nat hx) (by omega) hcap.1 hcap.2 hdg (fun q cA H1 hK1 hP1 hD1 hS1 => ?_)
  have hcA : cA = cS := by
    have h1 : va_RA s cA (.object RX5) := (hK1.2 2 (cA, .object RX5) (by simp)).2
    have h2 : va_RA s cS (.object RX5) := (hK.1.2 1 (cS, .object RX5) rfl).2
    obtain ⟨_, _, _, _, _, h1⟩ := h1
    obtain ⟨_, _, _, _, _, h2⟩ := h2
    exact Option.some.inj (h1.symm.trans h2)
  subst hcA
  have hag : ∀ k, k < sh.length → (fun k => if k = sh.length then q else ad k) k = ad k := fun k hk => if_neg (by omega)
  have hw : cw cI cA ad sh I F ++ [(q, .inl (cA, (x.toNat, .inr (.inr (.inr (.inr (fun _ => none)))))))] = cw cI cA (fun k => if k = sh.length then q else ad k) (sh ++ [.inr (50, List.replicate x.toNat (some none))]) I F := by
    refine cw_push hag (if_pos rfl) hW.2.2.1 ?_
    rw [cel_q, List.length_replicate]
    congr 7
    funext j
    simp only [cq, List.getElem?_replicate]
    split <;> rename_i hh <;> first | rfl | (split at hh <;> cases hh)
  rw [hw] at hP1 hD1
  have hlen2 : (sh ++ [Sum.inr (50, List.replicate x.toNat (some none))] : Shp).length = sh.length + 1 := by simp
  have zok : okSh (sh ++ [Sum.inr (50, List.replicate x.toNat (some none))]) := by
    intro p' cj sj hp'
    rw [hlen2]
    by_cases hp2 : p' < sh.length
    · rw [List.getElem?_append_left hp2] at hp'
      obtain ⟨g1, g2⟩ := hW.2.2.1 p' cj sj hp'
      exact ⟨g1, fun k r hk => Nat.lt_succ_of_lt (g2 k r hk)⟩
    · rw [List.getElem?_append_right (by omega)] at hp'
      have : p' - sh.length = 0 := by
        have := (List.getElem?_eq_some_iff.mp hp').1
        simp at this
        omega
      rw [this] at hp'
      cases hp'
      refine ⟨Or.inr rfl, fun k r hk => ?_⟩
      rw [List.getElem?_replicate] at hk
      split at hk <;> cases hk
  have zL : Lcl (fun k => if k = sh.length then q else ad k) (sh ++ [Sum.inr (50, List.replicate x.toNat (some none))] : Shp).length lsc μ.2.2.2.1 ls := by
    rw [hlen2]; exact hL.mono (Nat.le_succ _) hag
  have zst : ∀ v ∈ (Sum.inr (some sh.length) :: st : List AV), okv (sh ++ [Sum.inr (50, List.replicate x.toNat (some none))] : Shp).length v := by
    rw [hlen2]
    exact ok_cons (v := .inr (some sh.length)) (Nat.lt_succ_self _) (fun v hv => okv_mono (Nat.le_succ _) (ok_tail hst v hv))
  have z := K p l e s m args below meth c D cI cA A ad0 (fun k => if k = sh.length then q else ad k) H1 locs lsc hC hK hA (fun k hk => by rw [← had k hk]; exact hag k (by omega)) (by rw [hlen2]; omega) ⟨hP1, hD1, zok, hW.2.2.2⟩ hS1 zL zst
  have e2 : (Sum.inr (some sh.length) :: st).map (cv (fun k => if k = sh.length then q else ad k)) = .ref q :: st.map (cv ad) := by
    rw [List.map_cons]
    congr 1
    · simp [cv]
    · exact List.map_congr_left (fun v hv => cv_ag hag (ok_tail hst v hv))
  rw [e2] at z
  exact z
theorem w_aast {a v : Nat} {sl slv : List (Option (Option Nat))} {i : Int} (h : IO μ.2.2.1 pc n .aastore) (hs : sh[a]? = some (.inr (50, sl))) (hv : sh[v]? = some (.inr (5, slv))) (hi : 0 ≤ i ∧ i < sl.length)
    (K : WS μ d mc ms n0 Q kc ks n ls st (sh.set a (.inr (50, sl.set i.toNat (some (some v))))) I F) : WS μ d mc ms n0 Q kc ks pc ls (.inr (some v) :: .inl i :: .inr (some a) :: st) sh I F := by
  intro p l e s m args below meth c D cI cS A ad0 ad H locs lsc hC hK hA had hn0 hW hS hL hst
  obtain ⟨hd, rfl⟩ := h
  have he := cw_at (cI := cI) (cS := cS) (ad := ad) (I := I) (F := F) hs
  rw [cel_q] at he
  have hev := cw_at (cI := cI) (cS := cS) (ad := ad) (I := I) (F := F) hv
  rw [cel_obj (by decide)] at hev
  have hri : inR i := ok_head (ok_tail hst)
  have hrv : v < sh.length := ok_head hst
  have hal := (List.getElem?_eq_some_iff.mp hs).1
  have hset : (cw cI cS ad sh I F).set a (ad a, .inl (cS, sl.length, .inr (.inr (.inr (.inr (va_up (cq ad sl) (Int32.ofInt i).toNatClampNeg (some (ad v)))))))) = cw cI cS ad (sh.set a (.inr (50, sl.set i.toNat (some (some v))))) I F := by
    refine cw_set (c := .inr (50, sl.set i.toNat (some (some v)))) (by simp) (by rw [List.getElem?_set, if_pos rfl, if_pos hal]) ?_ (fun q hq => ⟨by rw [List.getElem?_set_ne (Ne.symm hq)], fun c' _ => rfl⟩)
    rw [cel_q, List.length_set]
    congr 7
    funext j
    rw [oi_nat hri]
    simp only [cq, va_up, List.getElem?_set]
    by_cases hj : j = i.toNat
    · subst hj
      rw [if_pos rfl, if_pos (by omega), if_pos rfl]
    · rw [if_neg hj, if_neg (fun z => hj z.symm)]
  have hok : okSh (sh.set a (.inr (50, sl.set i.toNat (some (some v))))) := by
    intro q cj sj hq
    rw [List.length_set]
    rw [List.getElem?_set] at hq
    by_cases hqa : a = q
    · subst hqa
      rw [if_pos rfl, if_pos hal] at hq
      cases hq
      obtain ⟨g1, g2⟩ := hW.2.2.1 a 50 sl hs
      refine ⟨Or.inr rfl, fun k' r' h' => ?_⟩
      rw [List.getElem?_set] at h'
      by_cases hkk : i.toNat = k'
      · subst hkk
        rw [if_pos rfl, if_pos (by omega)] at h'
        cases h'
        exact hrv
      · rw [if_neg hkk] at h'
        exact g2 k' r' h'
    · rw [if_neg hqa] at hq
      exact hW.2.2.1 q cj sj hq
  refine va_astq (D := D) (r := (CC 5, TT 5, NN 5)) hC.1 hC.2.1 hK.1 hW.1 hW.2.1 hS a 1 v 5 he rfl hev (cl_ok 5 (by decide)) (oi_in hri hi) hd (fun H1 locs1 hP1 hD1 hS1 => ?_)
  rw [hset] at hP1 hD1
  have hn0' : n0 ≤ (sh.set a (.inr (50, sl.set i.toNat (some (some v))))).length := by rw [List.length_set]; exact hn0
  have hL' : Lcl ad (sh.set a (.inr (50, sl.set i.toNat (some (some v))))).length lsc μ.2.2.2.1 ls := by rw [List.length_set]; exact hL
  exact K p l e s m args below meth c D cI cS A ad0 ad H1 locs1 lsc hC hK hA had hn0' ⟨hP1, hD1, hok, hW.2.2.2⟩ hS1 hL' (by rw [List.length_set]; exact ok_tail (ok_tail (ok_tail hst)))
/-- the shape of a world's ranges, where a proof wants them -/
theorem w_rng (K : (∀ a k, inR (I a k)) → (∀ a i, inR (F a i)) → WS μ d mc ms n0 Q kc ks pc ls st sh I F) : WS μ d mc ms n0 Q kc ks pc ls st sh I F := by
  intro p l e s m args below meth c D cI cS A ad0 ad H locs lsc hC hK hA had hn0 hW hS hL hst
  exact K hW.2.2.2.1 hW.2.2.2.2 p l e s m args below meth c D cI cS A ad0 ad H locs lsc hC hK hA had hn0 hW hS hL hst
theorem w_top {x : Int} (K : inR x → WS μ d mc ms n0 Q kc ks pc ls (.inl x :: st) sh I F) : WS μ d mc ms n0 Q kc ks pc ls (.inl x :: st) sh I F := by
  intro p l e s m args below meth c D cI cS A ad0 ad H locs lsc hC hK hA had hn0 hW hS hL hst
  exact K (ok_head hst) p l e s m args below meth c D cI cS A ad0 ad H locs lsc hC hK hA had hn0 hW hS hL hst
theorem w_lcl {k : Nat} {x : Int} (hk : ls[k]? = some (some (.inl x))) (K : inR x → WS μ d mc ms n0 Q kc ks pc ls st sh I F) : WS μ d mc ms n0 Q kc ks pc ls st sh I F := by
  intro p l e s m args below meth c D cI cS A ad0 ad H locs lsc hC hK hA had hn0 hW hS hL hst
  exact K (hL.get hk).2 p l e s m args below meth c D cI cS A ad0 ad H locs lsc hC hK hA had hn0 hW hS hL hst
theorem w_is0 {x : Int} {y : Option AV} (h : ISi μ.2.2.1 pc n 0) (K : WS μ d mc ms n0 Q kc ks n (some (.inl x) :: ls) st sh I F) : WS μ d mc ms n0 Q kc ks pc (y :: ls) (.inl x :: st) sh I F := w_istore h (by simp) K
theorem w_ii0 {x v : Int} (h : II μ.2.2.1 pc n 0 v) (hr : inR (x + v)) (K : WS μ d mc ms n0 Q kc ks n (some (.inl (x + v)) :: ls) st sh I F) : WS μ d mc ms n0 Q kc ks pc (some (.inl x) :: ls) st sh I F := w_iinc h (x := x) rfl hr K
theorem w_is1 {x : Int} {a0 y : Option AV} (h : ISi μ.2.2.1 pc n 1) (K : WS μ d mc ms n0 Q kc ks n (a0 :: some (.inl x) :: ls) st sh I F) : WS μ d mc ms n0 Q kc ks pc (a0 :: y :: ls) (.inl x :: st) sh I F := w_istore h (by simp) K
theorem w_ii1 {x v : Int} {a0 : Option AV} (h : II μ.2.2.1 pc n 1 v) (hr : inR (x + v)) (K : WS μ d mc ms n0 Q kc ks n (a0 :: some (.inl (x + v)) :: ls) st sh I F) : WS μ d mc ms n0 Q kc ks pc (a0 :: some (.inl x) :: ls) st sh I F := w_iinc h (x := x) rfl hr K
theorem w_is2 {x : Int} {a0 a1 y : Option AV} (h : ISi μ.2.2.1 pc n 2) (K : WS μ d mc ms n0 Q kc ks n (a0 :: a1 :: some (.inl x) :: ls) st sh I F) : WS μ d mc ms n0 Q kc ks pc (a0 :: a1 :: y :: ls) (.inl x :: st) sh I F := w_istore h (by simp) K
theorem w_ii2 {x v : Int} {a0 a1 : Option AV} (h : II μ.2.2.1 pc n 2 v) (hr : inR (x + v)) (K : WS μ d mc ms n0 Q kc ks n (a0 :: a1 :: some (.inl (x + v)) :: ls) st sh I F) : WS μ d mc ms n0 Q kc ks pc (a0 :: a1 :: some (.inl x) :: ls) st sh I F := w_iinc h (x := x) rfl hr K
theorem w_is3 {x : Int} {a0 a1 a2 y : Option AV} (h : ISi μ.2.2.1 pc n 3) (K : WS μ d mc ms n0 Q kc ks n (a0 :: a1 :: a2 :: some (.inl x) :: ls) st sh I F) : WS μ d mc ms n0 Q kc ks pc (a0 :: a1 :: a2 :: y :: ls) (.inl x :: st) sh I F := w_istore h (by simp) K
theorem w_ii3 {x v : Int} {a0 a1 a2 : Option AV} (h : II μ.2.2.1 pc n 3 v) (hr : inR (x + v)) (K : WS μ d mc ms n0 Q kc ks n (a0 :: a1 :: a2 :: some (.inl (x + v)) :: ls) st sh I F) : WS μ d mc ms n0 Q kc ks pc (a0 :: a1 :: a2 :: some (.inl x) :: ls) st sh I F := w_iinc h (x := x) rfl hr K
theorem w_is4 {x : Int} {a0 a1 a2 a3 y : Option AV} (h : ISi μ.2.2.1 pc n 4) (K : WS μ d mc ms n0 Q kc ks n (a0 :: a1 :: a2 :: a3 :: some (.inl x) :: ls) st sh I F) : WS μ d mc ms n0 Q kc ks pc (a0 :: a1 :: a2 :: a3 :: y :: ls) (.inl x :: st) sh I F := w_istore h (by simp) K
theorem w_ii4 {x v : Int} {a0 a1 a2 a3 : Option AV} (h : II μ.2.2.1 pc n 4 v) (hr : inR (x + v)) (K : WS μ d mc ms n0 Q kc ks n (a0 :: a1 :: a2 :: a3 :: some (.inl (x + v)) :: ls) st sh I F) : WS μ d mc ms n0 Q kc ks pc (a0 :: a1 :: a2 :: a3 :: some (.inl x) :: ls) st sh I F := w_iinc h (x := x) rfl hr K
theorem w_is5 {x : Int} {a0 a1 a2 a3 a4 y : Option AV} (h : ISi μ.2.2.1 pc n 5) (K : WS μ d mc ms n0 Q kc ks n (a0 :: a1 :: a2 :: a3 :: a4 :: some (.inl x) :: ls) st sh I F) : WS μ d mc ms n0 Q kc ks pc (a0 :: a1 :: a2 :: a3 :: a4 :: y :: ls) (.inl x :: st) sh I F := w_istore h (by simp) K
theorem w_ii5 {x v : Int} {a0 a1 a2 a3 a4 : Option AV} (h : II μ.2.2.1 pc n 5 v) (hr : inR (x + v)) (K : WS μ d mc ms n0 Q kc ks n (a0 :: a1 :: a2 :: a3 :: a4 :: some (.inl (x + v)) :: ls) st sh I F) : WS μ d mc ms n0 Q kc ks pc (a0 :: a1 :: a2 :: a3 :: a4 :: some (.inl x) :: ls) st sh I F := w_iinc h (x := x) rfl hr K
theorem w_is6 {x : Int} {a0 a1 a2 a3 a4 a5 y : Option AV} (h : ISi μ.2.2.1 pc n 6) (K : WS μ d mc ms n0 Q kc ks n (a0 :: a1 :: a2 :: a3 :: a4 :: a5 :: some (.inl x) :: ls) st sh I F) : WS μ d mc ms n0 Q kc ks pc (a0 :: a1 :: a2 :: a3 :: a4 :: a5 :: y :: ls) (.inl x :: st) sh I F := w_istore h (by simp) K
theorem w_ii6 {x v : Int} {a0 a1 a2 a3 a4 a5 : Option AV} (h : II μ.2.2.1 pc n 6 v) (hr : inR (x + v)) (K : WS μ d mc ms n0 Q kc ks n (a0 :: a1 :: a2 :: a3 :: a4 :: a5 :: some (.inl (x + v)) :: ls) st sh I F) : WS μ d mc ms n0 Q kc ks pc (a0 :: a1 :: a2 :: a3 :: a4 :: a5 :: some (.inl x) :: ls) st sh I F := w_iinc h (x := x) rfl hr K
theorem w_is7 {x : Int} {a0 a1 a2 a3 a4 a5 a6 y : Option AV} (h : ISi μ.2.2.1 pc n 7) (K : WS μ d mc ms n0 Q kc ks n (a0 :: a1 :: a2 :: a3 :: a4 :: a5 :: a6 :: some (.inl x) :: ls) st sh I F) : WS μ d mc ms n0 Q kc ks pc (a0 :: a1 :: a2 :: a3 :: a4 :: a5 :: a6 :: y :: ls) (.inl x :: st) sh I F := w_istore h (by simp) K
theorem w_ii7 {x v : Int} {a0 a1 a2 a3 a4 a5 a6 : Option AV} (h : II μ.2.2.1 pc n 7 v) (hr : inR (x + v)) (K : WS μ d mc ms n0 Q kc ks n (a0 :: a1 :: a2 :: a3 :: a4 :: a5 :: a6 :: some (.inl (x + v)) :: ls) st sh I F) : WS μ d mc ms n0 Q kc ks pc (a0 :: a1 :: a2 :: a3 :: a4 :: a5 :: a6 :: some (.inl x) :: ls) st sh I F := w_iinc h (x := x) rfl hr K
theorem w_is8 {x : Int} {a0 a1 a2 a3 a4 a5 a6 a7 y : Option AV} (h : ISi μ.2.2.1 pc n 8) (K : WS μ d mc ms n0 Q kc ks n (a0 :: a1 :: a2 :: a3 :: a4 :: a5 :: a6 :: a7 :: some (.inl x) :: ls) st sh I F) : WS μ d mc ms n0 Q kc ks pc (a0 :: a1 :: a2 :: a3 :: a4 :: a5 :: a6 :: a7 :: y :: ls) (.inl x :: st) sh I F := w_istore h (by simp) K
theorem w_ii8 {x v : Int} {a0 a1 a2 a3 a4 a5 a6 a7 : Option AV} (h : II μ.2.2.1 pc n 8 v) (hr : inR (x + v)) (K : WS μ d mc ms n0 Q kc ks n (a0 :: a1 :: a2 :: a3 :: a4 :: a5 :: a6 :: a7 :: some (.inl (x + v)) :: ls) st sh I F) : WS μ d mc ms n0 Q kc ks pc (a0 :: a1 :: a2 :: a3 :: a4 :: a5 :: a6 :: a7 :: some (.inl x) :: ls) st sh I F := w_iinc h (x := x) rfl hr K
theorem w_is9 {x : Int} {a0 a1 a2 a3 a4 a5 a6 a7 a8 y : Option AV} (h : ISi μ.2.2.1 pc n 9) (K : WS μ d mc ms n0 Q kc ks n (a0 :: a1 :: a2 :: a3 :: a4 :: a5 :: a6 :: a7 :: a8 :: some (.inl x) :: ls) st sh I F) : WS μ d mc ms n0 Q kc ks pc (a0 :: a1 :: a2 :: a3 :: a4 :: a5 :: a6 :: a7 :: a8 :: y :: ls) (.inl x :: st) sh I F := w_istore h (by simp) K
theorem w_ii9 {x v : Int} {a0 a1 a2 a3 a4 a5 a6 a7 a8 : Option AV} (h : II μ.2.2.1 pc n 9 v) (hr : inR (x + v)) (K : WS μ d mc ms n0 Q kc ks n (a0 :: a1 :: a2 :: a3 :: a4 :: a5 :: a6 :: a7 :: a8 :: some (.inl (x + v)) :: ls) st sh I F) : WS μ d mc ms n0 Q kc ks pc (a0 :: a1 :: a2 :: a3 :: a4 :: a5 :: a6 :: a7 :: a8 :: some (.inl x) :: ls) st sh I F := w_iinc h (x := x) rfl hr K
theorem w_is10 {x : Int} {a0 a1 a2 a3 a4 a5 a6 a7 a8 a9 y : Option AV} (h : ISi μ.2.2.1 pc n 10) (K : WS μ d mc ms n0 Q kc ks n (a0 :: a1 :: a2 :: a3 :: a4 :: a5 :: a6 :: a7 :: a8 :: a9 :: some (.inl x) :: ls) st sh I F) : WS μ d mc ms n0 Q kc ks pc (a0 :: a1 :: a2 :: a3 :: a4 :: a5 :: a6 :: a7 :: a8 :: a9 :: y :: ls) (.inl x :: st) sh I F := w_istore h (by simp) K
theorem w_ii10 {x v : Int} {a0 a1 a2 a3 a4 a5 a6 a7 a8 a9 : Option AV} (h : II μ.2.2.1 pc n 10 v) (hr : inR (x + v)) (K : WS μ d mc ms n0 Q kc ks n (a0 :: a1 :: a2 :: a3 :: a4 :: a5 :: a6 :: a7 :: a8 :: a9 :: some (.inl (x + v)) :: ls) st sh I F) : WS μ d mc ms n0 Q kc ks pc (a0 :: a1 :: a2 :: a3 :: a4 :: a5 :: a6 :: a7 :: a8 :: a9 :: some (.inl x) :: ls) st sh I F := w_iinc h (x := x) rfl hr K
end CALLS
end
section
abbrev iv (x : Int) : AV := .inl x
abbrev rv (k : Nat) : AV := .inr (some k)
abbrev li (x : Int) : Option AV := some (.inl x)
abbrev lr (k : Nat) : Option AV := some (.inr (some k))
abbrev lu : Option AV := none
section SPECS
variable {μ μ' : MI} {d mc ms n0 kc ks pc n t k a ci : Nat} {Q : PQ} {ls : List (Option AV)} {st as rest : List AV} {sh : Shp} {I : IE} {F : FE} {sl : List (Option (Option Nat))}
/-- contracts of methods that make nothing -/
def MG (μ : MI) (d : Nat) (sh : Shp) (as : List AV) (I : IE) (F : FE) (P : Option AV → IE → FE → Prop) : Prop := MS μ d 0 0 sh as I F (fun r sh' I' F' => sh' = sh ∧ P r I' F')
/-- an int, nothing changed -/
def MR (μ : MI) (d : Nat) (sh : Shp) (as : List AV) (I : IE) (F : FE) (v : Int) : Prop := MG μ d sh as I F (fun r I' F' => r = some (.inl v) ∧ I' = I ∧ F' = F)
/-- an int with a property, nothing changed -/
def MP (μ : MI) (d : Nat) (sh : Shp) (as : List AV) (I : IE) (F : FE) (P : Int → Prop) : Prop := MG μ d sh as I F (fun r I' F' => ∃ v, r = some (.inl v) ∧ P v ∧ I' = I ∧ F' = F)
/-- nothing answered -/
def MU (μ : MI) (d : Nat) (sh : Shp) (as : List AV) (I : IE) (F : FE) (P : IE → FE → Prop) : Prop := MG μ d sh as I F (fun r I' F' => r = none ∧ P I' F')
/-- an int, and the state -/
def MB (μ : MI) (d : Nat) (sh : Shp) (as : List AV) (I : IE) (F : FE) (P : Int → IE → FE → Prop) : Prop := MG μ d sh as I F (fun r I' F' => ∃ v, r = some (.inl v) ∧ P v I' F')
theorem w_cV {P : Option AV → IE → FE → Prop} (h : ICV μ pc n μ') (hF : MF μ' k) (hV : MV μ') (hM : MG μ' (d - 1) sh (.inr (some a) :: as) I F P) (hk : as.length = k) (hs : sh[a]? = some (.inr (ci, sl))) (hci : ci < 9) (hcc : CC ci = μ'.1.cls)
    (hst0 : as.reverse ++ .inr (some a) :: rest = st) (hrest : rest.length ≤ 8) (hd : 1 ≤ d) (hcap : kc ≤ mc ∧ ks ≤ ms)
    (K : ∀ r I' F', P r I' F' → WS μ d mc ms n0 Q kc ks n ls (r.toList ++ rest) sh I' F') : WS μ d mc ms n0 Q kc ks pc ls st sh I F :=
  w_callV h hF hV hM hk hs hci hcc hst0 hrest (by omega) hcap (fun r sh' I' F' hq => by obtain ⟨rfl, hq⟩ := hq; exact K r I' F' hq)
theorem w_cS {P : Option AV → IE → FE → Prop} (h : ICS μ pc n μ'.1) (hF : MF μ' k) (hV : MS_ μ') (hM : MG μ' (d - 1) sh as I F P) (hk : as.length = k)
    (hst0 : as.reverse ++ rest = st) (hrest : rest.length ≤ 8) (hd : 1 ≤ d) (hcap : kc ≤ mc ∧ ks ≤ ms)
    (K : ∀ r I' F', P r I' F' → WS μ d mc ms n0 Q kc ks n ls (r.toList ++ rest) sh I' F') : WS μ d mc ms n0 Q kc ks pc ls st sh I F :=
  w_callS h hF hV hM hk hst0 hrest (by omega) hcap (fun r sh' I' F' hq => by obtain ⟨rfl, hq⟩ := hq; exact K r I' F' hq)
theorem w_cVR {v : Int} (h : ICV μ pc n μ') (hF : MF μ' k) (hV : MV μ') (hM : MR μ' (d - 1) sh (.inr (some a) :: as) I F v) (hk : as.length = k) (hs : sh[a]? = some (.inr (ci, sl))) (hci : ci < 9) (hcc : CC ci = μ'.1.cls)
    (hst0 : as.reverse ++ .inr (some a) :: rest = st) (hrest : rest.length ≤ 8) (hd : 1 ≤ d)
    (K : WS μ d 0 0 n0 Q 0 0 n ls (.inl v :: rest) sh I F) : WS μ d 0 0 n0 Q 0 0 pc ls st sh I F :=
  w_cV h hF hV hM hk hs hci hcc hst0 hrest hd ⟨Nat.le_refl _, Nat.le_refl _⟩ (fun r I' F' hq => by obtain ⟨rfl, rfl, rfl⟩ := hq; exact K)
theorem w_cVP {P : Int → Prop} (h : ICV μ pc n μ') (hF : MF μ' k) (hV : MV μ') (hM : MP μ' (d - 1) sh (.inr (some a) :: as) I F P) (hk : as.length = k) (hs : sh[a]? = some (.inr (ci, sl))) (hci : ci < 9) (hcc : CC ci = μ'.1.cls)
    (hst0 : as.reverse ++ .inr (some a) :: rest = st) (hrest : rest.length ≤ 8) (hd : 1 ≤ d)
    (K : ∀ v, P v → WS μ d 0 0 n0 Q 0 0 n ls (.inl v :: rest) sh I F) : WS μ d 0 0 n0 Q 0 0 pc ls st sh I F :=
  w_cV h hF hV hM hk hs hci hcc hst0 hrest hd ⟨Nat.le_refl _, Nat.le_refl _⟩ (fun r I' F' hq => by obtain ⟨v, rfl, hv, rfl, rfl⟩ := hq; exact K v hv)
theorem w_cVU {P : IE → FE → Prop} (h : ICV μ pc n μ') (hF : MF μ' k) (hV : MV μ') (hM : MU μ' (d - 1) sh (.inr (some a) :: as) I F P) (hk : as.length = k) (hs : sh[a]? = some (.inr (ci, sl))) (hci : ci < 9) (hcc : CC ci = μ'.1.cls)
    (hst0 : as.reverse ++ .inr (some a) :: rest = st) (hrest : rest.length ≤ 8) (hd : 1 ≤ d)
    (K : ∀ I' F', P I' F' → WS μ d 0 0 n0 Q 0 0 n ls rest sh I' F') : WS μ d 0 0 n0 Q 0 0 pc ls st sh I F :=
  w_cV h hF hV hM hk hs hci hcc hst0 hrest hd ⟨Nat.le_refl _, Nat.le_refl _⟩ (fun r I' F' hq => by obtain ⟨rfl, hq⟩ := hq; exact K I' F' hq)
theorem w_cVB {P : Int → IE → FE → Prop} (h : ICV μ pc n μ') (hF : MF μ' k) (hV : MV μ') (hM : MB μ' (d - 1) sh (.inr (some a) :: as) I F P) (hk : as.length = k) (hs : sh[a]? = some (.inr (ci, sl))) (hci : ci < 9) (hcc : CC ci = μ'.1.cls)
    (hst0 : as.reverse ++ .inr (some a) :: rest = st) (hrest : rest.length ≤ 8) (hd : 1 ≤ d)
    (K : ∀ v I' F', P v I' F' → WS μ d 0 0 n0 Q 0 0 n ls (.inl v :: rest) sh I' F') : WS μ d 0 0 n0 Q 0 0 pc ls st sh I F :=
  w_cV h hF hV hM hk hs hci hcc hst0 hrest hd ⟨Nat.le_refl _, Nat.le_refl _⟩ (fun r I' F' hq => by obtain ⟨v, rfl, hq⟩ := hq; exact K v I' F' hq)
theorem w_cSR {v : Int} (h : ICS μ pc n μ'.1) (hF : MF μ' k) (hV : MS_ μ') (hM : MR μ' (d - 1) sh as I F v) (hk : as.length = k)
    (hst0 : as.reverse ++ rest = st) (hrest : rest.length ≤ 8) (hd : 1 ≤ d)
    (K : WS μ d 0 0 n0 Q 0 0 n ls (.inl v :: rest) sh I F) : WS μ d 0 0 n0 Q 0 0 pc ls st sh I F :=
  w_cS h hF hV hM hk hst0 hrest hd ⟨Nat.le_refl _, Nat.le_refl _⟩ (fun r I' F' hq => by obtain ⟨rfl, rfl, rfl⟩ := hq; exact K)
theorem w_cSP {P : Int → Prop} (h : ICS μ pc n μ'.1) (hF : MF μ' k) (hV : MS_ μ') (hM : MP μ' (d - 1) sh as I F P) (hk : as.length = k)
    (hst0 : as.reverse ++ rest = st) (hrest : rest.length ≤ 8) (hd : 1 ≤ d)
    (K : ∀ v, P v → WS μ d 0 0 n0 Q 0 0 n ls (.inl v :: rest) sh I F) : WS μ d 0 0 n0 Q 0 0 pc ls st sh I F :=
  w_cS h hF hV hM hk hst0 hrest hd ⟨Nat.le_refl _, Nat.le_refl _⟩ (fun r I' F' hq => by obtain ⟨v, rfl, hv, rfl, rfl⟩ := hq; exact K v hv)
end SPECS
/-- the component's world: what stands where -/
def shX : Shp := [.inr (7, [some (some 1), some (some 5), some (some 39), some (some 42), some (some 47), some (some 50), some (some 54), some (some 58), some (some 61), none]),
  .inr (5, [none, none, some (some 2), some (some 3), some (some 4), none]), .inl 8, .inl 4, .inl 4,
  .inr (3, [none, none, some (some 6)]), .inr (50, [some (some 7), some (some 11), some (some 15), some (some 19), some (some 23), some (some 27), some (some 31), some (some 35)]),
  .inr (5, [none, none, some (some 8), some (some 9), some (some 10), none]), .inl 8, .inl 4, .inl 4,
  .inr (5, [none, none, some (some 12), some (some 13), some (some 14), none]), .inl 8, .inl 4, .inl 4,
  .inr (5, [none, none, some (some 16), some (some 17), some (some 18), none]), .inl 8, .inl 4, .inl 4,
  .inr (5, [none, none, some (some 20), some (some 21), some (some 22), none]), .inl 8, .inl 4, .inl 4,
  .inr (5, [none, none, some (some 24), some (some 25), some (some 26), none]), .inl 8, .inl 4, .inl 4,
  .inr (5, [none, none, some (some 28), some (some 29), some (some 30), none]), .inl 8, .inl 4, .inl 4,
  .inr (5, [none, none, some (some 32), some (some 33), some (some 34), none]), .inl 8, .inl 4, .inl 4,
  .inr (5, [none, none, some (some 36), some (some 37), some (some 38), none]), .inl 8, .inl 4, .inl 4,
  .inr (4, [none, none, none, some (some 40), some (some 41), none]), .inl 8, .inl 40,
  .inr (2, [none, none, some (some 43), none, none, none, none, none, none, none, some (some 44), some (some 45), some (some 46), none]), .inl 64, .inl 4, .inl 4, .inl 192,
  .inr (0, [none, some (some 48), some (some 49)]), .inl 120, .inl 4,
  .inr (1, [none, none, some (some 53), some (some 51), some (some 52)]), .inl 4, .inl 4, .inl 2048,
  .inr (1, [none, none, some (some 57), some (some 55), some (some 56)]), .inl 4, .inl 4, .inl 32,
  .inr (6, [some (some 59), some (some 60), none]), .inl 2048, .inl 2048, .inl 4]
/-- the reference's world -/
def shM : Shp := [.inr (8, [some (some 1), some (some 2), none, some (some 3), none, none, some (some 4), some (some 5), none, some (some 6), none, some (some 7), some (some 8), some (some 9), none, some (some 10), some (some 11), some (some 12), some (some 13), none, some (some 14)]),
  .inl 178, .inl 1424, .inl 40, .inl 640, .inl 3200, .inl 4, .inl 2, .inl 8, .inl 8400, .inl 4, .inl 4, .inl 2100, .inl 2100, .inl 4]
end
section
-- GraverCalculator.State at place 1: 0 rows, 1 columns, 2 matrix (place 2), 3 vector (3), 4 point (4), 5 active
theorem nat_of {x : Int} {m : Nat} (h0 : 0 ≤ x) (h : x ≤ m) : ∃ k : Nat, x = (k : Int) ∧ k ≤ m := ⟨x.toNat, by omega, by omega⟩
theorem mulb {a b B : Int} (ha : 0 ≤ a ∧ a ≤ 3) (hb : -B ≤ b ∧ b ≤ B) : -(3 * B) ≤ a * b ∧ a * b ≤ 3 * B := by
  rcases (show a = 0 ∨ a = 1 ∨ a = 2 ∨ a = 3 by omega) with rfl | rfl | rfl | rfl <;> omega
/-- a row times a vector, the first k columns -/
def dt (M v : Int → Int) (r : Int) : Nat → Int
  | 0 => 0
  | k + 1 => dt M v r k + M (r * 4 + k) * v k
theorem dt_b {M v : Int → Int} {r : Int} (hM : ∀ j, 0 ≤ M j ∧ M j ≤ 3) : ∀ (k : Nat), (∀ j : Int, 0 ≤ j ∧ j < k → -1000 ≤ v j ∧ v j ≤ 1000) → -(3000 * (k : Int)) ≤ dt M v r k ∧ dt M v r k ≤ 3000 * (k : Int)
  | 0, _ => by simp [dt]
  | k + 1, h => by
    have := dt_b (r := r) hM k (fun j hj => h j (by omega))
    have h2 := mulb (hM (r * 4 + k)) (B := 1000) (h k (by omega))
    simp only [dt]
    omega
theorem dt_ext {M v w : Int → Int} {r : Int} : ∀ (k : Nat), (∀ j : Int, 0 ≤ j ∧ j < k → v j = w j) → dt M v r k = dt M w r k
  | 0, _ => rfl
  | k + 1, h => by
    simp only [dt]
    rw [dt_ext k (fun j hj => h j (by omega)), h k (by omega)]
theorem s5_at {d : Nat} {I : IE} {F : FE} {r c : Int} (hr : 0 ≤ r ∧ r ≤ 1) (hc : 0 ≤ c ∧ c ≤ 3) : MR m5_at d shX [rv 1, iv r, iv c] I F (F 2 (r * 4 + c)) := by
  refine MS_of (ls := [lr 1, li r, li c, lu]) f5_at rfl rfl (Nat.le_of_ble_eq_true rfl) ?_
  refine w_iload i5_at_0 rfl ?_
  refine w_const i5_at_1 ?_
  refine w_imul i5_at_2 (by omega) ?_
  refine w_iload i5_at_3 rfl ?_
  refine w_iadd i5_at_4 (by omega) ?_
  refine w_is3 i5_at_5 ?_
  refine w_iload i5_at_6 rfl ?_
  refine w_iflt i5_at_7 (fun h_ => absurd h_ (by omega)) (fun h7 => ?_)
  refine w_iload i5_at_10 rfl ?_
  refine w_aload i5_at_11 rfl ?_
  refine w_getr i5_at_12 rfl rfl ?_
  refine w_alen i5_at_15 rfl (by decide) ?_
  refine w_icmpge i5_at_16 (fun h_ => absurd h_ (by omega)) (fun h16 => ?_)
  refine w_aload i5_at_19 rfl ?_
  refine w_getr i5_at_20 rfl rfl ?_
  refine w_iload i5_at_23 rfl ?_
  refine w_iald i5_at_24 rfl (by omega) ?_
  refine w_goto i5_at_25 ?_
  refine w_iret i5_at_29 (Or.inl rfl) ⟨Nat.le_refl _, Nat.le_refl _⟩ ?_
  exact ⟨rfl, rfl, rfl, rfl⟩
theorem s5_put {d : Nat} {I : IE} {F : FE} {r c x : Int} (hr : 0 ≤ r ∧ r ≤ 1) (hc : 0 ≤ c ∧ c ≤ 3) : MU m5_put d shX [rv 1, iv r, iv c, iv x] I F (fun I' F' => I' = I ∧ F' = upF F 2 (r * 4 + c) x) := by
  refine MS_of (ls := [lr 1, li r, li c, li x, lu]) f5_put rfl rfl (Nat.le_of_ble_eq_true rfl) ?_
  refine w_iload i5_put_0 rfl ?_
  refine w_const i5_put_1 ?_
  refine w_imul i5_put_2 (by omega) ?_
  refine w_iload i5_put_3 rfl ?_
  refine w_iadd i5_put_4 (by omega) ?_
  refine w_is4 i5_put_5 ?_
  refine w_iload i5_put_7 rfl ?_
  refine w_iflt i5_put_9 (fun h_ => absurd h_ (by omega)) (fun h9 => ?_)
  refine w_iload i5_put_12 rfl ?_
  refine w_aload i5_put_14 rfl ?_
  refine w_getr i5_put_15 rfl rfl ?_
  refine w_alen i5_put_18 rfl (by decide) ?_
  refine w_icmpge i5_put_19 (fun h_ => absurd h_ (by omega)) (fun h19 => ?_)
  refine w_aload i5_put_22 rfl ?_
  refine w_getr i5_put_23 rfl rfl ?_
  refine w_iload i5_put_26 rfl ?_
  refine w_iload i5_put_28 rfl ?_
  refine w_iast i5_put_29 rfl (by omega) ?_
  refine w_vret i5_put_30 rfl ⟨Nat.le_refl _, Nat.le_refl _⟩ ?_
  exact ⟨rfl, rfl, rfl, rfl⟩
theorem l5_product {d n0 : Nat} {Q : PQ} {I : IE} {F : FE} {r : Int} {p N : Nat} (hd : 1 ≤ d) (hr : 0 ≤ r ∧ r ≤ 1) (hn : 0 ≤ I 1 1 ∧ I 1 1 ≤ 4) (hM : ∀ j, 0 ≤ F 2 j ∧ F 2 j ≤ 3) (hp : shX[p]? = some (.inl N)) (hN : 4 ≤ N) (hv : ∀ j, 0 ≤ j ∧ j < I 1 1 → -1000 ≤ F p j ∧ F p j ≤ 1000)
    (K : WS m5_product d 0 0 n0 Q 0 0 35 [lr 1, li r, lr p, li (dt (F 2) (F p) r (I 1 1).toNat), li (I 1 1)] [] shX I F) :
    ∀ (m k : Nat), (k + m : Int) = I 1 1 → WS m5_product d 0 0 n0 Q 0 0 5 [lr 1, li r, lr p, li (dt (F 2) (F p) r k), li k] [] shX I F := by
  intro m
  induction m with
  | zero =>
    intro k hk
    refine w_iload i5_product_5 rfl ?_
    refine w_aload i5_product_7 rfl ?_
    refine w_get i5_product_8 rfl rfl ?_
    refine w_icmpge i5_product_11 (fun h11 => ?_) (fun h_ => absurd h_ (by omega))
    have e : (k : Int) = I 1 1 := by omega
    rw [e, show k = (I 1 1).toNat by omega]
    exact K
  | succ m ih =>
    intro k hk
    have hb := dt_b (r := r) hM k (fun j hj => hv j (by omega))
    have h2 := mulb (hM (r * 4 + k)) (B := 1000) (hv k (by omega))
    refine w_iload i5_product_5 rfl ?_
    refine w_aload i5_product_7 rfl ?_
    refine w_get i5_product_8 rfl rfl ?_
    refine w_icmpge i5_product_11 (fun h_ => absurd h_ (by omega)) (fun h11 => ?_)
    refine w_iload i5_product_14 rfl ?_
    refine w_aload i5_product_15 rfl ?_
    refine w_iload i5_product_16 rfl ?_
    refine w_iload i5_product_17 rfl ?_
    refine w_cVR i5_product_19 f5_at v5_at (s5_at hr (by omega)) rfl rfl (by decide) rfl rfl (Nat.le_of_ble_eq_true rfl) (by omega) ?_
    refine w_aload i5_product_22 rfl ?_
    refine w_iload i5_product_23 rfl ?_
    refine w_iald i5_product_25 hp (by omega) ?_
    refine w_imul i5_product_26 (by omega) ?_
    refine w_iadd i5_product_27 (by omega) ?_
    refine w_is3 i5_product_28 ?_
    refine w_ii4 i5_product_29 (by omega) ?_
    refine w_goto i5_product_32 ?_
    have := ih (k + 1) (by omega)
    exact this
theorem s5_product {d : Nat} {I : IE} {F : FE} {r : Int} {p N : Nat} (hd : 1 ≤ d) (hr : 0 ≤ r ∧ r ≤ 1) (hn : 0 ≤ I 1 1 ∧ I 1 1 ≤ 4) (hM : ∀ j, 0 ≤ F 2 j ∧ F 2 j ≤ 3) (hp : shX[p]? = some (.inl N)) (hN : 4 ≤ N) (hv : ∀ j, 0 ≤ j ∧ j < I 1 1 → -1000 ≤ F p j ∧ F p j ≤ 1000) :
    MR m5_product d shX [rv 1, iv r, rv p] I F (dt (F 2) (F p) r (I 1 1).toNat) := by
  refine MS_of (ls := [lr 1, li r, lr p, lu, lu]) f5_product rfl rfl (Nat.le_of_ble_eq_true rfl) ?_
  refine w_const i5_product_0 ?_
  refine w_is3 i5_product_1 ?_
  refine w_const i5_product_2 ?_
  refine w_is4 i5_product_3 ?_
  refine l5_product hd hr hn hM hp hN hv ?_ (I 1 1).toNat 0 (by omega)
  refine w_iload i5_product_35 rfl ?_
  refine w_iret i5_product_36 (Or.inl rfl) ⟨Nat.le_refl _, Nat.le_refl _⟩ ?_
  exact ⟨rfl, rfl, rfl, rfl⟩
theorem s5_minor {d : Nat} {I : IE} {F : FE} {a b : Int} (hd : 1 ≤ d) (ha : 0 ≤ a ∧ a ≤ 3) (hb : 0 ≤ b ∧ b ≤ 3) (hM : ∀ j, 0 ≤ F 2 j ∧ F 2 j ≤ 3) : MR m5_minor d shX [rv 1, iv a, iv b] I F (F 2 a * F 2 (4 + b) - F 2 (4 + a) * F 2 b) := by
  have h1 := mulb (hM a) (b := F 2 (4 + b)) (B := 3) (by have := hM (4 + b); omega)
  have h2 := mulb (hM (4 + a)) (b := F 2 b) (B := 3) (by have := hM b; omega)
  have e1 : (0 : Int) * 4 + a = a := by omega
  have e2 : (0 : Int) * 4 + b = b := by omega
  have e3 : (1 : Int) * 4 + a = 4 + a := by omega
  have e4 : (1 : Int) * 4 + b = 4 + b := by omega
  refine MS_of (ls := [lr 1, li a, li b]) f5_minor rfl rfl (Nat.le_of_ble_eq_true rfl) ?_
  refine w_aload i5_minor_0 rfl ?_
  refine w_const i5_minor_1 ?_
  refine w_iload i5_minor_2 rfl ?_
  refine w_cVR i5_minor_3 f5_at v5_at (s5_at (by omega) (by omega)) rfl rfl (by decide) rfl rfl (Nat.le_of_ble_eq_true rfl) (by omega) ?_
  rw [e1]
  refine w_aload i5_minor_6 rfl ?_
  refine w_const i5_minor_7 ?_
  refine w_iload i5_minor_8 rfl ?_
  refine w_cVR i5_minor_9 f5_at v5_at (s5_at (by omega) (by omega)) rfl rfl (by decide) rfl rfl (Nat.le_of_ble_eq_true rfl) (by omega) ?_
  rw [e4]
  refine w_imul i5_minor_12 (by omega) ?_
  refine w_aload i5_minor_13 rfl ?_
  refine w_const i5_minor_14 ?_
  refine w_iload i5_minor_15 rfl ?_
  refine w_cVR i5_minor_16 f5_at v5_at (s5_at (by omega) (by omega)) rfl rfl (by decide) rfl rfl (Nat.le_of_ble_eq_true rfl) (by omega) ?_
  rw [e3]
  refine w_aload i5_minor_19 rfl ?_
  refine w_const i5_minor_20 ?_
  refine w_iload i5_minor_21 rfl ?_
  refine w_cVR i5_minor_22 f5_at v5_at (s5_at (by omega) (by omega)) rfl rfl (by decide) rfl rfl (Nat.le_of_ble_eq_true rfl) (by omega) ?_
  rw [e2]
  refine w_imul i5_minor_25 (by omega) ?_
  refine w_isub i5_minor_26 (by omega) ?_
  refine w_iret i5_minor_27 (Or.inl rfl) ⟨Nat.le_refl _, Nat.le_refl _⟩ ?_
  exact ⟨rfl, rfl, rfl, rfl⟩
/-- the first k entries of the matrix are 0 -/
def zf2 (F : FE) (k : Int) : FE := fun b j => if b = 2 ∧ 0 ≤ j ∧ j < k then 0 else F b j
def zf34 (F : FE) (k : Int) : FE := fun b j => if (b = 3 ∨ b = 4) ∧ 0 ≤ j ∧ j < k then 0 else F b j
theorem l5_reshape2 {d n0 : Nat} {Q : PQ} {I : IE} {F : FE} {a b : Int}
    (K : WS m5_reshape d 0 0 n0 Q 0 0 69 [lr 1, li a, li b, li 8] [] shX I (zf2 F 8)) :
    ∀ (m k : Nat) (F' : FE), k + m = 8 → F' = zf2 F k → WS m5_reshape d 0 0 n0 Q 0 0 47 [lr 1, li a, li b, li k] [] shX I F' := by
  intro m
  induction m with
  | zero =>
    intro k F' hk hF
    obtain rfl : k = 8 := by omega
    subst hF
    refine w_iload i5_reshape_47 rfl ?_
    refine w_aload i5_reshape_48 rfl ?_
    refine w_getr i5_reshape_49 rfl rfl ?_
    refine w_alen i5_reshape_52 rfl (by decide) ?_
    refine w_icmpge i5_reshape_53 (fun h53 => ?_) (fun h_ => absurd h_ (by omega))
    exact K
  | succ m ih =>
    intro k F' hk hF
    subst hF
    refine w_iload i5_reshape_47 rfl ?_
    refine w_aload i5_reshape_48 rfl ?_
    refine w_getr i5_reshape_49 rfl rfl ?_
    refine w_alen i5_reshape_52 rfl (by decide) ?_
    refine w_icmpge i5_reshape_53 (fun h_ => absurd h_ (by omega)) (fun h53 => ?_)
    refine w_aload i5_reshape_56 rfl ?_
    refine w_getr i5_reshape_57 rfl rfl ?_
    refine w_iload i5_reshape_60 rfl ?_
    refine w_const i5_reshape_61 ?_
    refine w_iast i5_reshape_62 rfl (by omega) ?_
    refine w_ii3 i5_reshape_63 (by omega) ?_
    refine w_goto i5_reshape_66 ?_
    refine ih (k + 1) _ (by omega) ?_
    funext b j
    simp only [upF, zf2]
    (repeat' split) <;> first | rfl | omega
theorem l5_reshape1 {d n0 : Nat} {Q : PQ} {I : IE} {F : FE} {a b : Int}
    (K : WS m5_reshape d 0 0 n0 Q 0 0 35 [lr 1, li a, li b, li 4] [] shX I (zf34 F 4)) :
    ∀ (m k : Nat) (F' : FE), k + m = 4 → F' = zf34 F k → WS m5_reshape d 0 0 n0 Q 0 0 10 [lr 1, li a, li b, li k] [] shX I F' := by
  intro m
  induction m with
  | zero =>
    intro k F' hk hF
    obtain rfl : k = 4 := by omega
    subst hF
    refine w_iload i5_reshape_10 rfl ?_
    refine w_const i5_reshape_11 ?_
    refine w_icmpge i5_reshape_12 (fun h12 => ?_) (fun h_ => absurd h_ (by omega))
    exact K
  | succ m ih =>
    intro k F' hk hF
    subst hF
    refine w_iload i5_reshape_10 rfl ?_
    refine w_const i5_reshape_11 ?_
    refine w_icmpge i5_reshape_12 (fun h_ => absurd h_ (by omega)) (fun h12 => ?_)
    refine w_aload i5_reshape_15 rfl ?_
    refine w_getr i5_reshape_16 rfl rfl ?_
    refine w_iload i5_reshape_19 rfl ?_
    refine w_const i5_reshape_20 ?_
    refine w_iast i5_reshape_21 rfl (by omega) ?_
    refine w_aload i5_reshape_22 rfl ?_
    refine w_getr i5_reshape_23 rfl rfl ?_
    refine w_iload i5_reshape_26 rfl ?_
    refine w_const i5_reshape_27 ?_
    refine w_iast i5_reshape_28 rfl (by omega) ?_
    refine w_ii3 i5_reshape_29 (by omega) ?_
    refine w_goto i5_reshape_32 ?_
    refine ih (k + 1) _ (by omega) ?_
    funext b j
    simp only [upF, zf34]
    (repeat' split) <;> first | rfl | omega
theorem s5_reshape {d : Nat} {I : IE} {F : FE} {a b : Int} : MU m5_reshape d shX [rv 1, iv a, iv b] I F (fun I' F' => I' = upI (upI I 1 0 a) 1 1 b ∧ F' = zf2 (if I 1 1 = b then F else zf34 F 4) 8) := by
  have K : ∀ x F0, WS m5_reshape d 0 0 shX.length (fun r sh' I' F' => sh' = shX ∧ r = none ∧ I' = upI (upI I 1 0 a) 1 1 b ∧ F' = zf2 F0 8) 0 0 35 [lr 1, li a, li b, x] [] shX I F0 := by
    intro x F0
    refine w_aload i5_reshape_35 rfl ?_
    refine w_iload i5_reshape_36 rfl ?_
    refine w_put i5_reshape_37 rfl rfl (Or.inl rfl) ?_
    refine w_aload i5_reshape_40 rfl ?_
    refine w_iload i5_reshape_41 rfl ?_
    refine w_put i5_reshape_42 rfl rfl (Or.inl rfl) ?_
    refine w_const i5_reshape_45 ?_
    refine w_is3 i5_reshape_46 ?_
    refine l5_reshape2 (F := F0) ?_ 8 0 _ (by omega) (by funext b j; simp only [zf2]; rw [if_neg (by omega)])
    refine w_vret i5_reshape_69 rfl ⟨Nat.le_refl _, Nat.le_refl _⟩ ?_
    exact ⟨rfl, rfl, rfl, rfl⟩
  refine MS_of (ls := [lr 1, li a, li b, lu]) f5_reshape rfl rfl (Nat.le_of_ble_eq_true rfl) ?_
  refine w_aload i5_reshape_0 rfl ?_
  refine w_get i5_reshape_1 rfl rfl ?_
  refine w_iload i5_reshape_4 rfl ?_
  refine w_icmpeq i5_reshape_5 (fun h5 => ?_) (fun h5 => ?_)
  · rw [if_pos h5]
    exact K _ _
  · refine w_const i5_reshape_8 ?_
    refine w_is3 i5_reshape_9 ?_
    refine l5_reshape1 (F := F) ?_ 4 0 _ (by omega) (by funext b j; simp only [zf34]; rw [if_neg (by omega)])
    rw [if_neg h5]
    exact K _ _
/-- ones in the cells ahead of (r, c) in the order of rows, within rows and columns -/
def of2 (F : FE) (n r c : Int) : FE := fun b j => if b = 2 ∧ 0 ≤ j ∧ j < 8 ∧ j % 4 < n ∧ (j / 4 < r ∨ j / 4 = r ∧ j % 4 < c) then 1 else F b j
theorem l5_fill1 {d n0 : Nat} {Q : PQ} {I : IE} {F : FE} {r : Int} (hd : 1 ≤ d) (hn : 0 ≤ I 1 1 ∧ I 1 1 ≤ 4) (hr : 0 ≤ r ∧ r ≤ 1)
    (K : WS m5_fillWithOnes d 0 0 n0 Q 0 0 33 [lr 1, li r, li (I 1 1)] [] shX I (of2 F (I 1 1) r (I 1 1))) :
    ∀ (m k : Nat) (F' : FE), (k + m : Int) = I 1 1 → F' = of2 F (I 1 1) r k → WS m5_fillWithOnes d 0 0 n0 Q 0 0 12 [lr 1, li r, li k] [] shX I F' := by
  intro m
  induction m with
  | zero =>
    intro k F' hk hF
    have e : (k : Int) = I 1 1 := by omega
    subst hF
    rw [e]
    refine w_iload i5_fillWithOnes_12 rfl ?_
    refine w_aload i5_fillWithOnes_13 rfl ?_
    refine w_get i5_fillWithOnes_14 rfl rfl ?_
    refine w_icmpge i5_fillWithOnes_17 (fun h17 => ?_) (fun h_ => absurd h_ (by omega))
    exact K
  | succ m ih =>
    intro k F' hk hF
    subst hF
    refine w_iload i5_fillWithOnes_12 rfl ?_
    refine w_aload i5_fillWithOnes_13 rfl ?_
    refine w_get i5_fillWithOnes_14 rfl rfl ?_
    refine w_icmpge i5_fillWithOnes_17 (fun h_ => absurd h_ (by omega)) (fun h17 => ?_)
    refine w_aload i5_fillWithOnes_20 rfl ?_
    refine w_iload i5_fillWithOnes_21 rfl ?_
    refine w_iload i5_fillWithOnes_22 rfl ?_
    refine w_const i5_fillWithOnes_23 ?_
    refine w_cVU i5_fillWithOnes_24 f5_put v5_put (s5_put hr (by omega)) rfl rfl (by decide) rfl rfl (Nat.le_of_ble_eq_true rfl) (by omega) (fun I' F' hq => ?_)
    obtain ⟨rfl, rfl⟩ := hq
    refine w_ii2 i5_fillWithOnes_27 (by omega) ?_
    refine w_goto i5_fillWithOnes_30 ?_
    refine ih (k + 1) _ (by omega) ?_
    funext b j
    simp only [upF, of2]
    (repeat' split) <;> first | rfl | omega
theorem l5_fill2 {d n0 : Nat} {Q : PQ} {I : IE} {F : FE} {x : Option AV} (hd : 1 ≤ d) (hn : 0 ≤ I 1 1 ∧ I 1 1 ≤ 4) (hr : 0 ≤ I 1 0 ∧ I 1 0 ≤ 2)
    (K : ∀ x, WS m5_fillWithOnes d 0 0 n0 Q 0 0 39 [lr 1, li (I 1 0), x] [] shX I (of2 F (I 1 1) (I 1 0) 0)) :
    ∀ (m k : Nat) (F' : FE) (x : Option AV), (k + m : Int) = I 1 0 → F' = of2 F (I 1 1) k 0 → WS m5_fillWithOnes d 0 0 n0 Q 0 0 2 [lr 1, li k, x] [] shX I F' := by
  intro m
  induction m with
  | zero =>
    intro k F' x hk hF
    have e : (k : Int) = I 1 0 := by omega
    subst hF
    rw [e]
    refine w_iload i5_fillWithOnes_2 rfl ?_
    refine w_aload i5_fillWithOnes_3 rfl ?_
    refine w_get i5_fillWithOnes_4 rfl rfl ?_
    refine w_icmpge i5_fillWithOnes_7 (fun h7 => ?_) (fun h_ => absurd h_ (by omega))
    exact K x
  | succ m ih =>
    intro k F' x hk hF
    subst hF
    refine w_iload i5_fillWithOnes_2 rfl ?_
    refine w_aload i5_fillWithOnes_3 rfl ?_
    refine w_get i5_fillWithOnes_4 rfl rfl ?_
    refine w_icmpge i5_fillWithOnes_7 (fun h_ => absurd h_ (by omega)) (fun h7 => ?_)
    refine w_const i5_fillWithOnes_10 ?_
    refine w_is2 i5_fillWithOnes_11 ?_
    refine l5_fill1 (F := F) (r := k) hd hn (by omega) ?_ (I 1 1).toNat 0 _ (by omega) rfl
    refine w_ii1 i5_fillWithOnes_33 (by omega) ?_
    refine w_goto i5_fillWithOnes_36 ?_
    refine ih (k + 1) _ _ (by omega) ?_
    funext b j
    simp only [of2]
    (repeat' split) <;> first | rfl | omega
theorem s5_fillWithOnes {d : Nat} {I : IE} {F : FE} (hd : 1 ≤ d) (hn : 0 ≤ I 1 1 ∧ I 1 1 ≤ 4) (hr : 0 ≤ I 1 0 ∧ I 1 0 ≤ 2) : MU m5_fillWithOnes d shX [rv 1] I F (fun I' F' => I' = I ∧ F' = of2 F (I 1 1) (I 1 0) 0) := by
  refine MS_of (ls := [lr 1, lu, lu]) f5_fillWithOnes rfl rfl (Nat.le_of_ble_eq_true rfl) ?_
  refine w_const i5_fillWithOnes_0 ?_
  refine w_is1 i5_fillWithOnes_1 ?_
  refine l5_fill2 (x := lu) (F := F) hd hn hr ?_ (I 1 0).toNat 0 _ _ (by omega) (by funext b j; simp only [of2]; rw [if_neg (by omega)])
  intro x
  refine w_vret i5_fillWithOnes_39 rfl ⟨Nat.le_refl _, Nat.le_refl _⟩ ?_
  exact ⟨rfl, rfl, rfl, rfl⟩
end
section
theorem bv_nat {n : Nat} (h : n < 2147483648) : (Int32.ofInt (n : Int)).toBitVec.toNat = n := by
  rw [Int32.toBitVec_ofInt, BitVec.toNat_ofInt]
  omega
theorem int_of_bv {x : Int32} (h : x.toBitVec.toNat < 2147483648) : x.toInt = (x.toBitVec.toNat : Int) := by
  show x.toBitVec.toInt = _
  exact BitVec.toInt_eq_toNat_of_lt (by omega)
theorem bandI_nat {a b : Nat} (ha : a < 2147483648) (hb : b < 2147483648) : bandI a b = ((a &&& b : Nat) : Int) := by
  have e : (Int32.ofInt (a : Int) &&& Int32.ofInt (b : Int)).toBitVec.toNat = a &&& b := by
    show ((Int32.ofInt (a : Int)).toBitVec &&& (Int32.ofInt (b : Int)).toBitVec).toNat = _
    rw [BitVec.toNat_and, bv_nat ha, bv_nat hb]
  unfold bandI
  rw [int_of_bv (by rw [e]; exact Nat.lt_of_le_of_lt Nat.and_le_left ha), e]
theorem borI_nat {a b : Nat} (ha : a < 2147483648) (hb : b < 2147483648) : borI a b = ((a ||| b : Nat) : Int) := by
  have e : (Int32.ofInt (a : Int) ||| Int32.ofInt (b : Int)).toBitVec.toNat = a ||| b := by
    show ((Int32.ofInt (a : Int)).toBitVec ||| (Int32.ofInt (b : Int)).toBitVec).toNat = _
    rw [BitVec.toNat_or, bv_nat ha, bv_nat hb]
  unfold borI
  rw [int_of_bv (by rw [e]; exact Nat.or_lt_two_pow (n := 31) ha hb), e]
/-- a and not b -/
theorem bandn_nat {a b : Nat} (ha : a < 2147483648) (hb : b < 2147483648) : ∃ r : Nat, bandI a (bxorI b (-1)) = (r : Int) ∧ r ≤ a ∧ ∀ k, k < 31 → r.testBit k = (a.testBit k && !b.testBit k) := by
  have e : (Int32.ofInt (a : Int) &&& Int32.ofInt (bxorI b (-1))).toBitVec = (Int32.ofInt (a : Int)).toBitVec &&& ~~~(Int32.ofInt (b : Int)).toBitVec := by
    unfold bxorI
    rw [Int32.ofInt_toInt]
    show (Int32.ofInt (a : Int)).toBitVec &&& ((Int32.ofInt (b : Int)).toBitVec ^^^ (Int32.ofInt (-1)).toBitVec) = _
    rw [show (Int32.ofInt (-1)).toBitVec = BitVec.allOnes 32 by decide, BitVec.xor_allOnes]
  have h1 : (Int32.ofInt (a : Int) &&& Int32.ofInt (bxorI b (-1))).toBitVec.toNat ≤ a := by
    rw [e, BitVec.toNat_and, bv_nat ha]
    exact Nat.and_le_left
  refine ⟨(Int32.ofInt (a : Int) &&& Int32.ofInt (bxorI b (-1))).toBitVec.toNat, ?_, h1, fun k hk => ?_⟩
  · unfold bandI
    rw [int_of_bv (by omega)]
  · rw [e, BitVec.toNat_and, Nat.testBit_and, bv_nat ha]
    congr 1
    rw [BitVec.testBit_toNat, BitVec.getLsbD_not, ← BitVec.testBit_toNat, bv_nat hb]
    simp
    omega
theorem sh_amt : ∀ k : Fin 31, ((Int32.ofInt (k.val : Int) &&& 31).toBitVec.smod 32).toNat = k.val := by decide +kernel
theorem shlI_eq {x : Int} {k : Nat} (h0 : 0 ≤ x) (hk : k < 31) (h : x * 2 ^ k < 2147483648) : shlI x k = x * 2 ^ k := by
  obtain ⟨n, rfl⟩ : ∃ n : Nat, x = (n : Int) := ⟨x.toNat, by omega⟩
  have hpe : ((n * 2 ^ k : Nat) : Int) = (n : Int) * 2 ^ k := by push_cast; rfl
  have hp : n * 2 ^ k < 2147483648 := by omega
  have hn : n < 2147483648 := Nat.lt_of_le_of_lt (Nat.le_mul_of_pos_right n (Nat.two_pow_pos k)) hp
  have e : (Int32.ofInt (n : Int) <<< (Int32.ofInt (k : Int) &&& 31)).toBitVec.toNat = n * 2 ^ k := by
    show ((Int32.ofInt (n : Int)).toBitVec <<< (Int32.ofInt (k : Int) &&& 31).toBitVec.smod 32).toNat = _
    rw [BitVec.shiftLeft_eq', sh_amt ⟨k, hk⟩, BitVec.toNat_shiftLeft, bv_nat hn, Nat.shiftLeft_eq]
    show n * 2 ^ k % 2 ^ 32 = _
    exact Nat.mod_eq_of_lt (by omega)
  unfold shlI
  rw [int_of_bv (by rw [e]; exact hp), e]
  push_cast
  rfl
theorem shrI_eq {x : Int} {k : Nat} (hx : inR x) (hk : k < 31) : shrI x k = x / 2 ^ k := by
  unfold shrI
  show ((Int32.ofInt x).toBitVec.sshiftRight' ((Int32.ofInt (k : Int) &&& 31).toBitVec.smod 32)).toInt = _
  rw [BitVec.toInt_sshiftRight', sh_amt ⟨k, hk⟩]
  show (Int32.ofInt x).toInt >>> k = _
  rw [oi_toInt hx, Int.shiftRight_eq_div_pow]
  push_cast
  rfl
/-- bit k of x -/
def bt (x : Int) (k : Nat) : Int := x / 2 ^ k % 2
theorem bt_nat (n k : Nat) : bt n k = if n.testBit k then 1 else 0 := by
  rw [Nat.testBit_eq_decide_div_mod_eq]
  unfold bt
  have e : (n : Int) / 2 ^ k % 2 = ((n / 2 ^ k % 2 : Nat) : Int) := by push_cast; rfl
  rw [e]
  have := Nat.mod_lt (n / 2 ^ k) (show 0 < 2 by decide)
  by_cases h : n / 2 ^ k % 2 = 1
  · rw [h]; simp
  · rw [show n / 2 ^ k % 2 = 0 by omega]; simp
theorem bt_01 (x : Int) (k : Nat) : bt x k = 0 ∨ bt x k = 1 := by unfold bt; omega
theorem band1 {x : Int} (h : 0 ≤ x) (h2 : x < 2147483648) : bandI x 1 = x % 2 := by
  obtain ⟨n, rfl⟩ : ∃ n : Nat, x = (n : Int) := ⟨x.toNat, by omega⟩
  have := bandI_nat (a := n) (b := 1) (by omega) (by decide)
  rw [Nat.and_one_is_mod] at this
  rw [show bandI (n : Int) 1 = bandI (n : Int) ((1 : Nat) : Int) from rfl, this]
  push_cast
  rfl
def bsum (x : Int) : Nat → Int
  | 0 => 0
  | k + 1 => bsum x k + bt x k
def tf (P : Prop) (v : Int) : Prop := v = 1 ∧ P ∨ v = 0 ∧ ¬ P
theorem s5_isOn {d : Nat} {I : IE} {F : FE} {e : Nat} (he : e < 16) (ha : 0 ≤ I 1 5 ∧ I 1 5 < 65536) : MP m5_isOn d shX [rv 1, iv e] I F (tf (bt (I 1 5) e = 1)) := by
  have e1 : shrI (I 1 5) e = I 1 5 / 2 ^ e := shrI_eq ⟨by omega, by omega⟩ (by omega)
  have h0 : 0 ≤ I 1 5 / 2 ^ e := Int.ediv_nonneg ha.1 (Int.le_of_lt (Int.pow_pos (by decide)))
  have h1 : I 1 5 / 2 ^ e ≤ I 1 5 := Int.ediv_le_self _ ha.1
  have e2 : bandI (shrI (I 1 5) e) 1 = bt (I 1 5) e := by rw [e1, band1 h0 (by omega)]; rfl
  refine MS_of (ls := [lr 1, li e]) f5_isOn rfl rfl (Nat.le_of_ble_eq_true rfl) ?_
  refine w_aload i5_isOn_0 rfl ?_
  refine w_get i5_isOn_1 rfl rfl ?_
  refine w_iload i5_isOn_4 rfl ?_
  refine w_ishr i5_isOn_5 ?_
  refine w_const i5_isOn_6 ?_
  refine w_iand i5_isOn_7 ?_
  rw [e2]
  refine w_const i5_isOn_8 ?_
  refine w_icmpne i5_isOn_9 (fun h9 => ?_) (fun h9 => ?_)
  · refine w_const i5_isOn_16 ?_
    refine w_iret i5_isOn_17 (Or.inr ⟨rfl, by omega⟩) ⟨Nat.le_refl _, Nat.le_refl _⟩ ?_
    first
    | exact ⟨rfl, _, rfl, Or.inl ⟨rfl, h9⟩, rfl, rfl⟩
    | exact ⟨rfl, _, rfl, Or.inr ⟨rfl, h9⟩, rfl, rfl⟩
  · refine w_const i5_isOn_12 ?_
    refine w_goto i5_isOn_13 ?_
    refine w_iret i5_isOn_17 (Or.inr ⟨rfl, by omega⟩) ⟨Nat.le_refl _, Nat.le_refl _⟩ ?_
    first
    | exact ⟨rfl, _, rfl, Or.inl ⟨rfl, h9⟩, rfl, rfl⟩
    | exact ⟨rfl, _, rfl, Or.inr ⟨rfl, h9⟩, rfl, rfl⟩
theorem shl1 {e : Nat} (he : e < 16) : shlI 1 e = ((2 ^ e : Nat) : Int) := by
  rw [shlI_eq (by decide) (by omega)]
  · push_cast; omega
  · have : (2 : Int) ^ e ≤ 2 ^ 15 := by exact_mod_cast Nat.pow_le_pow_right (n := 2) (by decide) (show e ≤ 15 by omega)
    omega
theorem s5_switchTo {d : Nat} {I : IE} {F : FE} {e : Nat} {on : Int} (he : e < 16) (hon : on = 0 ∨ on = 1) (ha : 0 ≤ I 1 5 ∧ I 1 5 < 65536) :
    MU m5_switchTo d shX [rv 1, iv e, iv on] I F (fun I' F' => F' = F ∧ ∃ x, I' = upI I 1 5 x ∧ 0 ≤ x ∧ x < 65536 ∧ ∀ k, k < 16 → bt x k = if k = e then on else bt (I 1 5) k) := by
  obtain ⟨n, hn⟩ : ∃ n : Nat, I 1 5 = (n : Int) := ⟨(I 1 5).toNat, by omega⟩
  have hp : 2 ^ e < 65536 := Nat.pow_lt_pow_right (by decide) he
  refine MS_of (ls := [lr 1, li e, li on, lu]) f5_switchTo rfl rfl (Nat.le_of_ble_eq_true rfl) ?_
  refine w_const i5_switchTo_0 ?_
  refine w_iload i5_switchTo_1 rfl ?_
  refine w_ishl i5_switchTo_2 ?_
  rw [shl1 he]
  refine w_is3 i5_switchTo_3 ?_
  refine w_aload i5_switchTo_4 rfl ?_
  refine w_iload i5_switchTo_5 rfl ?_
  refine w_ifeq i5_switchTo_6 (fun h6 => ?_) (fun h6 => ?_)
  · refine w_aload i5_switchTo_18 rfl ?_
    refine w_get i5_switchTo_19 rfl rfl ?_
    rw [hn]
    refine w_iload i5_switchTo_22 rfl ?_
    refine w_const i5_switchTo_23 ?_
    refine w_ixor i5_switchTo_24 ?_
    refine w_iand i5_switchTo_25 ?_
    refine w_put i5_switchTo_26 rfl rfl (Or.inl rfl) ?_
    refine w_vret i5_switchTo_29 rfl ⟨Nat.le_refl _, Nat.le_refl _⟩ ?_
    first
    | (rw [borI_nat (by omega) (by omega)]
       have h16 : n ||| 2 ^ e < 2 ^ 16 := Nat.or_lt_two_pow (by omega) hp
       refine ⟨rfl, rfl, rfl, _, rfl, by omega, by omega, fun k hk => ?_⟩
       rw [bt_nat, bt_nat, Nat.testBit_or, Nat.testBit_two_pow]
       have : on = 1 := by omega
       subst this
       by_cases hke : k = e
       · rw [if_pos hke]; simp [hke]
       · rw [if_neg hke]; simp [Ne.symm hke])
    | (obtain ⟨r, hr, hle, hb⟩ := bandn_nat (a := n) (b := 2 ^ e) (by omega) (by omega)
       rw [hr]
       refine ⟨rfl, rfl, rfl, _, rfl, by omega, by omega, fun k hk => ?_⟩
       rw [bt_nat, bt_nat, hb k (by omega), Nat.testBit_two_pow]
       have : on = 0 := by omega
       subst this
       by_cases hke : k = e
       · rw [if_pos hke]; simp [hke]
       · rw [if_neg hke]; simp [Ne.symm hke])
  · refine w_aload i5_switchTo_9 rfl ?_
    refine w_get i5_switchTo_10 rfl rfl ?_
    rw [hn]
    refine w_iload i5_switchTo_13 rfl ?_
    refine w_ior i5_switchTo_14 ?_
    refine w_goto i5_switchTo_15 ?_
    refine w_put i5_switchTo_26 rfl rfl (Or.inl rfl) ?_
    refine w_vret i5_switchTo_29 rfl ⟨Nat.le_refl _, Nat.le_refl _⟩ ?_
    first
    | (rw [borI_nat (by omega) (by omega)]
       have h16 : n ||| 2 ^ e < 2 ^ 16 := Nat.or_lt_two_pow (by omega) hp
       refine ⟨rfl, rfl, rfl, _, rfl, by omega, by omega, fun k hk => ?_⟩
       rw [bt_nat, bt_nat, Nat.testBit_or, Nat.testBit_two_pow]
       have : on = 1 := by omega
       subst this
       by_cases hke : k = e
       · rw [if_pos hke]; simp [hke]
       · rw [if_neg hke]; simp [Ne.symm hke])
    | (obtain ⟨r, hr, hle, hb⟩ := bandn_nat (a := n) (b := 2 ^ e) (by omega) (by omega)
       rw [hr]
       refine ⟨rfl, rfl, rfl, _, rfl, by omega, by omega, fun k hk => ?_⟩
       rw [bt_nat, bt_nat, hb k (by omega), Nat.testBit_two_pow]
       have : on = 0 := by omega
       subst this
       by_cases hke : k = e
       · rw [if_pos hke]; simp [hke]
       · rw [if_neg hke]; simp [Ne.symm hke])
theorem s5_switchAllOn {d : Nat} {I : IE} {F : FE} {e : Nat} (he : e ≤ 16) :
    MU m5_switchAllOn d shX [rv 1, iv e] I F (fun I' F' => F' = F ∧ ∃ x, I' = upI I 1 5 x ∧ 0 ≤ x ∧ x < 65536 ∧ ∀ k, k < 16 → bt x k = if k < e then 1 else 0) := by
  have hp : 2 ^ e ≤ 2 ^ 16 := Nat.pow_le_pow_right (by decide) he
  have hp1 : 1 ≤ 2 ^ e := Nat.one_le_two_pow
  have e1 : shlI 1 e = ((2 ^ e : Nat) : Int) := by
    rw [shlI_eq (by decide) (by omega)]
    · push_cast; omega
    · have : (2 : Int) ^ e ≤ 2 ^ 16 := by exact_mod_cast hp
      omega
  have e2 : ((2 ^ e : Nat) : Int) - 1 = ((2 ^ e - 1 : Nat) : Int) := by omega
  refine MS_of (ls := [lr 1, li e]) f5_switchAllOn rfl rfl (Nat.le_of_ble_eq_true rfl) ?_
  refine w_aload i5_switchAllOn_0 rfl ?_
  refine w_const i5_switchAllOn_1 ?_
  refine w_iload i5_switchAllOn_2 rfl ?_
  refine w_ishl i5_switchAllOn_3 ?_
  rw [e1]
  refine w_const i5_switchAllOn_4 ?_
  refine w_isub i5_switchAllOn_5 (by omega) ?_
  rw [e2]
  refine w_put i5_switchAllOn_6 rfl rfl (Or.inl rfl) ?_
  refine w_vret i5_switchAllOn_9 rfl ⟨Nat.le_refl _, Nat.le_refl _⟩ ?_
  refine ⟨rfl, rfl, rfl, _, rfl, by omega, by omega, fun k hk => ?_⟩
  rw [bt_nat, Nat.testBit_two_pow_sub_one]
  simp
end
section
/-- entries out of the digits (place p), cells ahead of (r, c) -/
def ff2 (F : FE) (p : Nat) (n r c : Int) : FE := fun b j => if b = 2 ∧ 0 ≤ j ∧ j < 8 ∧ j % 4 < n ∧ (j / 4 < r ∨ j / 4 = r ∧ j % 4 < c) then F p j else F b j
theorem l5_ff1 {d n0 : Nat} {Q : PQ} {I : IE} {F : FE} {r : Int} (hd : 1 ≤ d) (hn : 0 ≤ I 1 1 ∧ I 1 1 ≤ 4) (hr : 0 ≤ r ∧ r ≤ 1)
    (K : WS m5_fillFrom d 0 0 n0 Q 0 0 39 [lr 1, lr 40, li r, li (I 1 1)] [] shX I (ff2 F 40 (I 1 1) r (I 1 1))) :
    ∀ (m k : Nat) (F' : FE), (k + m : Int) = I 1 1 → F' = ff2 F 40 (I 1 1) r k → WS m5_fillFrom d 0 0 n0 Q 0 0 12 [lr 1, lr 40, li r, li k] [] shX I F' := by
  intro m
  induction m with
  | zero =>
    intro k F' hk hF
    have e : (k : Int) = I 1 1 := by omega
    subst hF
    rw [e]
    refine w_iload i5_fillFrom_12 rfl ?_
    refine w_aload i5_fillFrom_13 rfl ?_
    refine w_get i5_fillFrom_14 rfl rfl ?_
    refine w_icmpge i5_fillFrom_17 (fun h17 => ?_) (fun h_ => absurd h_ (by omega))
    exact K
  | succ m ih =>
    intro k F' hk hF
    subst hF
    refine w_iload i5_fillFrom_12 rfl ?_
    refine w_aload i5_fillFrom_13 rfl ?_
    refine w_get i5_fillFrom_14 rfl rfl ?_
    refine w_icmpge i5_fillFrom_17 (fun h_ => absurd h_ (by omega)) (fun h17 => ?_)
    refine w_aload i5_fillFrom_20 rfl ?_
    refine w_iload i5_fillFrom_21 rfl ?_
    refine w_iload i5_fillFrom_22 rfl ?_
    refine w_aload i5_fillFrom_23 rfl ?_
    refine w_iload i5_fillFrom_24 rfl ?_
    refine w_const i5_fillFrom_25 ?_
    refine w_imul i5_fillFrom_26 (by omega) ?_
    refine w_iload i5_fillFrom_27 rfl ?_
    refine w_iadd i5_fillFrom_28 (by omega) ?_
    refine w_iald i5_fillFrom_29 rfl (by omega) ?_
    refine w_cVU i5_fillFrom_30 f5_put v5_put (s5_put hr (by omega)) rfl rfl (by decide) rfl rfl (Nat.le_of_ble_eq_true rfl) (by omega) (fun I' F' hq => ?_)
    obtain ⟨rfl, rfl⟩ := hq
    refine w_ii3 i5_fillFrom_33 (by omega) ?_
    refine w_goto i5_fillFrom_36 ?_
    refine ih (k + 1) _ (by omega) ?_
    funext b j
    simp only [upF, ff2]
    have e : ¬ ((40 : Nat) = 2) := by decide
    simp only [e, false_and, if_false]
    by_cases hj : b = 2 ∧ j = r * 4 + k
    · obtain ⟨rfl, rfl⟩ := hj
      rw [if_pos ⟨rfl, rfl⟩, if_pos (by omega)]
    · rw [if_neg hj]
      (repeat' split) <;> first | rfl | omega
theorem l5_ff2 {d n0 : Nat} {Q : PQ} {I : IE} {F : FE} (hd : 1 ≤ d) (hn : 0 ≤ I 1 1 ∧ I 1 1 ≤ 4) (hr : 0 ≤ I 1 0 ∧ I 1 0 ≤ 2)
    (K : ∀ x, WS m5_fillFrom d 0 0 n0 Q 0 0 45 [lr 1, lr 40, li (I 1 0), x] [] shX I (ff2 F 40 (I 1 1) (I 1 0) 0)) :
    ∀ (m k : Nat) (F' : FE) (x : Option AV), (k + m : Int) = I 1 0 → F' = ff2 F 40 (I 1 1) k 0 → WS m5_fillFrom d 0 0 n0 Q 0 0 2 [lr 1, lr 40, li k, x] [] shX I F' := by
  intro m
  induction m with
  | zero =>
    intro k F' x hk hF
    have e : (k : Int) = I 1 0 := by omega
    subst hF
    rw [e]
    refine w_iload i5_fillFrom_2 rfl ?_
    refine w_aload i5_fillFrom_3 rfl ?_
    refine w_get i5_fillFrom_4 rfl rfl ?_
    refine w_icmpge i5_fillFrom_7 (fun h7 => ?_) (fun h_ => absurd h_ (by omega))
    exact K x
  | succ m ih =>
    intro k F' x hk hF
    subst hF
    refine w_iload i5_fillFrom_2 rfl ?_
    refine w_aload i5_fillFrom_3 rfl ?_
    refine w_get i5_fillFrom_4 rfl rfl ?_
    refine w_icmpge i5_fillFrom_7 (fun h_ => absurd h_ (by omega)) (fun h7 => ?_)
    refine w_const i5_fillFrom_10 ?_
    refine w_is3 i5_fillFrom_11 ?_
    refine l5_ff1 (F := F) (r := k) hd hn (by omega) ?_ (I 1 1).toNat 0 _ (by omega) rfl
    refine w_ii2 i5_fillFrom_39 (by omega) ?_
    refine w_goto i5_fillFrom_42 ?_
    refine ih (k + 1) _ _ (by omega) ?_
    funext b j
    simp only [ff2]
    (repeat' split) <;> first | rfl | omega
theorem s5_fillFrom {d : Nat} {I : IE} {F : FE} (hd : 1 ≤ d) (hn : 0 ≤ I 1 1 ∧ I 1 1 ≤ 4) (hr : 0 ≤ I 1 0 ∧ I 1 0 ≤ 2) : MU m5_fillFrom d shX [rv 1, rv 40] I F (fun I' F' => I' = I ∧ F' = ff2 F 40 (I 1 1) (I 1 0) 0) := by
  refine MS_of (ls := [lr 1, lr 40, lu, lu]) f5_fillFrom rfl rfl (Nat.le_of_ble_eq_true rfl) ?_
  refine w_const i5_fillFrom_0 ?_
  refine w_is2 i5_fillFrom_1 ?_
  refine l5_ff2 (F := F) hd hn hr ?_ (I 1 0).toNat 0 _ _ (by omega) (by funext b j; simp only [ff2]; rw [if_neg (by omega)])
  intro x
  refine w_vret i5_fillFrom_45 rfl ⟨Nat.le_refl _, Nat.le_refl _⟩ ?_
  exact ⟨rfl, rfl, rfl, rfl⟩
/-- no column of zeros among the first n -/
def Pos (M : Int → Int) (n : Int) : Prop := ∀ j, 0 ≤ j ∧ j < n → ¬ (M j = 0 ∧ M (4 + j) = 0)
theorem l5_hnz {d n0 : Nat} {Q : PQ} {I : IE} {F : FE} (hd : 1 ≤ d) (hn : 0 ≤ I 1 1 ∧ I 1 1 ≤ 4)
    (K1 : Pos (F 2) (I 1 1) → WS m5_hasNoZeroColumn d 0 0 n0 Q 0 0 36 [lr 1, li (I 1 1)] [] shX I F) (K0 : ∀ x, ¬ Pos (F 2) (I 1 1) → WS m5_hasNoZeroColumn d 0 0 n0 Q 0 0 28 [lr 1, x] [] shX I F) :
    ∀ (m k : Nat), (k + m : Int) = I 1 1 → Pos (F 2) k → WS m5_hasNoZeroColumn d 0 0 n0 Q 0 0 2 [lr 1, li k] [] shX I F := by
  intro m
  induction m with
  | zero =>
    intro k hk hP
    have e : (k : Int) = I 1 1 := by omega
    rw [e] at hP ⊢
    refine w_iload i5_hasNoZeroColumn_2 rfl ?_
    refine w_aload i5_hasNoZeroColumn_3 rfl ?_
    refine w_get i5_hasNoZeroColumn_4 rfl rfl ?_
    refine w_icmpge i5_hasNoZeroColumn_7 (fun h7 => ?_) (fun h_ => absurd h_ (by omega))
    exact K1 hP
  | succ m ih =>
    intro k hk hP
    have e0 : (0 : Int) * 4 + k = k := by omega
    have e1 : (1 : Int) * 4 + k = 4 + k := by omega
    have step : ¬ (F 2 k = 0 ∧ F 2 (4 + k) = 0) → Pos (F 2) ((k + 1 : Nat) : Int) := fun h j hj => by
      by_cases hjk : j = k
      · subst hjk; exact h
      · exact hP j (by omega)
    refine w_iload i5_hasNoZeroColumn_2 rfl ?_
    refine w_aload i5_hasNoZeroColumn_3 rfl ?_
    refine w_get i5_hasNoZeroColumn_4 rfl rfl ?_
    refine w_icmpge i5_hasNoZeroColumn_7 (fun h_ => absurd h_ (by omega)) (fun h7 => ?_)
    refine w_aload i5_hasNoZeroColumn_10 rfl ?_
    refine w_const i5_hasNoZeroColumn_11 ?_
    refine w_iload i5_hasNoZeroColumn_12 rfl ?_
    refine w_cVR i5_hasNoZeroColumn_13 f5_at v5_at (s5_at (by omega) (by omega)) rfl rfl (by decide) rfl rfl (Nat.le_of_ble_eq_true rfl) (by omega) ?_
    rw [e0]
    refine w_ifne i5_hasNoZeroColumn_16 (fun h16 => ?_) (fun h16 => ?_)
    · refine w_ii1 i5_hasNoZeroColumn_30 (by omega) ?_
      refine w_goto i5_hasNoZeroColumn_33 ?_
      exact ih (k + 1) (by omega) (step (by omega))
    · refine w_aload i5_hasNoZeroColumn_19 rfl ?_
      refine w_const i5_hasNoZeroColumn_20 ?_
      refine w_iload i5_hasNoZeroColumn_21 rfl ?_
      refine w_cVR i5_hasNoZeroColumn_22 f5_at v5_at (s5_at (by omega) (by omega)) rfl rfl (by decide) rfl rfl (Nat.le_of_ble_eq_true rfl) (by omega) ?_
      rw [e1]
      refine w_ifne i5_hasNoZeroColumn_25 (fun h25 => ?_) (fun h25 => ?_)
      · refine w_ii1 i5_hasNoZeroColumn_30 (by omega) ?_
        refine w_goto i5_hasNoZeroColumn_33 ?_
        exact ih (k + 1) (by omega) (step (by omega))
      · exact K0 _ (fun h => h k (by omega) ⟨h16, h25⟩)
theorem s5_hasNoZeroColumn {d : Nat} {I : IE} {F : FE} (hd : 1 ≤ d) (hn : 0 ≤ I 1 1 ∧ I 1 1 ≤ 4) : MP m5_hasNoZeroColumn d shX [rv 1] I F (tf (Pos (F 2) (I 1 1))) := by
  refine MS_of (ls := [lr 1, lu]) f5_hasNoZeroColumn rfl rfl (Nat.le_of_ble_eq_true rfl) ?_
  refine w_const i5_hasNoZeroColumn_0 ?_
  refine w_is1 i5_hasNoZeroColumn_1 ?_
  refine l5_hnz hd hn (fun h => ?_) (fun x h => ?_) (I 1 1).toNat 0 (by omega) (fun j hj => absurd hj (by omega))
  · refine w_const i5_hasNoZeroColumn_36 ?_
    refine w_iret i5_hasNoZeroColumn_37 (Or.inr ⟨rfl, by omega⟩) ⟨Nat.le_refl _, Nat.le_refl _⟩ ?_
    exact ⟨rfl, _, rfl, Or.inl ⟨rfl, h⟩, rfl, rfl⟩
  · refine w_const i5_hasNoZeroColumn_28 ?_
    refine w_iret i5_hasNoZeroColumn_29 (Or.inr ⟨rfl, by omega⟩) ⟨Nat.le_refl _, Nat.le_refl _⟩ ?_
    exact ⟨rfl, _, rfl, Or.inr ⟨rfl, h⟩, rfl, rfl⟩
theorem s5_hasVectorInKernel {d : Nat} {I : IE} {F : FE} (hd : 2 ≤ d) (hn : 0 ≤ I 1 1 ∧ I 1 1 ≤ 4) (hM : ∀ j, 0 ≤ F 2 j ∧ F 2 j ≤ 3) (hv : ∀ j, 0 ≤ j ∧ j < I 1 1 → -1000 ≤ F 3 j ∧ F 3 j ≤ 1000) :
    MP m5_hasVectorInKernel d shX [rv 1] I F (tf (dt (F 2) (F 3) 0 (I 1 1).toNat = 0 ∧ dt (F 2) (F 3) 1 (I 1 1).toNat = 0)) := by
  refine MS_of (ls := [lr 1]) f5_hasVectorInKernel rfl rfl (Nat.le_of_ble_eq_true rfl) ?_
  refine w_aload i5_hasVectorInKernel_0 rfl ?_
  refine w_const i5_hasVectorInKernel_1 ?_
  refine w_aload i5_hasVectorInKernel_2 rfl ?_
  refine w_getr i5_hasVectorInKernel_3 rfl rfl ?_
  refine w_cVR i5_hasVectorInKernel_6 f5_product v5_product (s5_product (N := 4) (by omega) (by omega) hn hM rfl (by omega) hv) rfl rfl (by decide) rfl rfl (Nat.le_of_ble_eq_true rfl) (by omega) ?_
  refine w_ifne i5_hasVectorInKernel_9 (fun h9 => ?_) (fun h9 => ?_)
  · refine w_const i5_hasVectorInKernel_28 ?_
    refine w_iret i5_hasVectorInKernel_29 (Or.inr ⟨rfl, by omega⟩) ⟨Nat.le_refl _, Nat.le_refl _⟩ ?_
    first
    | exact ⟨rfl, _, rfl, Or.inl ⟨rfl, h9, h21⟩, rfl, rfl⟩
    | exact ⟨rfl, _, rfl, Or.inr ⟨rfl, fun h => h9 h.1⟩, rfl, rfl⟩
    | exact ⟨rfl, _, rfl, Or.inr ⟨rfl, fun h => h21 h.2⟩, rfl, rfl⟩
  · refine w_aload i5_hasVectorInKernel_12 rfl ?_
    refine w_const i5_hasVectorInKernel_13 ?_
    refine w_aload i5_hasVectorInKernel_14 rfl ?_
    refine w_getr i5_hasVectorInKernel_15 rfl rfl ?_
    refine w_cVR i5_hasVectorInKernel_18 f5_product v5_product (s5_product (N := 4) (by omega) (by omega) hn hM rfl (by omega) hv) rfl rfl (by decide) rfl rfl (Nat.le_of_ble_eq_true rfl) (by omega) ?_
    refine w_ifne i5_hasVectorInKernel_21 (fun h21 => ?_) (fun h21 => ?_)
    · refine w_const i5_hasVectorInKernel_28 ?_
      refine w_iret i5_hasVectorInKernel_29 (Or.inr ⟨rfl, by omega⟩) ⟨Nat.le_refl _, Nat.le_refl _⟩ ?_
      first
      | exact ⟨rfl, _, rfl, Or.inl ⟨rfl, h9, h21⟩, rfl, rfl⟩
      | exact ⟨rfl, _, rfl, Or.inr ⟨rfl, fun h => h9 h.1⟩, rfl, rfl⟩
      | exact ⟨rfl, _, rfl, Or.inr ⟨rfl, fun h => h21 h.2⟩, rfl, rfl⟩
    · refine w_const i5_hasVectorInKernel_24 ?_
      refine w_goto i5_hasVectorInKernel_25 ?_
      refine w_iret i5_hasVectorInKernel_29 (Or.inr ⟨rfl, by omega⟩) ⟨Nat.le_refl _, Nat.le_refl _⟩ ?_
      first
      | exact ⟨rfl, _, rfl, Or.inl ⟨rfl, h9, h21⟩, rfl, rfl⟩
      | exact ⟨rfl, _, rfl, Or.inr ⟨rfl, fun h => h9 h.1⟩, rfl, rfl⟩
      | exact ⟨rfl, _, rfl, Or.inr ⟨rfl, fun h => h21 h.2⟩, rfl, rfl⟩
/-- a State object stands at the place a, with its rows behind it -/
def StAt (a : Nat) : Prop := shX[a]? = some (.inr (5, [none, none, some (some (a + 1)), some (some (a + 2)), some (some (a + 3)), none])) ∧ shX[a + 1]? = some (.inl 8) ∧ shX[a + 2]? = some (.inl 4) ∧ shX[a + 3]? = some (.inl 4)
theorem st1 : StAt 1 := ⟨rfl, rfl, rfl, rfl⟩
theorem stj : ∀ j : Nat, j < 8 → StAt (7 + 4 * j)
  | 0, _ => ⟨rfl, rfl, rfl, rfl⟩
  | 1, _ => ⟨rfl, rfl, rfl, rfl⟩
  | 2, _ => ⟨rfl, rfl, rfl, rfl⟩
  | 3, _ => ⟨rfl, rfl, rfl, rfl⟩
  | 4, _ => ⟨rfl, rfl, rfl, rfl⟩
  | 5, _ => ⟨rfl, rfl, rfl, rfl⟩
  | 6, _ => ⟨rfl, rfl, rfl, rfl⟩
  | 7, _ => ⟨rfl, rfl, rfl, rfl⟩
  | n + 8, h => absurd h (by omega)
theorem s5_copyFrom {d : Nat} {I : IE} {F : FE} {a b : Nat} (hd : 1 ≤ d) (ha : StAt a) (hb : StAt b) (hab : a + 4 ≤ b ∨ b + 4 ≤ a) : MU m5_copyFrom d shX [rv a, rv b] I F (fun I' F' =>
    I' = upI (upI (upI I a 0 (I b 0)) a 1 (I b 1)) a 5 (I b 5) ∧ F' = cpF (cpF (cpF F (b + 1) 0 (a + 1) 0 8) (b + 2) 0 (a + 2) 0 4) (b + 3) 0 (a + 3) 0 4) := by
  have hba : ¬ b = a := by omega
  have e1 : upI I a 0 (I b 0) b 1 = I b 1 := by simp [upI, hba]
  have e2 : upI (upI I a 0 (I b 0)) a 1 (I b 1) b 5 = I b 5 := by simp [upI, hba]
  refine MS_of (ls := [lr a, lr b]) f5_copyFrom rfl rfl (Nat.le_of_ble_eq_true rfl) ?_
  refine w_aload i5_copyFrom_0 rfl ?_
  refine w_aload i5_copyFrom_1 rfl ?_
  refine w_get i5_copyFrom_2 hb.1 rfl ?_
  refine w_put i5_copyFrom_5 ha.1 rfl (Or.inl rfl) ?_
  refine w_aload i5_copyFrom_8 rfl ?_
  refine w_aload i5_copyFrom_9 rfl ?_
  refine w_get i5_copyFrom_10 hb.1 rfl ?_
  rw [e1]
  refine w_put i5_copyFrom_13 ha.1 rfl (Or.inl rfl) ?_
  refine w_aload i5_copyFrom_16 rfl ?_
  refine w_aload i5_copyFrom_17 rfl ?_
  refine w_get i5_copyFrom_18 hb.1 rfl ?_
  rw [e2]
  refine w_put i5_copyFrom_21 ha.1 rfl (Or.inl rfl) ?_
  refine w_aload i5_copyFrom_24 rfl ?_
  refine w_getr i5_copyFrom_25 hb.1 rfl ?_
  refine w_const i5_copyFrom_28 ?_
  refine w_aload i5_copyFrom_29 rfl ?_
  refine w_getr i5_copyFrom_30 ha.1 rfl ?_
  refine w_const i5_copyFrom_33 ?_
  refine w_aload i5_copyFrom_34 rfl ?_
  refine w_getr i5_copyFrom_35 ha.1 rfl ?_
  refine w_alen i5_copyFrom_38 ha.2.1 (by decide) ?_
  refine w_copy i5_copyFrom_39 hb.2.1 ha.2.1 (by omega) (by omega) (by omega) (Nat.le_of_ble_eq_true rfl) ?_
  refine w_aload i5_copyFrom_42 rfl ?_
  refine w_getr i5_copyFrom_43 hb.1 rfl ?_
  refine w_const i5_copyFrom_46 ?_
  refine w_aload i5_copyFrom_47 rfl ?_
  refine w_getr i5_copyFrom_48 ha.1 rfl ?_
  refine w_const i5_copyFrom_51 ?_
  refine w_aload i5_copyFrom_52 rfl ?_
  refine w_getr i5_copyFrom_53 ha.1 rfl ?_
  refine w_alen i5_copyFrom_56 ha.2.2.1 (by decide) ?_
  refine w_copy i5_copyFrom_57 hb.2.2.1 ha.2.2.1 (by omega) (by omega) (by omega) (Nat.le_of_ble_eq_true rfl) ?_
  refine w_aload i5_copyFrom_60 rfl ?_
  refine w_getr i5_copyFrom_61 hb.1 rfl ?_
  refine w_const i5_copyFrom_64 ?_
  refine w_aload i5_copyFrom_65 rfl ?_
  refine w_getr i5_copyFrom_66 ha.1 rfl ?_
  refine w_const i5_copyFrom_69 ?_
  refine w_aload i5_copyFrom_70 rfl ?_
  refine w_getr i5_copyFrom_71 ha.1 rfl ?_
  refine w_alen i5_copyFrom_74 ha.2.2.2 (by decide) ?_
  refine w_copy i5_copyFrom_75 hb.2.2.2 ha.2.2.2 (by omega) (by omega) (by omega) (Nat.le_of_ble_eq_true rfl) ?_
  refine w_vret i5_copyFrom_78 rfl ⟨Nat.le_refl _, Nat.le_refl _⟩ ?_
  exact ⟨rfl, rfl, rfl, rfl⟩
theorem sl6 : ∀ j : Nat, j < 8 → ([some (some 7), some (some 11), some (some 15), some (some 19), some (some 23), some (some 27), some (some 31), some (some 35)] : List (Option (Option Nat)))[j]? = some (some (some (7 + 4 * j))) := by decide
theorem s3_save {d : Nat} {I : IE} {F : FE} (hd : 2 ≤ d) (hc : 0 ≤ I 5 0 ∧ I 5 0 ≤ 8) (ho : 0 ≤ I 5 1 ∧ I 5 1 < 8) : MU m3_save d shX [rv 5, rv 1] I F (fun I' F' =>
    ∃ (c o : Int) (j : Nat), (I 5 0 = 8 ∧ c = 7 ∧ o = (I 5 1 + 1) % 8 ∨ I 5 0 < 8 ∧ c = I 5 0 ∧ o = I 5 1) ∧ (j : Int) = (o + c) % 8 ∧ I' 5 0 = c + 1 ∧ I' 5 1 = o ∧ (∀ k, k = 0 ∨ k = 1 ∨ k = 5 → I' (7 + 4 * j) k = I 1 k) ∧ (∀ a k, a ≠ 5 → a ≠ 7 + 4 * j → I' a k = I a k) ∧
      (∀ i, 0 ≤ i ∧ i < 8 → F' (8 + 4 * j) i = F 2 i) ∧ (∀ i, 0 ≤ i ∧ i < 4 → F' (9 + 4 * j) i = F 3 i) ∧ (∀ i, 0 ≤ i ∧ i < 4 → F' (10 + 4 * j) i = F 4 i) ∧ (∀ a, a ≠ 8 + 4 * j → a ≠ 9 + 4 * j → a ≠ 10 + 4 * j → F' a = F a)) := by
  have mid : ∀ (I1 : IE) (c o : Int), (I 5 0 = 8 ∧ c = 7 ∧ o = (I 5 1 + 1) % 8 ∨ I 5 0 < 8 ∧ c = I 5 0 ∧ o = I 5 1) → I1 5 0 = c → I1 5 1 = o → (∀ a k, a ≠ 5 → I1 a k = I a k) → WS m3_save d 0 0 shX.length (fun r sh' I' F' => sh' = shX ∧ r = none ∧ (∃ (c o : Int) (j : Nat), (I 5 0 = 8 ∧ c = 7 ∧ o = (I 5 1 + 1) % 8 ∨ I 5 0 < 8 ∧ c = I 5 0 ∧ o = I 5 1) ∧ (j : Int) = (o + c) % 8 ∧ I' 5 0 = c + 1 ∧ I' 5 1 = o ∧ (∀ k, k = 0 ∨ k = 1 ∨ k = 5 → I' (7 + 4 * j) k = I 1 k) ∧ (∀ a k, a ≠ 5 → a ≠ 7 + 4 * j → I' a k = I a k) ∧
      (∀ i, 0 ≤ i ∧ i < 8 → F' (8 + 4 * j) i = F 2 i) ∧ (∀ i, 0 ≤ i ∧ i < 4 → F' (9 + 4 * j) i = F 3 i) ∧ (∀ i, 0 ≤ i ∧ i < 4 → F' (10 + 4 * j) i = F 4 i) ∧ (∀ a, a ≠ 8 + 4 * j → a ≠ 9 + 4 * j → a ≠ 10 + 4 * j → F' a = F a))) 0 0 32 [lr 5, lr 1] [] shX I1 F := by
    intro I1 c o hco h0 h1 hI1
    have hc8 : 0 ≤ c ∧ c ≤ 7 := by omega
    have ho8 : 0 ≤ o ∧ o < 8 := by omega
    obtain ⟨j, hj⟩ : ∃ j : Nat, (j : Int) = (o + c) % 8 := ⟨((o + c) % 8).toNat, by omega⟩
    have hj8 : j < 8 := by omega
    have et : (I1 5 1 + I1 5 0).tmod 8 = (j : Int) := by rw [h0, h1, Int.tmod_eq_emod_of_nonneg (by omega), hj]
    refine w_aload i3_save_32 rfl ?_
    refine w_getr i3_save_33 rfl rfl ?_
    refine w_aload i3_save_36 rfl ?_
    refine w_get i3_save_37 rfl rfl ?_
    refine w_aload i3_save_40 rfl ?_
    refine w_get i3_save_41 rfl rfl ?_
    refine w_iadd i3_save_44 (by omega) ?_
    refine w_const i3_save_45 ?_
    refine w_irem i3_save_47 (by decide) ((by rw [et]; constructor <;> omega)) ?_
    rw [et]
    refine w_aald i3_save_48 rfl (by constructor <;> (try simp) <;> omega) (sl6 j hj8) ?_
    refine w_aload i3_save_49 rfl ?_
    refine w_cVU i3_save_50 f5_copyFrom v5_copyFrom (s5_copyFrom (by omega) (stj j hj8) st1 (by omega)) rfl (stj j hj8).1 (by decide) rfl rfl (Nat.le_of_ble_eq_true rfl) (by omega) (fun I' F' hq => ?_)
    obtain ⟨rfl, rfl⟩ := hq
    refine w_aload i3_save_53 rfl ?_
    refine w_dup i3_save_54 ?_
    refine w_get i3_save_55 rfl rfl ?_
    refine w_const i3_save_58 ?_
    refine w_iadd i3_save_59 ((by simp [upI]; omega)) ?_
    refine w_put i3_save_60 rfl rfl (Or.inl rfl) ?_
    refine w_vret i3_save_63 rfl ⟨Nat.le_refl _, Nat.le_refl _⟩ ?_
    refine ⟨rfl, rfl, c, o, j, hco, hj, ?_, ?_, ?_, ?_, ?_, ?_, ?_, ?_⟩
    · simp [upI]; omega
    · simp [upI]; omega
    · intro k hk; rcases hk with rfl | rfl | rfl <;> simp [upI] <;> (try rw [if_neg (by omega)]) <;> exact hI1 _ _ (by decide)
    · intro a k ha hb; simp [upI, ha, hb]; exact hI1 _ _ ha
    · intro i hi; simp [cpF]; (repeat' split) <;> first | rfl | omega
    · intro i hi; simp [cpF]; (repeat' split) <;> first | rfl | omega
    · intro i hi; simp [cpF]; (repeat' split) <;> first | rfl | omega
    · intro a h1 h2 h3; funext i; simp only [cpF]; (repeat' split) <;> first | rfl | omega
  refine MS_of (ls := [lr 5, lr 1]) f3_save rfl rfl (Nat.le_of_ble_eq_true rfl) ?_
  refine w_aload i3_save_0 rfl ?_
  refine w_get i3_save_1 rfl rfl ?_
  refine w_const i3_save_4 ?_
  refine w_icmpne i3_save_6 (fun h6 => ?_) (fun h6 => ?_)
  · first
    | (have h6' : I 5 0 = 8 := h6
       refine mid _ 7 _ (Or.inl ⟨h6, rfl, rfl⟩) (by simp [upI]; omega) (by simp [upI]; rw [Int.tmod_eq_emod_of_nonneg (by omega)]) (fun a k ha => by simp [upI, ha]))
    | exact mid I _ _ (Or.inr ⟨by omega, rfl, rfl⟩) rfl rfl (fun _ _ _ => rfl)
  · refine w_aload i3_save_9 rfl ?_
    refine w_aload i3_save_10 rfl ?_
    refine w_get i3_save_11 rfl rfl ?_
    refine w_const i3_save_14 ?_
    refine w_iadd i3_save_15 (by omega) ?_
    refine w_const i3_save_16 ?_
    refine w_irem i3_save_18 (by decide) ((by have := Int.tmod_eq_emod_of_nonneg (a := I 5 1 + 1) (b := 8) (by omega); rw [this]; constructor <;> omega)) ?_
    refine w_put i3_save_19 rfl rfl (Or.inl rfl) ?_
    refine w_aload i3_save_22 rfl ?_
    refine w_dup i3_save_23 ?_
    refine w_get i3_save_24 rfl rfl ?_
    refine w_const i3_save_27 ?_
    refine w_isub i3_save_28 ((by simp [upI]; omega)) ?_
    refine w_put i3_save_29 rfl rfl (Or.inl rfl) ?_
    first
    | (have h6' : I 5 0 = 8 := h6
       refine mid _ 7 _ (Or.inl ⟨h6, rfl, rfl⟩) (by simp [upI]; omega) (by simp [upI]; rw [Int.tmod_eq_emod_of_nonneg (by omega)]) (fun a k ha => by simp [upI, ha]))
    | exact mid I _ _ (Or.inr ⟨by omega, rfl, rfl⟩) rfl rfl (fun _ _ _ => rfl)
end
section
theorem s3_restore {d : Nat} {I : IE} {F : FE} (hd : 2 ≤ d) (hc : 0 < I 5 0 ∧ I 5 0 ≤ 8) (ho : 0 ≤ I 5 1 ∧ I 5 1 < 8) : MU m3_restore d shX [rv 5, rv 1] I F (fun I' F' =>
    ∃ (j : Nat), (j : Int) = (I 5 1 + (I 5 0 - 1)) % 8 ∧ I' 5 0 = I 5 0 - 1 ∧ (∀ k, k = 0 ∨ k = 1 ∨ k = 5 → I' 1 k = I (7 + 4 * j) k) ∧ (∀ k, k ≠ 0 → I' 5 k = I 5 k) ∧ (∀ a k, a ≠ 5 → a ≠ 1 → I' a k = I a k) ∧
      (∀ i, 0 ≤ i ∧ i < 8 → F' 2 i = F (8 + 4 * j) i) ∧ (∀ i, 0 ≤ i ∧ i < 4 → F' 3 i = F (9 + 4 * j) i) ∧ (∀ i, 0 ≤ i ∧ i < 4 → F' 4 i = F (10 + 4 * j) i) ∧ (∀ a, a ≠ 2 → a ≠ 3 → a ≠ 4 → F' a = F a)) := by
  obtain ⟨j, hj⟩ : ∃ j : Nat, (j : Int) = (I 5 1 + (I 5 0 - 1)) % 8 := ⟨((I 5 1 + (I 5 0 - 1)) % 8).toNat, by omega⟩
  have hj8 : j < 8 := by omega
  have et : (I 5 1 + (I 5 0 - 1)).tmod 8 = (j : Int) := by rw [Int.tmod_eq_emod_of_nonneg (by omega), hj]
  refine MS_of (ls := [lr 5, lr 1]) f3_restore rfl rfl (Nat.le_of_ble_eq_true rfl) ?_
  refine w_aload i3_restore_0 rfl ?_
  refine w_get i3_restore_1 rfl rfl ?_
  refine w_ifle i3_restore_4 (fun h_ => absurd h_ (by omega)) (fun h4 => ?_)
  refine w_aload i3_restore_7 rfl ?_
  refine w_dup i3_restore_8 ?_
  refine w_get i3_restore_9 rfl rfl ?_
  refine w_const i3_restore_12 ?_
  refine w_isub i3_restore_13 (by omega) ?_
  refine w_put i3_restore_14 rfl rfl (Or.inl rfl) ?_
  refine w_aload i3_restore_17 rfl ?_
  refine w_aload i3_restore_18 rfl ?_
  refine w_getr i3_restore_19 rfl rfl ?_
  refine w_aload i3_restore_22 rfl ?_
  refine w_get i3_restore_23 rfl rfl ?_
  refine w_aload i3_restore_26 rfl ?_
  refine w_get i3_restore_27 rfl rfl ?_
  rw [show upI I 5 0 (I 5 0 - 1) 5 1 = I 5 1 by simp [upI], show upI I 5 0 (I 5 0 - 1) 5 0 = I 5 0 - 1 by simp [upI]]
  refine w_iadd i3_restore_30 (by omega) ?_
  refine w_const i3_restore_31 ?_
  refine w_irem i3_restore_33 (by decide) ((by rw [et]; constructor <;> omega)) ?_
  rw [et]
  refine w_aald i3_restore_34 rfl (by constructor <;> (try simp) <;> omega) (sl6 j hj8) ?_
  refine w_cVU i3_restore_35 f5_copyFrom v5_copyFrom (s5_copyFrom (by omega) st1 (stj j hj8) (by omega)) rfl rfl (by decide) rfl rfl (Nat.le_of_ble_eq_true rfl) (by omega) (fun I' F' hq => ?_)
  obtain ⟨rfl, rfl⟩ := hq
  refine w_vret i3_restore_38 rfl ⟨Nat.le_refl _, Nat.le_refl _⟩ ?_
  refine ⟨rfl, rfl, j, hj, ?_, ?_, ?_, ?_, ?_, ?_, ?_, ?_⟩
  · simp [upI]
  · intro k hk; rcases hk with rfl | rfl | rfl <;> simp [upI] <;> omega
  · intro k hk; simp [upI, hk]
  · intro a k ha hb; simp [upI, ha, hb]
  · intro i hi; rw [show 8 + 4 * j = 7 + 4 * j + 1 by omega]; simp [cpF]; (repeat' split) <;> first | rfl | omega
  · intro i hi; rw [show 9 + 4 * j = 7 + 4 * j + 2 by omega]; simp [cpF]; (repeat' split) <;> first | rfl | omega
  · intro i hi; rw [show 10 + 4 * j = 7 + 4 * j + 3 by omega]; simp [cpF]; (repeat' split) <;> first | rfl | omega
  · intro a h1 h2 h3; funext i; simp only [cpF]; (repeat' split) <;> first | rfl | omega
-- the text: place 39: 0 length, 1 rows, 2 columns, 3 digits (40), 4 characters (41), 5 digitsInRow
theorem s4_add {d : Nat} {I : IE} {F : FE} {x : Int} (h : 0 ≤ I 39 0 ∧ I 39 0 < 40) : MU m4_add d shX [rv 39, iv x] I F (fun I' F' => I' = upI I 39 0 (I 39 0 + 1) ∧ F' = upF F 41 (I 39 0) x) := by
  refine MS_of (ls := [lr 39, li x]) f4_add rfl rfl (Nat.le_of_ble_eq_true rfl) ?_
  refine w_aload i4_add_0 rfl ?_
  refine w_get i4_add_1 rfl rfl ?_
  refine w_const i4_add_4 ?_
  refine w_icmpge i4_add_6 (fun h_ => absurd h_ (by omega)) (fun h6 => ?_)
  refine w_aload i4_add_9 rfl ?_
  refine w_getr i4_add_10 rfl rfl ?_
  refine w_aload i4_add_13 rfl ?_
  refine w_get i4_add_14 rfl rfl ?_
  refine w_iload i4_add_17 rfl ?_
  refine w_iast i4_add_18 rfl (by omega) ?_
  refine w_aload i4_add_19 rfl ?_
  refine w_dup i4_add_20 ?_
  refine w_get i4_add_21 rfl rfl ?_
  refine w_const i4_add_24 ?_
  refine w_iadd i4_add_25 (by omega) ?_
  refine w_put i4_add_26 rfl rfl (Or.inl rfl) ?_
  refine w_vret i4_add_29 rfl ⟨Nat.le_refl _, Nat.le_refl _⟩ ?_
  exact ⟨rfl, rfl, rfl, rfl⟩
/-- how a text is read: rows begun, digits of the first row, of the second, the digits by places -/
abbrev PSt : Type := Int × Int × Int × (Int → Int)
def dgp (g : Int → Int) (k x : Int) : Int → Int := fun j => if j = k then x else g j
def pstep (ch : Int) (p : PSt) : Option PSt :=
  if ch = 32 then some p
  else if ch = 59 then (if p.1 = 1 ∧ 2 ≤ p.2.1 then some (2, p.2.1, 0, p.2.2.2) else none)
  else if 48 ≤ ch ∧ ch ≤ 51 then
    (if p.1 = 1 then (if p.2.1 < 4 then some (1, p.2.1 + 1, p.2.2.1, dgp p.2.2.2 p.2.1 (ch - 48)) else none)
     else (if p.2.2.1 < p.2.1 then some (2, p.2.1, p.2.2.1 + 1, dgp p.2.2.2 (4 + p.2.2.1) (ch - 48)) else none))
  else none
def prun (c : Int → Int) : Nat → Option PSt
  | 0 => some (1, 0, 0, fun _ => 0)
  | k + 1 => (prun c k).bind (pstep (c k))
def pok (p : PSt) : Prop := (p.1 = 1 ∧ p.2.2.1 = 0 ∨ p.1 = 2 ∧ 2 ≤ p.2.1 ∧ p.2.2.1 ≤ p.2.1) ∧ 0 ≤ p.2.1 ∧ p.2.1 ≤ 4 ∧ 0 ≤ p.2.2.1 ∧ ∀ j, 0 ≤ p.2.2.2 j ∧ p.2.2.2 j ≤ 3
theorem pstep_ok {ch : Int} {p q : PSt} (hp : pok p) (h : pstep ch p = some q) : pok q := by
  obtain ⟨r, d0, d1, g⟩ := p
  obtain ⟨h1, h2, h3, h4, h5⟩ := hp
  simp only at h1 h2 h3 h4 h5
  unfold pstep at h
  simp only at h
  (repeat' split at h) <;> first | cases h | skip
  · exact ⟨h1, h2, h3, h4, h5⟩
  · exact ⟨Or.inr ⟨rfl, by simp only; omega, by simp only; omega⟩, h2, h3, by simp, h5⟩
  · refine ⟨Or.inl ⟨rfl, by simp only; omega⟩, by simp only; omega, by simp only; omega, h4, fun j => ?_⟩
    simp only [dgp]
    have := h5 j
    split <;> omega
  · refine ⟨Or.inr ⟨rfl, by simp only; omega, by simp only; omega⟩, h2, h3, by simp only; omega, fun j => ?_⟩
    simp only [dgp]
    have := h5 j
    split <;> omega
theorem prun_ok {c : Int → Int} : ∀ (k : Nat) {p : PSt}, prun c k = some p → pok p
  | 0, p, h => by
    cases h
    exact ⟨Or.inl ⟨rfl, rfl⟩, by decide, by decide, by decide, fun j => by simp⟩
  | k + 1, p, h => by
    simp only [prun] at h
    cases hk : prun c k with
    | none => rw [hk] at h; cases h
    | some q => rw [hk] at h; exact pstep_ok (prun_ok k hk) h
/-- enough digits -/
def pend (p : PSt) : Prop := if p.1 = 1 then 2 ≤ p.2.1 else p.2.1 ≤ p.2.2.1
/-- the component's reading, as far as p -/
def TR (I : IE) (F : FE) (p : PSt) : Prop := I 39 1 = p.1 ∧ (p.1 = 1 → I 39 5 = p.2.1) ∧ (p.1 = 2 → I 39 2 = p.2.1 ∧ I 39 5 = p.2.2.1) ∧ (∀ j, 0 ≤ j ∧ j < p.2.1 → F 40 j = p.2.2.2 j) ∧ (∀ j, 0 ≤ j ∧ j < p.2.2.1 → F 40 (4 + j) = p.2.2.2 (4 + j))
def Tfr (I I' : IE) (F F' : FE) : Prop := (∀ a k, a ≠ 39 → I' a k = I a k) ∧ I' 39 0 = I 39 0 ∧ ∀ a, a ≠ 40 → F' a = F a
theorem Tfr.rf {I : IE} {F : FE} : Tfr I I F F := ⟨fun _ _ _ => rfl, rfl, fun _ _ => rfl⟩
theorem Tfr.tr {I I1 I2 : IE} {F F1 F2 : FE} (h : Tfr I I1 F F1) (g : Tfr I1 I2 F1 F2) : Tfr I I2 F F2 := ⟨fun a k ha => (g.1 a k ha).trans (h.1 a k ha), g.2.1.trans h.2.1, fun a ha => (g.2.2 a ha).trans (h.2.2 a ha)⟩
theorem s4_takesRowEnd {d : Nat} {I : IE} {F : FE} {p : PSt} (hp : pok p) (hT : TR I F p) : MB m4_takesRowEnd d shX [rv 39] I F (fun v I' F' => Tfr I I' F F' ∧ (v = 1 ∧ (∃ q, pstep 59 p = some q ∧ TR I' F' q) ∨ v = 0 ∧ pstep 59 p = none)) := by
  obtain ⟨r, d0, d1, g⟩ := p
  obtain ⟨p1, p2, p3, p4, p5⟩ := hp
  obtain ⟨t1, t2, t3, t4, t5⟩ := hT
  simp only at p1 p2 p3 p4 p5 t1 t2 t3 t4 t5
  have e : pstep 59 (r, d0, d1, g) = if r = 1 ∧ 2 ≤ d0 then some (2, d0, 0, g) else none := rfl
  rw [e]
  refine MS_of (ls := [lr 39]) f4_takesRowEnd rfl rfl (Nat.le_of_ble_eq_true rfl) ?_
  refine w_aload i4_takesRowEnd_0 rfl ?_
  refine w_get i4_takesRowEnd_1 rfl rfl ?_
  refine w_const i4_takesRowEnd_4 ?_
  refine w_icmpeq i4_takesRowEnd_5 (fun h5 => ?_) (fun h5 => ?_)
  · refine w_const i4_takesRowEnd_16 ?_
    refine w_iret i4_takesRowEnd_17 (Or.inr ⟨rfl, by omega⟩) ⟨Nat.le_refl _, Nat.le_refl _⟩ ?_
    refine ⟨rfl, _, rfl, Tfr.rf, Or.inr ⟨rfl, ?_⟩⟩
    rw [if_neg (by omega)]
  · refine w_aload i4_takesRowEnd_8 rfl ?_
    refine w_get i4_takesRowEnd_9 rfl rfl ?_
    refine w_const i4_takesRowEnd_12 ?_
    refine w_icmpge i4_takesRowEnd_13 (fun h13 => ?_) (fun h13 => ?_)
    · refine w_aload i4_takesRowEnd_18 rfl ?_
      refine w_aload i4_takesRowEnd_19 rfl ?_
      refine w_get i4_takesRowEnd_20 rfl rfl ?_
      refine w_put i4_takesRowEnd_23 rfl rfl (Or.inl rfl) ?_
      refine w_aload i4_takesRowEnd_26 rfl ?_
      refine w_const i4_takesRowEnd_27 ?_
      refine w_put i4_takesRowEnd_28 rfl rfl (Or.inl rfl) ?_
      refine w_aload i4_takesRowEnd_31 rfl ?_
      refine w_const i4_takesRowEnd_32 ?_
      refine w_put i4_takesRowEnd_33 rfl rfl (Or.inl rfl) ?_
      refine w_const i4_takesRowEnd_36 ?_
      refine w_iret i4_takesRowEnd_37 (Or.inr ⟨rfl, by omega⟩) ⟨Nat.le_refl _, Nat.le_refl _⟩ ?_
      refine ⟨rfl, _, rfl, ⟨fun a k ha => by simp [upI, ha], by simp [upI], fun a _ => rfl⟩, Or.inl ⟨rfl, (2, d0, 0, g), ?_, ?_⟩⟩
      · rw [if_pos (by omega)]
      · refine ⟨by simp [upI], fun h => absurd h (by simp), fun _ => ⟨by simp [upI]; omega, by simp [upI]⟩, t4, fun j hj => ?_⟩
        simp only at hj; omega
    · refine w_const i4_takesRowEnd_16 ?_
      refine w_iret i4_takesRowEnd_17 (Or.inr ⟨rfl, by omega⟩) ⟨Nat.le_refl _, Nat.le_refl _⟩ ?_
      refine ⟨rfl, _, rfl, Tfr.rf, Or.inr ⟨rfl, ?_⟩⟩
      rw [if_neg (by omega)]
theorem s4_takesDigit {d : Nat} {I : IE} {F : FE} {p : PSt} {ch : Int} (hp : pok p) (hT : TR I F p) (h1 : ch ≠ 32) (h2 : ch ≠ 59) : MB m4_takesDigit d shX [rv 39, iv (ch - 48)] I F (fun v I' F' => Tfr I I' F F' ∧ (v = 1 ∧ (∃ q, pstep ch p = some q ∧ TR I' F' q) ∨ v = 0 ∧ pstep ch p = none)) := by
  obtain ⟨r, d0, d1, g⟩ := p
  obtain ⟨p1, p2, p3, p4, p5⟩ := hp
  obtain ⟨t1, t2, t3, t4, t5⟩ := hT
  simp only at p1 p2 p3 p4 p5 t1 t2 t3 t4 t5
  have e : pstep ch (r, d0, d1, g) = if 48 ≤ ch ∧ ch ≤ 51 then (if r = 1 then (if d0 < 4 then some (1, d0 + 1, d1, dgp g d0 (ch - 48)) else none) else (if d1 < d0 then some (2, d0, d1 + 1, dgp g (4 + d1) (ch - 48)) else none)) else none := by
    unfold pstep
    rw [if_neg h1, if_neg h2]
  rw [e]
  refine MS_of (ls := [lr 39, li (ch - 48), lu]) f4_takesDigit rfl rfl (Nat.le_of_ble_eq_true rfl) ?_
  refine w_aload i4_takesDigit_0 rfl ?_
  refine w_get i4_takesDigit_1 rfl rfl ?_
  refine w_const i4_takesDigit_4 ?_
  refine w_icmpne i4_takesDigit_5 (fun h5 => ?_) (fun h5 => ?_)
  · refine w_aload i4_takesDigit_12 rfl ?_
    refine w_get i4_takesDigit_13 rfl rfl ?_
    refine w_is2 i4_takesDigit_16 ?_
    refine w_iload i4_takesDigit_17 rfl ?_
    refine w_iflt i4_takesDigit_18 (fun h18 => ?_) (fun h18 => ?_)
    · refine w_const i4_takesDigit_34 ?_
      refine w_iret i4_takesDigit_35 (Or.inr ⟨rfl, by omega⟩) ⟨Nat.le_refl _, Nat.le_refl _⟩ ?_
      refine ⟨rfl, _, rfl, Tfr.rf, Or.inr ⟨rfl, ?_⟩⟩
      (repeat' split) <;> first | rfl | omega
    · refine w_iload i4_takesDigit_21 rfl ?_
      refine w_const i4_takesDigit_22 ?_
      refine w_icmpgt i4_takesDigit_23 (fun h23 => ?_) (fun h23 => ?_)
      · refine w_const i4_takesDigit_34 ?_
        refine w_iret i4_takesDigit_35 (Or.inr ⟨rfl, by omega⟩) ⟨Nat.le_refl _, Nat.le_refl _⟩ ?_
        refine ⟨rfl, _, rfl, Tfr.rf, Or.inr ⟨rfl, ?_⟩⟩
        (repeat' split) <;> first | rfl | omega
      · refine w_aload i4_takesDigit_26 rfl ?_
        refine w_get i4_takesDigit_27 rfl rfl ?_
        refine w_iload i4_takesDigit_30 rfl ?_
        refine w_icmplt i4_takesDigit_31 (fun h31 => ?_) (fun h31 => ?_)
        · refine w_aload i4_takesDigit_36 rfl ?_
          refine w_getr i4_takesDigit_37 rfl rfl ?_
          refine w_aload i4_takesDigit_40 rfl ?_
          refine w_get i4_takesDigit_41 rfl rfl ?_
          refine w_const i4_takesDigit_44 ?_
          refine w_isub i4_takesDigit_45 ((by rw [t1]; constructor <;> omega)) ?_
          refine w_const i4_takesDigit_46 ?_
          refine w_imul i4_takesDigit_47 ((by rw [t1]; constructor <;> omega)) ?_
          refine w_aload i4_takesDigit_48 rfl ?_
          refine w_get i4_takesDigit_49 rfl rfl ?_
          refine w_iadd i4_takesDigit_52 ((by rw [t1]; constructor <;> omega)) ?_
          refine w_iload i4_takesDigit_53 rfl ?_
          refine w_iast i4_takesDigit_54 rfl (by rw [t1]; constructor <;> omega) ?_
          refine w_aload i4_takesDigit_55 rfl ?_
          refine w_dup i4_takesDigit_56 ?_
          refine w_get i4_takesDigit_57 rfl rfl ?_
          refine w_const i4_takesDigit_60 ?_
          refine w_iadd i4_takesDigit_61 (by omega) ?_
          refine w_put i4_takesDigit_62 rfl rfl (Or.inl rfl) ?_
          refine w_const i4_takesDigit_65 ?_
          refine w_iret i4_takesDigit_66 (Or.inr ⟨rfl, by omega⟩) ⟨Nat.le_refl _, Nat.le_refl _⟩ ?_
          refine ⟨rfl, _, rfl, ⟨fun a k ha => by simp [upI, ha], by simp [upI], fun a ha => by funext j; simp [upF, ha]⟩, Or.inl ⟨rfl, ?_⟩⟩
          rw [if_pos (by omega)]
          by_cases hr : r = 1
          · rw [if_pos hr, if_pos (by omega)]
            refine ⟨_, rfl, by simp [upI]; omega, fun _ => by simp [upI]; exact t2 hr, fun h => absurd h (by simp), fun j hj => ?_, fun j hj => ?_⟩
            · simp only at hj
              simp only [upF, dgp, true_and]
              have e1 : (I 39 1 - 1) * 4 + I 39 5 = d0 := by rw [t1, t2 hr, hr]; omega
              rw [e1]
              by_cases hjd : j = d0
              · rw [if_pos hjd, if_pos hjd]
              · rw [if_neg hjd, if_neg hjd]; exact t4 j (by omega)
            · simp only at hj
              omega
          · have hr2 : r = 2 := by omega
            obtain ⟨t6, t7⟩ := t3 hr2
            rw [if_neg hr, if_pos (by omega)]
            refine ⟨_, rfl, by simp [upI]; omega, fun h => absurd h (by simp), fun _ => ⟨by simp [upI]; exact t6, by simp [upI]; exact t7⟩, fun j hj => ?_, fun j hj => ?_⟩ <;> simp only at hj <;> simp only [upF, dgp, true_and] <;> (have e1 : (I 39 1 - 1) * 4 + I 39 5 = 4 + d1 := by rw [t1, t7, hr2]; omega) <;> rw [e1]
            · rw [if_neg (by omega), if_neg (by omega)]; exact t4 j (by omega)
            · by_cases hjd : j = d1
              · rw [if_pos (by omega), if_pos (by omega)]
              · rw [if_neg (by omega), if_neg (by omega)]; exact t5 j (by omega)
        · refine w_const i4_takesDigit_34 ?_
          refine w_iret i4_takesDigit_35 (Or.inr ⟨rfl, by omega⟩) ⟨Nat.le_refl _, Nat.le_refl _⟩ ?_
          refine ⟨rfl, _, rfl, Tfr.rf, Or.inr ⟨rfl, ?_⟩⟩
          (repeat' split) <;> first | rfl | omega
  · refine w_const i4_takesDigit_8 ?_
    refine w_goto i4_takesDigit_9 ?_
    refine w_is2 i4_takesDigit_16 ?_
    refine w_iload i4_takesDigit_17 rfl ?_
    refine w_iflt i4_takesDigit_18 (fun h18 => ?_) (fun h18 => ?_)
    · refine w_const i4_takesDigit_34 ?_
      refine w_iret i4_takesDigit_35 (Or.inr ⟨rfl, by omega⟩) ⟨Nat.le_refl _, Nat.le_refl _⟩ ?_
      refine ⟨rfl, _, rfl, Tfr.rf, Or.inr ⟨rfl, ?_⟩⟩
      (repeat' split) <;> first | rfl | omega
    · refine w_iload i4_takesDigit_21 rfl ?_
      refine w_const i4_takesDigit_22 ?_
      refine w_icmpgt i4_takesDigit_23 (fun h23 => ?_) (fun h23 => ?_)
      · refine w_const i4_takesDigit_34 ?_
        refine w_iret i4_takesDigit_35 (Or.inr ⟨rfl, by omega⟩) ⟨Nat.le_refl _, Nat.le_refl _⟩ ?_
        refine ⟨rfl, _, rfl, Tfr.rf, Or.inr ⟨rfl, ?_⟩⟩
        (repeat' split) <;> first | rfl | omega
      · refine w_aload i4_takesDigit_26 rfl ?_
        refine w_get i4_takesDigit_27 rfl rfl ?_
        refine w_iload i4_takesDigit_30 rfl ?_
        refine w_icmplt i4_takesDigit_31 (fun h31 => ?_) (fun h31 => ?_)
        · refine w_aload i4_takesDigit_36 rfl ?_
          refine w_getr i4_takesDigit_37 rfl rfl ?_
          refine w_aload i4_takesDigit_40 rfl ?_
          refine w_get i4_takesDigit_41 rfl rfl ?_
          refine w_const i4_takesDigit_44 ?_
          refine w_isub i4_takesDigit_45 ((by rw [t1]; constructor <;> omega)) ?_
          refine w_const i4_takesDigit_46 ?_
          refine w_imul i4_takesDigit_47 ((by rw [t1]; constructor <;> omega)) ?_
          refine w_aload i4_takesDigit_48 rfl ?_
          refine w_get i4_takesDigit_49 rfl rfl ?_
          refine w_iadd i4_takesDigit_52 ((by rw [t1]; constructor <;> omega)) ?_
          refine w_iload i4_takesDigit_53 rfl ?_
          refine w_iast i4_takesDigit_54 rfl (by rw [t1]; constructor <;> omega) ?_
          refine w_aload i4_takesDigit_55 rfl ?_
          refine w_dup i4_takesDigit_56 ?_
          refine w_get i4_takesDigit_57 rfl rfl ?_
          refine w_const i4_takesDigit_60 ?_
          refine w_iadd i4_takesDigit_61 (by omega) ?_
          refine w_put i4_takesDigit_62 rfl rfl (Or.inl rfl) ?_
          refine w_const i4_takesDigit_65 ?_
          refine w_iret i4_takesDigit_66 (Or.inr ⟨rfl, by omega⟩) ⟨Nat.le_refl _, Nat.le_refl _⟩ ?_
          refine ⟨rfl, _, rfl, ⟨fun a k ha => by simp [upI, ha], by simp [upI], fun a ha => by funext j; simp [upF, ha]⟩, Or.inl ⟨rfl, ?_⟩⟩
          rw [if_pos (by omega)]
          by_cases hr : r = 1
          · rw [if_pos hr, if_pos (by omega)]
            refine ⟨_, rfl, by simp [upI]; omega, fun _ => by simp [upI]; exact t2 hr, fun h => absurd h (by simp), fun j hj => ?_, fun j hj => ?_⟩
            · simp only at hj
              simp only [upF, dgp, true_and]
              have e1 : (I 39 1 - 1) * 4 + I 39 5 = d0 := by rw [t1, t2 hr, hr]; omega
              rw [e1]
              by_cases hjd : j = d0
              · rw [if_pos hjd, if_pos hjd]
              · rw [if_neg hjd, if_neg hjd]; exact t4 j (by omega)
            · simp only at hj
              omega
          · have hr2 : r = 2 := by omega
            obtain ⟨t6, t7⟩ := t3 hr2
            rw [if_neg hr, if_pos (by omega)]
            refine ⟨_, rfl, by simp [upI]; omega, fun h => absurd h (by simp), fun _ => ⟨by simp [upI]; exact t6, by simp [upI]; exact t7⟩, fun j hj => ?_, fun j hj => ?_⟩ <;> simp only at hj <;> simp only [upF, dgp, true_and] <;> (have e1 : (I 39 1 - 1) * 4 + I 39 5 = 4 + d1 := by rw [t1, t7, hr2]; omega) <;> rw [e1]
            · rw [if_neg (by omega), if_neg (by omega)]; exact t4 j (by omega)
            · by_cases hjd : j = d1
              · rw [if_pos (by omega), if_pos (by omega)]
              · rw [if_neg (by omega), if_neg (by omega)]; exact t5 j (by omega)
        · refine w_const i4_takesDigit_34 ?_
          refine w_iret i4_takesDigit_35 (Or.inr ⟨rfl, by omega⟩) ⟨Nat.le_refl _, Nat.le_refl _⟩ ?_
          refine ⟨rfl, _, rfl, Tfr.rf, Or.inr ⟨rfl, ?_⟩⟩
          (repeat' split) <;> first | rfl | omega
theorem s4_takes {d : Nat} {I : IE} {F : FE} {p : PSt} {ch : Int} (hd : 1 ≤ d) (hch : 0 ≤ ch ∧ ch ≤ 255) (hp : pok p) (hT : TR I F p) : MB m4_takes d shX [rv 39, iv ch] I F (fun v I' F' => Tfr I I' F F' ∧ (v = 1 ∧ (∃ q, pstep ch p = some q ∧ TR I' F' q) ∨ v = 0 ∧ pstep ch p = none)) := by
  refine MS_of (ls := [lr 39, li ch]) f4_takes rfl rfl (Nat.le_of_ble_eq_true rfl) ?_
  refine w_iload i4_takes_0 rfl ?_
  refine w_const i4_takes_1 ?_
  refine w_icmpne i4_takes_3 (fun h3 => ?_) (fun h3 => ?_)
  · refine w_iload i4_takes_8 rfl ?_
    refine w_const i4_takes_9 ?_
    refine w_icmpne i4_takes_11 (fun h11 => ?_) (fun h11 => ?_)
    · refine w_aload i4_takes_21 rfl ?_
      refine w_iload i4_takes_22 rfl ?_
      refine w_const i4_takes_23 ?_
      refine w_isub i4_takes_25 (by omega) ?_
      refine w_cVB i4_takes_26 f4_takesDigit v4_takesDigit (s4_takesDigit hp hT h3 h11) rfl rfl (by decide) rfl rfl (Nat.le_of_ble_eq_true rfl) (by omega) (fun v I' F' hq => ?_)
      have hv := hq.2
      refine w_iret i4_takes_29 (Or.inr ⟨rfl, by rcases hv with h | h <;> omega⟩) ⟨Nat.le_refl _, Nat.le_refl _⟩ ?_
      first
      | exact ⟨rfl, v, rfl, hq⟩
      | (subst h11; exact ⟨rfl, v, rfl, hq⟩)
    · refine w_aload i4_takes_14 rfl ?_
      refine w_cVB i4_takes_15 f4_takesRowEnd v4_takesRowEnd (s4_takesRowEnd hp hT) rfl rfl (by decide) rfl rfl (Nat.le_of_ble_eq_true rfl) (by omega) (fun v I' F' hq => ?_)
      have hv := hq.2
      refine w_goto i4_takes_18 ?_
      refine w_iret i4_takes_29 (Or.inr ⟨rfl, by rcases hv with h | h <;> omega⟩) ⟨Nat.le_refl _, Nat.le_refl _⟩ ?_
      first
      | exact ⟨rfl, v, rfl, hq⟩
      | (subst h11; exact ⟨rfl, v, rfl, hq⟩)
  · refine w_const i4_takes_6 ?_
    refine w_iret i4_takes_7 (Or.inr ⟨rfl, by omega⟩) ⟨Nat.le_refl _, Nat.le_refl _⟩ ?_
    refine ⟨rfl, _, rfl, Tfr.rf, Or.inl ⟨rfl, p, ?_, hT⟩⟩
    unfold pstep
    rw [if_pos h3]
theorem s4_digitsNeeded {d : Nat} {I : IE} {F : FE} : MR m4_digitsNeeded d shX [rv 39] I F (if I 39 1 = 1 then 2 else I 39 2) := by
  refine MS_of (ls := [lr 39]) f4_digitsNeeded rfl rfl (Nat.le_of_ble_eq_true rfl) ?_
  refine w_aload i4_digitsNeeded_0 rfl ?_
  refine w_get i4_digitsNeeded_1 rfl rfl ?_
  refine w_const i4_digitsNeeded_4 ?_
  refine w_icmpne i4_digitsNeeded_5 (fun h5 => ?_) (fun h5 => ?_)
  · refine w_aload i4_digitsNeeded_12 rfl ?_
    refine w_get i4_digitsNeeded_13 rfl rfl ?_
    refine w_iret i4_digitsNeeded_16 (Or.inl rfl) ⟨Nat.le_refl _, Nat.le_refl _⟩ ?_
    first
    | (rw [if_neg h5]; exact ⟨rfl, rfl, rfl, rfl⟩)
    | (rw [if_pos h5]; exact ⟨rfl, rfl, rfl, rfl⟩)
  · refine w_const i4_digitsNeeded_8 ?_
    refine w_goto i4_digitsNeeded_9 ?_
    refine w_iret i4_digitsNeeded_16 (Or.inl rfl) ⟨Nat.le_refl _, Nat.le_refl _⟩ ?_
    first
    | (rw [if_neg h5]; exact ⟨rfl, rfl, rfl, rfl⟩)
    | (rw [if_pos h5]; exact ⟨rfl, rfl, rfl, rfl⟩)
/-- what the reading of the first n characters comes to: the error's position, or -1 -/
def PErr (c : Int → Int) (n : Nat) (v : Int) : Prop := (∃ k p, k < n ∧ prun c k = some p ∧ prun c (k + 1) = none ∧ v = (k : Int)) ∨ (∃ p, prun c n = some p ∧ ¬ pend p ∧ v = n) ∨ (∃ p, prun c n = some p ∧ pend p ∧ v = -1)
theorem l4_findError {d n0 : Nat} {Q : PQ} {I : IE} {F : FE} (hd : 2 ≤ d) (hl : 0 ≤ I 39 0 ∧ I 39 0 ≤ 40) (hc : ∀ j, 0 ≤ F 41 j ∧ F 41 j ≤ 255)
    (K1 : ∀ I' F' p, Tfr I I' F F' → prun (F 41) (I 39 0).toNat = some p → TR I' F' p → WS m4_findError d 0 0 n0 Q 0 0 41 [lr 39, li (I 39 0)] [] shX I' F')
    (K0 : ∀ I' F' p (k : Nat), Tfr I I' F F' → k < (I 39 0).toNat → prun (F 41) k = some p → prun (F 41) (k + 1) = none → WS m4_findError d 0 0 n0 Q 0 0 33 [lr 39, li k] [] shX I' F') :
    ∀ (m k : Nat) (I' : IE) (F' : FE) (p : PSt), (k + m : Int) = I 39 0 → Tfr I I' F F' → prun (F 41) k = some p → TR I' F' p → WS m4_findError d 0 0 n0 Q 0 0 12 [lr 39, li k] [] shX I' F' := by
  intro m
  induction m with
  | zero =>
    intro k I' F' p hk hf hr hT
    have e : (k : Int) = I 39 0 := by omega
    have e0 : I' 39 0 = I 39 0 := hf.2.1
    refine w_iload i4_findError_12 rfl ?_
    refine w_aload i4_findError_13 rfl ?_
    refine w_get i4_findError_14 rfl rfl ?_
    refine w_icmpge i4_findError_17 (fun h17 => ?_) (fun h_ => absurd h_ (by omega))
    rw [e]
    exact K1 I' F' p hf (by rw [← hr]; congr 1; omega) hT
  | succ m ih =>
    intro k I' F' p hk hf hr hT
    have e0 : I' 39 0 = I 39 0 := hf.2.1
    have e1 : F' 41 = F 41 := hf.2.2 41 (by decide)
    have es : prun (F 41) (k + 1) = pstep (F 41 k) p := by simp only [prun]; rw [hr]; rfl
    refine w_iload i4_findError_12 rfl ?_
    refine w_aload i4_findError_13 rfl ?_
    refine w_get i4_findError_14 rfl rfl ?_
    refine w_icmpge i4_findError_17 (fun h_ => absurd h_ (by omega)) (fun h17 => ?_)
    refine w_aload i4_findError_20 rfl ?_
    refine w_aload i4_findError_21 rfl ?_
    refine w_getr i4_findError_22 rfl rfl ?_
    refine w_iload i4_findError_25 rfl ?_
    refine w_iald i4_findError_26 rfl (by omega) ?_
    rw [e1]
    refine w_cVB i4_findError_27 f4_takes v4_takes (s4_takes (p := p) (by omega) (hc _) (prun_ok k hr) hT) rfl rfl (by decide) rfl rfl (Nat.le_of_ble_eq_true rfl) (by omega) (fun v I' F' hq => ?_)
    obtain ⟨hf2, hv⟩ := hq
    refine w_ifne i4_findError_30 (fun h30 => ?_) (fun h30 => ?_)
    · refine w_ii1 i4_findError_35 (by omega) ?_
      refine w_goto i4_findError_38 ?_
      obtain ⟨q, hq1, hq2⟩ : ∃ q, pstep (F 41 k) p = some q ∧ TR I' F' q := by
        rcases hv with h | h
        · exact h.2
        · omega
      exact ih (k + 1) I' F' q (by omega) (hf.tr hf2) (by rw [es]; exact hq1) hq2
    · first
      | exact absurd h30 (by omega)
      | (have hn : pstep (F 41 k) p = none := by
           rcases hv with h | h
           · omega
           · exact h.2
         exact K0 _ _ p k (hf.tr hf2) (by omega) hr (by rw [es]; exact hn))
theorem s4_findError {d : Nat} {I : IE} {F : FE} (hd : 2 ≤ d) (hl : 0 ≤ I 39 0 ∧ I 39 0 ≤ 40) (hc : ∀ j, 0 ≤ F 41 j ∧ F 41 j ≤ 255) :
    MB m4_findError d shX [rv 39] I F (fun v I' F' => Tfr I I' F F' ∧ PErr (F 41) (I 39 0).toNat v ∧ (v = -1 → ∃ p, prun (F 41) (I 39 0).toNat = some p ∧ pend p ∧ TR I' F' p ∧ I' 39 2 = p.2.1)) := by
  refine MS_of (ls := [lr 39, lu]) f4_findError rfl rfl (Nat.le_of_ble_eq_true rfl) ?_
  refine w_aload i4_findError_0 rfl ?_
  refine w_const i4_findError_1 ?_
  refine w_put i4_findError_2 rfl rfl (Or.inl rfl) ?_
  refine w_aload i4_findError_5 rfl ?_
  refine w_const i4_findError_6 ?_
  refine w_put i4_findError_7 rfl rfl (Or.inl rfl) ?_
  refine w_const i4_findError_10 ?_
  refine w_is1 i4_findError_11 ?_
  refine l4_findError (I := I) (F := F) hd hl hc (fun I' F' p hf hr hT => ?_) (fun I' F' p k hf hk hr hn => ?_) (I 39 0).toNat 0 _ _ _ (by omega) ⟨fun a k ha => by simp [upI, ha], by simp [upI], fun _ _ => rfl⟩ rfl ⟨by simp [upI], fun _ => by simp [upI], fun h => absurd h (by decide), fun j hj => absurd hj (by simp), fun j hj => absurd hj (by simp)⟩
  · have hpok := prun_ok _ hr
    obtain ⟨r, d0, d1, g⟩ := p
    obtain ⟨p1, p2, p3, p4, p5⟩ := hpok
    have hT' := hT
    obtain ⟨t1, t2, t3, t4, t5⟩ := hT
    simp only at p1 p2 p3 p4 p5 t1 t2 t3 t4 t5
    have e0 : I' 39 0 = I 39 0 := hf.2.1
    have en : ((I 39 0).toNat : Int) = I 39 0 := by omega
    have epe : pend (r, d0, d1, g) = (if r = 1 then 2 ≤ d0 else d0 ≤ d1) := rfl
    have key : I' 39 5 < (if I' 39 1 = 1 then 2 else I' 39 2) ↔ ¬ pend (r, d0, d1, g) := by
      rw [epe, t1]
      rcases p1 with ⟨h, -⟩ | ⟨h, -, -⟩
      · rw [if_pos h, if_pos h, t2 h]; omega
      · rw [if_neg (by omega), if_neg (by omega), (t3 h).1, (t3 h).2]; omega
    refine w_aload i4_findError_41 rfl ?_
    refine w_get i4_findError_42 rfl rfl ?_
    refine w_aload i4_findError_45 rfl ?_
    refine w_cVR i4_findError_46 f4_digitsNeeded v4_digitsNeeded s4_digitsNeeded rfl rfl (by decide) rfl rfl (Nat.le_of_ble_eq_true rfl) (by omega) ?_
    refine w_icmpge i4_findError_49 (fun h49 => ?_) (fun h49 => ?_)
    · refine w_aload i4_findError_57 rfl ?_
      refine w_get i4_findError_58 rfl rfl ?_
      refine w_const i4_findError_61 ?_
      refine w_icmpne i4_findError_62 (fun h62 => ?_) (fun h62 => ?_)
      · refine w_const i4_findError_73 ?_
        refine w_iret i4_findError_74 (Or.inl rfl) ⟨Nat.le_refl _, Nat.le_refl _⟩ ?_
        have hpe : pend (r, d0, d1, g) := Classical.byContradiction fun z => by have := key.mpr z; omega
        first
        | (have hr1 : r = 1 := by omega
           refine ⟨rfl, _, rfl, hf.tr ⟨fun a k ha => by simp [upI, ha], by simp [upI], fun _ _ => rfl⟩, Or.inr (Or.inr ⟨_, hr, hpe, rfl⟩), fun _ => ⟨_, hr, hpe, ⟨by simp [upI]; exact t1, fun h => by simp [upI]; exact t2 h, fun h => absurd h (by simp only; omega), t4, t5⟩, by simp [upI]; exact t2 hr1⟩⟩)
        | (have hr2 : r = 2 := by omega
           exact ⟨rfl, _, rfl, hf, Or.inr (Or.inr ⟨_, hr, hpe, rfl⟩), fun _ => ⟨_, hr, hpe, hT', (t3 hr2).1⟩⟩)
      · refine w_aload i4_findError_65 rfl ?_
        refine w_aload i4_findError_66 rfl ?_
        refine w_get i4_findError_67 rfl rfl ?_
        refine w_put i4_findError_70 rfl rfl (Or.inl rfl) ?_
        refine w_const i4_findError_73 ?_
        refine w_iret i4_findError_74 (Or.inl rfl) ⟨Nat.le_refl _, Nat.le_refl _⟩ ?_
        have hpe : pend (r, d0, d1, g) := Classical.byContradiction fun z => by have := key.mpr z; omega
        first
        | (have hr1 : r = 1 := by omega
           refine ⟨rfl, _, rfl, hf.tr ⟨fun a k ha => by simp [upI, ha], by simp [upI], fun _ _ => rfl⟩, Or.inr (Or.inr ⟨_, hr, hpe, rfl⟩), fun _ => ⟨_, hr, hpe, ⟨by simp [upI]; exact t1, fun h => by simp [upI]; exact t2 h, fun h => absurd h (by simp only; omega), t4, t5⟩, by simp [upI]; exact t2 hr1⟩⟩)
        | (have hr2 : r = 2 := by omega
           exact ⟨rfl, _, rfl, hf, Or.inr (Or.inr ⟨_, hr, hpe, rfl⟩), fun _ => ⟨_, hr, hpe, hT', (t3 hr2).1⟩⟩)
    · refine w_aload i4_findError_52 rfl ?_
      refine w_get i4_findError_53 rfl rfl ?_
      refine w_iret i4_findError_56 (Or.inl rfl) ⟨Nat.le_refl _, Nat.le_refl _⟩ ?_
      refine ⟨rfl, _, rfl, hf, Or.inr (Or.inl ⟨_, hr, key.mp h49, by omega⟩), fun h => absurd h (by omega)⟩
  · refine w_iload i4_findError_33 rfl ?_
    refine w_iret i4_findError_34 (Or.inl rfl) ⟨Nat.le_refl _, Nat.le_refl _⟩ ?_
    exact ⟨rfl, _, rfl, hf, Or.inl ⟨k, p, hk, hr, hn, rfl⟩, fun h => absurd h (by omega)⟩
end
section
-- the basis: place 42: 0 count, 1 rankOfMatrix, 2 entries (43), 3 columns, 4 bound, 5 firstPivot, 6 secondPivot, 7 pivotRow, 8 divisor, 9 freeCount, 10 freeColumns (44), 11 vector (45), 12 candidates (46), 13 candidateCount
theorem mulr {a b : Int} (ha : -1000 ≤ a ∧ a ≤ 1000) (hb : -1000 ≤ b ∧ b ≤ 1000) : -1000000 ≤ a * b ∧ a * b ≤ 1000000 := by
  have h1 := Int.mul_nonneg (show 0 ≤ 1000 - a by omega) (show 0 ≤ 1000 + b by omega)
  have h2 := Int.mul_nonneg (show 0 ≤ 1000 + a by omega) (show 0 ≤ 1000 - b by omega)
  have h3 := Int.mul_nonneg (show 0 ≤ 1000 - a by omega) (show 0 ≤ 1000 - b by omega)
  have h4 := Int.mul_nonneg (show 0 ≤ 1000 + a by omega) (show 0 ≤ 1000 + b by omega)
  rw [Int.sub_mul, Int.mul_add, Int.mul_add] at h1
  rw [Int.add_mul, Int.mul_sub, Int.mul_sub] at h2
  rw [Int.sub_mul, Int.mul_sub, Int.mul_sub] at h3
  rw [Int.add_mul, Int.mul_add, Int.mul_add] at h4
  omega
/-- between 0 and v -/
def c1 (u v : Int) : Prop := (0 ≤ u ∧ u ≤ v) ∨ (v ≤ u ∧ u ≤ 0)
theorem c1_iff {u v : Int} : c1 u v ↔ 0 ≤ u * v ∧ (if 0 ≤ u then u else -u) ≤ (if 0 ≤ v then v else -v) := by
  unfold c1
  constructor
  · intro h
    rcases h with ⟨h1, h2⟩ | ⟨h1, h2⟩
    · refine ⟨Int.mul_nonneg h1 (by omega), ?_⟩
      rw [if_pos h1, if_pos (by omega)]; exact h2
    · refine ⟨Int.mul_nonneg_of_nonpos_of_nonpos h2 (by omega), ?_⟩
      (repeat' split) <;> omega
  · intro ⟨h1, h2⟩
    by_cases hu : 0 ≤ u
    · rw [if_pos hu] at h2
      by_cases hv : 0 ≤ v
      · rw [if_pos hv] at h2; exact Or.inl ⟨hu, h2⟩
      · by_cases hu0 : u = 0
        · exact Or.inr ⟨by omega, by omega⟩
        · have := Int.mul_neg_of_pos_of_neg (show 0 < u by omega) (show v < 0 by omega)
          omega
    · rw [if_neg hu] at h2
      by_cases hv : 0 ≤ v
      · by_cases hv0 : v = 0
        · subst hv0; simp at h2; omega
        · have := Int.mul_neg_of_neg_of_pos (show u < 0 by omega) (show 0 < v by omega)
          omega
      · rw [if_neg hv] at h2; exact Or.inr ⟨by omega, by omega⟩
/-- row e of the elements -/
def en (F : FE) (e : Int) : Int → Int := fun i => F 43 (e * 4 + i)
theorem s2_at {d : Nat} {I : IE} {F : FE} {e i : Int} (he : 0 ≤ e ∧ e < 16) (hi : 0 ≤ i ∧ i ≤ 3) : MR m2_at d shX [rv 42, iv e, iv i] I F (en F e i) := by
  refine MS_of (ls := [lr 42, li e, li i, lu]) f2_at rfl rfl (Nat.le_of_ble_eq_true rfl) ?_
  refine w_iload i2_at_0 rfl ?_
  refine w_const i2_at_1 ?_
  refine w_imul i2_at_2 (by omega) ?_
  refine w_iload i2_at_3 rfl ?_
  refine w_iadd i2_at_4 (by omega) ?_
  refine w_is3 i2_at_5 ?_
  refine w_iload i2_at_6 rfl ?_
  refine w_iflt i2_at_7 (fun h_ => absurd h_ (by omega)) (fun h7 => ?_)
  refine w_iload i2_at_10 rfl ?_
  refine w_aload i2_at_11 rfl ?_
  refine w_getr i2_at_12 rfl rfl ?_
  refine w_alen i2_at_15 rfl (by decide) ?_
  refine w_icmpge i2_at_16 (fun h_ => absurd h_ (by omega)) (fun h16 => ?_)
  refine w_aload i2_at_19 rfl ?_
  refine w_getr i2_at_20 rfl rfl ?_
  refine w_iload i2_at_23 rfl ?_
  refine w_iald i2_at_24 rfl (by omega) ?_
  refine w_goto i2_at_25 ?_
  refine w_iret i2_at_29 (Or.inl rfl) ⟨Nat.le_refl _, Nat.le_refl _⟩ ?_
  exact ⟨rfl, rfl, rfl, rfl⟩
theorem l2_conforms {d n0 : Nat} {Q : PQ} {I : IE} {F : FE} {e s : Int} {p N : Nat} (hd : 1 ≤ d) (he : 0 ≤ e ∧ e < 16) (hs : s = 1 ∨ s = -1) (hn : 0 ≤ I 42 3 ∧ I 42 3 ≤ 4) (hE : ∀ j, -100 ≤ F 43 j ∧ F 43 j ≤ 100) (hp : shX[p]? = some (.inl N)) (hN : 4 ≤ N) (hv : ∀ j, 0 ≤ j ∧ j < 4 → -100 ≤ F p j ∧ F p j ≤ 100)
    (K1 : ∀ x, (∀ i, 0 ≤ i ∧ i < I 42 3 → c1 (s * en F e i) (F p i)) → WS m2_conforms d 0 0 n0 Q 0 0 56 [lr 42, li e, li s, lr p, li (I 42 3), x] [] shX I F)
    (K0 : ∀ x y, (¬ ∀ i, 0 ≤ i ∧ i < I 42 3 → c1 (s * en F e i) (F p i)) → WS m2_conforms d 0 0 n0 Q 0 0 48 [lr 42, li e, li s, lr p, x, y] [] shX I F) :
    ∀ (m k : Nat) (x : Option AV), (k + m : Int) = I 42 3 → (∀ i, 0 ≤ i ∧ i < (k : Int) → c1 (s * en F e i) (F p i)) → WS m2_conforms d 0 0 n0 Q 0 0 3 [lr 42, li e, li s, lr p, li k, x] [] shX I F := by
  intro m
  induction m with
  | zero =>
    intro k x hk hP
    have ek : (k : Int) = I 42 3 := by omega
    rw [ek] at hP ⊢
    refine w_iload i2_conforms_3 rfl ?_
    refine w_aload i2_conforms_5 rfl ?_
    refine w_get i2_conforms_6 rfl rfl ?_
    refine w_icmpge i2_conforms_9 (fun h9 => ?_) (fun h_ => absurd h_ (by omega))
    exact K1 x hP
  | succ m ih =>
    intro k x hk hP
    have hb : -100 ≤ s * en F e k ∧ s * en F e k ≤ 100 := by
      have := hE (e * 4 + k)
      unfold en
      rcases hs with rfl | rfl <;> omega
    have hb2 := hv k (by omega)
    have hb3 := mulr (a := s * en F e k) (b := F p k) (by omega) (by omega)
    refine w_iload i2_conforms_3 rfl ?_
    refine w_aload i2_conforms_5 rfl ?_
    refine w_get i2_conforms_6 rfl rfl ?_
    refine w_icmpge i2_conforms_9 (fun h_ => absurd h_ (by omega)) (fun h9 => ?_)
    refine w_iload i2_conforms_12 rfl ?_
    refine w_aload i2_conforms_13 rfl ?_
    refine w_iload i2_conforms_14 rfl ?_
    refine w_iload i2_conforms_15 rfl ?_
    refine w_cVR i2_conforms_17 f2_at v2_at (s2_at he (by omega)) rfl rfl (by decide) rfl rfl (Nat.le_of_ble_eq_true rfl) (by omega) ?_
    refine w_imul i2_conforms_20 (by omega) ?_
    refine w_is5 i2_conforms_21 ?_
    refine w_iload i2_conforms_23 rfl ?_
    refine w_aload i2_conforms_25 rfl ?_
    refine w_iload i2_conforms_26 rfl ?_
    refine w_iald i2_conforms_28 hp (by omega) ?_
    refine w_imul i2_conforms_29 (by omega) ?_
    refine w_iflt i2_conforms_30 (fun h30 => ?_) (fun h30 => ?_)
    · refine K0 _ _ (fun h => ?_)
      have := c1_iff.mp (h k (by omega))
      first | omega | exact absurd this.2 (by omega)
    · refine w_iload i2_conforms_33 rfl ?_
      refine w_mabs i2_conforms_35 (by omega) (by omega) ⟨Nat.le_refl _, Nat.le_refl _⟩ (Nat.le_of_ble_eq_true rfl) ?_
      refine w_aload i2_conforms_38 rfl ?_
      refine w_iload i2_conforms_39 rfl ?_
      refine w_iald i2_conforms_41 hp (by omega) ?_
      refine w_mabs i2_conforms_42 (by omega) (by omega) ⟨Nat.le_refl _, Nat.le_refl _⟩ (Nat.le_of_ble_eq_true rfl) ?_
      refine w_icmple i2_conforms_45 (fun h45 => ?_) (fun h45 => ?_)
      · refine w_ii4 i2_conforms_50 (by omega) ?_
        refine w_goto i2_conforms_53 ?_
        refine ih (k + 1) _ (by omega) (fun i hi => ?_)
        by_cases hik : i = k
        · subst hik; exact c1_iff.mpr ⟨h30, h45⟩
        · exact hP i (by omega)
      · refine K0 _ _ (fun h => ?_)
        have := c1_iff.mp (h k (by omega))
        first | omega | exact absurd this.2 (by omega)
theorem s2_conforms {d : Nat} {I : IE} {F : FE} {e s : Int} {p N : Nat} (hd : 1 ≤ d) (he : 0 ≤ e ∧ e < 16) (hs : s = 1 ∨ s = -1) (hn : 0 ≤ I 42 3 ∧ I 42 3 ≤ 4) (hE : ∀ j, -100 ≤ F 43 j ∧ F 43 j ≤ 100) (hp : shX[p]? = some (.inl N)) (hN : 4 ≤ N) (hv : ∀ j, 0 ≤ j ∧ j < 4 → -100 ≤ F p j ∧ F p j ≤ 100) :
    MP m2_conforms d shX [rv 42, iv e, iv s, rv p] I F (tf (∀ i, 0 ≤ i ∧ i < I 42 3 → c1 (s * en F e i) (F p i))) := by
  refine MS_of (ls := [lr 42, li e, li s, lr p, lu, lu]) f2_conforms rfl rfl (Nat.le_of_ble_eq_true rfl) ?_
  refine w_const i2_conforms_0 ?_
  refine w_is4 i2_conforms_1 ?_
  refine l2_conforms hd he hs hn hE hp hN hv (fun x h => ?_) (fun x y h => ?_) (I 42 3).toNat 0 lu (by omega) (fun i hi => absurd hi (by omega))
  · refine w_const i2_conforms_56 ?_
    refine w_iret i2_conforms_57 (Or.inr ⟨rfl, by omega⟩) ⟨Nat.le_refl _, Nat.le_refl _⟩ ?_
    exact ⟨rfl, _, rfl, Or.inl ⟨rfl, h⟩, rfl, rfl⟩
  · refine w_const i2_conforms_48 ?_
    refine w_iret i2_conforms_49 (Or.inr ⟨rfl, by omega⟩) ⟨Nat.le_refl _, Nat.le_refl _⟩ ?_
    exact ⟨rfl, _, rfl, Or.inr ⟨rfl, h⟩, rfl, rfl⟩
/-- a set of places as bits -/
def spb (f : Int → Int) (k : Nat) (b : Nat) : Prop := b < 16 ∧ ∀ i : Nat, b.testBit i = decide (i < k ∧ f i ≠ 0)
theorem l2_support {d n0 : Nat} {Q : PQ} {I : IE} {F : FE} {e : Int} (hd : 1 ≤ d) (he : 0 ≤ e ∧ e < 16) (hn : 0 ≤ I 42 3 ∧ I 42 3 ≤ 4)
    (K1 : ∀ b : Nat, spb (en F e) (I 42 3).toNat b → WS m2_support d 0 0 n0 Q 0 0 33 [lr 42, li e, li b, li (I 42 3)] [] shX I F) :
    ∀ (m k b : Nat), (k + m : Int) = I 42 3 → spb (en F e) k b → WS m2_support d 0 0 n0 Q 0 0 4 [lr 42, li e, li b, li k] [] shX I F := by
  intro m
  induction m with
  | zero =>
    intro k b hk hP
    have ek : (k : Int) = I 42 3 := by omega
    have ek2 : k = (I 42 3).toNat := by omega
    rw [ek2] at hP
    rw [ek]
    refine w_iload i2_support_4 rfl ?_
    refine w_aload i2_support_5 rfl ?_
    refine w_get i2_support_6 rfl rfl ?_
    refine w_icmpge i2_support_9 (fun h9 => ?_) (fun h_ => absurd h_ (by omega))
    exact K1 b hP
  | succ m ih =>
    intro k b hk hP
    have hkk : k < 4 := by omega
    have hp : 2 ^ k < 2 ^ 4 := Nat.pow_lt_pow_right (by decide) hkk
    refine w_iload i2_support_4 rfl ?_
    refine w_aload i2_support_5 rfl ?_
    refine w_get i2_support_6 rfl rfl ?_
    refine w_icmpge i2_support_9 (fun h_ => absurd h_ (by omega)) (fun h9 => ?_)
    refine w_aload i2_support_12 rfl ?_
    refine w_iload i2_support_13 rfl ?_
    refine w_iload i2_support_14 rfl ?_
    refine w_cVR i2_support_15 f2_at v2_at (s2_at he (by omega)) rfl rfl (by decide) rfl rfl (Nat.le_of_ble_eq_true rfl) (by omega) ?_
    refine w_ifeq i2_support_18 (fun h18 => ?_) (fun h18 => ?_)
    · refine w_ii3 i2_support_27 (by omega) ?_
      refine w_goto i2_support_30 ?_
      first
      | (have h18' : en F e k = 0 := h18
         refine ih (k + 1) b (by omega) ⟨hP.1, fun i => ?_⟩
         rw [hP.2 i]
         congr 1
         apply propext
         constructor
         · intro h; exact ⟨by omega, h.2⟩
         · intro h
           refine ⟨?_, h.2⟩
           by_cases hik : i = k
           · subst hik; exact absurd h18 h.2
           · omega)
      | (refine ih (k + 1) _ (by omega) ⟨Nat.or_lt_two_pow (n := 4) hP.1 hp, fun i => ?_⟩
         rw [Nat.testBit_or, hP.2 i, Nat.testBit_two_pow]
         by_cases hik : k = i
         · subst hik; simp [h18]
         · simp only [hik, decide_false, Bool.or_false]
           congr 1
           apply propext
           constructor
           · intro h; exact ⟨by omega, h.2⟩
           · intro h; exact ⟨by omega, h.2⟩)
    · refine w_iload i2_support_21 rfl ?_
      refine w_const i2_support_22 ?_
      refine w_iload i2_support_23 rfl ?_
      refine w_ishl i2_support_24 ?_
      rw [shl1 (by omega)]
      refine w_ior i2_support_25 ?_
      rw [borI_nat (by have := hP.1; omega) (by omega)]
      refine w_is2 i2_support_26 ?_
      refine w_ii3 i2_support_27 (by omega) ?_
      refine w_goto i2_support_30 ?_
      first
      | (have h18' : en F e k = 0 := h18
         refine ih (k + 1) b (by omega) ⟨hP.1, fun i => ?_⟩
         rw [hP.2 i]
         congr 1
         apply propext
         constructor
         · intro h; exact ⟨by omega, h.2⟩
         · intro h
           refine ⟨?_, h.2⟩
           by_cases hik : i = k
           · subst hik; exact absurd h18 h.2
           · omega)
      | (refine ih (k + 1) _ (by omega) ⟨Nat.or_lt_two_pow (n := 4) hP.1 hp, fun i => ?_⟩
         rw [Nat.testBit_or, hP.2 i, Nat.testBit_two_pow]
         by_cases hik : k = i
         · subst hik; simp [h18]
         · simp only [hik, decide_false, Bool.or_false]
           congr 1
           apply propext
           constructor
           · intro h; exact ⟨by omega, h.2⟩
           · intro h; exact ⟨by omega, h.2⟩)
theorem s2_support {d : Nat} {I : IE} {F : FE} {e : Int} (hd : 1 ≤ d) (he : 0 ≤ e ∧ e < 16) (hn : 0 ≤ I 42 3 ∧ I 42 3 ≤ 4) : MP m2_support d shX [rv 42, iv e] I F (fun v => ∃ b : Nat, v = b ∧ spb (en F e) (I 42 3).toNat b) := by
  refine MS_of (ls := [lr 42, li e, lu, lu]) f2_support rfl rfl (Nat.le_of_ble_eq_true rfl) ?_
  refine w_const i2_support_0 ?_
  refine w_is2 i2_support_1 ?_
  refine w_const i2_support_2 ?_
  refine w_is3 i2_support_3 ?_
  refine l2_support hd he hn (fun b h => ?_) (I 42 3).toNat 0 0 (by omega) ⟨by decide, fun i => by simp⟩
  refine w_iload i2_support_33 rfl ?_
  refine w_iret i2_support_34 (Or.inl rfl) ⟨Nat.le_refl _, Nat.le_refl _⟩ ?_
  exact ⟨rfl, _, rfl, ⟨b, rfl, h⟩, rfl, rfl⟩
/-- the places of f are among g's, and not all -/
def zsub (f g : Int → Int) (n : Int) : Prop := (∀ i, 0 ≤ i ∧ i < n → f i ≠ 0 → g i ≠ 0) ∧ ∃ i, 0 ≤ i ∧ i < n ∧ g i ≠ 0 ∧ f i = 0
theorem spb_sub {f g : Int → Int} {n : Int} {a b : Nat} (hn : 0 ≤ n) (ha : spb f n.toNat a) (hb : spb g n.toNat b) : (a ≠ b ∧ a &&& b = a) ↔ zsub f g n := by
  constructor
  · intro ⟨h1, h2⟩
    have key : ∀ i : Nat, a.testBit i = true → b.testBit i = true := fun i h => by
      rw [← h2, Nat.testBit_and, Bool.and_eq_true] at h
      exact h.2
    refine ⟨fun i hi hf => ?_, ?_⟩
    · have h3 := key i.toNat (by rw [ha.2]; simp only [decide_eq_true_eq]; exact ⟨by omega, by rw [show ((i.toNat : Nat) : Int) = i by omega]; exact hf⟩)
      rw [hb.2] at h3
      simp only [decide_eq_true_eq] at h3
      rw [show ((i.toNat : Nat) : Int) = i by omega] at h3
      exact h3.2
    · apply Classical.byContradiction
      intro hno
      apply h1
      apply Nat.eq_of_testBit_eq
      intro i
      cases hbi : b.testBit i with
      | false =>
        cases hai : a.testBit i with
        | false => rfl
        | true => rw [key i hai] at hbi; cases hbi
      | true =>
        rw [hb.2] at hbi
        simp only [decide_eq_true_eq] at hbi
        rw [ha.2]
        simp only [decide_eq_true_eq]
        refine ⟨hbi.1, fun h0 => hno ⟨i, by omega, by omega, hbi.2, h0⟩⟩
  · intro ⟨h1, i, hi0, hin, hgi, hfi⟩
    refine ⟨fun hab => ?_, ?_⟩
    · have h2 : b.testBit i.toNat = true := by rw [hb.2]; simp only [decide_eq_true_eq]; exact ⟨by omega, by rw [show ((i.toNat : Nat) : Int) = i by omega]; exact hgi⟩
      rw [← hab, ha.2] at h2
      simp only [decide_eq_true_eq] at h2
      rw [show ((i.toNat : Nat) : Int) = i by omega] at h2
      exact h2.2 hfi
    · apply Nat.eq_of_testBit_eq
      intro j
      rw [Nat.testBit_and]
      cases haj : a.testBit j with
      | false => rfl
      | true =>
        rw [ha.2] at haj
        simp only [decide_eq_true_eq] at haj
        rw [hb.2]
        simp only [Bool.true_and, decide_eq_true_eq]
        exact ⟨haj.1, h1 j (by omega) haj.2⟩
theorem l2_hls {d n0 : Nat} {Q : PQ} {I : IE} {F : FE} {e : Int} {b : Nat} (hd : 2 ≤ d) (he : 0 ≤ e ∧ e < 16) (hc : 0 ≤ I 42 0 ∧ I 42 0 ≤ 16) (hn : 0 ≤ I 42 3 ∧ I 42 3 ≤ 4) (hb : spb (en F e) (I 42 3).toNat b)
    (K1 : ∀ x y, (∀ o, 0 ≤ o ∧ o < I 42 0 → ¬ zsub (en F o) (en F e) (I 42 3)) → WS m2_hasLeastSupport d 0 0 n0 Q 0 0 46 [lr 42, li e, li b, x, y] [] shX I F)
    (K0 : ∀ x y, (¬ ∀ o, 0 ≤ o ∧ o < I 42 0 → ¬ zsub (en F o) (en F e) (I 42 3)) → WS m2_hasLeastSupport d 0 0 n0 Q 0 0 38 [lr 42, li e, li b, x, y] [] shX I F) :
    ∀ (m k : Nat) (y : Option AV), (k + m : Int) = I 42 0 → (∀ o, 0 ≤ o ∧ o < (k : Int) → ¬ zsub (en F o) (en F e) (I 42 3)) → WS m2_hasLeastSupport d 0 0 n0 Q 0 0 8 [lr 42, li e, li b, li k, y] [] shX I F := by
  intro m
  induction m with
  | zero =>
    intro k y hk hP
    have ek : (k : Int) = I 42 0 := by omega
    rw [ek] at hP ⊢
    refine w_iload i2_hasLeastSupport_8 rfl ?_
    refine w_aload i2_hasLeastSupport_9 rfl ?_
    refine w_get i2_hasLeastSupport_10 rfl rfl ?_
    refine w_icmpge i2_hasLeastSupport_13 (fun h13 => ?_) (fun h_ => absurd h_ (by omega))
    exact K1 _ _ hP
  | succ m ih =>
    intro k y hk hP
    have hstep : ¬ zsub (en F k) (en F e) (I 42 3) → ∀ o, 0 ≤ o ∧ o < ((k + 1 : Nat) : Int) → ¬ zsub (en F o) (en F e) (I 42 3) := fun h o ho => by
      by_cases hok : o = k
      · subst hok; exact h
      · exact hP o (by omega)
    refine w_iload i2_hasLeastSupport_8 rfl ?_
    refine w_aload i2_hasLeastSupport_9 rfl ?_
    refine w_get i2_hasLeastSupport_10 rfl rfl ?_
    refine w_icmpge i2_hasLeastSupport_13 (fun h_ => absurd h_ (by omega)) (fun h13 => ?_)
    refine w_aload i2_hasLeastSupport_16 rfl ?_
    refine w_iload i2_hasLeastSupport_17 rfl ?_
    refine w_cVP i2_hasLeastSupport_18 f2_support v2_support (s2_support (by omega) (by omega) hn) rfl rfl (by decide) rfl rfl (Nat.le_of_ble_eq_true rfl) (by omega) (fun v hv => ?_)
    obtain ⟨a, rfl, ha⟩ := hv
    have hz := spb_sub hn.1 ha hb
    refine w_is4 i2_hasLeastSupport_21 ?_
    refine w_iload i2_hasLeastSupport_23 rfl ?_
    refine w_iload i2_hasLeastSupport_25 rfl ?_
    refine w_icmpeq i2_hasLeastSupport_26 (fun h26 => ?_) (fun h26 => ?_)
    · refine w_ii3 i2_hasLeastSupport_40 (by omega) ?_
      refine w_goto i2_hasLeastSupport_43 ?_
      first
      | exact ih (k + 1) _ (by omega) (hstep (fun h => (hz.mpr h).1 (by omega)))
      | exact ih (k + 1) _ (by omega) (hstep (fun h => by have := (hz.mpr h).2; omega))
    · refine w_iload i2_hasLeastSupport_29 rfl ?_
      refine w_iload i2_hasLeastSupport_31 rfl ?_
      refine w_iand i2_hasLeastSupport_32 ?_
      rw [bandI_nat (by have := ha.1; omega) (by have := hb.1; omega)]
      refine w_iload i2_hasLeastSupport_33 rfl ?_
      refine w_icmpne i2_hasLeastSupport_35 (fun h35 => ?_) (fun h35 => ?_)
      · refine w_ii3 i2_hasLeastSupport_40 (by omega) ?_
        refine w_goto i2_hasLeastSupport_43 ?_
        first
        | exact ih (k + 1) _ (by omega) (hstep (fun h => (hz.mpr h).1 (by omega)))
        | exact ih (k + 1) _ (by omega) (hstep (fun h => by have := (hz.mpr h).2; omega))
      · exact K0 _ _ (fun h => h k (by omega) (hz.mp ⟨by omega, by omega⟩))
theorem s2_hasLeastSupport {d : Nat} {I : IE} {F : FE} {e : Int} (hd : 2 ≤ d) (he : 0 ≤ e ∧ e < 16) (hc : 0 ≤ I 42 0 ∧ I 42 0 ≤ 16) (hn : 0 ≤ I 42 3 ∧ I 42 3 ≤ 4) : MP m2_hasLeastSupport d shX [rv 42, iv e] I F (tf (∀ o, 0 ≤ o ∧ o < I 42 0 → ¬ zsub (en F o) (en F e) (I 42 3))) := by
  refine MS_of (ls := [lr 42, li e, lu, lu, lu]) f2_hasLeastSupport rfl rfl (Nat.le_of_ble_eq_true rfl) ?_
  refine w_aload i2_hasLeastSupport_0 rfl ?_
  refine w_iload i2_hasLeastSupport_1 rfl ?_
  refine w_cVP i2_hasLeastSupport_2 f2_support v2_support (s2_support (by omega) (by omega) hn) rfl rfl (by decide) rfl rfl (Nat.le_of_ble_eq_true rfl) (by omega) (fun v hv => ?_)
  obtain ⟨b, rfl, hb⟩ := hv
  refine w_is2 i2_hasLeastSupport_5 ?_
  refine w_const i2_hasLeastSupport_6 ?_
  refine w_is3 i2_hasLeastSupport_7 ?_
  refine l2_hls hd he hc hn hb (fun x y h => ?_) (fun x y h => ?_) (I 42 0).toNat 0 _ (by omega) (fun i hi => absurd hi (by omega))
  · refine w_const i2_hasLeastSupport_46 ?_
    refine w_iret i2_hasLeastSupport_47 (Or.inr ⟨rfl, by omega⟩) ⟨Nat.le_refl _, Nat.le_refl _⟩ ?_
    exact ⟨rfl, _, rfl, Or.inl ⟨rfl, h⟩, rfl, rfl⟩
  · refine w_const i2_hasLeastSupport_38 ?_
    refine w_iret i2_hasLeastSupport_39 (Or.inr ⟨rfl, by omega⟩) ⟨Nat.le_refl _, Nat.le_refl _⟩ ?_
    exact ⟨rfl, _, rfl, Or.inr ⟨rfl, h⟩, rfl, rfl⟩
theorem l2_copyPart {d n0 : Nat} {Q : PQ} {I : IE} {F : FE} {e s : Int} (hd : 1 ≤ d) (he : 0 ≤ e ∧ e < 16) (hs : s = 1 ∨ s = -1) (hn : 0 ≤ I 42 3 ∧ I 42 3 ≤ 4) (hE : ∀ j, -100 ≤ F 43 j ∧ F 43 j ≤ 100)
    (K : ∀ F', (∀ i, 0 ≤ i ∧ i < I 42 3 → F' 61 i = if 0 ≤ s * en F e i then s * en F e i else 0) → (∀ i, I 42 3 ≤ i → F' 61 i = F 61 i) → (∀ a, a ≠ 61 → F' a = F a) → WS m2_copyPart d 0 0 n0 Q 0 0 35 [lr 42, li e, li s, lr 61, li (I 42 3)] [] shX I F') :
    ∀ (m k : Nat) (F' : FE), (k + m : Int) = I 42 3 → (∀ i, 0 ≤ i ∧ i < (k : Int) → F' 61 i = if 0 ≤ s * en F e i then s * en F e i else 0) → (∀ i, (k : Int) ≤ i → F' 61 i = F 61 i) → (∀ a, a ≠ 61 → F' a = F a) → WS m2_copyPart d 0 0 n0 Q 0 0 3 [lr 42, li e, li s, lr 61, li k] [] shX I F' := by
  intro m
  induction m with
  | zero =>
    intro k F' hk h1 h2 h3
    have ek : (k : Int) = I 42 3 := by omega
    rw [ek] at h1 h2 ⊢
    refine w_iload i2_copyPart_3 rfl ?_
    refine w_aload i2_copyPart_5 rfl ?_
    refine w_get i2_copyPart_6 rfl rfl ?_
    refine w_icmpge i2_copyPart_9 (fun h9 => ?_) (fun h_ => absurd h_ (by omega))
    exact K F' h1 h2 h3
  | succ m ih =>
    intro k F' hk h1 h2 h3
    have hen : en F' e k = en F e k := by unfold en; rw [h3 43 (by decide)]
    have hb : -100 ≤ s * en F e k ∧ s * en F e k ≤ 100 := by
      have := hE (e * 4 + k)
      unfold en
      rcases hs with rfl | rfl <;> omega
    refine w_iload i2_copyPart_3 rfl ?_
    refine w_aload i2_copyPart_5 rfl ?_
    refine w_get i2_copyPart_6 rfl rfl ?_
    refine w_icmpge i2_copyPart_9 (fun h_ => absurd h_ (by omega)) (fun h9 => ?_)
    refine w_aload i2_copyPart_12 rfl ?_
    refine w_iload i2_copyPart_13 rfl ?_
    refine w_iload i2_copyPart_15 rfl ?_
    refine w_aload i2_copyPart_16 rfl ?_
    refine w_iload i2_copyPart_17 rfl ?_
    refine w_iload i2_copyPart_18 rfl ?_
    refine w_cVR i2_copyPart_20 f2_at v2_at (s2_at he (by omega)) rfl rfl (by decide) rfl rfl (Nat.le_of_ble_eq_true rfl) (by omega) ?_
    rw [hen]
    refine w_imul i2_copyPart_23 (by omega) ?_
    refine w_const i2_copyPart_24 ?_
    refine w_mmax i2_copyPart_25 (by omega) ⟨Nat.le_refl _, Nat.le_refl _⟩ (Nat.le_of_ble_eq_true rfl) ?_
    refine w_iast i2_copyPart_28 rfl (by omega) ?_
    refine w_ii4 i2_copyPart_29 (by omega) ?_
    refine w_goto i2_copyPart_32 ?_
    refine ih (k + 1) _ (by omega) (fun i hi => ?_) (fun i hi => ?_) (fun a ha => ?_)
    · simp only [upF, true_and]
      by_cases hik : i = k
      · subst hik
        rw [if_pos rfl]
        (repeat' split) <;> omega
      · rw [if_neg hik]; exact h1 i (by omega)
    · simp only [upF, true_and]
      rw [if_neg (by omega)]; exact h2 i (by omega)
    · funext i
      simp only [upF, ha, false_and, if_false]
      rw [h3 a ha]
theorem s2_copyPart {d : Nat} {I : IE} {F : FE} {e s : Int} (hd : 1 ≤ d) (he : 0 ≤ e ∧ e < 16) (hs : s = 1 ∨ s = -1) (hn : 0 ≤ I 42 3 ∧ I 42 3 ≤ 4) (hE : ∀ j, -100 ≤ F 43 j ∧ F 43 j ≤ 100) :
    MU m2_copyPart d shX [rv 42, iv e, iv s, rv 61] I F (fun I' F' => I' = I ∧ (∀ i, 0 ≤ i ∧ i < I 42 3 → F' 61 i = if 0 ≤ s * en F e i then s * en F e i else 0) ∧ (∀ i, I 42 3 ≤ i → F' 61 i = F 61 i) ∧ (∀ a, a ≠ 61 → F' a = F a)) := by
  refine MS_of (ls := [lr 42, li e, li s, lr 61, lu]) f2_copyPart rfl rfl (Nat.le_of_ble_eq_true rfl) ?_
  refine w_const i2_copyPart_0 ?_
  refine w_is4 i2_copyPart_1 ?_
  refine l2_copyPart (F := F) hd he hs hn hE (fun F' h1 h2 h3 => ?_) (I 42 3).toNat 0 _ (by omega) (fun i hi => absurd hi (by omega)) (fun _ _ => rfl) (fun _ _ => rfl)
  refine w_vret i2_copyPart_35 rfl ⟨Nat.le_refl _, Nat.le_refl _⟩ ?_
  exact ⟨rfl, rfl, rfl, h1, h2, h3⟩
end
section
theorem l2_iwb {d n0 : Nat} {Q : PQ} {I : IE} {F : FE} (hd : 1 ≤ d) (hn : 0 ≤ I 42 3 ∧ I 42 3 ≤ 4) (hv : ∀ j, 0 ≤ j ∧ j < 4 → -1000 ≤ F 45 j ∧ F 45 j ≤ 1000)
    (K1 : ∀ x, (∀ i, 0 ≤ i ∧ i < I 42 3 → -I 42 4 ≤ F 45 i ∧ F 45 i ≤ I 42 4) → WS m2_isWithinBound d 0 0 n0 Q 0 0 34 [lr 42, x] [] shX I F)
    (K0 : ∀ x, (¬ ∀ i, 0 ≤ i ∧ i < I 42 3 → -I 42 4 ≤ F 45 i ∧ F 45 i ≤ I 42 4) → WS m2_isWithinBound d 0 0 n0 Q 0 0 26 [lr 42, x] [] shX I F) :
    ∀ (m k : Nat), (k + m : Int) = I 42 3 → (∀ i, 0 ≤ i ∧ i < (k : Int) → -I 42 4 ≤ F 45 i ∧ F 45 i ≤ I 42 4) → WS m2_isWithinBound d 0 0 n0 Q 0 0 2 [lr 42, li k] [] shX I F := by
  intro m
  induction m with
  | zero =>
    intro k hk hP
    have ek : (k : Int) = I 42 3 := by omega
    rw [ek] at hP
    refine w_iload i2_isWithinBound_2 rfl ?_
    refine w_aload i2_isWithinBound_3 rfl ?_
    refine w_get i2_isWithinBound_4 rfl rfl ?_
    refine w_icmpge i2_isWithinBound_7 (fun h7 => ?_) (fun h_ => absurd h_ (by omega))
    exact K1 _ hP
  | succ m ih =>
    intro k hk hP
    have hb2 := hv k (by omega)
    refine w_iload i2_isWithinBound_2 rfl ?_
    refine w_aload i2_isWithinBound_3 rfl ?_
    refine w_get i2_isWithinBound_4 rfl rfl ?_
    refine w_icmpge i2_isWithinBound_7 (fun h_ => absurd h_ (by omega)) (fun h7 => ?_)
    refine w_aload i2_isWithinBound_10 rfl ?_
    refine w_getr i2_isWithinBound_11 rfl rfl ?_
    refine w_iload i2_isWithinBound_14 rfl ?_
    refine w_iald i2_isWithinBound_15 rfl (by omega) ?_
    refine w_mabs i2_isWithinBound_16 (by omega) (by omega) ⟨Nat.le_refl _, Nat.le_refl _⟩ (Nat.le_of_ble_eq_true rfl) ?_
    refine w_aload i2_isWithinBound_19 rfl ?_
    refine w_get i2_isWithinBound_20 rfl rfl ?_
    refine w_icmple i2_isWithinBound_23 (fun h23 => ?_) (fun h23 => ?_)
    · refine w_ii1 i2_isWithinBound_28 (by omega) ?_
      refine w_goto i2_isWithinBound_31 ?_
      refine ih (k + 1) (by omega) (fun i hi => ?_)
      by_cases hik : i = k
      · subst hik; (repeat' split at h23) <;> omega
      · exact hP i (by omega)
    · refine K0 _ (fun h => ?_)
      have := h k (by omega)
      (repeat' split at h23) <;> omega
theorem s2_isWithinBound {d : Nat} {I : IE} {F : FE} (hd : 1 ≤ d) (hn : 0 ≤ I 42 3 ∧ I 42 3 ≤ 4) (hv : ∀ j, 0 ≤ j ∧ j < 4 → -1000 ≤ F 45 j ∧ F 45 j ≤ 1000) :
    MP m2_isWithinBound d shX [rv 42] I F (tf (∀ i, 0 ≤ i ∧ i < I 42 3 → -I 42 4 ≤ F 45 i ∧ F 45 i ≤ I 42 4)) := by
  refine MS_of (ls := [lr 42, lu]) f2_isWithinBound rfl rfl (Nat.le_of_ble_eq_true rfl) ?_
  refine w_const i2_isWithinBound_0 ?_
  refine w_is1 i2_isWithinBound_1 ?_
  refine l2_iwb hd hn hv (fun x h => ?_) (fun x h => ?_) (I 42 3).toNat 0 (by omega) (fun i hi => absurd hi (by omega))
  · refine w_const i2_isWithinBound_34 ?_
    refine w_iret i2_isWithinBound_35 (Or.inr ⟨rfl, by omega⟩) ⟨Nat.le_refl _, Nat.le_refl _⟩ ?_
    exact ⟨rfl, _, rfl, Or.inl ⟨rfl, h⟩, rfl, rfl⟩
  · refine w_const i2_isWithinBound_26 ?_
    refine w_iret i2_isWithinBound_27 (Or.inr ⟨rfl, by omega⟩) ⟨Nat.le_refl _, Nat.le_refl _⟩ ?_
    exact ⟨rfl, _, rfl, Or.inr ⟨rfl, h⟩, rfl, rfl⟩
/-- the first entry other than 0 is positive -/
def lead (f : Int → Int) (n : Int) : Prop := ∃ k, 0 ≤ k ∧ k < n ∧ (∀ i, 0 ≤ i ∧ i < k → f i = 0) ∧ 0 < f k
theorem l2_leads {d n0 : Nat} {Q : PQ} {I : IE} {F : FE} (hn : 0 ≤ I 42 3 ∧ I 42 3 ≤ 4)
    (K : ∀ x v, tf (lead (F 45) (I 42 3)) v → WS m2_leads d 0 0 n0 Q 0 0 33 [lr 42, x] [.inl v] shX I F)
    (K4 : ∀ x, ¬ lead (F 45) (I 42 3) → WS m2_leads d 0 0 n0 Q 0 0 40 [lr 42, x] [] shX I F) :
    ∀ (m k : Nat), (k + m : Int) = I 42 3 → (∀ i, 0 ≤ i ∧ i < (k : Int) → F 45 i = 0) → WS m2_leads d 0 0 n0 Q 0 0 2 [lr 42, li k] [] shX I F := by
  intro m
  induction m with
  | zero =>
    intro k hk hP
    have ek : (k : Int) = I 42 3 := by omega
    rw [ek] at hP
    refine w_iload i2_leads_2 rfl ?_
    refine w_aload i2_leads_3 rfl ?_
    refine w_get i2_leads_4 rfl rfl ?_
    refine w_icmpge i2_leads_7 (fun h7 => ?_) (fun h_ => absurd h_ (by omega))
    refine K4 _ (fun ⟨q, h1, h2, h3, h4⟩ => ?_)
    have := hP q ⟨h1, h2⟩
    omega
  | succ m ih =>
    intro k hk hP
    refine w_iload i2_leads_2 rfl ?_
    refine w_aload i2_leads_3 rfl ?_
    refine w_get i2_leads_4 rfl rfl ?_
    refine w_icmpge i2_leads_7 (fun h_ => absurd h_ (by omega)) (fun h7 => ?_)
    refine w_aload i2_leads_10 rfl ?_
    refine w_getr i2_leads_11 rfl rfl ?_
    refine w_iload i2_leads_14 rfl ?_
    refine w_iald i2_leads_15 rfl (by omega) ?_
    refine w_ifeq i2_leads_16 (fun h16 => ?_) (fun h16 => ?_)
    · refine w_ii1 i2_leads_34 (by omega) ?_
      refine w_goto i2_leads_37 ?_
      refine ih (k + 1) (by omega) (fun i hi => ?_)
      by_cases hik : i = k
      · subst hik; exact h16
      · exact hP i (by omega)
    · refine w_aload i2_leads_19 rfl ?_
      refine w_getr i2_leads_20 rfl rfl ?_
      refine w_iload i2_leads_23 rfl ?_
      refine w_iald i2_leads_24 rfl (by omega) ?_
      refine w_ifle i2_leads_25 (fun h25 => ?_) (fun h25 => ?_)
      · refine w_const i2_leads_32 ?_
        first
        | exact K _ _ (Or.inl ⟨rfl, k, by omega, by omega, hP, h25⟩)
        | (refine K _ _ (Or.inr ⟨rfl, fun ⟨q, h1, h2, h3, h4⟩ => ?_⟩)
           rcases Int.lt_trichotomy q k with h | h | h
           · have := hP q ⟨h1, h⟩; omega
           · subst h; omega
           · exact h16 (h3 k (by omega)))
      · refine w_const i2_leads_28 ?_
        refine w_goto i2_leads_29 ?_
        first
        | exact K _ _ (Or.inl ⟨rfl, k, by omega, by omega, hP, h25⟩)
        | (refine K _ _ (Or.inr ⟨rfl, fun ⟨q, h1, h2, h3, h4⟩ => ?_⟩)
           rcases Int.lt_trichotomy q k with h | h | h
           · have := hP q ⟨h1, h⟩; omega
           · subst h; omega
           · exact h16 (h3 k (by omega)))
theorem s2_leads {d : Nat} {I : IE} {F : FE} (hn : 0 ≤ I 42 3 ∧ I 42 3 ≤ 4) : MP m2_leads d shX [rv 42] I F (tf (lead (F 45) (I 42 3))) := by
  refine MS_of (ls := [lr 42, lu]) f2_leads rfl rfl (Nat.le_of_ble_eq_true rfl) ?_
  refine w_const i2_leads_0 ?_
  refine w_is1 i2_leads_1 ?_
  refine l2_leads hn (fun x v h => ?_) (fun x h => ?_) (I 42 3).toNat 0 (by omega) (fun i hi => absurd hi (by omega))
  · refine w_iret i2_leads_33 (Or.inr ⟨rfl, by rcases h with h | h <;> omega⟩) ⟨Nat.le_refl _, Nat.le_refl _⟩ ?_
    exact ⟨rfl, v, rfl, h, rfl, rfl⟩
  · refine w_const i2_leads_40 ?_
    refine w_iret i2_leads_41 (Or.inr ⟨rfl, by omega⟩) ⟨Nat.le_refl _, Nat.le_refl _⟩ ?_
    exact ⟨rfl, _, rfl, Or.inr ⟨rfl, h⟩, rfl, rfl⟩
theorem shor {c b : Int} {k : Nat} (hc : 0 ≤ c) (hk : k < 31) (h : c * 2 ^ k + 2 ^ k ≤ 2147483648) (hb : 0 ≤ b ∧ b < 2 ^ k) : borI (shlI c k) b = c * 2 ^ k + b := by
  rw [shlI_eq hc hk (by omega)]
  obtain ⟨x, rfl⟩ : ∃ x : Nat, c = (x : Int) := ⟨c.toNat, by omega⟩
  obtain ⟨y, rfl⟩ : ∃ y : Nat, b = (y : Int) := ⟨b.toNat, by omega⟩
  have e : (x : Int) * 2 ^ k = ((2 ^ k * x : Nat) : Int) := by push_cast; rw [Int.mul_comm]
  have ek : (2 : Int) ^ k = ((2 ^ k : Nat) : Int) := by push_cast; rfl
  rw [e] at h ⊢
  rw [ek] at h hb
  have hy : y < 2 ^ k := by omega
  rw [borI_nat (by omega) (by omega), ← Nat.two_pow_add_eq_or_of_lt hy]
  push_cast
  rfl
def ab (x : Int) : Int := if 0 ≤ x then x else -x
def asum (f : Int → Int) : Nat → Int
  | 0 => 0
  | k + 1 => asum f k + ab (f k)
def ccode (f : Int → Int) : Nat → Int
  | 0 => 0
  | k + 1 => ccode f k * 32 + (9 - f k)
/-- the number of a vector in the order of the elements -/
def kc (f : Int → Int) : Int := asum f 4 * 1048576 + ccode f 4
theorem ab_b {x B : Int} (h : -B ≤ x ∧ x ≤ B) : 0 ≤ ab x ∧ ab x ≤ B := by unfold ab; split <;> omega
theorem l2_encode {d n0 : Nat} {Q : PQ} {I : IE} {F : FE} (hd : 1 ≤ d) (hv : ∀ j, 0 ≤ j ∧ j < 4 → -9 ≤ F 45 j ∧ F 45 j ≤ 9)
    (K : WS m2_encode d 0 0 n0 Q 0 0 43 [lr 42, li (asum (F 45) 4), li (ccode (F 45) 4), li 4] [] shX I F) :
    ∀ (m k : Nat), k + m = 4 → 0 ≤ asum (F 45) k ∧ asum (F 45) k ≤ 9 * k → 0 ≤ ccode (F 45) k ∧ ccode (F 45) k < 32 ^ k → WS m2_encode d 0 0 n0 Q 0 0 6 [lr 42, li (asum (F 45) k), li (ccode (F 45) k), li k] [] shX I F := by
  intro m
  induction m with
  | zero =>
    intro k hk h1 h2
    obtain rfl : k = 4 := by omega
    refine w_iload i2_encode_6 rfl ?_
    refine w_const i2_encode_7 ?_
    refine w_icmpge i2_encode_8 (fun h8 => ?_) (fun h_ => absurd h_ (by omega))
    exact K
  | succ m ih =>
    intro k hk h1 h2
    have hb := hv k (by omega)
    have hab := ab_b hb
    have hp : (32 : Int) ^ k ≤ 32 ^ 3 := by
      rcases (show k = 0 ∨ k = 1 ∨ k = 2 ∨ k = 3 by omega) with rfl | rfl | rfl | rfl <;> decide
    have e1 : borI (shlI (ccode (F 45) k) 5) (9 - F 45 k) = ccode (F 45) k * 2 ^ 5 + (9 - F 45 k) := shor (k := 5) h2.1 (by decide) (by omega) (by omega)
    have e2 : (32 : Int) ^ (k + 1) = 32 ^ k * 32 := by rw [Int.pow_succ]
    refine w_iload i2_encode_6 rfl ?_
    refine w_const i2_encode_7 ?_
    refine w_icmpge i2_encode_8 (fun h_ => absurd h_ (by omega)) (fun h8 => ?_)
    refine w_iload i2_encode_11 rfl ?_
    refine w_aload i2_encode_12 rfl ?_
    refine w_getr i2_encode_13 rfl rfl ?_
    refine w_iload i2_encode_16 rfl ?_
    refine w_iald i2_encode_17 rfl (by omega) ?_
    refine w_mabs i2_encode_18 (by omega) (by omega) ⟨Nat.le_refl _, Nat.le_refl _⟩ (Nat.le_of_ble_eq_true rfl) ?_
    refine w_iadd i2_encode_21 ((by have h3 := hab; unfold ab at h3; constructor <;> omega)) ?_
    refine w_is1 i2_encode_22 ?_
    refine w_iload i2_encode_23 rfl ?_
    refine w_const i2_encode_24 ?_
    refine w_ishl i2_encode_25 ?_
    refine w_const i2_encode_26 ?_
    refine w_aload i2_encode_28 rfl ?_
    refine w_getr i2_encode_29 rfl rfl ?_
    refine w_iload i2_encode_32 rfl ?_
    refine w_iald i2_encode_33 rfl (by omega) ?_
    refine w_isub i2_encode_34 (by omega) ?_
    refine w_ior i2_encode_35 ?_
    rw [e1]
    refine w_is2 i2_encode_36 ?_
    refine w_ii3 i2_encode_37 (by omega) ?_
    refine w_goto i2_encode_40 ?_
    have e3 : asum (F 45) (k + 1) = asum (F 45) k + ab (F 45 k) := rfl
    have e4 : ccode (F 45) (k + 1) = ccode (F 45) k * 32 + (9 - F 45 k) := rfl
    exact ih (k + 1) (by omega) (by rw [e3]; omega) (by rw [e4, e2]; omega)
theorem kc_b {f : Int → Int} (hv : ∀ j, 0 ≤ j ∧ j < 4 → -9 ≤ f j ∧ f j ≤ 9) : 0 ≤ asum f 4 ∧ asum f 4 ≤ 36 ∧ 0 ≤ ccode f 4 ∧ ccode f 4 < 1048576 := by
  have h0 := ab_b (hv 0 (by decide)); have h1 := ab_b (hv 1 (by decide)); have h2 := ab_b (hv 2 (by decide)); have h3 := ab_b (hv 3 (by decide))
  have g0 := hv 0 (by decide); have g1 := hv 1 (by decide); have g2 := hv 2 (by decide); have g3 := hv 3 (by decide)
  have e : asum f 4 = 0 + ab (f 0) + ab (f 1) + ab (f 2) + ab (f 3) := rfl
  have e2 : ccode f 4 = (((0 * 32 + (9 - f 0)) * 32 + (9 - f 1)) * 32 + (9 - f 2)) * 32 + (9 - f 3) := rfl
  rw [e, e2]
  omega
theorem s2_encode {d : Nat} {I : IE} {F : FE} (hd : 1 ≤ d) (hv : ∀ j, 0 ≤ j ∧ j < 4 → -9 ≤ F 45 j ∧ F 45 j ≤ 9) : MR m2_encode d shX [rv 42] I F (kc (F 45)) := by
  have hb := kc_b hv
  have e1 : borI (shlI (asum (F 45) 4) 20) (ccode (F 45) 4) = asum (F 45) 4 * 2 ^ 20 + ccode (F 45) 4 := shor (k := 20) hb.1 (by decide) (by omega) (by omega)
  have e2 : asum (F 45) 4 * 2 ^ 20 + ccode (F 45) 4 = kc (F 45) := by unfold kc; omega
  refine MS_of (ls := [lr 42, lu, lu, lu]) f2_encode rfl rfl (Nat.le_of_ble_eq_true rfl) ?_
  refine w_const i2_encode_0 ?_
  refine w_is1 i2_encode_1 ?_
  refine w_const i2_encode_2 ?_
  refine w_is2 i2_encode_3 ?_
  refine w_const i2_encode_4 ?_
  refine w_is3 i2_encode_5 ?_
  refine l2_encode hd hv ?_ 4 0 (by decide) (by simp [asum]) (by simp [ccode])
  refine w_iload i2_encode_43 rfl ?_
  refine w_const i2_encode_44 ?_
  refine w_ishl i2_encode_46 ?_
  refine w_iload i2_encode_47 rfl ?_
  refine w_ior i2_encode_48 ?_
  rw [e1, e2]
  refine w_iret i2_encode_49 (Or.inl rfl) ⟨Nat.le_refl _, Nat.le_refl _⟩ ?_
  exact ⟨rfl, rfl, rfl, rfl⟩
theorem band31 {x : Int} (h : 0 ≤ x ∧ x < 2147483648) : bandI x 31 = x % 32 := by
  obtain ⟨n, rfl⟩ : ∃ n : Nat, x = (n : Int) := ⟨x.toNat, by omega⟩
  have := bandI_nat (a := n) (b := 31) (by omega) (by decide)
  rw [Nat.and_two_pow_sub_one_eq_mod n 5] at this
  rw [show bandI (n : Int) 31 = bandI (n : Int) ((31 : Nat) : Int) from rfl, this]
  push_cast
  rfl
theorem dec_at {f : Int → Int} (hv : ∀ j, 0 ≤ j ∧ j < 4 → -9 ≤ f j ∧ f j ≤ 9) {k : Nat} (hk : k < 4) : 9 - bandI (shrI (kc f) (5 * (3 - (k : Int)))) 31 = f k := by
  have hb := kc_b hv
  have hkc : kc f = asum f 4 * 1048576 + ccode f 4 := rfl
  have g0 := hv 0 (by decide); have g1 := hv 1 (by decide); have g2 := hv 2 (by decide); have g3 := hv 3 (by decide)
  have e2 : ccode f 4 = (((0 * 32 + (9 - f 0)) * 32 + (9 - f 1)) * 32 + (9 - f 2)) * 32 + (9 - f 3) := rfl
  have key : ∀ q : Nat, q < 31 → shrI (kc f) (q : Int) = kc f / 2 ^ q := fun q hq => shrI_eq ⟨by omega, by omega⟩ hq
  rcases (show k = 0 ∨ k = 1 ∨ k = 2 ∨ k = 3 by omega) with rfl | rfl | rfl | rfl
  · have := key 15 (by decide)
    rw [show (5 * (3 - ((0 : Nat) : Int))) = ((15 : Nat) : Int) by decide, this, band31 (by omega)]
    simp only [Int.natCast_zero] 
    omega
  · have := key 10 (by decide)
    rw [show (5 * (3 - ((1 : Nat) : Int))) = ((10 : Nat) : Int) by decide, this, band31 (by omega)]
    show 9 - _ = f 1
    omega
  · have := key 5 (by decide)
    rw [show (5 * (3 - ((2 : Nat) : Int))) = ((5 : Nat) : Int) by decide, this, band31 (by omega)]
    show 9 - _ = f 2
    omega
  · have := key 0 (by decide)
    rw [show (5 * (3 - ((3 : Nat) : Int))) = ((0 : Nat) : Int) by decide, this, band31 (by omega)]
    show 9 - _ = f 3
    omega
theorem l2_decode {d n0 : Nat} {Q : PQ} {I : IE} {F : FE} {f : Int → Int} (hv : ∀ j, 0 ≤ j ∧ j < 4 → -9 ≤ f j ∧ f j ≤ 9)
    (K : ∀ F', (∀ i, 0 ≤ i ∧ i < 4 → F' 45 i = f i) → (∀ a, a ≠ 45 → F' a = F a) → WS m2_decode d 0 0 n0 Q 0 0 32 [lr 42, li (kc f), li 4] [] shX I F') :
    ∀ (m k : Nat) (F' : FE), k + m = 4 → (∀ i, 0 ≤ i ∧ i < (k : Int) → F' 45 i = f i) → (∀ a, a ≠ 45 → F' a = F a) → WS m2_decode d 0 0 n0 Q 0 0 2 [lr 42, li (kc f), li k] [] shX I F' := by
  intro m
  induction m with
  | zero =>
    intro k F' hk h1 h2
    obtain rfl : k = 4 := by omega
    refine w_iload i2_decode_2 rfl ?_
    refine w_const i2_decode_3 ?_
    refine w_icmpge i2_decode_4 (fun h4 => ?_) (fun h_ => absurd h_ (by omega))
    exact K F' h1 h2
  | succ m ih =>
    intro k F' hk h1 h2
    have hk4 : k < 4 := by omega
    have hd := dec_at hv hk4
    have hfk := hv k (by omega)
    refine w_iload i2_decode_2 rfl ?_
    refine w_const i2_decode_3 ?_
    refine w_icmpge i2_decode_4 (fun h_ => absurd h_ (by omega)) (fun h4 => ?_)
    refine w_aload i2_decode_7 rfl ?_
    refine w_getr i2_decode_8 rfl rfl ?_
    refine w_iload i2_decode_11 rfl ?_
    refine w_const i2_decode_12 ?_
    refine w_iload i2_decode_14 rfl ?_
    refine w_const i2_decode_15 ?_
    refine w_const i2_decode_16 ?_
    refine w_iload i2_decode_17 rfl ?_
    refine w_isub i2_decode_18 (by omega) ?_
    refine w_imul i2_decode_19 (by omega) ?_
    refine w_ishr i2_decode_20 ?_
    refine w_const i2_decode_21 ?_
    refine w_iand i2_decode_23 ?_
    refine w_isub i2_decode_24 (by omega) ?_
    refine w_iast i2_decode_25 rfl (by omega) ?_
    refine w_ii2 i2_decode_26 (by omega) ?_
    refine w_goto i2_decode_29 ?_
    refine ih (k + 1) _ (by omega) (fun i hi => ?_) (fun a ha => ?_)
    · simp only [upF, true_and]
      by_cases hik : i = k
      · subst hik; rw [if_pos rfl]; exact hd
      · rw [if_neg hik]; exact h1 i (by omega)
    · funext i
      simp only [upF, ha, false_and, if_false]
      rw [h2 a ha]
theorem s2_decode {d : Nat} {I : IE} {F : FE} {f : Int → Int} (hv : ∀ j, 0 ≤ j ∧ j < 4 → -9 ≤ f j ∧ f j ≤ 9) : MU m2_decode d shX [rv 42, iv (kc f)] I F (fun I' F' => I' = I ∧ (∀ i, 0 ≤ i ∧ i < 4 → F' 45 i = f i) ∧ ∀ a, a ≠ 45 → F' a = F a) := by
  refine MS_of (ls := [lr 42, li (kc f), lu]) f2_decode rfl rfl (Nat.le_of_ble_eq_true rfl) ?_
  refine w_const i2_decode_0 ?_
  refine w_is2 i2_decode_1 ?_
  refine l2_decode (F := F) hv (fun F' h1 h2 => ?_) 4 0 _ (by decide) (fun i hi => absurd hi (by omega)) (fun _ _ => rfl)
  refine w_vret i2_decode_32 rfl ⟨Nat.le_refl _, Nat.le_refl _⟩ ?_
  exact ⟨rfl, rfl, rfl, h1, h2⟩
theorem s2_takePivot {d : Nat} {I : IE} {F : FE} {r c v : Int} : MU m2_takePivot d shX [rv 42, iv r, iv c, iv v] I F (fun I' F' => F' = F ∧ I' = upI (upI (upI (upI (upI I 42 1 1) 42 4 3) 42 7 r) 42 5 c) 42 8 v) := by
  refine MS_of (ls := [lr 42, li r, li c, li v]) f2_takePivot rfl rfl (Nat.le_of_ble_eq_true rfl) ?_
  refine w_aload i2_takePivot_0 rfl ?_
  refine w_const i2_takePivot_1 ?_
  refine w_put i2_takePivot_2 rfl rfl (Or.inl rfl) ?_
  refine w_aload i2_takePivot_5 rfl ?_
  refine w_const i2_takePivot_6 ?_
  refine w_put i2_takePivot_7 rfl rfl (Or.inl rfl) ?_
  refine w_aload i2_takePivot_10 rfl ?_
  refine w_iload i2_takePivot_11 rfl ?_
  refine w_put i2_takePivot_12 rfl rfl (Or.inl rfl) ?_
  refine w_aload i2_takePivot_15 rfl ?_
  refine w_iload i2_takePivot_16 rfl ?_
  refine w_put i2_takePivot_17 rfl rfl (Or.inl rfl) ?_
  refine w_aload i2_takePivot_20 rfl ?_
  refine w_iload i2_takePivot_21 rfl ?_
  refine w_put i2_takePivot_22 rfl rfl (Or.inl rfl) ?_
  refine w_vret i2_takePivot_25 rfl ⟨Nat.le_refl _, Nat.le_refl _⟩ ?_
  exact ⟨rfl, rfl, rfl, rfl⟩
theorem s2_takePivots {d : Nat} {I : IE} {F : FE} {r c v : Int} : MU m2_takePivots d shX [rv 42, iv r, iv c, iv v] I F (fun I' F' => F' = F ∧ I' = upI (upI (upI (upI (upI I 42 1 2) 42 4 9) 42 5 r) 42 6 c) 42 8 v) := by
  refine MS_of (ls := [lr 42, li r, li c, li v]) f2_takePivots rfl rfl (Nat.le_of_ble_eq_true rfl) ?_
  refine w_aload i2_takePivots_0 rfl ?_
  refine w_const i2_takePivots_1 ?_
  refine w_put i2_takePivots_2 rfl rfl (Or.inl rfl) ?_
  refine w_aload i2_takePivots_5 rfl ?_
  refine w_const i2_takePivots_6 ?_
  refine w_put i2_takePivots_8 rfl rfl (Or.inl rfl) ?_
  refine w_aload i2_takePivots_11 rfl ?_
  refine w_iload i2_takePivots_12 rfl ?_
  refine w_put i2_takePivots_13 rfl rfl (Or.inl rfl) ?_
  refine w_aload i2_takePivots_16 rfl ?_
  refine w_iload i2_takePivots_17 rfl ?_
  refine w_put i2_takePivots_18 rfl rfl (Or.inl rfl) ?_
  refine w_aload i2_takePivots_21 rfl ?_
  refine w_iload i2_takePivots_22 rfl ?_
  refine w_put i2_takePivots_23 rfl rfl (Or.inl rfl) ?_
  refine w_vret i2_takePivots_26 rfl ⟨Nat.le_refl _, Nat.le_refl _⟩ ?_
  exact ⟨rfl, rfl, rfl, rfl⟩
/-- where a number goes in among sorted ones -/
def Ins (f g : Int → Int) (c : Int) (x : Int) (q : Int) : Prop := 0 ≤ q ∧ q ≤ c ∧ (∀ j, 0 ≤ j ∧ j < q → g j = f j ∧ f j ≤ x) ∧ g q = x ∧ ∀ j, q ≤ j ∧ j < c → g (j + 1) = f j ∧ x < f j
theorem l2_ins {d n0 : Nat} {Q : PQ} {I : IE} {F : FE} {x : Int} (hc : 0 ≤ I 42 13 ∧ I 42 13 < 192) (hsrt : ∀ i j, 0 ≤ i ∧ i ≤ j ∧ j < I 42 13 → F 46 i ≤ F 46 j)
    (K : ∀ F' q, 0 ≤ q ∧ q ≤ I 42 13 → (∀ j, 0 ≤ j ∧ j < q → F' 46 j = F 46 j ∧ F 46 j ≤ x) → (∀ j, q ≤ j ∧ j < I 42 13 → F' 46 (j + 1) = F 46 j ∧ x < F 46 j) → (∀ a, a ≠ 46 → F' a = F a) → WS m2_insertCandidate d 0 0 n0 Q 0 0 52 [lr 42, li x, li q] [] shX I F') :
    ∀ (k : Nat) (F' : FE), (k : Int) ≤ I 42 13 → (∀ j, 0 ≤ j ∧ j < (k : Int) → F' 46 j = F 46 j) → (∀ j, (k : Int) ≤ j ∧ j < I 42 13 → F' 46 (j + 1) = F 46 j ∧ x < F 46 j) → (∀ a, a ≠ 46 → F' a = F a) → WS m2_insertCandidate d 0 0 n0 Q 0 0 16 [lr 42, li x, li k] [] shX I F' := by
  intro k
  induction k with
  | zero =>
    intro F' hk h1 h2 h3
    refine w_iload i2_insertCandidate_16 rfl ?_
    refine w_ifle i2_insertCandidate_17 (fun h17 => ?_) (fun h_ => absurd h_ (by omega))
    exact K F' 0 (by omega) (fun j hj => absurd hj (by omega)) (fun j hj => h2 j (by omega)) h3
  | succ k ih =>
    intro F' hk h1 h2 h3
    have e1 : ((k + 1 : Nat) : Int) - 1 = k := by omega
    refine w_iload i2_insertCandidate_16 rfl ?_
    refine w_ifle i2_insertCandidate_17 (fun h_ => absurd h_ (by omega)) (fun h17 => ?_)
    refine w_aload i2_insertCandidate_20 rfl ?_
    refine w_getr i2_insertCandidate_21 rfl rfl ?_
    refine w_iload i2_insertCandidate_24 rfl ?_
    refine w_const i2_insertCandidate_25 ?_
    refine w_isub i2_insertCandidate_26 (by omega) ?_
    rw [e1]
    refine w_iald i2_insertCandidate_27 rfl (by omega) ?_
    refine w_iload i2_insertCandidate_28 rfl ?_
    refine w_icmple i2_insertCandidate_29 (fun h29 => ?_) (fun h29 => ?_)
    · refine K F' ((k + 1 : Nat) : Int) (by omega) (fun j hj => ⟨h1 j hj, ?_⟩) (fun j hj => h2 j hj) h3
      have := hsrt j k (by omega)
      have := h1 k (by omega)
      omega
    · refine w_aload i2_insertCandidate_32 rfl ?_
      refine w_getr i2_insertCandidate_33 rfl rfl ?_
      refine w_iload i2_insertCandidate_36 rfl ?_
      refine w_aload i2_insertCandidate_37 rfl ?_
      refine w_getr i2_insertCandidate_38 rfl rfl ?_
      refine w_iload i2_insertCandidate_41 rfl ?_
      refine w_const i2_insertCandidate_42 ?_
      refine w_isub i2_insertCandidate_43 (by omega) ?_
      rw [e1]
      refine w_iald i2_insertCandidate_44 rfl (by omega) ?_
      refine w_iast i2_insertCandidate_45 rfl (by omega) ?_
      refine w_ii2 i2_insertCandidate_46 (by omega) ?_
      refine w_goto i2_insertCandidate_49 ?_
      have e2 : ((k + 1 : Nat) : Int) + -1 = (k : Nat) := by omega
      rw [e2]
      refine ih _ (by omega) (fun j hj => ?_) (fun j hj => ?_) (fun a ha => ?_)
      · simp only [upF, true_and]
        rw [if_neg (by omega)]
        exact h1 j (by omega)
      · simp only [upF, true_and]
        by_cases hjk : j = k
        · subst hjk
          rw [if_pos (by omega)]
          have := h1 k (by omega)
          exact ⟨this, by omega⟩
        · rw [if_neg (by omega)]
          exact h2 j (by omega)
      · funext i
        simp only [upF, ha, false_and, if_false]
        rw [h3 a ha]
theorem s2_insertCandidate {d : Nat} {I : IE} {F : FE} {x : Int} (hc : 0 ≤ I 42 13 ∧ I 42 13 < 192) (hsrt : ∀ i j, 0 ≤ i ∧ i ≤ j ∧ j < I 42 13 → F 46 i ≤ F 46 j) :
    MU m2_insertCandidate d shX [rv 42, iv x] I F (fun I' F' => I' = upI I 42 13 (I 42 13 + 1) ∧ (∃ q, Ins (F 46) (F' 46) (I 42 13) x q) ∧ ∀ a, a ≠ 46 → F' a = F a) := by
  obtain ⟨k, hk⟩ : ∃ k : Nat, I 42 13 = (k : Int) := ⟨(I 42 13).toNat, by omega⟩
  refine MS_of (ls := [lr 42, li x, lu]) f2_insertCandidate rfl rfl (Nat.le_of_ble_eq_true rfl) ?_
  refine w_aload i2_insertCandidate_0 rfl ?_
  refine w_get i2_insertCandidate_1 rfl rfl ?_
  refine w_const i2_insertCandidate_4 ?_
  refine w_icmplt i2_insertCandidate_7 (fun h7 => ?_) (fun h_ => absurd h_ (by omega))
  refine w_aload i2_insertCandidate_11 rfl ?_
  refine w_get i2_insertCandidate_12 rfl rfl ?_
  refine w_is2 i2_insertCandidate_15 ?_
  refine Eq.mp (congrArg (fun z => WS m2_insertCandidate d 0 0 _ _ 0 0 16 [lr 42, li x, li z] [] shX I F) hk.symm) ?_
  refine l2_ins hc hsrt (fun F' q hq h1 h2 h3 => ?_) k F (by omega) (fun _ _ => rfl) (fun j hj => absurd hj (by omega)) (fun _ _ => rfl)
  refine w_aload i2_insertCandidate_52 rfl ?_
  refine w_getr i2_insertCandidate_53 rfl rfl ?_
  refine w_iload i2_insertCandidate_56 rfl ?_
  refine w_iload i2_insertCandidate_57 rfl ?_
  refine w_iast i2_insertCandidate_58 rfl (by omega) ?_
  refine w_aload i2_insertCandidate_59 rfl ?_
  refine w_dup i2_insertCandidate_60 ?_
  refine w_get i2_insertCandidate_61 rfl rfl ?_
  refine w_const i2_insertCandidate_64 ?_
  refine w_iadd i2_insertCandidate_65 (by omega) ?_
  refine w_put i2_insertCandidate_66 rfl rfl (Or.inl rfl) ?_
  refine w_vret i2_insertCandidate_69 rfl ⟨Nat.le_refl _, Nat.le_refl _⟩ ?_
  refine ⟨rfl, rfl, rfl, ⟨q, hq.1, hq.2, fun j hj => ?_, ?_, fun j hj => ?_⟩, fun a ha => ?_⟩
  · simp only [upF, true_and]; rw [if_neg (by omega)]; exact h1 j hj
  · simp [upF]
  · simp only [upF, true_and]; rw [if_neg (by omega)]; exact h2 j hj
  · funext i
    simp only [upF, ha, false_and, if_false]
    rw [h3 a ha]
end
section
def mnr (M : Int → Int) (a b : Int) : Int := M a * M (4 + b) - M (4 + a) * M b
def PV0 (M : Int → Int) (n : Int) (I : IE) : Prop := I 42 1 = 0 ∧ I 42 4 = 1 ∧ I 42 5 = -1 ∧ I 42 6 = -1 ∧ I 42 8 = 0 ∧ ∀ c, 0 ≤ c ∧ c < n → M c = 0 ∧ M (4 + c) = 0
def PV1 (M : Int → Int) (n : Int) (I : IE) : Prop := I 42 1 = 1 ∧ I 42 4 = 3 ∧ I 42 6 = -1 ∧ (0 ≤ I 42 7 ∧ I 42 7 ≤ 1) ∧ (0 ≤ I 42 5 ∧ I 42 5 < n) ∧ I 42 8 = M (I 42 7 * 4 + I 42 5) ∧ I 42 8 ≠ 0
def PV2 (M : Int → Int) (n : Int) (I : IE) : Prop := I 42 1 = 2 ∧ I 42 4 = 9 ∧ 0 ≤ I 42 5 ∧ I 42 5 < I 42 6 ∧ I 42 6 < n ∧ I 42 8 = mnr M (I 42 5) (I 42 6) ∧ I 42 8 ≠ 0
def PVs (M : Int → Int) (n : Int) (I : IE) : Prop := PV0 M n I ∨ (PV1 M n I ∧ ∀ a b, 0 ≤ a ∧ a < b ∧ b < n → mnr M a b = 0) ∨ PV2 M n I
def Pfr (I I' : IE) : Prop := ∀ a k, (a ≠ 42 ∨ k = 0 ∨ k = 2 ∨ k = 3 ∨ 9 ≤ k) → I' a k = I a k
theorem Pfr.p1 {I I' : IE} {r c v : Int} (h : Pfr I I') : Pfr I (upI (upI (upI (upI (upI I' 42 1 1) 42 4 3) 42 7 r) 42 5 c) 42 8 v) := fun a k hk => by
  rw [← h a k hk]
  simp only [upI]
  (repeat' split) <;> first | rfl | omega
theorem Pfr.p2 {I I' : IE} {r c v : Int} (h : Pfr I I') : Pfr I (upI (upI (upI (upI (upI I' 42 1 2) 42 4 9) 42 5 r) 42 6 c) 42 8 v) := fun a k hk => by
  rw [← h a k hk]
  simp only [upI]
  (repeat' split) <;> first | rfl | omega
theorem l2_cpA1 {d n0 : Nat} {Q : PQ} {I : IE} {F : FE} {c : Int} (hd : 1 ≤ d) (hn : 0 ≤ I 42 3 ∧ I 42 3 ≤ 4) (hc : 0 ≤ c ∧ c < I 42 3) (hM : ∀ j, 0 ≤ F 2 j ∧ F 2 j ≤ 3)
    (K : ∀ x I', Pfr I I' → (PV0 (F 2) (c + 1) I' ∨ PV1 (F 2) (I 42 3) I') → WS m2_choosePivots d 0 0 n0 Q 0 0 69 [lr 42, lr 1, li c, x] [] shX I' F) :
    ∀ (m k : Nat) (I' : IE), k + m = 2 → Pfr I I' → ((PV0 (F 2) c I' ∧ ∀ r, 0 ≤ r ∧ r < (k : Int) → F 2 (r * 4 + c) = 0) ∨ PV1 (F 2) (I 42 3) I') → WS m2_choosePivots d 0 0 n0 Q 0 0 37 [lr 42, lr 1, li c, li k] [] shX I' F := by
  intro m
  induction m with
  | zero =>
    intro k I' hk hf hP
    obtain rfl : k = 2 := by omega
    refine w_iload i2_choosePivots_37 rfl ?_
    refine w_const i2_choosePivots_38 ?_
    refine w_icmpge i2_choosePivots_39 (fun h39 => ?_) (fun h_ => absurd h_ (by omega))
    refine K _ I' hf ?_
    rcases hP with ⟨h1, h2⟩ | h1
    · refine Or.inl ⟨h1.1, h1.2.1, h1.2.2.1, h1.2.2.2.1, h1.2.2.2.2.1, fun c' hc' => ?_⟩
      by_cases h : c' = c
      · subst h
        have g0 := h2 0 (by decide)
        have g1 := h2 1 (by decide)
        rw [show (0 : Int) * 4 + c' = c' by omega] at g0
        rw [show (1 : Int) * 4 + c' = 4 + c' by omega] at g1
        exact ⟨g0, g1⟩
      · exact h1.2.2.2.2.2 c' (by omega)
    · exact Or.inr h1
  | succ m ih =>
    intro k I' hk hf hP
    refine w_iload i2_choosePivots_37 rfl ?_
    refine w_const i2_choosePivots_38 ?_
    refine w_icmpge i2_choosePivots_39 (fun h_ => absurd h_ (by omega)) (fun h39 => ?_)
    refine w_aload i2_choosePivots_42 rfl ?_
    refine w_iload i2_choosePivots_43 rfl ?_
    refine w_iload i2_choosePivots_44 rfl ?_
    refine w_cVR i2_choosePivots_45 f5_at v5_at (s5_at (by omega) (by omega)) rfl rfl (by decide) rfl rfl (Nat.le_of_ble_eq_true rfl) (by omega) ?_
    refine w_ifeq i2_choosePivots_48 (fun h48 => ?_) (fun h48 => ?_)
    · refine w_ii3 i2_choosePivots_63 (by omega) ?_
      refine w_goto i2_choosePivots_66 ?_
      first
      | (have h48' : F 2 (k * 4 + c) = 0 := h48
         refine ih (k + 1) _ (by omega) hf ?_
         rcases hP with ⟨h1, h2⟩ | h1
         · refine Or.inl ⟨h1, fun r hr => ?_⟩
           by_cases h : r = k
           · subst h; exact h48
           · exact h2 r (by omega)
         · exact Or.inr h1)
      | (refine ih (k + 1) _ (by omega) hf.p1 (Or.inr ⟨by simp [upI], by simp [upI], ?_, by simp [upI]; omega, by simp [upI]; omega, by simp [upI], by simp [upI]; exact h48⟩)
         simp only [upI]
         rcases hP with ⟨h1, -⟩ | h1
         · exact h1.2.2.2.1
         · exact h1.2.2.1)
    · refine w_aload i2_choosePivots_51 rfl ?_
      refine w_iload i2_choosePivots_52 rfl ?_
      refine w_iload i2_choosePivots_53 rfl ?_
      refine w_aload i2_choosePivots_54 rfl ?_
      refine w_iload i2_choosePivots_55 rfl ?_
      refine w_iload i2_choosePivots_56 rfl ?_
      refine w_cVR i2_choosePivots_57 f5_at v5_at (s5_at (by omega) (by omega)) rfl rfl (by decide) rfl rfl (Nat.le_of_ble_eq_true rfl) (by omega) ?_
      refine w_cVU i2_choosePivots_60 f2_takePivot v2_takePivot s2_takePivot rfl rfl (by decide) rfl rfl (Nat.le_of_ble_eq_true rfl) (by omega) (fun I' F' hq => ?_)
      obtain ⟨rfl, rfl⟩ := hq
      refine w_ii3 i2_choosePivots_63 (by omega) ?_
      refine w_goto i2_choosePivots_66 ?_
      first
      | (have h48' : F 2 (k * 4 + c) = 0 := h48
         refine ih (k + 1) _ (by omega) hf ?_
         rcases hP with ⟨h1, h2⟩ | h1
         · refine Or.inl ⟨h1, fun r hr => ?_⟩
           by_cases h : r = k
           · subst h; exact h48
           · exact h2 r (by omega)
         · exact Or.inr h1)
      | (refine ih (k + 1) _ (by omega) hf.p1 (Or.inr ⟨by simp [upI], by simp [upI], ?_, by simp [upI]; omega, by simp [upI]; omega, by simp [upI], by simp [upI]; exact h48⟩)
         simp only [upI]
         rcases hP with ⟨h1, -⟩ | h1
         · exact h1.2.2.2.1
         · exact h1.2.2.1)
theorem l2_cpA {d n0 : Nat} {Q : PQ} {I : IE} {F : FE} (hd : 1 ≤ d) (hn : 0 ≤ I 42 3 ∧ I 42 3 ≤ 4) (hM : ∀ j, 0 ≤ F 2 j ∧ F 2 j ≤ 3)
    (K : ∀ x y I', Pfr I I' → (PV0 (F 2) (I 42 3) I' ∨ PV1 (F 2) (I 42 3) I') → WS m2_choosePivots d 0 0 n0 Q 0 0 75 [lr 42, lr 1, x, y] [] shX I' F) :
    ∀ (m k : Nat) (x : Option AV) (I' : IE), (k + m : Int) = I 42 3 → Pfr I I' → (PV0 (F 2) k I' ∨ PV1 (F 2) (I 42 3) I') → WS m2_choosePivots d 0 0 n0 Q 0 0 27 [lr 42, lr 1, li k, x] [] shX I' F := by
  intro m
  induction m with
  | zero =>
    intro k x I' hk hf hP
    have ek : (k : Int) = I 42 3 := by omega
    have e3 := hf 42 3 (by omega)
    rw [ek] at hP
    refine w_iload i2_choosePivots_27 rfl ?_
    refine w_aload i2_choosePivots_28 rfl ?_
    refine w_get i2_choosePivots_29 rfl rfl ?_
    refine w_icmpge i2_choosePivots_32 (fun h32 => ?_) (fun h_ => absurd h_ (by omega))
    exact K _ _ I' hf hP
  | succ m ih =>
    intro k x I' hk hf hP
    have e3 := hf 42 3 (by omega)
    refine w_iload i2_choosePivots_27 rfl ?_
    refine w_aload i2_choosePivots_28 rfl ?_
    refine w_get i2_choosePivots_29 rfl rfl ?_
    refine w_icmpge i2_choosePivots_32 (fun h_ => absurd h_ (by omega)) (fun h32 => ?_)
    refine w_const i2_choosePivots_35 ?_
    refine w_is3 i2_choosePivots_36 ?_
    refine l2_cpA1 (I := I) (F := F) (c := k) hd hn (by omega) hM (fun x I2 hf2 hP2 => ?_) 2 0 I' (by decide) hf ?_
    · refine w_ii2 i2_choosePivots_69 (by omega) ?_
      refine w_goto i2_choosePivots_72 ?_
      exact ih (k + 1) _ I2 (by omega) hf2 hP2
    · rcases hP with h | h
      · exact Or.inl ⟨h, fun r hr => absurd hr (by omega)⟩
      · exact Or.inr h
theorem l2_cpB1 {d n0 : Nat} {Q : PQ} {I : IE} {F : FE} {a : Int} (hd : 2 ≤ d) (hn : 0 ≤ I 42 3 ∧ I 42 3 ≤ 4) (ha : 0 ≤ a ∧ a < I 42 3) (hM : ∀ j, 0 ≤ F 2 j ∧ F 2 j ≤ 3)
    (K : ∀ x I', Pfr I I' → (((PV0 (F 2) (I 42 3) I' ∨ PV1 (F 2) (I 42 3) I') ∧ ∀ p q, 0 ≤ p ∧ p < q ∧ q < I 42 3 → p < a + 1 → mnr (F 2) p q = 0) ∨ PV2 (F 2) (I 42 3) I') → WS m2_choosePivots d 0 0 n0 Q 0 0 124 [lr 42, lr 1, li a, x] [] shX I' F) :
    ∀ (m k : Nat) (I' : IE), (k + m : Int) = I 42 3 → a < k → Pfr I I' → (((PV0 (F 2) (I 42 3) I' ∨ PV1 (F 2) (I 42 3) I') ∧ ∀ p q, 0 ≤ p ∧ p < q ∧ q < I 42 3 → (p < a ∨ p = a ∧ q < k) → mnr (F 2) p q = 0) ∨ PV2 (F 2) (I 42 3) I') → WS m2_choosePivots d 0 0 n0 Q 0 0 89 [lr 42, lr 1, li a, li k] [] shX I' F := by
  intro m
  induction m with
  | zero =>
    intro k I' hk hak hf hP
    have ek : (k : Int) = I 42 3 := by omega
    have e3 := hf 42 3 (by omega)
    refine w_iload i2_choosePivots_89 rfl ?_
    refine w_aload i2_choosePivots_90 rfl ?_
    refine w_get i2_choosePivots_91 rfl rfl ?_
    refine w_icmpge i2_choosePivots_94 (fun h94 => ?_) (fun h_ => absurd h_ (by omega))
    refine K _ I' hf ?_
    rcases hP with ⟨h1, h2⟩ | h1
    · exact Or.inl ⟨h1, fun p q hpq hp => h2 p q hpq (by omega)⟩
    · exact Or.inr h1
  | succ m ih =>
    intro k I' hk hak hf hP
    have e3 := hf 42 3 (by omega)
    refine w_iload i2_choosePivots_89 rfl ?_
    refine w_aload i2_choosePivots_90 rfl ?_
    refine w_get i2_choosePivots_91 rfl rfl ?_
    refine w_icmpge i2_choosePivots_94 (fun h_ => absurd h_ (by omega)) (fun h94 => ?_)
    refine w_aload i2_choosePivots_97 rfl ?_
    refine w_iload i2_choosePivots_98 rfl ?_
    refine w_iload i2_choosePivots_99 rfl ?_
    refine w_cVR i2_choosePivots_100 f5_minor v5_minor (s5_minor (by omega) (by omega) (by omega) hM) rfl rfl (by decide) rfl rfl (Nat.le_of_ble_eq_true rfl) (by omega) ?_
    refine w_ifeq i2_choosePivots_103 (fun h103 => ?_) (fun h103 => ?_)
    · refine w_ii3 i2_choosePivots_118 (by omega) ?_
      refine w_goto i2_choosePivots_121 ?_
      first
      | (have h103' : F 2 a * F 2 (4 + k) - F 2 (4 + a) * F 2 k = 0 := h103
         refine ih (k + 1) _ (by omega) (by omega) hf ?_
         rcases hP with ⟨h1, h2⟩ | h1
         · refine Or.inl ⟨h1, fun p q hpq hp => ?_⟩
           by_cases h : p = a ∧ q = k
           · obtain ⟨rfl, rfl⟩ := h; exact h103
           · exact h2 p q hpq (by omega)
         · exact Or.inr h1)
      | (refine ih (k + 1) _ (by omega) (by omega) hf.p2 (Or.inr ⟨by simp [upI], by simp [upI], by simp [upI]; omega, by simp [upI]; omega, by simp [upI]; omega, by simp [upI]; rfl, by simp [upI]; exact h103⟩))
    · refine w_aload i2_choosePivots_106 rfl ?_
      refine w_iload i2_choosePivots_107 rfl ?_
      refine w_iload i2_choosePivots_108 rfl ?_
      refine w_aload i2_choosePivots_109 rfl ?_
      refine w_iload i2_choosePivots_110 rfl ?_
      refine w_iload i2_choosePivots_111 rfl ?_
      refine w_cVR i2_choosePivots_112 f5_minor v5_minor (s5_minor (by omega) (by omega) (by omega) hM) rfl rfl (by decide) rfl rfl (Nat.le_of_ble_eq_true rfl) (by omega) ?_
      refine w_cVU i2_choosePivots_115 f2_takePivots v2_takePivots s2_takePivots rfl rfl (by decide) rfl rfl (Nat.le_of_ble_eq_true rfl) (by omega) (fun I' F' hq => ?_)
      obtain ⟨rfl, rfl⟩ := hq
      refine w_ii3 i2_choosePivots_118 (by omega) ?_
      refine w_goto i2_choosePivots_121 ?_
      first
      | (have h103' : F 2 a * F 2 (4 + k) - F 2 (4 + a) * F 2 k = 0 := h103
         refine ih (k + 1) _ (by omega) (by omega) hf ?_
         rcases hP with ⟨h1, h2⟩ | h1
         · refine Or.inl ⟨h1, fun p q hpq hp => ?_⟩
           by_cases h : p = a ∧ q = k
           · obtain ⟨rfl, rfl⟩ := h; exact h103
           · exact h2 p q hpq (by omega)
         · exact Or.inr h1)
      | (refine ih (k + 1) _ (by omega) (by omega) hf.p2 (Or.inr ⟨by simp [upI], by simp [upI], by simp [upI]; omega, by simp [upI]; omega, by simp [upI]; omega, by simp [upI]; rfl, by simp [upI]; exact h103⟩))
theorem l2_cpB {d n0 : Nat} {Q : PQ} {I : IE} {F : FE} (hd : 2 ≤ d) (hn : 0 ≤ I 42 3 ∧ I 42 3 ≤ 4) (hM : ∀ j, 0 ≤ F 2 j ∧ F 2 j ≤ 3)
    (K : ∀ x y I', Pfr I I' → PVs (F 2) (I 42 3) I' → WS m2_choosePivots d 0 0 n0 Q 0 0 130 [lr 42, lr 1, x, y] [] shX I' F) :
    ∀ (m k : Nat) (x : Option AV) (I' : IE), (k + m : Int) = I 42 3 → Pfr I I' → (((PV0 (F 2) (I 42 3) I' ∨ PV1 (F 2) (I 42 3) I') ∧ ∀ p q, 0 ≤ p ∧ p < q ∧ q < I 42 3 → p < k → mnr (F 2) p q = 0) ∨ PV2 (F 2) (I 42 3) I') → WS m2_choosePivots d 0 0 n0 Q 0 0 77 [lr 42, lr 1, li k, x] [] shX I' F := by
  intro m
  induction m with
  | zero =>
    intro k x I' hk hf hP
    have ek : (k : Int) = I 42 3 := by omega
    have e3 := hf 42 3 (by omega)
    refine w_iload i2_choosePivots_77 rfl ?_
    refine w_aload i2_choosePivots_78 rfl ?_
    refine w_get i2_choosePivots_79 rfl rfl ?_
    refine w_icmpge i2_choosePivots_82 (fun h82 => ?_) (fun h_ => absurd h_ (by omega))
    refine K _ _ I' hf ?_
    rcases hP with ⟨h1 | h1, h2⟩ | h1
    · exact Or.inl h1
    · exact Or.inr (Or.inl ⟨h1, fun p q hpq => h2 p q hpq (by omega)⟩)
    · exact Or.inr (Or.inr h1)
  | succ m ih =>
    intro k x I' hk hf hP
    have e3 := hf 42 3 (by omega)
    refine w_iload i2_choosePivots_77 rfl ?_
    refine w_aload i2_choosePivots_78 rfl ?_
    refine w_get i2_choosePivots_79 rfl rfl ?_
    refine w_icmpge i2_choosePivots_82 (fun h_ => absurd h_ (by omega)) (fun h82 => ?_)
    refine w_iload i2_choosePivots_85 rfl ?_
    refine w_const i2_choosePivots_86 ?_
    refine w_iadd i2_choosePivots_87 (by omega) ?_
    refine w_is3 i2_choosePivots_88 ?_
    refine l2_cpB1 (I := I) (F := F) (a := k) hd hn (by omega) hM (fun x I2 hf2 hP2 => ?_) m (k + 1) I' (by omega) (by omega) hf ?_
    · refine w_ii2 i2_choosePivots_124 (by omega) ?_
      refine w_goto i2_choosePivots_127 ?_
      exact ih (k + 1) _ I2 (by omega) hf2 hP2
    · rcases hP with ⟨h1, h2⟩ | h1
      · exact Or.inl ⟨h1, fun p q hpq hp => h2 p q hpq (by omega)⟩
      · exact Or.inr h1
theorem s2_choosePivots {d : Nat} {I : IE} {F : FE} (hd : 2 ≤ d) (hn : 0 ≤ I 42 3 ∧ I 42 3 ≤ 4) (hM : ∀ j, 0 ≤ F 2 j ∧ F 2 j ≤ 3) : MU m2_choosePivots d shX [rv 42, rv 1] I F (fun I' F' => F' = F ∧ Pfr I I' ∧ PVs (F 2) (I 42 3) I') := by
  refine MS_of (ls := [lr 42, lr 1, lu, lu]) f2_choosePivots rfl rfl (Nat.le_of_ble_eq_true rfl) ?_
  refine w_aload i2_choosePivots_0 rfl ?_
  refine w_const i2_choosePivots_1 ?_
  refine w_put i2_choosePivots_2 rfl rfl (Or.inl rfl) ?_
  refine w_aload i2_choosePivots_5 rfl ?_
  refine w_const i2_choosePivots_6 ?_
  refine w_put i2_choosePivots_7 rfl rfl (Or.inl rfl) ?_
  refine w_aload i2_choosePivots_10 rfl ?_
  refine w_const i2_choosePivots_11 ?_
  refine w_put i2_choosePivots_12 rfl rfl (Or.inl rfl) ?_
  refine w_aload i2_choosePivots_15 rfl ?_
  refine w_const i2_choosePivots_16 ?_
  refine w_put i2_choosePivots_17 rfl rfl (Or.inl rfl) ?_
  refine w_aload i2_choosePivots_20 rfl ?_
  refine w_const i2_choosePivots_21 ?_
  refine w_put i2_choosePivots_22 rfl rfl (Or.inl rfl) ?_
  refine w_const i2_choosePivots_25 ?_
  refine w_is2 i2_choosePivots_26 ?_
  refine l2_cpA (I := I) (F := F) (by omega) hn hM (fun x y I' hf hP => ?_) (I 42 3).toNat 0 _ _ (by omega) (fun a k hk => ?_) (Or.inl ⟨by simp [upI], by simp [upI], by simp [upI], by simp [upI], by simp [upI], fun c hc => absurd hc (by omega)⟩)
  · refine w_const i2_choosePivots_75 ?_
    refine w_is2 i2_choosePivots_76 ?_
    refine l2_cpB (I := I) (F := F) hd hn hM (fun x y I2 hf2 hP2 => ?_) (I 42 3).toNat 0 _ _ (by omega) hf (Or.inl ⟨hP, fun p q h1 h2 => absurd h1 (by omega)⟩)
    refine w_vret i2_choosePivots_130 rfl ⟨Nat.le_refl _, Nat.le_refl _⟩ ?_
    exact ⟨rfl, rfl, rfl, hf2, hP2⟩
  · simp only [upI]
    (repeat' split) <;> first | rfl | omega
/-- the columns that are no pivots, ascending: the first fc entries of g -/
def Free (g : Int → Int) (fc : Nat) (n p q : Int) : Prop := (∀ i : Int, 0 ≤ i ∧ i < fc → 0 ≤ g i ∧ g i < n ∧ g i ≠ p ∧ g i ≠ q) ∧ (∀ i j : Int, 0 ≤ i ∧ i < j ∧ j < fc → g i < g j) ∧ (∀ c, 0 ≤ c ∧ c < n → c ≠ p → c ≠ q → ∃ i : Int, 0 ≤ i ∧ i < fc ∧ g i = c)
theorem l2_lfc {d n0 : Nat} {Q : PQ} {I : IE} {F : FE} (hn : 0 ≤ I 42 3 ∧ I 42 3 ≤ 4)
    (K : ∀ (x : Option AV) (I' : IE) (F' : FE) (fc : Nat), (fc : Int) ≤ I 42 3 → I' 42 9 = (fc : Int) → (∀ a k, (a ≠ 42 ∨ k ≠ 9) → I' a k = I a k) → (∀ a, a ≠ 44 → F' a = F a) → Free (F' 44) fc (I 42 3) (I 42 5) (I 42 6) → WS m2_listFreeColumns d 0 0 n0 Q 0 0 57 [lr 42, x] [] shX I' F') :
    ∀ (m k : Nat) (I' : IE) (F' : FE) (fc : Nat), (k + m : Int) = I 42 3 → fc ≤ k → I' 42 9 = (fc : Int) → (∀ a k, (a ≠ 42 ∨ k ≠ 9) → I' a k = I a k) → (∀ a, a ≠ 44 → F' a = F a) → Free (F' 44) fc k (I 42 5) (I 42 6) → WS m2_listFreeColumns d 0 0 n0 Q 0 0 7 [lr 42, li k] [] shX I' F' := by
  intro m
  induction m with
  | zero =>
    intro k I' F' fc hk hfc h9 hI hF hP
    have ek : (k : Int) = I 42 3 := by omega
    have e3 := hI 42 3 (by omega)
    rw [ek] at hP
    refine w_iload i2_listFreeColumns_7 rfl ?_
    refine w_aload i2_listFreeColumns_8 rfl ?_
    refine w_get i2_listFreeColumns_9 rfl rfl ?_
    refine w_icmpge i2_listFreeColumns_12 (fun h12 => ?_) (fun h_ => absurd h_ (by omega))
    exact K _ I' F' fc (by omega) h9 hI hF hP
  | succ m ih =>
    intro k I' F' fc hk hfc h9 hI hF hP
    have e3 := hI 42 3 (by omega)
    have e5 := hI 42 5 (by omega)
    have e6 := hI 42 6 (by omega)
    obtain ⟨p1, p2, p3⟩ := hP
    have skip : ((k : Int) = I 42 5 ∨ (k : Int) = I 42 6) → Free (F' 44) fc ((k + 1 : Nat) : Int) (I 42 5) (I 42 6) := fun h => by
      refine ⟨fun i hi => ?_, p2, fun c hc hcp hcq => ?_⟩
      · have := p1 i hi; omega
      · have hck : c ≠ k := by omega
        exact p3 c (by omega) hcp hcq
    refine w_iload i2_listFreeColumns_7 rfl ?_
    refine w_aload i2_listFreeColumns_8 rfl ?_
    refine w_get i2_listFreeColumns_9 rfl rfl ?_
    refine w_icmpge i2_listFreeColumns_12 (fun h_ => absurd h_ (by omega)) (fun h12 => ?_)
    refine w_iload i2_listFreeColumns_15 rfl ?_
    refine w_aload i2_listFreeColumns_16 rfl ?_
    refine w_get i2_listFreeColumns_17 rfl rfl ?_
    refine w_icmpeq i2_listFreeColumns_20 (fun h20 => ?_) (fun h20 => ?_)
    · refine w_ii1 i2_listFreeColumns_51 (by omega) ?_
      refine w_goto i2_listFreeColumns_54 ?_
      first
      | (have h20' : (k : Int) = I' 42 5 := h20
         exact ih (k + 1) I' F' fc (by omega) (by omega) h9 hI hF (skip (by omega)))
      | (have h28' : (k : Int) = I' 42 6 := h28
         exact ih (k + 1) I' F' fc (by omega) (by omega) h9 hI hF (skip (by omega)))
      | (refine ih (k + 1) _ _ (fc + 1) (by omega) (by omega) (by simp [upI]; omega) (fun a k' hk' => ?_) (fun a ha => ?_) ⟨fun i hi => ?_, fun i j hij => ?_, fun c hc hcp hcq => ?_⟩
         · rw [← hI a k' hk']
           simp only [upI]
           (repeat' split) <;> first | rfl | omega
         · funext i
           simp only [upF, ha, false_and, if_false]
           rw [hF a ha]
         · simp only [upF, true_and]
           by_cases h : i = I' 42 9
           · rw [if_pos h]; omega
           · rw [if_neg h]; have := p1 i (by omega); omega
         · simp only [upF, true_and]
           rw [if_neg (by omega)]
           by_cases h : j = I' 42 9
           · rw [if_pos h]; have := p1 i (by omega); omega
           · rw [if_neg h]; exact p2 i j (by omega)
         · simp only [upF, true_and]
           by_cases h : c = k
           · exact ⟨I' 42 9, by omega, by omega, by rw [if_pos rfl]; exact h.symm⟩
           · obtain ⟨i, h1, h2, h3⟩ := p3 c (by omega) hcp hcq
             exact ⟨i, h1, by omega, by rw [if_neg (by omega)]; exact h3⟩)
    · refine w_iload i2_listFreeColumns_23 rfl ?_
      refine w_aload i2_listFreeColumns_24 rfl ?_
      refine w_get i2_listFreeColumns_25 rfl rfl ?_
      refine w_icmpeq i2_listFreeColumns_28 (fun h28 => ?_) (fun h28 => ?_)
      · refine w_ii1 i2_listFreeColumns_51 (by omega) ?_
        refine w_goto i2_listFreeColumns_54 ?_
        first
        | (have h20' : (k : Int) = I' 42 5 := h20
           exact ih (k + 1) I' F' fc (by omega) (by omega) h9 hI hF (skip (by omega)))
        | (have h28' : (k : Int) = I' 42 6 := h28
           exact ih (k + 1) I' F' fc (by omega) (by omega) h9 hI hF (skip (by omega)))
        | (refine ih (k + 1) _ _ (fc + 1) (by omega) (by omega) (by simp [upI]; omega) (fun a k' hk' => ?_) (fun a ha => ?_) ⟨fun i hi => ?_, fun i j hij => ?_, fun c hc hcp hcq => ?_⟩
           · rw [← hI a k' hk']
             simp only [upI]
             (repeat' split) <;> first | rfl | omega
           · funext i
             simp only [upF, ha, false_and, if_false]
             rw [hF a ha]
           · simp only [upF, true_and]
             by_cases h : i = I' 42 9
             · rw [if_pos h]; omega
             · rw [if_neg h]; have := p1 i (by omega); omega
           · simp only [upF, true_and]
             rw [if_neg (by omega)]
             by_cases h : j = I' 42 9
             · rw [if_pos h]; have := p1 i (by omega); omega
             · rw [if_neg h]; exact p2 i j (by omega)
           · simp only [upF, true_and]
             by_cases h : c = k
             · exact ⟨I' 42 9, by omega, by omega, by rw [if_pos rfl]; exact h.symm⟩
             · obtain ⟨i, h1, h2, h3⟩ := p3 c (by omega) hcp hcq
               exact ⟨i, h1, by omega, by rw [if_neg (by omega)]; exact h3⟩)
      · refine w_aload i2_listFreeColumns_31 rfl ?_
        refine w_getr i2_listFreeColumns_32 rfl rfl ?_
        refine w_aload i2_listFreeColumns_35 rfl ?_
        refine w_get i2_listFreeColumns_36 rfl rfl ?_
        refine w_iload i2_listFreeColumns_39 rfl ?_
        refine w_iast i2_listFreeColumns_40 rfl (by omega) ?_
        refine w_aload i2_listFreeColumns_41 rfl ?_
        refine w_dup i2_listFreeColumns_42 ?_
        refine w_get i2_listFreeColumns_43 rfl rfl ?_
        refine w_const i2_listFreeColumns_46 ?_
        refine w_iadd i2_listFreeColumns_47 ((by have := p1; omega)) ?_
        refine w_put i2_listFreeColumns_48 rfl rfl (Or.inl rfl) ?_
        refine w_ii1 i2_listFreeColumns_51 (by omega) ?_
        refine w_goto i2_listFreeColumns_54 ?_
        first
        | (have h20' : (k : Int) = I' 42 5 := h20
           exact ih (k + 1) I' F' fc (by omega) (by omega) h9 hI hF (skip (by omega)))
        | (have h28' : (k : Int) = I' 42 6 := h28
           exact ih (k + 1) I' F' fc (by omega) (by omega) h9 hI hF (skip (by omega)))
        | (refine ih (k + 1) _ _ (fc + 1) (by omega) (by omega) (by simp [upI]; omega) (fun a k' hk' => ?_) (fun a ha => ?_) ⟨fun i hi => ?_, fun i j hij => ?_, fun c hc hcp hcq => ?_⟩
           · rw [← hI a k' hk']
             simp only [upI]
             (repeat' split) <;> first | rfl | omega
           · funext i
             simp only [upF, ha, false_and, if_false]
             rw [hF a ha]
           · simp only [upF, true_and]
             by_cases h : i = I' 42 9
             · rw [if_pos h]; omega
             · rw [if_neg h]; have := p1 i (by omega); omega
           · simp only [upF, true_and]
             rw [if_neg (by omega)]
             by_cases h : j = I' 42 9
             · rw [if_pos h]; have := p1 i (by omega); omega
             · rw [if_neg h]; exact p2 i j (by omega)
           · simp only [upF, true_and]
             by_cases h : c = k
             · exact ⟨I' 42 9, by omega, by omega, by rw [if_pos rfl]; exact h.symm⟩
             · obtain ⟨i, h1, h2, h3⟩ := p3 c (by omega) hcp hcq
               exact ⟨i, h1, by omega, by rw [if_neg (by omega)]; exact h3⟩)
theorem s2_listFreeColumns {d : Nat} {I : IE} {F : FE} (hn : 0 ≤ I 42 3 ∧ I 42 3 ≤ 4) : MU m2_listFreeColumns d shX [rv 42] I F (fun I' F' => ∃ fc : Nat, (fc : Int) ≤ I 42 3 ∧ I' 42 9 = (fc : Int) ∧ (∀ a k, (a ≠ 42 ∨ k ≠ 9) → I' a k = I a k) ∧ (∀ a, a ≠ 44 → F' a = F a) ∧ Free (F' 44) fc (I 42 3) (I 42 5) (I 42 6)) := by
  refine MS_of (ls := [lr 42, lu]) f2_listFreeColumns rfl rfl (Nat.le_of_ble_eq_true rfl) ?_
  refine w_aload i2_listFreeColumns_0 rfl ?_
  refine w_const i2_listFreeColumns_1 ?_
  refine w_put i2_listFreeColumns_2 rfl rfl (Or.inl rfl) ?_
  refine w_const i2_listFreeColumns_5 ?_
  refine w_is1 i2_listFreeColumns_6 ?_
  refine l2_lfc (I := I) (F := F) hn (fun x I' F' fc h1 h2 h3 h4 h5 => ?_) (I 42 3).toNat 0 _ _ 0 (by omega) (by omega) (by simp [upI]) (fun a k hk => ?_) (fun _ _ => rfl) ⟨fun i hi => absurd hi (by omega), fun i j hi => absurd hi (by omega), fun i hi => absurd hi (by omega)⟩
  · refine w_vret i2_listFreeColumns_57 rfl ⟨Nat.le_refl _, Nat.le_refl _⟩ ?_
    exact ⟨rfl, rfl, fc, h1, h2, h3, h4, h5⟩
  · simp only [upI]
    (repeat' split) <;> first | rfl | omega
end
