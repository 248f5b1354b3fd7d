-- ===== PART A: goes FIRST, ahead of the names: the tables' words, and 'selects' of the private methods out of them =====
/-- a private method of a class that the tables say can be made, by its rows of tables_1 -/
def lw_okq (q : MethodName × Nat) : Prop := (q.1.cls ≠ "java/lang/invoke/MethodHandle" ∧ q.1.cls ≠ "java/lang/invoke/VarHandle") ∧ Cond.instantiable q.1.cls q.2 ∈ tables_1 ∧ Cond.privateMethod q.1 ∈ tables_1 ∧ Cond.instanceMethod q.1 ∈ tables_1
theorem lw_p0 : lw_okq (⟨"ProofCompare$Surfaces", "isUnmetAt", "(II)Z"⟩, 9) := ⟨⟨by decide +kernel, by decide +kernel⟩, List.mem_of_getElem? (i := 28) (by decide +kernel), List.mem_of_getElem? (i := 251) (by decide +kernel), List.mem_of_getElem? (i := 252) (by decide +kernel)⟩
theorem lw_p1 : lw_okq (⟨"ProofCompare$Surfaces", "isClose", "(II)Z"⟩, 9) := ⟨⟨by decide +kernel, by decide +kernel⟩, List.mem_of_getElem? (i := 28) (by decide +kernel), List.mem_of_getElem? (i := 255) (by decide +kernel), List.mem_of_getElem? (i := 256) (by decide +kernel)⟩
theorem lw_p2 : lw_okq (⟨"ProofCompare$Surfaces", "isMet", "(I[III)Z"⟩, 9) := ⟨⟨by decide +kernel, by decide +kernel⟩, List.mem_of_getElem? (i := 28) (by decide +kernel), List.mem_of_getElem? (i := 262) (by decide +kernel), List.mem_of_getElem? (i := 263) (by decide +kernel)⟩
theorem lw_p3 : lw_okq (⟨"ProofCompare$Boxes", "growFrom", "(II[ZI)V"⟩, 9) := ⟨⟨by decide +kernel, by decide +kernel⟩, List.mem_of_getElem? (i := 42) (by decide +kernel), List.mem_of_getElem? (i := 270) (by decide +kernel), List.mem_of_getElem? (i := 271) (by decide +kernel)⟩
theorem lw_p4 : lw_okq (⟨"ProofCompare$Boxes", "take", "(II[Z)V"⟩, 9) := ⟨⟨by decide +kernel, by decide +kernel⟩, List.mem_of_getElem? (i := 42) (by decide +kernel), List.mem_of_getElem? (i := 274) (by decide +kernel), List.mem_of_getElem? (i := 275) (by decide +kernel)⟩
theorem lw_p5 : lw_okq (⟨"ProofCompare$Boxes", "widen", "(IIII)V"⟩, 9) := ⟨⟨by decide +kernel, by decide +kernel⟩, List.mem_of_getElem? (i := 42) (by decide +kernel), List.mem_of_getElem? (i := 278) (by decide +kernel), List.mem_of_getElem? (i := 279) (by decide +kernel)⟩
theorem lw_p6 : lw_okq (⟨"ProofCompare$Boxes", "takeAround", "(II[ZI)V"⟩, 9) := ⟨⟨by decide +kernel, by decide +kernel⟩, List.mem_of_getElem? (i := 42) (by decide +kernel), List.mem_of_getElem? (i := 284) (by decide +kernel), List.mem_of_getElem? (i := 285) (by decide +kernel)⟩
theorem lw_p7 : lw_okq (⟨"ProofCompare$Boxes", "absorbAll", "()V"⟩, 9) := ⟨⟨by decide +kernel, by decide +kernel⟩, List.mem_of_getElem? (i := 42) (by decide +kernel), List.mem_of_getElem? (i := 288) (by decide +kernel), List.mem_of_getElem? (i := 289) (by decide +kernel)⟩
theorem lw_p8 : lw_okq (⟨"ProofCompare$Boxes", "absorbRound", "()Z"⟩, 9) := ⟨⟨by decide +kernel, by decide +kernel⟩, List.mem_of_getElem? (i := 42) (by decide +kernel), List.mem_of_getElem? (i := 292) (by decide +kernel), List.mem_of_getElem? (i := 293) (by decide +kernel)⟩
theorem lw_p9 : lw_okq (⟨"ProofCompare$Boxes", "sharesPlace", "(I)Z"⟩, 9) := ⟨⟨by decide +kernel, by decide +kernel⟩, List.mem_of_getElem? (i := 42) (by decide +kernel), List.mem_of_getElem? (i := 296) (by decide +kernel), List.mem_of_getElem? (i := 297) (by decide +kernel)⟩
theorem lw_p10 : lw_okq (⟨"ProofCompare$Boxes", "keepGrown", "()V"⟩, 9) := ⟨⟨by decide +kernel, by decide +kernel⟩, List.mem_of_getElem? (i := 42) (by decide +kernel), List.mem_of_getElem? (i := 307) (by decide +kernel), List.mem_of_getElem? (i := 308) (by decide +kernel)⟩
theorem lw_p11 : lw_okq (⟨"ProofCompare$Boxes", "sort", "()V"⟩, 9) := ⟨⟨by decide +kernel, by decide +kernel⟩, List.mem_of_getElem? (i := 42) (by decide +kernel), List.mem_of_getElem? (i := 311) (by decide +kernel), List.mem_of_getElem? (i := 312) (by decide +kernel)⟩
theorem lw_p12 : lw_okq (⟨"ProofCompare$Boxes", "comesBefore", "(II)Z"⟩, 9) := ⟨⟨by decide +kernel, by decide +kernel⟩, List.mem_of_getElem? (i := 42) (by decide +kernel), List.mem_of_getElem? (i := 315) (by decide +kernel), List.mem_of_getElem? (i := 316) (by decide +kernel)⟩
theorem lw_p13 : lw_okq (⟨"ProofCompare$Boxes", "swap", "(II)V"⟩, 9) := ⟨⟨by decide +kernel, by decide +kernel⟩, List.mem_of_getElem? (i := 42) (by decide +kernel), List.mem_of_getElem? (i := 319) (by decide +kernel), List.mem_of_getElem? (i := 320) (by decide +kernel)⟩
theorem lw_p14 : lw_okq (⟨"ProofCompare$WordRows", "measure", "()V"⟩, 6) := ⟨⟨by decide +kernel, by decide +kernel⟩, List.mem_of_getElem? (i := 133) (by decide +kernel), List.mem_of_getElem? (i := 331) (by decide +kernel), List.mem_of_getElem? (i := 332) (by decide +kernel)⟩
theorem lw_p15 : lw_okq (⟨"ProofCompare$WordRows", "measureAt", "(II)I"⟩, 6) := ⟨⟨by decide +kernel, by decide +kernel⟩, List.mem_of_getElem? (i := 133) (by decide +kernel), List.mem_of_getElem? (i := 335) (by decide +kernel), List.mem_of_getElem? (i := 336) (by decide +kernel)⟩
def lw_privs_1 : List (MethodName × Nat) := [(⟨"ProofCompare$Surfaces", "isUnmetAt", "(II)Z"⟩, 9), (⟨"ProofCompare$Surfaces", "isClose", "(II)Z"⟩, 9), (⟨"ProofCompare$Surfaces", "isMet", "(I[III)Z"⟩, 9), (⟨"ProofCompare$Boxes", "growFrom", "(II[ZI)V"⟩, 9), (⟨"ProofCompare$Boxes", "take", "(II[Z)V"⟩, 9), (⟨"ProofCompare$Boxes", "widen", "(IIII)V"⟩, 9), (⟨"ProofCompare$Boxes", "takeAround", "(II[ZI)V"⟩, 9), (⟨"ProofCompare$Boxes", "absorbAll", "()V"⟩, 9), (⟨"ProofCompare$Boxes", "absorbRound", "()Z"⟩, 9), (⟨"ProofCompare$Boxes", "sharesPlace", "(I)Z"⟩, 9), (⟨"ProofCompare$Boxes", "keepGrown", "()V"⟩, 9), (⟨"ProofCompare$Boxes", "sort", "()V"⟩, 9), (⟨"ProofCompare$Boxes", "comesBefore", "(II)Z"⟩, 9), (⟨"ProofCompare$Boxes", "swap", "(II)V"⟩, 9), (⟨"ProofCompare$WordRows", "measure", "()V"⟩, 6), (⟨"ProofCompare$WordRows", "measureAt", "(II)I"⟩, 6)]
theorem lw_r1 : ∀ q ∈ lw_privs_1, lw_okq q := List.forall_mem_cons.mpr ⟨lw_p0, List.forall_mem_cons.mpr ⟨lw_p1, List.forall_mem_cons.mpr ⟨lw_p2, List.forall_mem_cons.mpr ⟨lw_p3, List.forall_mem_cons.mpr ⟨lw_p4, List.forall_mem_cons.mpr ⟨lw_p5, List.forall_mem_cons.mpr ⟨lw_p6, List.forall_mem_cons.mpr ⟨lw_p7, List.forall_mem_cons.mpr ⟨lw_p8, List.forall_mem_cons.mpr ⟨lw_p9, List.forall_mem_cons.mpr ⟨lw_p10, List.forall_mem_cons.mpr ⟨lw_p11, List.forall_mem_cons.mpr ⟨lw_p12, List.forall_mem_cons.mpr ⟨lw_p13, List.forall_mem_cons.mpr ⟨lw_p14, List.forall_mem_cons.mpr ⟨lw_p15, fun _ h => absurd h List.not_mem_nil⟩⟩⟩⟩⟩⟩⟩⟩⟩⟩⟩⟩⟩⟩⟩⟩
theorem lw_p16 : lw_okq (⟨"ProofCompare$WordRows", "walk", "()V"⟩, 6) := ⟨⟨by decide +kernel, by decide +kernel⟩, List.mem_of_getElem? (i := 133) (by decide +kernel), List.mem_of_getElem? (i := 344) (by decide +kernel), List.mem_of_getElem? (i := 345) (by decide +kernel)⟩
theorem lw_p17 : lw_okq (⟨"ProofCompare$WordRows", "isKept", "(II)Z"⟩, 6) := ⟨⟨by decide +kernel, by decide +kernel⟩, List.mem_of_getElem? (i := 133) (by decide +kernel), List.mem_of_getElem? (i := 348) (by decide +kernel), List.mem_of_getElem? (i := 349) (by decide +kernel)⟩
theorem lw_p18 : lw_okq (⟨"ProofCompare$WordRows", "tellIfShifted", "(II)V"⟩, 6) := ⟨⟨by decide +kernel, by decide +kernel⟩, List.mem_of_getElem? (i := 133) (by decide +kernel), List.mem_of_getElem? (i := 352) (by decide +kernel), List.mem_of_getElem? (i := 353) (by decide +kernel)⟩
theorem lw_p19 : lw_okq (⟨"ProofCompare$WordRows", "append", "(IIII)V"⟩, 6) := ⟨⟨by decide +kernel, by decide +kernel⟩, List.mem_of_getElem? (i := 133) (by decide +kernel), List.mem_of_getElem? (i := 364) (by decide +kernel), List.mem_of_getElem? (i := 365) (by decide +kernel)⟩
theorem lw_p20 : lw_okq (⟨"ProofCompare$WordRows", "isGone", "(II)Z"⟩, 6) := ⟨⟨by decide +kernel, by decide +kernel⟩, List.mem_of_getElem? (i := 133) (by decide +kernel), List.mem_of_getElem? (i := 368) (by decide +kernel), List.mem_of_getElem? (i := 369) (by decide +kernel)⟩
theorem lw_p21 : lw_okq (⟨"ProofCompare$WordRows", "pairMoved", "()V"⟩, 6) := ⟨⟨by decide +kernel, by decide +kernel⟩, List.mem_of_getElem? (i := 133) (by decide +kernel), List.mem_of_getElem? (i := 372) (by decide +kernel), List.mem_of_getElem? (i := 373) (by decide +kernel)⟩
theorem lw_p22 : lw_okq (⟨"ProofCompare$WordRows", "pairWithFirstNew", "(I)V"⟩, 6) := ⟨⟨by decide +kernel, by decide +kernel⟩, List.mem_of_getElem? (i := 133) (by decide +kernel), List.mem_of_getElem? (i := 380) (by decide +kernel), List.mem_of_getElem? (i := 381) (by decide +kernel)⟩
theorem lw_p23 : lw_okq (⟨"ProofCompare$WordRows", "dropUntold", "()V"⟩, 6) := ⟨⟨by decide +kernel, by decide +kernel⟩, List.mem_of_getElem? (i := 133) (by decide +kernel), List.mem_of_getElem? (i := 384) (by decide +kernel), List.mem_of_getElem? (i := 385) (by decide +kernel)⟩
theorem lw_p24 : lw_okq (⟨"ProofCompare$Rules", "append", "(III)V"⟩, 6) := ⟨⟨by decide +kernel, by decide +kernel⟩, List.mem_of_getElem? (i := 174) (by decide +kernel), List.mem_of_getElem? (i := 397) (by decide +kernel), List.mem_of_getElem? (i := 398) (by decide +kernel)⟩
theorem lw_p25 : lw_okq (⟨"ProofCompare", "find", "(I)I"⟩, 7) := ⟨⟨by decide +kernel, by decide +kernel⟩, List.mem_of_getElem? (i := 20) (by decide +kernel), List.mem_of_getElem? (i := 401) (by decide +kernel), List.mem_of_getElem? (i := 402) (by decide +kernel)⟩
theorem lw_p26 : lw_okq (⟨"ProofCompare$Pages", "isMissing", "(I)Z"⟩, 2) := ⟨⟨by decide +kernel, by decide +kernel⟩, List.mem_of_getElem? (i := 160) (by decide +kernel), List.mem_of_getElem? (i := 417) (by decide +kernel), List.mem_of_getElem? (i := 418) (by decide +kernel)⟩
theorem lw_p27 : lw_okq (⟨"ProofCompare$Pages", "isThere", "(II)Z"⟩, 2) := ⟨⟨by decide +kernel, by decide +kernel⟩, List.mem_of_getElem? (i := 160) (by decide +kernel), List.mem_of_getElem? (i := 421) (by decide +kernel), List.mem_of_getElem? (i := 422) (by decide +kernel)⟩
theorem lw_p28 : lw_okq (⟨"java/lang/Throwable", "fillInStackTrace", "(I)Ljava/lang/Throwable;"⟩, 6) := ⟨⟨by decide +kernel, by decide +kernel⟩, List.mem_of_getElem? (i := 496) (by decide +kernel), List.mem_of_getElem? (i := 494) (by decide +kernel), List.mem_of_getElem? (i := 495) (by decide +kernel)⟩
theorem lw_p29 : lw_okq (⟨"ProofCompare$WordSide", "liesBehind", "(III)Z"⟩, 5) := ⟨⟨by decide +kernel, by decide +kernel⟩, List.mem_of_getElem? (i := 109) (by decide +kernel), List.mem_of_getElem? (i := 613) (by decide +kernel), List.mem_of_getElem? (i := 614) (by decide +kernel)⟩
theorem lw_p30 : lw_okq (⟨"ProofCompare$Approvals", "isLatest", "(II)Z"⟩, 3) := ⟨⟨by decide +kernel, by decide +kernel⟩, List.mem_of_getElem? (i := 203) (by decide +kernel), List.mem_of_getElem? (i := 697) (by decide +kernel), List.mem_of_getElem? (i := 698) (by decide +kernel)⟩
theorem lw_p31 : lw_okq (⟨"ProofCompareModel", "look", "()V"⟩, 33) := ⟨⟨by decide +kernel, by decide +kernel⟩, List.mem_of_getElem? (i := 717) (by decide +kernel), List.mem_of_getElem? (i := 842) (by decide +kernel), List.mem_of_getElem? (i := 843) (by decide +kernel)⟩
def lw_privs_2 : List (MethodName × Nat) := [(⟨"ProofCompare$WordRows", "walk", "()V"⟩, 6), (⟨"ProofCompare$WordRows", "isKept", "(II)Z"⟩, 6), (⟨"ProofCompare$WordRows", "tellIfShifted", "(II)V"⟩, 6), (⟨"ProofCompare$WordRows", "append", "(IIII)V"⟩, 6), (⟨"ProofCompare$WordRows", "isGone", "(II)Z"⟩, 6), (⟨"ProofCompare$WordRows", "pairMoved", "()V"⟩, 6), (⟨"ProofCompare$WordRows", "pairWithFirstNew", "(I)V"⟩, 6), (⟨"ProofCompare$WordRows", "dropUntold", "()V"⟩, 6), (⟨"ProofCompare$Rules", "append", "(III)V"⟩, 6), (⟨"ProofCompare", "find", "(I)I"⟩, 7), (⟨"ProofCompare$Pages", "isMissing", "(I)Z"⟩, 2), (⟨"ProofCompare$Pages", "isThere", "(II)Z"⟩, 2), (⟨"java/lang/Throwable", "fillInStackTrace", "(I)Ljava/lang/Throwable;"⟩, 6), (⟨"ProofCompare$WordSide", "liesBehind", "(III)Z"⟩, 5), (⟨"ProofCompare$Approvals", "isLatest", "(II)Z"⟩, 3), (⟨"ProofCompareModel", "look", "()V"⟩, 33)]
theorem lw_r2 : ∀ q ∈ lw_privs_2, lw_okq q := List.forall_mem_cons.mpr ⟨lw_p16, List.forall_mem_cons.mpr ⟨lw_p17, List.forall_mem_cons.mpr ⟨lw_p18, List.forall_mem_cons.mpr ⟨lw_p19, List.forall_mem_cons.mpr ⟨lw_p20, List.forall_mem_cons.mpr ⟨lw_p21, List.forall_mem_cons.mpr ⟨lw_p22, List.forall_mem_cons.mpr ⟨lw_p23, List.forall_mem_cons.mpr ⟨lw_p24, List.forall_mem_cons.mpr ⟨lw_p25, List.forall_mem_cons.mpr ⟨lw_p26, List.forall_mem_cons.mpr ⟨lw_p27, List.forall_mem_cons.mpr ⟨lw_p28, List.forall_mem_cons.mpr ⟨lw_p29, List.forall_mem_cons.mpr ⟨lw_p30, List.forall_mem_cons.mpr ⟨lw_p31, fun _ h => absurd h List.not_mem_nil⟩⟩⟩⟩⟩⟩⟩⟩⟩⟩⟩⟩⟩⟩⟩⟩
theorem lw_p32 : lw_okq (⟨"ProofCompareModel", "isMet", "(III)Z"⟩, 33) := ⟨⟨by decide +kernel, by decide +kernel⟩, List.mem_of_getElem? (i := 717) (by decide +kernel), List.mem_of_getElem? (i := 846) (by decide +kernel), List.mem_of_getElem? (i := 847) (by decide +kernel)⟩
theorem lw_p33 : lw_okq (⟨"ProofCompareModel", "spread", "()V"⟩, 33) := ⟨⟨by decide +kernel, by decide +kernel⟩, List.mem_of_getElem? (i := 717) (by decide +kernel), List.mem_of_getElem? (i := 850) (by decide +kernel), List.mem_of_getElem? (i := 851) (by decide +kernel)⟩
theorem lw_p34 : lw_okq (⟨"ProofCompareModel", "leastNear", "(II)I"⟩, 33) := ⟨⟨by decide +kernel, by decide +kernel⟩, List.mem_of_getElem? (i := 717) (by decide +kernel), List.mem_of_getElem? (i := 854) (by decide +kernel), List.mem_of_getElem? (i := 855) (by decide +kernel)⟩
theorem lw_p35 : lw_okq (⟨"ProofCompareModel", "makeBoxes", "()V"⟩, 33) := ⟨⟨by decide +kernel, by decide +kernel⟩, List.mem_of_getElem? (i := 717) (by decide +kernel), List.mem_of_getElem? (i := 858) (by decide +kernel), List.mem_of_getElem? (i := 859) (by decide +kernel)⟩
theorem lw_p36 : lw_okq (⟨"ProofCompareModel", "grow", "(IIIII)V"⟩, 33) := ⟨⟨by decide +kernel, by decide +kernel⟩, List.mem_of_getElem? (i := 717) (by decide +kernel), List.mem_of_getElem? (i := 862) (by decide +kernel), List.mem_of_getElem? (i := 863) (by decide +kernel)⟩
theorem lw_p37 : lw_okq (⟨"ProofCompareModel", "joinBoxes", "()V"⟩, 33) := ⟨⟨by decide +kernel, by decide +kernel⟩, List.mem_of_getElem? (i := 717) (by decide +kernel), List.mem_of_getElem? (i := 866) (by decide +kernel), List.mem_of_getElem? (i := 867) (by decide +kernel)⟩
theorem lw_p38 : lw_okq (⟨"ProofCompareModel", "share", "(II)Z"⟩, 33) := ⟨⟨by decide +kernel, by decide +kernel⟩, List.mem_of_getElem? (i := 717) (by decide +kernel), List.mem_of_getElem? (i := 870) (by decide +kernel), List.mem_of_getElem? (i := 871) (by decide +kernel)⟩
theorem lw_p39 : lw_okq (⟨"ProofCompareModel", "sortBoxes", "()V"⟩, 33) := ⟨⟨by decide +kernel, by decide +kernel⟩, List.mem_of_getElem? (i := 717) (by decide +kernel), List.mem_of_getElem? (i := 874) (by decide +kernel), List.mem_of_getElem? (i := 875) (by decide +kernel)⟩
theorem lw_p40 : lw_okq (⟨"ProofCompareModel", "compare", "()V"⟩, 33) := ⟨⟨by decide +kernel, by decide +kernel⟩, List.mem_of_getElem? (i := 717) (by decide +kernel), List.mem_of_getElem? (i := 890) (by decide +kernel), List.mem_of_getElem? (i := 891) (by decide +kernel)⟩
theorem lw_p41 : lw_okq (⟨"ProofCompareModel", "sortWords", "(I)V"⟩, 33) := ⟨⟨by decide +kernel, by decide +kernel⟩, List.mem_of_getElem? (i := 717) (by decide +kernel), List.mem_of_getElem? (i := 894) (by decide +kernel), List.mem_of_getElem? (i := 895) (by decide +kernel)⟩
theorem lw_p42 : lw_okq (⟨"ProofCompareModel", "isBefore", "(II)Z"⟩, 33) := ⟨⟨by decide +kernel, by decide +kernel⟩, List.mem_of_getElem? (i := 717) (by decide +kernel), List.mem_of_getElem? (i := 898) (by decide +kernel), List.mem_of_getElem? (i := 899) (by decide +kernel)⟩
theorem lw_p43 : lw_okq (⟨"ProofCompareModel", "fillCommon", "()V"⟩, 33) := ⟨⟨by decide +kernel, by decide +kernel⟩, List.mem_of_getElem? (i := 717) (by decide +kernel), List.mem_of_getElem? (i := 902) (by decide +kernel), List.mem_of_getElem? (i := 903) (by decide +kernel)⟩
theorem lw_p44 : lw_okq (⟨"ProofCompareModel", "at", "(II)I"⟩, 33) := ⟨⟨by decide +kernel, by decide +kernel⟩, List.mem_of_getElem? (i := 717) (by decide +kernel), List.mem_of_getElem? (i := 906) (by decide +kernel), List.mem_of_getElem? (i := 907) (by decide +kernel)⟩
theorem lw_p45 : lw_okq (⟨"ProofCompareModel", "addRow", "(IIII)V"⟩, 33) := ⟨⟨by decide +kernel, by decide +kernel⟩, List.mem_of_getElem? (i := 717) (by decide +kernel), List.mem_of_getElem? (i := 910) (by decide +kernel), List.mem_of_getElem? (i := 911) (by decide +kernel)⟩
theorem lw_p46 : lw_okq (⟨"ProofCompareModel", "find", "(I)I"⟩, 33) := ⟨⟨by decide +kernel, by decide +kernel⟩, List.mem_of_getElem? (i := 717) (by decide +kernel), List.mem_of_getElem? (i := 930) (by decide +kernel), List.mem_of_getElem? (i := 931) (by decide +kernel)⟩
theorem lw_p47 : lw_okq (⟨"ProofCompareModel", "mostPlaces", "()I"⟩, 33) := ⟨⟨by decide +kernel, by decide +kernel⟩, List.mem_of_getElem? (i := 717) (by decide +kernel), List.mem_of_getElem? (i := 934) (by decide +kernel), List.mem_of_getElem? (i := 935) (by decide +kernel)⟩
def lw_privs_3 : List (MethodName × Nat) := [(⟨"ProofCompareModel", "isMet", "(III)Z"⟩, 33), (⟨"ProofCompareModel", "spread", "()V"⟩, 33), (⟨"ProofCompareModel", "leastNear", "(II)I"⟩, 33), (⟨"ProofCompareModel", "makeBoxes", "()V"⟩, 33), (⟨"ProofCompareModel", "grow", "(IIIII)V"⟩, 33), (⟨"ProofCompareModel", "joinBoxes", "()V"⟩, 33), (⟨"ProofCompareModel", "share", "(II)Z"⟩, 33), (⟨"ProofCompareModel", "sortBoxes", "()V"⟩, 33), (⟨"ProofCompareModel", "compare", "()V"⟩, 33), (⟨"ProofCompareModel", "sortWords", "(I)V"⟩, 33), (⟨"ProofCompareModel", "isBefore", "(II)Z"⟩, 33), (⟨"ProofCompareModel", "fillCommon", "()V"⟩, 33), (⟨"ProofCompareModel", "at", "(II)I"⟩, 33), (⟨"ProofCompareModel", "addRow", "(IIII)V"⟩, 33), (⟨"ProofCompareModel", "find", "(I)I"⟩, 33), (⟨"ProofCompareModel", "mostPlaces", "()I"⟩, 33)]
theorem lw_r3 : ∀ q ∈ lw_privs_3, lw_okq q := List.forall_mem_cons.mpr ⟨lw_p32, List.forall_mem_cons.mpr ⟨lw_p33, List.forall_mem_cons.mpr ⟨lw_p34, List.forall_mem_cons.mpr ⟨lw_p35, List.forall_mem_cons.mpr ⟨lw_p36, List.forall_mem_cons.mpr ⟨lw_p37, List.forall_mem_cons.mpr ⟨lw_p38, List.forall_mem_cons.mpr ⟨lw_p39, List.forall_mem_cons.mpr ⟨lw_p40, List.forall_mem_cons.mpr ⟨lw_p41, List.forall_mem_cons.mpr ⟨lw_p42, List.forall_mem_cons.mpr ⟨lw_p43, List.forall_mem_cons.mpr ⟨lw_p44, List.forall_mem_cons.mpr ⟨lw_p45, List.forall_mem_cons.mpr ⟨lw_p46, List.forall_mem_cons.mpr ⟨lw_p47, fun _ h => absurd h List.not_mem_nil⟩⟩⟩⟩⟩⟩⟩⟩⟩⟩⟩⟩⟩⟩⟩⟩
theorem lw_p48 : lw_okq (⟨"ProofCompareModel", "countRows", "(II)I"⟩, 33) := ⟨⟨by decide +kernel, by decide +kernel⟩, List.mem_of_getElem? (i := 717) (by decide +kernel), List.mem_of_getElem? (i := 938) (by decide +kernel), List.mem_of_getElem? (i := 939) (by decide +kernel)⟩
def lw_privs_4 : List (MethodName × Nat) := [(⟨"ProofCompareModel", "countRows", "(II)I"⟩, 33)]
theorem lw_r4 : ∀ q ∈ lw_privs_4, lw_okq q := List.forall_mem_cons.mpr ⟨lw_p48, fun _ h => absurd h List.not_mem_nil⟩
def lw_privs : List (MethodName × Nat) := lw_privs_1 ++ (lw_privs_2 ++ (lw_privs_3 ++ (lw_privs_4)))
def lw_tbl : List Cond := k2_sels lw_privs ++ tables_1
theorem lw_privs_ok : ∀ q ∈ lw_privs, lw_okq q := by
  show ∀ q ∈ lw_privs_1 ++ (lw_privs_2 ++ (lw_privs_3 ++ (lw_privs_4))), lw_okq q
  exact List.forall_mem_append.mpr ⟨lw_r1, List.forall_mem_append.mpr ⟨lw_r2, List.forall_mem_append.mpr ⟨lw_r3, lw_r4⟩⟩⟩
/-! ===== BEGIN words of one list among another's, by their places ===== -/
theorem goodIn_r {big : List Cond} (ws : List Cond) (ps : List Nat) (hp : ws = ps.filterMap (fun i => big[i]?)) (h : ws.all goodWord = true) : GoodIn big ws := by
  intro w hw
  have h1 := List.all_eq_true.mp h w hw
  rw [hp] at hw
  obtain ⟨i, -, hi⟩ := List.mem_filterMap.mp hw
  have hm : w ∈ big := by first | exact List.mem_of_getElem? hi | exact List.getElem?_mem hi
  exact ⟨hm, good_of_word h1⟩
theorem goodIn_app {big a b : List Cond} (ha : GoodIn big a) (hb : GoodIn big b) : GoodIn big (a ++ b) := fun w h => (List.mem_append.mp h).elim (ha w) (hb w)
theorem goodIn_ca {big a b : List Cond} {c : Cond} (ha : GoodIn big (c :: a)) (hb : GoodIn big b) : GoodIn big (c :: (a ++ b)) := fun w h => (List.mem_cons.mp h).elim (fun e => ha w (List.mem_cons.mpr (Or.inl e))) (fun h => (List.mem_append.mp h).elim (fun h => ha w (List.mem_cons.mpr (Or.inr h))) (hb w))
theorem goodIn_sub {big ws : List Cond} (hm : ∀ w ∈ ws, w ∈ big) (h : ws.all goodWord = true) : GoodIn big ws := fun w hw => ⟨hm w hw, good_of_word (List.all_eq_true.mp h w hw)⟩
/-! ===== END ===== -/
def RX0 : String := "ProofCompare$Approvals"
def TX0 : u_T := fun k => match k with
  | 0 => ("ProofCompare$Approvals", "counts", "[I", true)
  | 1 => ("ProofCompare$Approvals", "editions", "[I", true)
  | _ => ("ProofCompare$Approvals", "people", "[[I", true)
def tyX0 : Nat → FieldType := fun k => match k with
  | 0 => .array .int
  | 1 => .array .int
  | _ => .array (.array .int)
abbrev wsX00 : List Cond := u_ws RX0 TX0 3
theorem nmX0 : ∀ a, a < 3 → ∀ b, b < 3 → a ≠ b → (TX0 a).2.1 ≠ (TX0 b).2.1 := by decide +kernel
theorem tyX0_ok : ∀ k, k < 3 → parseFieldDescriptor (TX0 k).2.2.1 = some (tyX0 k) := by decide +kernel
abbrev cX0_init : ByteArray := prog_2_method_1_code
def yX0_init : MethodName := ⟨RX0, "<init>", "()V"⟩
abbrev cX0_isOlder : ByteArray := prog_2_method_2_code
def yX0_isOlder : MethodName := ⟨RX0, "isOlder", "(II)Z"⟩
abbrev cX0_has : ByteArray := prog_2_method_3_code
def yX0_has : MethodName := ⟨RX0, "has", "(III)Z"⟩
abbrev cX0_isFull : ByteArray := prog_2_method_4_code
def yX0_isFull : MethodName := ⟨RX0, "isFull", "(II)Z"⟩
abbrev cX0_add : ByteArray := prog_2_method_5_code
def yX0_add : MethodName := ⟨RX0, "add", "(III)V"⟩
abbrev cX0_isLatest : ByteArray := prog_2_method_6_code
def yX0_isLatest : MethodName := ⟨RX0, "isLatest", "(II)Z"⟩
def RX1 : String := "ProofCompare$Boxes"
def TX1 : u_T := fun k => match k with
  | 0 => ("ProofCompare$Boxes", "count", "I", false)
  | 1 => ("ProofCompare$Boxes", "width", "I", true)
  | 2 => ("ProofCompare$Boxes", "height", "I", true)
  | 3 => ("ProofCompare$Boxes", "most", "I", true)
  | 4 => ("ProofCompare$Boxes", "rows", "[I", true)
  | 5 => ("ProofCompare$Boxes", "grown", "[I", true)
  | 6 => ("ProofCompare$Boxes", "waitingX", "[I", true)
  | 7 => ("ProofCompare$Boxes", "waitingY", "[I", true)
  | _ => ("ProofCompare$Boxes", "waiting", "I", false)
def tyX1 : Nat → FieldType := fun k => match k with
  | 0 => .int
  | 1 => .int
  | 2 => .int
  | 3 => .int
  | 4 => .array .int
  | 5 => .array .int
  | 6 => .array .int
  | 7 => .array .int
  | _ => .int
abbrev wsX10 : List Cond := u_ws RX1 TX1 9
theorem nmX1 : ∀ a, a < 9 → ∀ b, b < 9 → a ≠ b → (TX1 a).2.1 ≠ (TX1 b).2.1 := by decide +kernel
theorem tyX1_ok : ∀ k, k < 9 → parseFieldDescriptor (TX1 k).2.2.1 = some (tyX1 k) := by decide +kernel
abbrev cX1_init : ByteArray := prog_3_method_1_code
def yX1_init : MethodName := ⟨RX1, "<init>", "(II)V"⟩
abbrev cX1_tell : ByteArray := prog_3_method_2_code
def yX1_tell : MethodName := ⟨RX1, "tell", "(II)I"⟩
abbrev cX1_mostPlaces : ByteArray := prog_3_method_3_code
def yX1_mostPlaces : MethodName := ⟨RX1, "mostPlaces", "()I"⟩
abbrev cX1_gather : ByteArray := prog_3_method_4_code
def yX1_gather : MethodName := ⟨RX1, "gather", "([ZI)V"⟩
abbrev cX1_growFrom : ByteArray := prog_3_method_5_code
def yX1_growFrom : MethodName := ⟨RX1, "growFrom", "(II[ZI)V"⟩
abbrev cX1_takeAround : ByteArray := prog_3_method_6_code
def yX1_takeAround : MethodName := ⟨RX1, "takeAround", "(II[ZI)V"⟩
abbrev cX1_take : ByteArray := prog_3_method_7_code
def yX1_take : MethodName := ⟨RX1, "take", "(II[Z)V"⟩
abbrev cX1_widen : ByteArray := prog_3_method_8_code
def yX1_widen : MethodName := ⟨RX1, "widen", "(IIII)V"⟩
abbrev cX1_absorbAll : ByteArray := prog_3_method_9_code
def yX1_absorbAll : MethodName := ⟨RX1, "absorbAll", "()V"⟩
abbrev cX1_absorbRound : ByteArray := prog_3_method_10_code
def yX1_absorbRound : MethodName := ⟨RX1, "absorbRound", "()Z"⟩
abbrev cX1_sharesPlace : ByteArray := prog_3_method_11_code
def yX1_sharesPlace : MethodName := ⟨RX1, "sharesPlace", "(I)Z"⟩
abbrev cX1_keepGrown : ByteArray := prog_3_method_12_code
def yX1_keepGrown : MethodName := ⟨RX1, "keepGrown", "()V"⟩
abbrev cX1_sort : ByteArray := prog_3_method_13_code
def yX1_sort : MethodName := ⟨RX1, "sort", "()V"⟩
abbrev cX1_comesBefore : ByteArray := prog_3_method_14_code
def yX1_comesBefore : MethodName := ⟨RX1, "comesBefore", "(II)Z"⟩
abbrev cX1_swap : ByteArray := prog_3_method_15_code
def yX1_swap : MethodName := ⟨RX1, "swap", "(II)V"⟩
def RX2 : String := "ProofCompare$Pages"
def TX2 : u_T := fun k => match k with
  | 0 => ("ProofCompare$Pages", "widths", "[[I", true)
  | _ => ("ProofCompare$Pages", "heights", "[[I", true)
def tyX2 : Nat → FieldType := fun k => match k with
  | 0 => .array (.array .int)
  | _ => .array (.array .int)
abbrev wsX20 : List Cond := u_ws RX2 TX2 2
theorem nmX2 : ∀ a, a < 2 → ∀ b, b < 2 → a ≠ b → (TX2 a).2.1 ≠ (TX2 b).2.1 := by decide +kernel
theorem tyX2_ok : ∀ k, k < 2 → parseFieldDescriptor (TX2 k).2.2.1 = some (tyX2 k) := by decide +kernel
abbrev cX2_init : ByteArray := prog_4_method_1_code
def yX2_init : MethodName := ⟨RX2, "<init>", "()V"⟩
abbrev cX2_put : ByteArray := prog_4_method_2_code
def yX2_put : MethodName := ⟨RX2, "put", "(IIII)V"⟩
abbrev cX2_hasOtherSizes : ByteArray := prog_4_method_3_code
def yX2_hasOtherSizes : MethodName := ⟨RX2, "hasOtherSizes", "(I)Z"⟩
abbrev cX2_countOtherSizes : ByteArray := prog_4_method_4_code
def yX2_countOtherSizes : MethodName := ⟨RX2, "countOtherSizes", "()I"⟩
abbrev cX2_countMissing : ByteArray := prog_4_method_5_code
def yX2_countMissing : MethodName := ⟨RX2, "countMissing", "()I"⟩
abbrev cX2_tellMissing : ByteArray := prog_4_method_6_code
def yX2_tellMissing : MethodName := ⟨RX2, "tellMissing", "(I)I"⟩
abbrev cX2_isThere : ByteArray := prog_4_method_7_code
def yX2_isThere : MethodName := ⟨RX2, "isThere", "(II)Z"⟩
abbrev cX2_isMissing : ByteArray := prog_4_method_8_code
def yX2_isMissing : MethodName := ⟨RX2, "isMissing", "(I)Z"⟩
def RX3 : String := "ProofCompare$Rules"
def TX3 : u_T := fun k => match k with
  | 0 => ("ProofCompare$Rules", "count", "I", false)
  | 1 => ("ProofCompare$Rules", "faultCount", "I", false)
  | 2 => ("ProofCompare$Rules", "kinds", "[I", true)
  | 3 => ("ProofCompare$Rules", "fails", "[Z", true)
  | 4 => ("ProofCompare$Rules", "limits", "[I", true)
  | _ => ("ProofCompare$Rules", "faults", "[I", true)
def tyX3 : Nat → FieldType := fun k => match k with
  | 0 => .int
  | 1 => .int
  | 2 => .array .int
  | 3 => .array .boolean
  | 4 => .array .int
  | _ => .array .int
abbrev wsX30 : List Cond := u_ws RX3 TX3 6
theorem nmX3 : ∀ a, a < 6 → ∀ b, b < 6 → a ≠ b → (TX3 a).2.1 ≠ (TX3 b).2.1 := by decide +kernel
theorem tyX3_ok : ∀ k, k < 6 → parseFieldDescriptor (TX3 k).2.2.1 = some (tyX3 k) := by decide +kernel
abbrev cX3_init : ByteArray := prog_5_method_1_code
def yX3_init : MethodName := ⟨RX3, "<init>", "()V"⟩
abbrev cX3_add : ByteArray := prog_5_method_2_code
def yX3_add : MethodName := ⟨RX3, "add", "(IIZ)I"⟩
abbrev cX3_tellFault : ByteArray := prog_5_method_3_code
def yX3_tellFault : MethodName := ⟨RX3, "tellFault", "(II)I"⟩
abbrev cX3_forgetFaults : ByteArray := prog_5_method_4_code
def yX3_forgetFaults : MethodName := ⟨RX3, "forgetFaults", "()V"⟩
abbrev cX3_judge : ByteArray := prog_5_method_5_code
def yX3_judge : MethodName := ⟨RX3, "judge", "(II)V"⟩
abbrev cX3_noteFailure : ByteArray := prog_5_method_6_code
def yX3_noteFailure : MethodName := ⟨RX3, "noteFailure", "(I)V"⟩
abbrev cX3_append : ByteArray := prog_5_method_7_code
def yX3_append : MethodName := ⟨RX3, "append", "(III)V"⟩
def RX4 : String := "ProofCompare$Surfaces"
def TX4 : u_T := fun k => match k with
  | 0 => ("ProofCompare$Surfaces", "boxes", "LProofCompare$Boxes;", true)
  | 1 => ("ProofCompare$Surfaces", "differingPlaces", "I", false)
  | 2 => ("ProofCompare$Surfaces", "width", "I", true)
  | 3 => ("ProofCompare$Surfaces", "height", "I", true)
  | 4 => ("ProofCompare$Surfaces", "points", "[[I", true)
  | 5 => ("ProofCompare$Surfaces", "differs", "[Z", true)
  | 6 => ("ProofCompare$Surfaces", "farthest", "I", false)
  | 7 => ("ProofCompare$Surfaces", "near", "I", false)
  | _ => ("ProofCompare$Surfaces", "stale", "Z", false)
def tyX4 : Nat → FieldType := fun k => match k with
  | 0 => .object "ProofCompare$Boxes"
  | 1 => .int
  | 2 => .int
  | 3 => .int
  | 4 => .array (.array .int)
  | 5 => .array .boolean
  | 6 => .int
  | 7 => .int
  | _ => .boolean
abbrev wsX40 : List Cond := u_ws RX4 TX4 9
theorem nmX4 : ∀ a, a < 9 → ∀ b, b < 9 → a ≠ b → (TX4 a).2.1 ≠ (TX4 b).2.1 := by decide +kernel
theorem tyX4_ok : ∀ k, k < 9 → parseFieldDescriptor (TX4 k).2.2.1 = some (tyX4 k) := by decide +kernel
abbrev cX4_init : ByteArray := prog_6_method_1_code
def yX4_init : MethodName := ⟨RX4, "<init>", "(II)V"⟩
abbrev cX4_holds : ByteArray := prog_6_method_2_code
def yX4_holds : MethodName := ⟨RX4, "holds", "(II)Z"⟩
abbrev cX4_put : ByteArray := prog_6_method_3_code
def yX4_put : MethodName := ⟨RX4, "put", "(IIII)I"⟩
abbrev cX4_limit : ByteArray := prog_6_method_4_code
def yX4_limit : MethodName := ⟨RX4, "limit", "(II)I"⟩
abbrev cX4_refresh : ByteArray := prog_6_method_5_code
def yX4_refresh : MethodName := ⟨RX4, "refresh", "()V"⟩
abbrev cX4_isUnmetAt : ByteArray := prog_6_method_6_code
def yX4_isUnmetAt : MethodName := ⟨RX4, "isUnmetAt", "(II)Z"⟩
abbrev cX4_isMet : ByteArray := prog_6_method_7_code
def yX4_isMet : MethodName := ⟨RX4, "isMet", "(I[III)Z"⟩
abbrev cX4_isClose : ByteArray := prog_6_method_8_code
def yX4_isClose : MethodName := ⟨RX4, "isClose", "(II)Z"⟩
def RX5 : String := "ProofCompare$WordRows"
def TX5 : u_T := fun k => match k with
  | 0 => ("ProofCompare$WordRows", "count", "I", false)
  | 1 => ("ProofCompare$WordRows", "stale", "Z", false)
  | 2 => ("ProofCompare$WordRows", "before", "LProofCompare$WordSide;", true)
  | 3 => ("ProofCompare$WordRows", "after", "LProofCompare$WordSide;", true)
  | 4 => ("ProofCompare$WordRows", "rows", "[I", true)
  | _ => ("ProofCompare$WordRows", "longest", "[I", true)
def tyX5 : Nat → FieldType := fun k => match k with
  | 0 => .int
  | 1 => .boolean
  | 2 => .object "ProofCompare$WordSide"
  | 3 => .object "ProofCompare$WordSide"
  | 4 => .array .int
  | _ => .array .int
abbrev wsX50 : List Cond := u_ws RX5 TX5 6
theorem nmX5 : ∀ a, a < 6 → ∀ b, b < 6 → a ≠ b → (TX5 a).2.1 ≠ (TX5 b).2.1 := by decide +kernel
theorem tyX5_ok : ∀ k, k < 6 → parseFieldDescriptor (TX5 k).2.2.1 = some (tyX5 k) := by decide +kernel
abbrev cX5_init : ByteArray := prog_7_method_1_code
def yX5_init : MethodName := ⟨RX5, "<init>", "(LProofCompare$WordSide;LProofCompare$WordSide;)V"⟩
abbrev cX5_tell : ByteArray := prog_7_method_2_code
def yX5_tell : MethodName := ⟨RX5, "tell", "(II)I"⟩
abbrev cX5_countKind : ByteArray := prog_7_method_3_code
def yX5_countKind : MethodName := ⟨RX5, "countKind", "(I)I"⟩
abbrev cX5_refresh : ByteArray := prog_7_method_4_code
def yX5_refresh : MethodName := ⟨RX5, "refresh", "()V"⟩
abbrev cX5_measure : ByteArray := prog_7_method_5_code
def yX5_measure : MethodName := ⟨RX5, "measure", "()V"⟩
abbrev cX5_measureAt : ByteArray := prog_7_method_6_code
def yX5_measureAt : MethodName := ⟨RX5, "measureAt", "(II)I"⟩
abbrev cX5_walk : ByteArray := prog_7_method_7_code
def yX5_walk : MethodName := ⟨RX5, "walk", "()V"⟩
abbrev cX5_isKept : ByteArray := prog_7_method_8_code
def yX5_isKept : MethodName := ⟨RX5, "isKept", "(II)Z"⟩
abbrev cX5_isGone : ByteArray := prog_7_method_9_code
def yX5_isGone : MethodName := ⟨RX5, "isGone", "(II)Z"⟩
abbrev cX5_tellIfShifted : ByteArray := prog_7_method_10_code
def yX5_tellIfShifted : MethodName := ⟨RX5, "tellIfShifted", "(II)V"⟩
abbrev cX5_append : ByteArray := prog_7_method_11_code
def yX5_append : MethodName := ⟨RX5, "append", "(IIII)V"⟩
abbrev cX5_pairMoved : ByteArray := prog_7_method_12_code
def yX5_pairMoved : MethodName := ⟨RX5, "pairMoved", "()V"⟩
abbrev cX5_pairWithFirstNew : ByteArray := prog_7_method_13_code
def yX5_pairWithFirstNew : MethodName := ⟨RX5, "pairWithFirstNew", "(I)V"⟩
abbrev cX5_dropUntold : ByteArray := prog_7_method_14_code
def yX5_dropUntold : MethodName := ⟨RX5, "dropUntold", "()V"⟩
def RX6 : String := "ProofCompare$WordSide"
def TX6 : u_T := fun k => match k with
  | 0 => ("ProofCompare$WordSide", "count", "I", false)
  | 1 => ("ProofCompare$WordSide", "values", "[I", true)
  | 2 => ("ProofCompare$WordSide", "xs", "[I", true)
  | 3 => ("ProofCompare$WordSide", "ys", "[I", true)
  | _ => ("ProofCompare$WordSide", "order", "[I", true)
def tyX6 : Nat → FieldType := fun k => match k with
  | 0 => .int
  | 1 => .array .int
  | 2 => .array .int
  | 3 => .array .int
  | _ => .array .int
abbrev wsX60 : List Cond := u_ws RX6 TX6 5
theorem nmX6 : ∀ a, a < 5 → ∀ b, b < 5 → a ≠ b → (TX6 a).2.1 ≠ (TX6 b).2.1 := by decide +kernel
theorem tyX6_ok : ∀ k, k < 5 → parseFieldDescriptor (TX6 k).2.2.1 = some (tyX6 k) := by decide +kernel
abbrev cX6_init : ByteArray := prog_8_method_1_code
def yX6_init : MethodName := ⟨RX6, "<init>", "()V"⟩
abbrev cX6_add : ByteArray := prog_8_method_2_code
def yX6_add : MethodName := ⟨RX6, "add", "(III)I"⟩
abbrev cX6_numberAt : ByteArray := prog_8_method_3_code
def yX6_numberAt : MethodName := ⟨RX6, "numberAt", "(I)I"⟩
abbrev cX6_valueAt : ByteArray := prog_8_method_4_code
def yX6_valueAt : MethodName := ⟨RX6, "valueAt", "(I)I"⟩
abbrev cX6_isSamePlace : ByteArray := prog_8_method_5_code
def yX6_isSamePlace : MethodName := ⟨RX6, "isSamePlace", "(ILProofCompare$WordSide;I)Z"⟩
abbrev cX6_liesBehind : ByteArray := prog_8_method_6_code
def yX6_liesBehind : MethodName := ⟨RX6, "liesBehind", "(III)Z"⟩
def RX7 : String := "ProofCompare"
def TX7 : u_T := fun k => match k with
  | 0 => ("ProofCompare", "surfaces", "LProofCompare$Surfaces;", true)
  | 1 => ("ProofCompare", "before", "LProofCompare$WordSide;", true)
  | 2 => ("ProofCompare", "after", "LProofCompare$WordSide;", true)
  | 3 => ("ProofCompare", "wordRows", "LProofCompare$WordRows;", true)
  | 4 => ("ProofCompare", "pages", "LProofCompare$Pages;", true)
  | 5 => ("ProofCompare", "rules", "LProofCompare$Rules;", true)
  | _ => ("ProofCompare", "approvals", "LProofCompare$Approvals;", true)
def tyX7 : Nat → FieldType := fun k => match k with
  | 0 => .object "ProofCompare$Surfaces"
  | 1 => .object "ProofCompare$WordSide"
  | 2 => .object "ProofCompare$WordSide"
  | 3 => .object "ProofCompare$WordRows"
  | 4 => .object "ProofCompare$Pages"
  | 5 => .object "ProofCompare$Rules"
  | _ => .object "ProofCompare$Approvals"
abbrev wsX70 : List Cond := u_ws RX7 TX7 7
theorem nmX7 : ∀ a, a < 7 → ∀ b, b < 7 → a ≠ b → (TX7 a).2.1 ≠ (TX7 b).2.1 := by decide +kernel
theorem tyX7_ok : ∀ k, k < 7 → parseFieldDescriptor (TX7 k).2.2.1 = some (tyX7 k) := by decide +kernel
abbrev cX7_init : ByteArray := prog_1_method_1_code
def yX7_init : MethodName := ⟨RX7, "<init>", "(II)V"⟩
abbrev cX7_point : ByteArray := prog_1_method_2_code
def yX7_point : MethodName := ⟨RX7, "point", "(IIII)I"⟩
abbrev cX7_bound : ByteArray := prog_1_method_3_code
def yX7_bound : MethodName := ⟨RX7, "bound", "(II)I"⟩
abbrev cX7_differing : ByteArray := prog_1_method_4_code
def yX7_differing : MethodName := ⟨RX7, "differing", "()J"⟩
abbrev cX7_box : ByteArray := prog_1_method_5_code
def yX7_box : MethodName := ⟨RX7, "box", "(II)I"⟩
abbrev cX7_word : ByteArray := prog_1_method_6_code
def yX7_word : MethodName := ⟨RX7, "word", "(IIII)I"⟩
abbrev cX7_words : ByteArray := prog_1_method_7_code
def yX7_words : MethodName := ⟨RX7, "words", "(II)I"⟩
abbrev cX7_size : ByteArray := prog_1_method_8_code
def yX7_size : MethodName := ⟨RX7, "size", "(IIII)I"⟩
abbrev cX7_missing : ByteArray := prog_1_method_9_code
def yX7_missing : MethodName := ⟨RX7, "missing", "(I)I"⟩
abbrev cX7_rule : ByteArray := prog_1_method_10_code
def yX7_rule : MethodName := ⟨RX7, "rule", "(IIZ)I"⟩
abbrev cX7_check : ByteArray := prog_1_method_11_code
def yX7_check : MethodName := ⟨RX7, "check", "()I"⟩
abbrev cX7_fault : ByteArray := prog_1_method_12_code
def yX7_fault : MethodName := ⟨RX7, "fault", "(II)I"⟩
abbrev cX7_approve : ByteArray := prog_1_method_13_code
def yX7_approve : MethodName := ⟨RX7, "approve", "(III)I"⟩
abbrev cX7_approved : ByteArray := prog_1_method_14_code
def yX7_approved : MethodName := ⟨RX7, "approved", "(I)Z"⟩
abbrev cX7_isSide : ByteArray := prog_1_method_15_code
def yX7_isSide : MethodName := ⟨RX7, "isSide", "(I)Z"⟩
abbrev cX7_isPage : ByteArray := prog_1_method_16_code
def yX7_isPage : MethodName := ⟨RX7, "isPage", "(I)Z"⟩
abbrev cX7_find : ByteArray := prog_1_method_17_code
def yX7_find : MethodName := ⟨RX7, "find", "(I)I"⟩
def RX8 : String := "ProofCompareModel"
def TX8 : u_T := fun k => match k with
  | 0 => ("ProofCompareModel", "thrown", "I", false)
  | 1 => ("ProofCompareModel", "wide", "I", true)
  | 2 => ("ProofCompareModel", "high", "I", true)
  | 3 => ("ProofCompareModel", "points", "[I", true)
  | 4 => ("ProofCompareModel", "bound", "I", false)
  | 5 => ("ProofCompareModel", "near", "I", false)
  | 6 => ("ProofCompareModel", "isNew", "Z", false)
  | 7 => ("ProofCompareModel", "differs", "[Z", true)
  | 8 => ("ProofCompareModel", "label", "[I", true)
  | 9 => ("ProofCompareModel", "many", "I", false)
  | 10 => ("ProofCompareModel", "boxes", "I", false)
  | 11 => ("ProofCompareModel", "box", "[I", true)
  | 12 => ("ProofCompareModel", "words", "[I", true)
  | 13 => ("ProofCompareModel", "wordOf", "[I", true)
  | 14 => ("ProofCompareModel", "xOf", "[I", true)
  | 15 => ("ProofCompareModel", "yOf", "[I", true)
  | 16 => ("ProofCompareModel", "order", "[I", true)
  | 17 => ("ProofCompareModel", "areNew", "Z", false)
  | 18 => ("ProofCompareModel", "common", "[I", true)
  | 19 => ("ProofCompareModel", "rows", "I", false)
  | 20 => ("ProofCompareModel", "row", "[I", true)
  | 21 => ("ProofCompareModel", "pageWide", "[I", true)
  | 22 => ("ProofCompareModel", "pageHigh", "[I", true)
  | 23 => ("ProofCompareModel", "rules", "I", false)
  | 24 => ("ProofCompareModel", "ruleKind", "[I", true)
  | 25 => ("ProofCompareModel", "ruleBound", "[I", true)
  | 26 => ("ProofCompareModel", "ruleFails", "[Z", true)
  | 27 => ("ProofCompareModel", "faults", "I", false)
  | 28 => ("ProofCompareModel", "faultRule", "[I", true)
  | 29 => ("ProofCompareModel", "faultMany", "[I", true)
  | 30 => ("ProofCompareModel", "edition", "[I", true)
  | 31 => ("ProofCompareModel", "approvals", "[I", true)
  | _ => ("ProofCompareModel", "who", "[I", true)
def tyX8 : Nat → FieldType := fun k => match k with
  | 0 => .int
  | 1 => .int
  | 2 => .int
  | 3 => .array .int
  | 4 => .int
  | 5 => .int
  | 6 => .boolean
  | 7 => .array .boolean
  | 8 => .array .int
  | 9 => .int
  | 10 => .int
  | 11 => .array .int
  | 12 => .array .int
  | 13 => .array .int
  | 14 => .array .int
  | 15 => .array .int
  | 16 => .array .int
  | 17 => .boolean
  | 18 => .array .int
  | 19 => .int
  | 20 => .array .int
  | 21 => .array .int
  | 22 => .array .int
  | 23 => .int
  | 24 => .array .int
  | 25 => .array .int
  | 26 => .array .boolean
  | 27 => .int
  | 28 => .array .int
  | 29 => .array .int
  | 30 => .array .int
  | 31 => .array .int
  | _ => .array .int
abbrev wsX80 : List Cond := u_ws RX8 TX8 33
theorem nmX8 : ∀ a, a < 33 → ∀ b, b < 33 → a ≠ b → (TX8 a).2.1 ≠ (TX8 b).2.1 := by decide +kernel
theorem tyX8_ok : ∀ k, k < 33 → parseFieldDescriptor (TX8 k).2.2.1 = some (tyX8 k) := by decide +kernel
abbrev cX8_init : ByteArray := prog_10_method_1_code
def yX8_init : MethodName := ⟨RX8, "<init>", "(II)V"⟩
abbrev cX8_thrown : ByteArray := prog_10_method_2_code
def yX8_thrown : MethodName := ⟨RX8, "thrown", "()I"⟩
abbrev cX8_in : ByteArray := prog_10_method_3_code
def yX8_in : MethodName := ⟨RX8, "in", "(III)Z"⟩
abbrev cX8_point : ByteArray := prog_10_method_4_code
def yX8_point : MethodName := ⟨RX8, "point", "(IIII)I"⟩
abbrev cX8_bound : ByteArray := prog_10_method_5_code
def yX8_bound : MethodName := ⟨RX8, "bound", "(II)I"⟩
abbrev cX8_isMet : ByteArray := prog_10_method_6_code
def yX8_isMet : MethodName := ⟨RX8, "isMet", "(III)Z"⟩
abbrev cX8_leastNear : ByteArray := prog_10_method_7_code
def yX8_leastNear : MethodName := ⟨RX8, "leastNear", "(II)I"⟩
abbrev cX8_spread : ByteArray := prog_10_method_8_code
def yX8_spread : MethodName := ⟨RX8, "spread", "()V"⟩
abbrev cX8_grow : ByteArray := prog_10_method_9_code
def yX8_grow : MethodName := ⟨RX8, "grow", "(IIIII)V"⟩
abbrev cX8_makeBoxes : ByteArray := prog_10_method_10_code
def yX8_makeBoxes : MethodName := ⟨RX8, "makeBoxes", "()V"⟩
abbrev cX8_share : ByteArray := prog_10_method_11_code
def yX8_share : MethodName := ⟨RX8, "share", "(II)Z"⟩
abbrev cX8_joinBoxes : ByteArray := prog_10_method_12_code
def yX8_joinBoxes : MethodName := ⟨RX8, "joinBoxes", "()V"⟩
abbrev cX8_sortBoxes : ByteArray := prog_10_method_13_code
def yX8_sortBoxes : MethodName := ⟨RX8, "sortBoxes", "()V"⟩
abbrev cX8_look : ByteArray := prog_10_method_14_code
def yX8_look : MethodName := ⟨RX8, "look", "()V"⟩
abbrev cX8_differing : ByteArray := prog_10_method_15_code
def yX8_differing : MethodName := ⟨RX8, "differing", "()J"⟩
abbrev cX8_box : ByteArray := prog_10_method_16_code
def yX8_box : MethodName := ⟨RX8, "box", "(II)I"⟩
abbrev cX8_word : ByteArray := prog_10_method_17_code
def yX8_word : MethodName := ⟨RX8, "word", "(IIII)I"⟩
abbrev cX8_isBefore : ByteArray := prog_10_method_18_code
def yX8_isBefore : MethodName := ⟨RX8, "isBefore", "(II)Z"⟩
abbrev cX8_sortWords : ByteArray := prog_10_method_19_code
def yX8_sortWords : MethodName := ⟨RX8, "sortWords", "(I)V"⟩
abbrev cX8_at : ByteArray := prog_10_method_20_code
def yX8_at : MethodName := ⟨RX8, "at", "(II)I"⟩
abbrev cX8_addRow : ByteArray := prog_10_method_21_code
def yX8_addRow : MethodName := ⟨RX8, "addRow", "(IIII)V"⟩
abbrev cX8_fillCommon : ByteArray := prog_10_method_22_code
def yX8_fillCommon : MethodName := ⟨RX8, "fillCommon", "()V"⟩
abbrev cX8_compare : ByteArray := prog_10_method_23_code
def yX8_compare : MethodName := ⟨RX8, "compare", "()V"⟩
abbrev cX8_countRows : ByteArray := prog_10_method_24_code
def yX8_countRows : MethodName := ⟨RX8, "countRows", "(II)I"⟩
abbrev cX8_words : ByteArray := prog_10_method_25_code
def yX8_words : MethodName := ⟨RX8, "words", "(II)I"⟩
abbrev cX8_size : ByteArray := prog_10_method_26_code
def yX8_size : MethodName := ⟨RX8, "size", "(IIII)I"⟩
abbrev cX8_missing : ByteArray := prog_10_method_27_code
def yX8_missing : MethodName := ⟨RX8, "missing", "(I)I"⟩
abbrev cX8_rule : ByteArray := prog_10_method_28_code
def yX8_rule : MethodName := ⟨RX8, "rule", "(IIZ)I"⟩
abbrev cX8_mostPlaces : ByteArray := prog_10_method_29_code
def yX8_mostPlaces : MethodName := ⟨RX8, "mostPlaces", "()I"⟩
abbrev cX8_find : ByteArray := prog_10_method_30_code
def yX8_find : MethodName := ⟨RX8, "find", "(I)I"⟩
abbrev cX8_check : ByteArray := prog_10_method_31_code
def yX8_check : MethodName := ⟨RX8, "check", "()I"⟩
abbrev cX8_fault : ByteArray := prog_10_method_32_code
def yX8_fault : MethodName := ⟨RX8, "fault", "(II)I"⟩
abbrev cX8_approve : ByteArray := prog_10_method_33_code
def yX8_approve : MethodName := ⟨RX8, "approve", "(III)I"⟩
abbrev cX8_approved : ByteArray := prog_10_method_34_code
def yX8_approved : MethodName := ⟨RX8, "approved", "(I)Z"⟩
def RJx00060 : String := "java/lang/ArrayIndexOutOfBoundsException"
def TJx00060 : u_T := fun k => match k with
  | 0 => ("java/lang/Throwable", "cause", "Ljava/lang/Throwable;", false)
  | 1 => ("java/lang/Throwable", "stackTrace", "[Ljava/lang/StackTraceElement;", false)
  | 2 => ("java/lang/Throwable", "suppressedExceptions", "Ljava/util/List;", false)
  | 3 => ("java/lang/Throwable", "detailMessage", "Ljava/lang/String;", false)
  | 4 => ("java/lang/Throwable", "backtrace", "Ljava/lang/Object;", false)
  | _ => ("java/lang/Throwable", "depth", "I", false)
def tyJx00060 : Nat → FieldType := fun k => match k with
  | 0 => .object "java/lang/Throwable"
  | 1 => .array (.object "java/lang/StackTraceElement")
  | 2 => .object "java/util/List"
  | 3 => .object "java/lang/String"
  | 4 => .object "java/lang/Object"
  | _ => .int
abbrev wsJx000600 : List Cond := u_ws RJx00060 TJx00060 6
theorem nmJx00060 : ∀ a, a < 6 → ∀ b, b < 6 → a ≠ b → (TJx00060 a).2.1 ≠ (TJx00060 b).2.1 := by decide +kernel
theorem tyJx00060_ok : ∀ k, k < 6 → parseFieldDescriptor (TJx00060 k).2.2.1 = some (tyJx00060 k) := by decide +kernel
abbrev cJx00060_init_a7421 : ByteArray := prog_11_method_2_code
def yJx00060_init_a7421 : MethodName := ⟨RJx00060, "<init>", "(Ljava/lang/String;)V"⟩
def RJ9 : String := "java/lang/Math"
def TJ9 : u_T := fun k => match k with
  | _ => ("", "", "", false)
def tyJ9 : Nat → FieldType := fun k => match k with
  | _ => .int
abbrev wsJ90 : List Cond := u_ws RJ9 TJ9 0
theorem nmJ9 : ∀ a, a < 0 → ∀ b, b < 0 → a ≠ b → (TJ9 a).2.1 ≠ (TJ9 b).2.1 := by decide +kernel
theorem tyJ9_ok : ∀ k, k < 0 → parseFieldDescriptor (TJ9 k).2.2.1 = some (tyJ9 k) := by decide +kernel
abbrev cJ9_abs_0f7a4 : ByteArray := prog_15_method_59_code
def yJ9_abs_0f7a4 : MethodName := ⟨RJ9, "abs", "(I)I"⟩
abbrev cJ9_max_7cf53 : ByteArray := prog_15_method_65_code
def yJ9_max_7cf53 : MethodName := ⟨RJ9, "max", "(II)I"⟩
abbrev cJ9_min_7cf53 : ByteArray := prog_15_method_69_code
def yJ9_min_7cf53 : MethodName := ⟨RJ9, "min", "(II)I"⟩
def RJ0 : String := "java/lang/String"
def TJ0 : u_T := fun k => match k with
  | _ => ("", "", "", false)
def tyJ0 : Nat → FieldType := fun k => match k with
  | _ => .int
abbrev wsJ00 : List Cond := u_ws RJ0 TJ0 0
theorem nmJ0 : ∀ a, a < 0 → ∀ b, b < 0 → a ≠ b → (TJ0 a).2.1 ≠ (TJ0 b).2.1 := by decide +kernel
theorem tyJ0_ok : ∀ k, k < 0 → parseFieldDescriptor (TJ0 k).2.2.1 = some (tyJ0 k) := by decide +kernel
def RJ10 : String := "java/lang/System"
def TJ10 : u_T := fun k => match k with
  | _ => ("", "", "", false)
def tyJ10 : Nat → FieldType := fun k => match k with
  | _ => .int
abbrev wsJ100 : List Cond := u_ws RJ10 TJ10 0
theorem nmJ10 : ∀ a, a < 0 → ∀ b, b < 0 → a ≠ b → (TJ10 a).2.1 ≠ (TJ10 b).2.1 := by decide +kernel
theorem tyJ10_ok : ∀ k, k < 0 → parseFieldDescriptor (TJ10 k).2.2.1 = some (tyJ10 k) := by decide +kernel
def RL : String := "ProofCompareLaw"
abbrev cL_cell : ByteArray := method_2_code
def yL_cell : MethodName := ⟨RL, "cell", "([II)I"⟩
abbrev cL_point : ByteArray := method_3_code
def yL_point : MethodName := ⟨RL, "point", "(LProofCompare;IIII[J)I"⟩
abbrev cL_bound : ByteArray := method_4_code
def yL_bound : MethodName := ⟨RL, "bound", "(LProofCompare;II[J)I"⟩
abbrev cL_box : ByteArray := method_5_code
def yL_box : MethodName := ⟨RL, "box", "(LProofCompare;II[J)I"⟩
abbrev cL_word : ByteArray := method_6_code
def yL_word : MethodName := ⟨RL, "word", "(LProofCompare;IIII[J)I"⟩
abbrev cL_words : ByteArray := method_7_code
def yL_words : MethodName := ⟨RL, "words", "(LProofCompare;II[J)I"⟩
abbrev cL_size : ByteArray := method_8_code
def yL_size : MethodName := ⟨RL, "size", "(LProofCompare;IIII[J)I"⟩
abbrev cL_missing : ByteArray := method_9_code
def yL_missing : MethodName := ⟨RL, "missing", "(LProofCompare;I[J)I"⟩
abbrev cL_rule : ByteArray := method_10_code
def yL_rule : MethodName := ⟨RL, "rule", "(LProofCompare;IIZ[J)I"⟩
abbrev cL_fault : ByteArray := method_11_code
def yL_fault : MethodName := ⟨RL, "fault", "(LProofCompare;II[J)I"⟩
abbrev cL_approve : ByteArray := method_12_code
def yL_approve : MethodName := ⟨RL, "approve", "(LProofCompare;III[J)I"⟩
abbrev cL_approved : ByteArray := method_13_code
def yL_approved : MethodName := ⟨RL, "approved", "(LProofCompare;I[J)I"⟩
abbrev cL_law : ByteArray := code
def yL_law : MethodName := ⟨RL, "law", "([I)Z"⟩
abbrev vwCl : List vw_C := [(RJx00060, TJx00060, 6), (RX0, TX0, 3), (RX1, TX1, 9), (RX2, TX2, 2), (RX3, TX3, 6), (RX4, TX4, 9), (RX5, TX5, 6), (RX6, TX6, 5), (RX7, TX7, 7), (RX8, TX8, 33)]
