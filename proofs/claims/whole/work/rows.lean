section
-- ===== PART A: goes FIRST, ahead of the names: the tables' words, and 'selects' of the private methods out of them =====
/-- a private method of a class that the tables say can be made, by its rows of tables_1 -/
def lw_okq (q : MethodName × Nat) : Prop := (q.1.cls ≠ "java/lang/invoke/MethodHandle" ∧ q.1.cls ≠ "java/lang/invoke/VarHandle") ∧ Cond.instantiable q.1.cls q.2 ∈ tables_1 ∧ Cond.privateMethod q.1 ∈ tables_1 ∧ Cond.instanceMethod q.1 ∈ tables_1
theorem lw_p0 : lw_okq (⟨"ProofCompare$Surfaces", "isUnmetAt", "(II)Z"⟩, 9) := ⟨⟨by decide +kernel, by decide +kernel⟩, List.mem_of_getElem? (i := 28) (by decide +kernel), List.mem_of_getElem? (i := 251) (by decide +kernel), List.mem_of_getElem? (i := 252) (by decide +kernel)⟩
theorem lw_p1 : lw_okq (⟨"ProofCompare$Surfaces", "isClose", "(II)Z"⟩, 9) := ⟨⟨by decide +kernel, by decide +kernel⟩, List.mem_of_getElem? (i := 28) (by decide +kernel), List.mem_of_getElem? (i := 255) (by decide +kernel), List.mem_of_getElem? (i := 256) (by decide +kernel)⟩
theorem lw_p2 : lw_okq (⟨"ProofCompare$Surfaces", "isMet", "(I[III)Z"⟩, 9) := ⟨⟨by decide +kernel, by decide +kernel⟩, List.mem_of_getElem? (i := 28) (by decide +kernel), List.mem_of_getElem? (i := 262) (by decide +kernel), List.mem_of_getElem? (i := 263) (by decide +kernel)⟩
theorem lw_p3 : lw_okq (⟨"ProofCompare$Boxes", "growFrom", "(II[ZI)V"⟩, 9) := ⟨⟨by decide +kernel, by decide +kernel⟩, List.mem_of_getElem? (i := 42) (by decide +kernel), List.mem_of_getElem? (i := 270) (by decide +kernel), List.mem_of_getElem? (i := 271) (by decide +kernel)⟩
theorem lw_p4 : lw_okq (⟨"ProofCompare$Boxes", "take", "(II[Z)V"⟩, 9) := ⟨⟨by decide +kernel, by decide +kernel⟩, List.mem_of_getElem? (i := 42) (by decide +kernel), List.mem_of_getElem? (i := 274) (by decide +kernel), List.mem_of_getElem? (i := 275) (by decide +kernel)⟩
theorem lw_p5 : lw_okq (⟨"ProofCompare$Boxes", "widen", "(IIII)V"⟩, 9) := ⟨⟨by decide +kernel, by decide +kernel⟩, List.mem_of_getElem? (i := 42) (by decide +kernel), List.mem_of_getElem? (i := 278) (by decide +kernel), List.mem_of_getElem? (i := 279) (by decide +kernel)⟩
theorem lw_p6 : lw_okq (⟨"ProofCompare$Boxes", "takeAround", "(II[ZI)V"⟩, 9) := ⟨⟨by decide +kernel, by decide +kernel⟩, List.mem_of_getElem? (i := 42) (by decide +kernel), List.mem_of_getElem? (i := 284) (by decide +kernel), List.mem_of_getElem? (i := 285) (by decide +kernel)⟩
theorem lw_p7 : lw_okq (⟨"ProofCompare$Boxes", "absorbAll", "()V"⟩, 9) := ⟨⟨by decide +kernel, by decide +kernel⟩, List.mem_of_getElem? (i := 42) (by decide +kernel), List.mem_of_getElem? (i := 288) (by decide +kernel), List.mem_of_getElem? (i := 289) (by decide +kernel)⟩
theorem lw_p8 : lw_okq (⟨"ProofCompare$Boxes", "absorbRound", "()Z"⟩, 9) := ⟨⟨by decide +kernel, by decide +kernel⟩, List.mem_of_getElem? (i := 42) (by decide +kernel), List.mem_of_getElem? (i := 292) (by decide +kernel), List.mem_of_getElem? (i := 293) (by decide +kernel)⟩
theorem lw_p9 : lw_okq (⟨"ProofCompare$Boxes", "sharesPlace", "(I)Z"⟩, 9) := ⟨⟨by decide +kernel, by decide +kernel⟩, List.mem_of_getElem? (i := 42) (by decide +kernel), List.mem_of_getElem? (i := 296) (by decide +kernel), List.mem_of_getElem? (i := 297) (by decide +kernel)⟩
theorem lw_p10 : lw_okq (⟨"ProofCompare$Boxes", "keepGrown", "()V"⟩, 9) := ⟨⟨by decide +kernel, by decide +kernel⟩, List.mem_of_getElem? (i := 42) (by decide +kernel), List.mem_of_getElem? (i := 307) (by decide +kernel), List.mem_of_getElem? (i := 308) (by decide +kernel)⟩
theorem lw_p11 : lw_okq (⟨"ProofCompare$Boxes", "sort", "()V"⟩, 9) := ⟨⟨by decide +kernel, by decide +kernel⟩, List.mem_of_getElem? (i := 42) (by decide +kernel), List.mem_of_getElem? (i := 311) (by decide +kernel), List.mem_of_getElem? (i := 312) (by decide +kernel)⟩
theorem lw_p12 : lw_okq (⟨"ProofCompare$Boxes", "comesBefore", "(II)Z"⟩, 9) := ⟨⟨by decide +kernel, by decide +kernel⟩, List.mem_of_getElem? (i := 42) (by decide +kernel), List.mem_of_getElem? (i := 315) (by decide +kernel), List.mem_of_getElem? (i := 316) (by decide +kernel)⟩
theorem lw_p13 : lw_okq (⟨"ProofCompare$Boxes", "swap", "(II)V"⟩, 9) := ⟨⟨by decide +kernel, by decide +kernel⟩, List.mem_of_getElem? (i := 42) (by decide +kernel), List.mem_of_getElem? (i := 319) (by decide +kernel), List.mem_of_getElem? (i := 320) (by decide +kernel)⟩
theorem lw_p14 : lw_okq (⟨"ProofCompare$WordRows", "measure", "()V"⟩, 6) := ⟨⟨by decide +kernel, by decide +kernel⟩, List.mem_of_getElem? (i := 133) (by decide +kernel), List.mem_of_getElem? (i := 331) (by decide +kernel), List.mem_of_getElem? (i := 332) (by decide +kernel)⟩
theorem lw_p15 : lw_okq (⟨"ProofCompare$WordRows", "measureAt", "(II)I"⟩, 6) := ⟨⟨by decide +kernel, by decide +kernel⟩, List.mem_of_getElem? (i := 133) (by decide +kernel), List.mem_of_getElem? (i := 335) (by decide +kernel), List.mem_of_getElem? (i := 336) (by decide +kernel)⟩
def lw_privs_1 : List (MethodName × Nat) := [(⟨"ProofCompare$Surfaces", "isUnmetAt", "(II)Z"⟩, 9), (⟨"ProofCompare$Surfaces", "isClose", "(II)Z"⟩, 9), (⟨"ProofCompare$Surfaces", "isMet", "(I[III)Z"⟩, 9), (⟨"ProofCompare$Boxes", "growFrom", "(II[ZI)V"⟩, 9), (⟨"ProofCompare$Boxes", "take", "(II[Z)V"⟩, 9), (⟨"ProofCompare$Boxes", "widen", "(IIII)V"⟩, 9), (⟨"ProofCompare$Boxes", "takeAround", "(II[ZI)V"⟩, 9), (⟨"ProofCompare$Boxes", "absorbAll", "()V"⟩, 9), (⟨"ProofCompare$Boxes", "absorbRound", "()Z"⟩, 9), (⟨"ProofCompare$Boxes", "sharesPlace", "(I)Z"⟩, 9), (⟨"ProofCompare$Boxes", "keepGrown", "()V"⟩, 9), (⟨"ProofCompare$Boxes", "sort", "()V"⟩, 9), (⟨"ProofCompare$Boxes", "comesBefore", "(II)Z"⟩, 9), (⟨"ProofCompare$Boxes", "swap", "(II)V"⟩, 9), (⟨"ProofCompare$WordRows", "measure", "()V"⟩, 6), (⟨"ProofCompare$WordRows", "measureAt", "(II)I"⟩, 6)]
theorem lw_r1 : ∀ q ∈ lw_privs_1, lw_okq q := List.forall_mem_cons.mpr ⟨lw_p0, List.forall_mem_cons.mpr ⟨lw_p1, List.forall_mem_cons.mpr ⟨lw_p2, List.forall_mem_cons.mpr ⟨lw_p3, List.forall_mem_cons.mpr ⟨lw_p4, List.forall_mem_cons.mpr ⟨lw_p5, List.forall_mem_cons.mpr ⟨lw_p6, List.forall_mem_cons.mpr ⟨lw_p7, List.forall_mem_cons.mpr ⟨lw_p8, List.forall_mem_cons.mpr ⟨lw_p9, List.forall_mem_cons.mpr ⟨lw_p10, List.forall_mem_cons.mpr ⟨lw_p11, List.forall_mem_cons.mpr ⟨lw_p12, List.forall_mem_cons.mpr ⟨lw_p13, List.forall_mem_cons.mpr ⟨lw_p14, List.forall_mem_cons.mpr ⟨lw_p15, fun _ h => absurd h List.not_mem_nil⟩⟩⟩⟩⟩⟩⟩⟩⟩⟩⟩⟩⟩⟩⟩⟩
theorem lw_p16 : lw_okq (⟨"ProofCompare$WordRows", "walk", "()V"⟩, 6) := ⟨⟨by decide +kernel, by decide +kernel⟩, List.mem_of_getElem? (i := 133) (by decide +kernel), List.mem_of_getElem? (i := 344) (by decide +kernel), List.mem_of_getElem? (i := 345) (by decide +kernel)⟩
theorem lw_p17 : lw_okq (⟨"ProofCompare$WordRows", "isKept", "(II)Z"⟩, 6) := ⟨⟨by decide +kernel, by decide +kernel⟩, List.mem_of_getElem? (i := 133) (by decide +kernel), List.mem_of_getElem? (i := 348) (by decide +kernel), List.mem_of_getElem? (i := 349) (by decide +kernel)⟩
theorem lw_p18 : lw_okq (⟨"ProofCompare$WordRows", "tellIfShifted", "(II)V"⟩, 6) := ⟨⟨by decide +kernel, by decide +kernel⟩, List.mem_of_getElem? (i := 133) (by decide +kernel), List.mem_of_getElem? (i := 352) (by decide +kernel), List.mem_of_getElem? (i := 353) (by decide +kernel)⟩
theorem lw_p19 : lw_okq (⟨"ProofCompare$WordRows", "append", "(IIII)V"⟩, 6) := ⟨⟨by decide +kernel, by decide +kernel⟩, List.mem_of_getElem? (i := 133) (by decide +kernel), List.mem_of_getElem? (i := 364) (by decide +kernel), List.mem_of_getElem? (i := 365) (by decide +kernel)⟩
theorem lw_p20 : lw_okq (⟨"ProofCompare$WordRows", "isGone", "(II)Z"⟩, 6) := ⟨⟨by decide +kernel, by decide +kernel⟩, List.mem_of_getElem? (i := 133) (by decide +kernel), List.mem_of_getElem? (i := 368) (by decide +kernel), List.mem_of_getElem? (i := 369) (by decide +kernel)⟩
theorem lw_p21 : lw_okq (⟨"ProofCompare$WordRows", "pairMoved", "()V"⟩, 6) := ⟨⟨by decide +kernel, by decide +kernel⟩, List.mem_of_getElem? (i := 133) (by decide +kernel), List.mem_of_getElem? (i := 372) (by decide +kernel), List.mem_of_getElem? (i := 373) (by decide +kernel)⟩
theorem lw_p22 : lw_okq (⟨"ProofCompare$WordRows", "pairWithFirstNew", "(I)V"⟩, 6) := ⟨⟨by decide +kernel, by decide +kernel⟩, List.mem_of_getElem? (i := 133) (by decide +kernel), List.mem_of_getElem? (i := 380) (by decide +kernel), List.mem_of_getElem? (i := 381) (by decide +kernel)⟩
theorem lw_p23 : lw_okq (⟨"ProofCompare$WordRows", "dropUntold", "()V"⟩, 6) := ⟨⟨by decide +kernel, by decide +kernel⟩, List.mem_of_getElem? (i := 133) (by decide +kernel), List.mem_of_getElem? (i := 384) (by decide +kernel), List.mem_of_getElem? (i := 385) (by decide +kernel)⟩
theorem lw_p24 : lw_okq (⟨"ProofCompare$Rules", "append", "(III)V"⟩, 6) := ⟨⟨by decide +kernel, by decide +kernel⟩, List.mem_of_getElem? (i := 174) (by decide +kernel), List.mem_of_getElem? (i := 397) (by decide +kernel), List.mem_of_getElem? (i := 398) (by decide +kernel)⟩
theorem lw_p25 : lw_okq (⟨"ProofCompare", "find", "(I)I"⟩, 7) := ⟨⟨by decide +kernel, by decide +kernel⟩, List.mem_of_getElem? (i := 20) (by decide +kernel), List.mem_of_getElem? (i := 401) (by decide +kernel), List.mem_of_getElem? (i := 402) (by decide +kernel)⟩
theorem lw_p26 : lw_okq (⟨"ProofCompare$Pages", "isMissing", "(I)Z"⟩, 2) := ⟨⟨by decide +kernel, by decide +kernel⟩, List.mem_of_getElem? (i := 160) (by decide +kernel), List.mem_of_getElem? (i := 417) (by decide +kernel), List.mem_of_getElem? (i := 418) (by decide +kernel)⟩
theorem lw_p27 : lw_okq (⟨"ProofCompare$Pages", "isThere", "(II)Z"⟩, 2) := ⟨⟨by decide +kernel, by decide +kernel⟩, List.mem_of_getElem? (i := 160) (by decide +kernel), List.mem_of_getElem? (i := 421) (by decide +kernel), List.mem_of_getElem? (i := 422) (by decide +kernel)⟩
theorem lw_p28 : lw_okq (⟨"java/lang/Throwable", "fillInStackTrace", "(I)Ljava/lang/Throwable;"⟩, 6) := ⟨⟨by decide +kernel, by decide +kernel⟩, List.mem_of_getElem? (i := 496) (by decide +kernel), List.mem_of_getElem? (i := 494) (by decide +kernel), List.mem_of_getElem? (i := 495) (by decide +kernel)⟩
theorem lw_p29 : lw_okq (⟨"ProofCompare$WordSide", "liesBehind", "(III)Z"⟩, 5) := ⟨⟨by decide +kernel, by decide +kernel⟩, List.mem_of_getElem? (i := 109) (by decide +kernel), List.mem_of_getElem? (i := 613) (by decide +kernel), List.mem_of_getElem? (i := 614) (by decide +kernel)⟩
theorem lw_p30 : lw_okq (⟨"ProofCompare$Approvals", "isLatest", "(II)Z"⟩, 3) := ⟨⟨by decide +kernel, by decide +kernel⟩, List.mem_of_getElem? (i := 203) (by decide +kernel), List.mem_of_getElem? (i := 697) (by decide +kernel), List.mem_of_getElem? (i := 698) (by decide +kernel)⟩
theorem lw_p31 : lw_okq (⟨"ProofCompareModel", "look", "()V"⟩, 33) := ⟨⟨by decide +kernel, by decide +kernel⟩, List.mem_of_getElem? (i := 717) (by decide +kernel), List.mem_of_getElem? (i := 842) (by decide +kernel), List.mem_of_getElem? (i := 843) (by decide +kernel)⟩
def lw_privs_2 : List (MethodName × Nat) := [(⟨"ProofCompare$WordRows", "walk", "()V"⟩, 6), (⟨"ProofCompare$WordRows", "isKept", "(II)Z"⟩, 6), (⟨"ProofCompare$WordRows", "tellIfShifted", "(II)V"⟩, 6), (⟨"ProofCompare$WordRows", "append", "(IIII)V"⟩, 6), (⟨"ProofCompare$WordRows", "isGone", "(II)Z"⟩, 6), (⟨"ProofCompare$WordRows", "pairMoved", "()V"⟩, 6), (⟨"ProofCompare$WordRows", "pairWithFirstNew", "(I)V"⟩, 6), (⟨"ProofCompare$WordRows", "dropUntold", "()V"⟩, 6), (⟨"ProofCompare$Rules", "append", "(III)V"⟩, 6), (⟨"ProofCompare", "find", "(I)I"⟩, 7), (⟨"ProofCompare$Pages", "isMissing", "(I)Z"⟩, 2), (⟨"ProofCompare$Pages", "isThere", "(II)Z"⟩, 2), (⟨"java/lang/Throwable", "fillInStackTrace", "(I)Ljava/lang/Throwable;"⟩, 6), (⟨"ProofCompare$WordSide", "liesBehind", "(III)Z"⟩, 5), (⟨"ProofCompare$Approvals", "isLatest", "(II)Z"⟩, 3), (⟨"ProofCompareModel", "look", "()V"⟩, 33)]
theorem lw_r2 : ∀ q ∈ lw_privs_2, lw_okq q := List.forall_mem_cons.mpr ⟨lw_p16, List.forall_mem_cons.mpr ⟨lw_p17, List.forall_mem_cons.mpr ⟨lw_p18, List.forall_mem_cons.mpr ⟨lw_p19, List.forall_mem_cons.mpr ⟨lw_p20, List.forall_mem_cons.mpr ⟨lw_p21, List.forall_mem_cons.mpr ⟨lw_p22, List.forall_mem_cons.mpr ⟨lw_p23, List.forall_mem_cons.mpr ⟨lw_p24, List.forall_mem_cons.mpr ⟨lw_p25, List.forall_mem_cons.mpr ⟨lw_p26, List.forall_mem_cons.mpr ⟨lw_p27, List.forall_mem_cons.mpr ⟨lw_p28, List.forall_mem_cons.mpr ⟨lw_p29, List.forall_mem_cons.mpr ⟨lw_p30, List.forall_mem_cons.mpr ⟨lw_p31, fun _ h => absurd h List.not_mem_nil⟩⟩⟩⟩⟩⟩⟩⟩⟩⟩⟩⟩⟩⟩⟩⟩
theorem lw_p32 : lw_okq (⟨"ProofCompareModel", "isMet", "(III)Z"⟩, 33) := ⟨⟨by decide +kernel, by decide +kernel⟩, List.mem_of_getElem? (i := 717) (by decide +kernel), List.mem_of_getElem? (i := 846) (by decide +kernel), List.mem_of_getElem? (i := 847) (by decide +kernel)⟩
theorem lw_p33 : lw_okq (⟨"ProofCompareModel", "spread", "()V"⟩, 33) := ⟨⟨by decide +kernel, by decide +kernel⟩, List.mem_of_getElem? (i := 717) (by decide +kernel), List.mem_of_getElem? (i := 850) (by decide +kernel), List.mem_of_getElem? (i := 851) (by decide +kernel)⟩
theorem lw_p34 : lw_okq (⟨"ProofCompareModel", "leastNear", "(II)I"⟩, 33) := ⟨⟨by decide +kernel, by decide +kernel⟩, List.mem_of_getElem? (i := 717) (by decide +kernel), List.mem_of_getElem? (i := 854) (by decide +kernel), List.mem_of_getElem? (i := 855) (by decide +kernel)⟩
theorem lw_p35 : lw_okq (⟨"ProofCompareModel", "makeBoxes", "()V"⟩, 33) := ⟨⟨by decide +kernel, by decide +kernel⟩, List.mem_of_getElem? (i := 717) (by decide +kernel), List.mem_of_getElem? (i := 858) (by decide +kernel), List.mem_of_getElem? (i := 859) (by decide +kernel)⟩
theorem lw_p36 : lw_okq (⟨"ProofCompareModel", "grow", "(IIIII)V"⟩, 33) := ⟨⟨by decide +kernel, by decide +kernel⟩, List.mem_of_getElem? (i := 717) (by decide +kernel), List.mem_of_getElem? (i := 862) (by decide +kernel), List.mem_of_getElem? (i := 863) (by decide +kernel)⟩
theorem lw_p37 : lw_okq (⟨"ProofCompareModel", "joinBoxes", "()V"⟩, 33) := ⟨⟨by decide +kernel, by decide +kernel⟩, List.mem_of_getElem? (i := 717) (by decide +kernel), List.mem_of_getElem? (i := 866) (by decide +kernel), List.mem_of_getElem? (i := 867) (by decide +kernel)⟩
theorem lw_p38 : lw_okq (⟨"ProofCompareModel", "share", "(II)Z"⟩, 33) := ⟨⟨by decide +kernel, by decide +kernel⟩, List.mem_of_getElem? (i := 717) (by decide +kernel), List.mem_of_getElem? (i := 870) (by decide +kernel), List.mem_of_getElem? (i := 871) (by decide +kernel)⟩
theorem lw_p39 : lw_okq (⟨"ProofCompareModel", "sortBoxes", "()V"⟩, 33) := ⟨⟨by decide +kernel, by decide +kernel⟩, List.mem_of_getElem? (i := 717) (by decide +kernel), List.mem_of_getElem? (i := 874) (by decide +kernel), List.mem_of_getElem? (i := 875) (by decide +kernel)⟩
theorem lw_p40 : lw_okq (⟨"ProofCompareModel", "compare", "()V"⟩, 33) := ⟨⟨by decide +kernel, by decide +kernel⟩, List.mem_of_getElem? (i := 717) (by decide +kernel), List.mem_of_getElem? (i := 890) (by decide +kernel), List.mem_of_getElem? (i := 891) (by decide +kernel)⟩
theorem lw_p41 : lw_okq (⟨"ProofCompareModel", "sortWords", "(I)V"⟩, 33) := ⟨⟨by decide +kernel, by decide +kernel⟩, List.mem_of_getElem? (i := 717) (by decide +kernel), List.mem_of_getElem? (i := 894) (by decide +kernel), List.mem_of_getElem? (i := 895) (by decide +kernel)⟩
theorem lw_p42 : lw_okq (⟨"ProofCompareModel", "isBefore", "(II)Z"⟩, 33) := ⟨⟨by decide +kernel, by decide +kernel⟩, List.mem_of_getElem? (i := 717) (by decide +kernel), List.mem_of_getElem? (i := 898) (by decide +kernel), List.mem_of_getElem? (i := 899) (by decide +kernel)⟩
theorem lw_p43 : lw_okq (⟨"ProofCompareModel", "fillCommon", "()V"⟩, 33) := ⟨⟨by decide +kernel, by decide +kernel⟩, List.mem_of_getElem? (i := 717) (by decide +kernel), List.mem_of_getElem? (i := 902) (by decide +kernel), List.mem_of_getElem? (i := 903) (by decide +kernel)⟩
theorem lw_p44 : lw_okq (⟨"ProofCompareModel", "at", "(II)I"⟩, 33) := ⟨⟨by decide +kernel, by decide +kernel⟩, List.mem_of_getElem? (i := 717) (by decide +kernel), List.mem_of_getElem? (i := 906) (by decide +kernel), List.mem_of_getElem? (i := 907) (by decide +kernel)⟩
theorem lw_p45 : lw_okq (⟨"ProofCompareModel", "addRow", "(IIII)V"⟩, 33) := ⟨⟨by decide +kernel, by decide +kernel⟩, List.mem_of_getElem? (i := 717) (by decide +kernel), List.mem_of_getElem? (i := 910) (by decide +kernel), List.mem_of_getElem? (i := 911) (by decide +kernel)⟩
theorem lw_p46 : lw_okq (⟨"ProofCompareModel", "find", "(I)I"⟩, 33) := ⟨⟨by decide +kernel, by decide +kernel⟩, List.mem_of_getElem? (i := 717) (by decide +kernel), List.mem_of_getElem? (i := 930) (by decide +kernel), List.mem_of_getElem? (i := 931) (by decide +kernel)⟩
theorem lw_p47 : lw_okq (⟨"ProofCompareModel", "mostPlaces", "()I"⟩, 33) := ⟨⟨by decide +kernel, by decide +kernel⟩, List.mem_of_getElem? (i := 717) (by decide +kernel), List.mem_of_getElem? (i := 934) (by decide +kernel), List.mem_of_getElem? (i := 935) (by decide +kernel)⟩
def lw_privs_3 : List (MethodName × Nat) := [(⟨"ProofCompareModel", "isMet", "(III)Z"⟩, 33), (⟨"ProofCompareModel", "spread", "()V"⟩, 33), (⟨"ProofCompareModel", "leastNear", "(II)I"⟩, 33), (⟨"ProofCompareModel", "makeBoxes", "()V"⟩, 33), (⟨"ProofCompareModel", "grow", "(IIIII)V"⟩, 33), (⟨"ProofCompareModel", "joinBoxes", "()V"⟩, 33), (⟨"ProofCompareModel", "share", "(II)Z"⟩, 33), (⟨"ProofCompareModel", "sortBoxes", "()V"⟩, 33), (⟨"ProofCompareModel", "compare", "()V"⟩, 33), (⟨"ProofCompareModel", "sortWords", "(I)V"⟩, 33), (⟨"ProofCompareModel", "isBefore", "(II)Z"⟩, 33), (⟨"ProofCompareModel", "fillCommon", "()V"⟩, 33), (⟨"ProofCompareModel", "at", "(II)I"⟩, 33), (⟨"ProofCompareModel", "addRow", "(IIII)V"⟩, 33), (⟨"ProofCompareModel", "find", "(I)I"⟩, 33), (⟨"ProofCompareModel", "mostPlaces", "()I"⟩, 33)]
theorem lw_r3 : ∀ q ∈ lw_privs_3, lw_okq q := List.forall_mem_cons.mpr ⟨lw_p32, List.forall_mem_cons.mpr ⟨lw_p33, List.forall_mem_cons.mpr ⟨lw_p34, List.forall_mem_cons.mpr ⟨lw_p35, List.forall_mem_cons.mpr ⟨lw_p36, List.forall_mem_cons.mpr ⟨lw_p37, List.forall_mem_cons.mpr ⟨lw_p38, List.forall_mem_cons.mpr ⟨lw_p39, List.forall_mem_cons.mpr ⟨lw_p40, List.forall_mem_cons.mpr ⟨lw_p41, List.forall_mem_cons.mpr ⟨lw_p42, List.forall_mem_cons.mpr ⟨lw_p43, List.forall_mem_cons.mpr ⟨lw_p44, List.forall_mem_cons.mpr ⟨lw_p45, List.forall_mem_cons.mpr ⟨lw_p46, List.forall_mem_cons.mpr ⟨lw_p47, fun _ h => absurd h List.not_mem_nil⟩⟩⟩⟩⟩⟩⟩⟩⟩⟩⟩⟩⟩⟩⟩⟩
theorem lw_p48 : lw_okq (⟨"ProofCompareModel", "countRows", "(II)I"⟩, 33) := ⟨⟨by decide +kernel, by decide +kernel⟩, List.mem_of_getElem? (i := 717) (by decide +kernel), List.mem_of_getElem? (i := 938) (by decide +kernel), List.mem_of_getElem? (i := 939) (by decide +kernel)⟩
def lw_privs_4 : List (MethodName × Nat) := [(⟨"ProofCompareModel", "countRows", "(II)I"⟩, 33)]
theorem lw_r4 : ∀ q ∈ lw_privs_4, lw_okq q := List.forall_mem_cons.mpr ⟨lw_p48, fun _ h => absurd h List.not_mem_nil⟩
def lw_privs : List (MethodName × Nat) := lw_privs_1 ++ (lw_privs_2 ++ (lw_privs_3 ++ (lw_privs_4)))
def lw_tbl : List Cond := k2_sels lw_privs ++ tables_1
theorem lw_privs_ok : ∀ q ∈ lw_privs, lw_okq q := by
  show ∀ q ∈ lw_privs_1 ++ (lw_privs_2 ++ (lw_privs_3 ++ (lw_privs_4))), lw_okq q
  exact List.forall_mem_append.mpr ⟨lw_r1, List.forall_mem_append.mpr ⟨lw_r2, List.forall_mem_append.mpr ⟨lw_r3, lw_r4⟩⟩⟩
/-! ===== BEGIN words of one list among another's, by their places ===== -/
theorem goodIn_r {big : List Cond} (ws : List Cond) (ps : List Nat) (hp : ws = ps.filterMap (fun i => big[i]?)) (h : ws.all goodWord = true) : GoodIn big ws := by
  intro w hw
  have h1 := List.all_eq_true.mp h w hw
  rw [hp] at hw
  obtain ⟨i, -, hi⟩ := List.mem_filterMap.mp hw
  have hm : w ∈ big := by first | exact List.mem_of_getElem? hi | exact List.getElem?_mem hi
  exact ⟨hm, good_of_word h1⟩
theorem goodIn_app {big a b : List Cond} (ha : GoodIn big a) (hb : GoodIn big b) : GoodIn big (a ++ b) := fun w h => (List.mem_append.mp h).elim (ha w) (hb w)
theorem goodIn_ca {big a b : List Cond} {c : Cond} (ha : GoodIn big (c :: a)) (hb : GoodIn big b) : GoodIn big (c :: (a ++ b)) := fun w h => (List.mem_cons.mp h).elim (fun e => ha w (List.mem_cons.mpr (Or.inl e))) (fun h => (List.mem_append.mp h).elim (fun h => ha w (List.mem_cons.mpr (Or.inr h))) (hb w))
theorem goodIn_sub {big ws : List Cond} (hm : ∀ w ∈ ws, w ∈ big) (h : ws.all goodWord = true) : GoodIn big ws := fun w hw => ⟨hm w hw, good_of_word (List.all_eq_true.mp h w hw)⟩
/-! ===== END ===== -/
def RX0 : String := "ProofCompare$Approvals"
def TX0 : u_T := fun k => match k with
  | 0 => ("ProofCompare$Approvals", "counts", "[I", true)
  | 1 => ("ProofCompare$Approvals", "editions", "[I", true)
  | _ => ("ProofCompare$Approvals", "people", "[[I", true)
def tyX0 : Nat → FieldType := fun k => match k with
  | 0 => .array .int
  | 1 => .array .int
  | _ => .array (.array .int)
abbrev wsX00 : List Cond := u_ws RX0 TX0 3
theorem nmX0 : ∀ a, a < 3 → ∀ b, b < 3 → a ≠ b → (TX0 a).2.1 ≠ (TX0 b).2.1 := by decide +kernel
theorem tyX0_ok : ∀ k, k < 3 → parseFieldDescriptor (TX0 k).2.2.1 = some (tyX0 k) := by decide +kernel
abbrev cX0_init : ByteArray := prog_2_method_1_code
def yX0_init : MethodName := ⟨RX0, "<init>", "()V"⟩
abbrev cX0_isOlder : ByteArray := prog_2_method_2_code
def yX0_isOlder : MethodName := ⟨RX0, "isOlder", "(II)Z"⟩
abbrev cX0_has : ByteArray := prog_2_method_3_code
def yX0_has : MethodName := ⟨RX0, "has", "(III)Z"⟩
abbrev cX0_isFull : ByteArray := prog_2_method_4_code
def yX0_isFull : MethodName := ⟨RX0, "isFull", "(II)Z"⟩
abbrev cX0_add : ByteArray := prog_2_method_5_code
def yX0_add : MethodName := ⟨RX0, "add", "(III)V"⟩
abbrev cX0_isLatest : ByteArray := prog_2_method_6_code
def yX0_isLatest : MethodName := ⟨RX0, "isLatest", "(II)Z"⟩
def RX1 : String := "ProofCompare$Boxes"
def TX1 : u_T := fun k => match k with
  | 0 => ("ProofCompare$Boxes", "count", "I", false)
  | 1 => ("ProofCompare$Boxes", "width", "I", true)
  | 2 => ("ProofCompare$Boxes", "height", "I", true)
  | 3 => ("ProofCompare$Boxes", "most", "I", true)
  | 4 => ("ProofCompare$Boxes", "rows", "[I", true)
  | 5 => ("ProofCompare$Boxes", "grown", "[I", true)
  | 6 => ("ProofCompare$Boxes", "waitingX", "[I", true)
  | 7 => ("ProofCompare$Boxes", "waitingY", "[I", true)
  | _ => ("ProofCompare$Boxes", "waiting", "I", false)
def tyX1 : Nat → FieldType := fun k => match k with
  | 0 => .int
  | 1 => .int
  | 2 => .int
  | 3 => .int
  | 4 => .array .int
  | 5 => .array .int
  | 6 => .array .int
  | 7 => .array .int
  | _ => .int
abbrev wsX10 : List Cond := u_ws RX1 TX1 9
theorem nmX1 : ∀ a, a < 9 → ∀ b, b < 9 → a ≠ b → (TX1 a).2.1 ≠ (TX1 b).2.1 := by decide +kernel
theorem tyX1_ok : ∀ k, k < 9 → parseFieldDescriptor (TX1 k).2.2.1 = some (tyX1 k) := by decide +kernel
abbrev cX1_init : ByteArray := prog_3_method_1_code
def yX1_init : MethodName := ⟨RX1, "<init>", "(II)V"⟩
abbrev cX1_tell : ByteArray := prog_3_method_2_code
def yX1_tell : MethodName := ⟨RX1, "tell", "(II)I"⟩
abbrev cX1_mostPlaces : ByteArray := prog_3_method_3_code
def yX1_mostPlaces : MethodName := ⟨RX1, "mostPlaces", "()I"⟩
abbrev cX1_gather : ByteArray := prog_3_method_4_code
def yX1_gather : MethodName := ⟨RX1, "gather", "([ZI)V"⟩
abbrev cX1_growFrom : ByteArray := prog_3_method_5_code
def yX1_growFrom : MethodName := ⟨RX1, "growFrom", "(II[ZI)V"⟩
abbrev cX1_takeAround : ByteArray := prog_3_method_6_code
def yX1_takeAround : MethodName := ⟨RX1, "takeAround", "(II[ZI)V"⟩
abbrev cX1_take : ByteArray := prog_3_method_7_code
def yX1_take : MethodName := ⟨RX1, "take", "(II[Z)V"⟩
abbrev cX1_widen : ByteArray := prog_3_method_8_code
def yX1_widen : MethodName := ⟨RX1, "widen", "(IIII)V"⟩
abbrev cX1_absorbAll : ByteArray := prog_3_method_9_code
def yX1_absorbAll : MethodName := ⟨RX1, "absorbAll", "()V"⟩
abbrev cX1_absorbRound : ByteArray := prog_3_method_10_code
def yX1_absorbRound : MethodName := ⟨RX1, "absorbRound", "()Z"⟩
abbrev cX1_sharesPlace : ByteArray := prog_3_method_11_code
def yX1_sharesPlace : MethodName := ⟨RX1, "sharesPlace", "(I)Z"⟩
abbrev cX1_keepGrown : ByteArray := prog_3_method_12_code
def yX1_keepGrown : MethodName := ⟨RX1, "keepGrown", "()V"⟩
abbrev cX1_sort : ByteArray := prog_3_method_13_code
def yX1_sort : MethodName := ⟨RX1, "sort", "()V"⟩
abbrev cX1_comesBefore : ByteArray := prog_3_method_14_code
def yX1_comesBefore : MethodName := ⟨RX1, "comesBefore", "(II)Z"⟩
abbrev cX1_swap : ByteArray := prog_3_method_15_code
def yX1_swap : MethodName := ⟨RX1, "swap", "(II)V"⟩
def RX2 : String := "ProofCompare$Pages"
def TX2 : u_T := fun k => match k with
  | 0 => ("ProofCompare$Pages", "widths", "[[I", true)
  | _ => ("ProofCompare$Pages", "heights", "[[I", true)
def tyX2 : Nat → FieldType := fun k => match k with
  | 0 => .array (.array .int)
  | _ => .array (.array .int)
abbrev wsX20 : List Cond := u_ws RX2 TX2 2
theorem nmX2 : ∀ a, a < 2 → ∀ b, b < 2 → a ≠ b → (TX2 a).2.1 ≠ (TX2 b).2.1 := by decide +kernel
theorem tyX2_ok : ∀ k, k < 2 → parseFieldDescriptor (TX2 k).2.2.1 = some (tyX2 k) := by decide +kernel
abbrev cX2_init : ByteArray := prog_4_method_1_code
def yX2_init : MethodName := ⟨RX2, "<init>", "()V"⟩
abbrev cX2_put : ByteArray := prog_4_method_2_code
def yX2_put : MethodName := ⟨RX2, "put", "(IIII)V"⟩
abbrev cX2_hasOtherSizes : ByteArray := prog_4_method_3_code
def yX2_hasOtherSizes : MethodName := ⟨RX2, "hasOtherSizes", "(I)Z"⟩
abbrev cX2_countOtherSizes : ByteArray := prog_4_method_4_code
def yX2_countOtherSizes : MethodName := ⟨RX2, "countOtherSizes", "()I"⟩
abbrev cX2_countMissing : ByteArray := prog_4_method_5_code
def yX2_countMissing : MethodName := ⟨RX2, "countMissing", "()I"⟩
abbrev cX2_tellMissing : ByteArray := prog_4_method_6_code
def yX2_tellMissing : MethodName := ⟨RX2, "tellMissing", "(I)I"⟩
abbrev cX2_isThere : ByteArray := prog_4_method_7_code
def yX2_isThere : MethodName := ⟨RX2, "isThere", "(II)Z"⟩
abbrev cX2_isMissing : ByteArray := prog_4_method_8_code
def yX2_isMissing : MethodName := ⟨RX2, "isMissing", "(I)Z"⟩
def RX3 : String := "ProofCompare$Rules"
def TX3 : u_T := fun k => match k with
  | 0 => ("ProofCompare$Rules", "count", "I", false)
  | 1 => ("ProofCompare$Rules", "faultCount", "I", false)
  | 2 => ("ProofCompare$Rules", "kinds", "[I", true)
  | 3 => ("ProofCompare$Rules", "fails", "[Z", true)
  | 4 => ("ProofCompare$Rules", "limits", "[I", true)
  | _ => ("ProofCompare$Rules", "faults", "[I", true)
def tyX3 : Nat → FieldType := fun k => match k with
  | 0 => .int
  | 1 => .int
  | 2 => .array .int
  | 3 => .array .boolean
  | 4 => .array .int
  | _ => .array .int
abbrev wsX30 : List Cond := u_ws RX3 TX3 6
theorem nmX3 : ∀ a, a < 6 → ∀ b, b < 6 → a ≠ b → (TX3 a).2.1 ≠ (TX3 b).2.1 := by decide +kernel
theorem tyX3_ok : ∀ k, k < 6 → parseFieldDescriptor (TX3 k).2.2.1 = some (tyX3 k) := by decide +kernel
abbrev cX3_init : ByteArray := prog_5_method_1_code
def yX3_init : MethodName := ⟨RX3, "<init>", "()V"⟩
abbrev cX3_add : ByteArray := prog_5_method_2_code
def yX3_add : MethodName := ⟨RX3, "add", "(IIZ)I"⟩
abbrev cX3_tellFault : ByteArray := prog_5_method_3_code
def yX3_tellFault : MethodName := ⟨RX3, "tellFault", "(II)I"⟩
abbrev cX3_forgetFaults : ByteArray := prog_5_method_4_code
def yX3_forgetFaults : MethodName := ⟨RX3, "forgetFaults", "()V"⟩
abbrev cX3_judge : ByteArray := prog_5_method_5_code
def yX3_judge : MethodName := ⟨RX3, "judge", "(II)V"⟩
abbrev cX3_noteFailure : ByteArray := prog_5_method_6_code
def yX3_noteFailure : MethodName := ⟨RX3, "noteFailure", "(I)V"⟩
abbrev cX3_append : ByteArray := prog_5_method_7_code
def yX3_append : MethodName := ⟨RX3, "append", "(III)V"⟩
def RX4 : String := "ProofCompare$Surfaces"
def TX4 : u_T := fun k => match k with
  | 0 => ("ProofCompare$Surfaces", "boxes", "LProofCompare$Boxes;", true)
  | 1 => ("ProofCompare$Surfaces", "differingPlaces", "I", false)
  | 2 => ("ProofCompare$Surfaces", "width", "I", true)
  | 3 => ("ProofCompare$Surfaces", "height", "I", true)
  | 4 => ("ProofCompare$Surfaces", "points", "[[I", true)
  | 5 => ("ProofCompare$Surfaces", "differs", "[Z", true)
  | 6 => ("ProofCompare$Surfaces", "farthest", "I", false)
  | 7 => ("ProofCompare$Surfaces", "near", "I", false)
  | _ => ("ProofCompare$Surfaces", "stale", "Z", false)
def tyX4 : Nat → FieldType := fun k => match k with
  | 0 => .object "ProofCompare$Boxes"
  | 1 => .int
  | 2 => .int
  | 3 => .int
  | 4 => .array (.array .int)
  | 5 => .array .boolean
  | 6 => .int
  | 7 => .int
  | _ => .boolean
abbrev wsX40 : List Cond := u_ws RX4 TX4 9
theorem nmX4 : ∀ a, a < 9 → ∀ b, b < 9 → a ≠ b → (TX4 a).2.1 ≠ (TX4 b).2.1 := by decide +kernel
theorem tyX4_ok : ∀ k, k < 9 → parseFieldDescriptor (TX4 k).2.2.1 = some (tyX4 k) := by decide +kernel
abbrev cX4_init : ByteArray := prog_6_method_1_code
def yX4_init : MethodName := ⟨RX4, "<init>", "(II)V"⟩
abbrev cX4_holds : ByteArray := prog_6_method_2_code
def yX4_holds : MethodName := ⟨RX4, "holds", "(II)Z"⟩
abbrev cX4_put : ByteArray := prog_6_method_3_code
def yX4_put : MethodName := ⟨RX4, "put", "(IIII)I"⟩
abbrev cX4_limit : ByteArray := prog_6_method_4_code
def yX4_limit : MethodName := ⟨RX4, "limit", "(II)I"⟩
abbrev cX4_refresh : ByteArray := prog_6_method_5_code
def yX4_refresh : MethodName := ⟨RX4, "refresh", "()V"⟩
abbrev cX4_isUnmetAt : ByteArray := prog_6_method_6_code
def yX4_isUnmetAt : MethodName := ⟨RX4, "isUnmetAt", "(II)Z"⟩
abbrev cX4_isMet : ByteArray := prog_6_method_7_code
def yX4_isMet : MethodName := ⟨RX4, "isMet", "(I[III)Z"⟩
abbrev cX4_isClose : ByteArray := prog_6_method_8_code
def yX4_isClose : MethodName := ⟨RX4, "isClose", "(II)Z"⟩
def RX5 : String := "ProofCompare$WordRows"
def TX5 : u_T := fun k => match k with
  | 0 => ("ProofCompare$WordRows", "count", "I", false)
  | 1 => ("ProofCompare$WordRows", "stale", "Z", false)
  | 2 => ("ProofCompare$WordRows", "before", "LProofCompare$WordSide;", true)
  | 3 => ("ProofCompare$WordRows", "after", "LProofCompare$WordSide;", true)
  | 4 => ("ProofCompare$WordRows", "rows", "[I", true)
  | _ => ("ProofCompare$WordRows", "longest", "[I", true)
def tyX5 : Nat → FieldType := fun k => match k with
  | 0 => .int
  | 1 => .boolean
  | 2 => .object "ProofCompare$WordSide"
  | 3 => .object "ProofCompare$WordSide"
  | 4 => .array .int
  | _ => .array .int
abbrev wsX50 : List Cond := u_ws RX5 TX5 6
theorem nmX5 : ∀ a, a < 6 → ∀ b, b < 6 → a ≠ b → (TX5 a).2.1 ≠ (TX5 b).2.1 := by decide +kernel
theorem tyX5_ok : ∀ k, k < 6 → parseFieldDescriptor (TX5 k).2.2.1 = some (tyX5 k) := by decide +kernel
abbrev cX5_init : ByteArray := prog_7_method_1_code
def yX5_init : MethodName := ⟨RX5, "<init>", "(LProofCompare$WordSide;LProofCompare$WordSide;)V"⟩
abbrev cX5_tell : ByteArray := prog_7_method_2_code
def yX5_tell : MethodName := ⟨RX5, "tell", "(II)I"⟩
abbrev cX5_countKind : ByteArray := prog_7_method_3_code
def yX5_countKind : MethodName := ⟨RX5, "countKind", "(I)I"⟩
abbrev cX5_refresh : ByteArray := prog_7_method_4_code
def yX5_refresh : MethodName := ⟨RX5, "refresh", "()V"⟩
abbrev cX5_measure : ByteArray := prog_7_method_5_code
def yX5_measure : MethodName := ⟨RX5, "measure", "()V"⟩
abbrev cX5_measureAt : ByteArray := prog_7_method_6_code
def yX5_measureAt : MethodName := ⟨RX5, "measureAt", "(II)I"⟩
abbrev cX5_walk : ByteArray := prog_7_method_7_code
def yX5_walk : MethodName := ⟨RX5, "walk", "()V"⟩
abbrev cX5_isKept : ByteArray := prog_7_method_8_code
def yX5_isKept : MethodName := ⟨RX5, "isKept", "(II)Z"⟩
abbrev cX5_isGone : ByteArray := prog_7_method_9_code
def yX5_isGone : MethodName := ⟨RX5, "isGone", "(II)Z"⟩
abbrev cX5_tellIfShifted : ByteArray := prog_7_method_10_code
def yX5_tellIfShifted : MethodName := ⟨RX5, "tellIfShifted", "(II)V"⟩
abbrev cX5_append : ByteArray := prog_7_method_11_code
def yX5_append : MethodName := ⟨RX5, "append", "(IIII)V"⟩
abbrev cX5_pairMoved : ByteArray := prog_7_method_12_code
def yX5_pairMoved : MethodName := ⟨RX5, "pairMoved", "()V"⟩
abbrev cX5_pairWithFirstNew : ByteArray := prog_7_method_13_code
def yX5_pairWithFirstNew : MethodName := ⟨RX5, "pairWithFirstNew", "(I)V"⟩
abbrev cX5_dropUntold : ByteArray := prog_7_method_14_code
def yX5_dropUntold : MethodName := ⟨RX5, "dropUntold", "()V"⟩
def RX6 : String := "ProofCompare$WordSide"
def TX6 : u_T := fun k => match k with
  | 0 => ("ProofCompare$WordSide", "count", "I", false)
  | 1 => ("ProofCompare$WordSide", "values", "[I", true)
  | 2 => ("ProofCompare$WordSide", "xs", "[I", true)
  | 3 => ("ProofCompare$WordSide", "ys", "[I", true)
  | _ => ("ProofCompare$WordSide", "order", "[I", true)
def tyX6 : Nat → FieldType := fun k => match k with
  | 0 => .int
  | 1 => .array .int
  | 2 => .array .int
  | 3 => .array .int
  | _ => .array .int
abbrev wsX60 : List Cond := u_ws RX6 TX6 5
theorem nmX6 : ∀ a, a < 5 → ∀ b, b < 5 → a ≠ b → (TX6 a).2.1 ≠ (TX6 b).2.1 := by decide +kernel
theorem tyX6_ok : ∀ k, k < 5 → parseFieldDescriptor (TX6 k).2.2.1 = some (tyX6 k) := by decide +kernel
abbrev cX6_init : ByteArray := prog_8_method_1_code
def yX6_init : MethodName := ⟨RX6, "<init>", "()V"⟩
abbrev cX6_add : ByteArray := prog_8_method_2_code
def yX6_add : MethodName := ⟨RX6, "add", "(III)I"⟩
abbrev cX6_numberAt : ByteArray := prog_8_method_3_code
def yX6_numberAt : MethodName := ⟨RX6, "numberAt", "(I)I"⟩
abbrev cX6_valueAt : ByteArray := prog_8_method_4_code
def yX6_valueAt : MethodName := ⟨RX6, "valueAt", "(I)I"⟩
abbrev cX6_isSamePlace : ByteArray := prog_8_method_5_code
def yX6_isSamePlace : MethodName := ⟨RX6, "isSamePlace", "(ILProofCompare$WordSide;I)Z"⟩
abbrev cX6_liesBehind : ByteArray := prog_8_method_6_code
def yX6_liesBehind : MethodName := ⟨RX6, "liesBehind", "(III)Z"⟩
def RX7 : String := "ProofCompare"
def TX7 : u_T := fun k => match k with
  | 0 => ("ProofCompare", "surfaces", "LProofCompare$Surfaces;", true)
  | 1 => ("ProofCompare", "before", "LProofCompare$WordSide;", true)
  | 2 => ("ProofCompare", "after", "LProofCompare$WordSide;", true)
  | 3 => ("ProofCompare", "wordRows", "LProofCompare$WordRows;", true)
  | 4 => ("ProofCompare", "pages", "LProofCompare$Pages;", true)
  | 5 => ("ProofCompare", "rules", "LProofCompare$Rules;", true)
  | _ => ("ProofCompare", "approvals", "LProofCompare$Approvals;", true)
def tyX7 : Nat → FieldType := fun k => match k with
  | 0 => .object "ProofCompare$Surfaces"
  | 1 => .object "ProofCompare$WordSide"
  | 2 => .object "ProofCompare$WordSide"
  | 3 => .object "ProofCompare$WordRows"
  | 4 => .object "ProofCompare$Pages"
  | 5 => .object "ProofCompare$Rules"
  | _ => .object "ProofCompare$Approvals"
abbrev wsX70 : List Cond := u_ws RX7 TX7 7
theorem nmX7 : ∀ a, a < 7 → ∀ b, b < 7 → a ≠ b → (TX7 a).2.1 ≠ (TX7 b).2.1 := by decide +kernel
theorem tyX7_ok : ∀ k, k < 7 → parseFieldDescriptor (TX7 k).2.2.1 = some (tyX7 k) := by decide +kernel
abbrev cX7_init : ByteArray := prog_1_method_1_code
def yX7_init : MethodName := ⟨RX7, "<init>", "(II)V"⟩
abbrev cX7_point : ByteArray := prog_1_method_2_code
def yX7_point : MethodName := ⟨RX7, "point", "(IIII)I"⟩
abbrev cX7_bound : ByteArray := prog_1_method_3_code
def yX7_bound : MethodName := ⟨RX7, "bound", "(II)I"⟩
abbrev cX7_differing : ByteArray := prog_1_method_4_code
def yX7_differing : MethodName := ⟨RX7, "differing", "()J"⟩
abbrev cX7_box : ByteArray := prog_1_method_5_code
def yX7_box : MethodName := ⟨RX7, "box", "(II)I"⟩
abbrev cX7_word : ByteArray := prog_1_method_6_code
def yX7_word : MethodName := ⟨RX7, "word", "(IIII)I"⟩
abbrev cX7_words : ByteArray := prog_1_method_7_code
def yX7_words : MethodName := ⟨RX7, "words", "(II)I"⟩
abbrev cX7_size : ByteArray := prog_1_method_8_code
def yX7_size : MethodName := ⟨RX7, "size", "(IIII)I"⟩
abbrev cX7_missing : ByteArray := prog_1_method_9_code
def yX7_missing : MethodName := ⟨RX7, "missing", "(I)I"⟩
abbrev cX7_rule : ByteArray := prog_1_method_10_code
def yX7_rule : MethodName := ⟨RX7, "rule", "(IIZ)I"⟩
abbrev cX7_check : ByteArray := prog_1_method_11_code
def yX7_check : MethodName := ⟨RX7, "check", "()I"⟩
abbrev cX7_fault : ByteArray := prog_1_method_12_code
def yX7_fault : MethodName := ⟨RX7, "fault", "(II)I"⟩
abbrev cX7_approve : ByteArray := prog_1_method_13_code
def yX7_approve : MethodName := ⟨RX7, "approve", "(III)I"⟩
abbrev cX7_approved : ByteArray := prog_1_method_14_code
def yX7_approved : MethodName := ⟨RX7, "approved", "(I)Z"⟩
abbrev cX7_isSide : ByteArray := prog_1_method_15_code
def yX7_isSide : MethodName := ⟨RX7, "isSide", "(I)Z"⟩
abbrev cX7_isPage : ByteArray := prog_1_method_16_code
def yX7_isPage : MethodName := ⟨RX7, "isPage", "(I)Z"⟩
abbrev cX7_find : ByteArray := prog_1_method_17_code
def yX7_find : MethodName := ⟨RX7, "find", "(I)I"⟩
def RX8 : String := "ProofCompareModel"
def TX8 : u_T := fun k => match k with
  | 0 => ("ProofCompareModel", "thrown", "I", false)
  | 1 => ("ProofCompareModel", "wide", "I", true)
  | 2 => ("ProofCompareModel", "high", "I", true)
  | 3 => ("ProofCompareModel", "points", "[I", true)
  | 4 => ("ProofCompareModel", "bound", "I", false)
  | 5 => ("ProofCompareModel", "near", "I", false)
  | 6 => ("ProofCompareModel", "isNew", "Z", false)
  | 7 => ("ProofCompareModel", "differs", "[Z", true)
  | 8 => ("ProofCompareModel", "label", "[I", true)
  | 9 => ("ProofCompareModel", "many", "I", false)
  | 10 => ("ProofCompareModel", "boxes", "I", false)
  | 11 => ("ProofCompareModel", "box", "[I", true)
  | 12 => ("ProofCompareModel", "words", "[I", true)
  | 13 => ("ProofCompareModel", "wordOf", "[I", true)
  | 14 => ("ProofCompareModel", "xOf", "[I", true)
  | 15 => ("ProofCompareModel", "yOf", "[I", true)
  | 16 => ("ProofCompareModel", "order", "[I", true)
  | 17 => ("ProofCompareModel", "areNew", "Z", false)
  | 18 => ("ProofCompareModel", "common", "[I", true)
  | 19 => ("ProofCompareModel", "rows", "I", false)
  | 20 => ("ProofCompareModel", "row", "[I", true)
  | 21 => ("ProofCompareModel", "pageWide", "[I", true)
  | 22 => ("ProofCompareModel", "pageHigh", "[I", true)
  | 23 => ("ProofCompareModel", "rules", "I", false)
  | 24 => ("ProofCompareModel", "ruleKind", "[I", true)
  | 25 => ("ProofCompareModel", "ruleBound", "[I", true)
  | 26 => ("ProofCompareModel", "ruleFails", "[Z", true)
  | 27 => ("ProofCompareModel", "faults", "I", false)
  | 28 => ("ProofCompareModel", "faultRule", "[I", true)
  | 29 => ("ProofCompareModel", "faultMany", "[I", true)
  | 30 => ("ProofCompareModel", "edition", "[I", true)
  | 31 => ("ProofCompareModel", "approvals", "[I", true)
  | _ => ("ProofCompareModel", "who", "[I", true)
def tyX8 : Nat → FieldType := fun k => match k with
  | 0 => .int
  | 1 => .int
  | 2 => .int
  | 3 => .array .int
  | 4 => .int
  | 5 => .int
  | 6 => .boolean
  | 7 => .array .boolean
  | 8 => .array .int
  | 9 => .int
  | 10 => .int
  | 11 => .array .int
  | 12 => .array .int
  | 13 => .array .int
  | 14 => .array .int
  | 15 => .array .int
  | 16 => .array .int
  | 17 => .boolean
  | 18 => .array .int
  | 19 => .int
  | 20 => .array .int
  | 21 => .array .int
  | 22 => .array .int
  | 23 => .int
  | 24 => .array .int
  | 25 => .array .int
  | 26 => .array .boolean
  | 27 => .int
  | 28 => .array .int
  | 29 => .array .int
  | 30 => .array .int
  | 31 => .array .int
  | _ => .array .int
abbrev wsX80 : List Cond := u_ws RX8 TX8 33
theorem nmX8 : ∀ a, a < 33 → ∀ b, b < 33 → a ≠ b → (TX8 a).2.1 ≠ (TX8 b).2.1 := by decide +kernel
theorem tyX8_ok : ∀ k, k < 33 → parseFieldDescriptor (TX8 k).2.2.1 = some (tyX8 k) := by decide +kernel
abbrev cX8_init : ByteArray := prog_10_method_1_code
def yX8_init : MethodName := ⟨RX8, "<init>", "(II)V"⟩
abbrev cX8_thrown : ByteArray := prog_10_method_2_code
def yX8_thrown : MethodName := ⟨RX8, "thrown", "()I"⟩
abbrev cX8_in : ByteArray := prog_10_method_3_code
def yX8_in : MethodName := ⟨RX8, "in", "(III)Z"⟩
abbrev cX8_point : ByteArray := prog_10_method_4_code
def yX8_point : MethodName := ⟨RX8, "point", "(IIII)I"⟩
abbrev cX8_bound : ByteArray := prog_10_method_5_code
def yX8_bound : MethodName := ⟨RX8, "bound", "(II)I"⟩
abbrev cX8_isMet : ByteArray := prog_10_method_6_code
def yX8_isMet : MethodName := ⟨RX8, "isMet", "(III)Z"⟩
abbrev cX8_leastNear : ByteArray := prog_10_method_7_code
def yX8_leastNear : MethodName := ⟨RX8, "leastNear", "(II)I"⟩
abbrev cX8_spread : ByteArray := prog_10_method_8_code
def yX8_spread : MethodName := ⟨RX8, "spread", "()V"⟩
abbrev cX8_grow : ByteArray := prog_10_method_9_code
def yX8_grow : MethodName := ⟨RX8, "grow", "(IIIII)V"⟩
abbrev cX8_makeBoxes : ByteArray := prog_10_method_10_code
def yX8_makeBoxes : MethodName := ⟨RX8, "makeBoxes", "()V"⟩
abbrev cX8_share : ByteArray := prog_10_method_11_code
def yX8_share : MethodName := ⟨RX8, "share", "(II)Z"⟩
abbrev cX8_joinBoxes : ByteArray := prog_10_method_12_code
def yX8_joinBoxes : MethodName := ⟨RX8, "joinBoxes", "()V"⟩
abbrev cX8_sortBoxes : ByteArray := prog_10_method_13_code
def yX8_sortBoxes : MethodName := ⟨RX8, "sortBoxes", "()V"⟩
abbrev cX8_look : ByteArray := prog_10_method_14_code
def yX8_look : MethodName := ⟨RX8, "look", "()V"⟩
abbrev cX8_differing : ByteArray := prog_10_method_15_code
def yX8_differing : MethodName := ⟨RX8, "differing", "()J"⟩
abbrev cX8_box : ByteArray := prog_10_method_16_code
def yX8_box : MethodName := ⟨RX8, "box", "(II)I"⟩
abbrev cX8_word : ByteArray := prog_10_method_17_code
def yX8_word : MethodName := ⟨RX8, "word", "(IIII)I"⟩
abbrev cX8_isBefore : ByteArray := prog_10_method_18_code
def yX8_isBefore : MethodName := ⟨RX8, "isBefore", "(II)Z"⟩
abbrev cX8_sortWords : ByteArray := prog_10_method_19_code
def yX8_sortWords : MethodName := ⟨RX8, "sortWords", "(I)V"⟩
abbrev cX8_at : ByteArray := prog_10_method_20_code
def yX8_at : MethodName := ⟨RX8, "at", "(II)I"⟩
abbrev cX8_addRow : ByteArray := prog_10_method_21_code
def yX8_addRow : MethodName := ⟨RX8, "addRow", "(IIII)V"⟩
abbrev cX8_fillCommon : ByteArray := prog_10_method_22_code
def yX8_fillCommon : MethodName := ⟨RX8, "fillCommon", "()V"⟩
abbrev cX8_compare : ByteArray := prog_10_method_23_code
def yX8_compare : MethodName := ⟨RX8, "compare", "()V"⟩
abbrev cX8_countRows : ByteArray := prog_10_method_24_code
def yX8_countRows : MethodName := ⟨RX8, "countRows", "(II)I"⟩
abbrev cX8_words : ByteArray := prog_10_method_25_code
def yX8_words : MethodName := ⟨RX8, "words", "(II)I"⟩
abbrev cX8_size : ByteArray := prog_10_method_26_code
def yX8_size : MethodName := ⟨RX8, "size", "(IIII)I"⟩
abbrev cX8_missing : ByteArray := prog_10_method_27_code
def yX8_missing : MethodName := ⟨RX8, "missing", "(I)I"⟩
abbrev cX8_rule : ByteArray := prog_10_method_28_code
def yX8_rule : MethodName := ⟨RX8, "rule", "(IIZ)I"⟩
abbrev cX8_mostPlaces : ByteArray := prog_10_method_29_code
def yX8_mostPlaces : MethodName := ⟨RX8, "mostPlaces", "()I"⟩
abbrev cX8_find : ByteArray := prog_10_method_30_code
def yX8_find : MethodName := ⟨RX8, "find", "(I)I"⟩
abbrev cX8_check : ByteArray := prog_10_method_31_code
def yX8_check : MethodName := ⟨RX8, "check", "()I"⟩
abbrev cX8_fault : ByteArray := prog_10_method_32_code
def yX8_fault : MethodName := ⟨RX8, "fault", "(II)I"⟩
abbrev cX8_approve : ByteArray := prog_10_method_33_code
def yX8_approve : MethodName := ⟨RX8, "approve", "(III)I"⟩
abbrev cX8_approved : ByteArray := prog_10_method_34_code
def yX8_approved : MethodName := ⟨RX8, "approved", "(I)Z"⟩
def RJx00060 : String := "java/lang/ArrayIndexOutOfBoundsException"
def TJx00060 : u_T := fun k => match k with
  | 0 => ("java/lang/Throwable", "cause", "Ljava/lang/Throwable;", false)
  | 1 => ("java/lang/Throwable", "stackTrace", "[Ljava/lang/StackTraceElement;", false)
  | 2 => ("java/lang/Throwable", "suppressedExceptions", "Ljava/util/List;", false)
  | 3 => ("java/lang/Throwable", "detailMessage", "Ljava/lang/String;", false)
  | 4 => ("java/lang/Throwable", "backtrace", "Ljava/lang/Object;", false)
  | _ => ("java/lang/Throwable", "depth", "I", false)
def tyJx00060 : Nat → FieldType := fun k => match k with
  | 0 => .object "java/lang/Throwable"
  | 1 => .array (.object "java/lang/StackTraceElement")
  | 2 => .object "java/util/List"
  | 3 => .object "java/lang/String"
  | 4 => .object "java/lang/Object"
  | _ => .int
abbrev wsJx000600 : List Cond := u_ws RJx00060 TJx00060 6
theorem nmJx00060 : ∀ a, a < 6 → ∀ b, b < 6 → a ≠ b → (TJx00060 a).2.1 ≠ (TJx00060 b).2.1 := by decide +kernel
theorem tyJx00060_ok : ∀ k, k < 6 → parseFieldDescriptor (TJx00060 k).2.2.1 = some (tyJx00060 k) := by decide +kernel
abbrev cJx00060_init_a7421 : ByteArray := prog_11_method_2_code
def yJx00060_init_a7421 : MethodName := ⟨RJx00060, "<init>", "(Ljava/lang/String;)V"⟩
def RJ9 : String := "java/lang/Math"
def TJ9 : u_T := fun k => match k with
  | _ => ("", "", "", false)
def tyJ9 : Nat → FieldType := fun k => match k with
  | _ => .int
abbrev wsJ90 : List Cond := u_ws RJ9 TJ9 0
theorem nmJ9 : ∀ a, a < 0 → ∀ b, b < 0 → a ≠ b → (TJ9 a).2.1 ≠ (TJ9 b).2.1 := by decide +kernel
theorem tyJ9_ok : ∀ k, k < 0 → parseFieldDescriptor (TJ9 k).2.2.1 = some (tyJ9 k) := by decide +kernel
abbrev cJ9_abs_0f7a4 : ByteArray := prog_15_method_59_code
def yJ9_abs_0f7a4 : MethodName := ⟨RJ9, "abs", "(I)I"⟩
abbrev cJ9_max_7cf53 : ByteArray := prog_15_method_65_code
def yJ9_max_7cf53 : MethodName := ⟨RJ9, "max", "(II)I"⟩
abbrev cJ9_min_7cf53 : ByteArray := prog_15_method_69_code
def yJ9_min_7cf53 : MethodName := ⟨RJ9, "min", "(II)I"⟩
def RJ0 : String := "java/lang/String"
def TJ0 : u_T := fun k => match k with
  | _ => ("", "", "", false)
def tyJ0 : Nat → FieldType := fun k => match k with
  | _ => .int
abbrev wsJ00 : List Cond := u_ws RJ0 TJ0 0
theorem nmJ0 : ∀ a, a < 0 → ∀ b, b < 0 → a ≠ b → (TJ0 a).2.1 ≠ (TJ0 b).2.1 := by decide +kernel
theorem tyJ0_ok : ∀ k, k < 0 → parseFieldDescriptor (TJ0 k).2.2.1 = some (tyJ0 k) := by decide +kernel
def RJ10 : String := "java/lang/System"
def TJ10 : u_T := fun k => match k with
  | _ => ("", "", "", false)
def tyJ10 : Nat → FieldType := fun k => match k with
  | _ => .int
abbrev wsJ100 : List Cond := u_ws RJ10 TJ10 0
theorem nmJ10 : ∀ a, a < 0 → ∀ b, b < 0 → a ≠ b → (TJ10 a).2.1 ≠ (TJ10 b).2.1 := by decide +kernel
theorem tyJ10_ok : ∀ k, k < 0 → parseFieldDescriptor (TJ10 k).2.2.1 = some (tyJ10 k) := by decide +kernel
def RL : String := "ProofCompareLaw"
abbrev cL_cell : ByteArray := method_2_code
def yL_cell : MethodName := ⟨RL, "cell", "([II)I"⟩
abbrev cL_point : ByteArray := method_3_code
def yL_point : MethodName := ⟨RL, "point", "(LProofCompare;IIII[J)I"⟩
abbrev cL_bound : ByteArray := method_4_code
def yL_bound : MethodName := ⟨RL, "bound", "(LProofCompare;II[J)I"⟩
abbrev cL_box : ByteArray := method_5_code
def yL_box : MethodName := ⟨RL, "box", "(LProofCompare;II[J)I"⟩
abbrev cL_word : ByteArray := method_6_code
def yL_word : MethodName := ⟨RL, "word", "(LProofCompare;IIII[J)I"⟩
abbrev cL_words : ByteArray := method_7_code
def yL_words : MethodName := ⟨RL, "words", "(LProofCompare;II[J)I"⟩
abbrev cL_size : ByteArray := method_8_code
def yL_size : MethodName := ⟨RL, "size", "(LProofCompare;IIII[J)I"⟩
abbrev cL_missing : ByteArray := method_9_code
def yL_missing : MethodName := ⟨RL, "missing", "(LProofCompare;I[J)I"⟩
abbrev cL_rule : ByteArray := method_10_code
def yL_rule : MethodName := ⟨RL, "rule", "(LProofCompare;IIZ[J)I"⟩
abbrev cL_fault : ByteArray := method_11_code
def yL_fault : MethodName := ⟨RL, "fault", "(LProofCompare;II[J)I"⟩
abbrev cL_approve : ByteArray := method_12_code
def yL_approve : MethodName := ⟨RL, "approve", "(LProofCompare;III[J)I"⟩
abbrev cL_approved : ByteArray := method_13_code
def yL_approved : MethodName := ⟨RL, "approved", "(LProofCompare;I[J)I"⟩
abbrev cL_law : ByteArray := code
def yL_law : MethodName := ⟨RL, "law", "([I)Z"⟩
abbrev vwCl : List vw_C := [(RJx00060, TJx00060, 6), (RX0, TX0, 3), (RX1, TX1, 9), (RX2, TX2, 2), (RX3, TX3, 6), (RX4, TX4, 9), (RX5, TX5, 6), (RX6, TX6, 5), (RX7, TX7, 7), (RX8, TX8, 33)]
end
section
/-- the tables' words that a call keeps -/
def gtb : List Cond := lw_tbl.filter goodWord
/-! THE G LAYER: the machine's state as plain data (numbers are Int, references are numbers of cells, arrays are functions of Int),
and a function 'gstep' that does the straight instructions on it; 'G' says that from such a state the machine comes to its goal. -/
abbrev gV : Type := Int ⊕ (Int ⊕ Option Nat)
abbrev gi (z : Int) : gV := Sum.inl z
abbrev gl (z : Int) : gV := Sum.inr (Sum.inl z)
abbrev gr (k : Nat) : gV := Sum.inr (Sum.inr (some k))
abbrev gn : gV := Sum.inr (Sum.inr none)
/-- what a value is in the machine; ad: where each cell lies -/
def gv (ad : Nat → Nat) (v : gV) : Value := match v with
  | .inl z => .int (Int32.ofInt z)
  | .inr (.inl z) => .long (Int64.ofInt z)
  | .inr (.inr none) => .null
  | .inr (.inr (some k)) => .ref (ad k)
/-- a cell: an object (its class's place, its fields), or an array (its kind's place, its length, what it holds: ints, references, longs) -/
abbrev gE : Type := (Nat × List gV) ⊕ (Nat × Nat × ((Int → Int) ⊕ ((Int → Option Nat) ⊕ (Int → Int))))
abbrev gob (ci : Nat) (fs : List gV) : gE := Sum.inl (ci, fs)
abbrev gai (t n : Nat) (f : Int → Int) : gE := Sum.inr (t, n, Sum.inl f)
abbrev gar (t n : Nat) (f : Int → Option Nat) : gE := Sum.inr (t, n, Sum.inr (Sum.inl f))
abbrev gal (t n : Nat) (f : Int → Int) : gE := Sum.inr (t, n, Sum.inr (Sum.inr f))
def ge (cA : Nat → ClassId) (ad : Nat → Nat) (x : gE) : va_E := match x with
  | .inl (ci, fs) => .inr (ci, fs.map (gv ad))
  | .inr (t, n, .inl f) => .inl (cA t, n, .inl (fun j => Int32.ofInt (f (j : Int))))
  | .inr (t, n, .inr (.inl f)) => .inl (cA t, n, .inr (.inr (.inr (.inr (fun j => (f (j : Int)).map ad)))))
  | .inr (t, n, .inr (.inr f)) => .inl (cA t, n, .inr (.inl (fun j => Int64.ofInt (f (j : Int)))))
abbrev gW : Type := List (Nat × gE)
def gw (cA : Nat → ClassId) (ad : Nat → Nat) (w : gW) : va_W := w.map (fun q => (ad q.1, ge cA ad q.2))
/-- lookups that compute -/
def glook (i : Nat) : List (Nat × gV) → Option gV
  | [] => none
  | q :: t => match Nat.beq q.1 i with
    | true => some q.2
    | false => glook i t
def gdel (i : Nat) : List (Nat × gV) → List (Nat × gV)
  | [] => []
  | q :: t => match Nat.beq q.1 i with
    | true => gdel i t
    | false => q :: gdel i t
def gset (i : Nat) (v : gV) : List (Nat × gV) → List (Nat × gV)
  | [] => [(i, v)]
  | q :: t => match Nat.beq q.1 i with
    | true => (i, v) :: gdel i t
    | false => q :: gset i v t
def gwl (k : Nat) : gW → Option gE
  | [] => none
  | q :: t => match Nat.beq q.1 k with
    | true => some q.2
    | false => gwl k t
def gws (k : Nat) (e : gE) : gW → gW
  | [] => []
  | q :: t => match Nat.beq q.1 k with
    | true => (k, e) :: t
    | false => q :: gws k e t
abbrev gFt : Type := Nat × Nat × Nat × Nat
def gft (idx : Nat) : List gFt → Option (Nat × Nat × Nat)
  | [] => none
  | q :: t => match Nat.beq q.1 idx with
    | true => some q.2
    | false => gft idx t
def gnl : List (Nat × gV) → Bool
  | [] => true
  | q :: t => match q.2 with
    | .inr (.inl _) => false
    | _ => gnl t
def gu (f : Int → Int) (k v : Int) : Int → Int := fun j => if j = k then v else f j
theorem gu_s (f : Int → Int) (k v : Int) : gu f k v k = v := if_pos rfl
theorem gu_n (f : Int → Int) {k j : Int} (v : Int) (h : j ≠ k) : gu f k v j = f j := if_neg h
/-- a number that an int holds -/
abbrev inR (z : Int) : Prop := -2147483648 ≤ z ∧ z ≤ 2147483647
abbrev gS : Type := gW × Nat × List (Nat × gV) × List gV
def gstep (ft : List gFt) (i : Instr) (n : Nat) (S : gS) : Option (gS × Option Prop) :=
  match S with
  | (w, pc, lv, st) =>
  match i with
  | .iload_n k => match glook k.val lv with
    | some (.inl z) => some ((w, pc + n, lv, .inl z :: st), none)
    | _ => none
  | .iload k => match glook k lv with
    | some (.inl z) => some ((w, pc + n, lv, .inl z :: st), none)
    | _ => none
  | .aload_n k => match glook k.val lv with
    | some (.inr (.inr (some r))) => some ((w, pc + n, lv, .inr (.inr (some r)) :: st), none)
    | _ => none
  | .aload k => match glook k lv with
    | some (.inr (.inr (some r))) => some ((w, pc + n, lv, .inr (.inr (some r)) :: st), none)
    | _ => none
  | .istore_n k => match gnl lv, st with
    | true, .inl z :: st => some ((w, pc + n, gset k.val (.inl z) lv, st), none)
    | _, _ => none
  | .istore k => match gnl lv, st with
    | true, .inl z :: st => some ((w, pc + n, gset k (.inl z) lv, st), none)
    | _, _ => none
  | .astore_n k => match gnl lv, st with
    | true, .inr (.inr (some r)) :: st => some ((w, pc + n, gset k.val (.inr (.inr (some r))) lv, st), none)
    | _, _ => none
  | .astore k => match gnl lv, st with
    | true, .inr (.inr (some r)) :: st => some ((w, pc + n, gset k (.inr (.inr (some r))) lv, st), none)
    | _, _ => none
  | .iinc k c => match gnl lv, glook k lv with
    | true, some (.inl z) => some ((w, pc + n, gset k (.inl (z + c)) lv, st), none)
    | _, _ => none
  | .iconst z => some ((w, pc + n, lv, .inl z :: st), none)
  | .bipush z => some ((w, pc + n, lv, .inl z :: st), none)
  | .sipush z => some ((w, pc + n, lv, .inl z :: st), none)
  | .iadd => match st with
    | .inl y :: .inl x :: st => some ((w, pc + n, lv, .inl (x + y) :: st), none)
    | _ => none
  | .isub => match st with
    | .inl y :: .inl x :: st => some ((w, pc + n, lv, .inl (x - y) :: st), none)
    | _ => none
  | .imul => match st with
    | .inl y :: .inl x :: st => some ((w, pc + n, lv, .inl (x * y) :: st), none)
    | _ => none
  | .ineg => match st with
    | .inl x :: st => some ((w, pc + n, lv, .inl (-x) :: st), none)
    | _ => none
  | .iand => match st with
    | .inl y :: .inl x :: st => some ((w, pc + n, lv, .inl (Int32.ofInt x &&& Int32.ofInt y).toInt :: st), none)
    | _ => none
  | .idiv => match st with
    | .inl y :: .inl x :: st => some ((w, pc + n, lv, .inl (x / y) :: st), some (0 ≤ x ∧ x < 2147483648 ∧ 0 < y ∧ y < 2147483648))
    | _ => none
  | .irem => match st with
    | .inl y :: .inl x :: st => some ((w, pc + n, lv, .inl (x % y) :: st), some (0 ≤ x ∧ x < 2147483648 ∧ 0 < y ∧ y < 2147483648))
    | _ => none
  | .dup => match st with
    | .inl x :: st => some ((w, pc + n, lv, .inl x :: .inl x :: st), none)
    | .inr (.inr r) :: st => some ((w, pc + n, lv, .inr (.inr r) :: .inr (.inr r) :: st), none)
    | _ => none
  | .pop => match st with
    | .inl _ :: st => some ((w, pc + n, lv, st), none)
    | .inr (.inr _) :: st => some ((w, pc + n, lv, st), none)
    | _ => none
  | .dup2 => match st with
    | .inl x :: .inr (.inr r) :: st => some ((w, pc + n, lv, .inl x :: .inr (.inr r) :: .inl x :: .inr (.inr r) :: st), none)
    | _ => none
  | .dup_x1 => match st with
    | .inl x :: .inr (.inr r) :: st => some ((w, pc + n, lv, .inl x :: .inr (.inr r) :: .inl x :: st), none)
    | _ => none
  | .goto off => some ((w, ((pc : Int) + off).toNat, lv, st), none)
  | .getfield idx => match st with
    | .inr (.inr (some o)) :: st => match gft idx ft, gwl o w with
      | some (ci, k, _), some (.inl (cj, fs)) => match Nat.beq ci cj, fs[k]? with
        | true, some v => some ((w, pc + n, lv, v :: st), none)
        | _, _ => none
      | _, _ => none
    | _ => none
  | .putfield idx => match st with
    | .inl z :: .inr (.inr (some o)) :: st => match gft idx ft, gwl o w with
      | some (ci, k, 0), some (.inl (cj, fs)) => match Nat.beq ci cj, fs[k]? with
        | true, some _ => some ((gws o (.inl (cj, fs.set k (.inl z))) w, pc + n, lv, st), none)
        | _, _ => none
      | some (ci, k, 1), some (.inl (cj, fs)) => match Nat.beq ci cj, fs[k]? with
        | true, some _ => some ((gws o (.inl (cj, fs.set k (.inl z))) w, pc + n, lv, st), some (z = 0 ∨ z = 1))
        | _, _ => none
      | _, _ => none
    | _ => none
  | .iaload => match st with
    | .inl z :: .inr (.inr (some o)) :: st => match gwl o w with
      | some (.inr (0, len, .inl f)) => some ((w, pc + n, lv, .inl (f z) :: st), some (0 ≤ z ∧ z < (len : Int) ∧ (len : Int) ≤ 2147483647))
      | _ => none
    | _ => none
  | .baload => match st with
    | .inl z :: .inr (.inr (some o)) :: st => match gwl o w with
      | some (.inr (1, len, .inl f)) => some ((w, pc + n, lv, .inl (f z) :: st), some (0 ≤ z ∧ z < (len : Int) ∧ (len : Int) ≤ 2147483647))
      | _ => none
    | _ => none
  | .iastore => match st with
    | .inl v :: .inl z :: .inr (.inr (some o)) :: st => match gwl o w with
      | some (.inr (0, len, .inl f)) => some ((gws o (.inr (0, len, .inl (gu f z v))) w, pc + n, lv, st), some (0 ≤ z ∧ z < (len : Int) ∧ (len : Int) ≤ 2147483647))
      | _ => none
    | _ => none
  | .bastore => match st with
    | .inl v :: .inl z :: .inr (.inr (some o)) :: st => match gwl o w with
      | some (.inr (1, len, .inl f)) => some ((gws o (.inr (1, len, .inl (gu f z v))) w, pc + n, lv, st), some ((0 ≤ z ∧ z < (len : Int) ∧ (len : Int) ≤ 2147483647) ∧ (v = 0 ∨ v = 1)))
      | _ => none
    | _ => none
  | .arraylength => match st with
    | .inr (.inr (some o)) :: st => match gwl o w with
      | some (.inr (0, len, .inl _)) => some ((w, pc + n, lv, .inl (len : Int) :: st), none)
      | some (.inr (1, len, .inl _)) => some ((w, pc + n, lv, .inl (len : Int) :: st), none)
      | _ => none
    | _ => none
  | _ => none
/-- a word of the table says more than its bytes: its operand is in range, its jump isn't below 0 -/
def gwell (nL : Nat) (pc : Nat) (i : Instr) (n : Nat) : Bool := match i with
  | .iload_n _ => Nat.beq n 1
  | .iload _ => Nat.beq n 2
  | .aload_n _ => Nat.beq n 1
  | .aload _ => Nat.beq n 2
  | .istore_n k => Nat.beq n 1 && Nat.blt k.val nL
  | .istore k => Nat.beq n 2 && Nat.blt k nL
  | .astore_n k => Nat.beq n 1 && Nat.blt k.val nL
  | .astore k => Nat.beq n 2 && Nat.blt k nL
  | .iinc k _ => Nat.beq n 3 && Nat.blt k nL
  | .iconst _ => Nat.beq n 1
  | .bipush z => Nat.beq n 2 && decide ((Int8.ofInt z).toInt32 = Int32.ofInt z)
  | .sipush z => Nat.beq n 3 && decide ((Int16.ofInt z).toInt32 = Int32.ofInt z)
  | .goto off => Nat.beq n 3 && decide (0 ≤ (pc : Int) + off)
  | .getfield _ => Nat.beq n 3
  | .putfield _ => Nat.beq n 3
  | .if_icmp _ off => Nat.beq n 3 && decide (0 ≤ (pc : Int) + off)
  | .ifCond _ off => Nat.beq n 3 && decide (0 ≤ (pc : Int) + off)
  | .invokevirtual _ => Nat.beq n 3
  | .invokestatic _ => Nat.beq n 3
  | .invokespecial _ => Nat.beq n 3
  | .new _ => Nat.beq n 3
  | .newarray _ => Nat.beq n 2
  | .tableswitch .. => true
  | .ldc _ => true
  | .anewarray _ => true
  | .multianewarray .. => true
  | _ => Nat.beq n 1
end
section
def gty (ci : Nat) : Nat → FieldType := match ci with
  | 0 => tyJx00060
  | 1 => tyX0
  | 2 => tyX1
  | 3 => tyX2
  | 4 => tyX3
  | 5 => tyX4
  | 6 => tyX5
  | 7 => tyX6
  | 8 => tyX7
  | _ => tyX8
/-- the kinds of arrays -/
def gtys (cA : Nat → ClassId) : List (ClassId × FieldType) := [(cA 0, .int), (cA 1, .boolean), (cA 2, .array .int), (cA 3, .long)]
theorem gin_Jx00060 : ∀ w ∈ u_ws RJx00060 TJx00060 6, w ∈ gtb := by decide +kernel
theorem gin_X0 : ∀ w ∈ u_ws RX0 TX0 3, w ∈ gtb := by decide +kernel
theorem gin_X1 : ∀ w ∈ u_ws RX1 TX1 9, w ∈ gtb := by decide +kernel
theorem gin_X2 : ∀ w ∈ u_ws RX2 TX2 2, w ∈ gtb := by decide +kernel
theorem gin_X3 : ∀ w ∈ u_ws RX3 TX3 6, w ∈ gtb := by decide +kernel
theorem gin_X4 : ∀ w ∈ u_ws RX4 TX4 9, w ∈ gtb := by decide +kernel
theorem gin_X5 : ∀ w ∈ u_ws RX5 TX5 6, w ∈ gtb := by decide +kernel
theorem gin_X6 : ∀ w ∈ u_ws RX6 TX6 5, w ∈ gtb := by decide +kernel
theorem gin_X7 : ∀ w ∈ u_ws RX7 TX7 7, w ∈ gtb := by decide +kernel
theorem gin_X8 : ∀ w ∈ u_ws RX8 TX8 33, w ∈ gtb := by decide +kernel
theorem gcl_in {ci : Nat} {C : String} {T : u_T} {N : Nat} (h : vwCl[ci]? = some (C, T, N)) : ∀ w ∈ u_ws C T N, w ∈ gtb := by
  match ci, h with
  | 0, h => cases h; exact gin_Jx00060
  | 1, h => cases h; exact gin_X0
  | 2, h => cases h; exact gin_X1
  | 3, h => cases h; exact gin_X2
  | 4, h => cases h; exact gin_X3
  | 5, h => cases h; exact gin_X4
  | 6, h => cases h; exact gin_X5
  | 7, h => cases h; exact gin_X6
  | 8, h => cases h; exact gin_X7
  | 9, h => cases h; exact gin_X8
  | k + 10, h => simp [vwCl] at h
theorem gcl_ty {ci : Nat} {C : String} {T : u_T} {N : Nat} (h : vwCl[ci]? = some (C, T, N)) : ∀ k, k < N → parseFieldDescriptor (T k).2.2.1 = some (gty ci k) := by
  match ci, h with
  | 0, h => cases h; exact tyJx00060_ok
  | 1, h => cases h; exact tyX0_ok
  | 2, h => cases h; exact tyX1_ok
  | 3, h => cases h; exact tyX2_ok
  | 4, h => cases h; exact tyX3_ok
  | 5, h => cases h; exact tyX4_ok
  | 6, h => cases h; exact tyX5_ok
  | 7, h => cases h; exact tyX6_ok
  | 8, h => cases h; exact tyX7_ok
  | 9, h => cases h; exact tyX8_ok
  | k + 10, h => simp [vwCl] at h
theorem gcl_nm {ci : Nat} {C : String} {T : u_T} {N : Nat} (h : vwCl[ci]? = some (C, T, N)) : ∀ a, a < N → ∀ b, b < N → a ≠ b → (T a).2.1 ≠ (T b).2.1 := by
  match ci, h with
  | 0, h => cases h; exact nmJx00060
  | 1, h => cases h; exact nmX0
  | 2, h => cases h; exact nmX1
  | 3, h => cases h; exact nmX2
  | 4, h => cases h; exact nmX3
  | 5, h => cases h; exact nmX4
  | 6, h => cases h; exact nmX5
  | 7, h => cases h; exact nmX6
  | 8, h => cases h; exact nmX7
  | 9, h => cases h; exact nmX8
  | k + 10, h => simp [vwCl] at h
abbrev gI : Type := Nat × Instr × Nat
/-- a method: its bytes, how many locals, the class that it stands in, its instructions, its fields' places in the pool -/
abbrev gM : Type := ByteArray × Nat × String × List gI × List gFt × Room
def gfet (pc : Nat) : List gI → Option (Instr × Nat)
  | [] => none
  | q :: t => match Nat.beq q.1 pc with
    | true => some q.2
    | false => gfet pc t
def gfok (own : String) (f : gFt) : Bool := match vwCl[f.2.1]? with
  | none => false
  | some (_, T, N) => Nat.blt f.2.2.1 N && decide (Cond.fieldLink own f.1 (T f.2.2.1).1 (T f.2.2.1).2.1 (T f.2.2.1).2.2.1 ∈ gtb) && (match parseFieldDescriptor (T f.2.2.1).2.2.1, f.2.2.2, (T f.2.2.1).2.2.2 with
    | some .int, 0, false => true
    | some .boolean, 1, false => true
    | some _, 2, _ => true
    | some _, 3, _ => true
    | _, _, _ => false)
def gOkM (mm : gM) : Prop := (∀ q ∈ mm.2.2.2.1, decode mm.1 q.1 = .ok (q.2.1, q.2.2) ∧ gwell mm.2.1 q.1 q.2.1 q.2.2 = true) ∧ ∀ f ∈ mm.2.2.2.2.1, gfok mm.2.2.1 f = true
abbrev gX : Type := Program × Launch × Env × Room × State × MethodId × Array Value × List Frame × Method × Code × va_G × (Nat → ClassId) × (Nat → Prop) × Heap × (State → Prop)
def gOk (X : gX) (mm : gM) : Prop := match X with
  | (p, _, _, R, s, m, args, _, meth, c, D, cA, A, H0, _) => p.tables.exec = Jvm.exec ∧ c.code = mm.1 ∧ c.maxLocals = mm.2.1 ∧ s.vm.findClass mm.2.2.1 = some m.cls ∧ (∀ w ∈ gtb, w.before args s = true) ∧ va_K D vwCl (gtys cA) s ∧ meth.locks = false ∧ (∀ q : Nat, H0.size ≤ q → A q) ∧ R = mm.2.2.2.2.2 ∧ gOkM mm
/-- from this state the machine comes to its goal -/
def G (X : gX) (mm : gM) (ad : Nat → Nat) (kc ks : Nat) (S : gS) : Prop := match X with
  | (p, l, e, R, s, m, args, below, meth, c, D, cA, A, H0, Q) => ∀ (H : Heap) (locs : List Loc) (ls : Array Slot), va_P D vwCl (gw cA ad S.1) H → va_D A (gw cA ad S.1) → va_S A H0 H locs → lv_has ls mm.2.1 (S.2.2.1.map (fun q => (q.1, gv ad q.2))) → W p l e R s m args below meth c H locs kc ks Q (F0 m S.2.1 ls (S.2.2.2.map (gv ad)))
theorem gbeq {a b : Nat} (h : Nat.beq a b = true) : a = b := Nat.eq_of_beq_eq_true h
theorem gbne {a b : Nat} (h : Nat.beq a b = false) : a ≠ b := Nat.ne_of_beq_eq_false h
theorem gfet_mem {pc : Nat} {is : List gI} {i : Instr} {n : Nat} (h : gfet pc is = some (i, n)) : (pc, i, n) ∈ is := by
  induction is with
  | nil => cases h
  | cons q t ih =>
    unfold gfet at h
    split at h
    next hb =>
      obtain ⟨a, b, c⟩ := q
      have := gbeq hb
      cases h
      cases this
      exact List.mem_cons_self
    next => exact List.mem_cons_of_mem _ (ih h)
theorem glook_mem {i : Nat} {lv : List (Nat × gV)} {v : gV} (h : glook i lv = some v) : (i, v) ∈ lv := by
  induction lv with
  | nil => cases h
  | cons q t ih =>
    unfold glook at h
    split at h
    next hb =>
      obtain ⟨a, b⟩ := q
      have := gbeq hb
      cases h
      cases this
      exact List.mem_cons_self
    next => exact List.mem_cons_of_mem _ (ih h)
theorem glv {ad : Nat → Nat} {ls : Array Slot} {nL : Nat} {lv : List (Nat × gV)} {i : Nat} {v : gV} (hl : lv_has ls nL (lv.map (fun q => (q.1, gv ad q.2)))) (h : glook i lv = some v) : ls[i]? = some (.val (gv ad v)) :=
  hl.2.2 (i, gv ad v) (List.mem_map.mpr ⟨(i, v), glook_mem h, rfl⟩)
theorem gdel_mem {i : Nat} {lv : List (Nat × gV)} {q : Nat × gV} (h : q ∈ gdel i lv) : q ∈ lv ∧ q.1 ≠ i := by
  induction lv with
  | nil => cases h
  | cons x t ih =>
    unfold gdel at h
    split at h
    next => exact ⟨List.mem_cons_of_mem _ (ih h).1, (ih h).2⟩
    next hb =>
      rcases List.mem_cons.mp h with rfl | h
      · exact ⟨List.mem_cons_self, gbne hb⟩
      · exact ⟨List.mem_cons_of_mem _ (ih h).1, (ih h).2⟩
theorem gset_mem {i : Nat} {v : gV} {lv : List (Nat × gV)} {q : Nat × gV} (h : q ∈ gset i v lv) : q = (i, v) ∨ (q ∈ lv ∧ q.1 ≠ i) := by
  induction lv with
  | nil =>
    rcases List.mem_cons.mp h with rfl | h
    · exact Or.inl rfl
    · cases h
  | cons x t ih =>
    unfold gset at h
    split at h
    next =>
      rcases List.mem_cons.mp h with rfl | h
      · exact Or.inl rfl
      · exact Or.inr ⟨List.mem_cons_of_mem _ (gdel_mem h).1, (gdel_mem h).2⟩
    next hb =>
      rcases List.mem_cons.mp h with rfl | h
      · exact Or.inr ⟨List.mem_cons_self, gbne hb⟩
      · rcases ih h with h | h
        · exact Or.inl h
        · exact Or.inr ⟨List.mem_cons_of_mem _ h.1, h.2⟩
theorem gnl_cat {ad : Nat → Nat} {lv : List (Nat × gV)} (h : gnl lv = true) {q : Nat × gV} (hq : q ∈ lv) : (gv ad q.2).category = 1 := by
  induction lv with
  | nil => cases hq
  | cons x t ih =>
    unfold gnl at h
    obtain ⟨a, b⟩ := x
    rcases b with z | z | (_ | k)
    · rcases List.mem_cons.mp hq with rfl | hq
      · rfl
      · exact ih h hq
    · cases h
    · rcases List.mem_cons.mp hq with rfl | hq
      · rfl
      · exact ih h hq
    · rcases List.mem_cons.mp hq with rfl | hq
      · rfl
      · exact ih h hq
theorem glvst {ad : Nat → Nat} {ls : Array Slot} {nL : Nat} {lv : List (Nat × gV)} {i : Nat} {v : gV} (hn : gnl lv = true) (hl : lv_has ls nL ((i, gv ad v) :: (lv.map (fun q => (q.1, gv ad q.2))).filter (fun q => !(q.1 == i) && !(q.1 + 1 == i && q.2.category == 2)))) : lv_has ls nL ((gset i v lv).map (fun q => (q.1, gv ad q.2))) := by
  refine ⟨hl.1, hl.2.1, fun q hq => ?_⟩
  obtain ⟨x, hx, rfl⟩ := List.mem_map.mp hq
  rcases gset_mem hx with rfl | ⟨h1, h2⟩
  · exact hl.2.2 _ List.mem_cons_self
  · refine hl.2.2 _ (List.mem_cons_of_mem _ (List.mem_filter.mpr ⟨List.mem_map.mpr ⟨x, h1, rfl⟩, ?_⟩))
    have hc := gnl_cat (ad := ad) hn h1
    simp [h2, hc]
theorem gwl_ix {k : Nat} {w : gW} {e : gE} (h : gwl k w = some e) : ∃ q0 : Nat, w[q0]? = some (k, e) ∧ ∀ e' : gE, gws k e' w = w.set q0 (k, e') := by
  induction w with
  | nil => cases h
  | cons q t ih =>
    unfold gwl at h
    split at h
    next hb =>
      obtain ⟨a, b⟩ := q
      have h9 := gbeq hb
      cases h
      refine ⟨0, by rw [← h9]; rfl, fun e' => ?_⟩
      unfold gws
      rw [hb]
      rfl
    next hb =>
      obtain ⟨q0, h1, h2⟩ := ih h
      refine ⟨q0 + 1, by simpa using h1, fun e' => ?_⟩
      show gws k e' (q :: t) = q :: t.set q0 (k, e')
      rw [← h2 e']
      conv => lhs; unfold gws
      rw [hb]
theorem gw_at {cA : Nat → ClassId} {ad : Nat → Nat} {w : gW} {q0 k : Nat} {e : gE} (h : w[q0]? = some (k, e)) : (gw cA ad w)[q0]? = some (ad k, ge cA ad e) := by
  unfold gw
  rw [List.getElem?_map, h]
  rfl
theorem gw_set {cA : Nat → ClassId} {ad : Nat → Nat} {w : gW} {q0 k : Nat} {e : gE} : gw cA ad (w.set q0 (k, e)) = (gw cA ad w).set q0 (ad k, ge cA ad e) := by
  unfold gw
  rw [List.map_set]
theorem gI_toInt {z : Int} (h : inR z) : (Int32.ofInt z).toInt = z := Int32.toInt_ofInt_of_le (by omega) (by omega)
theorem gI_lt {x y : Int} (hx : inR x) (hy : inR y) : Int32.ofInt x < Int32.ofInt y ↔ x < y := by rw [Int32.lt_iff_toInt_lt, gI_toInt hx, gI_toInt hy]
theorem gI_le {x y : Int} (hx : inR x) (hy : inR y) : Int32.ofInt x ≤ Int32.ofInt y ↔ x ≤ y := by rw [Int32.le_iff_toInt_le, gI_toInt hx, gI_toInt hy]
theorem gI_eq {x y : Int} (hx : inR x) (hy : inR y) : Int32.ofInt x = Int32.ofInt y ↔ x = y := by rw [← Int32.toInt_inj, gI_toInt hx, gI_toInt hy]
theorem gI_in {z : Int} {n : Nat} (h : 0 ≤ z ∧ z < (n : Int) ∧ (n : Int) ≤ 2147483647) : vp_in (Int32.ofInt z) n := by
  rw [vp_in_iff, gI_toInt ⟨by omega, by omega⟩]
  exact ⟨h.1, h.2.1⟩
theorem gI_cl {z : Int} (h0 : 0 ≤ z) (h1 : z ≤ 2147483647) : (Int32.ofInt z).toNatClampNeg = z.toNat := Int32.toNatClampNeg_ofInt_of_le (by omega) (by omega)
theorem gI_rd {z : Int} {n : Nat} (f : Int → Int) (h : 0 ≤ z ∧ z < (n : Int) ∧ (n : Int) ≤ 2147483647) : Int32.ofInt (f (((Int32.ofInt z).toNatClampNeg : Nat) : Int)) = Int32.ofInt (f z) := by
  rw [gI_cl h.1 (by omega), Int.toNat_of_nonneg h.1]
theorem gI_wr {z v : Int} {n : Nat} (f : Int → Int) (h : 0 ≤ z ∧ z < (n : Int) ∧ (n : Int) ≤ 2147483647) : upd (fun j : Nat => Int32.ofInt (f (j : Int))) (Int32.ofInt z).toNatClampNeg (Int32.ofInt v) = (fun j : Nat => Int32.ofInt (gu f z v (j : Int))) := by
  funext j
  rw [gI_cl h.1 (by omega)]
  simp only [upd, gu]
  by_cases hj : (j : Int) = z
  · have h2 : j = z.toNat := by omega
    rw [if_pos h2, if_pos hj]
  · have h2 : ¬ j = z.toNat := by omega
    rw [if_neg h2, if_neg hj]
theorem gI_div {x y : Int} (h : 0 ≤ x ∧ x < 2147483648 ∧ 0 < y ∧ y < 2147483648) : Int32.ofInt x / Int32.ofInt y = Int32.ofInt (x / y) := by
  have h1 : 0 ≤ x / y := Int.ediv_nonneg h.1 (by omega)
  have h2 : x / y ≤ x := Int.ediv_le_self y h.1
  apply Int32.toInt_inj.mp
  rw [Int32.toInt_div_of_ne_right _ _ (fun h9 => by
    have := congrArg Int32.toInt h9
    rw [gI_toInt ⟨by omega, by omega⟩] at this
    have h8 : (-1 : Int32).toInt = -1 := by decide
    omega), gI_toInt ⟨by omega, by omega⟩, gI_toInt ⟨by omega, by omega⟩, gI_toInt ⟨by omega, by omega⟩, Int.tdiv_eq_ediv_of_nonneg h.1]
theorem gI_rem {x y : Int} (h : 0 ≤ x ∧ x < 2147483648 ∧ 0 < y ∧ y < 2147483648) : Int32.ofInt x - Int32.ofInt x / Int32.ofInt y * Int32.ofInt y = Int32.ofInt (x % y) := by
  rw [gI_div h, ← Int32.ofInt_mul, ← Int32.ofInt_sub, Int.emod_def, Int.mul_comm y]
theorem gI_ne0 {y : Int} (h : 0 < y ∧ y < 2147483648) : ¬ Int32.ofInt y = 0 := by
  intro h9
  have := congrArg Int32.toInt h9
  rw [gI_toInt ⟨by omega, by omega⟩] at this
  have h8 : (0 : Int32).toInt = 0 := by decide
  omega
theorem gI_bool {z : Int} (h : z = 0 ∨ z = 1) : narrow .boolean (.int (Int32.ofInt z)) = .int (Int32.ofInt z) ∧ fits .boolean (.int (Int32.ofInt z)) = true ∧ vp_nar .boolean (Int32.ofInt z) = Int32.ofInt z := by
  rcases h with rfl | rfl <;> decide
theorem gft_mem {idx : Nat} {ft : List gFt} {q : Nat × Nat × Nat} (h : gft idx ft = some q) : (idx, q) ∈ ft := by
  induction ft with
  | nil => cases h
  | cons x t ih =>
    unfold gft at h
    split at h
    next hb =>
      obtain ⟨a, b⟩ := x
      have := gbeq hb
      cases h
      cases this
      exact List.mem_cons_self
    next => exact List.mem_cons_of_mem _ (ih h)
theorem gfok_ok {own : String} {ft : List gFt} {idx ci k kd : Nat} (hF : ∀ f ∈ ft, gfok own f = true) (hf : (idx, ci, k, kd) ∈ ft) : ∃ (C : String) (T : u_T) (N : Nat), vwCl[ci]? = some (C, T, N) ∧ k < N ∧ Cond.fieldLink own idx (T k).1 (T k).2.1 (T k).2.2.1 ∈ gtb ∧ ((kd = 0 → parseFieldDescriptor (T k).2.2.1 = some .int ∧ (T k).2.2.2 = false) ∧ (kd = 1 → parseFieldDescriptor (T k).2.2.1 = some .boolean ∧ (T k).2.2.2 = false)) := by
  have h := hF _ hf
  unfold gfok at h
  dsimp only at h
  cases hc : vwCl[ci]? with
  | none => rw [hc] at h; cases h
  | some q =>
    obtain ⟨C, T, N⟩ := q
    rw [hc] at h
    dsimp only at h
    simp only [Bool.and_eq_true] at h
    obtain ⟨⟨h1, h2⟩, h3⟩ := h
    refine ⟨C, T, N, rfl, by simpa [Nat.blt_eq] using h1, of_decide_eq_true h2, fun e => ?_, fun e => ?_⟩
    · subst e
      revert h3
      generalize parseFieldDescriptor (T k).2.2.1 = a
      generalize (T k).2.2.2 = b
      intro h3
      split at h3 <;> first | (exact ⟨rfl, rfl⟩) | (simp_all; done) | (cases h3)
    · subst e
      revert h3
      generalize parseFieldDescriptor (T k).2.2.1 = a
      generalize (T k).2.2.2 = b
      intro h3
      split at h3 <;> first | (exact ⟨rfl, rfl⟩) | (simp_all; done) | (cases h3)
end
section
set_option maxHeartbeats 4000000 in
set_option maxRecDepth 100000 in
theorem gstep_ok {X : gX} {mm : gM} {ad : Nat → Nat} {kc ks : Nat} (hX : gOk X mm) {i : Instr} {n : Nat} {S S' : gS} {O : Option Prop} (hi : (S.2.1, i, n) ∈ mm.2.2.2.1) (h : gstep mm.2.2.2.2.1 i n S = some (S', O)) (hO : ∀ P, O = some P → P) (k : G X mm ad kc ks S') : G X mm ad kc ks S := by
  obtain ⟨p, l, e, R, s, m, args, below, meth, c, D, cA, A, H0, Q⟩ := X
  obtain ⟨w, pc, lv, st⟩ := S
  obtain ⟨hx, hb, hml, hown, hts, hK, hlk, hA, hR, hM⟩ := hX
  obtain ⟨hd, hw⟩ := hM.1 _ hi
  have hF := hM.2
  dsimp only at hd hw hi
  intro H locs ls hP hD hS hl
  dsimp only at hP hD hl ⊢
  cases i
  case iload_n kk =>
    have hn := gbeq hw
    subst hn
    cases hg : glook kk.val lv with
    | none => simp only [gstep, hg] at h; cases h
    | some v =>
      rcases v with z | z | _ | z <;> simp only [gstep, hg] at h <;> first | (cases h; done) | skip
      cases h
      exact lv_iload_n hx hb hd rfl (glv hl hg) (k H locs ls hP hD hS hl)
  case iload kk =>
    have hn := gbeq hw
    subst hn
    cases hg : glook kk lv with
    | none => simp only [gstep, hg] at h; cases h
    | some v =>
      rcases v with z | z | _ | z <;> simp only [gstep, hg] at h <;> first | (cases h; done) | skip
      cases h
      exact lv_iload hx hb hd (glv hl hg) (k H locs ls hP hD hS hl)
  case aload_n kk =>
    have hn := gbeq hw
    subst hn
    cases hg : glook kk.val lv with
    | none => simp only [gstep, hg] at h; cases h
    | some v =>
      rcases v with z | z | _ | z <;> simp only [gstep, hg] at h <;> first | (cases h; done) | skip
      cases h
      exact lv_aload_n hx hb hd rfl (glv hl hg) (k H locs ls hP hD hS hl)
  case aload kk =>
    have hn := gbeq hw
    subst hn
    cases hg : glook kk lv with
    | none => simp only [gstep, hg] at h; cases h
    | some v =>
      rcases v with z | z | _ | z <;> simp only [gstep, hg] at h <;> first | (cases h; done) | skip
      cases h
      exact lv_aload hx hb hd (glv hl hg) (k H locs ls hP hD hS hl)
  case istore_n kk =>
    obtain ⟨hw1, hw2⟩ := Bool.and_eq_true_iff.mp hw
    have hn := gbeq hw1
    subst hn
    have hlt : kk.val < mm.2.1 := by simpa [Nat.blt_eq] using hw2
    cases hg : gnl lv with
    | false => simp only [gstep, hg] at h; cases h
    | true =>
      rcases st with _ | ⟨z | z | _ | z, st⟩ <;> simp only [gstep, hg] at h <;> first | (cases h; done) | skip
      cases h
      exact lv_istore_n hx hb hd rfl hl hlt rfl (fun ls' hl' => k H locs ls' hP hD hS (glvst hg hl'))
  case istore kk =>
    obtain ⟨hw1, hw2⟩ := Bool.and_eq_true_iff.mp hw
    have hn := gbeq hw1
    subst hn
    have hlt : kk < mm.2.1 := by simpa [Nat.blt_eq] using hw2
    cases hg : gnl lv with
    | false => simp only [gstep, hg] at h; cases h
    | true =>
      rcases st with _ | ⟨z | z | _ | z, st⟩ <;> simp only [gstep, hg] at h <;> first | (cases h; done) | skip
      cases h
      exact lv_istore hx hb hd hl hlt rfl (fun ls' hl' => k H locs ls' hP hD hS (glvst hg hl'))
  case astore_n kk =>
    obtain ⟨hw1, hw2⟩ := Bool.and_eq_true_iff.mp hw
    have hn := gbeq hw1
    subst hn
    have hlt : kk.val < mm.2.1 := by simpa [Nat.blt_eq] using hw2
    cases hg : gnl lv with
    | false => simp only [gstep, hg] at h; cases h
    | true =>
      rcases st with _ | ⟨z | z | _ | z, st⟩ <;> simp only [gstep, hg] at h <;> first | (cases h; done) | skip
      cases h
      exact lv_astore_n hx hb hd rfl hl hlt rfl (fun ls' hl' => k H locs ls' hP hD hS (glvst hg hl'))
  case astore kk =>
    obtain ⟨hw1, hw2⟩ := Bool.and_eq_true_iff.mp hw
    have hn := gbeq hw1
    subst hn
    have hlt : kk < mm.2.1 := by simpa [Nat.blt_eq] using hw2
    cases hg : gnl lv with
    | false => simp only [gstep, hg] at h; cases h
    | true =>
      rcases st with _ | ⟨z | z | _ | z, st⟩ <;> simp only [gstep, hg] at h <;> first | (cases h; done) | skip
      cases h
      exact lv_astore hx hb hd hl hlt rfl (fun ls' hl' => k H locs ls' hP hD hS (glvst hg hl'))
  case iinc kk cc =>
    obtain ⟨hw1, hw2⟩ := Bool.and_eq_true_iff.mp hw
    have hn := gbeq hw1
    subst hn
    have hlt : kk < mm.2.1 := by simpa [Nat.blt_eq] using hw2
    cases hg : gnl lv with
    | false => simp only [gstep, hg] at h; cases h
    | true =>
      cases hg2 : glook kk lv with
      | none => simp only [gstep, hg, hg2] at h; cases h
      | some v =>
        rcases v with z | z | _ | z <;> simp only [gstep, hg, hg2] at h <;> first | (cases h; done) | skip
        cases h
        obtain ⟨j, hj⟩ := List.getElem?_of_mem (glook_mem hg2)
        exact lv_iinc (v := Int32.ofInt (z + cc)) (k := j) (x := Int32.ofInt z) hx hb hd hl (by rw [List.getElem?_map, hj]; rfl) (Int32.ofInt_add z cc).symm hlt rfl (fun ls' hl' => k H locs ls' hP hD hS (glvst (v := .inl (z + cc)) hg hl'))
  case iconst z =>
    have hn := gbeq hw
    subst hn
    simp only [gstep] at h
    cases h
    exact lv_iconst hx hb hd rfl (k H locs ls hP hD hS hl)
  case bipush z =>
    obtain ⟨hw1, hw2⟩ := Bool.and_eq_true_iff.mp hw
    have hn := gbeq hw1
    subst hn
    simp only [gstep] at h
    cases h
    exact lv_bipush hx hb hd (of_decide_eq_true hw2) (k H locs ls hP hD hS hl)
  case sipush z =>
    obtain ⟨hw1, hw2⟩ := Bool.and_eq_true_iff.mp hw
    have hn := gbeq hw1
    subst hn
    simp only [gstep] at h
    cases h
    exact lv_sipush hx hb hd (of_decide_eq_true hw2) (k H locs ls hP hD hS hl)
  case iadd =>
    have hn := gbeq hw
    subst hn
    rcases st with _ | ⟨y | y | _ | y, _ | ⟨x | x | _ | x, st⟩⟩ <;> simp only [gstep] at h <;> first | (cases h; done) | skip
    cases h
    refine lv_iadd hx hb hd ?_
    have k9 := k H locs ls hP hD hS hl
    simp only [List.map_cons, gv, Int32.ofInt_add] at k9
    exact k9
  case isub =>
    have hn := gbeq hw
    subst hn
    rcases st with _ | ⟨y | y | _ | y, _ | ⟨x | x | _ | x, st⟩⟩ <;> simp only [gstep] at h <;> first | (cases h; done) | skip
    cases h
    refine lv_isub hx hb hd ?_
    have k9 := k H locs ls hP hD hS hl
    simp only [List.map_cons, gv, Int32.ofInt_sub] at k9
    exact k9
  case imul =>
    have hn := gbeq hw
    subst hn
    rcases st with _ | ⟨y | y | _ | y, _ | ⟨x | x | _ | x, st⟩⟩ <;> simp only [gstep] at h <;> first | (cases h; done) | skip
    cases h
    refine lv_imul hx hb hd ?_
    have k9 := k H locs ls hP hD hS hl
    simp only [List.map_cons, gv, Int32.ofInt_mul] at k9
    exact k9
  case ineg =>
    have hn := gbeq hw
    subst hn
    rcases st with _ | ⟨y | y | _ | y, st⟩ <;> simp only [gstep] at h <;> first | (cases h; done) | skip
    cases h
    refine lv_ineg hx hb hd ?_
    have k9 := k H locs ls hP hD hS hl
    simp only [List.map_cons, gv, Int32.ofInt_neg] at k9
    exact k9
  case iand =>
    have hn := gbeq hw
    subst hn
    rcases st with _ | ⟨y | y | _ | y, _ | ⟨x | x | _ | x, st⟩⟩ <;> simp only [gstep] at h <;> first | (cases h; done) | skip
    cases h
    refine lv_iand hx hb hd ?_
    have k9 := k H locs ls hP hD hS hl
    simp only [List.map_cons, gv, Int32.ofInt_toInt] at k9
    exact k9
  case idiv =>
    have hn := gbeq hw
    subst hn
    rcases st with _ | ⟨y | y | _ | y, _ | ⟨x | x | _ | x, st⟩⟩ <;> simp only [gstep] at h <;> first | (cases h; done) | skip
    cases h
    have h9 := hO _ rfl
    refine lv_idiv hx hb hd (gI_ne0 h9.2.2) ?_
    have k9 := k H locs ls hP hD hS hl
    simp only [List.map_cons, gv] at k9
    rw [gI_div h9]
    exact k9
  case irem =>
    have hn := gbeq hw
    subst hn
    rcases st with _ | ⟨y | y | _ | y, _ | ⟨x | x | _ | x, st⟩⟩ <;> simp only [gstep] at h <;> first | (cases h; done) | skip
    cases h
    have h9 := hO _ rfl
    refine lv_irem hx hb hd (gI_ne0 h9.2.2) ?_
    have k9 := k H locs ls hP hD hS hl
    simp only [List.map_cons, gv] at k9
    rw [gI_rem h9]
    exact k9
  case dup =>
    have hn := gbeq hw
    subst hn
    rcases st with _ | ⟨y | y | _ | y, st⟩ <;> simp only [gstep] at h <;> first | (cases h; done) | skip
    all_goals
      cases h
      exact lv_dup hx hb hd rfl (k H locs ls hP hD hS hl)
  case pop =>
    have hn := gbeq hw
    subst hn
    rcases st with _ | ⟨y | y | _ | y, st⟩ <;> simp only [gstep] at h <;> first | (cases h; done) | skip
    all_goals
      cases h
      exact lv_pop hx hb hd rfl (k H locs ls hP hD hS hl)
  case dup2 =>
    have hn := gbeq hw
    subst hn
    rcases st with _ | ⟨y | y | _ | y, _ | ⟨x | x | _ | x, st⟩⟩ <;> simp only [gstep] at h <;> first | (cases h; done) | skip
    all_goals
      cases h
      exact lv_dup2_11 hx hb hd rfl rfl (k H locs ls hP hD hS hl)
  case dup_x1 =>
    have hn := gbeq hw
    subst hn
    rcases st with _ | ⟨y | y | _ | y, _ | ⟨x | x | _ | x, st⟩⟩ <;> simp only [gstep] at h <;> first | (cases h; done) | skip
    all_goals
      cases h
      exact lv_dup_x1 hx hb hd rfl rfl (k H locs ls hP hD hS hl)
  case goto off =>
    obtain ⟨hw1, hw2⟩ := Bool.and_eq_true_iff.mp hw
    have hn := gbeq hw1
    subst hn
    simp only [gstep] at h
    cases h
    exact lv_goto hx hb hd (Int.toNat_of_nonneg (of_decide_eq_true hw2)).symm (k H locs ls hP hD hS hl)
  case getfield idx =>
    have hn := gbeq hw
    subst hn
    rcases st with _ | ⟨y | y | _ | o, st⟩ <;> simp only [gstep] at h <;> first | (cases h; done) | skip
    cases hg : gft idx mm.2.2.2.2.1 with
    | none => simp only [hg] at h; cases h
    | some q =>
      obtain ⟨ci, kf, kd⟩ := q
      cases hg2 : gwl o w with
      | none => simp only [hg, hg2] at h; cases h
      | some e9 =>
        rcases e9 with ⟨cj, fs⟩ | e9
        · simp only [hg, hg2] at h
          cases hb2 : Nat.beq ci cj with
          | false => simp only [hb2] at h; cases h
          | true =>
            cases hfs : fs[kf]? with
            | none => simp only [hb2, hfs] at h; cases h
            | some v =>
              simp only [hb2, hfs] at h
              cases h
              have e1 := gbeq hb2
              subst e1
              obtain ⟨C, T, N, hc, hkN, hlink, -⟩ := gfok_ok hF (gft_mem hg)
              obtain ⟨q0, hq, -⟩ := gwl_ix hg2
              exact va_get (D := D) (v := gv ad v) hx hb hts (gcl_in hc) hown hK hP q0 (gw_at hq) hc kf hkN (hts _ hlink) (fun _ h => h) (by rw [List.getElem?_map, hfs]; rfl) hd (k H locs ls hP hD hS hl)
        · simp only [hg, hg2] at h
          cases h
  case putfield idx =>
    have hn := gbeq hw
    subst hn
    rcases st with _ | ⟨z | z | _ | z, _ | ⟨y | y | _ | o, st⟩⟩ <;> simp only [gstep] at h <;> first | (cases h; done) | skip
    cases hg : gft idx mm.2.2.2.2.1 with
    | none => simp only [hg] at h; cases h
    | some q =>
      obtain ⟨ci, kf, kd⟩ := q
      cases hg2 : gwl o w with
      | none => rcases kd with _ | _ | kd <;> simp only [hg, hg2] at h <;> cases h
      | some e9 =>
        rcases e9 with ⟨cj, fs⟩ | e9
        · obtain ⟨C, T, N, hc, hkN, hlink, hty⟩ := gfok_ok hF (gft_mem hg)
          obtain ⟨q0, hq, hset⟩ := gwl_ix hg2
          rcases kd with _ | _ | kd
          · simp only [hg, hg2] at h
            cases hb2 : Nat.beq ci cj with
            | false => simp only [hb2] at h; cases h
            | true =>
              cases hfs : fs[kf]? with
              | none => simp only [hb2, hfs] at h; cases h
              | some v =>
                simp only [hb2, hfs] at h
                cases h
                have e1 := gbeq hb2
                subst e1
                obtain ⟨ht1, ht2⟩ := hty.1 rfl
                refine va_put (D := D) (v := .int (Int32.ofInt z)) (ty := .int) hx hb hts (gcl_in hc) (gty ci) (gcl_ty hc) (gcl_nm hc) hown hK hP hD hS q0 (gw_at hq) hc kf hkN (hts _ hlink) (fun _ h => h) ht2 ht1 rfl rfl (by rw [List.length_map]; exact (List.getElem?_eq_some_iff.mp hfs).1) hd (fun H1 locs1 hP1 hD1 hS1 => ?_)
                refine k H1 locs1 ls ?_ ?_ hS1 hl
                · show va_P D vwCl (gw cA ad (gws o _ w)) H1
                  rw [hset, gw_set]
                  simpa [ge, gv, List.map_set] using hP1
                · show va_D A (gw cA ad (gws o _ w))
                  rw [hset, gw_set]
                  simpa [ge, gv, List.map_set] using hD1
          · simp only [hg, hg2] at h
            cases hb2 : Nat.beq ci cj with
            | false => simp only [hb2] at h; cases h
            | true =>
              cases hfs : fs[kf]? with
              | none => simp only [hb2, hfs] at h; cases h
              | some v =>
                simp only [hb2, hfs] at h
                cases h
                have e1 := gbeq hb2
                subst e1
                obtain ⟨ht1, ht2⟩ := hty.2 rfl
                have h9 := gI_bool (hO _ rfl)
                refine va_put (D := D) (v := .int (Int32.ofInt z)) (ty := .boolean) hx hb hts (gcl_in hc) (gty ci) (gcl_ty hc) (gcl_nm hc) hown hK hP hD hS q0 (gw_at hq) hc kf hkN (hts _ hlink) (fun _ h => h) ht2 ht1 h9.1 h9.2.1 (by rw [List.length_map]; exact (List.getElem?_eq_some_iff.mp hfs).1) hd (fun H1 locs1 hP1 hD1 hS1 => ?_)
                refine k H1 locs1 ls ?_ ?_ hS1 hl
                · show va_P D vwCl (gw cA ad (gws o _ w)) H1
                  rw [hset, gw_set]
                  simpa [ge, gv, List.map_set] using hP1
                · show va_D A (gw cA ad (gws o _ w))
                  rw [hset, gw_set]
                  simpa [ge, gv, List.map_set] using hD1
          · simp only [hg, hg2] at h
            cases h
        · rcases kd with _ | _ | kd <;> simp only [hg, hg2] at h <;> cases h
  case iaload =>
    have hn := gbeq hw
    subst hn
    rcases st with _ | ⟨z | z | _ | z, _ | ⟨y | y | _ | o, st⟩⟩ <;> simp only [gstep] at h <;> first | (cases h; done) | skip
    cases hg2 : gwl o w with
    | none => simp only [hg2] at h; cases h
    | some e9 =>
      rcases e9 with ⟨cj, fs⟩ | ⟨_ | t, len, f | f⟩ <;> simp only [hg2] at h <;> first | (cases h; done) | skip
      cases h
      have h9 := hO _ rfl
      obtain ⟨q0, hq, -⟩ := gwl_ix hg2
      refine va_iald (D := D) hx hb hK hP q0 0 (gw_at hq) rfl (gI_in h9) hd ?_
      rw [gI_rd f h9]
      exact k H locs ls hP hD hS hl
  case baload =>
    have hn := gbeq hw
    subst hn
    rcases st with _ | ⟨z | z | _ | z, _ | ⟨y | y | _ | o, st⟩⟩ <;> simp only [gstep] at h <;> first | (cases h; done) | skip
    cases hg2 : gwl o w with
    | none => simp only [hg2] at h; cases h
    | some e9 =>
      rcases e9 with ⟨cj, fs⟩ | ⟨_ | _ | t, len, f | f⟩ <;> simp only [hg2] at h <;> first | (cases h; done) | skip
      cases h
      have h9 := hO _ rfl
      obtain ⟨q0, hq, -⟩ := gwl_ix hg2
      refine va_zald (D := D) hx hb hK hP q0 1 (gw_at hq) rfl (gI_in h9) hd ?_
      rw [gI_rd f h9]
      exact k H locs ls hP hD hS hl
  case iastore =>
    have hn := gbeq hw
    subst hn
    rcases st with _ | ⟨v | v | _ | v, _ | ⟨z | z | _ | z, _ | ⟨y | y | _ | o, st⟩⟩⟩ <;> simp only [gstep] at h <;> first | (cases h; done) | skip
    cases hg2 : gwl o w with
    | none => simp only [hg2] at h; cases h
    | some e9 =>
      rcases e9 with ⟨cj, fs⟩ | ⟨_ | t, len, f | f⟩ <;> simp only [hg2] at h <;> first | (cases h; done) | skip
      cases h
      have h9 := hO _ rfl
      obtain ⟨q0, hq, hset⟩ := gwl_ix hg2
      refine va_iast (D := D) hx hb hK hP hD hS q0 0 (gw_at hq) rfl (gI_in h9) hd (fun H1 locs1 hP1 hD1 hS1 => ?_)
      rw [gI_wr f h9] at hP1 hD1
      refine k H1 locs1 ls ?_ ?_ hS1 hl
      · show va_P D vwCl (gw cA ad (gws o _ w)) H1
        rw [hset, gw_set]
        exact hP1
      · show va_D A (gw cA ad (gws o _ w))
        rw [hset, gw_set]
        exact hD1
  case bastore =>
    have hn := gbeq hw
    subst hn
    rcases st with _ | ⟨v | v | _ | v, _ | ⟨z | z | _ | z, _ | ⟨y | y | _ | o, st⟩⟩⟩ <;> simp only [gstep] at h <;> first | (cases h; done) | skip
    cases hg2 : gwl o w with
    | none => simp only [hg2] at h; cases h
    | some e9 =>
      rcases e9 with ⟨cj, fs⟩ | ⟨_ | _ | t, len, f | f⟩ <;> simp only [hg2] at h <;> first | (cases h; done) | skip
      cases h
      have h9 := hO _ rfl
      obtain ⟨q0, hq, hset⟩ := gwl_ix hg2
      refine va_zast (D := D) hx hb hK hP hD hS q0 1 (gw_at hq) rfl (gI_in h9.1) hd (fun H1 locs1 hP1 hD1 hS1 => ?_)
      rw [(gI_bool h9.2).2.2] at hP1 hD1
      rw [gI_wr f h9.1] at hP1 hD1
      refine k H1 locs1 ls ?_ ?_ hS1 hl
      · show va_P D vwCl (gw cA ad (gws o _ w)) H1
        rw [hset, gw_set]
        exact hP1
      · show va_D A (gw cA ad (gws o _ w))
        rw [hset, gw_set]
        exact hD1
  case arraylength =>
    have hn := gbeq hw
    subst hn
    rcases st with _ | ⟨y | y | _ | o, st⟩ <;> simp only [gstep] at h <;> first | (cases h; done) | skip
    cases hg2 : gwl o w with
    | none => simp only [hg2] at h; cases h
    | some e9 =>
      rcases e9 with ⟨cj, fs⟩ | ⟨_ | _ | t, len, f | f⟩ <;> simp only [hg2] at h <;> first | (cases h; done) | skip
      all_goals
        cases h
        obtain ⟨q0, hq, -⟩ := gwl_ix hg2
      · exact va_alen (D := D) hx hb hK hP q0 0 (gw_at hq) rfl (Int32.ofInt_eq_ofNat).symm hd (k H locs ls hP hD hS hl)
      · exact va_alen (D := D) hx hb hK hP q0 1 (gw_at hq) rfl (Int32.ofInt_eq_ofNat).symm hd (k H locs ls hP hD hS hl)
  all_goals (cases h)
end
section
/-! rows over G: a run of straight instructions, branches, the way into and out of a method, calls -/
def gcat (O1 : Option Prop) (O2 : Prop) : Prop := match O1 with
  | none => O2
  | some P => P ∧ O2
/-- n straight instructions; what has to hold for them (indices in range) -/
def grun (is : List gI) (ft : List gFt) : Nat → gS → Option (gS × Prop)
  | 0, S => some (S, True)
  | n + 1, S => match gfet S.2.1 is with
    | none => none
    | some (i, len) => match gstep ft i len S with
      | none => none
      | some (S1, O1) => match grun is ft n S1 with
        | none => none
        | some (S2, O2) => some (S2, gcat O1 O2)
theorem gOk.m {X : gX} {mm : gM} (h : gOk X mm) : gOkM mm := by
  obtain ⟨p, l, e, R, s, m, args, below, meth, c, D, cA, A, H0, Q⟩ := X
  exact h.2.2.2.2.2.2.2.2.2
theorem G.go {X : gX} {mm : gM} {ad : Nat → Nat} {kc ks : Nat} (hX : gOk X mm) (n : Nat) {S : gS} (S' : gS) {O : Prop} (h : grun mm.2.2.2.1 mm.2.2.2.2.1 n S = some (S', O)) (hO : O) (k : G X mm ad kc ks S') : G X mm ad kc ks S := by
  induction n generalizing S O with
  | zero =>
    unfold grun at h
    cases h
    exact k
  | succ n ih =>
    unfold grun at h
    cases hf : gfet S.2.1 mm.2.2.2.1 with
    | none => simp only [hf] at h; cases h
    | some q =>
      obtain ⟨i, len⟩ := q
      simp only [hf] at h
      cases hs : gstep mm.2.2.2.2.1 i len S with
      | none => simp only [hs] at h; cases h
      | some q =>
        obtain ⟨S1, O1⟩ := q
        simp only [hs] at h
        cases hr : grun mm.2.2.2.1 mm.2.2.2.2.1 n S1 with
        | none => simp only [hr] at h; cases h
        | some q =>
          obtain ⟨S2, O2⟩ := q
          simp only [hr] at h
          cases h
          have hO2 : O2 := by
            cases O1 with
            | none => exact hO
            | some P => exact hO.2
          refine gstep_ok hX (gfet_mem hf) hs (fun P hP => ?_) (ih hr hO2)
          subst hP
          exact hO.1
/-- another picture of the same state -/
theorem G.eq {X : gX} {mm : gM} {ad : Nat → Nat} {kc ks : Nat} {S S' : gS} (h : S = S') (k : G X mm ad kc ks S') : G X mm ad kc ks S := h ▸ k
theorem g_icmp_eq {X : gX} {mm : gM} {ad : Nat → Nat} {kc ks : Nat} (hX : gOk X mm) {w : gW} {pc : Nat} (tgt : Nat) {off : Int} {lv : List (Nat × gV)} {st : List gV} {x y : Int} (hi : gfet pc mm.2.2.2.1 = some (.if_icmp .eq off, 3)) (ht : (pc : Int) + off = (tgt : Int)) (hx : inR x) (hy : inR y) (kt : x = y → G X mm ad kc ks (w, tgt, lv, st)) (kf : ¬ (x = y) → G X mm ad kc ks (w, pc + 3, lv, st)) : G X mm ad kc ks (w, pc, lv, .inl y :: .inl x :: st) := by
  have hd := (hX.m.1 _ (gfet_mem hi)).1
  obtain ⟨p, l, e, R, s, m, args, below, meth, c, D, cA, A, H0, Q⟩ := X
  obtain ⟨hxc, hb, hml, hown, hts, hK, hlk, hA, hR, hM⟩ := hX
  intro H locs ls hP hD hS hl
  exact lv_icmp_eq (tgt := tgt) hxc hb hd ht (fun h => kt ((gI_eq hx hy).mp h) H locs ls hP hD hS hl) (fun h => kf (fun h9 => h ((gI_eq hx hy).mpr h9)) H locs ls hP hD hS hl)
theorem g_icmp_ne {X : gX} {mm : gM} {ad : Nat → Nat} {kc ks : Nat} (hX : gOk X mm) {w : gW} {pc : Nat} (tgt : Nat) {off : Int} {lv : List (Nat × gV)} {st : List gV} {x y : Int} (hi : gfet pc mm.2.2.2.1 = some (.if_icmp .ne off, 3)) (ht : (pc : Int) + off = (tgt : Int)) (hx : inR x) (hy : inR y) (kt : ¬ x = y → G X mm ad kc ks (w, tgt, lv, st)) (kf : ¬ (¬ x = y) → G X mm ad kc ks (w, pc + 3, lv, st)) : G X mm ad kc ks (w, pc, lv, .inl y :: .inl x :: st) := by
  have hd := (hX.m.1 _ (gfet_mem hi)).1
  obtain ⟨p, l, e, R, s, m, args, below, meth, c, D, cA, A, H0, Q⟩ := X
  obtain ⟨hxc, hb, hml, hown, hts, hK, hlk, hA, hR, hM⟩ := hX
  intro H locs ls hP hD hS hl
  exact lv_icmp_ne (tgt := tgt) hxc hb hd ht (fun h => kt ((not_congr (gI_eq hx hy)).mp h) H locs ls hP hD hS hl) (fun h => kf (fun h9 => h9 ((gI_eq hx hy).mp h)) H locs ls hP hD hS hl)
theorem g_icmp_lt {X : gX} {mm : gM} {ad : Nat → Nat} {kc ks : Nat} (hX : gOk X mm) {w : gW} {pc : Nat} (tgt : Nat) {off : Int} {lv : List (Nat × gV)} {st : List gV} {x y : Int} (hi : gfet pc mm.2.2.2.1 = some (.if_icmp .lt off, 3)) (ht : (pc : Int) + off = (tgt : Int)) (hx : inR x) (hy : inR y) (kt : x < y → G X mm ad kc ks (w, tgt, lv, st)) (kf : ¬ (x < y) → G X mm ad kc ks (w, pc + 3, lv, st)) : G X mm ad kc ks (w, pc, lv, .inl y :: .inl x :: st) := by
  have hd := (hX.m.1 _ (gfet_mem hi)).1
  obtain ⟨p, l, e, R, s, m, args, below, meth, c, D, cA, A, H0, Q⟩ := X
  obtain ⟨hxc, hb, hml, hown, hts, hK, hlk, hA, hR, hM⟩ := hX
  intro H locs ls hP hD hS hl
  exact lv_icmp_lt (tgt := tgt) hxc hb hd ht (fun h => kt ((gI_lt hx hy).mp h) H locs ls hP hD hS hl) (fun h => kf (fun h9 => h ((gI_lt hx hy).mpr h9)) H locs ls hP hD hS hl)
theorem g_icmp_ge {X : gX} {mm : gM} {ad : Nat → Nat} {kc ks : Nat} (hX : gOk X mm) {w : gW} {pc : Nat} (tgt : Nat) {off : Int} {lv : List (Nat × gV)} {st : List gV} {x y : Int} (hi : gfet pc mm.2.2.2.1 = some (.if_icmp .ge off, 3)) (ht : (pc : Int) + off = (tgt : Int)) (hx : inR x) (hy : inR y) (kt : y ≤ x → G X mm ad kc ks (w, tgt, lv, st)) (kf : ¬ (y ≤ x) → G X mm ad kc ks (w, pc + 3, lv, st)) : G X mm ad kc ks (w, pc, lv, .inl y :: .inl x :: st) := by
  have hd := (hX.m.1 _ (gfet_mem hi)).1
  obtain ⟨p, l, e, R, s, m, args, below, meth, c, D, cA, A, H0, Q⟩ := X
  obtain ⟨hxc, hb, hml, hown, hts, hK, hlk, hA, hR, hM⟩ := hX
  intro H locs ls hP hD hS hl
  exact lv_icmp_ge (tgt := tgt) hxc hb hd ht (fun h => kt ((gI_le hy hx).mp h) H locs ls hP hD hS hl) (fun h => kf (fun h9 => h ((gI_le hy hx).mpr h9)) H locs ls hP hD hS hl)
theorem g_icmp_gt {X : gX} {mm : gM} {ad : Nat → Nat} {kc ks : Nat} (hX : gOk X mm) {w : gW} {pc : Nat} (tgt : Nat) {off : Int} {lv : List (Nat × gV)} {st : List gV} {x y : Int} (hi : gfet pc mm.2.2.2.1 = some (.if_icmp .gt off, 3)) (ht : (pc : Int) + off = (tgt : Int)) (hx : inR x) (hy : inR y) (kt : y < x → G X mm ad kc ks (w, tgt, lv, st)) (kf : ¬ (y < x) → G X mm ad kc ks (w, pc + 3, lv, st)) : G X mm ad kc ks (w, pc, lv, .inl y :: .inl x :: st) := by
  have hd := (hX.m.1 _ (gfet_mem hi)).1
  obtain ⟨p, l, e, R, s, m, args, below, meth, c, D, cA, A, H0, Q⟩ := X
  obtain ⟨hxc, hb, hml, hown, hts, hK, hlk, hA, hR, hM⟩ := hX
  intro H locs ls hP hD hS hl
  exact lv_icmp_gt (tgt := tgt) hxc hb hd ht (fun h => kt ((gI_lt hy hx).mp h) H locs ls hP hD hS hl) (fun h => kf (fun h9 => h ((gI_lt hy hx).mpr h9)) H locs ls hP hD hS hl)
theorem g_icmp_le {X : gX} {mm : gM} {ad : Nat → Nat} {kc ks : Nat} (hX : gOk X mm) {w : gW} {pc : Nat} (tgt : Nat) {off : Int} {lv : List (Nat × gV)} {st : List gV} {x y : Int} (hi : gfet pc mm.2.2.2.1 = some (.if_icmp .le off, 3)) (ht : (pc : Int) + off = (tgt : Int)) (hx : inR x) (hy : inR y) (kt : x ≤ y → G X mm ad kc ks (w, tgt, lv, st)) (kf : ¬ (x ≤ y) → G X mm ad kc ks (w, pc + 3, lv, st)) : G X mm ad kc ks (w, pc, lv, .inl y :: .inl x :: st) := by
  have hd := (hX.m.1 _ (gfet_mem hi)).1
  obtain ⟨p, l, e, R, s, m, args, below, meth, c, D, cA, A, H0, Q⟩ := X
  obtain ⟨hxc, hb, hml, hown, hts, hK, hlk, hA, hR, hM⟩ := hX
  intro H locs ls hP hD hS hl
  exact lv_icmp_le (tgt := tgt) hxc hb hd ht (fun h => kt ((gI_le hx hy).mp h) H locs ls hP hD hS hl) (fun h => kf (fun h9 => h ((gI_le hx hy).mpr h9)) H locs ls hP hD hS hl)
theorem g_if_eq {X : gX} {mm : gM} {ad : Nat → Nat} {kc ks : Nat} (hX : gOk X mm) {w : gW} {pc : Nat} (tgt : Nat) {off : Int} {lv : List (Nat × gV)} {st : List gV} {x : Int} (hi : gfet pc mm.2.2.2.1 = some (.ifCond .eq off, 3)) (ht : (pc : Int) + off = (tgt : Int)) (hx : inR x) (kt : x = 0 → G X mm ad kc ks (w, tgt, lv, st)) (kf : ¬ (x = 0) → G X mm ad kc ks (w, pc + 3, lv, st)) : G X mm ad kc ks (w, pc, lv, .inl x :: st) := by
  have hd := (hX.m.1 _ (gfet_mem hi)).1
  obtain ⟨p, l, e, R, s, m, args, below, meth, c, D, cA, A, H0, Q⟩ := X
  obtain ⟨hxc, hb, hml, hown, hts, hK, hlk, hA, hR, hM⟩ := hX
  have hy : inR 0 := ⟨by omega, by omega⟩
  intro H locs ls hP hD hS hl
  exact lv_if_eq (tgt := tgt) hxc hb hd ht (fun h => kt ((gI_eq hx hy).mp h) H locs ls hP hD hS hl) (fun h => kf (fun h9 => h ((gI_eq hx hy).mpr h9)) H locs ls hP hD hS hl)
theorem g_if_ne {X : gX} {mm : gM} {ad : Nat → Nat} {kc ks : Nat} (hX : gOk X mm) {w : gW} {pc : Nat} (tgt : Nat) {off : Int} {lv : List (Nat × gV)} {st : List gV} {x : Int} (hi : gfet pc mm.2.2.2.1 = some (.ifCond .ne off, 3)) (ht : (pc : Int) + off = (tgt : Int)) (hx : inR x) (kt : ¬ x = 0 → G X mm ad kc ks (w, tgt, lv, st)) (kf : ¬ (¬ x = 0) → G X mm ad kc ks (w, pc + 3, lv, st)) : G X mm ad kc ks (w, pc, lv, .inl x :: st) := by
  have hd := (hX.m.1 _ (gfet_mem hi)).1
  obtain ⟨p, l, e, R, s, m, args, below, meth, c, D, cA, A, H0, Q⟩ := X
  obtain ⟨hxc, hb, hml, hown, hts, hK, hlk, hA, hR, hM⟩ := hX
  have hy : inR 0 := ⟨by omega, by omega⟩
  intro H locs ls hP hD hS hl
  exact lv_if_ne (tgt := tgt) hxc hb hd ht (fun h => kt ((not_congr (gI_eq hx hy)).mp h) H locs ls hP hD hS hl) (fun h => kf (fun h9 => h9 ((gI_eq hx hy).mp h)) H locs ls hP hD hS hl)
theorem g_if_lt {X : gX} {mm : gM} {ad : Nat → Nat} {kc ks : Nat} (hX : gOk X mm) {w : gW} {pc : Nat} (tgt : Nat) {off : Int} {lv : List (Nat × gV)} {st : List gV} {x : Int} (hi : gfet pc mm.2.2.2.1 = some (.ifCond .lt off, 3)) (ht : (pc : Int) + off = (tgt : Int)) (hx : inR x) (kt : x < 0 → G X mm ad kc ks (w, tgt, lv, st)) (kf : ¬ (x < 0) → G X mm ad kc ks (w, pc + 3, lv, st)) : G X mm ad kc ks (w, pc, lv, .inl x :: st) := by
  have hd := (hX.m.1 _ (gfet_mem hi)).1
  obtain ⟨p, l, e, R, s, m, args, below, meth, c, D, cA, A, H0, Q⟩ := X
  obtain ⟨hxc, hb, hml, hown, hts, hK, hlk, hA, hR, hM⟩ := hX
  have hy : inR 0 := ⟨by omega, by omega⟩
  intro H locs ls hP hD hS hl
  exact lv_if_lt (tgt := tgt) hxc hb hd ht (fun h => kt ((gI_lt hx hy).mp h) H locs ls hP hD hS hl) (fun h => kf (fun h9 => h ((gI_lt hx hy).mpr h9)) H locs ls hP hD hS hl)
theorem g_if_ge {X : gX} {mm : gM} {ad : Nat → Nat} {kc ks : Nat} (hX : gOk X mm) {w : gW} {pc : Nat} (tgt : Nat) {off : Int} {lv : List (Nat × gV)} {st : List gV} {x : Int} (hi : gfet pc mm.2.2.2.1 = some (.ifCond .ge off, 3)) (ht : (pc : Int) + off = (tgt : Int)) (hx : inR x) (kt : 0 ≤ x → G X mm ad kc ks (w, tgt, lv, st)) (kf : ¬ (0 ≤ x) → G X mm ad kc ks (w, pc + 3, lv, st)) : G X mm ad kc ks (w, pc, lv, .inl x :: st) := by
  have hd := (hX.m.1 _ (gfet_mem hi)).1
  obtain ⟨p, l, e, R, s, m, args, below, meth, c, D, cA, A, H0, Q⟩ := X
  obtain ⟨hxc, hb, hml, hown, hts, hK, hlk, hA, hR, hM⟩ := hX
  have hy : inR 0 := ⟨by omega, by omega⟩
  intro H locs ls hP hD hS hl
  exact lv_if_ge (tgt := tgt) hxc hb hd ht (fun h => kt ((gI_le hy hx).mp h) H locs ls hP hD hS hl) (fun h => kf (fun h9 => h ((gI_le hy hx).mpr h9)) H locs ls hP hD hS hl)
theorem g_if_gt {X : gX} {mm : gM} {ad : Nat → Nat} {kc ks : Nat} (hX : gOk X mm) {w : gW} {pc : Nat} (tgt : Nat) {off : Int} {lv : List (Nat × gV)} {st : List gV} {x : Int} (hi : gfet pc mm.2.2.2.1 = some (.ifCond .gt off, 3)) (ht : (pc : Int) + off = (tgt : Int)) (hx : inR x) (kt : 0 < x → G X mm ad kc ks (w, tgt, lv, st)) (kf : ¬ (0 < x) → G X mm ad kc ks (w, pc + 3, lv, st)) : G X mm ad kc ks (w, pc, lv, .inl x :: st) := by
  have hd := (hX.m.1 _ (gfet_mem hi)).1
  obtain ⟨p, l, e, R, s, m, args, below, meth, c, D, cA, A, H0, Q⟩ := X
  obtain ⟨hxc, hb, hml, hown, hts, hK, hlk, hA, hR, hM⟩ := hX
  have hy : inR 0 := ⟨by omega, by omega⟩
  intro H locs ls hP hD hS hl
  exact lv_if_gt (tgt := tgt) hxc hb hd ht (fun h => kt ((gI_lt hy hx).mp h) H locs ls hP hD hS hl) (fun h => kf (fun h9 => h ((gI_lt hy hx).mpr h9)) H locs ls hP hD hS hl)
theorem g_if_le {X : gX} {mm : gM} {ad : Nat → Nat} {kc ks : Nat} (hX : gOk X mm) {w : gW} {pc : Nat} (tgt : Nat) {off : Int} {lv : List (Nat × gV)} {st : List gV} {x : Int} (hi : gfet pc mm.2.2.2.1 = some (.ifCond .le off, 3)) (ht : (pc : Int) + off = (tgt : Int)) (hx : inR x) (kt : x ≤ 0 → G X mm ad kc ks (w, tgt, lv, st)) (kf : ¬ (x ≤ 0) → G X mm ad kc ks (w, pc + 3, lv, st)) : G X mm ad kc ks (w, pc, lv, .inl x :: st) := by
  have hd := (hX.m.1 _ (gfet_mem hi)).1
  obtain ⟨p, l, e, R, s, m, args, below, meth, c, D, cA, A, H0, Q⟩ := X
  obtain ⟨hxc, hb, hml, hown, hts, hK, hlk, hA, hR, hM⟩ := hX
  have hy : inR 0 := ⟨by omega, by omega⟩
  intro H locs ls hP hD hS hl
  exact lv_if_le (tgt := tgt) hxc hb hd ht (fun h => kt ((gI_le hx hy).mp h) H locs ls hP hD hS hl) (fun h => kf (fun h9 => h ((gI_le hx hy).mpr h9)) H locs ls hP hD hS hl)
end
section
/-! contracts: a method's start and end as plain data -/
def gQ (D : va_G) (cA : Nat → ClassId) (ad : Nat → Nat) (A : Nat → Prop) (post : Option gV → gW → Prop) : Array Value → State → Outcome → State → Prop := fun _ st oc t =>
  (∃ (r : Option gV) (w : gW), oc = .returned (r.map (gv ad)) ∧ post r w ∧ va_P D vwCl (gw cA ad w) t.heap ∧ va_K D vwCl (gtys cA) t ∧ va_D A (gw cA ad w)) ∧ va_F A st t
def gPre (D : va_G) (cA : Nat → ClassId) (ad : Nat → Nat) (sz : Nat) (w : gW) : State → Prop := fun U => U.heap.size = sz ∧ va_P D vwCl (gw cA ad w) U.heap ∧ va_K D vwCl (gtys cA) U ∧ va_D (fun _ => True) (gw cA ad w)
/-- method y, with arguments av and cells w, returns, and 'post answer cells'; mc new cells of ms slots at most -/
def gC (l : Launch) (D : va_G) (cA : Nat → ClassId) (y : MethodName) (mm : gM) (ret : Option FieldType) (mc ms : Nat) (av : List gV) (w : gW) (post : Option gV → gW → Prop) : Prop :=
  ∀ (ad : Nat → Nat) (sz : Nat), Met l y (Cond.code y mm.1 mm.2.1 ret :: gtb) mm.2.2.2.2.2 (va_Pc (av.map (gv ad)) (gPre D cA ad sz w)) (gQ D cA ad (va_A (gw cA ad w) sz) post) mc ms (va_A (gw cA ad w) sz)
/-- what the end of a method is, seen from within -/
def gEnd (X : gX) (ad : Nat → Nat) (mc ms : Nat) (post : Option gV → gW → Prop) (ret : Option FieldType) : Prop := match X with
  | (_, _, _, _, s, _, args, below, meth, _, D, cA, A, H0, Q) => meth.sig.returnType = ret ∧ H0 = s.heap ∧ Q = MQ below (gQ D cA ad A post) args s mc ms A
theorem g_iret {X : gX} {mm : gM} {ad : Nat → Nat} {kc ks : Nat} {post : Option gV → gW → Prop} (hX : gOk X mm) (hE : gEnd X ad kc ks post (some .int)) {w : gW} {pc : Nat} {lv : List (Nat × gV)} {z : Int} (hi : gfet pc mm.2.2.2.1 = some (.ireturn, 1)) (h : post (some (.inl z)) w) : G X mm ad kc ks (w, pc, lv, [.inl z]) := by
  have hd := (hX.m.1 _ (gfet_mem hi)).1
  obtain ⟨p, l, e, R, s, m, args, below, meth, c, D, cA, A, H0, Q⟩ := X
  obtain ⟨hxc, hb, hml, hown, hts, hK, hlk, hA, hR, hM⟩ := hX
  obtain ⟨hr, rfl, rfl⟩ := hE
  intro H locs ls hP hD hS hl
  exact W.iret hxc hb hr (fun t ht hW => ⟨⟨some (.inl z), w, rfl, h, by rw [ht]; exact hP, va_K.moved hW.alike hK, hD⟩, hS.F ht⟩) hS.2.2 hd hlk
theorem g_zret {X : gX} {mm : gM} {ad : Nat → Nat} {kc ks : Nat} {post : Option gV → gW → Prop} (hX : gOk X mm) (hE : gEnd X ad kc ks post (some .boolean)) {w : gW} {pc : Nat} {lv : List (Nat × gV)} {z : Int} (hi : gfet pc mm.2.2.2.1 = some (.ireturn, 1)) (hz : z = 0 ∨ z = 1) (h : post (some (.inl z)) w) : G X mm ad kc ks (w, pc, lv, [.inl z]) := by
  have hd := (hX.m.1 _ (gfet_mem hi)).1
  obtain ⟨p, l, e, R, s, m, args, below, meth, c, D, cA, A, H0, Q⟩ := X
  obtain ⟨hxc, hb, hml, hown, hts, hK, hlk, hA, hR, hM⟩ := hX
  obtain ⟨hr, rfl, rfl⟩ := hE
  intro H locs ls hP hD hS hl
  exact W.zret hxc hb hr (gI_bool hz).1 (fun t ht hW => ⟨⟨some (.inl z), w, rfl, h, by rw [ht]; exact hP, va_K.moved hW.alike hK, hD⟩, hS.F ht⟩) hS.2.2 hd hlk
theorem g_vret {X : gX} {mm : gM} {ad : Nat → Nat} {kc ks : Nat} {post : Option gV → gW → Prop} (hX : gOk X mm) (hE : gEnd X ad kc ks post none) {w : gW} {pc : Nat} {lv : List (Nat × gV)} (hi : gfet pc mm.2.2.2.1 = some (.return_, 1)) (h : post none w) : G X mm ad kc ks (w, pc, lv, []) := by
  have hd := (hX.m.1 _ (gfet_mem hi)).1
  obtain ⟨p, l, e, R, s, m, args, below, meth, c, D, cA, A, H0, Q⟩ := X
  obtain ⟨hxc, hb, hml, hown, hts, hK, hlk, hA, hR, hM⟩ := hX
  obtain ⟨hr, rfl, rfl⟩ := hE
  intro H locs ls hP hD hS hl
  exact W.vret hxc hb hr (fun t ht hW => ⟨⟨none, w, rfl, h, by rw [ht]; exact hP, va_K.moved hW.alike hK, hD⟩, hS.F ht⟩) hS.2.2 hd hlk
theorem G.widen {X : gX} {mm : gM} {ad : Nat → Nat} {kc ks kc' ks' : Nat} {S : gS} (h1 : kc ≤ kc') (h2 : ks ≤ ks') (k : G X mm ad kc' ks' S) : G X mm ad kc ks S := by
  obtain ⟨p, l, e, R, s, m, args, below, meth, c, D, cA, A, H0, Q⟩ := X
  intro H locs ls hP hD hS hl
  exact W.widen h1 h2 (k H locs ls hP hD hS hl)
def gargs : Nat → List gV → List (Nat × gV)
  | _, [] => []
  | i, v :: t => (i, v) :: gargs (i + 1) t
def gnlv : List gV → Bool
  | [] => true
  | .inr (.inl _) :: _ => false
  | _ :: t => gnlv t
theorem gargs_ok {ad : Nat → Nat} : ∀ (av : List gV) (i : Nat), gnlv av = true → lv_args i (av.map (gv ad)) = (gargs i av).map (fun q => (q.1, gv ad q.2)) ∧ (lg_sl (av.map (gv ad))).length = av.length
  | [], _, _ => ⟨rfl, rfl⟩
  | v :: t, i, h => by
    have hc : (gv ad v).category = 1 ∧ gnlv t = true := by
      rcases v with z | z | _ | z
      · exact ⟨rfl, h⟩
      · cases h
      · exact ⟨rfl, h⟩
      · exact ⟨rfl, h⟩
    obtain ⟨h1, h2⟩ := gargs_ok (ad := ad) t (i + 1) hc.2
    have h9 : ¬ (gv ad v).category = 2 := by rw [hc.1]; decide
    refine ⟨?_, ?_⟩
    · show (i, gv ad v) :: lv_args (if (gv ad v).category = 2 then i + 2 else i + 1) (t.map (gv ad)) = (i, gv ad v) :: _
      rw [if_neg h9, h1]
    · have h3 : lg_sl ((v :: t).map (gv ad)) = [Slot.val (gv ad v)] ++ lg_sl (t.map (gv ad)) := by
        simp [lg_sl, hc.1]
      rw [h3, List.length_append, h2]
      simp [Nat.add_comm]
theorem gC_of {l : Launch} {D : va_G} {cA : Nat → ClassId} {y : MethodName} {mm : gM} {ret : Option FieldType} {mc ms : Nat} {av : List gV} {w : gW} {post : Option gV → gW → Prop} (hy : Jvm.plainName y.cls = true) (hM : gOkM mm) (hc : y.cls = mm.2.2.1) (hav : gnlv av = true) (hn : av.length ≤ mm.2.1)
    (body : ∀ (X : gX) (ad : Nat → Nat), gOk X mm → gEnd X ad mc ms post ret → G X mm ad 0 0 (w, 0, gargs 0 av, [])) : gC l D cA y mm ret mc ms av w post := by
  intro ad sz
  refine Met.ofW (cc := mm.1) (maxL := mm.2.1) (ret := ret) hy rfl ?_
  intro p e s m args below meth c s₁ B hml hv
  obtain ⟨rfl, hsz, hP, hK, hD0⟩ := hv
  have hts := atoms_spec (ws := Cond.code y mm.1 mm.2.1 ret :: gtb) B.pre
  have hown : s.vm.findClass y.cls = some m.cls := findClass_of_methodNamed B.named
  have hlocks := B.notSynchronized
  subst hsz
  have hD := hD0.self (sz := s.heap.size)
  have hl := lv_entry (av.map (gv ad)) (n := mm.2.1) (by rw [(gargs_ok av 0 hav).2]; exact hn)
  rw [(gargs_ok av 0 hav).1] at hl
  rw [lg_entry_eq]
  have k := body (p, l, e, mm.2.2.2.2.2, s, m, (av.map (gv ad)).toArray, below, meth, c, D, cA, va_A (gw cA ad w) s.heap.size, s.heap, MQ below (gQ D cA ad (va_A (gw cA ad w) s.heap.size) post) (av.map (gv ad)).toArray s mc ms (va_A (gw cA ad w) s.heap.size)) ad
    ⟨B.exec, B.bytes, hml, by rw [← hc]; exact hown, fun x hx => hts x (List.mem_cons_of_mem _ hx), hK, hlocks, fun q h => Or.inr h, rfl, hM⟩ ⟨B.returns, rfl, rfl⟩
  exact k s.heap [] _ hP hD va_S.rf hl
/-! calls -/
theorem gsel_fm {α : Type} {is : List Nat} {f : Nat → Option α} {l : List α} (h : is.map f = l.map some) : is.filterMap f = l := by
  induction is generalizing l with
  | nil =>
    cases l with
    | nil => rfl
    | cons a t => cases h
  | cons i t ih =>
    cases l with
    | nil => cases h
    | cons a l =>
      simp only [List.map_cons, List.cons.injEq] at h
      rw [List.filterMap_cons, h.1, ih h.2]
theorem gsel_gw {cA : Nat → ClassId} {ad : Nat → Nat} {w wc : gW} {is : List Nat} (h : is.map (fun i => w[i]?) = wc.map some) : is.map (fun i => (gw cA ad w)[i]?) = (gw cA ad wc).map some := by
  induction is generalizing wc with
  | nil =>
    cases wc with
    | nil => rfl
    | cons a t => cases h
  | cons i t ih =>
    cases wc with
    | nil => cases h
    | cons a l =>
      simp only [List.map_cons, List.cons.injEq] at h
      obtain ⟨k, e⟩ := a
      have h1 := gw_at (cA := cA) (ad := ad) h.1
      show (gw cA ad w)[i]? :: t.map (fun i => (gw cA ad w)[i]?) = some (ad k, ge cA ad e) :: (gw cA ad l).map some
      rw [h1, ih h.2]
theorem gw_app {cA : Nat → ClassId} {ad : Nat → Nat} (a b : gW) : gw cA ad (a ++ b) = gw cA ad a ++ gw cA ad b := by
  unfold gw
  rw [List.map_append]
/-- the cells in another order, or fewer of them -/
theorem G.perm {X : gX} {mm : gM} {ad : Nat → Nat} {kc ks : Nat} {w : gW} (w' : gW) (is : List Nat) {r : Nat × List (Nat × gV) × List gV} (hs : is.map (fun i => w[i]?) = w'.map some) (hn : va_nd is = true) (k : G X mm ad kc ks (w', r)) : G X mm ad kc ks (w, r) := by
  obtain ⟨p, l, e, R, s, m, args, below, meth, c, D, cA, A, H0, Q⟩ := X
  intro H locs ls hP hD hS hl
  exact k H locs ls (hP.sub is (gsel_fm (gsel_gw hs))) (hD.sub is hn (gsel_gw hs)) hS hl
/-- fewer locals -/
theorem G.locs {X : gX} {mm : gM} {ad : Nat → Nat} {kc ks : Nat} {w : gW} {pc : Nat} {lv : List (Nat × gV)} {st : List gV} (lv' : List (Nat × gV)) (is : List Nat) (hs : is.map (fun i => lv[i]?) = lv'.map some) (k : G X mm ad kc ks (w, pc, lv', st)) : G X mm ad kc ks (w, pc, lv, st) := by
  obtain ⟨p, l, e, R, s, m, args, below, meth, c, D, cA, A, H0, Q⟩ := X
  intro H locs ls hP hD hS hl
  refine k H locs ls hP hD hS ⟨hl.1, hl.2.1, fun q hq => ?_⟩
  obtain ⟨x, hx, rfl⟩ := List.mem_map.mp hq
  refine hl.2.2 _ (List.mem_map.mpr ⟨x, ?_, rfl⟩)
  rw [← gsel_fm hs] at hx
  obtain ⟨i, -, hi⟩ := List.mem_filterMap.mp hx
  exact List.mem_of_getElem? hi
section GAFTER
variable {p : Program} {l : Launch} {e : Env} {R : Room} {s : State} {m : MethodId} {args : Array Value} {below : List Frame} {meth : Method} {c : Code} {H : Heap} {locs : List Loc} {cells slots : Nat} {Q : State → Prop}
variable {pc : Nat} {ls : Array Slot} {rest st0 : List Value} {a : Array Value} {A0 A1 : Nat → Prop} {H0 : Heap} {mc ms : Nat} {free : Addr → Prop} {D : va_G} {cA : Nat → ClassId} {ad : Nat → Nat}
theorem g_after {post : Option gV → gW → Prop} (hr : va_Run p l e R s m args below meth c H locs cells slots mc ms (F0 m pc ls st0) rest (gQ D cA ad A1 post a) free) (hS : va_S A0 H0 H locs) (hA : ∀ q, q < H.size → A1 q → A0 q) (hf : ∀ q, free q → A0 q)
    (kk : ∀ (r : Option gV) (w : gW) (H1 : Heap) (locs1 : List Loc), post r w → va_P D vwCl (gw cA ad w) H1 → va_D A1 (gw cA ad w) → H.size ≤ H1.size → (∀ q : Nat, q < H.size → ¬ A1 q → H1[q]? = H[q]?) → va_S A0 H0 H1 locs1 → W p l e R s m args below meth c H1 locs1 (cells + mc) (slots + ms) Q (F0 m (pc + 3) ls ((r.map (gv ad)).toList ++ rest))) : W p l e R s m args below meth c H locs cells slots Q (F0 m pc ls st0) := by
  intro T hT X
  obtain ⟨v, st₀, t, T', L, h0, X', hL, e1, e2, ⟨⟨r, w, hv, hp, hP1, hK1, hD1⟩, hz, hk⟩, st⟩ := hr T hT X
  cases hv
  rw [h0] at hz hk
  obtain ⟨t2, a1, b1⟩ := kk r w T'.heap (locs ++ L) hp (by rw [e1]; exact hP1) hD1 (by rw [e1]; exact hz) (fun q h1 h2 => by rw [e1]; exact hk q h1 h2)
    ⟨Nat.le_trans hS.1 (by rw [e1]; exact hz), fun q h1 h2 => by rw [e1, hk q (Nat.lt_of_lt_of_le h1 hS.1) (fun z => h2 (hA q (Nat.lt_of_lt_of_le h1 hS.1) z))]; exact hS.2.1 q h1 h2, fun q hq => by
      rcases List.mem_append.mp hq with h | h
      · exact hS.2.2 q h
      · exact hf _ (hL q h)⟩ T' rfl X'
  exact ⟨t2, st t2 a1, b1⟩
end GAFTER
theorem lw_good : gtb.all goodWord = true := List.all_eq_true.mpr fun _ h => (List.mem_filter.mp h).2
theorem gGood {own C : String} {idx : Nat} {y : MethodName} {bytes : ByteArray} {maxL : Nat} {ret : Option FieldType} (h1 : Cond.methodLink own idx y ∈ gtb) (h2 : Cond.instanceMethod y ∈ gtb) (h3 : Cond.selects C y y ∈ gtb) (h4 : Cond.initialized C ∈ gtb) (h5 : Cond.code y bytes maxL ret ∈ gtb) : GoodIn gtb (wsV own idx C y (Cond.code y bytes maxL ret :: gtb)) := by
  refine goodIn_sub (fun w hw => ?_) ?_
  · rcases List.mem_append.mp hw with hw | hw
    · simp only [List.mem_cons, List.not_mem_nil, or_false] at hw
      rcases hw with rfl | rfl | rfl | rfl <;> assumption
    · rcases List.mem_cons.mp hw with rfl | hw
      · exact h5
      · exact hw
  · rw [List.all_eq_true]
    intro w hw
    refine List.all_eq_true.mp lw_good w ?_
    rcases List.mem_append.mp hw with hw | hw
    · simp only [List.mem_cons, List.not_mem_nil, or_false] at hw
      rcases hw with rfl | rfl | rfl | rfl <;> assumption
    · rcases List.mem_cons.mp hw with rfl | hw
      · exact h5
      · exact hw
theorem gGoodS {own : String} {idx : Nat} {y : MethodName} {bytes : ByteArray} {maxL : Nat} {ret : Option FieldType} (h1 : Cond.methodLink own idx y ∈ gtb) (h2 : Cond.static y ∈ gtb) (h4 : Cond.initialized y.cls ∈ gtb) (h5 : Cond.code y bytes maxL ret ∈ gtb) : GoodIn gtb (va_wsS own idx y (Cond.code y bytes maxL ret :: gtb)) := by
  have hm : ∀ w ∈ va_wsS own idx y (Cond.code y bytes maxL ret :: gtb), w ∈ gtb := fun w hw => by
    rcases List.mem_append.mp hw with hw | hw
    · simp only [List.mem_cons, List.not_mem_nil, or_false] at hw
      rcases hw with rfl | rfl | rfl <;> assumption
    · rcases List.mem_cons.mp hw with rfl | hw
      · exact h5
      · exact hw
  exact goodIn_sub hm (List.all_eq_true.mpr fun w hw => List.all_eq_true.mp lw_good w (hm w hw))
/-- what the tables say of a method that is called on an object -/
def gCalV (y : MethodName) (mm : gM) (ret : Option FieldType) (n : Nat) : Prop := Cond.code y mm.1 mm.2.1 ret ∈ gtb ∧ Cond.instanceMethod y ∈ gtb ∧ Cond.selects y.cls y y ∈ gtb ∧ Cond.initialized y.cls ∈ gtb ∧ y.cls ≠ "java/lang/invoke/MethodHandle" ∧ y.cls ≠ "java/lang/invoke/VarHandle" ∧ (parseMethodDescriptor y.desc).map (fun d => d.parameters.length) = some n
def gCalS (y : MethodName) (mm : gM) (ret : Option FieldType) (n : Nat) : Prop := Cond.code y mm.1 mm.2.1 ret ∈ gtb ∧ Cond.static y ∈ gtb ∧ Cond.initialized y.cls ∈ gtb ∧ y.cls ≠ "java/lang/invoke/MethodHandle" ∧ y.cls ≠ "java/lang/invoke/VarHandle" ∧ (parseMethodDescriptor y.desc).map (fun d => d.parameters.length) = some n
def gstk : List gV → Nat
  | [] => 0
  | .inr (.inl _) :: t => gstk t + 2
  | _ :: t => gstk t + 1
theorem gstk_ok {ad : Nat → Nat} : ∀ st : List gV, ((st.map (gv ad)).map fun v => v.category).sum = gstk st
  | [] => rfl
  | v :: t => by
    have ih := gstk_ok (ad := ad) t
    rw [List.map_cons, List.map_cons, List.sum_cons, ih]
    rcases v with z | z | _ | z <;> simp only [gstk, gv, Value.category] <;> omega
/-- a call on an object: its cells (places isC) go in, what it leaves comes back behind the others (places isR) -/
theorem G.callV {X : gX} {mm : gM} {ad : Nat → Nat} {kc ks : Nat} (hX : gOk X mm) {w : gW} {pc : Nat} {lv : List (Nat × gV)} {st : List gV} {idx : Nat} (hi : gfet pc mm.2.2.2.1 = some (.invokevirtual idx, 3)) {y : MethodName} {cm : gM} {ret : Option FieldType} {n mc ms : Nat} {o : Nat} {av : List gV} {wc : gW} {post : Option gV → gW → Prop}
    (hC : ∀ l D cA, gC l D cA y cm ret mc ms (gr o :: av) wc post) (hl1 : Cond.methodLink mm.2.2.1 idx y ∈ gtb) (hcal : gCalV y cm ret n) (hn : av.length = n) {ci : Nat} {fs : List gV} (ho : gwl o w = some (.inl (ci, fs))) (hci : (vwCl[ci]?).map (fun q => q.1) = some y.cls)
    (hrc : cm.2.2.2.2.2.cells = mc ∧ cm.2.2.2.2.2.slots = ms) (hroom : (cm.2.2.2.2.2.frames + 1 ≤ mm.2.2.2.2.2.frames ∧ 8 + (cm.2.1 + 11) + cm.2.2.2.2.2.locals ≤ mm.2.2.2.2.2.locals) ∧ kc + mc ≤ mm.2.2.2.2.2.cells ∧ ks + ms ≤ mm.2.2.2.2.2.slots) (hst : gstk st ≤ 8)
    (isC isR : List Nat) (wr : gW) (hwc : isC.map (fun i => w[i]?) = wc.map some) (hwr : isR.map (fun i => w[i]?) = wr.map some) (hnd : (va_nd isC && va_nd isR && isR.all (fun i => !isC.contains i)) = true)
    (k : ∀ (r : Option gV) (w' : gW), post r w' → G X mm ad (kc + mc) (ks + ms) (wr ++ w', pc + 3, lv, r.toList ++ st)) : G X mm ad kc ks (w, pc, lv, av.reverse ++ gr o :: st) := by
  have hd := (hX.m.1 _ (gfet_mem hi)).1
  obtain ⟨p, l, e, R, s, m, args, below, meth, c, D, cA, A, H0, Q⟩ := X
  obtain ⟨hxc, hb, hml, hown, hts, hK, hlk, hA, hR, hM⟩ := hX
  simp only [Bool.and_eq_true] at hnd
  obtain ⟨⟨hn1, hn2⟩, hn3⟩ := hnd
  have hdis : ∀ i ∈ isR, i ∉ isC := fun i hi h => by
    have := List.all_eq_true.mp hn3 i hi
    simp [h] at this
  intro H locs ls hP hD hS hl
  have hPc := hP.sub isC (gsel_fm (gsel_gw (cA := cA) (ad := ad) hwc))
  have hDc := hD.sub isC hn1 (gsel_gw hwc)
  have hFc := va_free hD hS hA isC (gsel_gw hwc)
  obtain ⟨q0, hq, -⟩ := gwl_ix ho
  cases hcl : vwCl[ci]? with
  | none => rw [hcl] at hci; cases hci
  | some q9 =>
    rw [hcl] at hci
    have hci2 : q9.1 = y.cls := Option.some.inj hci
    obtain ⟨c1, c2, c3, c4, c5, c6, c7⟩ := hcal
    have hrecv := va_recv hK hP hcl (gw_at (cA := cA) (ad := ad) hq)
    rw [hci2] at hrecv
    refine g_after (D := D) (cA := cA) (ad := ad) (va_runV (As := av.map (gv ad)) (rest := st.map (gv ad)) (b := ad o) ⟨hxc, hb, hml, hown, hts⟩ (hC l D cA ad H.size) (cwV (C := y.cls) n hts (gGood hl1 c2 c3 c4 c1) rfl hrc.1 hrc.2 ⟨rfl, c5, c6, c7⟩ (by rw [hR]; exact hroom.1))
      ⟨fun a U g mk q => ⟨q.1, q.2.1, q.2.2.1, va_K.moved (u := U) (U := U.calling g mk a) (Vm.Alike.refl U.vm) q.2.2.2.1, q.2.2.2.2⟩, hrecv, fun U hU hW => ⟨rfl, by rw [hU], by rw [hU]; exact hPc, va_K.moved hW.alike hK, hDc.weaken (fun _ _ _ _ => trivial)⟩⟩ rfl (by rw [List.length_map]; exact hn) hl.1 ?_ (by show 2 * 0 + _ ≤ 8; rw [gstk_ok]; omega) hd ⟨by rw [hR]; exact hroom.2.1, by rw [hR]; exact hroom.2.2⟩) hS (fun q _ h => hFc q h) hFc (fun r w' H1 locs1 hp hP1 hD1 hz hk hS1 => ?_)
    · show ((av.reverse ++ gr o :: st).map (gv ad)) = _
      rw [List.map_append, List.map_reverse]
      rfl
    · obtain ⟨hP2, hD2⟩ := va_join hP hD isC isR (gsel_gw hwc) (gsel_gw (cA := cA) (ad := ad) hwr) hn2 hdis hk hFc hP1 hD1
      have k9 := k r w' hp H1 locs1 ls (by rw [gw_app]; exact hP2) (by rw [gw_app]; exact hD2) hS1 hl
      rw [List.map_append] at k9
      cases r <;> exact k9
theorem G.callS {X : gX} {mm : gM} {ad : Nat → Nat} {kc ks : Nat} (hX : gOk X mm) {w : gW} {pc : Nat} {lv : List (Nat × gV)} {st : List gV} {idx : Nat} (hi : gfet pc mm.2.2.2.1 = some (.invokestatic idx, 3)) {y : MethodName} {cm : gM} {ret : Option FieldType} {n mc ms : Nat} {av : List gV} {wc : gW} {post : Option gV → gW → Prop}
    (hC : ∀ l D cA, gC l D cA y cm ret mc ms av wc post) (hl1 : Cond.methodLink mm.2.2.1 idx y ∈ gtb) (hcal : gCalS y cm ret n) (hn : av.length = n)
    (hrc : cm.2.2.2.2.2.cells = mc ∧ cm.2.2.2.2.2.slots = ms) (hroom : (cm.2.2.2.2.2.frames + 1 ≤ mm.2.2.2.2.2.frames ∧ 8 + (cm.2.1 + 11) + cm.2.2.2.2.2.locals ≤ mm.2.2.2.2.2.locals) ∧ kc + mc ≤ mm.2.2.2.2.2.cells ∧ ks + ms ≤ mm.2.2.2.2.2.slots) (hst : gstk st ≤ 8)
    (isC isR : List Nat) (wr : gW) (hwc : isC.map (fun i => w[i]?) = wc.map some) (hwr : isR.map (fun i => w[i]?) = wr.map some) (hnd : (va_nd isC && va_nd isR && isR.all (fun i => !isC.contains i)) = true)
    (k : ∀ (r : Option gV) (w' : gW), post r w' → G X mm ad (kc + mc) (ks + ms) (wr ++ w', pc + 3, lv, r.toList ++ st)) : G X mm ad kc ks (w, pc, lv, av.reverse ++ st) := by
  have hd := (hX.m.1 _ (gfet_mem hi)).1
  obtain ⟨p, l, e, R, s, m, args, below, meth, c, D, cA, A, H0, Q⟩ := X
  obtain ⟨hxc, hb, hml, hown, hts, hK, hlk, hA, hR, hM⟩ := hX
  simp only [Bool.and_eq_true] at hnd
  obtain ⟨⟨hn1, hn2⟩, hn3⟩ := hnd
  have hdis : ∀ i ∈ isR, i ∉ isC := fun i hi h => by
    have := List.all_eq_true.mp hn3 i hi
    simp [h] at this
  intro H locs ls hP hD hS hl
  have hPc := hP.sub isC (gsel_fm (gsel_gw (cA := cA) (ad := ad) hwc))
  have hDc := hD.sub isC hn1 (gsel_gw hwc)
  have hFc := va_free hD hS hA isC (gsel_gw hwc)
  obtain ⟨c1, c2, c4, c5, c6, c7⟩ := hcal
  refine g_after (D := D) (cA := cA) (ad := ad) (va_runS (As := av.map (gv ad)) (rest := st.map (gv ad)) ⟨hxc, hb, hml, hown, hts⟩ (hC l D cA ad H.size) (va_cwS n hts (gGoodS hl1 c2 c4 c1) rfl hrc.1 hrc.2 ⟨c5, c6, c7⟩ (by rw [hR]; exact hroom.1))
      ⟨fun a U g mk q => ⟨q.1, q.2.1, q.2.2.1, va_K.moved (u := U) (U := U.calling g mk a) (Vm.Alike.refl U.vm) q.2.2.2.1, q.2.2.2.2⟩, fun U hU hW => ⟨rfl, by rw [hU], by rw [hU]; exact hPc, va_K.moved hW.alike hK, hDc.weaken (fun _ _ _ _ => trivial)⟩⟩ rfl (by rw [List.length_map]; exact hn) hl.1 ?_ (by show 2 * 0 + _ ≤ 8; rw [gstk_ok]; omega) hd ⟨by rw [hR]; exact hroom.2.1, by rw [hR]; exact hroom.2.2⟩) hS (fun q _ h => hFc q h) hFc (fun r w' H1 locs1 hp hP1 hD1 hz hk hS1 => ?_)
  · show ((av.reverse ++ st).map (gv ad)) = _
    rw [List.map_append, List.map_reverse]
  · obtain ⟨hP2, hD2⟩ := va_join hP hD isC isR (gsel_gw hwc) (gsel_gw (cA := cA) (ad := ad) hwr) hn2 hdis hk hFc hP1 hD1
    have k9 := k r w' hp H1 locs1 ls (by rw [gw_app]; exact hP2) (by rw [gw_app]; exact hD2) hS1 hl
    rw [List.map_append] at k9
    cases r <;> exact k9
end
section
def ftX0 : List gFt := [(9, 1, 0, 2), (15, 1, 1, 2), (20, 1, 2, 2)]
theorem foX0 : ∀ f ∈ ftX0, gfok RX0 f = true := by decide +kernel
def iX0_isOlder : List gI := [(0, .aload_n 0, 1), (1, .getfield 9, 3), (4, .iload_n 1, 1), (5, .iaload, 1), (6, .ifCond .le 17, 3), (9, .iload_n 2, 1), (10, .aload_n 0, 1), (11, .getfield 15, 3), (14, .iload_n 1, 1), (15, .iaload, 1), (16, .if_icmp .ge 7, 3), (19, .iconst 1, 1), (20, .goto 4, 3), (23, .iconst 0, 1), (24, .ireturn, 1)]
def mX0_isOlder : gM := (cX0_isOlder, 3, RX0, iX0_isOlder, ftX0, { frames := 0, cells := 0, slots := 0, locals := 0 })
theorem diX0_isOlder : ∀ q ∈ iX0_isOlder, decode cX0_isOlder q.1 = .ok (q.2.1, q.2.2) ∧ gwell 3 q.1 q.2.1 q.2.2 = true := by decide +kernel
theorem kX0_isOlder : gOkM mX0_isOlder := ⟨diX0_isOlder, foX0⟩
theorem aX0_isOlder : gCalV yX0_isOlder mX0_isOlder (some .boolean) 2 := by unfold gCalV; decide +kernel
def iX0_has : List gI := [(0, .aload_n 0, 1), (1, .iload_n 1, 1), (2, .iload_n 2, 1), (3, .invokevirtual 23, 3), (6, .ifCond .ne 5, 3), (9, .iconst 0, 1), (10, .ireturn, 1), (11, .iconst 0, 1), (12, .istore 4, 2), (14, .iload 4, 2), (16, .aload_n 0, 1), (17, .getfield 9, 3), (20, .iload_n 1, 1), (21, .iaload, 1), (22, .if_icmp .ge 31, 3), (25, .iload 4, 2), (27, .bipush 6, 2), (29, .if_icmp .ge 24, 3), (32, .aload_n 0, 1), (33, .getfield 20, 3), (36, .iload_n 1, 1), (37, .aaload, 1), (38, .iload 4, 2), (40, .iaload, 1), (41, .iload_n 3, 1), (42, .if_icmp .ne 5, 3), (45, .iconst 1, 1), (46, .ireturn, 1), (47, .iinc 4 1, 3), (50, .goto (-36), 3), (53, .iconst 0, 1), (54, .ireturn, 1)]
def mX0_has : gM := (cX0_has, 5, RX0, iX0_has, ftX0, { frames := 1, cells := 0, slots := 0, locals := 22 })
theorem diX0_has : ∀ q ∈ iX0_has, decode cX0_has q.1 = .ok (q.2.1, q.2.2) ∧ gwell 5 q.1 q.2.1 q.2.2 = true := by decide +kernel
theorem kX0_has : gOkM mX0_has := ⟨diX0_has, foX0⟩
theorem aX0_has : gCalV yX0_has mX0_has (some .boolean) 3 := by unfold gCalV; decide +kernel
def iX0_isFull : List gI := [(0, .aload_n 0, 1), (1, .iload_n 1, 1), (2, .iload_n 2, 1), (3, .invokevirtual 23, 3), (6, .ifCond .eq 18, 3), (9, .aload_n 0, 1), (10, .getfield 9, 3), (13, .iload_n 1, 1), (14, .iaload, 1), (15, .bipush 6, 2), (17, .if_icmp .lt 7, 3), (20, .iconst 1, 1), (21, .goto 4, 3), (24, .iconst 0, 1), (25, .ireturn, 1)]
def mX0_isFull : gM := (cX0_isFull, 3, RX0, iX0_isFull, ftX0, { frames := 1, cells := 0, slots := 0, locals := 22 })
theorem diX0_isFull : ∀ q ∈ iX0_isFull, decode cX0_isFull q.1 = .ok (q.2.1, q.2.2) ∧ gwell 3 q.1 q.2.1 q.2.2 = true := by decide +kernel
theorem kX0_isFull : gOkM mX0_isFull := ⟨diX0_isFull, foX0⟩
theorem aX0_isFull : gCalV yX0_isFull mX0_isFull (some .boolean) 2 := by unfold gCalV; decide +kernel
def iX0_add : List gI := [(0, .aload_n 0, 1), (1, .iload_n 1, 1), (2, .iload_n 2, 1), (3, .invokevirtual 23, 3), (6, .ifCond .ne 17, 3), (9, .aload_n 0, 1), (10, .getfield 15, 3), (13, .iload_n 1, 1), (14, .iload_n 2, 1), (15, .iastore, 1), (16, .aload_n 0, 1), (17, .getfield 9, 3), (20, .iload_n 1, 1), (21, .iconst 0, 1), (22, .iastore, 1), (23, .aload_n 0, 1), (24, .getfield 20, 3), (27, .iload_n 1, 1), (28, .aaload, 1), (29, .aload_n 0, 1), (30, .getfield 9, 3), (33, .iload_n 1, 1), (34, .iaload, 1), (35, .iload_n 3, 1), (36, .iastore, 1), (37, .aload_n 0, 1), (38, .getfield 9, 3), (41, .iload_n 1, 1), (42, .dup2, 1), (43, .iaload, 1), (44, .iconst 1, 1), (45, .iadd, 1), (46, .iastore, 1), (47, .return_, 1)]
def mX0_add : gM := (cX0_add, 4, RX0, iX0_add, ftX0, { frames := 1, cells := 0, slots := 0, locals := 22 })
theorem diX0_add : ∀ q ∈ iX0_add, decode cX0_add q.1 = .ok (q.2.1, q.2.2) ∧ gwell 4 q.1 q.2.1 q.2.2 = true := by decide +kernel
theorem kX0_add : gOkM mX0_add := ⟨diX0_add, foX0⟩
theorem aX0_add : gCalV yX0_add mX0_add none 3 := by unfold gCalV; decide +kernel
def iX0_isLatest : List gI := [(0, .aload_n 0, 1), (1, .getfield 9, 3), (4, .iload_n 1, 1), (5, .iaload, 1), (6, .ifCond .le 17, 3), (9, .aload_n 0, 1), (10, .getfield 15, 3), (13, .iload_n 1, 1), (14, .iaload, 1), (15, .iload_n 2, 1), (16, .if_icmp .ne 7, 3), (19, .iconst 1, 1), (20, .goto 4, 3), (23, .iconst 0, 1), (24, .ireturn, 1)]
def mX0_isLatest : gM := (cX0_isLatest, 3, RX0, iX0_isLatest, ftX0, { frames := 0, cells := 0, slots := 0, locals := 0 })
theorem diX0_isLatest : ∀ q ∈ iX0_isLatest, decode cX0_isLatest q.1 = .ok (q.2.1, q.2.2) ∧ gwell 3 q.1 q.2.1 q.2.2 = true := by decide +kernel
theorem kX0_isLatest : gOkM mX0_isLatest := ⟨diX0_isLatest, foX0⟩
theorem aX0_isLatest : gCalV yX0_isLatest mX0_isLatest (some .boolean) 2 := by unfold gCalV; decide +kernel
def ftX1 : List gFt := [(7, 2, 1, 2), (13, 2, 2, 2), (16, 2, 3, 2), (19, 2, 4, 2), (23, 2, 5, 2), (26, 2, 6, 2), (29, 2, 7, 2), (32, 2, 0, 0), (57, 2, 8, 0)]
theorem foX1 : ∀ f ∈ ftX1, gfok RX1 f = true := by decide +kernel
def iX1_tell : List gI := [(0, .aload_n 0, 1), (1, .getfield 19, 3), (4, .iload_n 1, 1), (5, .iconst 5, 1), (6, .imul, 1), (7, .iload_n 2, 1), (8, .iadd, 1), (9, .iaload, 1), (10, .ireturn, 1)]
def mX1_tell : gM := (cX1_tell, 3, RX1, iX1_tell, ftX1, { frames := 0, cells := 0, slots := 0, locals := 0 })
theorem diX1_tell : ∀ q ∈ iX1_tell, decode cX1_tell q.1 = .ok (q.2.1, q.2.2) ∧ gwell 3 q.1 q.2.1 q.2.2 = true := by decide +kernel
theorem kX1_tell : gOkM mX1_tell := ⟨diX1_tell, foX1⟩
theorem aX1_tell : gCalV yX1_tell mX1_tell (some .int) 2 := by unfold gCalV; decide +kernel
def iX1_mostPlaces : List gI := [(0, .iconst 0, 1), (1, .istore_n 1, 1), (2, .iconst 0, 1), (3, .istore_n 2, 1), (4, .iload_n 2, 1), (5, .aload_n 0, 1), (6, .getfield 32, 3), (9, .if_icmp .ge 51, 3), (12, .aload_n 0, 1), (13, .iload_n 2, 1), (14, .iconst 2, 1), (15, .invokevirtual 35, 3), (18, .aload_n 0, 1), (19, .iload_n 2, 1), (20, .iconst 0, 1), (21, .invokevirtual 35, 3), (24, .isub, 1), (25, .iconst 1, 1), (26, .iadd, 1), (27, .istore_n 3, 1), (28, .aload_n 0, 1), (29, .iload_n 2, 1), (30, .iconst 3, 1), (31, .invokevirtual 35, 3), (34, .aload_n 0, 1), (35, .iload_n 2, 1), (36, .iconst 1, 1), (37, .invokevirtual 35, 3), (40, .isub, 1), (41, .iconst 1, 1), (42, .iadd, 1), (43, .istore 4, 2), (45, .iload_n 1, 1), (46, .iload_n 3, 1), (47, .iload 4, 2), (49, .imul, 1), (50, .invokestatic 39, 3), (53, .istore_n 1, 1), (54, .iinc 2 1, 3), (57, .goto (-53), 3), (60, .iload_n 1, 1), (61, .ireturn, 1)]
def mX1_mostPlaces : gM := (cX1_mostPlaces, 5, RX1, iX1_mostPlaces, ftX1, { frames := 1, cells := 0, slots := 0, locals := 22 })
theorem diX1_mostPlaces : ∀ q ∈ iX1_mostPlaces, decode cX1_mostPlaces q.1 = .ok (q.2.1, q.2.2) ∧ gwell 5 q.1 q.2.1 q.2.2 = true := by decide +kernel
theorem kX1_mostPlaces : gOkM mX1_mostPlaces := ⟨diX1_mostPlaces, foX1⟩
theorem aX1_mostPlaces : gCalV yX1_mostPlaces mX1_mostPlaces (some .int) 0 := by unfold gCalV; decide +kernel
def iX1_gather : List gI := [(0, .aload_n 0, 1), (1, .iconst 0, 1), (2, .putfield 32, 3), (5, .iconst 0, 1), (6, .istore_n 3, 1), (7, .iload_n 3, 1), (8, .aload_n 0, 1), (9, .getfield 13, 3), (12, .if_icmp .ge 58, 3), (15, .iconst 0, 1), (16, .istore 4, 2), (18, .iload 4, 2), (20, .aload_n 0, 1), (21, .getfield 7, 3), (24, .if_icmp .ge 40, 3), (27, .aload_n 1, 1), (28, .iload_n 3, 1), (29, .aload_n 0, 1), (30, .getfield 7, 3), (33, .imul, 1), (34, .iload 4, 2), (36, .iadd, 1), (37, .baload, 1), (38, .ifCond .eq 20, 3), (41, .aload_n 0, 1), (42, .iload 4, 2), (44, .iload_n 3, 1), (45, .aload_n 1, 1), (46, .iload_n 2, 1), (47, .invokevirtual 44, 3), (50, .aload_n 0, 1), (51, .invokevirtual 48, 3), (54, .aload_n 0, 1), (55, .invokevirtual 51, 3), (58, .iinc 4 1, 3), (61, .goto (-43), 3), (64, .iinc 3 1, 3), (67, .goto (-60), 3), (70, .aload_n 0, 1), (71, .invokevirtual 54, 3), (74, .return_, 1)]
def mX1_gather : gM := (cX1_gather, 5, RX1, iX1_gather, ftX1, { frames := 4, cells := 0, slots := 0, locals := 87 })
theorem diX1_gather : ∀ q ∈ iX1_gather, decode cX1_gather q.1 = .ok (q.2.1, q.2.2) ∧ gwell 5 q.1 q.2.1 q.2.2 = true := by decide +kernel
theorem kX1_gather : gOkM mX1_gather := ⟨diX1_gather, foX1⟩
theorem aX1_gather : gCalV yX1_gather mX1_gather none 2 := by unfold gCalV; decide +kernel
def iX1_growFrom : List gI := [(0, .aload_n 0, 1), (1, .getfield 23, 3), (4, .iconst 0, 1), (5, .iload_n 1, 1), (6, .iastore, 1), (7, .aload_n 0, 1), (8, .getfield 23, 3), (11, .iconst 1, 1), (12, .iload_n 2, 1), (13, .iastore, 1), (14, .aload_n 0, 1), (15, .getfield 23, 3), (18, .iconst 2, 1), (19, .iload_n 1, 1), (20, .iastore, 1), (21, .aload_n 0, 1), (22, .getfield 23, 3), (25, .iconst 3, 1), (26, .iload_n 2, 1), (27, .iastore, 1), (28, .aload_n 0, 1), (29, .iconst 0, 1), (30, .putfield 57, 3), (33, .aload_n 0, 1), (34, .iload_n 1, 1), (35, .iload_n 2, 1), (36, .aload_n 3, 1), (37, .invokevirtual 60, 3), (40, .iconst 0, 1), (41, .istore 5, 2), (43, .iload 5, 2), (45, .aload_n 0, 1), (46, .getfield 26, 3), (49, .arraylength, 1), (50, .if_icmp .ge 71, 3), (53, .iload 5, 2), (55, .aload_n 0, 1), (56, .getfield 57, 3), (59, .if_icmp .ge 62, 3), (62, .aload_n 0, 1), (63, .aload_n 0, 1), (64, .getfield 26, 3), (67, .iload 5, 2), (69, .iaload, 1), (70, .aload_n 0, 1), (71, .getfield 29, 3), (74, .iload 5, 2), (76, .iaload, 1), (77, .aload_n 0, 1), (78, .getfield 26, 3), (81, .iload 5, 2), (83, .iaload, 1), (84, .aload_n 0, 1), (85, .getfield 29, 3), (88, .iload 5, 2), (90, .iaload, 1), (91, .invokevirtual 64, 3), (94, .aload_n 0, 1), (95, .aload_n 0, 1), (96, .getfield 26, 3), (99, .iload 5, 2), (101, .iaload, 1), (102, .aload_n 0, 1), (103, .getfield 29, 3), (106, .iload 5, 2), (108, .iaload, 1), (109, .aload_n 3, 1), (110, .iload 4, 2), (112, .invokevirtual 68, 3), (115, .iinc 5 1, 3), (118, .goto (-75), 3), (121, .aload_n 0, 1), (122, .getfield 23, 3), (125, .iconst 4, 1), (126, .aload_n 0, 1), (127, .getfield 57, 3), (130, .iastore, 1), (131, .return_, 1)]
def mX1_growFrom : gM := (cX1_growFrom, 6, RX1, iX1_growFrom, ftX1, { frames := 2, cells := 0, slots := 0, locals := 51 })
theorem diX1_growFrom : ∀ q ∈ iX1_growFrom, decode cX1_growFrom q.1 = .ok (q.2.1, q.2.2) ∧ gwell 6 q.1 q.2.1 q.2.2 = true := by decide +kernel
theorem kX1_growFrom : gOkM mX1_growFrom := ⟨diX1_growFrom, foX1⟩
theorem aX1_growFrom : gCalV yX1_growFrom mX1_growFrom none 4 := by unfold gCalV; decide +kernel
def iX1_takeAround : List gI := [(0, .aload_n 0, 1), (1, .getfield 7, 3), (4, .iconst 1, 1), (5, .isub, 1), (6, .iload_n 1, 1), (7, .iload 4, 2), (9, .iadd, 1), (10, .invokestatic 71, 3), (13, .istore 5, 2), (15, .aload_n 0, 1), (16, .getfield 13, 3), (19, .iconst 1, 1), (20, .isub, 1), (21, .iload_n 2, 1), (22, .iload 4, 2), (24, .iadd, 1), (25, .invokestatic 71, 3), (28, .istore 6, 2), (30, .iconst 0, 1), (31, .iload_n 2, 1), (32, .iload 4, 2), (34, .isub, 1), (35, .invokestatic 39, 3), (38, .istore 7, 2), (40, .iload 7, 2), (42, .iload 6, 2), (44, .if_icmp .gt 56, 3), (47, .iconst 0, 1), (48, .iload_n 1, 1), (49, .iload 4, 2), (51, .isub, 1), (52, .invokestatic 39, 3), (55, .istore 8, 2), (57, .iload 8, 2), (59, .iload 5, 2), (61, .if_icmp .gt 33, 3), (64, .aload_n 3, 1), (65, .iload 7, 2), (67, .aload_n 0, 1), (68, .getfield 7, 3), (71, .imul, 1), (72, .iload 8, 2), (74, .iadd, 1), (75, .baload, 1), (76, .ifCond .eq 12, 3), (79, .aload_n 0, 1), (80, .iload 8, 2), (82, .iload 7, 2), (84, .aload_n 3, 1), (85, .invokevirtual 60, 3), (88, .iinc 8 1, 3), (91, .goto (-34), 3), (94, .iinc 7 1, 3), (97, .goto (-57), 3), (100, .return_, 1)]
def mX1_takeAround : gM := (cX1_takeAround, 9, RX1, iX1_takeAround, ftX1, { frames := 1, cells := 0, slots := 0, locals := 23 })
theorem diX1_takeAround : ∀ q ∈ iX1_takeAround, decode cX1_takeAround q.1 = .ok (q.2.1, q.2.2) ∧ gwell 9 q.1 q.2.1 q.2.2 = true := by decide +kernel
theorem kX1_takeAround : gOkM mX1_takeAround := ⟨diX1_takeAround, foX1⟩
theorem aX1_takeAround : gCalV yX1_takeAround mX1_takeAround none 4 := by unfold gCalV; decide +kernel
def iX1_take : List gI := [(0, .aload_n 3, 1), (1, .iload_n 2, 1), (2, .aload_n 0, 1), (3, .getfield 7, 3), (6, .imul, 1), (7, .iload_n 1, 1), (8, .iadd, 1), (9, .iconst 0, 1), (10, .bastore, 1), (11, .aload_n 0, 1), (12, .getfield 57, 3), (15, .aload_n 0, 1), (16, .getfield 26, 3), (19, .arraylength, 1), (20, .if_icmp .ge 33, 3), (23, .aload_n 0, 1), (24, .getfield 26, 3), (27, .aload_n 0, 1), (28, .getfield 57, 3), (31, .iload_n 1, 1), (32, .iastore, 1), (33, .aload_n 0, 1), (34, .getfield 29, 3), (37, .aload_n 0, 1), (38, .getfield 57, 3), (41, .iload_n 2, 1), (42, .iastore, 1), (43, .aload_n 0, 1), (44, .dup, 1), (45, .getfield 57, 3), (48, .iconst 1, 1), (49, .iadd, 1), (50, .putfield 57, 3), (53, .return_, 1)]
def mX1_take : gM := (cX1_take, 4, RX1, iX1_take, ftX1, { frames := 0, cells := 0, slots := 0, locals := 0 })
theorem diX1_take : ∀ q ∈ iX1_take, decode cX1_take q.1 = .ok (q.2.1, q.2.2) ∧ gwell 4 q.1 q.2.1 q.2.2 = true := by decide +kernel
theorem kX1_take : gOkM mX1_take := ⟨diX1_take, foX1⟩
theorem aX1_take : gCalV yX1_take mX1_take none 3 := by unfold gCalV; decide +kernel
def iX1_widen : List gI := [(0, .aload_n 0, 1), (1, .getfield 23, 3), (4, .iconst 0, 1), (5, .aload_n 0, 1), (6, .getfield 23, 3), (9, .iconst 0, 1), (10, .iaload, 1), (11, .iload_n 1, 1), (12, .invokestatic 71, 3), (15, .iastore, 1), (16, .aload_n 0, 1), (17, .getfield 23, 3), (20, .iconst 1, 1), (21, .aload_n 0, 1), (22, .getfield 23, 3), (25, .iconst 1, 1), (26, .iaload, 1), (27, .iload_n 2, 1), (28, .invokestatic 71, 3), (31, .iastore, 1), (32, .aload_n 0, 1), (33, .getfield 23, 3), (36, .iconst 2, 1), (37, .aload_n 0, 1), (38, .getfield 23, 3), (41, .iconst 2, 1), (42, .iaload, 1), (43, .iload_n 3, 1), (44, .invokestatic 39, 3), (47, .iastore, 1), (48, .aload_n 0, 1), (49, .getfield 23, 3), (52, .iconst 3, 1), (53, .aload_n 0, 1), (54, .getfield 23, 3), (57, .iconst 3, 1), (58, .iaload, 1), (59, .iload 4, 2), (61, .invokestatic 39, 3), (64, .iastore, 1), (65, .return_, 1)]
def mX1_widen : gM := (cX1_widen, 5, RX1, iX1_widen, ftX1, { frames := 1, cells := 0, slots := 0, locals := 15 })
theorem diX1_widen : ∀ q ∈ iX1_widen, decode cX1_widen q.1 = .ok (q.2.1, q.2.2) ∧ gwell 5 q.1 q.2.1 q.2.2 = true := by decide +kernel
theorem kX1_widen : gOkM mX1_widen := ⟨diX1_widen, foX1⟩
theorem aX1_widen : gCalV yX1_widen mX1_widen none 4 := by unfold gCalV; decide +kernel
def iX1_absorbAll : List gI := [(0, .iconst 1, 1), (1, .istore_n 1, 1), (2, .iconst 0, 1), (3, .istore_n 2, 1), (4, .iload_n 1, 1), (5, .ifCond .eq 22, 3), (8, .iload_n 2, 1), (9, .aload_n 0, 1), (10, .getfield 16, 3), (13, .if_icmp .gt 14, 3), (16, .aload_n 0, 1), (17, .invokevirtual 74, 3), (20, .istore_n 1, 1), (21, .iinc 2 1, 3), (24, .goto (-20), 3), (27, .return_, 1)]
def mX1_absorbAll : gM := (cX1_absorbAll, 3, RX1, iX1_absorbAll, ftX1, { frames := 3, cells := 0, slots := 0, locals := 65 })
theorem diX1_absorbAll : ∀ q ∈ iX1_absorbAll, decode cX1_absorbAll q.1 = .ok (q.2.1, q.2.2) ∧ gwell 3 q.1 q.2.1 q.2.2 = true := by decide +kernel
theorem kX1_absorbAll : gOkM mX1_absorbAll := ⟨diX1_absorbAll, foX1⟩
theorem aX1_absorbAll : gCalV yX1_absorbAll mX1_absorbAll none 0 := by unfold gCalV; decide +kernel
def iX1_absorbRound : List gI := [(0, .iconst 0, 1), (1, .istore_n 1, 1), (2, .aload_n 0, 1), (3, .getfield 32, 3), (6, .iconst 1, 1), (7, .isub, 1), (8, .istore_n 2, 1), (9, .iload_n 2, 1), (10, .ifCond .lt 93, 3), (13, .aload_n 0, 1), (14, .iload_n 2, 1), (15, .invokevirtual 78, 3), (18, .ifCond .eq 79, 3), (21, .aload_n 0, 1), (22, .aload_n 0, 1), (23, .iload_n 2, 1), (24, .iconst 0, 1), (25, .invokevirtual 35, 3), (28, .aload_n 0, 1), (29, .iload_n 2, 1), (30, .iconst 1, 1), (31, .invokevirtual 35, 3), (34, .aload_n 0, 1), (35, .iload_n 2, 1), (36, .iconst 2, 1), (37, .invokevirtual 35, 3), (40, .aload_n 0, 1), (41, .iload_n 2, 1), (42, .iconst 3, 1), (43, .invokevirtual 35, 3), (46, .invokevirtual 64, 3), (49, .aload_n 0, 1), (50, .getfield 23, 3), (53, .iconst 4, 1), (54, .dup2, 1), (55, .iaload, 1), (56, .aload_n 0, 1), (57, .iload_n 2, 1), (58, .iconst 4, 1), (59, .invokevirtual 35, 3), (62, .iadd, 1), (63, .iastore, 1), (64, .aload_n 0, 1), (65, .dup, 1), (66, .getfield 32, 3), (69, .iconst 1, 1), (70, .isub, 1), (71, .putfield 32, 3), (74, .aload_n 0, 1), (75, .getfield 19, 3), (78, .aload_n 0, 1), (79, .getfield 32, 3), (82, .iconst 5, 1), (83, .imul, 1), (84, .aload_n 0, 1), (85, .getfield 19, 3), (88, .iload_n 2, 1), (89, .iconst 5, 1), (90, .imul, 1), (91, .iconst 5, 1), (92, .invokestatic 82, 3), (95, .iconst 1, 1), (96, .istore_n 1, 1), (97, .iinc 2 (-1), 3), (100, .goto (-91), 3), (103, .iload_n 1, 1), (104, .ireturn, 1)]
def mX1_absorbRound : gM := (cX1_absorbRound, 3, RX1, iX1_absorbRound, ftX1, { frames := 2, cells := 0, slots := 0, locals := 43 })
theorem diX1_absorbRound : ∀ q ∈ iX1_absorbRound, decode cX1_absorbRound q.1 = .ok (q.2.1, q.2.2) ∧ gwell 3 q.1 q.2.1 q.2.2 = true := by decide +kernel
theorem kX1_absorbRound : gOkM mX1_absorbRound := ⟨diX1_absorbRound, foX1⟩
theorem aX1_absorbRound : gCalV yX1_absorbRound mX1_absorbRound (some .boolean) 0 := by unfold gCalV; decide +kernel
def iX1_sharesPlace : List gI := [(0, .aload_n 0, 1), (1, .getfield 23, 3), (4, .iconst 0, 1), (5, .iaload, 1), (6, .aload_n 0, 1), (7, .iload_n 1, 1), (8, .iconst 2, 1), (9, .invokevirtual 35, 3), (12, .if_icmp .gt 52, 3), (15, .aload_n 0, 1), (16, .iload_n 1, 1), (17, .iconst 0, 1), (18, .invokevirtual 35, 3), (21, .aload_n 0, 1), (22, .getfield 23, 3), (25, .iconst 2, 1), (26, .iaload, 1), (27, .if_icmp .gt 37, 3), (30, .aload_n 0, 1), (31, .getfield 23, 3), (34, .iconst 1, 1), (35, .iaload, 1), (36, .aload_n 0, 1), (37, .iload_n 1, 1), (38, .iconst 3, 1), (39, .invokevirtual 35, 3), (42, .if_icmp .gt 22, 3), (45, .aload_n 0, 1), (46, .iload_n 1, 1), (47, .iconst 1, 1), (48, .invokevirtual 35, 3), (51, .aload_n 0, 1), (52, .getfield 23, 3), (55, .iconst 3, 1), (56, .iaload, 1), (57, .if_icmp .gt 7, 3), (60, .iconst 1, 1), (61, .goto 4, 3), (64, .iconst 0, 1), (65, .ireturn, 1)]
def mX1_sharesPlace : gM := (cX1_sharesPlace, 2, RX1, iX1_sharesPlace, ftX1, { frames := 1, cells := 0, slots := 0, locals := 22 })
theorem diX1_sharesPlace : ∀ q ∈ iX1_sharesPlace, decode cX1_sharesPlace q.1 = .ok (q.2.1, q.2.2) ∧ gwell 2 q.1 q.2.1 q.2.2 = true := by decide +kernel
theorem kX1_sharesPlace : gOkM mX1_sharesPlace := ⟨diX1_sharesPlace, foX1⟩
theorem aX1_sharesPlace : gCalV yX1_sharesPlace mX1_sharesPlace (some .boolean) 1 := by unfold gCalV; decide +kernel
def iX1_keepGrown : List gI := [(0, .aload_n 0, 1), (1, .getfield 32, 3), (4, .aload_n 0, 1), (5, .getfield 16, 3), (8, .if_icmp .ge 32, 3), (11, .aload_n 0, 1), (12, .getfield 23, 3), (15, .iconst 0, 1), (16, .aload_n 0, 1), (17, .getfield 19, 3), (20, .aload_n 0, 1), (21, .getfield 32, 3), (24, .iconst 5, 1), (25, .imul, 1), (26, .iconst 5, 1), (27, .invokestatic 82, 3), (30, .aload_n 0, 1), (31, .dup, 1), (32, .getfield 32, 3), (35, .iconst 1, 1), (36, .iadd, 1), (37, .putfield 32, 3), (40, .return_, 1)]
def mX1_keepGrown : gM := (cX1_keepGrown, 1, RX1, iX1_keepGrown, ftX1, { frames := 1, cells := 0, slots := 0, locals := 18 })
theorem diX1_keepGrown : ∀ q ∈ iX1_keepGrown, decode cX1_keepGrown q.1 = .ok (q.2.1, q.2.2) ∧ gwell 1 q.1 q.2.1 q.2.2 = true := by decide +kernel
theorem kX1_keepGrown : gOkM mX1_keepGrown := ⟨diX1_keepGrown, foX1⟩
theorem aX1_keepGrown : gCalV yX1_keepGrown mX1_keepGrown none 0 := by unfold gCalV; decide +kernel
def iX1_sort : List gI := [(0, .iconst 1, 1), (1, .istore_n 1, 1), (2, .iload_n 1, 1), (3, .aload_n 0, 1), (4, .getfield 32, 3), (7, .if_icmp .ge 40, 3), (10, .iload_n 1, 1), (11, .istore_n 2, 1), (12, .iload_n 2, 1), (13, .ifCond .le 28, 3), (16, .aload_n 0, 1), (17, .iload_n 2, 1), (18, .iload_n 2, 1), (19, .iconst 1, 1), (20, .isub, 1), (21, .invokevirtual 88, 3), (24, .ifCond .eq 17, 3), (27, .aload_n 0, 1), (28, .iload_n 2, 1), (29, .iload_n 2, 1), (30, .iconst 1, 1), (31, .isub, 1), (32, .invokevirtual 92, 3), (35, .iinc 2 (-1), 3), (38, .goto (-26), 3), (41, .iinc 1 1, 3), (44, .goto (-42), 3), (47, .return_, 1)]
def mX1_sort : gM := (cX1_sort, 3, RX1, iX1_sort, ftX1, { frames := 2, cells := 0, slots := 0, locals := 44 })
theorem diX1_sort : ∀ q ∈ iX1_sort, decode cX1_sort q.1 = .ok (q.2.1, q.2.2) ∧ gwell 3 q.1 q.2.1 q.2.2 = true := by decide +kernel
theorem kX1_sort : gOkM mX1_sort := ⟨diX1_sort, foX1⟩
theorem aX1_sort : gCalV yX1_sort mX1_sort none 0 := by unfold gCalV; decide +kernel
def iX1_comesBefore : List gI := [(0, .aload_n 0, 1), (1, .iload_n 1, 1), (2, .iconst 1, 1), (3, .invokevirtual 35, 3), (6, .aload_n 0, 1), (7, .iload_n 2, 1), (8, .iconst 1, 1), (9, .invokevirtual 35, 3), (12, .if_icmp .eq 24, 3), (15, .aload_n 0, 1), (16, .iload_n 1, 1), (17, .iconst 1, 1), (18, .invokevirtual 35, 3), (21, .aload_n 0, 1), (22, .iload_n 2, 1), (23, .iconst 1, 1), (24, .invokevirtual 35, 3), (27, .if_icmp .ge 7, 3), (30, .iconst 1, 1), (31, .goto 4, 3), (34, .iconst 0, 1), (35, .ireturn, 1), (36, .aload_n 0, 1), (37, .iload_n 1, 1), (38, .iconst 0, 1), (39, .invokevirtual 35, 3), (42, .aload_n 0, 1), (43, .iload_n 2, 1), (44, .iconst 0, 1), (45, .invokevirtual 35, 3), (48, .if_icmp .ge 7, 3), (51, .iconst 1, 1), (52, .goto 4, 3), (55, .iconst 0, 1), (56, .ireturn, 1)]
def mX1_comesBefore : gM := (cX1_comesBefore, 3, RX1, iX1_comesBefore, ftX1, { frames := 1, cells := 0, slots := 0, locals := 22 })
theorem diX1_comesBefore : ∀ q ∈ iX1_comesBefore, decode cX1_comesBefore q.1 = .ok (q.2.1, q.2.2) ∧ gwell 3 q.1 q.2.1 q.2.2 = true := by decide +kernel
theorem kX1_comesBefore : gOkM mX1_comesBefore := ⟨diX1_comesBefore, foX1⟩
theorem aX1_comesBefore : gCalV yX1_comesBefore mX1_comesBefore (some .boolean) 2 := by unfold gCalV; decide +kernel
def iX1_swap : List gI := [(0, .iconst 0, 1), (1, .istore_n 3, 1), (2, .iload_n 3, 1), (3, .iconst 5, 1), (4, .if_icmp .ge 53, 3), (7, .aload_n 0, 1), (8, .getfield 19, 3), (11, .iload_n 1, 1), (12, .iconst 5, 1), (13, .imul, 1), (14, .iload_n 3, 1), (15, .iadd, 1), (16, .iaload, 1), (17, .istore 4, 2), (19, .aload_n 0, 1), (20, .getfield 19, 3), (23, .iload_n 1, 1), (24, .iconst 5, 1), (25, .imul, 1), (26, .iload_n 3, 1), (27, .iadd, 1), (28, .aload_n 0, 1), (29, .getfield 19, 3), (32, .iload_n 2, 1), (33, .iconst 5, 1), (34, .imul, 1), (35, .iload_n 3, 1), (36, .iadd, 1), (37, .iaload, 1), (38, .iastore, 1), (39, .aload_n 0, 1), (40, .getfield 19, 3), (43, .iload_n 2, 1), (44, .iconst 5, 1), (45, .imul, 1), (46, .iload_n 3, 1), (47, .iadd, 1), (48, .iload 4, 2), (50, .iastore, 1), (51, .iinc 3 1, 3), (54, .goto (-52), 3), (57, .return_, 1)]
def mX1_swap : gM := (cX1_swap, 5, RX1, iX1_swap, ftX1, { frames := 0, cells := 0, slots := 0, locals := 0 })
theorem diX1_swap : ∀ q ∈ iX1_swap, decode cX1_swap q.1 = .ok (q.2.1, q.2.2) ∧ gwell 5 q.1 q.2.1 q.2.2 = true := by decide +kernel
theorem kX1_swap : gOkM mX1_swap := ⟨diX1_swap, foX1⟩
theorem aX1_swap : gCalV yX1_swap mX1_swap none 2 := by unfold gCalV; decide +kernel
def ftX2 : List gFt := [(11, 3, 0, 2), (16, 3, 1, 2)]
theorem foX2 : ∀ f ∈ ftX2, gfok RX2 f = true := by decide +kernel
def iX2_put : List gI := [(0, .aload_n 0, 1), (1, .getfield 11, 3), (4, .iload_n 1, 1), (5, .aaload, 1), (6, .iload_n 2, 1), (7, .iload_n 3, 1), (8, .iastore, 1), (9, .aload_n 0, 1), (10, .getfield 16, 3), (13, .iload_n 1, 1), (14, .aaload, 1), (15, .iload_n 2, 1), (16, .iload 4, 2), (18, .iastore, 1), (19, .return_, 1)]
def mX2_put : gM := (cX2_put, 5, RX2, iX2_put, ftX2, { frames := 0, cells := 0, slots := 0, locals := 0 })
theorem diX2_put : ∀ q ∈ iX2_put, decode cX2_put q.1 = .ok (q.2.1, q.2.2) ∧ gwell 5 q.1 q.2.1 q.2.2 = true := by decide +kernel
theorem kX2_put : gOkM mX2_put := ⟨diX2_put, foX2⟩
theorem aX2_put : gCalV yX2_put mX2_put none 4 := by unfold gCalV; decide +kernel
def iX2_hasOtherSizes : List gI := [(0, .aload_n 0, 1), (1, .iconst 0, 1), (2, .iload_n 1, 1), (3, .invokevirtual 19, 3), (6, .ifCond .eq 54, 3), (9, .aload_n 0, 1), (10, .iconst 1, 1), (11, .iload_n 1, 1), (12, .invokevirtual 19, 3), (15, .ifCond .eq 45, 3), (18, .aload_n 0, 1), (19, .getfield 11, 3), (22, .iconst 0, 1), (23, .aaload, 1), (24, .iload_n 1, 1), (25, .iaload, 1), (26, .aload_n 0, 1), (27, .getfield 11, 3), (30, .iconst 1, 1), (31, .aaload, 1), (32, .iload_n 1, 1), (33, .iaload, 1), (34, .if_icmp .ne 22, 3), (37, .aload_n 0, 1), (38, .getfield 16, 3), (41, .iconst 0, 1), (42, .aaload, 1), (43, .iload_n 1, 1), (44, .iaload, 1), (45, .aload_n 0, 1), (46, .getfield 16, 3), (49, .iconst 1, 1), (50, .aaload, 1), (51, .iload_n 1, 1), (52, .iaload, 1), (53, .if_icmp .eq 7, 3), (56, .iconst 1, 1), (57, .goto 4, 3), (60, .iconst 0, 1), (61, .ireturn, 1)]
def mX2_hasOtherSizes : gM := (cX2_hasOtherSizes, 2, RX2, iX2_hasOtherSizes, ftX2, { frames := 1, cells := 0, slots := 0, locals := 22 })
theorem diX2_hasOtherSizes : ∀ q ∈ iX2_hasOtherSizes, decode cX2_hasOtherSizes q.1 = .ok (q.2.1, q.2.2) ∧ gwell 2 q.1 q.2.1 q.2.2 = true := by decide +kernel
theorem kX2_hasOtherSizes : gOkM mX2_hasOtherSizes := ⟨diX2_hasOtherSizes, foX2⟩
theorem aX2_hasOtherSizes : gCalV yX2_hasOtherSizes mX2_hasOtherSizes (some .boolean) 1 := by unfold gCalV; decide +kernel
def iX2_countOtherSizes : List gI := [(0, .iconst 0, 1), (1, .istore_n 1, 1), (2, .iconst 0, 1), (3, .istore_n 2, 1), (4, .iload_n 2, 1), (5, .bipush 20, 2), (7, .if_icmp .ge 25, 3), (10, .iload_n 1, 1), (11, .aload_n 0, 1), (12, .iload_n 2, 1), (13, .invokevirtual 23, 3), (16, .ifCond .eq 7, 3), (19, .iconst 1, 1), (20, .goto 4, 3), (23, .iconst 0, 1), (24, .iadd, 1), (25, .istore_n 1, 1), (26, .iinc 2 1, 3), (29, .goto (-25), 3), (32, .iload_n 1, 1), (33, .ireturn, 1)]
def mX2_countOtherSizes : gM := (cX2_countOtherSizes, 3, RX2, iX2_countOtherSizes, ftX2, { frames := 2, cells := 0, slots := 0, locals := 43 })
theorem diX2_countOtherSizes : ∀ q ∈ iX2_countOtherSizes, decode cX2_countOtherSizes q.1 = .ok (q.2.1, q.2.2) ∧ gwell 3 q.1 q.2.1 q.2.2 = true := by decide +kernel
theorem kX2_countOtherSizes : gOkM mX2_countOtherSizes := ⟨diX2_countOtherSizes, foX2⟩
theorem aX2_countOtherSizes : gCalV yX2_countOtherSizes mX2_countOtherSizes (some .int) 0 := by unfold gCalV; decide +kernel
def iX2_countMissing : List gI := [(0, .iconst 0, 1), (1, .istore_n 1, 1), (2, .iconst 0, 1), (3, .istore_n 2, 1), (4, .iload_n 2, 1), (5, .bipush 20, 2), (7, .if_icmp .ge 25, 3), (10, .iload_n 1, 1), (11, .aload_n 0, 1), (12, .iload_n 2, 1), (13, .invokevirtual 27, 3), (16, .ifCond .eq 7, 3), (19, .iconst 1, 1), (20, .goto 4, 3), (23, .iconst 0, 1), (24, .iadd, 1), (25, .istore_n 1, 1), (26, .iinc 2 1, 3), (29, .goto (-25), 3), (32, .iload_n 1, 1), (33, .ireturn, 1)]
def mX2_countMissing : gM := (cX2_countMissing, 3, RX2, iX2_countMissing, ftX2, { frames := 2, cells := 0, slots := 0, locals := 43 })
theorem diX2_countMissing : ∀ q ∈ iX2_countMissing, decode cX2_countMissing q.1 = .ok (q.2.1, q.2.2) ∧ gwell 3 q.1 q.2.1 q.2.2 = true := by decide +kernel
theorem kX2_countMissing : gOkM mX2_countMissing := ⟨diX2_countMissing, foX2⟩
theorem aX2_countMissing : gCalV yX2_countMissing mX2_countMissing (some .int) 0 := by unfold gCalV; decide +kernel
def iX2_tellMissing : List gI := [(0, .iload_n 1, 1), (1, .istore_n 2, 1), (2, .iconst 0, 1), (3, .istore_n 3, 1), (4, .iload_n 3, 1), (5, .bipush 20, 2), (7, .if_icmp .ge 43, 3), (10, .aload_n 0, 1), (11, .iload_n 3, 1), (12, .invokevirtual 27, 3), (15, .ifCond .eq 29, 3), (18, .iload_n 2, 1), (19, .ifCond .ne 22, 3), (22, .iconst 2, 1), (23, .iload_n 3, 1), (24, .imul, 1), (25, .aload_n 0, 1), (26, .iconst 0, 1), (27, .iload_n 3, 1), (28, .invokevirtual 19, 3), (31, .ifCond .eq 7, 3), (34, .iconst 1, 1), (35, .goto 4, 3), (38, .iconst 0, 1), (39, .iadd, 1), (40, .ireturn, 1), (41, .iinc 2 (-1), 3), (44, .iinc 3 1, 3), (47, .goto (-43), 3), (50, .iconst 0, 1), (51, .ireturn, 1)]
def mX2_tellMissing : gM := (cX2_tellMissing, 4, RX2, iX2_tellMissing, ftX2, { frames := 2, cells := 0, slots := 0, locals := 43 })
theorem diX2_tellMissing : ∀ q ∈ iX2_tellMissing, decode cX2_tellMissing q.1 = .ok (q.2.1, q.2.2) ∧ gwell 4 q.1 q.2.1 q.2.2 = true := by decide +kernel
theorem kX2_tellMissing : gOkM mX2_tellMissing := ⟨diX2_tellMissing, foX2⟩
theorem aX2_tellMissing : gCalV yX2_tellMissing mX2_tellMissing (some .int) 1 := by unfold gCalV; decide +kernel
def iX2_isThere : List gI := [(0, .aload_n 0, 1), (1, .getfield 11, 3), (4, .iload_n 1, 1), (5, .aaload, 1), (6, .iload_n 2, 1), (7, .iaload, 1), (8, .ifCond .le 7, 3), (11, .iconst 1, 1), (12, .goto 4, 3), (15, .iconst 0, 1), (16, .ireturn, 1)]
def mX2_isThere : gM := (cX2_isThere, 3, RX2, iX2_isThere, ftX2, { frames := 0, cells := 0, slots := 0, locals := 0 })
theorem diX2_isThere : ∀ q ∈ iX2_isThere, decode cX2_isThere q.1 = .ok (q.2.1, q.2.2) ∧ gwell 3 q.1 q.2.1 q.2.2 = true := by decide +kernel
theorem kX2_isThere : gOkM mX2_isThere := ⟨diX2_isThere, foX2⟩
theorem aX2_isThere : gCalV yX2_isThere mX2_isThere (some .boolean) 2 := by unfold gCalV; decide +kernel
def iX2_isMissing : List gI := [(0, .aload_n 0, 1), (1, .iconst 0, 1), (2, .iload_n 1, 1), (3, .invokevirtual 19, 3), (6, .aload_n 0, 1), (7, .iconst 1, 1), (8, .iload_n 1, 1), (9, .invokevirtual 19, 3), (12, .if_icmp .eq 7, 3), (15, .iconst 1, 1), (16, .goto 4, 3), (19, .iconst 0, 1), (20, .ireturn, 1)]
def mX2_isMissing : gM := (cX2_isMissing, 2, RX2, iX2_isMissing, ftX2, { frames := 1, cells := 0, slots := 0, locals := 22 })
theorem diX2_isMissing : ∀ q ∈ iX2_isMissing, decode cX2_isMissing q.1 = .ok (q.2.1, q.2.2) ∧ gwell 2 q.1 q.2.1 q.2.2 = true := by decide +kernel
theorem kX2_isMissing : gOkM mX2_isMissing := ⟨diX2_isMissing, foX2⟩
theorem aX2_isMissing : gCalV yX2_isMissing mX2_isMissing (some .boolean) 1 := by unfold gCalV; decide +kernel
def ftX3 : List gFt := [(9, 4, 2, 2), (15, 4, 3, 2), (19, 4, 4, 2), (22, 4, 5, 2), (25, 4, 0, 0), (29, 4, 1, 0)]
theorem foX3 : ∀ f ∈ ftX3, gfok RX3 f = true := by decide +kernel
def iX3_add : List gI := [(0, .aload_n 0, 1), (1, .getfield 25, 3), (4, .istore 4, 2), (6, .aload_n 0, 1), (7, .getfield 9, 3), (10, .iload 4, 2), (12, .iload_n 1, 1), (13, .iastore, 1), (14, .aload_n 0, 1), (15, .getfield 19, 3), (18, .iload 4, 2), (20, .iload_n 2, 1), (21, .iastore, 1), (22, .aload_n 0, 1), (23, .getfield 15, 3), (26, .iload 4, 2), (28, .iload_n 3, 1), (29, .bastore, 1), (30, .aload_n 0, 1), (31, .dup, 1), (32, .getfield 25, 3), (35, .iconst 1, 1), (36, .iadd, 1), (37, .putfield 25, 3), (40, .iload 4, 2), (42, .ireturn, 1)]
def mX3_add : gM := (cX3_add, 5, RX3, iX3_add, ftX3, { frames := 0, cells := 0, slots := 0, locals := 0 })
theorem diX3_add : ∀ q ∈ iX3_add, decode cX3_add q.1 = .ok (q.2.1, q.2.2) ∧ gwell 5 q.1 q.2.1 q.2.2 = true := by decide +kernel
theorem kX3_add : gOkM mX3_add := ⟨diX3_add, foX3⟩
theorem aX3_add : gCalV yX3_add mX3_add (some .int) 3 := by unfold gCalV; decide +kernel
def iX3_tellFault : List gI := [(0, .aload_n 0, 1), (1, .getfield 22, 3), (4, .iload_n 1, 1), (5, .iconst 3, 1), (6, .imul, 1), (7, .iload_n 2, 1), (8, .iadd, 1), (9, .iaload, 1), (10, .ireturn, 1)]
def mX3_tellFault : gM := (cX3_tellFault, 3, RX3, iX3_tellFault, ftX3, { frames := 0, cells := 0, slots := 0, locals := 0 })
theorem diX3_tellFault : ∀ q ∈ iX3_tellFault, decode cX3_tellFault q.1 = .ok (q.2.1, q.2.2) ∧ gwell 3 q.1 q.2.1 q.2.2 = true := by decide +kernel
theorem kX3_tellFault : gOkM mX3_tellFault := ⟨diX3_tellFault, foX3⟩
theorem aX3_tellFault : gCalV yX3_tellFault mX3_tellFault (some .int) 2 := by unfold gCalV; decide +kernel
def iX3_forgetFaults : List gI := [(0, .aload_n 0, 1), (1, .iconst 0, 1), (2, .putfield 29, 3), (5, .return_, 1)]
def mX3_forgetFaults : gM := (cX3_forgetFaults, 1, RX3, iX3_forgetFaults, ftX3, { frames := 0, cells := 0, slots := 0, locals := 0 })
theorem diX3_forgetFaults : ∀ q ∈ iX3_forgetFaults, decode cX3_forgetFaults q.1 = .ok (q.2.1, q.2.2) ∧ gwell 1 q.1 q.2.1 q.2.2 = true := by decide +kernel
theorem kX3_forgetFaults : gOkM mX3_forgetFaults := ⟨diX3_forgetFaults, foX3⟩
theorem aX3_forgetFaults : gCalV yX3_forgetFaults mX3_forgetFaults none 0 := by unfold gCalV; decide +kernel
def iX3_judge : List gI := [(0, .iload_n 2, 1), (1, .aload_n 0, 1), (2, .getfield 19, 3), (5, .iload_n 1, 1), (6, .iaload, 1), (7, .if_icmp .le 15, 3), (10, .aload_n 0, 1), (11, .iload_n 1, 1), (12, .aload_n 0, 1), (13, .getfield 9, 3), (16, .iload_n 1, 1), (17, .iaload, 1), (18, .iload_n 2, 1), (19, .invokevirtual 32, 3), (22, .return_, 1)]
def mX3_judge : gM := (cX3_judge, 3, RX3, iX3_judge, ftX3, { frames := 1, cells := 0, slots := 0, locals := 24 })
theorem diX3_judge : ∀ q ∈ iX3_judge, decode cX3_judge q.1 = .ok (q.2.1, q.2.2) ∧ gwell 3 q.1 q.2.1 q.2.2 = true := by decide +kernel
theorem kX3_judge : gOkM mX3_judge := ⟨diX3_judge, foX3⟩
theorem aX3_judge : gCalV yX3_judge mX3_judge none 2 := by unfold gCalV; decide +kernel
def iX3_noteFailure : List gI := [(0, .aload_n 0, 1), (1, .iload_n 1, 1), (2, .iconst (-1), 1), (3, .iconst 0, 1), (4, .invokevirtual 32, 3), (7, .return_, 1)]
def mX3_noteFailure : gM := (cX3_noteFailure, 2, RX3, iX3_noteFailure, ftX3, { frames := 1, cells := 0, slots := 0, locals := 24 })
theorem diX3_noteFailure : ∀ q ∈ iX3_noteFailure, decode cX3_noteFailure q.1 = .ok (q.2.1, q.2.2) ∧ gwell 2 q.1 q.2.1 q.2.2 = true := by decide +kernel
theorem kX3_noteFailure : gOkM mX3_noteFailure := ⟨diX3_noteFailure, foX3⟩
theorem aX3_noteFailure : gCalV yX3_noteFailure mX3_noteFailure none 1 := by unfold gCalV; decide +kernel
def iX3_append : List gI := [(0, .aload_n 0, 1), (1, .getfield 29, 3), (4, .bipush 12, 2), (6, .if_icmp .ge 49, 3), (9, .aload_n 0, 1), (10, .getfield 29, 3), (13, .iconst 3, 1), (14, .imul, 1), (15, .istore 4, 2), (17, .aload_n 0, 1), (18, .getfield 22, 3), (21, .iload 4, 2), (23, .iload_n 1, 1), (24, .iastore, 1), (25, .aload_n 0, 1), (26, .getfield 22, 3), (29, .iload 4, 2), (31, .iconst 1, 1), (32, .iadd, 1), (33, .iload_n 2, 1), (34, .iastore, 1), (35, .aload_n 0, 1), (36, .getfield 22, 3), (39, .iload 4, 2), (41, .iconst 2, 1), (42, .iadd, 1), (43, .iload_n 3, 1), (44, .iastore, 1), (45, .aload_n 0, 1), (46, .dup, 1), (47, .getfield 29, 3), (50, .iconst 1, 1), (51, .iadd, 1), (52, .putfield 29, 3), (55, .return_, 1)]
def mX3_append : gM := (cX3_append, 5, RX3, iX3_append, ftX3, { frames := 0, cells := 0, slots := 0, locals := 0 })
theorem diX3_append : ∀ q ∈ iX3_append, decode cX3_append q.1 = .ok (q.2.1, q.2.2) ∧ gwell 5 q.1 q.2.1 q.2.2 = true := by decide +kernel
theorem kX3_append : gOkM mX3_append := ⟨diX3_append, foX3⟩
theorem aX3_append : gCalV yX3_append mX3_append none 3 := by unfold gCalV; decide +kernel
def ftX4 : List gFt := [(18, 5, 2, 2), (24, 5, 3, 2), (29, 5, 4, 2), (32, 5, 5, 2), (41, 5, 0, 2), (45, 5, 8, 1), (49, 5, 6, 0), (52, 5, 7, 0), (55, 5, 1, 0)]
theorem foX4 : ∀ f ∈ ftX4, gfok RX4 f = true := by decide +kernel
def iX4_holds : List gI := [(0, .iload_n 1, 1), (1, .ifCond .lt 27, 3), (4, .iload_n 1, 1), (5, .aload_n 0, 1), (6, .getfield 18, 3), (9, .if_icmp .ge 19, 3), (12, .iload_n 2, 1), (13, .ifCond .lt 15, 3), (16, .iload_n 2, 1), (17, .aload_n 0, 1), (18, .getfield 24, 3), (21, .if_icmp .ge 7, 3), (24, .iconst 1, 1), (25, .goto 4, 3), (28, .iconst 0, 1), (29, .ireturn, 1)]
def mX4_holds : gM := (cX4_holds, 3, RX4, iX4_holds, ftX4, { frames := 0, cells := 0, slots := 0, locals := 0 })
theorem diX4_holds : ∀ q ∈ iX4_holds, decode cX4_holds q.1 = .ok (q.2.1, q.2.2) ∧ gwell 3 q.1 q.2.1 q.2.2 = true := by decide +kernel
theorem kX4_holds : gOkM mX4_holds := ⟨diX4_holds, foX4⟩
theorem aX4_holds : gCalV yX4_holds mX4_holds (some .boolean) 2 := by unfold gCalV; decide +kernel
def iX4_put : List gI := [(0, .iload_n 3, 1), (1, .aload_n 0, 1), (2, .getfield 18, 3), (5, .imul, 1), (6, .iload_n 2, 1), (7, .iadd, 1), (8, .istore 5, 2), (10, .aload_n 0, 1), (11, .getfield 29, 3), (14, .iload_n 1, 1), (15, .aaload, 1), (16, .iload 5, 2), (18, .iaload, 1), (19, .istore 6, 2), (21, .aload_n 0, 1), (22, .getfield 29, 3), (25, .iload_n 1, 1), (26, .aaload, 1), (27, .iload 5, 2), (29, .iload 4, 2), (31, .iastore, 1), (32, .aload_n 0, 1), (33, .iconst 1, 1), (34, .putfield 45, 3), (37, .iload 6, 2), (39, .ireturn, 1)]
def mX4_put : gM := (cX4_put, 7, RX4, iX4_put, ftX4, { frames := 0, cells := 0, slots := 0, locals := 0 })
theorem diX4_put : ∀ q ∈ iX4_put, decode cX4_put q.1 = .ok (q.2.1, q.2.2) ∧ gwell 7 q.1 q.2.1 q.2.2 = true := by decide +kernel
theorem kX4_put : gOkM mX4_put := ⟨diX4_put, foX4⟩
theorem aX4_put : gCalV yX4_put mX4_put (some .int) 4 := by unfold gCalV; decide +kernel
def iX4_limit : List gI := [(0, .bipush 10, 2), (2, .aload_n 0, 1), (3, .getfield 49, 3), (6, .imul, 1), (7, .aload_n 0, 1), (8, .getfield 52, 3), (11, .iadd, 1), (12, .istore_n 3, 1), (13, .aload_n 0, 1), (14, .iload_n 1, 1), (15, .putfield 49, 3), (18, .aload_n 0, 1), (19, .iload_n 2, 1), (20, .putfield 52, 3), (23, .aload_n 0, 1), (24, .iconst 1, 1), (25, .putfield 45, 3), (28, .iload_n 3, 1), (29, .ireturn, 1)]
def mX4_limit : gM := (cX4_limit, 4, RX4, iX4_limit, ftX4, { frames := 0, cells := 0, slots := 0, locals := 0 })
theorem diX4_limit : ∀ q ∈ iX4_limit, decode cX4_limit q.1 = .ok (q.2.1, q.2.2) ∧ gwell 4 q.1 q.2.1 q.2.2 = true := by decide +kernel
theorem kX4_limit : gOkM mX4_limit := ⟨diX4_limit, foX4⟩
theorem aX4_limit : gCalV yX4_limit mX4_limit (some .int) 2 := by unfold gCalV; decide +kernel
def iX4_refresh : List gI := [(0, .aload_n 0, 1), (1, .getfield 45, 3), (4, .ifCond .ne 4, 3), (7, .return_, 1), (8, .aload_n 0, 1), (9, .iconst 0, 1), (10, .putfield 55, 3), (13, .iconst 0, 1), (14, .istore_n 1, 1), (15, .iload_n 1, 1), (16, .aload_n 0, 1), (17, .getfield 24, 3), (20, .if_icmp .ge 64, 3), (23, .iconst 0, 1), (24, .istore_n 2, 1), (25, .iload_n 2, 1), (26, .aload_n 0, 1), (27, .getfield 18, 3), (30, .if_icmp .ge 48, 3), (33, .aload_n 0, 1), (34, .iload_n 2, 1), (35, .iload_n 1, 1), (36, .invokevirtual 58, 3), (39, .istore_n 3, 1), (40, .aload_n 0, 1), (41, .getfield 32, 3), (44, .iload_n 1, 1), (45, .aload_n 0, 1), (46, .getfield 18, 3), (49, .imul, 1), (50, .iload_n 2, 1), (51, .iadd, 1), (52, .iload_n 3, 1), (53, .bastore, 1), (54, .aload_n 0, 1), (55, .dup, 1), (56, .getfield 55, 3), (59, .iload_n 3, 1), (60, .ifCond .eq 7, 3), (63, .iconst 1, 1), (64, .goto 4, 3), (67, .iconst 0, 1), (68, .iadd, 1), (69, .putfield 55, 3), (72, .iinc 2 1, 3), (75, .goto (-50), 3), (78, .iinc 1 1, 3), (81, .goto (-66), 3), (84, .aload_n 0, 1), (85, .getfield 41, 3), (88, .aload_n 0, 1), (89, .getfield 32, 3), (92, .aload_n 0, 1), (93, .getfield 52, 3), (96, .iconst 1, 1), (97, .iadd, 1), (98, .invokevirtual 62, 3), (101, .aload_n 0, 1), (102, .iconst 0, 1), (103, .putfield 45, 3), (106, .return_, 1)]
def mX4_refresh : gM := (cX4_refresh, 4, RX4, iX4_refresh, ftX4, { frames := 5, cells := 0, slots := 0, locals := 111 })
theorem diX4_refresh : ∀ q ∈ iX4_refresh, decode cX4_refresh q.1 = .ok (q.2.1, q.2.2) ∧ gwell 4 q.1 q.2.1 q.2.2 = true := by decide +kernel
theorem kX4_refresh : gOkM mX4_refresh := ⟨diX4_refresh, foX4⟩
theorem aX4_refresh : gCalV yX4_refresh mX4_refresh none 0 := by unfold gCalV; decide +kernel
def iX4_isUnmetAt : List gI := [(0, .iload_n 2, 1), (1, .aload_n 0, 1), (2, .getfield 18, 3), (5, .imul, 1), (6, .iload_n 1, 1), (7, .iadd, 1), (8, .istore_n 3, 1), (9, .aload_n 0, 1), (10, .getfield 29, 3), (13, .iconst 0, 1), (14, .aaload, 1), (15, .iload_n 3, 1), (16, .iaload, 1), (17, .istore 4, 2), (19, .aload_n 0, 1), (20, .getfield 29, 3), (23, .iconst 1, 1), (24, .aaload, 1), (25, .iload_n 3, 1), (26, .iaload, 1), (27, .istore 5, 2), (29, .aload_n 0, 1), (30, .iload 4, 2), (32, .iload 5, 2), (34, .invokevirtual 66, 3), (37, .ifCond .eq 5, 3), (40, .iconst 0, 1), (41, .ireturn, 1), (42, .aload_n 0, 1), (43, .iload 4, 2), (45, .aload_n 0, 1), (46, .getfield 29, 3), (49, .iconst 1, 1), (50, .aaload, 1), (51, .iload_n 1, 1), (52, .iload_n 2, 1), (53, .invokevirtual 69, 3), (56, .ifCond .eq 20, 3), (59, .aload_n 0, 1), (60, .iload 5, 2), (62, .aload_n 0, 1), (63, .getfield 29, 3), (66, .iconst 0, 1), (67, .aaload, 1), (68, .iload_n 1, 1), (69, .iload_n 2, 1), (70, .invokevirtual 69, 3), (73, .ifCond .ne 7, 3), (76, .iconst 1, 1), (77, .goto 4, 3), (80, .iconst 0, 1), (81, .ireturn, 1)]
def mX4_isUnmetAt : gM := (cX4_isUnmetAt, 6, RX4, iX4_isUnmetAt, ftX4, { frames := 3, cells := 0, slots := 0, locals := 65 })
theorem diX4_isUnmetAt : ∀ q ∈ iX4_isUnmetAt, decode cX4_isUnmetAt q.1 = .ok (q.2.1, q.2.2) ∧ gwell 6 q.1 q.2.1 q.2.2 = true := by decide +kernel
theorem kX4_isUnmetAt : gOkM mX4_isUnmetAt := ⟨diX4_isUnmetAt, foX4⟩
theorem aX4_isUnmetAt : gCalV yX4_isUnmetAt mX4_isUnmetAt (some .boolean) 2 := by unfold gCalV; decide +kernel
def iX4_isMet : List gI := [(0, .aload_n 0, 1), (1, .getfield 18, 3), (4, .iconst 1, 1), (5, .isub, 1), (6, .iload_n 3, 1), (7, .aload_n 0, 1), (8, .getfield 52, 3), (11, .iadd, 1), (12, .invokestatic 9, 3), (15, .istore 5, 2), (17, .aload_n 0, 1), (18, .getfield 24, 3), (21, .iconst 1, 1), (22, .isub, 1), (23, .iload 4, 2), (25, .aload_n 0, 1), (26, .getfield 52, 3), (29, .iadd, 1), (30, .invokestatic 9, 3), (33, .istore 6, 2), (35, .iconst 0, 1), (36, .iload 4, 2), (38, .aload_n 0, 1), (39, .getfield 52, 3), (42, .isub, 1), (43, .invokestatic 15, 3), (46, .istore 7, 2), (48, .iload 7, 2), (50, .iload 6, 2), (52, .if_icmp .gt 56, 3), (55, .iconst 0, 1), (56, .iload_n 3, 1), (57, .aload_n 0, 1), (58, .getfield 52, 3), (61, .isub, 1), (62, .invokestatic 15, 3), (65, .istore 8, 2), (67, .iload 8, 2), (69, .iload 5, 2), (71, .if_icmp .gt 31, 3), (74, .aload_n 0, 1), (75, .iload_n 1, 1), (76, .aload_n 2, 1), (77, .iload 7, 2), (79, .aload_n 0, 1), (80, .getfield 18, 3), (83, .imul, 1), (84, .iload 8, 2), (86, .iadd, 1), (87, .iaload, 1), (88, .invokevirtual 66, 3), (91, .ifCond .eq 5, 3), (94, .iconst 1, 1), (95, .ireturn, 1), (96, .iinc 8 1, 3), (99, .goto (-32), 3), (102, .iinc 7 1, 3), (105, .goto (-57), 3), (108, .iconst 0, 1), (109, .ireturn, 1)]
def mX4_isMet : gM := (cX4_isMet, 9, RX4, iX4_isMet, ftX4, { frames := 2, cells := 0, slots := 0, locals := 37 })
theorem diX4_isMet : ∀ q ∈ iX4_isMet, decode cX4_isMet q.1 = .ok (q.2.1, q.2.2) ∧ gwell 9 q.1 q.2.1 q.2.2 = true := by decide +kernel
theorem kX4_isMet : gOkM mX4_isMet := ⟨diX4_isMet, foX4⟩
theorem aX4_isMet : gCalV yX4_isMet mX4_isMet (some .boolean) 4 := by unfold gCalV; decide +kernel
def iX4_isClose : List gI := [(0, .iload_n 1, 1), (1, .iload_n 2, 1), (2, .isub, 1), (3, .invokestatic 73, 3), (6, .aload_n 0, 1), (7, .getfield 49, 3), (10, .if_icmp .gt 7, 3), (13, .iconst 1, 1), (14, .goto 4, 3), (17, .iconst 0, 1), (18, .ireturn, 1)]
def mX4_isClose : gM := (cX4_isClose, 3, RX4, iX4_isClose, ftX4, { frames := 1, cells := 0, slots := 0, locals := 15 })
theorem diX4_isClose : ∀ q ∈ iX4_isClose, decode cX4_isClose q.1 = .ok (q.2.1, q.2.2) ∧ gwell 3 q.1 q.2.1 q.2.2 = true := by decide +kernel
theorem kX4_isClose : gOkM mX4_isClose := ⟨diX4_isClose, foX4⟩
theorem aX4_isClose : gCalV yX4_isClose mX4_isClose (some .boolean) 2 := by unfold gCalV; decide +kernel
def ftX5 : List gFt := [(11, 6, 4, 2), (15, 6, 5, 2), (18, 6, 2, 2), (22, 6, 3, 2), (25, 6, 0, 0), (33, 6, 1, 1), (49, 7, 0, 0)]
theorem foX5 : ∀ f ∈ ftX5, gfok RX5 f = true := by decide +kernel
def iX5_tell : List gI := [(0, .aload_n 0, 1), (1, .getfield 11, 3), (4, .iload_n 1, 1), (5, .iconst 4, 1), (6, .imul, 1), (7, .iload_n 2, 1), (8, .iadd, 1), (9, .iaload, 1), (10, .ireturn, 1)]
def mX5_tell : gM := (cX5_tell, 3, RX5, iX5_tell, ftX5, { frames := 0, cells := 0, slots := 0, locals := 0 })
theorem diX5_tell : ∀ q ∈ iX5_tell, decode cX5_tell q.1 = .ok (q.2.1, q.2.2) ∧ gwell 3 q.1 q.2.1 q.2.2 = true := by decide +kernel
theorem kX5_tell : gOkM mX5_tell := ⟨diX5_tell, foX5⟩
theorem aX5_tell : gCalV yX5_tell mX5_tell (some .int) 2 := by unfold gCalV; decide +kernel
def iX5_countKind : List gI := [(0, .iconst 0, 1), (1, .istore_n 2, 1), (2, .iconst 0, 1), (3, .istore_n 3, 1), (4, .iload_n 3, 1), (5, .aload_n 0, 1), (6, .getfield 25, 3), (9, .if_icmp .ge 27, 3), (12, .iload_n 2, 1), (13, .aload_n 0, 1), (14, .iload_n 3, 1), (15, .iconst 0, 1), (16, .invokevirtual 29, 3), (19, .iload_n 1, 1), (20, .if_icmp .ne 7, 3), (23, .iconst 1, 1), (24, .goto 4, 3), (27, .iconst 0, 1), (28, .iadd, 1), (29, .istore_n 2, 1), (30, .iinc 3 1, 3), (33, .goto (-29), 3), (36, .iload_n 2, 1), (37, .ireturn, 1)]
def mX5_countKind : gM := (cX5_countKind, 4, RX5, iX5_countKind, ftX5, { frames := 1, cells := 0, slots := 0, locals := 22 })
theorem diX5_countKind : ∀ q ∈ iX5_countKind, decode cX5_countKind q.1 = .ok (q.2.1, q.2.2) ∧ gwell 4 q.1 q.2.1 q.2.2 = true := by decide +kernel
theorem kX5_countKind : gOkM mX5_countKind := ⟨diX5_countKind, foX5⟩
theorem aX5_countKind : gCalV yX5_countKind mX5_countKind (some .int) 1 := by unfold gCalV; decide +kernel
def iX5_refresh : List gI := [(0, .aload_n 0, 1), (1, .getfield 33, 3), (4, .ifCond .ne 4, 3), (7, .return_, 1), (8, .aload_n 0, 1), (9, .iconst 0, 1), (10, .putfield 25, 3), (13, .aload_n 0, 1), (14, .invokevirtual 37, 3), (17, .aload_n 0, 1), (18, .invokevirtual 40, 3), (21, .aload_n 0, 1), (22, .invokevirtual 43, 3), (25, .aload_n 0, 1), (26, .invokevirtual 46, 3), (29, .aload_n 0, 1), (30, .iconst 0, 1), (31, .putfield 33, 3), (34, .return_, 1)]
def mX5_refresh : gM := (cX5_refresh, 1, RX5, iX5_refresh, ftX5, { frames := 3, cells := 0, slots := 0, locals := 70 })
theorem diX5_refresh : ∀ q ∈ iX5_refresh, decode cX5_refresh q.1 = .ok (q.2.1, q.2.2) ∧ gwell 1 q.1 q.2.1 q.2.2 = true := by decide +kernel
theorem kX5_refresh : gOkM mX5_refresh := ⟨diX5_refresh, foX5⟩
theorem aX5_refresh : gCalV yX5_refresh mX5_refresh none 0 := by unfold gCalV; decide +kernel
def iX5_measure : List gI := [(0, .aload_n 0, 1), (1, .getfield 18, 3), (4, .getfield 49, 3), (7, .istore_n 1, 1), (8, .iload_n 1, 1), (9, .ifCond .lt 44, 3), (12, .aload_n 0, 1), (13, .getfield 22, 3), (16, .getfield 49, 3), (19, .istore_n 2, 1), (20, .iload_n 2, 1), (21, .ifCond .lt 26, 3), (24, .aload_n 0, 1), (25, .getfield 15, 3), (28, .iload_n 1, 1), (29, .bipush 41, 2), (31, .imul, 1), (32, .iload_n 2, 1), (33, .iadd, 1), (34, .aload_n 0, 1), (35, .iload_n 1, 1), (36, .iload_n 2, 1), (37, .invokevirtual 52, 3), (40, .iastore, 1), (41, .iinc 2 (-1), 3), (44, .goto (-24), 3), (47, .iinc 1 (-1), 3), (50, .goto (-42), 3), (53, .return_, 1)]
def mX5_measure : gM := (cX5_measure, 3, RX5, iX5_measure, ftX5, { frames := 2, cells := 0, slots := 0, locals := 43 })
theorem diX5_measure : ∀ q ∈ iX5_measure, decode cX5_measure q.1 = .ok (q.2.1, q.2.2) ∧ gwell 3 q.1 q.2.1 q.2.2 = true := by decide +kernel
theorem kX5_measure : gOkM mX5_measure := ⟨diX5_measure, foX5⟩
theorem aX5_measure : gCalV yX5_measure mX5_measure none 0 := by unfold gCalV; decide +kernel
def iX5_measureAt : List gI := [(0, .iload_n 1, 1), (1, .aload_n 0, 1), (2, .getfield 18, 3), (5, .getfield 49, 3), (8, .if_icmp .ge 14, 3), (11, .iload_n 2, 1), (12, .aload_n 0, 1), (13, .getfield 22, 3), (16, .getfield 49, 3), (19, .if_icmp .lt 5, 3), (22, .iconst 0, 1), (23, .ireturn, 1), (24, .aload_n 0, 1), (25, .getfield 18, 3), (28, .iload_n 1, 1), (29, .invokevirtual 55, 3), (32, .aload_n 0, 1), (33, .getfield 22, 3), (36, .iload_n 2, 1), (37, .invokevirtual 55, 3), (40, .if_icmp .ne 21, 3), (43, .iconst 1, 1), (44, .aload_n 0, 1), (45, .getfield 15, 3), (48, .iload_n 1, 1), (49, .iconst 1, 1), (50, .iadd, 1), (51, .bipush 41, 2), (53, .imul, 1), (54, .iload_n 2, 1), (55, .iadd, 1), (56, .iconst 1, 1), (57, .iadd, 1), (58, .iaload, 1), (59, .iadd, 1), (60, .ireturn, 1), (61, .aload_n 0, 1), (62, .getfield 15, 3), (65, .iload_n 1, 1), (66, .iconst 1, 1), (67, .iadd, 1), (68, .bipush 41, 2), (70, .imul, 1), (71, .iload_n 2, 1), (72, .iadd, 1), (73, .iaload, 1), (74, .aload_n 0, 1), (75, .getfield 15, 3), (78, .iload_n 1, 1), (79, .bipush 41, 2), (81, .imul, 1), (82, .iload_n 2, 1), (83, .iadd, 1), (84, .iconst 1, 1), (85, .iadd, 1), (86, .iaload, 1), (87, .invokestatic 59, 3), (90, .ireturn, 1)]
def mX5_measureAt : gM := (cX5_measureAt, 3, RX5, iX5_measureAt, ftX5, { frames := 1, cells := 0, slots := 0, locals := 21 })
theorem diX5_measureAt : ∀ q ∈ iX5_measureAt, decode cX5_measureAt q.1 = .ok (q.2.1, q.2.2) ∧ gwell 3 q.1 q.2.1 q.2.2 = true := by decide +kernel
theorem kX5_measureAt : gOkM mX5_measureAt := ⟨diX5_measureAt, foX5⟩
theorem aX5_measureAt : gCalV yX5_measureAt mX5_measureAt (some .int) 2 := by unfold gCalV; decide +kernel
def iX5_walk : List gI := [(0, .iconst 0, 1), (1, .istore_n 1, 1), (2, .iconst 0, 1), (3, .istore_n 2, 1), (4, .iconst 0, 1), (5, .istore_n 3, 1), (6, .iload_n 3, 1), (7, .bipush 80, 2), (9, .if_icmp .ge 117, 3), (12, .iload_n 1, 1), (13, .aload_n 0, 1), (14, .getfield 18, 3), (17, .getfield 49, 3), (20, .if_icmp .lt 14, 3), (23, .iload_n 2, 1), (24, .aload_n 0, 1), (25, .getfield 22, 3), (28, .getfield 49, 3), (31, .if_icmp .ge 95, 3), (34, .aload_n 0, 1), (35, .iload_n 1, 1), (36, .iload_n 2, 1), (37, .invokevirtual 64, 3), (40, .ifCond .eq 18, 3), (43, .aload_n 0, 1), (44, .iload_n 1, 1), (45, .iload_n 2, 1), (46, .invokevirtual 68, 3), (49, .iinc 1 1, 3), (52, .iinc 2 1, 3), (55, .goto 65, 3), (58, .aload_n 0, 1), (59, .iload_n 1, 1), (60, .iload_n 2, 1), (61, .invokevirtual 72, 3), (64, .ifCond .eq 31, 3), (67, .aload_n 0, 1), (68, .iconst 1, 1), (69, .aload_n 0, 1), (70, .getfield 18, 3), (73, .iload_n 1, 1), (74, .invokevirtual 55, 3), (77, .aload_n 0, 1), (78, .getfield 18, 3), (81, .iload_n 1, 1), (82, .invokevirtual 75, 3), (85, .iconst (-1), 1), (86, .invokevirtual 78, 3), (89, .iinc 1 1, 3), (92, .goto 28, 3), (95, .aload_n 0, 1), (96, .iconst 3, 1), (97, .aload_n 0, 1), (98, .getfield 22, 3), (101, .iload_n 2, 1), (102, .invokevirtual 55, 3), (105, .iconst (-1), 1), (106, .aload_n 0, 1), (107, .getfield 22, 3), (110, .iload_n 2, 1), (111, .invokevirtual 75, 3), (114, .invokevirtual 78, 3), (117, .iinc 2 1, 3), (120, .iinc 3 1, 3), (123, .goto (-117), 3), (126, .return_, 1)]
def mX5_walk : gM := (cX5_walk, 4, RX5, iX5_walk, ftX5, { frames := 2, cells := 0, slots := 0, locals := 47 })
theorem diX5_walk : ∀ q ∈ iX5_walk, decode cX5_walk q.1 = .ok (q.2.1, q.2.2) ∧ gwell 4 q.1 q.2.1 q.2.2 = true := by decide +kernel
theorem kX5_walk : gOkM mX5_walk := ⟨diX5_walk, foX5⟩
theorem aX5_walk : gCalV yX5_walk mX5_walk none 0 := by unfold gCalV; decide +kernel
def iX5_isKept : List gI := [(0, .iload_n 1, 1), (1, .aload_n 0, 1), (2, .getfield 18, 3), (5, .getfield 49, 3), (8, .if_icmp .ge 37, 3), (11, .iload_n 2, 1), (12, .aload_n 0, 1), (13, .getfield 22, 3), (16, .getfield 49, 3), (19, .if_icmp .ge 26, 3), (22, .aload_n 0, 1), (23, .getfield 18, 3), (26, .iload_n 1, 1), (27, .invokevirtual 55, 3), (30, .aload_n 0, 1), (31, .getfield 22, 3), (34, .iload_n 2, 1), (35, .invokevirtual 55, 3), (38, .if_icmp .ne 7, 3), (41, .iconst 1, 1), (42, .goto 4, 3), (45, .iconst 0, 1), (46, .ireturn, 1)]
def mX5_isKept : gM := (cX5_isKept, 3, RX5, iX5_isKept, ftX5, { frames := 1, cells := 0, slots := 0, locals := 21 })
theorem diX5_isKept : ∀ q ∈ iX5_isKept, decode cX5_isKept q.1 = .ok (q.2.1, q.2.2) ∧ gwell 3 q.1 q.2.1 q.2.2 = true := by decide +kernel
theorem kX5_isKept : gOkM mX5_isKept := ⟨diX5_isKept, foX5⟩
theorem aX5_isKept : gCalV yX5_isKept mX5_isKept (some .boolean) 2 := by unfold gCalV; decide +kernel
def iX5_isGone : List gI := [(0, .iload_n 1, 1), (1, .aload_n 0, 1), (2, .getfield 18, 3), (5, .getfield 49, 3), (8, .if_icmp .lt 5, 3), (11, .iconst 0, 1), (12, .ireturn, 1), (13, .iload_n 2, 1), (14, .aload_n 0, 1), (15, .getfield 22, 3), (18, .getfield 49, 3), (21, .if_icmp .ge 32, 3), (24, .aload_n 0, 1), (25, .getfield 15, 3), (28, .iload_n 1, 1), (29, .iconst 1, 1), (30, .iadd, 1), (31, .bipush 41, 2), (33, .imul, 1), (34, .iload_n 2, 1), (35, .iadd, 1), (36, .iaload, 1), (37, .aload_n 0, 1), (38, .getfield 15, 3), (41, .iload_n 1, 1), (42, .bipush 41, 2), (44, .imul, 1), (45, .iload_n 2, 1), (46, .iadd, 1), (47, .iconst 1, 1), (48, .iadd, 1), (49, .iaload, 1), (50, .if_icmp .lt 7, 3), (53, .iconst 1, 1), (54, .goto 4, 3), (57, .iconst 0, 1), (58, .ireturn, 1)]
def mX5_isGone : gM := (cX5_isGone, 3, RX5, iX5_isGone, ftX5, { frames := 0, cells := 0, slots := 0, locals := 0 })
theorem diX5_isGone : ∀ q ∈ iX5_isGone, decode cX5_isGone q.1 = .ok (q.2.1, q.2.2) ∧ gwell 3 q.1 q.2.1 q.2.2 = true := by decide +kernel
theorem kX5_isGone : gOkM mX5_isGone := ⟨diX5_isGone, foX5⟩
theorem aX5_isGone : gCalV yX5_isGone mX5_isGone (some .boolean) 2 := by unfold gCalV; decide +kernel
def iX5_tellIfShifted : List gI := [(0, .aload_n 0, 1), (1, .getfield 18, 3), (4, .iload_n 1, 1), (5, .aload_n 0, 1), (6, .getfield 22, 3), (9, .iload_n 2, 1), (10, .invokevirtual 82, 3), (13, .ifCond .ne 32, 3), (16, .aload_n 0, 1), (17, .iconst 4, 1), (18, .aload_n 0, 1), (19, .getfield 18, 3), (22, .iload_n 1, 1), (23, .invokevirtual 55, 3), (26, .aload_n 0, 1), (27, .getfield 18, 3), (30, .iload_n 1, 1), (31, .invokevirtual 75, 3), (34, .aload_n 0, 1), (35, .getfield 22, 3), (38, .iload_n 2, 1), (39, .invokevirtual 75, 3), (42, .invokevirtual 78, 3), (45, .return_, 1)]
def mX5_tellIfShifted : gM := (cX5_tellIfShifted, 3, RX5, iX5_tellIfShifted, ftX5, { frames := 1, cells := 0, slots := 0, locals := 25 })
theorem diX5_tellIfShifted : ∀ q ∈ iX5_tellIfShifted, decode cX5_tellIfShifted q.1 = .ok (q.2.1, q.2.2) ∧ gwell 3 q.1 q.2.1 q.2.2 = true := by decide +kernel
theorem kX5_tellIfShifted : gOkM mX5_tellIfShifted := ⟨diX5_tellIfShifted, foX5⟩
theorem aX5_tellIfShifted : gCalV yX5_tellIfShifted mX5_tellIfShifted none 2 := by unfold gCalV; decide +kernel
def iX5_append : List gI := [(0, .aload_n 0, 1), (1, .getfield 25, 3), (4, .bipush 80, 2), (6, .if_icmp .ge 62, 3), (9, .aload_n 0, 1), (10, .getfield 25, 3), (13, .iconst 4, 1), (14, .imul, 1), (15, .istore 5, 2), (17, .aload_n 0, 1), (18, .getfield 11, 3), (21, .iload 5, 2), (23, .iconst 0, 1), (24, .iadd, 1), (25, .iload_n 1, 1), (26, .iastore, 1), (27, .aload_n 0, 1), (28, .getfield 11, 3), (31, .iload 5, 2), (33, .iconst 1, 1), (34, .iadd, 1), (35, .iload_n 2, 1), (36, .iastore, 1), (37, .aload_n 0, 1), (38, .getfield 11, 3), (41, .iload 5, 2), (43, .iconst 2, 1), (44, .iadd, 1), (45, .iload_n 3, 1), (46, .iastore, 1), (47, .aload_n 0, 1), (48, .getfield 11, 3), (51, .iload 5, 2), (53, .iconst 3, 1), (54, .iadd, 1), (55, .iload 4, 2), (57, .iastore, 1), (58, .aload_n 0, 1), (59, .dup, 1), (60, .getfield 25, 3), (63, .iconst 1, 1), (64, .iadd, 1), (65, .putfield 25, 3), (68, .return_, 1)]
def mX5_append : gM := (cX5_append, 6, RX5, iX5_append, ftX5, { frames := 0, cells := 0, slots := 0, locals := 0 })
theorem diX5_append : ∀ q ∈ iX5_append, decode cX5_append q.1 = .ok (q.2.1, q.2.2) ∧ gwell 6 q.1 q.2.1 q.2.2 = true := by decide +kernel
theorem kX5_append : gOkM mX5_append := ⟨diX5_append, foX5⟩
theorem aX5_append : gCalV yX5_append mX5_append none 4 := by unfold gCalV; decide +kernel
def iX5_pairMoved : List gI := [(0, .iconst 0, 1), (1, .istore_n 1, 1), (2, .iload_n 1, 1), (3, .aload_n 0, 1), (4, .getfield 25, 3), (7, .if_icmp .ge 24, 3), (10, .aload_n 0, 1), (11, .iload_n 1, 1), (12, .iconst 0, 1), (13, .invokevirtual 29, 3), (16, .iconst 1, 1), (17, .if_icmp .ne 8, 3), (20, .aload_n 0, 1), (21, .iload_n 1, 1), (22, .invokevirtual 86, 3), (25, .iinc 1 1, 3), (28, .goto (-26), 3), (31, .return_, 1)]
def mX5_pairMoved : gM := (cX5_pairMoved, 2, RX5, iX5_pairMoved, ftX5, { frames := 2, cells := 0, slots := 0, locals := 44 })
theorem diX5_pairMoved : ∀ q ∈ iX5_pairMoved, decode cX5_pairMoved q.1 = .ok (q.2.1, q.2.2) ∧ gwell 2 q.1 q.2.1 q.2.2 = true := by decide +kernel
theorem kX5_pairMoved : gOkM mX5_pairMoved := ⟨diX5_pairMoved, foX5⟩
theorem aX5_pairMoved : gCalV yX5_pairMoved mX5_pairMoved none 0 := by unfold gCalV; decide +kernel
def iX5_pairWithFirstNew : List gI := [(0, .iconst 0, 1), (1, .istore_n 2, 1), (2, .iload_n 2, 1), (3, .aload_n 0, 1), (4, .getfield 25, 3), (7, .if_icmp .ge 73, 3), (10, .aload_n 0, 1), (11, .iload_n 2, 1), (12, .iconst 0, 1), (13, .invokevirtual 29, 3), (16, .iconst 3, 1), (17, .if_icmp .ne 57, 3), (20, .aload_n 0, 1), (21, .iload_n 2, 1), (22, .iconst 1, 1), (23, .invokevirtual 29, 3), (26, .aload_n 0, 1), (27, .iload_n 1, 1), (28, .iconst 1, 1), (29, .invokevirtual 29, 3), (32, .if_icmp .ne 42, 3), (35, .aload_n 0, 1), (36, .getfield 11, 3), (39, .iload_n 1, 1), (40, .iconst 4, 1), (41, .imul, 1), (42, .iconst 0, 1), (43, .iadd, 1), (44, .iconst 2, 1), (45, .iastore, 1), (46, .aload_n 0, 1), (47, .getfield 11, 3), (50, .iload_n 1, 1), (51, .iconst 4, 1), (52, .imul, 1), (53, .iconst 3, 1), (54, .iadd, 1), (55, .aload_n 0, 1), (56, .iload_n 2, 1), (57, .iconst 3, 1), (58, .invokevirtual 29, 3), (61, .iastore, 1), (62, .aload_n 0, 1), (63, .getfield 11, 3), (66, .iload_n 2, 1), (67, .iconst 4, 1), (68, .imul, 1), (69, .iconst 0, 1), (70, .iadd, 1), (71, .iconst 0, 1), (72, .iastore, 1), (73, .return_, 1), (74, .iinc 2 1, 3), (77, .goto (-75), 3), (80, .return_, 1)]
def mX5_pairWithFirstNew : gM := (cX5_pairWithFirstNew, 3, RX5, iX5_pairWithFirstNew, ftX5, { frames := 1, cells := 0, slots := 0, locals := 22 })
theorem diX5_pairWithFirstNew : ∀ q ∈ iX5_pairWithFirstNew, decode cX5_pairWithFirstNew q.1 = .ok (q.2.1, q.2.2) ∧ gwell 3 q.1 q.2.1 q.2.2 = true := by decide +kernel
theorem kX5_pairWithFirstNew : gOkM mX5_pairWithFirstNew := ⟨diX5_pairWithFirstNew, foX5⟩
theorem aX5_pairWithFirstNew : gCalV yX5_pairWithFirstNew mX5_pairWithFirstNew none 1 := by unfold gCalV; decide +kernel
def iX5_dropUntold : List gI := [(0, .iconst 0, 1), (1, .istore_n 1, 1), (2, .iconst 0, 1), (3, .istore_n 2, 1), (4, .iload_n 2, 1), (5, .aload_n 0, 1), (6, .getfield 25, 3), (9, .if_icmp .ge 39, 3), (12, .aload_n 0, 1), (13, .iload_n 2, 1), (14, .iconst 0, 1), (15, .invokevirtual 29, 3), (18, .ifCond .eq 24, 3), (21, .aload_n 0, 1), (22, .getfield 11, 3), (25, .iload_n 2, 1), (26, .iconst 4, 1), (27, .imul, 1), (28, .aload_n 0, 1), (29, .getfield 11, 3), (32, .iload_n 1, 1), (33, .iconst 4, 1), (34, .imul, 1), (35, .iconst 4, 1), (36, .invokestatic 90, 3), (39, .iinc 1 1, 3), (42, .iinc 2 1, 3), (45, .goto (-41), 3), (48, .aload_n 0, 1), (49, .iload_n 1, 1), (50, .putfield 25, 3), (53, .return_, 1)]
def mX5_dropUntold : gM := (cX5_dropUntold, 3, RX5, iX5_dropUntold, ftX5, { frames := 1, cells := 0, slots := 0, locals := 22 })
theorem diX5_dropUntold : ∀ q ∈ iX5_dropUntold, decode cX5_dropUntold q.1 = .ok (q.2.1, q.2.2) ∧ gwell 3 q.1 q.2.1 q.2.2 = true := by decide +kernel
theorem kX5_dropUntold : gOkM mX5_dropUntold := ⟨diX5_dropUntold, foX5⟩
theorem aX5_dropUntold : gCalV yX5_dropUntold mX5_dropUntold none 0 := by unfold gCalV; decide +kernel
def ftX6 : List gFt := [(9, 7, 1, 2), (15, 7, 2, 2), (18, 7, 3, 2), (21, 7, 4, 2), (24, 7, 0, 0)]
theorem foX6 : ∀ f ∈ ftX6, gfok RX6 f = true := by decide +kernel
def iX6_add : List gI := [(0, .aload_n 0, 1), (1, .getfield 24, 3), (4, .istore 4, 2), (6, .aload_n 0, 1), (7, .getfield 9, 3), (10, .iload 4, 2), (12, .iload_n 1, 1), (13, .iastore, 1), (14, .aload_n 0, 1), (15, .getfield 15, 3), (18, .iload 4, 2), (20, .iload_n 2, 1), (21, .iastore, 1), (22, .aload_n 0, 1), (23, .getfield 18, 3), (26, .iload 4, 2), (28, .iload_n 3, 1), (29, .iastore, 1), (30, .iload 4, 2), (32, .istore 5, 2), (34, .iload 5, 2), (36, .ifCond .le 43, 3), (39, .aload_n 0, 1), (40, .aload_n 0, 1), (41, .getfield 21, 3), (44, .iload 5, 2), (46, .iconst 1, 1), (47, .isub, 1), (48, .iaload, 1), (49, .iload_n 2, 1), (50, .iload_n 3, 1), (51, .invokevirtual 28, 3), (54, .ifCond .eq 25, 3), (57, .aload_n 0, 1), (58, .getfield 21, 3), (61, .iload 5, 2), (63, .aload_n 0, 1), (64, .getfield 21, 3), (67, .iload 5, 2), (69, .iconst 1, 1), (70, .isub, 1), (71, .iaload, 1), (72, .iastore, 1), (73, .iinc 5 (-1), 3), (76, .goto (-42), 3), (79, .aload_n 0, 1), (80, .getfield 21, 3), (83, .iload 5, 2), (85, .iload 4, 2), (87, .iastore, 1), (88, .aload_n 0, 1), (89, .dup, 1), (90, .getfield 24, 3), (93, .iconst 1, 1), (94, .iadd, 1), (95, .putfield 24, 3), (98, .iload 4, 2), (100, .ireturn, 1)]
def mX6_add : gM := (cX6_add, 6, RX6, iX6_add, ftX6, { frames := 1, cells := 0, slots := 0, locals := 23 })
theorem diX6_add : ∀ q ∈ iX6_add, decode cX6_add q.1 = .ok (q.2.1, q.2.2) ∧ gwell 6 q.1 q.2.1 q.2.2 = true := by decide +kernel
theorem kX6_add : gOkM mX6_add := ⟨diX6_add, foX6⟩
theorem aX6_add : gCalV yX6_add mX6_add (some .int) 3 := by unfold gCalV; decide +kernel
def iX6_numberAt : List gI := [(0, .aload_n 0, 1), (1, .getfield 21, 3), (4, .iload_n 1, 1), (5, .iaload, 1), (6, .ireturn, 1)]
def mX6_numberAt : gM := (cX6_numberAt, 2, RX6, iX6_numberAt, ftX6, { frames := 0, cells := 0, slots := 0, locals := 0 })
theorem diX6_numberAt : ∀ q ∈ iX6_numberAt, decode cX6_numberAt q.1 = .ok (q.2.1, q.2.2) ∧ gwell 2 q.1 q.2.1 q.2.2 = true := by decide +kernel
theorem kX6_numberAt : gOkM mX6_numberAt := ⟨diX6_numberAt, foX6⟩
theorem aX6_numberAt : gCalV yX6_numberAt mX6_numberAt (some .int) 1 := by unfold gCalV; decide +kernel
def iX6_valueAt : List gI := [(0, .aload_n 0, 1), (1, .getfield 9, 3), (4, .aload_n 0, 1), (5, .getfield 21, 3), (8, .iload_n 1, 1), (9, .iaload, 1), (10, .iaload, 1), (11, .ireturn, 1)]
def mX6_valueAt : gM := (cX6_valueAt, 2, RX6, iX6_valueAt, ftX6, { frames := 0, cells := 0, slots := 0, locals := 0 })
theorem diX6_valueAt : ∀ q ∈ iX6_valueAt, decode cX6_valueAt q.1 = .ok (q.2.1, q.2.2) ∧ gwell 2 q.1 q.2.1 q.2.2 = true := by decide +kernel
theorem kX6_valueAt : gOkM mX6_valueAt := ⟨diX6_valueAt, foX6⟩
theorem aX6_valueAt : gCalV yX6_valueAt mX6_valueAt (some .int) 1 := by unfold gCalV; decide +kernel
def iX6_isSamePlace : List gI := [(0, .aload_n 0, 1), (1, .getfield 21, 3), (4, .iload_n 1, 1), (5, .iaload, 1), (6, .istore 4, 2), (8, .aload_n 2, 1), (9, .getfield 21, 3), (12, .iload_n 3, 1), (13, .iaload, 1), (14, .istore 5, 2), (16, .aload_n 0, 1), (17, .getfield 15, 3), (20, .iload 4, 2), (22, .iaload, 1), (23, .aload_n 2, 1), (24, .getfield 15, 3), (27, .iload 5, 2), (29, .iaload, 1), (30, .if_icmp .ne 24, 3), (33, .aload_n 0, 1), (34, .getfield 18, 3), (37, .iload 4, 2), (39, .iaload, 1), (40, .aload_n 2, 1), (41, .getfield 18, 3), (44, .iload 5, 2), (46, .iaload, 1), (47, .if_icmp .ne 7, 3), (50, .iconst 1, 1), (51, .goto 4, 3), (54, .iconst 0, 1), (55, .ireturn, 1)]
def mX6_isSamePlace : gM := (cX6_isSamePlace, 6, RX6, iX6_isSamePlace, ftX6, { frames := 0, cells := 0, slots := 0, locals := 0 })
theorem diX6_isSamePlace : ∀ q ∈ iX6_isSamePlace, decode cX6_isSamePlace q.1 = .ok (q.2.1, q.2.2) ∧ gwell 6 q.1 q.2.1 q.2.2 = true := by decide +kernel
theorem kX6_isSamePlace : gOkM mX6_isSamePlace := ⟨diX6_isSamePlace, foX6⟩
theorem aX6_isSamePlace : gCalV yX6_isSamePlace mX6_isSamePlace (some .boolean) 3 := by unfold gCalV; decide +kernel
def iX6_liesBehind : List gI := [(0, .aload_n 0, 1), (1, .getfield 18, 3), (4, .iload_n 1, 1), (5, .iaload, 1), (6, .iload_n 3, 1), (7, .if_icmp .eq 21, 3), (10, .aload_n 0, 1), (11, .getfield 18, 3), (14, .iload_n 1, 1), (15, .iaload, 1), (16, .iload_n 3, 1), (17, .if_icmp .le 7, 3), (20, .iconst 1, 1), (21, .goto 22, 3), (24, .iconst 0, 1), (25, .goto 18, 3), (28, .aload_n 0, 1), (29, .getfield 15, 3), (32, .iload_n 1, 1), (33, .iaload, 1), (34, .iload_n 2, 1), (35, .if_icmp .le 7, 3), (38, .iconst 1, 1), (39, .goto 4, 3), (42, .iconst 0, 1), (43, .ireturn, 1)]
def mX6_liesBehind : gM := (cX6_liesBehind, 4, RX6, iX6_liesBehind, ftX6, { frames := 0, cells := 0, slots := 0, locals := 0 })
theorem diX6_liesBehind : ∀ q ∈ iX6_liesBehind, decode cX6_liesBehind q.1 = .ok (q.2.1, q.2.2) ∧ gwell 4 q.1 q.2.1 q.2.2 = true := by decide +kernel
theorem kX6_liesBehind : gOkM mX6_liesBehind := ⟨diX6_liesBehind, foX6⟩
theorem aX6_liesBehind : gCalV yX6_liesBehind mX6_liesBehind (some .boolean) 3 := by unfold gCalV; decide +kernel
end
section
def ftX8 : List gFt := [(7, 9, 3, 2), (13, 9, 6, 1), (17, 9, 7, 2), (21, 9, 8, 2), (24, 9, 11, 2), (27, 9, 12, 2), (30, 9, 13, 2), (33, 9, 14, 2), (36, 9, 15, 2), (39, 9, 16, 2), (42, 9, 17, 1), (45, 9, 18, 2), (48, 9, 20, 2), (51, 9, 21, 2), (54, 9, 22, 2), (57, 9, 24, 2), (60, 9, 25, 2), (63, 9, 26, 2), (66, 9, 28, 2), (69, 9, 29, 2), (72, 9, 30, 2), (75, 9, 31, 2), (78, 9, 32, 2), (81, 9, 1, 2), (85, 9, 2, 2), (88, 9, 0, 0), (95, 9, 4, 0), (98, 9, 5, 0), (105, 9, 10, 0), (116, 9, 9, 0), (140, 9, 19, 0), (160, 9, 23, 0), (170, 9, 27, 0)]
theorem foX8 : ∀ f ∈ ftX8, gfok RX8 f = true := by decide +kernel
def iX8_thrown : List gI := [(0, .aload_n 0, 1), (1, .getfield 88, 3), (4, .ireturn, 1)]
def mX8_thrown : gM := (cX8_thrown, 1, RX8, iX8_thrown, ftX8, { frames := 0, cells := 0, slots := 0, locals := 0 })
theorem diX8_thrown : ∀ q ∈ iX8_thrown, decode cX8_thrown q.1 = .ok (q.2.1, q.2.2) ∧ gwell 1 q.1 q.2.1 q.2.2 = true := by decide +kernel
theorem kX8_thrown : gOkM mX8_thrown := ⟨diX8_thrown, foX8⟩
theorem aX8_thrown : gCalV yX8_thrown mX8_thrown (some .int) 0 := by unfold gCalV; decide +kernel
def iX8_in : List gI := [(0, .iload_n 0, 1), (1, .iload_n 1, 1), (2, .if_icmp .lt 12, 3), (5, .iload_n 0, 1), (6, .iload_n 2, 1), (7, .if_icmp .gt 7, 3), (10, .iconst 1, 1), (11, .goto 4, 3), (14, .iconst 0, 1), (15, .ireturn, 1)]
def mX8_in : gM := (cX8_in, 3, RX8, iX8_in, ftX8, { frames := 0, cells := 0, slots := 0, locals := 0 })
theorem diX8_in : ∀ q ∈ iX8_in, decode cX8_in q.1 = .ok (q.2.1, q.2.2) ∧ gwell 3 q.1 q.2.1 q.2.2 = true := by decide +kernel
theorem kX8_in : gOkM mX8_in := ⟨diX8_in, foX8⟩
theorem aX8_in : gCalS yX8_in mX8_in (some .boolean) 3 := by unfold gCalS; decide +kernel
def iX8_point : List gI := [(0, .iload_n 1, 1), (1, .iconst 0, 1), (2, .iconst 1, 1), (3, .invokestatic 91, 3), (6, .ifCond .eq 35, 3), (9, .iload_n 2, 1), (10, .iconst 0, 1), (11, .aload_n 0, 1), (12, .getfield 81, 3), (15, .iconst 1, 1), (16, .isub, 1), (17, .invokestatic 91, 3), (20, .ifCond .eq 21, 3), (23, .iload_n 3, 1), (24, .iconst 0, 1), (25, .aload_n 0, 1), (26, .getfield 85, 3), (29, .iconst 1, 1), (30, .isub, 1), (31, .invokestatic 91, 3), (34, .ifCond .eq 7, 3), (37, .iconst 1, 1), (38, .goto 4, 3), (41, .iconst 0, 1), (42, .istore 5, 2), (44, .aload_n 0, 1), (45, .iload 5, 2), (47, .ifCond .eq 7, 3), (50, .iconst 0, 1), (51, .goto 4, 3), (54, .iconst 1, 1), (55, .putfield 88, 3), (58, .aload_n 0, 1), (59, .getfield 88, 3), (62, .ifCond .le 5, 3), (65, .iconst 0, 1), (66, .ireturn, 1), (67, .sipush 1024, 3), (70, .iload_n 1, 1), (71, .imul, 1), (72, .bipush 32, 2), (74, .iload_n 3, 1), (75, .imul, 1), (76, .iadd, 1), (77, .iload_n 2, 1), (78, .iadd, 1), (79, .istore 6, 2), (81, .aload_n 0, 1), (82, .getfield 7, 3), (85, .iload 6, 2), (87, .iaload, 1), (88, .istore 7, 2), (90, .aload_n 0, 1), (91, .getfield 7, 3), (94, .iload 6, 2), (96, .iload 4, 2), (98, .sipush 255, 3), (101, .iand, 1), (102, .iastore, 1), (103, .aload_n 0, 1), (104, .iconst 1, 1), (105, .putfield 13, 3), (108, .iload 7, 2), (110, .ireturn, 1)]
def mX8_point : gM := (cX8_point, 8, RX8, iX8_point, ftX8, { frames := 1, cells := 0, slots := 0, locals := 22 })
theorem diX8_point : ∀ q ∈ iX8_point, decode cX8_point q.1 = .ok (q.2.1, q.2.2) ∧ gwell 8 q.1 q.2.1 q.2.2 = true := by decide +kernel
theorem kX8_point : gOkM mX8_point := ⟨diX8_point, foX8⟩
theorem aX8_point : gCalV yX8_point mX8_point (some .int) 4 := by unfold gCalV; decide +kernel
def iX8_bound : List gI := [(0, .aload_n 0, 1), (1, .iload_n 1, 1), (2, .iconst 0, 1), (3, .sipush 255, 3), (6, .invokestatic 91, 3), (9, .ifCond .eq 16, 3), (12, .iload_n 2, 1), (13, .iconst 0, 1), (14, .iconst 2, 1), (15, .invokestatic 91, 3), (18, .ifCond .eq 7, 3), (21, .iconst 0, 1), (22, .goto 4, 3), (25, .iconst 1, 1), (26, .putfield 88, 3), (29, .aload_n 0, 1), (30, .getfield 88, 3), (33, .ifCond .le 5, 3), (36, .iconst 0, 1), (37, .ireturn, 1), (38, .bipush 10, 2), (40, .aload_n 0, 1), (41, .getfield 95, 3), (44, .imul, 1), (45, .aload_n 0, 1), (46, .getfield 98, 3), (49, .iadd, 1), (50, .istore_n 3, 1), (51, .aload_n 0, 1), (52, .iload_n 1, 1), (53, .putfield 95, 3), (56, .aload_n 0, 1), (57, .iload_n 2, 1), (58, .putfield 98, 3), (61, .aload_n 0, 1), (62, .iconst 1, 1), (63, .putfield 13, 3), (66, .iload_n 3, 1), (67, .ireturn, 1)]
def mX8_bound : gM := (cX8_bound, 4, RX8, iX8_bound, ftX8, { frames := 1, cells := 0, slots := 0, locals := 22 })
theorem diX8_bound : ∀ q ∈ iX8_bound, decode cX8_bound q.1 = .ok (q.2.1, q.2.2) ∧ gwell 4 q.1 q.2.1 q.2.2 = true := by decide +kernel
theorem kX8_bound : gOkM mX8_bound := ⟨diX8_bound, foX8⟩
theorem aX8_bound : gCalV yX8_bound mX8_bound (some .int) 2 := by unfold gCalV; decide +kernel
def iX8_isMet : List gI := [(0, .iconst 0, 1), (1, .istore 4, 2), (3, .aload_n 0, 1), (4, .getfield 98, 3), (7, .ineg, 1), (8, .istore 5, 2), (10, .iload 5, 2), (12, .aload_n 0, 1), (13, .getfield 98, 3), (16, .if_icmp .gt 143, 3), (19, .aload_n 0, 1), (20, .getfield 98, 3), (23, .ineg, 1), (24, .istore 6, 2), (26, .iload 6, 2), (28, .aload_n 0, 1), (29, .getfield 98, 3), (32, .if_icmp .gt 121, 3), (35, .iload_n 2, 1), (36, .iload 6, 2), (38, .iadd, 1), (39, .iconst 0, 1), (40, .aload_n 0, 1), (41, .getfield 81, 3), (44, .iconst 1, 1), (45, .isub, 1), (46, .invokestatic 91, 3), (49, .ifCond .eq 98, 3), (52, .iload_n 3, 1), (53, .iload 5, 2), (55, .iadd, 1), (56, .iconst 0, 1), (57, .aload_n 0, 1), (58, .getfield 85, 3), (61, .iconst 1, 1), (62, .isub, 1), (63, .invokestatic 91, 3), (66, .ifCond .eq 81, 3), (69, .aload_n 0, 1), (70, .getfield 7, 3), (73, .sipush 1024, 3), (76, .iload_n 1, 1), (77, .imul, 1), (78, .bipush 32, 2), (80, .iload_n 3, 1), (81, .imul, 1), (82, .iadd, 1), (83, .iload_n 2, 1), (84, .iadd, 1), (85, .iaload, 1), (86, .aload_n 0, 1), (87, .getfield 7, 3), (90, .sipush 1024, 3), (93, .sipush 1024, 3), (96, .iload_n 1, 1), (97, .imul, 1), (98, .isub, 1), (99, .bipush 32, 2), (101, .iload_n 3, 1), (102, .iload 5, 2), (104, .iadd, 1), (105, .imul, 1), (106, .iadd, 1), (107, .iload_n 2, 1), (108, .iadd, 1), (109, .iload 6, 2), (111, .iadd, 1), (112, .iaload, 1), (113, .isub, 1), (114, .istore 7, 2), (116, .iload 4, 2), (118, .ifCond .ne 22, 3), (121, .iload 7, 2), (123, .aload_n 0, 1), (124, .getfield 95, 3), (127, .if_icmp .gt 17, 3), (130, .iload 7, 2), (132, .ineg, 1), (133, .aload_n 0, 1), (134, .getfield 95, 3), (137, .if_icmp .gt 7, 3), (140, .iconst 1, 1), (141, .goto 4, 3), (144, .iconst 0, 1), (145, .istore 4, 2), (147, .iinc 6 1, 3), (150, .goto (-124), 3), (153, .iinc 5 1, 3), (156, .goto (-146), 3), (159, .iload 4, 2), (161, .ireturn, 1)]
def mX8_isMet : gM := (cX8_isMet, 8, RX8, iX8_isMet, ftX8, { frames := 1, cells := 0, slots := 0, locals := 22 })
theorem diX8_isMet : ∀ q ∈ iX8_isMet, decode cX8_isMet q.1 = .ok (q.2.1, q.2.2) ∧ gwell 8 q.1 q.2.1 q.2.2 = true := by decide +kernel
theorem kX8_isMet : gOkM mX8_isMet := ⟨diX8_isMet, foX8⟩
theorem aX8_isMet : gCalV yX8_isMet mX8_isMet (some .boolean) 3 := by unfold gCalV; decide +kernel
def iX8_leastNear : List gI := [(0, .aload_n 0, 1), (1, .getfield 21, 3), (4, .bipush 32, 2), (6, .iload_n 2, 1), (7, .imul, 1), (8, .iload_n 1, 1), (9, .iadd, 1), (10, .iaload, 1), (11, .istore_n 3, 1), (12, .iload_n 2, 1), (13, .aload_n 0, 1), (14, .getfield 98, 3), (17, .isub, 1), (18, .iconst 1, 1), (19, .isub, 1), (20, .istore 4, 2), (22, .iload 4, 2), (24, .iload_n 2, 1), (25, .aload_n 0, 1), (26, .getfield 98, 3), (29, .iadd, 1), (30, .iconst 1, 1), (31, .iadd, 1), (32, .if_icmp .gt 115, 3), (35, .iload_n 1, 1), (36, .aload_n 0, 1), (37, .getfield 98, 3), (40, .isub, 1), (41, .iconst 1, 1), (42, .isub, 1), (43, .istore 5, 2), (45, .iload 5, 2), (47, .iload_n 1, 1), (48, .aload_n 0, 1), (49, .getfield 98, 3), (52, .iadd, 1), (53, .iconst 1, 1), (54, .iadd, 1), (55, .if_icmp .gt 86, 3), (58, .iload 5, 2), (60, .iconst 0, 1), (61, .aload_n 0, 1), (62, .getfield 81, 3), (65, .iconst 1, 1), (66, .isub, 1), (67, .invokestatic 91, 3), (70, .ifCond .eq 65, 3), (73, .iload 4, 2), (75, .iconst 0, 1), (76, .aload_n 0, 1), (77, .getfield 85, 3), (80, .iconst 1, 1), (81, .isub, 1), (82, .invokestatic 91, 3), (85, .ifCond .eq 50, 3), (88, .aload_n 0, 1), (89, .getfield 17, 3), (92, .bipush 32, 2), (94, .iload 4, 2), (96, .imul, 1), (97, .iload 5, 2), (99, .iadd, 1), (100, .baload, 1), (101, .ifCond .eq 34, 3), (104, .aload_n 0, 1), (105, .getfield 21, 3), (108, .bipush 32, 2), (110, .iload 4, 2), (112, .imul, 1), (113, .iload 5, 2), (115, .iadd, 1), (116, .iaload, 1), (117, .iload_n 3, 1), (118, .if_icmp .ge 17, 3), (121, .aload_n 0, 1), (122, .getfield 21, 3), (125, .bipush 32, 2), (127, .iload 4, 2), (129, .imul, 1), (130, .iload 5, 2), (132, .iadd, 1), (133, .iaload, 1), (134, .istore_n 3, 1), (135, .iinc 5 1, 3), (138, .goto (-93), 3), (141, .iinc 4 1, 3), (144, .goto (-122), 3), (147, .iload_n 3, 1), (148, .ireturn, 1)]
def mX8_leastNear : gM := (cX8_leastNear, 6, RX8, iX8_leastNear, ftX8, { frames := 1, cells := 0, slots := 0, locals := 22 })
theorem diX8_leastNear : ∀ q ∈ iX8_leastNear, decode cX8_leastNear q.1 = .ok (q.2.1, q.2.2) ∧ gwell 6 q.1 q.2.1 q.2.2 = true := by decide +kernel
theorem kX8_leastNear : gOkM mX8_leastNear := ⟨diX8_leastNear, foX8⟩
theorem aX8_leastNear : gCalV yX8_leastNear mX8_leastNear (some .int) 2 := by unfold gCalV; decide +kernel
def iX8_spread : List gI := [(0, .iconst 1, 1), (1, .istore_n 1, 1), (2, .iload_n 1, 1), (3, .ifCond .eq 97, 3), (6, .iconst 0, 1), (7, .istore_n 1, 1), (8, .iconst 0, 1), (9, .istore_n 2, 1), (10, .iload_n 2, 1), (11, .aload_n 0, 1), (12, .getfield 85, 3), (15, .if_icmp .ge 82, 3), (18, .iconst 0, 1), (19, .istore_n 3, 1), (20, .iload_n 3, 1), (21, .aload_n 0, 1), (22, .getfield 81, 3), (25, .if_icmp .ge 66, 3), (28, .bipush 32, 2), (30, .iload_n 2, 1), (31, .imul, 1), (32, .iload_n 3, 1), (33, .iadd, 1), (34, .istore 4, 2), (36, .aload_n 0, 1), (37, .getfield 17, 3), (40, .iload 4, 2), (42, .baload, 1), (43, .ifCond .eq 42, 3), (46, .aload_n 0, 1), (47, .iload_n 3, 1), (48, .iload_n 2, 1), (49, .invokevirtual 101, 3), (52, .istore 5, 2), (54, .iload_n 1, 1), (55, .ifCond .ne 15, 3), (58, .iload 5, 2), (60, .aload_n 0, 1), (61, .getfield 21, 3), (64, .iload 4, 2), (66, .iaload, 1), (67, .if_icmp .ge 7, 3), (70, .iconst 1, 1), (71, .goto 4, 3), (74, .iconst 0, 1), (75, .istore_n 1, 1), (76, .aload_n 0, 1), (77, .getfield 21, 3), (80, .iload 4, 2), (82, .iload 5, 2), (84, .iastore, 1), (85, .iinc 3 1, 3), (88, .goto (-68), 3), (91, .iinc 2 1, 3), (94, .goto (-84), 3), (97, .goto (-95), 3), (100, .return_, 1)]
def mX8_spread : gM := (cX8_spread, 6, RX8, iX8_spread, ftX8, { frames := 2, cells := 0, slots := 0, locals := 47 })
theorem diX8_spread : ∀ q ∈ iX8_spread, decode cX8_spread q.1 = .ok (q.2.1, q.2.2) ∧ gwell 6 q.1 q.2.1 q.2.2 = true := by decide +kernel
theorem kX8_spread : gOkM mX8_spread := ⟨diX8_spread, foX8⟩
theorem aX8_spread : gCalV yX8_spread mX8_spread none 0 := by unfold gCalV; decide +kernel
def iX8_grow : List gI := [(0, .iconst 4, 1), (1, .iload_n 1, 1), (2, .imul, 1), (3, .istore 6, 2), (5, .aload_n 0, 1), (6, .getfield 24, 3), (9, .iload 6, 2), (11, .iload_n 2, 1), (12, .aload_n 0, 1), (13, .getfield 24, 3), (16, .iload 6, 2), (18, .iaload, 1), (19, .if_icmp .ge 7, 3), (22, .iload_n 2, 1), (23, .goto 10, 3), (26, .aload_n 0, 1), (27, .getfield 24, 3), (30, .iload 6, 2), (32, .iaload, 1), (33, .iastore, 1), (34, .aload_n 0, 1), (35, .getfield 24, 3), (38, .iload 6, 2), (40, .iconst 1, 1), (41, .iadd, 1), (42, .iload_n 3, 1), (43, .aload_n 0, 1), (44, .getfield 24, 3), (47, .iload 6, 2), (49, .iconst 1, 1), (50, .iadd, 1), (51, .iaload, 1), (52, .if_icmp .ge 7, 3), (55, .iload_n 3, 1), (56, .goto 12, 3), (59, .aload_n 0, 1), (60, .getfield 24, 3), (63, .iload 6, 2), (65, .iconst 1, 1), (66, .iadd, 1), (67, .iaload, 1), (68, .iastore, 1), (69, .aload_n 0, 1), (70, .getfield 24, 3), (73, .iload 6, 2), (75, .iconst 2, 1), (76, .iadd, 1), (77, .iload 4, 2), (79, .aload_n 0, 1), (80, .getfield 24, 3), (83, .iload 6, 2), (85, .iconst 2, 1), (86, .iadd, 1), (87, .iaload, 1), (88, .if_icmp .le 8, 3), (91, .iload 4, 2), (93, .goto 12, 3), (96, .aload_n 0, 1), (97, .getfield 24, 3), (100, .iload 6, 2), (102, .iconst 2, 1), (103, .iadd, 1), (104, .iaload, 1), (105, .iastore, 1), (106, .aload_n 0, 1), (107, .getfield 24, 3), (110, .iload 6, 2), (112, .iconst 3, 1), (113, .iadd, 1), (114, .iload 5, 2), (116, .aload_n 0, 1), (117, .getfield 24, 3), (120, .iload 6, 2), (122, .iconst 3, 1), (123, .iadd, 1), (124, .iaload, 1), (125, .if_icmp .le 8, 3), (128, .iload 5, 2), (130, .goto 12, 3), (133, .aload_n 0, 1), (134, .getfield 24, 3), (137, .iload 6, 2), (139, .iconst 3, 1), (140, .iadd, 1), (141, .iaload, 1), (142, .iastore, 1), (143, .return_, 1)]
def mX8_grow : gM := (cX8_grow, 7, RX8, iX8_grow, ftX8, { frames := 0, cells := 0, slots := 0, locals := 0 })
theorem diX8_grow : ∀ q ∈ iX8_grow, decode cX8_grow q.1 = .ok (q.2.1, q.2.2) ∧ gwell 7 q.1 q.2.1 q.2.2 = true := by decide +kernel
theorem kX8_grow : gOkM mX8_grow := ⟨diX8_grow, foX8⟩
theorem aX8_grow : gCalV yX8_grow mX8_grow none 5 := by unfold gCalV; decide +kernel
def iX8_makeBoxes : List gI := [(0, .aload_n 0, 1), (1, .iconst 0, 1), (2, .putfield 105, 3), (5, .iconst 0, 1), (6, .istore_n 1, 1), (7, .iload_n 1, 1), (8, .sipush 1024, 3), (11, .if_icmp .ge 139, 3), (14, .aload_n 0, 1), (15, .getfield 17, 3), (18, .iload_n 1, 1), (19, .baload, 1), (20, .ifCond .eq 124, 3), (23, .aload_n 0, 1), (24, .getfield 21, 3), (27, .iload_n 1, 1), (28, .iaload, 1), (29, .iload_n 1, 1), (30, .if_icmp .ne 114, 3), (33, .iconst 0, 1), (34, .istore_n 2, 1), (35, .iload_n 2, 1), (36, .iconst 4, 1), (37, .if_icmp .ge 39, 3), (40, .aload_n 0, 1), (41, .getfield 24, 3), (44, .iconst 4, 1), (45, .aload_n 0, 1), (46, .getfield 105, 3), (49, .imul, 1), (50, .iload_n 2, 1), (51, .iadd, 1), (52, .iload_n 2, 1), (53, .iconst 2, 1), (54, .irem, 1), (55, .ifCond .ne 10, 3), (58, .iload_n 1, 1), (59, .bipush 32, 2), (61, .irem, 1), (62, .goto 7, 3), (65, .iload_n 1, 1), (66, .bipush 32, 2), (68, .idiv, 1), (69, .iastore, 1), (70, .iinc 2 1, 3), (73, .goto (-38), 3), (76, .iconst 0, 1), (77, .istore_n 2, 1), (78, .iload_n 2, 1), (79, .sipush 1024, 3), (82, .if_icmp .ge 52, 3), (85, .aload_n 0, 1), (86, .getfield 17, 3), (89, .iload_n 2, 1), (90, .baload, 1), (91, .ifCond .eq 37, 3), (94, .aload_n 0, 1), (95, .getfield 21, 3), (98, .iload_n 2, 1), (99, .iaload, 1), (100, .iload_n 1, 1), (101, .if_icmp .ne 27, 3), (104, .aload_n 0, 1), (105, .aload_n 0, 1), (106, .getfield 105, 3), (109, .iload_n 2, 1), (110, .bipush 32, 2), (112, .irem, 1), (113, .iload_n 2, 1), (114, .bipush 32, 2), (116, .idiv, 1), (117, .iload_n 2, 1), (118, .bipush 32, 2), (120, .irem, 1), (121, .iload_n 2, 1), (122, .bipush 32, 2), (124, .idiv, 1), (125, .invokevirtual 108, 3), (128, .iinc 2 1, 3), (131, .goto (-53), 3), (134, .aload_n 0, 1), (135, .dup, 1), (136, .getfield 105, 3), (139, .iconst 1, 1), (140, .iadd, 1), (141, .putfield 105, 3), (144, .iinc 1 1, 3), (147, .goto (-140), 3), (150, .return_, 1)]
def mX8_makeBoxes : gM := (cX8_makeBoxes, 3, RX8, iX8_makeBoxes, ftX8, { frames := 1, cells := 0, slots := 0, locals := 26 })
theorem diX8_makeBoxes : ∀ q ∈ iX8_makeBoxes, decode cX8_makeBoxes q.1 = .ok (q.2.1, q.2.2) ∧ gwell 3 q.1 q.2.1 q.2.2 = true := by decide +kernel
theorem kX8_makeBoxes : gOkM mX8_makeBoxes := ⟨diX8_makeBoxes, foX8⟩
theorem aX8_makeBoxes : gCalV yX8_makeBoxes mX8_makeBoxes none 0 := by unfold gCalV; decide +kernel
def iX8_share : List gI := [(0, .aload_n 0, 1), (1, .getfield 24, 3), (4, .iconst 4, 1), (5, .iload_n 1, 1), (6, .imul, 1), (7, .iconst 2, 1), (8, .iadd, 1), (9, .iaload, 1), (10, .aload_n 0, 1), (11, .getfield 24, 3), (14, .iconst 4, 1), (15, .iload_n 2, 1), (16, .imul, 1), (17, .iaload, 1), (18, .if_icmp .lt 24, 3), (21, .aload_n 0, 1), (22, .getfield 24, 3), (25, .iconst 4, 1), (26, .iload_n 2, 1), (27, .imul, 1), (28, .iconst 2, 1), (29, .iadd, 1), (30, .iaload, 1), (31, .aload_n 0, 1), (32, .getfield 24, 3), (35, .iconst 4, 1), (36, .iload_n 1, 1), (37, .imul, 1), (38, .iaload, 1), (39, .if_icmp .ge 7, 3), (42, .iconst 1, 1), (43, .goto 4, 3), (46, .iconst 0, 1), (47, .istore_n 3, 1), (48, .aload_n 0, 1), (49, .getfield 24, 3), (52, .iconst 4, 1), (53, .iload_n 1, 1), (54, .imul, 1), (55, .iconst 3, 1), (56, .iadd, 1), (57, .iaload, 1), (58, .aload_n 0, 1), (59, .getfield 24, 3), (62, .iconst 4, 1), (63, .iload_n 2, 1), (64, .imul, 1), (65, .iconst 1, 1), (66, .iadd, 1), (67, .iaload, 1), (68, .if_icmp .lt 26, 3), (71, .aload_n 0, 1), (72, .getfield 24, 3), (75, .iconst 4, 1), (76, .iload_n 2, 1), (77, .imul, 1), (78, .iconst 3, 1), (79, .iadd, 1), (80, .iaload, 1), (81, .aload_n 0, 1), (82, .getfield 24, 3), (85, .iconst 4, 1), (86, .iload_n 1, 1), (87, .imul, 1), (88, .iconst 1, 1), (89, .iadd, 1), (90, .iaload, 1), (91, .if_icmp .ge 7, 3), (94, .iconst 1, 1), (95, .goto 4, 3), (98, .iconst 0, 1), (99, .istore 4, 2), (101, .iload_n 3, 1), (102, .ifCond .ne 12, 3), (105, .iload 4, 2), (107, .ifCond .ne 7, 3), (110, .iconst 1, 1), (111, .goto 4, 3), (114, .iconst 0, 1), (115, .ireturn, 1)]
def mX8_share : gM := (cX8_share, 5, RX8, iX8_share, ftX8, { frames := 0, cells := 0, slots := 0, locals := 0 })
theorem diX8_share : ∀ q ∈ iX8_share, decode cX8_share q.1 = .ok (q.2.1, q.2.2) ∧ gwell 5 q.1 q.2.1 q.2.2 = true := by decide +kernel
theorem kX8_share : gOkM mX8_share := ⟨diX8_share, foX8⟩
theorem aX8_share : gCalV yX8_share mX8_share (some .boolean) 2 := by unfold gCalV; decide +kernel
def iX8_joinBoxes : List gI := [(0, .iconst 1, 1), (1, .istore_n 1, 1), (2, .iload_n 1, 1), (3, .ifCond .eq 150, 3), (6, .iconst 0, 1), (7, .istore_n 1, 1), (8, .aload_n 0, 1), (9, .getfield 105, 3), (12, .iconst 1, 1), (13, .isub, 1), (14, .istore_n 2, 1), (15, .iload_n 2, 1), (16, .ifCond .le 134, 3), (19, .iload_n 1, 1), (20, .ifCond .ne 130, 3), (23, .iconst 0, 1), (24, .istore_n 3, 1), (25, .iload_n 3, 1), (26, .iload_n 2, 1), (27, .if_icmp .ge 117, 3), (30, .iload_n 1, 1), (31, .ifCond .ne 113, 3), (34, .aload_n 0, 1), (35, .iload_n 3, 1), (36, .iload_n 2, 1), (37, .invokevirtual 112, 3), (40, .ifCond .eq 98, 3), (43, .aload_n 0, 1), (44, .iload_n 3, 1), (45, .aload_n 0, 1), (46, .getfield 24, 3), (49, .iconst 4, 1), (50, .iload_n 2, 1), (51, .imul, 1), (52, .iaload, 1), (53, .aload_n 0, 1), (54, .getfield 24, 3), (57, .iconst 4, 1), (58, .iload_n 2, 1), (59, .imul, 1), (60, .iconst 1, 1), (61, .iadd, 1), (62, .iaload, 1), (63, .aload_n 0, 1), (64, .getfield 24, 3), (67, .iconst 4, 1), (68, .iload_n 2, 1), (69, .imul, 1), (70, .iconst 2, 1), (71, .iadd, 1), (72, .iaload, 1), (73, .aload_n 0, 1), (74, .getfield 24, 3), (77, .iconst 4, 1), (78, .iload_n 2, 1), (79, .imul, 1), (80, .iconst 3, 1), (81, .iadd, 1), (82, .iaload, 1), (83, .invokevirtual 108, 3), (86, .aload_n 0, 1), (87, .dup, 1), (88, .getfield 105, 3), (91, .iconst 1, 1), (92, .isub, 1), (93, .putfield 105, 3), (96, .iconst 0, 1), (97, .istore 4, 2), (99, .iload 4, 2), (101, .iconst 4, 1), (102, .if_icmp .ge 34, 3), (105, .aload_n 0, 1), (106, .getfield 24, 3), (109, .iconst 4, 1), (110, .iload_n 2, 1), (111, .imul, 1), (112, .iload 4, 2), (114, .iadd, 1), (115, .aload_n 0, 1), (116, .getfield 24, 3), (119, .iconst 4, 1), (120, .aload_n 0, 1), (121, .getfield 105, 3), (124, .imul, 1), (125, .iload 4, 2), (127, .iadd, 1), (128, .iaload, 1), (129, .iastore, 1), (130, .iinc 4 1, 3), (133, .goto (-34), 3), (136, .iconst 1, 1), (137, .istore_n 1, 1), (138, .iinc 3 1, 3), (141, .goto (-116), 3), (144, .iinc 2 (-1), 3), (147, .goto (-132), 3), (150, .goto (-148), 3), (153, .return_, 1)]
def mX8_joinBoxes : gM := (cX8_joinBoxes, 5, RX8, iX8_joinBoxes, ftX8, { frames := 1, cells := 0, slots := 0, locals := 26 })
theorem diX8_joinBoxes : ∀ q ∈ iX8_joinBoxes, decode cX8_joinBoxes q.1 = .ok (q.2.1, q.2.2) ∧ gwell 5 q.1 q.2.1 q.2.2 = true := by decide +kernel
theorem kX8_joinBoxes : gOkM mX8_joinBoxes := ⟨diX8_joinBoxes, foX8⟩
theorem aX8_joinBoxes : gCalV yX8_joinBoxes mX8_joinBoxes none 0 := by unfold gCalV; decide +kernel
def iX8_sortBoxes : List gI := [(0, .iconst 0, 1), (1, .istore_n 1, 1), (2, .iload_n 1, 1), (3, .aload_n 0, 1), (4, .getfield 105, 3), (7, .if_icmp .ge 143, 3), (10, .iload_n 1, 1), (11, .iconst 1, 1), (12, .iadd, 1), (13, .istore_n 2, 1), (14, .iload_n 2, 1), (15, .aload_n 0, 1), (16, .getfield 105, 3), (19, .if_icmp .ge 125, 3), (22, .bipush 32, 2), (24, .aload_n 0, 1), (25, .getfield 24, 3), (28, .iconst 4, 1), (29, .iload_n 1, 1), (30, .imul, 1), (31, .iconst 1, 1), (32, .iadd, 1), (33, .iaload, 1), (34, .imul, 1), (35, .aload_n 0, 1), (36, .getfield 24, 3), (39, .iconst 4, 1), (40, .iload_n 1, 1), (41, .imul, 1), (42, .iaload, 1), (43, .iadd, 1), (44, .istore_n 3, 1), (45, .bipush 32, 2), (47, .aload_n 0, 1), (48, .getfield 24, 3), (51, .iconst 4, 1), (52, .iload_n 2, 1), (53, .imul, 1), (54, .iconst 1, 1), (55, .iadd, 1), (56, .iaload, 1), (57, .imul, 1), (58, .aload_n 0, 1), (59, .getfield 24, 3), (62, .iconst 4, 1), (63, .iload_n 2, 1), (64, .imul, 1), (65, .iaload, 1), (66, .iadd, 1), (67, .istore 4, 2), (69, .iconst 0, 1), (70, .istore 5, 2), (72, .iload 5, 2), (74, .iconst 4, 1), (75, .if_icmp .ge 63, 3), (78, .iload 4, 2), (80, .iload_n 3, 1), (81, .if_icmp .ge 57, 3), (84, .aload_n 0, 1), (85, .getfield 24, 3), (88, .iconst 4, 1), (89, .iload_n 1, 1), (90, .imul, 1), (91, .iload 5, 2), (93, .iadd, 1), (94, .iaload, 1), (95, .istore 6, 2), (97, .aload_n 0, 1), (98, .getfield 24, 3), (101, .iconst 4, 1), (102, .iload_n 1, 1), (103, .imul, 1), (104, .iload 5, 2), (106, .iadd, 1), (107, .aload_n 0, 1), (108, .getfield 24, 3), (111, .iconst 4, 1), (112, .iload_n 2, 1), (113, .imul, 1), (114, .iload 5, 2), (116, .iadd, 1), (117, .iaload, 1), (118, .iastore, 1), (119, .aload_n 0, 1), (120, .getfield 24, 3), (123, .iconst 4, 1), (124, .iload_n 2, 1), (125, .imul, 1), (126, .iload 5, 2), (128, .iadd, 1), (129, .iload 6, 2), (131, .iastore, 1), (132, .iinc 5 1, 3), (135, .goto (-63), 3), (138, .iinc 2 1, 3), (141, .goto (-127), 3), (144, .iinc 1 1, 3), (147, .goto (-145), 3), (150, .return_, 1)]
def mX8_sortBoxes : gM := (cX8_sortBoxes, 7, RX8, iX8_sortBoxes, ftX8, { frames := 0, cells := 0, slots := 0, locals := 0 })
theorem diX8_sortBoxes : ∀ q ∈ iX8_sortBoxes, decode cX8_sortBoxes q.1 = .ok (q.2.1, q.2.2) ∧ gwell 7 q.1 q.2.1 q.2.2 = true := by decide +kernel
theorem kX8_sortBoxes : gOkM mX8_sortBoxes := ⟨diX8_sortBoxes, foX8⟩
theorem aX8_sortBoxes : gCalV yX8_sortBoxes mX8_sortBoxes none 0 := by unfold gCalV; decide +kernel
def iX8_look : List gI := [(0, .aload_n 0, 1), (1, .getfield 13, 3), (4, .ifCond .ne 4, 3), (7, .return_, 1), (8, .aload_n 0, 1), (9, .iconst 0, 1), (10, .putfield 13, 3), (13, .aload_n 0, 1), (14, .iconst 0, 1), (15, .putfield 116, 3), (18, .iconst 0, 1), (19, .istore_n 1, 1), (20, .iload_n 1, 1), (21, .sipush 1024, 3), (24, .if_icmp .ge 117, 3), (27, .iload_n 1, 1), (28, .bipush 32, 2), (30, .irem, 1), (31, .aload_n 0, 1), (32, .getfield 81, 3), (35, .if_icmp .ge 18, 3), (38, .iload_n 1, 1), (39, .bipush 32, 2), (41, .idiv, 1), (42, .aload_n 0, 1), (43, .getfield 85, 3), (46, .if_icmp .ge 7, 3), (49, .iconst 1, 1), (50, .goto 4, 3), (53, .iconst 0, 1), (54, .istore_n 2, 1), (55, .aload_n 0, 1), (56, .getfield 17, 3), (59, .iload_n 1, 1), (60, .iload_n 2, 1), (61, .ifCond .eq 39, 3), (64, .aload_n 0, 1), (65, .iconst 0, 1), (66, .iload_n 1, 1), (67, .bipush 32, 2), (69, .irem, 1), (70, .iload_n 1, 1), (71, .bipush 32, 2), (73, .idiv, 1), (74, .invokevirtual 119, 3), (77, .ifCond .eq 19, 3), (80, .aload_n 0, 1), (81, .iconst 1, 1), (82, .iload_n 1, 1), (83, .bipush 32, 2), (85, .irem, 1), (86, .iload_n 1, 1), (87, .bipush 32, 2), (89, .idiv, 1), (90, .invokevirtual 119, 3), (93, .ifCond .ne 7, 3), (96, .iconst 1, 1), (97, .goto 4, 3), (100, .iconst 0, 1), (101, .bastore, 1), (102, .aload_n 0, 1), (103, .aload_n 0, 1), (104, .getfield 17, 3), (107, .iload_n 1, 1), (108, .baload, 1), (109, .ifCond .eq 12, 3), (112, .aload_n 0, 1), (113, .getfield 116, 3), (116, .iconst 1, 1), (117, .iadd, 1), (118, .goto 7, 3), (121, .aload_n 0, 1), (122, .getfield 116, 3), (125, .putfield 116, 3), (128, .aload_n 0, 1), (129, .getfield 21, 3), (132, .iload_n 1, 1), (133, .iload_n 1, 1), (134, .iastore, 1), (135, .iinc 1 1, 3), (138, .goto (-118), 3), (141, .aload_n 0, 1), (142, .invokevirtual 122, 3), (145, .aload_n 0, 1), (146, .invokevirtual 125, 3), (149, .aload_n 0, 1), (150, .invokevirtual 128, 3), (153, .aload_n 0, 1), (154, .invokevirtual 131, 3), (157, .return_, 1)]
def mX8_look : gM := (cX8_look, 3, RX8, iX8_look, ftX8, { frames := 3, cells := 0, slots := 0, locals := 72 })
theorem diX8_look : ∀ q ∈ iX8_look, decode cX8_look q.1 = .ok (q.2.1, q.2.2) ∧ gwell 3 q.1 q.2.1 q.2.2 = true := by decide +kernel
theorem kX8_look : gOkM mX8_look := ⟨diX8_look, foX8⟩
theorem aX8_look : gCalV yX8_look mX8_look none 0 := by unfold gCalV; decide +kernel
def iX8_differing : List gI := [(0, .aload_n 0, 1), (1, .iconst 0, 1), (2, .putfield 88, 3), (5, .aload_n 0, 1), (6, .invokevirtual 134, 3), (9, .aload_n 0, 1), (10, .getfield 116, 3), (13, .i2l, 1), (14, .lreturn, 1)]
def mX8_differing : gM := (cX8_differing, 1, RX8, iX8_differing, ftX8, { frames := 4, cells := 0, slots := 0, locals := 94 })
theorem diX8_differing : ∀ q ∈ iX8_differing, decode cX8_differing q.1 = .ok (q.2.1, q.2.2) ∧ gwell 1 q.1 q.2.1 q.2.2 = true := by decide +kernel
theorem kX8_differing : gOkM mX8_differing := ⟨diX8_differing, foX8⟩
theorem aX8_differing : gCalV yX8_differing mX8_differing (some .long) 0 := by unfold gCalV; decide +kernel
def iX8_box : List gI := [(0, .aload_n 0, 1), (1, .invokevirtual 134, 3), (4, .aload_n 0, 1), (5, .iconst 0, 1), (6, .putfield 88, 3), (9, .iload_n 1, 1), (10, .iconst (-1), 1), (11, .if_icmp .ne 8, 3), (14, .aload_n 0, 1), (15, .getfield 105, 3), (18, .ireturn, 1), (19, .aload_n 0, 1), (20, .iload_n 1, 1), (21, .iconst 0, 1), (22, .aload_n 0, 1), (23, .getfield 105, 3), (26, .iconst 1, 1), (27, .isub, 1), (28, .invokestatic 91, 3), (31, .ifCond .eq 16, 3), (34, .iload_n 2, 1), (35, .iconst 0, 1), (36, .iconst 4, 1), (37, .invokestatic 91, 3), (40, .ifCond .eq 7, 3), (43, .iconst 0, 1), (44, .goto 4, 3), (47, .iconst 1, 1), (48, .putfield 88, 3), (51, .aload_n 0, 1), (52, .getfield 88, 3), (55, .ifCond .le 5, 3), (58, .iconst 0, 1), (59, .ireturn, 1), (60, .iload_n 2, 1), (61, .iconst 4, 1), (62, .if_icmp .ge 14, 3), (65, .aload_n 0, 1), (66, .getfield 24, 3), (69, .iconst 4, 1), (70, .iload_n 1, 1), (71, .imul, 1), (72, .iload_n 2, 1), (73, .iadd, 1), (74, .iaload, 1), (75, .ireturn, 1), (76, .iconst 0, 1), (77, .istore_n 3, 1), (78, .iconst 0, 1), (79, .istore 4, 2), (81, .iload 4, 2), (83, .sipush 1024, 3), (86, .if_icmp .ge 99, 3), (89, .iload 4, 2), (91, .bipush 32, 2), (93, .irem, 1), (94, .aload_n 0, 1), (95, .getfield 24, 3), (98, .iconst 4, 1), (99, .iload_n 1, 1), (100, .imul, 1), (101, .iaload, 1), (102, .aload_n 0, 1), (103, .getfield 24, 3), (106, .iconst 4, 1), (107, .iload_n 1, 1), (108, .imul, 1), (109, .iconst 2, 1), (110, .iadd, 1), (111, .iaload, 1), (112, .invokestatic 91, 3), (115, .ifCond .eq 38, 3), (118, .iload 4, 2), (120, .bipush 32, 2), (122, .idiv, 1), (123, .aload_n 0, 1), (124, .getfield 24, 3), (127, .iconst 4, 1), (128, .iload_n 1, 1), (129, .imul, 1), (130, .iconst 1, 1), (131, .iadd, 1), (132, .iaload, 1), (133, .aload_n 0, 1), (134, .getfield 24, 3), (137, .iconst 4, 1), (138, .iload_n 1, 1), (139, .imul, 1), (140, .iconst 3, 1), (141, .iadd, 1), (142, .iaload, 1), (143, .invokestatic 91, 3), (146, .ifCond .eq 7, 3), (149, .iconst 1, 1), (150, .goto 4, 3), (153, .iconst 0, 1), (154, .istore 5, 2), (156, .iload 5, 2), (158, .ifCond .eq 19, 3), (161, .aload_n 0, 1), (162, .getfield 17, 3), (165, .iload 4, 2), (167, .baload, 1), (168, .ifCond .eq 9, 3), (171, .iload_n 3, 1), (172, .iconst 1, 1), (173, .iadd, 1), (174, .goto 4, 3), (177, .iload_n 3, 1), (178, .istore_n 3, 1), (179, .iinc 4 1, 3), (182, .goto (-101), 3), (185, .iload_n 3, 1), (186, .ireturn, 1)]
def mX8_box : gM := (cX8_box, 6, RX8, iX8_box, ftX8, { frames := 4, cells := 0, slots := 0, locals := 94 })
theorem diX8_box : ∀ q ∈ iX8_box, decode cX8_box q.1 = .ok (q.2.1, q.2.2) ∧ gwell 6 q.1 q.2.1 q.2.2 = true := by decide +kernel
theorem kX8_box : gOkM mX8_box := ⟨diX8_box, foX8⟩
theorem aX8_box : gCalV yX8_box mX8_box (some .int) 2 := by unfold gCalV; decide +kernel
def iX8_word : List gI := [(0, .aload_n 0, 1), (1, .iload_n 1, 1), (2, .iconst 0, 1), (3, .iconst 1, 1), (4, .invokestatic 91, 3), (7, .ifCond .ne 7, 3), (10, .iconst 1, 1), (11, .goto 27, 3), (14, .iload_n 2, 1), (15, .ifCond .ge 7, 3), (18, .iconst 2, 1), (19, .goto 19, 3), (22, .aload_n 0, 1), (23, .getfield 27, 3), (26, .iload_n 1, 1), (27, .iaload, 1), (28, .bipush 40, 2), (30, .if_icmp .ne 7, 3), (33, .iconst 3, 1), (34, .goto 4, 3), (37, .iconst 0, 1), (38, .putfield 88, 3), (41, .aload_n 0, 1), (42, .getfield 88, 3), (45, .ifCond .le 5, 3), (48, .iconst 0, 1), (49, .ireturn, 1), (50, .bipush 40, 2), (52, .iload_n 1, 1), (53, .imul, 1), (54, .aload_n 0, 1), (55, .getfield 27, 3), (58, .iload_n 1, 1), (59, .iaload, 1), (60, .iadd, 1), (61, .istore 5, 2), (63, .aload_n 0, 1), (64, .getfield 30, 3), (67, .iload 5, 2), (69, .iload_n 2, 1), (70, .iastore, 1), (71, .aload_n 0, 1), (72, .getfield 33, 3), (75, .iload 5, 2), (77, .iload_n 3, 1), (78, .iastore, 1), (79, .aload_n 0, 1), (80, .getfield 36, 3), (83, .iload 5, 2), (85, .iload 4, 2), (87, .iastore, 1), (88, .aload_n 0, 1), (89, .getfield 27, 3), (92, .iload_n 1, 1), (93, .dup2, 1), (94, .iaload, 1), (95, .iconst 1, 1), (96, .iadd, 1), (97, .iastore, 1), (98, .aload_n 0, 1), (99, .iconst 1, 1), (100, .putfield 42, 3), (103, .aload_n 0, 1), (104, .getfield 27, 3), (107, .iload_n 1, 1), (108, .iaload, 1), (109, .iconst 1, 1), (110, .isub, 1), (111, .ireturn, 1)]
def mX8_word : gM := (cX8_word, 6, RX8, iX8_word, ftX8, { frames := 1, cells := 0, slots := 0, locals := 22 })
theorem diX8_word : ∀ q ∈ iX8_word, decode cX8_word q.1 = .ok (q.2.1, q.2.2) ∧ gwell 6 q.1 q.2.1 q.2.2 = true := by decide +kernel
theorem kX8_word : gOkM mX8_word := ⟨diX8_word, foX8⟩
theorem aX8_word : gCalV yX8_word mX8_word (some .int) 4 := by unfold gCalV; decide +kernel
def iX8_isBefore : List gI := [(0, .aload_n 0, 1), (1, .getfield 36, 3), (4, .iload_n 1, 1), (5, .iaload, 1), (6, .aload_n 0, 1), (7, .getfield 36, 3), (10, .iload_n 2, 1), (11, .iaload, 1), (12, .if_icmp .eq 24, 3), (15, .aload_n 0, 1), (16, .getfield 36, 3), (19, .iload_n 1, 1), (20, .iaload, 1), (21, .aload_n 0, 1), (22, .getfield 36, 3), (25, .iload_n 2, 1), (26, .iaload, 1), (27, .if_icmp .ge 7, 3), (30, .iconst 1, 1), (31, .goto 4, 3), (34, .iconst 0, 1), (35, .ireturn, 1), (36, .aload_n 0, 1), (37, .getfield 33, 3), (40, .iload_n 1, 1), (41, .iaload, 1), (42, .aload_n 0, 1), (43, .getfield 33, 3), (46, .iload_n 2, 1), (47, .iaload, 1), (48, .if_icmp .eq 26, 3), (51, .aload_n 0, 1), (52, .getfield 33, 3), (55, .iload_n 1, 1), (56, .iaload, 1), (57, .aload_n 0, 1), (58, .getfield 33, 3), (61, .iload_n 2, 1), (62, .iaload, 1), (63, .if_icmp .ge 7, 3), (66, .iconst 1, 1), (67, .goto 17, 3), (70, .iconst 0, 1), (71, .goto 13, 3), (74, .iload_n 1, 1), (75, .iload_n 2, 1), (76, .if_icmp .ge 7, 3), (79, .iconst 1, 1), (80, .goto 4, 3), (83, .iconst 0, 1), (84, .ireturn, 1)]
def mX8_isBefore : gM := (cX8_isBefore, 3, RX8, iX8_isBefore, ftX8, { frames := 0, cells := 0, slots := 0, locals := 0 })
theorem diX8_isBefore : ∀ q ∈ iX8_isBefore, decode cX8_isBefore q.1 = .ok (q.2.1, q.2.2) ∧ gwell 3 q.1 q.2.1 q.2.2 = true := by decide +kernel
theorem kX8_isBefore : gOkM mX8_isBefore := ⟨diX8_isBefore, foX8⟩
theorem aX8_isBefore : gCalV yX8_isBefore mX8_isBefore (some .boolean) 2 := by unfold gCalV; decide +kernel
def iX8_sortWords : List gI := [(0, .aload_n 0, 1), (1, .getfield 27, 3), (4, .iload_n 1, 1), (5, .iaload, 1), (6, .istore_n 2, 1), (7, .iconst 0, 1), (8, .istore_n 3, 1), (9, .iload_n 3, 1), (10, .iload_n 2, 1), (11, .if_icmp .ge 76, 3), (14, .bipush 40, 2), (16, .iload_n 1, 1), (17, .imul, 1), (18, .iload_n 3, 1), (19, .iadd, 1), (20, .istore 4, 2), (22, .iconst 0, 1), (23, .istore 5, 2), (25, .iconst 0, 1), (26, .istore 6, 2), (28, .iload 6, 2), (30, .iload_n 2, 1), (31, .if_icmp .ge 36, 3), (34, .aload_n 0, 1), (35, .bipush 40, 2), (37, .iload_n 1, 1), (38, .imul, 1), (39, .iload 6, 2), (41, .iadd, 1), (42, .iload 4, 2), (44, .invokevirtual 137, 3), (47, .ifCond .eq 10, 3), (50, .iload 5, 2), (52, .iconst 1, 1), (53, .iadd, 1), (54, .goto 5, 3), (57, .iload 5, 2), (59, .istore 5, 2), (61, .iinc 6 1, 3), (64, .goto (-36), 3), (67, .aload_n 0, 1), (68, .getfield 39, 3), (71, .bipush 40, 2), (73, .iload_n 1, 1), (74, .imul, 1), (75, .iload 5, 2), (77, .iadd, 1), (78, .iload 4, 2), (80, .iastore, 1), (81, .iinc 3 1, 3), (84, .goto (-75), 3), (87, .return_, 1)]
def mX8_sortWords : gM := (cX8_sortWords, 7, RX8, iX8_sortWords, ftX8, { frames := 1, cells := 0, slots := 0, locals := 22 })
theorem diX8_sortWords : ∀ q ∈ iX8_sortWords, decode cX8_sortWords q.1 = .ok (q.2.1, q.2.2) ∧ gwell 7 q.1 q.2.1 q.2.2 = true := by decide +kernel
theorem kX8_sortWords : gOkM mX8_sortWords := ⟨diX8_sortWords, foX8⟩
theorem aX8_sortWords : gCalV yX8_sortWords mX8_sortWords none 1 := by unfold gCalV; decide +kernel
def iX8_at : List gI := [(0, .aload_n 0, 1), (1, .getfield 39, 3), (4, .bipush 40, 2), (6, .iload_n 1, 1), (7, .imul, 1), (8, .iload_n 2, 1), (9, .iadd, 1), (10, .iaload, 1), (11, .ireturn, 1)]
def mX8_at : gM := (cX8_at, 3, RX8, iX8_at, ftX8, { frames := 0, cells := 0, slots := 0, locals := 0 })
theorem diX8_at : ∀ q ∈ iX8_at, decode cX8_at q.1 = .ok (q.2.1, q.2.2) ∧ gwell 3 q.1 q.2.1 q.2.2 = true := by decide +kernel
theorem kX8_at : gOkM mX8_at := ⟨diX8_at, foX8⟩
theorem aX8_at : gCalV yX8_at mX8_at (some .int) 2 := by unfold gCalV; decide +kernel
def iX8_addRow : List gI := [(0, .aload_n 0, 1), (1, .getfield 48, 3), (4, .iconst 4, 1), (5, .aload_n 0, 1), (6, .getfield 140, 3), (9, .imul, 1), (10, .iload_n 1, 1), (11, .iastore, 1), (12, .aload_n 0, 1), (13, .getfield 48, 3), (16, .iconst 4, 1), (17, .aload_n 0, 1), (18, .getfield 140, 3), (21, .imul, 1), (22, .iconst 1, 1), (23, .iadd, 1), (24, .iload_n 2, 1), (25, .iastore, 1), (26, .aload_n 0, 1), (27, .getfield 48, 3), (30, .iconst 4, 1), (31, .aload_n 0, 1), (32, .getfield 140, 3), (35, .imul, 1), (36, .iconst 2, 1), (37, .iadd, 1), (38, .iload_n 3, 1), (39, .iastore, 1), (40, .aload_n 0, 1), (41, .getfield 48, 3), (44, .iconst 4, 1), (45, .aload_n 0, 1), (46, .getfield 140, 3), (49, .imul, 1), (50, .iconst 3, 1), (51, .iadd, 1), (52, .iload 4, 2), (54, .iastore, 1), (55, .aload_n 0, 1), (56, .dup, 1), (57, .getfield 140, 3), (60, .iconst 1, 1), (61, .iadd, 1), (62, .putfield 140, 3), (65, .return_, 1)]
def mX8_addRow : gM := (cX8_addRow, 5, RX8, iX8_addRow, ftX8, { frames := 0, cells := 0, slots := 0, locals := 0 })
theorem diX8_addRow : ∀ q ∈ iX8_addRow, decode cX8_addRow q.1 = .ok (q.2.1, q.2.2) ∧ gwell 5 q.1 q.2.1 q.2.2 = true := by decide +kernel
theorem kX8_addRow : gOkM mX8_addRow := ⟨diX8_addRow, foX8⟩
theorem aX8_addRow : gCalV yX8_addRow mX8_addRow none 4 := by unfold gCalV; decide +kernel
def iX8_fillCommon : List gI := [(0, .iconst 0, 1), (1, .istore_n 1, 1), (2, .iload_n 1, 1), (3, .sipush 1681, 3), (6, .if_icmp .ge 16, 3), (9, .aload_n 0, 1), (10, .getfield 45, 3), (13, .iload_n 1, 1), (14, .iconst 0, 1), (15, .iastore, 1), (16, .iinc 1 1, 3), (19, .goto (-17), 3), (22, .aload_n 0, 1), (23, .getfield 27, 3), (26, .iconst 0, 1), (27, .iaload, 1), (28, .iconst 1, 1), (29, .isub, 1), (30, .istore_n 1, 1), (31, .iload_n 1, 1), (32, .ifCond .lt 124, 3), (35, .aload_n 0, 1), (36, .getfield 27, 3), (39, .iconst 1, 1), (40, .iaload, 1), (41, .iconst 1, 1), (42, .isub, 1), (43, .istore_n 2, 1), (44, .iload_n 2, 1), (45, .ifCond .lt 105, 3), (48, .bipush 41, 2), (50, .iload_n 1, 1), (51, .imul, 1), (52, .iload_n 2, 1), (53, .iadd, 1), (54, .istore_n 3, 1), (55, .aload_n 0, 1), (56, .getfield 45, 3), (59, .iload_n 3, 1), (60, .bipush 41, 2), (62, .iadd, 1), (63, .iaload, 1), (64, .aload_n 0, 1), (65, .getfield 45, 3), (68, .iload_n 3, 1), (69, .iconst 1, 1), (70, .iadd, 1), (71, .iaload, 1), (72, .if_icmp .le 15, 3), (75, .aload_n 0, 1), (76, .getfield 45, 3), (79, .iload_n 3, 1), (80, .bipush 41, 2), (82, .iadd, 1), (83, .iaload, 1), (84, .goto 11, 3), (87, .aload_n 0, 1), (88, .getfield 45, 3), (91, .iload_n 3, 1), (92, .iconst 1, 1), (93, .iadd, 1), (94, .iaload, 1), (95, .istore 4, 2), (97, .aload_n 0, 1), (98, .getfield 45, 3), (101, .iload_n 3, 1), (102, .aload_n 0, 1), (103, .getfield 30, 3), (106, .aload_n 0, 1), (107, .iconst 0, 1), (108, .iload_n 1, 1), (109, .invokevirtual 143, 3), (112, .iaload, 1), (113, .aload_n 0, 1), (114, .getfield 30, 3), (117, .aload_n 0, 1), (118, .iconst 1, 1), (119, .iload_n 2, 1), (120, .invokevirtual 143, 3), (123, .iaload, 1), (124, .if_icmp .ne 17, 3), (127, .aload_n 0, 1), (128, .getfield 45, 3), (131, .iload_n 3, 1), (132, .bipush 42, 2), (134, .iadd, 1), (135, .iaload, 1), (136, .iconst 1, 1), (137, .iadd, 1), (138, .goto 5, 3), (141, .iload 4, 2), (143, .iastore, 1), (144, .iinc 2 (-1), 3), (147, .goto (-103), 3), (150, .iinc 1 (-1), 3), (153, .goto (-122), 3), (156, .return_, 1)]
def mX8_fillCommon : gM := (cX8_fillCommon, 5, RX8, iX8_fillCommon, ftX8, { frames := 1, cells := 0, slots := 0, locals := 22 })
theorem diX8_fillCommon : ∀ q ∈ iX8_fillCommon, decode cX8_fillCommon q.1 = .ok (q.2.1, q.2.2) ∧ gwell 5 q.1 q.2.1 q.2.2 = true := by decide +kernel
theorem kX8_fillCommon : gOkM mX8_fillCommon := ⟨diX8_fillCommon, foX8⟩
theorem aX8_fillCommon : gCalV yX8_fillCommon mX8_fillCommon none 0 := by unfold gCalV; decide +kernel
def iX8_compare : List gI := [(0, .aload_n 0, 1), (1, .getfield 42, 3), (4, .ifCond .ne 4, 3), (7, .return_, 1), (8, .aload_n 0, 1), (9, .iconst 0, 1), (10, .putfield 42, 3), (13, .aload_n 0, 1), (14, .iconst 0, 1), (15, .invokevirtual 146, 3), (18, .aload_n 0, 1), (19, .iconst 1, 1), (20, .invokevirtual 146, 3), (23, .aload_n 0, 1), (24, .invokevirtual 150, 3), (27, .aload_n 0, 1), (28, .iconst 0, 1), (29, .putfield 140, 3), (32, .iconst 0, 1), (33, .istore_n 1, 1), (34, .iconst 0, 1), (35, .istore_n 2, 1), (36, .iload_n 1, 1), (37, .aload_n 0, 1), (38, .getfield 27, 3), (41, .iconst 0, 1), (42, .iaload, 1), (43, .if_icmp .lt 13, 3), (46, .iload_n 2, 1), (47, .aload_n 0, 1), (48, .getfield 27, 3), (51, .iconst 1, 1), (52, .iaload, 1), (53, .if_icmp .ge 215, 3), (56, .iload_n 1, 1), (57, .aload_n 0, 1), (58, .getfield 27, 3), (61, .iconst 0, 1), (62, .iaload, 1), (63, .if_icmp .ge 12, 3), (66, .aload_n 0, 1), (67, .iconst 0, 1), (68, .iload_n 1, 1), (69, .invokevirtual 143, 3), (72, .goto 4, 3), (75, .iconst (-1), 1), (76, .istore_n 3, 1), (77, .iload_n 2, 1), (78, .aload_n 0, 1), (79, .getfield 27, 3), (82, .iconst 1, 1), (83, .iaload, 1), (84, .if_icmp .ge 12, 3), (87, .aload_n 0, 1), (88, .iconst 1, 1), (89, .iload_n 2, 1), (90, .invokevirtual 143, 3), (93, .goto 4, 3), (96, .iconst (-1), 1), (97, .istore 4, 2), (99, .bipush 41, 2), (101, .iload_n 1, 1), (102, .imul, 1), (103, .iload_n 2, 1), (104, .iadd, 1), (105, .istore 5, 2), (107, .iload_n 3, 1), (108, .iconst (-1), 1), (109, .if_icmp .eq 83, 3), (112, .iload 4, 2), (114, .iconst (-1), 1), (115, .if_icmp .eq 77, 3), (118, .aload_n 0, 1), (119, .getfield 30, 3), (122, .iload_n 3, 1), (123, .iaload, 1), (124, .aload_n 0, 1), (125, .getfield 30, 3), (128, .iload 4, 2), (130, .iaload, 1), (131, .if_icmp .ne 61, 3), (134, .aload_n 0, 1), (135, .getfield 33, 3), (138, .iload_n 3, 1), (139, .iaload, 1), (140, .aload_n 0, 1), (141, .getfield 33, 3), (144, .iload 4, 2), (146, .iaload, 1), (147, .if_icmp .ne 19, 3), (150, .aload_n 0, 1), (151, .getfield 36, 3), (154, .iload_n 3, 1), (155, .iaload, 1), (156, .aload_n 0, 1), (157, .getfield 36, 3), (160, .iload 4, 2), (162, .iaload, 1), (163, .if_icmp .eq 20, 3), (166, .aload_n 0, 1), (167, .iconst 4, 1), (168, .aload_n 0, 1), (169, .getfield 30, 3), (172, .iload_n 3, 1), (173, .iaload, 1), (174, .iload_n 3, 1), (175, .iload 4, 2), (177, .bipush 40, 2), (179, .isub, 1), (180, .invokevirtual 153, 3), (183, .iinc 1 1, 3), (186, .iinc 2 1, 3), (189, .goto 76, 3), (192, .iload 4, 2), (194, .iconst (-1), 1), (195, .if_icmp .eq 30, 3), (198, .iload_n 3, 1), (199, .iconst (-1), 1), (200, .if_icmp .eq 44, 3), (203, .aload_n 0, 1), (204, .getfield 45, 3), (207, .iload 5, 2), (209, .bipush 41, 2), (211, .iadd, 1), (212, .iaload, 1), (213, .aload_n 0, 1), (214, .getfield 45, 3), (217, .iload 5, 2), (219, .iconst 1, 1), (220, .iadd, 1), (221, .iaload, 1), (222, .if_icmp .lt 22, 3), (225, .aload_n 0, 1), (226, .iconst 1, 1), (227, .aload_n 0, 1), (228, .getfield 30, 3), (231, .iload_n 3, 1), (232, .iaload, 1), (233, .iload_n 3, 1), (234, .iconst (-1), 1), (235, .invokevirtual 153, 3), (238, .iinc 1 1, 3), (241, .goto 24, 3), (244, .aload_n 0, 1), (245, .iconst 3, 1), (246, .aload_n 0, 1), (247, .getfield 30, 3), (250, .iload 4, 2), (252, .iaload, 1), (253, .iconst (-1), 1), (254, .iload 4, 2), (256, .bipush 40, 2), (258, .isub, 1), (259, .invokevirtual 153, 3), (262, .iinc 2 1, 3), (265, .goto (-229), 3), (268, .iconst 0, 1), (269, .istore_n 3, 1), (270, .iload_n 3, 1), (271, .aload_n 0, 1), (272, .getfield 140, 3), (275, .if_icmp .ge 116, 3), (278, .iconst 0, 1), (279, .istore 4, 2), (281, .iload 4, 2), (283, .aload_n 0, 1), (284, .getfield 140, 3), (287, .if_icmp .ge 98, 3), (290, .aload_n 0, 1), (291, .getfield 48, 3), (294, .iconst 4, 1), (295, .iload_n 3, 1), (296, .imul, 1), (297, .iaload, 1), (298, .iconst 1, 1), (299, .if_icmp .ne 86, 3), (302, .aload_n 0, 1), (303, .getfield 48, 3), (306, .iconst 4, 1), (307, .iload 4, 2), (309, .imul, 1), (310, .iaload, 1), (311, .iconst 3, 1), (312, .if_icmp .ne 67, 3), (315, .aload_n 0, 1), (316, .getfield 48, 3), (319, .iconst 4, 1), (320, .iload 4, 2), (322, .imul, 1), (323, .iconst 1, 1), (324, .iadd, 1), (325, .iaload, 1), (326, .aload_n 0, 1), (327, .getfield 48, 3), (330, .iconst 4, 1), (331, .iload_n 3, 1), (332, .imul, 1), (333, .iconst 1, 1), (334, .iadd, 1), (335, .iaload, 1), (336, .if_icmp .ne 43, 3), (339, .aload_n 0, 1), (340, .getfield 48, 3), (343, .iconst 4, 1), (344, .iload_n 3, 1), (345, .imul, 1), (346, .iconst 2, 1), (347, .iastore, 1), (348, .aload_n 0, 1), (349, .getfield 48, 3), (352, .iconst 4, 1), (353, .iload_n 3, 1), (354, .imul, 1), (355, .iconst 3, 1), (356, .iadd, 1), (357, .aload_n 0, 1), (358, .getfield 48, 3), (361, .iconst 4, 1), (362, .iload 4, 2), (364, .imul, 1), (365, .iconst 3, 1), (366, .iadd, 1), (367, .iaload, 1), (368, .iastore, 1), (369, .aload_n 0, 1), (370, .getfield 48, 3), (373, .iconst 4, 1), (374, .iload 4, 2), (376, .imul, 1), (377, .iconst 0, 1), (378, .iastore, 1), (379, .iinc 4 1, 3), (382, .goto (-101), 3), (385, .iinc 3 1, 3), (388, .goto (-118), 3), (391, .return_, 1)]
def mX8_compare : gM := (cX8_compare, 6, RX8, iX8_compare, ftX8, { frames := 2, cells := 0, slots := 0, locals := 48 })
theorem diX8_compare : ∀ q ∈ iX8_compare, decode cX8_compare q.1 = .ok (q.2.1, q.2.2) ∧ gwell 6 q.1 q.2.1 q.2.2 = true := by decide +kernel
theorem kX8_compare : gOkM mX8_compare := ⟨diX8_compare, foX8⟩
theorem aX8_compare : gCalV yX8_compare mX8_compare none 0 := by unfold gCalV; decide +kernel
def iX8_countRows : List gI := [(0, .iconst 0, 1), (1, .istore_n 3, 1), (2, .iconst 0, 1), (3, .istore 4, 2), (5, .iload 4, 2), (7, .aload_n 0, 1), (8, .getfield 140, 3), (11, .if_icmp .ge 55, 3), (14, .aload_n 0, 1), (15, .getfield 48, 3), (18, .iconst 4, 1), (19, .iload 4, 2), (21, .imul, 1), (22, .iaload, 1), (23, .ifCond .le 35, 3), (26, .aload_n 0, 1), (27, .getfield 48, 3), (30, .iconst 4, 1), (31, .iload 4, 2), (33, .imul, 1), (34, .iaload, 1), (35, .iload_n 1, 1), (36, .if_icmp .eq 16, 3), (39, .aload_n 0, 1), (40, .getfield 48, 3), (43, .iconst 4, 1), (44, .iload 4, 2), (46, .imul, 1), (47, .iaload, 1), (48, .iload_n 2, 1), (49, .if_icmp .ne 9, 3), (52, .iload_n 3, 1), (53, .iconst 1, 1), (54, .iadd, 1), (55, .goto 4, 3), (58, .iload_n 3, 1), (59, .istore_n 3, 1), (60, .iinc 4 1, 3), (63, .goto (-58), 3), (66, .iload_n 3, 1), (67, .ireturn, 1)]
def mX8_countRows : gM := (cX8_countRows, 5, RX8, iX8_countRows, ftX8, { frames := 0, cells := 0, slots := 0, locals := 0 })
theorem diX8_countRows : ∀ q ∈ iX8_countRows, decode cX8_countRows q.1 = .ok (q.2.1, q.2.2) ∧ gwell 5 q.1 q.2.1 q.2.2 = true := by decide +kernel
theorem kX8_countRows : gOkM mX8_countRows := ⟨diX8_countRows, foX8⟩
theorem aX8_countRows : gCalV yX8_countRows mX8_countRows (some .int) 2 := by unfold gCalV; decide +kernel
def iX8_words : List gI := [(0, .aload_n 0, 1), (1, .invokevirtual 157, 3), (4, .aload_n 0, 1), (5, .iconst 0, 1), (6, .putfield 88, 3), (9, .iconst 0, 1), (10, .istore_n 3, 1), (11, .iconst (-1), 1), (12, .istore 4, 2), (14, .iconst 0, 1), (15, .istore 5, 2), (17, .iload 5, 2), (19, .aload_n 0, 1), (20, .getfield 140, 3), (23, .if_icmp .ge 38, 3), (26, .aload_n 0, 1), (27, .getfield 48, 3), (30, .iconst 4, 1), (31, .iload 5, 2), (33, .imul, 1), (34, .iaload, 1), (35, .ifCond .le 20, 3), (38, .iload_n 3, 1), (39, .iload_n 1, 1), (40, .if_icmp .ne 8, 3), (43, .iload 5, 2), (45, .goto 5, 3), (48, .iload 4, 2), (50, .istore 4, 2), (52, .iinc 3 1, 3), (55, .iinc 5 1, 3), (58, .goto (-41), 3), (61, .iload_n 1, 1), (62, .iconst (-1), 1), (63, .if_icmp .ne 5, 3), (66, .iload_n 3, 1), (67, .ireturn, 1), (68, .aload_n 0, 1), (69, .iload 4, 2), (71, .iconst (-1), 1), (72, .if_icmp .eq 12, 3), (75, .iload_n 2, 1), (76, .iconst 0, 1), (77, .iconst 3, 1), (78, .invokestatic 91, 3), (81, .ifCond .ne 7, 3), (84, .iconst 1, 1), (85, .goto 4, 3), (88, .iconst 0, 1), (89, .putfield 88, 3), (92, .aload_n 0, 1), (93, .getfield 88, 3), (96, .ifCond .le 7, 3), (99, .iconst 0, 1), (100, .goto 14, 3), (103, .aload_n 0, 1), (104, .getfield 48, 3), (107, .iconst 4, 1), (108, .iload 4, 2), (110, .imul, 1), (111, .iload_n 2, 1), (112, .iadd, 1), (113, .iaload, 1), (114, .ireturn, 1)]
def mX8_words : gM := (cX8_words, 6, RX8, iX8_words, ftX8, { frames := 3, cells := 0, slots := 0, locals := 73 })
theorem diX8_words : ∀ q ∈ iX8_words, decode cX8_words q.1 = .ok (q.2.1, q.2.2) ∧ gwell 6 q.1 q.2.1 q.2.2 = true := by decide +kernel
theorem kX8_words : gOkM mX8_words := ⟨diX8_words, foX8⟩
theorem aX8_words : gCalV yX8_words mX8_words (some .int) 2 := by unfold gCalV; decide +kernel
def iX8_size : List gI := [(0, .aload_n 0, 1), (1, .iload_n 1, 1), (2, .iconst 0, 1), (3, .iconst 1, 1), (4, .invokestatic 91, 3), (7, .ifCond .eq 13, 3), (10, .iload_n 2, 1), (11, .iconst 0, 1), (12, .bipush 19, 2), (14, .invokestatic 91, 3), (17, .ifCond .ne 7, 3), (20, .iconst 1, 1), (21, .goto 19, 3), (24, .iload_n 3, 1), (25, .iconst 1, 1), (26, .if_icmp .lt 9, 3), (29, .iload 4, 2), (31, .iconst 1, 1), (32, .if_icmp .ge 7, 3), (35, .iconst 2, 1), (36, .goto 4, 3), (39, .iconst 0, 1), (40, .putfield 88, 3), (43, .aload_n 0, 1), (44, .getfield 88, 3), (47, .ifCond .le 5, 3), (50, .iconst 0, 1), (51, .ireturn, 1), (52, .aload_n 0, 1), (53, .getfield 51, 3), (56, .bipush 20, 2), (58, .iload_n 1, 1), (59, .imul, 1), (60, .iload_n 2, 1), (61, .iadd, 1), (62, .iload_n 3, 1), (63, .iastore, 1), (64, .aload_n 0, 1), (65, .getfield 54, 3), (68, .bipush 20, 2), (70, .iload_n 1, 1), (71, .imul, 1), (72, .iload_n 2, 1), (73, .iadd, 1), (74, .iload 4, 2), (76, .iastore, 1), (77, .bipush 20, 2), (79, .bipush 20, 2), (81, .iload_n 1, 1), (82, .imul, 1), (83, .isub, 1), (84, .iload_n 2, 1), (85, .iadd, 1), (86, .istore 5, 2), (88, .aload_n 0, 1), (89, .getfield 51, 3), (92, .iload 5, 2), (94, .iaload, 1), (95, .ifCond .eq 26, 3), (98, .aload_n 0, 1), (99, .getfield 51, 3), (102, .iload 5, 2), (104, .iaload, 1), (105, .iload_n 3, 1), (106, .if_icmp .ne 19, 3), (109, .aload_n 0, 1), (110, .getfield 54, 3), (113, .iload 5, 2), (115, .iaload, 1), (116, .iload 4, 2), (118, .if_icmp .ne 7, 3), (121, .iconst 1, 1), (122, .goto 4, 3), (125, .iconst 0, 1), (126, .ireturn, 1)]
def mX8_size : gM := (cX8_size, 6, RX8, iX8_size, ftX8, { frames := 1, cells := 0, slots := 0, locals := 22 })
theorem diX8_size : ∀ q ∈ iX8_size, decode cX8_size q.1 = .ok (q.2.1, q.2.2) ∧ gwell 6 q.1 q.2.1 q.2.2 = true := by decide +kernel
theorem kX8_size : gOkM mX8_size := ⟨diX8_size, foX8⟩
theorem aX8_size : gCalV yX8_size mX8_size (some .int) 4 := by unfold gCalV; decide +kernel
def iX8_missing : List gI := [(0, .aload_n 0, 1), (1, .iconst 0, 1), (2, .putfield 88, 3), (5, .iconst 0, 1), (6, .istore_n 2, 1), (7, .iconst 0, 1), (8, .istore_n 3, 1), (9, .iconst 0, 1), (10, .istore 4, 2), (12, .iconst 0, 1), (13, .istore 5, 2), (15, .iload 5, 2), (17, .bipush 20, 2), (19, .if_icmp .ge 98, 3), (22, .aload_n 0, 1), (23, .getfield 51, 3), (26, .iload 5, 2), (28, .iaload, 1), (29, .ifCond .le 7, 3), (32, .iconst 1, 1), (33, .goto 4, 3), (36, .iconst 0, 1), (37, .istore 6, 2), (39, .aload_n 0, 1), (40, .getfield 51, 3), (43, .bipush 20, 2), (45, .iload 5, 2), (47, .iadd, 1), (48, .iaload, 1), (49, .ifCond .le 7, 3), (52, .iconst 1, 1), (53, .goto 4, 3), (56, .iconst 0, 1), (57, .istore 7, 2), (59, .iload 6, 2), (61, .iload 7, 2), (63, .if_icmp .eq 48, 3), (66, .iload 4, 2), (68, .ifCond .ne 8, 3), (71, .iload_n 2, 1), (72, .iload_n 1, 1), (73, .if_icmp .ne 7, 3), (76, .iconst 1, 1), (77, .goto 4, 3), (80, .iconst 0, 1), (81, .istore 4, 2), (83, .iload_n 2, 1), (84, .iload_n 1, 1), (85, .if_icmp .ne 21, 3), (88, .iconst 2, 1), (89, .iload 5, 2), (91, .imul, 1), (92, .iload 7, 2), (94, .ifCond .eq 7, 3), (97, .iconst 0, 1), (98, .goto 4, 3), (101, .iconst 1, 1), (102, .iadd, 1), (103, .goto 4, 3), (106, .iload_n 3, 1), (107, .istore_n 3, 1), (108, .iinc 2 1, 3), (111, .iinc 5 1, 3), (114, .goto (-99), 3), (117, .iload_n 1, 1), (118, .iconst (-1), 1), (119, .if_icmp .ne 5, 3), (122, .iload_n 2, 1), (123, .ireturn, 1), (124, .aload_n 0, 1), (125, .iload 4, 2), (127, .ifCond .eq 7, 3), (130, .iconst 0, 1), (131, .goto 4, 3), (134, .iconst 1, 1), (135, .putfield 88, 3), (138, .iload 4, 2), (140, .ifCond .eq 7, 3), (143, .iload_n 3, 1), (144, .goto 4, 3), (147, .iconst 0, 1), (148, .ireturn, 1)]
def mX8_missing : gM := (cX8_missing, 8, RX8, iX8_missing, ftX8, { frames := 0, cells := 0, slots := 0, locals := 0 })
theorem diX8_missing : ∀ q ∈ iX8_missing, decode cX8_missing q.1 = .ok (q.2.1, q.2.2) ∧ gwell 8 q.1 q.2.1 q.2.2 = true := by decide +kernel
theorem kX8_missing : gOkM mX8_missing := ⟨diX8_missing, foX8⟩
theorem aX8_missing : gCalV yX8_missing mX8_missing (some .int) 1 := by unfold gCalV; decide +kernel
def iX8_rule : List gI := [(0, .aload_n 0, 1), (1, .iload_n 1, 1), (2, .iconst 0, 1), (3, .iconst 5, 1), (4, .invokestatic 91, 3), (7, .ifCond .eq 7, 3), (10, .iload_n 2, 1), (11, .ifCond .ge 7, 3), (14, .iconst 1, 1), (15, .goto 17, 3), (18, .aload_n 0, 1), (19, .getfield 160, 3), (22, .bipush 12, 2), (24, .if_icmp .ne 7, 3), (27, .iconst 2, 1), (28, .goto 4, 3), (31, .iconst 0, 1), (32, .putfield 88, 3), (35, .aload_n 0, 1), (36, .getfield 88, 3), (39, .ifCond .le 5, 3), (42, .iconst 0, 1), (43, .ireturn, 1), (44, .aload_n 0, 1), (45, .getfield 57, 3), (48, .aload_n 0, 1), (49, .getfield 160, 3), (52, .iload_n 1, 1), (53, .iastore, 1), (54, .aload_n 0, 1), (55, .getfield 60, 3), (58, .aload_n 0, 1), (59, .getfield 160, 3), (62, .iload_n 2, 1), (63, .iastore, 1), (64, .aload_n 0, 1), (65, .getfield 63, 3), (68, .aload_n 0, 1), (69, .getfield 160, 3), (72, .iload_n 3, 1), (73, .bastore, 1), (74, .aload_n 0, 1), (75, .dup, 1), (76, .getfield 160, 3), (79, .iconst 1, 1), (80, .iadd, 1), (81, .putfield 160, 3), (84, .aload_n 0, 1), (85, .getfield 160, 3), (88, .iconst 1, 1), (89, .isub, 1), (90, .ireturn, 1)]
def mX8_rule : gM := (cX8_rule, 4, RX8, iX8_rule, ftX8, { frames := 1, cells := 0, slots := 0, locals := 22 })
theorem diX8_rule : ∀ q ∈ iX8_rule, decode cX8_rule q.1 = .ok (q.2.1, q.2.2) ∧ gwell 4 q.1 q.2.1 q.2.2 = true := by decide +kernel
theorem kX8_rule : gOkM mX8_rule := ⟨diX8_rule, foX8⟩
theorem aX8_rule : gCalV yX8_rule mX8_rule (some .int) 3 := by unfold gCalV; decide +kernel
def iX8_mostPlaces : List gI := [(0, .iconst 0, 1), (1, .istore_n 1, 1), (2, .iconst 0, 1), (3, .istore_n 2, 1), (4, .iload_n 2, 1), (5, .aload_n 0, 1), (6, .getfield 105, 3), (9, .if_icmp .ge 66, 3), (12, .aload_n 0, 1), (13, .getfield 24, 3), (16, .iconst 4, 1), (17, .iload_n 2, 1), (18, .imul, 1), (19, .iconst 2, 1), (20, .iadd, 1), (21, .iaload, 1), (22, .aload_n 0, 1), (23, .getfield 24, 3), (26, .iconst 4, 1), (27, .iload_n 2, 1), (28, .imul, 1), (29, .iaload, 1), (30, .isub, 1), (31, .iconst 1, 1), (32, .iadd, 1), (33, .aload_n 0, 1), (34, .getfield 24, 3), (37, .iconst 4, 1), (38, .iload_n 2, 1), (39, .imul, 1), (40, .iconst 3, 1), (41, .iadd, 1), (42, .iaload, 1), (43, .aload_n 0, 1), (44, .getfield 24, 3), (47, .iconst 4, 1), (48, .iload_n 2, 1), (49, .imul, 1), (50, .iconst 1, 1), (51, .iadd, 1), (52, .iaload, 1), (53, .isub, 1), (54, .iconst 1, 1), (55, .iadd, 1), (56, .imul, 1), (57, .istore_n 3, 1), (58, .iload_n 3, 1), (59, .iload_n 1, 1), (60, .if_icmp .le 7, 3), (63, .iload_n 3, 1), (64, .goto 4, 3), (67, .iload_n 1, 1), (68, .istore_n 1, 1), (69, .iinc 2 1, 3), (72, .goto (-68), 3), (75, .iload_n 1, 1), (76, .ireturn, 1)]
def mX8_mostPlaces : gM := (cX8_mostPlaces, 4, RX8, iX8_mostPlaces, ftX8, { frames := 0, cells := 0, slots := 0, locals := 0 })
theorem diX8_mostPlaces : ∀ q ∈ iX8_mostPlaces, decode cX8_mostPlaces q.1 = .ok (q.2.1, q.2.2) ∧ gwell 4 q.1 q.2.1 q.2.2 = true := by decide +kernel
theorem kX8_mostPlaces : gOkM mX8_mostPlaces := ⟨diX8_mostPlaces, foX8⟩
theorem aX8_mostPlaces : gCalV yX8_mostPlaces mX8_mostPlaces (some .int) 0 := by unfold gCalV; decide +kernel
def iX8_find : List gI := [(0, .aload_n 0, 1), (1, .invokevirtual 134, 3), (4, .aload_n 0, 1), (5, .invokevirtual 157, 3), (8, .iload_n 1, 1), (9, .iconst 2, 1), (10, .if_icmp .ge 19, 3), (13, .iload_n 1, 1), (14, .ifCond .ne 10, 3), (17, .aload_n 0, 1), (18, .getfield 116, 3), (21, .goto 7, 3), (24, .aload_n 0, 1), (25, .invokevirtual 163, 3), (28, .ireturn, 1), (29, .iload_n 1, 1), (30, .iconst 4, 1), (31, .if_icmp .ge 24, 3), (34, .iload_n 1, 1), (35, .iconst 2, 1), (36, .if_icmp .ne 12, 3), (39, .aload_n 0, 1), (40, .iconst 1, 1), (41, .iconst 1, 1), (42, .invokevirtual 167, 3), (45, .goto 9, 3), (48, .aload_n 0, 1), (49, .iconst 2, 1), (50, .iconst 4, 1), (51, .invokevirtual 167, 3), (54, .ireturn, 1), (55, .iconst 0, 1), (56, .istore_n 2, 1), (57, .iconst 0, 1), (58, .istore_n 3, 1), (59, .iload_n 3, 1), (60, .bipush 20, 2), (62, .if_icmp .ge 127, 3), (65, .aload_n 0, 1), (66, .getfield 51, 3), (69, .iload_n 3, 1), (70, .iaload, 1), (71, .ifCond .le 7, 3), (74, .iconst 1, 1), (75, .goto 4, 3), (78, .iconst 0, 1), (79, .istore 4, 2), (81, .aload_n 0, 1), (82, .getfield 51, 3), (85, .bipush 20, 2), (87, .iload_n 3, 1), (88, .iadd, 1), (89, .iaload, 1), (90, .ifCond .le 7, 3), (93, .iconst 1, 1), (94, .goto 4, 3), (97, .iconst 0, 1), (98, .istore 5, 2), (100, .aload_n 0, 1), (101, .getfield 51, 3), (104, .iload_n 3, 1), (105, .iaload, 1), (106, .aload_n 0, 1), (107, .getfield 51, 3), (110, .bipush 20, 2), (112, .iload_n 3, 1), (113, .iadd, 1), (114, .iaload, 1), (115, .if_icmp .ne 21, 3), (118, .aload_n 0, 1), (119, .getfield 54, 3), (122, .iload_n 3, 1), (123, .iaload, 1), (124, .aload_n 0, 1), (125, .getfield 54, 3), (128, .bipush 20, 2), (130, .iload_n 3, 1), (131, .iadd, 1), (132, .iaload, 1), (133, .if_icmp .eq 7, 3), (136, .iconst 1, 1), (137, .goto 4, 3), (140, .iconst 0, 1), (141, .istore 6, 2), (143, .iload_n 1, 1), (144, .iconst 4, 1), (145, .if_icmp .ne 10, 3), (148, .iload 4, 2), (150, .iload 5, 2), (152, .if_icmp .ne 23, 3), (155, .iload_n 1, 1), (156, .iconst 5, 1), (157, .if_icmp .ne 24, 3), (160, .iload 4, 2), (162, .ifCond .eq 19, 3), (165, .iload 5, 2), (167, .ifCond .eq 14, 3), (170, .iload 6, 2), (172, .ifCond .eq 9, 3), (175, .iload_n 2, 1), (176, .iconst 1, 1), (177, .iadd, 1), (178, .goto 4, 3), (181, .iload_n 2, 1), (182, .istore_n 2, 1), (183, .iinc 3 1, 3), (186, .goto (-127), 3), (189, .iload_n 2, 1), (190, .ireturn, 1)]
def mX8_find : gM := (cX8_find, 7, RX8, iX8_find, ftX8, { frames := 4, cells := 0, slots := 0, locals := 94 })
theorem diX8_find : ∀ q ∈ iX8_find, decode cX8_find q.1 = .ok (q.2.1, q.2.2) ∧ gwell 7 q.1 q.2.1 q.2.2 = true := by decide +kernel
theorem kX8_find : gOkM mX8_find := ⟨diX8_find, foX8⟩
theorem aX8_find : gCalV yX8_find mX8_find (some .int) 1 := by unfold gCalV; decide +kernel
def iX8_check : List gI := [(0, .aload_n 0, 1), (1, .iconst 0, 1), (2, .putfield 88, 3), (5, .aload_n 0, 1), (6, .iconst 0, 1), (7, .putfield 170, 3), (10, .iconst 0, 1), (11, .istore_n 1, 1), (12, .iload_n 1, 1), (13, .aload_n 0, 1), (14, .getfield 160, 3), (17, .if_icmp .ge 82, 3), (20, .aload_n 0, 1), (21, .getfield 63, 3), (24, .iload_n 1, 1), (25, .baload, 1), (26, .ifCond .eq 7, 3), (29, .iconst 0, 1), (30, .goto 13, 3), (33, .aload_n 0, 1), (34, .aload_n 0, 1), (35, .getfield 57, 3), (38, .iload_n 1, 1), (39, .iaload, 1), (40, .invokevirtual 173, 3), (43, .istore_n 2, 1), (44, .aload_n 0, 1), (45, .getfield 63, 3), (48, .iload_n 1, 1), (49, .baload, 1), (50, .ifCond .ne 13, 3), (53, .iload_n 2, 1), (54, .aload_n 0, 1), (55, .getfield 60, 3), (58, .iload_n 1, 1), (59, .iaload, 1), (60, .if_icmp .le 33, 3), (63, .aload_n 0, 1), (64, .getfield 66, 3), (67, .aload_n 0, 1), (68, .getfield 170, 3), (71, .iload_n 1, 1), (72, .iastore, 1), (73, .aload_n 0, 1), (74, .getfield 69, 3), (77, .aload_n 0, 1), (78, .getfield 170, 3), (81, .iload_n 2, 1), (82, .iastore, 1), (83, .aload_n 0, 1), (84, .dup, 1), (85, .getfield 170, 3), (88, .iconst 1, 1), (89, .iadd, 1), (90, .putfield 170, 3), (93, .iinc 1 1, 3), (96, .goto (-84), 3), (99, .aload_n 0, 1), (100, .getfield 170, 3), (103, .ireturn, 1)]
def mX8_check : gM := (cX8_check, 3, RX8, iX8_check, ftX8, { frames := 5, cells := 0, slots := 0, locals := 120 })
theorem diX8_check : ∀ q ∈ iX8_check, decode cX8_check q.1 = .ok (q.2.1, q.2.2) ∧ gwell 3 q.1 q.2.1 q.2.2 = true := by decide +kernel
theorem kX8_check : gOkM mX8_check := ⟨diX8_check, foX8⟩
theorem aX8_check : gCalV yX8_check mX8_check (some .int) 0 := by unfold gCalV; decide +kernel
def iX8_fault : List gI := [(0, .aload_n 0, 1), (1, .iload_n 1, 1), (2, .iconst 0, 1), (3, .aload_n 0, 1), (4, .getfield 170, 3), (7, .iconst 1, 1), (8, .isub, 1), (9, .invokestatic 91, 3), (12, .ifCond .eq 16, 3), (15, .iload_n 2, 1), (16, .iconst 0, 1), (17, .iconst 2, 1), (18, .invokestatic 91, 3), (21, .ifCond .eq 7, 3), (24, .iconst 0, 1), (25, .goto 4, 3), (28, .iconst 1, 1), (29, .putfield 88, 3), (32, .aload_n 0, 1), (33, .getfield 88, 3), (36, .ifCond .le 5, 3), (39, .iconst 0, 1), (40, .ireturn, 1), (41, .aload_n 0, 1), (42, .getfield 66, 3), (45, .iload_n 1, 1), (46, .iaload, 1), (47, .istore_n 3, 1), (48, .iload_n 2, 1), (49, .ifCond .ne 7, 3), (52, .iload_n 3, 1), (53, .goto 36, 3), (56, .iload_n 2, 1), (57, .iconst 1, 1), (58, .if_icmp .ne 25, 3), (61, .aload_n 0, 1), (62, .getfield 63, 3), (65, .iload_n 3, 1), (66, .baload, 1), (67, .ifCond .eq 7, 3), (70, .iconst (-1), 1), (71, .goto 18, 3), (74, .aload_n 0, 1), (75, .getfield 57, 3), (78, .iload_n 3, 1), (79, .iaload, 1), (80, .goto 9, 3), (83, .aload_n 0, 1), (84, .getfield 69, 3), (87, .iload_n 1, 1), (88, .iaload, 1), (89, .ireturn, 1)]
def mX8_fault : gM := (cX8_fault, 4, RX8, iX8_fault, ftX8, { frames := 1, cells := 0, slots := 0, locals := 22 })
theorem diX8_fault : ∀ q ∈ iX8_fault, decode cX8_fault q.1 = .ok (q.2.1, q.2.2) ∧ gwell 4 q.1 q.2.1 q.2.2 = true := by decide +kernel
theorem kX8_fault : gOkM mX8_fault := ⟨diX8_fault, foX8⟩
theorem aX8_fault : gCalV yX8_fault mX8_fault (some .int) 2 := by unfold gCalV; decide +kernel
def iX8_approve : List gI := [(0, .aload_n 0, 1), (1, .iload_n 1, 1), (2, .iconst 0, 1), (3, .bipush 19, 2), (5, .invokestatic 91, 3), (8, .ifCond .ne 7, 3), (11, .iconst 1, 1), (12, .goto 12, 3), (15, .iload_n 2, 1), (16, .ifCond .ge 7, 3), (19, .iconst 2, 1), (20, .goto 4, 3), (23, .iconst 0, 1), (24, .putfield 88, 3), (27, .aload_n 0, 1), (28, .getfield 88, 3), (31, .ifCond .gt 13, 3), (34, .iload_n 2, 1), (35, .aload_n 0, 1), (36, .getfield 72, 3), (39, .iload_n 1, 1), (40, .iaload, 1), (41, .if_icmp .ge 5, 3), (44, .iconst 0, 1), (45, .ireturn, 1), (46, .iload_n 2, 1), (47, .aload_n 0, 1), (48, .getfield 72, 3), (51, .iload_n 1, 1), (52, .iaload, 1), (53, .if_icmp .ne 12, 3), (56, .aload_n 0, 1), (57, .getfield 75, 3), (60, .iload_n 1, 1), (61, .iaload, 1), (62, .goto 4, 3), (65, .iconst 0, 1), (66, .istore 4, 2), (68, .iconst 0, 1), (69, .istore 5, 2), (71, .iload 5, 2), (73, .iload 4, 2), (75, .if_icmp .ge 27, 3), (78, .aload_n 0, 1), (79, .getfield 78, 3), (82, .bipush 6, 2), (84, .iload_n 1, 1), (85, .imul, 1), (86, .iload 5, 2), (88, .iadd, 1), (89, .iaload, 1), (90, .iload_n 3, 1), (91, .if_icmp .ne 5, 3), (94, .iconst 0, 1), (95, .ireturn, 1), (96, .iinc 5 1, 3), (99, .goto (-28), 3), (102, .aload_n 0, 1), (103, .iload 4, 2), (105, .bipush 6, 2), (107, .if_icmp .ne 7, 3), (110, .iconst 3, 1), (111, .goto 4, 3), (114, .iconst 0, 1), (115, .putfield 88, 3), (118, .aload_n 0, 1), (119, .getfield 88, 3), (122, .ifCond .le 5, 3), (125, .iconst 0, 1), (126, .ireturn, 1), (127, .aload_n 0, 1), (128, .getfield 72, 3), (131, .iload_n 1, 1), (132, .iload_n 2, 1), (133, .iastore, 1), (134, .aload_n 0, 1), (135, .getfield 78, 3), (138, .bipush 6, 2), (140, .iload_n 1, 1), (141, .imul, 1), (142, .iload 4, 2), (144, .iadd, 1), (145, .iload_n 3, 1), (146, .iastore, 1), (147, .aload_n 0, 1), (148, .getfield 75, 3), (151, .iload_n 1, 1), (152, .iload 4, 2), (154, .iconst 1, 1), (155, .iadd, 1), (156, .iastore, 1), (157, .iconst 1, 1), (158, .ireturn, 1)]
def mX8_approve : gM := (cX8_approve, 6, RX8, iX8_approve, ftX8, { frames := 1, cells := 0, slots := 0, locals := 22 })
theorem diX8_approve : ∀ q ∈ iX8_approve, decode cX8_approve q.1 = .ok (q.2.1, q.2.2) ∧ gwell 6 q.1 q.2.1 q.2.2 = true := by decide +kernel
theorem kX8_approve : gOkM mX8_approve := ⟨diX8_approve, foX8⟩
theorem aX8_approve : gCalV yX8_approve mX8_approve (some .int) 3 := by unfold gCalV; decide +kernel
def iX8_approved : List gI := [(0, .aload_n 0, 1), (1, .iload_n 1, 1), (2, .iconst 0, 1), (3, .bipush 19, 2), (5, .invokestatic 91, 3), (8, .ifCond .eq 7, 3), (11, .iconst 0, 1), (12, .goto 4, 3), (15, .iconst 1, 1), (16, .putfield 88, 3), (19, .aload_n 0, 1), (20, .getfield 88, 3), (23, .ifCond .ne 17, 3), (26, .aload_n 0, 1), (27, .getfield 75, 3), (30, .iload_n 1, 1), (31, .iaload, 1), (32, .iconst 1, 1), (33, .if_icmp .le 7, 3), (36, .iconst 1, 1), (37, .goto 4, 3), (40, .iconst 0, 1), (41, .ireturn, 1)]
def mX8_approved : gM := (cX8_approved, 2, RX8, iX8_approved, ftX8, { frames := 1, cells := 0, slots := 0, locals := 22 })
theorem diX8_approved : ∀ q ∈ iX8_approved, decode cX8_approved q.1 = .ok (q.2.1, q.2.2) ∧ gwell 2 q.1 q.2.1 q.2.2 = true := by decide +kernel
theorem kX8_approved : gOkM mX8_approved := ⟨diX8_approved, foX8⟩
theorem aX8_approved : gCalV yX8_approved mX8_approved (some .boolean) 1 := by unfold gCalV; decide +kernel
end
section
/-! Math.max, min, abs, System.arraycopy, arrays of arrays, switches, over G -/
theorem wm_max : Cond.static Lib.Math.max.name ∈ gtb ∧ Cond.initialized "java/lang/Math" ∈ gtb ∧ Cond.code Lib.Math.max.name Lib.Math.max.code 2 (some .int) ∈ gtb := by decide +kernel
theorem wm_min : Cond.static Lib.Math.min.name ∈ gtb ∧ Cond.initialized "java/lang/Math" ∈ gtb ∧ Cond.code Lib.Math.min.name Lib.Math.min.code 2 (some .int) ∈ gtb := by decide +kernel
theorem wm_abs : Cond.static Lib.Math.abs.name ∈ gtb ∧ Cond.initialized "java/lang/Math" ∈ gtb ∧ Cond.code Lib.Math.abs.name Lib.Math.abs.code 1 (some .int) ∈ gtb := by decide +kernel
theorem wm_cpy : Cond.native arraycopyName ∈ gtb ∧ Cond.static arraycopyName ∈ gtb ∧ Cond.initialized "java/lang/System" ∈ gtb := by decide +kernel
theorem g_mmax {X : gX} {mm : gM} {ad : Nat → Nat} {kc ks : Nat} (hX : gOk X mm) {w : gW} {pc : Nat} {lv : List (Nat × gV)} {st : List gV} {x y : Int} {idx : Nat} (hi : gfet pc mm.2.2.2.1 = some (.invokestatic idx, 3)) (hl1 : Cond.methodLink mm.2.2.1 idx Lib.Math.max.name ∈ gtb) (hr : (1 ≤ mm.2.2.2.2.2.frames ∧ gstk st + 13 ≤ mm.2.2.2.2.2.locals) ∧ kc ≤ mm.2.2.2.2.2.cells ∧ ks ≤ mm.2.2.2.2.2.slots) (hx : inR x) (hy : inR y) (k : G X mm ad kc ks (w, pc + 3, lv, .inl (max x y) :: st)) : G X mm ad kc ks (w, pc, lv, .inl y :: .inl x :: st) := by
  have hd := (hX.m.1 _ (gfet_mem hi)).1
  obtain ⟨p, l, e, R, s, m, args, below, meth, c, D, cA, A, H0, Q⟩ := X
  obtain ⟨hxc, hb, hml, hown, hts, hK, hlk, hA, hR, hM⟩ := hX
  intro H locs ls hP hD hS hl
  refine va_mmax hxc hb (by rw [hml]; exact hl.1.symm) hown (hts _ hl1) (hts _ wm_max.1) (hts _ wm_max.2.1) (hts _ wm_max.2.2) (by rw [hR]; exact hr.1.1) (by rw [gstk_ok, hR]; exact hr.1.2) (by rw [hR]; exact hr.2.1) (by rw [hR]; exact hr.2.2) hd ?_
  have e9 : (if Int32.ofInt x < Int32.ofInt y then Int32.ofInt y else Int32.ofInt x) = Int32.ofInt (max x y) := by
    by_cases h : x < y
    · rw [if_pos ((gI_lt hx hy).mpr h)]; congr 1; omega
    · rw [if_neg (fun h9 => h ((gI_lt hx hy).mp h9))]; congr 1; omega
  rw [e9]
  exact k H locs ls hP hD hS hl
theorem g_mmin {X : gX} {mm : gM} {ad : Nat → Nat} {kc ks : Nat} (hX : gOk X mm) {w : gW} {pc : Nat} {lv : List (Nat × gV)} {st : List gV} {x y : Int} {idx : Nat} (hi : gfet pc mm.2.2.2.1 = some (.invokestatic idx, 3)) (hl1 : Cond.methodLink mm.2.2.1 idx Lib.Math.min.name ∈ gtb) (hr : (1 ≤ mm.2.2.2.2.2.frames ∧ gstk st + 13 ≤ mm.2.2.2.2.2.locals) ∧ kc ≤ mm.2.2.2.2.2.cells ∧ ks ≤ mm.2.2.2.2.2.slots) (hx : inR x) (hy : inR y) (k : G X mm ad kc ks (w, pc + 3, lv, .inl (min x y) :: st)) : G X mm ad kc ks (w, pc, lv, .inl y :: .inl x :: st) := by
  have hd := (hX.m.1 _ (gfet_mem hi)).1
  obtain ⟨p, l, e, R, s, m, args, below, meth, c, D, cA, A, H0, Q⟩ := X
  obtain ⟨hxc, hb, hml, hown, hts, hK, hlk, hA, hR, hM⟩ := hX
  intro H locs ls hP hD hS hl
  refine va_mmin hxc hb (by rw [hml]; exact hl.1.symm) hown (hts _ hl1) (hts _ wm_min.1) (hts _ wm_min.2.1) (hts _ wm_min.2.2) (by rw [hR]; exact hr.1.1) (by rw [gstk_ok, hR]; exact hr.1.2) (by rw [hR]; exact hr.2.1) (by rw [hR]; exact hr.2.2) hd ?_
  have e9 : (if Int32.ofInt y < Int32.ofInt x then Int32.ofInt y else Int32.ofInt x) = Int32.ofInt (min x y) := by
    by_cases h : y < x
    · rw [if_pos ((gI_lt hy hx).mpr h)]; congr 1; omega
    · rw [if_neg (fun h9 => h ((gI_lt hy hx).mp h9))]; congr 1; omega
  rw [e9]
  exact k H locs ls hP hD hS hl
theorem g_mabs {X : gX} {mm : gM} {ad : Nat → Nat} {kc ks : Nat} (hX : gOk X mm) {w : gW} {pc : Nat} {lv : List (Nat × gV)} {st : List gV} {x : Int} {idx : Nat} (hi : gfet pc mm.2.2.2.1 = some (.invokestatic idx, 3)) (hl1 : Cond.methodLink mm.2.2.1 idx Lib.Math.abs.name ∈ gtb) (hr : (1 ≤ mm.2.2.2.2.2.frames ∧ gstk st + 13 ≤ mm.2.2.2.2.2.locals) ∧ kc ≤ mm.2.2.2.2.2.cells ∧ ks ≤ mm.2.2.2.2.2.slots) (hx : inR x) (k : G X mm ad kc ks (w, pc + 3, lv, .inl (max x (-x)) :: st)) : G X mm ad kc ks (w, pc, lv, .inl x :: st) := by
  have hd := (hX.m.1 _ (gfet_mem hi)).1
  obtain ⟨p, l, e, R, s, m, args, below, meth, c, D, cA, A, H0, Q⟩ := X
  obtain ⟨hxc, hb, hml, hown, hts, hK, hlk, hA, hR, hM⟩ := hX
  intro H locs ls hP hD hS hl
  refine va_mabs hxc hb (by rw [hml]; exact hl.1.symm) hown (hts _ hl1) (hts _ wm_abs.1) (hts _ wm_abs.2.1) (hts _ wm_abs.2.2) (by rw [hR]; exact hr.1.1) (by rw [gstk_ok, hR]; exact hr.1.2) (by rw [hR]; exact hr.2.1) (by rw [hR]; exact hr.2.2) hd ?_
  have h0 : inR 0 := ⟨by omega, by omega⟩
  have e9 : (if 0 ≤ Int32.ofInt x then Int32.ofInt x else 0 - Int32.ofInt x) = Int32.ofInt (max x (-x)) := by
    have e0 : (0 : Int32) = Int32.ofInt 0 := rfl
    rw [e0]
    by_cases h : 0 ≤ x
    · rw [if_pos ((gI_le h0 hx).mpr h)]; congr 1; omega
    · rw [if_neg (fun h9 => h ((gI_le h0 hx).mp h9)), show max x (-x) = 0 - x by omega, Int32.ofInt_sub]
  rw [e9]
  exact k H locs ls hP hD hS hl
/-- f's n numbers from sp on, at dp in g -/
def gcp (f g : Int → Int) (sp dp n : Int) : Int → Int := fun j => if dp ≤ j ∧ j < dp + n then f (sp + (j - dp)) else g j
theorem gI_cpy {f g : Int → Int} {sp dp n : Int} {n1 : Nat} (h1 : 0 ≤ sp) (h2 : 0 ≤ dp) (h3 : 0 ≤ n) (h4 : sp ≤ 2147483647) (h5 : dp ≤ 2147483647) (h6 : n ≤ 2147483647) : va_cpy (fun j : Nat => Int32.ofInt (f (j : Int))) (fun j : Nat => Int32.ofInt (g (j : Int))) (Int32.ofInt sp).toNatClampNeg (Int32.ofInt dp).toNatClampNeg (Int32.ofInt n).toNatClampNeg = (fun j : Nat => Int32.ofInt (gcp f g sp dp n (j : Int))) := by
  funext j
  rw [gI_cl h1 h4, gI_cl h2 h5, gI_cl h3 h6]
  simp only [va_cpy, gcp]
  by_cases hj : dp ≤ (j : Int) ∧ (j : Int) < dp + n
  · have h9 : dp.toNat ≤ j ∧ j < dp.toNat + n.toNat := by omega
    rw [if_pos h9, if_pos hj]
    congr 2
    omega
  · have h9 : ¬ (dp.toNat ≤ j ∧ j < dp.toNat + n.toNat) := by omega
    rw [if_neg h9, if_neg hj]
theorem g_copy {X : gX} {mm : gM} {ad : Nat → Nat} {kc ks : Nat} (hX : gOk X mm) {w : gW} {pc : Nat} {lv : List (Nat × gV)} {st : List gV} {sp dp n : Int} {o0 o1 idx : Nat} {n0 n1 : Nat} {f g : Int → Int} (hi : gfet pc mm.2.2.2.1 = some (.invokestatic idx, 3)) (hl1 : Cond.methodLink mm.2.2.1 idx arraycopyName ∈ gtb) (hr : 1 ≤ mm.2.2.2.2.2.frames ∧ gstk st + 18 ≤ mm.2.2.2.2.2.locals) (h0 : gwl o0 w = some (gai 0 n0 f)) (h1 : gwl o1 w = some (gai 0 n1 g)) (hb1 : 0 ≤ sp ∧ 0 ≤ dp ∧ 0 ≤ n ∧ sp + n ≤ n0 ∧ dp + n ≤ n1 ∧ (n0 : Int) ≤ 2147483647 ∧ (n1 : Int) ≤ 2147483647)
    (k : G X mm ad kc ks (gws o1 (gai 0 n1 (gcp f g sp dp n)) w, pc + 3, lv, st)) : G X mm ad kc ks (w, pc, lv, .inl n :: .inl dp :: gr o1 :: .inl sp :: gr o0 :: st) := by
  have hd := (hX.m.1 _ (gfet_mem hi)).1
  obtain ⟨p, l, e, R, s, m, args, below, meth, c, D, cA, A, H0, Q⟩ := X
  obtain ⟨hxc, hb, hml, hown, hts, hK, hlk, hA, hR, hM⟩ := hX
  obtain ⟨g1, g2, g3, g4, g5, g6, g7⟩ := hb1
  have z0 : inR 0 := ⟨by omega, by omega⟩
  have nn : ∀ z : Int, 0 ≤ z → z ≤ 2147483647 → ¬ Int32.ofInt z < 0 := fun z a b h => by
    have := (gI_lt ⟨by omega, by omega⟩ z0).mp h
    omega
  intro H locs ls hP hD hS hl
  obtain ⟨q0, hq0, -⟩ := gwl_ix h0
  obtain ⟨q1, hq1, hset⟩ := gwl_ix h1
  refine va_copyi (D := D) (ty := .int) hxc hb (by rw [hml]; exact hl.1.symm) hown (hts _ hl1) (hts _ wm_cpy.1) (hts _ wm_cpy.2.1) (hts _ wm_cpy.2.2) hK hP hD hS q0 q1 0 0 (gw_at hq0) (gw_at hq1) rfl rfl rfl (nn sp g1 (by omega)) (nn dp g2 (by omega)) (nn n g3 (by omega)) (by rw [gI_cl g1 (by omega), gI_cl g3 (by omega)]; omega) (by rw [gI_cl g2 (by omega), gI_cl g3 (by omega)]; omega) (fun _ _ => rfl) (by rw [hR]; exact hr.1) (by rw [gstk_ok, hR]; exact hr.2) hd (fun H1 locs1 hP1 hD1 hS1 => ?_)
  rw [gI_cpy (n1 := n1) g1 g2 g3 (by omega) (by omega) (by omega)] at hP1 hD1
  refine k H1 locs1 ls ?_ ?_ hS1 hl
  · show va_P D vwCl (gw cA ad (gws o1 _ w)) H1
    rw [hset, gw_set]
    exact hP1
  · show va_D A (gw cA ad (gws o1 _ w))
    rw [hset, gw_set]
    exact hD1
/-- a row of an array of arrays: which cell it is has to be known -/
theorem g_aald {X : gX} {mm : gM} {ad : Nat → Nat} {kc ks : Nat} (hX : gOk X mm) {w : gW} {pc : Nat} {lv : List (Nat × gV)} {st : List gV} {z : Int} {o : Nat} {n : Nat} {f : Int → Option Nat} (y : Nat) (hi : gfet pc mm.2.2.2.1 = some (.aaload, 1)) (h0 : gwl o w = some (gar 2 n f)) (hz : 0 ≤ z ∧ z < (n : Int) ∧ (n : Int) ≤ 2147483647) (hy : f z = some y) (k : G X mm ad kc ks (w, pc + 1, lv, gr y :: st)) : G X mm ad kc ks (w, pc, lv, .inl z :: gr o :: st) := by
  have hd := (hX.m.1 _ (gfet_mem hi)).1
  obtain ⟨p, l, e, R, s, m, args, below, meth, c, D, cA, A, H0, Q⟩ := X
  obtain ⟨hxc, hb, hml, hown, hts, hK, hlk, hA, hR, hM⟩ := hX
  intro H locs ls hP hD hS hl
  obtain ⟨q0, hq0, -⟩ := gwl_ix h0
  have hin := gI_in hz
  have hlt : (Int32.ofInt z).toNatClampNeg < n := Nat.not_le.mp fun q => hin (Or.inr q)
  have hv : (f (((Int32.ofInt z).toNatClampNeg : Nat) : Int)).map ad = some (ad y) := by
    rw [gI_cl hz.1 (by omega), Int.toNat_of_nonneg hz.1, hy]
    rfl
  exact W.aald (v := .ref (ad y)) (ty := .array .int) hxc hb (hP q0 _ (gw_at hq0)) ((hK.2 2 _ rfl).1 n (fun j => va_rf ((f (j : Int)).map ad))) rfl (fun q => by cases q) (by show ¬ (Int32.ofInt z < 0 ∨ (arrV _ _ _).slots.size ≤ _); rw [arrV_size]; exact hin) (by show (arrV _ _ _).slots[_]? = _; rw [arrV_read _ _ hlt]; show some (va_rf ((f (((Int32.ofInt z).toNatClampNeg : Nat) : Int)).map ad)) = _; rw [hv]; rfl) rfl rfl hd (k H locs ls hP hD hS hl)
theorem g_swIn {X : gX} {mm : gM} {ad : Nat → Nat} {kc ks : Nat} (hX : gOk X mm) {w : gW} {pc : Nat} {lv : List (Nat × gV)} {st : List gV} {x : Int} {dflt lo hi : Int} {offs : Array Int} {len : Nat} {off : Int} (tgt : Nat) (hf : gfet pc mm.2.2.2.1 = some (.tableswitch dflt lo hi offs, len)) (hx : inR x) (h1 : lo ≤ x) (h2 : x ≤ hi) (ho : offs[(x - lo).toNat]? = some off) (ht : (pc : Int) + off = (tgt : Int)) (k : G X mm ad kc ks (w, tgt, lv, st)) : G X mm ad kc ks (w, pc, lv, .inl x :: st) := by
  have hd := (hX.m.1 _ (gfet_mem hf)).1
  obtain ⟨p, l, e, R, s, m, args, below, meth, c, D, cA, A, H0, Q⟩ := X
  obtain ⟨hxc, hb, hml, hown, hts, hK, hlk, hA, hR, hM⟩ := hX
  intro H locs ls hP hD hS hl
  exact lv_tableIn hxc hb hd (by rw [gI_toInt hx]; omega) (by rw [gI_toInt hx]; omega) (by rw [gI_toInt hx]; exact ho) ht (k H locs ls hP hD hS hl)
theorem g_swOut {X : gX} {mm : gM} {ad : Nat → Nat} {kc ks : Nat} (hX : gOk X mm) {w : gW} {pc : Nat} {lv : List (Nat × gV)} {st : List gV} {x : Int} {dflt lo hi : Int} {offs : Array Int} {len : Nat} (tgt : Nat) (hf : gfet pc mm.2.2.2.1 = some (.tableswitch dflt lo hi offs, len)) (hx : inR x) (h1 : x < lo ∨ hi < x) (ht : (pc : Int) + dflt = (tgt : Int)) (k : G X mm ad kc ks (w, tgt, lv, st)) : G X mm ad kc ks (w, pc, lv, .inl x :: st) := by
  have hd := (hX.m.1 _ (gfet_mem hf)).1
  obtain ⟨p, l, e, R, s, m, args, below, meth, c, D, cA, A, H0, Q⟩ := X
  obtain ⟨hxc, hb, hml, hown, hts, hK, hlk, hA, hR, hM⟩ := hX
  intro H locs ls hP hD hS hl
  exact lv_tableOut hxc hb hd (by rw [gI_toInt hx]; exact h1) ht (k H locs ls hP hD hS hl)
/-- 1 if it holds, else 0 -/
noncomputable def gb (P : Prop) : Int := @ite Int P (Classical.propDecidable P) 1 0
theorem gb_t {P : Prop} (h : P) : gb P = 1 := by unfold gb; exact if_pos h
theorem gb_f {P : Prop} (h : ¬ P) : gb P = 0 := by unfold gb; exact if_neg h
theorem gb_01 (P : Prop) : gb P = 0 ∨ gb P = 1 := (Classical.em P).elim (fun h => Or.inr (gb_t h)) (fun h => Or.inl (gb_f h))
theorem gb_0 {P : Prop} : gb P = 0 ↔ ¬ P := ⟨fun h hp => by (rw [gb_t hp] at h; cases h), gb_f⟩
theorem gb_1 {P : Prop} : gb P = 1 ↔ P := ⟨fun h => Classical.byContradiction fun hp => by (rw [gb_f hp] at h; cases h), gb_t⟩
theorem gb_r (P : Prop) : inR (gb P) := by rcases gb_01 P with h | h <;> rw [h] <;> exact ⟨by omega, by omega⟩
theorem gb_c {P Q : Prop} (h : P ↔ Q) : gb P = gb Q := by rw [propext h]
end
section
/-! pure rows: exchanging, counting, greatest -/
/-- the first n numbers of rows i and j (five a row) exchanged -/
def gswn (f : Int → Int) (i j n : Int) : Int → Int := fun q => if i * 5 ≤ q ∧ q < i * 5 + n then f (q - i * 5 + j * 5) else if j * 5 ≤ q ∧ q < j * 5 + n then f (q - j * 5 + i * 5) else f q
theorem gswn_0 (f : Int → Int) (i j : Int) : gswn f i j 0 = f := by
  funext q
  unfold gswn
  rw [if_neg (by omega), if_neg (by omega)]
theorem gswn_s (f : Int → Int) {i j n : Int} (h : i ≠ j) (h0 : 0 ≤ n) (h5 : n < 5) : gu (gu (gswn f i j n) (i * 5 + n) (gswn f i j n (j * 5 + n))) (j * 5 + n) (gswn f i j n (i * 5 + n)) = gswn f i j (n + 1) := by
  funext q
  have hh : i < j ∨ j < i := by omega
  simp only [gu, gswn]
  by_cases a : q = j * 5 + n
  · rw [if_pos a, if_neg (by omega), if_neg (by omega), if_neg (by omega), if_pos (by omega)]
    congr 1
    omega
  · rw [if_neg a]
    by_cases b : q = i * 5 + n
    · rw [if_pos b, if_neg (by omega), if_neg (by omega), if_pos (by omega)]
      congr 1
      omega
    · rw [if_neg b]
      by_cases c : i * 5 ≤ q ∧ q < i * 5 + n
      · rw [if_pos c, if_pos (by omega)]
      · rw [if_neg c, if_neg (by omega : ¬ (i * 5 ≤ q ∧ q < i * 5 + (n + 1)))]
        by_cases d : j * 5 ≤ q ∧ q < j * 5 + n
        · rw [if_pos d, if_pos (by omega)]
        · rw [if_neg d, if_neg (by omega : ¬ (j * 5 ≤ q ∧ q < j * 5 + (n + 1)))]
theorem gswn_at (f : Int → Int) {i j : Int} (h : i ≠ j) (k : Int) (h0 : 0 ≤ k) (h5 : k < 5) : gswn f i j 5 (i * 5 + k) = f (j * 5 + k) ∧ gswn f i j 5 (j * 5 + k) = f (i * 5 + k) := by
  have hh : i < j ∨ j < i := by omega
  unfold gswn
  refine ⟨?_, ?_⟩
  · rw [if_pos (by omega)]
    congr 1
    omega
  · rw [if_neg (by omega), if_pos (by omega)]
    congr 1
    omega
theorem gswn_off (f : Int → Int) {i j m : Int} (hi : m ≠ i) (hj : m ≠ j) (k : Int) (h0 : 0 ≤ k) (h5 : k < 5) : gswn f i j 5 (m * 5 + k) = f (m * 5 + k) := by
  unfold gswn
  rw [if_neg (by omega), if_neg (by omega)]
theorem gswn_r {f : Int → Int} (h : ∀ q, inR (f q)) (i j n : Int) : ∀ q, inR (gswn f i j n q) := fun q => by
  unfold gswn
  split
  · exact h _
  · split <;> exact h _
theorem gu_r {f : Int → Int} (h : ∀ q, inR (f q)) {k v : Int} (hv : inR v) : ∀ q, inR (gu f k v q) := fun q => by
  unfold gu
  split
  · exact hv
  · exact h q
theorem gcp_r {f g : Int → Int} (hf : ∀ q, inR (f q)) (hg : ∀ q, inR (g q)) (sp dp n : Int) : ∀ q, inR (gcp f g sp dp n q) := fun q => by
  unfold gcp
  split
  · exact hf _
  · exact hg q
/-- the sum of the first n -/
def gsm (f : Int → Int) : Nat → Int
  | 0 => 0
  | n + 1 => gsm f n + f n
theorem gsm_gu (f : Int → Int) (p v : Int) : ∀ n : Nat, gsm (gu f p v) n = gsm f n + (if 0 ≤ p ∧ p < n then v - f p else 0)
  | 0 => by
    rw [if_neg (by omega)]
    rfl
  | n + 1 => by
    show gsm (gu f p v) n + gu f p v n = gsm f n + f n + _
    rw [gsm_gu f p v n]
    unfold gu
    by_cases h : (n : Int) = p
    · subst h
      rw [if_pos rfl, if_neg (by omega), if_pos (by omega)]
      omega
    · rw [if_neg h]
      by_cases h2 : 0 ≤ p ∧ p < (n : Int)
      · rw [if_pos h2, if_pos (by omega)]
        omega
      · rw [if_neg h2, if_neg (by omega)]
        omega
theorem gsm_nn {f : Int → Int} (h : ∀ q, f q = 0 ∨ f q = 1) : ∀ n : Nat, 0 ≤ gsm f n ∧ gsm f n ≤ n
  | 0 => ⟨Int.le_refl _, Int.le_refl _⟩
  | n + 1 => by
    have := gsm_nn h n
    have h2 := h n
    show 0 ≤ gsm f n + f n ∧ gsm f n + f n ≤ ((n + 1 : Nat) : Int)
    omega
theorem gsm_pos {f : Int → Int} (h : ∀ q, f q = 0 ∨ f q = 1) {p : Int} (hp : f p = 1) : ∀ n : Nat, 0 ≤ p → p < n → 1 ≤ gsm f n
  | 0, a, b => by omega
  | n + 1, a, b => by
    show 1 ≤ gsm f n + f n
    have h1 := gsm_nn h n
    have h2 := h n
    by_cases hn : p = n
    · rw [← hn, hp]
      omega
    · have := gsm_pos h hp n a (by omega)
      omega
/-- the greatest of 0 and the first n -/
def gmx (f : Int → Int) : Nat → Int
  | 0 => 0
  | n + 1 => max (gmx f n) (f n)
theorem gmx_le {f : Int → Int} {b : Int} (hb : 0 ≤ b) : ∀ n : Nat, (∀ i : Nat, i < n → f i ≤ b) → 0 ≤ gmx f n ∧ gmx f n ≤ b
  | 0, _ => ⟨Int.le_refl _, hb⟩
  | n + 1, h => by
    have := gmx_le hb n (fun i hi => h i (by omega))
    have h2 := h n (by omega)
    show 0 ≤ max (gmx f n) (f n) ∧ max (gmx f n) (f n) ≤ b
    omega
theorem gmul_le {a b c d : Int} (h1 : 0 ≤ a) (h2 : a ≤ c) (h3 : 0 ≤ b) (h4 : b ≤ d) : 0 ≤ a * b ∧ a * b ≤ c * d :=
  ⟨Int.mul_nonneg h1 h3, Int.mul_le_mul h2 h4 h3 (by omega)⟩
/-- a place's number is in range -/
theorem gix {W H P : Nat} (hP : P = W * H) {x y : Int} (hx : 0 ≤ x) (hxW : x < W) (hy : 0 ≤ y) (hyH : y < H) : 0 ≤ y * W + x ∧ y * W + x < P := by
  have h1 := gmul_le (a := y) (b := W) (c := (H : Int) - 1) (d := W) hy (by omega) (by omega) (Int.le_refl _)
  have h2 : ((H : Int) - 1) * W = (P : Int) - W := by
    rw [hP, Int.sub_mul, Int.one_mul, Int.mul_comm]
    simp
  omega
/-- the box that grows and row i share a place -/
def gsh (gro rows : Int → Int) (i : Int) : Prop := gro 0 ≤ rows (i * 5 + 2) ∧ rows (i * 5 + 0) ≤ gro 2 ∧ gro 1 ≤ rows (i * 5 + 3) ∧ rows (i * 5 + 1) ≤ gro 3
/-- row i comes before row j -/
def gbf (rows : Int → Int) (i j : Int) : Prop := rows (i * 5 + 1) < rows (j * 5 + 1) ∨ (rows (i * 5 + 1) = rows (j * 5 + 1) ∧ rows (i * 5 + 0) < rows (j * 5 + 0))
def gwd (gro : Int → Int) (x1 x2 x3 x4 : Int) : Int → Int := gu (gu (gu (gu gro 0 (min (gro 0) x1)) 1 (min (gro 1) x2)) 2 (max (gro 2) x3)) 3 (max (gro 3) x4)
/-- the box that grows, when it takes row i in -/
def gab (gro rows : Int → Int) (i : Int) : Int → Int := gu (gwd gro (rows (i * 5 + 0)) (rows (i * 5 + 1)) (rows (i * 5 + 2)) (rows (i * 5 + 3))) 4 (gwd gro (rows (i * 5 + 0)) (rows (i * 5 + 1)) (rows (i * 5 + 2)) (rows (i * 5 + 3)) 4 + rows (i * 5 + 4))
/-- the places of the window round (x, y) that lie before (row ro, column co) have no mark -/
def gscn (W H : Nat) (x y r : Int) (mk : Int → Int) (ro co : Int) : Prop := ∀ px py : Int, 0 ≤ px → px < W → 0 ≤ py → py < H → x - r ≤ px → px ≤ x + r → y - r ≤ py → py ≤ y + r → (py < ro ∨ (py = ro ∧ px < co)) → mk (py * W + px) = 0
theorem gscn_take {W H : Nat} {x y r : Int} {mk : Int → Int} {ro co : Int} (h : gscn W H x y r mk ro co) : gscn W H x y r (gu mk (ro * W + co) 0) ro (co + 1) := by
  intro px py h1 h2 h3 h4 h5 h6 h7 h8 h9
  unfold gu
  split
  · rfl
  · next hn =>
    refine h px py h1 h2 h3 h4 h5 h6 h7 h8 ?_
    rcases h9 with h9 | ⟨rfl, h9⟩
    · exact Or.inl h9
    · refine Or.inr ⟨rfl, ?_⟩
      have : px ≠ co := fun e => hn (by rw [e])
      omega
theorem gscn_skip {W H : Nat} {x y r : Int} {mk : Int → Int} {ro co : Int} (h : gscn W H x y r mk ro co) (h0 : mk (ro * W + co) = 0) : gscn W H x y r mk ro (co + 1) := by
  intro px py h1 h2 h3 h4 h5 h6 h7 h8 h9
  by_cases hn : py = ro ∧ px = co
  · rw [hn.1, hn.2]
    exact h0
  · exact h px py h1 h2 h3 h4 h5 h6 h7 h8 (by omega)
theorem gscn_row {W H : Nat} {x y r : Int} {mk : Int → Int} {ro co : Int} (h : gscn W H x y r mk ro co) (hc : min ((W : Int) - 1) (x + r) < co) (c2 : Int) (h2 : c2 ≤ max 0 (x - r)) : gscn W H x y r mk (ro + 1) c2 := by
  intro px py h1 h2 h3 h4 h5 h6 h7 h8 h9
  exact h px py h1 h2 h3 h4 h5 h6 h7 h8 (by omega)
/-- rows 0 .. i are in order but for what lies before row j -/
def gSI (rows : Int → Int) (i j : Int) : Prop := ∀ a b : Int, 0 ≤ a → a < b → b ≤ i → b ≠ j → ¬ gbf rows b a
theorem gSI_swap {rows : Int → Int} {i j : Int} (h : gSI rows i j) (hj : 0 < j) (hi : j ≤ i) (hb : gbf rows j (j - 1)) : gSI (gswn rows j (j - 1) 5) i (j - 1) := by
  intro a b h0 h1 h2 h3
  have e0 := gswn_at rows (i := j) (j := j - 1) (by omega) 0 (by omega) (by omega)
  have e1 := gswn_at rows (i := j) (j := j - 1) (by omega) 1 (by omega) (by omega)
  by_cases b1 : b = j
  · subst b1
    by_cases a1 : a = b - 1
    · subst a1
      unfold gbf at *
      omega
    · have := h a (b - 1) h0 (by omega) (by omega) (by omega)
      have f0 := gswn_off rows (i := b) (j := b - 1) (m := a) (by omega) (by omega) 0 (by omega) (by omega)
      have f1 := gswn_off rows (i := b) (j := b - 1) (m := a) (by omega) (by omega) 1 (by omega) (by omega)
      unfold gbf at *
      omega
  · have g0 := gswn_off rows (i := j) (j := j - 1) (m := b) (by omega) (by omega) 0 (by omega) (by omega)
    have g1 := gswn_off rows (i := j) (j := j - 1) (m := b) (by omega) (by omega) 1 (by omega) (by omega)
    by_cases a1 : a = j
    · subst a1
      have := h (a - 1) b (by omega) (by omega) h2 (by omega)
      unfold gbf at *
      omega
    · by_cases a2 : a = j - 1
      · subst a2
        have := h j b (by omega) (by omega) h2 (by omega)
        unfold gbf at *
        omega
      · have := h a b h0 h1 h2 b1
        have f0 := gswn_off rows (i := j) (j := j - 1) (m := a) (by omega) (by omega) 0 (by omega) (by omega)
        have f1 := gswn_off rows (i := j) (j := j - 1) (m := a) (by omega) (by omega) 1 (by omega) (by omega)
        unfold gbf at *
        omega
theorem gSI_end {rows : Int → Int} {i j : Int} (h : gSI rows i j) (hj : ¬ 0 < j ∨ ¬ gbf rows j (j - 1)) : gSI rows i (-1) := by
  intro a b h0 h1 h2 h3
  by_cases b1 : b = j
  · subst b1
    rcases hj with hj | hj
    · omega
    · by_cases a1 : a = b - 1
      · subst a1
        exact hj
      · have := h a (b - 1) h0 (by omega) (by omega) (by omega)
        unfold gbf at *
        omega
  · exact h a b h0 h1 h2 b1
theorem gSI_next {rows : Int → Int} {i : Int} (h : gSI rows i (-1)) : gSI rows (i + 1) (i + 1) := fun a b h0 h1 h2 h3 => h a b h0 h1 (by omega) (by omega)
end
section
/-! the boxes as such: families that are closed, boxes that every closed family holds, and that there is one such family -/
def fin (b : Int → Int) (x y : Int) : Prop := b 0 ≤ x ∧ x ≤ b 2 ∧ b 1 ≤ y ∧ y ≤ b 3
def fsh (b c : Int → Int) : Prop := b 0 ≤ c 2 ∧ c 0 ≤ b 2 ∧ b 1 ≤ c 3 ∧ c 1 ≤ b 3
def fsub (b c : Int → Int) : Prop := c 0 ≤ b 0 ∧ b 2 ≤ c 2 ∧ c 1 ≤ b 1 ∧ b 3 ≤ c 3
def fwf (b : Int → Int) : Prop := b 0 ≤ b 2 ∧ b 1 ≤ b 3
def fadj (dif : Int → Int → Prop) (r x y x' y' : Int) : Prop := dif x y ∧ dif x' y' ∧ x - r ≤ x' ∧ x' ≤ x + r ∧ y - r ≤ y' ∧ y' ≤ y + r
theorem fadj.symm {dif : Int → Int → Prop} {r x y x' y' : Int} (h : fadj dif r x y x' y') : fadj dif r x' y' x y := ⟨h.2.1, h.1, by have := h.2.2; omega, by have := h.2.2; omega, by have := h.2.2; omega, by have := h.2.2; omega⟩
/-- no two boxes share a place; places that are near each other lie in one box -/
def fClo (dif : Int → Int → Prop) (r n : Int) (B : Int → Int → Int) : Prop := (∀ i, 0 ≤ i → i < n → fwf (B i)) ∧ (∀ i j, 0 ≤ i → i < n → 0 ≤ j → j < n → fsh (B i) (B j) → i = j) ∧ ∀ x y x' y', fadj dif r x y x' y' → ∃ i, 0 ≤ i ∧ i < n ∧ fin (B i) x y ∧ fin (B i) x' y'
def fGen (dif : Int → Int → Prop) (r : Int) (b : Int → Int) : Prop := fwf b ∧ ∀ (n : Int) (C : Int → Int → Int), fClo dif r n C → ∃ j, 0 ≤ j ∧ j < n ∧ fsub b (C j)
theorem fGen_join {dif : Int → Int → Prop} {r : Int} {b c d : Int → Int} (hb : fGen dif r b) (hc : fGen dif r c) (hs : fsh b c) (h0 : d 0 = min (b 0) (c 0)) (h1 : d 1 = min (b 1) (c 1)) (h2 : d 2 = max (b 2) (c 2)) (h3 : d 3 = max (b 3) (c 3)) : fGen dif r d := by
  obtain ⟨wb, gb1⟩ := hb
  obtain ⟨wc, gc1⟩ := hc
  unfold fwf at wb wc
  refine ⟨by unfold fwf; omega, fun n C hC => ?_⟩
  obtain ⟨j, j0, j1, j2⟩ := gb1 n C hC
  obtain ⟨k, k0, k1, k2⟩ := gc1 n C hC
  have e : j = k := hC.2.1 j k j0 j1 k0 k1 (by unfold fsh fsub at *; omega)
  subst e
  exact ⟨j, j0, j1, by unfold fsub at *; omega⟩
/-- a box whose four bounds are places' that every closed family holds together -/
theorem fGen_set {dif : Int → Int → Prop} {r : Int} {b : Int → Int} (T : Int → Int → Prop) (hw : fwf b) (x y : Int) (hd : fadj dif r x y x y)
    (hT : ∀ (n : Int) (C : Int → Int → Int), fClo dif r n C → ∀ j, 0 ≤ j → j < n → fin (C j) x y → ∀ px py, T px py → fin (C j) px py)
    (h0 : ∃ px py, T px py ∧ b 0 = px) (h1 : ∃ px py, T px py ∧ b 1 = py) (h2 : ∃ px py, T px py ∧ b 2 = px) (h3 : ∃ px py, T px py ∧ b 3 = py) : fGen dif r b := by
  refine ⟨hw, fun n C hC => ?_⟩
  obtain ⟨j, j0, j1, j2, -⟩ := hC.2.2 x y x y hd
  have hh := hT n C hC j j0 j1 j2
  obtain ⟨a0, a1, a2, a3⟩ := h0
  obtain ⟨b0, b1, b2, b3⟩ := h1
  obtain ⟨c0, c1, c2, c3⟩ := h2
  obtain ⟨d0, d1, d2, d3⟩ := h3
  have q0 := hh _ _ a2
  have q1 := hh _ _ b2
  have q2 := hh _ _ c2
  have q3 := hh _ _ d2
  exact ⟨j, j0, j1, by unfold fsub; unfold fin at *; omega⟩
/-- near places lie in the same box of a closed family -/
theorem fClo_near {dif : Int → Int → Prop} {r n : Int} {C : Int → Int → Int} (hC : fClo dif r n C) {x y x' y' : Int} (ha : fadj dif r x y x' y') {j : Int} (j0 : 0 ≤ j) (j1 : j < n) (hj : fin (C j) x y) : fin (C j) x' y' := by
  obtain ⟨i, i0, i1, i2, i3⟩ := hC.2.2 x y x' y' ha
  have e : i = j := hC.2.1 i j i0 i1 j0 j1 (by unfold fsh fin at *; omega)
  rw [← e]
  exact i3
theorem fUni {dif : Int → Int → Prop} {r n m : Int} {B C : Int → Int → Int} (h1 : fClo dif r n B) (g1 : ∀ i, 0 ≤ i → i < n → fGen dif r (B i)) (h2 : fClo dif r m C) (g2 : ∀ i, 0 ≤ i → i < m → fGen dif r (C i)) {i : Int} (i0 : 0 ≤ i) (i1 : i < n) : ∃ j, 0 ≤ j ∧ j < m ∧ B i 0 = C j 0 ∧ B i 1 = C j 1 ∧ B i 2 = C j 2 ∧ B i 3 = C j 3 := by
  obtain ⟨j, j0, j1, j2⟩ := (g1 i i0 i1).2 m C h2
  obtain ⟨k, k0, k1, k2⟩ := (g2 j j0 j1).2 n B h1
  have w := h1.1 i i0 i1
  have e : i = k := h1.2.1 i k i0 i1 k0 k1 (by unfold fsh fsub fwf at *; omega)
  subst e
  exact ⟨j, j0, j1, by unfold fsub at *; omega, by unfold fsub at *; omega, by unfold fsub at *; omega, by unfold fsub at *; omega⟩
def flt (b c : Int → Int) : Prop := b 1 < c 1 ∨ (b 1 = c 1 ∧ b 0 < c 0)
def fsrt (n : Int) (B : Int → Int → Int) : Prop := ∀ i j, 0 ≤ i → i < j → j < n → flt (B i) (B j)
/-- in order, and no two share a place: strictly in order -/
theorem fsrt_of {dif : Int → Int → Prop} {r n : Int} {B : Int → Int → Int} (h : fClo dif r n B) (hs : ∀ i j, 0 ≤ i → i < j → j < n → ¬ flt (B j) (B i)) : fsrt n B := by
  intro i j i0 ij j1
  have h1 := hs i j i0 ij j1
  have w1 := h.1 i i0 (by omega)
  have w2 := h.1 j (by omega) j1
  apply Classical.byContradiction
  intro h2
  have e := h.2.1 i j i0 (by omega) (by omega) j1 (by unfold flt fsh fwf at *; omega)
  omega
theorem fSame1 {dif : Int → Int → Prop} {r n m : Int} {B C : Int → Int → Int} (h1 : fClo dif r n B) (g1 : ∀ i, 0 ≤ i → i < n → fGen dif r (B i)) (s1 : fsrt n B) (h2 : fClo dif r m C) (g2 : ∀ i, 0 ≤ i → i < m → fGen dif r (C i)) (s2 : fsrt m C) : ∀ i : Nat, (i : Int) < n → (i : Int) < m ∧ B i 0 = C i 0 ∧ B i 1 = C i 1 ∧ B i 2 = C i 2 ∧ B i 3 = C i 3 := by
  intro i
  induction i using Nat.strongRecOn with
  | ind i ih =>
    intro hi
    obtain ⟨j, j0, j1, e0, e1, e2, e3⟩ := fUni h1 g1 h2 g2 (i := (i : Int)) (by omega) hi
    have hij : (i : Int) ≤ j := by
      apply Classical.byContradiction
      intro h9
      have := ih j.toNat (by omega) (by omega)
      rw [show ((j.toNat : Nat) : Int) = j by omega] at this
      have s := s1 j i j0 (by omega) hi
      unfold flt at s
      omega
    obtain ⟨k, k0, k1, f0, f1, f2, f3⟩ := fUni h2 g2 h1 g1 (i := (i : Int)) (by omega) (by omega)
    have hik : (i : Int) ≤ k := by
      apply Classical.byContradiction
      intro h9
      have := ih k.toNat (by omega) (by omega)
      rw [show ((k.toNat : Nat) : Int) = k by omega] at this
      have s := s2 k i k0 (by omega) (by omega)
      unfold flt at s
      omega
    have hj : j = i := by
      apply Classical.byContradiction
      intro h9
      have s := s2 i j (by omega) (by omega) j1
      by_cases h8 : (i : Int) = k
      · rw [← h8] at f0 f1
        unfold flt at s
        omega
      · have s' := s1 i k (by omega) (by omega) k1
        unfold flt at s s'
        omega
    subst hj
    exact ⟨by omega, e0, e1, e2, e3⟩
/-- two such families are the same -/
theorem fSame {dif : Int → Int → Prop} {r n m : Int} {B C : Int → Int → Int} (hn : 0 ≤ n) (hm : 0 ≤ m) (h1 : fClo dif r n B) (g1 : ∀ i, 0 ≤ i → i < n → fGen dif r (B i)) (s1 : fsrt n B) (h2 : fClo dif r m C) (g2 : ∀ i, 0 ≤ i → i < m → fGen dif r (C i)) (s2 : fsrt m C) : n = m ∧ ∀ i, 0 ≤ i → i < n → B i 0 = C i 0 ∧ B i 1 = C i 1 ∧ B i 2 = C i 2 ∧ B i 3 = C i 3 := by
  have a := fSame1 h1 g1 s1 h2 g2 s2
  have b := fSame1 h2 g2 s2 h1 g1 s1
  refine ⟨?_, fun i i0 i1 => ?_⟩
  · apply Classical.byContradiction
    intro h9
    by_cases h8 : n < m
    · have := (b n.toNat (by omega)).1
      omega
    · have := (a m.toNat (by omega)).1
      omega
  · have := (a i.toNat (by omega)).2
    rw [show ((i.toNat : Nat) : Int) = i by omega] at this
    exact this
/-- n numbers below m that are all different: n ≤ m -/
theorem fphp : ∀ (m n : Nat) (f : Nat → Nat), (∀ i, i < n → f i < m) → (∀ i j, i < n → j < n → f i = f j → i = j) → n ≤ m
  | 0, n, f, h, _ => by
    cases n with
    | zero => exact Nat.le_refl _
    | succ n => exact absurd (h 0 (by omega)) (Nat.not_lt_zero _)
  | m + 1, n, f, h, hi => by
    cases n with
    | zero => exact Nat.zero_le _
    | succ n =>
      have := fphp m n (fun i => if f i = m then f n else f i) (fun i hi9 => by
        have a := h i (by omega)
        have b := h n (by omega)
        show (if f i = m then f n else f i) < m
        split
        · next e =>
          have : f n ≠ m := fun e2 => by
            have := hi i n (by omega) (by omega) (by rw [e, e2])
            omega
          omega
        · omega) (fun i j hi9 hj9 e => by
        have e' : (if f i = m then f n else f i) = (if f j = m then f n else f j) := e
        split at e'
        · next e1 =>
          split at e'
          · next e2 => exact hi i j (by omega) (by omega) (by rw [e1, e2])
          · next e2 =>
            have := hi n j (by omega) (by omega) e'
            omega
        · next e1 =>
          split at e'
          · next e2 =>
            have := hi i n (by omega) (by omega) e'
            omega
          · exact hi i j (by omega) (by omega) e')
      omega
theorem gsm_congr {f g : Int → Int} : ∀ n : Nat, (∀ q : Int, 0 ≤ q → q < n → f q = g q) → gsm f n = gsm g n
  | 0, _ => rfl
  | n + 1, h => by
    show gsm f n + f n = gsm g n + g n
    rw [gsm_congr n (fun q a b => h q a (by omega)), h n (by omega) (by omega)]
theorem gsm_add (f g : Int → Int) : ∀ n : Nat, gsm (fun q => f q + g q) n = gsm f n + gsm g n
  | 0 => rfl
  | n + 1 => by
    show gsm (fun q => f q + g q) n + (f n + g n) = gsm f n + f n + (gsm g n + g n)
    rw [gsm_add f g n]
    omega
theorem gsm_sub (f g : Int → Int) : ∀ n : Nat, gsm (fun q => f q - g q) n = gsm f n - gsm g n
  | 0 => rfl
  | n + 1 => by
    show gsm (fun q => f q - g q) n + (f n - g n) = gsm f n + f n - (gsm g n + g n)
    rw [gsm_sub f g n]
    omega
/-- the queue of a box that grows from (x, y): what waits was marked, and isn't any more; nothing else has changed; it lies in every set that holds (x, y) and the marked places near its own -/
def gQu (W H P : Nat) (x y r : Int) (mk m : Int → Int) (t : Int) (qx qy : Int → Int) : Prop :=
  (∀ q, m q = 0 ∨ m q = 1) ∧ 1 ≤ t ∧ t + gsm m P = gsm mk P ∧
  (∀ j, 0 ≤ j → j < t → 0 ≤ qx j ∧ qx j < W ∧ 0 ≤ qy j ∧ qy j < H ∧ mk (qy j * W + qx j) = 1 ∧ m (qy j * W + qx j) = 0) ∧
  (∀ q, m q = mk q ∨ (m q = 0 ∧ ∃ j, 0 ≤ j ∧ j < t ∧ qy j * W + qx j = q)) ∧
  (∀ S : Int → Int → Prop, S x y → (∀ ax ay bx by_ : Int, S ax ay → 0 ≤ bx → bx < W → 0 ≤ by_ → by_ < H → ax - r ≤ bx → bx ≤ ax + r → ay - r ≤ by_ → by_ ≤ ay + r → mk (by_ * W + bx) = 1 → S bx by_) → ∀ j, 0 ≤ j → j < t → S (qx j) (qy j)) ∧ qx 0 = x ∧ qy 0 = y
theorem gQu_first {W H P : Nat} (hP : P = W * H) {x y r : Int} {mk : Int → Int} {qx qy : Int → Int} (hb : ∀ q, mk q = 0 ∨ mk q = 1) (hx : 0 ≤ x ∧ x < W) (hy : 0 ≤ y ∧ y < H) (hm : mk (y * W + x) = 1) : gQu W H P x y r mk (gu mk (y * W + x) 0) 1 (gu qx 0 x) (gu qy 0 y) := by
  have hix := gix hP hx.1 hx.2 hy.1 hy.2
  refine ⟨fun q => ?_, by omega, ?_, fun j j0 j1 => ?_, fun q => ?_, fun S s0 s1 j j0 j1 => ?_, gu_s _ _ _, gu_s _ _ _⟩
  · unfold gu
    split
    · exact Or.inl rfl
    · exact hb q
  · rw [gsm_gu, if_pos hix, hm]
    omega
  · have : j = 0 := by omega
    subst this
    rw [gu_s, gu_s]
    exact ⟨hx.1, hx.2, hy.1, hy.2, hm, gu_s _ _ _⟩
  · by_cases h : q = y * W + x
    · subst h
      exact Or.inr ⟨gu_s _ _ _, 0, by omega, by omega, by rw [gu_s, gu_s]⟩
    · exact Or.inl (gu_n _ _ h)
  · have : j = 0 := by omega
    subst this
    rw [gu_s, gu_s]
    exact s0
theorem gQu_take {W H P : Nat} (hP : P = W * H) {x y r : Int} {mk m : Int → Int} {t : Int} {qx qy : Int → Int} (h : gQu W H P x y r mk m t qx qy) {i : Int} (i0 : 0 ≤ i) (i1 : i < t) {px py : Int} (a1 : 0 ≤ px) (a2 : px < W) (a3 : 0 ≤ py) (a4 : py < H) (a5 : qx i - r ≤ px) (a6 : px ≤ qx i + r) (a7 : qy i - r ≤ py) (a8 : py ≤ qy i + r) (hm : m (py * W + px) = 1) : gQu W H P x y r mk (gu m (py * W + px) 0) (t + 1) (gu qx t px) (gu qy t py) := by
  obtain ⟨h1, h2, h3, h4, h5, h6, h7, h8⟩ := h
  have hix := gix hP a1 a2 a3 a4
  have hmk : mk (py * W + px) = 1 := by
    rcases h5 (py * W + px) with e | e
    · omega
    · omega
  refine ⟨fun q => ?_, by omega, ?_, fun j j0 j1 => ?_, fun q => ?_, fun S s0 s1 j j0 j1 => ?_, ?_, ?_⟩
  · unfold gu
    split
    · exact Or.inl rfl
    · exact h1 q
  · rw [gsm_gu, if_pos hix, hm]
    omega
  · by_cases e : j = t
    · subst e
      rw [gu_s, gu_s]
      exact ⟨a1, a2, a3, a4, hmk, gu_s _ _ _⟩
    · rw [gu_n _ _ e, gu_n _ _ e]
      obtain ⟨b1, b2, b3, b4, b5, b6⟩ := h4 j j0 (by omega)
      refine ⟨b1, b2, b3, b4, b5, ?_⟩
      unfold gu
      split
      · rfl
      · exact b6
  · by_cases e : q = py * W + px
    · subst e
      exact Or.inr ⟨gu_s _ _ _, t, by omega, by omega, by rw [gu_s, gu_s]⟩
    · rw [gu_n _ _ e]
      rcases h5 q with e1 | ⟨e1, j, j0, j1, e2⟩
      · exact Or.inl e1
      · exact Or.inr ⟨e1, j, j0, by omega, by rw [gu_n _ _ (by omega), gu_n _ _ (by omega)]; exact e2⟩
  · by_cases e : j = t
    · subst e
      rw [gu_s, gu_s]
      exact s1 _ _ _ _ (h6 S s0 s1 i i0 i1) a1 a2 a3 a4 a5 a6 a7 a8 hmk
    · rw [gu_n _ _ e, gu_n _ _ e]
      exact h6 S s0 s1 j j0 (by omega)
  · rw [gu_n _ _ (by omega)]
    exact h7
  · rw [gu_n _ _ (by omega)]
    exact h8
/-- what growFrom leaves: the queue, its least box, no mark near it -/
def gGr (W H P : Nat) (x y r : Int) (mk gro m : Int → Int) (t : Int) (qx qy : Int → Int) : Prop :=
  gQu W H P x y r mk m t qx qy ∧ (∀ j, 0 ≤ j → j < t → fin gro (qx j) (qy j)) ∧ (∀ j, 0 ≤ j → j < t → gscn W H (qx j) (qy j) r m (qy j + r + 1) 0) ∧
  (∃ j, 0 ≤ j ∧ j < t ∧ gro 0 = qx j) ∧ (∃ j, 0 ≤ j ∧ j < t ∧ gro 1 = qy j) ∧ (∃ j, 0 ≤ j ∧ j < t ∧ gro 2 = qx j) ∧ (∃ j, 0 ≤ j ∧ j < t ∧ gro 3 = qy j)
theorem gwd_at (gro : Int → Int) (a b c d : Int) : gwd gro a b c d 0 = min (gro 0) a ∧ gwd gro a b c d 1 = min (gro 1) b ∧ gwd gro a b c d 2 = max (gro 2) c ∧ gwd gro a b c d 3 = max (gro 3) d ∧ ∀ k, 4 ≤ k → gwd gro a b c d k = gro k := by
  unfold gwd
  refine ⟨by simp [gu], by simp [gu], by simp [gu], by simp [gu], fun k hk => ?_⟩
  rw [gu_n _ _ (by omega), gu_n _ _ (by omega), gu_n _ _ (by omega), gu_n _ _ (by omega)]
theorem gmn_r {a b : Int} (ha : inR a) (hb : inR b) : inR (min a b) ∧ inR (max a b) := ⟨⟨by omega, by omega⟩, by omega, by omega⟩
theorem gwd_r {gro : Int → Int} (h : ∀ j, inR (gro j)) {a b c d : Int} (ha : inR a) (hb : inR b) (hc : inR c) (hd : inR d) : ∀ j, inR (gwd gro a b c d j) := by
  unfold gwd
  exact gu_r (gu_r (gu_r (gu_r h (gmn_r (h 0) ha).1) (gmn_r (h 1) hb).1) (gmn_r (h 2) hc).2) (gmn_r (h 3) hd).2
/-- the loop of growFrom at place i of the queue -/
def gLI (W H P : Nat) (x y r : Int) (mk gro m : Int → Int) (t : Int) (qx qy : Int → Int) (i : Int) : Prop :=
  gQu W H P x y r mk m t qx qy ∧ (0 ≤ i ∧ i ≤ t) ∧ (∀ j, 0 ≤ j → j < i → fin gro (qx j) (qy j)) ∧ (∀ j, 0 ≤ j → j < i → gscn W H (qx j) (qy j) r m (qy j + r + 1) 0) ∧
  ((∃ j, 0 ≤ j ∧ j < t ∧ gro 0 = qx j) ∧ (∃ j, 0 ≤ j ∧ j < t ∧ gro 1 = qy j) ∧ (∃ j, 0 ≤ j ∧ j < t ∧ gro 2 = qx j) ∧ (∃ j, 0 ≤ j ∧ j < t ∧ gro 3 = qy j)) ∧ ∀ j, inR (gro j)
/-- while the places round place i are taken -/
def gF1 (W H P : Nat) (x y r : Int) (mk m1 : Int → Int) (t1 : Int) (qx1 qy1 : Int → Int) (m : Int → Int) (t : Int) (qx qy : Int → Int) : Prop :=
  gQu W H P x y r mk m t qx qy ∧ t1 ≤ t ∧ (∀ j, 0 ≤ j → j < t1 → qx j = qx1 j ∧ qy j = qy1 j) ∧ ∀ q, m1 q = 0 → m q = 0
theorem gF1_st {W H P : Nat} (hP : P = W * H) {x y r : Int} {mk m1 : Int → Int} {t1 : Int} {qx1 qy1 : Int → Int} {i : Int} (i0 : 0 ≤ i) (i1 : i < t1) : ∀ (m : Int → Int) (t : Int) (qx qy : Int → Int) (px py : Int), gF1 W H P x y r mk m1 t1 qx1 qy1 m t qx qy → 0 ≤ px → px < W → 0 ≤ py → py < H → qx1 i - r ≤ px → px ≤ qx1 i + r → qy1 i - r ≤ py → py ≤ qy1 i + r → m (py * W + px) = 1 → gF1 W H P x y r mk m1 t1 qx1 qy1 (gu m (py * W + px) 0) (t + 1) (gu qx t px) (gu qy t py) := by
  intro m t qx qy px py ⟨h1, h2, h3, h4⟩ a1 a2 a3 a4 a5 a6 a7 a8 hm
  obtain ⟨e1, e2⟩ := h3 i i0 i1
  refine ⟨gQu_take hP h1 i0 (by omega) a1 a2 a3 a4 (by omega) (by omega) (by omega) (by omega) hm, by omega, fun j j0 j1 => ?_, fun q hq => ?_⟩
  · rw [gu_n _ _ (by omega), gu_n _ _ (by omega)]
    exact h3 j j0 j1
  · unfold gu
    split
    · rfl
    · exact h4 q hq
theorem gF1_ok {W H P : Nat} {x y r : Int} {mk m1 : Int → Int} {t1 : Int} {qx1 qy1 : Int → Int} (hb : ∀ q, mk q = 0 ∨ mk q = 1) : ∀ (m : Int → Int) (t : Int) (qx qy : Int → Int), gF1 W H P x y r mk m1 t1 qx1 qy1 m t qx qy → (∀ q, m q = 0 ∨ m q = 1) ∧ 0 ≤ t ∧ t + gsm m P ≤ P := by
  intro m t qx qy ⟨h1, _⟩
  have := gsm_nn hb P
  exact ⟨h1.1, by have := h1.2.1; omega, by have := h1.2.2.1; omega⟩
theorem gLI_le {W H P : Nat} {x y r : Int} {mk gro m : Int → Int} {t : Int} {qx qy : Int → Int} {i : Int} (hb : ∀ q, mk q = 0 ∨ mk q = 1) (h : gLI W H P x y r mk gro m t qx qy i) : 1 ≤ t ∧ t ≤ P := by
  have h1 := gsm_nn hb P
  have h2 := gsm_nn h.1.1 P
  have h3 := h.1.2.1
  have h4 := h.1.2.2.1
  omega
theorem gLI_step {W H P : Nat} {x y r : Int} {mk gro m : Int → Int} {t : Int} {qx qy : Int → Int} {i : Int} (hW : W ≤ 32) (hH : H ≤ 32) (h : gLI W H P x y r mk gro m t qx qy i) (hi : i < t) {m2 : Int → Int} {t2 : Int} {qx2 qy2 : Int → Int} (h2 : gF1 W H P x y r mk m t qx qy m2 t2 qx2 qy2) (hs : gscn W H (qx i) (qy i) r m2 (qy i + r + 1) 0) : gLI W H P x y r mk (gwd gro (qx i) (qy i) (qx i) (qy i)) m2 t2 qx2 qy2 (i + 1) := by
  obtain ⟨a1, a2, a3, a4, ⟨a5, a6, a7, a8⟩, a9⟩ := h
  obtain ⟨b1, b2, b3, b4⟩ := h2
  obtain ⟨w0, w1, w2, w3, -⟩ := gwd_at gro (qx i) (qy i) (qx i) (qy i)
  have hxi := a1.2.2.2.1 i a2.1 hi
  have hx9 : inR (qx i) := ⟨by omega, by omega⟩
  have hy9 : inR (qy i) := ⟨by omega, by omega⟩
  have ei := b3 i a2.1 hi
  refine ⟨b1, by omega, fun j j0 j1 => ?_, fun j j0 j1 => ?_, ⟨?_, ?_, ?_, ?_⟩, gwd_r a9 hx9 hy9 hx9 hy9⟩
  · have ej := b3 j j0 (by omega)
    rw [ej.1, ej.2]
    by_cases e : j = i
    · subst e
      unfold fin
      omega
    · have := a3 j j0 (by omega)
      unfold fin at *
      omega
  · have ej := b3 j j0 (by omega)
    rw [ej.1, ej.2]
    by_cases e : j = i
    · subst e
      exact hs
    · intro px py c1 c2 c3 c4 c5 c6 c7 c8 c9
      exact b4 _ (a4 j j0 (by omega) px py c1 c2 c3 c4 c5 c6 c7 c8 c9)
  · obtain ⟨j, j0, j1, e⟩ := a5
    by_cases c : gro 0 ≤ qx i
    · exact ⟨j, j0, by omega, by rw [w0, (b3 j j0 j1).1]; omega⟩
    · exact ⟨i, a2.1, by omega, by rw [w0, ei.1]; omega⟩
  · obtain ⟨j, j0, j1, e⟩ := a6
    by_cases c : gro 1 ≤ qy i
    · exact ⟨j, j0, by omega, by rw [w1, (b3 j j0 j1).2]; omega⟩
    · exact ⟨i, a2.1, by omega, by rw [w1, ei.2]; omega⟩
  · obtain ⟨j, j0, j1, e⟩ := a7
    by_cases c : qx i ≤ gro 2
    · exact ⟨j, j0, by omega, by rw [w2, (b3 j j0 j1).1]; omega⟩
    · exact ⟨i, a2.1, by omega, by rw [w2, ei.1]; omega⟩
  · obtain ⟨j, j0, j1, e⟩ := a8
    by_cases c : qy i ≤ gro 3
    · exact ⟨j, j0, by omega, by rw [w3, (b3 j j0 j1).2]; omega⟩
    · exact ⟨i, a2.1, by omega, by rw [w3, ei.2]; omega⟩
theorem gLI_first {W H P : Nat} (hP : P = W * H) (hW : W ≤ 32) (hH : H ≤ 32) {x y r : Int} {mk gro : Int → Int} {qx qy : Int → Int} (hb : ∀ q, mk q = 0 ∨ mk q = 1) (hx : 0 ≤ x ∧ x < W) (hy : 0 ≤ y ∧ y < H) (hm : mk (y * W + x) = 1) (hg : ∀ j, inR (gro j)) : gLI W H P x y r mk (gu (gu (gu (gu gro 0 x) 1 y) 2 x) 3 y) (gu mk (y * W + x) 0) 1 (gu qx 0 x) (gu qy 0 y) 0 := by
  refine ⟨gQu_first hP hb hx hy hm, by omega, fun j j0 j1 => by omega, fun j j0 j1 => by omega, ⟨⟨0, by omega, by omega, by simp [gu]⟩, ⟨0, by omega, by omega, by simp [gu]⟩, ⟨0, by omega, by omega, by simp [gu]⟩, ⟨0, by omega, by omega, by simp [gu]⟩⟩, ?_⟩
  have h1 : inR x := ⟨by omega, by omega⟩
  have h2 : inR y := ⟨by omega, by omega⟩
  exact gu_r (gu_r (gu_r (gu_r hg h1) h2) h1) h2
theorem gLI_end {W H P : Nat} {x y r : Int} {mk gro m : Int → Int} {t : Int} {qx qy : Int → Int} {i : Int} (h : gLI W H P x y r mk gro m t qx qy i) (hi : t ≤ i) : gGr W H P x y r mk (gu gro 4 t) m t qx qy := by
  obtain ⟨a1, a2, a3, a4, ⟨a5, a6, a7, a8⟩, a9⟩ := h
  have e0 : gu gro 4 t 0 = gro 0 := gu_n _ _ (by omega)
  have e1 : gu gro 4 t 1 = gro 1 := gu_n _ _ (by omega)
  have e2 : gu gro 4 t 2 = gro 2 := gu_n _ _ (by omega)
  have e3 : gu gro 4 t 3 = gro 3 := gu_n _ _ (by omega)
  refine ⟨a1, fun j j0 j1 => ?_, fun j j0 j1 => a4 j j0 (by omega), ?_, ?_, ?_, ?_⟩
  · have := a3 j j0 (by omega)
    unfold fin at *
    rw [e0, e1, e2, e3]
    exact this
  · rw [e0]; exact a5
  · rw [e1]; exact a6
  · rw [e2]; exact a7
  · rw [e3]; exact a8
end
section
/-! what gather keeps true -/
def gdf (W H : Nat) (mk : Int → Int) : Int → Int → Prop := fun x y => (0 ≤ x ∧ x < W) ∧ (0 ≤ y ∧ y < H) ∧ mk (y * W + x) = 1
def grw (rows : Int → Int) (i : Int) : Int → Int := fun k => rows (i * 5 + k)
noncomputable def gInd (mk m own : Int → Int) (i : Int) : Int → Int := fun q => gb (mk q = 1 ∧ m q = 0 ∧ own q = i)
theorem gix_inj {W : Nat} {x y x' y' : Int} (h0 : 0 ≤ x) (h1 : x < W) (h0' : 0 ≤ x') (h1' : x' < W) (e : y * W + x = y' * W + x') : y = y' ∧ x = x' := by
  have hy : y = y' := by
    apply Classical.byContradiction
    intro hn
    by_cases hl : y < y'
    · have := Int.mul_le_mul_of_nonneg_right (show y + 1 ≤ y' by omega) (show (0 : Int) ≤ W by omega)
      rw [Int.add_mul, Int.one_mul] at this
      omega
    · have := Int.mul_le_mul_of_nonneg_right (show y' + 1 ≤ y by omega) (show (0 : Int) ≤ W by omega)
      rw [Int.add_mul, Int.one_mul] at this
      omega
  subst hy
  exact ⟨rfl, by omega⟩
def gFam (W H P M : Nat) (r : Int) (mk m : Int → Int) (c : Int) (rows own : Int → Int) : Prop :=
  (0 ≤ c ∧ c ≤ M) ∧ (∀ j, inR (rows j)) ∧ (∀ i, 0 ≤ i → i < c → fGen (gdf W H mk) r (grw rows i)) ∧
  (∀ i, 0 ≤ i → i < c → 0 ≤ rows (i * 5 + 0) ∧ rows (i * 5 + 2) < W ∧ 0 ≤ rows (i * 5 + 1) ∧ rows (i * 5 + 3) < H) ∧
  (∀ i j, 0 ≤ i → i < c → 0 ≤ j → j < c → fsh (grw rows i) (grw rows j) → i = j) ∧
  (∀ i, 0 ≤ i → i < c → ∃ x y, gdf W H mk x y ∧ m (y * W + x) = 0 ∧ fin (grw rows i) x y) ∧
  (∀ i, 0 ≤ i → i < c → rows (i * 5 + 4) = gsm (gInd mk m own i) P) ∧
  (∀ x y, gdf W H mk x y → m (y * W + x) = 0 → own (y * W + x) = -1 ∨ (0 ≤ own (y * W + x) ∧ own (y * W + x) < c ∧ fin (grw rows (own (y * W + x))) x y))
/-- while the box that grew from (x, y) takes others in -/
def gAb (W H P M : Nat) (r : Int) (mk m : Int → Int) (gx gy : Int) (c : Int) (rows gro : Int → Int) : Prop :=
  ∃ own : Int → Int, gFam W H P M r mk m c rows own ∧ (∀ j, inR (gro j)) ∧ fGen (gdf W H mk) r gro ∧ (0 ≤ gro 0 ∧ gro 2 < W ∧ 0 ≤ gro 1 ∧ gro 3 < H) ∧ fin gro gx gy ∧ gro 4 = gsm (gInd mk m own (-1)) P ∧
  (∀ x y, gdf W H mk x y → m (y * W + x) = 0 → own (y * W + x) = -1 → fin gro x y) ∧
  (∀ x y x' y', fadj (gdf W H mk) r x y x' y' → m (y * W + x) = 0 → (∃ i, 0 ≤ i ∧ i < c ∧ fin (grw rows i) x y ∧ fin (grw rows i) x' y') ∨ (fin gro x y ∧ fin gro x' y'))
theorem gInd_01 (mk m own : Int → Int) (i : Int) : ∀ q, gInd mk m own i q = 0 ∨ gInd mk m own i q = 1 := fun q => gb_01 _
theorem gmv_at (rows : Int → Int) {c i a k : Int} (k0 : 0 ≤ k) (k5 : k < 5) : gcp rows rows ((c - 1) * 5) (i * 5) 5 (a * 5 + k) = if a = i then rows ((c - 1) * 5 + k) else rows (a * 5 + k) := by
  unfold gcp
  by_cases e : a = i
  · subst e
    rw [if_pos rfl, if_pos (by omega)]
    congr 1
    omega
  · rw [if_neg e, if_neg (by omega)]
theorem gmv_row {rows : Int → Int} {c i a : Int} : ∀ k, 0 ≤ k → k < 5 → grw (gcp rows rows ((c - 1) * 5) (i * 5) 5) a k = grw rows (if a = i then c - 1 else a) k := by
  intro k k0 k5
  unfold grw
  rw [gmv_at rows k0 k5]
  split <;> rfl
theorem fin_c {b c : Int → Int} (h : ∀ k, 0 ≤ k → k < 5 → b k = c k) {x y : Int} : fin b x y ↔ fin c x y := by
  unfold fin
  rw [h 0 (by omega) (by omega), h 1 (by omega) (by omega), h 2 (by omega) (by omega), h 3 (by omega) (by omega)]
theorem fGen_c {dif : Int → Int → Prop} {r : Int} {b c : Int → Int} (h : ∀ k, 0 ≤ k → k < 5 → b k = c k) (hc : fGen dif r c) : fGen dif r b := by
  unfold fGen fwf fsub at *
  rw [h 0 (by omega) (by omega), h 1 (by omega) (by omega), h 2 (by omega) (by omega), h 3 (by omega) (by omega)]
  exact hc
theorem fsh_c {b c b' c' : Int → Int} (h : ∀ k, 0 ≤ k → k < 5 → b k = c k) (h' : ∀ k, 0 ≤ k → k < 5 → b' k = c' k) : fsh b b' ↔ fsh c c' := by
  unfold fsh
  rw [h 0 (by omega) (by omega), h 1 (by omega) (by omega), h 2 (by omega) (by omega), h 3 (by omega) (by omega), h' 0 (by omega) (by omega), h' 1 (by omega) (by omega), h' 2 (by omega) (by omega), h' 3 (by omega) (by omega)]
theorem gab_at (gro rows : Int → Int) (i : Int) : gab gro rows i 0 = min (gro 0) (rows (i * 5 + 0)) ∧ gab gro rows i 1 = min (gro 1) (rows (i * 5 + 1)) ∧ gab gro rows i 2 = max (gro 2) (rows (i * 5 + 2)) ∧ gab gro rows i 3 = max (gro 3) (rows (i * 5 + 3)) ∧ gab gro rows i 4 = gro 4 + rows (i * 5 + 4) := by
  obtain ⟨w0, w1, w2, w3, w4⟩ := gwd_at gro (rows (i * 5 + 0)) (rows (i * 5 + 1)) (rows (i * 5 + 2)) (rows (i * 5 + 3))
  unfold gab
  refine ⟨?_, ?_, ?_, ?_, ?_⟩
  · rw [gu_n _ _ (by omega)]; exact w0
  · rw [gu_n _ _ (by omega)]; exact w1
  · rw [gu_n _ _ (by omega)]; exact w2
  · rw [gu_n _ _ (by omega)]; exact w3
  · rw [gu_s, w4 4 (by omega)]
/-- who has what, when row i goes into the box that grows and the last row comes to its place -/
def gow (own : Int → Int) (c i : Int) : Int → Int := fun q => if own q = i then -1 else if own q = c - 1 then i else own q
theorem gow_i {own : Int → Int} {c i q : Int} (h : own q = i) : gow own c i q = -1 := if_pos h
theorem gow_c {own : Int → Int} {c i q : Int} (h : ¬ own q = i) (h2 : own q = c - 1) : gow own c i q = i := by
  unfold gow
  rw [if_neg h, if_pos h2]
theorem gow_o {own : Int → Int} {c i q : Int} (h : ¬ own q = i) (h2 : ¬ own q = c - 1) : gow own c i q = own q := by
  unfold gow
  rw [if_neg h, if_neg h2]
theorem gAb_st {W H P M : Nat} {r : Int} {mk m : Int → Int} {gx gy : Int} (hPl : P ≤ 1024) : ∀ (c : Int) (rows gro : Int → Int) (i : Int), gAb W H P M r mk m gx gy c rows gro → 0 ≤ i → i < c → gsh gro rows i → gAb W H P M r mk m gx gy (c - 1) (gcp rows rows ((c - 1) * 5) (i * 5) 5) (gab gro rows i) := by
  intro c rows gro i ⟨own, hF, g1, g2, g3, g4, g5, g6, g7⟩ i0 i1 hs
  obtain ⟨f1, f2, f3, f4, f5, f6, f7, f8⟩ := hF
  obtain ⟨w0, w1, w2, w3, w4⟩ := gab_at gro rows i
  have hsh : fsh gro (grw rows i) := by
    unfold gsh at hs
    unfold fsh grw
    omega
  have hgi := f3 i i0 i1
  have bnd := f4 i i0 i1
  have hsum : gab gro rows i 4 = gsm (gInd mk m (gow own c i) (-1)) P := by
    rw [w4, g5, f7 i i0 i1, ← gsm_add]
    apply gsm_congr
    intro q _ _
    unfold gInd
    by_cases hb : mk q = 1 ∧ m q = 0
    · by_cases e1 : own q = i
      · rw [gb_f (fun h => by omega), gb_t ⟨hb.1, hb.2, e1⟩, gb_t ⟨hb.1, hb.2, gow_i e1⟩]
        omega
      · by_cases e2 : own q = -1
        · rw [gb_t ⟨hb.1, hb.2, e2⟩, gb_f (fun h => e1 h.2.2), gb_t ⟨hb.1, hb.2, by rw [gow_o e1 (by omega)]; exact e2⟩]
          omega
        · rw [gb_f (fun h => e2 h.2.2), gb_f (fun h => e1 h.2.2), gb_f (fun h => by
            have := h.2.2
            by_cases e3 : own q = c - 1
            · rw [gow_c e1 e3] at this
              omega
            · rw [gow_o e1 e3] at this
              omega)]
          omega
    · rw [gb_f (fun h => hb ⟨h.1, h.2.1⟩), gb_f (fun h => hb ⟨h.1, h.2.1⟩), gb_f (fun h => hb ⟨h.1, h.2.1⟩)]
      omega
  refine ⟨gow own c i, ⟨by omega, gcp_r f2 f2 _ _ _, fun a a0 a1 => ?_, fun a a0 a1 => ?_, fun a b a0 a1 b0 b1 h => ?_, fun a a0 a1 => ?_, fun a a0 a1 => ?_, fun x y hd hm => ?_⟩, fun j => ?_, ?_, ?_, ?_, hsum, fun x y hd hm ho => ?_, fun x y x' y' ha hm => ?_⟩
  · refine fGen_c gmv_row ?_
    split
    · exact f3 _ (by omega) (by omega)
    · exact f3 a a0 (by omega)
  · rw [gmv_at rows (by omega) (by omega), gmv_at rows (by omega) (by omega), gmv_at rows (by omega) (by omega), gmv_at rows (by omega) (by omega)]
    by_cases e : a = i
    · simp only [if_pos e]
      exact f4 (c - 1) (by omega) (by omega)
    · simp only [if_neg e]
      exact f4 a a0 (by omega)
  · rw [fsh_c gmv_row gmv_row] at h
    have := f5 _ _ (by split <;> omega) (by split <;> omega) (by split <;> omega) (by split <;> omega) h
    split at this <;> split at this <;> omega
  · have : ∃ x y, gdf W H mk x y ∧ m (y * W + x) = 0 ∧ fin (grw rows (if a = i then c - 1 else a)) x y := f6 _ (by split <;> omega) (by split <;> omega)
    obtain ⟨x, y, h1, h2, h3⟩ := this
    exact ⟨x, y, h1, h2, (fin_c gmv_row).mpr h3⟩
  · rw [gmv_at rows (by omega) (by omega)]
    have e9 : (if a = i then rows ((c - 1) * 5 + 4) else rows (a * 5 + 4)) = gsm (gInd mk m own (if a = i then c - 1 else a)) P := by
      split
      · exact f7 (c - 1) (by omega) (by omega)
      · exact f7 a a0 (by omega)
    rw [e9]
    apply gsm_congr
    intro q _ _
    unfold gInd
    apply gb_c
    refine ⟨fun ⟨h1, h2, h3⟩ => ⟨h1, h2, ?_⟩, fun ⟨h1, h2, h3⟩ => ⟨h1, h2, ?_⟩⟩
    · by_cases e : a = i
      · rw [if_pos e] at h3
        rw [gow_c (by omega) h3]
        exact e.symm
      · rw [if_neg e] at h3
        rw [gow_o (by omega) (by omega)]
        exact h3
    · by_cases e1 : own q = i
      · rw [gow_i e1] at h3
        omega
      · by_cases e2 : own q = c - 1
        · rw [gow_c e1 e2] at h3
          rw [if_pos h3.symm]
          exact e2
        · rw [gow_o e1 e2] at h3
          rw [if_neg (by omega)]
          exact h3
  · rcases f8 x y hd hm with h | ⟨h1, h2, h3⟩
    · left
      rw [gow_o (by omega) (by omega)]
      exact h
    · by_cases e1 : own (y * W + x) = i
      · left
        exact gow_i e1
      · right
        by_cases e2 : own (y * W + x) = c - 1
        · rw [gow_c e1 e2]
          refine ⟨i0, by omega, (fin_c gmv_row).mpr ?_⟩
          rw [if_pos rfl, ← e2]
          exact h3
        · rw [gow_o e1 e2]
          refine ⟨h1, by omega, (fin_c gmv_row).mpr ?_⟩
          rw [if_neg e1]
          exact h3
  · have hnn := gsm_nn (gInd_01 mk m (gow own c i) (-1)) P
    unfold gab
    exact gu_r (gwd_r g1 (f2 _) (f2 _) (f2 _) (f2 _)) (by
      have e4 : gwd gro (rows (i * 5 + 0)) (rows (i * 5 + 1)) (rows (i * 5 + 2)) (rows (i * 5 + 3)) 4 + rows (i * 5 + 4) = gab gro rows i 4 := by
        unfold gab
        rw [gu_s]
      rw [e4, hsum]
      exact ⟨by omega, by omega⟩) j
  · exact fGen_join g2 hgi hsh w0 w1 w2 w3
  · omega
  · unfold fin at *
    omega
  · by_cases e1 : own (y * W + x) = i
    · have h3 : fin (grw rows i) x y := by
        rcases f8 x y hd hm with h | ⟨h1, h2, h3⟩
        · omega
        · rw [← e1]; exact h3
      unfold fin grw at *
      omega
    · have h9 : own (y * W + x) = -1 := by
        by_cases e2 : own (y * W + x) = c - 1
        · rw [gow_c e1 e2] at ho
          omega
        · rw [gow_o e1 e2] at ho
          exact ho
      have := g6 x y hd hm h9
      unfold fin grw at *
      omega
  · rcases g7 x y x' y' ha hm with ⟨a, a0, a1, h1, h2⟩ | ⟨h1, h2⟩
    · by_cases e : a = i
      · right
        subst e
        unfold fin grw at *
        omega
      · left
        by_cases e2 : a = c - 1
        · refine ⟨i, i0, by omega, (fin_c gmv_row).mpr ?_, (fin_c gmv_row).mpr ?_⟩
          · rw [if_pos rfl, ← e2]; exact h1
          · rw [if_pos rfl, ← e2]; exact h2
        · refine ⟨a, a0, by omega, (fin_c gmv_row).mpr ?_, (fin_c gmv_row).mpr ?_⟩
          · rw [if_neg e]; exact h1
          · rw [if_neg e]; exact h2
    · right
      unfold fin at *
      omega
theorem gAb_ok {W H P M : Nat} {r : Int} {mk m : Int → Int} {gx gy : Int} : ∀ (c : Int) (rows gro : Int → Int), gAb W H P M r mk m gx gy c rows gro → 0 ≤ c ∧ c ≤ M ∧ (∀ j : Int, inR (rows j)) ∧ (∀ j : Int, inR (gro j)) := by
  intro c rows gro ⟨own, hF, g1, _⟩
  exact ⟨hF.1.1, hF.1.2, hF.2.1, g1⟩
/-- between two boxes: what is marked is still to come -/
def gSc (W H P M : Nat) (r : Int) (mk m : Int → Int) (c : Int) (rows : Int → Int) : Prop :=
  ∃ own : Int → Int, gFam W H P M r mk m c rows own ∧ (∀ q, mk q = 1 → m q = 0 → 0 ≤ own q) ∧ (∀ q, m q = 0 ∨ m q = 1) ∧ (∀ q, m q = 1 → mk q = 1) ∧
  (∀ x y x' y', fadj (gdf W H mk) r x y x' y' → m (y * W + x) = 0 → m (y' * W + x') = 0) ∧
  (∀ x y x' y', fadj (gdf W H mk) r x y x' y' → m (y * W + x) = 0 → ∃ i, 0 ≤ i ∧ i < c ∧ fin (grw rows i) x y ∧ fin (grw rows i) x' y')
theorem gSc_first {W H P M : Nat} {r : Int} {mk rows : Int → Int} (hb : ∀ q, mk q = 0 ∨ mk q = 1) (hr : ∀ j, inR (rows j)) : gSc W H P M r mk mk 0 rows :=
  ⟨fun _ => 0, ⟨by omega, hr, fun i a b => by omega, fun i a b => by omega, fun i j a b => by omega, fun i a b => by omega, fun i a b => by omega, fun x y hd hm => by have := hd.2.2; omega⟩, fun q a b => by omega, hb, fun q h => h, fun x y x' y' ha hm => by have := ha.1.2.2; omega, fun x y x' y' ha hm => by have := ha.1.2.2; omega⟩
theorem gSc_grow {W H P M : Nat} (hP : P = W * H) (hPl : P ≤ 1024) {r : Int} (hr : 0 ≤ r) {mk m : Int → Int} {c : Int} {rows : Int → Int} (hS : gSc W H P M r mk m c rows) {x y : Int} (hx : 0 ≤ x ∧ x < W) (hy : 0 ≤ y ∧ y < H) (hm : m (y * W + x) = 1) {gro m2 : Int → Int} {t : Int} {qx qy : Int → Int} (hG : gGr W H P x y r m gro m2 t qx qy) (h4 : gro 4 = t) (hgr : ∀ j, inR (gro j)) :
    gAb W H P M r mk m2 x y c rows gro ∧ (∀ q, m2 q = 0 ∨ m2 q = 1) ∧ (∀ q, m2 q = 1 → mk q = 1) ∧ (∀ x y x' y', fadj (gdf W H mk) r x y x' y' → m2 (y * W + x) = 0 → m2 (y' * W + x') = 0) ∧ m2 (y * W + x) = 0 ∧ (∀ q, m q = 0 → m2 q = 0) := by
  obtain ⟨own, ⟨f1, f2, f3, f4, f5, f6, f7, f8⟩, s1, s2, s3, s4, s5⟩ := hS
  obtain ⟨⟨q1, q2, q3, q4, q5, q6, q7, q8⟩, n1, n2, b0, b1, b2, b3⟩ := hG
  have mono : ∀ q, m q = 0 → m2 q = 0 := fun q h => by
    rcases q5 q with e | e
    · rw [e]; exact h
    · exact e.1
  have back : ∀ q, m2 q = 1 → m q = 1 := fun q h => by
    rcases q5 q with e | e
    · rw [← e]; exact h
    · have := e.1; omega
  -- a place that was taken now lies in the queue
  have inq : ∀ px py : Int, 0 ≤ px → px < W → m (py * W + px) = 1 → m2 (py * W + px) = 0 → ∃ j, 0 ≤ j ∧ j < t ∧ qx j = px ∧ qy j = py := fun px py h1 h2 h3 h5 => by
    rcases q5 (py * W + px) with e | ⟨-, j, j0, j1, e⟩
    · omega
    · have := q4 j j0 j1
      have := gix_inj (by omega) (by omega) h1 h2 e
      exact ⟨j, j0, j1, this.2, this.1⟩
  have hdx : gdf W H mk x y := ⟨hx, hy, s3 _ hm⟩
  have h00 := n1 0 (by omega) (by omega)
  rw [q7, q8] at h00
  have hm2 : m2 (y * W + x) = 0 := by
    have := (q4 0 (by omega) (by omega)).2.2.2.2.2
    rw [q7, q8] at this
    exact this
  have closed : ∀ x y x' y', fadj (gdf W H mk) r x y x' y' → m2 (y * W + x) = 0 → m2 (y' * W + x') = 0 := fun ax ay bx by_ ha h => by
    rcases s2 (ay * W + ax) with e | e
    · exact mono _ (s4 ax ay bx by_ ha e)
    · obtain ⟨j, j0, j1, e1, e2⟩ := inq ax ay ha.1.1.1 ha.1.1.2 e h
      have hs := n2 j j0 j1
      have h2 := ha.2.2
      rw [e1, e2] at hs
      exact hs bx by_ ha.2.1.1.1 ha.2.1.1.2 ha.2.1.2.1.1 ha.2.1.2.1.2 (by omega) (by omega) (by omega) (by omega) (by omega)
  refine ⟨⟨fun q => if m q = 1 ∧ m2 q = 0 then -1 else own q, ⟨f1, f2, f3, f4, f5, fun i i0 i1 => ?_, fun i i0 i1 => ?_, fun ax ay hd h => ?_⟩, hgr, ?_, ?_, h00, ?_, fun ax ay hd h ho => ?_, fun ax ay bx by_ ha h => ?_⟩, q1, fun q h => s3 q (back q h), closed, hm2, mono⟩
  · obtain ⟨ax, ay, h1, h2, h3⟩ := f6 i i0 i1
    exact ⟨ax, ay, h1, mono _ h2, h3⟩
  · rw [f7 i i0 i1]
    apply gsm_congr
    intro q _ _
    unfold gInd
    apply gb_c
    refine ⟨fun ⟨h1, h2, h3⟩ => ⟨h1, mono q h2, ?_⟩, fun ⟨h1, h2, h3⟩ => ?_⟩
    · show (if m q = 1 ∧ m2 q = 0 then -1 else own q) = i
      rw [if_neg (by omega)]
      exact h3
    · have h3 : (if m q = 1 ∧ m2 q = 0 then -1 else own q) = i := h3
      by_cases e : m q = 1 ∧ m2 q = 0
      · rw [if_pos e] at h3
        omega
      · rw [if_neg e] at h3
        refine ⟨h1, ?_, h3⟩
        rcases s2 q with e2 | e2
        · exact e2
        · exact absurd ⟨e2, h2⟩ e
  · show (if m (ay * W + ax) = 1 ∧ m2 (ay * W + ax) = 0 then -1 else own (ay * W + ax)) = -1 ∨ (0 ≤ (if m (ay * W + ax) = 1 ∧ m2 (ay * W + ax) = 0 then -1 else own (ay * W + ax)) ∧ (if m (ay * W + ax) = 1 ∧ m2 (ay * W + ax) = 0 then -1 else own (ay * W + ax)) < c ∧ fin (grw rows (if m (ay * W + ax) = 1 ∧ m2 (ay * W + ax) = 0 then -1 else own (ay * W + ax))) ax ay)
    by_cases e : m (ay * W + ax) = 1 ∧ m2 (ay * W + ax) = 0
    · rw [if_pos e]
      exact Or.inl rfl
    · rw [if_neg e]
      exact f8 ax ay hd (by rcases s2 (ay * W + ax) with e2 | e2; exact e2; exact absurd ⟨e2, h⟩ e)
  · refine fGen_set (fun px py => ∃ j, 0 ≤ j ∧ j < t ∧ qx j = px ∧ qy j = py) ?_ x y ⟨hdx, hdx, by omega, by omega, by omega, by omega⟩ (fun n C hC j j0 j1 hj px py hT => ?_) ?_ ?_ ?_ ?_
    · unfold fin at h00
      unfold fwf
      omega
    · obtain ⟨k, k0, k1, e1, e2⟩ := hT
      have := q6 (fun a b => fin (C j) a b ∧ gdf W H mk a b) ⟨hj, hdx⟩ (fun ax ay bx by_ ha c1 c2 c3 c4 c5 c6 c7 c8 c9 => by
        have hdb : gdf W H mk bx by_ := ⟨⟨c1, c2⟩, ⟨c3, c4⟩, s3 _ c9⟩
        exact ⟨fClo_near hC ⟨ha.2, hdb, c5, c6, c7, c8⟩ j0 j1 ha.1, hdb⟩) k k0 k1
      rw [e1, e2] at this
      exact this.1
    · obtain ⟨j, j0, j1, e⟩ := b0
      exact ⟨qx j, qy j, ⟨j, j0, j1, rfl, rfl⟩, e⟩
    · obtain ⟨j, j0, j1, e⟩ := b1
      exact ⟨qx j, qy j, ⟨j, j0, j1, rfl, rfl⟩, e⟩
    · obtain ⟨j, j0, j1, e⟩ := b2
      exact ⟨qx j, qy j, ⟨j, j0, j1, rfl, rfl⟩, e⟩
    · obtain ⟨j, j0, j1, e⟩ := b3
      exact ⟨qx j, qy j, ⟨j, j0, j1, rfl, rfl⟩, e⟩
  · obtain ⟨j, j0, j1, e⟩ := b0
    obtain ⟨j', j0', j1', e'⟩ := b1
    obtain ⟨k, k0, k1, e2⟩ := b2
    obtain ⟨k', k0', k1', e2'⟩ := b3
    have := q4 j j0 j1
    have := q4 j' j0' j1'
    have := q4 k k0 k1
    have := q4 k' k0' k1'
    omega
  · have e : gsm (gInd mk m2 (fun q => if m q = 1 ∧ m2 q = 0 then -1 else own q) (-1)) P = gsm (fun q => m q - m2 q) P := by
      apply gsm_congr
      intro q _ _
      unfold gInd
      by_cases e : m q = 1 ∧ m2 q = 0
      · rw [gb_t ⟨s3 q e.1, e.2, if_pos e⟩]
        omega
      · rw [gb_f (fun h => by
          have h3 : (if m q = 1 ∧ m2 q = 0 then -1 else own q) = -1 := h.2.2
          rw [if_neg e] at h3
          have := s1 q h.1 (by rcases s2 q with e2 | e2; exact e2; exact absurd ⟨e2, h.2.1⟩ e)
          omega)]
        have := s2 q
        have := q1 q
        have := mono q
        omega
    rw [e, gsm_sub]
    omega
  · have h3 : (if m (ay * W + ax) = 1 ∧ m2 (ay * W + ax) = 0 then -1 else own (ay * W + ax)) = -1 := ho
    by_cases e : m (ay * W + ax) = 1 ∧ m2 (ay * W + ax) = 0
    · obtain ⟨j, j0, j1, e1, e2⟩ := inq ax ay hd.1.1 hd.1.2 e.1 e.2
      have := n1 j j0 j1
      rw [e1, e2] at this
      exact this
    · rw [if_neg e] at h3
      have := s1 (ay * W + ax) hd.2.2 (by rcases s2 (ay * W + ax) with e2 | e2; exact e2; exact absurd ⟨e2, h⟩ e)
      omega
  · rcases s2 (ay * W + ax) with e | e
    · exact Or.inl (s5 ax ay bx by_ ha e)
    · right
      have hb2 := closed ax ay bx by_ ha h
      have hb1 : m (by_ * W + bx) = 1 := by
        rcases s2 (by_ * W + bx) with e2 | e2
        · have := s4 bx by_ ax ay ha.symm e2
          omega
        · exact e2
      obtain ⟨j, j0, j1, e1, e2⟩ := inq ax ay ha.1.1.1 ha.1.1.2 e h
      obtain ⟨k, k0, k1, e3, e4⟩ := inq bx by_ ha.2.1.1.1 ha.2.1.1.2 hb1 hb2
      have h1 := n1 j j0 j1
      have h2 := n1 k k0 k1
      rw [e1, e2] at h1
      rw [e3, e4] at h2
      exact ⟨h1, h2⟩
/-- a box that shares no place with the others has room beside them: each has a square of two by two of its own -/
theorem gAb_lt {W H P M : Nat} (hM : M = ((W + 1) / 2) * ((H + 1) / 2)) {r : Int} (hr : 1 ≤ r) {mk m : Int → Int} {gx gy c : Int} {rows gro : Int → Int} (hA : gAb W H P M r mk m gx gy c rows gro) (hd : gdf W H mk gx gy) (hm : m (gy * W + gx) = 0) (hn : ∀ k : Int, 0 ≤ k → k < c → ¬ gsh gro rows k) : c < M := by
  obtain ⟨own, ⟨f1, f2, f3, f4, f5, f6, f7, f8⟩, g1, g2, g3, g4, g5, g6, g7⟩ := hA
  have hex : ∀ i : Nat, ∃ p : Int × Int, ((i : Int) < c → gdf W H mk p.1 p.2 ∧ m (p.2 * W + p.1) = 0 ∧ fin (grw rows i) p.1 p.2) ∧ (¬ (i : Int) < c → p = (gx, gy)) := fun i => by
    by_cases h : (i : Int) < c
    · obtain ⟨x, y, h1, h2, h3⟩ := f6 i (by omega) h
      exact ⟨(x, y), fun _ => ⟨h1, h2, h3⟩, fun h9 => absurd h h9⟩
    · exact ⟨(gx, gy), fun h9 => absurd h9 h, fun _ => rfl⟩
  obtain ⟨f, hf⟩ := Classical.axiomOfChoice hex
  have hin : ∀ i : Nat, i < c.toNat + 1 → gdf W H mk (f i).1 (f i).2 ∧ m ((f i).2 * W + (f i).1) = 0 ∧ ((i : Int) < c → fin (grw rows i) (f i).1 (f i).2) ∧ (¬ (i : Int) < c → fin gro (f i).1 (f i).2) := fun i hi => by
    by_cases h : (i : Int) < c
    · obtain ⟨h1, h2, h3⟩ := (hf i).1 h
      exact ⟨h1, h2, fun _ => h3, fun h9 => absurd h h9⟩
    · have e := (hf i).2 h
      rw [e]
      exact ⟨hd, hm, fun h9 => absurd h9 h, fun _ => g4⟩
  have key := fphp M (c.toNat + 1) (fun i => ((f i).2 / 2 * (((W + 1) / 2 : Nat) : Int) + (f i).1 / 2).toNat) (fun i hi => by
    obtain ⟨h1, -, -, -⟩ := hin i hi
    have := gix (W := (W + 1) / 2) (H := (H + 1) / 2) hM (x := (f i).1 / 2) (y := (f i).2 / 2) (by have := h1.1; omega) (by have := h1.1; omega) (by have := h1.2.1; omega) (by have := h1.2.1; omega)
    show (_ : Int).toNat < M
    omega) (fun i j hi hj e => by
    obtain ⟨a1, a2, a3, a4⟩ := hin i hi
    obtain ⟨b1, b2, b3, b4⟩ := hin j hj
    have e9 : ((f i).2 / 2 * (((W + 1) / 2 : Nat) : Int) + (f i).1 / 2).toNat = ((f j).2 / 2 * (((W + 1) / 2 : Nat) : Int) + (f j).1 / 2).toNat := e
    have p1 := gix (W := (W + 1) / 2) (H := (H + 1) / 2) hM (x := (f i).1 / 2) (y := (f i).2 / 2) (by have := a1.1; omega) (by have := a1.1; omega) (by have := a1.2.1; omega) (by have := a1.2.1; omega)
    have p2 := gix (W := (W + 1) / 2) (H := (H + 1) / 2) hM (x := (f j).1 / 2) (y := (f j).2 / 2) (by have := b1.1; omega) (by have := b1.1; omega) (by have := b1.2.1; omega) (by have := b1.2.1; omega)
    have p3 := gix_inj (W := (W + 1) / 2) (x := (f i).1 / 2) (y := (f i).2 / 2) (x' := (f j).1 / 2) (y' := (f j).2 / 2) (by have := a1.1; omega) (by have := a1.1; omega) (by have := b1.1; omega) (by have := b1.1; omega) (by omega)
    have ha : fadj (gdf W H mk) r (f i).1 (f i).2 (f j).1 (f j).2 := ⟨a1, b1, by omega, by omega, by omega, by omega⟩
    rcases g7 _ _ _ _ ha a2 with ⟨k, k0, k1, h1, h2⟩ | ⟨h1, h2⟩
    · have ei : (i : Int) = k := by
        by_cases hi2 : (i : Int) < c
        · have := a3 hi2
          exact f5 i k (by omega) hi2 k0 k1 (by unfold fsh fin at *; omega)
        · have := a4 hi2
          exact absurd (by unfold gsh; unfold fin grw at *; omega) (hn k k0 k1)
      have ej : (j : Int) = k := by
        by_cases hi2 : (j : Int) < c
        · have := b3 hi2
          exact f5 j k (by omega) hi2 k0 k1 (by unfold fsh fin at *; omega)
        · have := b4 hi2
          exact absurd (by unfold gsh; unfold fin grw at *; omega) (hn k k0 k1)
      omega
    · have ei : ¬ (i : Int) < c := fun h9 => by
        have := a3 h9
        exact absurd (by unfold gsh; unfold fin grw at *; omega) (hn i (by omega) h9)
      have ej : ¬ (j : Int) < c := fun h9 => by
        have := b3 h9
        exact absurd (by unfold gsh; unfold fin grw at *; omega) (hn j (by omega) h9)
      omega)
  omega
theorem gkp_row {rows gro : Int → Int} {c a : Int} : ∀ k, 0 ≤ k → k < 5 → grw (gcp gro rows 0 (c * 5) 5) a k = (if a = c then gro else grw rows a) k := by
  intro k k0 k5
  unfold grw gcp
  by_cases e : a = c
  · subst e
    rw [if_pos (by omega), if_pos rfl]
    congr 1
    omega
  · rw [if_neg (by omega), if_neg e]
theorem gAb_keep {W H P M : Nat} {r : Int} {mk m : Int → Int} {gx gy c : Int} {rows gro : Int → Int} (hA : gAb W H P M r mk m gx gy c rows gro) (hd : gdf W H mk gx gy) (hm : m (gy * W + gx) = 0) (hn : ∀ k : Int, 0 ≤ k → k < c → ¬ gsh gro rows k) (hc : c < M) (s2 : ∀ q, m q = 0 ∨ m q = 1) (s3 : ∀ q, m q = 1 → mk q = 1) (s4 : ∀ x y x' y', fadj (gdf W H mk) r x y x' y' → m (y * W + x) = 0 → m (y' * W + x') = 0) (hP : P = W * H) (hmkP : ∀ q, mk q = 1 → 0 ≤ q ∧ q < P) : gSc W H P M r mk m (c + 1) (gcp gro rows 0 (c * 5) 5) := by
  obtain ⟨own, ⟨f1, f2, f3, f4, f5, f6, f7, f8⟩, g1, g2, g3, g4, g5, g6, g7⟩ := hA
  have row := fun (a : Int) => gkp_row (rows := rows) (gro := gro) (c := c) (a := a)
  have ro : ∀ a, a ≠ c → ∀ k, 0 ≤ k → k < 5 → grw (gcp gro rows 0 (c * 5) 5) a k = grw rows a k := fun a e k k0 k5 => by
    rw [row a k k0 k5, if_neg e]
  have rc : ∀ k, 0 ≤ k → k < 5 → grw (gcp gro rows 0 (c * 5) 5) c k = gro k := fun k k0 k5 => by
    rw [row c k k0 k5, if_pos rfl]
  have nsh : ∀ k : Int, 0 ≤ k → k < c → ¬ fsh gro (grw rows k) := fun k k0 k1 h => hn k k0 k1 (by unfold gsh; unfold fsh grw at h; omega)
  refine ⟨fun q => if own q = -1 then c else own q, ⟨by omega, gcp_r g1 f2 _ _ _, fun i i0 i1 => ?_, fun i i0 i1 => ?_, fun i j i0 i1 j0 j1 h => ?_, fun i i0 i1 => ?_, fun i i0 i1 => ?_, fun x y h1 h2 => ?_⟩, fun q h1 h2 => ?_, s2, s3, s4, fun x y x' y' ha h => ?_⟩
  · by_cases e : i = c
    · subst e
      exact fGen_c rc g2
    · exact fGen_c (ro i e) (f3 i i0 (by omega))
  · by_cases e : i = c
    · subst e
      have := rc 0 (by omega) (by omega)
      have := rc 1 (by omega) (by omega)
      have := rc 2 (by omega) (by omega)
      have := rc 3 (by omega) (by omega)
      unfold grw at *
      omega
    · have := ro i e 0 (by omega) (by omega)
      have := ro i e 1 (by omega) (by omega)
      have := ro i e 2 (by omega) (by omega)
      have := ro i e 3 (by omega) (by omega)
      have := f4 i i0 (by omega)
      unfold grw at *
      omega
  · by_cases e : i = c
    · by_cases e2 : j = c
      · omega
      · subst e
        rw [fsh_c rc (ro j e2)] at h
        exact absurd h (nsh j j0 (by omega))
    · by_cases e2 : j = c
      · subst e2
        rw [fsh_c (ro i e) rc] at h
        exact absurd (by unfold fsh at *; omega) (nsh i i0 (by omega))
      · rw [fsh_c (ro i e) (ro j e2)] at h
        exact f5 i j i0 (by omega) j0 (by omega) h
  · by_cases e : i = c
    · subst e
      exact ⟨gx, gy, hd, hm, (fin_c rc).mpr g4⟩
    · obtain ⟨x, y, h1, h2, h3⟩ := f6 i i0 (by omega)
      exact ⟨x, y, h1, h2, (fin_c (ro i e)).mpr h3⟩
  · by_cases e : i = c
    · subst e
      have e4 := rc 4 (by omega) (by omega)
      unfold grw at e4
      rw [e4, g5]
      apply gsm_congr
      intro q q0 q1
      unfold gInd
      apply gb_c
      refine ⟨fun ⟨h1, h2, h3⟩ => ⟨h1, h2, if_pos h3⟩, fun ⟨h1, h2, h3⟩ => ⟨h1, h2, ?_⟩⟩
      have h3 : (if own q = -1 then i else own q) = i := h3
      apply Classical.byContradiction
      intro h9
      rw [if_neg h9] at h3
      -- own q = c is no row's
      obtain ⟨y, x, hx0, hx1, hy0, hy1, hq⟩ : ∃ y x : Int, 0 ≤ x ∧ x < W ∧ 0 ≤ y ∧ y < H ∧ y * W + x = q := by
        have hW0 : 0 < (W : Int) := by
          apply Classical.byContradiction
          intro h0
          have : W = 0 := by omega
          subst this
          simp at hP
          omega
        refine ⟨q / W, q % W, Int.emod_nonneg _ (by omega), Int.emod_lt_of_pos _ hW0, Int.ediv_nonneg q0 (by omega), ?_, by rw [Int.mul_comm]; exact Int.mul_ediv_add_emod q W⟩
        apply Int.ediv_lt_of_lt_mul hW0
        rw [hP] at q1
        simp at q1
        rw [Int.mul_comm]
        exact q1
      have hdq : gdf W H mk x y := ⟨⟨hx0, hx1⟩, ⟨hy0, hy1⟩, by rw [hq]; exact h1⟩
      rcases f8 x y hdq (by rw [hq]; exact h2) with h | ⟨h, h', -⟩
      · rw [hq] at h
        exact h9 h
      · rw [hq] at h'
        omega
    · have e4 := ro i e 4 (by omega) (by omega)
      unfold grw at e4
      rw [e4, f7 i i0 (by omega)]
      apply gsm_congr
      intro q _ _
      unfold gInd
      apply gb_c
      refine ⟨fun ⟨h1, h2, h3⟩ => ⟨h1, h2, ?_⟩, fun ⟨h1, h2, h3⟩ => ⟨h1, h2, ?_⟩⟩
      · show (if own q = -1 then c else own q) = i
        rw [if_neg (by omega)]
        exact h3
      · have h3 : (if own q = -1 then c else own q) = i := h3
        split at h3
        · omega
        · exact h3
  · right
    show 0 ≤ (if own (y * W + x) = -1 then c else own (y * W + x)) ∧ (if own (y * W + x) = -1 then c else own (y * W + x)) < c + 1 ∧ fin (grw (gcp gro rows 0 (c * 5) 5) (if own (y * W + x) = -1 then c else own (y * W + x))) x y
    by_cases e : own (y * W + x) = -1
    · rw [if_pos e]
      exact ⟨by omega, by omega, (fin_c rc).mpr (g6 x y h1 h2 e)⟩
    · rw [if_neg e]
      rcases f8 x y h1 h2 with h | ⟨h, h', h''⟩
      · exact absurd h e
      · exact ⟨h, by omega, (fin_c (ro _ (by omega))).mpr h''⟩
  · show 0 ≤ (if own q = -1 then c else own q)
    by_cases e : own q = -1
    · rw [if_pos e]; omega
    · rw [if_neg e]
      obtain ⟨q0, q1⟩ := hmkP q h1
      have hW0 : 0 < (W : Int) := by
        apply Classical.byContradiction
        intro h0
        have : W = 0 := by omega
        subst this
        simp at hP
        omega
      have hq : q / W * W + q % W = q := by rw [Int.mul_comm]; exact Int.mul_ediv_add_emod q W
      have hy1 : q / W < H := by
        apply Int.ediv_lt_of_lt_mul hW0
        rw [hP] at q1
        simp at q1
        rw [Int.mul_comm]
        exact q1
      have hdq : gdf W H mk (q % W) (q / W) := ⟨⟨Int.emod_nonneg _ (by omega), Int.emod_lt_of_pos _ hW0⟩, ⟨Int.ediv_nonneg q0 (by omega), hy1⟩, by rw [hq]; exact h1⟩
      rcases f8 _ _ hdq (by rw [hq]; exact h2) with h | ⟨h, -, -⟩
      · rw [hq] at h
        exact absurd h e
      · rw [hq] at h
        exact h
  · rcases g7 x y x' y' ha h with ⟨i, i0, i1, h1, h2⟩ | ⟨h1, h2⟩
    · exact ⟨i, i0, by omega, (fin_c (ro i (by omega))).mpr h1, (fin_c (ro i (by omega))).mpr h2⟩
    · exact ⟨c, by omega, by omega, (fin_c rc).mpr h1, (fin_c rc).mpr h2⟩
/-- all boxes, with how many places in each differ -/
def gDone (W H P : Nat) (r : Int) (mk : Int → Int) (c : Int) (rows : Int → Int) : Prop :=
  0 ≤ c ∧ (∀ j, inR (rows j)) ∧ fClo (gdf W H mk) r c (grw rows) ∧ (∀ i, 0 ≤ i → i < c → fGen (gdf W H mk) r (grw rows i)) ∧
  (∀ i, 0 ≤ i → i < c → 0 ≤ rows (i * 5 + 0) ∧ rows (i * 5 + 2) < W ∧ 0 ≤ rows (i * 5 + 1) ∧ rows (i * 5 + 3) < H) ∧
  (∀ i, 0 ≤ i → i < c → rows (i * 5 + 4) = gsm (fun q => gb (mk q = 1 ∧ fin (grw rows i) (q % W) (q / W))) P)
theorem gplace {W H P : Nat} (hP : P = W * H) {q : Int} (q0 : 0 ≤ q) (q1 : q < P) : (0 ≤ q % W ∧ q % W < W) ∧ (0 ≤ q / W ∧ q / W < H) ∧ q / W * W + q % W = q := by
  have hW0 : 0 < (W : Int) := by
    apply Classical.byContradiction
    intro h0
    have : W = 0 := by omega
    subst this
    simp at hP
    omega
  refine ⟨⟨Int.emod_nonneg _ (by omega), Int.emod_lt_of_pos _ hW0⟩, ⟨Int.ediv_nonneg q0 (by omega), ?_⟩, by rw [Int.mul_comm]; exact Int.mul_ediv_add_emod q W⟩
  apply Int.ediv_lt_of_lt_mul hW0
  rw [hP] at q1
  simp at q1
  rw [Int.mul_comm]
  exact q1
theorem gSc_done {W H P M : Nat} (hP : P = W * H) {r : Int} {mk m : Int → Int} {c : Int} {rows : Int → Int} (hS : gSc W H P M r mk m c rows) (hall : ∀ x y : Int, 0 ≤ x → x < W → 0 ≤ y → y < H → m (y * W + x) = 0) : gDone W H P r mk c rows := by
  obtain ⟨own, ⟨f1, f2, f3, f4, f5, f6, f7, f8⟩, s1, s2, s3, s4, s5⟩ := hS
  refine ⟨f1.1, f2, ⟨fun i i0 i1 => (f3 i i0 i1).1, f5, fun x y x' y' ha => s5 x y x' y' ha (hall x y ha.1.1.1 ha.1.1.2 ha.1.2.1.1 ha.1.2.1.2)⟩, f3, f4, fun i i0 i1 => ?_⟩
  rw [f7 i i0 i1]
  apply gsm_congr
  intro q q0 q1
  obtain ⟨⟨a1, a2⟩, ⟨a3, a4⟩, a5⟩ := gplace hP q0 q1
  unfold gInd
  apply gb_c
  refine ⟨fun ⟨h1, h2, h3⟩ => ⟨h1, ?_⟩, fun ⟨h1, h2⟩ => ?_⟩
  · have hd : gdf W H mk (q % W) (q / W) := ⟨⟨a1, a2⟩, ⟨a3, a4⟩, by rw [a5]; exact h1⟩
    rcases f8 _ _ hd (by rw [a5]; exact h2) with h | ⟨-, -, h⟩
    · rw [a5] at h
      omega
    · rw [a5, h3] at h
      exact h
  · have hd : gdf W H mk (q % W) (q / W) := ⟨⟨a1, a2⟩, ⟨a3, a4⟩, by rw [a5]; exact h1⟩
    have hm := hall _ _ a1 a2 a3 a4
    rw [a5] at hm
    refine ⟨h1, hm, ?_⟩
    rcases f8 _ _ hd (by rw [a5]; exact hm) with h | ⟨k0, k1, h⟩
    · have := s1 q h1 hm
      rw [a5] at h
      omega
    · rw [a5] at k0 k1 h
      exact f5 _ i k0 k1 i0 i1 (by unfold fsh fin at *; omega)
theorem gsw_row {rows : Int → Int} {i j : Int} (h : i ≠ j) {a : Int} : ∀ k, 0 ≤ k → k < 5 → grw (gswn rows i j 5) a k = grw rows (if a = i then j else if a = j then i else a) k := by
  intro k k0 k5
  unfold grw
  by_cases e : a = i
  · subst e
    rw [if_pos rfl]
    exact (gswn_at rows h k k0 k5).1
  · rw [if_neg e]
    by_cases e2 : a = j
    · subst e2
      rw [if_pos rfl]
      exact (gswn_at rows h k k0 k5).2
    · rw [if_neg e2]
      exact gswn_off rows e e2 k k0 k5
theorem gDone_swap {W H P : Nat} {r : Int} {mk : Int → Int} {c : Int} : ∀ (rows : Int → Int) (i j : Int), gDone W H P r mk c rows → 0 ≤ i → i < c → 0 ≤ j → j < c → i ≠ j → gDone W H P r mk c (gswn rows i j 5) := by
  intro rows i j ⟨d1, d2, ⟨d3, d4, d5⟩, d6, d7, d8⟩ i0 i1 j0 j1 hij
  have sg : ∀ a, 0 ≤ a → a < c → 0 ≤ (if a = i then j else if a = j then i else a) ∧ (if a = i then j else if a = j then i else a) < c := fun a a0 a1 => by
    split
    · omega
    · split <;> omega
  refine ⟨d1, gswn_r d2 _ _ _, ⟨fun a a0 a1 => ?_, fun a b a0 a1 b0 b1 h => ?_, fun x y x' y' ha => ?_⟩, fun a a0 a1 => ?_, fun a a0 a1 => ?_, fun a a0 a1 => ?_⟩
  · exact (fGen_c (gsw_row hij) (d6 _ (sg a a0 a1).1 (sg a a0 a1).2)).1
  · rw [fsh_c (gsw_row hij) (gsw_row hij)] at h
    have := d4 _ _ (sg a a0 a1).1 (sg a a0 a1).2 (sg b b0 b1).1 (sg b b0 b1).2 h
    split at this <;> split at this <;> (try split at this) <;> (try split at this) <;> omega
  · obtain ⟨a, a0, a1, h1, h2⟩ := d5 x y x' y' ha
    refine ⟨if a = i then j else if a = j then i else a, (sg a a0 a1).1, (sg a a0 a1).2, ?_, ?_⟩
    · rw [fin_c (gsw_row hij)]
      have : (if (if a = i then j else if a = j then i else a) = i then j else if (if a = i then j else if a = j then i else a) = j then i else (if a = i then j else if a = j then i else a)) = a := by
        split <;> split <;> (try split) <;> (try split) <;> omega
      rw [this]
      exact h1
    · rw [fin_c (gsw_row hij)]
      have : (if (if a = i then j else if a = j then i else a) = i then j else if (if a = i then j else if a = j then i else a) = j then i else (if a = i then j else if a = j then i else a)) = a := by
        split <;> split <;> (try split) <;> (try split) <;> omega
      rw [this]
      exact h2
  · exact fGen_c (gsw_row hij) (d6 _ (sg a a0 a1).1 (sg a a0 a1).2)
  · have e0 := gsw_row (rows := rows) hij (a := a) 0 (by omega) (by omega)
    have e1 := gsw_row (rows := rows) hij (a := a) 1 (by omega) (by omega)
    have e2 := gsw_row (rows := rows) hij (a := a) 2 (by omega) (by omega)
    have e3 := gsw_row (rows := rows) hij (a := a) 3 (by omega) (by omega)
    unfold grw at e0 e1 e2 e3
    rw [e0, e1, e2, e3]
    exact d7 _ (sg a a0 a1).1 (sg a a0 a1).2
  · have e4 := gsw_row (rows := rows) hij (a := a) 4 (by omega) (by omega)
    unfold grw at e4
    rw [e4, d8 _ (sg a a0 a1).1 (sg a a0 a1).2]
    apply gsm_congr
    intro q _ _
    apply gb_c
    rw [fin_c (gsw_row hij)]
theorem gDone_srt {W H P : Nat} {r : Int} {mk : Int → Int} {c : Int} {rows : Int → Int} (h : gDone W H P r mk c rows) (hs : gSI rows (c - 1) (-1)) : fsrt c (grw rows) := by
  refine fsrt_of h.2.2.1 (fun i j i0 ij j1 hl => ?_)
  refine hs i j i0 ij (by omega) (by omega) ?_
  unfold flt grw at hl
  unfold gbf
  exact hl
end
section
/-! surfaces: which places differ -/
def ptq (z : Int) : Option Nat := if z = 0 then some 4 else some 5
def gcl (fa v o : Int) : Prop := max (v - o) (-(v - o)) ≤ fa
def gmt (W H : Nat) (ne fa v : Int) (p : Int → Int) (x y : Int) : Prop := ∃ a b : Int, 0 ≤ a ∧ a < W ∧ 0 ≤ b ∧ b < H ∧ x - ne ≤ a ∧ a ≤ x + ne ∧ y - ne ≤ b ∧ b ≤ y + ne ∧ gcl fa v (p (b * W + a))
def gun (W H : Nat) (ne fa : Int) (p0 p1 : Int → Int) (x y : Int) : Prop := ¬ (gmt W H ne fa (p0 (y * W + x)) p1 x y ∧ gmt W H ne fa (p1 (y * W + x)) p0 x y)
noncomputable def gmk (W H P : Nat) (ne fa : Int) (p0 p1 : Int → Int) : Int → Int := fun q => gb ((0 ≤ q ∧ q < P) ∧ gun W H ne fa p0 p1 (q % W) (q / W))
theorem gmk_01 (W H P : Nat) (ne fa : Int) (p0 p1 : Int → Int) : ∀ q, gmk W H P ne fa p0 p1 q = 0 ∨ gmk W H P ne fa p0 p1 q = 1 := fun _ => gb_01 _
theorem gmk_in {W H P : Nat} {ne fa : Int} {p0 p1 : Int → Int} : ∀ q, gmk W H P ne fa p0 p1 q = 1 → 0 ≤ q ∧ q < P := fun _ h => (gb_1.mp h).1
theorem gdivmod {W : Nat} {x y : Int} (hx : 0 ≤ x) (hx1 : x < W) : (y * W + x) % W = x ∧ (y * W + x) / W = y := by
  refine ⟨?_, ?_⟩
  · rw [Int.add_comm, Int.add_mul_emod_self_right, Int.emod_eq_of_lt hx hx1]
  · rw [Int.add_comm, Int.add_mul_ediv_right _ _ (by omega), Int.ediv_eq_zero_of_lt hx hx1]
    omega
theorem gmk_at {W H P : Nat} (hP : P = W * H) {ne fa : Int} {p0 p1 : Int → Int} {x y : Int} (hx : 0 ≤ x ∧ x < W) (hy : 0 ≤ y ∧ y < H) : gmk W H P ne fa p0 p1 (y * W + x) = gb (gun W H ne fa p0 p1 x y) := by
  have h := gix hP hx.1 hx.2 hy.1 hy.2
  have e := gdivmod (y := y) hx.1 hx.2
  unfold gmk
  rw [e.1, e.2]
  exact gb_c ⟨fun h => h.2, fun h9 => ⟨h, h9⟩⟩
/-- no point of the window before (row ro, column co) is close -/
def gnm (W H : Nat) (ne fa v : Int) (p : Int → Int) (x y ro co : Int) : Prop := ∀ a b : Int, 0 ≤ a → a < W → 0 ≤ b → b < H → x - ne ≤ a → a ≤ x + ne → y - ne ≤ b → b ≤ y + ne → (b < ro ∨ (b = ro ∧ a < co)) → ¬ gcl fa v (p (b * W + a))
theorem gnm_next {W H : Nat} {ne fa v : Int} {p : Int → Int} {x y ro co : Int} (h : gnm W H ne fa v p x y ro co) (hn : ¬ gcl fa v (p (ro * W + co))) : gnm W H ne fa v p x y ro (co + 1) := by
  intro a b h1 h2 h3 h4 h5 h6 h7 h8 h9
  by_cases e : b = ro ∧ a = co
  · rw [e.1, e.2]
    exact hn
  · exact h a b h1 h2 h3 h4 h5 h6 h7 h8 (by omega)
/-- what is kept until a change: how many places differ, and the boxes -/
def gVal (W H P M : Nat) (ne fa : Int) (p0 p1 : Int → Int) (dp c : Int) (rows : Int → Int) : Prop :=
  dp = gsm (gmk W H P ne fa p0 p1) P ∧ gDone W H P (ne + 1) (gmk W H P ne fa p0 p1) c rows ∧ fsrt c (grw rows) ∧ c ≤ M
theorem gcl_met {W H : Nat} {ne fa v : Int} {p : Int → Int} {x y : Int} (hn : 0 ≤ ne) (hx : 0 ≤ x ∧ x < W) (hy : 0 ≤ y ∧ y < H) (h : gcl fa v (p (y * W + x))) : gmt W H ne fa v p x y := ⟨x, y, hx.1, hx.2, hy.1, hy.2, by omega, by omega, by omega, by omega, h⟩
theorem gdp_next {W H P : Nat} (hP : P = W * H) {ne fa : Int} {p0 p1 : Int → Int} {x y dp : Int} (hx : 0 ≤ x ∧ x < W) (hy : 0 ≤ y ∧ y < H) (hd : dp = gsm (gmk W H P ne fa p0 p1) (y * W + x).toNat) : dp + gb (gun W H ne fa p0 p1 x y) = gsm (gmk W H P ne fa p0 p1) (y * W + (x + 1)).toNat := by
  have h := gix hP hx.1 hx.2 hy.1 hy.2
  have e9 : (y * (W : Int) + (x + 1)).toNat = (y * W + x).toNat + 1 := by omega
  rw [e9]
  show _ = gsm (gmk W H P ne fa p0 p1) (y * W + x).toNat + gmk W H P ne fa p0 p1 (((y * W + x).toNat : Nat) : Int)
  rw [show (((y * (W : Int) + x).toNat : Nat) : Int) = y * W + x by omega, gmk_at hP hx hy, hd]
end
section
/-! pages, rules: pure words -/
def wdq (z : Int) : Option Nat := if z = 0 then some 26 else some 27
def htq (z : Int) : Option Nat := if z = 0 then some 29 else some 30
/-- page p is on one side alone; it has other sizes -/
def gms (w0 w1 : Int → Int) (p : Int) : Prop := ¬ (0 < w0 p ↔ 0 < w1 p)
def gos (w0 w1 h0 h1 : Int → Int) (p : Int) : Prop := 0 < w0 p ∧ 0 < w1 p ∧ (w0 p ≠ w1 p ∨ h0 p ≠ h1 p)
theorem gsm_next (f : Int → Int) {p d : Int} (hp : 0 ≤ p) (hd : d = gsm f p.toNat) : d + f p = gsm f (p + 1).toNat := by
  rw [show (p + 1).toNat = p.toNat + 1 by omega]
  show _ = gsm f p.toNat + f ((p.toNat : Nat) : Int)
  rw [show ((p.toNat : Nat) : Int) = p by omega, hd]
theorem gsm_gb (f : Int → Prop) (n : Nat) : 0 ≤ gsm (fun q => gb (f q)) n ∧ gsm (fun q => gb (f q)) n ≤ n := gsm_nn (fun _ => gb_01 _) n
theorem gsm_mono {f : Int → Int} (h : ∀ q, f q = 0 ∨ f q = 1) : ∀ (n m : Nat), n ≤ m → gsm f n ≤ gsm f m
  | n, 0, hl => by
    have : n = 0 := by omega
    subst this
    exact Int.le_refl _
  | n, m + 1, hl => by
    by_cases e : n = m + 1
    · subst e
      exact Int.le_refl _
    · have := gsm_mono h n m (by omega)
      have h2 := h m
      show gsm f n ≤ gsm f m + f m
      omega
/-- the k-th of those that hold is one place -/
theorem gsm_kth {f : Int → Prop} {a b k : Int} (a0 : 0 ≤ a) (b0 : 0 ≤ b) (ha : f a) (hb : f b) (ka : gsm (fun q => gb (f q)) a.toNat = k) (kb : gsm (fun q => gb (f q)) b.toNat = k) : a = b := by
  have key : ∀ a b : Int, 0 ≤ a → 0 ≤ b → f a → gsm (fun q => gb (f q)) a.toNat = k → gsm (fun q => gb (f q)) b.toNat = k → ¬ a < b := fun a b a0 b0 ha ka kb hl => by
    have h1 := gsm_mono (f := fun q => gb (f q)) (fun _ => gb_01 _) (a.toNat + 1) b.toNat (by omega)
    have h2 : gsm (fun q => gb (f q)) (a.toNat + 1) = gsm (fun q => gb (f q)) a.toNat + gb (f ((a.toNat : Nat) : Int)) := rfl
    rw [show ((a.toNat : Nat) : Int) = a by omega, gb_t ha] at h2
    omega
  have h1 := key a b a0 b0 ha ka kb
  have h2 := key b a b0 a0 hb kb ka
  omega
end
section
/-! words: their order, the longest common row, the rows that are told -/
/-- number p comes before number q in the order of the places -/
def wbf (xs ys : Int → Int) (p q : Int) : Prop := ys p < ys q ∨ (ys p = ys q ∧ (xs p < xs q ∨ (xs p = xs q ∧ p < q)))
def wOrd (n : Int) (xs ys ord : Int → Int) : Prop := (∀ j, 0 ≤ j → j < n → 0 ≤ ord j ∧ ord j < n) ∧ (∀ k, 0 ≤ k → k < n → ∃ j, 0 ≤ j ∧ j < n ∧ ord j = k) ∧ ∀ i j, 0 ≤ i → i < j → j < n → wbf xs ys (ord i) (ord j)
/-- number k lies behind the place (x, y) -/
def wbh (xs ys : Int → Int) (k x y : Int) : Prop := y < ys k ∨ (ys k = y ∧ x < xs k)
/-- the order while a word looks for its place p -/
def wIn (n : Int) (xs ys ord o1 : Int → Int) (x y p : Int) : Prop := (0 ≤ p ∧ p ≤ n) ∧ (∀ j, 0 ≤ j → j < p → o1 j = ord j) ∧ (∀ j, p < j → j ≤ n → o1 j = ord (j - 1)) ∧ ∀ j, p ≤ j → j < n → wbh xs ys (ord j) x y
theorem wIn_step {n : Int} {xs ys ord o1 : Int → Int} {x y p : Int} (h : wIn n xs ys ord o1 x y p) (hp : 0 < p) (hb : wbh xs ys (o1 (p - 1)) x y) : wIn n xs ys ord (gu o1 p (o1 (p - 1))) x y (p - 1) := by
  obtain ⟨h1, h2, h3, h4⟩ := h
  have e : o1 (p - 1) = ord (p - 1) := h2 (p - 1) (by omega) (by omega)
  refine ⟨by omega, fun j j0 j1 => ?_, fun j j0 j1 => ?_, fun j j0 j1 => ?_⟩
  · rw [gu_n _ _ (by omega)]
    exact h2 j j0 (by omega)
  · by_cases c : j = p
    · subst c
      rw [gu_s]
      exact e
    · rw [gu_n _ _ c]
      exact h3 j (by omega) j1
  · by_cases c : j = p - 1
    · subst c
      rw [← e]
      exact hb
    · exact h4 j (by omega) j1
theorem wOrd_ins {n : Int} {xs ys ord o1 : Int → Int} {x y p : Int} (hn : 0 ≤ n) (hO : wOrd n xs ys ord) (h : wIn n (gu xs n x) (gu ys n y) ord o1 x y p) (he : ¬ 0 < p ∨ ¬ wbh (gu xs n x) (gu ys n y) (o1 (p - 1)) x y) : wOrd (n + 1) (gu xs n x) (gu ys n y) (gu o1 p n) := by
  obtain ⟨a1, a2, a3⟩ := hO
  obtain ⟨h1, h2, h3, h4⟩ := h
  have at_ : ∀ j, 0 ≤ j → j < n + 1 → gu o1 p n j = if j < p then ord j else if j = p then n else ord (j - 1) := fun j j0 j1 => by
    by_cases c : j < p
    · rw [if_pos c, gu_n _ _ (by omega)]
      exact h2 j j0 c
    · rw [if_neg c]
      by_cases c2 : j = p
      · subst c2
        rw [if_pos rfl, gu_s]
      · rw [if_neg c2, gu_n _ _ c2]
        exact h3 j (by omega) (by omega)
  have bo : ∀ i j, 0 ≤ i → i < j → j < n → wbf (gu xs n x) (gu ys n y) (ord i) (ord j) := fun i j i0 ij j1 => by
    have e1 := a1 i i0 (by omega)
    have e2 := a1 j (by omega) j1
    have := a3 i j i0 ij j1
    unfold wbf at *
    rw [gu_n _ _ (by omega), gu_n _ _ (by omega), gu_n _ _ (by omega), gu_n _ _ (by omega)]
    exact this
  have xn : gu xs n x n = x := gu_s _ _ _
  have yn : gu ys n y n = y := gu_s _ _ _
  have lo : ∀ j, 0 ≤ j → j < p → wbf (gu xs n x) (gu ys n y) (ord j) n := fun j j0 j1 => by
    have e1 := a1 j j0 (by omega)
    rcases he with he | he
    · omega
    · rw [h2 (p - 1) (by omega) (by omega)] at he
      by_cases c : j = p - 1
      · rw [c] at e1 ⊢
        unfold wbf wbh at *
        rw [xn, yn]
        omega
      · have e2 := a1 (p - 1) (by omega) (by omega)
        have := bo j (p - 1) j0 (by omega) (by omega)
        unfold wbf wbh at *
        rw [xn, yn]
        omega
  have hi : ∀ j, p ≤ j → j < n → wbf (gu xs n x) (gu ys n y) n (ord j) := fun j j0 j1 => by
    have := h4 j j0 j1
    unfold wbf wbh at *
    rw [xn, yn]
    omega
  refine ⟨fun j j0 j1 => ?_, fun k k0 k1 => ?_, fun i j i0 ij j1 => ?_⟩
  · rw [at_ j j0 j1]
    split
    · have := a1 j j0 (by omega); omega
    · split
      · omega
      · have := a1 (j - 1) (by omega) (by omega); omega
  · by_cases c : k = n
    · exact ⟨p, by omega, by omega, by rw [c, gu_s]⟩
    · obtain ⟨j, j0, j1, e⟩ := a2 k k0 (by omega)
      by_cases c2 : j < p
      · exact ⟨j, j0, by omega, by rw [at_ j j0 (by omega), if_pos c2]; exact e⟩
      · exact ⟨j + 1, by omega, by omega, by rw [at_ (j + 1) (by omega) (by omega), if_neg (by omega), if_neg (by omega), show j + 1 - 1 = j by omega]; exact e⟩
  · rw [at_ i i0 (by omega), at_ j (by omega) j1]
    by_cases c1 : i < p
    · rw [if_pos c1]
      by_cases c2 : j < p
      · rw [if_pos c2]
        exact bo i j i0 ij (by omega)
      · rw [if_neg c2]
        by_cases c3 : j = p
        · rw [if_pos c3]
          exact lo i i0 c1
        · rw [if_neg c3]
          by_cases c4 : i = j - 1
          · omega
          · exact bo i (j - 1) i0 (by omega) (by omega)
    · rw [if_neg c1, if_neg (show ¬ j < p by omega), if_neg (show ¬ j = p by omega)]
      by_cases c3 : i = p
      · rw [if_pos c3]
        exact hi (j - 1) (by omega) (by omega)
      · rw [if_neg c3]
        exact bo (i - 1) (j - 1) (by omega) (by omega) (by omega)
/-- there is one order -/
theorem wOrd_uni {n : Int} {xs ys o1 o2 : Int → Int} (h1 : wOrd n xs ys o1) (h2 : wOrd n xs ys o2) : ∀ i : Nat, (i : Int) < n → o1 i = o2 i := by
  intro i
  induction i using Nat.strongRecOn with
  | ind i ih =>
    intro hi
    obtain ⟨a1, a2, a3⟩ := h1
    obtain ⟨b1, b2, b3⟩ := h2
    obtain ⟨j, j0, j1, e⟩ := b2 (o1 i) (a1 i (by omega) hi).1 (a1 i (by omega) hi).2
    obtain ⟨k, k0, k1, f⟩ := a2 (o2 i) (b1 i (by omega) hi).1 (b1 i (by omega) hi).2
    have hij : (i : Int) ≤ j := by
      apply Classical.byContradiction
      intro h9
      have := ih j.toNat (by omega) (by omega)
      rw [show ((j.toNat : Nat) : Int) = j by omega] at this
      have s := a3 j i j0 (by omega) hi
      rw [this, e] at s
      unfold wbf at s
      omega
    have hik : (i : Int) ≤ k := by
      apply Classical.byContradiction
      intro h9
      have := ih k.toNat (by omega) (by omega)
      rw [show ((k.toNat : Nat) : Int) = k by omega] at this
      have s := b3 k i k0 (by omega) hi
      rw [← this, f] at s
      unfold wbf at s
      omega
    apply Classical.byContradiction
    intro hne
    have hj : j ≠ i := fun h9 => hne (by rw [← e, h9])
    have hk : k ≠ i := fun h9 => hne (by rw [← f, h9])
    have s := b3 i j (by omega) (by omega) j1
    have t := a3 i k (by omega) (by omega) k1
    rw [e] at s
    rw [f] at t
    unfold wbf at s t
    omega
/-- the row's length from positions a and b on -/
def wLv (n0 n1 : Int) (u v : Int → Int) (L : Int → Int → Int) (a b : Int) : Int := if a = n0 ∨ b = n1 then 0 else if u a = v b then 1 + L (a + 1) (b + 1) else max (L (a + 1) b) (L a (b + 1))
def wLok (n0 n1 : Int) (u v : Int → Int) (L : Int → Int → Int) : Prop := ∀ a b, 0 ≤ a → a ≤ n0 → 0 ≤ b → b ≤ n1 → L a b = wLv n0 n1 u v L a b ∧ 0 ≤ L a b ∧ L a b ≤ n0 - a
/-- behind (a, b), by rows, all is measured -/
def wLp (n0 n1 : Int) (u v lg : Int → Int) (a b : Int) : Prop := ∀ a' b', 0 ≤ a' → a' ≤ n0 → 0 ≤ b' → b' ≤ n1 → (a < a' ∨ (a = a' ∧ b < b')) → lg (a' * 41 + b') = wLv n0 n1 u v (fun a b => lg (a * 41 + b)) a' b' ∧ 0 ≤ lg (a' * 41 + b') ∧ lg (a' * 41 + b') ≤ n0 - a'
theorem wLv_c {n0 n1 : Int} {u v : Int → Int} {L M : Int → Int → Int} {a b : Int} (h : a < n0 → b < n1 → L (a + 1) (b + 1) = M (a + 1) (b + 1) ∧ L (a + 1) b = M (a + 1) b ∧ L a (b + 1) = M a (b + 1)) (ha : a ≤ n0) (hb : b ≤ n1) : wLv n0 n1 u v L a b = wLv n0 n1 u v M a b := by
  unfold wLv
  by_cases c : a = n0 ∨ b = n1
  · rw [if_pos c, if_pos c]
  · obtain ⟨e1, e2, e3⟩ := h (by omega) (by omega)
    rw [if_neg c, if_neg c, e1, e2, e3]
theorem wLp_step {n0 n1 : Int} {u v lg : Int → Int} {a b : Int} (hn : n1 ≤ 40) (h : wLp n0 n1 u v lg a b) (a0 : 0 ≤ a) (a1 : a ≤ n0) (b0 : 0 ≤ b) (b1 : b ≤ n1) : wLp n0 n1 u v (gu lg (a * 41 + b) (wLv n0 n1 u v (fun a b => lg (a * 41 + b)) a b)) a (b - 1) := by
  have idx : ∀ p q, 0 ≤ q → q ≤ n1 → (p ≠ a ∨ q ≠ b) → p * 41 + q ≠ a * 41 + b := fun p q q0 q1 hne e => by
    have := gix_inj (W := 41) (x := q) (y := p) (x' := b) (y' := a) (by omega) (by omega) (by omega) (by omega) (by omega)
    omega
  intro a' b' p0 p1 q0 q1 hor
  by_cases e : a' = a ∧ b' = b
  · obtain ⟨rfl, rfl⟩ := e
    rw [gu_s]
    refine ⟨wLv_c (fun c1 c2 => ⟨?_, ?_, ?_⟩) p1 q1, ?_⟩
    · exact (gu_n _ _ (idx _ _ (by omega) (by omega) (by omega))).symm
    · exact (gu_n _ _ (idx _ _ (by omega) (by omega) (by omega))).symm
    · exact (gu_n _ _ (idx _ _ (by omega) (by omega) (by omega))).symm
    · unfold wLv
      split
      · omega
      · split
        · have := h (a' + 1) (b' + 1) (by omega) (by omega) (by omega) (by omega) (by omega)
          dsimp only
          omega
        · have := h (a' + 1) b' (by omega) (by omega) (by omega) (by omega) (by omega)
          have := h a' (b' + 1) (by omega) (by omega) (by omega) (by omega) (by omega)
          dsimp only
          omega
  · obtain ⟨h1, h2⟩ := h a' b' p0 p1 q0 q1 (by omega)
    rw [gu_n _ _ (idx a' b' q0 q1 (by omega))]
    refine ⟨?_, h2⟩
    rw [h1]
    refine wLv_c (fun c1 c2 => ⟨?_, ?_, ?_⟩) p1 q1
    · exact (gu_n _ _ (idx _ _ (by omega) (by omega) (by omega))).symm
    · exact (gu_n _ _ (idx _ _ (by omega) (by omega) (by omega))).symm
    · exact (gu_n _ _ (idx _ _ (by omega) (by omega) (by omega))).symm
/-- measured alike -/
theorem wLok_uni {n0 n1 : Int} {u v u' v' : Int → Int} {L M : Int → Int → Int} (hu : ∀ a, 0 ≤ a → a < n0 → u a = u' a) (hv : ∀ b, 0 ≤ b → b < n1 → v b = v' b) (h1 : wLok n0 n1 u v L) (h2 : wLok n0 n1 u' v' M) : ∀ (f : Nat) (a b : Int), 0 ≤ a → a ≤ n0 → 0 ≤ b → b ≤ n1 → n0 - a + (n1 - b) ≤ f → L a b = M a b := by
  intro f
  induction f with
  | zero =>
    intro a b a0 a1 b0 b1 hf
    rw [(h1 a b a0 a1 b0 b1).1, (h2 a b a0 a1 b0 b1).1]
    unfold wLv
    rw [if_pos (by omega), if_pos (by omega)]
  | succ f ih =>
    intro a b a0 a1 b0 b1 hf
    rw [(h1 a b a0 a1 b0 b1).1, (h2 a b a0 a1 b0 b1).1]
    unfold wLv
    by_cases c : a = n0 ∨ b = n1
    · rw [if_pos c, if_pos c]
    · rw [if_neg c, if_neg c, hu a a0 (by omega), hv b b0 (by omega), ih (a + 1) (b + 1) (by omega) (by omega) (by omega) (by omega) (by omega), ih (a + 1) b (by omega) (by omega) (by omega) (by omega) (by omega), ih a (b + 1) (by omega) (by omega) (by omega) (by omega) (by omega)]
/-- the rows from positions a and b on; u, nu, xa, ya: side 0 by positions (word, number, place); v, nv, xb, yb: side 1 -/
def wWk (n0 n1 : Int) (u nu xa ya v nv xb yb : Int → Int) (L : Int → Int → Int) : Nat → Int → Int → List (Int × Int × Int × Int)
  | 0, _, _ => []
  | f + 1, a, b => if a < n0 ∧ b < n1 ∧ u a = v b then (if xa a = xb b ∧ ya a = yb b then wWk n0 n1 u nu xa ya v nv xb yb L f (a + 1) (b + 1) else (4, u a, nu a, nv b) :: wWk n0 n1 u nu xa ya v nv xb yb L f (a + 1) (b + 1))
    else if a < n0 ∧ (n1 ≤ b ∨ L a (b + 1) ≤ L (a + 1) b) then (1, u a, nu a, -1) :: wWk n0 n1 u nu xa ya v nv xb yb L f (a + 1) b
    else if b < n1 then (3, v b, -1, nv b) :: wWk n0 n1 u nu xa ya v nv xb yb L f a (b + 1) else []
theorem wWk_end {n0 n1 : Int} {u nu xa ya v nv xb yb : Int → Int} {L : Int → Int → Int} {a b : Int} (ha : n0 ≤ a) (hb : n1 ≤ b) : ∀ f : Nat, wWk n0 n1 u nu xa ya v nv xb yb L f a b = []
  | 0 => rfl
  | f + 1 => by
    unfold wWk
    rw [if_neg (by omega), if_neg (by omega), if_neg (by omega)]
theorem wWk_same {n0 n1 : Int} {u nu xa ya v nv xb yb : Int → Int} {L : Int → Int → Int} {a b : Int} (f : Nat) (ha : a < n0) (hb : b < n1) (hu : u a = v b) (hs : xa a = xb b ∧ ya a = yb b) : wWk n0 n1 u nu xa ya v nv xb yb L (f + 1) a b = wWk n0 n1 u nu xa ya v nv xb yb L f (a + 1) (b + 1) := by
  conv => lhs; unfold wWk
  rw [if_pos ⟨ha, hb, hu⟩, if_pos hs]
theorem wWk_shift {n0 n1 : Int} {u nu xa ya v nv xb yb : Int → Int} {L : Int → Int → Int} {a b : Int} (f : Nat) (ha : a < n0) (hb : b < n1) (hu : u a = v b) (hs : ¬ (xa a = xb b ∧ ya a = yb b)) : wWk n0 n1 u nu xa ya v nv xb yb L (f + 1) a b = (4, u a, nu a, nv b) :: wWk n0 n1 u nu xa ya v nv xb yb L f (a + 1) (b + 1) := by
  conv => lhs; unfold wWk
  rw [if_pos ⟨ha, hb, hu⟩, if_neg hs]
theorem wWk_gone {n0 n1 : Int} {u nu xa ya v nv xb yb : Int → Int} {L : Int → Int → Int} {a b : Int} (f : Nat) (hk : ¬ (a < n0 ∧ b < n1 ∧ u a = v b)) (hg : a < n0 ∧ (n1 ≤ b ∨ L a (b + 1) ≤ L (a + 1) b)) : wWk n0 n1 u nu xa ya v nv xb yb L (f + 1) a b = (1, u a, nu a, -1) :: wWk n0 n1 u nu xa ya v nv xb yb L f (a + 1) b := by
  conv => lhs; unfold wWk
  rw [if_neg hk, if_pos hg]
theorem wWk_new {n0 n1 : Int} {u nu xa ya v nv xb yb : Int → Int} {L : Int → Int → Int} {a b : Int} (f : Nat) (hk : ¬ (a < n0 ∧ b < n1 ∧ u a = v b)) (hg : ¬ (a < n0 ∧ (n1 ≤ b ∨ L a (b + 1) ≤ L (a + 1) b))) (hb : b < n1) : wWk n0 n1 u nu xa ya v nv xb yb L (f + 1) a b = (3, v b, -1, nv b) :: wWk n0 n1 u nu xa ya v nv xb yb L f a (b + 1) := by
  conv => lhs; unfold wWk
  rw [if_neg hk, if_neg hg, if_pos hb]
theorem wWk_c {n0 n1 : Int} {u nu xa ya v nv xb yb u' nu' xa' ya' v' nv' xb' yb' : Int → Int} {L L' : Int → Int → Int} (h0 : ∀ a, 0 ≤ a → a < n0 → u a = u' a ∧ nu a = nu' a ∧ xa a = xa' a ∧ ya a = ya' a) (h1 : ∀ b, 0 ≤ b → b < n1 → v b = v' b ∧ nv b = nv' b ∧ xb b = xb' b ∧ yb b = yb' b) (hL : ∀ a b, 0 ≤ a → a ≤ n0 → 0 ≤ b → b ≤ n1 → L a b = L' a b) : ∀ (f : Nat) (a b : Int), 0 ≤ a → a ≤ n0 → 0 ≤ b → b ≤ n1 → wWk n0 n1 u nu xa ya v nv xb yb L f a b = wWk n0 n1 u' nu' xa' ya' v' nv' xb' yb' L' f a b := by
  intro f
  induction f with
  | zero => intro a b _ _ _ _; rfl
  | succ f ih =>
    intro a b a0 a1 b0 b1
    by_cases ca : a < n0
    · obtain ⟨e1, e2, e3, e4⟩ := h0 a a0 ca
      by_cases cb : b < n1
      · obtain ⟨g1, g2, g3, g4⟩ := h1 b b0 cb
        conv => lhs; unfold wWk
        conv => rhs; unfold wWk
        rw [e1, e2, e3, e4, g1, g2, g3, g4, hL a (b + 1) a0 a1 (by omega) (by omega), hL (a + 1) b (by omega) (by omega) b0 b1, ih (a + 1) (b + 1) (by omega) (by omega) (by omega) (by omega), ih (a + 1) b (by omega) (by omega) (by omega) (by omega), ih a (b + 1) (by omega) (by omega) (by omega) (by omega)]
      · rw [wWk_gone f (by omega) (by omega), wWk_gone f (by omega) (by omega), e1, e2, ih (a + 1) b (by omega) (by omega) (by omega) (by omega)]
    · by_cases cb : b < n1
      · obtain ⟨g1, g2, g3, g4⟩ := h1 b b0 cb
        rw [wWk_new f (by omega) (by omega) cb, wWk_new f (by omega) (by omega) cb, g1, g2, ih a (b + 1) (by omega) (by omega) (by omega) (by omega)]
      · rw [wWk_end (by omega) (by omega), wWk_end (by omega) (by omega)]
theorem wWk_len {n0 n1 : Int} {u nu xa ya v nv xb yb : Int → Int} {L : Int → Int → Int} : ∀ (f : Nat) (a b : Int), a ≤ n0 → b ≤ n1 → ((wWk n0 n1 u nu xa ya v nv xb yb L f a b).length : Int) ≤ n0 - a + (n1 - b) := by
  intro f
  induction f with
  | zero => intro a b h1 h2; show ((0 : Nat) : Int) ≤ _; omega
  | succ f ih =>
    intro a b h1 h2
    unfold wWk
    split
    · split
      · have := ih (a + 1) (b + 1) (by omega) (by omega)
        omega
      · have := ih (a + 1) (b + 1) (by omega) (by omega)
        simp only [List.length_cons]
        omega
    · split
      · have := ih (a + 1) b (by omega) (by omega)
        simp only [List.length_cons]
        omega
      · split
        · have := ih a (b + 1) (by omega) (by omega)
          simp only [List.length_cons]
          omega
        · show ((0 : Nat) : Int) ≤ _
          omega
/-- the array's rows are the list's -/
def wrl (rw_ : Int → Int) (l : List (Int × Int × Int × Int)) : Prop := ∀ (i : Nat) (q : Int × Int × Int × Int), l[i]? = some q → rw_ ((i : Int) * 4 + 0) = q.1 ∧ rw_ ((i : Int) * 4 + 1) = q.2.1 ∧ rw_ ((i : Int) * 4 + 2) = q.2.2.1 ∧ rw_ ((i : Int) * 4 + 3) = q.2.2.2
def wap (rw_ : Int → Int) (c k w p q : Int) : Int → Int := gu (gu (gu (gu rw_ (c * 4 + 0) k) (c * 4 + 1) w) (c * 4 + 2) p) (c * 4 + 3) q
theorem wap_at (rw_ : Int → Int) (c k w p q : Int) : wap rw_ c k w p q (c * 4 + 0) = k ∧ wap rw_ c k w p q (c * 4 + 1) = w ∧ wap rw_ c k w p q (c * 4 + 2) = p ∧ wap rw_ c k w p q (c * 4 + 3) = q ∧ ∀ j, j < c * 4 → wap rw_ c k w p q j = rw_ j := by
  unfold wap
  refine ⟨?_, ?_, ?_, ?_, fun j hj => ?_⟩
  · rw [gu_n _ _ (by omega), gu_n _ _ (by omega), gu_n _ _ (by omega), gu_s]
  · rw [gu_n _ _ (by omega), gu_n _ _ (by omega), gu_s]
  · rw [gu_n _ _ (by omega), gu_s]
  · rw [gu_s]
  · rw [gu_n _ _ (by omega), gu_n _ _ (by omega), gu_n _ _ (by omega), gu_n _ _ (by omega)]
theorem wrl_app {rw_ : Int → Int} {l : List (Int × Int × Int × Int)} {c k w p q : Int} (h : wrl rw_ l) (hc : c = (l.length : Int)) : wrl (wap rw_ c k w p q) (l ++ [(k, w, p, q)]) := by
  obtain ⟨a0, a1, a2, a3, a4⟩ := wap_at rw_ c k w p q
  intro i x hx
  by_cases hi : i < l.length
  · rw [List.getElem?_append_left hi] at hx
    rw [a4 _ (by omega), a4 _ (by omega), a4 _ (by omega), a4 _ (by omega)]
    exact h i x hx
  · rw [List.getElem?_append_right (by omega)] at hx
    have hlt := (List.getElem?_eq_some_iff.mp hx).1
    simp only [List.length_cons, List.length_nil] at hlt
    have e : i = l.length := by omega
    subst e
    rw [Nat.sub_self] at hx
    cases hx
    rw [← hc]
    exact ⟨a0, a1, a2, a3⟩
/-- the first new one from i on of word w, or -1 -/
def wfi (R : Int → Int) (w : Int) : Nat → Int → Int
  | 0, _ => -1
  | f + 1, i => if R (i * 4 + 0) = 3 ∧ R (i * 4 + 1) = w then i else wfi R w f (i + 1)
def wmv (R : Int → Int) (g i : Int) : Int → Int := gu (gu (gu R (g * 4 + 0) 2) (g * 4 + 3) (R (i * 4 + 3))) (i * 4 + 0) 0
/-- a gone one with the first new one of its word -/
def wp1 (c : Nat) (R : Int → Int) (g : Int) : Int → Int := if R (g * 4 + 0) = 1 then (if wfi R (R (g * 4 + 1)) c 0 < 0 then R else wmv R g (wfi R (R (g * 4 + 1)) c 0)) else R
def wpr (c : Nat) (R : Int → Int) : Nat → Int → Int
  | 0 => R
  | g + 1 => wp1 c (wpr c R g) (g : Int)
theorem wfi_c {R S : Int → Int} {w : Int} {c : Int} (h : ∀ q, 0 ≤ q → q < c * 4 → R q = S q) : ∀ (f : Nat) (i : Int), 0 ≤ i → i + f ≤ c → wfi R w f i = wfi S w f i
  | 0, _, _, _ => rfl
  | f + 1, i, i0, i1 => by
    unfold wfi
    rw [h (i * 4 + 0) (by omega) (by omega), h (i * 4 + 1) (by omega) (by omega), wfi_c h f (i + 1) (by omega) (by omega)]
theorem wfi_in {R : Int → Int} {w : Int} : ∀ (f : Nat) (i : Int), ¬ wfi R w f i < 0 → i ≤ wfi R w f i ∧ wfi R w f i < i + f
  | 0, i, h => by
    unfold wfi at h
    omega
  | f + 1, i, h => by
    unfold wfi at h ⊢
    split
    · omega
    · next hn =>
      rw [if_neg hn] at h
      have := wfi_in f (i + 1) h
      omega
theorem wp1_c {R S : Int → Int} {c : Nat} {g : Int} (h : ∀ q, 0 ≤ q → q < (c : Int) * 4 → R q = S q) (g0 : 0 ≤ g) (g1 : g < c) : ∀ q, 0 ≤ q → q < (c : Int) * 4 → wp1 c R g q = wp1 c S g q := by
  intro q q0 q1
  unfold wp1
  rw [h (g * 4 + 0) (by omega) (by omega), h (g * 4 + 1) (by omega) (by omega), wfi_c h c 0 (by omega) (by omega)]
  split
  · split
    · exact h q q0 q1
    · next hn =>
      have := wfi_in c 0 hn
      unfold wmv
      rw [h (wfi S (S (g * 4 + 1)) c 0 * 4 + 3) (by omega) (by omega)]
      unfold gu
      split
      · rfl
      · split
        · rfl
        · split
          · rfl
          · exact h q q0 q1
  · exact h q q0 q1
theorem wpr_c {R S : Int → Int} {c : Nat} (h : ∀ q, 0 ≤ q → q < (c : Int) * 4 → R q = S q) : ∀ n : Nat, n ≤ c → ∀ q, 0 ≤ q → q < (c : Int) * 4 → wpr c R n q = wpr c S n q
  | 0, _ => h
  | n + 1, hn => wp1_c (wpr_c h n (by omega)) (by omega) (by omega)
/-- how many rows before row k are told -/
noncomputable def wkc (R : Int → Int) (k : Nat) : Int := gsm (fun q => gb (R (q * 4 + 0) ≠ 0)) k
theorem wkc_le (R : Int → Int) (k : Nat) : 0 ≤ wkc R k ∧ wkc R k ≤ k := gsm_gb _ k
theorem wkc_s (R : Int → Int) (k : Nat) : wkc R (k + 1) = wkc R k + gb (R ((k : Int) * 4 + 0) ≠ 0) := rfl
/-- what the told rows are: the list, its gone ones paired with new ones, without those that are not told -/
def wTold (l : List (Int × Int × Int × Int)) (cn : Int) (rw_ : Int → Int) : Prop := ∃ R : Int → Int, wrl R l ∧ cn = wkc (wpr l.length R l.length) l.length ∧ ∀ k : Nat, k < l.length → wpr l.length R l.length ((k : Int) * 4 + 0) ≠ 0 → ∀ f : Int, 0 ≤ f → f < 4 → rw_ (wkc (wpr l.length R l.length) k * 4 + f) = wpr l.length R l.length ((k : Int) * 4 + f)
end
section
/-- the world of ProofCompare$Boxes: the object, its rows, the box that grows, what waits, the marks -/
abbrev bxW (W H M P : Nat) (c wt : Int) (rows gro wx wy mk : Int → Int) : gW := [(2, gob 2 [gi c, gi W, gi H, gi M, gr 7, gr 8, gr 9, gr 10, gi wt]), (7, gai 0 (M * 5) rows), (8, gai 0 5 gro), (9, gai 0 P wx), (10, gai 0 P wy), (6, gai 1 P mk)]
theorem gb_n0 {P : Prop} (h : ¬ gb P = 0) : P := Classical.byContradiction fun h9 => h (gb_f h9)
theorem gb_nn {P : Prop} (h : ¬ ¬ gb P = 0) : ¬ P := fun h9 => h (fun h8 => by rw [gb_t h9] at h8; cases h8)
set_option maxHeartbeats 4000000 in
set_option maxRecDepth 100000 in
theorem c_X1_tell (l : Launch) (D : va_G) (cA : Nat → ClassId) (W : Nat) (H : Nat) (M : Nat) (P : Nat) (c : Int) (wt : Int) (rows : Int → Int) (gro : Int → Int) (wx : Int → Int) (wy : Int → Int) (mk : Int → Int) (i : Int) (k : Int) (hM : M ≤ 256) (hi : 0 ≤ i * 5 + k ∧ i * 5 + k < M * 5) :
    gC l D cA yX1_tell mX1_tell (some .int) 0 0 [gr 2, gi i, gi k] (bxW W H M P c wt rows gro wx wy mk) (fun r9 w9 => r9 = some (gi (rows (i * 5 + k))) ∧ w9 = bxW W H M P c wt rows gro wx wy mk) := by
  refine gC_of rfl kX1_tell rfl rfl (Nat.le_of_ble_eq_true rfl) (fun X ad hX hE => ?_)
  refine G.go hX 8 (bxW W H M P c wt rows gro wx wy mk, 10, [(0, gr 2), (1, gi i), (2, gi k)], [gi (rows ((i * 5) + k))]) rfl ?_ ?_
  · refine ⟨?_, trivial⟩
    · omega
  exact g_iret hX hE rfl ⟨(congrArg (fun z => some (gi z)) (by first | rfl | (omega))), rfl⟩
set_option maxHeartbeats 4000000 in
set_option maxRecDepth 100000 in
theorem c_X1_sharesPlace (l : Launch) (D : va_G) (cA : Nat → ClassId) (W : Nat) (H : Nat) (M : Nat) (P : Nat) (c : Int) (wt : Int) (rows : Int → Int) (gro : Int → Int) (wx : Int → Int) (wy : Int → Int) (mk : Int → Int) (i : Int) (hM : M ≤ 256) (hi : 0 ≤ i ∧ i < M) (hrr : ∀ j : Int, inR (rows j)) (hgr : ∀ j : Int, inR (gro j)) :
    gC l D cA yX1_sharesPlace mX1_sharesPlace (some .boolean) 0 0 [gr 2, gi i] (bxW W H M P c wt rows gro wx wy mk) (fun r9 w9 => r9 = some (gi (gb (gsh gro rows i))) ∧ w9 = bxW W H M P c wt rows gro wx wy mk) := by
  refine gC_of rfl kX1_sharesPlace rfl rfl (Nat.le_of_ble_eq_true rfl) (fun X ad hX hE => ?_)
  refine G.go hX 7 (bxW W H M P c wt rows gro wx wy mk, 9, [(0, gr 2), (1, gi i)], [gi 2, gi i, gr 2, gi (gro 0)]) rfl ?_ ?_
  · refine ⟨?_, trivial⟩
    · omega
  refine G.callV (av := [gi i, gi 2]) (o := 2) (st := [gi (gro 0)]) hX rfl (fun l D cA => c_X1_tell l D cA W H M P c wt rows gro wx wy mk i 2 (by first | assumption | omega) (by first | assumption | omega)) (by decide +kernel) aX1_tell rfl rfl rfl ⟨rfl, rfl⟩ (by decide) (Nat.le_of_ble_eq_true rfl) [0, 1, 2, 3, 4, 5] [] [] rfl rfl rfl (fun r w' hp => ?_)
  obtain ⟨rfl, rfl⟩ := hp
  show G X mX1_sharesPlace ad 0 0 (bxW W H M P c wt rows gro wx wy mk, 12, [(0, gr 2), (1, gi i)], [gi (rows (i * 5 + 2)), gi (gro 0)])
  refine g_icmp_gt hX 64 rfl rfl (by first | exact hgr _ | exact hrr _) (by first | exact hgr _ | exact hrr _) (fun b12 => ?_) (fun b12 => ?_)
  ·
    refine G.go hX 1 (bxW W H M P c wt rows gro wx wy mk, 65, [(0, gr 2), (1, gi i)], [gi 0]) rfl trivial ?_
    exact g_zret hX hE rfl (Or.inl rfl) ⟨(congrArg (fun z => some (gi z)) (gb_f (by unfold gsh; omega)).symm), rfl⟩
  ·
    refine G.go hX 3 (bxW W H M P c wt rows gro wx wy mk, 18, [(0, gr 2), (1, gi i)], [gi 0, gi i, gr 2]) rfl trivial ?_
    refine G.callV (av := [gi i, gi 0]) (o := 2) (st := []) hX rfl (fun l D cA => c_X1_tell l D cA W H M P c wt rows gro wx wy mk i 0 (by first | assumption | omega) (by first | assumption | omega)) (by decide +kernel) aX1_tell rfl rfl rfl ⟨rfl, rfl⟩ (by decide) (Nat.le_of_ble_eq_true rfl) [0, 1, 2, 3, 4, 5] [] [] rfl rfl rfl (fun r w' hp => ?_)
    obtain ⟨rfl, rfl⟩ := hp
    show G X mX1_sharesPlace ad 0 0 (bxW W H M P c wt rows gro wx wy mk, 21, [(0, gr 2), (1, gi i)], [gi (rows (i * 5 + 0))])
    refine G.go hX 4 (bxW W H M P c wt rows gro wx wy mk, 27, [(0, gr 2), (1, gi i)], [gi (gro 2), gi (rows (i * 5 + 0))]) rfl ?_ ?_
    · refine ⟨?_, trivial⟩
      · omega
    refine g_icmp_gt hX 64 rfl rfl (by first | exact hgr _ | exact hrr _) (by first | exact hgr _ | exact hrr _) (fun b27 => ?_) (fun b27 => ?_)
    ·
      refine G.go hX 1 (bxW W H M P c wt rows gro wx wy mk, 65, [(0, gr 2), (1, gi i)], [gi 0]) rfl trivial ?_
      exact g_zret hX hE rfl (Or.inl rfl) ⟨(congrArg (fun z => some (gi z)) (gb_f (by unfold gsh; omega)).symm), rfl⟩
    ·
      refine G.go hX 7 (bxW W H M P c wt rows gro wx wy mk, 39, [(0, gr 2), (1, gi i)], [gi 3, gi i, gr 2, gi (gro 1)]) rfl ?_ ?_
      · refine ⟨?_, trivial⟩
        · omega
      refine G.callV (av := [gi i, gi 3]) (o := 2) (st := [gi (gro 1)]) hX rfl (fun l D cA => c_X1_tell l D cA W H M P c wt rows gro wx wy mk i 3 (by first | assumption | omega) (by first | assumption | omega)) (by decide +kernel) aX1_tell rfl rfl rfl ⟨rfl, rfl⟩ (by decide) (Nat.le_of_ble_eq_true rfl) [0, 1, 2, 3, 4, 5] [] [] rfl rfl rfl (fun r w' hp => ?_)
      obtain ⟨rfl, rfl⟩ := hp
      show G X mX1_sharesPlace ad 0 0 (bxW W H M P c wt rows gro wx wy mk, 42, [(0, gr 2), (1, gi i)], [gi (rows (i * 5 + 3)), gi (gro 1)])
      refine g_icmp_gt hX 64 rfl rfl (by first | exact hgr _ | exact hrr _) (by first | exact hgr _ | exact hrr _) (fun b42 => ?_) (fun b42 => ?_)
      ·
        refine G.go hX 1 (bxW W H M P c wt rows gro wx wy mk, 65, [(0, gr 2), (1, gi i)], [gi 0]) rfl trivial ?_
        exact g_zret hX hE rfl (Or.inl rfl) ⟨(congrArg (fun z => some (gi z)) (gb_f (by unfold gsh; omega)).symm), rfl⟩
      ·
        refine G.go hX 3 (bxW W H M P c wt rows gro wx wy mk, 48, [(0, gr 2), (1, gi i)], [gi 1, gi i, gr 2]) rfl trivial ?_
        refine G.callV (av := [gi i, gi 1]) (o := 2) (st := []) hX rfl (fun l D cA => c_X1_tell l D cA W H M P c wt rows gro wx wy mk i 1 (by first | assumption | omega) (by first | assumption | omega)) (by decide +kernel) aX1_tell rfl rfl rfl ⟨rfl, rfl⟩ (by decide) (Nat.le_of_ble_eq_true rfl) [0, 1, 2, 3, 4, 5] [] [] rfl rfl rfl (fun r w' hp => ?_)
        obtain ⟨rfl, rfl⟩ := hp
        show G X mX1_sharesPlace ad 0 0 (bxW W H M P c wt rows gro wx wy mk, 51, [(0, gr 2), (1, gi i)], [gi (rows (i * 5 + 1))])
        refine G.go hX 4 (bxW W H M P c wt rows gro wx wy mk, 57, [(0, gr 2), (1, gi i)], [gi (gro 3), gi (rows (i * 5 + 1))]) rfl ?_ ?_
        · refine ⟨?_, trivial⟩
          · omega
        refine g_icmp_gt hX 64 rfl rfl (by first | exact hgr _ | exact hrr _) (by first | exact hgr _ | exact hrr _) (fun b57 => ?_) (fun b57 => ?_)
        ·
          refine G.go hX 1 (bxW W H M P c wt rows gro wx wy mk, 65, [(0, gr 2), (1, gi i)], [gi 0]) rfl trivial ?_
          exact g_zret hX hE rfl (Or.inl rfl) ⟨(congrArg (fun z => some (gi z)) (gb_f (by unfold gsh; omega)).symm), rfl⟩
        ·
          refine G.go hX 2 (bxW W H M P c wt rows gro wx wy mk, 65, [(0, gr 2), (1, gi i)], [gi 1]) rfl trivial ?_
          exact g_zret hX hE rfl (Or.inr rfl) ⟨(congrArg (fun z => some (gi z)) (gb_t (by unfold gsh; omega)).symm), rfl⟩
set_option maxHeartbeats 4000000 in
set_option maxRecDepth 100000 in
theorem c_X1_comesBefore (l : Launch) (D : va_G) (cA : Nat → ClassId) (W : Nat) (H : Nat) (M : Nat) (P : Nat) (c : Int) (wt : Int) (rows : Int → Int) (gro : Int → Int) (wx : Int → Int) (wy : Int → Int) (mk : Int → Int) (i : Int) (j : Int) (hM : M ≤ 256) (hi : 0 ≤ i ∧ i < M) (hj : 0 ≤ j ∧ j < M) (hrr : ∀ j : Int, inR (rows j)) :
    gC l D cA yX1_comesBefore mX1_comesBefore (some .boolean) 0 0 [gr 2, gi i, gi j] (bxW W H M P c wt rows gro wx wy mk) (fun r9 w9 => r9 = some (gi (gb (gbf rows i j))) ∧ w9 = bxW W H M P c wt rows gro wx wy mk) := by
  refine gC_of rfl kX1_comesBefore rfl rfl (Nat.le_of_ble_eq_true rfl) (fun X ad hX hE => ?_)
  refine G.go hX 3 (bxW W H M P c wt rows gro wx wy mk, 3, [(0, gr 2), (1, gi i), (2, gi j)], [gi 1, gi i, gr 2]) rfl trivial ?_
  refine G.callV (av := [gi i, gi 1]) (o := 2) (st := []) hX rfl (fun l D cA => c_X1_tell l D cA W H M P c wt rows gro wx wy mk i 1 (by first | assumption | omega) (by first | assumption | omega)) (by decide +kernel) aX1_tell rfl rfl rfl ⟨rfl, rfl⟩ (by decide) (Nat.le_of_ble_eq_true rfl) [0, 1, 2, 3, 4, 5] [] [] rfl rfl rfl (fun r w' hp => ?_)
  obtain ⟨rfl, rfl⟩ := hp
  show G X mX1_comesBefore ad 0 0 (bxW W H M P c wt rows gro wx wy mk, 6, [(0, gr 2), (1, gi i), (2, gi j)], [gi (rows (i * 5 + 1))])
  refine G.go hX 3 (bxW W H M P c wt rows gro wx wy mk, 9, [(0, gr 2), (1, gi i), (2, gi j)], [gi 1, gi j, gr 2, gi (rows (i * 5 + 1))]) rfl trivial ?_
  refine G.callV (av := [gi j, gi 1]) (o := 2) (st := [gi (rows (i * 5 + 1))]) hX rfl (fun l D cA => c_X1_tell l D cA W H M P c wt rows gro wx wy mk j 1 (by first | assumption | omega) (by first | assumption | omega)) (by decide +kernel) aX1_tell rfl rfl rfl ⟨rfl, rfl⟩ (by decide) (Nat.le_of_ble_eq_true rfl) [0, 1, 2, 3, 4, 5] [] [] rfl rfl rfl (fun r w' hp => ?_)
  obtain ⟨rfl, rfl⟩ := hp
  show G X mX1_comesBefore ad 0 0 (bxW W H M P c wt rows gro wx wy mk, 12, [(0, gr 2), (1, gi i), (2, gi j)], [gi (rows (j * 5 + 1)), gi (rows (i * 5 + 1))])
  refine g_icmp_eq hX 36 rfl rfl (hrr _) (hrr _) (fun b12 => ?_) (fun b12 => ?_)
  ·
    refine G.go hX 3 (bxW W H M P c wt rows gro wx wy mk, 39, [(0, gr 2), (1, gi i), (2, gi j)], [gi 0, gi i, gr 2]) rfl trivial ?_
    refine G.callV (av := [gi i, gi 0]) (o := 2) (st := []) hX rfl (fun l D cA => c_X1_tell l D cA W H M P c wt rows gro wx wy mk i 0 (by first | assumption | omega) (by first | assumption | omega)) (by decide +kernel) aX1_tell rfl rfl rfl ⟨rfl, rfl⟩ (by decide) (Nat.le_of_ble_eq_true rfl) [0, 1, 2, 3, 4, 5] [] [] rfl rfl rfl (fun r w' hp => ?_)
    obtain ⟨rfl, rfl⟩ := hp
    show G X mX1_comesBefore ad 0 0 (bxW W H M P c wt rows gro wx wy mk, 42, [(0, gr 2), (1, gi i), (2, gi j)], [gi (rows (i * 5 + 0))])
    refine G.go hX 3 (bxW W H M P c wt rows gro wx wy mk, 45, [(0, gr 2), (1, gi i), (2, gi j)], [gi 0, gi j, gr 2, gi (rows (i * 5 + 0))]) rfl trivial ?_
    refine G.callV (av := [gi j, gi 0]) (o := 2) (st := [gi (rows (i * 5 + 0))]) hX rfl (fun l D cA => c_X1_tell l D cA W H M P c wt rows gro wx wy mk j 0 (by first | assumption | omega) (by first | assumption | omega)) (by decide +kernel) aX1_tell rfl rfl rfl ⟨rfl, rfl⟩ (by decide) (Nat.le_of_ble_eq_true rfl) [0, 1, 2, 3, 4, 5] [] [] rfl rfl rfl (fun r w' hp => ?_)
    obtain ⟨rfl, rfl⟩ := hp
    show G X mX1_comesBefore ad 0 0 (bxW W H M P c wt rows gro wx wy mk, 48, [(0, gr 2), (1, gi i), (2, gi j)], [gi (rows (j * 5 + 0)), gi (rows (i * 5 + 0))])
    refine g_icmp_ge hX 55 rfl rfl (hrr _) (hrr _) (fun b48 => ?_) (fun b48 => ?_)
    ·
      refine G.go hX 1 (bxW W H M P c wt rows gro wx wy mk, 56, [(0, gr 2), (1, gi i), (2, gi j)], [gi 0]) rfl trivial ?_
      exact g_zret hX hE rfl (Or.inl rfl) ⟨(congrArg (fun z => some (gi z)) (gb_f (by unfold gbf; omega)).symm), rfl⟩
    ·
      refine G.go hX 2 (bxW W H M P c wt rows gro wx wy mk, 56, [(0, gr 2), (1, gi i), (2, gi j)], [gi 1]) rfl trivial ?_
      exact g_zret hX hE rfl (Or.inr rfl) ⟨(congrArg (fun z => some (gi z)) (gb_t (by unfold gbf; omega)).symm), rfl⟩
  ·
    refine G.go hX 3 (bxW W H M P c wt rows gro wx wy mk, 18, [(0, gr 2), (1, gi i), (2, gi j)], [gi 1, gi i, gr 2]) rfl trivial ?_
    refine G.callV (av := [gi i, gi 1]) (o := 2) (st := []) hX rfl (fun l D cA => c_X1_tell l D cA W H M P c wt rows gro wx wy mk i 1 (by first | assumption | omega) (by first | assumption | omega)) (by decide +kernel) aX1_tell rfl rfl rfl ⟨rfl, rfl⟩ (by decide) (Nat.le_of_ble_eq_true rfl) [0, 1, 2, 3, 4, 5] [] [] rfl rfl rfl (fun r w' hp => ?_)
    obtain ⟨rfl, rfl⟩ := hp
    show G X mX1_comesBefore ad 0 0 (bxW W H M P c wt rows gro wx wy mk, 21, [(0, gr 2), (1, gi i), (2, gi j)], [gi (rows (i * 5 + 1))])
    refine G.go hX 3 (bxW W H M P c wt rows gro wx wy mk, 24, [(0, gr 2), (1, gi i), (2, gi j)], [gi 1, gi j, gr 2, gi (rows (i * 5 + 1))]) rfl trivial ?_
    refine G.callV (av := [gi j, gi 1]) (o := 2) (st := [gi (rows (i * 5 + 1))]) hX rfl (fun l D cA => c_X1_tell l D cA W H M P c wt rows gro wx wy mk j 1 (by first | assumption | omega) (by first | assumption | omega)) (by decide +kernel) aX1_tell rfl rfl rfl ⟨rfl, rfl⟩ (by decide) (Nat.le_of_ble_eq_true rfl) [0, 1, 2, 3, 4, 5] [] [] rfl rfl rfl (fun r w' hp => ?_)
    obtain ⟨rfl, rfl⟩ := hp
    show G X mX1_comesBefore ad 0 0 (bxW W H M P c wt rows gro wx wy mk, 27, [(0, gr 2), (1, gi i), (2, gi j)], [gi (rows (j * 5 + 1)), gi (rows (i * 5 + 1))])
    refine g_icmp_ge hX 34 rfl rfl (hrr _) (hrr _) (fun b27 => ?_) (fun b27 => ?_)
    ·
      refine G.go hX 1 (bxW W H M P c wt rows gro wx wy mk, 35, [(0, gr 2), (1, gi i), (2, gi j)], [gi 0]) rfl trivial ?_
      exact g_zret hX hE rfl (Or.inl rfl) ⟨(congrArg (fun z => some (gi z)) (gb_f (by unfold gbf; omega)).symm), rfl⟩
    ·
      refine G.go hX 2 (bxW W H M P c wt rows gro wx wy mk, 35, [(0, gr 2), (1, gi i), (2, gi j)], [gi 1]) rfl trivial ?_
      exact g_zret hX hE rfl (Or.inr rfl) ⟨(congrArg (fun z => some (gi z)) (gb_t (by unfold gbf; omega)).symm), rfl⟩
set_option maxHeartbeats 4000000 in
set_option maxRecDepth 100000 in
theorem c_X1_widen (l : Launch) (D : va_G) (cA : Nat → ClassId) (W : Nat) (H : Nat) (M : Nat) (P : Nat) (c : Int) (wt : Int) (rows : Int → Int) (gro : Int → Int) (wx : Int → Int) (wy : Int → Int) (mk : Int → Int) (x1 : Int) (x2 : Int) (x3 : Int) (x4 : Int) (hgr : ∀ j : Int, inR (gro j)) (h1 : inR x1) (h2 : inR x2) (h3 : inR x3) (h4 : inR x4) :
    gC l D cA yX1_widen mX1_widen none 0 0 [gr 2, gi x1, gi x2, gi x3, gi x4] (bxW W H M P c wt rows gro wx wy mk) (fun r9 w9 => r9 = none ∧ w9 = bxW W H M P c wt rows (gwd gro x1 x2 x3 x4) wx wy mk) := by
  refine gC_of rfl kX1_widen rfl rfl (Nat.le_of_ble_eq_true rfl) (fun X ad hX hE => ?_)
  refine G.go hX 8 (bxW W H M P c wt rows gro wx wy mk, 12, [(0, gr 2), (1, gi x1), (2, gi x2), (3, gi x3), (4, gi x4)], [gi x1, gi (gro 0), gi 0, gr 8]) rfl ?_ ?_
  · refine ⟨?_, trivial⟩
    · omega
  refine g_mmin hX rfl (by decide +kernel) ⟨⟨by decide, Nat.le_of_ble_eq_true rfl⟩, by decide, by decide⟩ (by first | exact hgr _ | assumption | exact ⟨by simp [gu] <;> have := hgr 0 <;> omega, by omega⟩) (by first | exact hgr _ | assumption | exact ⟨by simp [gu] <;> have := hgr 0 <;> omega, by omega⟩) ?_
  show G X mX1_widen ad 0 0 (bxW W H M P c wt rows gro wx wy mk, 15, [(0, gr 2), (1, gi x1), (2, gi x2), (3, gi x3), (4, gi x4)], [gi (min (gro 0) x1), gi 0, gr 8])
  refine G.go hX 9 (bxW W H M P c wt rows (gu gro 0 (min (gro 0) x1)) wx wy mk, 28, [(0, gr 2), (1, gi x1), (2, gi x2), (3, gi x3), (4, gi x4)], [gi x2, gi ((gu gro 0 (min (gro 0) x1)) 1), gi 1, gr 8]) rfl ?_ ?_
  · refine ⟨?_, ?_, trivial⟩
    · omega
    · omega
  refine g_mmin hX rfl (by decide +kernel) ⟨⟨by decide, Nat.le_of_ble_eq_true rfl⟩, by decide, by decide⟩ (by first | exact hgr _ | assumption | exact ⟨by simp [gu] <;> have := hgr 0 <;> omega, by omega⟩) (by first | exact hgr _ | assumption | exact ⟨by simp [gu] <;> have := hgr 0 <;> omega, by omega⟩) ?_
  show G X mX1_widen ad 0 0 (bxW W H M P c wt rows (gu gro 0 (min (gro 0) x1)) wx wy mk, 31, [(0, gr 2), (1, gi x1), (2, gi x2), (3, gi x3), (4, gi x4)], [gi (min ((gu gro 0 (min (gro 0) x1)) 1) x2), gi 1, gr 8])
  refine G.go hX 9 (bxW W H M P c wt rows (gu (gu gro 0 (min (gro 0) x1)) 1 (min ((gu gro 0 (min (gro 0) x1)) 1) x2)) wx wy mk, 44, [(0, gr 2), (1, gi x1), (2, gi x2), (3, gi x3), (4, gi x4)], [gi x3, gi ((gu (gu gro 0 (min (gro 0) x1)) 1 (min ((gu gro 0 (min (gro 0) x1)) 1) x2)) 2), gi 2, gr 8]) rfl ?_ ?_
  · refine ⟨?_, ?_, trivial⟩
    · omega
    · omega
  refine g_mmax hX rfl (by decide +kernel) ⟨⟨by decide, Nat.le_of_ble_eq_true rfl⟩, by decide, by decide⟩ (by first | exact hgr _ | assumption | exact ⟨by simp [gu] <;> have := hgr 0 <;> omega, by omega⟩) (by first | exact hgr _ | assumption | exact ⟨by simp [gu] <;> have := hgr 0 <;> omega, by omega⟩) ?_
  show G X mX1_widen ad 0 0 (bxW W H M P c wt rows (gu (gu gro 0 (min (gro 0) x1)) 1 (min ((gu gro 0 (min (gro 0) x1)) 1) x2)) wx wy mk, 47, [(0, gr 2), (1, gi x1), (2, gi x2), (3, gi x3), (4, gi x4)], [gi (max ((gu (gu gro 0 (min (gro 0) x1)) 1 (min ((gu gro 0 (min (gro 0) x1)) 1) x2)) 2) x3), gi 2, gr 8])
  refine G.go hX 9 (bxW W H M P c wt rows (gu (gu (gu gro 0 (min (gro 0) x1)) 1 (min ((gu gro 0 (min (gro 0) x1)) 1) x2)) 2 (max ((gu (gu gro 0 (min (gro 0) x1)) 1 (min ((gu gro 0 (min (gro 0) x1)) 1) x2)) 2) x3)) wx wy mk, 61, [(0, gr 2), (1, gi x1), (2, gi x2), (3, gi x3), (4, gi x4)], [gi x4, gi ((gu (gu (gu gro 0 (min (gro 0) x1)) 1 (min ((gu gro 0 (min (gro 0) x1)) 1) x2)) 2 (max ((gu (gu gro 0 (min (gro 0) x1)) 1 (min ((gu gro 0 (min (gro 0) x1)) 1) x2)) 2) x3)) 3), gi 3, gr 8]) rfl ?_ ?_
  · refine ⟨?_, ?_, trivial⟩
    · omega
    · omega
  refine g_mmax hX rfl (by decide +kernel) ⟨⟨by decide, Nat.le_of_ble_eq_true rfl⟩, by decide, by decide⟩ (by first | exact hgr _ | assumption | exact ⟨by simp [gu] <;> have := hgr 0 <;> omega, by omega⟩) (by first | exact hgr _ | assumption | exact ⟨by simp [gu] <;> have := hgr 0 <;> omega, by omega⟩) ?_
  show G X mX1_widen ad 0 0 (bxW W H M P c wt rows (gu (gu (gu gro 0 (min (gro 0) x1)) 1 (min ((gu gro 0 (min (gro 0) x1)) 1) x2)) 2 (max ((gu (gu gro 0 (min (gro 0) x1)) 1 (min ((gu gro 0 (min (gro 0) x1)) 1) x2)) 2) x3)) wx wy mk, 64, [(0, gr 2), (1, gi x1), (2, gi x2), (3, gi x3), (4, gi x4)], [gi (max ((gu (gu (gu gro 0 (min (gro 0) x1)) 1 (min ((gu gro 0 (min (gro 0) x1)) 1) x2)) 2 (max ((gu (gu gro 0 (min (gro 0) x1)) 1 (min ((gu gro 0 (min (gro 0) x1)) 1) x2)) 2) x3)) 3) x4), gi 3, gr 8])
  refine G.go hX 1 (bxW W H M P c wt rows (gu (gu (gu (gu gro 0 (min (gro 0) x1)) 1 (min ((gu gro 0 (min (gro 0) x1)) 1) x2)) 2 (max ((gu (gu gro 0 (min (gro 0) x1)) 1 (min ((gu gro 0 (min (gro 0) x1)) 1) x2)) 2) x3)) 3 (max ((gu (gu (gu gro 0 (min (gro 0) x1)) 1 (min ((gu gro 0 (min (gro 0) x1)) 1) x2)) 2 (max ((gu (gu gro 0 (min (gro 0) x1)) 1 (min ((gu gro 0 (min (gro 0) x1)) 1) x2)) 2) x3)) 3) x4)) wx wy mk, 65, [(0, gr 2), (1, gi x1), (2, gi x2), (3, gi x3), (4, gi x4)], []) rfl ?_ ?_
  · refine ⟨?_, trivial⟩
    · omega
  exact g_vret hX hE rfl ⟨rfl, (by first | rfl | (simp [gu, gwd]))⟩
set_option maxHeartbeats 4000000 in
set_option maxRecDepth 100000 in
theorem c_X1_take (l : Launch) (D : va_G) (cA : Nat → ClassId) (W : Nat) (H : Nat) (M : Nat) (P : Nat) (c : Int) (wt : Int) (rows : Int → Int) (gro : Int → Int) (wx : Int → Int) (wy : Int → Int) (mk : Int → Int) (x : Int) (y : Int) (hyx : 0 ≤ y * W + x ∧ y * W + x < P) (hPl : P ≤ 1024) (hwt : 0 ≤ wt ∧ wt < P) :
    gC l D cA yX1_take mX1_take none 0 0 [gr 2, gi x, gi y, gr 6] (bxW W H M P c wt rows gro wx wy mk) (fun r9 w9 => r9 = none ∧ w9 = bxW W H M P c (wt + 1) rows gro (gu wx wt x) (gu wy wt y) (gu mk (y * W + x) 0)) := by
  refine gC_of rfl kX1_take rfl rfl (Nat.le_of_ble_eq_true rfl) (fun X ad hX hE => ?_)
  refine G.go hX 14 (bxW W H M P c wt rows gro wx wy (gu mk ((y * W) + x) 0), 20, [(0, gr 2), (1, gi x), (2, gi y), (3, gr 6)], [gi ((P : Nat) : Int), gi wt]) rfl ?_ ?_
  · refine ⟨?_, trivial⟩
    · omega
  refine g_icmp_ge hX 53 rfl rfl ⟨by omega, by omega⟩ ⟨by omega, by omega⟩ (fun b20 => ?_) (fun b20 => ?_)
  ·
    exfalso
    omega
  ·
    refine G.go hX 18 (bxW W H M P c (wt + 1) rows gro (gu wx wt x) (gu wy wt y) (gu mk ((y * W) + x) 0), 53, [(0, gr 2), (1, gi x), (2, gi y), (3, gr 6)], []) rfl ?_ ?_
    · refine ⟨?_, ?_, trivial⟩
      · omega
      · omega
    exact g_vret hX hE rfl ⟨rfl, (by first | rfl | (omega))⟩
end
section
set_option maxHeartbeats 4000000 in
set_option maxRecDepth 100000 in
theorem c_X1_takeAround (l : Launch) (D : va_G) (cA : Nat → ClassId) (W : Nat) (H : Nat) (M : Nat) (P : Nat) (c : Int) (wt : Int) (rows : Int → Int) (gro : Int → Int) (wx : Int → Int) (wy : Int → Int) (mk : Int → Int) (x : Int) (y : Int) (r : Int) (F : (Int → Int) → Int → (Int → Int) → (Int → Int) → Prop) (hW : W ≤ 32) (hH : H ≤ 32) (hP : P = W * H) (hPl : P ≤ 1024) (hx : 0 ≤ x ∧ x < W) (hy : 0 ≤ y ∧ y < H) (hr : 0 ≤ r ∧ r ≤ 3) (hst : ∀ (mk : Int → Int) (wt : Int) (wx wy : Int → Int) (px py : Int), F mk wt wx wy → 0 ≤ px → px < W → 0 ≤ py → py < H → x - r ≤ px → px ≤ x + r → y - r ≤ py → py ≤ y + r → mk (py * W + px) = 1 → F (gu mk (py * W + px) 0) (wt + 1) (gu wx wt px) (gu wy wt py)) (hok : ∀ (mk : Int → Int) (wt : Int) (wx wy : Int → Int), F mk wt wx wy → (∀ q, mk q = 0 ∨ mk q = 1) ∧ 0 ≤ wt ∧ wt + gsm mk P ≤ P) (hF : F mk wt wx wy) :
    gC l D cA yX1_takeAround mX1_takeAround none 0 0 [gr 2, gi x, gi y, gr 6, gi r] (bxW W H M P c wt rows gro wx wy mk) (fun r9 w9 => ∃ (mk2 : Int → Int) (wt2 : Int) (wx2 : Int → Int) (wy2 : Int → Int), r9 = none ∧ w9 = bxW W H M P c wt2 rows gro wx2 wy2 mk2 ∧ (F mk2 wt2 wx2 wy2) ∧ (gscn W H x y r mk2 (y + r + 1) 0)) := by
  refine gC_of rfl kX1_takeAround rfl rfl (Nat.le_of_ble_eq_true rfl) (fun X ad hX hE => ?_)
  refine G.go hX 7 (bxW W H M P c wt rows gro wx wy mk, 10, [(0, gr 2), (1, gi x), (2, gi y), (3, gr 6), (4, gi r)], [gi (x + r), gi (W - 1)]) rfl trivial ?_
  refine g_mmin hX rfl (by decide +kernel) ⟨⟨by decide, Nat.le_of_ble_eq_true rfl⟩, by decide, by decide⟩ ⟨by omega, by omega⟩ ⟨by omega, by omega⟩ ?_
  show G X mX1_takeAround ad 0 0 (bxW W H M P c wt rows gro wx wy mk, 13, [(0, gr 2), (1, gi x), (2, gi y), (3, gr 6), (4, gi r)], [gi (min (W - 1) (x + r))])
  refine G.go hX 8 (bxW W H M P c wt rows gro wx wy mk, 25, [(0, gr 2), (1, gi x), (2, gi y), (3, gr 6), (4, gi r), (5, gi (min (W - 1) (x + r)))], [gi (y + r), gi (H - 1)]) rfl trivial ?_
  refine g_mmin hX rfl (by decide +kernel) ⟨⟨by decide, Nat.le_of_ble_eq_true rfl⟩, by decide, by decide⟩ ⟨by omega, by omega⟩ ⟨by omega, by omega⟩ ?_
  show G X mX1_takeAround ad 0 0 (bxW W H M P c wt rows gro wx wy mk, 28, [(0, gr 2), (1, gi x), (2, gi y), (3, gr 6), (4, gi r), (5, gi (min (W - 1) (x + r)))], [gi (min (H - 1) (y + r))])
  refine G.go hX 5 (bxW W H M P c wt rows gro wx wy mk, 35, [(0, gr 2), (1, gi x), (2, gi y), (3, gr 6), (4, gi r), (5, gi (min (W - 1) (x + r))), (6, gi (min (H - 1) (y + r)))], [gi (y - r), gi 0]) rfl trivial ?_
  refine g_mmax hX rfl (by decide +kernel) ⟨⟨by decide, Nat.le_of_ble_eq_true rfl⟩, by decide, by decide⟩ ⟨by omega, by omega⟩ ⟨by omega, by omega⟩ ?_
  show G X mX1_takeAround ad 0 0 (bxW W H M P c wt rows gro wx wy mk, 38, [(0, gr 2), (1, gi x), (2, gi y), (3, gr 6), (4, gi r), (5, gi (min (W - 1) (x + r))), (6, gi (min (H - 1) (y + r)))], [gi (max 0 (y - r))])
  refine G.go hX 1 (bxW W H M P c wt rows gro wx wy mk, 40, [(0, gr 2), (1, gi x), (2, gi y), (3, gr 6), (4, gi r), (5, gi (min (W - 1) (x + r))), (6, gi (min (H - 1) (y + r))), (7, gi (max 0 (y - r)))], []) rfl trivial ?_
  have lp40 : ∀ (n : Nat) (ro : Int) (mk1 : Int → Int) (wt1 : Int) (wx1 : Int → Int) (wy1 : Int → Int), (F mk1 wt1 wx1 wy1) → (0 ≤ ro ∧ y - r ≤ ro ∧ ro ≤ min ((H : Int) - 1) (y + r) + 1) → (gscn W H x y r mk1 ro 0) → (min ((H : Int) - 1) (y + r) + 1 - ro).toNat < n → G X mX1_takeAround ad 0 0 (bxW W H M P c wt1 rows gro wx1 wy1 mk1, 40, [(0, gr 2), (1, gi x), (2, gi y), (3, gr 6), (4, gi r), (5, gi (min ((W : Int) - 1) (x + r))), (6, gi (min ((H : Int) - 1) (y + r))), (7, gi ro)], []) := by
    intro n
    induction n with
    | zero => intro ro mk1 wt1 wx1 wy1 hF1 hro hs1 hm9; exact absurd hm9 (Nat.not_lt_zero _)
    | succ n ih40 =>
      intro ro mk1 wt1 wx1 wy1 hF1 hro hs1 hm40
      refine G.go hX 2 (bxW W H M P c wt1 rows gro wx1 wy1 mk1, 44, [(0, gr 2), (1, gi x), (2, gi y), (3, gr 6), (4, gi r), (5, gi (min ((W : Int) - 1) (x + r))), (6, gi (min ((H : Int) - 1) (y + r))), (7, gi ro)], [gi (min ((H : Int) - 1) (y + r)), gi ro]) rfl trivial ?_
      refine g_icmp_gt hX 100 rfl rfl ⟨by omega, by omega⟩ ⟨by omega, by omega⟩ (fun b44 => ?_) (fun b44 => ?_)
      ·
        exact g_vret hX hE rfl ⟨mk1, wt1, wx1, wy1, rfl, rfl, hF1, fun px py a1 a2 a3 a4 a5 a6 a7 a8 h9 => hs1 px py a1 a2 a3 a4 a5 a6 a7 a8 (by omega)⟩
      ·
        refine G.go hX 4 (bxW W H M P c wt1 rows gro wx1 wy1 mk1, 52, [(0, gr 2), (1, gi x), (2, gi y), (3, gr 6), (4, gi r), (5, gi (min ((W : Int) - 1) (x + r))), (6, gi (min ((H : Int) - 1) (y + r))), (7, gi ro)], [gi (x - r), gi 0]) rfl trivial ?_
        refine g_mmax hX rfl (by decide +kernel) ⟨⟨by decide, Nat.le_of_ble_eq_true rfl⟩, by decide, by decide⟩ ⟨by omega, by omega⟩ ⟨by omega, by omega⟩ ?_
        show G X mX1_takeAround ad 0 0 (bxW W H M P c wt1 rows gro wx1 wy1 mk1, 55, [(0, gr 2), (1, gi x), (2, gi y), (3, gr 6), (4, gi r), (5, gi (min ((W : Int) - 1) (x + r))), (6, gi (min ((H : Int) - 1) (y + r))), (7, gi ro)], [gi (max 0 (x - r))])
        refine G.go hX 1 (bxW W H M P c wt1 rows gro wx1 wy1 mk1, 57, [(0, gr 2), (1, gi x), (2, gi y), (3, gr 6), (4, gi r), (5, gi (min ((W : Int) - 1) (x + r))), (6, gi (min ((H : Int) - 1) (y + r))), (7, gi ro), (8, gi (max 0 (x - r)))], []) rfl trivial ?_
        have lp57 : ∀ (n : Nat) (co : Int) (mk3 : Int → Int) (wt3 : Int) (wx3 : Int → Int) (wy3 : Int → Int), (F mk3 wt3 wx3 wy3) → (0 ≤ co ∧ x - r ≤ co ∧ co ≤ min ((W : Int) - 1) (x + r) + 1) → (gscn W H x y r mk3 ro co) → (min ((W : Int) - 1) (x + r) + 1 - co).toNat < n → G X mX1_takeAround ad 0 0 (bxW W H M P c wt3 rows gro wx3 wy3 mk3, 57, [(0, gr 2), (1, gi x), (2, gi y), (3, gr 6), (4, gi r), (5, gi (min ((W : Int) - 1) (x + r))), (6, gi (min ((H : Int) - 1) (y + r))), (7, gi ro), (8, gi co)], []) := by
          intro n
          induction n with
          | zero => intro co mk3 wt3 wx3 wy3 hF3 hco hs3 hm9; exact absurd hm9 (Nat.not_lt_zero _)
          | succ n ih57 =>
            intro co mk3 wt3 wx3 wy3 hF3 hco hs3 hm57
            refine G.go hX 2 (bxW W H M P c wt3 rows gro wx3 wy3 mk3, 61, [(0, gr 2), (1, gi x), (2, gi y), (3, gr 6), (4, gi r), (5, gi (min ((W : Int) - 1) (x + r))), (6, gi (min ((H : Int) - 1) (y + r))), (7, gi ro), (8, gi co)], [gi (min ((W : Int) - 1) (x + r)), gi co]) rfl trivial ?_
            refine g_icmp_gt hX 94 rfl rfl ⟨by omega, by omega⟩ ⟨by omega, by omega⟩ (fun b61 => ?_) (fun b61 => ?_)
            ·
              refine G.go hX 2 (bxW W H M P c wt3 rows gro wx3 wy3 mk3, 40, [(0, gr 2), (1, gi x), (2, gi y), (3, gr 6), (4, gi r), (5, gi (min ((W : Int) - 1) (x + r))), (6, gi (min ((H : Int) - 1) (y + r))), (7, gi (ro + 1)), (8, gi co)], []) rfl trivial ?_
              refine G.locs [(0, gr 2), (1, gi x), (2, gi y), (3, gr 6), (4, gi r), (5, gi (min ((W : Int) - 1) (x + r))), (6, gi (min ((H : Int) - 1) (y + r))), (7, gi (ro + 1))] [0, 1, 2, 3, 4, 5, 6, 7] rfl ?_
              exact ih40 (ro + 1) mk3 wt3 wx3 wy3 (by exact hF3) (by omega) (by exact gscn_row hs3 (by omega) 0 (by omega)) (by omega)
            ·
              have hix := gix hP (x := co) (y := ro) (by omega) (by omega) (by omega) (by omega)
              have hbo := (hok _ _ _ _ hF3).1 (ro * W + co)
              refine G.go hX 8 (bxW W H M P c wt3 rows gro wx3 wy3 mk3, 76, [(0, gr 2), (1, gi x), (2, gi y), (3, gr 6), (4, gi r), (5, gi (min ((W : Int) - 1) (x + r))), (6, gi (min ((H : Int) - 1) (y + r))), (7, gi ro), (8, gi co)], [gi (mk3 ((ro * W) + co))]) rfl ?_ ?_
              · refine ⟨?_, trivial⟩
                · omega
              refine g_if_eq hX 88 rfl rfl (by rcases hbo with h9 | h9 <;> rw [h9] <;> exact ⟨by omega, by omega⟩) (fun b76 => ?_) (fun b76 => ?_)
              ·
                refine G.go hX 2 (bxW W H M P c wt3 rows gro wx3 wy3 mk3, 57, [(0, gr 2), (1, gi x), (2, gi y), (3, gr 6), (4, gi r), (5, gi (min ((W : Int) - 1) (x + r))), (6, gi (min ((H : Int) - 1) (y + r))), (7, gi ro), (8, gi (co + 1))], []) rfl trivial ?_
                exact ih57 (co + 1) mk3 wt3 wx3 wy3 (by exact hF3) (by omega) (by exact gscn_skip hs3 (by assumption)) (by omega)
              ·
                have hm1 : mk3 (ro * W + co) = 1 := by omega
                have hgp := gsm_pos (hok _ _ _ _ hF3).1 hm1 P hix.1 hix.2
                have hwo := (hok _ _ _ _ hF3).2
                refine G.go hX 4 (bxW W H M P c wt3 rows gro wx3 wy3 mk3, 85, [(0, gr 2), (1, gi x), (2, gi y), (3, gr 6), (4, gi r), (5, gi (min ((W : Int) - 1) (x + r))), (6, gi (min ((H : Int) - 1) (y + r))), (7, gi ro), (8, gi co)], [gr 6, gi ro, gi co, gr 2]) rfl trivial ?_
                refine G.callV (av := [gi co, gi ro, gr 6]) (o := 2) (st := []) hX rfl (fun l D cA => c_X1_take l D cA W H M P c wt3 rows gro wx3 wy3 mk3 co ro (by first | assumption | omega) (by first | assumption | omega) (by first | assumption | omega)) (by decide +kernel) aX1_take rfl rfl rfl ⟨rfl, rfl⟩ (by decide) (Nat.le_of_ble_eq_true rfl) [0, 1, 2, 3, 4, 5] [] [] rfl rfl rfl (fun r w' hp => ?_)
                obtain ⟨rfl, rfl⟩ := hp
                show G X mX1_takeAround ad 0 0 (bxW W H M P c (wt3 + 1) rows gro (gu wx3 wt3 co) (gu wy3 wt3 ro) (gu mk3 (ro * W + co) 0), 88, [(0, gr 2), (1, gi x), (2, gi y), (3, gr 6), (4, gi r), (5, gi (min ((W : Int) - 1) (x + r))), (6, gi (min ((H : Int) - 1) (y + r))), (7, gi ro), (8, gi co)], [])
                refine G.go hX 2 (bxW W H M P c (wt3 + 1) rows gro (gu wx3 wt3 co) (gu wy3 wt3 ro) (gu mk3 (ro * W + co) 0), 57, [(0, gr 2), (1, gi x), (2, gi y), (3, gr 6), (4, gi r), (5, gi (min ((W : Int) - 1) (x + r))), (6, gi (min ((H : Int) - 1) (y + r))), (7, gi ro), (8, gi (co + 1))], []) rfl trivial ?_
                exact ih57 (co + 1) (gu mk3 (ro * W + co) 0) (wt3 + 1) (gu wx3 wt3 co) (gu wy3 wt3 ro) (by exact hst _ _ _ _ _ _ hF3 (by omega) (by omega) (by omega) (by omega) (by omega) (by omega) (by omega) (by omega) hm1) (by omega) (by exact gscn_take hs3) (by omega)
        exact lp57 _ (max 0 (x - r)) mk1 wt1 wx1 wy1 (by exact hF1) (by omega) (by intro px py _ _ _ _ _ _ _ _ h9; exact hs1 px py (by assumption) (by assumption) (by assumption) (by assumption) (by assumption) (by assumption) (by assumption) (by assumption) (by omega)) (Nat.lt_succ_self _)
  exact lp40 _ (max 0 (y - r)) mk wt wx wy (by exact hF) (by omega) (by intro px py _ _ _ _ _ _ _ _ h9; omega) (Nat.lt_succ_self _)
set_option maxHeartbeats 4000000 in
set_option maxRecDepth 100000 in
theorem c_X1_swap (l : Launch) (D : va_G) (cA : Nat → ClassId) (W : Nat) (H : Nat) (M : Nat) (P : Nat) (c : Int) (wt : Int) (rows : Int → Int) (gro : Int → Int) (wx : Int → Int) (wy : Int → Int) (mk : Int → Int) (i : Int) (j : Int) (hM : M ≤ 256) (hi : 0 ≤ i ∧ i < M) (hj : 0 ≤ j ∧ j < M) (hij : i ≠ j) :
    gC l D cA yX1_swap mX1_swap none 0 0 [gr 2, gi i, gi j] (bxW W H M P c wt rows gro wx wy mk) (fun r9 w9 => r9 = none ∧ w9 = bxW W H M P c wt (gswn rows i j 5) gro wx wy mk) := by
  refine gC_of rfl kX1_swap rfl rfl (Nat.le_of_ble_eq_true rfl) (fun X ad hX hE => ?_)
  refine G.go hX 2 (bxW W H M P c wt rows gro wx wy mk, 2, [(0, gr 2), (1, gi i), (2, gi j), (3, gi 0)], []) rfl trivial ?_
  have lp2 : ∀ (n : Nat) (n1 : Int) (ro : Int → Int), (0 ≤ n1 ∧ n1 ≤ 5) → (ro = gswn rows i j n1) → (5 - n1).toNat < n → G X mX1_swap ad 0 0 (bxW W H M P c wt ro gro wx wy mk, 2, [(0, gr 2), (1, gi i), (2, gi j), (3, gi n1)], []) := by
    intro n
    induction n with
    | zero => intro n1 ro hn hro hm9; exact absurd hm9 (Nat.not_lt_zero _)
    | succ n ih2 =>
      intro n1 ro hn hro hm2
      refine G.go hX 2 (bxW W H M P c wt ro gro wx wy mk, 4, [(0, gr 2), (1, gi i), (2, gi j), (3, gi n1)], [gi 5, gi n1]) rfl trivial ?_
      refine g_icmp_ge hX 57 rfl rfl ⟨by omega, by omega⟩ ⟨by omega, by omega⟩ (fun b4 => ?_) (fun b4 => ?_)
      ·
        exact g_vret hX hE rfl ⟨rfl, (by first | rfl | (rw [hro, show n1 = 5 by omega]))⟩
      ·
        refine G.go hX 36 (bxW W H M P c wt (gu (gu ro ((i * 5) + n1) (ro ((j * 5) + n1))) ((j * 5) + n1) (ro ((i * 5) + n1))) gro wx wy mk, 2, [(0, gr 2), (1, gi i), (2, gi j), (3, gi (n1 + 1)), (4, gi (ro ((i * 5) + n1)))], []) rfl ?_ ?_
        · refine ⟨?_, ?_, ?_, ?_, trivial⟩
          · omega
          · omega
          · omega
          · omega
        refine G.locs [(0, gr 2), (1, gi i), (2, gi j), (3, gi (n1 + 1))] [0, 1, 2, 3] rfl ?_
        exact ih2 (n1 + 1) (gu (gu ro ((i * 5) + n1) (ro ((j * 5) + n1))) ((j * 5) + n1) (ro ((i * 5) + n1))) (by omega) (by rw [hro]; exact gswn_s rows hij (by omega) (by omega)) (by omega)
  exact lp2 _ 0 rows (by omega) (by rw [gswn_0]) (Nat.lt_succ_self _)
set_option maxHeartbeats 4000000 in
set_option maxRecDepth 100000 in
theorem c_X1_keepGrown (l : Launch) (D : va_G) (cA : Nat → ClassId) (W : Nat) (H : Nat) (M : Nat) (P : Nat) (c : Int) (wt : Int) (rows : Int → Int) (gro : Int → Int) (wx : Int → Int) (wy : Int → Int) (mk : Int → Int) (hM : M ≤ 256) (hc : 0 ≤ c ∧ c < M) :
    gC l D cA yX1_keepGrown mX1_keepGrown none 0 0 [gr 2] (bxW W H M P c wt rows gro wx wy mk) (fun r9 w9 => r9 = none ∧ w9 = bxW W H M P (c + 1) wt (gcp gro rows 0 (c * 5) 5) gro wx wy mk) := by
  refine gC_of rfl kX1_keepGrown rfl rfl (Nat.le_of_ble_eq_true rfl) (fun X ad hX hE => ?_)
  refine G.go hX 4 (bxW W H M P c wt rows gro wx wy mk, 8, [(0, gr 2)], [gi M, gi c]) rfl trivial ?_
  refine g_icmp_ge hX 40 rfl rfl ⟨by omega, by omega⟩ ⟨by omega, by omega⟩ (fun b8 => ?_) (fun b8 => ?_)
  ·
    exfalso
    omega
  ·
    refine G.go hX 10 (bxW W H M P c wt rows gro wx wy mk, 27, [(0, gr 2)], [gi 5, gi (c * 5), gr 7, gi 0, gr 8]) rfl trivial ?_
    refine g_copy hX rfl (by decide +kernel) ⟨by decide, Nat.le_of_ble_eq_true rfl⟩ rfl rfl (by omega) ?_
    show G X mX1_keepGrown ad 0 0 (bxW W H M P c wt (gcp gro rows 0 (c * 5) 5) gro wx wy mk, 30, [(0, gr 2)], [])
    refine G.go hX 6 (bxW W H M P (c + 1) wt (gcp gro rows 0 (c * 5) 5) gro wx wy mk, 40, [(0, gr 2)], []) rfl trivial ?_
    exact g_vret hX hE rfl ⟨rfl, rfl⟩
set_option maxHeartbeats 4000000 in
set_option maxRecDepth 100000 in
theorem c_X1_absorbRound (l : Launch) (D : va_G) (cA : Nat → ClassId) (W : Nat) (H : Nat) (M : Nat) (P : Nat) (c : Int) (wt : Int) (rows : Int → Int) (gro : Int → Int) (wx : Int → Int) (wy : Int → Int) (mk : Int → Int) (F : Int → (Int → Int) → (Int → Int) → Prop) (hM : M ≤ 256) (hst : ∀ (c : Int) (rows gro : Int → Int) (i : Int), F c rows gro → 0 ≤ i → i < c → gsh gro rows i → F (c - 1) (gcp rows rows ((c - 1) * 5) (i * 5) 5) (gab gro rows i)) (hok : ∀ (c : Int) (rows gro : Int → Int), F c rows gro → 0 ≤ c ∧ c ≤ M ∧ (∀ j : Int, inR (rows j)) ∧ (∀ j : Int, inR (gro j))) (hF : F c rows gro) :
    gC l D cA yX1_absorbRound mX1_absorbRound (some .boolean) 0 0 [gr 2] (bxW W H M P c wt rows gro wx wy mk) (fun r9 w9 => ∃ (fd2 : Int) (c2 : Int) (rows2 : Int → Int) (gro2 : Int → Int), r9 = some (gi fd2) ∧ w9 = bxW W H M P c2 wt rows2 gro2 wx wy mk ∧ (fd2 = 0 ∨ fd2 = 1) ∧ (F c2 rows2 gro2) ∧ (fd2 = 0 → c2 = c ∧ rows2 = rows ∧ gro2 = gro ∧ ∀ k : Int, 0 ≤ k → k < c → ¬ gsh gro rows k) ∧ (fd2 = 1 → c2 < c)) := by
  have hcc := hok _ _ _ hF
  refine gC_of rfl kX1_absorbRound rfl rfl (Nat.le_of_ble_eq_true rfl) (fun X ad hX hE => ?_)
  refine G.go hX 7 (bxW W H M P c wt rows gro wx wy mk, 9, [(0, gr 2), (1, gi 0), (2, gi (c - 1))], []) rfl trivial ?_
  have lp9 : ∀ (n : Nat) (fd : Int) (i : Int) (c1 : Int) (rows1 : Int → Int) (gro1 : Int → Int), (F c1 rows1 gro1) → (fd = 0 ∨ fd = 1) → (-1 ≤ i ∧ i < c1) → (fd = 0 → c1 = c ∧ rows1 = rows ∧ gro1 = gro ∧ ∀ k : Int, i < k → k < c → ¬ gsh gro rows k) → (fd = 1 → c1 < c) → (i + 1).toNat < n → G X mX1_absorbRound ad 0 0 (bxW W H M P c1 wt rows1 gro1 wx wy mk, 9, [(0, gr 2), (1, gi fd), (2, gi i)], []) := by
    intro n
    induction n with
    | zero => intro fd i c1 rows1 gro1 hF1 hfd hi1 hz ho hm9; exact absurd hm9 (Nat.not_lt_zero _)
    | succ n ih9 =>
      intro fd i c1 rows1 gro1 hF1 hfd hi1 hz ho hm9
      have hk1 := hok _ _ _ hF1
      refine G.go hX 1 (bxW W H M P c1 wt rows1 gro1 wx wy mk, 10, [(0, gr 2), (1, gi fd), (2, gi i)], [gi i]) rfl trivial ?_
      refine g_if_lt hX 103 rfl rfl ⟨by omega, by omega⟩ (fun b10 => ?_) (fun b10 => ?_)
      ·
        refine G.go hX 1 (bxW W H M P c1 wt rows1 gro1 wx wy mk, 104, [(0, gr 2), (1, gi fd), (2, gi i)], [gi fd]) rfl trivial ?_
        exact g_zret hX hE rfl (by omega) ⟨fd, c1, rows1, gro1, rfl, rfl, hfd, hF1, fun h9 => ⟨(hz h9).1, (hz h9).2.1, (hz h9).2.2.1, fun k a b => (hz h9).2.2.2 k (by omega) b⟩, ho⟩
      ·
        refine G.go hX 2 (bxW W H M P c1 wt rows1 gro1 wx wy mk, 15, [(0, gr 2), (1, gi fd), (2, gi i)], [gi i, gr 2]) rfl trivial ?_
        refine G.callV (av := [gi i]) (o := 2) (st := []) hX rfl (fun l D cA => c_X1_sharesPlace l D cA W H M P c1 wt rows1 gro1 wx wy mk i (by first | assumption | omega) (by first | assumption | omega) hk1.2.2.1 hk1.2.2.2) (by decide +kernel) aX1_sharesPlace rfl rfl rfl ⟨rfl, rfl⟩ (by decide) (Nat.le_of_ble_eq_true rfl) [0, 1, 2, 3, 4, 5] [] [] rfl rfl rfl (fun r w' hp => ?_)
        obtain ⟨rfl, rfl⟩ := hp
        show G X mX1_absorbRound ad 0 0 (bxW W H M P c1 wt rows1 gro1 wx wy mk, 18, [(0, gr 2), (1, gi fd), (2, gi i)], [gi (gb (gsh gro1 rows1 i))])
        refine g_if_eq hX 97 rfl rfl (gb_r _) (fun b18 => ?_) (fun b18 => ?_)
        ·
          have b18 := gb_0.mp b18
          refine G.go hX 2 (bxW W H M P c1 wt rows1 gro1 wx wy mk, 9, [(0, gr 2), (1, gi fd), (2, gi (i + (-1)))], []) rfl trivial ?_
          exact ih9 fd (i + (-1)) c1 rows1 gro1 (by exact hF1) (by exact hfd) (by omega) (by exact fun h9 => ⟨(hz h9).1, (hz h9).2.1, (hz h9).2.2.1, fun k a b => by (by_cases e9 : k = i; (subst e9; rw [(hz h9).2.1, (hz h9).2.2.1] at b18; exact b18); exact (hz h9).2.2.2 k (by omega) b)⟩) (by exact ho) (by omega)
        ·
          have b18 := gb_n0 b18
          refine G.go hX 4 (bxW W H M P c1 wt rows1 gro1 wx wy mk, 25, [(0, gr 2), (1, gi fd), (2, gi i)], [gi 0, gi i, gr 2, gr 2]) rfl trivial ?_
          refine G.callV (av := [gi i, gi 0]) (o := 2) (st := [gr 2]) hX rfl (fun l D cA => c_X1_tell l D cA W H M P c1 wt rows1 gro1 wx wy mk i 0 (by first | assumption | omega) (by first | assumption | omega)) (by decide +kernel) aX1_tell rfl rfl rfl ⟨rfl, rfl⟩ (by decide) (Nat.le_of_ble_eq_true rfl) [0, 1, 2, 3, 4, 5] [] [] rfl rfl rfl (fun r w' hp => ?_)
          obtain ⟨rfl, rfl⟩ := hp
          show G X mX1_absorbRound ad 0 0 (bxW W H M P c1 wt rows1 gro1 wx wy mk, 28, [(0, gr 2), (1, gi fd), (2, gi i)], [gi (rows1 (i * 5 + 0)), gr 2])
          refine G.go hX 3 (bxW W H M P c1 wt rows1 gro1 wx wy mk, 31, [(0, gr 2), (1, gi fd), (2, gi i)], [gi 1, gi i, gr 2, gi (rows1 (i * 5 + 0)), gr 2]) rfl trivial ?_
          refine G.callV (av := [gi i, gi 1]) (o := 2) (st := [gi (rows1 (i * 5 + 0)), gr 2]) hX rfl (fun l D cA => c_X1_tell l D cA W H M P c1 wt rows1 gro1 wx wy mk i 1 (by first | assumption | omega) (by first | assumption | omega)) (by decide +kernel) aX1_tell rfl rfl rfl ⟨rfl, rfl⟩ (by decide) (Nat.le_of_ble_eq_true rfl) [0, 1, 2, 3, 4, 5] [] [] rfl rfl rfl (fun r w' hp => ?_)
          obtain ⟨rfl, rfl⟩ := hp
          show G X mX1_absorbRound ad 0 0 (bxW W H M P c1 wt rows1 gro1 wx wy mk, 34, [(0, gr 2), (1, gi fd), (2, gi i)], [gi (rows1 (i * 5 + 1)), gi (rows1 (i * 5 + 0)), gr 2])
          refine G.go hX 3 (bxW W H M P c1 wt rows1 gro1 wx wy mk, 37, [(0, gr 2), (1, gi fd), (2, gi i)], [gi 2, gi i, gr 2, gi (rows1 (i * 5 + 1)), gi (rows1 (i * 5 + 0)), gr 2]) rfl trivial ?_
          refine G.callV (av := [gi i, gi 2]) (o := 2) (st := [gi (rows1 (i * 5 + 1)), gi (rows1 (i * 5 + 0)), gr 2]) hX rfl (fun l D cA => c_X1_tell l D cA W H M P c1 wt rows1 gro1 wx wy mk i 2 (by first | assumption | omega) (by first | assumption | omega)) (by decide +kernel) aX1_tell rfl rfl rfl ⟨rfl, rfl⟩ (by decide) (Nat.le_of_ble_eq_true rfl) [0, 1, 2, 3, 4, 5] [] [] rfl rfl rfl (fun r w' hp => ?_)
          obtain ⟨rfl, rfl⟩ := hp
          show G X mX1_absorbRound ad 0 0 (bxW W H M P c1 wt rows1 gro1 wx wy mk, 40, [(0, gr 2), (1, gi fd), (2, gi i)], [gi (rows1 (i * 5 + 2)), gi (rows1 (i * 5 + 1)), gi (rows1 (i * 5 + 0)), gr 2])
          refine G.go hX 3 (bxW W H M P c1 wt rows1 gro1 wx wy mk, 43, [(0, gr 2), (1, gi fd), (2, gi i)], [gi 3, gi i, gr 2, gi (rows1 (i * 5 + 2)), gi (rows1 (i * 5 + 1)), gi (rows1 (i * 5 + 0)), gr 2]) rfl trivial ?_
          refine G.callV (av := [gi i, gi 3]) (o := 2) (st := [gi (rows1 (i * 5 + 2)), gi (rows1 (i * 5 + 1)), gi (rows1 (i * 5 + 0)), gr 2]) hX rfl (fun l D cA => c_X1_tell l D cA W H M P c1 wt rows1 gro1 wx wy mk i 3 (by first | assumption | omega) (by first | assumption | omega)) (by decide +kernel) aX1_tell rfl rfl rfl ⟨rfl, rfl⟩ (by decide) (Nat.le_of_ble_eq_true rfl) [0, 1, 2, 3, 4, 5] [] [] rfl rfl rfl (fun r w' hp => ?_)
          obtain ⟨rfl, rfl⟩ := hp
          show G X mX1_absorbRound ad 0 0 (bxW W H M P c1 wt rows1 gro1 wx wy mk, 46, [(0, gr 2), (1, gi fd), (2, gi i)], [gi (rows1 (i * 5 + 3)), gi (rows1 (i * 5 + 2)), gi (rows1 (i * 5 + 1)), gi (rows1 (i * 5 + 0)), gr 2])
          refine G.callV (av := [gi (rows1 (i * 5 + 0)), gi (rows1 (i * 5 + 1)), gi (rows1 (i * 5 + 2)), gi (rows1 (i * 5 + 3))]) (o := 2) (st := []) hX rfl (fun l D cA => c_X1_widen l D cA W H M P c1 wt rows1 gro1 wx wy mk (rows1 (i * 5 + 0)) (rows1 (i * 5 + 1)) (rows1 (i * 5 + 2)) (rows1 (i * 5 + 3)) hk1.2.2.2 (hk1.2.2.1 _) (hk1.2.2.1 _) (hk1.2.2.1 _) (hk1.2.2.1 _)) (by decide +kernel) aX1_widen rfl rfl rfl ⟨rfl, rfl⟩ (by decide) (Nat.le_of_ble_eq_true rfl) [0, 1, 2, 3, 4, 5] [] [] rfl rfl rfl (fun r w' hp => ?_)
          obtain ⟨rfl, rfl⟩ := hp
          show G X mX1_absorbRound ad 0 0 (bxW W H M P c1 wt rows1 (gwd gro1 (rows1 (i * 5 + 0)) (rows1 (i * 5 + 1)) (rows1 (i * 5 + 2)) (rows1 (i * 5 + 3))) wx wy mk, 49, [(0, gr 2), (1, gi fd), (2, gi i)], [])
          refine G.go hX 8 (bxW W H M P c1 wt rows1 (gwd gro1 (rows1 (i * 5 + 0)) (rows1 (i * 5 + 1)) (rows1 (i * 5 + 2)) (rows1 (i * 5 + 3))) wx wy mk, 59, [(0, gr 2), (1, gi fd), (2, gi i)], [gi 4, gi i, gr 2, gi ((gwd gro1 (rows1 (i * 5 + 0)) (rows1 (i * 5 + 1)) (rows1 (i * 5 + 2)) (rows1 (i * 5 + 3))) 4), gi 4, gr 8]) rfl ?_ ?_
          · refine ⟨?_, trivial⟩
            · omega
          refine G.callV (av := [gi i, gi 4]) (o := 2) (st := [gi ((gwd gro1 (rows1 (i * 5 + 0)) (rows1 (i * 5 + 1)) (rows1 (i * 5 + 2)) (rows1 (i * 5 + 3))) 4), gi 4, gr 8]) hX rfl (fun l D cA => c_X1_tell l D cA W H M P c1 wt rows1 (gwd gro1 (rows1 (i * 5 + 0)) (rows1 (i * 5 + 1)) (rows1 (i * 5 + 2)) (rows1 (i * 5 + 3))) wx wy mk i 4 (by first | assumption | omega) (by first | assumption | omega)) (by decide +kernel) aX1_tell rfl rfl rfl ⟨rfl, rfl⟩ (by decide) (Nat.le_of_ble_eq_true rfl) [0, 1, 2, 3, 4, 5] [] [] rfl rfl rfl (fun r w' hp => ?_)
          obtain ⟨rfl, rfl⟩ := hp
          show G X mX1_absorbRound ad 0 0 (bxW W H M P c1 wt rows1 (gwd gro1 (rows1 (i * 5 + 0)) (rows1 (i * 5 + 1)) (rows1 (i * 5 + 2)) (rows1 (i * 5 + 3))) wx wy mk, 62, [(0, gr 2), (1, gi fd), (2, gi i)], [gi (rows1 (i * 5 + 4)), gi ((gwd gro1 (rows1 (i * 5 + 0)) (rows1 (i * 5 + 1)) (rows1 (i * 5 + 2)) (rows1 (i * 5 + 3))) 4), gi 4, gr 8])
          refine G.go hX 20 (bxW W H M P (c1 - 1) wt rows1 (gu (gwd gro1 (rows1 (i * 5 + 0)) (rows1 (i * 5 + 1)) (rows1 (i * 5 + 2)) (rows1 (i * 5 + 3))) 4 (((gwd gro1 (rows1 (i * 5 + 0)) (rows1 (i * 5 + 1)) (rows1 (i * 5 + 2)) (rows1 (i * 5 + 3))) 4) + (rows1 (i * 5 + 4)))) wx wy mk, 92, [(0, gr 2), (1, gi fd), (2, gi i)], [gi 5, gi (i * 5), gr 7, gi ((c1 - 1) * 5), gr 7]) rfl ?_ ?_
          · refine ⟨?_, trivial⟩
            · omega
          refine g_copy hX rfl (by decide +kernel) ⟨by decide, Nat.le_of_ble_eq_true rfl⟩ rfl rfl (by omega) ?_
          show G X mX1_absorbRound ad 0 0 (bxW W H M P (c1 - 1) wt (gcp rows1 rows1 ((c1 - 1) * 5) (i * 5) 5) (gu (gwd gro1 (rows1 (i * 5 + 0)) (rows1 (i * 5 + 1)) (rows1 (i * 5 + 2)) (rows1 (i * 5 + 3))) 4 (((gwd gro1 (rows1 (i * 5 + 0)) (rows1 (i * 5 + 1)) (rows1 (i * 5 + 2)) (rows1 (i * 5 + 3))) 4) + (rows1 (i * 5 + 4)))) wx wy mk, 95, [(0, gr 2), (1, gi fd), (2, gi i)], [])
          refine G.go hX 4 (bxW W H M P (c1 - 1) wt (gcp rows1 rows1 ((c1 - 1) * 5) (i * 5) 5) (gu (gwd gro1 (rows1 (i * 5 + 0)) (rows1 (i * 5 + 1)) (rows1 (i * 5 + 2)) (rows1 (i * 5 + 3))) 4 (((gwd gro1 (rows1 (i * 5 + 0)) (rows1 (i * 5 + 1)) (rows1 (i * 5 + 2)) (rows1 (i * 5 + 3))) 4) + (rows1 (i * 5 + 4)))) wx wy mk, 9, [(0, gr 2), (1, gi 1), (2, gi (i + (-1)))], []) rfl trivial ?_
          exact ih9 1 (i + (-1)) (c1 - 1) (gcp rows1 rows1 ((c1 - 1) * 5) (i * 5) 5) (gu (gwd gro1 (rows1 (i * 5 + 0)) (rows1 (i * 5 + 1)) (rows1 (i * 5 + 2)) (rows1 (i * 5 + 3))) 4 (((gwd gro1 (rows1 (i * 5 + 0)) (rows1 (i * 5 + 1)) (rows1 (i * 5 + 2)) (rows1 (i * 5 + 3))) 4) + (rows1 (i * 5 + 4)))) (by exact hst _ _ _ _ hF1 (by omega) (by omega) (by assumption)) (by exact Or.inr rfl) (by omega) (by intro h9; omega) (by intro _; rcases hfd with h9 | h9; (have := (hz h9).1; omega); (have := ho h9; omega)) (by omega)
  exact lp9 _ 0 (c - 1) c rows gro (by exact hF) (by exact Or.inl rfl) (by omega) (by exact fun _ => ⟨rfl, rfl, rfl, fun k a b => by omega⟩) (by intro h9; omega) (Nat.lt_succ_self _)
set_option maxHeartbeats 4000000 in
set_option maxRecDepth 100000 in
theorem c_X1_absorbAll (l : Launch) (D : va_G) (cA : Nat → ClassId) (W : Nat) (H : Nat) (M : Nat) (P : Nat) (c : Int) (wt : Int) (rows : Int → Int) (gro : Int → Int) (wx : Int → Int) (wy : Int → Int) (mk : Int → Int) (F : Int → (Int → Int) → (Int → Int) → Prop) (hM : M ≤ 256) (hst : ∀ (c : Int) (rows gro : Int → Int) (i : Int), F c rows gro → 0 ≤ i → i < c → gsh gro rows i → F (c - 1) (gcp rows rows ((c - 1) * 5) (i * 5) 5) (gab gro rows i)) (hok : ∀ (c : Int) (rows gro : Int → Int), F c rows gro → 0 ≤ c ∧ c ≤ M ∧ (∀ j : Int, inR (rows j)) ∧ (∀ j : Int, inR (gro j))) (hF : F c rows gro) :
    gC l D cA yX1_absorbAll mX1_absorbAll none 0 0 [gr 2] (bxW W H M P c wt rows gro wx wy mk) (fun r9 w9 => ∃ (c2 : Int) (rows2 : Int → Int) (gro2 : Int → Int), r9 = none ∧ w9 = bxW W H M P c2 wt rows2 gro2 wx wy mk ∧ (F c2 rows2 gro2) ∧ (∀ k : Int, 0 ≤ k → k < c2 → ¬ gsh gro2 rows2 k)) := by
  have hcc := hok _ _ _ hF
  refine gC_of rfl kX1_absorbAll rfl rfl (Nat.le_of_ble_eq_true rfl) (fun X ad hX hE => ?_)
  refine G.go hX 4 (bxW W H M P c wt rows gro wx wy mk, 4, [(0, gr 2), (1, gi 1), (2, gi 0)], []) rfl trivial ?_
  have lp4 : ∀ (n : Nat) (ag : Int) (rd : Int) (c1 : Int) (rows1 : Int → Int) (gro1 : Int → Int), (F c1 rows1 gro1) → (ag = 0 ∨ ag = 1) → (0 ≤ rd ∧ rd ≤ M + 1) → (ag = 0 → ∀ k : Int, 0 ≤ k → k < c1 → ¬ gsh gro1 rows1 k) → (ag = 1 → c1 + rd ≤ M) → (M + 2 - rd).toNat < n → G X mX1_absorbAll ad 0 0 (bxW W H M P c1 wt rows1 gro1 wx wy mk, 4, [(0, gr 2), (1, gi ag), (2, gi rd)], []) := by
    intro n
    induction n with
    | zero => intro ag rd c1 rows1 gro1 hF1 hag hrd hz ho hm9; exact absurd hm9 (Nat.not_lt_zero _)
    | succ n ih4 =>
      intro ag rd c1 rows1 gro1 hF1 hag hrd hz ho hm4
      have hk1 := hok _ _ _ hF1
      refine G.go hX 1 (bxW W H M P c1 wt rows1 gro1 wx wy mk, 5, [(0, gr 2), (1, gi ag), (2, gi rd)], [gi ag]) rfl trivial ?_
      refine g_if_eq hX 27 rfl rfl ⟨by omega, by omega⟩ (fun b5 => ?_) (fun b5 => ?_)
      ·
        exact g_vret hX hE rfl ⟨c1, rows1, gro1, rfl, rfl, hF1, by (rcases hag with h9 | h9; exact hz h9; (have := ho h9; exfalso; omega))⟩
      ·
        refine G.go hX 3 (bxW W H M P c1 wt rows1 gro1 wx wy mk, 13, [(0, gr 2), (1, gi ag), (2, gi rd)], [gi M, gi rd]) rfl trivial ?_
        refine g_icmp_gt hX 27 rfl rfl ⟨by omega, by omega⟩ ⟨by omega, by omega⟩ (fun b13 => ?_) (fun b13 => ?_)
        ·
          exact g_vret hX hE rfl ⟨c1, rows1, gro1, rfl, rfl, hF1, by (rcases hag with h9 | h9; exact hz h9; (have := ho h9; exfalso; omega))⟩
        ·
          refine G.go hX 1 (bxW W H M P c1 wt rows1 gro1 wx wy mk, 17, [(0, gr 2), (1, gi ag), (2, gi rd)], [gr 2]) rfl trivial ?_
          refine G.callV (av := []) (o := 2) (st := []) hX rfl (fun l D cA => c_X1_absorbRound l D cA W H M P c1 wt rows1 gro1 wx wy mk F (by first | assumption | omega) (by first | assumption | omega) (by first | assumption | omega) (by first | assumption | omega)) (by decide +kernel) aX1_absorbRound rfl rfl rfl ⟨rfl, rfl⟩ (by decide) (Nat.le_of_ble_eq_true rfl) [0, 1, 2, 3, 4, 5] [] [] rfl rfl rfl (fun r w' hp => ?_)
          obtain ⟨fd3, c3, rows3, gro3, rfl, rfl, hp1, hp2, hp3, hp4⟩ := hp
          show G X mX1_absorbAll ad 0 0 (bxW W H M P c3 wt rows3 gro3 wx wy mk, 20, [(0, gr 2), (1, gi ag), (2, gi rd)], [gi fd3])
          refine G.go hX 3 (bxW W H M P c3 wt rows3 gro3 wx wy mk, 4, [(0, gr 2), (1, gi fd3), (2, gi (rd + 1))], []) rfl trivial ?_
          exact ih4 fd3 (rd + 1) c3 rows3 gro3 (by exact hp2) (by exact hp1) (by omega) (by exact fun h9 => by (obtain ⟨e1, e2, e3, e4⟩ := hp3 h9; subst e1 e2 e3; exact e4)) (by intro h9; have := hp4 h9; have := ho (by omega); omega) (by omega)
  exact lp4 _ 1 0 c rows gro (by exact hF) (by exact Or.inr rfl) (by omega) (by intro h9; omega) (by intro _; omega) (Nat.lt_succ_self _)
set_option maxHeartbeats 4000000 in
set_option maxRecDepth 100000 in
theorem c_X1_sort (l : Launch) (D : va_G) (cA : Nat → ClassId) (W : Nat) (H : Nat) (M : Nat) (P : Nat) (c : Int) (wt : Int) (rows : Int → Int) (gro : Int → Int) (wx : Int → Int) (wy : Int → Int) (mk : Int → Int) (F : (Int → Int) → Prop) (hM : M ≤ 256) (hc : 0 ≤ c ∧ c ≤ M) (hst : ∀ (rows : Int → Int) (i j : Int), F rows → 0 ≤ i → i < c → 0 ≤ j → j < c → i ≠ j → F (gswn rows i j 5)) (hok : ∀ rows : Int → Int, F rows → ∀ j : Int, inR (rows j)) (hF : F rows) :
    gC l D cA yX1_sort mX1_sort none 0 0 [gr 2] (bxW W H M P c wt rows gro wx wy mk) (fun r9 w9 => ∃ (rows2 : Int → Int), r9 = none ∧ w9 = bxW W H M P c wt rows2 gro wx wy mk ∧ (F rows2) ∧ (gSI rows2 (c - 1) (-1))) := by
  refine gC_of rfl kX1_sort rfl rfl (Nat.le_of_ble_eq_true rfl) (fun X ad hX hE => ?_)
  refine G.go hX 2 (bxW W H M P c wt rows gro wx wy mk, 2, [(0, gr 2), (1, gi 1)], []) rfl trivial ?_
  have lp2 : ∀ (n : Nat) (i : Int) (rows1 : Int → Int), (F rows1) → (1 ≤ i ∧ (i ≤ c ∨ i = 1)) → (gSI rows1 (i - 1) (-1)) → (c + 1 - i).toNat < n → G X mX1_sort ad 0 0 (bxW W H M P c wt rows1 gro wx wy mk, 2, [(0, gr 2), (1, gi i)], []) := by
    intro n
    induction n with
    | zero => intro i rows1 hF1 hi1 hs1 hm9; exact absurd hm9 (Nat.not_lt_zero _)
    | succ n ih2 =>
      intro i rows1 hF1 hi1 hs1 hm2
      refine G.go hX 3 (bxW W H M P c wt rows1 gro wx wy mk, 7, [(0, gr 2), (1, gi i)], [gi c, gi i]) rfl trivial ?_
      refine g_icmp_ge hX 47 rfl rfl ⟨by omega, by omega⟩ ⟨by omega, by omega⟩ (fun b7 => ?_) (fun b7 => ?_)
      ·
        exact g_vret hX hE rfl ⟨rows1, rfl, rfl, hF1, fun a b h0 h1 h2 h3 => hs1 a b h0 h1 (by omega) h3⟩
      ·
        refine G.go hX 2 (bxW W H M P c wt rows1 gro wx wy mk, 12, [(0, gr 2), (1, gi i), (2, gi i)], []) rfl trivial ?_
        have lp12 : ∀ (n : Nat) (j : Int) (rows3 : Int → Int), (F rows3) → (0 ≤ j ∧ j ≤ i) → (gSI rows3 i j) → j.toNat < n → G X mX1_sort ad 0 0 (bxW W H M P c wt rows3 gro wx wy mk, 12, [(0, gr 2), (1, gi i), (2, gi j)], []) := by
          intro n
          induction n with
          | zero => intro j rows3 hF3 hj hs3 hm9; exact absurd hm9 (Nat.not_lt_zero _)
          | succ n ih12 =>
            intro j rows3 hF3 hj hs3 hm12
            refine G.go hX 1 (bxW W H M P c wt rows3 gro wx wy mk, 13, [(0, gr 2), (1, gi i), (2, gi j)], [gi j]) rfl trivial ?_
            refine g_if_le hX 41 rfl rfl ⟨by omega, by omega⟩ (fun b13 => ?_) (fun b13 => ?_)
            ·
              refine G.go hX 2 (bxW W H M P c wt rows3 gro wx wy mk, 2, [(0, gr 2), (1, gi (i + 1)), (2, gi j)], []) rfl trivial ?_
              refine G.locs [(0, gr 2), (1, gi (i + 1))] [0, 1] rfl ?_
              exact ih2 (i + 1) rows3 (by exact hF3) (by omega) (by rw [show i + 1 - 1 = i by omega]; exact gSI_end hs3 (by first | exact Or.inl (by omega) | exact Or.inr (by assumption))) (by omega)
            ·
              refine G.go hX 5 (bxW W H M P c wt rows3 gro wx wy mk, 21, [(0, gr 2), (1, gi i), (2, gi j)], [gi (j - 1), gi j, gr 2]) rfl trivial ?_
              refine G.callV (av := [gi j, gi (j - 1)]) (o := 2) (st := []) hX rfl (fun l D cA => c_X1_comesBefore l D cA W H M P c wt rows3 gro wx wy mk j (j - 1) (by first | assumption | omega) (by first | assumption | omega) (by first | assumption | omega) (hok _ hF3)) (by decide +kernel) aX1_comesBefore rfl rfl rfl ⟨rfl, rfl⟩ (by decide) (Nat.le_of_ble_eq_true rfl) [0, 1, 2, 3, 4, 5] [] [] rfl rfl rfl (fun r w' hp => ?_)
              obtain ⟨rfl, rfl⟩ := hp
              show G X mX1_sort ad 0 0 (bxW W H M P c wt rows3 gro wx wy mk, 24, [(0, gr 2), (1, gi i), (2, gi j)], [gi (gb (gbf rows3 j (j - 1)))])
              refine g_if_eq hX 41 rfl rfl (gb_r _) (fun b24 => ?_) (fun b24 => ?_)
              ·
                have b24 := gb_0.mp b24
                refine G.go hX 2 (bxW W H M P c wt rows3 gro wx wy mk, 2, [(0, gr 2), (1, gi (i + 1)), (2, gi j)], []) rfl trivial ?_
                refine G.locs [(0, gr 2), (1, gi (i + 1))] [0, 1] rfl ?_
                exact ih2 (i + 1) rows3 (by exact hF3) (by omega) (by rw [show i + 1 - 1 = i by omega]; exact gSI_end hs3 (by first | exact Or.inl (by omega) | exact Or.inr (by assumption))) (by omega)
              ·
                have b24 := gb_n0 b24
                refine G.go hX 5 (bxW W H M P c wt rows3 gro wx wy mk, 32, [(0, gr 2), (1, gi i), (2, gi j)], [gi (j - 1), gi j, gr 2]) rfl trivial ?_
                refine G.callV (av := [gi j, gi (j - 1)]) (o := 2) (st := []) hX rfl (fun l D cA => c_X1_swap l D cA W H M P c wt rows3 gro wx wy mk j (j - 1) (by first | assumption | omega) (by first | assumption | omega) (by first | assumption | omega) (by first | assumption | omega)) (by decide +kernel) aX1_swap rfl rfl rfl ⟨rfl, rfl⟩ (by decide) (Nat.le_of_ble_eq_true rfl) [0, 1, 2, 3, 4, 5] [] [] rfl rfl rfl (fun r w' hp => ?_)
                obtain ⟨rfl, rfl⟩ := hp
                show G X mX1_sort ad 0 0 (bxW W H M P c wt (gswn rows3 j (j - 1) 5) gro wx wy mk, 35, [(0, gr 2), (1, gi i), (2, gi j)], [])
                refine G.go hX 2 (bxW W H M P c wt (gswn rows3 j (j - 1) 5) gro wx wy mk, 12, [(0, gr 2), (1, gi i), (2, gi (j + (-1)))], []) rfl trivial ?_
                exact ih12 (j + (-1)) (gswn rows3 j (j - 1) 5) (by exact hst _ _ _ hF3 (by omega) (by omega) (by omega) (by omega) (by omega)) (by omega) (by exact gSI_swap hs3 (by omega) (by omega) (by assumption)) (by omega)
        exact lp12 _ i rows1 (by exact hF1) (by omega) (by have := gSI_next hs1; rw [show i - 1 + 1 = i by omega] at this; exact this) (Nat.lt_succ_self _)
  exact lp2 _ 1 rows (by exact hF) (by omega) (by intro a b h0 h1 h2 h3; omega) (Nat.lt_succ_self _)
set_option maxHeartbeats 4000000 in
set_option maxRecDepth 100000 in
theorem c_X1_mostPlaces (l : Launch) (D : va_G) (cA : Nat → ClassId) (W : Nat) (H : Nat) (M : Nat) (P : Nat) (c : Int) (wt : Int) (rows : Int → Int) (gro : Int → Int) (wx : Int → Int) (wy : Int → Int) (mk : Int → Int) (hM : M ≤ 256) (hc : 0 ≤ c ∧ c ≤ M) (hb : ∀ i : Int, 0 ≤ i → i < c → 0 ≤ rows (i * 5 + 0) ∧ rows (i * 5 + 0) ≤ rows (i * 5 + 2) ∧ rows (i * 5 + 2) ≤ 31 ∧ 0 ≤ rows (i * 5 + 1) ∧ rows (i * 5 + 1) ≤ rows (i * 5 + 3) ∧ rows (i * 5 + 3) ≤ 31) :
    gC l D cA yX1_mostPlaces mX1_mostPlaces (some .int) 0 0 [gr 2] (bxW W H M P c wt rows gro wx wy mk) (fun r9 w9 => r9 = some (gi (gmx (fun i => (rows (i * 5 + 2) - rows (i * 5 + 0) + 1) * (rows (i * 5 + 3) - rows (i * 5 + 1) + 1)) c.toNat)) ∧ w9 = bxW W H M P c wt rows gro wx wy mk) := by
  refine gC_of rfl kX1_mostPlaces rfl rfl (Nat.le_of_ble_eq_true rfl) (fun X ad hX hE => ?_)
  refine G.go hX 4 (bxW W H M P c wt rows gro wx wy mk, 4, [(0, gr 2), (1, gi 0), (2, gi 0)], []) rfl trivial ?_
  have lp4 : ∀ (n : Nat) (lg : Int) (i : Int), (0 ≤ i ∧ i ≤ c) → (lg = gmx (fun i => (rows (i * 5 + 2) - rows (i * 5 + 0) + 1) * (rows (i * 5 + 3) - rows (i * 5 + 1) + 1)) i.toNat) → (0 ≤ lg ∧ lg ≤ 1024) → (c - i).toNat < n → G X mX1_mostPlaces ad 0 0 (bxW W H M P c wt rows gro wx wy mk, 4, [(0, gr 2), (1, gi lg), (2, gi i)], []) := by
    intro n
    induction n with
    | zero => intro lg i hi1 hlg hlb hm9; exact absurd hm9 (Nat.not_lt_zero _)
    | succ n ih4 =>
      intro lg i hi1 hlg hlb hm4
      refine G.go hX 3 (bxW W H M P c wt rows gro wx wy mk, 9, [(0, gr 2), (1, gi lg), (2, gi i)], [gi c, gi i]) rfl trivial ?_
      refine g_icmp_ge hX 60 rfl rfl ⟨by omega, by omega⟩ ⟨by omega, by omega⟩ (fun b9 => ?_) (fun b9 => ?_)
      ·
        refine G.go hX 1 (bxW W H M P c wt rows gro wx wy mk, 61, [(0, gr 2), (1, gi lg), (2, gi i)], [gi lg]) rfl trivial ?_
        exact g_iret hX hE rfl ⟨(congrArg (fun z => some (gi z)) (by first | rfl | (rw [hlg, show i = c by omega]))), rfl⟩
      ·
        have hbi := hb i (by omega) (by omega)
        have hmu := gmul_le (a := rows (i * 5 + 2) - rows (i * 5 + 0) + 1) (b := rows (i * 5 + 3) - rows (i * 5 + 1) + 1) (c := 32) (d := 32) (by omega) (by omega) (by omega) (by omega)
        refine G.go hX 3 (bxW W H M P c wt rows gro wx wy mk, 15, [(0, gr 2), (1, gi lg), (2, gi i)], [gi 2, gi i, gr 2]) rfl trivial ?_
        refine G.callV (av := [gi i, gi 2]) (o := 2) (st := []) hX rfl (fun l D cA => c_X1_tell l D cA W H M P c wt rows gro wx wy mk i 2 (by first | assumption | omega) (by first | assumption | omega)) (by decide +kernel) aX1_tell rfl rfl rfl ⟨rfl, rfl⟩ (by decide) (Nat.le_of_ble_eq_true rfl) [0, 1, 2, 3, 4, 5] [] [] rfl rfl rfl (fun r w' hp => ?_)
        obtain ⟨rfl, rfl⟩ := hp
        show G X mX1_mostPlaces ad 0 0 (bxW W H M P c wt rows gro wx wy mk, 18, [(0, gr 2), (1, gi lg), (2, gi i)], [gi (rows (i * 5 + 2))])
        refine G.go hX 3 (bxW W H M P c wt rows gro wx wy mk, 21, [(0, gr 2), (1, gi lg), (2, gi i)], [gi 0, gi i, gr 2, gi (rows (i * 5 + 2))]) rfl trivial ?_
        refine G.callV (av := [gi i, gi 0]) (o := 2) (st := [gi (rows (i * 5 + 2))]) hX rfl (fun l D cA => c_X1_tell l D cA W H M P c wt rows gro wx wy mk i 0 (by first | assumption | omega) (by first | assumption | omega)) (by decide +kernel) aX1_tell rfl rfl rfl ⟨rfl, rfl⟩ (by decide) (Nat.le_of_ble_eq_true rfl) [0, 1, 2, 3, 4, 5] [] [] rfl rfl rfl (fun r w' hp => ?_)
        obtain ⟨rfl, rfl⟩ := hp
        show G X mX1_mostPlaces ad 0 0 (bxW W H M P c wt rows gro wx wy mk, 24, [(0, gr 2), (1, gi lg), (2, gi i)], [gi (rows (i * 5 + 0)), gi (rows (i * 5 + 2))])
        refine G.go hX 7 (bxW W H M P c wt rows gro wx wy mk, 31, [(0, gr 2), (1, gi lg), (2, gi i), (3, gi (((rows (i * 5 + 2)) - (rows (i * 5 + 0))) + 1))], [gi 3, gi i, gr 2]) rfl trivial ?_
        refine G.callV (av := [gi i, gi 3]) (o := 2) (st := []) hX rfl (fun l D cA => c_X1_tell l D cA W H M P c wt rows gro wx wy mk i 3 (by first | assumption | omega) (by first | assumption | omega)) (by decide +kernel) aX1_tell rfl rfl rfl ⟨rfl, rfl⟩ (by decide) (Nat.le_of_ble_eq_true rfl) [0, 1, 2, 3, 4, 5] [] [] rfl rfl rfl (fun r w' hp => ?_)
        obtain ⟨rfl, rfl⟩ := hp
        show G X mX1_mostPlaces ad 0 0 (bxW W H M P c wt rows gro wx wy mk, 34, [(0, gr 2), (1, gi lg), (2, gi i), (3, gi (((rows (i * 5 + 2)) - (rows (i * 5 + 0))) + 1))], [gi (rows (i * 5 + 3))])
        refine G.go hX 3 (bxW W H M P c wt rows gro wx wy mk, 37, [(0, gr 2), (1, gi lg), (2, gi i), (3, gi (((rows (i * 5 + 2)) - (rows (i * 5 + 0))) + 1))], [gi 1, gi i, gr 2, gi (rows (i * 5 + 3))]) rfl trivial ?_
        refine G.callV (av := [gi i, gi 1]) (o := 2) (st := [gi (rows (i * 5 + 3))]) hX rfl (fun l D cA => c_X1_tell l D cA W H M P c wt rows gro wx wy mk i 1 (by first | assumption | omega) (by first | assumption | omega)) (by decide +kernel) aX1_tell rfl rfl rfl ⟨rfl, rfl⟩ (by decide) (Nat.le_of_ble_eq_true rfl) [0, 1, 2, 3, 4, 5] [] [] rfl rfl rfl (fun r w' hp => ?_)
        obtain ⟨rfl, rfl⟩ := hp
        show G X mX1_mostPlaces ad 0 0 (bxW W H M P c wt rows gro wx wy mk, 40, [(0, gr 2), (1, gi lg), (2, gi i), (3, gi (((rows (i * 5 + 2)) - (rows (i * 5 + 0))) + 1))], [gi (rows (i * 5 + 1)), gi (rows (i * 5 + 3))])
        refine G.go hX 8 (bxW W H M P c wt rows gro wx wy mk, 50, [(0, gr 2), (1, gi lg), (2, gi i), (3, gi (((rows (i * 5 + 2)) - (rows (i * 5 + 0))) + 1)), (4, gi (((rows (i * 5 + 3)) - (rows (i * 5 + 1))) + 1))], [gi ((((rows (i * 5 + 2)) - (rows (i * 5 + 0))) + 1) * (((rows (i * 5 + 3)) - (rows (i * 5 + 1))) + 1)), gi lg]) rfl trivial ?_
        refine g_mmax hX rfl (by decide +kernel) ⟨⟨by decide, Nat.le_of_ble_eq_true rfl⟩, by decide, by decide⟩ ⟨by omega, by omega⟩ ⟨by omega, by omega⟩ ?_
        show G X mX1_mostPlaces ad 0 0 (bxW W H M P c wt rows gro wx wy mk, 53, [(0, gr 2), (1, gi lg), (2, gi i), (3, gi (((rows (i * 5 + 2)) - (rows (i * 5 + 0))) + 1)), (4, gi (((rows (i * 5 + 3)) - (rows (i * 5 + 1))) + 1))], [gi (max lg ((((rows (i * 5 + 2)) - (rows (i * 5 + 0))) + 1) * (((rows (i * 5 + 3)) - (rows (i * 5 + 1))) + 1)))])
        refine G.go hX 3 (bxW W H M P c wt rows gro wx wy mk, 4, [(0, gr 2), (1, gi (max lg ((((rows (i * 5 + 2)) - (rows (i * 5 + 0))) + 1) * (((rows (i * 5 + 3)) - (rows (i * 5 + 1))) + 1)))), (2, gi (i + 1)), (3, gi (((rows (i * 5 + 2)) - (rows (i * 5 + 0))) + 1)), (4, gi (((rows (i * 5 + 3)) - (rows (i * 5 + 1))) + 1))], []) rfl trivial ?_
        refine G.locs [(0, gr 2), (1, gi (max lg ((((rows (i * 5 + 2)) - (rows (i * 5 + 0))) + 1) * (((rows (i * 5 + 3)) - (rows (i * 5 + 1))) + 1)))), (2, gi (i + 1))] [0, 1, 2] rfl ?_
        exact ih4 (max lg ((((rows (i * 5 + 2)) - (rows (i * 5 + 0))) + 1) * (((rows (i * 5 + 3)) - (rows (i * 5 + 1))) + 1))) (i + 1) (by omega) (by rw [hlg, show (i + 1).toNat = i.toNat + 1 by omega]; show _ = max _ _; rw [show ((i.toNat : Nat) : Int) = i by omega]) (by omega) (by omega)
  exact lp4 _ 0 0 (by omega) (by rfl) (by omega) (Nat.lt_succ_self _)
end
section
set_option maxHeartbeats 4000000 in
set_option maxRecDepth 100000 in
theorem c_X1_growFrom (l : Launch) (D : va_G) (cA : Nat → ClassId) (W : Nat) (H : Nat) (M : Nat) (P : Nat) (c : Int) (wt : Int) (rows : Int → Int) (gro : Int → Int) (wx : Int → Int) (wy : Int → Int) (mk : Int → Int) (x : Int) (y : Int) (r : Int) (hW : W ≤ 32) (hH : H ≤ 32) (hP : P = W * H) (hPl : P ≤ 1024) (hx : 0 ≤ x ∧ x < W) (hy : 0 ≤ y ∧ y < H) (hr : 0 ≤ r ∧ r ≤ 3) (hbm : ∀ q, mk q = 0 ∨ mk q = 1) (hm : mk (y * W + x) = 1) (hgr : ∀ j : Int, inR (gro j)) :
    gC l D cA yX1_growFrom mX1_growFrom none 0 0 [gr 2, gi x, gi y, gr 6, gi r] (bxW W H M P c wt rows gro wx wy mk) (fun r9 w9 => ∃ (gro2 : Int → Int) (mk2 : Int → Int) (wt2 : Int) (wx2 : Int → Int) (wy2 : Int → Int), r9 = none ∧ w9 = bxW W H M P c wt2 rows gro2 wx2 wy2 mk2 ∧ (gGr W H P x y r mk gro2 mk2 wt2 wx2 wy2) ∧ (gro2 4 = wt2) ∧ (∀ j : Int, inR (gro2 j)) ∧ (wt2 ≤ P)) := by
  have hix := gix hP hx.1 hx.2 hy.1 hy.2
  refine gC_of rfl kX1_growFrom rfl rfl (Nat.le_of_ble_eq_true rfl) (fun X ad hX hE => ?_)
  refine G.go hX 27 (bxW W H M P c 0 rows (gu (gu (gu (gu gro 0 x) 1 y) 2 x) 3 y) wx wy mk, 37, [(0, gr 2), (1, gi x), (2, gi y), (3, gr 6), (4, gi r)], [gr 6, gi y, gi x, gr 2]) rfl ?_ ?_
  · refine ⟨?_, ?_, ?_, ?_, trivial⟩
    · omega
    · omega
    · omega
    · omega
  refine G.callV (av := [gi x, gi y, gr 6]) (o := 2) (st := []) hX rfl (fun l D cA => c_X1_take l D cA W H M P c 0 rows (gu (gu (gu (gu gro 0 x) 1 y) 2 x) 3 y) wx wy mk x y hix (by first | assumption | omega) ⟨by omega, by omega⟩) (by decide +kernel) aX1_take rfl rfl rfl ⟨rfl, rfl⟩ (by decide) (Nat.le_of_ble_eq_true rfl) [0, 1, 2, 3, 4, 5] [] [] rfl rfl rfl (fun r w' hp => ?_)
  obtain ⟨rfl, rfl⟩ := hp
  show G X mX1_growFrom ad 0 0 (bxW W H M P c (0 + 1) rows (gu (gu (gu (gu gro 0 x) 1 y) 2 x) 3 y) (gu wx 0 x) (gu wy 0 y) (gu mk (y * W + x) 0), 40, [(0, gr 2), (1, gi x), (2, gi y), (3, gr 6), (4, gi r)], [])
  refine G.go hX 2 (bxW W H M P c (0 + 1) rows (gu (gu (gu (gu gro 0 x) 1 y) 2 x) 3 y) (gu wx 0 x) (gu wy 0 y) (gu mk (y * W + x) 0), 43, [(0, gr 2), (1, gi x), (2, gi y), (3, gr 6), (4, gi r), (5, gi 0)], []) rfl trivial ?_
  have lp43 : ∀ (n : Nat) (i : Int) (gro1 : Int → Int) (mk1 : Int → Int) (wt1 : Int) (wx1 : Int → Int) (wy1 : Int → Int), (gLI W H P x y r mk gro1 mk1 wt1 wx1 wy1 i) → (P - i).toNat < n → G X mX1_growFrom ad 0 0 (bxW W H M P c wt1 rows gro1 wx1 wy1 mk1, 43, [(0, gr 2), (1, gi x), (2, gi y), (3, gr 6), (4, gi r), (5, gi i)], []) := by
    intro n
    induction n with
    | zero => intro i gro1 mk1 wt1 wx1 wy1 hL hm9; exact absurd hm9 (Nat.not_lt_zero _)
    | succ n ih43 =>
      intro i gro1 mk1 wt1 wx1 wy1 hL hm43
      have hle := gLI_le hbm hL
      have hi9 := hL.2.1
      refine G.go hX 4 (bxW W H M P c wt1 rows gro1 wx1 wy1 mk1, 50, [(0, gr 2), (1, gi x), (2, gi y), (3, gr 6), (4, gi r), (5, gi i)], [gi ((P : Nat) : Int), gi i]) rfl trivial ?_
      refine g_icmp_ge hX 121 rfl rfl ⟨by omega, by omega⟩ ⟨by omega, by omega⟩ (fun b50 => ?_) (fun b50 => ?_)
      ·
        refine G.go hX 6 (bxW W H M P c wt1 rows (gu gro1 4 wt1) wx1 wy1 mk1, 131, [(0, gr 2), (1, gi x), (2, gi y), (3, gr 6), (4, gi r), (5, gi i)], []) rfl ?_ ?_
        · refine ⟨?_, trivial⟩
          · omega
        exact g_vret hX hE rfl ⟨_, mk1, wt1, wx1, wy1, rfl, rfl, gLI_end hL (by omega), gu_s _ _ _, gu_r hL.2.2.2.2.2 ⟨by omega, by omega⟩, hle.2⟩
      ·
        refine G.go hX 3 (bxW W H M P c wt1 rows gro1 wx1 wy1 mk1, 59, [(0, gr 2), (1, gi x), (2, gi y), (3, gr 6), (4, gi r), (5, gi i)], [gi wt1, gi i]) rfl trivial ?_
        refine g_icmp_ge hX 121 rfl rfl ⟨by omega, by omega⟩ ⟨by omega, by omega⟩ (fun b59 => ?_) (fun b59 => ?_)
        ·
          refine G.go hX 6 (bxW W H M P c wt1 rows (gu gro1 4 wt1) wx1 wy1 mk1, 131, [(0, gr 2), (1, gi x), (2, gi y), (3, gr 6), (4, gi r), (5, gi i)], []) rfl ?_ ?_
          · refine ⟨?_, trivial⟩
            · omega
          exact g_vret hX hE rfl ⟨_, mk1, wt1, wx1, wy1, rfl, rfl, gLI_end hL (by omega), gu_s _ _ _, gu_r hL.2.2.2.2.2 ⟨by omega, by omega⟩, hle.2⟩
        ·
          have hxi := hL.1.2.2.2.1 i (by omega) (by omega)
          refine G.go hX 17 (bxW W H M P c wt1 rows gro1 wx1 wy1 mk1, 91, [(0, gr 2), (1, gi x), (2, gi y), (3, gr 6), (4, gi r), (5, gi i)], [gi (wy1 i), gi (wx1 i), gi (wy1 i), gi (wx1 i), gr 2]) rfl ?_ ?_
          · refine ⟨?_, ?_, ?_, ?_, trivial⟩
            · omega
            · omega
            · omega
            · omega
          refine G.callV (av := [gi (wx1 i), gi (wy1 i), gi (wx1 i), gi (wy1 i)]) (o := 2) (st := []) hX rfl (fun l D cA => c_X1_widen l D cA W H M P c wt1 rows gro1 wx1 wy1 mk1 (wx1 i) (wy1 i) (wx1 i) (wy1 i) hL.2.2.2.2.2 ⟨by omega, by omega⟩ ⟨by omega, by omega⟩ ⟨by omega, by omega⟩ ⟨by omega, by omega⟩) (by decide +kernel) aX1_widen rfl rfl rfl ⟨rfl, rfl⟩ (by decide) (Nat.le_of_ble_eq_true rfl) [0, 1, 2, 3, 4, 5] [] [] rfl rfl rfl (fun r w' hp => ?_)
          obtain ⟨rfl, rfl⟩ := hp
          show G X mX1_growFrom ad 0 0 (bxW W H M P c wt1 rows (gwd gro1 (wx1 i) (wy1 i) (wx1 i) (wy1 i)) wx1 wy1 mk1, 94, [(0, gr 2), (1, gi x), (2, gi y), (3, gr 6), (4, gi r), (5, gi i)], [])
          refine G.go hX 11 (bxW W H M P c wt1 rows (gwd gro1 (wx1 i) (wy1 i) (wx1 i) (wy1 i)) wx1 wy1 mk1, 112, [(0, gr 2), (1, gi x), (2, gi y), (3, gr 6), (4, gi r), (5, gi i)], [gi r, gr 6, gi (wy1 i), gi (wx1 i), gr 2]) rfl ?_ ?_
          · refine ⟨?_, ?_, trivial⟩
            · omega
            · omega
          refine G.callV (av := [gi (wx1 i), gi (wy1 i), gr 6, gi r]) (o := 2) (st := []) hX rfl (fun l D cA => c_X1_takeAround l D cA W H M P c wt1 rows (gwd gro1 (wx1 i) (wy1 i) (wx1 i) (wy1 i)) wx1 wy1 mk1 (wx1 i) (wy1 i) r (gF1 W H P x y r mk mk1 wt1 wx1 wy1) (by first | assumption | omega) (by first | assumption | omega) (by first | assumption | omega) (by first | assumption | omega) ⟨by omega, by omega⟩ ⟨by omega, by omega⟩ (by first | assumption | omega) (gF1_st hP (by omega) (by omega)) (gF1_ok hbm) ⟨hL.1, by omega, fun _ _ _ => ⟨rfl, rfl⟩, fun _ h => h⟩) (by decide +kernel) aX1_takeAround rfl rfl rfl ⟨rfl, rfl⟩ (by decide) (Nat.le_of_ble_eq_true rfl) [0, 1, 2, 3, 4, 5] [] [] rfl rfl rfl (fun r w' hp => ?_)
          obtain ⟨mk2_1, wt2_2, wx2_3, wy2_4, rfl, rfl, hp1, hp2⟩ := hp
          show G X mX1_growFrom ad 0 0 (bxW W H M P c wt2_2 rows (gwd gro1 (wx1 i) (wy1 i) (wx1 i) (wy1 i)) wx2_3 wy2_4 mk2_1, 115, [(0, gr 2), (1, gi x), (2, gi y), (3, gr 6), (4, gi r), (5, gi i)], [])
          refine G.go hX 2 (bxW W H M P c wt2_2 rows (gwd gro1 (wx1 i) (wy1 i) (wx1 i) (wy1 i)) wx2_3 wy2_4 mk2_1, 43, [(0, gr 2), (1, gi x), (2, gi y), (3, gr 6), (4, gi r), (5, gi (i + 1))], []) rfl trivial ?_
          exact ih43 (i + 1) (gwd gro1 (wx1 i) (wy1 i) (wx1 i) (wy1 i)) mk2_1 wt2_2 wx2_3 wy2_4 (by exact gLI_step hW hH hL (by omega) hp1 hp2) (by omega)
  exact lp43 _ 0 (gu (gu (gu (gu gro 0 x) 1 y) 2 x) 3 y) (gu mk (y * W + x) 0) (0 + 1) (gu wx 0 x) (gu wy 0 y) (by exact gLI_first hP hW hH hbm hx hy hm hgr) (Nat.lt_succ_self _)
end
section
theorem gSc_b {W H P M : Nat} {r : Int} {mk m : Int → Int} {c : Int} {rows : Int → Int} (h : gSc W H P M r mk m c rows) : (∀ q, m q = 0 ∨ m q = 1) ∧ 0 ≤ c ∧ c ≤ M ∧ (∀ j, inR (rows j)) ∧ ∀ q, m q = 1 → mk q = 1 := by
  obtain ⟨own, f, s1, s2, s3, _⟩ := h
  exact ⟨s2, f.1.1, f.1.2, f.2.1, s3⟩
/-- the places before (row y, column x) have no mark -/
def gsc2 (W : Nat) (m : Int → Int) (x y : Int) : Prop := ∀ a b : Int, 0 ≤ a → a < W → 0 ≤ b → (b < y ∨ (b = y ∧ a < x)) → m (b * W + a) = 0
set_option maxHeartbeats 4000000 in
set_option maxRecDepth 100000 in
theorem c_X1_gather (l : Launch) (D : va_G) (cA : Nat → ClassId) (W : Nat) (H : Nat) (M : Nat) (P : Nat) (c : Int) (wt : Int) (rows : Int → Int) (gro : Int → Int) (wx : Int → Int) (wy : Int → Int) (mk : Int → Int) (r : Int) (hW : W ≤ 32) (hH : H ≤ 32) (hP : P = W * H) (hPl : P ≤ 1024) (hM : M = ((W + 1) / 2) * ((H + 1) / 2)) (hMl : M ≤ 256) (hr : 1 ≤ r ∧ r ≤ 3) (hbm : ∀ q, mk q = 0 ∨ mk q = 1) (hmkP : ∀ q, mk q = 1 → 0 ≤ q ∧ q < P) (hrr : ∀ j : Int, inR (rows j)) (hgr : ∀ j : Int, inR (gro j)) :
    gC l D cA yX1_gather mX1_gather none 0 0 [gr 2, gr 6, gi r] (bxW W H M P c wt rows gro wx wy mk) (fun r9 w9 => ∃ (c2 : Int) (wt2 : Int) (rows2 : Int → Int) (gro2 : Int → Int) (wx2 : Int → Int) (wy2 : Int → Int) (mk2 : Int → Int), r9 = none ∧ w9 = bxW W H M P c2 wt2 rows2 gro2 wx2 wy2 mk2 ∧ (gDone W H P r mk c2 rows2) ∧ (fsrt c2 (grw rows2)) ∧ (c2 ≤ M) ∧ (∀ j : Int, inR (gro2 j)) ∧ (∀ q, mk2 q = 0)) := by
  refine gC_of rfl kX1_gather rfl rfl (Nat.le_of_ble_eq_true rfl) (fun X ad hX hE => ?_)
  refine G.go hX 5 (bxW W H M P 0 wt rows gro wx wy mk, 7, [(0, gr 2), (1, gr 6), (2, gi r), (3, gi 0)], []) rfl trivial ?_
  have lp7 : ∀ (n : Nat) (y : Int) (c1 : Int) (wt1 : Int) (rows1 : Int → Int) (gro1 : Int → Int) (wx1 : Int → Int) (wy1 : Int → Int) (mk1 : Int → Int), (gSc W H P M r mk mk1 c1 rows1) → (0 ≤ y ∧ y ≤ H) → (gsc2 W mk1 0 y) → (∀ j : Int, inR (gro1 j)) → (H - y).toNat < n → G X mX1_gather ad 0 0 (bxW W H M P c1 wt1 rows1 gro1 wx1 wy1 mk1, 7, [(0, gr 2), (1, gr 6), (2, gi r), (3, gi y)], []) := by
    intro n
    induction n with
    | zero => intro y c1 wt1 rows1 gro1 wx1 wy1 mk1 hS1 hy1 hz1 hG1 hm9; exact absurd hm9 (Nat.not_lt_zero _)
    | succ n ih7 =>
      intro y c1 wt1 rows1 gro1 wx1 wy1 mk1 hS1 hy1 hz1 hG1 hm7
      refine G.go hX 3 (bxW W H M P c1 wt1 rows1 gro1 wx1 wy1 mk1, 12, [(0, gr 2), (1, gr 6), (2, gi r), (3, gi y)], [gi H, gi y]) rfl trivial ?_
      refine g_icmp_ge hX 70 rfl rfl ⟨by omega, by omega⟩ ⟨by omega, by omega⟩ (fun b12 => ?_) (fun b12 => ?_)
      ·
        have hb1 := gSc_b hS1
        have hall : ∀ x y : Int, 0 ≤ x → x < W → 0 ≤ y → y < H → mk1 (y * W + x) = 0 := fun a b h1 h2 h3 h4 => hz1 a b h1 h2 h3 (by omega)
        have hD1 := gSc_done hP hS1 hall
        refine G.go hX 1 (bxW W H M P c1 wt1 rows1 gro1 wx1 wy1 mk1, 71, [(0, gr 2), (1, gr 6), (2, gi r), (3, gi y)], [gr 2]) rfl trivial ?_
        refine G.callV (av := []) (o := 2) (st := []) hX rfl (fun l D cA => c_X1_sort l D cA W H M P c1 wt1 rows1 gro1 wx1 wy1 mk1 (gDone W H P r mk c1) (by first | assumption | omega) ⟨by omega, by omega⟩ gDone_swap (fun _ h => h.2.1) hD1) (by decide +kernel) aX1_sort rfl rfl rfl ⟨rfl, rfl⟩ (by decide) (Nat.le_of_ble_eq_true rfl) [0, 1, 2, 3, 4, 5] [] [] rfl rfl rfl (fun r w' hp => ?_)
        obtain ⟨rows6, rfl, rfl, hF6, hs6⟩ := hp
        show G X mX1_gather ad 0 0 (bxW W H M P c1 wt1 rows6 gro1 wx1 wy1 mk1, 74, [(0, gr 2), (1, gr 6), (2, gi r), (3, gi y)], [])
        exact g_vret hX hE rfl ⟨c1, wt1, rows6, gro1, wx1, wy1, mk1, rfl, rfl, hF6, gDone_srt hF6 hs6, by omega, hG1, fun q => by (rcases hb1.1 q with h9 | h9; exact h9; (have h8 := hmkP q (hb1.2.2.2.2 q h9); have h7 := gplace hP h8.1 h8.2; have h6 := hall _ _ h7.1.1 h7.1.2 h7.2.1.1 h7.2.1.2; rw [h7.2.2] at h6; exact h6))⟩
      ·
        refine G.go hX 2 (bxW W H M P c1 wt1 rows1 gro1 wx1 wy1 mk1, 18, [(0, gr 2), (1, gr 6), (2, gi r), (3, gi y), (4, gi 0)], []) rfl trivial ?_
        have lp18 : ∀ (n : Nat) (x : Int) (c3 : Int) (wt3 : Int) (rows3 : Int → Int) (gro3 : Int → Int) (wx3 : Int → Int) (wy3 : Int → Int) (mk3 : Int → Int), (gSc W H P M r mk mk3 c3 rows3) → (0 ≤ x ∧ x ≤ W) → (gsc2 W mk3 x y) → (∀ j : Int, inR (gro3 j)) → (W - x).toNat < n → G X mX1_gather ad 0 0 (bxW W H M P c3 wt3 rows3 gro3 wx3 wy3 mk3, 18, [(0, gr 2), (1, gr 6), (2, gi r), (3, gi y), (4, gi x)], []) := by
          intro n
          induction n with
          | zero => intro x c3 wt3 rows3 gro3 wx3 wy3 mk3 hS3 hx3 hz3 hG3 hm9; exact absurd hm9 (Nat.not_lt_zero _)
          | succ n ih18 =>
            intro x c3 wt3 rows3 gro3 wx3 wy3 mk3 hS3 hx3 hz3 hG3 hm18
            have hb3 := gSc_b hS3
            refine G.go hX 3 (bxW W H M P c3 wt3 rows3 gro3 wx3 wy3 mk3, 24, [(0, gr 2), (1, gr 6), (2, gi r), (3, gi y), (4, gi x)], [gi W, gi x]) rfl trivial ?_
            refine g_icmp_ge hX 64 rfl rfl ⟨by omega, by omega⟩ ⟨by omega, by omega⟩ (fun b24 => ?_) (fun b24 => ?_)
            ·
              refine G.go hX 2 (bxW W H M P c3 wt3 rows3 gro3 wx3 wy3 mk3, 7, [(0, gr 2), (1, gr 6), (2, gi r), (3, gi (y + 1)), (4, gi x)], []) rfl trivial ?_
              refine G.locs [(0, gr 2), (1, gr 6), (2, gi r), (3, gi (y + 1))] [0, 1, 2, 3] rfl ?_
              exact ih7 (y + 1) c3 wt3 rows3 gro3 wx3 wy3 mk3 (by exact hS3) (by omega) (by intro a b h1 h2 h3 h4; exact hz3 a b h1 h2 h3 (by omega)) (by exact hG3) (by omega)
            ·
              have hix := gix hP (x := x) (y := y) (by omega) (by omega) (by omega) (by omega)
              have hbo := hb3.1 (y * W + x)
              refine G.go hX 8 (bxW W H M P c3 wt3 rows3 gro3 wx3 wy3 mk3, 38, [(0, gr 2), (1, gr 6), (2, gi r), (3, gi y), (4, gi x)], [gi (mk3 ((y * W) + x))]) rfl ?_ ?_
              · refine ⟨?_, trivial⟩
                · omega
              refine g_if_eq hX 58 rfl rfl (by rcases hbo with h9 | h9 <;> rw [h9] <;> exact ⟨by omega, by omega⟩) (fun b38 => ?_) (fun b38 => ?_)
              ·
                refine G.go hX 2 (bxW W H M P c3 wt3 rows3 gro3 wx3 wy3 mk3, 18, [(0, gr 2), (1, gr 6), (2, gi r), (3, gi y), (4, gi (x + 1))], []) rfl trivial ?_
                exact ih18 (x + 1) c3 wt3 rows3 gro3 wx3 wy3 mk3 (by exact hS3) (by omega) (by intro a b h1 h2 h3 h4; by_cases e9 : b = y ∧ a = x; (rw [e9.1, e9.2]; exact b38); exact hz3 a b h1 h2 h3 (by omega)) (by exact hG3) (by omega)
              ·
                have hm1 : mk3 (y * W + x) = 1 := by omega
                have hd4 : gdf W H mk x y := ⟨⟨by omega, by omega⟩, ⟨by omega, by omega⟩, hb3.2.2.2.2 _ hm1⟩
                refine G.go hX 5 (bxW W H M P c3 wt3 rows3 gro3 wx3 wy3 mk3, 47, [(0, gr 2), (1, gr 6), (2, gi r), (3, gi y), (4, gi x)], [gi r, gr 6, gi y, gi x, gr 2]) rfl trivial ?_
                refine G.callV (av := [gi x, gi y, gr 6, gi r]) (o := 2) (st := []) hX rfl (fun l D cA => c_X1_growFrom l D cA W H M P c3 wt3 rows3 gro3 wx3 wy3 mk3 x y r (by first | assumption | omega) (by first | assumption | omega) (by first | assumption | omega) (by first | assumption | omega) ⟨by omega, by omega⟩ ⟨by omega, by omega⟩ ⟨by omega, by omega⟩ hb3.1 hm1 hG3) (by decide +kernel) aX1_growFrom rfl rfl rfl ⟨rfl, rfl⟩ (by decide) (Nat.le_of_ble_eq_true rfl) [0, 1, 2, 3, 4, 5] [] [] rfl rfl rfl (fun r w' hp => ?_)
                obtain ⟨gro4, mk4, wt4, wx4, wy4, rfl, rfl, hg1, hg2, hg3, hg4⟩ := hp
                show G X mX1_gather ad 0 0 (bxW W H M P c3 wt4 rows3 gro4 wx4 wy4 mk4, 50, [(0, gr 2), (1, gr 6), (2, gi r), (3, gi y), (4, gi x)], [])
                obtain ⟨hA4, hb4, hs4, hc4, hz4, hmo⟩ := gSc_grow hP hPl (by omega) hS3 ⟨by omega, by omega⟩ ⟨by omega, by omega⟩ hm1 hg1 hg2 hg3
                refine G.go hX 1 (bxW W H M P c3 wt4 rows3 gro4 wx4 wy4 mk4, 51, [(0, gr 2), (1, gr 6), (2, gi r), (3, gi y), (4, gi x)], [gr 2]) rfl trivial ?_
                refine G.callV (av := []) (o := 2) (st := []) hX rfl (fun l D cA => c_X1_absorbAll l D cA W H M P c3 wt4 rows3 gro4 wx4 wy4 mk4 (gAb W H P M r mk mk4 x y) (by first | assumption | omega) (gAb_st hPl) gAb_ok hA4) (by decide +kernel) aX1_absorbAll rfl rfl rfl ⟨rfl, rfl⟩ (by decide) (Nat.le_of_ble_eq_true rfl) [0, 1, 2, 3, 4, 5] [] [] rfl rfl rfl (fun r w' hp => ?_)
                obtain ⟨c5, rows5, gro5, rfl, rfl, hF5, hns⟩ := hp
                show G X mX1_gather ad 0 0 (bxW W H M P c5 wt4 rows5 gro5 wx4 wy4 mk4, 54, [(0, gr 2), (1, gr 6), (2, gi r), (3, gi y), (4, gi x)], [])
                have hlt5 := gAb_lt hM hr.1 hF5 hd4 hz4 hns
                have hok5 := gAb_ok _ _ _ hF5
                have hg5 := hok5.2.2.2
                refine G.go hX 1 (bxW W H M P c5 wt4 rows5 gro5 wx4 wy4 mk4, 55, [(0, gr 2), (1, gr 6), (2, gi r), (3, gi y), (4, gi x)], [gr 2]) rfl trivial ?_
                refine G.callV (av := []) (o := 2) (st := []) hX rfl (fun l D cA => c_X1_keepGrown l D cA W H M P c5 wt4 rows5 gro5 wx4 wy4 mk4 (by first | assumption | omega) ⟨by omega, hlt5⟩) (by decide +kernel) aX1_keepGrown rfl rfl rfl ⟨rfl, rfl⟩ (by decide) (Nat.le_of_ble_eq_true rfl) [0, 1, 2, 3, 4, 5] [] [] rfl rfl rfl (fun r w' hp => ?_)
                obtain ⟨rfl, rfl⟩ := hp
                show G X mX1_gather ad 0 0 (bxW W H M P (c5 + 1) wt4 (gcp gro5 rows5 0 (c5 * 5) 5) gro5 wx4 wy4 mk4, 58, [(0, gr 2), (1, gr 6), (2, gi r), (3, gi y), (4, gi x)], [])
                refine G.go hX 2 (bxW W H M P (c5 + 1) wt4 (gcp gro5 rows5 0 (c5 * 5) 5) gro5 wx4 wy4 mk4, 18, [(0, gr 2), (1, gr 6), (2, gi r), (3, gi y), (4, gi (x + 1))], []) rfl trivial ?_
                exact ih18 (x + 1) (c5 + 1) wt4 (gcp gro5 rows5 0 (c5 * 5) 5) gro5 wx4 wy4 mk4 (by exact gAb_keep hF5 hd4 hz4 hns (by omega) hb4 hs4 hc4 hP hmkP) (by omega) (by intro a b h1 h2 h3 h4; by_cases e9 : b = y ∧ a = x; (rw [e9.1, e9.2]; exact hz4); exact hmo _ (hz3 a b h1 h2 h3 (by omega))) (by exact hg5) (by omega)
        exact lp18 _ 0 c1 wt1 rows1 gro1 wx1 wy1 mk1 (by exact hS1) (by omega) (by exact hz1) (by exact hG1) (Nat.lt_succ_self _)
  exact lp7 _ 0 0 wt rows gro wx wy mk (by exact gSc_first hbm hrr) (by omega) (by intro a b _ _ _ h9; omega) (by exact hgr) (Nat.lt_succ_self _)
end
section
abbrev suW (W H M P : Nat) (c wt : Int) (rows gro wx wy mk : Int → Int) (dp fa ne sl : Int) (p0 p1 : Int → Int) : gW := [(1, gob 5 [gr 2, gi dp, gi W, gi H, gr 3, gr 6, gi fa, gi ne, gi sl]), (3, gar 2 2 ptq), (4, gai 0 P p0), (5, gai 0 P p1), (2, gob 2 [gi c, gi W, gi H, gi M, gr 7, gr 8, gr 9, gr 10, gi wt]), (7, gai 0 (M * 5) rows), (8, gai 0 5 gro), (9, gai 0 P wx), (10, gai 0 P wy), (6, gai 1 P mk)]
set_option maxHeartbeats 4000000 in
set_option maxRecDepth 100000 in
theorem c_X4_isClose (l : Launch) (D : va_G) (cA : Nat → ClassId) (W : Nat) (H : Nat) (M : Nat) (P : Nat) (c : Int) (wt : Int) (rows : Int → Int) (gro : Int → Int) (wx : Int → Int) (wy : Int → Int) (mk : Int → Int) (dp : Int) (fa : Int) (ne : Int) (sl : Int) (p0 : Int → Int) (p1 : Int → Int) (v : Int) (o : Int) (hfa : 0 ≤ fa ∧ fa ≤ 255) (hv : 0 ≤ v ∧ v ≤ 255) (ho : 0 ≤ o ∧ o ≤ 255) :
    gC l D cA yX4_isClose mX4_isClose (some .boolean) 0 0 [gr 1, gi v, gi o] (suW W H M P c wt rows gro wx wy mk dp fa ne sl p0 p1) (fun r9 w9 => r9 = some (gi (gb (gcl fa v o))) ∧ w9 = suW W H M P c wt rows gro wx wy mk dp fa ne sl p0 p1) := by
  refine gC_of rfl kX4_isClose rfl rfl (Nat.le_of_ble_eq_true rfl) (fun X ad hX hE => ?_)
  refine G.go hX 3 (suW W H M P c wt rows gro wx wy mk dp fa ne sl p0 p1, 3, [(0, gr 1), (1, gi v), (2, gi o)], [gi (v - o)]) rfl trivial ?_
  refine g_mabs hX rfl (by decide +kernel) ⟨⟨by decide, Nat.le_of_ble_eq_true rfl⟩, by decide, by decide⟩ ⟨by omega, by omega⟩ ?_
  show G X mX4_isClose ad 0 0 (suW W H M P c wt rows gro wx wy mk dp fa ne sl p0 p1, 6, [(0, gr 1), (1, gi v), (2, gi o)], [gi (max (v - o) (-(v - o)))])
  refine G.go hX 2 (suW W H M P c wt rows gro wx wy mk dp fa ne sl p0 p1, 10, [(0, gr 1), (1, gi v), (2, gi o)], [gi fa, gi (max (v - o) (-(v - o)))]) rfl trivial ?_
  refine g_icmp_gt hX 17 rfl rfl ⟨by omega, by omega⟩ ⟨by omega, by omega⟩ (fun b10 => ?_) (fun b10 => ?_)
  ·
    refine G.go hX 1 (suW W H M P c wt rows gro wx wy mk dp fa ne sl p0 p1, 18, [(0, gr 1), (1, gi v), (2, gi o)], [gi 0]) rfl trivial ?_
    exact g_zret hX hE rfl (Or.inl rfl) ⟨(congrArg (fun z => some (gi z)) (gb_f (by unfold gcl; omega)).symm), rfl⟩
  ·
    refine G.go hX 2 (suW W H M P c wt rows gro wx wy mk dp fa ne sl p0 p1, 18, [(0, gr 1), (1, gi v), (2, gi o)], [gi 1]) rfl trivial ?_
    exact g_zret hX hE rfl (Or.inr rfl) ⟨(congrArg (fun z => some (gi z)) (gb_t (by unfold gcl; omega)).symm), rfl⟩
set_option maxHeartbeats 4000000 in
set_option maxRecDepth 100000 in
theorem c_X4_isMet_0 (l : Launch) (D : va_G) (cA : Nat → ClassId) (W : Nat) (H : Nat) (M : Nat) (P : Nat) (c : Int) (wt : Int) (rows : Int → Int) (gro : Int → Int) (wx : Int → Int) (wy : Int → Int) (mk : Int → Int) (dp : Int) (fa : Int) (ne : Int) (sl : Int) (p0 : Int → Int) (p1 : Int → Int) (v : Int) (x : Int) (y : Int) (hW : W ≤ 32) (hH : H ≤ 32) (hP : P = W * H) (hPl : P ≤ 1024) (hfa : 0 ≤ fa ∧ fa ≤ 255) (hne : 0 ≤ ne ∧ ne ≤ 2) (hp0 : ∀ q, 0 ≤ p0 q ∧ p0 q ≤ 255) (hp1 : ∀ q, 0 ≤ p1 q ∧ p1 q ≤ 255) (hx : 0 ≤ x ∧ x < W) (hy : 0 ≤ y ∧ y < H) (hv : 0 ≤ v ∧ v ≤ 255) :
    gC l D cA yX4_isMet mX4_isMet (some .boolean) 0 0 [gr 1, gi v, gr 4, gi x, gi y] (suW W H M P c wt rows gro wx wy mk dp fa ne sl p0 p1) (fun r9 w9 => r9 = some (gi (gb (gmt W H ne fa v p0 x y))) ∧ w9 = suW W H M P c wt rows gro wx wy mk dp fa ne sl p0 p1) := by
  refine gC_of rfl kX4_isMet rfl rfl (Nat.le_of_ble_eq_true rfl) (fun X ad hX hE => ?_)
  refine G.go hX 8 (suW W H M P c wt rows gro wx wy mk dp fa ne sl p0 p1, 12, [(0, gr 1), (1, gi v), (2, gr 4), (3, gi x), (4, gi y)], [gi (x + ne), gi (W - 1)]) rfl trivial ?_
  refine g_mmin hX rfl (by decide +kernel) ⟨⟨by decide, Nat.le_of_ble_eq_true rfl⟩, by decide, by decide⟩ ⟨by omega, by omega⟩ ⟨by omega, by omega⟩ ?_
  show G X mX4_isMet ad 0 0 (suW W H M P c wt rows gro wx wy mk dp fa ne sl p0 p1, 15, [(0, gr 1), (1, gi v), (2, gr 4), (3, gi x), (4, gi y)], [gi (min (W - 1) (x + ne))])
  refine G.go hX 9 (suW W H M P c wt rows gro wx wy mk dp fa ne sl p0 p1, 30, [(0, gr 1), (1, gi v), (2, gr 4), (3, gi x), (4, gi y), (5, gi (min (W - 1) (x + ne)))], [gi (y + ne), gi (H - 1)]) rfl trivial ?_
  refine g_mmin hX rfl (by decide +kernel) ⟨⟨by decide, Nat.le_of_ble_eq_true rfl⟩, by decide, by decide⟩ ⟨by omega, by omega⟩ ⟨by omega, by omega⟩ ?_
  show G X mX4_isMet ad 0 0 (suW W H M P c wt rows gro wx wy mk dp fa ne sl p0 p1, 33, [(0, gr 1), (1, gi v), (2, gr 4), (3, gi x), (4, gi y), (5, gi (min (W - 1) (x + ne)))], [gi (min (H - 1) (y + ne))])
  refine G.go hX 6 (suW W H M P c wt rows gro wx wy mk dp fa ne sl p0 p1, 43, [(0, gr 1), (1, gi v), (2, gr 4), (3, gi x), (4, gi y), (5, gi (min (W - 1) (x + ne))), (6, gi (min (H - 1) (y + ne)))], [gi (y - ne), gi 0]) rfl trivial ?_
  refine g_mmax hX rfl (by decide +kernel) ⟨⟨by decide, Nat.le_of_ble_eq_true rfl⟩, by decide, by decide⟩ ⟨by omega, by omega⟩ ⟨by omega, by omega⟩ ?_
  show G X mX4_isMet ad 0 0 (suW W H M P c wt rows gro wx wy mk dp fa ne sl p0 p1, 46, [(0, gr 1), (1, gi v), (2, gr 4), (3, gi x), (4, gi y), (5, gi (min (W - 1) (x + ne))), (6, gi (min (H - 1) (y + ne)))], [gi (max 0 (y - ne))])
  refine G.go hX 1 (suW W H M P c wt rows gro wx wy mk dp fa ne sl p0 p1, 48, [(0, gr 1), (1, gi v), (2, gr 4), (3, gi x), (4, gi y), (5, gi (min (W - 1) (x + ne))), (6, gi (min (H - 1) (y + ne))), (7, gi (max 0 (y - ne)))], []) rfl trivial ?_
  have lp48 : ∀ (n : Nat) (ro : Int), (0 ≤ ro ∧ y - ne ≤ ro ∧ ro ≤ min ((H : Int) - 1) (y + ne) + 1) → (gnm W H ne fa v p0 x y ro 0) → (min ((H : Int) - 1) (y + ne) + 1 - ro).toNat < n → G X mX4_isMet ad 0 0 (suW W H M P c wt rows gro wx wy mk dp fa ne sl p0 p1, 48, [(0, gr 1), (1, gi v), (2, gr 4), (3, gi x), (4, gi y), (5, gi (min ((W : Int) - 1) (x + ne))), (6, gi (min ((H : Int) - 1) (y + ne))), (7, gi ro)], []) := by
    intro n
    induction n with
    | zero => intro ro hro hs1 hm9; exact absurd hm9 (Nat.not_lt_zero _)
    | succ n ih48 =>
      intro ro hro hs1 hm48
      refine G.go hX 2 (suW W H M P c wt rows gro wx wy mk dp fa ne sl p0 p1, 52, [(0, gr 1), (1, gi v), (2, gr 4), (3, gi x), (4, gi y), (5, gi (min ((W : Int) - 1) (x + ne))), (6, gi (min ((H : Int) - 1) (y + ne))), (7, gi ro)], [gi (min ((H : Int) - 1) (y + ne)), gi ro]) rfl trivial ?_
      refine g_icmp_gt hX 108 rfl rfl ⟨by omega, by omega⟩ ⟨by omega, by omega⟩ (fun b52 => ?_) (fun b52 => ?_)
      ·
        refine G.go hX 1 (suW W H M P c wt rows gro wx wy mk dp fa ne sl p0 p1, 109, [(0, gr 1), (1, gi v), (2, gr 4), (3, gi x), (4, gi y), (5, gi (min ((W : Int) - 1) (x + ne))), (6, gi (min ((H : Int) - 1) (y + ne))), (7, gi ro)], [gi 0]) rfl trivial ?_
        exact g_zret hX hE rfl (Or.inl rfl) ⟨(congrArg (fun z => some (gi z)) (gb_f (by exact fun ⟨a, b, h1, h2, h3, h4, h5, h6, h7, h8, h9⟩ => hs1 a b h1 h2 h3 h4 h5 h6 h7 h8 (by omega) h9)).symm), rfl⟩
      ·
        refine G.go hX 5 (suW W H M P c wt rows gro wx wy mk dp fa ne sl p0 p1, 62, [(0, gr 1), (1, gi v), (2, gr 4), (3, gi x), (4, gi y), (5, gi (min ((W : Int) - 1) (x + ne))), (6, gi (min ((H : Int) - 1) (y + ne))), (7, gi ro)], [gi (x - ne), gi 0]) rfl trivial ?_
        refine g_mmax hX rfl (by decide +kernel) ⟨⟨by decide, Nat.le_of_ble_eq_true rfl⟩, by decide, by decide⟩ ⟨by omega, by omega⟩ ⟨by omega, by omega⟩ ?_
        show G X mX4_isMet ad 0 0 (suW W H M P c wt rows gro wx wy mk dp fa ne sl p0 p1, 65, [(0, gr 1), (1, gi v), (2, gr 4), (3, gi x), (4, gi y), (5, gi (min ((W : Int) - 1) (x + ne))), (6, gi (min ((H : Int) - 1) (y + ne))), (7, gi ro)], [gi (max 0 (x - ne))])
        refine G.go hX 1 (suW W H M P c wt rows gro wx wy mk dp fa ne sl p0 p1, 67, [(0, gr 1), (1, gi v), (2, gr 4), (3, gi x), (4, gi y), (5, gi (min ((W : Int) - 1) (x + ne))), (6, gi (min ((H : Int) - 1) (y + ne))), (7, gi ro), (8, gi (max 0 (x - ne)))], []) rfl trivial ?_
        have lp67 : ∀ (n : Nat) (co : Int), (0 ≤ co ∧ x - ne ≤ co ∧ co ≤ min ((W : Int) - 1) (x + ne) + 1) → (gnm W H ne fa v p0 x y ro co) → (min ((W : Int) - 1) (x + ne) + 1 - co).toNat < n → G X mX4_isMet ad 0 0 (suW W H M P c wt rows gro wx wy mk dp fa ne sl p0 p1, 67, [(0, gr 1), (1, gi v), (2, gr 4), (3, gi x), (4, gi y), (5, gi (min ((W : Int) - 1) (x + ne))), (6, gi (min ((H : Int) - 1) (y + ne))), (7, gi ro), (8, gi co)], []) := by
          intro n
          induction n with
          | zero => intro co hco hs3 hm9; exact absurd hm9 (Nat.not_lt_zero _)
          | succ n ih67 =>
            intro co hco hs3 hm67
            refine G.go hX 2 (suW W H M P c wt rows gro wx wy mk dp fa ne sl p0 p1, 71, [(0, gr 1), (1, gi v), (2, gr 4), (3, gi x), (4, gi y), (5, gi (min ((W : Int) - 1) (x + ne))), (6, gi (min ((H : Int) - 1) (y + ne))), (7, gi ro), (8, gi co)], [gi (min ((W : Int) - 1) (x + ne)), gi co]) rfl trivial ?_
            refine g_icmp_gt hX 102 rfl rfl ⟨by omega, by omega⟩ ⟨by omega, by omega⟩ (fun b71 => ?_) (fun b71 => ?_)
            ·
              refine G.go hX 2 (suW W H M P c wt rows gro wx wy mk dp fa ne sl p0 p1, 48, [(0, gr 1), (1, gi v), (2, gr 4), (3, gi x), (4, gi y), (5, gi (min ((W : Int) - 1) (x + ne))), (6, gi (min ((H : Int) - 1) (y + ne))), (7, gi (ro + 1)), (8, gi co)], []) rfl trivial ?_
              refine G.locs [(0, gr 1), (1, gi v), (2, gr 4), (3, gi x), (4, gi y), (5, gi (min ((W : Int) - 1) (x + ne))), (6, gi (min ((H : Int) - 1) (y + ne))), (7, gi (ro + 1))] [0, 1, 2, 3, 4, 5, 6, 7] rfl ?_
              exact ih48 (ro + 1) (by omega) (by intro a b h1 h2 h3 h4 h5 h6 h7 h8 h9; exact hs3 a b h1 h2 h3 h4 h5 h6 h7 h8 (by omega)) (by omega)
            ·
              have hix := gix hP (x := co) (y := ro) (by omega) (by omega) (by omega) (by omega)
              have hpo := hp0 (ro * W + co)
              refine G.go hX 10 (suW W H M P c wt rows gro wx wy mk dp fa ne sl p0 p1, 88, [(0, gr 1), (1, gi v), (2, gr 4), (3, gi x), (4, gi y), (5, gi (min ((W : Int) - 1) (x + ne))), (6, gi (min ((H : Int) - 1) (y + ne))), (7, gi ro), (8, gi co)], [gi (p0 ((ro * W) + co)), gi v, gr 1]) rfl ?_ ?_
              · refine ⟨?_, trivial⟩
                · omega
              refine G.callV (av := [gi v, gi (p0 ((ro * W) + co))]) (o := 1) (st := []) hX rfl (fun l D cA => c_X4_isClose l D cA W H M P c wt rows gro wx wy mk dp fa ne sl p0 p1 v (p0 ((ro * W) + co)) (by first | assumption | omega) (by first | assumption | omega) (by first | assumption | omega)) (by decide +kernel) aX4_isClose rfl rfl rfl ⟨rfl, rfl⟩ (by decide) (Nat.le_of_ble_eq_true rfl) [0, 1, 2, 3, 4, 5, 6, 7, 8, 9] [] [] rfl rfl rfl (fun r w' hp => ?_)
              obtain ⟨rfl, rfl⟩ := hp
              show G X mX4_isMet ad 0 0 (suW W H M P c wt rows gro wx wy mk dp fa ne sl p0 p1, 91, [(0, gr 1), (1, gi v), (2, gr 4), (3, gi x), (4, gi y), (5, gi (min ((W : Int) - 1) (x + ne))), (6, gi (min ((H : Int) - 1) (y + ne))), (7, gi ro), (8, gi co)], [gi (gb (gcl fa v (p0 ((ro * W) + co))))])
              refine g_if_eq hX 96 rfl rfl (gb_r _) (fun b91 => ?_) (fun b91 => ?_)
              ·
                have b91 := gb_0.mp b91
                refine G.go hX 2 (suW W H M P c wt rows gro wx wy mk dp fa ne sl p0 p1, 67, [(0, gr 1), (1, gi v), (2, gr 4), (3, gi x), (4, gi y), (5, gi (min ((W : Int) - 1) (x + ne))), (6, gi (min ((H : Int) - 1) (y + ne))), (7, gi ro), (8, gi (co + 1))], []) rfl trivial ?_
                exact ih67 (co + 1) (by omega) (by exact gnm_next hs3 b91) (by omega)
              ·
                have b91 := gb_n0 b91
                refine G.go hX 1 (suW W H M P c wt rows gro wx wy mk dp fa ne sl p0 p1, 95, [(0, gr 1), (1, gi v), (2, gr 4), (3, gi x), (4, gi y), (5, gi (min ((W : Int) - 1) (x + ne))), (6, gi (min ((H : Int) - 1) (y + ne))), (7, gi ro), (8, gi co)], [gi 1]) rfl trivial ?_
                exact g_zret hX hE rfl (Or.inr rfl) ⟨(congrArg (fun z => some (gi z)) (gb_t (by exact ⟨co, ro, by omega, by omega, by omega, by omega, by omega, by omega, by omega, by omega, b91⟩)).symm), rfl⟩
        exact lp67 _ (max 0 (x - ne)) (by omega) (by intro a b h1 h2 h3 h4 h5 h6 h7 h8 h9; exact hs1 a b h1 h2 h3 h4 h5 h6 h7 h8 (by omega)) (Nat.lt_succ_self _)
  exact lp48 _ (max 0 (y - ne)) (by omega) (by intro a b _ _ _ _ _ _ _ _ h9; omega) (Nat.lt_succ_self _)
set_option maxHeartbeats 4000000 in
set_option maxRecDepth 100000 in
theorem c_X4_isMet_1 (l : Launch) (D : va_G) (cA : Nat → ClassId) (W : Nat) (H : Nat) (M : Nat) (P : Nat) (c : Int) (wt : Int) (rows : Int → Int) (gro : Int → Int) (wx : Int → Int) (wy : Int → Int) (mk : Int → Int) (dp : Int) (fa : Int) (ne : Int) (sl : Int) (p0 : Int → Int) (p1 : Int → Int) (v : Int) (x : Int) (y : Int) (hW : W ≤ 32) (hH : H ≤ 32) (hP : P = W * H) (hPl : P ≤ 1024) (hfa : 0 ≤ fa ∧ fa ≤ 255) (hne : 0 ≤ ne ∧ ne ≤ 2) (hp0 : ∀ q, 0 ≤ p0 q ∧ p0 q ≤ 255) (hp1 : ∀ q, 0 ≤ p1 q ∧ p1 q ≤ 255) (hx : 0 ≤ x ∧ x < W) (hy : 0 ≤ y ∧ y < H) (hv : 0 ≤ v ∧ v ≤ 255) :
    gC l D cA yX4_isMet mX4_isMet (some .boolean) 0 0 [gr 1, gi v, gr 5, gi x, gi y] (suW W H M P c wt rows gro wx wy mk dp fa ne sl p0 p1) (fun r9 w9 => r9 = some (gi (gb (gmt W H ne fa v p1 x y))) ∧ w9 = suW W H M P c wt rows gro wx wy mk dp fa ne sl p0 p1) := by
  refine gC_of rfl kX4_isMet rfl rfl (Nat.le_of_ble_eq_true rfl) (fun X ad hX hE => ?_)
  refine G.go hX 8 (suW W H M P c wt rows gro wx wy mk dp fa ne sl p0 p1, 12, [(0, gr 1), (1, gi v), (2, gr 5), (3, gi x), (4, gi y)], [gi (x + ne), gi (W - 1)]) rfl trivial ?_
  refine g_mmin hX rfl (by decide +kernel) ⟨⟨by decide, Nat.le_of_ble_eq_true rfl⟩, by decide, by decide⟩ ⟨by omega, by omega⟩ ⟨by omega, by omega⟩ ?_
  show G X mX4_isMet ad 0 0 (suW W H M P c wt rows gro wx wy mk dp fa ne sl p0 p1, 15, [(0, gr 1), (1, gi v), (2, gr 5), (3, gi x), (4, gi y)], [gi (min (W - 1) (x + ne))])
  refine G.go hX 9 (suW W H M P c wt rows gro wx wy mk dp fa ne sl p0 p1, 30, [(0, gr 1), (1, gi v), (2, gr 5), (3, gi x), (4, gi y), (5, gi (min (W - 1) (x + ne)))], [gi (y + ne), gi (H - 1)]) rfl trivial ?_
  refine g_mmin hX rfl (by decide +kernel) ⟨⟨by decide, Nat.le_of_ble_eq_true rfl⟩, by decide, by decide⟩ ⟨by omega, by omega⟩ ⟨by omega, by omega⟩ ?_
  show G X mX4_isMet ad 0 0 (suW W H M P c wt rows gro wx wy mk dp fa ne sl p0 p1, 33, [(0, gr 1), (1, gi v), (2, gr 5), (3, gi x), (4, gi y), (5, gi (min (W - 1) (x + ne)))], [gi (min (H - 1) (y + ne))])
  refine G.go hX 6 (suW W H M P c wt rows gro wx wy mk dp fa ne sl p0 p1, 43, [(0, gr 1), (1, gi v), (2, gr 5), (3, gi x), (4, gi y), (5, gi (min (W - 1) (x + ne))), (6, gi (min (H - 1) (y + ne)))], [gi (y - ne), gi 0]) rfl trivial ?_
  refine g_mmax hX rfl (by decide +kernel) ⟨⟨by decide, Nat.le_of_ble_eq_true rfl⟩, by decide, by decide⟩ ⟨by omega, by omega⟩ ⟨by omega, by omega⟩ ?_
  show G X mX4_isMet ad 0 0 (suW W H M P c wt rows gro wx wy mk dp fa ne sl p0 p1, 46, [(0, gr 1), (1, gi v), (2, gr 5), (3, gi x), (4, gi y), (5, gi (min (W - 1) (x + ne))), (6, gi (min (H - 1) (y + ne)))], [gi (max 0 (y - ne))])
  refine G.go hX 1 (suW W H M P c wt rows gro wx wy mk dp fa ne sl p0 p1, 48, [(0, gr 1), (1, gi v), (2, gr 5), (3, gi x), (4, gi y), (5, gi (min (W - 1) (x + ne))), (6, gi (min (H - 1) (y + ne))), (7, gi (max 0 (y - ne)))], []) rfl trivial ?_
  have lp48 : ∀ (n : Nat) (ro : Int), (0 ≤ ro ∧ y - ne ≤ ro ∧ ro ≤ min ((H : Int) - 1) (y + ne) + 1) → (gnm W H ne fa v p1 x y ro 0) → (min ((H : Int) - 1) (y + ne) + 1 - ro).toNat < n → G X mX4_isMet ad 0 0 (suW W H M P c wt rows gro wx wy mk dp fa ne sl p0 p1, 48, [(0, gr 1), (1, gi v), (2, gr 5), (3, gi x), (4, gi y), (5, gi (min ((W : Int) - 1) (x + ne))), (6, gi (min ((H : Int) - 1) (y + ne))), (7, gi ro)], []) := by
    intro n
    induction n with
    | zero => intro ro hro hs1 hm9; exact absurd hm9 (Nat.not_lt_zero _)
    | succ n ih48 =>
      intro ro hro hs1 hm48
      refine G.go hX 2 (suW W H M P c wt rows gro wx wy mk dp fa ne sl p0 p1, 52, [(0, gr 1), (1, gi v), (2, gr 5), (3, gi x), (4, gi y), (5, gi (min ((W : Int) - 1) (x + ne))), (6, gi (min ((H : Int) - 1) (y + ne))), (7, gi ro)], [gi (min ((H : Int) - 1) (y + ne)), gi ro]) rfl trivial ?_
      refine g_icmp_gt hX 108 rfl rfl ⟨by omega, by omega⟩ ⟨by omega, by omega⟩ (fun b52 => ?_) (fun b52 => ?_)
      ·
        refine G.go hX 1 (suW W H M P c wt rows gro wx wy mk dp fa ne sl p0 p1, 109, [(0, gr 1), (1, gi v), (2, gr 5), (3, gi x), (4, gi y), (5, gi (min ((W : Int) - 1) (x + ne))), (6, gi (min ((H : Int) - 1) (y + ne))), (7, gi ro)], [gi 0]) rfl trivial ?_
        exact g_zret hX hE rfl (Or.inl rfl) ⟨(congrArg (fun z => some (gi z)) (gb_f (by exact fun ⟨a, b, h1, h2, h3, h4, h5, h6, h7, h8, h9⟩ => hs1 a b h1 h2 h3 h4 h5 h6 h7 h8 (by omega) h9)).symm), rfl⟩
      ·
        refine G.go hX 5 (suW W H M P c wt rows gro wx wy mk dp fa ne sl p0 p1, 62, [(0, gr 1), (1, gi v), (2, gr 5), (3, gi x), (4, gi y), (5, gi (min ((W : Int) - 1) (x + ne))), (6, gi (min ((H : Int) - 1) (y + ne))), (7, gi ro)], [gi (x - ne), gi 0]) rfl trivial ?_
        refine g_mmax hX rfl (by decide +kernel) ⟨⟨by decide, Nat.le_of_ble_eq_true rfl⟩, by decide, by decide⟩ ⟨by omega, by omega⟩ ⟨by omega, by omega⟩ ?_
        show G X mX4_isMet ad 0 0 (suW W H M P c wt rows gro wx wy mk dp fa ne sl p0 p1, 65, [(0, gr 1), (1, gi v), (2, gr 5), (3, gi x), (4, gi y), (5, gi (min ((W : Int) - 1) (x + ne))), (6, gi (min ((H : Int) - 1) (y + ne))), (7, gi ro)], [gi (max 0 (x - ne))])
        refine G.go hX 1 (suW W H M P c wt rows gro wx wy mk dp fa ne sl p0 p1, 67, [(0, gr 1), (1, gi v), (2, gr 5), (3, gi x), (4, gi y), (5, gi (min ((W : Int) - 1) (x + ne))), (6, gi (min ((H : Int) - 1) (y + ne))), (7, gi ro), (8, gi (max 0 (x - ne)))], []) rfl trivial ?_
        have lp67 : ∀ (n : Nat) (co : Int), (0 ≤ co ∧ x - ne ≤ co ∧ co ≤ min ((W : Int) - 1) (x + ne) + 1) → (gnm W H ne fa v p1 x y ro co) → (min ((W : Int) - 1) (x + ne) + 1 - co).toNat < n → G X mX4_isMet ad 0 0 (suW W H M P c wt rows gro wx wy mk dp fa ne sl p0 p1, 67, [(0, gr 1), (1, gi v), (2, gr 5), (3, gi x), (4, gi y), (5, gi (min ((W : Int) - 1) (x + ne))), (6, gi (min ((H : Int) - 1) (y + ne))), (7, gi ro), (8, gi co)], []) := by
          intro n
          induction n with
          | zero => intro co hco hs3 hm9; exact absurd hm9 (Nat.not_lt_zero _)
          | succ n ih67 =>
            intro co hco hs3 hm67
            refine G.go hX 2 (suW W H M P c wt rows gro wx wy mk dp fa ne sl p0 p1, 71, [(0, gr 1), (1, gi v), (2, gr 5), (3, gi x), (4, gi y), (5, gi (min ((W : Int) - 1) (x + ne))), (6, gi (min ((H : Int) - 1) (y + ne))), (7, gi ro), (8, gi co)], [gi (min ((W : Int) - 1) (x + ne)), gi co]) rfl trivial ?_
            refine g_icmp_gt hX 102 rfl rfl ⟨by omega, by omega⟩ ⟨by omega, by omega⟩ (fun b71 => ?_) (fun b71 => ?_)
            ·
              refine G.go hX 2 (suW W H M P c wt rows gro wx wy mk dp fa ne sl p0 p1, 48, [(0, gr 1), (1, gi v), (2, gr 5), (3, gi x), (4, gi y), (5, gi (min ((W : Int) - 1) (x + ne))), (6, gi (min ((H : Int) - 1) (y + ne))), (7, gi (ro + 1)), (8, gi co)], []) rfl trivial ?_
              refine G.locs [(0, gr 1), (1, gi v), (2, gr 5), (3, gi x), (4, gi y), (5, gi (min ((W : Int) - 1) (x + ne))), (6, gi (min ((H : Int) - 1) (y + ne))), (7, gi (ro + 1))] [0, 1, 2, 3, 4, 5, 6, 7] rfl ?_
              exact ih48 (ro + 1) (by omega) (by intro a b h1 h2 h3 h4 h5 h6 h7 h8 h9; exact hs3 a b h1 h2 h3 h4 h5 h6 h7 h8 (by omega)) (by omega)
            ·
              have hix := gix hP (x := co) (y := ro) (by omega) (by omega) (by omega) (by omega)
              have hpo := hp1 (ro * W + co)
              refine G.go hX 10 (suW W H M P c wt rows gro wx wy mk dp fa ne sl p0 p1, 88, [(0, gr 1), (1, gi v), (2, gr 5), (3, gi x), (4, gi y), (5, gi (min ((W : Int) - 1) (x + ne))), (6, gi (min ((H : Int) - 1) (y + ne))), (7, gi ro), (8, gi co)], [gi (p1 ((ro * W) + co)), gi v, gr 1]) rfl ?_ ?_
              · refine ⟨?_, trivial⟩
                · omega
              refine G.callV (av := [gi v, gi (p1 ((ro * W) + co))]) (o := 1) (st := []) hX rfl (fun l D cA => c_X4_isClose l D cA W H M P c wt rows gro wx wy mk dp fa ne sl p0 p1 v (p1 ((ro * W) + co)) (by first | assumption | omega) (by first | assumption | omega) (by first | assumption | omega)) (by decide +kernel) aX4_isClose rfl rfl rfl ⟨rfl, rfl⟩ (by decide) (Nat.le_of_ble_eq_true rfl) [0, 1, 2, 3, 4, 5, 6, 7, 8, 9] [] [] rfl rfl rfl (fun r w' hp => ?_)
              obtain ⟨rfl, rfl⟩ := hp
              show G X mX4_isMet ad 0 0 (suW W H M P c wt rows gro wx wy mk dp fa ne sl p0 p1, 91, [(0, gr 1), (1, gi v), (2, gr 5), (3, gi x), (4, gi y), (5, gi (min ((W : Int) - 1) (x + ne))), (6, gi (min ((H : Int) - 1) (y + ne))), (7, gi ro), (8, gi co)], [gi (gb (gcl fa v (p1 ((ro * W) + co))))])
              refine g_if_eq hX 96 rfl rfl (gb_r _) (fun b91 => ?_) (fun b91 => ?_)
              ·
                have b91 := gb_0.mp b91
                refine G.go hX 2 (suW W H M P c wt rows gro wx wy mk dp fa ne sl p0 p1, 67, [(0, gr 1), (1, gi v), (2, gr 5), (3, gi x), (4, gi y), (5, gi (min ((W : Int) - 1) (x + ne))), (6, gi (min ((H : Int) - 1) (y + ne))), (7, gi ro), (8, gi (co + 1))], []) rfl trivial ?_
                exact ih67 (co + 1) (by omega) (by exact gnm_next hs3 b91) (by omega)
              ·
                have b91 := gb_n0 b91
                refine G.go hX 1 (suW W H M P c wt rows gro wx wy mk dp fa ne sl p0 p1, 95, [(0, gr 1), (1, gi v), (2, gr 5), (3, gi x), (4, gi y), (5, gi (min ((W : Int) - 1) (x + ne))), (6, gi (min ((H : Int) - 1) (y + ne))), (7, gi ro), (8, gi co)], [gi 1]) rfl trivial ?_
                exact g_zret hX hE rfl (Or.inr rfl) ⟨(congrArg (fun z => some (gi z)) (gb_t (by exact ⟨co, ro, by omega, by omega, by omega, by omega, by omega, by omega, by omega, by omega, b91⟩)).symm), rfl⟩
        exact lp67 _ (max 0 (x - ne)) (by omega) (by intro a b h1 h2 h3 h4 h5 h6 h7 h8 h9; exact hs1 a b h1 h2 h3 h4 h5 h6 h7 h8 (by omega)) (Nat.lt_succ_self _)
  exact lp48 _ (max 0 (y - ne)) (by omega) (by intro a b _ _ _ _ _ _ _ _ h9; omega) (Nat.lt_succ_self _)
set_option maxHeartbeats 4000000 in
set_option maxRecDepth 100000 in
theorem c_X4_isUnmetAt (l : Launch) (D : va_G) (cA : Nat → ClassId) (W : Nat) (H : Nat) (M : Nat) (P : Nat) (c : Int) (wt : Int) (rows : Int → Int) (gro : Int → Int) (wx : Int → Int) (wy : Int → Int) (mk : Int → Int) (dp : Int) (fa : Int) (ne : Int) (sl : Int) (p0 : Int → Int) (p1 : Int → Int) (x : Int) (y : Int) (hW : W ≤ 32) (hH : H ≤ 32) (hP : P = W * H) (hPl : P ≤ 1024) (hfa : 0 ≤ fa ∧ fa ≤ 255) (hne : 0 ≤ ne ∧ ne ≤ 2) (hp0 : ∀ q, 0 ≤ p0 q ∧ p0 q ≤ 255) (hp1 : ∀ q, 0 ≤ p1 q ∧ p1 q ≤ 255) (hx : 0 ≤ x ∧ x < W) (hy : 0 ≤ y ∧ y < H) :
    gC l D cA yX4_isUnmetAt mX4_isUnmetAt (some .boolean) 0 0 [gr 1, gi x, gi y] (suW W H M P c wt rows gro wx wy mk dp fa ne sl p0 p1) (fun r9 w9 => r9 = some (gi (gb (gun W H ne fa p0 p1 x y))) ∧ w9 = suW W H M P c wt rows gro wx wy mk dp fa ne sl p0 p1) := by
  have hix := gix hP hx.1 hx.2 hy.1 hy.2
  have hpa := hp0 (y * W + x)
  have hpb := hp1 (y * W + x)
  refine gC_of rfl kX4_isUnmetAt rfl rfl (Nat.le_of_ble_eq_true rfl) (fun X ad hX hE => ?_)
  refine G.go hX 10 (suW W H M P c wt rows gro wx wy mk dp fa ne sl p0 p1, 14, [(0, gr 1), (1, gi x), (2, gi y), (3, gi ((y * W) + x))], [gi 0, gr 3]) rfl trivial ?_
  refine g_aald hX 4 rfl rfl (by omega) rfl ?_
  refine G.go hX 6 (suW W H M P c wt rows gro wx wy mk dp fa ne sl p0 p1, 24, [(0, gr 1), (1, gi x), (2, gi y), (3, gi ((y * W) + x)), (4, gi (p0 ((y * W) + x)))], [gi 1, gr 3]) rfl ?_ ?_
  · refine ⟨?_, trivial⟩
    · omega
  refine g_aald hX 5 rfl rfl (by omega) rfl ?_
  refine G.go hX 6 (suW W H M P c wt rows gro wx wy mk dp fa ne sl p0 p1, 34, [(0, gr 1), (1, gi x), (2, gi y), (3, gi ((y * W) + x)), (4, gi (p0 ((y * W) + x))), (5, gi (p1 ((y * W) + x)))], [gi (p1 ((y * W) + x)), gi (p0 ((y * W) + x)), gr 1]) rfl ?_ ?_
  · refine ⟨?_, trivial⟩
    · omega
  refine G.callV (av := [gi (p0 ((y * W) + x)), gi (p1 ((y * W) + x))]) (o := 1) (st := []) hX rfl (fun l D cA => c_X4_isClose l D cA W H M P c wt rows gro wx wy mk dp fa ne sl p0 p1 (p0 ((y * W) + x)) (p1 ((y * W) + x)) (by first | assumption | omega) (by first | assumption | omega) (by first | assumption | omega)) (by decide +kernel) aX4_isClose rfl rfl rfl ⟨rfl, rfl⟩ (by decide) (Nat.le_of_ble_eq_true rfl) [0, 1, 2, 3, 4, 5, 6, 7, 8, 9] [] [] rfl rfl rfl (fun r w' hp => ?_)
  obtain ⟨rfl, rfl⟩ := hp
  show G X mX4_isUnmetAt ad 0 0 (suW W H M P c wt rows gro wx wy mk dp fa ne sl p0 p1, 37, [(0, gr 1), (1, gi x), (2, gi y), (3, gi ((y * W) + x)), (4, gi (p0 ((y * W) + x))), (5, gi (p1 ((y * W) + x)))], [gi (gb (gcl fa (p0 ((y * W) + x)) (p1 ((y * W) + x))))])
  refine g_if_eq hX 42 rfl rfl (gb_r _) (fun b37 => ?_) (fun b37 => ?_)
  ·
    have b37 := gb_0.mp b37
    refine G.go hX 5 (suW W H M P c wt rows gro wx wy mk dp fa ne sl p0 p1, 50, [(0, gr 1), (1, gi x), (2, gi y), (3, gi ((y * W) + x)), (4, gi (p0 ((y * W) + x))), (5, gi (p1 ((y * W) + x)))], [gi 1, gr 3, gi (p0 ((y * W) + x)), gr 1]) rfl trivial ?_
    refine g_aald hX 5 rfl rfl (by omega) rfl ?_
    refine G.go hX 2 (suW W H M P c wt rows gro wx wy mk dp fa ne sl p0 p1, 53, [(0, gr 1), (1, gi x), (2, gi y), (3, gi ((y * W) + x)), (4, gi (p0 ((y * W) + x))), (5, gi (p1 ((y * W) + x)))], [gi y, gi x, gr 5, gi (p0 ((y * W) + x)), gr 1]) rfl trivial ?_
    refine G.callV (av := [gi (p0 ((y * W) + x)), gr 5, gi x, gi y]) (o := 1) (st := []) hX rfl (fun l D cA => c_X4_isMet_1 l D cA W H M P c wt rows gro wx wy mk dp fa ne sl p0 p1 (p0 ((y * W) + x)) x y (by first | assumption | omega) (by first | assumption | omega) (by first | assumption | omega) (by first | assumption | omega) (by first | assumption | omega) (by first | assumption | omega) (by first | assumption | omega) (by first | assumption | omega) (by first | assumption | omega) (by first | assumption | omega) (by first | assumption | omega)) (by decide +kernel) aX4_isMet rfl rfl rfl ⟨rfl, rfl⟩ (by decide) (Nat.le_of_ble_eq_true rfl) [0, 1, 2, 3, 4, 5, 6, 7, 8, 9] [] [] rfl rfl rfl (fun r w' hp => ?_)
    obtain ⟨rfl, rfl⟩ := hp
    show G X mX4_isUnmetAt ad 0 0 (suW W H M P c wt rows gro wx wy mk dp fa ne sl p0 p1, 56, [(0, gr 1), (1, gi x), (2, gi y), (3, gi ((y * W) + x)), (4, gi (p0 ((y * W) + x))), (5, gi (p1 ((y * W) + x)))], [gi (gb (gmt W H ne fa (p0 ((y * W) + x)) p1 x y))])
    refine g_if_eq hX 76 rfl rfl (gb_r _) (fun b56 => ?_) (fun b56 => ?_)
    ·
      have b56 := gb_0.mp b56
      refine G.go hX 2 (suW W H M P c wt rows gro wx wy mk dp fa ne sl p0 p1, 81, [(0, gr 1), (1, gi x), (2, gi y), (3, gi ((y * W) + x)), (4, gi (p0 ((y * W) + x))), (5, gi (p1 ((y * W) + x)))], [gi 1]) rfl trivial ?_
      exact g_zret hX hE rfl (Or.inr rfl) ⟨(congrArg (fun z => some (gi z)) (gb_t (by unfold gun; first | exact fun h9 => b56 h9.1 | exact fun h9 => b73 h9.2 | exact fun h9 => h9 ⟨b56, b73⟩)).symm), rfl⟩
    ·
      have b56 := gb_n0 b56
      refine G.go hX 5 (suW W H M P c wt rows gro wx wy mk dp fa ne sl p0 p1, 67, [(0, gr 1), (1, gi x), (2, gi y), (3, gi ((y * W) + x)), (4, gi (p0 ((y * W) + x))), (5, gi (p1 ((y * W) + x)))], [gi 0, gr 3, gi (p1 ((y * W) + x)), gr 1]) rfl trivial ?_
      refine g_aald hX 4 rfl rfl (by omega) rfl ?_
      refine G.go hX 2 (suW W H M P c wt rows gro wx wy mk dp fa ne sl p0 p1, 70, [(0, gr 1), (1, gi x), (2, gi y), (3, gi ((y * W) + x)), (4, gi (p0 ((y * W) + x))), (5, gi (p1 ((y * W) + x)))], [gi y, gi x, gr 4, gi (p1 ((y * W) + x)), gr 1]) rfl trivial ?_
      refine G.callV (av := [gi (p1 ((y * W) + x)), gr 4, gi x, gi y]) (o := 1) (st := []) hX rfl (fun l D cA => c_X4_isMet_0 l D cA W H M P c wt rows gro wx wy mk dp fa ne sl p0 p1 (p1 ((y * W) + x)) x y (by first | assumption | omega) (by first | assumption | omega) (by first | assumption | omega) (by first | assumption | omega) (by first | assumption | omega) (by first | assumption | omega) (by first | assumption | omega) (by first | assumption | omega) (by first | assumption | omega) (by first | assumption | omega) (by first | assumption | omega)) (by decide +kernel) aX4_isMet rfl rfl rfl ⟨rfl, rfl⟩ (by decide) (Nat.le_of_ble_eq_true rfl) [0, 1, 2, 3, 4, 5, 6, 7, 8, 9] [] [] rfl rfl rfl (fun r w' hp => ?_)
      obtain ⟨rfl, rfl⟩ := hp
      show G X mX4_isUnmetAt ad 0 0 (suW W H M P c wt rows gro wx wy mk dp fa ne sl p0 p1, 73, [(0, gr 1), (1, gi x), (2, gi y), (3, gi ((y * W) + x)), (4, gi (p0 ((y * W) + x))), (5, gi (p1 ((y * W) + x)))], [gi (gb (gmt W H ne fa (p1 ((y * W) + x)) p0 x y))])
      refine g_if_ne hX 80 rfl rfl (gb_r _) (fun b73 => ?_) (fun b73 => ?_)
      ·
        have b73 := gb_n0 b73
        refine G.go hX 1 (suW W H M P c wt rows gro wx wy mk dp fa ne sl p0 p1, 81, [(0, gr 1), (1, gi x), (2, gi y), (3, gi ((y * W) + x)), (4, gi (p0 ((y * W) + x))), (5, gi (p1 ((y * W) + x)))], [gi 0]) rfl trivial ?_
        exact g_zret hX hE rfl (Or.inl rfl) ⟨(congrArg (fun z => some (gi z)) (gb_f (by unfold gun; first | exact fun h9 => b56 h9.1 | exact fun h9 => b73 h9.2 | exact fun h9 => h9 ⟨b56, b73⟩)).symm), rfl⟩
      ·
        have b73 := gb_nn b73
        refine G.go hX 2 (suW W H M P c wt rows gro wx wy mk dp fa ne sl p0 p1, 81, [(0, gr 1), (1, gi x), (2, gi y), (3, gi ((y * W) + x)), (4, gi (p0 ((y * W) + x))), (5, gi (p1 ((y * W) + x)))], [gi 1]) rfl trivial ?_
        exact g_zret hX hE rfl (Or.inr rfl) ⟨(congrArg (fun z => some (gi z)) (gb_t (by unfold gun; first | exact fun h9 => b56 h9.1 | exact fun h9 => b73 h9.2 | exact fun h9 => h9 ⟨b56, b73⟩)).symm), rfl⟩
  ·
    have b37 := gb_n0 b37
    refine G.go hX 1 (suW W H M P c wt rows gro wx wy mk dp fa ne sl p0 p1, 41, [(0, gr 1), (1, gi x), (2, gi y), (3, gi ((y * W) + x)), (4, gi (p0 ((y * W) + x))), (5, gi (p1 ((y * W) + x)))], [gi 0]) rfl trivial ?_
    exact g_zret hX hE rfl (Or.inl rfl) ⟨(congrArg (fun z => some (gi z)) (gb_f (by intro h9; exact h9 ⟨gcl_met hne.1 hx hy b37, gcl_met hne.1 hx hy (by unfold gcl at *; omega)⟩)).symm), rfl⟩
set_option maxHeartbeats 4000000 in
set_option maxRecDepth 100000 in
theorem c_X4_holds (l : Launch) (D : va_G) (cA : Nat → ClassId) (W : Nat) (H : Nat) (M : Nat) (P : Nat) (c : Int) (wt : Int) (rows : Int → Int) (gro : Int → Int) (wx : Int → Int) (wy : Int → Int) (mk : Int → Int) (dp : Int) (fa : Int) (ne : Int) (sl : Int) (p0 : Int → Int) (p1 : Int → Int) (x : Int) (y : Int) (hW : W ≤ 32) (hH : H ≤ 32) (hx : inR x) (hy : inR y) :
    gC l D cA yX4_holds mX4_holds (some .boolean) 0 0 [gr 1, gi x, gi y] (suW W H M P c wt rows gro wx wy mk dp fa ne sl p0 p1) (fun r9 w9 => r9 = some (gi (gb ((0 ≤ x ∧ x < W) ∧ 0 ≤ y ∧ y < H))) ∧ w9 = suW W H M P c wt rows gro wx wy mk dp fa ne sl p0 p1) := by
  refine gC_of rfl kX4_holds rfl rfl (Nat.le_of_ble_eq_true rfl) (fun X ad hX hE => ?_)
  refine G.go hX 1 (suW W H M P c wt rows gro wx wy mk dp fa ne sl p0 p1, 1, [(0, gr 1), (1, gi x), (2, gi y)], [gi x]) rfl trivial ?_
  refine g_if_lt hX 28 rfl rfl ⟨by omega, by omega⟩ (fun b1 => ?_) (fun b1 => ?_)
  ·
    refine G.go hX 1 (suW W H M P c wt rows gro wx wy mk dp fa ne sl p0 p1, 29, [(0, gr 1), (1, gi x), (2, gi y)], [gi 0]) rfl trivial ?_
    exact g_zret hX hE rfl (Or.inl rfl) ⟨(congrArg (fun z => some (gi z)) (gb_f (by omega)).symm), rfl⟩
  ·
    refine G.go hX 3 (suW W H M P c wt rows gro wx wy mk dp fa ne sl p0 p1, 9, [(0, gr 1), (1, gi x), (2, gi y)], [gi W, gi x]) rfl trivial ?_
    refine g_icmp_ge hX 28 rfl rfl ⟨by omega, by omega⟩ ⟨by omega, by omega⟩ (fun b9 => ?_) (fun b9 => ?_)
    ·
      refine G.go hX 1 (suW W H M P c wt rows gro wx wy mk dp fa ne sl p0 p1, 29, [(0, gr 1), (1, gi x), (2, gi y)], [gi 0]) rfl trivial ?_
      exact g_zret hX hE rfl (Or.inl rfl) ⟨(congrArg (fun z => some (gi z)) (gb_f (by omega)).symm), rfl⟩
    ·
      refine G.go hX 1 (suW W H M P c wt rows gro wx wy mk dp fa ne sl p0 p1, 13, [(0, gr 1), (1, gi x), (2, gi y)], [gi y]) rfl trivial ?_
      refine g_if_lt hX 28 rfl rfl ⟨by omega, by omega⟩ (fun b13 => ?_) (fun b13 => ?_)
      ·
        refine G.go hX 1 (suW W H M P c wt rows gro wx wy mk dp fa ne sl p0 p1, 29, [(0, gr 1), (1, gi x), (2, gi y)], [gi 0]) rfl trivial ?_
        exact g_zret hX hE rfl (Or.inl rfl) ⟨(congrArg (fun z => some (gi z)) (gb_f (by omega)).symm), rfl⟩
      ·
        refine G.go hX 3 (suW W H M P c wt rows gro wx wy mk dp fa ne sl p0 p1, 21, [(0, gr 1), (1, gi x), (2, gi y)], [gi H, gi y]) rfl trivial ?_
        refine g_icmp_ge hX 28 rfl rfl ⟨by omega, by omega⟩ ⟨by omega, by omega⟩ (fun b21 => ?_) (fun b21 => ?_)
        ·
          refine G.go hX 1 (suW W H M P c wt rows gro wx wy mk dp fa ne sl p0 p1, 29, [(0, gr 1), (1, gi x), (2, gi y)], [gi 0]) rfl trivial ?_
          exact g_zret hX hE rfl (Or.inl rfl) ⟨(congrArg (fun z => some (gi z)) (gb_f (by omega)).symm), rfl⟩
        ·
          refine G.go hX 2 (suW W H M P c wt rows gro wx wy mk dp fa ne sl p0 p1, 29, [(0, gr 1), (1, gi x), (2, gi y)], [gi 1]) rfl trivial ?_
          exact g_zret hX hE rfl (Or.inr rfl) ⟨(congrArg (fun z => some (gi z)) (gb_t (by omega)).symm), rfl⟩
set_option maxHeartbeats 4000000 in
set_option maxRecDepth 100000 in
theorem c_X4_put_0 (l : Launch) (D : va_G) (cA : Nat → ClassId) (W : Nat) (H : Nat) (M : Nat) (P : Nat) (c : Int) (wt : Int) (rows : Int → Int) (gro : Int → Int) (wx : Int → Int) (wy : Int → Int) (mk : Int → Int) (dp : Int) (fa : Int) (ne : Int) (sl : Int) (p0 : Int → Int) (p1 : Int → Int) (x : Int) (y : Int) (v : Int) (hW : W ≤ 32) (hH : H ≤ 32) (hP : P = W * H) (hPl : P ≤ 1024) (hx : 0 ≤ x ∧ x < W) (hy : 0 ≤ y ∧ y < H) :
    gC l D cA yX4_put mX4_put (some .int) 0 0 [gr 1, gi 0, gi x, gi y, gi v] (suW W H M P c wt rows gro wx wy mk dp fa ne sl p0 p1) (fun r9 w9 => r9 = some (gi (p0 (y * W + x))) ∧ w9 = suW W H M P c wt rows gro wx wy mk dp fa ne 1 (gu p0 (y * W + x) v) p1) := by
  have hix := gix hP hx.1 hx.2 hy.1 hy.2
  refine gC_of rfl kX4_put rfl rfl (Nat.le_of_ble_eq_true rfl) (fun X ad hX hE => ?_)
  refine G.go hX 10 (suW W H M P c wt rows gro wx wy mk dp fa ne sl p0 p1, 15, [(0, gr 1), (1, gi 0), (2, gi x), (3, gi y), (4, gi v), (5, gi ((y * W) + x))], [gi 0, gr 3]) rfl trivial ?_
  refine g_aald hX 4 rfl rfl (by omega) rfl ?_
  refine G.go hX 6 (suW W H M P c wt rows gro wx wy mk dp fa ne sl p0 p1, 26, [(0, gr 1), (1, gi 0), (2, gi x), (3, gi y), (4, gi v), (5, gi ((y * W) + x)), (6, gi (p0 ((y * W) + x)))], [gi 0, gr 3]) rfl ?_ ?_
  · refine ⟨?_, trivial⟩
    · omega
  refine g_aald hX 4 rfl rfl (by omega) rfl ?_
  refine G.go hX 7 (suW W H M P c wt rows gro wx wy mk dp fa ne 1 (gu p0 ((y * W) + x) v) p1, 39, [(0, gr 1), (1, gi 0), (2, gi x), (3, gi y), (4, gi v), (5, gi ((y * W) + x)), (6, gi (p0 ((y * W) + x)))], [gi (p0 ((y * W) + x))]) rfl ?_ ?_
  · refine ⟨?_, ?_, trivial⟩
    · omega
    · omega
  exact g_iret hX hE rfl ⟨(congrArg (fun z => some (gi z)) (by first | rfl | (omega))), (by first | rfl | (omega))⟩
set_option maxHeartbeats 4000000 in
set_option maxRecDepth 100000 in
theorem c_X4_put_1 (l : Launch) (D : va_G) (cA : Nat → ClassId) (W : Nat) (H : Nat) (M : Nat) (P : Nat) (c : Int) (wt : Int) (rows : Int → Int) (gro : Int → Int) (wx : Int → Int) (wy : Int → Int) (mk : Int → Int) (dp : Int) (fa : Int) (ne : Int) (sl : Int) (p0 : Int → Int) (p1 : Int → Int) (x : Int) (y : Int) (v : Int) (hW : W ≤ 32) (hH : H ≤ 32) (hP : P = W * H) (hPl : P ≤ 1024) (hx : 0 ≤ x ∧ x < W) (hy : 0 ≤ y ∧ y < H) :
    gC l D cA yX4_put mX4_put (some .int) 0 0 [gr 1, gi 1, gi x, gi y, gi v] (suW W H M P c wt rows gro wx wy mk dp fa ne sl p0 p1) (fun r9 w9 => r9 = some (gi (p1 (y * W + x))) ∧ w9 = suW W H M P c wt rows gro wx wy mk dp fa ne 1 p0 (gu p1 (y * W + x) v)) := by
  have hix := gix hP hx.1 hx.2 hy.1 hy.2
  refine gC_of rfl kX4_put rfl rfl (Nat.le_of_ble_eq_true rfl) (fun X ad hX hE => ?_)
  refine G.go hX 10 (suW W H M P c wt rows gro wx wy mk dp fa ne sl p0 p1, 15, [(0, gr 1), (1, gi 1), (2, gi x), (3, gi y), (4, gi v), (5, gi ((y * W) + x))], [gi 1, gr 3]) rfl trivial ?_
  refine g_aald hX 5 rfl rfl (by omega) rfl ?_
  refine G.go hX 6 (suW W H M P c wt rows gro wx wy mk dp fa ne sl p0 p1, 26, [(0, gr 1), (1, gi 1), (2, gi x), (3, gi y), (4, gi v), (5, gi ((y * W) + x)), (6, gi (p1 ((y * W) + x)))], [gi 1, gr 3]) rfl ?_ ?_
  · refine ⟨?_, trivial⟩
    · omega
  refine g_aald hX 5 rfl rfl (by omega) rfl ?_
  refine G.go hX 7 (suW W H M P c wt rows gro wx wy mk dp fa ne 1 p0 (gu p1 ((y * W) + x) v), 39, [(0, gr 1), (1, gi 1), (2, gi x), (3, gi y), (4, gi v), (5, gi ((y * W) + x)), (6, gi (p1 ((y * W) + x)))], [gi (p1 ((y * W) + x))]) rfl ?_ ?_
  · refine ⟨?_, ?_, trivial⟩
    · omega
    · omega
  exact g_iret hX hE rfl ⟨(congrArg (fun z => some (gi z)) (by first | rfl | (omega))), (by first | rfl | (omega))⟩
set_option maxHeartbeats 4000000 in
set_option maxRecDepth 100000 in
theorem c_X4_limit (l : Launch) (D : va_G) (cA : Nat → ClassId) (W : Nat) (H : Nat) (M : Nat) (P : Nat) (c : Int) (wt : Int) (rows : Int → Int) (gro : Int → Int) (wx : Int → Int) (wy : Int → Int) (mk : Int → Int) (dp : Int) (fa : Int) (ne : Int) (sl : Int) (p0 : Int → Int) (p1 : Int → Int) (a : Int) (b : Int)  :
    gC l D cA yX4_limit mX4_limit (some .int) 0 0 [gr 1, gi a, gi b] (suW W H M P c wt rows gro wx wy mk dp fa ne sl p0 p1) (fun r9 w9 => r9 = some (gi (10 * fa + ne)) ∧ w9 = suW W H M P c wt rows gro wx wy mk dp a b 1 p0 p1) := by
  refine gC_of rfl kX4_limit rfl rfl (Nat.le_of_ble_eq_true rfl) (fun X ad hX hE => ?_)
  refine G.go hX 18 (suW W H M P c wt rows gro wx wy mk dp a b 1 p0 p1, 29, [(0, gr 1), (1, gi a), (2, gi b), (3, gi ((10 * fa) + ne))], [gi ((10 * fa) + ne)]) rfl ?_ ?_
  · refine ⟨?_, trivial⟩
    · omega
  exact g_iret hX hE rfl ⟨(congrArg (fun z => some (gi z)) (by first | rfl | (omega))), rfl⟩
end
section
set_option maxHeartbeats 4000000 in
set_option maxRecDepth 100000 in
theorem c_X4_refresh (l : Launch) (D : va_G) (cA : Nat → ClassId) (W : Nat) (H : Nat) (M : Nat) (P : Nat) (c : Int) (wt : Int) (rows : Int → Int) (gro : Int → Int) (wx : Int → Int) (wy : Int → Int) (mk : Int → Int) (dp : Int) (fa : Int) (ne : Int) (sl : Int) (p0 : Int → Int) (p1 : Int → Int) (hW : W ≤ 32) (hH : H ≤ 32) (hP : P = W * H) (hPl : P ≤ 1024) (hM : M = ((W + 1) / 2) * ((H + 1) / 2)) (hMl : M ≤ 256) (hfa : 0 ≤ fa ∧ fa ≤ 255) (hne : 0 ≤ ne ∧ ne ≤ 2) (hp0 : ∀ q, 0 ≤ p0 q ∧ p0 q ≤ 255) (hp1 : ∀ q, 0 ≤ p1 q ∧ p1 q ≤ 255) (hsl : sl = 0 ∨ sl = 1) (hrr : ∀ j : Int, inR (rows j)) (hgr : ∀ j : Int, inR (gro j)) (hmo : ∀ q : Int, ¬ (0 ≤ q ∧ q < P) → mk q = 0) (hval : sl = 0 → gVal W H P M ne fa p0 p1 dp c rows) :
    gC l D cA yX4_refresh mX4_refresh none 0 0 [gr 1] (suW W H M P c wt rows gro wx wy mk dp fa ne sl p0 p1) (fun r9 w9 => ∃ (c2 : Int) (wt2 : Int) (rows2 : Int → Int) (gro2 : Int → Int) (wx2 : Int → Int) (wy2 : Int → Int) (mk2 : Int → Int) (dp2 : Int), r9 = none ∧ w9 = suW W H M P c2 wt2 rows2 gro2 wx2 wy2 mk2 dp2 fa ne 0 p0 p1 ∧ (gVal W H P M ne fa p0 p1 dp2 c2 rows2) ∧ (∀ j : Int, inR (rows2 j)) ∧ (∀ j : Int, inR (gro2 j)) ∧ (∀ q : Int, ¬ (0 ≤ q ∧ q < P) → mk2 q = 0)) := by
  refine gC_of rfl kX4_refresh rfl rfl (Nat.le_of_ble_eq_true rfl) (fun X ad hX hE => ?_)
  refine G.go hX 2 (suW W H M P c wt rows gro wx wy mk dp fa ne sl p0 p1, 4, [(0, gr 1)], [gi sl]) rfl trivial ?_
  refine g_if_ne hX 8 rfl rfl ⟨by omega, by omega⟩ (fun b4 => ?_) (fun b4 => ?_)
  ·
    refine G.go hX 5 (suW W H M P c wt rows gro wx wy mk 0 fa ne sl p0 p1, 15, [(0, gr 1), (1, gi 0)], []) rfl trivial ?_
    have lp15 : ∀ (n : Nat) (y : Int) (mk1 : Int → Int) (dp1 : Int), (0 ≤ y ∧ y ≤ H) → (dp1 = gsm (gmk W H P ne fa p0 p1) (y * W + 0).toNat) → (∀ q, 0 ≤ q → q < y * W + 0 → mk1 q = gmk W H P ne fa p0 p1 q) → (∀ q : Int, ¬ (0 ≤ q ∧ q < P) → mk1 q = 0) → (H - y).toNat < n → G X mX4_refresh ad 0 0 (suW W H M P c wt rows gro wx wy mk1 dp1 fa ne sl p0 p1, 15, [(0, gr 1), (1, gi y)], []) := by
      intro n
      induction n with
      | zero => intro y mk1 dp1 hy hd1 hk1 ho1 hm9; exact absurd hm9 (Nat.not_lt_zero _)
      | succ n ih15 =>
        intro y mk1 dp1 hy hd1 hk1 ho1 hm15
        refine G.go hX 3 (suW W H M P c wt rows gro wx wy mk1 dp1 fa ne sl p0 p1, 20, [(0, gr 1), (1, gi y)], [gi H, gi y]) rfl trivial ?_
        refine g_icmp_ge hX 84 rfl rfl ⟨by omega, by omega⟩ ⟨by omega, by omega⟩ (fun b20 => ?_) (fun b20 => ?_)
        ·
          have hyH : y * W = P := by (rw [show y = H by omega, hP]; simp [Int.mul_comm])
          have hmkE : mk1 = gmk W H P ne fa p0 p1 := by
            funext q
            by_cases hq : 0 ≤ q ∧ q < P
            · exact hk1 q hq.1 (by omega)
            · rw [ho1 q hq]; exact (gb_f (fun h9 => hq h9.1)).symm
          refine G.go hX 8 (suW W H M P c wt rows gro wx wy mk1 dp1 fa ne sl p0 p1, 98, [(0, gr 1), (1, gi y)], [gi (ne + 1), gr 6, gr 2]) rfl trivial ?_
          refine G.callV (av := [gr 6, gi (ne + 1)]) (o := 2) (st := []) hX rfl (fun l D cA => c_X1_gather l D cA W H M P c wt rows gro wx wy mk1 (ne + 1) (by first | assumption | omega) (by first | assumption | omega) (by first | assumption | omega) (by first | assumption | omega) (by first | assumption | omega) (by first | assumption | omega) ⟨by omega, by omega⟩ (by rw [hmkE]; exact gmk_01 W H P ne fa p0 p1) (by rw [hmkE]; exact gmk_in) (by first | assumption | omega) (by first | assumption | omega)) (by decide +kernel) aX1_gather rfl rfl rfl ⟨rfl, rfl⟩ (by decide) (Nat.le_of_ble_eq_true rfl) [4, 5, 6, 7, 8, 9] [0, 1, 2, 3] [(1, gob 5 [gr 2, gi dp1, gi W, gi H, gr 3, gr 6, gi fa, gi ne, gi sl]), (3, gar 2 2 ptq), (4, gai 0 P p0), (5, gai 0 P p1)] rfl rfl rfl (fun r w' hp => ?_)
          obtain ⟨c5, wt5, rows5, gro5, wx5, wy5, mk5, rfl, rfl, hq0, hq1, hq2, hq3, hq4⟩ := hp
          refine G.perm (suW W H M P c5 wt5 rows5 gro5 wx5 wy5 mk5 dp1 fa ne sl p0 p1) [0, 1, 2, 3, 4, 5, 6, 7, 8, 9] rfl rfl ?_
          show G X mX4_refresh ad 0 0 (suW W H M P c5 wt5 rows5 gro5 wx5 wy5 mk5 dp1 fa ne sl p0 p1, 101, [(0, gr 1), (1, gi y)], [])
          refine G.go hX 3 (suW W H M P c5 wt5 rows5 gro5 wx5 wy5 mk5 dp1 fa ne 0 p0 p1, 106, [(0, gr 1), (1, gi y)], []) rfl ?_ ?_
          · refine ⟨?_, trivial⟩
            · omega
          exact g_vret hX hE rfl ⟨c5, wt5, rows5, gro5, wx5, wy5, mk5, dp1, rfl, rfl, ⟨by rw [hd1, show (y * (W : Int) + 0).toNat = P by omega], by rw [← hmkE]; exact hq0, hq1, hq2⟩, hq0.2.1, hq3, fun q _ => hq4 q⟩
        ·
          refine G.go hX 2 (suW W H M P c wt rows gro wx wy mk1 dp1 fa ne sl p0 p1, 25, [(0, gr 1), (1, gi y), (2, gi 0)], []) rfl trivial ?_
          have lp25 : ∀ (n : Nat) (x : Int) (mk3 : Int → Int) (dp3 : Int), (0 ≤ x ∧ x ≤ W) → (dp3 = gsm (gmk W H P ne fa p0 p1) (y * W + x).toNat) → (∀ q, 0 ≤ q → q < y * W + x → mk3 q = gmk W H P ne fa p0 p1 q) → (∀ q : Int, ¬ (0 ≤ q ∧ q < P) → mk3 q = 0) → (W - x).toNat < n → G X mX4_refresh ad 0 0 (suW W H M P c wt rows gro wx wy mk3 dp3 fa ne sl p0 p1, 25, [(0, gr 1), (1, gi y), (2, gi x)], []) := by
            intro n
            induction n with
            | zero => intro x mk3 dp3 hx hd3 hk3 ho3 hm9; exact absurd hm9 (Nat.not_lt_zero _)
            | succ n ih25 =>
              intro x mk3 dp3 hx hd3 hk3 ho3 hm25
              refine G.go hX 3 (suW W H M P c wt rows gro wx wy mk3 dp3 fa ne sl p0 p1, 30, [(0, gr 1), (1, gi y), (2, gi x)], [gi W, gi x]) rfl trivial ?_
              refine g_icmp_ge hX 78 rfl rfl ⟨by omega, by omega⟩ ⟨by omega, by omega⟩ (fun b30 => ?_) (fun b30 => ?_)
              ·
                refine G.go hX 2 (suW W H M P c wt rows gro wx wy mk3 dp3 fa ne sl p0 p1, 15, [(0, gr 1), (1, gi (y + 1)), (2, gi x)], []) rfl trivial ?_
                refine G.locs [(0, gr 1), (1, gi (y + 1))] [0, 1] rfl ?_
                exact ih15 (y + 1) mk3 dp3 (by omega) (by rw [hd3, show (y + 1) * (W : Int) + 0 = y * W + x by (rw [show x = (W : Int) by omega, Int.add_mul]; omega)]) (by rw [show (y + 1) * (W : Int) + 0 = y * W + x by (rw [show x = (W : Int) by omega, Int.add_mul]; omega)]; exact hk3) (by exact ho3) (by omega)
              ·
                have hix := gix hP (x := x) (y := y) (by omega) (by omega) (by omega) (by omega)
                refine G.go hX 3 (suW W H M P c wt rows gro wx wy mk3 dp3 fa ne sl p0 p1, 36, [(0, gr 1), (1, gi y), (2, gi x)], [gi y, gi x, gr 1]) rfl trivial ?_
                refine G.callV (av := [gi x, gi y]) (o := 1) (st := []) hX rfl (fun l D cA => c_X4_isUnmetAt l D cA W H M P c wt rows gro wx wy mk3 dp3 fa ne sl p0 p1 x y (by first | assumption | omega) (by first | assumption | omega) (by first | assumption | omega) (by first | assumption | omega) (by first | assumption | omega) (by first | assumption | omega) (by first | assumption | omega) (by first | assumption | omega) ⟨by omega, by omega⟩ ⟨by omega, by omega⟩) (by decide +kernel) aX4_isUnmetAt rfl rfl rfl ⟨rfl, rfl⟩ (by decide) (Nat.le_of_ble_eq_true rfl) [0, 1, 2, 3, 4, 5, 6, 7, 8, 9] [] [] rfl rfl rfl (fun r w' hp => ?_)
                obtain ⟨rfl, rfl⟩ := hp
                show G X mX4_refresh ad 0 0 (suW W H M P c wt rows gro wx wy mk3 dp3 fa ne sl p0 p1, 39, [(0, gr 1), (1, gi y), (2, gi x)], [gi (gb (gun W H ne fa p0 p1 x y))])
                refine G.go hX 15 (suW W H M P c wt rows gro wx wy (gu mk3 ((y * W) + x) (gb (gun W H ne fa p0 p1 x y))) dp3 fa ne sl p0 p1, 60, [(0, gr 1), (1, gi y), (2, gi x), (3, gi (gb (gun W H ne fa p0 p1 x y)))], [gi (gb (gun W H ne fa p0 p1 x y)), gi dp3, gr 1]) rfl ?_ ?_
                · refine ⟨?_, trivial⟩
                  · exact ⟨⟨by omega, by omega, by omega⟩, gb_01 _⟩
                refine g_if_eq hX 67 rfl rfl (gb_r _) (fun b60 => ?_) (fun b60 => ?_)
                ·
                  have b60 := gb_0.mp b60
                  refine G.go hX 5 (suW W H M P c wt rows gro wx wy (gu mk3 ((y * W) + x) (gb (gun W H ne fa p0 p1 x y))) (dp3 + 0) fa ne sl p0 p1, 25, [(0, gr 1), (1, gi y), (2, gi (x + 1)), (3, gi (gb (gun W H ne fa p0 p1 x y)))], []) rfl trivial ?_
                  refine G.locs [(0, gr 1), (1, gi y), (2, gi (x + 1))] [0, 1, 2] rfl ?_
                  exact ih25 (x + 1) (gu mk3 ((y * W) + x) (gb (gun W H ne fa p0 p1 x y))) (dp3 + 0) (by omega) (by have h9 := gdp_next (x := x) (y := y) hP ⟨by omega, by omega⟩ ⟨by omega, by omega⟩ hd3; first | (rw [gb_t b60] at h9; exact h9) | (rw [gb_f b60] at h9; exact h9)) (by intro q h1 h2; by_cases e9 : q = y * W + x; (rw [e9, gu_s, gmk_at hP ⟨by omega, by omega⟩ ⟨by omega, by omega⟩]); (rw [gu_n _ _ e9]; exact hk3 q h1 (by omega))) (by intro q h1; rw [gu_n _ _ (fun e9 => h1 (by rw [e9]; exact hix))]; exact ho3 q h1) (by omega)
                ·
                  have b60 := gb_n0 b60
                  refine G.go hX 6 (suW W H M P c wt rows gro wx wy (gu mk3 ((y * W) + x) (gb (gun W H ne fa p0 p1 x y))) (dp3 + 1) fa ne sl p0 p1, 25, [(0, gr 1), (1, gi y), (2, gi (x + 1)), (3, gi (gb (gun W H ne fa p0 p1 x y)))], []) rfl trivial ?_
                  refine G.locs [(0, gr 1), (1, gi y), (2, gi (x + 1))] [0, 1, 2] rfl ?_
                  exact ih25 (x + 1) (gu mk3 ((y * W) + x) (gb (gun W H ne fa p0 p1 x y))) (dp3 + 1) (by omega) (by have h9 := gdp_next (x := x) (y := y) hP ⟨by omega, by omega⟩ ⟨by omega, by omega⟩ hd3; first | (rw [gb_t b60] at h9; exact h9) | (rw [gb_f b60] at h9; exact h9)) (by intro q h1 h2; by_cases e9 : q = y * W + x; (rw [e9, gu_s, gmk_at hP ⟨by omega, by omega⟩ ⟨by omega, by omega⟩]); (rw [gu_n _ _ e9]; exact hk3 q h1 (by omega))) (by intro q h1; rw [gu_n _ _ (fun e9 => h1 (by rw [e9]; exact hix))]; exact ho3 q h1) (by omega)
          exact lp25 _ 0 mk1 dp1 (by omega) (by exact hd1) (by exact hk1) (by exact ho1) (Nat.lt_succ_self _)
    exact lp15 _ 0 mk 0 (by omega) (by rw [show ((0 : Int) * W + 0).toNat = 0 by omega]; rfl) (by intro q h1 h2; omega) (by exact hmo) (Nat.lt_succ_self _)
  ·
    have hs0 : sl = 0 := by omega
    exact g_vret hX hE rfl ⟨c, wt, rows, gro, wx, wy, mk, dp, rfl, by rw [hs0], hval hs0, hrr, hgr, hmo⟩
end
section
abbrev pgW (w0 w1 h0 h1 : Int → Int) : gW := [(24, gob 3 [gr 25, gr 28]), (25, gar 2 2 wdq), (26, gai 0 20 w0), (27, gai 0 20 w1), (28, gar 2 2 htq), (29, gai 0 20 h0), (30, gai 0 20 h1)]
set_option maxHeartbeats 4000000 in
set_option maxRecDepth 100000 in
theorem c_X2_isThere_0 (l : Launch) (D : va_G) (cA : Nat → ClassId) (w0 : Int → Int) (w1 : Int → Int) (h0 : Int → Int) (h1 : Int → Int) (p : Int) (hpg : 0 ≤ p ∧ p < 20) (hsz : ∀ q : Int, (inR (w0 q) ∧ inR (w1 q)) ∧ inR (h0 q) ∧ inR (h1 q)) :
    gC l D cA yX2_isThere mX2_isThere (some .boolean) 0 0 [gr 24, gi 0, gi p] (pgW w0 w1 h0 h1) (fun r9 w9 => r9 = some (gi (gb (0 < w0 p))) ∧ w9 = pgW w0 w1 h0 h1) := by
  refine gC_of rfl kX2_isThere rfl rfl (Nat.le_of_ble_eq_true rfl) (fun X ad hX hE => ?_)
  refine G.go hX 3 (pgW w0 w1 h0 h1, 5, [(0, gr 24), (1, gi 0), (2, gi p)], [gi 0, gr 25]) rfl trivial ?_
  refine g_aald hX 26 rfl rfl (by omega) rfl ?_
  refine G.go hX 2 (pgW w0 w1 h0 h1, 8, [(0, gr 24), (1, gi 0), (2, gi p)], [gi (w0 p)]) rfl ?_ ?_
  · refine ⟨?_, trivial⟩
    · omega
  refine g_if_le hX 15 rfl rfl ((hsz p).1.1) (fun b8 => ?_) (fun b8 => ?_)
  ·
    refine G.go hX 1 (pgW w0 w1 h0 h1, 16, [(0, gr 24), (1, gi 0), (2, gi p)], [gi 0]) rfl trivial ?_
    exact g_zret hX hE rfl (Or.inl rfl) ⟨(congrArg (fun z => some (gi z)) (gb_f (by omega)).symm), rfl⟩
  ·
    refine G.go hX 2 (pgW w0 w1 h0 h1, 16, [(0, gr 24), (1, gi 0), (2, gi p)], [gi 1]) rfl trivial ?_
    exact g_zret hX hE rfl (Or.inr rfl) ⟨(congrArg (fun z => some (gi z)) (gb_t (by omega)).symm), rfl⟩
set_option maxHeartbeats 4000000 in
set_option maxRecDepth 100000 in
theorem c_X2_isThere_1 (l : Launch) (D : va_G) (cA : Nat → ClassId) (w0 : Int → Int) (w1 : Int → Int) (h0 : Int → Int) (h1 : Int → Int) (p : Int) (hpg : 0 ≤ p ∧ p < 20) (hsz : ∀ q : Int, (inR (w0 q) ∧ inR (w1 q)) ∧ inR (h0 q) ∧ inR (h1 q)) :
    gC l D cA yX2_isThere mX2_isThere (some .boolean) 0 0 [gr 24, gi 1, gi p] (pgW w0 w1 h0 h1) (fun r9 w9 => r9 = some (gi (gb (0 < w1 p))) ∧ w9 = pgW w0 w1 h0 h1) := by
  refine gC_of rfl kX2_isThere rfl rfl (Nat.le_of_ble_eq_true rfl) (fun X ad hX hE => ?_)
  refine G.go hX 3 (pgW w0 w1 h0 h1, 5, [(0, gr 24), (1, gi 1), (2, gi p)], [gi 1, gr 25]) rfl trivial ?_
  refine g_aald hX 27 rfl rfl (by omega) rfl ?_
  refine G.go hX 2 (pgW w0 w1 h0 h1, 8, [(0, gr 24), (1, gi 1), (2, gi p)], [gi (w1 p)]) rfl ?_ ?_
  · refine ⟨?_, trivial⟩
    · omega
  refine g_if_le hX 15 rfl rfl ((hsz p).1.2) (fun b8 => ?_) (fun b8 => ?_)
  ·
    refine G.go hX 1 (pgW w0 w1 h0 h1, 16, [(0, gr 24), (1, gi 1), (2, gi p)], [gi 0]) rfl trivial ?_
    exact g_zret hX hE rfl (Or.inl rfl) ⟨(congrArg (fun z => some (gi z)) (gb_f (by omega)).symm), rfl⟩
  ·
    refine G.go hX 2 (pgW w0 w1 h0 h1, 16, [(0, gr 24), (1, gi 1), (2, gi p)], [gi 1]) rfl trivial ?_
    exact g_zret hX hE rfl (Or.inr rfl) ⟨(congrArg (fun z => some (gi z)) (gb_t (by omega)).symm), rfl⟩
set_option maxHeartbeats 4000000 in
set_option maxRecDepth 100000 in
theorem c_X2_put_0 (l : Launch) (D : va_G) (cA : Nat → ClassId) (w0 : Int → Int) (w1 : Int → Int) (h0 : Int → Int) (h1 : Int → Int) (p : Int) (w : Int) (h : Int) (hpg : 0 ≤ p ∧ p < 20) :
    gC l D cA yX2_put mX2_put none 0 0 [gr 24, gi 0, gi p, gi w, gi h] (pgW w0 w1 h0 h1) (fun r9 w9 => r9 = none ∧ w9 = pgW (gu w0 p w) w1 (gu h0 p h) h1) := by
  refine gC_of rfl kX2_put rfl rfl (Nat.le_of_ble_eq_true rfl) (fun X ad hX hE => ?_)
  refine G.go hX 3 (pgW w0 w1 h0 h1, 5, [(0, gr 24), (1, gi 0), (2, gi p), (3, gi w), (4, gi h)], [gi 0, gr 25]) rfl trivial ?_
  refine g_aald hX 26 rfl rfl (by omega) rfl ?_
  refine G.go hX 6 (pgW (gu w0 p w) w1 h0 h1, 14, [(0, gr 24), (1, gi 0), (2, gi p), (3, gi w), (4, gi h)], [gi 0, gr 28]) rfl ?_ ?_
  · refine ⟨?_, trivial⟩
    · omega
  refine g_aald hX 29 rfl rfl (by omega) rfl ?_
  refine G.go hX 3 (pgW (gu w0 p w) w1 (gu h0 p h) h1, 19, [(0, gr 24), (1, gi 0), (2, gi p), (3, gi w), (4, gi h)], []) rfl ?_ ?_
  · refine ⟨?_, trivial⟩
    · omega
  exact g_vret hX hE rfl ⟨rfl, rfl⟩
set_option maxHeartbeats 4000000 in
set_option maxRecDepth 100000 in
theorem c_X2_put_1 (l : Launch) (D : va_G) (cA : Nat → ClassId) (w0 : Int → Int) (w1 : Int → Int) (h0 : Int → Int) (h1 : Int → Int) (p : Int) (w : Int) (h : Int) (hpg : 0 ≤ p ∧ p < 20) :
    gC l D cA yX2_put mX2_put none 0 0 [gr 24, gi 1, gi p, gi w, gi h] (pgW w0 w1 h0 h1) (fun r9 w9 => r9 = none ∧ w9 = pgW w0 (gu w1 p w) h0 (gu h1 p h)) := by
  refine gC_of rfl kX2_put rfl rfl (Nat.le_of_ble_eq_true rfl) (fun X ad hX hE => ?_)
  refine G.go hX 3 (pgW w0 w1 h0 h1, 5, [(0, gr 24), (1, gi 1), (2, gi p), (3, gi w), (4, gi h)], [gi 1, gr 25]) rfl trivial ?_
  refine g_aald hX 27 rfl rfl (by omega) rfl ?_
  refine G.go hX 6 (pgW w0 (gu w1 p w) h0 h1, 14, [(0, gr 24), (1, gi 1), (2, gi p), (3, gi w), (4, gi h)], [gi 1, gr 28]) rfl ?_ ?_
  · refine ⟨?_, trivial⟩
    · omega
  refine g_aald hX 30 rfl rfl (by omega) rfl ?_
  refine G.go hX 3 (pgW w0 (gu w1 p w) h0 (gu h1 p h), 19, [(0, gr 24), (1, gi 1), (2, gi p), (3, gi w), (4, gi h)], []) rfl ?_ ?_
  · refine ⟨?_, trivial⟩
    · omega
  exact g_vret hX hE rfl ⟨rfl, rfl⟩
set_option maxHeartbeats 4000000 in
set_option maxRecDepth 100000 in
theorem c_X2_hasOtherSizes (l : Launch) (D : va_G) (cA : Nat → ClassId) (w0 : Int → Int) (w1 : Int → Int) (h0 : Int → Int) (h1 : Int → Int) (p : Int) (hpg : 0 ≤ p ∧ p < 20) (hsz : ∀ q : Int, (inR (w0 q) ∧ inR (w1 q)) ∧ inR (h0 q) ∧ inR (h1 q)) :
    gC l D cA yX2_hasOtherSizes mX2_hasOtherSizes (some .boolean) 0 0 [gr 24, gi p] (pgW w0 w1 h0 h1) (fun r9 w9 => r9 = some (gi (gb (gos w0 w1 h0 h1 p))) ∧ w9 = pgW w0 w1 h0 h1) := by
  refine gC_of rfl kX2_hasOtherSizes rfl rfl (Nat.le_of_ble_eq_true rfl) (fun X ad hX hE => ?_)
  refine G.go hX 3 (pgW w0 w1 h0 h1, 3, [(0, gr 24), (1, gi p)], [gi p, gi 0, gr 24]) rfl trivial ?_
  refine G.callV (av := [gi 0, gi p]) (o := 24) (st := []) hX rfl (fun l D cA => c_X2_isThere_0 l D cA w0 w1 h0 h1 p (by first | assumption | omega) (by first | assumption | omega)) (by decide +kernel) aX2_isThere rfl rfl rfl ⟨rfl, rfl⟩ (by decide) (Nat.le_of_ble_eq_true rfl) [0, 1, 2, 3, 4, 5, 6] [] [] rfl rfl rfl (fun r w' hp => ?_)
  obtain ⟨rfl, rfl⟩ := hp
  show G X mX2_hasOtherSizes ad 0 0 (pgW w0 w1 h0 h1, 6, [(0, gr 24), (1, gi p)], [gi (gb (0 < w0 p))])
  refine g_if_eq hX 60 rfl rfl (gb_r _) (fun b6 => ?_) (fun b6 => ?_)
  ·
    have b6 := gb_0.mp b6
    refine G.go hX 1 (pgW w0 w1 h0 h1, 61, [(0, gr 24), (1, gi p)], [gi 0]) rfl trivial ?_
    exact g_zret hX hE rfl (Or.inl rfl) ⟨(congrArg (fun z => some (gi z)) (gb_f (by unfold gos; first | exact fun h9 => b6 h9.1 | exact fun h9 => b15 h9.2.1 | exact ⟨b6, b15, Or.inl b34⟩ | exact ⟨b6, b15, Or.inr b53⟩ | (intro h9; have := h9.2.2; omega))).symm), rfl⟩
  ·
    have b6 := gb_n0 b6
    refine G.go hX 3 (pgW w0 w1 h0 h1, 12, [(0, gr 24), (1, gi p)], [gi p, gi 1, gr 24]) rfl trivial ?_
    refine G.callV (av := [gi 1, gi p]) (o := 24) (st := []) hX rfl (fun l D cA => c_X2_isThere_1 l D cA w0 w1 h0 h1 p (by first | assumption | omega) (by first | assumption | omega)) (by decide +kernel) aX2_isThere rfl rfl rfl ⟨rfl, rfl⟩ (by decide) (Nat.le_of_ble_eq_true rfl) [0, 1, 2, 3, 4, 5, 6] [] [] rfl rfl rfl (fun r w' hp => ?_)
    obtain ⟨rfl, rfl⟩ := hp
    show G X mX2_hasOtherSizes ad 0 0 (pgW w0 w1 h0 h1, 15, [(0, gr 24), (1, gi p)], [gi (gb (0 < w1 p))])
    refine g_if_eq hX 60 rfl rfl (gb_r _) (fun b15 => ?_) (fun b15 => ?_)
    ·
      have b15 := gb_0.mp b15
      refine G.go hX 1 (pgW w0 w1 h0 h1, 61, [(0, gr 24), (1, gi p)], [gi 0]) rfl trivial ?_
      exact g_zret hX hE rfl (Or.inl rfl) ⟨(congrArg (fun z => some (gi z)) (gb_f (by unfold gos; first | exact fun h9 => b6 h9.1 | exact fun h9 => b15 h9.2.1 | exact ⟨b6, b15, Or.inl b34⟩ | exact ⟨b6, b15, Or.inr b53⟩ | (intro h9; have := h9.2.2; omega))).symm), rfl⟩
    ·
      have b15 := gb_n0 b15
      refine G.go hX 3 (pgW w0 w1 h0 h1, 23, [(0, gr 24), (1, gi p)], [gi 0, gr 25]) rfl trivial ?_
      refine g_aald hX 26 rfl rfl (by omega) rfl ?_
      refine G.go hX 5 (pgW w0 w1 h0 h1, 31, [(0, gr 24), (1, gi p)], [gi 1, gr 25, gi (w0 p)]) rfl ?_ ?_
      · refine ⟨?_, trivial⟩
        · omega
      refine g_aald hX 27 rfl rfl (by omega) rfl ?_
      refine G.go hX 2 (pgW w0 w1 h0 h1, 34, [(0, gr 24), (1, gi p)], [gi (w1 p), gi (w0 p)]) rfl ?_ ?_
      · refine ⟨?_, trivial⟩
        · omega
      refine g_icmp_ne hX 56 rfl rfl (by first | exact (hsz p).1.1 | exact (hsz p).1.2) (by first | exact (hsz p).1.1 | exact (hsz p).1.2) (fun b34 => ?_) (fun b34 => ?_)
      ·
        refine G.go hX 2 (pgW w0 w1 h0 h1, 61, [(0, gr 24), (1, gi p)], [gi 1]) rfl trivial ?_
        exact g_zret hX hE rfl (Or.inr rfl) ⟨(congrArg (fun z => some (gi z)) (gb_t (by unfold gos; first | exact fun h9 => b6 h9.1 | exact fun h9 => b15 h9.2.1 | exact ⟨b6, b15, Or.inl b34⟩ | exact ⟨b6, b15, Or.inr b53⟩ | (intro h9; have := h9.2.2; omega))).symm), rfl⟩
      ·
        refine G.go hX 3 (pgW w0 w1 h0 h1, 42, [(0, gr 24), (1, gi p)], [gi 0, gr 28]) rfl trivial ?_
        refine g_aald hX 29 rfl rfl (by omega) rfl ?_
        refine G.go hX 5 (pgW w0 w1 h0 h1, 50, [(0, gr 24), (1, gi p)], [gi 1, gr 28, gi (h0 p)]) rfl ?_ ?_
        · refine ⟨?_, trivial⟩
          · omega
        refine g_aald hX 30 rfl rfl (by omega) rfl ?_
        refine G.go hX 2 (pgW w0 w1 h0 h1, 53, [(0, gr 24), (1, gi p)], [gi (h1 p), gi (h0 p)]) rfl ?_ ?_
        · refine ⟨?_, trivial⟩
          · omega
        refine g_icmp_eq hX 60 rfl rfl (by first | exact (hsz p).2.1 | exact (hsz p).2.2) (by first | exact (hsz p).2.1 | exact (hsz p).2.2) (fun b53 => ?_) (fun b53 => ?_)
        ·
          refine G.go hX 1 (pgW w0 w1 h0 h1, 61, [(0, gr 24), (1, gi p)], [gi 0]) rfl trivial ?_
          exact g_zret hX hE rfl (Or.inl rfl) ⟨(congrArg (fun z => some (gi z)) (gb_f (by unfold gos; first | exact fun h9 => b6 h9.1 | exact fun h9 => b15 h9.2.1 | exact ⟨b6, b15, Or.inl b34⟩ | exact ⟨b6, b15, Or.inr b53⟩ | (intro h9; have := h9.2.2; omega))).symm), rfl⟩
        ·
          refine G.go hX 2 (pgW w0 w1 h0 h1, 61, [(0, gr 24), (1, gi p)], [gi 1]) rfl trivial ?_
          exact g_zret hX hE rfl (Or.inr rfl) ⟨(congrArg (fun z => some (gi z)) (gb_t (by unfold gos; first | exact fun h9 => b6 h9.1 | exact fun h9 => b15 h9.2.1 | exact ⟨b6, b15, Or.inl b34⟩ | exact ⟨b6, b15, Or.inr b53⟩ | (intro h9; have := h9.2.2; omega))).symm), rfl⟩
set_option maxHeartbeats 4000000 in
set_option maxRecDepth 100000 in
theorem c_X2_isMissing (l : Launch) (D : va_G) (cA : Nat → ClassId) (w0 : Int → Int) (w1 : Int → Int) (h0 : Int → Int) (h1 : Int → Int) (p : Int) (hpg : 0 ≤ p ∧ p < 20) (hsz : ∀ q : Int, (inR (w0 q) ∧ inR (w1 q)) ∧ inR (h0 q) ∧ inR (h1 q)) :
    gC l D cA yX2_isMissing mX2_isMissing (some .boolean) 0 0 [gr 24, gi p] (pgW w0 w1 h0 h1) (fun r9 w9 => r9 = some (gi (gb (gms w0 w1 p))) ∧ w9 = pgW w0 w1 h0 h1) := by
  refine gC_of rfl kX2_isMissing rfl rfl (Nat.le_of_ble_eq_true rfl) (fun X ad hX hE => ?_)
  refine G.go hX 3 (pgW w0 w1 h0 h1, 3, [(0, gr 24), (1, gi p)], [gi p, gi 0, gr 24]) rfl trivial ?_
  refine G.callV (av := [gi 0, gi p]) (o := 24) (st := []) hX rfl (fun l D cA => c_X2_isThere_0 l D cA w0 w1 h0 h1 p (by first | assumption | omega) (by first | assumption | omega)) (by decide +kernel) aX2_isThere rfl rfl rfl ⟨rfl, rfl⟩ (by decide) (Nat.le_of_ble_eq_true rfl) [0, 1, 2, 3, 4, 5, 6] [] [] rfl rfl rfl (fun r w' hp => ?_)
  obtain ⟨rfl, rfl⟩ := hp
  show G X mX2_isMissing ad 0 0 (pgW w0 w1 h0 h1, 6, [(0, gr 24), (1, gi p)], [gi (gb (0 < w0 p))])
  refine G.go hX 3 (pgW w0 w1 h0 h1, 9, [(0, gr 24), (1, gi p)], [gi p, gi 1, gr 24, gi (gb (0 < w0 p))]) rfl trivial ?_
  refine G.callV (av := [gi 1, gi p]) (o := 24) (st := [gi (gb (0 < w0 p))]) hX rfl (fun l D cA => c_X2_isThere_1 l D cA w0 w1 h0 h1 p (by first | assumption | omega) (by first | assumption | omega)) (by decide +kernel) aX2_isThere rfl rfl rfl ⟨rfl, rfl⟩ (by decide) (Nat.le_of_ble_eq_true rfl) [0, 1, 2, 3, 4, 5, 6] [] [] rfl rfl rfl (fun r w' hp => ?_)
  obtain ⟨rfl, rfl⟩ := hp
  show G X mX2_isMissing ad 0 0 (pgW w0 w1 h0 h1, 12, [(0, gr 24), (1, gi p)], [gi (gb (0 < w1 p)), gi (gb (0 < w0 p))])
  refine g_icmp_eq hX 19 rfl rfl (gb_r _) (gb_r _) (fun b12 => ?_) (fun b12 => ?_)
  ·
    refine G.go hX 1 (pgW w0 w1 h0 h1, 20, [(0, gr 24), (1, gi p)], [gi 0]) rfl trivial ?_
    exact g_zret hX hE rfl (Or.inl rfl) ⟨(congrArg (fun z => some (gi z)) (gb_f (by unfold gms; first | (intro h9; rw [gb_c h9] at b12; exact b12 rfl) | (intro h9; apply h9; constructor <;> intro h8 <;> first | (rw [gb_t h8] at b12; exact gb_1.mp b12.symm) | (rw [gb_t h8] at b12; exact gb_1.mp b12)))).symm), rfl⟩
  ·
    refine G.go hX 2 (pgW w0 w1 h0 h1, 20, [(0, gr 24), (1, gi p)], [gi 1]) rfl trivial ?_
    exact g_zret hX hE rfl (Or.inr rfl) ⟨(congrArg (fun z => some (gi z)) (gb_t (by unfold gms; first | (intro h9; rw [gb_c h9] at b12; exact b12 rfl) | (intro h9; apply h9; constructor <;> intro h8 <;> first | (rw [gb_t h8] at b12; exact gb_1.mp b12.symm) | (rw [gb_t h8] at b12; exact gb_1.mp b12)))).symm), rfl⟩
set_option maxHeartbeats 4000000 in
set_option maxRecDepth 100000 in
theorem c_X2_countOtherSizes (l : Launch) (D : va_G) (cA : Nat → ClassId) (w0 : Int → Int) (w1 : Int → Int) (h0 : Int → Int) (h1 : Int → Int) (hsz : ∀ q : Int, (inR (w0 q) ∧ inR (w1 q)) ∧ inR (h0 q) ∧ inR (h1 q)) :
    gC l D cA yX2_countOtherSizes mX2_countOtherSizes (some .int) 0 0 [gr 24] (pgW w0 w1 h0 h1) (fun r9 w9 => r9 = some (gi (gsm (fun q => gb (gos w0 w1 h0 h1 q)) 20)) ∧ w9 = pgW w0 w1 h0 h1) := by
  refine gC_of rfl kX2_countOtherSizes rfl rfl (Nat.le_of_ble_eq_true rfl) (fun X ad hX hE => ?_)
  refine G.go hX 4 (pgW w0 w1 h0 h1, 4, [(0, gr 24), (1, gi 0), (2, gi 0)], []) rfl trivial ?_
  have lp4 : ∀ (n : Nat) (n1 : Int) (p : Int), (0 ≤ p ∧ p ≤ 20) → (n1 = gsm (fun q => gb (gos w0 w1 h0 h1 q)) p.toNat) → (20 - p).toNat < n → G X mX2_countOtherSizes ad 0 0 (pgW w0 w1 h0 h1, 4, [(0, gr 24), (1, gi n1), (2, gi p)], []) := by
    intro n
    induction n with
    | zero => intro n1 p hp hn hm9; exact absurd hm9 (Nat.not_lt_zero _)
    | succ n ih4 =>
      intro n1 p hp hn hm4
      refine G.go hX 2 (pgW w0 w1 h0 h1, 7, [(0, gr 24), (1, gi n1), (2, gi p)], [gi 20, gi p]) rfl trivial ?_
      refine g_icmp_ge hX 32 rfl rfl ⟨by omega, by omega⟩ ⟨by omega, by omega⟩ (fun b7 => ?_) (fun b7 => ?_)
      ·
        refine G.go hX 1 (pgW w0 w1 h0 h1, 33, [(0, gr 24), (1, gi n1), (2, gi p)], [gi n1]) rfl trivial ?_
        exact g_iret hX hE rfl ⟨(congrArg (fun z => some (gi z)) (by first | rfl | (rw [hn, show p = 20 by omega]; rfl))), rfl⟩
      ·
        refine G.go hX 3 (pgW w0 w1 h0 h1, 13, [(0, gr 24), (1, gi n1), (2, gi p)], [gi p, gr 24, gi n1]) rfl trivial ?_
        refine G.callV (av := [gi p]) (o := 24) (st := [gi n1]) hX rfl (fun l D cA => c_X2_hasOtherSizes l D cA w0 w1 h0 h1 p (by first | assumption | omega) (by first | assumption | omega)) (by decide +kernel) aX2_hasOtherSizes rfl rfl rfl ⟨rfl, rfl⟩ (by decide) (Nat.le_of_ble_eq_true rfl) [0, 1, 2, 3, 4, 5, 6] [] [] rfl rfl rfl (fun r w' hp => ?_)
        obtain ⟨rfl, rfl⟩ := hp
        show G X mX2_countOtherSizes ad 0 0 (pgW w0 w1 h0 h1, 16, [(0, gr 24), (1, gi n1), (2, gi p)], [gi (gb (gos w0 w1 h0 h1 p)), gi n1])
        refine g_if_eq hX 23 rfl rfl (gb_r _) (fun b16 => ?_) (fun b16 => ?_)
        ·
          have b16 := gb_0.mp b16
          refine G.go hX 5 (pgW w0 w1 h0 h1, 4, [(0, gr 24), (1, gi (n1 + 0)), (2, gi (p + 1))], []) rfl trivial ?_
          exact ih4 (n1 + 0) (p + 1) (by omega) (by have h9 := gsm_next (fun q => gb (gos w0 w1 h0 h1 q)) hp.1 hn; first | (rw [gb_t b16] at h9; exact h9) | (rw [gb_f b16] at h9; exact h9)) (by omega)
        ·
          have b16 := gb_n0 b16
          refine G.go hX 6 (pgW w0 w1 h0 h1, 4, [(0, gr 24), (1, gi (n1 + 1)), (2, gi (p + 1))], []) rfl trivial ?_
          exact ih4 (n1 + 1) (p + 1) (by omega) (by have h9 := gsm_next (fun q => gb (gos w0 w1 h0 h1 q)) hp.1 hn; first | (rw [gb_t b16] at h9; exact h9) | (rw [gb_f b16] at h9; exact h9)) (by omega)
  exact lp4 _ 0 0 (by omega) (by rfl) (Nat.lt_succ_self _)
set_option maxHeartbeats 4000000 in
set_option maxRecDepth 100000 in
theorem c_X2_countMissing (l : Launch) (D : va_G) (cA : Nat → ClassId) (w0 : Int → Int) (w1 : Int → Int) (h0 : Int → Int) (h1 : Int → Int) (hsz : ∀ q : Int, (inR (w0 q) ∧ inR (w1 q)) ∧ inR (h0 q) ∧ inR (h1 q)) :
    gC l D cA yX2_countMissing mX2_countMissing (some .int) 0 0 [gr 24] (pgW w0 w1 h0 h1) (fun r9 w9 => r9 = some (gi (gsm (fun q => gb (gms w0 w1 q)) 20)) ∧ w9 = pgW w0 w1 h0 h1) := by
  refine gC_of rfl kX2_countMissing rfl rfl (Nat.le_of_ble_eq_true rfl) (fun X ad hX hE => ?_)
  refine G.go hX 4 (pgW w0 w1 h0 h1, 4, [(0, gr 24), (1, gi 0), (2, gi 0)], []) rfl trivial ?_
  have lp4 : ∀ (n : Nat) (n1 : Int) (p : Int), (0 ≤ p ∧ p ≤ 20) → (n1 = gsm (fun q => gb (gms w0 w1 q)) p.toNat) → (20 - p).toNat < n → G X mX2_countMissing ad 0 0 (pgW w0 w1 h0 h1, 4, [(0, gr 24), (1, gi n1), (2, gi p)], []) := by
    intro n
    induction n with
    | zero => intro n1 p hp hn hm9; exact absurd hm9 (Nat.not_lt_zero _)
    | succ n ih4 =>
      intro n1 p hp hn hm4
      refine G.go hX 2 (pgW w0 w1 h0 h1, 7, [(0, gr 24), (1, gi n1), (2, gi p)], [gi 20, gi p]) rfl trivial ?_
      refine g_icmp_ge hX 32 rfl rfl ⟨by omega, by omega⟩ ⟨by omega, by omega⟩ (fun b7 => ?_) (fun b7 => ?_)
      ·
        refine G.go hX 1 (pgW w0 w1 h0 h1, 33, [(0, gr 24), (1, gi n1), (2, gi p)], [gi n1]) rfl trivial ?_
        exact g_iret hX hE rfl ⟨(congrArg (fun z => some (gi z)) (by first | rfl | (rw [hn, show p = 20 by omega]; rfl))), rfl⟩
      ·
        refine G.go hX 3 (pgW w0 w1 h0 h1, 13, [(0, gr 24), (1, gi n1), (2, gi p)], [gi p, gr 24, gi n1]) rfl trivial ?_
        refine G.callV (av := [gi p]) (o := 24) (st := [gi n1]) hX rfl (fun l D cA => c_X2_isMissing l D cA w0 w1 h0 h1 p (by first | assumption | omega) (by first | assumption | omega)) (by decide +kernel) aX2_isMissing rfl rfl rfl ⟨rfl, rfl⟩ (by decide) (Nat.le_of_ble_eq_true rfl) [0, 1, 2, 3, 4, 5, 6] [] [] rfl rfl rfl (fun r w' hp => ?_)
        obtain ⟨rfl, rfl⟩ := hp
        show G X mX2_countMissing ad 0 0 (pgW w0 w1 h0 h1, 16, [(0, gr 24), (1, gi n1), (2, gi p)], [gi (gb (gms w0 w1 p)), gi n1])
        refine g_if_eq hX 23 rfl rfl (gb_r _) (fun b16 => ?_) (fun b16 => ?_)
        ·
          have b16 := gb_0.mp b16
          refine G.go hX 5 (pgW w0 w1 h0 h1, 4, [(0, gr 24), (1, gi (n1 + 0)), (2, gi (p + 1))], []) rfl trivial ?_
          exact ih4 (n1 + 0) (p + 1) (by omega) (by have h9 := gsm_next (fun q => gb (gms w0 w1 q)) hp.1 hn; first | (rw [gb_t b16] at h9; exact h9) | (rw [gb_f b16] at h9; exact h9)) (by omega)
        ·
          have b16 := gb_n0 b16
          refine G.go hX 6 (pgW w0 w1 h0 h1, 4, [(0, gr 24), (1, gi (n1 + 1)), (2, gi (p + 1))], []) rfl trivial ?_
          exact ih4 (n1 + 1) (p + 1) (by omega) (by have h9 := gsm_next (fun q => gb (gms w0 w1 q)) hp.1 hn; first | (rw [gb_t b16] at h9; exact h9) | (rw [gb_f b16] at h9; exact h9)) (by omega)
  exact lp4 _ 0 0 (by omega) (by rfl) (Nat.lt_succ_self _)
set_option maxHeartbeats 4000000 in
set_option maxRecDepth 100000 in
theorem c_X2_tellMissing (l : Launch) (D : va_G) (cA : Nat → ClassId) (w0 : Int → Int) (w1 : Int → Int) (h0 : Int → Int) (h1 : Int → Int) (i : Int) (hsz : ∀ q : Int, (inR (w0 q) ∧ inR (w1 q)) ∧ inR (h0 q) ∧ inR (h1 q)) (hi : 0 ≤ i ∧ i < gsm (fun q => gb (gms w0 w1 q)) 20) :
    gC l D cA yX2_tellMissing mX2_tellMissing (some .int) 0 0 [gr 24, gi i] (pgW w0 w1 h0 h1) (fun r9 w9 => ∃ (pg : Int), r9 = some (gi (2 * pg + gb (0 < w0 pg))) ∧ w9 = pgW w0 w1 h0 h1 ∧ ((0 ≤ pg ∧ pg < 20) ∧ gms w0 w1 pg) ∧ (gsm (fun q => gb (gms w0 w1 q)) pg.toNat = i)) := by
  refine gC_of rfl kX2_tellMissing rfl rfl (Nat.le_of_ble_eq_true rfl) (fun X ad hX hE => ?_)
  refine G.go hX 4 (pgW w0 w1 h0 h1, 4, [(0, gr 24), (1, gi i), (2, gi i), (3, gi 0)], []) rfl trivial ?_
  have lp4 : ∀ (n : Nat) (lf : Int) (p : Int), (0 ≤ p ∧ p ≤ 20) → (lf = i - gsm (fun q => gb (gms w0 w1 q)) p.toNat) → (0 ≤ lf) → (20 - p).toNat < n → G X mX2_tellMissing ad 0 0 (pgW w0 w1 h0 h1, 4, [(0, gr 24), (1, gi i), (2, gi lf), (3, gi p)], []) := by
    intro n
    induction n with
    | zero => intro lf p hp hl hl0 hm9; exact absurd hm9 (Nat.not_lt_zero _)
    | succ n ih4 =>
      intro lf p hp hl hl0 hm4
      have hmo := gsm_gb (gms w0 w1) p.toNat
      have hi9 := gsm_gb (gms w0 w1) 20
      refine G.go hX 2 (pgW w0 w1 h0 h1, 7, [(0, gr 24), (1, gi i), (2, gi lf), (3, gi p)], [gi 20, gi p]) rfl trivial ?_
      refine g_icmp_ge hX 50 rfl rfl ⟨by omega, by omega⟩ ⟨by omega, by omega⟩ (fun b7 => ?_) (fun b7 => ?_)
      ·
        exfalso
        have h9 := show p = 20 by omega
        subst h9
        have : lf < 0 := by (rw [hl]; show i - gsm (fun q => gb (gms w0 w1 q)) 20 < 0; omega)
        omega
      ·
        refine G.go hX 2 (pgW w0 w1 h0 h1, 12, [(0, gr 24), (1, gi i), (2, gi lf), (3, gi p)], [gi p, gr 24]) rfl trivial ?_
        refine G.callV (av := [gi p]) (o := 24) (st := []) hX rfl (fun l D cA => c_X2_isMissing l D cA w0 w1 h0 h1 p (by first | assumption | omega) (by first | assumption | omega)) (by decide +kernel) aX2_isMissing rfl rfl rfl ⟨rfl, rfl⟩ (by decide) (Nat.le_of_ble_eq_true rfl) [0, 1, 2, 3, 4, 5, 6] [] [] rfl rfl rfl (fun r w' hp => ?_)
        obtain ⟨rfl, rfl⟩ := hp
        show G X mX2_tellMissing ad 0 0 (pgW w0 w1 h0 h1, 15, [(0, gr 24), (1, gi i), (2, gi lf), (3, gi p)], [gi (gb (gms w0 w1 p))])
        refine g_if_eq hX 44 rfl rfl (gb_r _) (fun b15 => ?_) (fun b15 => ?_)
        ·
          have b15 := gb_0.mp b15
          refine G.go hX 2 (pgW w0 w1 h0 h1, 4, [(0, gr 24), (1, gi i), (2, gi lf), (3, gi (p + 1))], []) rfl trivial ?_
          exact ih4 lf (p + 1) (by omega) (by have h9 := gsm_next (fun q => gb (gms w0 w1 q)) hp.1 rfl; rw [gb_f b15] at h9; omega) (by omega) (by omega)
        ·
          have b15 := gb_n0 b15
          refine G.go hX 1 (pgW w0 w1 h0 h1, 19, [(0, gr 24), (1, gi i), (2, gi lf), (3, gi p)], [gi lf]) rfl trivial ?_
          refine g_if_ne hX 41 rfl rfl ⟨by omega, by omega⟩ (fun b19 => ?_) (fun b19 => ?_)
          ·
            refine G.go hX 3 (pgW w0 w1 h0 h1, 4, [(0, gr 24), (1, gi i), (2, gi (lf + (-1))), (3, gi (p + 1))], []) rfl trivial ?_
            exact ih4 (lf + (-1)) (p + 1) (by omega) (by have h9 := gsm_next (fun q => gb (gms w0 w1 q)) hp.1 rfl; rw [gb_t b15] at h9; omega) (by omega) (by omega)
          ·
            refine G.go hX 6 (pgW w0 w1 h0 h1, 28, [(0, gr 24), (1, gi i), (2, gi lf), (3, gi p)], [gi p, gi 0, gr 24, gi (2 * p)]) rfl trivial ?_
            refine G.callV (av := [gi 0, gi p]) (o := 24) (st := [gi (2 * p)]) hX rfl (fun l D cA => c_X2_isThere_0 l D cA w0 w1 h0 h1 p (by first | assumption | omega) (by first | assumption | omega)) (by decide +kernel) aX2_isThere rfl rfl rfl ⟨rfl, rfl⟩ (by decide) (Nat.le_of_ble_eq_true rfl) [0, 1, 2, 3, 4, 5, 6] [] [] rfl rfl rfl (fun r w' hp => ?_)
            obtain ⟨rfl, rfl⟩ := hp
            show G X mX2_tellMissing ad 0 0 (pgW w0 w1 h0 h1, 31, [(0, gr 24), (1, gi i), (2, gi lf), (3, gi p)], [gi (gb (0 < w0 p)), gi (2 * p)])
            refine g_if_eq hX 38 rfl rfl (gb_r _) (fun b31 => ?_) (fun b31 => ?_)
            ·
              have b31 := gb_0.mp b31
              refine G.go hX 2 (pgW w0 w1 h0 h1, 40, [(0, gr 24), (1, gi i), (2, gi lf), (3, gi p)], [gi ((2 * p) + 0)]) rfl trivial ?_
              exact g_iret hX hE rfl ⟨p, by first | (rw [gb_t b31]) | (rw [gb_f b31]), rfl, ⟨⟨by omega, by omega⟩, b15⟩, by omega⟩
            ·
              have b31 := gb_n0 b31
              refine G.go hX 3 (pgW w0 w1 h0 h1, 40, [(0, gr 24), (1, gi i), (2, gi lf), (3, gi p)], [gi ((2 * p) + 1)]) rfl trivial ?_
              exact g_iret hX hE rfl ⟨p, by first | (rw [gb_t b31]) | (rw [gb_f b31]), rfl, ⟨⟨by omega, by omega⟩, b15⟩, by omega⟩
  exact lp4 _ i 0 (by omega) (by show i = i - 0; omega) (by omega) (Nat.lt_succ_self _)
end
section
abbrev ruW (rc fc : Int) (kd fl lm fs : Int → Int) : gW := [(31, gob 4 [gi rc, gi fc, gr 32, gr 33, gr 34, gr 35]), (32, gai 0 12 kd), (33, gai 1 12 fl), (34, gai 0 12 lm), (35, gai 0 36 fs)]
set_option maxHeartbeats 4000000 in
set_option maxRecDepth 100000 in
theorem c_X3_add (l : Launch) (D : va_G) (cA : Nat → ClassId) (rc : Int) (fc : Int) (kd : Int → Int) (fl : Int → Int) (lm : Int → Int) (fs : Int → Int) (k : Int) (a : Int) (f : Int) (hrc : 0 ≤ rc ∧ rc < 12) (hf : f = 0 ∨ f = 1) :
    gC l D cA yX3_add mX3_add (some .int) 0 0 [gr 31, gi k, gi a, gi f] (ruW rc fc kd fl lm fs) (fun r9 w9 => r9 = some (gi rc) ∧ w9 = ruW (rc + 1) fc (gu kd rc k) (gu fl rc f) (gu lm rc a) fs) := by
  refine gC_of rfl kX3_add rfl rfl (Nat.le_of_ble_eq_true rfl) (fun X ad hX hE => ?_)
  refine G.go hX 25 (ruW (rc + 1) fc (gu kd rc k) (gu fl rc f) (gu lm rc a) fs, 42, [(0, gr 31), (1, gi k), (2, gi a), (3, gi f), (4, gi rc)], [gi rc]) rfl ?_ ?_
  · refine ⟨?_, ?_, ?_, trivial⟩
    · omega
    · omega
    · omega
  exact g_iret hX hE rfl ⟨rfl, rfl⟩
set_option maxHeartbeats 4000000 in
set_option maxRecDepth 100000 in
theorem c_X3_tellFault (l : Launch) (D : va_G) (cA : Nat → ClassId) (rc : Int) (fc : Int) (kd : Int → Int) (fl : Int → Int) (lm : Int → Int) (fs : Int → Int) (i : Int) (k : Int) (hi : 0 ≤ i * 3 + k ∧ i * 3 + k < 36) :
    gC l D cA yX3_tellFault mX3_tellFault (some .int) 0 0 [gr 31, gi i, gi k] (ruW rc fc kd fl lm fs) (fun r9 w9 => r9 = some (gi (fs (i * 3 + k))) ∧ w9 = ruW rc fc kd fl lm fs) := by
  refine gC_of rfl kX3_tellFault rfl rfl (Nat.le_of_ble_eq_true rfl) (fun X ad hX hE => ?_)
  refine G.go hX 8 (ruW rc fc kd fl lm fs, 10, [(0, gr 31), (1, gi i), (2, gi k)], [gi (fs ((i * 3) + k))]) rfl ?_ ?_
  · refine ⟨?_, trivial⟩
    · omega
  exact g_iret hX hE rfl ⟨(congrArg (fun z => some (gi z)) (by first | rfl | (omega))), rfl⟩
set_option maxHeartbeats 4000000 in
set_option maxRecDepth 100000 in
theorem c_X3_forgetFaults (l : Launch) (D : va_G) (cA : Nat → ClassId) (rc : Int) (fc : Int) (kd : Int → Int) (fl : Int → Int) (lm : Int → Int) (fs : Int → Int)  :
    gC l D cA yX3_forgetFaults mX3_forgetFaults none 0 0 [gr 31] (ruW rc fc kd fl lm fs) (fun r9 w9 => r9 = none ∧ w9 = ruW rc 0 kd fl lm fs) := by
  refine gC_of rfl kX3_forgetFaults rfl rfl (Nat.le_of_ble_eq_true rfl) (fun X ad hX hE => ?_)
  refine G.go hX 3 (ruW rc 0 kd fl lm fs, 5, [(0, gr 31)], []) rfl trivial ?_
  exact g_vret hX hE rfl ⟨rfl, rfl⟩
set_option maxHeartbeats 4000000 in
set_option maxRecDepth 100000 in
theorem c_X3_append (l : Launch) (D : va_G) (cA : Nat → ClassId) (rc : Int) (fc : Int) (kd : Int → Int) (fl : Int → Int) (lm : Int → Int) (fs : Int → Int) (n : Int) (k : Int) (v : Int) (hfc : 0 ≤ fc ∧ fc < 12) :
    gC l D cA yX3_append mX3_append none 0 0 [gr 31, gi n, gi k, gi v] (ruW rc fc kd fl lm fs) (fun r9 w9 => r9 = none ∧ w9 = ruW rc (fc + 1) kd fl lm (gu (gu (gu fs (fc * 3) n) (fc * 3 + 1) k) (fc * 3 + 2) v)) := by
  refine gC_of rfl kX3_append rfl rfl (Nat.le_of_ble_eq_true rfl) (fun X ad hX hE => ?_)
  refine G.go hX 3 (ruW rc fc kd fl lm fs, 6, [(0, gr 31), (1, gi n), (2, gi k), (3, gi v)], [gi 12, gi fc]) rfl trivial ?_
  refine g_icmp_ge hX 55 rfl rfl ⟨by omega, by omega⟩ ⟨by omega, by omega⟩ (fun b6 => ?_) (fun b6 => ?_)
  ·
    exfalso
    omega
  ·
    refine G.go hX 30 (ruW rc (fc + 1) kd fl lm (gu (gu (gu fs (fc * 3) n) ((fc * 3) + 1) k) ((fc * 3) + 2) v), 55, [(0, gr 31), (1, gi n), (2, gi k), (3, gi v), (4, gi (fc * 3))], []) rfl ?_ ?_
    · refine ⟨?_, ?_, ?_, trivial⟩
      · omega
      · omega
      · omega
    exact g_vret hX hE rfl ⟨rfl, (by first | rfl | (omega))⟩
set_option maxHeartbeats 4000000 in
set_option maxRecDepth 100000 in
theorem c_X3_noteFailure (l : Launch) (D : va_G) (cA : Nat → ClassId) (rc : Int) (fc : Int) (kd : Int → Int) (fl : Int → Int) (lm : Int → Int) (fs : Int → Int) (n : Int) (hfc : 0 ≤ fc ∧ fc < 12) :
    gC l D cA yX3_noteFailure mX3_noteFailure none 0 0 [gr 31, gi n] (ruW rc fc kd fl lm fs) (fun r9 w9 => r9 = none ∧ w9 = ruW rc (fc + 1) kd fl lm (gu (gu (gu fs (fc * 3) n) (fc * 3 + 1) (-1)) (fc * 3 + 2) 0)) := by
  refine gC_of rfl kX3_noteFailure rfl rfl (Nat.le_of_ble_eq_true rfl) (fun X ad hX hE => ?_)
  refine G.go hX 4 (ruW rc fc kd fl lm fs, 4, [(0, gr 31), (1, gi n)], [gi 0, gi (-1), gi n, gr 31]) rfl trivial ?_
  refine G.callV (av := [gi n, gi (-1), gi 0]) (o := 31) (st := []) hX rfl (fun l D cA => c_X3_append l D cA rc fc kd fl lm fs n (-1) 0 (by first | assumption | omega)) (by decide +kernel) aX3_append rfl rfl rfl ⟨rfl, rfl⟩ (by decide) (Nat.le_of_ble_eq_true rfl) [0, 1, 2, 3, 4] [] [] rfl rfl rfl (fun r w' hp => ?_)
  obtain ⟨rfl, rfl⟩ := hp
  show G X mX3_noteFailure ad 0 0 (ruW rc (fc + 1) kd fl lm (gu (gu (gu fs (fc * 3) n) (fc * 3 + 1) (-1)) (fc * 3 + 2) 0), 7, [(0, gr 31), (1, gi n)], [])
  exact g_vret hX hE rfl ⟨rfl, rfl⟩
set_option maxHeartbeats 4000000 in
set_option maxRecDepth 100000 in
theorem c_X3_judge (l : Launch) (D : va_G) (cA : Nat → ClassId) (rc : Int) (fc : Int) (kd : Int → Int) (fl : Int → Int) (lm : Int → Int) (fs : Int → Int) (n : Int) (v : Int) (hfc : 0 ≤ fc ∧ fc < 12) (hn : 0 ≤ n ∧ n < 12) (hv : inR v) (hlm : ∀ q, inR (lm q)) :
    gC l D cA yX3_judge mX3_judge none 0 0 [gr 31, gi n, gi v] (ruW rc fc kd fl lm fs) (fun r9 w9 => ∃ (fc2 : Int) (fs2 : Int → Int), r9 = none ∧ w9 = ruW rc fc2 kd fl lm fs2 ∧ (lm n < v → fc2 = fc + 1 ∧ fs2 = gu (gu (gu fs (fc * 3) n) (fc * 3 + 1) (kd n)) (fc * 3 + 2) v) ∧ (¬ lm n < v → fc2 = fc ∧ fs2 = fs)) := by
  refine gC_of rfl kX3_judge rfl rfl (Nat.le_of_ble_eq_true rfl) (fun X ad hX hE => ?_)
  refine G.go hX 5 (ruW rc fc kd fl lm fs, 7, [(0, gr 31), (1, gi n), (2, gi v)], [gi (lm n), gi v]) rfl ?_ ?_
  · refine ⟨?_, trivial⟩
    · omega
  refine g_icmp_le hX 22 rfl rfl (by first | exact hlm _ | assumption) (by first | exact hlm _ | assumption) (fun b7 => ?_) (fun b7 => ?_)
  ·
    exact g_vret hX hE rfl ⟨fc, fs, rfl, rfl, fun h9 => by omega, fun _ => ⟨rfl, rfl⟩⟩
  ·
    refine G.go hX 7 (ruW rc fc kd fl lm fs, 19, [(0, gr 31), (1, gi n), (2, gi v)], [gi v, gi (kd n), gi n, gr 31]) rfl ?_ ?_
    · refine ⟨?_, trivial⟩
      · omega
    refine G.callV (av := [gi n, gi (kd n), gi v]) (o := 31) (st := []) hX rfl (fun l D cA => c_X3_append l D cA rc fc kd fl lm fs n (kd n) v (by first | assumption | omega)) (by decide +kernel) aX3_append rfl rfl rfl ⟨rfl, rfl⟩ (by decide) (Nat.le_of_ble_eq_true rfl) [0, 1, 2, 3, 4] [] [] rfl rfl rfl (fun r w' hp => ?_)
    obtain ⟨rfl, rfl⟩ := hp
    show G X mX3_judge ad 0 0 (ruW rc (fc + 1) kd fl lm (gu (gu (gu fs (fc * 3) n) (fc * 3 + 1) (kd n)) (fc * 3 + 2) v), 22, [(0, gr 31), (1, gi n), (2, gi v)], [])
    exact g_vret hX hE rfl ⟨_, _, rfl, rfl, fun _ => ⟨rfl, rfl⟩, fun h9 => by omega⟩
end
section
abbrev wsW0 (n0 : Int) (v0 x0 y0 o0 : Int → Int) : gW := [(11, gob 7 [gi n0, gr 12, gr 13, gr 14, gr 15]), (12, gai 0 40 v0), (13, gai 0 40 x0), (14, gai 0 40 y0), (15, gai 0 40 o0)]
abbrev wsW1 (n1 : Int) (v1 x1 y1 o1 : Int → Int) : gW := [(16, gob 7 [gi n1, gr 17, gr 18, gr 19, gr 20]), (17, gai 0 40 v1), (18, gai 0 40 x1), (19, gai 0 40 y1), (20, gai 0 40 o1)]
abbrev wbW (n0 : Int) (v0 x0 y0 o0 : Int → Int) (n1 : Int) (v1 x1 y1 o1 : Int → Int) : gW := [(11, gob 7 [gi n0, gr 12, gr 13, gr 14, gr 15]), (12, gai 0 40 v0), (13, gai 0 40 x0), (14, gai 0 40 y0), (15, gai 0 40 o0), (16, gob 7 [gi n1, gr 17, gr 18, gr 19, gr 20]), (17, gai 0 40 v1), (18, gai 0 40 x1), (19, gai 0 40 y1), (20, gai 0 40 o1)]
abbrev wrW (cn wst : Int) (rwx lg : Int → Int) (n0 : Int) (v0 x0 y0 o0 : Int → Int) (n1 : Int) (v1 x1 y1 o1 : Int → Int) : gW := [(21, gob 6 [gi cn, gi wst, gr 11, gr 16, gr 22, gr 23]), (22, gai 0 320 rwx), (23, gai 0 1681 lg), (11, gob 7 [gi n0, gr 12, gr 13, gr 14, gr 15]), (12, gai 0 40 v0), (13, gai 0 40 x0), (14, gai 0 40 y0), (15, gai 0 40 o0), (16, gob 7 [gi n1, gr 17, gr 18, gr 19, gr 20]), (17, gai 0 40 v1), (18, gai 0 40 x1), (19, gai 0 40 y1), (20, gai 0 40 o1)]
set_option maxHeartbeats 4000000 in
set_option maxRecDepth 100000 in
theorem c_X6_numberAt_0 (l : Launch) (D : va_G) (cA : Nat → ClassId) (n0 : Int) (v0 : Int → Int) (x0 : Int → Int) (y0 : Int → Int) (o0 : Int → Int) (p : Int) (hop : 0 ≤ p ∧ p < 40) :
    gC l D cA yX6_numberAt mX6_numberAt (some .int) 0 0 [gr 11, gi p] (wsW0 n0 v0 x0 y0 o0) (fun r9 w9 => r9 = some (gi (o0 p)) ∧ w9 = wsW0 n0 v0 x0 y0 o0) := by
  refine gC_of rfl kX6_numberAt rfl rfl (Nat.le_of_ble_eq_true rfl) (fun X ad hX hE => ?_)
  refine G.go hX 4 (wsW0 n0 v0 x0 y0 o0, 6, [(0, gr 11), (1, gi p)], [gi (o0 p)]) rfl ?_ ?_
  · refine ⟨?_, trivial⟩
    · omega
  exact g_iret hX hE rfl ⟨rfl, rfl⟩
set_option maxHeartbeats 4000000 in
set_option maxRecDepth 100000 in
theorem c_X6_valueAt_0 (l : Launch) (D : va_G) (cA : Nat → ClassId) (n0 : Int) (v0 : Int → Int) (x0 : Int → Int) (y0 : Int → Int) (o0 : Int → Int) (p : Int) (hop : 0 ≤ p ∧ p < 40 ∧ 0 ≤ o0 p ∧ o0 p < 40) :
    gC l D cA yX6_valueAt mX6_valueAt (some .int) 0 0 [gr 11, gi p] (wsW0 n0 v0 x0 y0 o0) (fun r9 w9 => r9 = some (gi (v0 (o0 p))) ∧ w9 = wsW0 n0 v0 x0 y0 o0) := by
  refine gC_of rfl kX6_valueAt rfl rfl (Nat.le_of_ble_eq_true rfl) (fun X ad hX hE => ?_)
  refine G.go hX 7 (wsW0 n0 v0 x0 y0 o0, 11, [(0, gr 11), (1, gi p)], [gi (v0 (o0 p))]) rfl ?_ ?_
  · refine ⟨?_, ?_, trivial⟩
    · omega
    · omega
  exact g_iret hX hE rfl ⟨rfl, rfl⟩
set_option maxHeartbeats 4000000 in
set_option maxRecDepth 100000 in
theorem c_X6_liesBehind_0 (l : Launch) (D : va_G) (cA : Nat → ClassId) (n0 : Int) (v0 : Int → Int) (x0 : Int → Int) (y0 : Int → Int) (o0 : Int → Int) (k : Int) (px : Int) (py : Int) (hk : 0 ≤ k ∧ k < 40) (hxy : ∀ q : Int, inR (x0 q) ∧ inR (y0 q)) (hpx : inR px) (hpy : inR py) :
    gC l D cA yX6_liesBehind mX6_liesBehind (some .boolean) 0 0 [gr 11, gi k, gi px, gi py] (wsW0 n0 v0 x0 y0 o0) (fun r9 w9 => r9 = some (gi (gb (wbh x0 y0 k px py))) ∧ w9 = wsW0 n0 v0 x0 y0 o0) := by
  refine gC_of rfl kX6_liesBehind rfl rfl (Nat.le_of_ble_eq_true rfl) (fun X ad hX hE => ?_)
  refine G.go hX 5 (wsW0 n0 v0 x0 y0 o0, 7, [(0, gr 11), (1, gi k), (2, gi px), (3, gi py)], [gi py, gi (y0 k)]) rfl ?_ ?_
  · refine ⟨?_, trivial⟩
    · omega
  refine g_icmp_eq hX 28 rfl rfl (by first | exact (hxy _).1 | exact (hxy _).2 | assumption) (by first | exact (hxy _).1 | exact (hxy _).2 | assumption) (fun b7 => ?_) (fun b7 => ?_)
  ·
    refine G.go hX 5 (wsW0 n0 v0 x0 y0 o0, 35, [(0, gr 11), (1, gi k), (2, gi px), (3, gi py)], [gi px, gi (x0 k)]) rfl ?_ ?_
    · refine ⟨?_, trivial⟩
      · omega
    refine g_icmp_le hX 42 rfl rfl (by first | exact (hxy _).1 | exact (hxy _).2 | assumption) (by first | exact (hxy _).1 | exact (hxy _).2 | assumption) (fun b35 => ?_) (fun b35 => ?_)
    ·
      refine G.go hX 1 (wsW0 n0 v0 x0 y0 o0, 43, [(0, gr 11), (1, gi k), (2, gi px), (3, gi py)], [gi 0]) rfl trivial ?_
      exact g_zret hX hE rfl (Or.inl rfl) ⟨(congrArg (fun z => some (gi z)) (gb_f (by unfold wbh; omega)).symm), rfl⟩
    ·
      refine G.go hX 2 (wsW0 n0 v0 x0 y0 o0, 43, [(0, gr 11), (1, gi k), (2, gi px), (3, gi py)], [gi 1]) rfl trivial ?_
      exact g_zret hX hE rfl (Or.inr rfl) ⟨(congrArg (fun z => some (gi z)) (gb_t (by unfold wbh; omega)).symm), rfl⟩
  ·
    refine G.go hX 5 (wsW0 n0 v0 x0 y0 o0, 17, [(0, gr 11), (1, gi k), (2, gi px), (3, gi py)], [gi py, gi (y0 k)]) rfl ?_ ?_
    · refine ⟨?_, trivial⟩
      · omega
    refine g_icmp_le hX 24 rfl rfl (by first | exact (hxy _).1 | exact (hxy _).2 | assumption) (by first | exact (hxy _).1 | exact (hxy _).2 | assumption) (fun b17 => ?_) (fun b17 => ?_)
    ·
      refine G.go hX 2 (wsW0 n0 v0 x0 y0 o0, 43, [(0, gr 11), (1, gi k), (2, gi px), (3, gi py)], [gi 0]) rfl trivial ?_
      exact g_zret hX hE rfl (Or.inl rfl) ⟨(congrArg (fun z => some (gi z)) (gb_f (by unfold wbh; omega)).symm), rfl⟩
    ·
      refine G.go hX 2 (wsW0 n0 v0 x0 y0 o0, 43, [(0, gr 11), (1, gi k), (2, gi px), (3, gi py)], [gi 1]) rfl trivial ?_
      exact g_zret hX hE rfl (Or.inr rfl) ⟨(congrArg (fun z => some (gi z)) (gb_t (by unfold wbh; omega)).symm), rfl⟩
set_option maxHeartbeats 4000000 in
set_option maxRecDepth 100000 in
theorem c_X6_add_0 (l : Launch) (D : va_G) (cA : Nat → ClassId) (n0 : Int) (v0 : Int → Int) (x0 : Int → Int) (y0 : Int → Int) (o0 : Int → Int) (va : Int) (px : Int) (py : Int) (hn : 0 ≤ n0 ∧ n0 < 40) (hxy : ∀ q : Int, inR (x0 q) ∧ inR (y0 q)) (hpx : inR px) (hpy : inR py) (hO : wOrd n0 x0 y0 o0) :
    gC l D cA yX6_add mX6_add (some .int) 0 0 [gr 11, gi va, gi px, gi py] (wsW0 n0 v0 x0 y0 o0) (fun r9 w9 => ∃ (ord2 : Int → Int), r9 = some (gi n0) ∧ w9 = wsW0 (n0 + 1) (gu v0 n0 va) (gu x0 n0 px) (gu y0 n0 py) ord2 ∧ (wOrd (n0 + 1) (gu x0 n0 px) (gu y0 n0 py) ord2)) := by
  refine gC_of rfl kX6_add rfl rfl (Nat.le_of_ble_eq_true rfl) (fun X ad hX hE => ?_)
  refine G.go hX 20 (wsW0 n0 (gu v0 n0 va) (gu x0 n0 px) (gu y0 n0 py) o0, 34, [(0, gr 11), (1, gi va), (2, gi px), (3, gi py), (4, gi n0), (5, gi n0)], []) rfl ?_ ?_
  · refine ⟨?_, ?_, ?_, trivial⟩
    · omega
    · omega
    · omega
  have lp34 : ∀ (n : Nat) (p : Int) (or1 : Int → Int), (wIn n0 (gu x0 n0 px) (gu y0 n0 py) o0 or1 px py p) → p.toNat < n → G X mX6_add ad 0 0 (wsW0 n0 (gu v0 n0 va) (gu x0 n0 px) (gu y0 n0 py) or1, 34, [(0, gr 11), (1, gi va), (2, gi px), (3, gi py), (4, gi n0), (5, gi p)], []) := by
    intro n
    induction n with
    | zero => intro p or1 hI hm9; exact absurd hm9 (Nat.not_lt_zero _)
    | succ n ih34 =>
      intro p or1 hI hm34
      have hI1 := hI.1
      refine G.go hX 1 (wsW0 n0 (gu v0 n0 va) (gu x0 n0 px) (gu y0 n0 py) or1, 36, [(0, gr 11), (1, gi va), (2, gi px), (3, gi py), (4, gi n0), (5, gi p)], [gi p]) rfl trivial ?_
      refine g_if_le hX 79 rfl rfl ⟨by omega, by omega⟩ (fun b36 => ?_) (fun b36 => ?_)
      ·
        refine G.go hX 12 (wsW0 (n0 + 1) (gu v0 n0 va) (gu x0 n0 px) (gu y0 n0 py) (gu or1 p n0), 100, [(0, gr 11), (1, gi va), (2, gi px), (3, gi py), (4, gi n0), (5, gi p)], [gi n0]) rfl ?_ ?_
        · refine ⟨?_, trivial⟩
          · omega
        exact g_iret hX hE rfl ⟨_, rfl, rfl, wOrd_ins hn.1 hO hI (by first | exact Or.inl (by omega) | exact Or.inr b54)⟩
      ·
        have he1 := hI.2.1 (p - 1) (by omega) (by omega)
        have he2 := hO.1 (p - 1) (by omega) (by omega)
        refine G.go hX 9 (wsW0 n0 (gu v0 n0 va) (gu x0 n0 px) (gu y0 n0 py) or1, 51, [(0, gr 11), (1, gi va), (2, gi px), (3, gi py), (4, gi n0), (5, gi p)], [gi py, gi px, gi (or1 (p - 1)), gr 11]) rfl ?_ ?_
        · refine ⟨?_, trivial⟩
          · omega
        refine G.callV (av := [gi (or1 (p - 1)), gi px, gi py]) (o := 11) (st := []) hX rfl (fun l D cA => c_X6_liesBehind_0 l D cA n0 (gu v0 n0 va) (gu x0 n0 px) (gu y0 n0 py) or1 (or1 (p - 1)) px py (by rw [he1]; omega) (fun q => ⟨gu_r (fun q => (hxy q).1) hpx q, gu_r (fun q => (hxy q).2) hpy q⟩) hpx hpy) (by decide +kernel) aX6_liesBehind rfl rfl rfl ⟨rfl, rfl⟩ (by decide) (Nat.le_of_ble_eq_true rfl) [0, 1, 2, 3, 4] [] [] rfl rfl rfl (fun r w' hp => ?_)
        obtain ⟨rfl, rfl⟩ := hp
        show G X mX6_add ad 0 0 (wsW0 n0 (gu v0 n0 va) (gu x0 n0 px) (gu y0 n0 py) or1, 54, [(0, gr 11), (1, gi va), (2, gi px), (3, gi py), (4, gi n0), (5, gi p)], [gi (gb (wbh (gu x0 n0 px) (gu y0 n0 py) (or1 (p - 1)) px py))])
        refine g_if_eq hX 79 rfl rfl (gb_r _) (fun b54 => ?_) (fun b54 => ?_)
        ·
          have b54 := gb_0.mp b54
          refine G.go hX 12 (wsW0 (n0 + 1) (gu v0 n0 va) (gu x0 n0 px) (gu y0 n0 py) (gu or1 p n0), 100, [(0, gr 11), (1, gi va), (2, gi px), (3, gi py), (4, gi n0), (5, gi p)], [gi n0]) rfl ?_ ?_
          · refine ⟨?_, trivial⟩
            · omega
          exact g_iret hX hE rfl ⟨_, rfl, rfl, wOrd_ins hn.1 hO hI (by first | exact Or.inl (by omega) | exact Or.inr b54)⟩
        ·
          have b54 := gb_n0 b54
          refine G.go hX 12 (wsW0 n0 (gu v0 n0 va) (gu x0 n0 px) (gu y0 n0 py) (gu or1 p (or1 (p - 1))), 34, [(0, gr 11), (1, gi va), (2, gi px), (3, gi py), (4, gi n0), (5, gi (p + (-1)))], []) rfl ?_ ?_
          · refine ⟨?_, ?_, trivial⟩
            · omega
            · omega
          exact ih34 (p + (-1)) (gu or1 p (or1 (p - 1))) (by exact wIn_step hI (by omega) b54) (by omega)
  exact lp34 _ n0 o0 (by exact ⟨by omega, fun _ _ _ => rfl, fun j _ _ => by omega, fun j _ _ => by omega⟩) (Nat.lt_succ_self _)
set_option maxHeartbeats 4000000 in
set_option maxRecDepth 100000 in
theorem c_X6_numberAt_1 (l : Launch) (D : va_G) (cA : Nat → ClassId) (n1 : Int) (v1 : Int → Int) (x1 : Int → Int) (y1 : Int → Int) (o1 : Int → Int) (p : Int) (hop : 0 ≤ p ∧ p < 40) :
    gC l D cA yX6_numberAt mX6_numberAt (some .int) 0 0 [gr 16, gi p] (wsW1 n1 v1 x1 y1 o1) (fun r9 w9 => r9 = some (gi (o1 p)) ∧ w9 = wsW1 n1 v1 x1 y1 o1) := by
  refine gC_of rfl kX6_numberAt rfl rfl (Nat.le_of_ble_eq_true rfl) (fun X ad hX hE => ?_)
  refine G.go hX 4 (wsW1 n1 v1 x1 y1 o1, 6, [(0, gr 16), (1, gi p)], [gi (o1 p)]) rfl ?_ ?_
  · refine ⟨?_, trivial⟩
    · omega
  exact g_iret hX hE rfl ⟨rfl, rfl⟩
set_option maxHeartbeats 4000000 in
set_option maxRecDepth 100000 in
theorem c_X6_valueAt_1 (l : Launch) (D : va_G) (cA : Nat → ClassId) (n1 : Int) (v1 : Int → Int) (x1 : Int → Int) (y1 : Int → Int) (o1 : Int → Int) (p : Int) (hop : 0 ≤ p ∧ p < 40 ∧ 0 ≤ o1 p ∧ o1 p < 40) :
    gC l D cA yX6_valueAt mX6_valueAt (some .int) 0 0 [gr 16, gi p] (wsW1 n1 v1 x1 y1 o1) (fun r9 w9 => r9 = some (gi (v1 (o1 p))) ∧ w9 = wsW1 n1 v1 x1 y1 o1) := by
  refine gC_of rfl kX6_valueAt rfl rfl (Nat.le_of_ble_eq_true rfl) (fun X ad hX hE => ?_)
  refine G.go hX 7 (wsW1 n1 v1 x1 y1 o1, 11, [(0, gr 16), (1, gi p)], [gi (v1 (o1 p))]) rfl ?_ ?_
  · refine ⟨?_, ?_, trivial⟩
    · omega
    · omega
  exact g_iret hX hE rfl ⟨rfl, rfl⟩
set_option maxHeartbeats 4000000 in
set_option maxRecDepth 100000 in
theorem c_X6_liesBehind_1 (l : Launch) (D : va_G) (cA : Nat → ClassId) (n1 : Int) (v1 : Int → Int) (x1 : Int → Int) (y1 : Int → Int) (o1 : Int → Int) (k : Int) (px : Int) (py : Int) (hk : 0 ≤ k ∧ k < 40) (hxy : ∀ q : Int, inR (x1 q) ∧ inR (y1 q)) (hpx : inR px) (hpy : inR py) :
    gC l D cA yX6_liesBehind mX6_liesBehind (some .boolean) 0 0 [gr 16, gi k, gi px, gi py] (wsW1 n1 v1 x1 y1 o1) (fun r9 w9 => r9 = some (gi (gb (wbh x1 y1 k px py))) ∧ w9 = wsW1 n1 v1 x1 y1 o1) := by
  refine gC_of rfl kX6_liesBehind rfl rfl (Nat.le_of_ble_eq_true rfl) (fun X ad hX hE => ?_)
  refine G.go hX 5 (wsW1 n1 v1 x1 y1 o1, 7, [(0, gr 16), (1, gi k), (2, gi px), (3, gi py)], [gi py, gi (y1 k)]) rfl ?_ ?_
  · refine ⟨?_, trivial⟩
    · omega
  refine g_icmp_eq hX 28 rfl rfl (by first | exact (hxy _).1 | exact (hxy _).2 | assumption) (by first | exact (hxy _).1 | exact (hxy _).2 | assumption) (fun b7 => ?_) (fun b7 => ?_)
  ·
    refine G.go hX 5 (wsW1 n1 v1 x1 y1 o1, 35, [(0, gr 16), (1, gi k), (2, gi px), (3, gi py)], [gi px, gi (x1 k)]) rfl ?_ ?_
    · refine ⟨?_, trivial⟩
      · omega
    refine g_icmp_le hX 42 rfl rfl (by first | exact (hxy _).1 | exact (hxy _).2 | assumption) (by first | exact (hxy _).1 | exact (hxy _).2 | assumption) (fun b35 => ?_) (fun b35 => ?_)
    ·
      refine G.go hX 1 (wsW1 n1 v1 x1 y1 o1, 43, [(0, gr 16), (1, gi k), (2, gi px), (3, gi py)], [gi 0]) rfl trivial ?_
      exact g_zret hX hE rfl (Or.inl rfl) ⟨(congrArg (fun z => some (gi z)) (gb_f (by unfold wbh; omega)).symm), rfl⟩
    ·
      refine G.go hX 2 (wsW1 n1 v1 x1 y1 o1, 43, [(0, gr 16), (1, gi k), (2, gi px), (3, gi py)], [gi 1]) rfl trivial ?_
      exact g_zret hX hE rfl (Or.inr rfl) ⟨(congrArg (fun z => some (gi z)) (gb_t (by unfold wbh; omega)).symm), rfl⟩
  ·
    refine G.go hX 5 (wsW1 n1 v1 x1 y1 o1, 17, [(0, gr 16), (1, gi k), (2, gi px), (3, gi py)], [gi py, gi (y1 k)]) rfl ?_ ?_
    · refine ⟨?_, trivial⟩
      · omega
    refine g_icmp_le hX 24 rfl rfl (by first | exact (hxy _).1 | exact (hxy _).2 | assumption) (by first | exact (hxy _).1 | exact (hxy _).2 | assumption) (fun b17 => ?_) (fun b17 => ?_)
    ·
      refine G.go hX 2 (wsW1 n1 v1 x1 y1 o1, 43, [(0, gr 16), (1, gi k), (2, gi px), (3, gi py)], [gi 0]) rfl trivial ?_
      exact g_zret hX hE rfl (Or.inl rfl) ⟨(congrArg (fun z => some (gi z)) (gb_f (by unfold wbh; omega)).symm), rfl⟩
    ·
      refine G.go hX 2 (wsW1 n1 v1 x1 y1 o1, 43, [(0, gr 16), (1, gi k), (2, gi px), (3, gi py)], [gi 1]) rfl trivial ?_
      exact g_zret hX hE rfl (Or.inr rfl) ⟨(congrArg (fun z => some (gi z)) (gb_t (by unfold wbh; omega)).symm), rfl⟩
set_option maxHeartbeats 4000000 in
set_option maxRecDepth 100000 in
theorem c_X6_add_1 (l : Launch) (D : va_G) (cA : Nat → ClassId) (n1 : Int) (v1 : Int → Int) (x1 : Int → Int) (y1 : Int → Int) (o1 : Int → Int) (va : Int) (px : Int) (py : Int) (hn : 0 ≤ n1 ∧ n1 < 40) (hxy : ∀ q : Int, inR (x1 q) ∧ inR (y1 q)) (hpx : inR px) (hpy : inR py) (hO : wOrd n1 x1 y1 o1) :
    gC l D cA yX6_add mX6_add (some .int) 0 0 [gr 16, gi va, gi px, gi py] (wsW1 n1 v1 x1 y1 o1) (fun r9 w9 => ∃ (ord2 : Int → Int), r9 = some (gi n1) ∧ w9 = wsW1 (n1 + 1) (gu v1 n1 va) (gu x1 n1 px) (gu y1 n1 py) ord2 ∧ (wOrd (n1 + 1) (gu x1 n1 px) (gu y1 n1 py) ord2)) := by
  refine gC_of rfl kX6_add rfl rfl (Nat.le_of_ble_eq_true rfl) (fun X ad hX hE => ?_)
  refine G.go hX 20 (wsW1 n1 (gu v1 n1 va) (gu x1 n1 px) (gu y1 n1 py) o1, 34, [(0, gr 16), (1, gi va), (2, gi px), (3, gi py), (4, gi n1), (5, gi n1)], []) rfl ?_ ?_
  · refine ⟨?_, ?_, ?_, trivial⟩
    · omega
    · omega
    · omega
  have lp34 : ∀ (n : Nat) (p : Int) (or1 : Int → Int), (wIn n1 (gu x1 n1 px) (gu y1 n1 py) o1 or1 px py p) → p.toNat < n → G X mX6_add ad 0 0 (wsW1 n1 (gu v1 n1 va) (gu x1 n1 px) (gu y1 n1 py) or1, 34, [(0, gr 16), (1, gi va), (2, gi px), (3, gi py), (4, gi n1), (5, gi p)], []) := by
    intro n
    induction n with
    | zero => intro p or1 hI hm9; exact absurd hm9 (Nat.not_lt_zero _)
    | succ n ih34 =>
      intro p or1 hI hm34
      have hI1 := hI.1
      refine G.go hX 1 (wsW1 n1 (gu v1 n1 va) (gu x1 n1 px) (gu y1 n1 py) or1, 36, [(0, gr 16), (1, gi va), (2, gi px), (3, gi py), (4, gi n1), (5, gi p)], [gi p]) rfl trivial ?_
      refine g_if_le hX 79 rfl rfl ⟨by omega, by omega⟩ (fun b36 => ?_) (fun b36 => ?_)
      ·
        refine G.go hX 12 (wsW1 (n1 + 1) (gu v1 n1 va) (gu x1 n1 px) (gu y1 n1 py) (gu or1 p n1), 100, [(0, gr 16), (1, gi va), (2, gi px), (3, gi py), (4, gi n1), (5, gi p)], [gi n1]) rfl ?_ ?_
        · refine ⟨?_, trivial⟩
          · omega
        exact g_iret hX hE rfl ⟨_, rfl, rfl, wOrd_ins hn.1 hO hI (by first | exact Or.inl (by omega) | exact Or.inr b54)⟩
      ·
        have he1 := hI.2.1 (p - 1) (by omega) (by omega)
        have he2 := hO.1 (p - 1) (by omega) (by omega)
        refine G.go hX 9 (wsW1 n1 (gu v1 n1 va) (gu x1 n1 px) (gu y1 n1 py) or1, 51, [(0, gr 16), (1, gi va), (2, gi px), (3, gi py), (4, gi n1), (5, gi p)], [gi py, gi px, gi (or1 (p - 1)), gr 16]) rfl ?_ ?_
        · refine ⟨?_, trivial⟩
          · omega
        refine G.callV (av := [gi (or1 (p - 1)), gi px, gi py]) (o := 16) (st := []) hX rfl (fun l D cA => c_X6_liesBehind_1 l D cA n1 (gu v1 n1 va) (gu x1 n1 px) (gu y1 n1 py) or1 (or1 (p - 1)) px py (by rw [he1]; omega) (fun q => ⟨gu_r (fun q => (hxy q).1) hpx q, gu_r (fun q => (hxy q).2) hpy q⟩) hpx hpy) (by decide +kernel) aX6_liesBehind rfl rfl rfl ⟨rfl, rfl⟩ (by decide) (Nat.le_of_ble_eq_true rfl) [0, 1, 2, 3, 4] [] [] rfl rfl rfl (fun r w' hp => ?_)
        obtain ⟨rfl, rfl⟩ := hp
        show G X mX6_add ad 0 0 (wsW1 n1 (gu v1 n1 va) (gu x1 n1 px) (gu y1 n1 py) or1, 54, [(0, gr 16), (1, gi va), (2, gi px), (3, gi py), (4, gi n1), (5, gi p)], [gi (gb (wbh (gu x1 n1 px) (gu y1 n1 py) (or1 (p - 1)) px py))])
        refine g_if_eq hX 79 rfl rfl (gb_r _) (fun b54 => ?_) (fun b54 => ?_)
        ·
          have b54 := gb_0.mp b54
          refine G.go hX 12 (wsW1 (n1 + 1) (gu v1 n1 va) (gu x1 n1 px) (gu y1 n1 py) (gu or1 p n1), 100, [(0, gr 16), (1, gi va), (2, gi px), (3, gi py), (4, gi n1), (5, gi p)], [gi n1]) rfl ?_ ?_
          · refine ⟨?_, trivial⟩
            · omega
          exact g_iret hX hE rfl ⟨_, rfl, rfl, wOrd_ins hn.1 hO hI (by first | exact Or.inl (by omega) | exact Or.inr b54)⟩
        ·
          have b54 := gb_n0 b54
          refine G.go hX 12 (wsW1 n1 (gu v1 n1 va) (gu x1 n1 px) (gu y1 n1 py) (gu or1 p (or1 (p - 1))), 34, [(0, gr 16), (1, gi va), (2, gi px), (3, gi py), (4, gi n1), (5, gi (p + (-1)))], []) rfl ?_ ?_
          · refine ⟨?_, ?_, trivial⟩
            · omega
            · omega
          exact ih34 (p + (-1)) (gu or1 p (or1 (p - 1))) (by exact wIn_step hI (by omega) b54) (by omega)
  exact lp34 _ n1 o1 (by exact ⟨by omega, fun _ _ _ => rfl, fun j _ _ => by omega, fun j _ _ => by omega⟩) (Nat.lt_succ_self _)
set_option maxHeartbeats 4000000 in
set_option maxRecDepth 100000 in
theorem c_X6_isSamePlace (l : Launch) (D : va_G) (cA : Nat → ClassId) (n0 : Int) (v0 : Int → Int) (x0 : Int → Int) (y0 : Int → Int) (o0 : Int → Int) (n1 : Int) (v1 : Int → Int) (x1 : Int → Int) (y1 : Int → Int) (o1 : Int → Int) (a : Int) (b : Int) (ha : 0 ≤ a ∧ a < 40 ∧ 0 ≤ o0 a ∧ o0 a < 40) (hb : 0 ≤ b ∧ b < 40 ∧ 0 ≤ o1 b ∧ o1 b < 40) (hxy : ∀ q : Int, (inR (x0 q) ∧ inR (x1 q)) ∧ inR (y0 q) ∧ inR (y1 q)) :
    gC l D cA yX6_isSamePlace mX6_isSamePlace (some .boolean) 0 0 [gr 11, gi a, gr 16, gi b] (wbW n0 v0 x0 y0 o0 n1 v1 x1 y1 o1) (fun r9 w9 => r9 = some (gi (gb (x0 (o0 a) = x1 (o1 b) ∧ y0 (o0 a) = y1 (o1 b)))) ∧ w9 = wbW n0 v0 x0 y0 o0 n1 v1 x1 y1 o1) := by
  refine gC_of rfl kX6_isSamePlace rfl rfl (Nat.le_of_ble_eq_true rfl) (fun X ad hX hE => ?_)
  refine G.go hX 18 (wbW n0 v0 x0 y0 o0 n1 v1 x1 y1 o1, 30, [(0, gr 11), (1, gi a), (2, gr 16), (3, gi b), (4, gi (o0 a)), (5, gi (o1 b))], [gi (x1 (o1 b)), gi (x0 (o0 a))]) rfl ?_ ?_
  · refine ⟨?_, ?_, ?_, ?_, trivial⟩
    · omega
    · omega
    · omega
    · omega
  refine g_icmp_ne hX 54 rfl rfl (by first | exact (hxy _).1.1 | exact (hxy _).1.2) (by first | exact (hxy _).1.1 | exact (hxy _).1.2) (fun b30 => ?_) (fun b30 => ?_)
  ·
    refine G.go hX 1 (wbW n0 v0 x0 y0 o0 n1 v1 x1 y1 o1, 55, [(0, gr 11), (1, gi a), (2, gr 16), (3, gi b), (4, gi (o0 a)), (5, gi (o1 b))], [gi 0]) rfl trivial ?_
    exact g_zret hX hE rfl (Or.inl rfl) ⟨(congrArg (fun z => some (gi z)) (gb_f (by omega)).symm), rfl⟩
  ·
    refine G.go hX 8 (wbW n0 v0 x0 y0 o0 n1 v1 x1 y1 o1, 47, [(0, gr 11), (1, gi a), (2, gr 16), (3, gi b), (4, gi (o0 a)), (5, gi (o1 b))], [gi (y1 (o1 b)), gi (y0 (o0 a))]) rfl ?_ ?_
    · refine ⟨?_, ?_, trivial⟩
      · omega
      · omega
    refine g_icmp_ne hX 54 rfl rfl (by first | exact (hxy _).2.1 | exact (hxy _).2.2) (by first | exact (hxy _).2.1 | exact (hxy _).2.2) (fun b47 => ?_) (fun b47 => ?_)
    ·
      refine G.go hX 1 (wbW n0 v0 x0 y0 o0 n1 v1 x1 y1 o1, 55, [(0, gr 11), (1, gi a), (2, gr 16), (3, gi b), (4, gi (o0 a)), (5, gi (o1 b))], [gi 0]) rfl trivial ?_
      exact g_zret hX hE rfl (Or.inl rfl) ⟨(congrArg (fun z => some (gi z)) (gb_f (by omega)).symm), rfl⟩
    ·
      refine G.go hX 2 (wbW n0 v0 x0 y0 o0 n1 v1 x1 y1 o1, 55, [(0, gr 11), (1, gi a), (2, gr 16), (3, gi b), (4, gi (o0 a)), (5, gi (o1 b))], [gi 1]) rfl trivial ?_
      exact g_zret hX hE rfl (Or.inr rfl) ⟨(congrArg (fun z => some (gi z)) (gb_t (by omega)).symm), rfl⟩
end
section
set_option maxHeartbeats 4000000 in
set_option maxRecDepth 100000 in
theorem c_X5_tell (l : Launch) (D : va_G) (cA : Nat → ClassId) (cn : Int) (wst : Int) (rwx : Int → Int) (lg : Int → Int) (n0 : Int) (v0 : Int → Int) (x0 : Int → Int) (y0 : Int → Int) (o0 : Int → Int) (n1 : Int) (v1 : Int → Int) (x1 : Int → Int) (y1 : Int → Int) (o1 : Int → Int) (i : Int) (k : Int) (hi : 0 ≤ i * 4 + k ∧ i * 4 + k < 320) :
    gC l D cA yX5_tell mX5_tell (some .int) 0 0 [gr 21, gi i, gi k] (wrW cn wst rwx lg n0 v0 x0 y0 o0 n1 v1 x1 y1 o1) (fun r9 w9 => r9 = some (gi (rwx (i * 4 + k))) ∧ w9 = wrW cn wst rwx lg n0 v0 x0 y0 o0 n1 v1 x1 y1 o1) := by
  refine gC_of rfl kX5_tell rfl rfl (Nat.le_of_ble_eq_true rfl) (fun X ad hX hE => ?_)
  refine G.go hX 8 (wrW cn wst rwx lg n0 v0 x0 y0 o0 n1 v1 x1 y1 o1, 10, [(0, gr 21), (1, gi i), (2, gi k)], [gi (rwx ((i * 4) + k))]) rfl ?_ ?_
  · refine ⟨?_, trivial⟩
    · omega
  exact g_iret hX hE rfl ⟨(congrArg (fun z => some (gi z)) (by first | rfl | (omega))), rfl⟩
set_option maxHeartbeats 4000000 in
set_option maxRecDepth 100000 in
theorem c_X5_append (l : Launch) (D : va_G) (cA : Nat → ClassId) (cn : Int) (wst : Int) (rwx : Int → Int) (lg : Int → Int) (n0 : Int) (v0 : Int → Int) (x0 : Int → Int) (y0 : Int → Int) (o0 : Int → Int) (n1 : Int) (v1 : Int → Int) (x1 : Int → Int) (y1 : Int → Int) (o1 : Int → Int) (k : Int) (w : Int) (p : Int) (q : Int) (hcn : 0 ≤ cn ∧ cn < 80) :
    gC l D cA yX5_append mX5_append none 0 0 [gr 21, gi k, gi w, gi p, gi q] (wrW cn wst rwx lg n0 v0 x0 y0 o0 n1 v1 x1 y1 o1) (fun r9 w9 => r9 = none ∧ w9 = wrW (cn + 1) wst (wap rwx cn k w p q) lg n0 v0 x0 y0 o0 n1 v1 x1 y1 o1) := by
  refine gC_of rfl kX5_append rfl rfl (Nat.le_of_ble_eq_true rfl) (fun X ad hX hE => ?_)
  refine G.go hX 3 (wrW cn wst rwx lg n0 v0 x0 y0 o0 n1 v1 x1 y1 o1, 6, [(0, gr 21), (1, gi k), (2, gi w), (3, gi p), (4, gi q)], [gi 80, gi cn]) rfl trivial ?_
  refine g_icmp_ge hX 68 rfl rfl ⟨by omega, by omega⟩ ⟨by omega, by omega⟩ (fun b6 => ?_) (fun b6 => ?_)
  ·
    exfalso
    omega
  ·
    refine G.go hX 39 (wrW (cn + 1) wst (gu (gu (gu (gu rwx ((cn * 4) + 0) k) ((cn * 4) + 1) w) ((cn * 4) + 2) p) ((cn * 4) + 3) q) lg n0 v0 x0 y0 o0 n1 v1 x1 y1 o1, 68, [(0, gr 21), (1, gi k), (2, gi w), (3, gi p), (4, gi q), (5, gi (cn * 4))], []) rfl ?_ ?_
    · refine ⟨?_, ?_, ?_, ?_, trivial⟩
      · omega
      · omega
      · omega
      · omega
    exact g_vret hX hE rfl ⟨rfl, (by first | rfl | (omega))⟩
set_option maxHeartbeats 4000000 in
set_option maxRecDepth 100000 in
theorem c_X5_countKind (l : Launch) (D : va_G) (cA : Nat → ClassId) (cn : Int) (wst : Int) (rwx : Int → Int) (lg : Int → Int) (n0 : Int) (v0 : Int → Int) (x0 : Int → Int) (y0 : Int → Int) (o0 : Int → Int) (n1 : Int) (v1 : Int → Int) (x1 : Int → Int) (y1 : Int → Int) (o1 : Int → Int) (k : Int) (hcn : 0 ≤ cn ∧ cn ≤ 80) (hrw : ∀ q : Int, inR (rwx q)) (hk : inR k) :
    gC l D cA yX5_countKind mX5_countKind (some .int) 0 0 [gr 21, gi k] (wrW cn wst rwx lg n0 v0 x0 y0 o0 n1 v1 x1 y1 o1) (fun r9 w9 => r9 = some (gi (gsm (fun q => gb (rwx (q * 4 + 0) = k)) cn.toNat)) ∧ w9 = wrW cn wst rwx lg n0 v0 x0 y0 o0 n1 v1 x1 y1 o1) := by
  refine gC_of rfl kX5_countKind rfl rfl (Nat.le_of_ble_eq_true rfl) (fun X ad hX hE => ?_)
  refine G.go hX 4 (wrW cn wst rwx lg n0 v0 x0 y0 o0 n1 v1 x1 y1 o1, 4, [(0, gr 21), (1, gi k), (2, gi 0), (3, gi 0)], []) rfl trivial ?_
  have lp4 : ∀ (n : Nat) (f1 : Int) (i : Int), (0 ≤ i ∧ i ≤ cn) → (f1 = gsm (fun q => gb (rwx (q * 4 + 0) = k)) i.toNat) → (cn - i).toNat < n → G X mX5_countKind ad 0 0 (wrW cn wst rwx lg n0 v0 x0 y0 o0 n1 v1 x1 y1 o1, 4, [(0, gr 21), (1, gi k), (2, gi f1), (3, gi i)], []) := by
    intro n
    induction n with
    | zero => intro f1 i hi hf hm9; exact absurd hm9 (Nat.not_lt_zero _)
    | succ n ih4 =>
      intro f1 i hi hf hm4
      refine G.go hX 3 (wrW cn wst rwx lg n0 v0 x0 y0 o0 n1 v1 x1 y1 o1, 9, [(0, gr 21), (1, gi k), (2, gi f1), (3, gi i)], [gi cn, gi i]) rfl trivial ?_
      refine g_icmp_ge hX 36 rfl rfl ⟨by omega, by omega⟩ ⟨by omega, by omega⟩ (fun b9 => ?_) (fun b9 => ?_)
      ·
        refine G.go hX 1 (wrW cn wst rwx lg n0 v0 x0 y0 o0 n1 v1 x1 y1 o1, 37, [(0, gr 21), (1, gi k), (2, gi f1), (3, gi i)], [gi f1]) rfl trivial ?_
        exact g_iret hX hE rfl ⟨(congrArg (fun z => some (gi z)) (by first | rfl | (rw [hf, show i = cn by omega]))), rfl⟩
      ·
        refine G.go hX 4 (wrW cn wst rwx lg n0 v0 x0 y0 o0 n1 v1 x1 y1 o1, 16, [(0, gr 21), (1, gi k), (2, gi f1), (3, gi i)], [gi 0, gi i, gr 21, gi f1]) rfl trivial ?_
        refine G.callV (av := [gi i, gi 0]) (o := 21) (st := [gi f1]) hX rfl (fun l D cA => c_X5_tell l D cA cn wst rwx lg n0 v0 x0 y0 o0 n1 v1 x1 y1 o1 i 0 (by first | assumption | omega)) (by decide +kernel) aX5_tell rfl rfl rfl ⟨rfl, rfl⟩ (by decide) (Nat.le_of_ble_eq_true rfl) [0, 1, 2, 3, 4, 5, 6, 7, 8, 9, 10, 11, 12] [] [] rfl rfl rfl (fun r w' hp => ?_)
        obtain ⟨rfl, rfl⟩ := hp
        show G X mX5_countKind ad 0 0 (wrW cn wst rwx lg n0 v0 x0 y0 o0 n1 v1 x1 y1 o1, 19, [(0, gr 21), (1, gi k), (2, gi f1), (3, gi i)], [gi (rwx (i * 4 + 0)), gi f1])
        refine G.go hX 1 (wrW cn wst rwx lg n0 v0 x0 y0 o0 n1 v1 x1 y1 o1, 20, [(0, gr 21), (1, gi k), (2, gi f1), (3, gi i)], [gi k, gi (rwx (i * 4 + 0)), gi f1]) rfl trivial ?_
        refine g_icmp_ne hX 27 rfl rfl (by first | exact hrw _ | assumption) (by first | exact hrw _ | assumption) (fun b20 => ?_) (fun b20 => ?_)
        ·
          refine G.go hX 5 (wrW cn wst rwx lg n0 v0 x0 y0 o0 n1 v1 x1 y1 o1, 4, [(0, gr 21), (1, gi k), (2, gi (f1 + 0)), (3, gi (i + 1))], []) rfl trivial ?_
          exact ih4 (f1 + 0) (i + 1) (by omega) (by have h9 := gsm_next (fun q => gb (rwx (q * 4 + 0) = k)) hi.1 hf; first | (rw [gb_t (by omega)] at h9; exact h9) | (rw [gb_f (by omega)] at h9; exact h9)) (by omega)
        ·
          refine G.go hX 6 (wrW cn wst rwx lg n0 v0 x0 y0 o0 n1 v1 x1 y1 o1, 4, [(0, gr 21), (1, gi k), (2, gi (f1 + 1)), (3, gi (i + 1))], []) rfl trivial ?_
          exact ih4 (f1 + 1) (i + 1) (by omega) (by have h9 := gsm_next (fun q => gb (rwx (q * 4 + 0) = k)) hi.1 hf; first | (rw [gb_t (by omega)] at h9; exact h9) | (rw [gb_f (by omega)] at h9; exact h9)) (by omega)
  exact lp4 _ 0 0 (by omega) (by rfl) (Nat.lt_succ_self _)
set_option maxHeartbeats 4000000 in
set_option maxRecDepth 100000 in
theorem c_X5_measureAt (l : Launch) (D : va_G) (cA : Nat → ClassId) (cn : Int) (wst : Int) (rwx : Int → Int) (lg : Int → Int) (n0 : Int) (v0 : Int → Int) (x0 : Int → Int) (y0 : Int → Int) (o0 : Int → Int) (n1 : Int) (v1 : Int → Int) (x1 : Int → Int) (y1 : Int → Int) (o1 : Int → Int) (a : Int) (b : Int) (hn : (0 ≤ n0 ∧ n0 ≤ 40) ∧ 0 ≤ n1 ∧ n1 ≤ 40) (ho0 : ∀ j, 0 ≤ j → j < n0 → 0 ≤ o0 j ∧ o0 j < n0) (ho1 : ∀ j, 0 ≤ j → j < n1 → 0 ≤ o1 j ∧ o1 j < n1) (hv : ∀ q : Int, inR (v0 q) ∧ inR (v1 q)) (ha : 0 ≤ a ∧ a ≤ n0) (hb : 0 ≤ b ∧ b ≤ n1) (hL : wLp n0 n1 (fun j => v0 (o0 j)) (fun j => v1 (o1 j)) lg a b) :
    gC l D cA yX5_measureAt mX5_measureAt (some .int) 0 0 [gr 21, gi a, gi b] (wrW cn wst rwx lg n0 v0 x0 y0 o0 n1 v1 x1 y1 o1) (fun r9 w9 => r9 = some (gi (wLv n0 n1 (fun j => v0 (o0 j)) (fun j => v1 (o1 j)) (fun a b => lg (a * 41 + b)) a b)) ∧ w9 = wrW cn wst rwx lg n0 v0 x0 y0 o0 n1 v1 x1 y1 o1) := by
  refine gC_of rfl kX5_measureAt rfl rfl (Nat.le_of_ble_eq_true rfl) (fun X ad hX hE => ?_)
  refine G.go hX 4 (wrW cn wst rwx lg n0 v0 x0 y0 o0 n1 v1 x1 y1 o1, 8, [(0, gr 21), (1, gi a), (2, gi b)], [gi n0, gi a]) rfl trivial ?_
  refine g_icmp_ge hX 22 rfl rfl ⟨by omega, by omega⟩ ⟨by omega, by omega⟩ (fun b8 => ?_) (fun b8 => ?_)
  ·
    refine G.go hX 1 (wrW cn wst rwx lg n0 v0 x0 y0 o0 n1 v1 x1 y1 o1, 23, [(0, gr 21), (1, gi a), (2, gi b)], [gi 0]) rfl trivial ?_
    exact g_iret hX hE rfl ⟨(congrArg (fun z => some (gi z)) (by first | rfl | (unfold wLv; rw [if_pos (by omega)]))), rfl⟩
  ·
    refine G.go hX 4 (wrW cn wst rwx lg n0 v0 x0 y0 o0 n1 v1 x1 y1 o1, 19, [(0, gr 21), (1, gi a), (2, gi b)], [gi n1, gi b]) rfl trivial ?_
    refine g_icmp_lt hX 24 rfl rfl ⟨by omega, by omega⟩ ⟨by omega, by omega⟩ (fun b19 => ?_) (fun b19 => ?_)
    ·
      have e0 := ho0 a (by omega) (by omega)
      have e1 := ho1 b (by omega) (by omega)
      refine G.go hX 3 (wrW cn wst rwx lg n0 v0 x0 y0 o0 n1 v1 x1 y1 o1, 29, [(0, gr 21), (1, gi a), (2, gi b)], [gi a, gr 11]) rfl trivial ?_
      refine G.callV (av := [gi a]) (o := 11) (st := []) hX rfl (fun l D cA => c_X6_valueAt_0 l D cA n0 v0 x0 y0 o0 a ⟨by omega, by omega, by omega, by omega⟩) (by decide +kernel) aX6_valueAt rfl rfl rfl ⟨rfl, rfl⟩ (by decide) (Nat.le_of_ble_eq_true rfl) [3, 4, 5, 6, 7] [0, 1, 2, 8, 9, 10, 11, 12] [(21, gob 6 [gi cn, gi wst, gr 11, gr 16, gr 22, gr 23]), (22, gai 0 320 rwx), (23, gai 0 1681 lg), (16, gob 7 [gi n1, gr 17, gr 18, gr 19, gr 20]), (17, gai 0 40 v1), (18, gai 0 40 x1), (19, gai 0 40 y1), (20, gai 0 40 o1)] rfl rfl rfl (fun r w' hp => ?_)
      obtain ⟨rfl, rfl⟩ := hp
      refine G.perm (wrW cn wst rwx lg n0 v0 x0 y0 o0 n1 v1 x1 y1 o1) [0, 1, 2, 8, 9, 10, 11, 12, 3, 4, 5, 6, 7] rfl rfl ?_
      show G X mX5_measureAt ad 0 0 (wrW cn wst rwx lg n0 v0 x0 y0 o0 n1 v1 x1 y1 o1, 32, [(0, gr 21), (1, gi a), (2, gi b)], [gi (v0 (o0 a))])
      refine G.go hX 3 (wrW cn wst rwx lg n0 v0 x0 y0 o0 n1 v1 x1 y1 o1, 37, [(0, gr 21), (1, gi a), (2, gi b)], [gi b, gr 16, gi (v0 (o0 a))]) rfl trivial ?_
      refine G.callV (av := [gi b]) (o := 16) (st := [gi (v0 (o0 a))]) hX rfl (fun l D cA => c_X6_valueAt_1 l D cA n1 v1 x1 y1 o1 b ⟨by omega, by omega, by omega, by omega⟩) (by decide +kernel) aX6_valueAt rfl rfl rfl ⟨rfl, rfl⟩ (by decide) (Nat.le_of_ble_eq_true rfl) [8, 9, 10, 11, 12] [0, 1, 2, 3, 4, 5, 6, 7] [(21, gob 6 [gi cn, gi wst, gr 11, gr 16, gr 22, gr 23]), (22, gai 0 320 rwx), (23, gai 0 1681 lg), (11, gob 7 [gi n0, gr 12, gr 13, gr 14, gr 15]), (12, gai 0 40 v0), (13, gai 0 40 x0), (14, gai 0 40 y0), (15, gai 0 40 o0)] rfl rfl rfl (fun r w' hp => ?_)
      obtain ⟨rfl, rfl⟩ := hp
      refine G.perm (wrW cn wst rwx lg n0 v0 x0 y0 o0 n1 v1 x1 y1 o1) [0, 1, 2, 3, 4, 5, 6, 7, 8, 9, 10, 11, 12] rfl rfl ?_
      show G X mX5_measureAt ad 0 0 (wrW cn wst rwx lg n0 v0 x0 y0 o0 n1 v1 x1 y1 o1, 40, [(0, gr 21), (1, gi a), (2, gi b)], [gi (v1 (o1 b)), gi (v0 (o0 a))])
      refine g_icmp_ne hX 61 rfl rfl (by first | exact (hv _).1 | exact (hv _).2) (by first | exact (hv _).1 | exact (hv _).2) (fun b40 => ?_) (fun b40 => ?_)
      ·
        refine G.go hX 20 (wrW cn wst rwx lg n0 v0 x0 y0 o0 n1 v1 x1 y1 o1, 87, [(0, gr 21), (1, gi a), (2, gi b)], [gi (lg (((a * 41) + b) + 1)), gi (lg (((a + 1) * 41) + b))]) rfl ?_ ?_
        · refine ⟨?_, ?_, trivial⟩
          · omega
          · omega
        refine g_mmax hX rfl (by decide +kernel) ⟨⟨by decide, Nat.le_of_ble_eq_true rfl⟩, by decide, by decide⟩ (by first | (have h9 := hL (a + 1) b (by omega) (by omega) (by omega) (by omega) (by omega); exact ⟨by omega, by omega⟩) | (have h9 := hL a (b + 1) (by omega) (by omega) (by omega) (by omega) (by omega); rw [show a * 41 + b + 1 = a * 41 + (b + 1) by omega]; exact ⟨by omega, by omega⟩)) (by first | (have h9 := hL (a + 1) b (by omega) (by omega) (by omega) (by omega) (by omega); exact ⟨by omega, by omega⟩) | (have h9 := hL a (b + 1) (by omega) (by omega) (by omega) (by omega) (by omega); rw [show a * 41 + b + 1 = a * 41 + (b + 1) by omega]; exact ⟨by omega, by omega⟩)) ?_
        show G X mX5_measureAt ad 0 0 (wrW cn wst rwx lg n0 v0 x0 y0 o0 n1 v1 x1 y1 o1, 90, [(0, gr 21), (1, gi a), (2, gi b)], [gi (max (lg (((a + 1) * 41) + b)) (lg (((a * 41) + b) + 1)))])
        exact g_iret hX hE rfl ⟨(congrArg (fun z => some (gi z)) (by first | rfl | (unfold wLv; rw [if_neg (by omega), if_neg (show ¬ v0 (o0 a) = v1 (o1 b) by omega)]; show max (lg _) (lg _) = max (lg _) (lg _); congr 2; omega))), rfl⟩
      ·
        refine G.go hX 14 (wrW cn wst rwx lg n0 v0 x0 y0 o0 n1 v1 x1 y1 o1, 60, [(0, gr 21), (1, gi a), (2, gi b)], [gi (1 + (lg ((((a + 1) * 41) + b) + 1)))]) rfl ?_ ?_
        · refine ⟨?_, trivial⟩
          · omega
        exact g_iret hX hE rfl ⟨(congrArg (fun z => some (gi z)) (by first | rfl | (unfold wLv; rw [if_neg (by omega), if_pos (show v0 (o0 a) = v1 (o1 b) by omega)]; show 1 + lg _ = 1 + lg _; congr 2; omega))), rfl⟩
    ·
      refine G.go hX 1 (wrW cn wst rwx lg n0 v0 x0 y0 o0 n1 v1 x1 y1 o1, 23, [(0, gr 21), (1, gi a), (2, gi b)], [gi 0]) rfl trivial ?_
      exact g_iret hX hE rfl ⟨(congrArg (fun z => some (gi z)) (by first | rfl | (unfold wLv; rw [if_pos (by omega)]))), rfl⟩
set_option maxHeartbeats 4000000 in
set_option maxRecDepth 100000 in
theorem c_X5_measure (l : Launch) (D : va_G) (cA : Nat → ClassId) (cn : Int) (wst : Int) (rwx : Int → Int) (lg : Int → Int) (n0 : Int) (v0 : Int → Int) (x0 : Int → Int) (y0 : Int → Int) (o0 : Int → Int) (n1 : Int) (v1 : Int → Int) (x1 : Int → Int) (y1 : Int → Int) (o1 : Int → Int) (hn : (0 ≤ n0 ∧ n0 ≤ 40) ∧ 0 ≤ n1 ∧ n1 ≤ 40) (ho0 : ∀ j, 0 ≤ j → j < n0 → 0 ≤ o0 j ∧ o0 j < n0) (ho1 : ∀ j, 0 ≤ j → j < n1 → 0 ≤ o1 j ∧ o1 j < n1) (hv : ∀ q : Int, inR (v0 q) ∧ inR (v1 q)) :
    gC l D cA yX5_measure mX5_measure none 0 0 [gr 21] (wrW cn wst rwx lg n0 v0 x0 y0 o0 n1 v1 x1 y1 o1) (fun r9 w9 => ∃ (lg2 : Int → Int), r9 = none ∧ w9 = wrW cn wst rwx lg2 n0 v0 x0 y0 o0 n1 v1 x1 y1 o1 ∧ (wLok n0 n1 (fun j => v0 (o0 j)) (fun j => v1 (o1 j)) (fun a b => lg2 (a * 41 + b)))) := by
  refine gC_of rfl kX5_measure rfl rfl (Nat.le_of_ble_eq_true rfl) (fun X ad hX hE => ?_)
  refine G.go hX 4 (wrW cn wst rwx lg n0 v0 x0 y0 o0 n1 v1 x1 y1 o1, 8, [(0, gr 21), (1, gi n0)], []) rfl trivial ?_
  have lp8 : ∀ (n : Nat) (a : Int) (lg1 : Int → Int), (-1 ≤ a ∧ a ≤ n0) → (wLp n0 n1 (fun j => v0 (o0 j)) (fun j => v1 (o1 j)) lg1 a n1) → (a + 1).toNat < n → G X mX5_measure ad 0 0 (wrW cn wst rwx lg1 n0 v0 x0 y0 o0 n1 v1 x1 y1 o1, 8, [(0, gr 21), (1, gi a)], []) := by
    intro n
    induction n with
    | zero => intro a lg1 ha hp1 hm9; exact absurd hm9 (Nat.not_lt_zero _)
    | succ n ih8 =>
      intro a lg1 ha hp1 hm8
      refine G.go hX 1 (wrW cn wst rwx lg1 n0 v0 x0 y0 o0 n1 v1 x1 y1 o1, 9, [(0, gr 21), (1, gi a)], [gi a]) rfl trivial ?_
      refine g_if_lt hX 53 rfl rfl ⟨by omega, by omega⟩ (fun b9 => ?_) (fun b9 => ?_)
      ·
        exact g_vret hX hE rfl ⟨lg1, rfl, rfl, fun a' b' h1 h2 h3 h4 => hp1 a' b' h1 h2 h3 h4 (by omega)⟩
      ·
        refine G.go hX 4 (wrW cn wst rwx lg1 n0 v0 x0 y0 o0 n1 v1 x1 y1 o1, 20, [(0, gr 21), (1, gi a), (2, gi n1)], []) rfl trivial ?_
        have lp20 : ∀ (n : Nat) (b : Int) (lg3 : Int → Int), (-1 ≤ b ∧ b ≤ n1) → (wLp n0 n1 (fun j => v0 (o0 j)) (fun j => v1 (o1 j)) lg3 a b) → (b + 1).toNat < n → G X mX5_measure ad 0 0 (wrW cn wst rwx lg3 n0 v0 x0 y0 o0 n1 v1 x1 y1 o1, 20, [(0, gr 21), (1, gi a), (2, gi b)], []) := by
          intro n
          induction n with
          | zero => intro b lg3 hb hp3 hm9; exact absurd hm9 (Nat.not_lt_zero _)
          | succ n ih20 =>
            intro b lg3 hb hp3 hm20
            refine G.go hX 1 (wrW cn wst rwx lg3 n0 v0 x0 y0 o0 n1 v1 x1 y1 o1, 21, [(0, gr 21), (1, gi a), (2, gi b)], [gi b]) rfl trivial ?_
            refine g_if_lt hX 47 rfl rfl ⟨by omega, by omega⟩ (fun b21 => ?_) (fun b21 => ?_)
            ·
              refine G.go hX 2 (wrW cn wst rwx lg3 n0 v0 x0 y0 o0 n1 v1 x1 y1 o1, 8, [(0, gr 21), (1, gi (a + (-1))), (2, gi b)], []) rfl trivial ?_
              refine G.locs [(0, gr 21), (1, gi (a + (-1)))] [0, 1] rfl ?_
              exact ih8 (a + (-1)) lg3 (by omega) (by intro a' b' h1 h2 h3 h4 h5; exact hp3 a' b' h1 h2 h3 h4 (by omega)) (by omega)
            ·
              refine G.go hX 10 (wrW cn wst rwx lg3 n0 v0 x0 y0 o0 n1 v1 x1 y1 o1, 37, [(0, gr 21), (1, gi a), (2, gi b)], [gi b, gi a, gr 21, gi ((a * 41) + b), gr 23]) rfl trivial ?_
              refine G.callV (av := [gi a, gi b]) (o := 21) (st := [gi ((a * 41) + b), gr 23]) hX rfl (fun l D cA => c_X5_measureAt l D cA cn wst rwx lg3 n0 v0 x0 y0 o0 n1 v1 x1 y1 o1 a b (by first | assumption | omega) (by first | assumption | omega) (by first | assumption | omega) (by first | assumption | omega) (by first | assumption | omega) (by first | assumption | omega) (by first | assumption | omega)) (by decide +kernel) aX5_measureAt rfl rfl rfl ⟨rfl, rfl⟩ (by decide) (Nat.le_of_ble_eq_true rfl) [0, 1, 2, 3, 4, 5, 6, 7, 8, 9, 10, 11, 12] [] [] rfl rfl rfl (fun r w' hp => ?_)
              obtain ⟨rfl, rfl⟩ := hp
              show G X mX5_measure ad 0 0 (wrW cn wst rwx lg3 n0 v0 x0 y0 o0 n1 v1 x1 y1 o1, 40, [(0, gr 21), (1, gi a), (2, gi b)], [gi (wLv n0 n1 (fun j => v0 (o0 j)) (fun j => v1 (o1 j)) (fun a b => lg3 (a * 41 + b)) a b), gi ((a * 41) + b), gr 23])
              refine G.go hX 3 (wrW cn wst rwx (gu lg3 ((a * 41) + b) (wLv n0 n1 (fun j => v0 (o0 j)) (fun j => v1 (o1 j)) (fun a b => lg3 (a * 41 + b)) a b)) n0 v0 x0 y0 o0 n1 v1 x1 y1 o1, 20, [(0, gr 21), (1, gi a), (2, gi (b + (-1)))], []) rfl ?_ ?_
              · refine ⟨?_, trivial⟩
                · omega
              exact ih20 (b + (-1)) (gu lg3 ((a * 41) + b) (wLv n0 n1 (fun j => v0 (o0 j)) (fun j => v1 (o1 j)) (fun a b => lg3 (a * 41 + b)) a b)) (by omega) (by have h9 := wLp_step (by omega) hp3 (by omega) (by omega) (by omega) (by omega); rw [show b + (-1) = b - 1 by omega]; exact h9) (by omega)
        exact lp20 _ n1 lg1 (by omega) (by exact hp1) (Nat.lt_succ_self _)
  exact lp8 _ n0 lg (by omega) (by intro a' b' _ _ _ _ h9; omega) (Nat.lt_succ_self _)
set_option maxHeartbeats 4000000 in
set_option maxRecDepth 100000 in
theorem c_X5_isKept (l : Launch) (D : va_G) (cA : Nat → ClassId) (cn : Int) (wst : Int) (rwx : Int → Int) (lg : Int → Int) (n0 : Int) (v0 : Int → Int) (x0 : Int → Int) (y0 : Int → Int) (o0 : Int → Int) (n1 : Int) (v1 : Int → Int) (x1 : Int → Int) (y1 : Int → Int) (o1 : Int → Int) (a : Int) (b : Int) (hn : (0 ≤ n0 ∧ n0 ≤ 40) ∧ 0 ≤ n1 ∧ n1 ≤ 40) (ho0 : ∀ j, 0 ≤ j → j < n0 → 0 ≤ o0 j ∧ o0 j < n0) (ho1 : ∀ j, 0 ≤ j → j < n1 → 0 ≤ o1 j ∧ o1 j < n1) (hv : ∀ q : Int, inR (v0 q) ∧ inR (v1 q)) (ha : 0 ≤ a ∧ a ≤ n0) (hb : 0 ≤ b ∧ b ≤ n1) :
    gC l D cA yX5_isKept mX5_isKept (some .boolean) 0 0 [gr 21, gi a, gi b] (wrW cn wst rwx lg n0 v0 x0 y0 o0 n1 v1 x1 y1 o1) (fun r9 w9 => r9 = some (gi (gb (a < n0 ∧ b < n1 ∧ v0 (o0 a) = v1 (o1 b)))) ∧ w9 = wrW cn wst rwx lg n0 v0 x0 y0 o0 n1 v1 x1 y1 o1) := by
  refine gC_of rfl kX5_isKept rfl rfl (Nat.le_of_ble_eq_true rfl) (fun X ad hX hE => ?_)
  refine G.go hX 4 (wrW cn wst rwx lg n0 v0 x0 y0 o0 n1 v1 x1 y1 o1, 8, [(0, gr 21), (1, gi a), (2, gi b)], [gi n0, gi a]) rfl trivial ?_
  refine g_icmp_ge hX 45 rfl rfl ⟨by omega, by omega⟩ ⟨by omega, by omega⟩ (fun b8 => ?_) (fun b8 => ?_)
  ·
    refine G.go hX 1 (wrW cn wst rwx lg n0 v0 x0 y0 o0 n1 v1 x1 y1 o1, 46, [(0, gr 21), (1, gi a), (2, gi b)], [gi 0]) rfl trivial ?_
    exact g_zret hX hE rfl (Or.inl rfl) ⟨(congrArg (fun z => some (gi z)) (gb_f (by omega)).symm), rfl⟩
  ·
    refine G.go hX 4 (wrW cn wst rwx lg n0 v0 x0 y0 o0 n1 v1 x1 y1 o1, 19, [(0, gr 21), (1, gi a), (2, gi b)], [gi n1, gi b]) rfl trivial ?_
    refine g_icmp_ge hX 45 rfl rfl ⟨by omega, by omega⟩ ⟨by omega, by omega⟩ (fun b19 => ?_) (fun b19 => ?_)
    ·
      refine G.go hX 1 (wrW cn wst rwx lg n0 v0 x0 y0 o0 n1 v1 x1 y1 o1, 46, [(0, gr 21), (1, gi a), (2, gi b)], [gi 0]) rfl trivial ?_
      exact g_zret hX hE rfl (Or.inl rfl) ⟨(congrArg (fun z => some (gi z)) (gb_f (by omega)).symm), rfl⟩
    ·
      have e0 := ho0 a (by omega) (by omega)
      have e1 := ho1 b (by omega) (by omega)
      refine G.go hX 3 (wrW cn wst rwx lg n0 v0 x0 y0 o0 n1 v1 x1 y1 o1, 27, [(0, gr 21), (1, gi a), (2, gi b)], [gi a, gr 11]) rfl trivial ?_
      refine G.callV (av := [gi a]) (o := 11) (st := []) hX rfl (fun l D cA => c_X6_valueAt_0 l D cA n0 v0 x0 y0 o0 a ⟨by omega, by omega, by omega, by omega⟩) (by decide +kernel) aX6_valueAt rfl rfl rfl ⟨rfl, rfl⟩ (by decide) (Nat.le_of_ble_eq_true rfl) [3, 4, 5, 6, 7] [0, 1, 2, 8, 9, 10, 11, 12] [(21, gob 6 [gi cn, gi wst, gr 11, gr 16, gr 22, gr 23]), (22, gai 0 320 rwx), (23, gai 0 1681 lg), (16, gob 7 [gi n1, gr 17, gr 18, gr 19, gr 20]), (17, gai 0 40 v1), (18, gai 0 40 x1), (19, gai 0 40 y1), (20, gai 0 40 o1)] rfl rfl rfl (fun r w' hp => ?_)
      obtain ⟨rfl, rfl⟩ := hp
      refine G.perm (wrW cn wst rwx lg n0 v0 x0 y0 o0 n1 v1 x1 y1 o1) [0, 1, 2, 8, 9, 10, 11, 12, 3, 4, 5, 6, 7] rfl rfl ?_
      show G X mX5_isKept ad 0 0 (wrW cn wst rwx lg n0 v0 x0 y0 o0 n1 v1 x1 y1 o1, 30, [(0, gr 21), (1, gi a), (2, gi b)], [gi (v0 (o0 a))])
      refine G.go hX 3 (wrW cn wst rwx lg n0 v0 x0 y0 o0 n1 v1 x1 y1 o1, 35, [(0, gr 21), (1, gi a), (2, gi b)], [gi b, gr 16, gi (v0 (o0 a))]) rfl trivial ?_
      refine G.callV (av := [gi b]) (o := 16) (st := [gi (v0 (o0 a))]) hX rfl (fun l D cA => c_X6_valueAt_1 l D cA n1 v1 x1 y1 o1 b ⟨by omega, by omega, by omega, by omega⟩) (by decide +kernel) aX6_valueAt rfl rfl rfl ⟨rfl, rfl⟩ (by decide) (Nat.le_of_ble_eq_true rfl) [8, 9, 10, 11, 12] [0, 1, 2, 3, 4, 5, 6, 7] [(21, gob 6 [gi cn, gi wst, gr 11, gr 16, gr 22, gr 23]), (22, gai 0 320 rwx), (23, gai 0 1681 lg), (11, gob 7 [gi n0, gr 12, gr 13, gr 14, gr 15]), (12, gai 0 40 v0), (13, gai 0 40 x0), (14, gai 0 40 y0), (15, gai 0 40 o0)] rfl rfl rfl (fun r w' hp => ?_)
      obtain ⟨rfl, rfl⟩ := hp
      refine G.perm (wrW cn wst rwx lg n0 v0 x0 y0 o0 n1 v1 x1 y1 o1) [0, 1, 2, 3, 4, 5, 6, 7, 8, 9, 10, 11, 12] rfl rfl ?_
      show G X mX5_isKept ad 0 0 (wrW cn wst rwx lg n0 v0 x0 y0 o0 n1 v1 x1 y1 o1, 38, [(0, gr 21), (1, gi a), (2, gi b)], [gi (v1 (o1 b)), gi (v0 (o0 a))])
      refine g_icmp_ne hX 45 rfl rfl (by first | exact (hv _).1 | exact (hv _).2) (by first | exact (hv _).1 | exact (hv _).2) (fun b38 => ?_) (fun b38 => ?_)
      ·
        refine G.go hX 1 (wrW cn wst rwx lg n0 v0 x0 y0 o0 n1 v1 x1 y1 o1, 46, [(0, gr 21), (1, gi a), (2, gi b)], [gi 0]) rfl trivial ?_
        exact g_zret hX hE rfl (Or.inl rfl) ⟨(congrArg (fun z => some (gi z)) (gb_f (by omega)).symm), rfl⟩
      ·
        refine G.go hX 2 (wrW cn wst rwx lg n0 v0 x0 y0 o0 n1 v1 x1 y1 o1, 46, [(0, gr 21), (1, gi a), (2, gi b)], [gi 1]) rfl trivial ?_
        exact g_zret hX hE rfl (Or.inr rfl) ⟨(congrArg (fun z => some (gi z)) (gb_t (by omega)).symm), rfl⟩
set_option maxHeartbeats 4000000 in
set_option maxRecDepth 100000 in
theorem c_X5_isGone (l : Launch) (D : va_G) (cA : Nat → ClassId) (cn : Int) (wst : Int) (rwx : Int → Int) (lg : Int → Int) (n0 : Int) (v0 : Int → Int) (x0 : Int → Int) (y0 : Int → Int) (o0 : Int → Int) (n1 : Int) (v1 : Int → Int) (x1 : Int → Int) (y1 : Int → Int) (o1 : Int → Int) (a : Int) (b : Int) (hn : (0 ≤ n0 ∧ n0 ≤ 40) ∧ 0 ≤ n1 ∧ n1 ≤ 40) (ha : 0 ≤ a ∧ a ≤ n0) (hb : 0 ≤ b ∧ b ≤ n1) (hL : wLok n0 n1 (fun j => v0 (o0 j)) (fun j => v1 (o1 j)) (fun a b => lg (a * 41 + b))) :
    gC l D cA yX5_isGone mX5_isGone (some .boolean) 0 0 [gr 21, gi a, gi b] (wrW cn wst rwx lg n0 v0 x0 y0 o0 n1 v1 x1 y1 o1) (fun r9 w9 => r9 = some (gi (gb (a < n0 ∧ (n1 ≤ b ∨ lg (a * 41 + (b + 1)) ≤ lg ((a + 1) * 41 + b))))) ∧ w9 = wrW cn wst rwx lg n0 v0 x0 y0 o0 n1 v1 x1 y1 o1) := by
  refine gC_of rfl kX5_isGone rfl rfl (Nat.le_of_ble_eq_true rfl) (fun X ad hX hE => ?_)
  refine G.go hX 4 (wrW cn wst rwx lg n0 v0 x0 y0 o0 n1 v1 x1 y1 o1, 8, [(0, gr 21), (1, gi a), (2, gi b)], [gi n0, gi a]) rfl trivial ?_
  refine g_icmp_lt hX 13 rfl rfl ⟨by omega, by omega⟩ ⟨by omega, by omega⟩ (fun b8 => ?_) (fun b8 => ?_)
  ·
    refine G.go hX 4 (wrW cn wst rwx lg n0 v0 x0 y0 o0 n1 v1 x1 y1 o1, 21, [(0, gr 21), (1, gi a), (2, gi b)], [gi n1, gi b]) rfl trivial ?_
    refine g_icmp_ge hX 53 rfl rfl ⟨by omega, by omega⟩ ⟨by omega, by omega⟩ (fun b21 => ?_) (fun b21 => ?_)
    ·
      refine G.go hX 2 (wrW cn wst rwx lg n0 v0 x0 y0 o0 n1 v1 x1 y1 o1, 58, [(0, gr 21), (1, gi a), (2, gi b)], [gi 1]) rfl trivial ?_
      exact g_zret hX hE rfl (Or.inr rfl) ⟨(congrArg (fun z => some (gi z)) (gb_t (by first | omega | (rw [g3] at b50; omega))).symm), rfl⟩
    ·
      have g1 := hL (a + 1) b (by omega) (by omega) (by omega) (by omega)
      have g2 := hL a (b + 1) (by omega) (by omega) (by omega) (by omega)
      dsimp only at g1 g2
      have g3 : a * 41 + b + 1 = a * 41 + (b + 1) := by omega
      refine G.go hX 20 (wrW cn wst rwx lg n0 v0 x0 y0 o0 n1 v1 x1 y1 o1, 50, [(0, gr 21), (1, gi a), (2, gi b)], [gi (lg (((a * 41) + b) + 1)), gi (lg (((a + 1) * 41) + b))]) rfl ?_ ?_
      · refine ⟨?_, ?_, trivial⟩
        · omega
        · omega
      refine g_icmp_lt hX 57 rfl rfl (by first | exact ⟨by omega, by omega⟩ | (rw [g3]; exact ⟨by omega, by omega⟩)) (by first | exact ⟨by omega, by omega⟩ | (rw [g3]; exact ⟨by omega, by omega⟩)) (fun b50 => ?_) (fun b50 => ?_)
      ·
        refine G.go hX 1 (wrW cn wst rwx lg n0 v0 x0 y0 o0 n1 v1 x1 y1 o1, 58, [(0, gr 21), (1, gi a), (2, gi b)], [gi 0]) rfl trivial ?_
        exact g_zret hX hE rfl (Or.inl rfl) ⟨(congrArg (fun z => some (gi z)) (gb_f (by first | omega | (rw [g3] at b50; omega))).symm), rfl⟩
      ·
        refine G.go hX 2 (wrW cn wst rwx lg n0 v0 x0 y0 o0 n1 v1 x1 y1 o1, 58, [(0, gr 21), (1, gi a), (2, gi b)], [gi 1]) rfl trivial ?_
        exact g_zret hX hE rfl (Or.inr rfl) ⟨(congrArg (fun z => some (gi z)) (gb_t (by first | omega | (rw [g3] at b50; omega))).symm), rfl⟩
  ·
    refine G.go hX 1 (wrW cn wst rwx lg n0 v0 x0 y0 o0 n1 v1 x1 y1 o1, 12, [(0, gr 21), (1, gi a), (2, gi b)], [gi 0]) rfl trivial ?_
    exact g_zret hX hE rfl (Or.inl rfl) ⟨(congrArg (fun z => some (gi z)) (gb_f (by omega)).symm), rfl⟩
set_option maxHeartbeats 4000000 in
set_option maxRecDepth 100000 in
theorem c_X5_tellIfShifted (l : Launch) (D : va_G) (cA : Nat → ClassId) (cn : Int) (wst : Int) (rwx : Int → Int) (lg : Int → Int) (n0 : Int) (v0 : Int → Int) (x0 : Int → Int) (y0 : Int → Int) (o0 : Int → Int) (n1 : Int) (v1 : Int → Int) (x1 : Int → Int) (y1 : Int → Int) (o1 : Int → Int) (a : Int) (b : Int) (hn : (0 ≤ n0 ∧ n0 ≤ 40) ∧ 0 ≤ n1 ∧ n1 ≤ 40) (ho0 : ∀ j, 0 ≤ j → j < n0 → 0 ≤ o0 j ∧ o0 j < n0) (ho1 : ∀ j, 0 ≤ j → j < n1 → 0 ≤ o1 j ∧ o1 j < n1) (hxy : ∀ q : Int, (inR (x0 q) ∧ inR (x1 q)) ∧ inR (y0 q) ∧ inR (y1 q)) (ha : 0 ≤ a ∧ a < n0) (hb : 0 ≤ b ∧ b < n1) (hcn : 0 ≤ cn ∧ cn < 80) :
    gC l D cA yX5_tellIfShifted mX5_tellIfShifted none 0 0 [gr 21, gi a, gi b] (wrW cn wst rwx lg n0 v0 x0 y0 o0 n1 v1 x1 y1 o1) (fun r9 w9 => ∃ (cn2 : Int) (rw2 : Int → Int), r9 = none ∧ w9 = wrW cn2 wst rw2 lg n0 v0 x0 y0 o0 n1 v1 x1 y1 o1 ∧ (x0 (o0 a) = x1 (o1 b) ∧ y0 (o0 a) = y1 (o1 b) → cn2 = cn ∧ rw2 = rwx) ∧ (¬ (x0 (o0 a) = x1 (o1 b) ∧ y0 (o0 a) = y1 (o1 b)) → cn2 = cn + 1 ∧ rw2 = wap rwx cn 4 (v0 (o0 a)) (o0 a) (o1 b))) := by
  have e0 := ho0 a (by omega) (by omega)
  have e1 := ho1 b (by omega) (by omega)
  refine gC_of rfl kX5_tellIfShifted rfl rfl (Nat.le_of_ble_eq_true rfl) (fun X ad hX hE => ?_)
  refine G.go hX 6 (wrW cn wst rwx lg n0 v0 x0 y0 o0 n1 v1 x1 y1 o1, 10, [(0, gr 21), (1, gi a), (2, gi b)], [gi b, gr 16, gi a, gr 11]) rfl trivial ?_
  refine G.callV (av := [gi a, gr 16, gi b]) (o := 11) (st := []) hX rfl (fun l D cA => c_X6_isSamePlace l D cA n0 v0 x0 y0 o0 n1 v1 x1 y1 o1 a b ⟨by omega, by omega, by omega, by omega⟩ ⟨by omega, by omega, by omega, by omega⟩ (by first | assumption | omega)) (by decide +kernel) aX6_isSamePlace rfl rfl rfl ⟨rfl, rfl⟩ (by decide) (Nat.le_of_ble_eq_true rfl) [3, 4, 5, 6, 7, 8, 9, 10, 11, 12] [0, 1, 2] [(21, gob 6 [gi cn, gi wst, gr 11, gr 16, gr 22, gr 23]), (22, gai 0 320 rwx), (23, gai 0 1681 lg)] rfl rfl rfl (fun r w' hp => ?_)
  obtain ⟨rfl, rfl⟩ := hp
  refine G.perm (wrW cn wst rwx lg n0 v0 x0 y0 o0 n1 v1 x1 y1 o1) [0, 1, 2, 3, 4, 5, 6, 7, 8, 9, 10, 11, 12] rfl rfl ?_
  show G X mX5_tellIfShifted ad 0 0 (wrW cn wst rwx lg n0 v0 x0 y0 o0 n1 v1 x1 y1 o1, 13, [(0, gr 21), (1, gi a), (2, gi b)], [gi (gb (x0 (o0 a) = x1 (o1 b) ∧ y0 (o0 a) = y1 (o1 b)))])
  refine g_if_ne hX 45 rfl rfl (gb_r _) (fun b13 => ?_) (fun b13 => ?_)
  ·
    have b13 := gb_n0 b13
    exact g_vret hX hE rfl ⟨cn, rwx, rfl, rfl, fun _ => ⟨rfl, rfl⟩, fun h9 => absurd b13 h9⟩
  ·
    have b13 := gb_nn b13
    refine G.go hX 5 (wrW cn wst rwx lg n0 v0 x0 y0 o0 n1 v1 x1 y1 o1, 23, [(0, gr 21), (1, gi a), (2, gi b)], [gi a, gr 11, gi 4, gr 21]) rfl trivial ?_
    refine G.callV (av := [gi a]) (o := 11) (st := [gi 4, gr 21]) hX rfl (fun l D cA => c_X6_valueAt_0 l D cA n0 v0 x0 y0 o0 a ⟨by omega, by omega, by omega, by omega⟩) (by decide +kernel) aX6_valueAt rfl rfl rfl ⟨rfl, rfl⟩ (by decide) (Nat.le_of_ble_eq_true rfl) [3, 4, 5, 6, 7] [0, 1, 2, 8, 9, 10, 11, 12] [(21, gob 6 [gi cn, gi wst, gr 11, gr 16, gr 22, gr 23]), (22, gai 0 320 rwx), (23, gai 0 1681 lg), (16, gob 7 [gi n1, gr 17, gr 18, gr 19, gr 20]), (17, gai 0 40 v1), (18, gai 0 40 x1), (19, gai 0 40 y1), (20, gai 0 40 o1)] rfl rfl rfl (fun r w' hp => ?_)
    obtain ⟨rfl, rfl⟩ := hp
    refine G.perm (wrW cn wst rwx lg n0 v0 x0 y0 o0 n1 v1 x1 y1 o1) [0, 1, 2, 8, 9, 10, 11, 12, 3, 4, 5, 6, 7] rfl rfl ?_
    show G X mX5_tellIfShifted ad 0 0 (wrW cn wst rwx lg n0 v0 x0 y0 o0 n1 v1 x1 y1 o1, 26, [(0, gr 21), (1, gi a), (2, gi b)], [gi (v0 (o0 a)), gi 4, gr 21])
    refine G.go hX 3 (wrW cn wst rwx lg n0 v0 x0 y0 o0 n1 v1 x1 y1 o1, 31, [(0, gr 21), (1, gi a), (2, gi b)], [gi a, gr 11, gi (v0 (o0 a)), gi 4, gr 21]) rfl trivial ?_
    refine G.callV (av := [gi a]) (o := 11) (st := [gi (v0 (o0 a)), gi 4, gr 21]) hX rfl (fun l D cA => c_X6_numberAt_0 l D cA n0 v0 x0 y0 o0 a ⟨by omega, by omega⟩) (by decide +kernel) aX6_numberAt rfl rfl rfl ⟨rfl, rfl⟩ (by decide) (Nat.le_of_ble_eq_true rfl) [3, 4, 5, 6, 7] [0, 1, 2, 8, 9, 10, 11, 12] [(21, gob 6 [gi cn, gi wst, gr 11, gr 16, gr 22, gr 23]), (22, gai 0 320 rwx), (23, gai 0 1681 lg), (16, gob 7 [gi n1, gr 17, gr 18, gr 19, gr 20]), (17, gai 0 40 v1), (18, gai 0 40 x1), (19, gai 0 40 y1), (20, gai 0 40 o1)] rfl rfl rfl (fun r w' hp => ?_)
    obtain ⟨rfl, rfl⟩ := hp
    refine G.perm (wrW cn wst rwx lg n0 v0 x0 y0 o0 n1 v1 x1 y1 o1) [0, 1, 2, 8, 9, 10, 11, 12, 3, 4, 5, 6, 7] rfl rfl ?_
    show G X mX5_tellIfShifted ad 0 0 (wrW cn wst rwx lg n0 v0 x0 y0 o0 n1 v1 x1 y1 o1, 34, [(0, gr 21), (1, gi a), (2, gi b)], [gi (o0 a), gi (v0 (o0 a)), gi 4, gr 21])
    refine G.go hX 3 (wrW cn wst rwx lg n0 v0 x0 y0 o0 n1 v1 x1 y1 o1, 39, [(0, gr 21), (1, gi a), (2, gi b)], [gi b, gr 16, gi (o0 a), gi (v0 (o0 a)), gi 4, gr 21]) rfl trivial ?_
    refine G.callV (av := [gi b]) (o := 16) (st := [gi (o0 a), gi (v0 (o0 a)), gi 4, gr 21]) hX rfl (fun l D cA => c_X6_numberAt_1 l D cA n1 v1 x1 y1 o1 b ⟨by omega, by omega⟩) (by decide +kernel) aX6_numberAt rfl rfl rfl ⟨rfl, rfl⟩ (by decide) (Nat.le_of_ble_eq_true rfl) [8, 9, 10, 11, 12] [0, 1, 2, 3, 4, 5, 6, 7] [(21, gob 6 [gi cn, gi wst, gr 11, gr 16, gr 22, gr 23]), (22, gai 0 320 rwx), (23, gai 0 1681 lg), (11, gob 7 [gi n0, gr 12, gr 13, gr 14, gr 15]), (12, gai 0 40 v0), (13, gai 0 40 x0), (14, gai 0 40 y0), (15, gai 0 40 o0)] rfl rfl rfl (fun r w' hp => ?_)
    obtain ⟨rfl, rfl⟩ := hp
    refine G.perm (wrW cn wst rwx lg n0 v0 x0 y0 o0 n1 v1 x1 y1 o1) [0, 1, 2, 3, 4, 5, 6, 7, 8, 9, 10, 11, 12] rfl rfl ?_
    show G X mX5_tellIfShifted ad 0 0 (wrW cn wst rwx lg n0 v0 x0 y0 o0 n1 v1 x1 y1 o1, 42, [(0, gr 21), (1, gi a), (2, gi b)], [gi (o1 b), gi (o0 a), gi (v0 (o0 a)), gi 4, gr 21])
    refine G.callV (av := [gi 4, gi (v0 (o0 a)), gi (o0 a), gi (o1 b)]) (o := 21) (st := []) hX rfl (fun l D cA => c_X5_append l D cA cn wst rwx lg n0 v0 x0 y0 o0 n1 v1 x1 y1 o1 4 (v0 (o0 a)) (o0 a) (o1 b) (by first | assumption | omega)) (by decide +kernel) aX5_append rfl rfl rfl ⟨rfl, rfl⟩ (by decide) (Nat.le_of_ble_eq_true rfl) [0, 1, 2, 3, 4, 5, 6, 7, 8, 9, 10, 11, 12] [] [] rfl rfl rfl (fun r w' hp => ?_)
    obtain ⟨rfl, rfl⟩ := hp
    show G X mX5_tellIfShifted ad 0 0 (wrW (cn + 1) wst (wap rwx cn 4 (v0 (o0 a)) (o0 a) (o1 b)) lg n0 v0 x0 y0 o0 n1 v1 x1 y1 o1, 45, [(0, gr 21), (1, gi a), (2, gi b)], [])
    exact g_vret hX hE rfl ⟨_, _, rfl, rfl, fun h9 => absurd h9 b13, fun _ => ⟨rfl, rfl⟩⟩
end
section
theorem wap_r {R : Int → Int} (h : ∀ q, inR (R q)) {c k w p q : Int} (hk : inR k) (hw : inR w) (hp : inR p) (hq : inR q) : ∀ j, inR (wap R c k w p q j) := by
  unfold wap
  exact gu_r (gu_r (gu_r (gu_r h hk) hw) hp) hq
theorem wmv_r {R : Int → Int} (h : ∀ q, inR (R q)) (g i : Int) : ∀ j, inR (wmv R g i j) := by
  unfold wmv
  exact gu_r (gu_r (gu_r h ⟨by omega, by omega⟩) (h _)) ⟨by omega, by omega⟩
theorem wp1_r {R : Int → Int} (h : ∀ q, inR (R q)) (c : Nat) (g : Int) : ∀ j, inR (wp1 c R g j) := by
  unfold wp1
  split
  · split
    · exact h
    · exact wmv_r h _ _
  · exact h
theorem wpr_r {R : Int → Int} (h : ∀ q, inR (R q)) (c : Nat) : ∀ (n : Nat), ∀ j, inR (wpr c R n j)
  | 0 => h
  | n + 1 => wp1_r (wpr_r h c n) c n
theorem wfi_s {R : Int → Int} {w i : Int} {c : Int} (i1 : i < c) (hn : ¬ (R (i * 4 + 0) = 3 ∧ R (i * 4 + 1) = w)) : wfi R w (c - i).toNat i = wfi R w (c - (i + 1)).toNat (i + 1) := by
  rw [show (c - i).toNat = (c - (i + 1)).toNat + 1 by omega]
  conv => lhs; unfold wfi
  rw [if_neg hn]
theorem wfi_f {R : Int → Int} {w i : Int} {c : Int} (i1 : i < c) (hn : R (i * 4 + 0) = 3 ∧ R (i * 4 + 1) = w) : wfi R w (c - i).toNat i = i := by
  rw [show (c - i).toNat = (c - (i + 1)).toNat + 1 by omega]
  unfold wfi
  rw [if_pos hn]
/-- the rows that are told so far, moved together -/
def wDr (R rw_ : Int → Int) (i kp : Int) : Prop := kp = wkc R i.toNat ∧ (∀ k : Nat, (k : Int) < i → R ((k : Int) * 4 + 0) ≠ 0 → ∀ f : Int, 0 ≤ f → f < 4 → rw_ (wkc R k * 4 + f) = R ((k : Int) * 4 + f)) ∧ ∀ q, i * 4 ≤ q → rw_ q = R q
theorem wkc_n (R : Int → Int) {i : Int} (i0 : 0 ≤ i) : wkc R (i + 1).toNat = wkc R i.toNat + gb (R (i * 4 + 0) ≠ 0) := by
  rw [show (i + 1).toNat = i.toNat + 1 by omega, wkc_s, show ((i.toNat : Nat) : Int) = i by omega]
theorem wDr_skip {R rw_ : Int → Int} {i kp : Int} (h : wDr R rw_ i kp) (i0 : 0 ≤ i) (h0 : R (i * 4 + 0) = 0) : wDr R rw_ (i + 1) kp := by
  obtain ⟨h1, h2, h3⟩ := h
  refine ⟨?_, fun k k1 hk => ?_, fun q hq => h3 q (by omega)⟩
  · rw [wkc_n R i0, gb_f (fun h9 => h9 h0), h1]
    omega
  · by_cases e : (k : Int) = i
    · rw [e] at hk
      exact absurd h0 hk
    · exact h2 k (by omega) hk
theorem wDr_keep {R rw_ : Int → Int} {i kp : Int} (h : wDr R rw_ i kp) (i0 : 0 ≤ i) (h0 : ¬ R (i * 4 + 0) = 0) : wDr R (gcp rw_ rw_ (i * 4) (kp * 4) 4) (i + 1) (kp + 1) := by
  obtain ⟨h1, h2, h3⟩ := h
  have hle := wkc_le R i.toNat
  refine ⟨?_, fun k k1 hk f f0 f1 => ?_, fun q hq => ?_⟩
  · rw [wkc_n R i0, gb_t h0, h1]
  · have e9 := wkc_le R k
    by_cases e : (k : Int) = i
    · have : k = i.toNat := by omega
      subst this
      rw [← h1]
      unfold gcp
      rw [if_pos (by omega), h3 _ (by omega)]
      congr 1
      omega
    · have hm := gsm_mono (f := fun q => gb (R (q * 4 + 0) ≠ 0)) (fun _ => gb_01 _) (k + 1) i.toNat (by omega)
      have hs := wkc_s R k
      rw [gb_t hk] at hs
      have hm2 : wkc R (k + 1) ≤ wkc R i.toNat := hm
      unfold gcp
      rw [if_neg (by omega)]
      exact h2 k (by omega) hk f f0 f1
  · unfold gcp
    rw [if_neg (by omega)]
    exact h3 q (by omega)
set_option maxHeartbeats 4000000 in
set_option maxRecDepth 100000 in
theorem c_X5_walk (l : Launch) (D : va_G) (cA : Nat → ClassId) (cn : Int) (wst : Int) (rwx : Int → Int) (lg : Int → Int) (n0 : Int) (v0 : Int → Int) (x0 : Int → Int) (y0 : Int → Int) (o0 : Int → Int) (n1 : Int) (v1 : Int → Int) (x1 : Int → Int) (y1 : Int → Int) (o1 : Int → Int) (hn : (0 ≤ n0 ∧ n0 ≤ 40) ∧ 0 ≤ n1 ∧ n1 ≤ 40) (ho0 : ∀ j, 0 ≤ j → j < n0 → 0 ≤ o0 j ∧ o0 j < n0) (ho1 : ∀ j, 0 ≤ j → j < n1 → 0 ≤ o1 j ∧ o1 j < n1) (hv : ∀ q : Int, inR (v0 q) ∧ inR (v1 q)) (hxy : ∀ q : Int, (inR (x0 q) ∧ inR (x1 q)) ∧ inR (y0 q) ∧ inR (y1 q)) (hL : wLok n0 n1 (fun j => v0 (o0 j)) (fun j => v1 (o1 j)) (fun a b => lg (a * 41 + b))) (hc0 : cn = 0) (hrw : ∀ q : Int, inR (rwx q)) :
    gC l D cA yX5_walk mX5_walk none 0 0 [gr 21] (wrW cn wst rwx lg n0 v0 x0 y0 o0 n1 v1 x1 y1 o1) (fun r9 w9 => ∃ (cn2 : Int) (rw2 : Int → Int), r9 = none ∧ w9 = wrW cn2 wst rw2 lg n0 v0 x0 y0 o0 n1 v1 x1 y1 o1 ∧ (cn2 = ((wWk n0 n1 (fun j => v0 (o0 j)) o0 (fun j => x0 (o0 j)) (fun j => y0 (o0 j)) (fun j => v1 (o1 j)) o1 (fun j => x1 (o1 j)) (fun j => y1 (o1 j)) (fun a b => lg (a * 41 + b)) 80 0 0).length : Int)) ∧ (wrl rw2 (wWk n0 n1 (fun j => v0 (o0 j)) o0 (fun j => x0 (o0 j)) (fun j => y0 (o0 j)) (fun j => v1 (o1 j)) o1 (fun j => x1 (o1 j)) (fun j => y1 (o1 j)) (fun a b => lg (a * 41 + b)) 80 0 0)) ∧ (∀ q : Int, inR (rw2 q)) ∧ (cn2 ≤ 80)) := by
  refine gC_of rfl kX5_walk rfl rfl (Nat.le_of_ble_eq_true rfl) (fun X ad hX hE => ?_)
  refine G.go hX 6 (wrW cn wst rwx lg n0 v0 x0 y0 o0 n1 v1 x1 y1 o1, 6, [(0, gr 21), (1, gi 0), (2, gi 0), (3, gi 0)], []) rfl trivial ?_
  have lp6 : ∀ (n : Nat) (a : Int) (b : Int) (st : Int) (cn1 : Int) (rw1 : Int → Int) (l1 : List (Int × Int × Int × Int)), (((0 ≤ a ∧ a ≤ n0) ∧ 0 ≤ b ∧ b ≤ n1) ∧ 0 ≤ cn1 ∧ cn1 ≤ a + b) → (0 ≤ st ∧ st ≤ 80 ∧ n0 - a + (n1 - b) ≤ 80 - st) → (cn1 = (l1.length : Int)) → (wrl rw1 l1) → (l1 ++ wWk n0 n1 (fun j => v0 (o0 j)) o0 (fun j => x0 (o0 j)) (fun j => y0 (o0 j)) (fun j => v1 (o1 j)) o1 (fun j => x1 (o1 j)) (fun j => y1 (o1 j)) (fun a b => lg (a * 41 + b)) (80 - st).toNat a b = wWk n0 n1 (fun j => v0 (o0 j)) o0 (fun j => x0 (o0 j)) (fun j => y0 (o0 j)) (fun j => v1 (o1 j)) o1 (fun j => x1 (o1 j)) (fun j => y1 (o1 j)) (fun a b => lg (a * 41 + b)) 80 0 0) → (∀ q : Int, inR (rw1 q)) → (80 - st).toNat < n → G X mX5_walk ad 0 0 (wrW cn1 wst rw1 lg n0 v0 x0 y0 o0 n1 v1 x1 y1 o1, 6, [(0, gr 21), (1, gi a), (2, gi b), (3, gi st)], []) := by
    intro n
    induction n with
    | zero => intro a b st cn1 rw1 l1 hab hst hc1 hr1 hw1 hi1 hm9; exact absurd hm9 (Nat.not_lt_zero _)
    | succ n ih6 =>
      intro a b st cn1 rw1 l1 hab hst hc1 hr1 hw1 hi1 hm6
      refine G.go hX 2 (wrW cn1 wst rw1 lg n0 v0 x0 y0 o0 n1 v1 x1 y1 o1, 9, [(0, gr 21), (1, gi a), (2, gi b), (3, gi st)], [gi 80, gi st]) rfl trivial ?_
      refine g_icmp_ge hX 126 rfl rfl ⟨by omega, by omega⟩ ⟨by omega, by omega⟩ (fun b9 => ?_) (fun b9 => ?_)
      ·
        have hfin : l1 = wWk n0 n1 (fun j => v0 (o0 j)) o0 (fun j => x0 (o0 j)) (fun j => y0 (o0 j)) (fun j => v1 (o1 j)) o1 (fun j => x1 (o1 j)) (fun j => y1 (o1 j)) (fun a b => lg (a * 41 + b)) 80 0 0 := by rw [← hw1, wWk_end (by omega) (by omega), List.append_nil]
        exact g_vret hX hE rfl ⟨cn1, rw1, rfl, rfl, by rw [← hfin]; exact hc1, by rw [← hfin]; exact hr1, hi1, by omega⟩
      ·
        refine G.go hX 4 (wrW cn1 wst rw1 lg n0 v0 x0 y0 o0 n1 v1 x1 y1 o1, 20, [(0, gr 21), (1, gi a), (2, gi b), (3, gi st)], [gi n0, gi a]) rfl trivial ?_
        refine g_icmp_lt hX 34 rfl rfl ⟨by omega, by omega⟩ ⟨by omega, by omega⟩ (fun b20 => ?_) (fun b20 => ?_)
        ·
          have hfu : (80 - st).toNat = (80 - (st + 1)).toNat + 1 := by omega
          refine G.go hX 3 (wrW cn1 wst rw1 lg n0 v0 x0 y0 o0 n1 v1 x1 y1 o1, 37, [(0, gr 21), (1, gi a), (2, gi b), (3, gi st)], [gi b, gi a, gr 21]) rfl trivial ?_
          refine G.callV (av := [gi a, gi b]) (o := 21) (st := []) hX rfl (fun l D cA => c_X5_isKept l D cA cn1 wst rw1 lg n0 v0 x0 y0 o0 n1 v1 x1 y1 o1 a b (by first | assumption | omega) (by first | assumption | omega) (by first | assumption | omega) (by first | assumption | omega) (by first | assumption | omega) (by first | assumption | omega)) (by decide +kernel) aX5_isKept rfl rfl rfl ⟨rfl, rfl⟩ (by decide) (Nat.le_of_ble_eq_true rfl) [0, 1, 2, 3, 4, 5, 6, 7, 8, 9, 10, 11, 12] [] [] rfl rfl rfl (fun r w' hp => ?_)
          obtain ⟨rfl, rfl⟩ := hp
          show G X mX5_walk ad 0 0 (wrW cn1 wst rw1 lg n0 v0 x0 y0 o0 n1 v1 x1 y1 o1, 40, [(0, gr 21), (1, gi a), (2, gi b), (3, gi st)], [gi (gb (a < n0 ∧ b < n1 ∧ v0 (o0 a) = v1 (o1 b)))])
          refine g_if_eq hX 58 rfl rfl (gb_r _) (fun b40 => ?_) (fun b40 => ?_)
          ·
            have b40 := gb_0.mp b40
            refine G.go hX 3 (wrW cn1 wst rw1 lg n0 v0 x0 y0 o0 n1 v1 x1 y1 o1, 61, [(0, gr 21), (1, gi a), (2, gi b), (3, gi st)], [gi b, gi a, gr 21]) rfl trivial ?_
            refine G.callV (av := [gi a, gi b]) (o := 21) (st := []) hX rfl (fun l D cA => c_X5_isGone l D cA cn1 wst rw1 lg n0 v0 x0 y0 o0 n1 v1 x1 y1 o1 a b (by first | assumption | omega) (by first | assumption | omega) (by first | assumption | omega) (by first | assumption | omega)) (by decide +kernel) aX5_isGone rfl rfl rfl ⟨rfl, rfl⟩ (by decide) (Nat.le_of_ble_eq_true rfl) [0, 1, 2, 3, 4, 5, 6, 7, 8, 9, 10, 11, 12] [] [] rfl rfl rfl (fun r w' hp => ?_)
            obtain ⟨rfl, rfl⟩ := hp
            show G X mX5_walk ad 0 0 (wrW cn1 wst rw1 lg n0 v0 x0 y0 o0 n1 v1 x1 y1 o1, 64, [(0, gr 21), (1, gi a), (2, gi b), (3, gi st)], [gi (gb (a < n0 ∧ (n1 ≤ b ∨ lg (a * 41 + (b + 1)) ≤ lg ((a + 1) * 41 + b))))])
            refine g_if_eq hX 95 rfl rfl (gb_r _) (fun b64 => ?_) (fun b64 => ?_)
            ·
              have b64 := gb_0.mp b64
              have hb9 : b < n1 := by omega
              have e1 := ho1 b (by omega) (by omega)
              refine G.go hX 5 (wrW cn1 wst rw1 lg n0 v0 x0 y0 o0 n1 v1 x1 y1 o1, 102, [(0, gr 21), (1, gi a), (2, gi b), (3, gi st)], [gi b, gr 16, gi 3, gr 21]) rfl trivial ?_
              refine G.callV (av := [gi b]) (o := 16) (st := [gi 3, gr 21]) hX rfl (fun l D cA => c_X6_valueAt_1 l D cA n1 v1 x1 y1 o1 b ⟨by omega, by omega, by omega, by omega⟩) (by decide +kernel) aX6_valueAt rfl rfl rfl ⟨rfl, rfl⟩ (by decide) (Nat.le_of_ble_eq_true rfl) [8, 9, 10, 11, 12] [0, 1, 2, 3, 4, 5, 6, 7] [(21, gob 6 [gi cn1, gi wst, gr 11, gr 16, gr 22, gr 23]), (22, gai 0 320 rw1), (23, gai 0 1681 lg), (11, gob 7 [gi n0, gr 12, gr 13, gr 14, gr 15]), (12, gai 0 40 v0), (13, gai 0 40 x0), (14, gai 0 40 y0), (15, gai 0 40 o0)] rfl rfl rfl (fun r w' hp => ?_)
              obtain ⟨rfl, rfl⟩ := hp
              refine G.perm (wrW cn1 wst rw1 lg n0 v0 x0 y0 o0 n1 v1 x1 y1 o1) [0, 1, 2, 3, 4, 5, 6, 7, 8, 9, 10, 11, 12] rfl rfl ?_
              show G X mX5_walk ad 0 0 (wrW cn1 wst rw1 lg n0 v0 x0 y0 o0 n1 v1 x1 y1 o1, 105, [(0, gr 21), (1, gi a), (2, gi b), (3, gi st)], [gi (v1 (o1 b)), gi 3, gr 21])
              refine G.go hX 4 (wrW cn1 wst rw1 lg n0 v0 x0 y0 o0 n1 v1 x1 y1 o1, 111, [(0, gr 21), (1, gi a), (2, gi b), (3, gi st)], [gi b, gr 16, gi (-1), gi (v1 (o1 b)), gi 3, gr 21]) rfl trivial ?_
              refine G.callV (av := [gi b]) (o := 16) (st := [gi (-1), gi (v1 (o1 b)), gi 3, gr 21]) hX rfl (fun l D cA => c_X6_numberAt_1 l D cA n1 v1 x1 y1 o1 b ⟨by omega, by omega⟩) (by decide +kernel) aX6_numberAt rfl rfl rfl ⟨rfl, rfl⟩ (by decide) (Nat.le_of_ble_eq_true rfl) [8, 9, 10, 11, 12] [0, 1, 2, 3, 4, 5, 6, 7] [(21, gob 6 [gi cn1, gi wst, gr 11, gr 16, gr 22, gr 23]), (22, gai 0 320 rw1), (23, gai 0 1681 lg), (11, gob 7 [gi n0, gr 12, gr 13, gr 14, gr 15]), (12, gai 0 40 v0), (13, gai 0 40 x0), (14, gai 0 40 y0), (15, gai 0 40 o0)] rfl rfl rfl (fun r w' hp => ?_)
              obtain ⟨rfl, rfl⟩ := hp
              refine G.perm (wrW cn1 wst rw1 lg n0 v0 x0 y0 o0 n1 v1 x1 y1 o1) [0, 1, 2, 3, 4, 5, 6, 7, 8, 9, 10, 11, 12] rfl rfl ?_
              show G X mX5_walk ad 0 0 (wrW cn1 wst rw1 lg n0 v0 x0 y0 o0 n1 v1 x1 y1 o1, 114, [(0, gr 21), (1, gi a), (2, gi b), (3, gi st)], [gi (o1 b), gi (-1), gi (v1 (o1 b)), gi 3, gr 21])
              refine G.callV (av := [gi 3, gi (v1 (o1 b)), gi (-1), gi (o1 b)]) (o := 21) (st := []) hX rfl (fun l D cA => c_X5_append l D cA cn1 wst rw1 lg n0 v0 x0 y0 o0 n1 v1 x1 y1 o1 3 (v1 (o1 b)) (-1) (o1 b) (by first | assumption | omega)) (by decide +kernel) aX5_append rfl rfl rfl ⟨rfl, rfl⟩ (by decide) (Nat.le_of_ble_eq_true rfl) [0, 1, 2, 3, 4, 5, 6, 7, 8, 9, 10, 11, 12] [] [] rfl rfl rfl (fun r w' hp => ?_)
              obtain ⟨rfl, rfl⟩ := hp
              show G X mX5_walk ad 0 0 (wrW (cn1 + 1) wst (wap rw1 cn1 3 (v1 (o1 b)) (-1) (o1 b)) lg n0 v0 x0 y0 o0 n1 v1 x1 y1 o1, 117, [(0, gr 21), (1, gi a), (2, gi b), (3, gi st)], [])
              refine G.go hX 3 (wrW (cn1 + 1) wst (wap rw1 cn1 3 (v1 (o1 b)) (-1) (o1 b)) lg n0 v0 x0 y0 o0 n1 v1 x1 y1 o1, 6, [(0, gr 21), (1, gi a), (2, gi (b + 1)), (3, gi (st + 1))], []) rfl trivial ?_
              exact ih6 a (b + 1) (st + 1) (cn1 + 1) (wap rw1 cn1 3 (v1 (o1 b)) (-1) (o1 b)) (l1 ++ [(3, v1 (o1 b), -1, o1 b)]) (by omega) (by omega) (by rw [List.length_append, hc1]; simp) (by exact wrl_app hr1 hc1) (by rw [hfu, wWk_new _ b40 b64 (by omega)] at hw1; rw [List.append_assoc]; exact hw1) (by exact wap_r hi1 ⟨by omega, by omega⟩ (hv _).2 ⟨by omega, by omega⟩ ⟨by omega, by omega⟩) (by omega)
            ·
              have b64 := gb_n0 b64
              have e0 := ho0 a (by omega) (by omega)
              refine G.go hX 5 (wrW cn1 wst rw1 lg n0 v0 x0 y0 o0 n1 v1 x1 y1 o1, 74, [(0, gr 21), (1, gi a), (2, gi b), (3, gi st)], [gi a, gr 11, gi 1, gr 21]) rfl trivial ?_
              refine G.callV (av := [gi a]) (o := 11) (st := [gi 1, gr 21]) hX rfl (fun l D cA => c_X6_valueAt_0 l D cA n0 v0 x0 y0 o0 a ⟨by omega, by omega, by omega, by omega⟩) (by decide +kernel) aX6_valueAt rfl rfl rfl ⟨rfl, rfl⟩ (by decide) (Nat.le_of_ble_eq_true rfl) [3, 4, 5, 6, 7] [0, 1, 2, 8, 9, 10, 11, 12] [(21, gob 6 [gi cn1, gi wst, gr 11, gr 16, gr 22, gr 23]), (22, gai 0 320 rw1), (23, gai 0 1681 lg), (16, gob 7 [gi n1, gr 17, gr 18, gr 19, gr 20]), (17, gai 0 40 v1), (18, gai 0 40 x1), (19, gai 0 40 y1), (20, gai 0 40 o1)] rfl rfl rfl (fun r w' hp => ?_)
              obtain ⟨rfl, rfl⟩ := hp
              refine G.perm (wrW cn1 wst rw1 lg n0 v0 x0 y0 o0 n1 v1 x1 y1 o1) [0, 1, 2, 8, 9, 10, 11, 12, 3, 4, 5, 6, 7] rfl rfl ?_
              show G X mX5_walk ad 0 0 (wrW cn1 wst rw1 lg n0 v0 x0 y0 o0 n1 v1 x1 y1 o1, 77, [(0, gr 21), (1, gi a), (2, gi b), (3, gi st)], [gi (v0 (o0 a)), gi 1, gr 21])
              refine G.go hX 3 (wrW cn1 wst rw1 lg n0 v0 x0 y0 o0 n1 v1 x1 y1 o1, 82, [(0, gr 21), (1, gi a), (2, gi b), (3, gi st)], [gi a, gr 11, gi (v0 (o0 a)), gi 1, gr 21]) rfl trivial ?_
              refine G.callV (av := [gi a]) (o := 11) (st := [gi (v0 (o0 a)), gi 1, gr 21]) hX rfl (fun l D cA => c_X6_numberAt_0 l D cA n0 v0 x0 y0 o0 a ⟨by omega, by omega⟩) (by decide +kernel) aX6_numberAt rfl rfl rfl ⟨rfl, rfl⟩ (by decide) (Nat.le_of_ble_eq_true rfl) [3, 4, 5, 6, 7] [0, 1, 2, 8, 9, 10, 11, 12] [(21, gob 6 [gi cn1, gi wst, gr 11, gr 16, gr 22, gr 23]), (22, gai 0 320 rw1), (23, gai 0 1681 lg), (16, gob 7 [gi n1, gr 17, gr 18, gr 19, gr 20]), (17, gai 0 40 v1), (18, gai 0 40 x1), (19, gai 0 40 y1), (20, gai 0 40 o1)] rfl rfl rfl (fun r w' hp => ?_)
              obtain ⟨rfl, rfl⟩ := hp
              refine G.perm (wrW cn1 wst rw1 lg n0 v0 x0 y0 o0 n1 v1 x1 y1 o1) [0, 1, 2, 8, 9, 10, 11, 12, 3, 4, 5, 6, 7] rfl rfl ?_
              show G X mX5_walk ad 0 0 (wrW cn1 wst rw1 lg n0 v0 x0 y0 o0 n1 v1 x1 y1 o1, 85, [(0, gr 21), (1, gi a), (2, gi b), (3, gi st)], [gi (o0 a), gi (v0 (o0 a)), gi 1, gr 21])
              refine G.go hX 1 (wrW cn1 wst rw1 lg n0 v0 x0 y0 o0 n1 v1 x1 y1 o1, 86, [(0, gr 21), (1, gi a), (2, gi b), (3, gi st)], [gi (-1), gi (o0 a), gi (v0 (o0 a)), gi 1, gr 21]) rfl trivial ?_
              refine G.callV (av := [gi 1, gi (v0 (o0 a)), gi (o0 a), gi (-1)]) (o := 21) (st := []) hX rfl (fun l D cA => c_X5_append l D cA cn1 wst rw1 lg n0 v0 x0 y0 o0 n1 v1 x1 y1 o1 1 (v0 (o0 a)) (o0 a) (-1) (by first | assumption | omega)) (by decide +kernel) aX5_append rfl rfl rfl ⟨rfl, rfl⟩ (by decide) (Nat.le_of_ble_eq_true rfl) [0, 1, 2, 3, 4, 5, 6, 7, 8, 9, 10, 11, 12] [] [] rfl rfl rfl (fun r w' hp => ?_)
              obtain ⟨rfl, rfl⟩ := hp
              show G X mX5_walk ad 0 0 (wrW (cn1 + 1) wst (wap rw1 cn1 1 (v0 (o0 a)) (o0 a) (-1)) lg n0 v0 x0 y0 o0 n1 v1 x1 y1 o1, 89, [(0, gr 21), (1, gi a), (2, gi b), (3, gi st)], [])
              refine G.go hX 4 (wrW (cn1 + 1) wst (wap rw1 cn1 1 (v0 (o0 a)) (o0 a) (-1)) lg n0 v0 x0 y0 o0 n1 v1 x1 y1 o1, 6, [(0, gr 21), (1, gi (a + 1)), (2, gi b), (3, gi (st + 1))], []) rfl trivial ?_
              exact ih6 (a + 1) b (st + 1) (cn1 + 1) (wap rw1 cn1 1 (v0 (o0 a)) (o0 a) (-1)) (l1 ++ [(1, v0 (o0 a), o0 a, -1)]) (by omega) (by omega) (by rw [List.length_append, hc1]; simp) (by exact wrl_app hr1 hc1) (by rw [hfu, wWk_gone _ b40 b64] at hw1; rw [List.append_assoc]; exact hw1) (by exact wap_r hi1 ⟨by omega, by omega⟩ (hv _).1 ⟨by omega, by omega⟩ ⟨by omega, by omega⟩) (by omega)
          ·
            have b40 := gb_n0 b40
            have e0 := ho0 a (by omega) (by omega)
            have e1 := ho1 b (by omega) (by omega)
            refine G.go hX 3 (wrW cn1 wst rw1 lg n0 v0 x0 y0 o0 n1 v1 x1 y1 o1, 46, [(0, gr 21), (1, gi a), (2, gi b), (3, gi st)], [gi b, gi a, gr 21]) rfl trivial ?_
            refine G.callV (av := [gi a, gi b]) (o := 21) (st := []) hX rfl (fun l D cA => c_X5_tellIfShifted l D cA cn1 wst rw1 lg n0 v0 x0 y0 o0 n1 v1 x1 y1 o1 a b (by first | assumption | omega) (by first | assumption | omega) (by first | assumption | omega) (by first | assumption | omega) ⟨by omega, by omega⟩ ⟨by omega, by omega⟩ (by first | assumption | omega)) (by decide +kernel) aX5_tellIfShifted rfl rfl rfl ⟨rfl, rfl⟩ (by decide) (Nat.le_of_ble_eq_true rfl) [0, 1, 2, 3, 4, 5, 6, 7, 8, 9, 10, 11, 12] [] [] rfl rfl rfl (fun r w' hp => ?_)
            obtain ⟨cn4, rw4, rfl, rfl, hk1, hk2⟩ := hp
            show G X mX5_walk ad 0 0 (wrW cn4 wst rw4 lg n0 v0 x0 y0 o0 n1 v1 x1 y1 o1, 49, [(0, gr 21), (1, gi a), (2, gi b), (3, gi st)], [])
            rcases Classical.em (x0 (o0 a) = x1 (o1 b) ∧ y0 (o0 a) = y1 (o1 b)) with hsm | hsm
            ·
              obtain ⟨h8, h9⟩ := hk1 hsm
              rw [h8, h9]
              show G X mX5_walk ad 0 0 (wrW cn1 wst rw1 lg n0 v0 x0 y0 o0 n1 v1 x1 y1 o1, 49, [(0, gr 21), (1, gi a), (2, gi b), (3, gi st)], [])
              refine G.go hX 5 (wrW cn1 wst rw1 lg n0 v0 x0 y0 o0 n1 v1 x1 y1 o1, 6, [(0, gr 21), (1, gi (a + 1)), (2, gi (b + 1)), (3, gi (st + 1))], []) rfl trivial ?_
              exact ih6 (a + 1) (b + 1) (st + 1) cn1 rw1 l1 (by omega) (by omega) (by exact hc1) (by exact hr1) (by rw [hfu, wWk_same _ b40.1 b40.2.1 b40.2.2 hsm] at hw1; exact hw1) (by exact hi1) (by omega)
            ·
              obtain ⟨h8, h9⟩ := hk2 hsm
              rw [h8, h9]
              show G X mX5_walk ad 0 0 (wrW (cn1 + 1) wst (wap rw1 cn1 4 (v0 (o0 a)) (o0 a) (o1 b)) lg n0 v0 x0 y0 o0 n1 v1 x1 y1 o1, 49, [(0, gr 21), (1, gi a), (2, gi b), (3, gi st)], [])
              refine G.go hX 5 (wrW (cn1 + 1) wst (wap rw1 cn1 4 (v0 (o0 a)) (o0 a) (o1 b)) lg n0 v0 x0 y0 o0 n1 v1 x1 y1 o1, 6, [(0, gr 21), (1, gi (a + 1)), (2, gi (b + 1)), (3, gi (st + 1))], []) rfl trivial ?_
              exact ih6 (a + 1) (b + 1) (st + 1) (cn1 + 1) (wap rw1 cn1 4 (v0 (o0 a)) (o0 a) (o1 b)) (l1 ++ [(4, v0 (o0 a), o0 a, o1 b)]) (by omega) (by omega) (by rw [List.length_append, hc1]; simp) (by exact wrl_app hr1 hc1) (by rw [hfu, wWk_shift _ b40.1 b40.2.1 b40.2.2 hsm] at hw1; rw [List.append_assoc]; exact hw1) (by exact wap_r hi1 ⟨by omega, by omega⟩ (hv _).1 ⟨by omega, by omega⟩ ⟨by omega, by omega⟩) (by omega)
        ·
          refine G.go hX 4 (wrW cn1 wst rw1 lg n0 v0 x0 y0 o0 n1 v1 x1 y1 o1, 31, [(0, gr 21), (1, gi a), (2, gi b), (3, gi st)], [gi n1, gi b]) rfl trivial ?_
          refine g_icmp_ge hX 126 rfl rfl ⟨by omega, by omega⟩ ⟨by omega, by omega⟩ (fun b31 => ?_) (fun b31 => ?_)
          ·
            have hfin : l1 = wWk n0 n1 (fun j => v0 (o0 j)) o0 (fun j => x0 (o0 j)) (fun j => y0 (o0 j)) (fun j => v1 (o1 j)) o1 (fun j => x1 (o1 j)) (fun j => y1 (o1 j)) (fun a b => lg (a * 41 + b)) 80 0 0 := by rw [← hw1, wWk_end (by omega) (by omega), List.append_nil]
            exact g_vret hX hE rfl ⟨cn1, rw1, rfl, rfl, by rw [← hfin]; exact hc1, by rw [← hfin]; exact hr1, hi1, by omega⟩
          ·
            have hfu : (80 - st).toNat = (80 - (st + 1)).toNat + 1 := by omega
            refine G.go hX 3 (wrW cn1 wst rw1 lg n0 v0 x0 y0 o0 n1 v1 x1 y1 o1, 37, [(0, gr 21), (1, gi a), (2, gi b), (3, gi st)], [gi b, gi a, gr 21]) rfl trivial ?_
            refine G.callV (av := [gi a, gi b]) (o := 21) (st := []) hX rfl (fun l D cA => c_X5_isKept l D cA cn1 wst rw1 lg n0 v0 x0 y0 o0 n1 v1 x1 y1 o1 a b (by first | assumption | omega) (by first | assumption | omega) (by first | assumption | omega) (by first | assumption | omega) (by first | assumption | omega) (by first | assumption | omega)) (by decide +kernel) aX5_isKept rfl rfl rfl ⟨rfl, rfl⟩ (by decide) (Nat.le_of_ble_eq_true rfl) [0, 1, 2, 3, 4, 5, 6, 7, 8, 9, 10, 11, 12] [] [] rfl rfl rfl (fun r w' hp => ?_)
            obtain ⟨rfl, rfl⟩ := hp
            show G X mX5_walk ad 0 0 (wrW cn1 wst rw1 lg n0 v0 x0 y0 o0 n1 v1 x1 y1 o1, 40, [(0, gr 21), (1, gi a), (2, gi b), (3, gi st)], [gi (gb (a < n0 ∧ b < n1 ∧ v0 (o0 a) = v1 (o1 b)))])
            refine g_if_eq hX 58 rfl rfl (gb_r _) (fun b40 => ?_) (fun b40 => ?_)
            ·
              have b40 := gb_0.mp b40
              refine G.go hX 3 (wrW cn1 wst rw1 lg n0 v0 x0 y0 o0 n1 v1 x1 y1 o1, 61, [(0, gr 21), (1, gi a), (2, gi b), (3, gi st)], [gi b, gi a, gr 21]) rfl trivial ?_
              refine G.callV (av := [gi a, gi b]) (o := 21) (st := []) hX rfl (fun l D cA => c_X5_isGone l D cA cn1 wst rw1 lg n0 v0 x0 y0 o0 n1 v1 x1 y1 o1 a b (by first | assumption | omega) (by first | assumption | omega) (by first | assumption | omega) (by first | assumption | omega)) (by decide +kernel) aX5_isGone rfl rfl rfl ⟨rfl, rfl⟩ (by decide) (Nat.le_of_ble_eq_true rfl) [0, 1, 2, 3, 4, 5, 6, 7, 8, 9, 10, 11, 12] [] [] rfl rfl rfl (fun r w' hp => ?_)
              obtain ⟨rfl, rfl⟩ := hp
              show G X mX5_walk ad 0 0 (wrW cn1 wst rw1 lg n0 v0 x0 y0 o0 n1 v1 x1 y1 o1, 64, [(0, gr 21), (1, gi a), (2, gi b), (3, gi st)], [gi (gb (a < n0 ∧ (n1 ≤ b ∨ lg (a * 41 + (b + 1)) ≤ lg ((a + 1) * 41 + b))))])
              refine g_if_eq hX 95 rfl rfl (gb_r _) (fun b64 => ?_) (fun b64 => ?_)
              ·
                have b64 := gb_0.mp b64
                have hb9 : b < n1 := by omega
                have e1 := ho1 b (by omega) (by omega)
                refine G.go hX 5 (wrW cn1 wst rw1 lg n0 v0 x0 y0 o0 n1 v1 x1 y1 o1, 102, [(0, gr 21), (1, gi a), (2, gi b), (3, gi st)], [gi b, gr 16, gi 3, gr 21]) rfl trivial ?_
                refine G.callV (av := [gi b]) (o := 16) (st := [gi 3, gr 21]) hX rfl (fun l D cA => c_X6_valueAt_1 l D cA n1 v1 x1 y1 o1 b ⟨by omega, by omega, by omega, by omega⟩) (by decide +kernel) aX6_valueAt rfl rfl rfl ⟨rfl, rfl⟩ (by decide) (Nat.le_of_ble_eq_true rfl) [8, 9, 10, 11, 12] [0, 1, 2, 3, 4, 5, 6, 7] [(21, gob 6 [gi cn1, gi wst, gr 11, gr 16, gr 22, gr 23]), (22, gai 0 320 rw1), (23, gai 0 1681 lg), (11, gob 7 [gi n0, gr 12, gr 13, gr 14, gr 15]), (12, gai 0 40 v0), (13, gai 0 40 x0), (14, gai 0 40 y0), (15, gai 0 40 o0)] rfl rfl rfl (fun r w' hp => ?_)
                obtain ⟨rfl, rfl⟩ := hp
                refine G.perm (wrW cn1 wst rw1 lg n0 v0 x0 y0 o0 n1 v1 x1 y1 o1) [0, 1, 2, 3, 4, 5, 6, 7, 8, 9, 10, 11, 12] rfl rfl ?_
                show G X mX5_walk ad 0 0 (wrW cn1 wst rw1 lg n0 v0 x0 y0 o0 n1 v1 x1 y1 o1, 105, [(0, gr 21), (1, gi a), (2, gi b), (3, gi st)], [gi (v1 (o1 b)), gi 3, gr 21])
                refine G.go hX 4 (wrW cn1 wst rw1 lg n0 v0 x0 y0 o0 n1 v1 x1 y1 o1, 111, [(0, gr 21), (1, gi a), (2, gi b), (3, gi st)], [gi b, gr 16, gi (-1), gi (v1 (o1 b)), gi 3, gr 21]) rfl trivial ?_
                refine G.callV (av := [gi b]) (o := 16) (st := [gi (-1), gi (v1 (o1 b)), gi 3, gr 21]) hX rfl (fun l D cA => c_X6_numberAt_1 l D cA n1 v1 x1 y1 o1 b ⟨by omega, by omega⟩) (by decide +kernel) aX6_numberAt rfl rfl rfl ⟨rfl, rfl⟩ (by decide) (Nat.le_of_ble_eq_true rfl) [8, 9, 10, 11, 12] [0, 1, 2, 3, 4, 5, 6, 7] [(21, gob 6 [gi cn1, gi wst, gr 11, gr 16, gr 22, gr 23]), (22, gai 0 320 rw1), (23, gai 0 1681 lg), (11, gob 7 [gi n0, gr 12, gr 13, gr 14, gr 15]), (12, gai 0 40 v0), (13, gai 0 40 x0), (14, gai 0 40 y0), (15, gai 0 40 o0)] rfl rfl rfl (fun r w' hp => ?_)
                obtain ⟨rfl, rfl⟩ := hp
                refine G.perm (wrW cn1 wst rw1 lg n0 v0 x0 y0 o0 n1 v1 x1 y1 o1) [0, 1, 2, 3, 4, 5, 6, 7, 8, 9, 10, 11, 12] rfl rfl ?_
                show G X mX5_walk ad 0 0 (wrW cn1 wst rw1 lg n0 v0 x0 y0 o0 n1 v1 x1 y1 o1, 114, [(0, gr 21), (1, gi a), (2, gi b), (3, gi st)], [gi (o1 b), gi (-1), gi (v1 (o1 b)), gi 3, gr 21])
                refine G.callV (av := [gi 3, gi (v1 (o1 b)), gi (-1), gi (o1 b)]) (o := 21) (st := []) hX rfl (fun l D cA => c_X5_append l D cA cn1 wst rw1 lg n0 v0 x0 y0 o0 n1 v1 x1 y1 o1 3 (v1 (o1 b)) (-1) (o1 b) (by first | assumption | omega)) (by decide +kernel) aX5_append rfl rfl rfl ⟨rfl, rfl⟩ (by decide) (Nat.le_of_ble_eq_true rfl) [0, 1, 2, 3, 4, 5, 6, 7, 8, 9, 10, 11, 12] [] [] rfl rfl rfl (fun r w' hp => ?_)
                obtain ⟨rfl, rfl⟩ := hp
                show G X mX5_walk ad 0 0 (wrW (cn1 + 1) wst (wap rw1 cn1 3 (v1 (o1 b)) (-1) (o1 b)) lg n0 v0 x0 y0 o0 n1 v1 x1 y1 o1, 117, [(0, gr 21), (1, gi a), (2, gi b), (3, gi st)], [])
                refine G.go hX 3 (wrW (cn1 + 1) wst (wap rw1 cn1 3 (v1 (o1 b)) (-1) (o1 b)) lg n0 v0 x0 y0 o0 n1 v1 x1 y1 o1, 6, [(0, gr 21), (1, gi a), (2, gi (b + 1)), (3, gi (st + 1))], []) rfl trivial ?_
                exact ih6 a (b + 1) (st + 1) (cn1 + 1) (wap rw1 cn1 3 (v1 (o1 b)) (-1) (o1 b)) (l1 ++ [(3, v1 (o1 b), -1, o1 b)]) (by omega) (by omega) (by rw [List.length_append, hc1]; simp) (by exact wrl_app hr1 hc1) (by rw [hfu, wWk_new _ b40 b64 (by omega)] at hw1; rw [List.append_assoc]; exact hw1) (by exact wap_r hi1 ⟨by omega, by omega⟩ (hv _).2 ⟨by omega, by omega⟩ ⟨by omega, by omega⟩) (by omega)
              ·
                have b64 := gb_n0 b64
                have e0 := ho0 a (by omega) (by omega)
                refine G.go hX 5 (wrW cn1 wst rw1 lg n0 v0 x0 y0 o0 n1 v1 x1 y1 o1, 74, [(0, gr 21), (1, gi a), (2, gi b), (3, gi st)], [gi a, gr 11, gi 1, gr 21]) rfl trivial ?_
                refine G.callV (av := [gi a]) (o := 11) (st := [gi 1, gr 21]) hX rfl (fun l D cA => c_X6_valueAt_0 l D cA n0 v0 x0 y0 o0 a ⟨by omega, by omega, by omega, by omega⟩) (by decide +kernel) aX6_valueAt rfl rfl rfl ⟨rfl, rfl⟩ (by decide) (Nat.le_of_ble_eq_true rfl) [3, 4, 5, 6, 7] [0, 1, 2, 8, 9, 10, 11, 12] [(21, gob 6 [gi cn1, gi wst, gr 11, gr 16, gr 22, gr 23]), (22, gai 0 320 rw1), (23, gai 0 1681 lg), (16, gob 7 [gi n1, gr 17, gr 18, gr 19, gr 20]), (17, gai 0 40 v1), (18, gai 0 40 x1), (19, gai 0 40 y1), (20, gai 0 40 o1)] rfl rfl rfl (fun r w' hp => ?_)
                obtain ⟨rfl, rfl⟩ := hp
                refine G.perm (wrW cn1 wst rw1 lg n0 v0 x0 y0 o0 n1 v1 x1 y1 o1) [0, 1, 2, 8, 9, 10, 11, 12, 3, 4, 5, 6, 7] rfl rfl ?_
                show G X mX5_walk ad 0 0 (wrW cn1 wst rw1 lg n0 v0 x0 y0 o0 n1 v1 x1 y1 o1, 77, [(0, gr 21), (1, gi a), (2, gi b), (3, gi st)], [gi (v0 (o0 a)), gi 1, gr 21])
                refine G.go hX 3 (wrW cn1 wst rw1 lg n0 v0 x0 y0 o0 n1 v1 x1 y1 o1, 82, [(0, gr 21), (1, gi a), (2, gi b), (3, gi st)], [gi a, gr 11, gi (v0 (o0 a)), gi 1, gr 21]) rfl trivial ?_
                refine G.callV (av := [gi a]) (o := 11) (st := [gi (v0 (o0 a)), gi 1, gr 21]) hX rfl (fun l D cA => c_X6_numberAt_0 l D cA n0 v0 x0 y0 o0 a ⟨by omega, by omega⟩) (by decide +kernel) aX6_numberAt rfl rfl rfl ⟨rfl, rfl⟩ (by decide) (Nat.le_of_ble_eq_true rfl) [3, 4, 5, 6, 7] [0, 1, 2, 8, 9, 10, 11, 12] [(21, gob 6 [gi cn1, gi wst, gr 11, gr 16, gr 22, gr 23]), (22, gai 0 320 rw1), (23, gai 0 1681 lg), (16, gob 7 [gi n1, gr 17, gr 18, gr 19, gr 20]), (17, gai 0 40 v1), (18, gai 0 40 x1), (19, gai 0 40 y1), (20, gai 0 40 o1)] rfl rfl rfl (fun r w' hp => ?_)
                obtain ⟨rfl, rfl⟩ := hp
                refine G.perm (wrW cn1 wst rw1 lg n0 v0 x0 y0 o0 n1 v1 x1 y1 o1) [0, 1, 2, 8, 9, 10, 11, 12, 3, 4, 5, 6, 7] rfl rfl ?_
                show G X mX5_walk ad 0 0 (wrW cn1 wst rw1 lg n0 v0 x0 y0 o0 n1 v1 x1 y1 o1, 85, [(0, gr 21), (1, gi a), (2, gi b), (3, gi st)], [gi (o0 a), gi (v0 (o0 a)), gi 1, gr 21])
                refine G.go hX 1 (wrW cn1 wst rw1 lg n0 v0 x0 y0 o0 n1 v1 x1 y1 o1, 86, [(0, gr 21), (1, gi a), (2, gi b), (3, gi st)], [gi (-1), gi (o0 a), gi (v0 (o0 a)), gi 1, gr 21]) rfl trivial ?_
                refine G.callV (av := [gi 1, gi (v0 (o0 a)), gi (o0 a), gi (-1)]) (o := 21) (st := []) hX rfl (fun l D cA => c_X5_append l D cA cn1 wst rw1 lg n0 v0 x0 y0 o0 n1 v1 x1 y1 o1 1 (v0 (o0 a)) (o0 a) (-1) (by first | assumption | omega)) (by decide +kernel) aX5_append rfl rfl rfl ⟨rfl, rfl⟩ (by decide) (Nat.le_of_ble_eq_true rfl) [0, 1, 2, 3, 4, 5, 6, 7, 8, 9, 10, 11, 12] [] [] rfl rfl rfl (fun r w' hp => ?_)
                obtain ⟨rfl, rfl⟩ := hp
                show G X mX5_walk ad 0 0 (wrW (cn1 + 1) wst (wap rw1 cn1 1 (v0 (o0 a)) (o0 a) (-1)) lg n0 v0 x0 y0 o0 n1 v1 x1 y1 o1, 89, [(0, gr 21), (1, gi a), (2, gi b), (3, gi st)], [])
                refine G.go hX 4 (wrW (cn1 + 1) wst (wap rw1 cn1 1 (v0 (o0 a)) (o0 a) (-1)) lg n0 v0 x0 y0 o0 n1 v1 x1 y1 o1, 6, [(0, gr 21), (1, gi (a + 1)), (2, gi b), (3, gi (st + 1))], []) rfl trivial ?_
                exact ih6 (a + 1) b (st + 1) (cn1 + 1) (wap rw1 cn1 1 (v0 (o0 a)) (o0 a) (-1)) (l1 ++ [(1, v0 (o0 a), o0 a, -1)]) (by omega) (by omega) (by rw [List.length_append, hc1]; simp) (by exact wrl_app hr1 hc1) (by rw [hfu, wWk_gone _ b40 b64] at hw1; rw [List.append_assoc]; exact hw1) (by exact wap_r hi1 ⟨by omega, by omega⟩ (hv _).1 ⟨by omega, by omega⟩ ⟨by omega, by omega⟩) (by omega)
            ·
              have b40 := gb_n0 b40
              have e0 := ho0 a (by omega) (by omega)
              have e1 := ho1 b (by omega) (by omega)
              refine G.go hX 3 (wrW cn1 wst rw1 lg n0 v0 x0 y0 o0 n1 v1 x1 y1 o1, 46, [(0, gr 21), (1, gi a), (2, gi b), (3, gi st)], [gi b, gi a, gr 21]) rfl trivial ?_
              refine G.callV (av := [gi a, gi b]) (o := 21) (st := []) hX rfl (fun l D cA => c_X5_tellIfShifted l D cA cn1 wst rw1 lg n0 v0 x0 y0 o0 n1 v1 x1 y1 o1 a b (by first | assumption | omega) (by first | assumption | omega) (by first | assumption | omega) (by first | assumption | omega) ⟨by omega, by omega⟩ ⟨by omega, by omega⟩ (by first | assumption | omega)) (by decide +kernel) aX5_tellIfShifted rfl rfl rfl ⟨rfl, rfl⟩ (by decide) (Nat.le_of_ble_eq_true rfl) [0, 1, 2, 3, 4, 5, 6, 7, 8, 9, 10, 11, 12] [] [] rfl rfl rfl (fun r w' hp => ?_)
              obtain ⟨cn4, rw4, rfl, rfl, hk1, hk2⟩ := hp
              show G X mX5_walk ad 0 0 (wrW cn4 wst rw4 lg n0 v0 x0 y0 o0 n1 v1 x1 y1 o1, 49, [(0, gr 21), (1, gi a), (2, gi b), (3, gi st)], [])
              rcases Classical.em (x0 (o0 a) = x1 (o1 b) ∧ y0 (o0 a) = y1 (o1 b)) with hsm | hsm
              ·
                obtain ⟨h8, h9⟩ := hk1 hsm
                rw [h8, h9]
                show G X mX5_walk ad 0 0 (wrW cn1 wst rw1 lg n0 v0 x0 y0 o0 n1 v1 x1 y1 o1, 49, [(0, gr 21), (1, gi a), (2, gi b), (3, gi st)], [])
                refine G.go hX 5 (wrW cn1 wst rw1 lg n0 v0 x0 y0 o0 n1 v1 x1 y1 o1, 6, [(0, gr 21), (1, gi (a + 1)), (2, gi (b + 1)), (3, gi (st + 1))], []) rfl trivial ?_
                exact ih6 (a + 1) (b + 1) (st + 1) cn1 rw1 l1 (by omega) (by omega) (by exact hc1) (by exact hr1) (by rw [hfu, wWk_same _ b40.1 b40.2.1 b40.2.2 hsm] at hw1; exact hw1) (by exact hi1) (by omega)
              ·
                obtain ⟨h8, h9⟩ := hk2 hsm
                rw [h8, h9]
                show G X mX5_walk ad 0 0 (wrW (cn1 + 1) wst (wap rw1 cn1 4 (v0 (o0 a)) (o0 a) (o1 b)) lg n0 v0 x0 y0 o0 n1 v1 x1 y1 o1, 49, [(0, gr 21), (1, gi a), (2, gi b), (3, gi st)], [])
                refine G.go hX 5 (wrW (cn1 + 1) wst (wap rw1 cn1 4 (v0 (o0 a)) (o0 a) (o1 b)) lg n0 v0 x0 y0 o0 n1 v1 x1 y1 o1, 6, [(0, gr 21), (1, gi (a + 1)), (2, gi (b + 1)), (3, gi (st + 1))], []) rfl trivial ?_
                exact ih6 (a + 1) (b + 1) (st + 1) (cn1 + 1) (wap rw1 cn1 4 (v0 (o0 a)) (o0 a) (o1 b)) (l1 ++ [(4, v0 (o0 a), o0 a, o1 b)]) (by omega) (by omega) (by rw [List.length_append, hc1]; simp) (by exact wrl_app hr1 hc1) (by rw [hfu, wWk_shift _ b40.1 b40.2.1 b40.2.2 hsm] at hw1; rw [List.append_assoc]; exact hw1) (by exact wap_r hi1 ⟨by omega, by omega⟩ (hv _).1 ⟨by omega, by omega⟩ ⟨by omega, by omega⟩) (by omega)
  exact lp6 _ 0 0 0 cn rwx ([]) (by omega) (by omega) (by simp [hc0]) (by intro i q h9; simp at h9) (by rfl) (by exact hrw) (Nat.lt_succ_self _)
set_option maxHeartbeats 4000000 in
set_option maxRecDepth 100000 in
theorem c_X5_pairWithFirstNew (l : Launch) (D : va_G) (cA : Nat → ClassId) (cn : Int) (wst : Int) (rwx : Int → Int) (lg : Int → Int) (n0 : Int) (v0 : Int → Int) (x0 : Int → Int) (y0 : Int → Int) (o0 : Int → Int) (n1 : Int) (v1 : Int → Int) (x1 : Int → Int) (y1 : Int → Int) (o1 : Int → Int) (g : Int) (hcn : 0 ≤ cn ∧ cn ≤ 80) (hrw : ∀ q : Int, inR (rwx q)) (hg : 0 ≤ g ∧ g < cn) (h1 : rwx (g * 4 + 0) = 1) :
    gC l D cA yX5_pairWithFirstNew mX5_pairWithFirstNew none 0 0 [gr 21, gi g] (wrW cn wst rwx lg n0 v0 x0 y0 o0 n1 v1 x1 y1 o1) (fun r9 w9 => r9 = none ∧ w9 = wrW cn wst (wp1 cn.toNat rwx g) lg n0 v0 x0 y0 o0 n1 v1 x1 y1 o1) := by
  refine gC_of rfl kX5_pairWithFirstNew rfl rfl (Nat.le_of_ble_eq_true rfl) (fun X ad hX hE => ?_)
  refine G.go hX 2 (wrW cn wst rwx lg n0 v0 x0 y0 o0 n1 v1 x1 y1 o1, 2, [(0, gr 21), (1, gi g), (2, gi 0)], []) rfl trivial ?_
  have lp2 : ∀ (n : Nat) (i : Int), (0 ≤ i ∧ i ≤ cn) → (wfi rwx (rwx (g * 4 + 1)) cn.toNat 0 = wfi rwx (rwx (g * 4 + 1)) (cn - i).toNat i) → (cn - i).toNat < n → G X mX5_pairWithFirstNew ad 0 0 (wrW cn wst rwx lg n0 v0 x0 y0 o0 n1 v1 x1 y1 o1, 2, [(0, gr 21), (1, gi g), (2, gi i)], []) := by
    intro n
    induction n with
    | zero => intro i hi hf hm9; exact absurd hm9 (Nat.not_lt_zero _)
    | succ n ih2 =>
      intro i hi hf hm2
      refine G.go hX 3 (wrW cn wst rwx lg n0 v0 x0 y0 o0 n1 v1 x1 y1 o1, 7, [(0, gr 21), (1, gi g), (2, gi i)], [gi cn, gi i]) rfl trivial ?_
      refine g_icmp_ge hX 80 rfl rfl ⟨by omega, by omega⟩ ⟨by omega, by omega⟩ (fun b7 => ?_) (fun b7 => ?_)
      ·
        have hfi : wfi rwx (rwx (g * 4 + 1)) cn.toNat 0 = -1 := by (rw [hf, show (cn - i).toNat = 0 by omega]; rfl)
        exact g_vret hX hE rfl ⟨rfl, by (unfold wp1; rw [if_pos h1, hfi, if_pos (by omega)])⟩
      ·
        refine G.go hX 3 (wrW cn wst rwx lg n0 v0 x0 y0 o0 n1 v1 x1 y1 o1, 13, [(0, gr 21), (1, gi g), (2, gi i)], [gi 0, gi i, gr 21]) rfl trivial ?_
        refine G.callV (av := [gi i, gi 0]) (o := 21) (st := []) hX rfl (fun l D cA => c_X5_tell l D cA cn wst rwx lg n0 v0 x0 y0 o0 n1 v1 x1 y1 o1 i 0 (by first | assumption | omega)) (by decide +kernel) aX5_tell rfl rfl rfl ⟨rfl, rfl⟩ (by decide) (Nat.le_of_ble_eq_true rfl) [0, 1, 2, 3, 4, 5, 6, 7, 8, 9, 10, 11, 12] [] [] rfl rfl rfl (fun r w' hp => ?_)
        obtain ⟨rfl, rfl⟩ := hp
        show G X mX5_pairWithFirstNew ad 0 0 (wrW cn wst rwx lg n0 v0 x0 y0 o0 n1 v1 x1 y1 o1, 16, [(0, gr 21), (1, gi g), (2, gi i)], [gi (rwx (i * 4 + 0))])
        refine G.go hX 1 (wrW cn wst rwx lg n0 v0 x0 y0 o0 n1 v1 x1 y1 o1, 17, [(0, gr 21), (1, gi g), (2, gi i)], [gi 3, gi (rwx (i * 4 + 0))]) rfl trivial ?_
        refine g_icmp_ne hX 74 rfl rfl (by first | exact hrw _ | exact ⟨by omega, by omega⟩) (by first | exact hrw _ | exact ⟨by omega, by omega⟩) (fun b17 => ?_) (fun b17 => ?_)
        ·
          refine G.go hX 2 (wrW cn wst rwx lg n0 v0 x0 y0 o0 n1 v1 x1 y1 o1, 2, [(0, gr 21), (1, gi g), (2, gi (i + 1))], []) rfl trivial ?_
          exact ih2 (i + 1) (by omega) (by rw [hf]; exact wfi_s (by omega) (by omega)) (by omega)
        ·
          refine G.go hX 3 (wrW cn wst rwx lg n0 v0 x0 y0 o0 n1 v1 x1 y1 o1, 23, [(0, gr 21), (1, gi g), (2, gi i)], [gi 1, gi i, gr 21]) rfl trivial ?_
          refine G.callV (av := [gi i, gi 1]) (o := 21) (st := []) hX rfl (fun l D cA => c_X5_tell l D cA cn wst rwx lg n0 v0 x0 y0 o0 n1 v1 x1 y1 o1 i 1 (by first | assumption | omega)) (by decide +kernel) aX5_tell rfl rfl rfl ⟨rfl, rfl⟩ (by decide) (Nat.le_of_ble_eq_true rfl) [0, 1, 2, 3, 4, 5, 6, 7, 8, 9, 10, 11, 12] [] [] rfl rfl rfl (fun r w' hp => ?_)
          obtain ⟨rfl, rfl⟩ := hp
          show G X mX5_pairWithFirstNew ad 0 0 (wrW cn wst rwx lg n0 v0 x0 y0 o0 n1 v1 x1 y1 o1, 26, [(0, gr 21), (1, gi g), (2, gi i)], [gi (rwx (i * 4 + 1))])
          refine G.go hX 3 (wrW cn wst rwx lg n0 v0 x0 y0 o0 n1 v1 x1 y1 o1, 29, [(0, gr 21), (1, gi g), (2, gi i)], [gi 1, gi g, gr 21, gi (rwx (i * 4 + 1))]) rfl trivial ?_
          refine G.callV (av := [gi g, gi 1]) (o := 21) (st := [gi (rwx (i * 4 + 1))]) hX rfl (fun l D cA => c_X5_tell l D cA cn wst rwx lg n0 v0 x0 y0 o0 n1 v1 x1 y1 o1 g 1 (by first | assumption | omega)) (by decide +kernel) aX5_tell rfl rfl rfl ⟨rfl, rfl⟩ (by decide) (Nat.le_of_ble_eq_true rfl) [0, 1, 2, 3, 4, 5, 6, 7, 8, 9, 10, 11, 12] [] [] rfl rfl rfl (fun r w' hp => ?_)
          obtain ⟨rfl, rfl⟩ := hp
          show G X mX5_pairWithFirstNew ad 0 0 (wrW cn wst rwx lg n0 v0 x0 y0 o0 n1 v1 x1 y1 o1, 32, [(0, gr 21), (1, gi g), (2, gi i)], [gi (rwx (g * 4 + 1)), gi (rwx (i * 4 + 1))])
          refine g_icmp_ne hX 74 rfl rfl (hrw _) (hrw _) (fun b32 => ?_) (fun b32 => ?_)
          ·
            refine G.go hX 2 (wrW cn wst rwx lg n0 v0 x0 y0 o0 n1 v1 x1 y1 o1, 2, [(0, gr 21), (1, gi g), (2, gi (i + 1))], []) rfl trivial ?_
            exact ih2 (i + 1) (by omega) (by rw [hf]; exact wfi_s (by omega) (by omega)) (by omega)
          ·
            have hfi : wfi rwx (rwx (g * 4 + 1)) cn.toNat 0 = i := by rw [hf]; exact wfi_f (by omega) ⟨by omega, by omega⟩
            refine G.go hX 19 (wrW cn wst (gu rwx ((g * 4) + 0) 2) lg n0 v0 x0 y0 o0 n1 v1 x1 y1 o1, 58, [(0, gr 21), (1, gi g), (2, gi i)], [gi 3, gi i, gr 21, gi ((g * 4) + 3), gr 22]) rfl ?_ ?_
            · refine ⟨?_, trivial⟩
              · omega
            refine G.callV (av := [gi i, gi 3]) (o := 21) (st := [gi ((g * 4) + 3), gr 22]) hX rfl (fun l D cA => c_X5_tell l D cA cn wst (gu rwx ((g * 4) + 0) 2) lg n0 v0 x0 y0 o0 n1 v1 x1 y1 o1 i 3 (by first | assumption | omega)) (by decide +kernel) aX5_tell rfl rfl rfl ⟨rfl, rfl⟩ (by decide) (Nat.le_of_ble_eq_true rfl) [0, 1, 2, 3, 4, 5, 6, 7, 8, 9, 10, 11, 12] [] [] rfl rfl rfl (fun r w' hp => ?_)
            obtain ⟨rfl, rfl⟩ := hp
            show G X mX5_pairWithFirstNew ad 0 0 (wrW cn wst (gu rwx ((g * 4) + 0) 2) lg n0 v0 x0 y0 o0 n1 v1 x1 y1 o1, 61, [(0, gr 21), (1, gi g), (2, gi i)], [gi ((gu rwx ((g * 4) + 0) 2) (i * 4 + 3)), gi ((g * 4) + 3), gr 22])
            refine G.go hX 10 (wrW cn wst (gu (gu (gu rwx ((g * 4) + 0) 2) ((g * 4) + 3) ((gu rwx ((g * 4) + 0) 2) (i * 4 + 3))) ((i * 4) + 0) 0) lg n0 v0 x0 y0 o0 n1 v1 x1 y1 o1, 73, [(0, gr 21), (1, gi g), (2, gi i)], []) rfl ?_ ?_
            · refine ⟨?_, ?_, trivial⟩
              · omega
              · omega
            exact g_vret hX hE rfl ⟨rfl, by (unfold wp1; rw [if_pos h1, hfi, if_neg (by omega)]; unfold wmv; rw [gu_n rwx (k := g * 4 + 0) (j := i * 4 + 3) 2 (by omega)])⟩
  exact lp2 _ 0 (by omega) (by rw [show (cn - 0).toNat = cn.toNat by omega]) (Nat.lt_succ_self _)
set_option maxHeartbeats 4000000 in
set_option maxRecDepth 100000 in
theorem c_X5_pairMoved (l : Launch) (D : va_G) (cA : Nat → ClassId) (cn : Int) (wst : Int) (rwx : Int → Int) (lg : Int → Int) (n0 : Int) (v0 : Int → Int) (x0 : Int → Int) (y0 : Int → Int) (o0 : Int → Int) (n1 : Int) (v1 : Int → Int) (x1 : Int → Int) (y1 : Int → Int) (o1 : Int → Int) (hcn : 0 ≤ cn ∧ cn ≤ 80) (hrw : ∀ q : Int, inR (rwx q)) :
    gC l D cA yX5_pairMoved mX5_pairMoved none 0 0 [gr 21] (wrW cn wst rwx lg n0 v0 x0 y0 o0 n1 v1 x1 y1 o1) (fun r9 w9 => r9 = none ∧ w9 = wrW cn wst (wpr cn.toNat rwx cn.toNat) lg n0 v0 x0 y0 o0 n1 v1 x1 y1 o1) := by
  refine gC_of rfl kX5_pairMoved rfl rfl (Nat.le_of_ble_eq_true rfl) (fun X ad hX hE => ?_)
  refine G.go hX 2 (wrW cn wst rwx lg n0 v0 x0 y0 o0 n1 v1 x1 y1 o1, 2, [(0, gr 21), (1, gi 0)], []) rfl trivial ?_
  have lp2 : ∀ (n : Nat) (g : Int) (rw1 : Int → Int), (0 ≤ g ∧ g ≤ cn) → (rw1 = wpr cn.toNat rwx g.toNat) → (cn - g).toNat < n → G X mX5_pairMoved ad 0 0 (wrW cn wst rw1 lg n0 v0 x0 y0 o0 n1 v1 x1 y1 o1, 2, [(0, gr 21), (1, gi g)], []) := by
    intro n
    induction n with
    | zero => intro g rw1 hg hr hm9; exact absurd hm9 (Nat.not_lt_zero _)
    | succ n ih2 =>
      intro g rw1 hg hr hm2
      have hr1 : ∀ q : Int, inR (rw1 q) := by (rw [hr]; exact wpr_r hrw _ _)
      refine G.go hX 3 (wrW cn wst rw1 lg n0 v0 x0 y0 o0 n1 v1 x1 y1 o1, 7, [(0, gr 21), (1, gi g)], [gi cn, gi g]) rfl trivial ?_
      refine g_icmp_ge hX 31 rfl rfl ⟨by omega, by omega⟩ ⟨by omega, by omega⟩ (fun b7 => ?_) (fun b7 => ?_)
      ·
        exact g_vret hX hE rfl ⟨rfl, (by first | rfl | (rw [hr, show g = cn by omega]))⟩
      ·
        refine G.go hX 3 (wrW cn wst rw1 lg n0 v0 x0 y0 o0 n1 v1 x1 y1 o1, 13, [(0, gr 21), (1, gi g)], [gi 0, gi g, gr 21]) rfl trivial ?_
        refine G.callV (av := [gi g, gi 0]) (o := 21) (st := []) hX rfl (fun l D cA => c_X5_tell l D cA cn wst rw1 lg n0 v0 x0 y0 o0 n1 v1 x1 y1 o1 g 0 (by first | assumption | omega)) (by decide +kernel) aX5_tell rfl rfl rfl ⟨rfl, rfl⟩ (by decide) (Nat.le_of_ble_eq_true rfl) [0, 1, 2, 3, 4, 5, 6, 7, 8, 9, 10, 11, 12] [] [] rfl rfl rfl (fun r w' hp => ?_)
        obtain ⟨rfl, rfl⟩ := hp
        show G X mX5_pairMoved ad 0 0 (wrW cn wst rw1 lg n0 v0 x0 y0 o0 n1 v1 x1 y1 o1, 16, [(0, gr 21), (1, gi g)], [gi (rw1 (g * 4 + 0))])
        refine G.go hX 1 (wrW cn wst rw1 lg n0 v0 x0 y0 o0 n1 v1 x1 y1 o1, 17, [(0, gr 21), (1, gi g)], [gi 1, gi (rw1 (g * 4 + 0))]) rfl trivial ?_
        refine g_icmp_ne hX 25 rfl rfl (by first | exact hr1 _ | exact ⟨by omega, by omega⟩) (by first | exact hr1 _ | exact ⟨by omega, by omega⟩) (fun b17 => ?_) (fun b17 => ?_)
        ·
          refine G.go hX 2 (wrW cn wst rw1 lg n0 v0 x0 y0 o0 n1 v1 x1 y1 o1, 2, [(0, gr 21), (1, gi (g + 1))], []) rfl trivial ?_
          exact ih2 (g + 1) rw1 (by omega) (by rw [show (g + 1).toNat = g.toNat + 1 by omega]; show rw1 = wp1 cn.toNat (wpr cn.toNat rwx g.toNat) ((g.toNat : Nat) : Int); rw [← hr, show ((g.toNat : Nat) : Int) = g by omega]; unfold wp1; rw [if_neg b17]) (by omega)
        ·
          refine G.go hX 2 (wrW cn wst rw1 lg n0 v0 x0 y0 o0 n1 v1 x1 y1 o1, 22, [(0, gr 21), (1, gi g)], [gi g, gr 21]) rfl trivial ?_
          refine G.callV (av := [gi g]) (o := 21) (st := []) hX rfl (fun l D cA => c_X5_pairWithFirstNew l D cA cn wst rw1 lg n0 v0 x0 y0 o0 n1 v1 x1 y1 o1 g (by first | assumption | omega) hr1 ⟨by omega, by omega⟩ (by omega)) (by decide +kernel) aX5_pairWithFirstNew rfl rfl rfl ⟨rfl, rfl⟩ (by decide) (Nat.le_of_ble_eq_true rfl) [0, 1, 2, 3, 4, 5, 6, 7, 8, 9, 10, 11, 12] [] [] rfl rfl rfl (fun r w' hp => ?_)
          obtain ⟨rfl, rfl⟩ := hp
          show G X mX5_pairMoved ad 0 0 (wrW cn wst (wp1 cn.toNat rw1 g) lg n0 v0 x0 y0 o0 n1 v1 x1 y1 o1, 25, [(0, gr 21), (1, gi g)], [])
          refine G.go hX 2 (wrW cn wst (wp1 cn.toNat rw1 g) lg n0 v0 x0 y0 o0 n1 v1 x1 y1 o1, 2, [(0, gr 21), (1, gi (g + 1))], []) rfl trivial ?_
          exact ih2 (g + 1) (wp1 cn.toNat rw1 g) (by omega) (by rw [show (g + 1).toNat = g.toNat + 1 by omega]; show wp1 cn.toNat rw1 g = wp1 cn.toNat (wpr cn.toNat rwx g.toNat) ((g.toNat : Nat) : Int); rw [← hr, show ((g.toNat : Nat) : Int) = g by omega]) (by omega)
  exact lp2 _ 0 rwx (by omega) (by rfl) (Nat.lt_succ_self _)
set_option maxHeartbeats 4000000 in
set_option maxRecDepth 100000 in
theorem c_X5_dropUntold (l : Launch) (D : va_G) (cA : Nat → ClassId) (cn : Int) (wst : Int) (rwx : Int → Int) (lg : Int → Int) (n0 : Int) (v0 : Int → Int) (x0 : Int → Int) (y0 : Int → Int) (o0 : Int → Int) (n1 : Int) (v1 : Int → Int) (x1 : Int → Int) (y1 : Int → Int) (o1 : Int → Int) (hcn : 0 ≤ cn ∧ cn ≤ 80) (hrw : ∀ q : Int, inR (rwx q)) :
    gC l D cA yX5_dropUntold mX5_dropUntold none 0 0 [gr 21] (wrW cn wst rwx lg n0 v0 x0 y0 o0 n1 v1 x1 y1 o1) (fun r9 w9 => ∃ (cn2 : Int) (rw2 : Int → Int), r9 = none ∧ w9 = wrW cn2 wst rw2 lg n0 v0 x0 y0 o0 n1 v1 x1 y1 o1 ∧ (wDr rwx rw2 cn cn2) ∧ (0 ≤ cn2 ∧ cn2 ≤ cn) ∧ (∀ q : Int, inR (rw2 q))) := by
  refine gC_of rfl kX5_dropUntold rfl rfl (Nat.le_of_ble_eq_true rfl) (fun X ad hX hE => ?_)
  refine G.go hX 4 (wrW cn wst rwx lg n0 v0 x0 y0 o0 n1 v1 x1 y1 o1, 4, [(0, gr 21), (1, gi 0), (2, gi 0)], []) rfl trivial ?_
  have lp4 : ∀ (n : Nat) (kp : Int) (i : Int) (rw1 : Int → Int), (0 ≤ i ∧ i ≤ cn) → (wDr rwx rw1 i kp) → (∀ q : Int, inR (rw1 q)) → (cn - i).toNat < n → G X mX5_dropUntold ad 0 0 (wrW cn wst rw1 lg n0 v0 x0 y0 o0 n1 v1 x1 y1 o1, 4, [(0, gr 21), (1, gi kp), (2, gi i)], []) := by
    intro n
    induction n with
    | zero => intro kp i rw1 hi hd hr1 hm9; exact absurd hm9 (Nat.not_lt_zero _)
    | succ n ih4 =>
      intro kp i rw1 hi hd hr1 hm4
      have hle := wkc_le rwx i.toNat
      have hkp := hd.1
      have hrd := hd.2.2 (i * 4 + 0) (by omega)
      refine G.go hX 3 (wrW cn wst rw1 lg n0 v0 x0 y0 o0 n1 v1 x1 y1 o1, 9, [(0, gr 21), (1, gi kp), (2, gi i)], [gi cn, gi i]) rfl trivial ?_
      refine g_icmp_ge hX 48 rfl rfl ⟨by omega, by omega⟩ ⟨by omega, by omega⟩ (fun b9 => ?_) (fun b9 => ?_)
      ·
        refine G.go hX 3 (wrW kp wst rw1 lg n0 v0 x0 y0 o0 n1 v1 x1 y1 o1, 53, [(0, gr 21), (1, gi kp), (2, gi i)], []) rfl trivial ?_
        exact g_vret hX hE rfl ⟨kp, rw1, rfl, rfl, by (rw [show cn = i by omega]; exact hd), by omega, hr1⟩
      ·
        refine G.go hX 3 (wrW cn wst rw1 lg n0 v0 x0 y0 o0 n1 v1 x1 y1 o1, 15, [(0, gr 21), (1, gi kp), (2, gi i)], [gi 0, gi i, gr 21]) rfl trivial ?_
        refine G.callV (av := [gi i, gi 0]) (o := 21) (st := []) hX rfl (fun l D cA => c_X5_tell l D cA cn wst rw1 lg n0 v0 x0 y0 o0 n1 v1 x1 y1 o1 i 0 (by first | assumption | omega)) (by decide +kernel) aX5_tell rfl rfl rfl ⟨rfl, rfl⟩ (by decide) (Nat.le_of_ble_eq_true rfl) [0, 1, 2, 3, 4, 5, 6, 7, 8, 9, 10, 11, 12] [] [] rfl rfl rfl (fun r w' hp => ?_)
        obtain ⟨rfl, rfl⟩ := hp
        show G X mX5_dropUntold ad 0 0 (wrW cn wst rw1 lg n0 v0 x0 y0 o0 n1 v1 x1 y1 o1, 18, [(0, gr 21), (1, gi kp), (2, gi i)], [gi (rw1 (i * 4 + 0))])
        refine g_if_eq hX 42 rfl rfl (hr1 _) (fun b18 => ?_) (fun b18 => ?_)
        ·
          refine G.go hX 2 (wrW cn wst rw1 lg n0 v0 x0 y0 o0 n1 v1 x1 y1 o1, 4, [(0, gr 21), (1, gi kp), (2, gi (i + 1))], []) rfl trivial ?_
          exact ih4 kp (i + 1) rw1 (by omega) (by exact wDr_skip hd hi.1 (by omega)) (by exact hr1) (by omega)
        ·
          refine G.go hX 11 (wrW cn wst rw1 lg n0 v0 x0 y0 o0 n1 v1 x1 y1 o1, 36, [(0, gr 21), (1, gi kp), (2, gi i)], [gi 4, gi (kp * 4), gr 22, gi (i * 4), gr 22]) rfl trivial ?_
          refine g_copy hX rfl (by decide +kernel) ⟨by decide, Nat.le_of_ble_eq_true rfl⟩ rfl rfl (by omega) ?_
          show G X mX5_dropUntold ad 0 0 (wrW cn wst (gcp rw1 rw1 (i * 4) (kp * 4) 4) lg n0 v0 x0 y0 o0 n1 v1 x1 y1 o1, 39, [(0, gr 21), (1, gi kp), (2, gi i)], [])
          refine G.go hX 3 (wrW cn wst (gcp rw1 rw1 (i * 4) (kp * 4) 4) lg n0 v0 x0 y0 o0 n1 v1 x1 y1 o1, 4, [(0, gr 21), (1, gi (kp + 1)), (2, gi (i + 1))], []) rfl trivial ?_
          exact ih4 (kp + 1) (i + 1) (gcp rw1 rw1 (i * 4) (kp * 4) 4) (by omega) (by exact wDr_keep hd hi.1 (by omega)) (by exact gcp_r hr1 hr1 _ _ _) (by omega)
  exact lp4 _ 0 0 rwx (by omega) (by exact ⟨rfl, fun k k1 => by omega, fun _ _ => rfl⟩) (by exact hrw) (Nat.lt_succ_self _)
end
section
/-- what is kept until a change: the rows -/
def wVal (n0 : Int) (v0 x0 y0 o0 : Int → Int) (n1 : Int) (v1 x1 y1 o1 : Int → Int) (cn : Int) (rw_ : Int → Int) : Prop := ∃ L : Int → Int → Int, wLok n0 n1 (fun j => v0 (o0 j)) (fun j => v1 (o1 j)) L ∧ wTold (wWk n0 n1 (fun j => v0 (o0 j)) o0 (fun j => x0 (o0 j)) (fun j => y0 (o0 j)) (fun j => v1 (o1 j)) o1 (fun j => x1 (o1 j)) (fun j => y1 (o1 j)) L 80 0 0) cn rw_
theorem wTold_of {l : List (Int × Int × Int × Int)} {R rw_ : Int → Int} {c cn : Int} (hc : c = (l.length : Int)) (hr : wrl R l) (hd : wDr (wpr c.toNat R c.toNat) rw_ c cn) : wTold l cn rw_ := by
  have e : c.toNat = l.length := by omega
  rw [e] at hd
  obtain ⟨h1, h2, h3⟩ := hd
  rw [e] at h1
  exact ⟨R, hr, h1, fun k hk hne f f0 f1 => h2 k (by omega) hne f f0 f1⟩
set_option maxHeartbeats 4000000 in
set_option maxRecDepth 100000 in
theorem c_X5_refresh (l : Launch) (D : va_G) (cA : Nat → ClassId) (cn : Int) (wst : Int) (rwx : Int → Int) (lg : Int → Int) (n0 : Int) (v0 : Int → Int) (x0 : Int → Int) (y0 : Int → Int) (o0 : Int → Int) (n1 : Int) (v1 : Int → Int) (x1 : Int → Int) (y1 : Int → Int) (o1 : Int → Int) (hn : (0 ≤ n0 ∧ n0 ≤ 40) ∧ 0 ≤ n1 ∧ n1 ≤ 40) (ho0 : ∀ j, 0 ≤ j → j < n0 → 0 ≤ o0 j ∧ o0 j < n0) (ho1 : ∀ j, 0 ≤ j → j < n1 → 0 ≤ o1 j ∧ o1 j < n1) (hv : ∀ q : Int, inR (v0 q) ∧ inR (v1 q)) (hxy : ∀ q : Int, (inR (x0 q) ∧ inR (x1 q)) ∧ inR (y0 q) ∧ inR (y1 q)) (hws : wst = 0 ∨ wst = 1) (hcn : 0 ≤ cn ∧ cn ≤ 80) (hrw : ∀ q : Int, inR (rwx q)) (hval : wst = 0 → wVal n0 v0 x0 y0 o0 n1 v1 x1 y1 o1 cn rwx) :
    gC l D cA yX5_refresh mX5_refresh none 0 0 [gr 21] (wrW cn wst rwx lg n0 v0 x0 y0 o0 n1 v1 x1 y1 o1) (fun r9 w9 => ∃ (cn2 : Int) (rw2 : Int → Int) (lg2 : Int → Int), r9 = none ∧ w9 = wrW cn2 0 rw2 lg2 n0 v0 x0 y0 o0 n1 v1 x1 y1 o1 ∧ (wVal n0 v0 x0 y0 o0 n1 v1 x1 y1 o1 cn2 rw2) ∧ (0 ≤ cn2 ∧ cn2 ≤ 80) ∧ (∀ q : Int, inR (rw2 q))) := by
  refine gC_of rfl kX5_refresh rfl rfl (Nat.le_of_ble_eq_true rfl) (fun X ad hX hE => ?_)
  refine G.go hX 2 (wrW cn wst rwx lg n0 v0 x0 y0 o0 n1 v1 x1 y1 o1, 4, [(0, gr 21)], [gi wst]) rfl trivial ?_
  refine g_if_ne hX 8 rfl rfl ⟨by omega, by omega⟩ (fun b4 => ?_) (fun b4 => ?_)
  ·
    refine G.go hX 4 (wrW 0 wst rwx lg n0 v0 x0 y0 o0 n1 v1 x1 y1 o1, 14, [(0, gr 21)], [gr 21]) rfl trivial ?_
    refine G.callV (av := []) (o := 21) (st := []) hX rfl (fun l D cA => c_X5_measure l D cA 0 wst rwx lg n0 v0 x0 y0 o0 n1 v1 x1 y1 o1 (by first | assumption | omega) (by first | assumption | omega) (by first | assumption | omega) (by first | assumption | omega)) (by decide +kernel) aX5_measure rfl rfl rfl ⟨rfl, rfl⟩ (by decide) (Nat.le_of_ble_eq_true rfl) [0, 1, 2, 3, 4, 5, 6, 7, 8, 9, 10, 11, 12] [] [] rfl rfl rfl (fun r w' hp => ?_)
    obtain ⟨lg5, rfl, rfl, hq1⟩ := hp
    show G X mX5_refresh ad 0 0 (wrW 0 wst rwx lg5 n0 v0 x0 y0 o0 n1 v1 x1 y1 o1, 17, [(0, gr 21)], [])
    refine G.go hX 1 (wrW 0 wst rwx lg5 n0 v0 x0 y0 o0 n1 v1 x1 y1 o1, 18, [(0, gr 21)], [gr 21]) rfl trivial ?_
    refine G.callV (av := []) (o := 21) (st := []) hX rfl (fun l D cA => c_X5_walk l D cA 0 wst rwx lg5 n0 v0 x0 y0 o0 n1 v1 x1 y1 o1 (by first | assumption | omega) (by first | assumption | omega) (by first | assumption | omega) (by first | assumption | omega) (by first | assumption | omega) hq1 (by first | assumption | omega) (by first | assumption | omega)) (by decide +kernel) aX5_walk rfl rfl rfl ⟨rfl, rfl⟩ (by decide) (Nat.le_of_ble_eq_true rfl) [0, 1, 2, 3, 4, 5, 6, 7, 8, 9, 10, 11, 12] [] [] rfl rfl rfl (fun r w' hp => ?_)
    obtain ⟨cn5, rw5, rfl, rfl, hw1, hw2, hw3, hw4⟩ := hp
    show G X mX5_refresh ad 0 0 (wrW cn5 wst rw5 lg5 n0 v0 x0 y0 o0 n1 v1 x1 y1 o1, 21, [(0, gr 21)], [])
    refine G.go hX 1 (wrW cn5 wst rw5 lg5 n0 v0 x0 y0 o0 n1 v1 x1 y1 o1, 22, [(0, gr 21)], [gr 21]) rfl trivial ?_
    refine G.callV (av := []) (o := 21) (st := []) hX rfl (fun l D cA => c_X5_pairMoved l D cA cn5 wst rw5 lg5 n0 v0 x0 y0 o0 n1 v1 x1 y1 o1 ⟨by omega, by omega⟩ hw3) (by decide +kernel) aX5_pairMoved rfl rfl rfl ⟨rfl, rfl⟩ (by decide) (Nat.le_of_ble_eq_true rfl) [0, 1, 2, 3, 4, 5, 6, 7, 8, 9, 10, 11, 12] [] [] rfl rfl rfl (fun r w' hp => ?_)
    obtain ⟨rfl, rfl⟩ := hp
    show G X mX5_refresh ad 0 0 (wrW cn5 wst (wpr cn5.toNat rw5 cn5.toNat) lg5 n0 v0 x0 y0 o0 n1 v1 x1 y1 o1, 25, [(0, gr 21)], [])
    refine G.go hX 1 (wrW cn5 wst (wpr cn5.toNat rw5 cn5.toNat) lg5 n0 v0 x0 y0 o0 n1 v1 x1 y1 o1, 26, [(0, gr 21)], [gr 21]) rfl trivial ?_
    refine G.callV (av := []) (o := 21) (st := []) hX rfl (fun l D cA => c_X5_dropUntold l D cA cn5 wst (wpr cn5.toNat rw5 cn5.toNat) lg5 n0 v0 x0 y0 o0 n1 v1 x1 y1 o1 ⟨by omega, by omega⟩ (wpr_r hw3 _ _)) (by decide +kernel) aX5_dropUntold rfl rfl rfl ⟨rfl, rfl⟩ (by decide) (Nat.le_of_ble_eq_true rfl) [0, 1, 2, 3, 4, 5, 6, 7, 8, 9, 10, 11, 12] [] [] rfl rfl rfl (fun r w' hp => ?_)
    obtain ⟨cn6, rw6, rfl, rfl, hd1, hd2, hd3⟩ := hp
    show G X mX5_refresh ad 0 0 (wrW cn6 wst rw6 lg5 n0 v0 x0 y0 o0 n1 v1 x1 y1 o1, 29, [(0, gr 21)], [])
    refine G.go hX 3 (wrW cn6 0 rw6 lg5 n0 v0 x0 y0 o0 n1 v1 x1 y1 o1, 34, [(0, gr 21)], []) rfl ?_ ?_
    · refine ⟨?_, trivial⟩
      · omega
    exact g_vret hX hE rfl ⟨cn6, rw6, lg5, rfl, rfl, ⟨_, hq1, wTold_of hw1 hw2 hd1⟩, by omega, hd3⟩
  ·
    have hs0 : wst = 0 := by omega
    exact g_vret hX hE rfl ⟨cn, rwx, lg, rfl, by rw [hs0], hval hs0, hcn, hrw⟩
end
section
def ppq (z : Int) : Option Nat := some (40 + z.toNat)
/-- edition e is the latest one of page p that was approved of -/
def gLt (ct ed : Int → Int) (p e : Int) : Prop := 0 < ct p ∧ ed p = e
abbrev apW (ct ed q0 q1 q2 q3 q4 q5 q6 q7 q8 q9 q10 q11 q12 q13 q14 q15 q16 q17 q18 q19 : Int → Int) : gW := [(36, gob 1 [gr 37, gr 38, gr 39]), (37, gai 0 20 ct), (38, gai 0 20 ed), (39, gar 2 20 ppq), (40, gai 0 6 q0), (41, gai 0 6 q1), (42, gai 0 6 q2), (43, gai 0 6 q3), (44, gai 0 6 q4), (45, gai 0 6 q5), (46, gai 0 6 q6), (47, gai 0 6 q7), (48, gai 0 6 q8), (49, gai 0 6 q9), (50, gai 0 6 q10), (51, gai 0 6 q11), (52, gai 0 6 q12), (53, gai 0 6 q13), (54, gai 0 6 q14), (55, gai 0 6 q15), (56, gai 0 6 q16), (57, gai 0 6 q17), (58, gai 0 6 q18), (59, gai 0 6 q19)]
abbrev apX (ct ed : Int → Int) (ppl : Int → Int → Int) : gW := apW ct ed (ppl 0) (ppl 1) (ppl 2) (ppl 3) (ppl 4) (ppl 5) (ppl 6) (ppl 7) (ppl 8) (ppl 9) (ppl 10) (ppl 11) (ppl 12) (ppl 13) (ppl 14) (ppl 15) (ppl 16) (ppl 17) (ppl 18) (ppl 19)
set_option maxHeartbeats 4000000 in
set_option maxRecDepth 100000 in
theorem c_X0_isOlder (l : Launch) (D : va_G) (cA : Nat → ClassId) (ct : Int → Int) (ed : Int → Int) (q0 : Int → Int) (q1 : Int → Int) (q2 : Int → Int) (q3 : Int → Int) (q4 : Int → Int) (q5 : Int → Int) (q6 : Int → Int) (q7 : Int → Int) (q8 : Int → Int) (q9 : Int → Int) (q10 : Int → Int) (q11 : Int → Int) (q12 : Int → Int) (q13 : Int → Int) (q14 : Int → Int) (q15 : Int → Int) (q16 : Int → Int) (q17 : Int → Int) (q18 : Int → Int) (q19 : Int → Int) (p : Int) (e : Int) (hp : 0 ≤ p ∧ p < 20) (hct : ∀ q : Int, 0 ≤ ct q ∧ ct q ≤ 6) (hed : ∀ q : Int, inR (ed q)) (he : inR e) :
    gC l D cA yX0_isOlder mX0_isOlder (some .boolean) 0 0 [gr 36, gi p, gi e] (apW ct ed q0 q1 q2 q3 q4 q5 q6 q7 q8 q9 q10 q11 q12 q13 q14 q15 q16 q17 q18 q19) (fun r9 w9 => r9 = some (gi (gb (0 < ct p ∧ e < ed p))) ∧ w9 = apW ct ed q0 q1 q2 q3 q4 q5 q6 q7 q8 q9 q10 q11 q12 q13 q14 q15 q16 q17 q18 q19) := by
  refine gC_of rfl kX0_isOlder rfl rfl (Nat.le_of_ble_eq_true rfl) (fun X ad hX hE => ?_)
  refine G.go hX 4 (apW ct ed q0 q1 q2 q3 q4 q5 q6 q7 q8 q9 q10 q11 q12 q13 q14 q15 q16 q17 q18 q19, 6, [(0, gr 36), (1, gi p), (2, gi e)], [gi (ct p)]) rfl ?_ ?_
  · refine ⟨?_, trivial⟩
    · omega
  refine g_if_le hX 23 rfl rfl (by first | exact ⟨by have := hct p; omega, by have := hct p; omega⟩ | exact hed _ | assumption | exact ⟨by omega, by omega⟩) (fun b6 => ?_) (fun b6 => ?_)
  ·
    refine G.go hX 1 (apW ct ed q0 q1 q2 q3 q4 q5 q6 q7 q8 q9 q10 q11 q12 q13 q14 q15 q16 q17 q18 q19, 24, [(0, gr 36), (1, gi p), (2, gi e)], [gi 0]) rfl trivial ?_
    exact g_zret hX hE rfl (Or.inl rfl) ⟨(congrArg (fun z => some (gi z)) (gb_f (by omega)).symm), rfl⟩
  ·
    refine G.go hX 5 (apW ct ed q0 q1 q2 q3 q4 q5 q6 q7 q8 q9 q10 q11 q12 q13 q14 q15 q16 q17 q18 q19, 16, [(0, gr 36), (1, gi p), (2, gi e)], [gi (ed p), gi e]) rfl ?_ ?_
    · refine ⟨?_, trivial⟩
      · omega
    refine g_icmp_ge hX 23 rfl rfl (by first | exact ⟨by have := hct p; omega, by have := hct p; omega⟩ | exact hed _ | assumption | exact ⟨by omega, by omega⟩) (by first | exact ⟨by have := hct p; omega, by have := hct p; omega⟩ | exact hed _ | assumption | exact ⟨by omega, by omega⟩) (fun b16 => ?_) (fun b16 => ?_)
    ·
      refine G.go hX 1 (apW ct ed q0 q1 q2 q3 q4 q5 q6 q7 q8 q9 q10 q11 q12 q13 q14 q15 q16 q17 q18 q19, 24, [(0, gr 36), (1, gi p), (2, gi e)], [gi 0]) rfl trivial ?_
      exact g_zret hX hE rfl (Or.inl rfl) ⟨(congrArg (fun z => some (gi z)) (gb_f (by omega)).symm), rfl⟩
    ·
      refine G.go hX 2 (apW ct ed q0 q1 q2 q3 q4 q5 q6 q7 q8 q9 q10 q11 q12 q13 q14 q15 q16 q17 q18 q19, 24, [(0, gr 36), (1, gi p), (2, gi e)], [gi 1]) rfl trivial ?_
      exact g_zret hX hE rfl (Or.inr rfl) ⟨(congrArg (fun z => some (gi z)) (gb_t (by omega)).symm), rfl⟩
set_option maxHeartbeats 4000000 in
set_option maxRecDepth 100000 in
theorem c_X0_isLatest (l : Launch) (D : va_G) (cA : Nat → ClassId) (ct : Int → Int) (ed : Int → Int) (q0 : Int → Int) (q1 : Int → Int) (q2 : Int → Int) (q3 : Int → Int) (q4 : Int → Int) (q5 : Int → Int) (q6 : Int → Int) (q7 : Int → Int) (q8 : Int → Int) (q9 : Int → Int) (q10 : Int → Int) (q11 : Int → Int) (q12 : Int → Int) (q13 : Int → Int) (q14 : Int → Int) (q15 : Int → Int) (q16 : Int → Int) (q17 : Int → Int) (q18 : Int → Int) (q19 : Int → Int) (p : Int) (e : Int) (hp : 0 ≤ p ∧ p < 20) (hct : ∀ q : Int, 0 ≤ ct q ∧ ct q ≤ 6) (hed : ∀ q : Int, inR (ed q)) (he : inR e) :
    gC l D cA yX0_isLatest mX0_isLatest (some .boolean) 0 0 [gr 36, gi p, gi e] (apW ct ed q0 q1 q2 q3 q4 q5 q6 q7 q8 q9 q10 q11 q12 q13 q14 q15 q16 q17 q18 q19) (fun r9 w9 => r9 = some (gi (gb (gLt ct ed p e))) ∧ w9 = apW ct ed q0 q1 q2 q3 q4 q5 q6 q7 q8 q9 q10 q11 q12 q13 q14 q15 q16 q17 q18 q19) := by
  refine gC_of rfl kX0_isLatest rfl rfl (Nat.le_of_ble_eq_true rfl) (fun X ad hX hE => ?_)
  refine G.go hX 4 (apW ct ed q0 q1 q2 q3 q4 q5 q6 q7 q8 q9 q10 q11 q12 q13 q14 q15 q16 q17 q18 q19, 6, [(0, gr 36), (1, gi p), (2, gi e)], [gi (ct p)]) rfl ?_ ?_
  · refine ⟨?_, trivial⟩
    · omega
  refine g_if_le hX 23 rfl rfl (by first | exact ⟨by have := hct p; omega, by have := hct p; omega⟩ | exact hed _ | assumption | exact ⟨by omega, by omega⟩) (fun b6 => ?_) (fun b6 => ?_)
  ·
    refine G.go hX 1 (apW ct ed q0 q1 q2 q3 q4 q5 q6 q7 q8 q9 q10 q11 q12 q13 q14 q15 q16 q17 q18 q19, 24, [(0, gr 36), (1, gi p), (2, gi e)], [gi 0]) rfl trivial ?_
    exact g_zret hX hE rfl (Or.inl rfl) ⟨(congrArg (fun z => some (gi z)) (gb_f (by unfold gLt; omega)).symm), rfl⟩
  ·
    refine G.go hX 5 (apW ct ed q0 q1 q2 q3 q4 q5 q6 q7 q8 q9 q10 q11 q12 q13 q14 q15 q16 q17 q18 q19, 16, [(0, gr 36), (1, gi p), (2, gi e)], [gi e, gi (ed p)]) rfl ?_ ?_
    · refine ⟨?_, trivial⟩
      · omega
    refine g_icmp_ne hX 23 rfl rfl (by first | exact ⟨by have := hct p; omega, by have := hct p; omega⟩ | exact hed _ | assumption | exact ⟨by omega, by omega⟩) (by first | exact ⟨by have := hct p; omega, by have := hct p; omega⟩ | exact hed _ | assumption | exact ⟨by omega, by omega⟩) (fun b16 => ?_) (fun b16 => ?_)
    ·
      refine G.go hX 1 (apW ct ed q0 q1 q2 q3 q4 q5 q6 q7 q8 q9 q10 q11 q12 q13 q14 q15 q16 q17 q18 q19, 24, [(0, gr 36), (1, gi p), (2, gi e)], [gi 0]) rfl trivial ?_
      exact g_zret hX hE rfl (Or.inl rfl) ⟨(congrArg (fun z => some (gi z)) (gb_f (by unfold gLt; omega)).symm), rfl⟩
    ·
      refine G.go hX 2 (apW ct ed q0 q1 q2 q3 q4 q5 q6 q7 q8 q9 q10 q11 q12 q13 q14 q15 q16 q17 q18 q19, 24, [(0, gr 36), (1, gi p), (2, gi e)], [gi 1]) rfl trivial ?_
      exact g_zret hX hE rfl (Or.inr rfl) ⟨(congrArg (fun z => some (gi z)) (gb_t (by unfold gLt; omega)).symm), rfl⟩
set_option maxHeartbeats 4000000 in
set_option maxRecDepth 100000 in
theorem c_X0_isFull (l : Launch) (D : va_G) (cA : Nat → ClassId) (ct : Int → Int) (ed : Int → Int) (q0 : Int → Int) (q1 : Int → Int) (q2 : Int → Int) (q3 : Int → Int) (q4 : Int → Int) (q5 : Int → Int) (q6 : Int → Int) (q7 : Int → Int) (q8 : Int → Int) (q9 : Int → Int) (q10 : Int → Int) (q11 : Int → Int) (q12 : Int → Int) (q13 : Int → Int) (q14 : Int → Int) (q15 : Int → Int) (q16 : Int → Int) (q17 : Int → Int) (q18 : Int → Int) (q19 : Int → Int) (p : Int) (e : Int) (hp : 0 ≤ p ∧ p < 20) (hct : ∀ q : Int, 0 ≤ ct q ∧ ct q ≤ 6) (hed : ∀ q : Int, inR (ed q)) (he : inR e) :
    gC l D cA yX0_isFull mX0_isFull (some .boolean) 0 0 [gr 36, gi p, gi e] (apW ct ed q0 q1 q2 q3 q4 q5 q6 q7 q8 q9 q10 q11 q12 q13 q14 q15 q16 q17 q18 q19) (fun r9 w9 => r9 = some (gi (gb (gLt ct ed p e ∧ 6 ≤ ct p))) ∧ w9 = apW ct ed q0 q1 q2 q3 q4 q5 q6 q7 q8 q9 q10 q11 q12 q13 q14 q15 q16 q17 q18 q19) := by
  refine gC_of rfl kX0_isFull rfl rfl (Nat.le_of_ble_eq_true rfl) (fun X ad hX hE => ?_)
  refine G.go hX 3 (apW ct ed q0 q1 q2 q3 q4 q5 q6 q7 q8 q9 q10 q11 q12 q13 q14 q15 q16 q17 q18 q19, 3, [(0, gr 36), (1, gi p), (2, gi e)], [gi e, gi p, gr 36]) rfl trivial ?_
  refine G.callV (av := [gi p, gi e]) (o := 36) (st := []) hX rfl (fun l D cA => c_X0_isLatest l D cA ct ed q0 q1 q2 q3 q4 q5 q6 q7 q8 q9 q10 q11 q12 q13 q14 q15 q16 q17 q18 q19 p e (by first | assumption | omega) (by first | assumption | omega) (by first | assumption | omega) (by first | assumption | omega)) (by decide +kernel) aX0_isLatest rfl rfl rfl ⟨rfl, rfl⟩ (by decide) (Nat.le_of_ble_eq_true rfl) [0, 1, 2, 3, 4, 5, 6, 7, 8, 9, 10, 11, 12, 13, 14, 15, 16, 17, 18, 19, 20, 21, 22, 23] [] [] rfl rfl rfl (fun r w' hp => ?_)
  obtain ⟨rfl, rfl⟩ := hp
  show G X mX0_isFull ad 0 0 (apW ct ed q0 q1 q2 q3 q4 q5 q6 q7 q8 q9 q10 q11 q12 q13 q14 q15 q16 q17 q18 q19, 6, [(0, gr 36), (1, gi p), (2, gi e)], [gi (gb (gLt ct ed p e))])
  refine g_if_eq hX 24 rfl rfl (gb_r _) (fun b6 => ?_) (fun b6 => ?_)
  ·
    have b6 := gb_0.mp b6
    refine G.go hX 1 (apW ct ed q0 q1 q2 q3 q4 q5 q6 q7 q8 q9 q10 q11 q12 q13 q14 q15 q16 q17 q18 q19, 25, [(0, gr 36), (1, gi p), (2, gi e)], [gi 0]) rfl trivial ?_
    exact g_zret hX hE rfl (Or.inl rfl) ⟨(congrArg (fun z => some (gi z)) (gb_f (by first | exact fun h9 => b6 h9.1 | exact ⟨b6, by omega⟩ | (intro h9; omega))).symm), rfl⟩
  ·
    have b6 := gb_n0 b6
    refine G.go hX 5 (apW ct ed q0 q1 q2 q3 q4 q5 q6 q7 q8 q9 q10 q11 q12 q13 q14 q15 q16 q17 q18 q19, 17, [(0, gr 36), (1, gi p), (2, gi e)], [gi 6, gi (ct p)]) rfl ?_ ?_
    · refine ⟨?_, trivial⟩
      · omega
    refine g_icmp_lt hX 24 rfl rfl (by first | exact ⟨by have := hct p; omega, by have := hct p; omega⟩ | exact hed _ | assumption | exact ⟨by omega, by omega⟩) (by first | exact ⟨by have := hct p; omega, by have := hct p; omega⟩ | exact hed _ | assumption | exact ⟨by omega, by omega⟩) (fun b17 => ?_) (fun b17 => ?_)
    ·
      refine G.go hX 1 (apW ct ed q0 q1 q2 q3 q4 q5 q6 q7 q8 q9 q10 q11 q12 q13 q14 q15 q16 q17 q18 q19, 25, [(0, gr 36), (1, gi p), (2, gi e)], [gi 0]) rfl trivial ?_
      exact g_zret hX hE rfl (Or.inl rfl) ⟨(congrArg (fun z => some (gi z)) (gb_f (by first | exact fun h9 => b6 h9.1 | exact ⟨b6, by omega⟩ | (intro h9; omega))).symm), rfl⟩
    ·
      refine G.go hX 2 (apW ct ed q0 q1 q2 q3 q4 q5 q6 q7 q8 q9 q10 q11 q12 q13 q14 q15 q16 q17 q18 q19, 25, [(0, gr 36), (1, gi p), (2, gi e)], [gi 1]) rfl trivial ?_
      exact g_zret hX hE rfl (Or.inr rfl) ⟨(congrArg (fun z => some (gi z)) (gb_t (by first | exact fun h9 => b6 h9.1 | exact ⟨b6, by omega⟩ | (intro h9; omega))).symm), rfl⟩
set_option maxHeartbeats 4000000 in
set_option maxRecDepth 100000 in
theorem c_X0_has_0 (l : Launch) (D : va_G) (cA : Nat → ClassId) (ct : Int → Int) (ed : Int → Int) (q0 : Int → Int) (q1 : Int → Int) (q2 : Int → Int) (q3 : Int → Int) (q4 : Int → Int) (q5 : Int → Int) (q6 : Int → Int) (q7 : Int → Int) (q8 : Int → Int) (q9 : Int → Int) (q10 : Int → Int) (q11 : Int → Int) (q12 : Int → Int) (q13 : Int → Int) (q14 : Int → Int) (q15 : Int → Int) (q16 : Int → Int) (q17 : Int → Int) (q18 : Int → Int) (q19 : Int → Int) (e : Int) (who : Int) (hct : ∀ q : Int, 0 ≤ ct q ∧ ct q ≤ 6) (hed : ∀ q : Int, inR (ed q)) (he : inR e) (hq : ∀ j : Int, inR (q0 j)) (hw : inR who) :
    gC l D cA yX0_has mX0_has (some .boolean) 0 0 [gr 36, gi 0, gi e, gi who] (apW ct ed q0 q1 q2 q3 q4 q5 q6 q7 q8 q9 q10 q11 q12 q13 q14 q15 q16 q17 q18 q19) (fun r9 w9 => r9 = some (gi (gb (gLt ct ed 0 e ∧ ∃ j : Int, 0 ≤ j ∧ j < ct 0 ∧ q0 j = who))) ∧ w9 = apW ct ed q0 q1 q2 q3 q4 q5 q6 q7 q8 q9 q10 q11 q12 q13 q14 q15 q16 q17 q18 q19) := by
  refine gC_of rfl kX0_has rfl rfl (Nat.le_of_ble_eq_true rfl) (fun X ad hX hE => ?_)
  refine G.go hX 3 (apW ct ed q0 q1 q2 q3 q4 q5 q6 q7 q8 q9 q10 q11 q12 q13 q14 q15 q16 q17 q18 q19, 3, [(0, gr 36), (1, gi 0), (2, gi e), (3, gi who)], [gi e, gi 0, gr 36]) rfl trivial ?_
  refine G.callV (av := [gi 0, gi e]) (o := 36) (st := []) hX rfl (fun l D cA => c_X0_isLatest l D cA ct ed q0 q1 q2 q3 q4 q5 q6 q7 q8 q9 q10 q11 q12 q13 q14 q15 q16 q17 q18 q19 0 e (by first | assumption | omega) (by first | assumption | omega) (by first | assumption | omega) (by first | assumption | omega)) (by decide +kernel) aX0_isLatest rfl rfl rfl ⟨rfl, rfl⟩ (by decide) (Nat.le_of_ble_eq_true rfl) [0, 1, 2, 3, 4, 5, 6, 7, 8, 9, 10, 11, 12, 13, 14, 15, 16, 17, 18, 19, 20, 21, 22, 23] [] [] rfl rfl rfl (fun r w' hp => ?_)
  obtain ⟨rfl, rfl⟩ := hp
  show G X mX0_has ad 0 0 (apW ct ed q0 q1 q2 q3 q4 q5 q6 q7 q8 q9 q10 q11 q12 q13 q14 q15 q16 q17 q18 q19, 6, [(0, gr 36), (1, gi 0), (2, gi e), (3, gi who)], [gi (gb (gLt ct ed 0 e))])
  refine g_if_ne hX 11 rfl rfl (gb_r _) (fun b6 => ?_) (fun b6 => ?_)
  ·
    have b6 := gb_n0 b6
    refine G.go hX 2 (apW ct ed q0 q1 q2 q3 q4 q5 q6 q7 q8 q9 q10 q11 q12 q13 q14 q15 q16 q17 q18 q19, 14, [(0, gr 36), (1, gi 0), (2, gi e), (3, gi who), (4, gi 0)], []) rfl trivial ?_
    have lp14 : ∀ (n : Nat) (i : Int), (0 ≤ i ∧ i ≤ 6) → (∀ j : Int, 0 ≤ j → j < i → q0 j ≠ who) → (6 - i).toNat < n → G X mX0_has ad 0 0 (apW ct ed q0 q1 q2 q3 q4 q5 q6 q7 q8 q9 q10 q11 q12 q13 q14 q15 q16 q17 q18 q19, 14, [(0, gr 36), (1, gi 0), (2, gi e), (3, gi who), (4, gi i)], []) := by
      intro n
      induction n with
      | zero => intro i hi hno hm9; exact absurd hm9 (Nat.not_lt_zero _)
      | succ n ih14 =>
        intro i hi hno hm14
        refine G.go hX 5 (apW ct ed q0 q1 q2 q3 q4 q5 q6 q7 q8 q9 q10 q11 q12 q13 q14 q15 q16 q17 q18 q19, 22, [(0, gr 36), (1, gi 0), (2, gi e), (3, gi who), (4, gi i)], [gi (ct 0), gi i]) rfl ?_ ?_
        · refine ⟨?_, trivial⟩
          · omega
        refine g_icmp_ge hX 53 rfl rfl ⟨by have := hct 0; omega, by have := hct 0; omega⟩ ⟨by have := hct 0; omega, by have := hct 0; omega⟩ (fun b22 => ?_) (fun b22 => ?_)
        ·
          refine G.go hX 1 (apW ct ed q0 q1 q2 q3 q4 q5 q6 q7 q8 q9 q10 q11 q12 q13 q14 q15 q16 q17 q18 q19, 54, [(0, gr 36), (1, gi 0), (2, gi e), (3, gi who), (4, gi i)], [gi 0]) rfl trivial ?_
          exact g_zret hX hE rfl (Or.inl rfl) ⟨(congrArg (fun z => some (gi z)) (gb_f (by exact fun ⟨_, j, h1, h2, h3⟩ => hno j h1 (by have := hct 0; omega) h3)).symm), rfl⟩
        ·
          refine G.go hX 2 (apW ct ed q0 q1 q2 q3 q4 q5 q6 q7 q8 q9 q10 q11 q12 q13 q14 q15 q16 q17 q18 q19, 29, [(0, gr 36), (1, gi 0), (2, gi e), (3, gi who), (4, gi i)], [gi 6, gi i]) rfl trivial ?_
          refine g_icmp_ge hX 53 rfl rfl ⟨by omega, by omega⟩ ⟨by omega, by omega⟩ (fun b29 => ?_) (fun b29 => ?_)
          ·
            refine G.go hX 1 (apW ct ed q0 q1 q2 q3 q4 q5 q6 q7 q8 q9 q10 q11 q12 q13 q14 q15 q16 q17 q18 q19, 54, [(0, gr 36), (1, gi 0), (2, gi e), (3, gi who), (4, gi i)], [gi 0]) rfl trivial ?_
            exact g_zret hX hE rfl (Or.inl rfl) ⟨(congrArg (fun z => some (gi z)) (gb_f (by exact fun ⟨_, j, h1, h2, h3⟩ => hno j h1 (by have := hct 0; omega) h3)).symm), rfl⟩
          ·
            refine G.go hX 3 (apW ct ed q0 q1 q2 q3 q4 q5 q6 q7 q8 q9 q10 q11 q12 q13 q14 q15 q16 q17 q18 q19, 37, [(0, gr 36), (1, gi 0), (2, gi e), (3, gi who), (4, gi i)], [gi 0, gr 39]) rfl trivial ?_
            refine g_aald hX 40 rfl rfl (by omega) rfl ?_
            refine G.go hX 3 (apW ct ed q0 q1 q2 q3 q4 q5 q6 q7 q8 q9 q10 q11 q12 q13 q14 q15 q16 q17 q18 q19, 42, [(0, gr 36), (1, gi 0), (2, gi e), (3, gi who), (4, gi i)], [gi who, gi (q0 i)]) rfl ?_ ?_
            · refine ⟨?_, trivial⟩
              · omega
            refine g_icmp_ne hX 47 rfl rfl (by first | exact hq _ | assumption) (by first | exact hq _ | assumption) (fun b42 => ?_) (fun b42 => ?_)
            ·
              refine G.go hX 2 (apW ct ed q0 q1 q2 q3 q4 q5 q6 q7 q8 q9 q10 q11 q12 q13 q14 q15 q16 q17 q18 q19, 14, [(0, gr 36), (1, gi 0), (2, gi e), (3, gi who), (4, gi (i + 1))], []) rfl trivial ?_
              exact ih14 (i + 1) (by omega) (by intro j h1 h2; by_cases e9 : j = i; (subst e9; omega); exact hno j h1 (by omega)) (by omega)
            ·
              refine G.go hX 1 (apW ct ed q0 q1 q2 q3 q4 q5 q6 q7 q8 q9 q10 q11 q12 q13 q14 q15 q16 q17 q18 q19, 46, [(0, gr 36), (1, gi 0), (2, gi e), (3, gi who), (4, gi i)], [gi 1]) rfl trivial ?_
              exact g_zret hX hE rfl (Or.inr rfl) ⟨(congrArg (fun z => some (gi z)) (gb_t (by exact ⟨b6, i, by omega, by omega, by omega⟩)).symm), rfl⟩
    exact lp14 _ 0 (by omega) (by intro j h1 h2; omega) (Nat.lt_succ_self _)
  ·
    have b6 := gb_nn b6
    refine G.go hX 1 (apW ct ed q0 q1 q2 q3 q4 q5 q6 q7 q8 q9 q10 q11 q12 q13 q14 q15 q16 q17 q18 q19, 10, [(0, gr 36), (1, gi 0), (2, gi e), (3, gi who)], [gi 0]) rfl trivial ?_
    exact g_zret hX hE rfl (Or.inl rfl) ⟨(congrArg (fun z => some (gi z)) (gb_f (by exact fun h9 => b6 h9.1)).symm), rfl⟩
set_option maxHeartbeats 4000000 in
set_option maxRecDepth 100000 in
theorem c_X0_has_1 (l : Launch) (D : va_G) (cA : Nat → ClassId) (ct : Int → Int) (ed : Int → Int) (q0 : Int → Int) (q1 : Int → Int) (q2 : Int → Int) (q3 : Int → Int) (q4 : Int → Int) (q5 : Int → Int) (q6 : Int → Int) (q7 : Int → Int) (q8 : Int → Int) (q9 : Int → Int) (q10 : Int → Int) (q11 : Int → Int) (q12 : Int → Int) (q13 : Int → Int) (q14 : Int → Int) (q15 : Int → Int) (q16 : Int → Int) (q17 : Int → Int) (q18 : Int → Int) (q19 : Int → Int) (e : Int) (who : Int) (hct : ∀ q : Int, 0 ≤ ct q ∧ ct q ≤ 6) (hed : ∀ q : Int, inR (ed q)) (he : inR e) (hq : ∀ j : Int, inR (q1 j)) (hw : inR who) :
    gC l D cA yX0_has mX0_has (some .boolean) 0 0 [gr 36, gi 1, gi e, gi who] (apW ct ed q0 q1 q2 q3 q4 q5 q6 q7 q8 q9 q10 q11 q12 q13 q14 q15 q16 q17 q18 q19) (fun r9 w9 => r9 = some (gi (gb (gLt ct ed 1 e ∧ ∃ j : Int, 0 ≤ j ∧ j < ct 1 ∧ q1 j = who))) ∧ w9 = apW ct ed q0 q1 q2 q3 q4 q5 q6 q7 q8 q9 q10 q11 q12 q13 q14 q15 q16 q17 q18 q19) := by
  refine gC_of rfl kX0_has rfl rfl (Nat.le_of_ble_eq_true rfl) (fun X ad hX hE => ?_)
  refine G.go hX 3 (apW ct ed q0 q1 q2 q3 q4 q5 q6 q7 q8 q9 q10 q11 q12 q13 q14 q15 q16 q17 q18 q19, 3, [(0, gr 36), (1, gi 1), (2, gi e), (3, gi who)], [gi e, gi 1, gr 36]) rfl trivial ?_
  refine G.callV (av := [gi 1, gi e]) (o := 36) (st := []) hX rfl (fun l D cA => c_X0_isLatest l D cA ct ed q0 q1 q2 q3 q4 q5 q6 q7 q8 q9 q10 q11 q12 q13 q14 q15 q16 q17 q18 q19 1 e (by first | assumption | omega) (by first | assumption | omega) (by first | assumption | omega) (by first | assumption | omega)) (by decide +kernel) aX0_isLatest rfl rfl rfl ⟨rfl, rfl⟩ (by decide) (Nat.le_of_ble_eq_true rfl) [0, 1, 2, 3, 4, 5, 6, 7, 8, 9, 10, 11, 12, 13, 14, 15, 16, 17, 18, 19, 20, 21, 22, 23] [] [] rfl rfl rfl (fun r w' hp => ?_)
  obtain ⟨rfl, rfl⟩ := hp
  show G X mX0_has ad 0 0 (apW ct ed q0 q1 q2 q3 q4 q5 q6 q7 q8 q9 q10 q11 q12 q13 q14 q15 q16 q17 q18 q19, 6, [(0, gr 36), (1, gi 1), (2, gi e), (3, gi who)], [gi (gb (gLt ct ed 1 e))])
  refine g_if_ne hX 11 rfl rfl (gb_r _) (fun b6 => ?_) (fun b6 => ?_)
  ·
    have b6 := gb_n0 b6
    refine G.go hX 2 (apW ct ed q0 q1 q2 q3 q4 q5 q6 q7 q8 q9 q10 q11 q12 q13 q14 q15 q16 q17 q18 q19, 14, [(0, gr 36), (1, gi 1), (2, gi e), (3, gi who), (4, gi 0)], []) rfl trivial ?_
    have lp14 : ∀ (n : Nat) (i : Int), (0 ≤ i ∧ i ≤ 6) → (∀ j : Int, 0 ≤ j → j < i → q1 j ≠ who) → (6 - i).toNat < n → G X mX0_has ad 0 0 (apW ct ed q0 q1 q2 q3 q4 q5 q6 q7 q8 q9 q10 q11 q12 q13 q14 q15 q16 q17 q18 q19, 14, [(0, gr 36), (1, gi 1), (2, gi e), (3, gi who), (4, gi i)], []) := by
      intro n
      induction n with
      | zero => intro i hi hno hm9; exact absurd hm9 (Nat.not_lt_zero _)
      | succ n ih14 =>
        intro i hi hno hm14
        refine G.go hX 5 (apW ct ed q0 q1 q2 q3 q4 q5 q6 q7 q8 q9 q10 q11 q12 q13 q14 q15 q16 q17 q18 q19, 22, [(0, gr 36), (1, gi 1), (2, gi e), (3, gi who), (4, gi i)], [gi (ct 1), gi i]) rfl ?_ ?_
        · refine ⟨?_, trivial⟩
          · omega
        refine g_icmp_ge hX 53 rfl rfl ⟨by have := hct 1; omega, by have := hct 1; omega⟩ ⟨by have := hct 1; omega, by have := hct 1; omega⟩ (fun b22 => ?_) (fun b22 => ?_)
        ·
          refine G.go hX 1 (apW ct ed q0 q1 q2 q3 q4 q5 q6 q7 q8 q9 q10 q11 q12 q13 q14 q15 q16 q17 q18 q19, 54, [(0, gr 36), (1, gi 1), (2, gi e), (3, gi who), (4, gi i)], [gi 0]) rfl trivial ?_
          exact g_zret hX hE rfl (Or.inl rfl) ⟨(congrArg (fun z => some (gi z)) (gb_f (by exact fun ⟨_, j, h1, h2, h3⟩ => hno j h1 (by have := hct 1; omega) h3)).symm), rfl⟩
        ·
          refine G.go hX 2 (apW ct ed q0 q1 q2 q3 q4 q5 q6 q7 q8 q9 q10 q11 q12 q13 q14 q15 q16 q17 q18 q19, 29, [(0, gr 36), (1, gi 1), (2, gi e), (3, gi who), (4, gi i)], [gi 6, gi i]) rfl trivial ?_
          refine g_icmp_ge hX 53 rfl rfl ⟨by omega, by omega⟩ ⟨by omega, by omega⟩ (fun b29 => ?_) (fun b29 => ?_)
          ·
            refine G.go hX 1 (apW ct ed q0 q1 q2 q3 q4 q5 q6 q7 q8 q9 q10 q11 q12 q13 q14 q15 q16 q17 q18 q19, 54, [(0, gr 36), (1, gi 1), (2, gi e), (3, gi who), (4, gi i)], [gi 0]) rfl trivial ?_
            exact g_zret hX hE rfl (Or.inl rfl) ⟨(congrArg (fun z => some (gi z)) (gb_f (by exact fun ⟨_, j, h1, h2, h3⟩ => hno j h1 (by have := hct 1; omega) h3)).symm), rfl⟩
          ·
            refine G.go hX 3 (apW ct ed q0 q1 q2 q3 q4 q5 q6 q7 q8 q9 q10 q11 q12 q13 q14 q15 q16 q17 q18 q19, 37, [(0, gr 36), (1, gi 1), (2, gi e), (3, gi who), (4, gi i)], [gi 1, gr 39]) rfl trivial ?_
            refine g_aald hX 41 rfl rfl (by omega) rfl ?_
            refine G.go hX 3 (apW ct ed q0 q1 q2 q3 q4 q5 q6 q7 q8 q9 q10 q11 q12 q13 q14 q15 q16 q17 q18 q19, 42, [(0, gr 36), (1, gi 1), (2, gi e), (3, gi who), (4, gi i)], [gi who, gi (q1 i)]) rfl ?_ ?_
            · refine ⟨?_, trivial⟩
              · omega
            refine g_icmp_ne hX 47 rfl rfl (by first | exact hq _ | assumption) (by first | exact hq _ | assumption) (fun b42 => ?_) (fun b42 => ?_)
            ·
              refine G.go hX 2 (apW ct ed q0 q1 q2 q3 q4 q5 q6 q7 q8 q9 q10 q11 q12 q13 q14 q15 q16 q17 q18 q19, 14, [(0, gr 36), (1, gi 1), (2, gi e), (3, gi who), (4, gi (i + 1))], []) rfl trivial ?_
              exact ih14 (i + 1) (by omega) (by intro j h1 h2; by_cases e9 : j = i; (subst e9; omega); exact hno j h1 (by omega)) (by omega)
            ·
              refine G.go hX 1 (apW ct ed q0 q1 q2 q3 q4 q5 q6 q7 q8 q9 q10 q11 q12 q13 q14 q15 q16 q17 q18 q19, 46, [(0, gr 36), (1, gi 1), (2, gi e), (3, gi who), (4, gi i)], [gi 1]) rfl trivial ?_
              exact g_zret hX hE rfl (Or.inr rfl) ⟨(congrArg (fun z => some (gi z)) (gb_t (by exact ⟨b6, i, by omega, by omega, by omega⟩)).symm), rfl⟩
    exact lp14 _ 0 (by omega) (by intro j h1 h2; omega) (Nat.lt_succ_self _)
  ·
    have b6 := gb_nn b6
    refine G.go hX 1 (apW ct ed q0 q1 q2 q3 q4 q5 q6 q7 q8 q9 q10 q11 q12 q13 q14 q15 q16 q17 q18 q19, 10, [(0, gr 36), (1, gi 1), (2, gi e), (3, gi who)], [gi 0]) rfl trivial ?_
    exact g_zret hX hE rfl (Or.inl rfl) ⟨(congrArg (fun z => some (gi z)) (gb_f (by exact fun h9 => b6 h9.1)).symm), rfl⟩
set_option maxHeartbeats 4000000 in
set_option maxRecDepth 100000 in
theorem c_X0_has_2 (l : Launch) (D : va_G) (cA : Nat → ClassId) (ct : Int → Int) (ed : Int → Int) (q0 : Int → Int) (q1 : Int → Int) (q2 : Int → Int) (q3 : Int → Int) (q4 : Int → Int) (q5 : Int → Int) (q6 : Int → Int) (q7 : Int → Int) (q8 : Int → Int) (q9 : Int → Int) (q10 : Int → Int) (q11 : Int → Int) (q12 : Int → Int) (q13 : Int → Int) (q14 : Int → Int) (q15 : Int → Int) (q16 : Int → Int) (q17 : Int → Int) (q18 : Int → Int) (q19 : Int → Int) (e : Int) (who : Int) (hct : ∀ q : Int, 0 ≤ ct q ∧ ct q ≤ 6) (hed : ∀ q : Int, inR (ed q)) (he : inR e) (hq : ∀ j : Int, inR (q2 j)) (hw : inR who) :
    gC l D cA yX0_has mX0_has (some .boolean) 0 0 [gr 36, gi 2, gi e, gi who] (apW ct ed q0 q1 q2 q3 q4 q5 q6 q7 q8 q9 q10 q11 q12 q13 q14 q15 q16 q17 q18 q19) (fun r9 w9 => r9 = some (gi (gb (gLt ct ed 2 e ∧ ∃ j : Int, 0 ≤ j ∧ j < ct 2 ∧ q2 j = who))) ∧ w9 = apW ct ed q0 q1 q2 q3 q4 q5 q6 q7 q8 q9 q10 q11 q12 q13 q14 q15 q16 q17 q18 q19) := by
  refine gC_of rfl kX0_has rfl rfl (Nat.le_of_ble_eq_true rfl) (fun X ad hX hE => ?_)
  refine G.go hX 3 (apW ct ed q0 q1 q2 q3 q4 q5 q6 q7 q8 q9 q10 q11 q12 q13 q14 q15 q16 q17 q18 q19, 3, [(0, gr 36), (1, gi 2), (2, gi e), (3, gi who)], [gi e, gi 2, gr 36]) rfl trivial ?_
  refine G.callV (av := [gi 2, gi e]) (o := 36) (st := []) hX rfl (fun l D cA => c_X0_isLatest l D cA ct ed q0 q1 q2 q3 q4 q5 q6 q7 q8 q9 q10 q11 q12 q13 q14 q15 q16 q17 q18 q19 2 e (by first | assumption | omega) (by first | assumption | omega) (by first | assumption | omega) (by first | assumption | omega)) (by decide +kernel) aX0_isLatest rfl rfl rfl ⟨rfl, rfl⟩ (by decide) (Nat.le_of_ble_eq_true rfl) [0, 1, 2, 3, 4, 5, 6, 7, 8, 9, 10, 11, 12, 13, 14, 15, 16, 17, 18, 19, 20, 21, 22, 23] [] [] rfl rfl rfl (fun r w' hp => ?_)
  obtain ⟨rfl, rfl⟩ := hp
  show G X mX0_has ad 0 0 (apW ct ed q0 q1 q2 q3 q4 q5 q6 q7 q8 q9 q10 q11 q12 q13 q14 q15 q16 q17 q18 q19, 6, [(0, gr 36), (1, gi 2), (2, gi e), (3, gi who)], [gi (gb (gLt ct ed 2 e))])
  refine g_if_ne hX 11 rfl rfl (gb_r _) (fun b6 => ?_) (fun b6 => ?_)
  ·
    have b6 := gb_n0 b6
    refine G.go hX 2 (apW ct ed q0 q1 q2 q3 q4 q5 q6 q7 q8 q9 q10 q11 q12 q13 q14 q15 q16 q17 q18 q19, 14, [(0, gr 36), (1, gi 2), (2, gi e), (3, gi who), (4, gi 0)], []) rfl trivial ?_
    have lp14 : ∀ (n : Nat) (i : Int), (0 ≤ i ∧ i ≤ 6) → (∀ j : Int, 0 ≤ j → j < i → q2 j ≠ who) → (6 - i).toNat < n → G X mX0_has ad 0 0 (apW ct ed q0 q1 q2 q3 q4 q5 q6 q7 q8 q9 q10 q11 q12 q13 q14 q15 q16 q17 q18 q19, 14, [(0, gr 36), (1, gi 2), (2, gi e), (3, gi who), (4, gi i)], []) := by
      intro n
      induction n with
      | zero => intro i hi hno hm9; exact absurd hm9 (Nat.not_lt_zero _)
      | succ n ih14 =>
        intro i hi hno hm14
        refine G.go hX 5 (apW ct ed q0 q1 q2 q3 q4 q5 q6 q7 q8 q9 q10 q11 q12 q13 q14 q15 q16 q17 q18 q19, 22, [(0, gr 36), (1, gi 2), (2, gi e), (3, gi who), (4, gi i)], [gi (ct 2), gi i]) rfl ?_ ?_
        · refine ⟨?_, trivial⟩
          · omega
        refine g_icmp_ge hX 53 rfl rfl ⟨by have := hct 2; omega, by have := hct 2; omega⟩ ⟨by have := hct 2; omega, by have := hct 2; omega⟩ (fun b22 => ?_) (fun b22 => ?_)
        ·
          refine G.go hX 1 (apW ct ed q0 q1 q2 q3 q4 q5 q6 q7 q8 q9 q10 q11 q12 q13 q14 q15 q16 q17 q18 q19, 54, [(0, gr 36), (1, gi 2), (2, gi e), (3, gi who), (4, gi i)], [gi 0]) rfl trivial ?_
          exact g_zret hX hE rfl (Or.inl rfl) ⟨(congrArg (fun z => some (gi z)) (gb_f (by exact fun ⟨_, j, h1, h2, h3⟩ => hno j h1 (by have := hct 2; omega) h3)).symm), rfl⟩
        ·
          refine G.go hX 2 (apW ct ed q0 q1 q2 q3 q4 q5 q6 q7 q8 q9 q10 q11 q12 q13 q14 q15 q16 q17 q18 q19, 29, [(0, gr 36), (1, gi 2), (2, gi e), (3, gi who), (4, gi i)], [gi 6, gi i]) rfl trivial ?_
          refine g_icmp_ge hX 53 rfl rfl ⟨by omega, by omega⟩ ⟨by omega, by omega⟩ (fun b29 => ?_) (fun b29 => ?_)
          ·
            refine G.go hX 1 (apW ct ed q0 q1 q2 q3 q4 q5 q6 q7 q8 q9 q10 q11 q12 q13 q14 q15 q16 q17 q18 q19, 54, [(0, gr 36), (1, gi 2), (2, gi e), (3, gi who), (4, gi i)], [gi 0]) rfl trivial ?_
            exact g_zret hX hE rfl (Or.inl rfl) ⟨(congrArg (fun z => some (gi z)) (gb_f (by exact fun ⟨_, j, h1, h2, h3⟩ => hno j h1 (by have := hct 2; omega) h3)).symm), rfl⟩
          ·
            refine G.go hX 3 (apW ct ed q0 q1 q2 q3 q4 q5 q6 q7 q8 q9 q10 q11 q12 q13 q14 q15 q16 q17 q18 q19, 37, [(0, gr 36), (1, gi 2), (2, gi e), (3, gi who), (4, gi i)], [gi 2, gr 39]) rfl trivial ?_
            refine g_aald hX 42 rfl rfl (by omega) rfl ?_
            refine G.go hX 3 (apW ct ed q0 q1 q2 q3 q4 q5 q6 q7 q8 q9 q10 q11 q12 q13 q14 q15 q16 q17 q18 q19, 42, [(0, gr 36), (1, gi 2), (2, gi e), (3, gi who), (4, gi i)], [gi who, gi (q2 i)]) rfl ?_ ?_
            · refine ⟨?_, trivial⟩
              · omega
            refine g_icmp_ne hX 47 rfl rfl (by first | exact hq _ | assumption) (by first | exact hq _ | assumption) (fun b42 => ?_) (fun b42 => ?_)
            ·
              refine G.go hX 2 (apW ct ed q0 q1 q2 q3 q4 q5 q6 q7 q8 q9 q10 q11 q12 q13 q14 q15 q16 q17 q18 q19, 14, [(0, gr 36), (1, gi 2), (2, gi e), (3, gi who), (4, gi (i + 1))], []) rfl trivial ?_
              exact ih14 (i + 1) (by omega) (by intro j h1 h2; by_cases e9 : j = i; (subst e9; omega); exact hno j h1 (by omega)) (by omega)
            ·
              refine G.go hX 1 (apW ct ed q0 q1 q2 q3 q4 q5 q6 q7 q8 q9 q10 q11 q12 q13 q14 q15 q16 q17 q18 q19, 46, [(0, gr 36), (1, gi 2), (2, gi e), (3, gi who), (4, gi i)], [gi 1]) rfl trivial ?_
              exact g_zret hX hE rfl (Or.inr rfl) ⟨(congrArg (fun z => some (gi z)) (gb_t (by exact ⟨b6, i, by omega, by omega, by omega⟩)).symm), rfl⟩
    exact lp14 _ 0 (by omega) (by intro j h1 h2; omega) (Nat.lt_succ_self _)
  ·
    have b6 := gb_nn b6
    refine G.go hX 1 (apW ct ed q0 q1 q2 q3 q4 q5 q6 q7 q8 q9 q10 q11 q12 q13 q14 q15 q16 q17 q18 q19, 10, [(0, gr 36), (1, gi 2), (2, gi e), (3, gi who)], [gi 0]) rfl trivial ?_
    exact g_zret hX hE rfl (Or.inl rfl) ⟨(congrArg (fun z => some (gi z)) (gb_f (by exact fun h9 => b6 h9.1)).symm), rfl⟩
set_option maxHeartbeats 4000000 in
set_option maxRecDepth 100000 in
theorem c_X0_has_3 (l : Launch) (D : va_G) (cA : Nat → ClassId) (ct : Int → Int) (ed : Int → Int) (q0 : Int → Int) (q1 : Int → Int) (q2 : Int → Int) (q3 : Int → Int) (q4 : Int → Int) (q5 : Int → Int) (q6 : Int → Int) (q7 : Int → Int) (q8 : Int → Int) (q9 : Int → Int) (q10 : Int → Int) (q11 : Int → Int) (q12 : Int → Int) (q13 : Int → Int) (q14 : Int → Int) (q15 : Int → Int) (q16 : Int → Int) (q17 : Int → Int) (q18 : Int → Int) (q19 : Int → Int) (e : Int) (who : Int) (hct : ∀ q : Int, 0 ≤ ct q ∧ ct q ≤ 6) (hed : ∀ q : Int, inR (ed q)) (he : inR e) (hq : ∀ j : Int, inR (q3 j)) (hw : inR who) :
    gC l D cA yX0_has mX0_has (some .boolean) 0 0 [gr 36, gi 3, gi e, gi who] (apW ct ed q0 q1 q2 q3 q4 q5 q6 q7 q8 q9 q10 q11 q12 q13 q14 q15 q16 q17 q18 q19) (fun r9 w9 => r9 = some (gi (gb (gLt ct ed 3 e ∧ ∃ j : Int, 0 ≤ j ∧ j < ct 3 ∧ q3 j = who))) ∧ w9 = apW ct ed q0 q1 q2 q3 q4 q5 q6 q7 q8 q9 q10 q11 q12 q13 q14 q15 q16 q17 q18 q19) := by
  refine gC_of rfl kX0_has rfl rfl (Nat.le_of_ble_eq_true rfl) (fun X ad hX hE => ?_)
  refine G.go hX 3 (apW ct ed q0 q1 q2 q3 q4 q5 q6 q7 q8 q9 q10 q11 q12 q13 q14 q15 q16 q17 q18 q19, 3, [(0, gr 36), (1, gi 3), (2, gi e), (3, gi who)], [gi e, gi 3, gr 36]) rfl trivial ?_
  refine G.callV (av := [gi 3, gi e]) (o := 36) (st := []) hX rfl (fun l D cA => c_X0_isLatest l D cA ct ed q0 q1 q2 q3 q4 q5 q6 q7 q8 q9 q10 q11 q12 q13 q14 q15 q16 q17 q18 q19 3 e (by first | assumption | omega) (by first | assumption | omega) (by first | assumption | omega) (by first | assumption | omega)) (by decide +kernel) aX0_isLatest rfl rfl rfl ⟨rfl, rfl⟩ (by decide) (Nat.le_of_ble_eq_true rfl) [0, 1, 2, 3, 4, 5, 6, 7, 8, 9, 10, 11, 12, 13, 14, 15, 16, 17, 18, 19, 20, 21, 22, 23] [] [] rfl rfl rfl (fun r w' hp => ?_)
  obtain ⟨rfl, rfl⟩ := hp
  show G X mX0_has ad 0 0 (apW ct ed q0 q1 q2 q3 q4 q5 q6 q7 q8 q9 q10 q11 q12 q13 q14 q15 q16 q17 q18 q19, 6, [(0, gr 36), (1, gi 3), (2, gi e), (3, gi who)], [gi (gb (gLt ct ed 3 e))])
  refine g_if_ne hX 11 rfl rfl (gb_r _) (fun b6 => ?_) (fun b6 => ?_)
  ·
    have b6 := gb_n0 b6
    refine G.go hX 2 (apW ct ed q0 q1 q2 q3 q4 q5 q6 q7 q8 q9 q10 q11 q12 q13 q14 q15 q16 q17 q18 q19, 14, [(0, gr 36), (1, gi 3), (2, gi e), (3, gi who), (4, gi 0)], []) rfl trivial ?_
    have lp14 : ∀ (n : Nat) (i : Int), (0 ≤ i ∧ i ≤ 6) → (∀ j : Int, 0 ≤ j → j < i → q3 j ≠ who) → (6 - i).toNat < n → G X mX0_has ad 0 0 (apW ct ed q0 q1 q2 q3 q4 q5 q6 q7 q8 q9 q10 q11 q12 q13 q14 q15 q16 q17 q18 q19, 14, [(0, gr 36), (1, gi 3), (2, gi e), (3, gi who), (4, gi i)], []) := by
      intro n
      induction n with
      | zero => intro i hi hno hm9; exact absurd hm9 (Nat.not_lt_zero _)
      | succ n ih14 =>
        intro i hi hno hm14
        refine G.go hX 5 (apW ct ed q0 q1 q2 q3 q4 q5 q6 q7 q8 q9 q10 q11 q12 q13 q14 q15 q16 q17 q18 q19, 22, [(0, gr 36), (1, gi 3), (2, gi e), (3, gi who), (4, gi i)], [gi (ct 3), gi i]) rfl ?_ ?_
        · refine ⟨?_, trivial⟩
          · omega
        refine g_icmp_ge hX 53 rfl rfl ⟨by have := hct 3; omega, by have := hct 3; omega⟩ ⟨by have := hct 3; omega, by have := hct 3; omega⟩ (fun b22 => ?_) (fun b22 => ?_)
        ·
          refine G.go hX 1 (apW ct ed q0 q1 q2 q3 q4 q5 q6 q7 q8 q9 q10 q11 q12 q13 q14 q15 q16 q17 q18 q19, 54, [(0, gr 36), (1, gi 3), (2, gi e), (3, gi who), (4, gi i)], [gi 0]) rfl trivial ?_
          exact g_zret hX hE rfl (Or.inl rfl) ⟨(congrArg (fun z => some (gi z)) (gb_f (by exact fun ⟨_, j, h1, h2, h3⟩ => hno j h1 (by have := hct 3; omega) h3)).symm), rfl⟩
        ·
          refine G.go hX 2 (apW ct ed q0 q1 q2 q3 q4 q5 q6 q7 q8 q9 q10 q11 q12 q13 q14 q15 q16 q17 q18 q19, 29, [(0, gr 36), (1, gi 3), (2, gi e), (3, gi who), (4, gi i)], [gi 6, gi i]) rfl trivial ?_
          refine g_icmp_ge hX 53 rfl rfl ⟨by omega, by omega⟩ ⟨by omega, by omega⟩ (fun b29 => ?_) (fun b29 => ?_)
          ·
            refine G.go hX 1 (apW ct ed q0 q1 q2 q3 q4 q5 q6 q7 q8 q9 q10 q11 q12 q13 q14 q15 q16 q17 q18 q19, 54, [(0, gr 36), (1, gi 3), (2, gi e), (3, gi who), (4, gi i)], [gi 0]) rfl trivial ?_
            exact g_zret hX hE rfl (Or.inl rfl) ⟨(congrArg (fun z => some (gi z)) (gb_f (by exact fun ⟨_, j, h1, h2, h3⟩ => hno j h1 (by have := hct 3; omega) h3)).symm), rfl⟩
          ·
            refine G.go hX 3 (apW ct ed q0 q1 q2 q3 q4 q5 q6 q7 q8 q9 q10 q11 q12 q13 q14 q15 q16 q17 q18 q19, 37, [(0, gr 36), (1, gi 3), (2, gi e), (3, gi who), (4, gi i)], [gi 3, gr 39]) rfl trivial ?_
            refine g_aald hX 43 rfl rfl (by omega) rfl ?_
            refine G.go hX 3 (apW ct ed q0 q1 q2 q3 q4 q5 q6 q7 q8 q9 q10 q11 q12 q13 q14 q15 q16 q17 q18 q19, 42, [(0, gr 36), (1, gi 3), (2, gi e), (3, gi who), (4, gi i)], [gi who, gi (q3 i)]) rfl ?_ ?_
            · refine ⟨?_, trivial⟩
              · omega
            refine g_icmp_ne hX 47 rfl rfl (by first | exact hq _ | assumption) (by first | exact hq _ | assumption) (fun b42 => ?_) (fun b42 => ?_)
            ·
              refine G.go hX 2 (apW ct ed q0 q1 q2 q3 q4 q5 q6 q7 q8 q9 q10 q11 q12 q13 q14 q15 q16 q17 q18 q19, 14, [(0, gr 36), (1, gi 3), (2, gi e), (3, gi who), (4, gi (i + 1))], []) rfl trivial ?_
              exact ih14 (i + 1) (by omega) (by intro j h1 h2; by_cases e9 : j = i; (subst e9; omega); exact hno j h1 (by omega)) (by omega)
            ·
              refine G.go hX 1 (apW ct ed q0 q1 q2 q3 q4 q5 q6 q7 q8 q9 q10 q11 q12 q13 q14 q15 q16 q17 q18 q19, 46, [(0, gr 36), (1, gi 3), (2, gi e), (3, gi who), (4, gi i)], [gi 1]) rfl trivial ?_
              exact g_zret hX hE rfl (Or.inr rfl) ⟨(congrArg (fun z => some (gi z)) (gb_t (by exact ⟨b6, i, by omega, by omega, by omega⟩)).symm), rfl⟩
    exact lp14 _ 0 (by omega) (by intro j h1 h2; omega) (Nat.lt_succ_self _)
  ·
    have b6 := gb_nn b6
    refine G.go hX 1 (apW ct ed q0 q1 q2 q3 q4 q5 q6 q7 q8 q9 q10 q11 q12 q13 q14 q15 q16 q17 q18 q19, 10, [(0, gr 36), (1, gi 3), (2, gi e), (3, gi who)], [gi 0]) rfl trivial ?_
    exact g_zret hX hE rfl (Or.inl rfl) ⟨(congrArg (fun z => some (gi z)) (gb_f (by exact fun h9 => b6 h9.1)).symm), rfl⟩
set_option maxHeartbeats 4000000 in
set_option maxRecDepth 100000 in
theorem c_X0_has_4 (l : Launch) (D : va_G) (cA : Nat → ClassId) (ct : Int → Int) (ed : Int → Int) (q0 : Int → Int) (q1 : Int → Int) (q2 : Int → Int) (q3 : Int → Int) (q4 : Int → Int) (q5 : Int → Int) (q6 : Int → Int) (q7 : Int → Int) (q8 : Int → Int) (q9 : Int → Int) (q10 : Int → Int) (q11 : Int → Int) (q12 : Int → Int) (q13 : Int → Int) (q14 : Int → Int) (q15 : Int → Int) (q16 : Int → Int) (q17 : Int → Int) (q18 : Int → Int) (q19 : Int → Int) (e : Int) (who : Int) (hct : ∀ q : Int, 0 ≤ ct q ∧ ct q ≤ 6) (hed : ∀ q : Int, inR (ed q)) (he : inR e) (hq : ∀ j : Int, inR (q4 j)) (hw : inR who) :
    gC l D cA yX0_has mX0_has (some .boolean) 0 0 [gr 36, gi 4, gi e, gi who] (apW ct ed q0 q1 q2 q3 q4 q5 q6 q7 q8 q9 q10 q11 q12 q13 q14 q15 q16 q17 q18 q19) (fun r9 w9 => r9 = some (gi (gb (gLt ct ed 4 e ∧ ∃ j : Int, 0 ≤ j ∧ j < ct 4 ∧ q4 j = who))) ∧ w9 = apW ct ed q0 q1 q2 q3 q4 q5 q6 q7 q8 q9 q10 q11 q12 q13 q14 q15 q16 q17 q18 q19) := by
  refine gC_of rfl kX0_has rfl rfl (Nat.le_of_ble_eq_true rfl) (fun X ad hX hE => ?_)
  refine G.go hX 3 (apW ct ed q0 q1 q2 q3 q4 q5 q6 q7 q8 q9 q10 q11 q12 q13 q14 q15 q16 q17 q18 q19, 3, [(0, gr 36), (1, gi 4), (2, gi e), (3, gi who)], [gi e, gi 4, gr 36]) rfl trivial ?_
  refine G.callV (av := [gi 4, gi e]) (o := 36) (st := []) hX rfl (fun l D cA => c_X0_isLatest l D cA ct ed q0 q1 q2 q3 q4 q5 q6 q7 q8 q9 q10 q11 q12 q13 q14 q15 q16 q17 q18 q19 4 e (by first | assumption | omega) (by first | assumption | omega) (by first | assumption | omega) (by first | assumption | omega)) (by decide +kernel) aX0_isLatest rfl rfl rfl ⟨rfl, rfl⟩ (by decide) (Nat.le_of_ble_eq_true rfl) [0, 1, 2, 3, 4, 5, 6, 7, 8, 9, 10, 11, 12, 13, 14, 15, 16, 17, 18, 19, 20, 21, 22, 23] [] [] rfl rfl rfl (fun r w' hp => ?_)
  obtain ⟨rfl, rfl⟩ := hp
  show G X mX0_has ad 0 0 (apW ct ed q0 q1 q2 q3 q4 q5 q6 q7 q8 q9 q10 q11 q12 q13 q14 q15 q16 q17 q18 q19, 6, [(0, gr 36), (1, gi 4), (2, gi e), (3, gi who)], [gi (gb (gLt ct ed 4 e))])
  refine g_if_ne hX 11 rfl rfl (gb_r _) (fun b6 => ?_) (fun b6 => ?_)
  ·
    have b6 := gb_n0 b6
    refine G.go hX 2 (apW ct ed q0 q1 q2 q3 q4 q5 q6 q7 q8 q9 q10 q11 q12 q13 q14 q15 q16 q17 q18 q19, 14, [(0, gr 36), (1, gi 4), (2, gi e), (3, gi who), (4, gi 0)], []) rfl trivial ?_
    have lp14 : ∀ (n : Nat) (i : Int), (0 ≤ i ∧ i ≤ 6) → (∀ j : Int, 0 ≤ j → j < i → q4 j ≠ who) → (6 - i).toNat < n → G X mX0_has ad 0 0 (apW ct ed q0 q1 q2 q3 q4 q5 q6 q7 q8 q9 q10 q11 q12 q13 q14 q15 q16 q17 q18 q19, 14, [(0, gr 36), (1, gi 4), (2, gi e), (3, gi who), (4, gi i)], []) := by
      intro n
      induction n with
      | zero => intro i hi hno hm9; exact absurd hm9 (Nat.not_lt_zero _)
      | succ n ih14 =>
        intro i hi hno hm14
        refine G.go hX 5 (apW ct ed q0 q1 q2 q3 q4 q5 q6 q7 q8 q9 q10 q11 q12 q13 q14 q15 q16 q17 q18 q19, 22, [(0, gr 36), (1, gi 4), (2, gi e), (3, gi who), (4, gi i)], [gi (ct 4), gi i]) rfl ?_ ?_
        · refine ⟨?_, trivial⟩
          · omega
        refine g_icmp_ge hX 53 rfl rfl ⟨by have := hct 4; omega, by have := hct 4; omega⟩ ⟨by have := hct 4; omega, by have := hct 4; omega⟩ (fun b22 => ?_) (fun b22 => ?_)
        ·
          refine G.go hX 1 (apW ct ed q0 q1 q2 q3 q4 q5 q6 q7 q8 q9 q10 q11 q12 q13 q14 q15 q16 q17 q18 q19, 54, [(0, gr 36), (1, gi 4), (2, gi e), (3, gi who), (4, gi i)], [gi 0]) rfl trivial ?_
          exact g_zret hX hE rfl (Or.inl rfl) ⟨(congrArg (fun z => some (gi z)) (gb_f (by exact fun ⟨_, j, h1, h2, h3⟩ => hno j h1 (by have := hct 4; omega) h3)).symm), rfl⟩
        ·
          refine G.go hX 2 (apW ct ed q0 q1 q2 q3 q4 q5 q6 q7 q8 q9 q10 q11 q12 q13 q14 q15 q16 q17 q18 q19, 29, [(0, gr 36), (1, gi 4), (2, gi e), (3, gi who), (4, gi i)], [gi 6, gi i]) rfl trivial ?_
          refine g_icmp_ge hX 53 rfl rfl ⟨by omega, by omega⟩ ⟨by omega, by omega⟩ (fun b29 => ?_) (fun b29 => ?_)
          ·
            refine G.go hX 1 (apW ct ed q0 q1 q2 q3 q4 q5 q6 q7 q8 q9 q10 q11 q12 q13 q14 q15 q16 q17 q18 q19, 54, [(0, gr 36), (1, gi 4), (2, gi e), (3, gi who), (4, gi i)], [gi 0]) rfl trivial ?_
            exact g_zret hX hE rfl (Or.inl rfl) ⟨(congrArg (fun z => some (gi z)) (gb_f (by exact fun ⟨_, j, h1, h2, h3⟩ => hno j h1 (by have := hct 4; omega) h3)).symm), rfl⟩
          ·
            refine G.go hX 3 (apW ct ed q0 q1 q2 q3 q4 q5 q6 q7 q8 q9 q10 q11 q12 q13 q14 q15 q16 q17 q18 q19, 37, [(0, gr 36), (1, gi 4), (2, gi e), (3, gi who), (4, gi i)], [gi 4, gr 39]) rfl trivial ?_
            refine g_aald hX 44 rfl rfl (by omega) rfl ?_
            refine G.go hX 3 (apW ct ed q0 q1 q2 q3 q4 q5 q6 q7 q8 q9 q10 q11 q12 q13 q14 q15 q16 q17 q18 q19, 42, [(0, gr 36), (1, gi 4), (2, gi e), (3, gi who), (4, gi i)], [gi who, gi (q4 i)]) rfl ?_ ?_
            · refine ⟨?_, trivial⟩
              · omega
            refine g_icmp_ne hX 47 rfl rfl (by first | exact hq _ | assumption) (by first | exact hq _ | assumption) (fun b42 => ?_) (fun b42 => ?_)
            ·
              refine G.go hX 2 (apW ct ed q0 q1 q2 q3 q4 q5 q6 q7 q8 q9 q10 q11 q12 q13 q14 q15 q16 q17 q18 q19, 14, [(0, gr 36), (1, gi 4), (2, gi e), (3, gi who), (4, gi (i + 1))], []) rfl trivial ?_
              exact ih14 (i + 1) (by omega) (by intro j h1 h2; by_cases e9 : j = i; (subst e9; omega); exact hno j h1 (by omega)) (by omega)
            ·
              refine G.go hX 1 (apW ct ed q0 q1 q2 q3 q4 q5 q6 q7 q8 q9 q10 q11 q12 q13 q14 q15 q16 q17 q18 q19, 46, [(0, gr 36), (1, gi 4), (2, gi e), (3, gi who), (4, gi i)], [gi 1]) rfl trivial ?_
              exact g_zret hX hE rfl (Or.inr rfl) ⟨(congrArg (fun z => some (gi z)) (gb_t (by exact ⟨b6, i, by omega, by omega, by omega⟩)).symm), rfl⟩
    exact lp14 _ 0 (by omega) (by intro j h1 h2; omega) (Nat.lt_succ_self _)
  ·
    have b6 := gb_nn b6
    refine G.go hX 1 (apW ct ed q0 q1 q2 q3 q4 q5 q6 q7 q8 q9 q10 q11 q12 q13 q14 q15 q16 q17 q18 q19, 10, [(0, gr 36), (1, gi 4), (2, gi e), (3, gi who)], [gi 0]) rfl trivial ?_
    exact g_zret hX hE rfl (Or.inl rfl) ⟨(congrArg (fun z => some (gi z)) (gb_f (by exact fun h9 => b6 h9.1)).symm), rfl⟩
set_option maxHeartbeats 4000000 in
set_option maxRecDepth 100000 in
theorem c_X0_has_5 (l : Launch) (D : va_G) (cA : Nat → ClassId) (ct : Int → Int) (ed : Int → Int) (q0 : Int → Int) (q1 : Int → Int) (q2 : Int → Int) (q3 : Int → Int) (q4 : Int → Int) (q5 : Int → Int) (q6 : Int → Int) (q7 : Int → Int) (q8 : Int → Int) (q9 : Int → Int) (q10 : Int → Int) (q11 : Int → Int) (q12 : Int → Int) (q13 : Int → Int) (q14 : Int → Int) (q15 : Int → Int) (q16 : Int → Int) (q17 : Int → Int) (q18 : Int → Int) (q19 : Int → Int) (e : Int) (who : Int) (hct : ∀ q : Int, 0 ≤ ct q ∧ ct q ≤ 6) (hed : ∀ q : Int, inR (ed q)) (he : inR e) (hq : ∀ j : Int, inR (q5 j)) (hw : inR who) :
    gC l D cA yX0_has mX0_has (some .boolean) 0 0 [gr 36, gi 5, gi e, gi who] (apW ct ed q0 q1 q2 q3 q4 q5 q6 q7 q8 q9 q10 q11 q12 q13 q14 q15 q16 q17 q18 q19) (fun r9 w9 => r9 = some (gi (gb (gLt ct ed 5 e ∧ ∃ j : Int, 0 ≤ j ∧ j < ct 5 ∧ q5 j = who))) ∧ w9 = apW ct ed q0 q1 q2 q3 q4 q5 q6 q7 q8 q9 q10 q11 q12 q13 q14 q15 q16 q17 q18 q19) := by
  refine gC_of rfl kX0_has rfl rfl (Nat.le_of_ble_eq_true rfl) (fun X ad hX hE => ?_)
  refine G.go hX 3 (apW ct ed q0 q1 q2 q3 q4 q5 q6 q7 q8 q9 q10 q11 q12 q13 q14 q15 q16 q17 q18 q19, 3, [(0, gr 36), (1, gi 5), (2, gi e), (3, gi who)], [gi e, gi 5, gr 36]) rfl trivial ?_
  refine G.callV (av := [gi 5, gi e]) (o := 36) (st := []) hX rfl (fun l D cA => c_X0_isLatest l D cA ct ed q0 q1 q2 q3 q4 q5 q6 q7 q8 q9 q10 q11 q12 q13 q14 q15 q16 q17 q18 q19 5 e (by first | assumption | omega) (by first | assumption | omega) (by first | assumption | omega) (by first | assumption | omega)) (by decide +kernel) aX0_isLatest rfl rfl rfl ⟨rfl, rfl⟩ (by decide) (Nat.le_of_ble_eq_true rfl) [0, 1, 2, 3, 4, 5, 6, 7, 8, 9, 10, 11, 12, 13, 14, 15, 16, 17, 18, 19, 20, 21, 22, 23] [] [] rfl rfl rfl (fun r w' hp => ?_)
  obtain ⟨rfl, rfl⟩ := hp
  show G X mX0_has ad 0 0 (apW ct ed q0 q1 q2 q3 q4 q5 q6 q7 q8 q9 q10 q11 q12 q13 q14 q15 q16 q17 q18 q19, 6, [(0, gr 36), (1, gi 5), (2, gi e), (3, gi who)], [gi (gb (gLt ct ed 5 e))])
  refine g_if_ne hX 11 rfl rfl (gb_r _) (fun b6 => ?_) (fun b6 => ?_)
  ·
    have b6 := gb_n0 b6
    refine G.go hX 2 (apW ct ed q0 q1 q2 q3 q4 q5 q6 q7 q8 q9 q10 q11 q12 q13 q14 q15 q16 q17 q18 q19, 14, [(0, gr 36), (1, gi 5), (2, gi e), (3, gi who), (4, gi 0)], []) rfl trivial ?_
    have lp14 : ∀ (n : Nat) (i : Int), (0 ≤ i ∧ i ≤ 6) → (∀ j : Int, 0 ≤ j → j < i → q5 j ≠ who) → (6 - i).toNat < n → G X mX0_has ad 0 0 (apW ct ed q0 q1 q2 q3 q4 q5 q6 q7 q8 q9 q10 q11 q12 q13 q14 q15 q16 q17 q18 q19, 14, [(0, gr 36), (1, gi 5), (2, gi e), (3, gi who), (4, gi i)], []) := by
      intro n
      induction n with
      | zero => intro i hi hno hm9; exact absurd hm9 (Nat.not_lt_zero _)
      | succ n ih14 =>
        intro i hi hno hm14
        refine G.go hX 5 (apW ct ed q0 q1 q2 q3 q4 q5 q6 q7 q8 q9 q10 q11 q12 q13 q14 q15 q16 q17 q18 q19, 22, [(0, gr 36), (1, gi 5), (2, gi e), (3, gi who), (4, gi i)], [gi (ct 5), gi i]) rfl ?_ ?_
        · refine ⟨?_, trivial⟩
          · omega
        refine g_icmp_ge hX 53 rfl rfl ⟨by have := hct 5; omega, by have := hct 5; omega⟩ ⟨by have := hct 5; omega, by have := hct 5; omega⟩ (fun b22 => ?_) (fun b22 => ?_)
        ·
          refine G.go hX 1 (apW ct ed q0 q1 q2 q3 q4 q5 q6 q7 q8 q9 q10 q11 q12 q13 q14 q15 q16 q17 q18 q19, 54, [(0, gr 36), (1, gi 5), (2, gi e), (3, gi who), (4, gi i)], [gi 0]) rfl trivial ?_
          exact g_zret hX hE rfl (Or.inl rfl) ⟨(congrArg (fun z => some (gi z)) (gb_f (by exact fun ⟨_, j, h1, h2, h3⟩ => hno j h1 (by have := hct 5; omega) h3)).symm), rfl⟩
        ·
          refine G.go hX 2 (apW ct ed q0 q1 q2 q3 q4 q5 q6 q7 q8 q9 q10 q11 q12 q13 q14 q15 q16 q17 q18 q19, 29, [(0, gr 36), (1, gi 5), (2, gi e), (3, gi who), (4, gi i)], [gi 6, gi i]) rfl trivial ?_
          refine g_icmp_ge hX 53 rfl rfl ⟨by omega, by omega⟩ ⟨by omega, by omega⟩ (fun b29 => ?_) (fun b29 => ?_)
          ·
            refine G.go hX 1 (apW ct ed q0 q1 q2 q3 q4 q5 q6 q7 q8 q9 q10 q11 q12 q13 q14 q15 q16 q17 q18 q19, 54, [(0, gr 36), (1, gi 5), (2, gi e), (3, gi who), (4, gi i)], [gi 0]) rfl trivial ?_
            exact g_zret hX hE rfl (Or.inl rfl) ⟨(congrArg (fun z => some (gi z)) (gb_f (by exact fun ⟨_, j, h1, h2, h3⟩ => hno j h1 (by have := hct 5; omega) h3)).symm), rfl⟩
          ·
            refine G.go hX 3 (apW ct ed q0 q1 q2 q3 q4 q5 q6 q7 q8 q9 q10 q11 q12 q13 q14 q15 q16 q17 q18 q19, 37, [(0, gr 36), (1, gi 5), (2, gi e), (3, gi who), (4, gi i)], [gi 5, gr 39]) rfl trivial ?_
            refine g_aald hX 45 rfl rfl (by omega) rfl ?_
            refine G.go hX 3 (apW ct ed q0 q1 q2 q3 q4 q5 q6 q7 q8 q9 q10 q11 q12 q13 q14 q15 q16 q17 q18 q19, 42, [(0, gr 36), (1, gi 5), (2, gi e), (3, gi who), (4, gi i)], [gi who, gi (q5 i)]) rfl ?_ ?_
            · refine ⟨?_, trivial⟩
              · omega
            refine g_icmp_ne hX 47 rfl rfl (by first | exact hq _ | assumption) (by first | exact hq _ | assumption) (fun b42 => ?_) (fun b42 => ?_)
            ·
              refine G.go hX 2 (apW ct ed q0 q1 q2 q3 q4 q5 q6 q7 q8 q9 q10 q11 q12 q13 q14 q15 q16 q17 q18 q19, 14, [(0, gr 36), (1, gi 5), (2, gi e), (3, gi who), (4, gi (i + 1))], []) rfl trivial ?_
              exact ih14 (i + 1) (by omega) (by intro j h1 h2; by_cases e9 : j = i; (subst e9; omega); exact hno j h1 (by omega)) (by omega)
            ·
              refine G.go hX 1 (apW ct ed q0 q1 q2 q3 q4 q5 q6 q7 q8 q9 q10 q11 q12 q13 q14 q15 q16 q17 q18 q19, 46, [(0, gr 36), (1, gi 5), (2, gi e), (3, gi who), (4, gi i)], [gi 1]) rfl trivial ?_
              exact g_zret hX hE rfl (Or.inr rfl) ⟨(congrArg (fun z => some (gi z)) (gb_t (by exact ⟨b6, i, by omega, by omega, by omega⟩)).symm), rfl⟩
    exact lp14 _ 0 (by omega) (by intro j h1 h2; omega) (Nat.lt_succ_self _)
  ·
    have b6 := gb_nn b6
    refine G.go hX 1 (apW ct ed q0 q1 q2 q3 q4 q5 q6 q7 q8 q9 q10 q11 q12 q13 q14 q15 q16 q17 q18 q19, 10, [(0, gr 36), (1, gi 5), (2, gi e), (3, gi who)], [gi 0]) rfl trivial ?_
    exact g_zret hX hE rfl (Or.inl rfl) ⟨(congrArg (fun z => some (gi z)) (gb_f (by exact fun h9 => b6 h9.1)).symm), rfl⟩
set_option maxHeartbeats 4000000 in
set_option maxRecDepth 100000 in
theorem c_X0_has_6 (l : Launch) (D : va_G) (cA : Nat → ClassId) (ct : Int → Int) (ed : Int → Int) (q0 : Int → Int) (q1 : Int → Int) (q2 : Int → Int) (q3 : Int → Int) (q4 : Int → Int) (q5 : Int → Int) (q6 : Int → Int) (q7 : Int → Int) (q8 : Int → Int) (q9 : Int → Int) (q10 : Int → Int) (q11 : Int → Int) (q12 : Int → Int) (q13 : Int → Int) (q14 : Int → Int) (q15 : Int → Int) (q16 : Int → Int) (q17 : Int → Int) (q18 : Int → Int) (q19 : Int → Int) (e : Int) (who : Int) (hct : ∀ q : Int, 0 ≤ ct q ∧ ct q ≤ 6) (hed : ∀ q : Int, inR (ed q)) (he : inR e) (hq : ∀ j : Int, inR (q6 j)) (hw : inR who) :
    gC l D cA yX0_has mX0_has (some .boolean) 0 0 [gr 36, gi 6, gi e, gi who] (apW ct ed q0 q1 q2 q3 q4 q5 q6 q7 q8 q9 q10 q11 q12 q13 q14 q15 q16 q17 q18 q19) (fun r9 w9 => r9 = some (gi (gb (gLt ct ed 6 e ∧ ∃ j : Int, 0 ≤ j ∧ j < ct 6 ∧ q6 j = who))) ∧ w9 = apW ct ed q0 q1 q2 q3 q4 q5 q6 q7 q8 q9 q10 q11 q12 q13 q14 q15 q16 q17 q18 q19) := by
  refine gC_of rfl kX0_has rfl rfl (Nat.le_of_ble_eq_true rfl) (fun X ad hX hE => ?_)
  refine G.go hX 3 (apW ct ed q0 q1 q2 q3 q4 q5 q6 q7 q8 q9 q10 q11 q12 q13 q14 q15 q16 q17 q18 q19, 3, [(0, gr 36), (1, gi 6), (2, gi e), (3, gi who)], [gi e, gi 6, gr 36]) rfl trivial ?_
  refine G.callV (av := [gi 6, gi e]) (o := 36) (st := []) hX rfl (fun l D cA => c_X0_isLatest l D cA ct ed q0 q1 q2 q3 q4 q5 q6 q7 q8 q9 q10 q11 q12 q13 q14 q15 q16 q17 q18 q19 6 e (by first | assumption | omega) (by first | assumption | omega) (by first | assumption | omega) (by first | assumption | omega)) (by decide +kernel) aX0_isLatest rfl rfl rfl ⟨rfl, rfl⟩ (by decide) (Nat.le_of_ble_eq_true rfl) [0, 1, 2, 3, 4, 5, 6, 7, 8, 9, 10, 11, 12, 13, 14, 15, 16, 17, 18, 19, 20, 21, 22, 23] [] [] rfl rfl rfl (fun r w' hp => ?_)
  obtain ⟨rfl, rfl⟩ := hp
  show G X mX0_has ad 0 0 (apW ct ed q0 q1 q2 q3 q4 q5 q6 q7 q8 q9 q10 q11 q12 q13 q14 q15 q16 q17 q18 q19, 6, [(0, gr 36), (1, gi 6), (2, gi e), (3, gi who)], [gi (gb (gLt ct ed 6 e))])
  refine g_if_ne hX 11 rfl rfl (gb_r _) (fun b6 => ?_) (fun b6 => ?_)
  ·
    have b6 := gb_n0 b6
    refine G.go hX 2 (apW ct ed q0 q1 q2 q3 q4 q5 q6 q7 q8 q9 q10 q11 q12 q13 q14 q15 q16 q17 q18 q19, 14, [(0, gr 36), (1, gi 6), (2, gi e), (3, gi who), (4, gi 0)], []) rfl trivial ?_
    have lp14 : ∀ (n : Nat) (i : Int), (0 ≤ i ∧ i ≤ 6) → (∀ j : Int, 0 ≤ j → j < i → q6 j ≠ who) → (6 - i).toNat < n → G X mX0_has ad 0 0 (apW ct ed q0 q1 q2 q3 q4 q5 q6 q7 q8 q9 q10 q11 q12 q13 q14 q15 q16 q17 q18 q19, 14, [(0, gr 36), (1, gi 6), (2, gi e), (3, gi who), (4, gi i)], []) := by
      intro n
      induction n with
      | zero => intro i hi hno hm9; exact absurd hm9 (Nat.not_lt_zero _)
      | succ n ih14 =>
        intro i hi hno hm14
        refine G.go hX 5 (apW ct ed q0 q1 q2 q3 q4 q5 q6 q7 q8 q9 q10 q11 q12 q13 q14 q15 q16 q17 q18 q19, 22, [(0, gr 36), (1, gi 6), (2, gi e), (3, gi who), (4, gi i)], [gi (ct 6), gi i]) rfl ?_ ?_
        · refine ⟨?_, trivial⟩
          · omega
        refine g_icmp_ge hX 53 rfl rfl ⟨by have := hct 6; omega, by have := hct 6; omega⟩ ⟨by have := hct 6; omega, by have := hct 6; omega⟩ (fun b22 => ?_) (fun b22 => ?_)
        ·
          refine G.go hX 1 (apW ct ed q0 q1 q2 q3 q4 q5 q6 q7 q8 q9 q10 q11 q12 q13 q14 q15 q16 q17 q18 q19, 54, [(0, gr 36), (1, gi 6), (2, gi e), (3, gi who), (4, gi i)], [gi 0]) rfl trivial ?_
          exact g_zret hX hE rfl (Or.inl rfl) ⟨(congrArg (fun z => some (gi z)) (gb_f (by exact fun ⟨_, j, h1, h2, h3⟩ => hno j h1 (by have := hct 6; omega) h3)).symm), rfl⟩
        ·
          refine G.go hX 2 (apW ct ed q0 q1 q2 q3 q4 q5 q6 q7 q8 q9 q10 q11 q12 q13 q14 q15 q16 q17 q18 q19, 29, [(0, gr 36), (1, gi 6), (2, gi e), (3, gi who), (4, gi i)], [gi 6, gi i]) rfl trivial ?_
          refine g_icmp_ge hX 53 rfl rfl ⟨by omega, by omega⟩ ⟨by omega, by omega⟩ (fun b29 => ?_) (fun b29 => ?_)
          ·
            refine G.go hX 1 (apW ct ed q0 q1 q2 q3 q4 q5 q6 q7 q8 q9 q10 q11 q12 q13 q14 q15 q16 q17 q18 q19, 54, [(0, gr 36), (1, gi 6), (2, gi e), (3, gi who), (4, gi i)], [gi 0]) rfl trivial ?_
            exact g_zret hX hE rfl (Or.inl rfl) ⟨(congrArg (fun z => some (gi z)) (gb_f (by exact fun ⟨_, j, h1, h2, h3⟩ => hno j h1 (by have := hct 6; omega) h3)).symm), rfl⟩
          ·
            refine G.go hX 3 (apW ct ed q0 q1 q2 q3 q4 q5 q6 q7 q8 q9 q10 q11 q12 q13 q14 q15 q16 q17 q18 q19, 37, [(0, gr 36), (1, gi 6), (2, gi e), (3, gi who), (4, gi i)], [gi 6, gr 39]) rfl trivial ?_
            refine g_aald hX 46 rfl rfl (by omega) rfl ?_
            refine G.go hX 3 (apW ct ed q0 q1 q2 q3 q4 q5 q6 q7 q8 q9 q10 q11 q12 q13 q14 q15 q16 q17 q18 q19, 42, [(0, gr 36), (1, gi 6), (2, gi e), (3, gi who), (4, gi i)], [gi who, gi (q6 i)]) rfl ?_ ?_
            · refine ⟨?_, trivial⟩
              · omega
            refine g_icmp_ne hX 47 rfl rfl (by first | exact hq _ | assumption) (by first | exact hq _ | assumption) (fun b42 => ?_) (fun b42 => ?_)
            ·
              refine G.go hX 2 (apW ct ed q0 q1 q2 q3 q4 q5 q6 q7 q8 q9 q10 q11 q12 q13 q14 q15 q16 q17 q18 q19, 14, [(0, gr 36), (1, gi 6), (2, gi e), (3, gi who), (4, gi (i + 1))], []) rfl trivial ?_
              exact ih14 (i + 1) (by omega) (by intro j h1 h2; by_cases e9 : j = i; (subst e9; omega); exact hno j h1 (by omega)) (by omega)
            ·
              refine G.go hX 1 (apW ct ed q0 q1 q2 q3 q4 q5 q6 q7 q8 q9 q10 q11 q12 q13 q14 q15 q16 q17 q18 q19, 46, [(0, gr 36), (1, gi 6), (2, gi e), (3, gi who), (4, gi i)], [gi 1]) rfl trivial ?_
              exact g_zret hX hE rfl (Or.inr rfl) ⟨(congrArg (fun z => some (gi z)) (gb_t (by exact ⟨b6, i, by omega, by omega, by omega⟩)).symm), rfl⟩
    exact lp14 _ 0 (by omega) (by intro j h1 h2; omega) (Nat.lt_succ_self _)
  ·
    have b6 := gb_nn b6
    refine G.go hX 1 (apW ct ed q0 q1 q2 q3 q4 q5 q6 q7 q8 q9 q10 q11 q12 q13 q14 q15 q16 q17 q18 q19, 10, [(0, gr 36), (1, gi 6), (2, gi e), (3, gi who)], [gi 0]) rfl trivial ?_
    exact g_zret hX hE rfl (Or.inl rfl) ⟨(congrArg (fun z => some (gi z)) (gb_f (by exact fun h9 => b6 h9.1)).symm), rfl⟩
set_option maxHeartbeats 4000000 in
set_option maxRecDepth 100000 in
theorem c_X0_has_7 (l : Launch) (D : va_G) (cA : Nat → ClassId) (ct : Int → Int) (ed : Int → Int) (q0 : Int → Int) (q1 : Int → Int) (q2 : Int → Int) (q3 : Int → Int) (q4 : Int → Int) (q5 : Int → Int) (q6 : Int → Int) (q7 : Int → Int) (q8 : Int → Int) (q9 : Int → Int) (q10 : Int → Int) (q11 : Int → Int) (q12 : Int → Int) (q13 : Int → Int) (q14 : Int → Int) (q15 : Int → Int) (q16 : Int → Int) (q17 : Int → Int) (q18 : Int → Int) (q19 : Int → Int) (e : Int) (who : Int) (hct : ∀ q : Int, 0 ≤ ct q ∧ ct q ≤ 6) (hed : ∀ q : Int, inR (ed q)) (he : inR e) (hq : ∀ j : Int, inR (q7 j)) (hw : inR who) :
    gC l D cA yX0_has mX0_has (some .boolean) 0 0 [gr 36, gi 7, gi e, gi who] (apW ct ed q0 q1 q2 q3 q4 q5 q6 q7 q8 q9 q10 q11 q12 q13 q14 q15 q16 q17 q18 q19) (fun r9 w9 => r9 = some (gi (gb (gLt ct ed 7 e ∧ ∃ j : Int, 0 ≤ j ∧ j < ct 7 ∧ q7 j = who))) ∧ w9 = apW ct ed q0 q1 q2 q3 q4 q5 q6 q7 q8 q9 q10 q11 q12 q13 q14 q15 q16 q17 q18 q19) := by
  refine gC_of rfl kX0_has rfl rfl (Nat.le_of_ble_eq_true rfl) (fun X ad hX hE => ?_)
  refine G.go hX 3 (apW ct ed q0 q1 q2 q3 q4 q5 q6 q7 q8 q9 q10 q11 q12 q13 q14 q15 q16 q17 q18 q19, 3, [(0, gr 36), (1, gi 7), (2, gi e), (3, gi who)], [gi e, gi 7, gr 36]) rfl trivial ?_
  refine G.callV (av := [gi 7, gi e]) (o := 36) (st := []) hX rfl (fun l D cA => c_X0_isLatest l D cA ct ed q0 q1 q2 q3 q4 q5 q6 q7 q8 q9 q10 q11 q12 q13 q14 q15 q16 q17 q18 q19 7 e (by first | assumption | omega) (by first | assumption | omega) (by first | assumption | omega) (by first | assumption | omega)) (by decide +kernel) aX0_isLatest rfl rfl rfl ⟨rfl, rfl⟩ (by decide) (Nat.le_of_ble_eq_true rfl) [0, 1, 2, 3, 4, 5, 6, 7, 8, 9, 10, 11, 12, 13, 14, 15, 16, 17, 18, 19, 20, 21, 22, 23] [] [] rfl rfl rfl (fun r w' hp => ?_)
  obtain ⟨rfl, rfl⟩ := hp
  show G X mX0_has ad 0 0 (apW ct ed q0 q1 q2 q3 q4 q5 q6 q7 q8 q9 q10 q11 q12 q13 q14 q15 q16 q17 q18 q19, 6, [(0, gr 36), (1, gi 7), (2, gi e), (3, gi who)], [gi (gb (gLt ct ed 7 e))])
  refine g_if_ne hX 11 rfl rfl (gb_r _) (fun b6 => ?_) (fun b6 => ?_)
  ·
    have b6 := gb_n0 b6
    refine G.go hX 2 (apW ct ed q0 q1 q2 q3 q4 q5 q6 q7 q8 q9 q10 q11 q12 q13 q14 q15 q16 q17 q18 q19, 14, [(0, gr 36), (1, gi 7), (2, gi e), (3, gi who), (4, gi 0)], []) rfl trivial ?_
    have lp14 : ∀ (n : Nat) (i : Int), (0 ≤ i ∧ i ≤ 6) → (∀ j : Int, 0 ≤ j → j < i → q7 j ≠ who) → (6 - i).toNat < n → G X mX0_has ad 0 0 (apW ct ed q0 q1 q2 q3 q4 q5 q6 q7 q8 q9 q10 q11 q12 q13 q14 q15 q16 q17 q18 q19, 14, [(0, gr 36), (1, gi 7), (2, gi e), (3, gi who), (4, gi i)], []) := by
      intro n
      induction n with
      | zero => intro i hi hno hm9; exact absurd hm9 (Nat.not_lt_zero _)
      | succ n ih14 =>
        intro i hi hno hm14
        refine G.go hX 5 (apW ct ed q0 q1 q2 q3 q4 q5 q6 q7 q8 q9 q10 q11 q12 q13 q14 q15 q16 q17 q18 q19, 22, [(0, gr 36), (1, gi 7), (2, gi e), (3, gi who), (4, gi i)], [gi (ct 7), gi i]) rfl ?_ ?_
        · refine ⟨?_, trivial⟩
          · omega
        refine g_icmp_ge hX 53 rfl rfl ⟨by have := hct 7; omega, by have := hct 7; omega⟩ ⟨by have := hct 7; omega, by have := hct 7; omega⟩ (fun b22 => ?_) (fun b22 => ?_)
        ·
          refine G.go hX 1 (apW ct ed q0 q1 q2 q3 q4 q5 q6 q7 q8 q9 q10 q11 q12 q13 q14 q15 q16 q17 q18 q19, 54, [(0, gr 36), (1, gi 7), (2, gi e), (3, gi who), (4, gi i)], [gi 0]) rfl trivial ?_
          exact g_zret hX hE rfl (Or.inl rfl) ⟨(congrArg (fun z => some (gi z)) (gb_f (by exact fun ⟨_, j, h1, h2, h3⟩ => hno j h1 (by have := hct 7; omega) h3)).symm), rfl⟩
        ·
          refine G.go hX 2 (apW ct ed q0 q1 q2 q3 q4 q5 q6 q7 q8 q9 q10 q11 q12 q13 q14 q15 q16 q17 q18 q19, 29, [(0, gr 36), (1, gi 7), (2, gi e), (3, gi who), (4, gi i)], [gi 6, gi i]) rfl trivial ?_
          refine g_icmp_ge hX 53 rfl rfl ⟨by omega, by omega⟩ ⟨by omega, by omega⟩ (fun b29 => ?_) (fun b29 => ?_)
          ·
            refine G.go hX 1 (apW ct ed q0 q1 q2 q3 q4 q5 q6 q7 q8 q9 q10 q11 q12 q13 q14 q15 q16 q17 q18 q19, 54, [(0, gr 36), (1, gi 7), (2, gi e), (3, gi who), (4, gi i)], [gi 0]) rfl trivial ?_
            exact g_zret hX hE rfl (Or.inl rfl) ⟨(congrArg (fun z => some (gi z)) (gb_f (by exact fun ⟨_, j, h1, h2, h3⟩ => hno j h1 (by have := hct 7; omega) h3)).symm), rfl⟩
          ·
            refine G.go hX 3 (apW ct ed q0 q1 q2 q3 q4 q5 q6 q7 q8 q9 q10 q11 q12 q13 q14 q15 q16 q17 q18 q19, 37, [(0, gr 36), (1, gi 7), (2, gi e), (3, gi who), (4, gi i)], [gi 7, gr 39]) rfl trivial ?_
            refine g_aald hX 47 rfl rfl (by omega) rfl ?_
            refine G.go hX 3 (apW ct ed q0 q1 q2 q3 q4 q5 q6 q7 q8 q9 q10 q11 q12 q13 q14 q15 q16 q17 q18 q19, 42, [(0, gr 36), (1, gi 7), (2, gi e), (3, gi who), (4, gi i)], [gi who, gi (q7 i)]) rfl ?_ ?_
            · refine ⟨?_, trivial⟩
              · omega
            refine g_icmp_ne hX 47 rfl rfl (by first | exact hq _ | assumption) (by first | exact hq _ | assumption) (fun b42 => ?_) (fun b42 => ?_)
            ·
              refine G.go hX 2 (apW ct ed q0 q1 q2 q3 q4 q5 q6 q7 q8 q9 q10 q11 q12 q13 q14 q15 q16 q17 q18 q19, 14, [(0, gr 36), (1, gi 7), (2, gi e), (3, gi who), (4, gi (i + 1))], []) rfl trivial ?_
              exact ih14 (i + 1) (by omega) (by intro j h1 h2; by_cases e9 : j = i; (subst e9; omega); exact hno j h1 (by omega)) (by omega)
            ·
              refine G.go hX 1 (apW ct ed q0 q1 q2 q3 q4 q5 q6 q7 q8 q9 q10 q11 q12 q13 q14 q15 q16 q17 q18 q19, 46, [(0, gr 36), (1, gi 7), (2, gi e), (3, gi who), (4, gi i)], [gi 1]) rfl trivial ?_
              exact g_zret hX hE rfl (Or.inr rfl) ⟨(congrArg (fun z => some (gi z)) (gb_t (by exact ⟨b6, i, by omega, by omega, by omega⟩)).symm), rfl⟩
    exact lp14 _ 0 (by omega) (by intro j h1 h2; omega) (Nat.lt_succ_self _)
  ·
    have b6 := gb_nn b6
    refine G.go hX 1 (apW ct ed q0 q1 q2 q3 q4 q5 q6 q7 q8 q9 q10 q11 q12 q13 q14 q15 q16 q17 q18 q19, 10, [(0, gr 36), (1, gi 7), (2, gi e), (3, gi who)], [gi 0]) rfl trivial ?_
    exact g_zret hX hE rfl (Or.inl rfl) ⟨(congrArg (fun z => some (gi z)) (gb_f (by exact fun h9 => b6 h9.1)).symm), rfl⟩
set_option maxHeartbeats 4000000 in
set_option maxRecDepth 100000 in
theorem c_X0_has_8 (l : Launch) (D : va_G) (cA : Nat → ClassId) (ct : Int → Int) (ed : Int → Int) (q0 : Int → Int) (q1 : Int → Int) (q2 : Int → Int) (q3 : Int → Int) (q4 : Int → Int) (q5 : Int → Int) (q6 : Int → Int) (q7 : Int → Int) (q8 : Int → Int) (q9 : Int → Int) (q10 : Int → Int) (q11 : Int → Int) (q12 : Int → Int) (q13 : Int → Int) (q14 : Int → Int) (q15 : Int → Int) (q16 : Int → Int) (q17 : Int → Int) (q18 : Int → Int) (q19 : Int → Int) (e : Int) (who : Int) (hct : ∀ q : Int, 0 ≤ ct q ∧ ct q ≤ 6) (hed : ∀ q : Int, inR (ed q)) (he : inR e) (hq : ∀ j : Int, inR (q8 j)) (hw : inR who) :
    gC l D cA yX0_has mX0_has (some .boolean) 0 0 [gr 36, gi 8, gi e, gi who] (apW ct ed q0 q1 q2 q3 q4 q5 q6 q7 q8 q9 q10 q11 q12 q13 q14 q15 q16 q17 q18 q19) (fun r9 w9 => r9 = some (gi (gb (gLt ct ed 8 e ∧ ∃ j : Int, 0 ≤ j ∧ j < ct 8 ∧ q8 j = who))) ∧ w9 = apW ct ed q0 q1 q2 q3 q4 q5 q6 q7 q8 q9 q10 q11 q12 q13 q14 q15 q16 q17 q18 q19) := by
  refine gC_of rfl kX0_has rfl rfl (Nat.le_of_ble_eq_true rfl) (fun X ad hX hE => ?_)
  refine G.go hX 3 (apW ct ed q0 q1 q2 q3 q4 q5 q6 q7 q8 q9 q10 q11 q12 q13 q14 q15 q16 q17 q18 q19, 3, [(0, gr 36), (1, gi 8), (2, gi e), (3, gi who)], [gi e, gi 8, gr 36]) rfl trivial ?_
  refine G.callV (av := [gi 8, gi e]) (o := 36) (st := []) hX rfl (fun l D cA => c_X0_isLatest l D cA ct ed q0 q1 q2 q3 q4 q5 q6 q7 q8 q9 q10 q11 q12 q13 q14 q15 q16 q17 q18 q19 8 e (by first | assumption | omega) (by first | assumption | omega) (by first | assumption | omega) (by first | assumption | omega)) (by decide +kernel) aX0_isLatest rfl rfl rfl ⟨rfl, rfl⟩ (by decide) (Nat.le_of_ble_eq_true rfl) [0, 1, 2, 3, 4, 5, 6, 7, 8, 9, 10, 11, 12, 13, 14, 15, 16, 17, 18, 19, 20, 21, 22, 23] [] [] rfl rfl rfl (fun r w' hp => ?_)
  obtain ⟨rfl, rfl⟩ := hp
  show G X mX0_has ad 0 0 (apW ct ed q0 q1 q2 q3 q4 q5 q6 q7 q8 q9 q10 q11 q12 q13 q14 q15 q16 q17 q18 q19, 6, [(0, gr 36), (1, gi 8), (2, gi e), (3, gi who)], [gi (gb (gLt ct ed 8 e))])
  refine g_if_ne hX 11 rfl rfl (gb_r _) (fun b6 => ?_) (fun b6 => ?_)
  ·
    have b6 := gb_n0 b6
    refine G.go hX 2 (apW ct ed q0 q1 q2 q3 q4 q5 q6 q7 q8 q9 q10 q11 q12 q13 q14 q15 q16 q17 q18 q19, 14, [(0, gr 36), (1, gi 8), (2, gi e), (3, gi who), (4, gi 0)], []) rfl trivial ?_
    have lp14 : ∀ (n : Nat) (i : Int), (0 ≤ i ∧ i ≤ 6) → (∀ j : Int, 0 ≤ j → j < i → q8 j ≠ who) → (6 - i).toNat < n → G X mX0_has ad 0 0 (apW ct ed q0 q1 q2 q3 q4 q5 q6 q7 q8 q9 q10 q11 q12 q13 q14 q15 q16 q17 q18 q19, 14, [(0, gr 36), (1, gi 8), (2, gi e), (3, gi who), (4, gi i)], []) := by
      intro n
      induction n with
      | zero => intro i hi hno hm9; exact absurd hm9 (Nat.not_lt_zero _)
      | succ n ih14 =>
        intro i hi hno hm14
        refine G.go hX 5 (apW ct ed q0 q1 q2 q3 q4 q5 q6 q7 q8 q9 q10 q11 q12 q13 q14 q15 q16 q17 q18 q19, 22, [(0, gr 36), (1, gi 8), (2, gi e), (3, gi who), (4, gi i)], [gi (ct 8), gi i]) rfl ?_ ?_
        · refine ⟨?_, trivial⟩
          · omega
        refine g_icmp_ge hX 53 rfl rfl ⟨by have := hct 8; omega, by have := hct 8; omega⟩ ⟨by have := hct 8; omega, by have := hct 8; omega⟩ (fun b22 => ?_) (fun b22 => ?_)
        ·
          refine G.go hX 1 (apW ct ed q0 q1 q2 q3 q4 q5 q6 q7 q8 q9 q10 q11 q12 q13 q14 q15 q16 q17 q18 q19, 54, [(0, gr 36), (1, gi 8), (2, gi e), (3, gi who), (4, gi i)], [gi 0]) rfl trivial ?_
          exact g_zret hX hE rfl (Or.inl rfl) ⟨(congrArg (fun z => some (gi z)) (gb_f (by exact fun ⟨_, j, h1, h2, h3⟩ => hno j h1 (by have := hct 8; omega) h3)).symm), rfl⟩
        ·
          refine G.go hX 2 (apW ct ed q0 q1 q2 q3 q4 q5 q6 q7 q8 q9 q10 q11 q12 q13 q14 q15 q16 q17 q18 q19, 29, [(0, gr 36), (1, gi 8), (2, gi e), (3, gi who), (4, gi i)], [gi 6, gi i]) rfl trivial ?_
          refine g_icmp_ge hX 53 rfl rfl ⟨by omega, by omega⟩ ⟨by omega, by omega⟩ (fun b29 => ?_) (fun b29 => ?_)
          ·
            refine G.go hX 1 (apW ct ed q0 q1 q2 q3 q4 q5 q6 q7 q8 q9 q10 q11 q12 q13 q14 q15 q16 q17 q18 q19, 54, [(0, gr 36), (1, gi 8), (2, gi e), (3, gi who), (4, gi i)], [gi 0]) rfl trivial ?_
            exact g_zret hX hE rfl (Or.inl rfl) ⟨(congrArg (fun z => some (gi z)) (gb_f (by exact fun ⟨_, j, h1, h2, h3⟩ => hno j h1 (by have := hct 8; omega) h3)).symm), rfl⟩
          ·
            refine G.go hX 3 (apW ct ed q0 q1 q2 q3 q4 q5 q6 q7 q8 q9 q10 q11 q12 q13 q14 q15 q16 q17 q18 q19, 37, [(0, gr 36), (1, gi 8), (2, gi e), (3, gi who), (4, gi i)], [gi 8, gr 39]) rfl trivial ?_
            refine g_aald hX 48 rfl rfl (by omega) rfl ?_
            refine G.go hX 3 (apW ct ed q0 q1 q2 q3 q4 q5 q6 q7 q8 q9 q10 q11 q12 q13 q14 q15 q16 q17 q18 q19, 42, [(0, gr 36), (1, gi 8), (2, gi e), (3, gi who), (4, gi i)], [gi who, gi (q8 i)]) rfl ?_ ?_
            · refine ⟨?_, trivial⟩
              · omega
            refine g_icmp_ne hX 47 rfl rfl (by first | exact hq _ | assumption) (by first | exact hq _ | assumption) (fun b42 => ?_) (fun b42 => ?_)
            ·
              refine G.go hX 2 (apW ct ed q0 q1 q2 q3 q4 q5 q6 q7 q8 q9 q10 q11 q12 q13 q14 q15 q16 q17 q18 q19, 14, [(0, gr 36), (1, gi 8), (2, gi e), (3, gi who), (4, gi (i + 1))], []) rfl trivial ?_
              exact ih14 (i + 1) (by omega) (by intro j h1 h2; by_cases e9 : j = i; (subst e9; omega); exact hno j h1 (by omega)) (by omega)
            ·
              refine G.go hX 1 (apW ct ed q0 q1 q2 q3 q4 q5 q6 q7 q8 q9 q10 q11 q12 q13 q14 q15 q16 q17 q18 q19, 46, [(0, gr 36), (1, gi 8), (2, gi e), (3, gi who), (4, gi i)], [gi 1]) rfl trivial ?_
              exact g_zret hX hE rfl (Or.inr rfl) ⟨(congrArg (fun z => some (gi z)) (gb_t (by exact ⟨b6, i, by omega, by omega, by omega⟩)).symm), rfl⟩
    exact lp14 _ 0 (by omega) (by intro j h1 h2; omega) (Nat.lt_succ_self _)
  ·
    have b6 := gb_nn b6
    refine G.go hX 1 (apW ct ed q0 q1 q2 q3 q4 q5 q6 q7 q8 q9 q10 q11 q12 q13 q14 q15 q16 q17 q18 q19, 10, [(0, gr 36), (1, gi 8), (2, gi e), (3, gi who)], [gi 0]) rfl trivial ?_
    exact g_zret hX hE rfl (Or.inl rfl) ⟨(congrArg (fun z => some (gi z)) (gb_f (by exact fun h9 => b6 h9.1)).symm), rfl⟩
set_option maxHeartbeats 4000000 in
set_option maxRecDepth 100000 in
theorem c_X0_has_9 (l : Launch) (D : va_G) (cA : Nat → ClassId) (ct : Int → Int) (ed : Int → Int) (q0 : Int → Int) (q1 : Int → Int) (q2 : Int → Int) (q3 : Int → Int) (q4 : Int → Int) (q5 : Int → Int) (q6 : Int → Int) (q7 : Int → Int) (q8 : Int → Int) (q9 : Int → Int) (q10 : Int → Int) (q11 : Int → Int) (q12 : Int → Int) (q13 : Int → Int) (q14 : Int → Int) (q15 : Int → Int) (q16 : Int → Int) (q17 : Int → Int) (q18 : Int → Int) (q19 : Int → Int) (e : Int) (who : Int) (hct : ∀ q : Int, 0 ≤ ct q ∧ ct q ≤ 6) (hed : ∀ q : Int, inR (ed q)) (he : inR e) (hq : ∀ j : Int, inR (q9 j)) (hw : inR who) :
    gC l D cA yX0_has mX0_has (some .boolean) 0 0 [gr 36, gi 9, gi e, gi who] (apW ct ed q0 q1 q2 q3 q4 q5 q6 q7 q8 q9 q10 q11 q12 q13 q14 q15 q16 q17 q18 q19) (fun r9 w9 => r9 = some (gi (gb (gLt ct ed 9 e ∧ ∃ j : Int, 0 ≤ j ∧ j < ct 9 ∧ q9 j = who))) ∧ w9 = apW ct ed q0 q1 q2 q3 q4 q5 q6 q7 q8 q9 q10 q11 q12 q13 q14 q15 q16 q17 q18 q19) := by
  refine gC_of rfl kX0_has rfl rfl (Nat.le_of_ble_eq_true rfl) (fun X ad hX hE => ?_)
  refine G.go hX 3 (apW ct ed q0 q1 q2 q3 q4 q5 q6 q7 q8 q9 q10 q11 q12 q13 q14 q15 q16 q17 q18 q19, 3, [(0, gr 36), (1, gi 9), (2, gi e), (3, gi who)], [gi e, gi 9, gr 36]) rfl trivial ?_
  refine G.callV (av := [gi 9, gi e]) (o := 36) (st := []) hX rfl (fun l D cA => c_X0_isLatest l D cA ct ed q0 q1 q2 q3 q4 q5 q6 q7 q8 q9 q10 q11 q12 q13 q14 q15 q16 q17 q18 q19 9 e (by first | assumption | omega) (by first | assumption | omega) (by first | assumption | omega) (by first | assumption | omega)) (by decide +kernel) aX0_isLatest rfl rfl rfl ⟨rfl, rfl⟩ (by decide) (Nat.le_of_ble_eq_true rfl) [0, 1, 2, 3, 4, 5, 6, 7, 8, 9, 10, 11, 12, 13, 14, 15, 16, 17, 18, 19, 20, 21, 22, 23] [] [] rfl rfl rfl (fun r w' hp => ?_)
  obtain ⟨rfl, rfl⟩ := hp
  show G X mX0_has ad 0 0 (apW ct ed q0 q1 q2 q3 q4 q5 q6 q7 q8 q9 q10 q11 q12 q13 q14 q15 q16 q17 q18 q19, 6, [(0, gr 36), (1, gi 9), (2, gi e), (3, gi who)], [gi (gb (gLt ct ed 9 e))])
  refine g_if_ne hX 11 rfl rfl (gb_r _) (fun b6 => ?_) (fun b6 => ?_)
  ·
    have b6 := gb_n0 b6
    refine G.go hX 2 (apW ct ed q0 q1 q2 q3 q4 q5 q6 q7 q8 q9 q10 q11 q12 q13 q14 q15 q16 q17 q18 q19, 14, [(0, gr 36), (1, gi 9), (2, gi e), (3, gi who), (4, gi 0)], []) rfl trivial ?_
    have lp14 : ∀ (n : Nat) (i : Int), (0 ≤ i ∧ i ≤ 6) → (∀ j : Int, 0 ≤ j → j < i → q9 j ≠ who) → (6 - i).toNat < n → G X mX0_has ad 0 0 (apW ct ed q0 q1 q2 q3 q4 q5 q6 q7 q8 q9 q10 q11 q12 q13 q14 q15 q16 q17 q18 q19, 14, [(0, gr 36), (1, gi 9), (2, gi e), (3, gi who), (4, gi i)], []) := by
      intro n
      induction n with
      | zero => intro i hi hno hm9; exact absurd hm9 (Nat.not_lt_zero _)
      | succ n ih14 =>
        intro i hi hno hm14
        refine G.go hX 5 (apW ct ed q0 q1 q2 q3 q4 q5 q6 q7 q8 q9 q10 q11 q12 q13 q14 q15 q16 q17 q18 q19, 22, [(0, gr 36), (1, gi 9), (2, gi e), (3, gi who), (4, gi i)], [gi (ct 9), gi i]) rfl ?_ ?_
        · refine ⟨?_, trivial⟩
          · omega
        refine g_icmp_ge hX 53 rfl rfl ⟨by have := hct 9; omega, by have := hct 9; omega⟩ ⟨by have := hct 9; omega, by have := hct 9; omega⟩ (fun b22 => ?_) (fun b22 => ?_)
        ·
          refine G.go hX 1 (apW ct ed q0 q1 q2 q3 q4 q5 q6 q7 q8 q9 q10 q11 q12 q13 q14 q15 q16 q17 q18 q19, 54, [(0, gr 36), (1, gi 9), (2, gi e), (3, gi who), (4, gi i)], [gi 0]) rfl trivial ?_
          exact g_zret hX hE rfl (Or.inl rfl) ⟨(congrArg (fun z => some (gi z)) (gb_f (by exact fun ⟨_, j, h1, h2, h3⟩ => hno j h1 (by have := hct 9; omega) h3)).symm), rfl⟩
        ·
          refine G.go hX 2 (apW ct ed q0 q1 q2 q3 q4 q5 q6 q7 q8 q9 q10 q11 q12 q13 q14 q15 q16 q17 q18 q19, 29, [(0, gr 36), (1, gi 9), (2, gi e), (3, gi who), (4, gi i)], [gi 6, gi i]) rfl trivial ?_
          refine g_icmp_ge hX 53 rfl rfl ⟨by omega, by omega⟩ ⟨by omega, by omega⟩ (fun b29 => ?_) (fun b29 => ?_)
          ·
            refine G.go hX 1 (apW ct ed q0 q1 q2 q3 q4 q5 q6 q7 q8 q9 q10 q11 q12 q13 q14 q15 q16 q17 q18 q19, 54, [(0, gr 36), (1, gi 9), (2, gi e), (3, gi who), (4, gi i)], [gi 0]) rfl trivial ?_
            exact g_zret hX hE rfl (Or.inl rfl) ⟨(congrArg (fun z => some (gi z)) (gb_f (by exact fun ⟨_, j, h1, h2, h3⟩ => hno j h1 (by have := hct 9; omega) h3)).symm), rfl⟩
          ·
            refine G.go hX 3 (apW ct ed q0 q1 q2 q3 q4 q5 q6 q7 q8 q9 q10 q11 q12 q13 q14 q15 q16 q17 q18 q19, 37, [(0, gr 36), (1, gi 9), (2, gi e), (3, gi who), (4, gi i)], [gi 9, gr 39]) rfl trivial ?_
            refine g_aald hX 49 rfl rfl (by omega) rfl ?_
            refine G.go hX 3 (apW ct ed q0 q1 q2 q3 q4 q5 q6 q7 q8 q9 q10 q11 q12 q13 q14 q15 q16 q17 q18 q19, 42, [(0, gr 36), (1, gi 9), (2, gi e), (3, gi who), (4, gi i)], [gi who, gi (q9 i)]) rfl ?_ ?_
            · refine ⟨?_, trivial⟩
              · omega
            refine g_icmp_ne hX 47 rfl rfl (by first | exact hq _ | assumption) (by first | exact hq _ | assumption) (fun b42 => ?_) (fun b42 => ?_)
            ·
              refine G.go hX 2 (apW ct ed q0 q1 q2 q3 q4 q5 q6 q7 q8 q9 q10 q11 q12 q13 q14 q15 q16 q17 q18 q19, 14, [(0, gr 36), (1, gi 9), (2, gi e), (3, gi who), (4, gi (i + 1))], []) rfl trivial ?_
              exact ih14 (i + 1) (by omega) (by intro j h1 h2; by_cases e9 : j = i; (subst e9; omega); exact hno j h1 (by omega)) (by omega)
            ·
              refine G.go hX 1 (apW ct ed q0 q1 q2 q3 q4 q5 q6 q7 q8 q9 q10 q11 q12 q13 q14 q15 q16 q17 q18 q19, 46, [(0, gr 36), (1, gi 9), (2, gi e), (3, gi who), (4, gi i)], [gi 1]) rfl trivial ?_
              exact g_zret hX hE rfl (Or.inr rfl) ⟨(congrArg (fun z => some (gi z)) (gb_t (by exact ⟨b6, i, by omega, by omega, by omega⟩)).symm), rfl⟩
    exact lp14 _ 0 (by omega) (by intro j h1 h2; omega) (Nat.lt_succ_self _)
  ·
    have b6 := gb_nn b6
    refine G.go hX 1 (apW ct ed q0 q1 q2 q3 q4 q5 q6 q7 q8 q9 q10 q11 q12 q13 q14 q15 q16 q17 q18 q19, 10, [(0, gr 36), (1, gi 9), (2, gi e), (3, gi who)], [gi 0]) rfl trivial ?_
    exact g_zret hX hE rfl (Or.inl rfl) ⟨(congrArg (fun z => some (gi z)) (gb_f (by exact fun h9 => b6 h9.1)).symm), rfl⟩
set_option maxHeartbeats 4000000 in
set_option maxRecDepth 100000 in
theorem c_X0_has_10 (l : Launch) (D : va_G) (cA : Nat → ClassId) (ct : Int → Int) (ed : Int → Int) (q0 : Int → Int) (q1 : Int → Int) (q2 : Int → Int) (q3 : Int → Int) (q4 : Int → Int) (q5 : Int → Int) (q6 : Int → Int) (q7 : Int → Int) (q8 : Int → Int) (q9 : Int → Int) (q10 : Int → Int) (q11 : Int → Int) (q12 : Int → Int) (q13 : Int → Int) (q14 : Int → Int) (q15 : Int → Int) (q16 : Int → Int) (q17 : Int → Int) (q18 : Int → Int) (q19 : Int → Int) (e : Int) (who : Int) (hct : ∀ q : Int, 0 ≤ ct q ∧ ct q ≤ 6) (hed : ∀ q : Int, inR (ed q)) (he : inR e) (hq : ∀ j : Int, inR (q10 j)) (hw : inR who) :
    gC l D cA yX0_has mX0_has (some .boolean) 0 0 [gr 36, gi 10, gi e, gi who] (apW ct ed q0 q1 q2 q3 q4 q5 q6 q7 q8 q9 q10 q11 q12 q13 q14 q15 q16 q17 q18 q19) (fun r9 w9 => r9 = some (gi (gb (gLt ct ed 10 e ∧ ∃ j : Int, 0 ≤ j ∧ j < ct 10 ∧ q10 j = who))) ∧ w9 = apW ct ed q0 q1 q2 q3 q4 q5 q6 q7 q8 q9 q10 q11 q12 q13 q14 q15 q16 q17 q18 q19) := by
  refine gC_of rfl kX0_has rfl rfl (Nat.le_of_ble_eq_true rfl) (fun X ad hX hE => ?_)
  refine G.go hX 3 (apW ct ed q0 q1 q2 q3 q4 q5 q6 q7 q8 q9 q10 q11 q12 q13 q14 q15 q16 q17 q18 q19, 3, [(0, gr 36), (1, gi 10), (2, gi e), (3, gi who)], [gi e, gi 10, gr 36]) rfl trivial ?_
  refine G.callV (av := [gi 10, gi e]) (o := 36) (st := []) hX rfl (fun l D cA => c_X0_isLatest l D cA ct ed q0 q1 q2 q3 q4 q5 q6 q7 q8 q9 q10 q11 q12 q13 q14 q15 q16 q17 q18 q19 10 e (by first | assumption | omega) (by first | assumption | omega) (by first | assumption | omega) (by first | assumption | omega)) (by decide +kernel) aX0_isLatest rfl rfl rfl ⟨rfl, rfl⟩ (by decide) (Nat.le_of_ble_eq_true rfl) [0, 1, 2, 3, 4, 5, 6, 7, 8, 9, 10, 11, 12, 13, 14, 15, 16, 17, 18, 19, 20, 21, 22, 23] [] [] rfl rfl rfl (fun r w' hp => ?_)
  obtain ⟨rfl, rfl⟩ := hp
  show G X mX0_has ad 0 0 (apW ct ed q0 q1 q2 q3 q4 q5 q6 q7 q8 q9 q10 q11 q12 q13 q14 q15 q16 q17 q18 q19, 6, [(0, gr 36), (1, gi 10), (2, gi e), (3, gi who)], [gi (gb (gLt ct ed 10 e))])
  refine g_if_ne hX 11 rfl rfl (gb_r _) (fun b6 => ?_) (fun b6 => ?_)
  ·
    have b6 := gb_n0 b6
    refine G.go hX 2 (apW ct ed q0 q1 q2 q3 q4 q5 q6 q7 q8 q9 q10 q11 q12 q13 q14 q15 q16 q17 q18 q19, 14, [(0, gr 36), (1, gi 10), (2, gi e), (3, gi who), (4, gi 0)], []) rfl trivial ?_
    have lp14 : ∀ (n : Nat) (i : Int), (0 ≤ i ∧ i ≤ 6) → (∀ j : Int, 0 ≤ j → j < i → q10 j ≠ who) → (6 - i).toNat < n → G X mX0_has ad 0 0 (apW ct ed q0 q1 q2 q3 q4 q5 q6 q7 q8 q9 q10 q11 q12 q13 q14 q15 q16 q17 q18 q19, 14, [(0, gr 36), (1, gi 10), (2, gi e), (3, gi who), (4, gi i)], []) := by
      intro n
      induction n with
      | zero => intro i hi hno hm9; exact absurd hm9 (Nat.not_lt_zero _)
      | succ n ih14 =>
        intro i hi hno hm14
        refine G.go hX 5 (apW ct ed q0 q1 q2 q3 q4 q5 q6 q7 q8 q9 q10 q11 q12 q13 q14 q15 q16 q17 q18 q19, 22, [(0, gr 36), (1, gi 10), (2, gi e), (3, gi who), (4, gi i)], [gi (ct 10), gi i]) rfl ?_ ?_
        · refine ⟨?_, trivial⟩
          · omega
        refine g_icmp_ge hX 53 rfl rfl ⟨by have := hct 10; omega, by have := hct 10; omega⟩ ⟨by have := hct 10; omega, by have := hct 10; omega⟩ (fun b22 => ?_) (fun b22 => ?_)
        ·
          refine G.go hX 1 (apW ct ed q0 q1 q2 q3 q4 q5 q6 q7 q8 q9 q10 q11 q12 q13 q14 q15 q16 q17 q18 q19, 54, [(0, gr 36), (1, gi 10), (2, gi e), (3, gi who), (4, gi i)], [gi 0]) rfl trivial ?_
          exact g_zret hX hE rfl (Or.inl rfl) ⟨(congrArg (fun z => some (gi z)) (gb_f (by exact fun ⟨_, j, h1, h2, h3⟩ => hno j h1 (by have := hct 10; omega) h3)).symm), rfl⟩
        ·
          refine G.go hX 2 (apW ct ed q0 q1 q2 q3 q4 q5 q6 q7 q8 q9 q10 q11 q12 q13 q14 q15 q16 q17 q18 q19, 29, [(0, gr 36), (1, gi 10), (2, gi e), (3, gi who), (4, gi i)], [gi 6, gi i]) rfl trivial ?_
          refine g_icmp_ge hX 53 rfl rfl ⟨by omega, by omega⟩ ⟨by omega, by omega⟩ (fun b29 => ?_) (fun b29 => ?_)
          ·
            refine G.go hX 1 (apW ct ed q0 q1 q2 q3 q4 q5 q6 q7 q8 q9 q10 q11 q12 q13 q14 q15 q16 q17 q18 q19, 54, [(0, gr 36), (1, gi 10), (2, gi e), (3, gi who), (4, gi i)], [gi 0]) rfl trivial ?_
            exact g_zret hX hE rfl (Or.inl rfl) ⟨(congrArg (fun z => some (gi z)) (gb_f (by exact fun ⟨_, j, h1, h2, h3⟩ => hno j h1 (by have := hct 10; omega) h3)).symm), rfl⟩
          ·
            refine G.go hX 3 (apW ct ed q0 q1 q2 q3 q4 q5 q6 q7 q8 q9 q10 q11 q12 q13 q14 q15 q16 q17 q18 q19, 37, [(0, gr 36), (1, gi 10), (2, gi e), (3, gi who), (4, gi i)], [gi 10, gr 39]) rfl trivial ?_
            refine g_aald hX 50 rfl rfl (by omega) rfl ?_
            refine G.go hX 3 (apW ct ed q0 q1 q2 q3 q4 q5 q6 q7 q8 q9 q10 q11 q12 q13 q14 q15 q16 q17 q18 q19, 42, [(0, gr 36), (1, gi 10), (2, gi e), (3, gi who), (4, gi i)], [gi who, gi (q10 i)]) rfl ?_ ?_
            · refine ⟨?_, trivial⟩
              · omega
            refine g_icmp_ne hX 47 rfl rfl (by first | exact hq _ | assumption) (by first | exact hq _ | assumption) (fun b42 => ?_) (fun b42 => ?_)
            ·
              refine G.go hX 2 (apW ct ed q0 q1 q2 q3 q4 q5 q6 q7 q8 q9 q10 q11 q12 q13 q14 q15 q16 q17 q18 q19, 14, [(0, gr 36), (1, gi 10), (2, gi e), (3, gi who), (4, gi (i + 1))], []) rfl trivial ?_
              exact ih14 (i + 1) (by omega) (by intro j h1 h2; by_cases e9 : j = i; (subst e9; omega); exact hno j h1 (by omega)) (by omega)
            ·
              refine G.go hX 1 (apW ct ed q0 q1 q2 q3 q4 q5 q6 q7 q8 q9 q10 q11 q12 q13 q14 q15 q16 q17 q18 q19, 46, [(0, gr 36), (1, gi 10), (2, gi e), (3, gi who), (4, gi i)], [gi 1]) rfl trivial ?_
              exact g_zret hX hE rfl (Or.inr rfl) ⟨(congrArg (fun z => some (gi z)) (gb_t (by exact ⟨b6, i, by omega, by omega, by omega⟩)).symm), rfl⟩
    exact lp14 _ 0 (by omega) (by intro j h1 h2; omega) (Nat.lt_succ_self _)
  ·
    have b6 := gb_nn b6
    refine G.go hX 1 (apW ct ed q0 q1 q2 q3 q4 q5 q6 q7 q8 q9 q10 q11 q12 q13 q14 q15 q16 q17 q18 q19, 10, [(0, gr 36), (1, gi 10), (2, gi e), (3, gi who)], [gi 0]) rfl trivial ?_
    exact g_zret hX hE rfl (Or.inl rfl) ⟨(congrArg (fun z => some (gi z)) (gb_f (by exact fun h9 => b6 h9.1)).symm), rfl⟩
set_option maxHeartbeats 4000000 in
set_option maxRecDepth 100000 in
theorem c_X0_has_11 (l : Launch) (D : va_G) (cA : Nat → ClassId) (ct : Int → Int) (ed : Int → Int) (q0 : Int → Int) (q1 : Int → Int) (q2 : Int → Int) (q3 : Int → Int) (q4 : Int → Int) (q5 : Int → Int) (q6 : Int → Int) (q7 : Int → Int) (q8 : Int → Int) (q9 : Int → Int) (q10 : Int → Int) (q11 : Int → Int) (q12 : Int → Int) (q13 : Int → Int) (q14 : Int → Int) (q15 : Int → Int) (q16 : Int → Int) (q17 : Int → Int) (q18 : Int → Int) (q19 : Int → Int) (e : Int) (who : Int) (hct : ∀ q : Int, 0 ≤ ct q ∧ ct q ≤ 6) (hed : ∀ q : Int, inR (ed q)) (he : inR e) (hq : ∀ j : Int, inR (q11 j)) (hw : inR who) :
    gC l D cA yX0_has mX0_has (some .boolean) 0 0 [gr 36, gi 11, gi e, gi who] (apW ct ed q0 q1 q2 q3 q4 q5 q6 q7 q8 q9 q10 q11 q12 q13 q14 q15 q16 q17 q18 q19) (fun r9 w9 => r9 = some (gi (gb (gLt ct ed 11 e ∧ ∃ j : Int, 0 ≤ j ∧ j < ct 11 ∧ q11 j = who))) ∧ w9 = apW ct ed q0 q1 q2 q3 q4 q5 q6 q7 q8 q9 q10 q11 q12 q13 q14 q15 q16 q17 q18 q19) := by
  refine gC_of rfl kX0_has rfl rfl (Nat.le_of_ble_eq_true rfl) (fun X ad hX hE => ?_)
  refine G.go hX 3 (apW ct ed q0 q1 q2 q3 q4 q5 q6 q7 q8 q9 q10 q11 q12 q13 q14 q15 q16 q17 q18 q19, 3, [(0, gr 36), (1, gi 11), (2, gi e), (3, gi who)], [gi e, gi 11, gr 36]) rfl trivial ?_
  refine G.callV (av := [gi 11, gi e]) (o := 36) (st := []) hX rfl (fun l D cA => c_X0_isLatest l D cA ct ed q0 q1 q2 q3 q4 q5 q6 q7 q8 q9 q10 q11 q12 q13 q14 q15 q16 q17 q18 q19 11 e (by first | assumption | omega) (by first | assumption | omega) (by first | assumption | omega) (by first | assumption | omega)) (by decide +kernel) aX0_isLatest rfl rfl rfl ⟨rfl, rfl⟩ (by decide) (Nat.le_of_ble_eq_true rfl) [0, 1, 2, 3, 4, 5, 6, 7, 8, 9, 10, 11, 12, 13, 14, 15, 16, 17, 18, 19, 20, 21, 22, 23] [] [] rfl rfl rfl (fun r w' hp => ?_)
  obtain ⟨rfl, rfl⟩ := hp
  show G X mX0_has ad 0 0 (apW ct ed q0 q1 q2 q3 q4 q5 q6 q7 q8 q9 q10 q11 q12 q13 q14 q15 q16 q17 q18 q19, 6, [(0, gr 36), (1, gi 11), (2, gi e), (3, gi who)], [gi (gb (gLt ct ed 11 e))])
  refine g_if_ne hX 11 rfl rfl (gb_r _) (fun b6 => ?_) (fun b6 => ?_)
  ·
    have b6 := gb_n0 b6
    refine G.go hX 2 (apW ct ed q0 q1 q2 q3 q4 q5 q6 q7 q8 q9 q10 q11 q12 q13 q14 q15 q16 q17 q18 q19, 14, [(0, gr 36), (1, gi 11), (2, gi e), (3, gi who), (4, gi 0)], []) rfl trivial ?_
    have lp14 : ∀ (n : Nat) (i : Int), (0 ≤ i ∧ i ≤ 6) → (∀ j : Int, 0 ≤ j → j < i → q11 j ≠ who) → (6 - i).toNat < n → G X mX0_has ad 0 0 (apW ct ed q0 q1 q2 q3 q4 q5 q6 q7 q8 q9 q10 q11 q12 q13 q14 q15 q16 q17 q18 q19, 14, [(0, gr 36), (1, gi 11), (2, gi e), (3, gi who), (4, gi i)], []) := by
      intro n
      induction n with
      | zero => intro i hi hno hm9; exact absurd hm9 (Nat.not_lt_zero _)
      | succ n ih14 =>
        intro i hi hno hm14
        refine G.go hX 5 (apW ct ed q0 q1 q2 q3 q4 q5 q6 q7 q8 q9 q10 q11 q12 q13 q14 q15 q16 q17 q18 q19, 22, [(0, gr 36), (1, gi 11), (2, gi e), (3, gi who), (4, gi i)], [gi (ct 11), gi i]) rfl ?_ ?_
        · refine ⟨?_, trivial⟩
          · omega
        refine g_icmp_ge hX 53 rfl rfl ⟨by have := hct 11; omega, by have := hct 11; omega⟩ ⟨by have := hct 11; omega, by have := hct 11; omega⟩ (fun b22 => ?_) (fun b22 => ?_)
        ·
          refine G.go hX 1 (apW ct ed q0 q1 q2 q3 q4 q5 q6 q7 q8 q9 q10 q11 q12 q13 q14 q15 q16 q17 q18 q19, 54, [(0, gr 36), (1, gi 11), (2, gi e), (3, gi who), (4, gi i)], [gi 0]) rfl trivial ?_
          exact g_zret hX hE rfl (Or.inl rfl) ⟨(congrArg (fun z => some (gi z)) (gb_f (by exact fun ⟨_, j, h1, h2, h3⟩ => hno j h1 (by have := hct 11; omega) h3)).symm), rfl⟩
        ·
          refine G.go hX 2 (apW ct ed q0 q1 q2 q3 q4 q5 q6 q7 q8 q9 q10 q11 q12 q13 q14 q15 q16 q17 q18 q19, 29, [(0, gr 36), (1, gi 11), (2, gi e), (3, gi who), (4, gi i)], [gi 6, gi i]) rfl trivial ?_
          refine g_icmp_ge hX 53 rfl rfl ⟨by omega, by omega⟩ ⟨by omega, by omega⟩ (fun b29 => ?_) (fun b29 => ?_)
          ·
            refine G.go hX 1 (apW ct ed q0 q1 q2 q3 q4 q5 q6 q7 q8 q9 q10 q11 q12 q13 q14 q15 q16 q17 q18 q19, 54, [(0, gr 36), (1, gi 11), (2, gi e), (3, gi who), (4, gi i)], [gi 0]) rfl trivial ?_
            exact g_zret hX hE rfl (Or.inl rfl) ⟨(congrArg (fun z => some (gi z)) (gb_f (by exact fun ⟨_, j, h1, h2, h3⟩ => hno j h1 (by have := hct 11; omega) h3)).symm), rfl⟩
          ·
            refine G.go hX 3 (apW ct ed q0 q1 q2 q3 q4 q5 q6 q7 q8 q9 q10 q11 q12 q13 q14 q15 q16 q17 q18 q19, 37, [(0, gr 36), (1, gi 11), (2, gi e), (3, gi who), (4, gi i)], [gi 11, gr 39]) rfl trivial ?_
            refine g_aald hX 51 rfl rfl (by omega) rfl ?_
            refine G.go hX 3 (apW ct ed q0 q1 q2 q3 q4 q5 q6 q7 q8 q9 q10 q11 q12 q13 q14 q15 q16 q17 q18 q19, 42, [(0, gr 36), (1, gi 11), (2, gi e), (3, gi who), (4, gi i)], [gi who, gi (q11 i)]) rfl ?_ ?_
            · refine ⟨?_, trivial⟩
              · omega
            refine g_icmp_ne hX 47 rfl rfl (by first | exact hq _ | assumption) (by first | exact hq _ | assumption) (fun b42 => ?_) (fun b42 => ?_)
            ·
              refine G.go hX 2 (apW ct ed q0 q1 q2 q3 q4 q5 q6 q7 q8 q9 q10 q11 q12 q13 q14 q15 q16 q17 q18 q19, 14, [(0, gr 36), (1, gi 11), (2, gi e), (3, gi who), (4, gi (i + 1))], []) rfl trivial ?_
              exact ih14 (i + 1) (by omega) (by intro j h1 h2; by_cases e9 : j = i; (subst e9; omega); exact hno j h1 (by omega)) (by omega)
            ·
              refine G.go hX 1 (apW ct ed q0 q1 q2 q3 q4 q5 q6 q7 q8 q9 q10 q11 q12 q13 q14 q15 q16 q17 q18 q19, 46, [(0, gr 36), (1, gi 11), (2, gi e), (3, gi who), (4, gi i)], [gi 1]) rfl trivial ?_
              exact g_zret hX hE rfl (Or.inr rfl) ⟨(congrArg (fun z => some (gi z)) (gb_t (by exact ⟨b6, i, by omega, by omega, by omega⟩)).symm), rfl⟩
    exact lp14 _ 0 (by omega) (by intro j h1 h2; omega) (Nat.lt_succ_self _)
  ·
    have b6 := gb_nn b6
    refine G.go hX 1 (apW ct ed q0 q1 q2 q3 q4 q5 q6 q7 q8 q9 q10 q11 q12 q13 q14 q15 q16 q17 q18 q19, 10, [(0, gr 36), (1, gi 11), (2, gi e), (3, gi who)], [gi 0]) rfl trivial ?_
    exact g_zret hX hE rfl (Or.inl rfl) ⟨(congrArg (fun z => some (gi z)) (gb_f (by exact fun h9 => b6 h9.1)).symm), rfl⟩
set_option maxHeartbeats 4000000 in
set_option maxRecDepth 100000 in
theorem c_X0_has_12 (l : Launch) (D : va_G) (cA : Nat → ClassId) (ct : Int → Int) (ed : Int → Int) (q0 : Int → Int) (q1 : Int → Int) (q2 : Int → Int) (q3 : Int → Int) (q4 : Int → Int) (q5 : Int → Int) (q6 : Int → Int) (q7 : Int → Int) (q8 : Int → Int) (q9 : Int → Int) (q10 : Int → Int) (q11 : Int → Int) (q12 : Int → Int) (q13 : Int → Int) (q14 : Int → Int) (q15 : Int → Int) (q16 : Int → Int) (q17 : Int → Int) (q18 : Int → Int) (q19 : Int → Int) (e : Int) (who : Int) (hct : ∀ q : Int, 0 ≤ ct q ∧ ct q ≤ 6) (hed : ∀ q : Int, inR (ed q)) (he : inR e) (hq : ∀ j : Int, inR (q12 j)) (hw : inR who) :
    gC l D cA yX0_has mX0_has (some .boolean) 0 0 [gr 36, gi 12, gi e, gi who] (apW ct ed q0 q1 q2 q3 q4 q5 q6 q7 q8 q9 q10 q11 q12 q13 q14 q15 q16 q17 q18 q19) (fun r9 w9 => r9 = some (gi (gb (gLt ct ed 12 e ∧ ∃ j : Int, 0 ≤ j ∧ j < ct 12 ∧ q12 j = who))) ∧ w9 = apW ct ed q0 q1 q2 q3 q4 q5 q6 q7 q8 q9 q10 q11 q12 q13 q14 q15 q16 q17 q18 q19) := by
  refine gC_of rfl kX0_has rfl rfl (Nat.le_of_ble_eq_true rfl) (fun X ad hX hE => ?_)
  refine G.go hX 3 (apW ct ed q0 q1 q2 q3 q4 q5 q6 q7 q8 q9 q10 q11 q12 q13 q14 q15 q16 q17 q18 q19, 3, [(0, gr 36), (1, gi 12), (2, gi e), (3, gi who)], [gi e, gi 12, gr 36]) rfl trivial ?_
  refine G.callV (av := [gi 12, gi e]) (o := 36) (st := []) hX rfl (fun l D cA => c_X0_isLatest l D cA ct ed q0 q1 q2 q3 q4 q5 q6 q7 q8 q9 q10 q11 q12 q13 q14 q15 q16 q17 q18 q19 12 e (by first | assumption | omega) (by first | assumption | omega) (by first | assumption | omega) (by first | assumption | omega)) (by decide +kernel) aX0_isLatest rfl rfl rfl ⟨rfl, rfl⟩ (by decide) (Nat.le_of_ble_eq_true rfl) [0, 1, 2, 3, 4, 5, 6, 7, 8, 9, 10, 11, 12, 13, 14, 15, 16, 17, 18, 19, 20, 21, 22, 23] [] [] rfl rfl rfl (fun r w' hp => ?_)
  obtain ⟨rfl, rfl⟩ := hp
  show G X mX0_has ad 0 0 (apW ct ed q0 q1 q2 q3 q4 q5 q6 q7 q8 q9 q10 q11 q12 q13 q14 q15 q16 q17 q18 q19, 6, [(0, gr 36), (1, gi 12), (2, gi e), (3, gi who)], [gi (gb (gLt ct ed 12 e))])
  refine g_if_ne hX 11 rfl rfl (gb_r _) (fun b6 => ?_) (fun b6 => ?_)
  ·
    have b6 := gb_n0 b6
    refine G.go hX 2 (apW ct ed q0 q1 q2 q3 q4 q5 q6 q7 q8 q9 q10 q11 q12 q13 q14 q15 q16 q17 q18 q19, 14, [(0, gr 36), (1, gi 12), (2, gi e), (3, gi who), (4, gi 0)], []) rfl trivial ?_
    have lp14 : ∀ (n : Nat) (i : Int), (0 ≤ i ∧ i ≤ 6) → (∀ j : Int, 0 ≤ j → j < i → q12 j ≠ who) → (6 - i).toNat < n → G X mX0_has ad 0 0 (apW ct ed q0 q1 q2 q3 q4 q5 q6 q7 q8 q9 q10 q11 q12 q13 q14 q15 q16 q17 q18 q19, 14, [(0, gr 36), (1, gi 12), (2, gi e), (3, gi who), (4, gi i)], []) := by
      intro n
      induction n with
      | zero => intro i hi hno hm9; exact absurd hm9 (Nat.not_lt_zero _)
      | succ n ih14 =>
        intro i hi hno hm14
        refine G.go hX 5 (apW ct ed q0 q1 q2 q3 q4 q5 q6 q7 q8 q9 q10 q11 q12 q13 q14 q15 q16 q17 q18 q19, 22, [(0, gr 36), (1, gi 12), (2, gi e), (3, gi who), (4, gi i)], [gi (ct 12), gi i]) rfl ?_ ?_
        · refine ⟨?_, trivial⟩
          · omega
        refine g_icmp_ge hX 53 rfl rfl ⟨by have := hct 12; omega, by have := hct 12; omega⟩ ⟨by have := hct 12; omega, by have := hct 12; omega⟩ (fun b22 => ?_) (fun b22 => ?_)
        ·
          refine G.go hX 1 (apW ct ed q0 q1 q2 q3 q4 q5 q6 q7 q8 q9 q10 q11 q12 q13 q14 q15 q16 q17 q18 q19, 54, [(0, gr 36), (1, gi 12), (2, gi e), (3, gi who), (4, gi i)], [gi 0]) rfl trivial ?_
          exact g_zret hX hE rfl (Or.inl rfl) ⟨(congrArg (fun z => some (gi z)) (gb_f (by exact fun ⟨_, j, h1, h2, h3⟩ => hno j h1 (by have := hct 12; omega) h3)).symm), rfl⟩
        ·
          refine G.go hX 2 (apW ct ed q0 q1 q2 q3 q4 q5 q6 q7 q8 q9 q10 q11 q12 q13 q14 q15 q16 q17 q18 q19, 29, [(0, gr 36), (1, gi 12), (2, gi e), (3, gi who), (4, gi i)], [gi 6, gi i]) rfl trivial ?_
          refine g_icmp_ge hX 53 rfl rfl ⟨by omega, by omega⟩ ⟨by omega, by omega⟩ (fun b29 => ?_) (fun b29 => ?_)
          ·
            refine G.go hX 1 (apW ct ed q0 q1 q2 q3 q4 q5 q6 q7 q8 q9 q10 q11 q12 q13 q14 q15 q16 q17 q18 q19, 54, [(0, gr 36), (1, gi 12), (2, gi e), (3, gi who), (4, gi i)], [gi 0]) rfl trivial ?_
            exact g_zret hX hE rfl (Or.inl rfl) ⟨(congrArg (fun z => some (gi z)) (gb_f (by exact fun ⟨_, j, h1, h2, h3⟩ => hno j h1 (by have := hct 12; omega) h3)).symm), rfl⟩
          ·
            refine G.go hX 3 (apW ct ed q0 q1 q2 q3 q4 q5 q6 q7 q8 q9 q10 q11 q12 q13 q14 q15 q16 q17 q18 q19, 37, [(0, gr 36), (1, gi 12), (2, gi e), (3, gi who), (4, gi i)], [gi 12, gr 39]) rfl trivial ?_
            refine g_aald hX 52 rfl rfl (by omega) rfl ?_
            refine G.go hX 3 (apW ct ed q0 q1 q2 q3 q4 q5 q6 q7 q8 q9 q10 q11 q12 q13 q14 q15 q16 q17 q18 q19, 42, [(0, gr 36), (1, gi 12), (2, gi e), (3, gi who), (4, gi i)], [gi who, gi (q12 i)]) rfl ?_ ?_
            · refine ⟨?_, trivial⟩
              · omega
            refine g_icmp_ne hX 47 rfl rfl (by first | exact hq _ | assumption) (by first | exact hq _ | assumption) (fun b42 => ?_) (fun b42 => ?_)
            ·
              refine G.go hX 2 (apW ct ed q0 q1 q2 q3 q4 q5 q6 q7 q8 q9 q10 q11 q12 q13 q14 q15 q16 q17 q18 q19, 14, [(0, gr 36), (1, gi 12), (2, gi e), (3, gi who), (4, gi (i + 1))], []) rfl trivial ?_
              exact ih14 (i + 1) (by omega) (by intro j h1 h2; by_cases e9 : j = i; (subst e9; omega); exact hno j h1 (by omega)) (by omega)
            ·
              refine G.go hX 1 (apW ct ed q0 q1 q2 q3 q4 q5 q6 q7 q8 q9 q10 q11 q12 q13 q14 q15 q16 q17 q18 q19, 46, [(0, gr 36), (1, gi 12), (2, gi e), (3, gi who), (4, gi i)], [gi 1]) rfl trivial ?_
              exact g_zret hX hE rfl (Or.inr rfl) ⟨(congrArg (fun z => some (gi z)) (gb_t (by exact ⟨b6, i, by omega, by omega, by omega⟩)).symm), rfl⟩
    exact lp14 _ 0 (by omega) (by intro j h1 h2; omega) (Nat.lt_succ_self _)
  ·
    have b6 := gb_nn b6
    refine G.go hX 1 (apW ct ed q0 q1 q2 q3 q4 q5 q6 q7 q8 q9 q10 q11 q12 q13 q14 q15 q16 q17 q18 q19, 10, [(0, gr 36), (1, gi 12), (2, gi e), (3, gi who)], [gi 0]) rfl trivial ?_
    exact g_zret hX hE rfl (Or.inl rfl) ⟨(congrArg (fun z => some (gi z)) (gb_f (by exact fun h9 => b6 h9.1)).symm), rfl⟩
set_option maxHeartbeats 4000000 in
set_option maxRecDepth 100000 in
theorem c_X0_has_13 (l : Launch) (D : va_G) (cA : Nat → ClassId) (ct : Int → Int) (ed : Int → Int) (q0 : Int → Int) (q1 : Int → Int) (q2 : Int → Int) (q3 : Int → Int) (q4 : Int → Int) (q5 : Int → Int) (q6 : Int → Int) (q7 : Int → Int) (q8 : Int → Int) (q9 : Int → Int) (q10 : Int → Int) (q11 : Int → Int) (q12 : Int → Int) (q13 : Int → Int) (q14 : Int → Int) (q15 : Int → Int) (q16 : Int → Int) (q17 : Int → Int) (q18 : Int → Int) (q19 : Int → Int) (e : Int) (who : Int) (hct : ∀ q : Int, 0 ≤ ct q ∧ ct q ≤ 6) (hed : ∀ q : Int, inR (ed q)) (he : inR e) (hq : ∀ j : Int, inR (q13 j)) (hw : inR who) :
    gC l D cA yX0_has mX0_has (some .boolean) 0 0 [gr 36, gi 13, gi e, gi who] (apW ct ed q0 q1 q2 q3 q4 q5 q6 q7 q8 q9 q10 q11 q12 q13 q14 q15 q16 q17 q18 q19) (fun r9 w9 => r9 = some (gi (gb (gLt ct ed 13 e ∧ ∃ j : Int, 0 ≤ j ∧ j < ct 13 ∧ q13 j = who))) ∧ w9 = apW ct ed q0 q1 q2 q3 q4 q5 q6 q7 q8 q9 q10 q11 q12 q13 q14 q15 q16 q17 q18 q19) := by
  refine gC_of rfl kX0_has rfl rfl (Nat.le_of_ble_eq_true rfl) (fun X ad hX hE => ?_)
  refine G.go hX 3 (apW ct ed q0 q1 q2 q3 q4 q5 q6 q7 q8 q9 q10 q11 q12 q13 q14 q15 q16 q17 q18 q19, 3, [(0, gr 36), (1, gi 13), (2, gi e), (3, gi who)], [gi e, gi 13, gr 36]) rfl trivial ?_
  refine G.callV (av := [gi 13, gi e]) (o := 36) (st := []) hX rfl (fun l D cA => c_X0_isLatest l D cA ct ed q0 q1 q2 q3 q4 q5 q6 q7 q8 q9 q10 q11 q12 q13 q14 q15 q16 q17 q18 q19 13 e (by first | assumption | omega) (by first | assumption | omega) (by first | assumption | omega) (by first | assumption | omega)) (by decide +kernel) aX0_isLatest rfl rfl rfl ⟨rfl, rfl⟩ (by decide) (Nat.le_of_ble_eq_true rfl) [0, 1, 2, 3, 4, 5, 6, 7, 8, 9, 10, 11, 12, 13, 14, 15, 16, 17, 18, 19, 20, 21, 22, 23] [] [] rfl rfl rfl (fun r w' hp => ?_)
  obtain ⟨rfl, rfl⟩ := hp
  show G X mX0_has ad 0 0 (apW ct ed q0 q1 q2 q3 q4 q5 q6 q7 q8 q9 q10 q11 q12 q13 q14 q15 q16 q17 q18 q19, 6, [(0, gr 36), (1, gi 13), (2, gi e), (3, gi who)], [gi (gb (gLt ct ed 13 e))])
  refine g_if_ne hX 11 rfl rfl (gb_r _) (fun b6 => ?_) (fun b6 => ?_)
  ·
    have b6 := gb_n0 b6
    refine G.go hX 2 (apW ct ed q0 q1 q2 q3 q4 q5 q6 q7 q8 q9 q10 q11 q12 q13 q14 q15 q16 q17 q18 q19, 14, [(0, gr 36), (1, gi 13), (2, gi e), (3, gi who), (4, gi 0)], []) rfl trivial ?_
    have lp14 : ∀ (n : Nat) (i : Int), (0 ≤ i ∧ i ≤ 6) → (∀ j : Int, 0 ≤ j → j < i → q13 j ≠ who) → (6 - i).toNat < n → G X mX0_has ad 0 0 (apW ct ed q0 q1 q2 q3 q4 q5 q6 q7 q8 q9 q10 q11 q12 q13 q14 q15 q16 q17 q18 q19, 14, [(0, gr 36), (1, gi 13), (2, gi e), (3, gi who), (4, gi i)], []) := by
      intro n
      induction n with
      | zero => intro i hi hno hm9; exact absurd hm9 (Nat.not_lt_zero _)
      | succ n ih14 =>
        intro i hi hno hm14
        refine G.go hX 5 (apW ct ed q0 q1 q2 q3 q4 q5 q6 q7 q8 q9 q10 q11 q12 q13 q14 q15 q16 q17 q18 q19, 22, [(0, gr 36), (1, gi 13), (2, gi e), (3, gi who), (4, gi i)], [gi (ct 13), gi i]) rfl ?_ ?_
        · refine ⟨?_, trivial⟩
          · omega
        refine g_icmp_ge hX 53 rfl rfl ⟨by have := hct 13; omega, by have := hct 13; omega⟩ ⟨by have := hct 13; omega, by have := hct 13; omega⟩ (fun b22 => ?_) (fun b22 => ?_)
        ·
          refine G.go hX 1 (apW ct ed q0 q1 q2 q3 q4 q5 q6 q7 q8 q9 q10 q11 q12 q13 q14 q15 q16 q17 q18 q19, 54, [(0, gr 36), (1, gi 13), (2, gi e), (3, gi who), (4, gi i)], [gi 0]) rfl trivial ?_
          exact g_zret hX hE rfl (Or.inl rfl) ⟨(congrArg (fun z => some (gi z)) (gb_f (by exact fun ⟨_, j, h1, h2, h3⟩ => hno j h1 (by have := hct 13; omega) h3)).symm), rfl⟩
        ·
          refine G.go hX 2 (apW ct ed q0 q1 q2 q3 q4 q5 q6 q7 q8 q9 q10 q11 q12 q13 q14 q15 q16 q17 q18 q19, 29, [(0, gr 36), (1, gi 13), (2, gi e), (3, gi who), (4, gi i)], [gi 6, gi i]) rfl trivial ?_
          refine g_icmp_ge hX 53 rfl rfl ⟨by omega, by omega⟩ ⟨by omega, by omega⟩ (fun b29 => ?_) (fun b29 => ?_)
          ·
            refine G.go hX 1 (apW ct ed q0 q1 q2 q3 q4 q5 q6 q7 q8 q9 q10 q11 q12 q13 q14 q15 q16 q17 q18 q19, 54, [(0, gr 36), (1, gi 13), (2, gi e), (3, gi who), (4, gi i)], [gi 0]) rfl trivial ?_
            exact g_zret hX hE rfl (Or.inl rfl) ⟨(congrArg (fun z => some (gi z)) (gb_f (by exact fun ⟨_, j, h1, h2, h3⟩ => hno j h1 (by have := hct 13; omega) h3)).symm), rfl⟩
          ·
            refine G.go hX 3 (apW ct ed q0 q1 q2 q3 q4 q5 q6 q7 q8 q9 q10 q11 q12 q13 q14 q15 q16 q17 q18 q19, 37, [(0, gr 36), (1, gi 13), (2, gi e), (3, gi who), (4, gi i)], [gi 13, gr 39]) rfl trivial ?_
            refine g_aald hX 53 rfl rfl (by omega) rfl ?_
            refine G.go hX 3 (apW ct ed q0 q1 q2 q3 q4 q5 q6 q7 q8 q9 q10 q11 q12 q13 q14 q15 q16 q17 q18 q19, 42, [(0, gr 36), (1, gi 13), (2, gi e), (3, gi who), (4, gi i)], [gi who, gi (q13 i)]) rfl ?_ ?_
            · refine ⟨?_, trivial⟩
              · omega
            refine g_icmp_ne hX 47 rfl rfl (by first | exact hq _ | assumption) (by first | exact hq _ | assumption) (fun b42 => ?_) (fun b42 => ?_)
            ·
              refine G.go hX 2 (apW ct ed q0 q1 q2 q3 q4 q5 q6 q7 q8 q9 q10 q11 q12 q13 q14 q15 q16 q17 q18 q19, 14, [(0, gr 36), (1, gi 13), (2, gi e), (3, gi who), (4, gi (i + 1))], []) rfl trivial ?_
              exact ih14 (i + 1) (by omega) (by intro j h1 h2; by_cases e9 : j = i; (subst e9; omega); exact hno j h1 (by omega)) (by omega)
            ·
              refine G.go hX 1 (apW ct ed q0 q1 q2 q3 q4 q5 q6 q7 q8 q9 q10 q11 q12 q13 q14 q15 q16 q17 q18 q19, 46, [(0, gr 36), (1, gi 13), (2, gi e), (3, gi who), (4, gi i)], [gi 1]) rfl trivial ?_
              exact g_zret hX hE rfl (Or.inr rfl) ⟨(congrArg (fun z => some (gi z)) (gb_t (by exact ⟨b6, i, by omega, by omega, by omega⟩)).symm), rfl⟩
    exact lp14 _ 0 (by omega) (by intro j h1 h2; omega) (Nat.lt_succ_self _)
  ·
    have b6 := gb_nn b6
    refine G.go hX 1 (apW ct ed q0 q1 q2 q3 q4 q5 q6 q7 q8 q9 q10 q11 q12 q13 q14 q15 q16 q17 q18 q19, 10, [(0, gr 36), (1, gi 13), (2, gi e), (3, gi who)], [gi 0]) rfl trivial ?_
    exact g_zret hX hE rfl (Or.inl rfl) ⟨(congrArg (fun z => some (gi z)) (gb_f (by exact fun h9 => b6 h9.1)).symm), rfl⟩
set_option maxHeartbeats 4000000 in
set_option maxRecDepth 100000 in
theorem c_X0_has_14 (l : Launch) (D : va_G) (cA : Nat → ClassId) (ct : Int → Int) (ed : Int → Int) (q0 : Int → Int) (q1 : Int → Int) (q2 : Int → Int) (q3 : Int → Int) (q4 : Int → Int) (q5 : Int → Int) (q6 : Int → Int) (q7 : Int → Int) (q8 : Int → Int) (q9 : Int → Int) (q10 : Int → Int) (q11 : Int → Int) (q12 : Int → Int) (q13 : Int → Int) (q14 : Int → Int) (q15 : Int → Int) (q16 : Int → Int) (q17 : Int → Int) (q18 : Int → Int) (q19 : Int → Int) (e : Int) (who : Int) (hct : ∀ q : Int, 0 ≤ ct q ∧ ct q ≤ 6) (hed : ∀ q : Int, inR (ed q)) (he : inR e) (hq : ∀ j : Int, inR (q14 j)) (hw : inR who) :
    gC l D cA yX0_has mX0_has (some .boolean) 0 0 [gr 36, gi 14, gi e, gi who] (apW ct ed q0 q1 q2 q3 q4 q5 q6 q7 q8 q9 q10 q11 q12 q13 q14 q15 q16 q17 q18 q19) (fun r9 w9 => r9 = some (gi (gb (gLt ct ed 14 e ∧ ∃ j : Int, 0 ≤ j ∧ j < ct 14 ∧ q14 j = who))) ∧ w9 = apW ct ed q0 q1 q2 q3 q4 q5 q6 q7 q8 q9 q10 q11 q12 q13 q14 q15 q16 q17 q18 q19) := by
  refine gC_of rfl kX0_has rfl rfl (Nat.le_of_ble_eq_true rfl) (fun X ad hX hE => ?_)
  refine G.go hX 3 (apW ct ed q0 q1 q2 q3 q4 q5 q6 q7 q8 q9 q10 q11 q12 q13 q14 q15 q16 q17 q18 q19, 3, [(0, gr 36), (1, gi 14), (2, gi e), (3, gi who)], [gi e, gi 14, gr 36]) rfl trivial ?_
  refine G.callV (av := [gi 14, gi e]) (o := 36) (st := []) hX rfl (fun l D cA => c_X0_isLatest l D cA ct ed q0 q1 q2 q3 q4 q5 q6 q7 q8 q9 q10 q11 q12 q13 q14 q15 q16 q17 q18 q19 14 e (by first | assumption | omega) (by first | assumption | omega) (by first | assumption | omega) (by first | assumption | omega)) (by decide +kernel) aX0_isLatest rfl rfl rfl ⟨rfl, rfl⟩ (by decide) (Nat.le_of_ble_eq_true rfl) [0, 1, 2, 3, 4, 5, 6, 7, 8, 9, 10, 11, 12, 13, 14, 15, 16, 17, 18, 19, 20, 21, 22, 23] [] [] rfl rfl rfl (fun r w' hp => ?_)
  obtain ⟨rfl, rfl⟩ := hp
  show G X mX0_has ad 0 0 (apW ct ed q0 q1 q2 q3 q4 q5 q6 q7 q8 q9 q10 q11 q12 q13 q14 q15 q16 q17 q18 q19, 6, [(0, gr 36), (1, gi 14), (2, gi e), (3, gi who)], [gi (gb (gLt ct ed 14 e))])
  refine g_if_ne hX 11 rfl rfl (gb_r _) (fun b6 => ?_) (fun b6 => ?_)
  ·
    have b6 := gb_n0 b6
    refine G.go hX 2 (apW ct ed q0 q1 q2 q3 q4 q5 q6 q7 q8 q9 q10 q11 q12 q13 q14 q15 q16 q17 q18 q19, 14, [(0, gr 36), (1, gi 14), (2, gi e), (3, gi who), (4, gi 0)], []) rfl trivial ?_
    have lp14 : ∀ (n : Nat) (i : Int), (0 ≤ i ∧ i ≤ 6) → (∀ j : Int, 0 ≤ j → j < i → q14 j ≠ who) → (6 - i).toNat < n → G X mX0_has ad 0 0 (apW ct ed q0 q1 q2 q3 q4 q5 q6 q7 q8 q9 q10 q11 q12 q13 q14 q15 q16 q17 q18 q19, 14, [(0, gr 36), (1, gi 14), (2, gi e), (3, gi who), (4, gi i)], []) := by
      intro n
      induction n with
      | zero => intro i hi hno hm9; exact absurd hm9 (Nat.not_lt_zero _)
      | succ n ih14 =>
        intro i hi hno hm14
        refine G.go hX 5 (apW ct ed q0 q1 q2 q3 q4 q5 q6 q7 q8 q9 q10 q11 q12 q13 q14 q15 q16 q17 q18 q19, 22, [(0, gr 36), (1, gi 14), (2, gi e), (3, gi who), (4, gi i)], [gi (ct 14), gi i]) rfl ?_ ?_
        · refine ⟨?_, trivial⟩
          · omega
        refine g_icmp_ge hX 53 rfl rfl ⟨by have := hct 14; omega, by have := hct 14; omega⟩ ⟨by have := hct 14; omega, by have := hct 14; omega⟩ (fun b22 => ?_) (fun b22 => ?_)
        ·
          refine G.go hX 1 (apW ct ed q0 q1 q2 q3 q4 q5 q6 q7 q8 q9 q10 q11 q12 q13 q14 q15 q16 q17 q18 q19, 54, [(0, gr 36), (1, gi 14), (2, gi e), (3, gi who), (4, gi i)], [gi 0]) rfl trivial ?_
          exact g_zret hX hE rfl (Or.inl rfl) ⟨(congrArg (fun z => some (gi z)) (gb_f (by exact fun ⟨_, j, h1, h2, h3⟩ => hno j h1 (by have := hct 14; omega) h3)).symm), rfl⟩
        ·
          refine G.go hX 2 (apW ct ed q0 q1 q2 q3 q4 q5 q6 q7 q8 q9 q10 q11 q12 q13 q14 q15 q16 q17 q18 q19, 29, [(0, gr 36), (1, gi 14), (2, gi e), (3, gi who), (4, gi i)], [gi 6, gi i]) rfl trivial ?_
          refine g_icmp_ge hX 53 rfl rfl ⟨by omega, by omega⟩ ⟨by omega, by omega⟩ (fun b29 => ?_) (fun b29 => ?_)
          ·
            refine G.go hX 1 (apW ct ed q0 q1 q2 q3 q4 q5 q6 q7 q8 q9 q10 q11 q12 q13 q14 q15 q16 q17 q18 q19, 54, [(0, gr 36), (1, gi 14), (2, gi e), (3, gi who), (4, gi i)], [gi 0]) rfl trivial ?_
            exact g_zret hX hE rfl (Or.inl rfl) ⟨(congrArg (fun z => some (gi z)) (gb_f (by exact fun ⟨_, j, h1, h2, h3⟩ => hno j h1 (by have := hct 14; omega) h3)).symm), rfl⟩
          ·
            refine G.go hX 3 (apW ct ed q0 q1 q2 q3 q4 q5 q6 q7 q8 q9 q10 q11 q12 q13 q14 q15 q16 q17 q18 q19, 37, [(0, gr 36), (1, gi 14), (2, gi e), (3, gi who), (4, gi i)], [gi 14, gr 39]) rfl trivial ?_
            refine g_aald hX 54 rfl rfl (by omega) rfl ?_
            refine G.go hX 3 (apW ct ed q0 q1 q2 q3 q4 q5 q6 q7 q8 q9 q10 q11 q12 q13 q14 q15 q16 q17 q18 q19, 42, [(0, gr 36), (1, gi 14), (2, gi e), (3, gi who), (4, gi i)], [gi who, gi (q14 i)]) rfl ?_ ?_
            · refine ⟨?_, trivial⟩
              · omega
            refine g_icmp_ne hX 47 rfl rfl (by first | exact hq _ | assumption) (by first | exact hq _ | assumption) (fun b42 => ?_) (fun b42 => ?_)
            ·
              refine G.go hX 2 (apW ct ed q0 q1 q2 q3 q4 q5 q6 q7 q8 q9 q10 q11 q12 q13 q14 q15 q16 q17 q18 q19, 14, [(0, gr 36), (1, gi 14), (2, gi e), (3, gi who), (4, gi (i + 1))], []) rfl trivial ?_
              exact ih14 (i + 1) (by omega) (by intro j h1 h2; by_cases e9 : j = i; (subst e9; omega); exact hno j h1 (by omega)) (by omega)
            ·
              refine G.go hX 1 (apW ct ed q0 q1 q2 q3 q4 q5 q6 q7 q8 q9 q10 q11 q12 q13 q14 q15 q16 q17 q18 q19, 46, [(0, gr 36), (1, gi 14), (2, gi e), (3, gi who), (4, gi i)], [gi 1]) rfl trivial ?_
              exact g_zret hX hE rfl (Or.inr rfl) ⟨(congrArg (fun z => some (gi z)) (gb_t (by exact ⟨b6, i, by omega, by omega, by omega⟩)).symm), rfl⟩
    exact lp14 _ 0 (by omega) (by intro j h1 h2; omega) (Nat.lt_succ_self _)
  ·
    have b6 := gb_nn b6
    refine G.go hX 1 (apW ct ed q0 q1 q2 q3 q4 q5 q6 q7 q8 q9 q10 q11 q12 q13 q14 q15 q16 q17 q18 q19, 10, [(0, gr 36), (1, gi 14), (2, gi e), (3, gi who)], [gi 0]) rfl trivial ?_
    exact g_zret hX hE rfl (Or.inl rfl) ⟨(congrArg (fun z => some (gi z)) (gb_f (by exact fun h9 => b6 h9.1)).symm), rfl⟩
set_option maxHeartbeats 4000000 in
set_option maxRecDepth 100000 in
theorem c_X0_has_15 (l : Launch) (D : va_G) (cA : Nat → ClassId) (ct : Int → Int) (ed : Int → Int) (q0 : Int → Int) (q1 : Int → Int) (q2 : Int → Int) (q3 : Int → Int) (q4 : Int → Int) (q5 : Int → Int) (q6 : Int → Int) (q7 : Int → Int) (q8 : Int → Int) (q9 : Int → Int) (q10 : Int → Int) (q11 : Int → Int) (q12 : Int → Int) (q13 : Int → Int) (q14 : Int → Int) (q15 : Int → Int) (q16 : Int → Int) (q17 : Int → Int) (q18 : Int → Int) (q19 : Int → Int) (e : Int) (who : Int) (hct : ∀ q : Int, 0 ≤ ct q ∧ ct q ≤ 6) (hed : ∀ q : Int, inR (ed q)) (he : inR e) (hq : ∀ j : Int, inR (q15 j)) (hw : inR who) :
    gC l D cA yX0_has mX0_has (some .boolean) 0 0 [gr 36, gi 15, gi e, gi who] (apW ct ed q0 q1 q2 q3 q4 q5 q6 q7 q8 q9 q10 q11 q12 q13 q14 q15 q16 q17 q18 q19) (fun r9 w9 => r9 = some (gi (gb (gLt ct ed 15 e ∧ ∃ j : Int, 0 ≤ j ∧ j < ct 15 ∧ q15 j = who))) ∧ w9 = apW ct ed q0 q1 q2 q3 q4 q5 q6 q7 q8 q9 q10 q11 q12 q13 q14 q15 q16 q17 q18 q19) := by
  refine gC_of rfl kX0_has rfl rfl (Nat.le_of_ble_eq_true rfl) (fun X ad hX hE => ?_)
  refine G.go hX 3 (apW ct ed q0 q1 q2 q3 q4 q5 q6 q7 q8 q9 q10 q11 q12 q13 q14 q15 q16 q17 q18 q19, 3, [(0, gr 36), (1, gi 15), (2, gi e), (3, gi who)], [gi e, gi 15, gr 36]) rfl trivial ?_
  refine G.callV (av := [gi 15, gi e]) (o := 36) (st := []) hX rfl (fun l D cA => c_X0_isLatest l D cA ct ed q0 q1 q2 q3 q4 q5 q6 q7 q8 q9 q10 q11 q12 q13 q14 q15 q16 q17 q18 q19 15 e (by first | assumption | omega) (by first | assumption | omega) (by first | assumption | omega) (by first | assumption | omega)) (by decide +kernel) aX0_isLatest rfl rfl rfl ⟨rfl, rfl⟩ (by decide) (Nat.le_of_ble_eq_true rfl) [0, 1, 2, 3, 4, 5, 6, 7, 8, 9, 10, 11, 12, 13, 14, 15, 16, 17, 18, 19, 20, 21, 22, 23] [] [] rfl rfl rfl (fun r w' hp => ?_)
  obtain ⟨rfl, rfl⟩ := hp
  show G X mX0_has ad 0 0 (apW ct ed q0 q1 q2 q3 q4 q5 q6 q7 q8 q9 q10 q11 q12 q13 q14 q15 q16 q17 q18 q19, 6, [(0, gr 36), (1, gi 15), (2, gi e), (3, gi who)], [gi (gb (gLt ct ed 15 e))])
  refine g_if_ne hX 11 rfl rfl (gb_r _) (fun b6 => ?_) (fun b6 => ?_)
  ·
    have b6 := gb_n0 b6
    refine G.go hX 2 (apW ct ed q0 q1 q2 q3 q4 q5 q6 q7 q8 q9 q10 q11 q12 q13 q14 q15 q16 q17 q18 q19, 14, [(0, gr 36), (1, gi 15), (2, gi e), (3, gi who), (4, gi 0)], []) rfl trivial ?_
    have lp14 : ∀ (n : Nat) (i : Int), (0 ≤ i ∧ i ≤ 6) → (∀ j : Int, 0 ≤ j → j < i → q15 j ≠ who) → (6 - i).toNat < n → G X mX0_has ad 0 0 (apW ct ed q0 q1 q2 q3 q4 q5 q6 q7 q8 q9 q10 q11 q12 q13 q14 q15 q16 q17 q18 q19, 14, [(0, gr 36), (1, gi 15), (2, gi e), (3, gi who), (4, gi i)], []) := by
      intro n
      induction n with
      | zero => intro i hi hno hm9; exact absurd hm9 (Nat.not_lt_zero _)
      | succ n ih14 =>
        intro i hi hno hm14
        refine G.go hX 5 (apW ct ed q0 q1 q2 q3 q4 q5 q6 q7 q8 q9 q10 q11 q12 q13 q14 q15 q16 q17 q18 q19, 22, [(0, gr 36), (1, gi 15), (2, gi e), (3, gi who), (4, gi i)], [gi (ct 15), gi i]) rfl ?_ ?_
        · refine ⟨?_, trivial⟩
          · omega
        refine g_icmp_ge hX 53 rfl rfl ⟨by have := hct 15; omega, by have := hct 15; omega⟩ ⟨by have := hct 15; omega, by have := hct 15; omega⟩ (fun b22 => ?_) (fun b22 => ?_)
        ·
          refine G.go hX 1 (apW ct ed q0 q1 q2 q3 q4 q5 q6 q7 q8 q9 q10 q11 q12 q13 q14 q15 q16 q17 q18 q19, 54, [(0, gr 36), (1, gi 15), (2, gi e), (3, gi who), (4, gi i)], [gi 0]) rfl trivial ?_
          exact g_zret hX hE rfl (Or.inl rfl) ⟨(congrArg (fun z => some (gi z)) (gb_f (by exact fun ⟨_, j, h1, h2, h3⟩ => hno j h1 (by have := hct 15; omega) h3)).symm), rfl⟩
        ·
          refine G.go hX 2 (apW ct ed q0 q1 q2 q3 q4 q5 q6 q7 q8 q9 q10 q11 q12 q13 q14 q15 q16 q17 q18 q19, 29, [(0, gr 36), (1, gi 15), (2, gi e), (3, gi who), (4, gi i)], [gi 6, gi i]) rfl trivial ?_
          refine g_icmp_ge hX 53 rfl rfl ⟨by omega, by omega⟩ ⟨by omega, by omega⟩ (fun b29 => ?_) (fun b29 => ?_)
          ·
            refine G.go hX 1 (apW ct ed q0 q1 q2 q3 q4 q5 q6 q7 q8 q9 q10 q11 q12 q13 q14 q15 q16 q17 q18 q19, 54, [(0, gr 36), (1, gi 15), (2, gi e), (3, gi who), (4, gi i)], [gi 0]) rfl trivial ?_
            exact g_zret hX hE rfl (Or.inl rfl) ⟨(congrArg (fun z => some (gi z)) (gb_f (by exact fun ⟨_, j, h1, h2, h3⟩ => hno j h1 (by have := hct 15; omega) h3)).symm), rfl⟩
          ·
            refine G.go hX 3 (apW ct ed q0 q1 q2 q3 q4 q5 q6 q7 q8 q9 q10 q11 q12 q13 q14 q15 q16 q17 q18 q19, 37, [(0, gr 36), (1, gi 15), (2, gi e), (3, gi who), (4, gi i)], [gi 15, gr 39]) rfl trivial ?_
            refine g_aald hX 55 rfl rfl (by omega) rfl ?_
            refine G.go hX 3 (apW ct ed q0 q1 q2 q3 q4 q5 q6 q7 q8 q9 q10 q11 q12 q13 q14 q15 q16 q17 q18 q19, 42, [(0, gr 36), (1, gi 15), (2, gi e), (3, gi who), (4, gi i)], [gi who, gi (q15 i)]) rfl ?_ ?_
            · refine ⟨?_, trivial⟩
              · omega
            refine g_icmp_ne hX 47 rfl rfl (by first | exact hq _ | assumption) (by first | exact hq _ | assumption) (fun b42 => ?_) (fun b42 => ?_)
            ·
              refine G.go hX 2 (apW ct ed q0 q1 q2 q3 q4 q5 q6 q7 q8 q9 q10 q11 q12 q13 q14 q15 q16 q17 q18 q19, 14, [(0, gr 36), (1, gi 15), (2, gi e), (3, gi who), (4, gi (i + 1))], []) rfl trivial ?_
              exact ih14 (i + 1) (by omega) (by intro j h1 h2; by_cases e9 : j = i; (subst e9; omega); exact hno j h1 (by omega)) (by omega)
            ·
              refine G.go hX 1 (apW ct ed q0 q1 q2 q3 q4 q5 q6 q7 q8 q9 q10 q11 q12 q13 q14 q15 q16 q17 q18 q19, 46, [(0, gr 36), (1, gi 15), (2, gi e), (3, gi who), (4, gi i)], [gi 1]) rfl trivial ?_
              exact g_zret hX hE rfl (Or.inr rfl) ⟨(congrArg (fun z => some (gi z)) (gb_t (by exact ⟨b6, i, by omega, by omega, by omega⟩)).symm), rfl⟩
    exact lp14 _ 0 (by omega) (by intro j h1 h2; omega) (Nat.lt_succ_self _)
  ·
    have b6 := gb_nn b6
    refine G.go hX 1 (apW ct ed q0 q1 q2 q3 q4 q5 q6 q7 q8 q9 q10 q11 q12 q13 q14 q15 q16 q17 q18 q19, 10, [(0, gr 36), (1, gi 15), (2, gi e), (3, gi who)], [gi 0]) rfl trivial ?_
    exact g_zret hX hE rfl (Or.inl rfl) ⟨(congrArg (fun z => some (gi z)) (gb_f (by exact fun h9 => b6 h9.1)).symm), rfl⟩
set_option maxHeartbeats 4000000 in
set_option maxRecDepth 100000 in
theorem c_X0_has_16 (l : Launch) (D : va_G) (cA : Nat → ClassId) (ct : Int → Int) (ed : Int → Int) (q0 : Int → Int) (q1 : Int → Int) (q2 : Int → Int) (q3 : Int → Int) (q4 : Int → Int) (q5 : Int → Int) (q6 : Int → Int) (q7 : Int → Int) (q8 : Int → Int) (q9 : Int → Int) (q10 : Int → Int) (q11 : Int → Int) (q12 : Int → Int) (q13 : Int → Int) (q14 : Int → Int) (q15 : Int → Int) (q16 : Int → Int) (q17 : Int → Int) (q18 : Int → Int) (q19 : Int → Int) (e : Int) (who : Int) (hct : ∀ q : Int, 0 ≤ ct q ∧ ct q ≤ 6) (hed : ∀ q : Int, inR (ed q)) (he : inR e) (hq : ∀ j : Int, inR (q16 j)) (hw : inR who) :
    gC l D cA yX0_has mX0_has (some .boolean) 0 0 [gr 36, gi 16, gi e, gi who] (apW ct ed q0 q1 q2 q3 q4 q5 q6 q7 q8 q9 q10 q11 q12 q13 q14 q15 q16 q17 q18 q19) (fun r9 w9 => r9 = some (gi (gb (gLt ct ed 16 e ∧ ∃ j : Int, 0 ≤ j ∧ j < ct 16 ∧ q16 j = who))) ∧ w9 = apW ct ed q0 q1 q2 q3 q4 q5 q6 q7 q8 q9 q10 q11 q12 q13 q14 q15 q16 q17 q18 q19) := by
  refine gC_of rfl kX0_has rfl rfl (Nat.le_of_ble_eq_true rfl) (fun X ad hX hE => ?_)
  refine G.go hX 3 (apW ct ed q0 q1 q2 q3 q4 q5 q6 q7 q8 q9 q10 q11 q12 q13 q14 q15 q16 q17 q18 q19, 3, [(0, gr 36), (1, gi 16), (2, gi e), (3, gi who)], [gi e, gi 16, gr 36]) rfl trivial ?_
  refine G.callV (av := [gi 16, gi e]) (o := 36) (st := []) hX rfl (fun l D cA => c_X0_isLatest l D cA ct ed q0 q1 q2 q3 q4 q5 q6 q7 q8 q9 q10 q11 q12 q13 q14 q15 q16 q17 q18 q19 16 e (by first | assumption | omega) (by first | assumption | omega) (by first | assumption | omega) (by first | assumption | omega)) (by decide +kernel) aX0_isLatest rfl rfl rfl ⟨rfl, rfl⟩ (by decide) (Nat.le_of_ble_eq_true rfl) [0, 1, 2, 3, 4, 5, 6, 7, 8, 9, 10, 11, 12, 13, 14, 15, 16, 17, 18, 19, 20, 21, 22, 23] [] [] rfl rfl rfl (fun r w' hp => ?_)
  obtain ⟨rfl, rfl⟩ := hp
  show G X mX0_has ad 0 0 (apW ct ed q0 q1 q2 q3 q4 q5 q6 q7 q8 q9 q10 q11 q12 q13 q14 q15 q16 q17 q18 q19, 6, [(0, gr 36), (1, gi 16), (2, gi e), (3, gi who)], [gi (gb (gLt ct ed 16 e))])
  refine g_if_ne hX 11 rfl rfl (gb_r _) (fun b6 => ?_) (fun b6 => ?_)
  ·
    have b6 := gb_n0 b6
    refine G.go hX 2 (apW ct ed q0 q1 q2 q3 q4 q5 q6 q7 q8 q9 q10 q11 q12 q13 q14 q15 q16 q17 q18 q19, 14, [(0, gr 36), (1, gi 16), (2, gi e), (3, gi who), (4, gi 0)], []) rfl trivial ?_
    have lp14 : ∀ (n : Nat) (i : Int), (0 ≤ i ∧ i ≤ 6) → (∀ j : Int, 0 ≤ j → j < i → q16 j ≠ who) → (6 - i).toNat < n → G X mX0_has ad 0 0 (apW ct ed q0 q1 q2 q3 q4 q5 q6 q7 q8 q9 q10 q11 q12 q13 q14 q15 q16 q17 q18 q19, 14, [(0, gr 36), (1, gi 16), (2, gi e), (3, gi who), (4, gi i)], []) := by
      intro n
      induction n with
      | zero => intro i hi hno hm9; exact absurd hm9 (Nat.not_lt_zero _)
      | succ n ih14 =>
        intro i hi hno hm14
        refine G.go hX 5 (apW ct ed q0 q1 q2 q3 q4 q5 q6 q7 q8 q9 q10 q11 q12 q13 q14 q15 q16 q17 q18 q19, 22, [(0, gr 36), (1, gi 16), (2, gi e), (3, gi who), (4, gi i)], [gi (ct 16), gi i]) rfl ?_ ?_
        · refine ⟨?_, trivial⟩
          · omega
        refine g_icmp_ge hX 53 rfl rfl ⟨by have := hct 16; omega, by have := hct 16; omega⟩ ⟨by have := hct 16; omega, by have := hct 16; omega⟩ (fun b22 => ?_) (fun b22 => ?_)
        ·
          refine G.go hX 1 (apW ct ed q0 q1 q2 q3 q4 q5 q6 q7 q8 q9 q10 q11 q12 q13 q14 q15 q16 q17 q18 q19, 54, [(0, gr 36), (1, gi 16), (2, gi e), (3, gi who), (4, gi i)], [gi 0]) rfl trivial ?_
          exact g_zret hX hE rfl (Or.inl rfl) ⟨(congrArg (fun z => some (gi z)) (gb_f (by exact fun ⟨_, j, h1, h2, h3⟩ => hno j h1 (by have := hct 16; omega) h3)).symm), rfl⟩
        ·
          refine G.go hX 2 (apW ct ed q0 q1 q2 q3 q4 q5 q6 q7 q8 q9 q10 q11 q12 q13 q14 q15 q16 q17 q18 q19, 29, [(0, gr 36), (1, gi 16), (2, gi e), (3, gi who), (4, gi i)], [gi 6, gi i]) rfl trivial ?_
          refine g_icmp_ge hX 53 rfl rfl ⟨by omega, by omega⟩ ⟨by omega, by omega⟩ (fun b29 => ?_) (fun b29 => ?_)
          ·
            refine G.go hX 1 (apW ct ed q0 q1 q2 q3 q4 q5 q6 q7 q8 q9 q10 q11 q12 q13 q14 q15 q16 q17 q18 q19, 54, [(0, gr 36), (1, gi 16), (2, gi e), (3, gi who), (4, gi i)], [gi 0]) rfl trivial ?_
            exact g_zret hX hE rfl (Or.inl rfl) ⟨(congrArg (fun z => some (gi z)) (gb_f (by exact fun ⟨_, j, h1, h2, h3⟩ => hno j h1 (by have := hct 16; omega) h3)).symm), rfl⟩
          ·
            refine G.go hX 3 (apW ct ed q0 q1 q2 q3 q4 q5 q6 q7 q8 q9 q10 q11 q12 q13 q14 q15 q16 q17 q18 q19, 37, [(0, gr 36), (1, gi 16), (2, gi e), (3, gi who), (4, gi i)], [gi 16, gr 39]) rfl trivial ?_
            refine g_aald hX 56 rfl rfl (by omega) rfl ?_
            refine G.go hX 3 (apW ct ed q0 q1 q2 q3 q4 q5 q6 q7 q8 q9 q10 q11 q12 q13 q14 q15 q16 q17 q18 q19, 42, [(0, gr 36), (1, gi 16), (2, gi e), (3, gi who), (4, gi i)], [gi who, gi (q16 i)]) rfl ?_ ?_
            · refine ⟨?_, trivial⟩
              · omega
            refine g_icmp_ne hX 47 rfl rfl (by first | exact hq _ | assumption) (by first | exact hq _ | assumption) (fun b42 => ?_) (fun b42 => ?_)
            ·
              refine G.go hX 2 (apW ct ed q0 q1 q2 q3 q4 q5 q6 q7 q8 q9 q10 q11 q12 q13 q14 q15 q16 q17 q18 q19, 14, [(0, gr 36), (1, gi 16), (2, gi e), (3, gi who), (4, gi (i + 1))], []) rfl trivial ?_
              exact ih14 (i + 1) (by omega) (by intro j h1 h2; by_cases e9 : j = i; (subst e9; omega); exact hno j h1 (by omega)) (by omega)
            ·
              refine G.go hX 1 (apW ct ed q0 q1 q2 q3 q4 q5 q6 q7 q8 q9 q10 q11 q12 q13 q14 q15 q16 q17 q18 q19, 46, [(0, gr 36), (1, gi 16), (2, gi e), (3, gi who), (4, gi i)], [gi 1]) rfl trivial ?_
              exact g_zret hX hE rfl (Or.inr rfl) ⟨(congrArg (fun z => some (gi z)) (gb_t (by exact ⟨b6, i, by omega, by omega, by omega⟩)).symm), rfl⟩
    exact lp14 _ 0 (by omega) (by intro j h1 h2; omega) (Nat.lt_succ_self _)
  ·
    have b6 := gb_nn b6
    refine G.go hX 1 (apW ct ed q0 q1 q2 q3 q4 q5 q6 q7 q8 q9 q10 q11 q12 q13 q14 q15 q16 q17 q18 q19, 10, [(0, gr 36), (1, gi 16), (2, gi e), (3, gi who)], [gi 0]) rfl trivial ?_
    exact g_zret hX hE rfl (Or.inl rfl) ⟨(congrArg (fun z => some (gi z)) (gb_f (by exact fun h9 => b6 h9.1)).symm), rfl⟩
set_option maxHeartbeats 4000000 in
set_option maxRecDepth 100000 in
theorem c_X0_has_17 (l : Launch) (D : va_G) (cA : Nat → ClassId) (ct : Int → Int) (ed : Int → Int) (q0 : Int → Int) (q1 : Int → Int) (q2 : Int → Int) (q3 : Int → Int) (q4 : Int → Int) (q5 : Int → Int) (q6 : Int → Int) (q7 : Int → Int) (q8 : Int → Int) (q9 : Int → Int) (q10 : Int → Int) (q11 : Int → Int) (q12 : Int → Int) (q13 : Int → Int) (q14 : Int → Int) (q15 : Int → Int) (q16 : Int → Int) (q17 : Int → Int) (q18 : Int → Int) (q19 : Int → Int) (e : Int) (who : Int) (hct : ∀ q : Int, 0 ≤ ct q ∧ ct q ≤ 6) (hed : ∀ q : Int, inR (ed q)) (he : inR e) (hq : ∀ j : Int, inR (q17 j)) (hw : inR who) :
    gC l D cA yX0_has mX0_has (some .boolean) 0 0 [gr 36, gi 17, gi e, gi who] (apW ct ed q0 q1 q2 q3 q4 q5 q6 q7 q8 q9 q10 q11 q12 q13 q14 q15 q16 q17 q18 q19) (fun r9 w9 => r9 = some (gi (gb (gLt ct ed 17 e ∧ ∃ j : Int, 0 ≤ j ∧ j < ct 17 ∧ q17 j = who))) ∧ w9 = apW ct ed q0 q1 q2 q3 q4 q5 q6 q7 q8 q9 q10 q11 q12 q13 q14 q15 q16 q17 q18 q19) := by
  refine gC_of rfl kX0_has rfl rfl (Nat.le_of_ble_eq_true rfl) (fun X ad hX hE => ?_)
  refine G.go hX 3 (apW ct ed q0 q1 q2 q3 q4 q5 q6 q7 q8 q9 q10 q11 q12 q13 q14 q15 q16 q17 q18 q19, 3, [(0, gr 36), (1, gi 17), (2, gi e), (3, gi who)], [gi e, gi 17, gr 36]) rfl trivial ?_
  refine G.callV (av := [gi 17, gi e]) (o := 36) (st := []) hX rfl (fun l D cA => c_X0_isLatest l D cA ct ed q0 q1 q2 q3 q4 q5 q6 q7 q8 q9 q10 q11 q12 q13 q14 q15 q16 q17 q18 q19 17 e (by first | assumption | omega) (by first | assumption | omega) (by first | assumption | omega) (by first | assumption | omega)) (by decide +kernel) aX0_isLatest rfl rfl rfl ⟨rfl, rfl⟩ (by decide) (Nat.le_of_ble_eq_true rfl) [0, 1, 2, 3, 4, 5, 6, 7, 8, 9, 10, 11, 12, 13, 14, 15, 16, 17, 18, 19, 20, 21, 22, 23] [] [] rfl rfl rfl (fun r w' hp => ?_)
  obtain ⟨rfl, rfl⟩ := hp
  show G X mX0_has ad 0 0 (apW ct ed q0 q1 q2 q3 q4 q5 q6 q7 q8 q9 q10 q11 q12 q13 q14 q15 q16 q17 q18 q19, 6, [(0, gr 36), (1, gi 17), (2, gi e), (3, gi who)], [gi (gb (gLt ct ed 17 e))])
  refine g_if_ne hX 11 rfl rfl (gb_r _) (fun b6 => ?_) (fun b6 => ?_)
  ·
    have b6 := gb_n0 b6
    refine G.go hX 2 (apW ct ed q0 q1 q2 q3 q4 q5 q6 q7 q8 q9 q10 q11 q12 q13 q14 q15 q16 q17 q18 q19, 14, [(0, gr 36), (1, gi 17), (2, gi e), (3, gi who), (4, gi 0)], []) rfl trivial ?_
    have lp14 : ∀ (n : Nat) (i : Int), (0 ≤ i ∧ i ≤ 6) → (∀ j : Int, 0 ≤ j → j < i → q17 j ≠ who) → (6 - i).toNat < n → G X mX0_has ad 0 0 (apW ct ed q0 q1 q2 q3 q4 q5 q6 q7 q8 q9 q10 q11 q12 q13 q14 q15 q16 q17 q18 q19, 14, [(0, gr 36), (1, gi 17), (2, gi e), (3, gi who), (4, gi i)], []) := by
      intro n
      induction n with
      | zero => intro i hi hno hm9; exact absurd hm9 (Nat.not_lt_zero _)
      | succ n ih14 =>
        intro i hi hno hm14
        refine G.go hX 5 (apW ct ed q0 q1 q2 q3 q4 q5 q6 q7 q8 q9 q10 q11 q12 q13 q14 q15 q16 q17 q18 q19, 22, [(0, gr 36), (1, gi 17), (2, gi e), (3, gi who), (4, gi i)], [gi (ct 17), gi i]) rfl ?_ ?_
        · refine ⟨?_, trivial⟩
          · omega
        refine g_icmp_ge hX 53 rfl rfl ⟨by have := hct 17; omega, by have := hct 17; omega⟩ ⟨by have := hct 17; omega, by have := hct 17; omega⟩ (fun b22 => ?_) (fun b22 => ?_)
        ·
          refine G.go hX 1 (apW ct ed q0 q1 q2 q3 q4 q5 q6 q7 q8 q9 q10 q11 q12 q13 q14 q15 q16 q17 q18 q19, 54, [(0, gr 36), (1, gi 17), (2, gi e), (3, gi who), (4, gi i)], [gi 0]) rfl trivial ?_
          exact g_zret hX hE rfl (Or.inl rfl) ⟨(congrArg (fun z => some (gi z)) (gb_f (by exact fun ⟨_, j, h1, h2, h3⟩ => hno j h1 (by have := hct 17; omega) h3)).symm), rfl⟩
        ·
          refine G.go hX 2 (apW ct ed q0 q1 q2 q3 q4 q5 q6 q7 q8 q9 q10 q11 q12 q13 q14 q15 q16 q17 q18 q19, 29, [(0, gr 36), (1, gi 17), (2, gi e), (3, gi who), (4, gi i)], [gi 6, gi i]) rfl trivial ?_
          refine g_icmp_ge hX 53 rfl rfl ⟨by omega, by omega⟩ ⟨by omega, by omega⟩ (fun b29 => ?_) (fun b29 => ?_)
          ·
            refine G.go hX 1 (apW ct ed q0 q1 q2 q3 q4 q5 q6 q7 q8 q9 q10 q11 q12 q13 q14 q15 q16 q17 q18 q19, 54, [(0, gr 36), (1, gi 17), (2, gi e), (3, gi who), (4, gi i)], [gi 0]) rfl trivial ?_
            exact g_zret hX hE rfl (Or.inl rfl) ⟨(congrArg (fun z => some (gi z)) (gb_f (by exact fun ⟨_, j, h1, h2, h3⟩ => hno j h1 (by have := hct 17; omega) h3)).symm), rfl⟩
          ·
            refine G.go hX 3 (apW ct ed q0 q1 q2 q3 q4 q5 q6 q7 q8 q9 q10 q11 q12 q13 q14 q15 q16 q17 q18 q19, 37, [(0, gr 36), (1, gi 17), (2, gi e), (3, gi who), (4, gi i)], [gi 17, gr 39]) rfl trivial ?_
            refine g_aald hX 57 rfl rfl (by omega) rfl ?_
            refine G.go hX 3 (apW ct ed q0 q1 q2 q3 q4 q5 q6 q7 q8 q9 q10 q11 q12 q13 q14 q15 q16 q17 q18 q19, 42, [(0, gr 36), (1, gi 17), (2, gi e), (3, gi who), (4, gi i)], [gi who, gi (q17 i)]) rfl ?_ ?_
            · refine ⟨?_, trivial⟩
              · omega
            refine g_icmp_ne hX 47 rfl rfl (by first | exact hq _ | assumption) (by first | exact hq _ | assumption) (fun b42 => ?_) (fun b42 => ?_)
            ·
              refine G.go hX 2 (apW ct ed q0 q1 q2 q3 q4 q5 q6 q7 q8 q9 q10 q11 q12 q13 q14 q15 q16 q17 q18 q19, 14, [(0, gr 36), (1, gi 17), (2, gi e), (3, gi who), (4, gi (i + 1))], []) rfl trivial ?_
              exact ih14 (i + 1) (by omega) (by intro j h1 h2; by_cases e9 : j = i; (subst e9; omega); exact hno j h1 (by omega)) (by omega)
            ·
              refine G.go hX 1 (apW ct ed q0 q1 q2 q3 q4 q5 q6 q7 q8 q9 q10 q11 q12 q13 q14 q15 q16 q17 q18 q19, 46, [(0, gr 36), (1, gi 17), (2, gi e), (3, gi who), (4, gi i)], [gi 1]) rfl trivial ?_
              exact g_zret hX hE rfl (Or.inr rfl) ⟨(congrArg (fun z => some (gi z)) (gb_t (by exact ⟨b6, i, by omega, by omega, by omega⟩)).symm), rfl⟩
    exact lp14 _ 0 (by omega) (by intro j h1 h2; omega) (Nat.lt_succ_self _)
  ·
    have b6 := gb_nn b6
    refine G.go hX 1 (apW ct ed q0 q1 q2 q3 q4 q5 q6 q7 q8 q9 q10 q11 q12 q13 q14 q15 q16 q17 q18 q19, 10, [(0, gr 36), (1, gi 17), (2, gi e), (3, gi who)], [gi 0]) rfl trivial ?_
    exact g_zret hX hE rfl (Or.inl rfl) ⟨(congrArg (fun z => some (gi z)) (gb_f (by exact fun h9 => b6 h9.1)).symm), rfl⟩
set_option maxHeartbeats 4000000 in
set_option maxRecDepth 100000 in
theorem c_X0_has_18 (l : Launch) (D : va_G) (cA : Nat → ClassId) (ct : Int → Int) (ed : Int → Int) (q0 : Int → Int) (q1 : Int → Int) (q2 : Int → Int) (q3 : Int → Int) (q4 : Int → Int) (q5 : Int → Int) (q6 : Int → Int) (q7 : Int → Int) (q8 : Int → Int) (q9 : Int → Int) (q10 : Int → Int) (q11 : Int → Int) (q12 : Int → Int) (q13 : Int → Int) (q14 : Int → Int) (q15 : Int → Int) (q16 : Int → Int) (q17 : Int → Int) (q18 : Int → Int) (q19 : Int → Int) (e : Int) (who : Int) (hct : ∀ q : Int, 0 ≤ ct q ∧ ct q ≤ 6) (hed : ∀ q : Int, inR (ed q)) (he : inR e) (hq : ∀ j : Int, inR (q18 j)) (hw : inR who) :
    gC l D cA yX0_has mX0_has (some .boolean) 0 0 [gr 36, gi 18, gi e, gi who] (apW ct ed q0 q1 q2 q3 q4 q5 q6 q7 q8 q9 q10 q11 q12 q13 q14 q15 q16 q17 q18 q19) (fun r9 w9 => r9 = some (gi (gb (gLt ct ed 18 e ∧ ∃ j : Int, 0 ≤ j ∧ j < ct 18 ∧ q18 j = who))) ∧ w9 = apW ct ed q0 q1 q2 q3 q4 q5 q6 q7 q8 q9 q10 q11 q12 q13 q14 q15 q16 q17 q18 q19) := by
  refine gC_of rfl kX0_has rfl rfl (Nat.le_of_ble_eq_true rfl) (fun X ad hX hE => ?_)
  refine G.go hX 3 (apW ct ed q0 q1 q2 q3 q4 q5 q6 q7 q8 q9 q10 q11 q12 q13 q14 q15 q16 q17 q18 q19, 3, [(0, gr 36), (1, gi 18), (2, gi e), (3, gi who)], [gi e, gi 18, gr 36]) rfl trivial ?_
  refine G.callV (av := [gi 18, gi e]) (o := 36) (st := []) hX rfl (fun l D cA => c_X0_isLatest l D cA ct ed q0 q1 q2 q3 q4 q5 q6 q7 q8 q9 q10 q11 q12 q13 q14 q15 q16 q17 q18 q19 18 e (by first | assumption | omega) (by first | assumption | omega) (by first | assumption | omega) (by first | assumption | omega)) (by decide +kernel) aX0_isLatest rfl rfl rfl ⟨rfl, rfl⟩ (by decide) (Nat.le_of_ble_eq_true rfl) [0, 1, 2, 3, 4, 5, 6, 7, 8, 9, 10, 11, 12, 13, 14, 15, 16, 17, 18, 19, 20, 21, 22, 23] [] [] rfl rfl rfl (fun r w' hp => ?_)
  obtain ⟨rfl, rfl⟩ := hp
  show G X mX0_has ad 0 0 (apW ct ed q0 q1 q2 q3 q4 q5 q6 q7 q8 q9 q10 q11 q12 q13 q14 q15 q16 q17 q18 q19, 6, [(0, gr 36), (1, gi 18), (2, gi e), (3, gi who)], [gi (gb (gLt ct ed 18 e))])
  refine g_if_ne hX 11 rfl rfl (gb_r _) (fun b6 => ?_) (fun b6 => ?_)
  ·
    have b6 := gb_n0 b6
    refine G.go hX 2 (apW ct ed q0 q1 q2 q3 q4 q5 q6 q7 q8 q9 q10 q11 q12 q13 q14 q15 q16 q17 q18 q19, 14, [(0, gr 36), (1, gi 18), (2, gi e), (3, gi who), (4, gi 0)], []) rfl trivial ?_
    have lp14 : ∀ (n : Nat) (i : Int), (0 ≤ i ∧ i ≤ 6) → (∀ j : Int, 0 ≤ j → j < i → q18 j ≠ who) → (6 - i).toNat < n → G X mX0_has ad 0 0 (apW ct ed q0 q1 q2 q3 q4 q5 q6 q7 q8 q9 q10 q11 q12 q13 q14 q15 q16 q17 q18 q19, 14, [(0, gr 36), (1, gi 18), (2, gi e), (3, gi who), (4, gi i)], []) := by
      intro n
      induction n with
      | zero => intro i hi hno hm9; exact absurd hm9 (Nat.not_lt_zero _)
      | succ n ih14 =>
        intro i hi hno hm14
        refine G.go hX 5 (apW ct ed q0 q1 q2 q3 q4 q5 q6 q7 q8 q9 q10 q11 q12 q13 q14 q15 q16 q17 q18 q19, 22, [(0, gr 36), (1, gi 18), (2, gi e), (3, gi who), (4, gi i)], [gi (ct 18), gi i]) rfl ?_ ?_
        · refine ⟨?_, trivial⟩
          · omega
        refine g_icmp_ge hX 53 rfl rfl ⟨by have := hct 18; omega, by have := hct 18; omega⟩ ⟨by have := hct 18; omega, by have := hct 18; omega⟩ (fun b22 => ?_) (fun b22 => ?_)
        ·
          refine G.go hX 1 (apW ct ed q0 q1 q2 q3 q4 q5 q6 q7 q8 q9 q10 q11 q12 q13 q14 q15 q16 q17 q18 q19, 54, [(0, gr 36), (1, gi 18), (2, gi e), (3, gi who), (4, gi i)], [gi 0]) rfl trivial ?_
          exact g_zret hX hE rfl (Or.inl rfl) ⟨(congrArg (fun z => some (gi z)) (gb_f (by exact fun ⟨_, j, h1, h2, h3⟩ => hno j h1 (by have := hct 18; omega) h3)).symm), rfl⟩
        ·
          refine G.go hX 2 (apW ct ed q0 q1 q2 q3 q4 q5 q6 q7 q8 q9 q10 q11 q12 q13 q14 q15 q16 q17 q18 q19, 29, [(0, gr 36), (1, gi 18), (2, gi e), (3, gi who), (4, gi i)], [gi 6, gi i]) rfl trivial ?_
          refine g_icmp_ge hX 53 rfl rfl ⟨by omega, by omega⟩ ⟨by omega, by omega⟩ (fun b29 => ?_) (fun b29 => ?_)
          ·
            refine G.go hX 1 (apW ct ed q0 q1 q2 q3 q4 q5 q6 q7 q8 q9 q10 q11 q12 q13 q14 q15 q16 q17 q18 q19, 54, [(0, gr 36), (1, gi 18), (2, gi e), (3, gi who), (4, gi i)], [gi 0]) rfl trivial ?_
            exact g_zret hX hE rfl (Or.inl rfl) ⟨(congrArg (fun z => some (gi z)) (gb_f (by exact fun ⟨_, j, h1, h2, h3⟩ => hno j h1 (by have := hct 18; omega) h3)).symm), rfl⟩
          ·
            refine G.go hX 3 (apW ct ed q0 q1 q2 q3 q4 q5 q6 q7 q8 q9 q10 q11 q12 q13 q14 q15 q16 q17 q18 q19, 37, [(0, gr 36), (1, gi 18), (2, gi e), (3, gi who), (4, gi i)], [gi 18, gr 39]) rfl trivial ?_
            refine g_aald hX 58 rfl rfl (by omega) rfl ?_
            refine G.go hX 3 (apW ct ed q0 q1 q2 q3 q4 q5 q6 q7 q8 q9 q10 q11 q12 q13 q14 q15 q16 q17 q18 q19, 42, [(0, gr 36), (1, gi 18), (2, gi e), (3, gi who), (4, gi i)], [gi who, gi (q18 i)]) rfl ?_ ?_
            · refine ⟨?_, trivial⟩
              · omega
            refine g_icmp_ne hX 47 rfl rfl (by first | exact hq _ | assumption) (by first | exact hq _ | assumption) (fun b42 => ?_) (fun b42 => ?_)
            ·
              refine G.go hX 2 (apW ct ed q0 q1 q2 q3 q4 q5 q6 q7 q8 q9 q10 q11 q12 q13 q14 q15 q16 q17 q18 q19, 14, [(0, gr 36), (1, gi 18), (2, gi e), (3, gi who), (4, gi (i + 1))], []) rfl trivial ?_
              exact ih14 (i + 1) (by omega) (by intro j h1 h2; by_cases e9 : j = i; (subst e9; omega); exact hno j h1 (by omega)) (by omega)
            ·
              refine G.go hX 1 (apW ct ed q0 q1 q2 q3 q4 q5 q6 q7 q8 q9 q10 q11 q12 q13 q14 q15 q16 q17 q18 q19, 46, [(0, gr 36), (1, gi 18), (2, gi e), (3, gi who), (4, gi i)], [gi 1]) rfl trivial ?_
              exact g_zret hX hE rfl (Or.inr rfl) ⟨(congrArg (fun z => some (gi z)) (gb_t (by exact ⟨b6, i, by omega, by omega, by omega⟩)).symm), rfl⟩
    exact lp14 _ 0 (by omega) (by intro j h1 h2; omega) (Nat.lt_succ_self _)
  ·
    have b6 := gb_nn b6
    refine G.go hX 1 (apW ct ed q0 q1 q2 q3 q4 q5 q6 q7 q8 q9 q10 q11 q12 q13 q14 q15 q16 q17 q18 q19, 10, [(0, gr 36), (1, gi 18), (2, gi e), (3, gi who)], [gi 0]) rfl trivial ?_
    exact g_zret hX hE rfl (Or.inl rfl) ⟨(congrArg (fun z => some (gi z)) (gb_f (by exact fun h9 => b6 h9.1)).symm), rfl⟩
set_option maxHeartbeats 4000000 in
set_option maxRecDepth 100000 in
theorem c_X0_has_19 (l : Launch) (D : va_G) (cA : Nat → ClassId) (ct : Int → Int) (ed : Int → Int) (q0 : Int → Int) (q1 : Int → Int) (q2 : Int → Int) (q3 : Int → Int) (q4 : Int → Int) (q5 : Int → Int) (q6 : Int → Int) (q7 : Int → Int) (q8 : Int → Int) (q9 : Int → Int) (q10 : Int → Int) (q11 : Int → Int) (q12 : Int → Int) (q13 : Int → Int) (q14 : Int → Int) (q15 : Int → Int) (q16 : Int → Int) (q17 : Int → Int) (q18 : Int → Int) (q19 : Int → Int) (e : Int) (who : Int) (hct : ∀ q : Int, 0 ≤ ct q ∧ ct q ≤ 6) (hed : ∀ q : Int, inR (ed q)) (he : inR e) (hq : ∀ j : Int, inR (q19 j)) (hw : inR who) :
    gC l D cA yX0_has mX0_has (some .boolean) 0 0 [gr 36, gi 19, gi e, gi who] (apW ct ed q0 q1 q2 q3 q4 q5 q6 q7 q8 q9 q10 q11 q12 q13 q14 q15 q16 q17 q18 q19) (fun r9 w9 => r9 = some (gi (gb (gLt ct ed 19 e ∧ ∃ j : Int, 0 ≤ j ∧ j < ct 19 ∧ q19 j = who))) ∧ w9 = apW ct ed q0 q1 q2 q3 q4 q5 q6 q7 q8 q9 q10 q11 q12 q13 q14 q15 q16 q17 q18 q19) := by
  refine gC_of rfl kX0_has rfl rfl (Nat.le_of_ble_eq_true rfl) (fun X ad hX hE => ?_)
  refine G.go hX 3 (apW ct ed q0 q1 q2 q3 q4 q5 q6 q7 q8 q9 q10 q11 q12 q13 q14 q15 q16 q17 q18 q19, 3, [(0, gr 36), (1, gi 19), (2, gi e), (3, gi who)], [gi e, gi 19, gr 36]) rfl trivial ?_
  refine G.callV (av := [gi 19, gi e]) (o := 36) (st := []) hX rfl (fun l D cA => c_X0_isLatest l D cA ct ed q0 q1 q2 q3 q4 q5 q6 q7 q8 q9 q10 q11 q12 q13 q14 q15 q16 q17 q18 q19 19 e (by first | assumption | omega) (by first | assumption | omega) (by first | assumption | omega) (by first | assumption | omega)) (by decide +kernel) aX0_isLatest rfl rfl rfl ⟨rfl, rfl⟩ (by decide) (Nat.le_of_ble_eq_true rfl) [0, 1, 2, 3, 4, 5, 6, 7, 8, 9, 10, 11, 12, 13, 14, 15, 16, 17, 18, 19, 20, 21, 22, 23] [] [] rfl rfl rfl (fun r w' hp => ?_)
  obtain ⟨rfl, rfl⟩ := hp
  show G X mX0_has ad 0 0 (apW ct ed q0 q1 q2 q3 q4 q5 q6 q7 q8 q9 q10 q11 q12 q13 q14 q15 q16 q17 q18 q19, 6, [(0, gr 36), (1, gi 19), (2, gi e), (3, gi who)], [gi (gb (gLt ct ed 19 e))])
  refine g_if_ne hX 11 rfl rfl (gb_r _) (fun b6 => ?_) (fun b6 => ?_)
  ·
    have b6 := gb_n0 b6
    refine G.go hX 2 (apW ct ed q0 q1 q2 q3 q4 q5 q6 q7 q8 q9 q10 q11 q12 q13 q14 q15 q16 q17 q18 q19, 14, [(0, gr 36), (1, gi 19), (2, gi e), (3, gi who), (4, gi 0)], []) rfl trivial ?_
    have lp14 : ∀ (n : Nat) (i : Int), (0 ≤ i ∧ i ≤ 6) → (∀ j : Int, 0 ≤ j → j < i → q19 j ≠ who) → (6 - i).toNat < n → G X mX0_has ad 0 0 (apW ct ed q0 q1 q2 q3 q4 q5 q6 q7 q8 q9 q10 q11 q12 q13 q14 q15 q16 q17 q18 q19, 14, [(0, gr 36), (1, gi 19), (2, gi e), (3, gi who), (4, gi i)], []) := by
      intro n
      induction n with
      | zero => intro i hi hno hm9; exact absurd hm9 (Nat.not_lt_zero _)
      | succ n ih14 =>
        intro i hi hno hm14
        refine G.go hX 5 (apW ct ed q0 q1 q2 q3 q4 q5 q6 q7 q8 q9 q10 q11 q12 q13 q14 q15 q16 q17 q18 q19, 22, [(0, gr 36), (1, gi 19), (2, gi e), (3, gi who), (4, gi i)], [gi (ct 19), gi i]) rfl ?_ ?_
        · refine ⟨?_, trivial⟩
          · omega
        refine g_icmp_ge hX 53 rfl rfl ⟨by have := hct 19; omega, by have := hct 19; omega⟩ ⟨by have := hct 19; omega, by have := hct 19; omega⟩ (fun b22 => ?_) (fun b22 => ?_)
        ·
          refine G.go hX 1 (apW ct ed q0 q1 q2 q3 q4 q5 q6 q7 q8 q9 q10 q11 q12 q13 q14 q15 q16 q17 q18 q19, 54, [(0, gr 36), (1, gi 19), (2, gi e), (3, gi who), (4, gi i)], [gi 0]) rfl trivial ?_
          exact g_zret hX hE rfl (Or.inl rfl) ⟨(congrArg (fun z => some (gi z)) (gb_f (by exact fun ⟨_, j, h1, h2, h3⟩ => hno j h1 (by have := hct 19; omega) h3)).symm), rfl⟩
        ·
          refine G.go hX 2 (apW ct ed q0 q1 q2 q3 q4 q5 q6 q7 q8 q9 q10 q11 q12 q13 q14 q15 q16 q17 q18 q19, 29, [(0, gr 36), (1, gi 19), (2, gi e), (3, gi who), (4, gi i)], [gi 6, gi i]) rfl trivial ?_
          refine g_icmp_ge hX 53 rfl rfl ⟨by omega, by omega⟩ ⟨by omega, by omega⟩ (fun b29 => ?_) (fun b29 => ?_)
          ·
            refine G.go hX 1 (apW ct ed q0 q1 q2 q3 q4 q5 q6 q7 q8 q9 q10 q11 q12 q13 q14 q15 q16 q17 q18 q19, 54, [(0, gr 36), (1, gi 19), (2, gi e), (3, gi who), (4, gi i)], [gi 0]) rfl trivial ?_
            exact g_zret hX hE rfl (Or.inl rfl) ⟨(congrArg (fun z => some (gi z)) (gb_f (by exact fun ⟨_, j, h1, h2, h3⟩ => hno j h1 (by have := hct 19; omega) h3)).symm), rfl⟩
          ·
            refine G.go hX 3 (apW ct ed q0 q1 q2 q3 q4 q5 q6 q7 q8 q9 q10 q11 q12 q13 q14 q15 q16 q17 q18 q19, 37, [(0, gr 36), (1, gi 19), (2, gi e), (3, gi who), (4, gi i)], [gi 19, gr 39]) rfl trivial ?_
            refine g_aald hX 59 rfl rfl (by omega) rfl ?_
            refine G.go hX 3 (apW ct ed q0 q1 q2 q3 q4 q5 q6 q7 q8 q9 q10 q11 q12 q13 q14 q15 q16 q17 q18 q19, 42, [(0, gr 36), (1, gi 19), (2, gi e), (3, gi who), (4, gi i)], [gi who, gi (q19 i)]) rfl ?_ ?_
            · refine ⟨?_, trivial⟩
              · omega
            refine g_icmp_ne hX 47 rfl rfl (by first | exact hq _ | assumption) (by first | exact hq _ | assumption) (fun b42 => ?_) (fun b42 => ?_)
            ·
              refine G.go hX 2 (apW ct ed q0 q1 q2 q3 q4 q5 q6 q7 q8 q9 q10 q11 q12 q13 q14 q15 q16 q17 q18 q19, 14, [(0, gr 36), (1, gi 19), (2, gi e), (3, gi who), (4, gi (i + 1))], []) rfl trivial ?_
              exact ih14 (i + 1) (by omega) (by intro j h1 h2; by_cases e9 : j = i; (subst e9; omega); exact hno j h1 (by omega)) (by omega)
            ·
              refine G.go hX 1 (apW ct ed q0 q1 q2 q3 q4 q5 q6 q7 q8 q9 q10 q11 q12 q13 q14 q15 q16 q17 q18 q19, 46, [(0, gr 36), (1, gi 19), (2, gi e), (3, gi who), (4, gi i)], [gi 1]) rfl trivial ?_
              exact g_zret hX hE rfl (Or.inr rfl) ⟨(congrArg (fun z => some (gi z)) (gb_t (by exact ⟨b6, i, by omega, by omega, by omega⟩)).symm), rfl⟩
    exact lp14 _ 0 (by omega) (by intro j h1 h2; omega) (Nat.lt_succ_self _)
  ·
    have b6 := gb_nn b6
    refine G.go hX 1 (apW ct ed q0 q1 q2 q3 q4 q5 q6 q7 q8 q9 q10 q11 q12 q13 q14 q15 q16 q17 q18 q19, 10, [(0, gr 36), (1, gi 19), (2, gi e), (3, gi who)], [gi 0]) rfl trivial ?_
    exact g_zret hX hE rfl (Or.inl rfl) ⟨(congrArg (fun z => some (gi z)) (gb_f (by exact fun h9 => b6 h9.1)).symm), rfl⟩
end
section
set_option maxHeartbeats 4000000 in
set_option maxRecDepth 100000 in
theorem c_X0_add_0 (l : Launch) (D : va_G) (cA : Nat → ClassId) (ct : Int → Int) (ed : Int → Int) (q0 : Int → Int) (q1 : Int → Int) (q2 : Int → Int) (q3 : Int → Int) (q4 : Int → Int) (q5 : Int → Int) (q6 : Int → Int) (q7 : Int → Int) (q8 : Int → Int) (q9 : Int → Int) (q10 : Int → Int) (q11 : Int → Int) (q12 : Int → Int) (q13 : Int → Int) (q14 : Int → Int) (q15 : Int → Int) (q16 : Int → Int) (q17 : Int → Int) (q18 : Int → Int) (q19 : Int → Int) (e : Int) (who : Int) (hct : ∀ q : Int, 0 ≤ ct q ∧ ct q ≤ 6) (hed : ∀ q : Int, inR (ed q)) (he : inR e) (hl : gLt ct ed 0 e → ct 0 < 6) :
    gC l D cA yX0_add mX0_add none 0 0 [gr 36, gi 0, gi e, gi who] (apW ct ed q0 q1 q2 q3 q4 q5 q6 q7 q8 q9 q10 q11 q12 q13 q14 q15 q16 q17 q18 q19) (fun r9 w9 => ∃ (ct2 : Int → Int) (ed2 : Int → Int) (k2 : Int), r9 = none ∧ w9 = apW ct2 ed2 (gu q0 k2 who) q1 q2 q3 q4 q5 q6 q7 q8 q9 q10 q11 q12 q13 q14 q15 q16 q17 q18 q19 ∧ (k2 = (if gb (gLt ct ed 0 e) = 1 then ct 0 else 0)) ∧ (ct2 = gu ct 0 (k2 + 1)) ∧ (ed2 = gu ed 0 e)) := by
  refine gC_of rfl kX0_add rfl rfl (Nat.le_of_ble_eq_true rfl) (fun X ad hX hE => ?_)
  refine G.go hX 3 (apW ct ed q0 q1 q2 q3 q4 q5 q6 q7 q8 q9 q10 q11 q12 q13 q14 q15 q16 q17 q18 q19, 3, [(0, gr 36), (1, gi 0), (2, gi e), (3, gi who)], [gi e, gi 0, gr 36]) rfl trivial ?_
  refine G.callV (av := [gi 0, gi e]) (o := 36) (st := []) hX rfl (fun l D cA => c_X0_isLatest l D cA ct ed q0 q1 q2 q3 q4 q5 q6 q7 q8 q9 q10 q11 q12 q13 q14 q15 q16 q17 q18 q19 0 e (by first | assumption | omega) (by first | assumption | omega) (by first | assumption | omega) (by first | assumption | omega)) (by decide +kernel) aX0_isLatest rfl rfl rfl ⟨rfl, rfl⟩ (by decide) (Nat.le_of_ble_eq_true rfl) [0, 1, 2, 3, 4, 5, 6, 7, 8, 9, 10, 11, 12, 13, 14, 15, 16, 17, 18, 19, 20, 21, 22, 23] [] [] rfl rfl rfl (fun r w' hp => ?_)
  obtain ⟨rfl, rfl⟩ := hp
  show G X mX0_add ad 0 0 (apW ct ed q0 q1 q2 q3 q4 q5 q6 q7 q8 q9 q10 q11 q12 q13 q14 q15 q16 q17 q18 q19, 6, [(0, gr 36), (1, gi 0), (2, gi e), (3, gi who)], [gi (gb (gLt ct ed 0 e))])
  refine g_if_ne hX 23 rfl rfl (gb_r _) (fun b6 => ?_) (fun b6 => ?_)
  ·
    have b6 := gb_n0 b6
    refine G.go hX 3 (apW ct ed q0 q1 q2 q3 q4 q5 q6 q7 q8 q9 q10 q11 q12 q13 q14 q15 q16 q17 q18 q19, 28, [(0, gr 36), (1, gi 0), (2, gi e), (3, gi who)], [gi 0, gr 39]) rfl trivial ?_
    refine g_aald hX 40 rfl rfl (by omega) rfl ?_
    refine G.go hX 14 (apW (gu ct 0 ((ct 0) + 1)) ed (gu q0 (ct 0) who) q1 q2 q3 q4 q5 q6 q7 q8 q9 q10 q11 q12 q13 q14 q15 q16 q17 q18 q19, 47, [(0, gr 36), (1, gi 0), (2, gi e), (3, gi who)], []) rfl ?_ ?_
    · refine ⟨?_, ?_, ?_, ?_, trivial⟩
      · omega
      · first | (have := hct 0; have := hl b6; omega) | (rw [gu_s]; omega)
      · omega
      · omega
    exact g_vret hX hE rfl ⟨_, ed, ct 0, rfl, rfl, by rw [gb_t b6, if_pos rfl], rfl, by (funext j; by_cases e9 : j = 0; (rw [e9, gu_s]; exact b6.2); rw [gu_n _ _ e9])⟩
  ·
    have b6 := gb_nn b6
    refine G.go hX 13 (apW (gu ct 0 0) (gu ed 0 e) q0 q1 q2 q3 q4 q5 q6 q7 q8 q9 q10 q11 q12 q13 q14 q15 q16 q17 q18 q19, 28, [(0, gr 36), (1, gi 0), (2, gi e), (3, gi who)], [gi 0, gr 39]) rfl ?_ ?_
    · refine ⟨?_, ?_, trivial⟩
      · omega
      · omega
    refine g_aald hX 40 rfl rfl (by omega) rfl ?_
    refine G.go hX 14 (apW (gu (gu ct 0 0) 0 (((gu ct 0 0) 0) + 1)) (gu ed 0 e) (gu q0 ((gu ct 0 0) 0) who) q1 q2 q3 q4 q5 q6 q7 q8 q9 q10 q11 q12 q13 q14 q15 q16 q17 q18 q19, 47, [(0, gr 36), (1, gi 0), (2, gi e), (3, gi who)], []) rfl ?_ ?_
    · refine ⟨?_, ?_, ?_, ?_, trivial⟩
      · omega
      · first | (have := hct 0; have := hl b6; omega) | (rw [gu_s]; omega)
      · omega
      · omega
    exact g_vret hX hE rfl ⟨_, _, 0, rfl, by rw [gu_s], by rw [gb_f b6, if_neg (by omega)], by (funext j; by_cases e9 : j = 0; (rw [e9, gu_s, gu_s]); rw [gu_n _ _ e9, gu_n _ _ e9, gu_n _ _ e9]), rfl⟩
set_option maxHeartbeats 4000000 in
set_option maxRecDepth 100000 in
theorem c_X0_add_1 (l : Launch) (D : va_G) (cA : Nat → ClassId) (ct : Int → Int) (ed : Int → Int) (q0 : Int → Int) (q1 : Int → Int) (q2 : Int → Int) (q3 : Int → Int) (q4 : Int → Int) (q5 : Int → Int) (q6 : Int → Int) (q7 : Int → Int) (q8 : Int → Int) (q9 : Int → Int) (q10 : Int → Int) (q11 : Int → Int) (q12 : Int → Int) (q13 : Int → Int) (q14 : Int → Int) (q15 : Int → Int) (q16 : Int → Int) (q17 : Int → Int) (q18 : Int → Int) (q19 : Int → Int) (e : Int) (who : Int) (hct : ∀ q : Int, 0 ≤ ct q ∧ ct q ≤ 6) (hed : ∀ q : Int, inR (ed q)) (he : inR e) (hl : gLt ct ed 1 e → ct 1 < 6) :
    gC l D cA yX0_add mX0_add none 0 0 [gr 36, gi 1, gi e, gi who] (apW ct ed q0 q1 q2 q3 q4 q5 q6 q7 q8 q9 q10 q11 q12 q13 q14 q15 q16 q17 q18 q19) (fun r9 w9 => ∃ (ct2 : Int → Int) (ed2 : Int → Int) (k2 : Int), r9 = none ∧ w9 = apW ct2 ed2 q0 (gu q1 k2 who) q2 q3 q4 q5 q6 q7 q8 q9 q10 q11 q12 q13 q14 q15 q16 q17 q18 q19 ∧ (k2 = (if gb (gLt ct ed 1 e) = 1 then ct 1 else 0)) ∧ (ct2 = gu ct 1 (k2 + 1)) ∧ (ed2 = gu ed 1 e)) := by
  refine gC_of rfl kX0_add rfl rfl (Nat.le_of_ble_eq_true rfl) (fun X ad hX hE => ?_)
  refine G.go hX 3 (apW ct ed q0 q1 q2 q3 q4 q5 q6 q7 q8 q9 q10 q11 q12 q13 q14 q15 q16 q17 q18 q19, 3, [(0, gr 36), (1, gi 1), (2, gi e), (3, gi who)], [gi e, gi 1, gr 36]) rfl trivial ?_
  refine G.callV (av := [gi 1, gi e]) (o := 36) (st := []) hX rfl (fun l D cA => c_X0_isLatest l D cA ct ed q0 q1 q2 q3 q4 q5 q6 q7 q8 q9 q10 q11 q12 q13 q14 q15 q16 q17 q18 q19 1 e (by first | assumption | omega) (by first | assumption | omega) (by first | assumption | omega) (by first | assumption | omega)) (by decide +kernel) aX0_isLatest rfl rfl rfl ⟨rfl, rfl⟩ (by decide) (Nat.le_of_ble_eq_true rfl) [0, 1, 2, 3, 4, 5, 6, 7, 8, 9, 10, 11, 12, 13, 14, 15, 16, 17, 18, 19, 20, 21, 22, 23] [] [] rfl rfl rfl (fun r w' hp => ?_)
  obtain ⟨rfl, rfl⟩ := hp
  show G X mX0_add ad 0 0 (apW ct ed q0 q1 q2 q3 q4 q5 q6 q7 q8 q9 q10 q11 q12 q13 q14 q15 q16 q17 q18 q19, 6, [(0, gr 36), (1, gi 1), (2, gi e), (3, gi who)], [gi (gb (gLt ct ed 1 e))])
  refine g_if_ne hX 23 rfl rfl (gb_r _) (fun b6 => ?_) (fun b6 => ?_)
  ·
    have b6 := gb_n0 b6
    refine G.go hX 3 (apW ct ed q0 q1 q2 q3 q4 q5 q6 q7 q8 q9 q10 q11 q12 q13 q14 q15 q16 q17 q18 q19, 28, [(0, gr 36), (1, gi 1), (2, gi e), (3, gi who)], [gi 1, gr 39]) rfl trivial ?_
    refine g_aald hX 41 rfl rfl (by omega) rfl ?_
    refine G.go hX 14 (apW (gu ct 1 ((ct 1) + 1)) ed q0 (gu q1 (ct 1) who) q2 q3 q4 q5 q6 q7 q8 q9 q10 q11 q12 q13 q14 q15 q16 q17 q18 q19, 47, [(0, gr 36), (1, gi 1), (2, gi e), (3, gi who)], []) rfl ?_ ?_
    · refine ⟨?_, ?_, ?_, ?_, trivial⟩
      · omega
      · first | (have := hct 1; have := hl b6; omega) | (rw [gu_s]; omega)
      · omega
      · omega
    exact g_vret hX hE rfl ⟨_, ed, ct 1, rfl, rfl, by rw [gb_t b6, if_pos rfl], rfl, by (funext j; by_cases e9 : j = 1; (rw [e9, gu_s]; exact b6.2); rw [gu_n _ _ e9])⟩
  ·
    have b6 := gb_nn b6
    refine G.go hX 13 (apW (gu ct 1 0) (gu ed 1 e) q0 q1 q2 q3 q4 q5 q6 q7 q8 q9 q10 q11 q12 q13 q14 q15 q16 q17 q18 q19, 28, [(0, gr 36), (1, gi 1), (2, gi e), (3, gi who)], [gi 1, gr 39]) rfl ?_ ?_
    · refine ⟨?_, ?_, trivial⟩
      · omega
      · omega
    refine g_aald hX 41 rfl rfl (by omega) rfl ?_
    refine G.go hX 14 (apW (gu (gu ct 1 0) 1 (((gu ct 1 0) 1) + 1)) (gu ed 1 e) q0 (gu q1 ((gu ct 1 0) 1) who) q2 q3 q4 q5 q6 q7 q8 q9 q10 q11 q12 q13 q14 q15 q16 q17 q18 q19, 47, [(0, gr 36), (1, gi 1), (2, gi e), (3, gi who)], []) rfl ?_ ?_
    · refine ⟨?_, ?_, ?_, ?_, trivial⟩
      · omega
      · first | (have := hct 1; have := hl b6; omega) | (rw [gu_s]; omega)
      · omega
      · omega
    exact g_vret hX hE rfl ⟨_, _, 0, rfl, by rw [gu_s], by rw [gb_f b6, if_neg (by omega)], by (funext j; by_cases e9 : j = 1; (rw [e9, gu_s, gu_s]); rw [gu_n _ _ e9, gu_n _ _ e9, gu_n _ _ e9]), rfl⟩
set_option maxHeartbeats 4000000 in
set_option maxRecDepth 100000 in
theorem c_X0_add_2 (l : Launch) (D : va_G) (cA : Nat → ClassId) (ct : Int → Int) (ed : Int → Int) (q0 : Int → Int) (q1 : Int → Int) (q2 : Int → Int) (q3 : Int → Int) (q4 : Int → Int) (q5 : Int → Int) (q6 : Int → Int) (q7 : Int → Int) (q8 : Int → Int) (q9 : Int → Int) (q10 : Int → Int) (q11 : Int → Int) (q12 : Int → Int) (q13 : Int → Int) (q14 : Int → Int) (q15 : Int → Int) (q16 : Int → Int) (q17 : Int → Int) (q18 : Int → Int) (q19 : Int → Int) (e : Int) (who : Int) (hct : ∀ q : Int, 0 ≤ ct q ∧ ct q ≤ 6) (hed : ∀ q : Int, inR (ed q)) (he : inR e) (hl : gLt ct ed 2 e → ct 2 < 6) :
    gC l D cA yX0_add mX0_add none 0 0 [gr 36, gi 2, gi e, gi who] (apW ct ed q0 q1 q2 q3 q4 q5 q6 q7 q8 q9 q10 q11 q12 q13 q14 q15 q16 q17 q18 q19) (fun r9 w9 => ∃ (ct2 : Int → Int) (ed2 : Int → Int) (k2 : Int), r9 = none ∧ w9 = apW ct2 ed2 q0 q1 (gu q2 k2 who) q3 q4 q5 q6 q7 q8 q9 q10 q11 q12 q13 q14 q15 q16 q17 q18 q19 ∧ (k2 = (if gb (gLt ct ed 2 e) = 1 then ct 2 else 0)) ∧ (ct2 = gu ct 2 (k2 + 1)) ∧ (ed2 = gu ed 2 e)) := by
  refine gC_of rfl kX0_add rfl rfl (Nat.le_of_ble_eq_true rfl) (fun X ad hX hE => ?_)
  refine G.go hX 3 (apW ct ed q0 q1 q2 q3 q4 q5 q6 q7 q8 q9 q10 q11 q12 q13 q14 q15 q16 q17 q18 q19, 3, [(0, gr 36), (1, gi 2), (2, gi e), (3, gi who)], [gi e, gi 2, gr 36]) rfl trivial ?_
  refine G.callV (av := [gi 2, gi e]) (o := 36) (st := []) hX rfl (fun l D cA => c_X0_isLatest l D cA ct ed q0 q1 q2 q3 q4 q5 q6 q7 q8 q9 q10 q11 q12 q13 q14 q15 q16 q17 q18 q19 2 e (by first | assumption | omega) (by first | assumption | omega) (by first | assumption | omega) (by first | assumption | omega)) (by decide +kernel) aX0_isLatest rfl rfl rfl ⟨rfl, rfl⟩ (by decide) (Nat.le_of_ble_eq_true rfl) [0, 1, 2, 3, 4, 5, 6, 7, 8, 9, 10, 11, 12, 13, 14, 15, 16, 17, 18, 19, 20, 21, 22, 23] [] [] rfl rfl rfl (fun r w' hp => ?_)
  obtain ⟨rfl, rfl⟩ := hp
  show G X mX0_add ad 0 0 (apW ct ed q0 q1 q2 q3 q4 q5 q6 q7 q8 q9 q10 q11 q12 q13 q14 q15 q16 q17 q18 q19, 6, [(0, gr 36), (1, gi 2), (2, gi e), (3, gi who)], [gi (gb (gLt ct ed 2 e))])
  refine g_if_ne hX 23 rfl rfl (gb_r _) (fun b6 => ?_) (fun b6 => ?_)
  ·
    have b6 := gb_n0 b6
    refine G.go hX 3 (apW ct ed q0 q1 q2 q3 q4 q5 q6 q7 q8 q9 q10 q11 q12 q13 q14 q15 q16 q17 q18 q19, 28, [(0, gr 36), (1, gi 2), (2, gi e), (3, gi who)], [gi 2, gr 39]) rfl trivial ?_
    refine g_aald hX 42 rfl rfl (by omega) rfl ?_
    refine G.go hX 14 (apW (gu ct 2 ((ct 2) + 1)) ed q0 q1 (gu q2 (ct 2) who) q3 q4 q5 q6 q7 q8 q9 q10 q11 q12 q13 q14 q15 q16 q17 q18 q19, 47, [(0, gr 36), (1, gi 2), (2, gi e), (3, gi who)], []) rfl ?_ ?_
    · refine ⟨?_, ?_, ?_, ?_, trivial⟩
      · omega
      · first | (have := hct 2; have := hl b6; omega) | (rw [gu_s]; omega)
      · omega
      · omega
    exact g_vret hX hE rfl ⟨_, ed, ct 2, rfl, rfl, by rw [gb_t b6, if_pos rfl], rfl, by (funext j; by_cases e9 : j = 2; (rw [e9, gu_s]; exact b6.2); rw [gu_n _ _ e9])⟩
  ·
    have b6 := gb_nn b6
    refine G.go hX 13 (apW (gu ct 2 0) (gu ed 2 e) q0 q1 q2 q3 q4 q5 q6 q7 q8 q9 q10 q11 q12 q13 q14 q15 q16 q17 q18 q19, 28, [(0, gr 36), (1, gi 2), (2, gi e), (3, gi who)], [gi 2, gr 39]) rfl ?_ ?_
    · refine ⟨?_, ?_, trivial⟩
      · omega
      · omega
    refine g_aald hX 42 rfl rfl (by omega) rfl ?_
    refine G.go hX 14 (apW (gu (gu ct 2 0) 2 (((gu ct 2 0) 2) + 1)) (gu ed 2 e) q0 q1 (gu q2 ((gu ct 2 0) 2) who) q3 q4 q5 q6 q7 q8 q9 q10 q11 q12 q13 q14 q15 q16 q17 q18 q19, 47, [(0, gr 36), (1, gi 2), (2, gi e), (3, gi who)], []) rfl ?_ ?_
    · refine ⟨?_, ?_, ?_, ?_, trivial⟩
      · omega
      · first | (have := hct 2; have := hl b6; omega) | (rw [gu_s]; omega)
      · omega
      · omega
    exact g_vret hX hE rfl ⟨_, _, 0, rfl, by rw [gu_s], by rw [gb_f b6, if_neg (by omega)], by (funext j; by_cases e9 : j = 2; (rw [e9, gu_s, gu_s]); rw [gu_n _ _ e9, gu_n _ _ e9, gu_n _ _ e9]), rfl⟩
set_option maxHeartbeats 4000000 in
set_option maxRecDepth 100000 in
theorem c_X0_add_3 (l : Launch) (D : va_G) (cA : Nat → ClassId) (ct : Int → Int) (ed : Int → Int) (q0 : Int → Int) (q1 : Int → Int) (q2 : Int → Int) (q3 : Int → Int) (q4 : Int → Int) (q5 : Int → Int) (q6 : Int → Int) (q7 : Int → Int) (q8 : Int → Int) (q9 : Int → Int) (q10 : Int → Int) (q11 : Int → Int) (q12 : Int → Int) (q13 : Int → Int) (q14 : Int → Int) (q15 : Int → Int) (q16 : Int → Int) (q17 : Int → Int) (q18 : Int → Int) (q19 : Int → Int) (e : Int) (who : Int) (hct : ∀ q : Int, 0 ≤ ct q ∧ ct q ≤ 6) (hed : ∀ q : Int, inR (ed q)) (he : inR e) (hl : gLt ct ed 3 e → ct 3 < 6) :
    gC l D cA yX0_add mX0_add none 0 0 [gr 36, gi 3, gi e, gi who] (apW ct ed q0 q1 q2 q3 q4 q5 q6 q7 q8 q9 q10 q11 q12 q13 q14 q15 q16 q17 q18 q19) (fun r9 w9 => ∃ (ct2 : Int → Int) (ed2 : Int → Int) (k2 : Int), r9 = none ∧ w9 = apW ct2 ed2 q0 q1 q2 (gu q3 k2 who) q4 q5 q6 q7 q8 q9 q10 q11 q12 q13 q14 q15 q16 q17 q18 q19 ∧ (k2 = (if gb (gLt ct ed 3 e) = 1 then ct 3 else 0)) ∧ (ct2 = gu ct 3 (k2 + 1)) ∧ (ed2 = gu ed 3 e)) := by
  refine gC_of rfl kX0_add rfl rfl (Nat.le_of_ble_eq_true rfl) (fun X ad hX hE => ?_)
  refine G.go hX 3 (apW ct ed q0 q1 q2 q3 q4 q5 q6 q7 q8 q9 q10 q11 q12 q13 q14 q15 q16 q17 q18 q19, 3, [(0, gr 36), (1, gi 3), (2, gi e), (3, gi who)], [gi e, gi 3, gr 36]) rfl trivial ?_
  refine G.callV (av := [gi 3, gi e]) (o := 36) (st := []) hX rfl (fun l D cA => c_X0_isLatest l D cA ct ed q0 q1 q2 q3 q4 q5 q6 q7 q8 q9 q10 q11 q12 q13 q14 q15 q16 q17 q18 q19 3 e (by first | assumption | omega) (by first | assumption | omega) (by first | assumption | omega) (by first | assumption | omega)) (by decide +kernel) aX0_isLatest rfl rfl rfl ⟨rfl, rfl⟩ (by decide) (Nat.le_of_ble_eq_true rfl) [0, 1, 2, 3, 4, 5, 6, 7, 8, 9, 10, 11, 12, 13, 14, 15, 16, 17, 18, 19, 20, 21, 22, 23] [] [] rfl rfl rfl (fun r w' hp => ?_)
  obtain ⟨rfl, rfl⟩ := hp
  show G X mX0_add ad 0 0 (apW ct ed q0 q1 q2 q3 q4 q5 q6 q7 q8 q9 q10 q11 q12 q13 q14 q15 q16 q17 q18 q19, 6, [(0, gr 36), (1, gi 3), (2, gi e), (3, gi who)], [gi (gb (gLt ct ed 3 e))])
  refine g_if_ne hX 23 rfl rfl (gb_r _) (fun b6 => ?_) (fun b6 => ?_)
  ·
    have b6 := gb_n0 b6
    refine G.go hX 3 (apW ct ed q0 q1 q2 q3 q4 q5 q6 q7 q8 q9 q10 q11 q12 q13 q14 q15 q16 q17 q18 q19, 28, [(0, gr 36), (1, gi 3), (2, gi e), (3, gi who)], [gi 3, gr 39]) rfl trivial ?_
    refine g_aald hX 43 rfl rfl (by omega) rfl ?_
    refine G.go hX 14 (apW (gu ct 3 ((ct 3) + 1)) ed q0 q1 q2 (gu q3 (ct 3) who) q4 q5 q6 q7 q8 q9 q10 q11 q12 q13 q14 q15 q16 q17 q18 q19, 47, [(0, gr 36), (1, gi 3), (2, gi e), (3, gi who)], []) rfl ?_ ?_
    · refine ⟨?_, ?_, ?_, ?_, trivial⟩
      · omega
      · first | (have := hct 3; have := hl b6; omega) | (rw [gu_s]; omega)
      · omega
      · omega
    exact g_vret hX hE rfl ⟨_, ed, ct 3, rfl, rfl, by rw [gb_t b6, if_pos rfl], rfl, by (funext j; by_cases e9 : j = 3; (rw [e9, gu_s]; exact b6.2); rw [gu_n _ _ e9])⟩
  ·
    have b6 := gb_nn b6
    refine G.go hX 13 (apW (gu ct 3 0) (gu ed 3 e) q0 q1 q2 q3 q4 q5 q6 q7 q8 q9 q10 q11 q12 q13 q14 q15 q16 q17 q18 q19, 28, [(0, gr 36), (1, gi 3), (2, gi e), (3, gi who)], [gi 3, gr 39]) rfl ?_ ?_
    · refine ⟨?_, ?_, trivial⟩
      · omega
      · omega
    refine g_aald hX 43 rfl rfl (by omega) rfl ?_
    refine G.go hX 14 (apW (gu (gu ct 3 0) 3 (((gu ct 3 0) 3) + 1)) (gu ed 3 e) q0 q1 q2 (gu q3 ((gu ct 3 0) 3) who) q4 q5 q6 q7 q8 q9 q10 q11 q12 q13 q14 q15 q16 q17 q18 q19, 47, [(0, gr 36), (1, gi 3), (2, gi e), (3, gi who)], []) rfl ?_ ?_
    · refine ⟨?_, ?_, ?_, ?_, trivial⟩
      · omega
      · first | (have := hct 3; have := hl b6; omega) | (rw [gu_s]; omega)
      · omega
      · omega
    exact g_vret hX hE rfl ⟨_, _, 0, rfl, by rw [gu_s], by rw [gb_f b6, if_neg (by omega)], by (funext j; by_cases e9 : j = 3; (rw [e9, gu_s, gu_s]); rw [gu_n _ _ e9, gu_n _ _ e9, gu_n _ _ e9]), rfl⟩
set_option maxHeartbeats 4000000 in
set_option maxRecDepth 100000 in
theorem c_X0_add_4 (l : Launch) (D : va_G) (cA : Nat → ClassId) (ct : Int → Int) (ed : Int → Int) (q0 : Int → Int) (q1 : Int → Int) (q2 : Int → Int) (q3 : Int → Int) (q4 : Int → Int) (q5 : Int → Int) (q6 : Int → Int) (q7 : Int → Int) (q8 : Int → Int) (q9 : Int → Int) (q10 : Int → Int) (q11 : Int → Int) (q12 : Int → Int) (q13 : Int → Int) (q14 : Int → Int) (q15 : Int → Int) (q16 : Int → Int) (q17 : Int → Int) (q18 : Int → Int) (q19 : Int → Int) (e : Int) (who : Int) (hct : ∀ q : Int, 0 ≤ ct q ∧ ct q ≤ 6) (hed : ∀ q : Int, inR (ed q)) (he : inR e) (hl : gLt ct ed 4 e → ct 4 < 6) :
    gC l D cA yX0_add mX0_add none 0 0 [gr 36, gi 4, gi e, gi who] (apW ct ed q0 q1 q2 q3 q4 q5 q6 q7 q8 q9 q10 q11 q12 q13 q14 q15 q16 q17 q18 q19) (fun r9 w9 => ∃ (ct2 : Int → Int) (ed2 : Int → Int) (k2 : Int), r9 = none ∧ w9 = apW ct2 ed2 q0 q1 q2 q3 (gu q4 k2 who) q5 q6 q7 q8 q9 q10 q11 q12 q13 q14 q15 q16 q17 q18 q19 ∧ (k2 = (if gb (gLt ct ed 4 e) = 1 then ct 4 else 0)) ∧ (ct2 = gu ct 4 (k2 + 1)) ∧ (ed2 = gu ed 4 e)) := by
  refine gC_of rfl kX0_add rfl rfl (Nat.le_of_ble_eq_true rfl) (fun X ad hX hE => ?_)
  refine G.go hX 3 (apW ct ed q0 q1 q2 q3 q4 q5 q6 q7 q8 q9 q10 q11 q12 q13 q14 q15 q16 q17 q18 q19, 3, [(0, gr 36), (1, gi 4), (2, gi e), (3, gi who)], [gi e, gi 4, gr 36]) rfl trivial ?_
  refine G.callV (av := [gi 4, gi e]) (o := 36) (st := []) hX rfl (fun l D cA => c_X0_isLatest l D cA ct ed q0 q1 q2 q3 q4 q5 q6 q7 q8 q9 q10 q11 q12 q13 q14 q15 q16 q17 q18 q19 4 e (by first | assumption | omega) (by first | assumption | omega) (by first | assumption | omega) (by first | assumption | omega)) (by decide +kernel) aX0_isLatest rfl rfl rfl ⟨rfl, rfl⟩ (by decide) (Nat.le_of_ble_eq_true rfl) [0, 1, 2, 3, 4, 5, 6, 7, 8, 9, 10, 11, 12, 13, 14, 15, 16, 17, 18, 19, 20, 21, 22, 23] [] [] rfl rfl rfl (fun r w' hp => ?_)
  obtain ⟨rfl, rfl⟩ := hp
  show G X mX0_add ad 0 0 (apW ct ed q0 q1 q2 q3 q4 q5 q6 q7 q8 q9 q10 q11 q12 q13 q14 q15 q16 q17 q18 q19, 6, [(0, gr 36), (1, gi 4), (2, gi e), (3, gi who)], [gi (gb (gLt ct ed 4 e))])
  refine g_if_ne hX 23 rfl rfl (gb_r _) (fun b6 => ?_) (fun b6 => ?_)
  ·
    have b6 := gb_n0 b6
    refine G.go hX 3 (apW ct ed q0 q1 q2 q3 q4 q5 q6 q7 q8 q9 q10 q11 q12 q13 q14 q15 q16 q17 q18 q19, 28, [(0, gr 36), (1, gi 4), (2, gi e), (3, gi who)], [gi 4, gr 39]) rfl trivial ?_
    refine g_aald hX 44 rfl rfl (by omega) rfl ?_
    refine G.go hX 14 (apW (gu ct 4 ((ct 4) + 1)) ed q0 q1 q2 q3 (gu q4 (ct 4) who) q5 q6 q7 q8 q9 q10 q11 q12 q13 q14 q15 q16 q17 q18 q19, 47, [(0, gr 36), (1, gi 4), (2, gi e), (3, gi who)], []) rfl ?_ ?_
    · refine ⟨?_, ?_, ?_, ?_, trivial⟩
      · omega
      · first | (have := hct 4; have := hl b6; omega) | (rw [gu_s]; omega)
      · omega
      · omega
    exact g_vret hX hE rfl ⟨_, ed, ct 4, rfl, rfl, by rw [gb_t b6, if_pos rfl], rfl, by (funext j; by_cases e9 : j = 4; (rw [e9, gu_s]; exact b6.2); rw [gu_n _ _ e9])⟩
  ·
    have b6 := gb_nn b6
    refine G.go hX 13 (apW (gu ct 4 0) (gu ed 4 e) q0 q1 q2 q3 q4 q5 q6 q7 q8 q9 q10 q11 q12 q13 q14 q15 q16 q17 q18 q19, 28, [(0, gr 36), (1, gi 4), (2, gi e), (3, gi who)], [gi 4, gr 39]) rfl ?_ ?_
    · refine ⟨?_, ?_, trivial⟩
      · omega
      · omega
    refine g_aald hX 44 rfl rfl (by omega) rfl ?_
    refine G.go hX 14 (apW (gu (gu ct 4 0) 4 (((gu ct 4 0) 4) + 1)) (gu ed 4 e) q0 q1 q2 q3 (gu q4 ((gu ct 4 0) 4) who) q5 q6 q7 q8 q9 q10 q11 q12 q13 q14 q15 q16 q17 q18 q19, 47, [(0, gr 36), (1, gi 4), (2, gi e), (3, gi who)], []) rfl ?_ ?_
    · refine ⟨?_, ?_, ?_, ?_, trivial⟩
      · omega
      · first | (have := hct 4; have := hl b6; omega) | (rw [gu_s]; omega)
      · omega
      · omega
    exact g_vret hX hE rfl ⟨_, _, 0, rfl, by rw [gu_s], by rw [gb_f b6, if_neg (by omega)], by (funext j; by_cases e9 : j = 4; (rw [e9, gu_s, gu_s]); rw [gu_n _ _ e9, gu_n _ _ e9, gu_n _ _ e9]), rfl⟩
set_option maxHeartbeats 4000000 in
set_option maxRecDepth 100000 in
theorem c_X0_add_5 (l : Launch) (D : va_G) (cA : Nat → ClassId) (ct : Int → Int) (ed : Int → Int) (q0 : Int → Int) (q1 : Int → Int) (q2 : Int → Int) (q3 : Int → Int) (q4 : Int → Int) (q5 : Int → Int) (q6 : Int → Int) (q7 : Int → Int) (q8 : Int → Int) (q9 : Int → Int) (q10 : Int → Int) (q11 : Int → Int) (q12 : Int → Int) (q13 : Int → Int) (q14 : Int → Int) (q15 : Int → Int) (q16 : Int → Int) (q17 : Int → Int) (q18 : Int → Int) (q19 : Int → Int) (e : Int) (who : Int) (hct : ∀ q : Int, 0 ≤ ct q ∧ ct q ≤ 6) (hed : ∀ q : Int, inR (ed q)) (he : inR e) (hl : gLt ct ed 5 e → ct 5 < 6) :
    gC l D cA yX0_add mX0_add none 0 0 [gr 36, gi 5, gi e, gi who] (apW ct ed q0 q1 q2 q3 q4 q5 q6 q7 q8 q9 q10 q11 q12 q13 q14 q15 q16 q17 q18 q19) (fun r9 w9 => ∃ (ct2 : Int → Int) (ed2 : Int → Int) (k2 : Int), r9 = none ∧ w9 = apW ct2 ed2 q0 q1 q2 q3 q4 (gu q5 k2 who) q6 q7 q8 q9 q10 q11 q12 q13 q14 q15 q16 q17 q18 q19 ∧ (k2 = (if gb (gLt ct ed 5 e) = 1 then ct 5 else 0)) ∧ (ct2 = gu ct 5 (k2 + 1)) ∧ (ed2 = gu ed 5 e)) := by
  refine gC_of rfl kX0_add rfl rfl (Nat.le_of_ble_eq_true rfl) (fun X ad hX hE => ?_)
  refine G.go hX 3 (apW ct ed q0 q1 q2 q3 q4 q5 q6 q7 q8 q9 q10 q11 q12 q13 q14 q15 q16 q17 q18 q19, 3, [(0, gr 36), (1, gi 5), (2, gi e), (3, gi who)], [gi e, gi 5, gr 36]) rfl trivial ?_
  refine G.callV (av := [gi 5, gi e]) (o := 36) (st := []) hX rfl (fun l D cA => c_X0_isLatest l D cA ct ed q0 q1 q2 q3 q4 q5 q6 q7 q8 q9 q10 q11 q12 q13 q14 q15 q16 q17 q18 q19 5 e (by first | assumption | omega) (by first | assumption | omega) (by first | assumption | omega) (by first | assumption | omega)) (by decide +kernel) aX0_isLatest rfl rfl rfl ⟨rfl, rfl⟩ (by decide) (Nat.le_of_ble_eq_true rfl) [0, 1, 2, 3, 4, 5, 6, 7, 8, 9, 10, 11, 12, 13, 14, 15, 16, 17, 18, 19, 20, 21, 22, 23] [] [] rfl rfl rfl (fun r w' hp => ?_)
  obtain ⟨rfl, rfl⟩ := hp
  show G X mX0_add ad 0 0 (apW ct ed q0 q1 q2 q3 q4 q5 q6 q7 q8 q9 q10 q11 q12 q13 q14 q15 q16 q17 q18 q19, 6, [(0, gr 36), (1, gi 5), (2, gi e), (3, gi who)], [gi (gb (gLt ct ed 5 e))])
  refine g_if_ne hX 23 rfl rfl (gb_r _) (fun b6 => ?_) (fun b6 => ?_)
  ·
    have b6 := gb_n0 b6
    refine G.go hX 3 (apW ct ed q0 q1 q2 q3 q4 q5 q6 q7 q8 q9 q10 q11 q12 q13 q14 q15 q16 q17 q18 q19, 28, [(0, gr 36), (1, gi 5), (2, gi e), (3, gi who)], [gi 5, gr 39]) rfl trivial ?_
    refine g_aald hX 45 rfl rfl (by omega) rfl ?_
    refine G.go hX 14 (apW (gu ct 5 ((ct 5) + 1)) ed q0 q1 q2 q3 q4 (gu q5 (ct 5) who) q6 q7 q8 q9 q10 q11 q12 q13 q14 q15 q16 q17 q18 q19, 47, [(0, gr 36), (1, gi 5), (2, gi e), (3, gi who)], []) rfl ?_ ?_
    · refine ⟨?_, ?_, ?_, ?_, trivial⟩
      · omega
      · first | (have := hct 5; have := hl b6; omega) | (rw [gu_s]; omega)
      · omega
      · omega
    exact g_vret hX hE rfl ⟨_, ed, ct 5, rfl, rfl, by rw [gb_t b6, if_pos rfl], rfl, by (funext j; by_cases e9 : j = 5; (rw [e9, gu_s]; exact b6.2); rw [gu_n _ _ e9])⟩
  ·
    have b6 := gb_nn b6
    refine G.go hX 13 (apW (gu ct 5 0) (gu ed 5 e) q0 q1 q2 q3 q4 q5 q6 q7 q8 q9 q10 q11 q12 q13 q14 q15 q16 q17 q18 q19, 28, [(0, gr 36), (1, gi 5), (2, gi e), (3, gi who)], [gi 5, gr 39]) rfl ?_ ?_
    · refine ⟨?_, ?_, trivial⟩
      · omega
      · omega
    refine g_aald hX 45 rfl rfl (by omega) rfl ?_
    refine G.go hX 14 (apW (gu (gu ct 5 0) 5 (((gu ct 5 0) 5) + 1)) (gu ed 5 e) q0 q1 q2 q3 q4 (gu q5 ((gu ct 5 0) 5) who) q6 q7 q8 q9 q10 q11 q12 q13 q14 q15 q16 q17 q18 q19, 47, [(0, gr 36), (1, gi 5), (2, gi e), (3, gi who)], []) rfl ?_ ?_
    · refine ⟨?_, ?_, ?_, ?_, trivial⟩
      · omega
      · first | (have := hct 5; have := hl b6; omega) | (rw [gu_s]; omega)
      · omega
      · omega
    exact g_vret hX hE rfl ⟨_, _, 0, rfl, by rw [gu_s], by rw [gb_f b6, if_neg (by omega)], by (funext j; by_cases e9 : j = 5; (rw [e9, gu_s, gu_s]); rw [gu_n _ _ e9, gu_n _ _ e9, gu_n _ _ e9]), rfl⟩
set_option maxHeartbeats 4000000 in
set_option maxRecDepth 100000 in
theorem c_X0_add_6 (l : Launch) (D : va_G) (cA : Nat → ClassId) (ct : Int → Int) (ed : Int → Int) (q0 : Int → Int) (q1 : Int → Int) (q2 : Int → Int) (q3 : Int → Int) (q4 : Int → Int) (q5 : Int → Int) (q6 : Int → Int) (q7 : Int → Int) (q8 : Int → Int) (q9 : Int → Int) (q10 : Int → Int) (q11 : Int → Int) (q12 : Int → Int) (q13 : Int → Int) (q14 : Int → Int) (q15 : Int → Int) (q16 : Int → Int) (q17 : Int → Int) (q18 : Int → Int) (q19 : Int → Int) (e : Int) (who : Int) (hct : ∀ q : Int, 0 ≤ ct q ∧ ct q ≤ 6) (hed : ∀ q : Int, inR (ed q)) (he : inR e) (hl : gLt ct ed 6 e → ct 6 < 6) :
    gC l D cA yX0_add mX0_add none 0 0 [gr 36, gi 6, gi e, gi who] (apW ct ed q0 q1 q2 q3 q4 q5 q6 q7 q8 q9 q10 q11 q12 q13 q14 q15 q16 q17 q18 q19) (fun r9 w9 => ∃ (ct2 : Int → Int) (ed2 : Int → Int) (k2 : Int), r9 = none ∧ w9 = apW ct2 ed2 q0 q1 q2 q3 q4 q5 (gu q6 k2 who) q7 q8 q9 q10 q11 q12 q13 q14 q15 q16 q17 q18 q19 ∧ (k2 = (if gb (gLt ct ed 6 e) = 1 then ct 6 else 0)) ∧ (ct2 = gu ct 6 (k2 + 1)) ∧ (ed2 = gu ed 6 e)) := by
  refine gC_of rfl kX0_add rfl rfl (Nat.le_of_ble_eq_true rfl) (fun X ad hX hE => ?_)
  refine G.go hX 3 (apW ct ed q0 q1 q2 q3 q4 q5 q6 q7 q8 q9 q10 q11 q12 q13 q14 q15 q16 q17 q18 q19, 3, [(0, gr 36), (1, gi 6), (2, gi e), (3, gi who)], [gi e, gi 6, gr 36]) rfl trivial ?_
  refine G.callV (av := [gi 6, gi e]) (o := 36) (st := []) hX rfl (fun l D cA => c_X0_isLatest l D cA ct ed q0 q1 q2 q3 q4 q5 q6 q7 q8 q9 q10 q11 q12 q13 q14 q15 q16 q17 q18 q19 6 e (by first | assumption | omega) (by first | assumption | omega) (by first | assumption | omega) (by first | assumption | omega)) (by decide +kernel) aX0_isLatest rfl rfl rfl ⟨rfl, rfl⟩ (by decide) (Nat.le_of_ble_eq_true rfl) [0, 1, 2, 3, 4, 5, 6, 7, 8, 9, 10, 11, 12, 13, 14, 15, 16, 17, 18, 19, 20, 21, 22, 23] [] [] rfl rfl rfl (fun r w' hp => ?_)
  obtain ⟨rfl, rfl⟩ := hp
  show G X mX0_add ad 0 0 (apW ct ed q0 q1 q2 q3 q4 q5 q6 q7 q8 q9 q10 q11 q12 q13 q14 q15 q16 q17 q18 q19, 6, [(0, gr 36), (1, gi 6), (2, gi e), (3, gi who)], [gi (gb (gLt ct ed 6 e))])
  refine g_if_ne hX 23 rfl rfl (gb_r _) (fun b6 => ?_) (fun b6 => ?_)
  ·
    have b6 := gb_n0 b6
    refine G.go hX 3 (apW ct ed q0 q1 q2 q3 q4 q5 q6 q7 q8 q9 q10 q11 q12 q13 q14 q15 q16 q17 q18 q19, 28, [(0, gr 36), (1, gi 6), (2, gi e), (3, gi who)], [gi 6, gr 39]) rfl trivial ?_
    refine g_aald hX 46 rfl rfl (by omega) rfl ?_
    refine G.go hX 14 (apW (gu ct 6 ((ct 6) + 1)) ed q0 q1 q2 q3 q4 q5 (gu q6 (ct 6) who) q7 q8 q9 q10 q11 q12 q13 q14 q15 q16 q17 q18 q19, 47, [(0, gr 36), (1, gi 6), (2, gi e), (3, gi who)], []) rfl ?_ ?_
    · refine ⟨?_, ?_, ?_, ?_, trivial⟩
      · omega
      · first | (have := hct 6; have := hl b6; omega) | (rw [gu_s]; omega)
      · omega
      · omega
    exact g_vret hX hE rfl ⟨_, ed, ct 6, rfl, rfl, by rw [gb_t b6, if_pos rfl], rfl, by (funext j; by_cases e9 : j = 6; (rw [e9, gu_s]; exact b6.2); rw [gu_n _ _ e9])⟩
  ·
    have b6 := gb_nn b6
    refine G.go hX 13 (apW (gu ct 6 0) (gu ed 6 e) q0 q1 q2 q3 q4 q5 q6 q7 q8 q9 q10 q11 q12 q13 q14 q15 q16 q17 q18 q19, 28, [(0, gr 36), (1, gi 6), (2, gi e), (3, gi who)], [gi 6, gr 39]) rfl ?_ ?_
    · refine ⟨?_, ?_, trivial⟩
      · omega
      · omega
    refine g_aald hX 46 rfl rfl (by omega) rfl ?_
    refine G.go hX 14 (apW (gu (gu ct 6 0) 6 (((gu ct 6 0) 6) + 1)) (gu ed 6 e) q0 q1 q2 q3 q4 q5 (gu q6 ((gu ct 6 0) 6) who) q7 q8 q9 q10 q11 q12 q13 q14 q15 q16 q17 q18 q19, 47, [(0, gr 36), (1, gi 6), (2, gi e), (3, gi who)], []) rfl ?_ ?_
    · refine ⟨?_, ?_, ?_, ?_, trivial⟩
      · omega
      · first | (have := hct 6; have := hl b6; omega) | (rw [gu_s]; omega)
      · omega
      · omega
    exact g_vret hX hE rfl ⟨_, _, 0, rfl, by rw [gu_s], by rw [gb_f b6, if_neg (by omega)], by (funext j; by_cases e9 : j = 6; (rw [e9, gu_s, gu_s]); rw [gu_n _ _ e9, gu_n _ _ e9, gu_n _ _ e9]), rfl⟩
set_option maxHeartbeats 4000000 in
set_option maxRecDepth 100000 in
theorem c_X0_add_7 (l : Launch) (D : va_G) (cA : Nat → ClassId) (ct : Int → Int) (ed : Int → Int) (q0 : Int → Int) (q1 : Int → Int) (q2 : Int → Int) (q3 : Int → Int) (q4 : Int → Int) (q5 : Int → Int) (q6 : Int → Int) (q7 : Int → Int) (q8 : Int → Int) (q9 : Int → Int) (q10 : Int → Int) (q11 : Int → Int) (q12 : Int → Int) (q13 : Int → Int) (q14 : Int → Int) (q15 : Int → Int) (q16 : Int → Int) (q17 : Int → Int) (q18 : Int → Int) (q19 : Int → Int) (e : Int) (who : Int) (hct : ∀ q : Int, 0 ≤ ct q ∧ ct q ≤ 6) (hed : ∀ q : Int, inR (ed q)) (he : inR e) (hl : gLt ct ed 7 e → ct 7 < 6) :
    gC l D cA yX0_add mX0_add none 0 0 [gr 36, gi 7, gi e, gi who] (apW ct ed q0 q1 q2 q3 q4 q5 q6 q7 q8 q9 q10 q11 q12 q13 q14 q15 q16 q17 q18 q19) (fun r9 w9 => ∃ (ct2 : Int → Int) (ed2 : Int → Int) (k2 : Int), r9 = none ∧ w9 = apW ct2 ed2 q0 q1 q2 q3 q4 q5 q6 (gu q7 k2 who) q8 q9 q10 q11 q12 q13 q14 q15 q16 q17 q18 q19 ∧ (k2 = (if gb (gLt ct ed 7 e) = 1 then ct 7 else 0)) ∧ (ct2 = gu ct 7 (k2 + 1)) ∧ (ed2 = gu ed 7 e)) := by
  refine gC_of rfl kX0_add rfl rfl (Nat.le_of_ble_eq_true rfl) (fun X ad hX hE => ?_)
  refine G.go hX 3 (apW ct ed q0 q1 q2 q3 q4 q5 q6 q7 q8 q9 q10 q11 q12 q13 q14 q15 q16 q17 q18 q19, 3, [(0, gr 36), (1, gi 7), (2, gi e), (3, gi who)], [gi e, gi 7, gr 36]) rfl trivial ?_
  refine G.callV (av := [gi 7, gi e]) (o := 36) (st := []) hX rfl (fun l D cA => c_X0_isLatest l D cA ct ed q0 q1 q2 q3 q4 q5 q6 q7 q8 q9 q10 q11 q12 q13 q14 q15 q16 q17 q18 q19 7 e (by first | assumption | omega) (by first | assumption | omega) (by first | assumption | omega) (by first | assumption | omega)) (by decide +kernel) aX0_isLatest rfl rfl rfl ⟨rfl, rfl⟩ (by decide) (Nat.le_of_ble_eq_true rfl) [0, 1, 2, 3, 4, 5, 6, 7, 8, 9, 10, 11, 12, 13, 14, 15, 16, 17, 18, 19, 20, 21, 22, 23] [] [] rfl rfl rfl (fun r w' hp => ?_)
  obtain ⟨rfl, rfl⟩ := hp
  show G X mX0_add ad 0 0 (apW ct ed q0 q1 q2 q3 q4 q5 q6 q7 q8 q9 q10 q11 q12 q13 q14 q15 q16 q17 q18 q19, 6, [(0, gr 36), (1, gi 7), (2, gi e), (3, gi who)], [gi (gb (gLt ct ed 7 e))])
  refine g_if_ne hX 23 rfl rfl (gb_r _) (fun b6 => ?_) (fun b6 => ?_)
  ·
    have b6 := gb_n0 b6
    refine G.go hX 3 (apW ct ed q0 q1 q2 q3 q4 q5 q6 q7 q8 q9 q10 q11 q12 q13 q14 q15 q16 q17 q18 q19, 28, [(0, gr 36), (1, gi 7), (2, gi e), (3, gi who)], [gi 7, gr 39]) rfl trivial ?_
    refine g_aald hX 47 rfl rfl (by omega) rfl ?_
    refine G.go hX 14 (apW (gu ct 7 ((ct 7) + 1)) ed q0 q1 q2 q3 q4 q5 q6 (gu q7 (ct 7) who) q8 q9 q10 q11 q12 q13 q14 q15 q16 q17 q18 q19, 47, [(0, gr 36), (1, gi 7), (2, gi e), (3, gi who)], []) rfl ?_ ?_
    · refine ⟨?_, ?_, ?_, ?_, trivial⟩
      · omega
      · first | (have := hct 7; have := hl b6; omega) | (rw [gu_s]; omega)
      · omega
      · omega
    exact g_vret hX hE rfl ⟨_, ed, ct 7, rfl, rfl, by rw [gb_t b6, if_pos rfl], rfl, by (funext j; by_cases e9 : j = 7; (rw [e9, gu_s]; exact b6.2); rw [gu_n _ _ e9])⟩
  ·
    have b6 := gb_nn b6
    refine G.go hX 13 (apW (gu ct 7 0) (gu ed 7 e) q0 q1 q2 q3 q4 q5 q6 q7 q8 q9 q10 q11 q12 q13 q14 q15 q16 q17 q18 q19, 28, [(0, gr 36), (1, gi 7), (2, gi e), (3, gi who)], [gi 7, gr 39]) rfl ?_ ?_
    · refine ⟨?_, ?_, trivial⟩
      · omega
      · omega
    refine g_aald hX 47 rfl rfl (by omega) rfl ?_
    refine G.go hX 14 (apW (gu (gu ct 7 0) 7 (((gu ct 7 0) 7) + 1)) (gu ed 7 e) q0 q1 q2 q3 q4 q5 q6 (gu q7 ((gu ct 7 0) 7) who) q8 q9 q10 q11 q12 q13 q14 q15 q16 q17 q18 q19, 47, [(0, gr 36), (1, gi 7), (2, gi e), (3, gi who)], []) rfl ?_ ?_
    · refine ⟨?_, ?_, ?_, ?_, trivial⟩
      · omega
      · first | (have := hct 7; have := hl b6; omega) | (rw [gu_s]; omega)
      · omega
      · omega
    exact g_vret hX hE rfl ⟨_, _, 0, rfl, by rw [gu_s], by rw [gb_f b6, if_neg (by omega)], by (funext j; by_cases e9 : j = 7; (rw [e9, gu_s, gu_s]); rw [gu_n _ _ e9, gu_n _ _ e9, gu_n _ _ e9]), rfl⟩
set_option maxHeartbeats 4000000 in
set_option maxRecDepth 100000 in
theorem c_X0_add_8 (l : Launch) (D : va_G) (cA : Nat → ClassId) (ct : Int → Int) (ed : Int → Int) (q0 : Int → Int) (q1 : Int → Int) (q2 : Int → Int) (q3 : Int → Int) (q4 : Int → Int) (q5 : Int → Int) (q6 : Int → Int) (q7 : Int → Int) (q8 : Int → Int) (q9 : Int → Int) (q10 : Int → Int) (q11 : Int → Int) (q12 : Int → Int) (q13 : Int → Int) (q14 : Int → Int) (q15 : Int → Int) (q16 : Int → Int) (q17 : Int → Int) (q18 : Int → Int) (q19 : Int → Int) (e : Int) (who : Int) (hct : ∀ q : Int, 0 ≤ ct q ∧ ct q ≤ 6) (hed : ∀ q : Int, inR (ed q)) (he : inR e) (hl : gLt ct ed 8 e → ct 8 < 6) :
    gC l D cA yX0_add mX0_add none 0 0 [gr 36, gi 8, gi e, gi who] (apW ct ed q0 q1 q2 q3 q4 q5 q6 q7 q8 q9 q10 q11 q12 q13 q14 q15 q16 q17 q18 q19) (fun r9 w9 => ∃ (ct2 : Int → Int) (ed2 : Int → Int) (k2 : Int), r9 = none ∧ w9 = apW ct2 ed2 q0 q1 q2 q3 q4 q5 q6 q7 (gu q8 k2 who) q9 q10 q11 q12 q13 q14 q15 q16 q17 q18 q19 ∧ (k2 = (if gb (gLt ct ed 8 e) = 1 then ct 8 else 0)) ∧ (ct2 = gu ct 8 (k2 + 1)) ∧ (ed2 = gu ed 8 e)) := by
  refine gC_of rfl kX0_add rfl rfl (Nat.le_of_ble_eq_true rfl) (fun X ad hX hE => ?_)
  refine G.go hX 3 (apW ct ed q0 q1 q2 q3 q4 q5 q6 q7 q8 q9 q10 q11 q12 q13 q14 q15 q16 q17 q18 q19, 3, [(0, gr 36), (1, gi 8), (2, gi e), (3, gi who)], [gi e, gi 8, gr 36]) rfl trivial ?_
  refine G.callV (av := [gi 8, gi e]) (o := 36) (st := []) hX rfl (fun l D cA => c_X0_isLatest l D cA ct ed q0 q1 q2 q3 q4 q5 q6 q7 q8 q9 q10 q11 q12 q13 q14 q15 q16 q17 q18 q19 8 e (by first | assumption | omega) (by first | assumption | omega) (by first | assumption | omega) (by first | assumption | omega)) (by decide +kernel) aX0_isLatest rfl rfl rfl ⟨rfl, rfl⟩ (by decide) (Nat.le_of_ble_eq_true rfl) [0, 1, 2, 3, 4, 5, 6, 7, 8, 9, 10, 11, 12, 13, 14, 15, 16, 17, 18, 19, 20, 21, 22, 23] [] [] rfl rfl rfl (fun r w' hp => ?_)
  obtain ⟨rfl, rfl⟩ := hp
  show G X mX0_add ad 0 0 (apW ct ed q0 q1 q2 q3 q4 q5 q6 q7 q8 q9 q10 q11 q12 q13 q14 q15 q16 q17 q18 q19, 6, [(0, gr 36), (1, gi 8), (2, gi e), (3, gi who)], [gi (gb (gLt ct ed 8 e))])
  refine g_if_ne hX 23 rfl rfl (gb_r _) (fun b6 => ?_) (fun b6 => ?_)
  ·
    have b6 := gb_n0 b6
    refine G.go hX 3 (apW ct ed q0 q1 q2 q3 q4 q5 q6 q7 q8 q9 q10 q11 q12 q13 q14 q15 q16 q17 q18 q19, 28, [(0, gr 36), (1, gi 8), (2, gi e), (3, gi who)], [gi 8, gr 39]) rfl trivial ?_
    refine g_aald hX 48 rfl rfl (by omega) rfl ?_
    refine G.go hX 14 (apW (gu ct 8 ((ct 8) + 1)) ed q0 q1 q2 q3 q4 q5 q6 q7 (gu q8 (ct 8) who) q9 q10 q11 q12 q13 q14 q15 q16 q17 q18 q19, 47, [(0, gr 36), (1, gi 8), (2, gi e), (3, gi who)], []) rfl ?_ ?_
    · refine ⟨?_, ?_, ?_, ?_, trivial⟩
      · omega
      · first | (have := hct 8; have := hl b6; omega) | (rw [gu_s]; omega)
      · omega
      · omega
    exact g_vret hX hE rfl ⟨_, ed, ct 8, rfl, rfl, by rw [gb_t b6, if_pos rfl], rfl, by (funext j; by_cases e9 : j = 8; (rw [e9, gu_s]; exact b6.2); rw [gu_n _ _ e9])⟩
  ·
    have b6 := gb_nn b6
    refine G.go hX 13 (apW (gu ct 8 0) (gu ed 8 e) q0 q1 q2 q3 q4 q5 q6 q7 q8 q9 q10 q11 q12 q13 q14 q15 q16 q17 q18 q19, 28, [(0, gr 36), (1, gi 8), (2, gi e), (3, gi who)], [gi 8, gr 39]) rfl ?_ ?_
    · refine ⟨?_, ?_, trivial⟩
      · omega
      · omega
    refine g_aald hX 48 rfl rfl (by omega) rfl ?_
    refine G.go hX 14 (apW (gu (gu ct 8 0) 8 (((gu ct 8 0) 8) + 1)) (gu ed 8 e) q0 q1 q2 q3 q4 q5 q6 q7 (gu q8 ((gu ct 8 0) 8) who) q9 q10 q11 q12 q13 q14 q15 q16 q17 q18 q19, 47, [(0, gr 36), (1, gi 8), (2, gi e), (3, gi who)], []) rfl ?_ ?_
    · refine ⟨?_, ?_, ?_, ?_, trivial⟩
      · omega
      · first | (have := hct 8; have := hl b6; omega) | (rw [gu_s]; omega)
      · omega
      · omega
    exact g_vret hX hE rfl ⟨_, _, 0, rfl, by rw [gu_s], by rw [gb_f b6, if_neg (by omega)], by (funext j; by_cases e9 : j = 8; (rw [e9, gu_s, gu_s]); rw [gu_n _ _ e9, gu_n _ _ e9, gu_n _ _ e9]), rfl⟩
set_option maxHeartbeats 4000000 in
set_option maxRecDepth 100000 in
theorem c_X0_add_9 (l : Launch) (D : va_G) (cA : Nat → ClassId) (ct : Int → Int) (ed : Int → Int) (q0 : Int → Int) (q1 : Int → Int) (q2 : Int → Int) (q3 : Int → Int) (q4 : Int → Int) (q5 : Int → Int) (q6 : Int → Int) (q7 : Int → Int) (q8 : Int → Int) (q9 : Int → Int) (q10 : Int → Int) (q11 : Int → Int) (q12 : Int → Int) (q13 : Int → Int) (q14 : Int → Int) (q15 : Int → Int) (q16 : Int → Int) (q17 : Int → Int) (q18 : Int → Int) (q19 : Int → Int) (e : Int) (who : Int) (hct : ∀ q : Int, 0 ≤ ct q ∧ ct q ≤ 6) (hed : ∀ q : Int, inR (ed q)) (he : inR e) (hl : gLt ct ed 9 e → ct 9 < 6) :
    gC l D cA yX0_add mX0_add none 0 0 [gr 36, gi 9, gi e, gi who] (apW ct ed q0 q1 q2 q3 q4 q5 q6 q7 q8 q9 q10 q11 q12 q13 q14 q15 q16 q17 q18 q19) (fun r9 w9 => ∃ (ct2 : Int → Int) (ed2 : Int → Int) (k2 : Int), r9 = none ∧ w9 = apW ct2 ed2 q0 q1 q2 q3 q4 q5 q6 q7 q8 (gu q9 k2 who) q10 q11 q12 q13 q14 q15 q16 q17 q18 q19 ∧ (k2 = (if gb (gLt ct ed 9 e) = 1 then ct 9 else 0)) ∧ (ct2 = gu ct 9 (k2 + 1)) ∧ (ed2 = gu ed 9 e)) := by
  refine gC_of rfl kX0_add rfl rfl (Nat.le_of_ble_eq_true rfl) (fun X ad hX hE => ?_)
  refine G.go hX 3 (apW ct ed q0 q1 q2 q3 q4 q5 q6 q7 q8 q9 q10 q11 q12 q13 q14 q15 q16 q17 q18 q19, 3, [(0, gr 36), (1, gi 9), (2, gi e), (3, gi who)], [gi e, gi 9, gr 36]) rfl trivial ?_
  refine G.callV (av := [gi 9, gi e]) (o := 36) (st := []) hX rfl (fun l D cA => c_X0_isLatest l D cA ct ed q0 q1 q2 q3 q4 q5 q6 q7 q8 q9 q10 q11 q12 q13 q14 q15 q16 q17 q18 q19 9 e (by first | assumption | omega) (by first | assumption | omega) (by first | assumption | omega) (by first | assumption | omega)) (by decide +kernel) aX0_isLatest rfl rfl rfl ⟨rfl, rfl⟩ (by decide) (Nat.le_of_ble_eq_true rfl) [0, 1, 2, 3, 4, 5, 6, 7, 8, 9, 10, 11, 12, 13, 14, 15, 16, 17, 18, 19, 20, 21, 22, 23] [] [] rfl rfl rfl (fun r w' hp => ?_)
  obtain ⟨rfl, rfl⟩ := hp
  show G X mX0_add ad 0 0 (apW ct ed q0 q1 q2 q3 q4 q5 q6 q7 q8 q9 q10 q11 q12 q13 q14 q15 q16 q17 q18 q19, 6, [(0, gr 36), (1, gi 9), (2, gi e), (3, gi who)], [gi (gb (gLt ct ed 9 e))])
  refine g_if_ne hX 23 rfl rfl (gb_r _) (fun b6 => ?_) (fun b6 => ?_)
  ·
    have b6 := gb_n0 b6
    refine G.go hX 3 (apW ct ed q0 q1 q2 q3 q4 q5 q6 q7 q8 q9 q10 q11 q12 q13 q14 q15 q16 q17 q18 q19, 28, [(0, gr 36), (1, gi 9), (2, gi e), (3, gi who)], [gi 9, gr 39]) rfl trivial ?_
    refine g_aald hX 49 rfl rfl (by omega) rfl ?_
    refine G.go hX 14 (apW (gu ct 9 ((ct 9) + 1)) ed q0 q1 q2 q3 q4 q5 q6 q7 q8 (gu q9 (ct 9) who) q10 q11 q12 q13 q14 q15 q16 q17 q18 q19, 47, [(0, gr 36), (1, gi 9), (2, gi e), (3, gi who)], []) rfl ?_ ?_
    · refine ⟨?_, ?_, ?_, ?_, trivial⟩
      · omega
      · first | (have := hct 9; have := hl b6; omega) | (rw [gu_s]; omega)
      · omega
      · omega
    exact g_vret hX hE rfl ⟨_, ed, ct 9, rfl, rfl, by rw [gb_t b6, if_pos rfl], rfl, by (funext j; by_cases e9 : j = 9; (rw [e9, gu_s]; exact b6.2); rw [gu_n _ _ e9])⟩
  ·
    have b6 := gb_nn b6
    refine G.go hX 13 (apW (gu ct 9 0) (gu ed 9 e) q0 q1 q2 q3 q4 q5 q6 q7 q8 q9 q10 q11 q12 q13 q14 q15 q16 q17 q18 q19, 28, [(0, gr 36), (1, gi 9), (2, gi e), (3, gi who)], [gi 9, gr 39]) rfl ?_ ?_
    · refine ⟨?_, ?_, trivial⟩
      · omega
      · omega
    refine g_aald hX 49 rfl rfl (by omega) rfl ?_
    refine G.go hX 14 (apW (gu (gu ct 9 0) 9 (((gu ct 9 0) 9) + 1)) (gu ed 9 e) q0 q1 q2 q3 q4 q5 q6 q7 q8 (gu q9 ((gu ct 9 0) 9) who) q10 q11 q12 q13 q14 q15 q16 q17 q18 q19, 47, [(0, gr 36), (1, gi 9), (2, gi e), (3, gi who)], []) rfl ?_ ?_
    · refine ⟨?_, ?_, ?_, ?_, trivial⟩
      · omega
      · first | (have := hct 9; have := hl b6; omega) | (rw [gu_s]; omega)
      · omega
      · omega
    exact g_vret hX hE rfl ⟨_, _, 0, rfl, by rw [gu_s], by rw [gb_f b6, if_neg (by omega)], by (funext j; by_cases e9 : j = 9; (rw [e9, gu_s, gu_s]); rw [gu_n _ _ e9, gu_n _ _ e9, gu_n _ _ e9]), rfl⟩
set_option maxHeartbeats 4000000 in
set_option maxRecDepth 100000 in
theorem c_X0_add_10 (l : Launch) (D : va_G) (cA : Nat → ClassId) (ct : Int → Int) (ed : Int → Int) (q0 : Int → Int) (q1 : Int → Int) (q2 : Int → Int) (q3 : Int → Int) (q4 : Int → Int) (q5 : Int → Int) (q6 : Int → Int) (q7 : Int → Int) (q8 : Int → Int) (q9 : Int → Int) (q10 : Int → Int) (q11 : Int → Int) (q12 : Int → Int) (q13 : Int → Int) (q14 : Int → Int) (q15 : Int → Int) (q16 : Int → Int) (q17 : Int → Int) (q18 : Int → Int) (q19 : Int → Int) (e : Int) (who : Int) (hct : ∀ q : Int, 0 ≤ ct q ∧ ct q ≤ 6) (hed : ∀ q : Int, inR (ed q)) (he : inR e) (hl : gLt ct ed 10 e → ct 10 < 6) :
    gC l D cA yX0_add mX0_add none 0 0 [gr 36, gi 10, gi e, gi who] (apW ct ed q0 q1 q2 q3 q4 q5 q6 q7 q8 q9 q10 q11 q12 q13 q14 q15 q16 q17 q18 q19) (fun r9 w9 => ∃ (ct2 : Int → Int) (ed2 : Int → Int) (k2 : Int), r9 = none ∧ w9 = apW ct2 ed2 q0 q1 q2 q3 q4 q5 q6 q7 q8 q9 (gu q10 k2 who) q11 q12 q13 q14 q15 q16 q17 q18 q19 ∧ (k2 = (if gb (gLt ct ed 10 e) = 1 then ct 10 else 0)) ∧ (ct2 = gu ct 10 (k2 + 1)) ∧ (ed2 = gu ed 10 e)) := by
  refine gC_of rfl kX0_add rfl rfl (Nat.le_of_ble_eq_true rfl) (fun X ad hX hE => ?_)
  refine G.go hX 3 (apW ct ed q0 q1 q2 q3 q4 q5 q6 q7 q8 q9 q10 q11 q12 q13 q14 q15 q16 q17 q18 q19, 3, [(0, gr 36), (1, gi 10), (2, gi e), (3, gi who)], [gi e, gi 10, gr 36]) rfl trivial ?_
  refine G.callV (av := [gi 10, gi e]) (o := 36) (st := []) hX rfl (fun l D cA => c_X0_isLatest l D cA ct ed q0 q1 q2 q3 q4 q5 q6 q7 q8 q9 q10 q11 q12 q13 q14 q15 q16 q17 q18 q19 10 e (by first | assumption | omega) (by first | assumption | omega) (by first | assumption | omega) (by first | assumption | omega)) (by decide +kernel) aX0_isLatest rfl rfl rfl ⟨rfl, rfl⟩ (by decide) (Nat.le_of_ble_eq_true rfl) [0, 1, 2, 3, 4, 5, 6, 7, 8, 9, 10, 11, 12, 13, 14, 15, 16, 17, 18, 19, 20, 21, 22, 23] [] [] rfl rfl rfl (fun r w' hp => ?_)
  obtain ⟨rfl, rfl⟩ := hp
  show G X mX0_add ad 0 0 (apW ct ed q0 q1 q2 q3 q4 q5 q6 q7 q8 q9 q10 q11 q12 q13 q14 q15 q16 q17 q18 q19, 6, [(0, gr 36), (1, gi 10), (2, gi e), (3, gi who)], [gi (gb (gLt ct ed 10 e))])
  refine g_if_ne hX 23 rfl rfl (gb_r _) (fun b6 => ?_) (fun b6 => ?_)
  ·
    have b6 := gb_n0 b6
    refine G.go hX 3 (apW ct ed q0 q1 q2 q3 q4 q5 q6 q7 q8 q9 q10 q11 q12 q13 q14 q15 q16 q17 q18 q19, 28, [(0, gr 36), (1, gi 10), (2, gi e), (3, gi who)], [gi 10, gr 39]) rfl trivial ?_
    refine g_aald hX 50 rfl rfl (by omega) rfl ?_
    refine G.go hX 14 (apW (gu ct 10 ((ct 10) + 1)) ed q0 q1 q2 q3 q4 q5 q6 q7 q8 q9 (gu q10 (ct 10) who) q11 q12 q13 q14 q15 q16 q17 q18 q19, 47, [(0, gr 36), (1, gi 10), (2, gi e), (3, gi who)], []) rfl ?_ ?_
    · refine ⟨?_, ?_, ?_, ?_, trivial⟩
      · omega
      · first | (have := hct 10; have := hl b6; omega) | (rw [gu_s]; omega)
      · omega
      · omega
    exact g_vret hX hE rfl ⟨_, ed, ct 10, rfl, rfl, by rw [gb_t b6, if_pos rfl], rfl, by (funext j; by_cases e9 : j = 10; (rw [e9, gu_s]; exact b6.2); rw [gu_n _ _ e9])⟩
  ·
    have b6 := gb_nn b6
    refine G.go hX 13 (apW (gu ct 10 0) (gu ed 10 e) q0 q1 q2 q3 q4 q5 q6 q7 q8 q9 q10 q11 q12 q13 q14 q15 q16 q17 q18 q19, 28, [(0, gr 36), (1, gi 10), (2, gi e), (3, gi who)], [gi 10, gr 39]) rfl ?_ ?_
    · refine ⟨?_, ?_, trivial⟩
      · omega
      · omega
    refine g_aald hX 50 rfl rfl (by omega) rfl ?_
    refine G.go hX 14 (apW (gu (gu ct 10 0) 10 (((gu ct 10 0) 10) + 1)) (gu ed 10 e) q0 q1 q2 q3 q4 q5 q6 q7 q8 q9 (gu q10 ((gu ct 10 0) 10) who) q11 q12 q13 q14 q15 q16 q17 q18 q19, 47, [(0, gr 36), (1, gi 10), (2, gi e), (3, gi who)], []) rfl ?_ ?_
    · refine ⟨?_, ?_, ?_, ?_, trivial⟩
      · omega
      · first | (have := hct 10; have := hl b6; omega) | (rw [gu_s]; omega)
      · omega
      · omega
    exact g_vret hX hE rfl ⟨_, _, 0, rfl, by rw [gu_s], by rw [gb_f b6, if_neg (by omega)], by (funext j; by_cases e9 : j = 10; (rw [e9, gu_s, gu_s]); rw [gu_n _ _ e9, gu_n _ _ e9, gu_n _ _ e9]), rfl⟩
set_option maxHeartbeats 4000000 in
set_option maxRecDepth 100000 in
theorem c_X0_add_11 (l : Launch) (D : va_G) (cA : Nat → ClassId) (ct : Int → Int) (ed : Int → Int) (q0 : Int → Int) (q1 : Int → Int) (q2 : Int → Int) (q3 : Int → Int) (q4 : Int → Int) (q5 : Int → Int) (q6 : Int → Int) (q7 : Int → Int) (q8 : Int → Int) (q9 : Int → Int) (q10 : Int → Int) (q11 : Int → Int) (q12 : Int → Int) (q13 : Int → Int) (q14 : Int → Int) (q15 : Int → Int) (q16 : Int → Int) (q17 : Int → Int) (q18 : Int → Int) (q19 : Int → Int) (e : Int) (who : Int) (hct : ∀ q : Int, 0 ≤ ct q ∧ ct q ≤ 6) (hed : ∀ q : Int, inR (ed q)) (he : inR e) (hl : gLt ct ed 11 e → ct 11 < 6) :
    gC l D cA yX0_add mX0_add none 0 0 [gr 36, gi 11, gi e, gi who] (apW ct ed q0 q1 q2 q3 q4 q5 q6 q7 q8 q9 q10 q11 q12 q13 q14 q15 q16 q17 q18 q19) (fun r9 w9 => ∃ (ct2 : Int → Int) (ed2 : Int → Int) (k2 : Int), r9 = none ∧ w9 = apW ct2 ed2 q0 q1 q2 q3 q4 q5 q6 q7 q8 q9 q10 (gu q11 k2 who) q12 q13 q14 q15 q16 q17 q18 q19 ∧ (k2 = (if gb (gLt ct ed 11 e) = 1 then ct 11 else 0)) ∧ (ct2 = gu ct 11 (k2 + 1)) ∧ (ed2 = gu ed 11 e)) := by
  refine gC_of rfl kX0_add rfl rfl (Nat.le_of_ble_eq_true rfl) (fun X ad hX hE => ?_)
  refine G.go hX 3 (apW ct ed q0 q1 q2 q3 q4 q5 q6 q7 q8 q9 q10 q11 q12 q13 q14 q15 q16 q17 q18 q19, 3, [(0, gr 36), (1, gi 11), (2, gi e), (3, gi who)], [gi e, gi 11, gr 36]) rfl trivial ?_
  refine G.callV (av := [gi 11, gi e]) (o := 36) (st := []) hX rfl (fun l D cA => c_X0_isLatest l D cA ct ed q0 q1 q2 q3 q4 q5 q6 q7 q8 q9 q10 q11 q12 q13 q14 q15 q16 q17 q18 q19 11 e (by first | assumption | omega) (by first | assumption | omega) (by first | assumption | omega) (by first | assumption | omega)) (by decide +kernel) aX0_isLatest rfl rfl rfl ⟨rfl, rfl⟩ (by decide) (Nat.le_of_ble_eq_true rfl) [0, 1, 2, 3, 4, 5, 6, 7, 8, 9, 10, 11, 12, 13, 14, 15, 16, 17, 18, 19, 20, 21, 22, 23] [] [] rfl rfl rfl (fun r w' hp => ?_)
  obtain ⟨rfl, rfl⟩ := hp
  show G X mX0_add ad 0 0 (apW ct ed q0 q1 q2 q3 q4 q5 q6 q7 q8 q9 q10 q11 q12 q13 q14 q15 q16 q17 q18 q19, 6, [(0, gr 36), (1, gi 11), (2, gi e), (3, gi who)], [gi (gb (gLt ct ed 11 e))])
  refine g_if_ne hX 23 rfl rfl (gb_r _) (fun b6 => ?_) (fun b6 => ?_)
  ·
    have b6 := gb_n0 b6
    refine G.go hX 3 (apW ct ed q0 q1 q2 q3 q4 q5 q6 q7 q8 q9 q10 q11 q12 q13 q14 q15 q16 q17 q18 q19, 28, [(0, gr 36), (1, gi 11), (2, gi e), (3, gi who)], [gi 11, gr 39]) rfl trivial ?_
    refine g_aald hX 51 rfl rfl (by omega) rfl ?_
    refine G.go hX 14 (apW (gu ct 11 ((ct 11) + 1)) ed q0 q1 q2 q3 q4 q5 q6 q7 q8 q9 q10 (gu q11 (ct 11) who) q12 q13 q14 q15 q16 q17 q18 q19, 47, [(0, gr 36), (1, gi 11), (2, gi e), (3, gi who)], []) rfl ?_ ?_
    · refine ⟨?_, ?_, ?_, ?_, trivial⟩
      · omega
      · first | (have := hct 11; have := hl b6; omega) | (rw [gu_s]; omega)
      · omega
      · omega
    exact g_vret hX hE rfl ⟨_, ed, ct 11, rfl, rfl, by rw [gb_t b6, if_pos rfl], rfl, by (funext j; by_cases e9 : j = 11; (rw [e9, gu_s]; exact b6.2); rw [gu_n _ _ e9])⟩
  ·
    have b6 := gb_nn b6
    refine G.go hX 13 (apW (gu ct 11 0) (gu ed 11 e) q0 q1 q2 q3 q4 q5 q6 q7 q8 q9 q10 q11 q12 q13 q14 q15 q16 q17 q18 q19, 28, [(0, gr 36), (1, gi 11), (2, gi e), (3, gi who)], [gi 11, gr 39]) rfl ?_ ?_
    · refine ⟨?_, ?_, trivial⟩
      · omega
      · omega
    refine g_aald hX 51 rfl rfl (by omega) rfl ?_
    refine G.go hX 14 (apW (gu (gu ct 11 0) 11 (((gu ct 11 0) 11) + 1)) (gu ed 11 e) q0 q1 q2 q3 q4 q5 q6 q7 q8 q9 q10 (gu q11 ((gu ct 11 0) 11) who) q12 q13 q14 q15 q16 q17 q18 q19, 47, [(0, gr 36), (1, gi 11), (2, gi e), (3, gi who)], []) rfl ?_ ?_
    · refine ⟨?_, ?_, ?_, ?_, trivial⟩
      · omega
      · first | (have := hct 11; have := hl b6; omega) | (rw [gu_s]; omega)
      · omega
      · omega
    exact g_vret hX hE rfl ⟨_, _, 0, rfl, by rw [gu_s], by rw [gb_f b6, if_neg (by omega)], by (funext j; by_cases e9 : j = 11; (rw [e9, gu_s, gu_s]); rw [gu_n _ _ e9, gu_n _ _ e9, gu_n _ _ e9]), rfl⟩
set_option maxHeartbeats 4000000 in
set_option maxRecDepth 100000 in
theorem c_X0_add_12 (l : Launch) (D : va_G) (cA : Nat → ClassId) (ct : Int → Int) (ed : Int → Int) (q0 : Int → Int) (q1 : Int → Int) (q2 : Int → Int) (q3 : Int → Int) (q4 : Int → Int) (q5 : Int → Int) (q6 : Int → Int) (q7 : Int → Int) (q8 : Int → Int) (q9 : Int → Int) (q10 : Int → Int) (q11 : Int → Int) (q12 : Int → Int) (q13 : Int → Int) (q14 : Int → Int) (q15 : Int → Int) (q16 : Int → Int) (q17 : Int → Int) (q18 : Int → Int) (q19 : Int → Int) (e : Int) (who : Int) (hct : ∀ q : Int, 0 ≤ ct q ∧ ct q ≤ 6) (hed : ∀ q : Int, inR (ed q)) (he : inR e) (hl : gLt ct ed 12 e → ct 12 < 6) :
    gC l D cA yX0_add mX0_add none 0 0 [gr 36, gi 12, gi e, gi who] (apW ct ed q0 q1 q2 q3 q4 q5 q6 q7 q8 q9 q10 q11 q12 q13 q14 q15 q16 q17 q18 q19) (fun r9 w9 => ∃ (ct2 : Int → Int) (ed2 : Int → Int) (k2 : Int), r9 = none ∧ w9 = apW ct2 ed2 q0 q1 q2 q3 q4 q5 q6 q7 q8 q9 q10 q11 (gu q12 k2 who) q13 q14 q15 q16 q17 q18 q19 ∧ (k2 = (if gb (gLt ct ed 12 e) = 1 then ct 12 else 0)) ∧ (ct2 = gu ct 12 (k2 + 1)) ∧ (ed2 = gu ed 12 e)) := by
  refine gC_of rfl kX0_add rfl rfl (Nat.le_of_ble_eq_true rfl) (fun X ad hX hE => ?_)
  refine G.go hX 3 (apW ct ed q0 q1 q2 q3 q4 q5 q6 q7 q8 q9 q10 q11 q12 q13 q14 q15 q16 q17 q18 q19, 3, [(0, gr 36), (1, gi 12), (2, gi e), (3, gi who)], [gi e, gi 12, gr 36]) rfl trivial ?_
  refine G.callV (av := [gi 12, gi e]) (o := 36) (st := []) hX rfl (fun l D cA => c_X0_isLatest l D cA ct ed q0 q1 q2 q3 q4 q5 q6 q7 q8 q9 q10 q11 q12 q13 q14 q15 q16 q17 q18 q19 12 e (by first | assumption | omega) (by first | assumption | omega) (by first | assumption | omega) (by first | assumption | omega)) (by decide +kernel) aX0_isLatest rfl rfl rfl ⟨rfl, rfl⟩ (by decide) (Nat.le_of_ble_eq_true rfl) [0, 1, 2, 3, 4, 5, 6, 7, 8, 9, 10, 11, 12, 13, 14, 15, 16, 17, 18, 19, 20, 21, 22, 23] [] [] rfl rfl rfl (fun r w' hp => ?_)
  obtain ⟨rfl, rfl⟩ := hp
  show G X mX0_add ad 0 0 (apW ct ed q0 q1 q2 q3 q4 q5 q6 q7 q8 q9 q10 q11 q12 q13 q14 q15 q16 q17 q18 q19, 6, [(0, gr 36), (1, gi 12), (2, gi e), (3, gi who)], [gi (gb (gLt ct ed 12 e))])
  refine g_if_ne hX 23 rfl rfl (gb_r _) (fun b6 => ?_) (fun b6 => ?_)
  ·
    have b6 := gb_n0 b6
    refine G.go hX 3 (apW ct ed q0 q1 q2 q3 q4 q5 q6 q7 q8 q9 q10 q11 q12 q13 q14 q15 q16 q17 q18 q19, 28, [(0, gr 36), (1, gi 12), (2, gi e), (3, gi who)], [gi 12, gr 39]) rfl trivial ?_
    refine g_aald hX 52 rfl rfl (by omega) rfl ?_
    refine G.go hX 14 (apW (gu ct 12 ((ct 12) + 1)) ed q0 q1 q2 q3 q4 q5 q6 q7 q8 q9 q10 q11 (gu q12 (ct 12) who) q13 q14 q15 q16 q17 q18 q19, 47, [(0, gr 36), (1, gi 12), (2, gi e), (3, gi who)], []) rfl ?_ ?_
    · refine ⟨?_, ?_, ?_, ?_, trivial⟩
      · omega
      · first | (have := hct 12; have := hl b6; omega) | (rw [gu_s]; omega)
      · omega
      · omega
    exact g_vret hX hE rfl ⟨_, ed, ct 12, rfl, rfl, by rw [gb_t b6, if_pos rfl], rfl, by (funext j; by_cases e9 : j = 12; (rw [e9, gu_s]; exact b6.2); rw [gu_n _ _ e9])⟩
  ·
    have b6 := gb_nn b6
    refine G.go hX 13 (apW (gu ct 12 0) (gu ed 12 e) q0 q1 q2 q3 q4 q5 q6 q7 q8 q9 q10 q11 q12 q13 q14 q15 q16 q17 q18 q19, 28, [(0, gr 36), (1, gi 12), (2, gi e), (3, gi who)], [gi 12, gr 39]) rfl ?_ ?_
    · refine ⟨?_, ?_, trivial⟩
      · omega
      · omega
    refine g_aald hX 52 rfl rfl (by omega) rfl ?_
    refine G.go hX 14 (apW (gu (gu ct 12 0) 12 (((gu ct 12 0) 12) + 1)) (gu ed 12 e) q0 q1 q2 q3 q4 q5 q6 q7 q8 q9 q10 q11 (gu q12 ((gu ct 12 0) 12) who) q13 q14 q15 q16 q17 q18 q19, 47, [(0, gr 36), (1, gi 12), (2, gi e), (3, gi who)], []) rfl ?_ ?_
    · refine ⟨?_, ?_, ?_, ?_, trivial⟩
      · omega
      · first | (have := hct 12; have := hl b6; omega) | (rw [gu_s]; omega)
      · omega
      · omega
    exact g_vret hX hE rfl ⟨_, _, 0, rfl, by rw [gu_s], by rw [gb_f b6, if_neg (by omega)], by (funext j; by_cases e9 : j = 12; (rw [e9, gu_s, gu_s]); rw [gu_n _ _ e9, gu_n _ _ e9, gu_n _ _ e9]), rfl⟩
set_option maxHeartbeats 4000000 in
set_option maxRecDepth 100000 in
theorem c_X0_add_13 (l : Launch) (D : va_G) (cA : Nat → ClassId) (ct : Int → Int) (ed : Int → Int) (q0 : Int → Int) (q1 : Int → Int) (q2 : Int → Int) (q3 : Int → Int) (q4 : Int → Int) (q5 : Int → Int) (q6 : Int → Int) (q7 : Int → Int) (q8 : Int → Int) (q9 : Int → Int) (q10 : Int → Int) (q11 : Int → Int) (q12 : Int → Int) (q13 : Int → Int) (q14 : Int → Int) (q15 : Int → Int) (q16 : Int → Int) (q17 : Int → Int) (q18 : Int → Int) (q19 : Int → Int) (e : Int) (who : Int) (hct : ∀ q : Int, 0 ≤ ct q ∧ ct q ≤ 6) (hed : ∀ q : Int, inR (ed q)) (he : inR e) (hl : gLt ct ed 13 e → ct 13 < 6) :
    gC l D cA yX0_add mX0_add none 0 0 [gr 36, gi 13, gi e, gi who] (apW ct ed q0 q1 q2 q3 q4 q5 q6 q7 q8 q9 q10 q11 q12 q13 q14 q15 q16 q17 q18 q19) (fun r9 w9 => ∃ (ct2 : Int → Int) (ed2 : Int → Int) (k2 : Int), r9 = none ∧ w9 = apW ct2 ed2 q0 q1 q2 q3 q4 q5 q6 q7 q8 q9 q10 q11 q12 (gu q13 k2 who) q14 q15 q16 q17 q18 q19 ∧ (k2 = (if gb (gLt ct ed 13 e) = 1 then ct 13 else 0)) ∧ (ct2 = gu ct 13 (k2 + 1)) ∧ (ed2 = gu ed 13 e)) := by
  refine gC_of rfl kX0_add rfl rfl (Nat.le_of_ble_eq_true rfl) (fun X ad hX hE => ?_)
  refine G.go hX 3 (apW ct ed q0 q1 q2 q3 q4 q5 q6 q7 q8 q9 q10 q11 q12 q13 q14 q15 q16 q17 q18 q19, 3, [(0, gr 36), (1, gi 13), (2, gi e), (3, gi who)], [gi e, gi 13, gr 36]) rfl trivial ?_
  refine G.callV (av := [gi 13, gi e]) (o := 36) (st := []) hX rfl (fun l D cA => c_X0_isLatest l D cA ct ed q0 q1 q2 q3 q4 q5 q6 q7 q8 q9 q10 q11 q12 q13 q14 q15 q16 q17 q18 q19 13 e (by first | assumption | omega) (by first | assumption | omega) (by first | assumption | omega) (by first | assumption | omega)) (by decide +kernel) aX0_isLatest rfl rfl rfl ⟨rfl, rfl⟩ (by decide) (Nat.le_of_ble_eq_true rfl) [0, 1, 2, 3, 4, 5, 6, 7, 8, 9, 10, 11, 12, 13, 14, 15, 16, 17, 18, 19, 20, 21, 22, 23] [] [] rfl rfl rfl (fun r w' hp => ?_)
  obtain ⟨rfl, rfl⟩ := hp
  show G X mX0_add ad 0 0 (apW ct ed q0 q1 q2 q3 q4 q5 q6 q7 q8 q9 q10 q11 q12 q13 q14 q15 q16 q17 q18 q19, 6, [(0, gr 36), (1, gi 13), (2, gi e), (3, gi who)], [gi (gb (gLt ct ed 13 e))])
  refine g_if_ne hX 23 rfl rfl (gb_r _) (fun b6 => ?_) (fun b6 => ?_)
  ·
    have b6 := gb_n0 b6
    refine G.go hX 3 (apW ct ed q0 q1 q2 q3 q4 q5 q6 q7 q8 q9 q10 q11 q12 q13 q14 q15 q16 q17 q18 q19, 28, [(0, gr 36), (1, gi 13), (2, gi e), (3, gi who)], [gi 13, gr 39]) rfl trivial ?_
    refine g_aald hX 53 rfl rfl (by omega) rfl ?_
    refine G.go hX 14 (apW (gu ct 13 ((ct 13) + 1)) ed q0 q1 q2 q3 q4 q5 q6 q7 q8 q9 q10 q11 q12 (gu q13 (ct 13) who) q14 q15 q16 q17 q18 q19, 47, [(0, gr 36), (1, gi 13), (2, gi e), (3, gi who)], []) rfl ?_ ?_
    · refine ⟨?_, ?_, ?_, ?_, trivial⟩
      · omega
      · first | (have := hct 13; have := hl b6; omega) | (rw [gu_s]; omega)
      · omega
      · omega
    exact g_vret hX hE rfl ⟨_, ed, ct 13, rfl, rfl, by rw [gb_t b6, if_pos rfl], rfl, by (funext j; by_cases e9 : j = 13; (rw [e9, gu_s]; exact b6.2); rw [gu_n _ _ e9])⟩
  ·
    have b6 := gb_nn b6
    refine G.go hX 13 (apW (gu ct 13 0) (gu ed 13 e) q0 q1 q2 q3 q4 q5 q6 q7 q8 q9 q10 q11 q12 q13 q14 q15 q16 q17 q18 q19, 28, [(0, gr 36), (1, gi 13), (2, gi e), (3, gi who)], [gi 13, gr 39]) rfl ?_ ?_
    · refine ⟨?_, ?_, trivial⟩
      · omega
      · omega
    refine g_aald hX 53 rfl rfl (by omega) rfl ?_
    refine G.go hX 14 (apW (gu (gu ct 13 0) 13 (((gu ct 13 0) 13) + 1)) (gu ed 13 e) q0 q1 q2 q3 q4 q5 q6 q7 q8 q9 q10 q11 q12 (gu q13 ((gu ct 13 0) 13) who) q14 q15 q16 q17 q18 q19, 47, [(0, gr 36), (1, gi 13), (2, gi e), (3, gi who)], []) rfl ?_ ?_
    · refine ⟨?_, ?_, ?_, ?_, trivial⟩
      · omega
      · first | (have := hct 13; have := hl b6; omega) | (rw [gu_s]; omega)
      · omega
      · omega
    exact g_vret hX hE rfl ⟨_, _, 0, rfl, by rw [gu_s], by rw [gb_f b6, if_neg (by omega)], by (funext j; by_cases e9 : j = 13; (rw [e9, gu_s, gu_s]); rw [gu_n _ _ e9, gu_n _ _ e9, gu_n _ _ e9]), rfl⟩
set_option maxHeartbeats 4000000 in
set_option maxRecDepth 100000 in
theorem c_X0_add_14 (l : Launch) (D : va_G) (cA : Nat → ClassId) (ct : Int → Int) (ed : Int → Int) (q0 : Int → Int) (q1 : Int → Int) (q2 : Int → Int) (q3 : Int → Int) (q4 : Int → Int) (q5 : Int → Int) (q6 : Int → Int) (q7 : Int → Int) (q8 : Int → Int) (q9 : Int → Int) (q10 : Int → Int) (q11 : Int → Int) (q12 : Int → Int) (q13 : Int → Int) (q14 : Int → Int) (q15 : Int → Int) (q16 : Int → Int) (q17 : Int → Int) (q18 : Int → Int) (q19 : Int → Int) (e : Int) (who : Int) (hct : ∀ q : Int, 0 ≤ ct q ∧ ct q ≤ 6) (hed : ∀ q : Int, inR (ed q)) (he : inR e) (hl : gLt ct ed 14 e → ct 14 < 6) :
    gC l D cA yX0_add mX0_add none 0 0 [gr 36, gi 14, gi e, gi who] (apW ct ed q0 q1 q2 q3 q4 q5 q6 q7 q8 q9 q10 q11 q12 q13 q14 q15 q16 q17 q18 q19) (fun r9 w9 => ∃ (ct2 : Int → Int) (ed2 : Int → Int) (k2 : Int), r9 = none ∧ w9 = apW ct2 ed2 q0 q1 q2 q3 q4 q5 q6 q7 q8 q9 q10 q11 q12 q13 (gu q14 k2 who) q15 q16 q17 q18 q19 ∧ (k2 = (if gb (gLt ct ed 14 e) = 1 then ct 14 else 0)) ∧ (ct2 = gu ct 14 (k2 + 1)) ∧ (ed2 = gu ed 14 e)) := by
  refine gC_of rfl kX0_add rfl rfl (Nat.le_of_ble_eq_true rfl) (fun X ad hX hE => ?_)
  refine G.go hX 3 (apW ct ed q0 q1 q2 q3 q4 q5 q6 q7 q8 q9 q10 q11 q12 q13 q14 q15 q16 q17 q18 q19, 3, [(0, gr 36), (1, gi 14), (2, gi e), (3, gi who)], [gi e, gi 14, gr 36]) rfl trivial ?_
  refine G.callV (av := [gi 14, gi e]) (o := 36) (st := []) hX rfl (fun l D cA => c_X0_isLatest l D cA ct ed q0 q1 q2 q3 q4 q5 q6 q7 q8 q9 q10 q11 q12 q13 q14 q15 q16 q17 q18 q19 14 e (by first | assumption | omega) (by first | assumption | omega) (by first | assumption | omega) (by first | assumption | omega)) (by decide +kernel) aX0_isLatest rfl rfl rfl ⟨rfl, rfl⟩ (by decide) (Nat.le_of_ble_eq_true rfl) [0, 1, 2, 3, 4, 5, 6, 7, 8, 9, 10, 11, 12, 13, 14, 15, 16, 17, 18, 19, 20, 21, 22, 23] [] [] rfl rfl rfl (fun r w' hp => ?_)
  obtain ⟨rfl, rfl⟩ := hp
  show G X mX0_add ad 0 0 (apW ct ed q0 q1 q2 q3 q4 q5 q6 q7 q8 q9 q10 q11 q12 q13 q14 q15 q16 q17 q18 q19, 6, [(0, gr 36), (1, gi 14), (2, gi e), (3, gi who)], [gi (gb (gLt ct ed 14 e))])
  refine g_if_ne hX 23 rfl rfl (gb_r _) (fun b6 => ?_) (fun b6 => ?_)
  ·
    have b6 := gb_n0 b6
    refine G.go hX 3 (apW ct ed q0 q1 q2 q3 q4 q5 q6 q7 q8 q9 q10 q11 q12 q13 q14 q15 q16 q17 q18 q19, 28, [(0, gr 36), (1, gi 14), (2, gi e), (3, gi who)], [gi 14, gr 39]) rfl trivial ?_
    refine g_aald hX 54 rfl rfl (by omega) rfl ?_
    refine G.go hX 14 (apW (gu ct 14 ((ct 14) + 1)) ed q0 q1 q2 q3 q4 q5 q6 q7 q8 q9 q10 q11 q12 q13 (gu q14 (ct 14) who) q15 q16 q17 q18 q19, 47, [(0, gr 36), (1, gi 14), (2, gi e), (3, gi who)], []) rfl ?_ ?_
    · refine ⟨?_, ?_, ?_, ?_, trivial⟩
      · omega
      · first | (have := hct 14; have := hl b6; omega) | (rw [gu_s]; omega)
      · omega
      · omega
    exact g_vret hX hE rfl ⟨_, ed, ct 14, rfl, rfl, by rw [gb_t b6, if_pos rfl], rfl, by (funext j; by_cases e9 : j = 14; (rw [e9, gu_s]; exact b6.2); rw [gu_n _ _ e9])⟩
  ·
    have b6 := gb_nn b6
    refine G.go hX 13 (apW (gu ct 14 0) (gu ed 14 e) q0 q1 q2 q3 q4 q5 q6 q7 q8 q9 q10 q11 q12 q13 q14 q15 q16 q17 q18 q19, 28, [(0, gr 36), (1, gi 14), (2, gi e), (3, gi who)], [gi 14, gr 39]) rfl ?_ ?_
    · refine ⟨?_, ?_, trivial⟩
      · omega
      · omega
    refine g_aald hX 54 rfl rfl (by omega) rfl ?_
    refine G.go hX 14 (apW (gu (gu ct 14 0) 14 (((gu ct 14 0) 14) + 1)) (gu ed 14 e) q0 q1 q2 q3 q4 q5 q6 q7 q8 q9 q10 q11 q12 q13 (gu q14 ((gu ct 14 0) 14) who) q15 q16 q17 q18 q19, 47, [(0, gr 36), (1, gi 14), (2, gi e), (3, gi who)], []) rfl ?_ ?_
    · refine ⟨?_, ?_, ?_, ?_, trivial⟩
      · omega
      · first | (have := hct 14; have := hl b6; omega) | (rw [gu_s]; omega)
      · omega
      · omega
    exact g_vret hX hE rfl ⟨_, _, 0, rfl, by rw [gu_s], by rw [gb_f b6, if_neg (by omega)], by (funext j; by_cases e9 : j = 14; (rw [e9, gu_s, gu_s]); rw [gu_n _ _ e9, gu_n _ _ e9, gu_n _ _ e9]), rfl⟩
set_option maxHeartbeats 4000000 in
set_option maxRecDepth 100000 in
theorem c_X0_add_15 (l : Launch) (D : va_G) (cA : Nat → ClassId) (ct : Int → Int) (ed : Int → Int) (q0 : Int → Int) (q1 : Int → Int) (q2 : Int → Int) (q3 : Int → Int) (q4 : Int → Int) (q5 : Int → Int) (q6 : Int → Int) (q7 : Int → Int) (q8 : Int → Int) (q9 : Int → Int) (q10 : Int → Int) (q11 : Int → Int) (q12 : Int → Int) (q13 : Int → Int) (q14 : Int → Int) (q15 : Int → Int) (q16 : Int → Int) (q17 : Int → Int) (q18 : Int → Int) (q19 : Int → Int) (e : Int) (who : Int) (hct : ∀ q : Int, 0 ≤ ct q ∧ ct q ≤ 6) (hed : ∀ q : Int, inR (ed q)) (he : inR e) (hl : gLt ct ed 15 e → ct 15 < 6) :
    gC l D cA yX0_add mX0_add none 0 0 [gr 36, gi 15, gi e, gi who] (apW ct ed q0 q1 q2 q3 q4 q5 q6 q7 q8 q9 q10 q11 q12 q13 q14 q15 q16 q17 q18 q19) (fun r9 w9 => ∃ (ct2 : Int → Int) (ed2 : Int → Int) (k2 : Int), r9 = none ∧ w9 = apW ct2 ed2 q0 q1 q2 q3 q4 q5 q6 q7 q8 q9 q10 q11 q12 q13 q14 (gu q15 k2 who) q16 q17 q18 q19 ∧ (k2 = (if gb (gLt ct ed 15 e) = 1 then ct 15 else 0)) ∧ (ct2 = gu ct 15 (k2 + 1)) ∧ (ed2 = gu ed 15 e)) := by
  refine gC_of rfl kX0_add rfl rfl (Nat.le_of_ble_eq_true rfl) (fun X ad hX hE => ?_)
  refine G.go hX 3 (apW ct ed q0 q1 q2 q3 q4 q5 q6 q7 q8 q9 q10 q11 q12 q13 q14 q15 q16 q17 q18 q19, 3, [(0, gr 36), (1, gi 15), (2, gi e), (3, gi who)], [gi e, gi 15, gr 36]) rfl trivial ?_
  refine G.callV (av := [gi 15, gi e]) (o := 36) (st := []) hX rfl (fun l D cA => c_X0_isLatest l D cA ct ed q0 q1 q2 q3 q4 q5 q6 q7 q8 q9 q10 q11 q12 q13 q14 q15 q16 q17 q18 q19 15 e (by first | assumption | omega) (by first | assumption | omega) (by first | assumption | omega) (by first | assumption | omega)) (by decide +kernel) aX0_isLatest rfl rfl rfl ⟨rfl, rfl⟩ (by decide) (Nat.le_of_ble_eq_true rfl) [0, 1, 2, 3, 4, 5, 6, 7, 8, 9, 10, 11, 12, 13, 14, 15, 16, 17, 18, 19, 20, 21, 22, 23] [] [] rfl rfl rfl (fun r w' hp => ?_)
  obtain ⟨rfl, rfl⟩ := hp
  show G X mX0_add ad 0 0 (apW ct ed q0 q1 q2 q3 q4 q5 q6 q7 q8 q9 q10 q11 q12 q13 q14 q15 q16 q17 q18 q19, 6, [(0, gr 36), (1, gi 15), (2, gi e), (3, gi who)], [gi (gb (gLt ct ed 15 e))])
  refine g_if_ne hX 23 rfl rfl (gb_r _) (fun b6 => ?_) (fun b6 => ?_)
  ·
    have b6 := gb_n0 b6
    refine G.go hX 3 (apW ct ed q0 q1 q2 q3 q4 q5 q6 q7 q8 q9 q10 q11 q12 q13 q14 q15 q16 q17 q18 q19, 28, [(0, gr 36), (1, gi 15), (2, gi e), (3, gi who)], [gi 15, gr 39]) rfl trivial ?_
    refine g_aald hX 55 rfl rfl (by omega) rfl ?_
    refine G.go hX 14 (apW (gu ct 15 ((ct 15) + 1)) ed q0 q1 q2 q3 q4 q5 q6 q7 q8 q9 q10 q11 q12 q13 q14 (gu q15 (ct 15) who) q16 q17 q18 q19, 47, [(0, gr 36), (1, gi 15), (2, gi e), (3, gi who)], []) rfl ?_ ?_
    · refine ⟨?_, ?_, ?_, ?_, trivial⟩
      · omega
      · first | (have := hct 15; have := hl b6; omega) | (rw [gu_s]; omega)
      · omega
      · omega
    exact g_vret hX hE rfl ⟨_, ed, ct 15, rfl, rfl, by rw [gb_t b6, if_pos rfl], rfl, by (funext j; by_cases e9 : j = 15; (rw [e9, gu_s]; exact b6.2); rw [gu_n _ _ e9])⟩
  ·
    have b6 := gb_nn b6
    refine G.go hX 13 (apW (gu ct 15 0) (gu ed 15 e) q0 q1 q2 q3 q4 q5 q6 q7 q8 q9 q10 q11 q12 q13 q14 q15 q16 q17 q18 q19, 28, [(0, gr 36), (1, gi 15), (2, gi e), (3, gi who)], [gi 15, gr 39]) rfl ?_ ?_
    · refine ⟨?_, ?_, trivial⟩
      · omega
      · omega
    refine g_aald hX 55 rfl rfl (by omega) rfl ?_
    refine G.go hX 14 (apW (gu (gu ct 15 0) 15 (((gu ct 15 0) 15) + 1)) (gu ed 15 e) q0 q1 q2 q3 q4 q5 q6 q7 q8 q9 q10 q11 q12 q13 q14 (gu q15 ((gu ct 15 0) 15) who) q16 q17 q18 q19, 47, [(0, gr 36), (1, gi 15), (2, gi e), (3, gi who)], []) rfl ?_ ?_
    · refine ⟨?_, ?_, ?_, ?_, trivial⟩
      · omega
      · first | (have := hct 15; have := hl b6; omega) | (rw [gu_s]; omega)
      · omega
      · omega
    exact g_vret hX hE rfl ⟨_, _, 0, rfl, by rw [gu_s], by rw [gb_f b6, if_neg (by omega)], by (funext j; by_cases e9 : j = 15; (rw [e9, gu_s, gu_s]); rw [gu_n _ _ e9, gu_n _ _ e9, gu_n _ _ e9]), rfl⟩
set_option maxHeartbeats 4000000 in
set_option maxRecDepth 100000 in
theorem c_X0_add_16 (l : Launch) (D : va_G) (cA : Nat → ClassId) (ct : Int → Int) (ed : Int → Int) (q0 : Int → Int) (q1 : Int → Int) (q2 : Int → Int) (q3 : Int → Int) (q4 : Int → Int) (q5 : Int → Int) (q6 : Int → Int) (q7 : Int → Int) (q8 : Int → Int) (q9 : Int → Int) (q10 : Int → Int) (q11 : Int → Int) (q12 : Int → Int) (q13 : Int → Int) (q14 : Int → Int) (q15 : Int → Int) (q16 : Int → Int) (q17 : Int → Int) (q18 : Int → Int) (q19 : Int → Int) (e : Int) (who : Int) (hct : ∀ q : Int, 0 ≤ ct q ∧ ct q ≤ 6) (hed : ∀ q : Int, inR (ed q)) (he : inR e) (hl : gLt ct ed 16 e → ct 16 < 6) :
    gC l D cA yX0_add mX0_add none 0 0 [gr 36, gi 16, gi e, gi who] (apW ct ed q0 q1 q2 q3 q4 q5 q6 q7 q8 q9 q10 q11 q12 q13 q14 q15 q16 q17 q18 q19) (fun r9 w9 => ∃ (ct2 : Int → Int) (ed2 : Int → Int) (k2 : Int), r9 = none ∧ w9 = apW ct2 ed2 q0 q1 q2 q3 q4 q5 q6 q7 q8 q9 q10 q11 q12 q13 q14 q15 (gu q16 k2 who) q17 q18 q19 ∧ (k2 = (if gb (gLt ct ed 16 e) = 1 then ct 16 else 0)) ∧ (ct2 = gu ct 16 (k2 + 1)) ∧ (ed2 = gu ed 16 e)) := by
  refine gC_of rfl kX0_add rfl rfl (Nat.le_of_ble_eq_true rfl) (fun X ad hX hE => ?_)
  refine G.go hX 3 (apW ct ed q0 q1 q2 q3 q4 q5 q6 q7 q8 q9 q10 q11 q12 q13 q14 q15 q16 q17 q18 q19, 3, [(0, gr 36), (1, gi 16), (2, gi e), (3, gi who)], [gi e, gi 16, gr 36]) rfl trivial ?_
  refine G.callV (av := [gi 16, gi e]) (o := 36) (st := []) hX rfl (fun l D cA => c_X0_isLatest l D cA ct ed q0 q1 q2 q3 q4 q5 q6 q7 q8 q9 q10 q11 q12 q13 q14 q15 q16 q17 q18 q19 16 e (by first | assumption | omega) (by first | assumption | omega) (by first | assumption | omega) (by first | assumption | omega)) (by decide +kernel) aX0_isLatest rfl rfl rfl ⟨rfl, rfl⟩ (by decide) (Nat.le_of_ble_eq_true rfl) [0, 1, 2, 3, 4, 5, 6, 7, 8, 9, 10, 11, 12, 13, 14, 15, 16, 17, 18, 19, 20, 21, 22, 23] [] [] rfl rfl rfl (fun r w' hp => ?_)
  obtain ⟨rfl, rfl⟩ := hp
  show G X mX0_add ad 0 0 (apW ct ed q0 q1 q2 q3 q4 q5 q6 q7 q8 q9 q10 q11 q12 q13 q14 q15 q16 q17 q18 q19, 6, [(0, gr 36), (1, gi 16), (2, gi e), (3, gi who)], [gi (gb (gLt ct ed 16 e))])
  refine g_if_ne hX 23 rfl rfl (gb_r _) (fun b6 => ?_) (fun b6 => ?_)
  ·
    have b6 := gb_n0 b6
    refine G.go hX 3 (apW ct ed q0 q1 q2 q3 q4 q5 q6 q7 q8 q9 q10 q11 q12 q13 q14 q15 q16 q17 q18 q19, 28, [(0, gr 36), (1, gi 16), (2, gi e), (3, gi who)], [gi 16, gr 39]) rfl trivial ?_
    refine g_aald hX 56 rfl rfl (by omega) rfl ?_
    refine G.go hX 14 (apW (gu ct 16 ((ct 16) + 1)) ed q0 q1 q2 q3 q4 q5 q6 q7 q8 q9 q10 q11 q12 q13 q14 q15 (gu q16 (ct 16) who) q17 q18 q19, 47, [(0, gr 36), (1, gi 16), (2, gi e), (3, gi who)], []) rfl ?_ ?_
    · refine ⟨?_, ?_, ?_, ?_, trivial⟩
      · omega
      · first | (have := hct 16; have := hl b6; omega) | (rw [gu_s]; omega)
      · omega
      · omega
    exact g_vret hX hE rfl ⟨_, ed, ct 16, rfl, rfl, by rw [gb_t b6, if_pos rfl], rfl, by (funext j; by_cases e9 : j = 16; (rw [e9, gu_s]; exact b6.2); rw [gu_n _ _ e9])⟩
  ·
    have b6 := gb_nn b6
    refine G.go hX 13 (apW (gu ct 16 0) (gu ed 16 e) q0 q1 q2 q3 q4 q5 q6 q7 q8 q9 q10 q11 q12 q13 q14 q15 q16 q17 q18 q19, 28, [(0, gr 36), (1, gi 16), (2, gi e), (3, gi who)], [gi 16, gr 39]) rfl ?_ ?_
    · refine ⟨?_, ?_, trivial⟩
      · omega
      · omega
    refine g_aald hX 56 rfl rfl (by omega) rfl ?_
    refine G.go hX 14 (apW (gu (gu ct 16 0) 16 (((gu ct 16 0) 16) + 1)) (gu ed 16 e) q0 q1 q2 q3 q4 q5 q6 q7 q8 q9 q10 q11 q12 q13 q14 q15 (gu q16 ((gu ct 16 0) 16) who) q17 q18 q19, 47, [(0, gr 36), (1, gi 16), (2, gi e), (3, gi who)], []) rfl ?_ ?_
    · refine ⟨?_, ?_, ?_, ?_, trivial⟩
      · omega
      · first | (have := hct 16; have := hl b6; omega) | (rw [gu_s]; omega)
      · omega
      · omega
    exact g_vret hX hE rfl ⟨_, _, 0, rfl, by rw [gu_s], by rw [gb_f b6, if_neg (by omega)], by (funext j; by_cases e9 : j = 16; (rw [e9, gu_s, gu_s]); rw [gu_n _ _ e9, gu_n _ _ e9, gu_n _ _ e9]), rfl⟩
set_option maxHeartbeats 4000000 in
set_option maxRecDepth 100000 in
theorem c_X0_add_17 (l : Launch) (D : va_G) (cA : Nat → ClassId) (ct : Int → Int) (ed : Int → Int) (q0 : Int → Int) (q1 : Int → Int) (q2 : Int → Int) (q3 : Int → Int) (q4 : Int → Int) (q5 : Int → Int) (q6 : Int → Int) (q7 : Int → Int) (q8 : Int → Int) (q9 : Int → Int) (q10 : Int → Int) (q11 : Int → Int) (q12 : Int → Int) (q13 : Int → Int) (q14 : Int → Int) (q15 : Int → Int) (q16 : Int → Int) (q17 : Int → Int) (q18 : Int → Int) (q19 : Int → Int) (e : Int) (who : Int) (hct : ∀ q : Int, 0 ≤ ct q ∧ ct q ≤ 6) (hed : ∀ q : Int, inR (ed q)) (he : inR e) (hl : gLt ct ed 17 e → ct 17 < 6) :
    gC l D cA yX0_add mX0_add none 0 0 [gr 36, gi 17, gi e, gi who] (apW ct ed q0 q1 q2 q3 q4 q5 q6 q7 q8 q9 q10 q11 q12 q13 q14 q15 q16 q17 q18 q19) (fun r9 w9 => ∃ (ct2 : Int → Int) (ed2 : Int → Int) (k2 : Int), r9 = none ∧ w9 = apW ct2 ed2 q0 q1 q2 q3 q4 q5 q6 q7 q8 q9 q10 q11 q12 q13 q14 q15 q16 (gu q17 k2 who) q18 q19 ∧ (k2 = (if gb (gLt ct ed 17 e) = 1 then ct 17 else 0)) ∧ (ct2 = gu ct 17 (k2 + 1)) ∧ (ed2 = gu ed 17 e)) := by
  refine gC_of rfl kX0_add rfl rfl (Nat.le_of_ble_eq_true rfl) (fun X ad hX hE => ?_)
  refine G.go hX 3 (apW ct ed q0 q1 q2 q3 q4 q5 q6 q7 q8 q9 q10 q11 q12 q13 q14 q15 q16 q17 q18 q19, 3, [(0, gr 36), (1, gi 17), (2, gi e), (3, gi who)], [gi e, gi 17, gr 36]) rfl trivial ?_
  refine G.callV (av := [gi 17, gi e]) (o := 36) (st := []) hX rfl (fun l D cA => c_X0_isLatest l D cA ct ed q0 q1 q2 q3 q4 q5 q6 q7 q8 q9 q10 q11 q12 q13 q14 q15 q16 q17 q18 q19 17 e (by first | assumption | omega) (by first | assumption | omega) (by first | assumption | omega) (by first | assumption | omega)) (by decide +kernel) aX0_isLatest rfl rfl rfl ⟨rfl, rfl⟩ (by decide) (Nat.le_of_ble_eq_true rfl) [0, 1, 2, 3, 4, 5, 6, 7, 8, 9, 10, 11, 12, 13, 14, 15, 16, 17, 18, 19, 20, 21, 22, 23] [] [] rfl rfl rfl (fun r w' hp => ?_)
  obtain ⟨rfl, rfl⟩ := hp
  show G X mX0_add ad 0 0 (apW ct ed q0 q1 q2 q3 q4 q5 q6 q7 q8 q9 q10 q11 q12 q13 q14 q15 q16 q17 q18 q19, 6, [(0, gr 36), (1, gi 17), (2, gi e), (3, gi who)], [gi (gb (gLt ct ed 17 e))])
  refine g_if_ne hX 23 rfl rfl (gb_r _) (fun b6 => ?_) (fun b6 => ?_)
  ·
    have b6 := gb_n0 b6
    refine G.go hX 3 (apW ct ed q0 q1 q2 q3 q4 q5 q6 q7 q8 q9 q10 q11 q12 q13 q14 q15 q16 q17 q18 q19, 28, [(0, gr 36), (1, gi 17), (2, gi e), (3, gi who)], [gi 17, gr 39]) rfl trivial ?_
    refine g_aald hX 57 rfl rfl (by omega) rfl ?_
    refine G.go hX 14 (apW (gu ct 17 ((ct 17) + 1)) ed q0 q1 q2 q3 q4 q5 q6 q7 q8 q9 q10 q11 q12 q13 q14 q15 q16 (gu q17 (ct 17) who) q18 q19, 47, [(0, gr 36), (1, gi 17), (2, gi e), (3, gi who)], []) rfl ?_ ?_
    · refine ⟨?_, ?_, ?_, ?_, trivial⟩
      · omega
      · first | (have := hct 17; have := hl b6; omega) | (rw [gu_s]; omega)
      · omega
      · omega
    exact g_vret hX hE rfl ⟨_, ed, ct 17, rfl, rfl, by rw [gb_t b6, if_pos rfl], rfl, by (funext j; by_cases e9 : j = 17; (rw [e9, gu_s]; exact b6.2); rw [gu_n _ _ e9])⟩
  ·
    have b6 := gb_nn b6
    refine G.go hX 13 (apW (gu ct 17 0) (gu ed 17 e) q0 q1 q2 q3 q4 q5 q6 q7 q8 q9 q10 q11 q12 q13 q14 q15 q16 q17 q18 q19, 28, [(0, gr 36), (1, gi 17), (2, gi e), (3, gi who)], [gi 17, gr 39]) rfl ?_ ?_
    · refine ⟨?_, ?_, trivial⟩
      · omega
      · omega
    refine g_aald hX 57 rfl rfl (by omega) rfl ?_
    refine G.go hX 14 (apW (gu (gu ct 17 0) 17 (((gu ct 17 0) 17) + 1)) (gu ed 17 e) q0 q1 q2 q3 q4 q5 q6 q7 q8 q9 q10 q11 q12 q13 q14 q15 q16 (gu q17 ((gu ct 17 0) 17) who) q18 q19, 47, [(0, gr 36), (1, gi 17), (2, gi e), (3, gi who)], []) rfl ?_ ?_
    · refine ⟨?_, ?_, ?_, ?_, trivial⟩
      · omega
      · first | (have := hct 17; have := hl b6; omega) | (rw [gu_s]; omega)
      · omega
      · omega
    exact g_vret hX hE rfl ⟨_, _, 0, rfl, by rw [gu_s], by rw [gb_f b6, if_neg (by omega)], by (funext j; by_cases e9 : j = 17; (rw [e9, gu_s, gu_s]); rw [gu_n _ _ e9, gu_n _ _ e9, gu_n _ _ e9]), rfl⟩
set_option maxHeartbeats 4000000 in
set_option maxRecDepth 100000 in
theorem c_X0_add_18 (l : Launch) (D : va_G) (cA : Nat → ClassId) (ct : Int → Int) (ed : Int → Int) (q0 : Int → Int) (q1 : Int → Int) (q2 : Int → Int) (q3 : Int → Int) (q4 : Int → Int) (q5 : Int → Int) (q6 : Int → Int) (q7 : Int → Int) (q8 : Int → Int) (q9 : Int → Int) (q10 : Int → Int) (q11 : Int → Int) (q12 : Int → Int) (q13 : Int → Int) (q14 : Int → Int) (q15 : Int → Int) (q16 : Int → Int) (q17 : Int → Int) (q18 : Int → Int) (q19 : Int → Int) (e : Int) (who : Int) (hct : ∀ q : Int, 0 ≤ ct q ∧ ct q ≤ 6) (hed : ∀ q : Int, inR (ed q)) (he : inR e) (hl : gLt ct ed 18 e → ct 18 < 6) :
    gC l D cA yX0_add mX0_add none 0 0 [gr 36, gi 18, gi e, gi who] (apW ct ed q0 q1 q2 q3 q4 q5 q6 q7 q8 q9 q10 q11 q12 q13 q14 q15 q16 q17 q18 q19) (fun r9 w9 => ∃ (ct2 : Int → Int) (ed2 : Int → Int) (k2 : Int), r9 = none ∧ w9 = apW ct2 ed2 q0 q1 q2 q3 q4 q5 q6 q7 q8 q9 q10 q11 q12 q13 q14 q15 q16 q17 (gu q18 k2 who) q19 ∧ (k2 = (if gb (gLt ct ed 18 e) = 1 then ct 18 else 0)) ∧ (ct2 = gu ct 18 (k2 + 1)) ∧ (ed2 = gu ed 18 e)) := by
  refine gC_of rfl kX0_add rfl rfl (Nat.le_of_ble_eq_true rfl) (fun X ad hX hE => ?_)
  refine G.go hX 3 (apW ct ed q0 q1 q2 q3 q4 q5 q6 q7 q8 q9 q10 q11 q12 q13 q14 q15 q16 q17 q18 q19, 3, [(0, gr 36), (1, gi 18), (2, gi e), (3, gi who)], [gi e, gi 18, gr 36]) rfl trivial ?_
  refine G.callV (av := [gi 18, gi e]) (o := 36) (st := []) hX rfl (fun l D cA => c_X0_isLatest l D cA ct ed q0 q1 q2 q3 q4 q5 q6 q7 q8 q9 q10 q11 q12 q13 q14 q15 q16 q17 q18 q19 18 e (by first | assumption | omega) (by first | assumption | omega) (by first | assumption | omega) (by first | assumption | omega)) (by decide +kernel) aX0_isLatest rfl rfl rfl ⟨rfl, rfl⟩ (by decide) (Nat.le_of_ble_eq_true rfl) [0, 1, 2, 3, 4, 5, 6, 7, 8, 9, 10, 11, 12, 13, 14, 15, 16, 17, 18, 19, 20, 21, 22, 23] [] [] rfl rfl rfl (fun r w' hp => ?_)
  obtain ⟨rfl, rfl⟩ := hp
  show G X mX0_add ad 0 0 (apW ct ed q0 q1 q2 q3 q4 q5 q6 q7 q8 q9 q10 q11 q12 q13 q14 q15 q16 q17 q18 q19, 6, [(0, gr 36), (1, gi 18), (2, gi e), (3, gi who)], [gi (gb (gLt ct ed 18 e))])
  refine g_if_ne hX 23 rfl rfl (gb_r _) (fun b6 => ?_) (fun b6 => ?_)
  ·
    have b6 := gb_n0 b6
    refine G.go hX 3 (apW ct ed q0 q1 q2 q3 q4 q5 q6 q7 q8 q9 q10 q11 q12 q13 q14 q15 q16 q17 q18 q19, 28, [(0, gr 36), (1, gi 18), (2, gi e), (3, gi who)], [gi 18, gr 39]) rfl trivial ?_
    refine g_aald hX 58 rfl rfl (by omega) rfl ?_
    refine G.go hX 14 (apW (gu ct 18 ((ct 18) + 1)) ed q0 q1 q2 q3 q4 q5 q6 q7 q8 q9 q10 q11 q12 q13 q14 q15 q16 q17 (gu q18 (ct 18) who) q19, 47, [(0, gr 36), (1, gi 18), (2, gi e), (3, gi who)], []) rfl ?_ ?_
    · refine ⟨?_, ?_, ?_, ?_, trivial⟩
      · omega
      · first | (have := hct 18; have := hl b6; omega) | (rw [gu_s]; omega)
      · omega
      · omega
    exact g_vret hX hE rfl ⟨_, ed, ct 18, rfl, rfl, by rw [gb_t b6, if_pos rfl], rfl, by (funext j; by_cases e9 : j = 18; (rw [e9, gu_s]; exact b6.2); rw [gu_n _ _ e9])⟩
  ·
    have b6 := gb_nn b6
    refine G.go hX 13 (apW (gu ct 18 0) (gu ed 18 e) q0 q1 q2 q3 q4 q5 q6 q7 q8 q9 q10 q11 q12 q13 q14 q15 q16 q17 q18 q19, 28, [(0, gr 36), (1, gi 18), (2, gi e), (3, gi who)], [gi 18, gr 39]) rfl ?_ ?_
    · refine ⟨?_, ?_, trivial⟩
      · omega
      · omega
    refine g_aald hX 58 rfl rfl (by omega) rfl ?_
    refine G.go hX 14 (apW (gu (gu ct 18 0) 18 (((gu ct 18 0) 18) + 1)) (gu ed 18 e) q0 q1 q2 q3 q4 q5 q6 q7 q8 q9 q10 q11 q12 q13 q14 q15 q16 q17 (gu q18 ((gu ct 18 0) 18) who) q19, 47, [(0, gr 36), (1, gi 18), (2, gi e), (3, gi who)], []) rfl ?_ ?_
    · refine ⟨?_, ?_, ?_, ?_, trivial⟩
      · omega
      · first | (have := hct 18; have := hl b6; omega) | (rw [gu_s]; omega)
      · omega
      · omega
    exact g_vret hX hE rfl ⟨_, _, 0, rfl, by rw [gu_s], by rw [gb_f b6, if_neg (by omega)], by (funext j; by_cases e9 : j = 18; (rw [e9, gu_s, gu_s]); rw [gu_n _ _ e9, gu_n _ _ e9, gu_n _ _ e9]), rfl⟩
set_option maxHeartbeats 4000000 in
set_option maxRecDepth 100000 in
theorem c_X0_add_19 (l : Launch) (D : va_G) (cA : Nat → ClassId) (ct : Int → Int) (ed : Int → Int) (q0 : Int → Int) (q1 : Int → Int) (q2 : Int → Int) (q3 : Int → Int) (q4 : Int → Int) (q5 : Int → Int) (q6 : Int → Int) (q7 : Int → Int) (q8 : Int → Int) (q9 : Int → Int) (q10 : Int → Int) (q11 : Int → Int) (q12 : Int → Int) (q13 : Int → Int) (q14 : Int → Int) (q15 : Int → Int) (q16 : Int → Int) (q17 : Int → Int) (q18 : Int → Int) (q19 : Int → Int) (e : Int) (who : Int) (hct : ∀ q : Int, 0 ≤ ct q ∧ ct q ≤ 6) (hed : ∀ q : Int, inR (ed q)) (he : inR e) (hl : gLt ct ed 19 e → ct 19 < 6) :
    gC l D cA yX0_add mX0_add none 0 0 [gr 36, gi 19, gi e, gi who] (apW ct ed q0 q1 q2 q3 q4 q5 q6 q7 q8 q9 q10 q11 q12 q13 q14 q15 q16 q17 q18 q19) (fun r9 w9 => ∃ (ct2 : Int → Int) (ed2 : Int → Int) (k2 : Int), r9 = none ∧ w9 = apW ct2 ed2 q0 q1 q2 q3 q4 q5 q6 q7 q8 q9 q10 q11 q12 q13 q14 q15 q16 q17 q18 (gu q19 k2 who) ∧ (k2 = (if gb (gLt ct ed 19 e) = 1 then ct 19 else 0)) ∧ (ct2 = gu ct 19 (k2 + 1)) ∧ (ed2 = gu ed 19 e)) := by
  refine gC_of rfl kX0_add rfl rfl (Nat.le_of_ble_eq_true rfl) (fun X ad hX hE => ?_)
  refine G.go hX 3 (apW ct ed q0 q1 q2 q3 q4 q5 q6 q7 q8 q9 q10 q11 q12 q13 q14 q15 q16 q17 q18 q19, 3, [(0, gr 36), (1, gi 19), (2, gi e), (3, gi who)], [gi e, gi 19, gr 36]) rfl trivial ?_
  refine G.callV (av := [gi 19, gi e]) (o := 36) (st := []) hX rfl (fun l D cA => c_X0_isLatest l D cA ct ed q0 q1 q2 q3 q4 q5 q6 q7 q8 q9 q10 q11 q12 q13 q14 q15 q16 q17 q18 q19 19 e (by first | assumption | omega) (by first | assumption | omega) (by first | assumption | omega) (by first | assumption | omega)) (by decide +kernel) aX0_isLatest rfl rfl rfl ⟨rfl, rfl⟩ (by decide) (Nat.le_of_ble_eq_true rfl) [0, 1, 2, 3, 4, 5, 6, 7, 8, 9, 10, 11, 12, 13, 14, 15, 16, 17, 18, 19, 20, 21, 22, 23] [] [] rfl rfl rfl (fun r w' hp => ?_)
  obtain ⟨rfl, rfl⟩ := hp
  show G X mX0_add ad 0 0 (apW ct ed q0 q1 q2 q3 q4 q5 q6 q7 q8 q9 q10 q11 q12 q13 q14 q15 q16 q17 q18 q19, 6, [(0, gr 36), (1, gi 19), (2, gi e), (3, gi who)], [gi (gb (gLt ct ed 19 e))])
  refine g_if_ne hX 23 rfl rfl (gb_r _) (fun b6 => ?_) (fun b6 => ?_)
  ·
    have b6 := gb_n0 b6
    refine G.go hX 3 (apW ct ed q0 q1 q2 q3 q4 q5 q6 q7 q8 q9 q10 q11 q12 q13 q14 q15 q16 q17 q18 q19, 28, [(0, gr 36), (1, gi 19), (2, gi e), (3, gi who)], [gi 19, gr 39]) rfl trivial ?_
    refine g_aald hX 59 rfl rfl (by omega) rfl ?_
    refine G.go hX 14 (apW (gu ct 19 ((ct 19) + 1)) ed q0 q1 q2 q3 q4 q5 q6 q7 q8 q9 q10 q11 q12 q13 q14 q15 q16 q17 q18 (gu q19 (ct 19) who), 47, [(0, gr 36), (1, gi 19), (2, gi e), (3, gi who)], []) rfl ?_ ?_
    · refine ⟨?_, ?_, ?_, ?_, trivial⟩
      · omega
      · first | (have := hct 19; have := hl b6; omega) | (rw [gu_s]; omega)
      · omega
      · omega
    exact g_vret hX hE rfl ⟨_, ed, ct 19, rfl, rfl, by rw [gb_t b6, if_pos rfl], rfl, by (funext j; by_cases e9 : j = 19; (rw [e9, gu_s]; exact b6.2); rw [gu_n _ _ e9])⟩
  ·
    have b6 := gb_nn b6
    refine G.go hX 13 (apW (gu ct 19 0) (gu ed 19 e) q0 q1 q2 q3 q4 q5 q6 q7 q8 q9 q10 q11 q12 q13 q14 q15 q16 q17 q18 q19, 28, [(0, gr 36), (1, gi 19), (2, gi e), (3, gi who)], [gi 19, gr 39]) rfl ?_ ?_
    · refine ⟨?_, ?_, trivial⟩
      · omega
      · omega
    refine g_aald hX 59 rfl rfl (by omega) rfl ?_
    refine G.go hX 14 (apW (gu (gu ct 19 0) 19 (((gu ct 19 0) 19) + 1)) (gu ed 19 e) q0 q1 q2 q3 q4 q5 q6 q7 q8 q9 q10 q11 q12 q13 q14 q15 q16 q17 q18 (gu q19 ((gu ct 19 0) 19) who), 47, [(0, gr 36), (1, gi 19), (2, gi e), (3, gi who)], []) rfl ?_ ?_
    · refine ⟨?_, ?_, ?_, ?_, trivial⟩
      · omega
      · first | (have := hct 19; have := hl b6; omega) | (rw [gu_s]; omega)
      · omega
      · omega
    exact g_vret hX hE rfl ⟨_, _, 0, rfl, by rw [gu_s], by rw [gb_f b6, if_neg (by omega)], by (funext j; by_cases e9 : j = 19; (rw [e9, gu_s, gu_s]); rw [gu_n _ _ e9, gu_n _ _ e9, gu_n _ _ e9]), rfl⟩
end
section
theorem c_X0_isOlder_x (l : Launch) (D : va_G) (cA : Nat → ClassId) (ct ed : Int → Int) (ppl : Int → Int → Int) (p e : Int) (hp : 0 ≤ p ∧ p < 20) (hct : ∀ q : Int, 0 ≤ ct q ∧ ct q ≤ 6) (hed : ∀ q : Int, inR (ed q)) (he : inR e) :
    gC l D cA yX0_isOlder mX0_isOlder (some .boolean) 0 0 [gr 36, gi p, gi e] (apX ct ed ppl) (fun r9 w9 => r9 = some (gi (gb (0 < ct p ∧ e < ed p))) ∧ w9 = apX ct ed ppl) := c_X0_isOlder l D cA ct ed (ppl 0) (ppl 1) (ppl 2) (ppl 3) (ppl 4) (ppl 5) (ppl 6) (ppl 7) (ppl 8) (ppl 9) (ppl 10) (ppl 11) (ppl 12) (ppl 13) (ppl 14) (ppl 15) (ppl 16) (ppl 17) (ppl 18) (ppl 19) p e hp hct hed he
theorem c_X0_isFull_x (l : Launch) (D : va_G) (cA : Nat → ClassId) (ct ed : Int → Int) (ppl : Int → Int → Int) (p e : Int) (hp : 0 ≤ p ∧ p < 20) (hct : ∀ q : Int, 0 ≤ ct q ∧ ct q ≤ 6) (hed : ∀ q : Int, inR (ed q)) (he : inR e) :
    gC l D cA yX0_isFull mX0_isFull (some .boolean) 0 0 [gr 36, gi p, gi e] (apX ct ed ppl) (fun r9 w9 => r9 = some (gi (gb (gLt ct ed p e ∧ 6 ≤ ct p))) ∧ w9 = apX ct ed ppl) := c_X0_isFull l D cA ct ed (ppl 0) (ppl 1) (ppl 2) (ppl 3) (ppl 4) (ppl 5) (ppl 6) (ppl 7) (ppl 8) (ppl 9) (ppl 10) (ppl 11) (ppl 12) (ppl 13) (ppl 14) (ppl 15) (ppl 16) (ppl 17) (ppl 18) (ppl 19) p e hp hct hed he
set_option maxHeartbeats 4000000 in
theorem c_X0_has_x (l : Launch) (D : va_G) (cA : Nat → ClassId) (ct ed : Int → Int) (ppl : Int → Int → Int) (p e who : Int) (hp : 0 ≤ p ∧ p < 20) (hct : ∀ q : Int, 0 ≤ ct q ∧ ct q ≤ 6) (hed : ∀ q : Int, inR (ed q)) (he : inR e) (hq : ∀ p j : Int, inR (ppl p j)) (hw : inR who) :
    gC l D cA yX0_has mX0_has (some .boolean) 0 0 [gr 36, gi p, gi e, gi who] (apX ct ed ppl) (fun r9 w9 => r9 = some (gi (gb (gLt ct ed p e ∧ ∃ j : Int, 0 ≤ j ∧ j < ct p ∧ ppl p j = who))) ∧ w9 = apX ct ed ppl) := by
  rcases (show p = 0 ∨ p = 1 ∨ p = 2 ∨ p = 3 ∨ p = 4 ∨ p = 5 ∨ p = 6 ∨ p = 7 ∨ p = 8 ∨ p = 9 ∨ p = 10 ∨ p = 11 ∨ p = 12 ∨ p = 13 ∨ p = 14 ∨ p = 15 ∨ p = 16 ∨ p = 17 ∨ p = 18 ∨ p = 19 by omega) with rfl | rfl | rfl | rfl | rfl | rfl | rfl | rfl | rfl | rfl | rfl | rfl | rfl | rfl | rfl | rfl | rfl | rfl | rfl | rfl
  · exact c_X0_has_0 l D cA ct ed (ppl 0) (ppl 1) (ppl 2) (ppl 3) (ppl 4) (ppl 5) (ppl 6) (ppl 7) (ppl 8) (ppl 9) (ppl 10) (ppl 11) (ppl 12) (ppl 13) (ppl 14) (ppl 15) (ppl 16) (ppl 17) (ppl 18) (ppl 19) e who hct hed he (hq 0) hw
  · exact c_X0_has_1 l D cA ct ed (ppl 0) (ppl 1) (ppl 2) (ppl 3) (ppl 4) (ppl 5) (ppl 6) (ppl 7) (ppl 8) (ppl 9) (ppl 10) (ppl 11) (ppl 12) (ppl 13) (ppl 14) (ppl 15) (ppl 16) (ppl 17) (ppl 18) (ppl 19) e who hct hed he (hq 1) hw
  · exact c_X0_has_2 l D cA ct ed (ppl 0) (ppl 1) (ppl 2) (ppl 3) (ppl 4) (ppl 5) (ppl 6) (ppl 7) (ppl 8) (ppl 9) (ppl 10) (ppl 11) (ppl 12) (ppl 13) (ppl 14) (ppl 15) (ppl 16) (ppl 17) (ppl 18) (ppl 19) e who hct hed he (hq 2) hw
  · exact c_X0_has_3 l D cA ct ed (ppl 0) (ppl 1) (ppl 2) (ppl 3) (ppl 4) (ppl 5) (ppl 6) (ppl 7) (ppl 8) (ppl 9) (ppl 10) (ppl 11) (ppl 12) (ppl 13) (ppl 14) (ppl 15) (ppl 16) (ppl 17) (ppl 18) (ppl 19) e who hct hed he (hq 3) hw
  · exact c_X0_has_4 l D cA ct ed (ppl 0) (ppl 1) (ppl 2) (ppl 3) (ppl 4) (ppl 5) (ppl 6) (ppl 7) (ppl 8) (ppl 9) (ppl 10) (ppl 11) (ppl 12) (ppl 13) (ppl 14) (ppl 15) (ppl 16) (ppl 17) (ppl 18) (ppl 19) e who hct hed he (hq 4) hw
  · exact c_X0_has_5 l D cA ct ed (ppl 0) (ppl 1) (ppl 2) (ppl 3) (ppl 4) (ppl 5) (ppl 6) (ppl 7) (ppl 8) (ppl 9) (ppl 10) (ppl 11) (ppl 12) (ppl 13) (ppl 14) (ppl 15) (ppl 16) (ppl 17) (ppl 18) (ppl 19) e who hct hed he (hq 5) hw
  · exact c_X0_has_6 l D cA ct ed (ppl 0) (ppl 1) (ppl 2) (ppl 3) (ppl 4) (ppl 5) (ppl 6) (ppl 7) (ppl 8) (ppl 9) (ppl 10) (ppl 11) (ppl 12) (ppl 13) (ppl 14) (ppl 15) (ppl 16) (ppl 17) (ppl 18) (ppl 19) e who hct hed he (hq 6) hw
  · exact c_X0_has_7 l D cA ct ed (ppl 0) (ppl 1) (ppl 2) (ppl 3) (ppl 4) (ppl 5) (ppl 6) (ppl 7) (ppl 8) (ppl 9) (ppl 10) (ppl 11) (ppl 12) (ppl 13) (ppl 14) (ppl 15) (ppl 16) (ppl 17) (ppl 18) (ppl 19) e who hct hed he (hq 7) hw
  · exact c_X0_has_8 l D cA ct ed (ppl 0) (ppl 1) (ppl 2) (ppl 3) (ppl 4) (ppl 5) (ppl 6) (ppl 7) (ppl 8) (ppl 9) (ppl 10) (ppl 11) (ppl 12) (ppl 13) (ppl 14) (ppl 15) (ppl 16) (ppl 17) (ppl 18) (ppl 19) e who hct hed he (hq 8) hw
  · exact c_X0_has_9 l D cA ct ed (ppl 0) (ppl 1) (ppl 2) (ppl 3) (ppl 4) (ppl 5) (ppl 6) (ppl 7) (ppl 8) (ppl 9) (ppl 10) (ppl 11) (ppl 12) (ppl 13) (ppl 14) (ppl 15) (ppl 16) (ppl 17) (ppl 18) (ppl 19) e who hct hed he (hq 9) hw
  · exact c_X0_has_10 l D cA ct ed (ppl 0) (ppl 1) (ppl 2) (ppl 3) (ppl 4) (ppl 5) (ppl 6) (ppl 7) (ppl 8) (ppl 9) (ppl 10) (ppl 11) (ppl 12) (ppl 13) (ppl 14) (ppl 15) (ppl 16) (ppl 17) (ppl 18) (ppl 19) e who hct hed he (hq 10) hw
  · exact c_X0_has_11 l D cA ct ed (ppl 0) (ppl 1) (ppl 2) (ppl 3) (ppl 4) (ppl 5) (ppl 6) (ppl 7) (ppl 8) (ppl 9) (ppl 10) (ppl 11) (ppl 12) (ppl 13) (ppl 14) (ppl 15) (ppl 16) (ppl 17) (ppl 18) (ppl 19) e who hct hed he (hq 11) hw
  · exact c_X0_has_12 l D cA ct ed (ppl 0) (ppl 1) (ppl 2) (ppl 3) (ppl 4) (ppl 5) (ppl 6) (ppl 7) (ppl 8) (ppl 9) (ppl 10) (ppl 11) (ppl 12) (ppl 13) (ppl 14) (ppl 15) (ppl 16) (ppl 17) (ppl 18) (ppl 19) e who hct hed he (hq 12) hw
  · exact c_X0_has_13 l D cA ct ed (ppl 0) (ppl 1) (ppl 2) (ppl 3) (ppl 4) (ppl 5) (ppl 6) (ppl 7) (ppl 8) (ppl 9) (ppl 10) (ppl 11) (ppl 12) (ppl 13) (ppl 14) (ppl 15) (ppl 16) (ppl 17) (ppl 18) (ppl 19) e who hct hed he (hq 13) hw
  · exact c_X0_has_14 l D cA ct ed (ppl 0) (ppl 1) (ppl 2) (ppl 3) (ppl 4) (ppl 5) (ppl 6) (ppl 7) (ppl 8) (ppl 9) (ppl 10) (ppl 11) (ppl 12) (ppl 13) (ppl 14) (ppl 15) (ppl 16) (ppl 17) (ppl 18) (ppl 19) e who hct hed he (hq 14) hw
  · exact c_X0_has_15 l D cA ct ed (ppl 0) (ppl 1) (ppl 2) (ppl 3) (ppl 4) (ppl 5) (ppl 6) (ppl 7) (ppl 8) (ppl 9) (ppl 10) (ppl 11) (ppl 12) (ppl 13) (ppl 14) (ppl 15) (ppl 16) (ppl 17) (ppl 18) (ppl 19) e who hct hed he (hq 15) hw
  · exact c_X0_has_16 l D cA ct ed (ppl 0) (ppl 1) (ppl 2) (ppl 3) (ppl 4) (ppl 5) (ppl 6) (ppl 7) (ppl 8) (ppl 9) (ppl 10) (ppl 11) (ppl 12) (ppl 13) (ppl 14) (ppl 15) (ppl 16) (ppl 17) (ppl 18) (ppl 19) e who hct hed he (hq 16) hw
  · exact c_X0_has_17 l D cA ct ed (ppl 0) (ppl 1) (ppl 2) (ppl 3) (ppl 4) (ppl 5) (ppl 6) (ppl 7) (ppl 8) (ppl 9) (ppl 10) (ppl 11) (ppl 12) (ppl 13) (ppl 14) (ppl 15) (ppl 16) (ppl 17) (ppl 18) (ppl 19) e who hct hed he (hq 17) hw
  · exact c_X0_has_18 l D cA ct ed (ppl 0) (ppl 1) (ppl 2) (ppl 3) (ppl 4) (ppl 5) (ppl 6) (ppl 7) (ppl 8) (ppl 9) (ppl 10) (ppl 11) (ppl 12) (ppl 13) (ppl 14) (ppl 15) (ppl 16) (ppl 17) (ppl 18) (ppl 19) e who hct hed he (hq 18) hw
  · exact c_X0_has_19 l D cA ct ed (ppl 0) (ppl 1) (ppl 2) (ppl 3) (ppl 4) (ppl 5) (ppl 6) (ppl 7) (ppl 8) (ppl 9) (ppl 10) (ppl 11) (ppl 12) (ppl 13) (ppl 14) (ppl 15) (ppl 16) (ppl 17) (ppl 18) (ppl 19) e who hct hed he (hq 19) hw
/-- row p of the people, with w at k -/
def gu2 (f : Int → Int → Int) (p k w : Int) : Int → Int → Int := fun a => if a = p then gu (f p) k w else f a
theorem gC_post {l : Launch} {D : va_G} {cA : Nat → ClassId} {y : MethodName} {mm : gM} {ret : Option FieldType} {mc ms : Nat} {av : List gV} {w : gW} {post post' : Option gV → gW → Prop} (h : gC l D cA y mm ret mc ms av w post) (hp : ∀ r w', post r w' → post' r w') : gC l D cA y mm ret mc ms av w post' := by
  intro ad sz
  have h1 := h ad sz
  unfold Met at *
  intro p e ha hc hk s m args below hf happ hP hK
  obtain ⟨t, o, a1, a2, a3, ⟨⟨r, w1, b1, b2, b3⟩, b4⟩, b5⟩ := h1 p e ha hc hk s m args below hf happ hP hK
  exact ⟨t, o, a1, a2, a3, ⟨⟨r, w1, b1, hp r w1 b2, b3⟩, b4⟩, b5⟩
set_option maxHeartbeats 4000000 in
theorem c_X0_add_x (l : Launch) (D : va_G) (cA : Nat → ClassId) (ct ed : Int → Int) (ppl : Int → Int → Int) (p e who : Int) (hp : 0 ≤ p ∧ p < 20) (hct : ∀ q : Int, 0 ≤ ct q ∧ ct q ≤ 6) (hed : ∀ q : Int, inR (ed q)) (he : inR e) (hl : gLt ct ed p e → ct p < 6) :
    gC l D cA yX0_add mX0_add none 0 0 [gr 36, gi p, gi e, gi who] (apX ct ed ppl) (fun r9 w9 => ∃ k2 : Int, r9 = none ∧ w9 = apX (gu ct p (k2 + 1)) (gu ed p e) (gu2 ppl p k2 who) ∧ k2 = (if gb (gLt ct ed p e) = 1 then ct p else 0)) := by
  rcases (show p = 0 ∨ p = 1 ∨ p = 2 ∨ p = 3 ∨ p = 4 ∨ p = 5 ∨ p = 6 ∨ p = 7 ∨ p = 8 ∨ p = 9 ∨ p = 10 ∨ p = 11 ∨ p = 12 ∨ p = 13 ∨ p = 14 ∨ p = 15 ∨ p = 16 ∨ p = 17 ∨ p = 18 ∨ p = 19 by omega) with rfl | rfl | rfl | rfl | rfl | rfl | rfl | rfl | rfl | rfl | rfl | rfl | rfl | rfl | rfl | rfl | rfl | rfl | rfl | rfl
  · refine gC_post (c_X0_add_0 l D cA ct ed (ppl 0) (ppl 1) (ppl 2) (ppl 3) (ppl 4) (ppl 5) (ppl 6) (ppl 7) (ppl 8) (ppl 9) (ppl 10) (ppl 11) (ppl 12) (ppl 13) (ppl 14) (ppl 15) (ppl 16) (ppl 17) (ppl 18) (ppl 19) e who hct hed he hl) (fun r w' ⟨ct2, ed2, k2, h1, h2, h3, h4, h5⟩ => ⟨k2, h1, ?_, h3⟩)
    rw [h2, h4, h5]
    rfl
  · refine gC_post (c_X0_add_1 l D cA ct ed (ppl 0) (ppl 1) (ppl 2) (ppl 3) (ppl 4) (ppl 5) (ppl 6) (ppl 7) (ppl 8) (ppl 9) (ppl 10) (ppl 11) (ppl 12) (ppl 13) (ppl 14) (ppl 15) (ppl 16) (ppl 17) (ppl 18) (ppl 19) e who hct hed he hl) (fun r w' ⟨ct2, ed2, k2, h1, h2, h3, h4, h5⟩ => ⟨k2, h1, ?_, h3⟩)
    rw [h2, h4, h5]
    rfl
  · refine gC_post (c_X0_add_2 l D cA ct ed (ppl 0) (ppl 1) (ppl 2) (ppl 3) (ppl 4) (ppl 5) (ppl 6) (ppl 7) (ppl 8) (ppl 9) (ppl 10) (ppl 11) (ppl 12) (ppl 13) (ppl 14) (ppl 15) (ppl 16) (ppl 17) (ppl 18) (ppl 19) e who hct hed he hl) (fun r w' ⟨ct2, ed2, k2, h1, h2, h3, h4, h5⟩ => ⟨k2, h1, ?_, h3⟩)
    rw [h2, h4, h5]
    rfl
  · refine gC_post (c_X0_add_3 l D cA ct ed (ppl 0) (ppl 1) (ppl 2) (ppl 3) (ppl 4) (ppl 5) (ppl 6) (ppl 7) (ppl 8) (ppl 9) (ppl 10) (ppl 11) (ppl 12) (ppl 13) (ppl 14) (ppl 15) (ppl 16) (ppl 17) (ppl 18) (ppl 19) e who hct hed he hl) (fun r w' ⟨ct2, ed2, k2, h1, h2, h3, h4, h5⟩ => ⟨k2, h1, ?_, h3⟩)
    rw [h2, h4, h5]
    rfl
  · refine gC_post (c_X0_add_4 l D cA ct ed (ppl 0) (ppl 1) (ppl 2) (ppl 3) (ppl 4) (ppl 5) (ppl 6) (ppl 7) (ppl 8) (ppl 9) (ppl 10) (ppl 11) (ppl 12) (ppl 13) (ppl 14) (ppl 15) (ppl 16) (ppl 17) (ppl 18) (ppl 19) e who hct hed he hl) (fun r w' ⟨ct2, ed2, k2, h1, h2, h3, h4, h5⟩ => ⟨k2, h1, ?_, h3⟩)
    rw [h2, h4, h5]
    rfl
  · refine gC_post (c_X0_add_5 l D cA ct ed (ppl 0) (ppl 1) (ppl 2) (ppl 3) (ppl 4) (ppl 5) (ppl 6) (ppl 7) (ppl 8) (ppl 9) (ppl 10) (ppl 11) (ppl 12) (ppl 13) (ppl 14) (ppl 15) (ppl 16) (ppl 17) (ppl 18) (ppl 19) e who hct hed he hl) (fun r w' ⟨ct2, ed2, k2, h1, h2, h3, h4, h5⟩ => ⟨k2, h1, ?_, h3⟩)
    rw [h2, h4, h5]
    rfl
  · refine gC_post (c_X0_add_6 l D cA ct ed (ppl 0) (ppl 1) (ppl 2) (ppl 3) (ppl 4) (ppl 5) (ppl 6) (ppl 7) (ppl 8) (ppl 9) (ppl 10) (ppl 11) (ppl 12) (ppl 13) (ppl 14) (ppl 15) (ppl 16) (ppl 17) (ppl 18) (ppl 19) e who hct hed he hl) (fun r w' ⟨ct2, ed2, k2, h1, h2, h3, h4, h5⟩ => ⟨k2, h1, ?_, h3⟩)
    rw [h2, h4, h5]
    rfl
  · refine gC_post (c_X0_add_7 l D cA ct ed (ppl 0) (ppl 1) (ppl 2) (ppl 3) (ppl 4) (ppl 5) (ppl 6) (ppl 7) (ppl 8) (ppl 9) (ppl 10) (ppl 11) (ppl 12) (ppl 13) (ppl 14) (ppl 15) (ppl 16) (ppl 17) (ppl 18) (ppl 19) e who hct hed he hl) (fun r w' ⟨ct2, ed2, k2, h1, h2, h3, h4, h5⟩ => ⟨k2, h1, ?_, h3⟩)
    rw [h2, h4, h5]
    rfl
  · refine gC_post (c_X0_add_8 l D cA ct ed (ppl 0) (ppl 1) (ppl 2) (ppl 3) (ppl 4) (ppl 5) (ppl 6) (ppl 7) (ppl 8) (ppl 9) (ppl 10) (ppl 11) (ppl 12) (ppl 13) (ppl 14) (ppl 15) (ppl 16) (ppl 17) (ppl 18) (ppl 19) e who hct hed he hl) (fun r w' ⟨ct2, ed2, k2, h1, h2, h3, h4, h5⟩ => ⟨k2, h1, ?_, h3⟩)
    rw [h2, h4, h5]
    rfl
  · refine gC_post (c_X0_add_9 l D cA ct ed (ppl 0) (ppl 1) (ppl 2) (ppl 3) (ppl 4) (ppl 5) (ppl 6) (ppl 7) (ppl 8) (ppl 9) (ppl 10) (ppl 11) (ppl 12) (ppl 13) (ppl 14) (ppl 15) (ppl 16) (ppl 17) (ppl 18) (ppl 19) e who hct hed he hl) (fun r w' ⟨ct2, ed2, k2, h1, h2, h3, h4, h5⟩ => ⟨k2, h1, ?_, h3⟩)
    rw [h2, h4, h5]
    rfl
  · refine gC_post (c_X0_add_10 l D cA ct ed (ppl 0) (ppl 1) (ppl 2) (ppl 3) (ppl 4) (ppl 5) (ppl 6) (ppl 7) (ppl 8) (ppl 9) (ppl 10) (ppl 11) (ppl 12) (ppl 13) (ppl 14) (ppl 15) (ppl 16) (ppl 17) (ppl 18) (ppl 19) e who hct hed he hl) (fun r w' ⟨ct2, ed2, k2, h1, h2, h3, h4, h5⟩ => ⟨k2, h1, ?_, h3⟩)
    rw [h2, h4, h5]
    rfl
  · refine gC_post (c_X0_add_11 l D cA ct ed (ppl 0) (ppl 1) (ppl 2) (ppl 3) (ppl 4) (ppl 5) (ppl 6) (ppl 7) (ppl 8) (ppl 9) (ppl 10) (ppl 11) (ppl 12) (ppl 13) (ppl 14) (ppl 15) (ppl 16) (ppl 17) (ppl 18) (ppl 19) e who hct hed he hl) (fun r w' ⟨ct2, ed2, k2, h1, h2, h3, h4, h5⟩ => ⟨k2, h1, ?_, h3⟩)
    rw [h2, h4, h5]
    rfl
  · refine gC_post (c_X0_add_12 l D cA ct ed (ppl 0) (ppl 1) (ppl 2) (ppl 3) (ppl 4) (ppl 5) (ppl 6) (ppl 7) (ppl 8) (ppl 9) (ppl 10) (ppl 11) (ppl 12) (ppl 13) (ppl 14) (ppl 15) (ppl 16) (ppl 17) (ppl 18) (ppl 19) e who hct hed he hl) (fun r w' ⟨ct2, ed2, k2, h1, h2, h3, h4, h5⟩ => ⟨k2, h1, ?_, h3⟩)
    rw [h2, h4, h5]
    rfl
  · refine gC_post (c_X0_add_13 l D cA ct ed (ppl 0) (ppl 1) (ppl 2) (ppl 3) (ppl 4) (ppl 5) (ppl 6) (ppl 7) (ppl 8) (ppl 9) (ppl 10) (ppl 11) (ppl 12) (ppl 13) (ppl 14) (ppl 15) (ppl 16) (ppl 17) (ppl 18) (ppl 19) e who hct hed he hl) (fun r w' ⟨ct2, ed2, k2, h1, h2, h3, h4, h5⟩ => ⟨k2, h1, ?_, h3⟩)
    rw [h2, h4, h5]
    rfl
  · refine gC_post (c_X0_add_14 l D cA ct ed (ppl 0) (ppl 1) (ppl 2) (ppl 3) (ppl 4) (ppl 5) (ppl 6) (ppl 7) (ppl 8) (ppl 9) (ppl 10) (ppl 11) (ppl 12) (ppl 13) (ppl 14) (ppl 15) (ppl 16) (ppl 17) (ppl 18) (ppl 19) e who hct hed he hl) (fun r w' ⟨ct2, ed2, k2, h1, h2, h3, h4, h5⟩ => ⟨k2, h1, ?_, h3⟩)
    rw [h2, h4, h5]
    rfl
  · refine gC_post (c_X0_add_15 l D cA ct ed (ppl 0) (ppl 1) (ppl 2) (ppl 3) (ppl 4) (ppl 5) (ppl 6) (ppl 7) (ppl 8) (ppl 9) (ppl 10) (ppl 11) (ppl 12) (ppl 13) (ppl 14) (ppl 15) (ppl 16) (ppl 17) (ppl 18) (ppl 19) e who hct hed he hl) (fun r w' ⟨ct2, ed2, k2, h1, h2, h3, h4, h5⟩ => ⟨k2, h1, ?_, h3⟩)
    rw [h2, h4, h5]
    rfl
  · refine gC_post (c_X0_add_16 l D cA ct ed (ppl 0) (ppl 1) (ppl 2) (ppl 3) (ppl 4) (ppl 5) (ppl 6) (ppl 7) (ppl 8) (ppl 9) (ppl 10) (ppl 11) (ppl 12) (ppl 13) (ppl 14) (ppl 15) (ppl 16) (ppl 17) (ppl 18) (ppl 19) e who hct hed he hl) (fun r w' ⟨ct2, ed2, k2, h1, h2, h3, h4, h5⟩ => ⟨k2, h1, ?_, h3⟩)
    rw [h2, h4, h5]
    rfl
  · refine gC_post (c_X0_add_17 l D cA ct ed (ppl 0) (ppl 1) (ppl 2) (ppl 3) (ppl 4) (ppl 5) (ppl 6) (ppl 7) (ppl 8) (ppl 9) (ppl 10) (ppl 11) (ppl 12) (ppl 13) (ppl 14) (ppl 15) (ppl 16) (ppl 17) (ppl 18) (ppl 19) e who hct hed he hl) (fun r w' ⟨ct2, ed2, k2, h1, h2, h3, h4, h5⟩ => ⟨k2, h1, ?_, h3⟩)
    rw [h2, h4, h5]
    rfl
  · refine gC_post (c_X0_add_18 l D cA ct ed (ppl 0) (ppl 1) (ppl 2) (ppl 3) (ppl 4) (ppl 5) (ppl 6) (ppl 7) (ppl 8) (ppl 9) (ppl 10) (ppl 11) (ppl 12) (ppl 13) (ppl 14) (ppl 15) (ppl 16) (ppl 17) (ppl 18) (ppl 19) e who hct hed he hl) (fun r w' ⟨ct2, ed2, k2, h1, h2, h3, h4, h5⟩ => ⟨k2, h1, ?_, h3⟩)
    rw [h2, h4, h5]
    rfl
  · refine gC_post (c_X0_add_19 l D cA ct ed (ppl 0) (ppl 1) (ppl 2) (ppl 3) (ppl 4) (ppl 5) (ppl 6) (ppl 7) (ppl 8) (ppl 9) (ppl 10) (ppl 11) (ppl 12) (ppl 13) (ppl 14) (ppl 15) (ppl 16) (ppl 17) (ppl 18) (ppl 19) e who hct hed he hl) (fun r w' ⟨ct2, ed2, k2, h1, h2, h3, h4, h5⟩ => ⟨k2, h1, ?_, h3⟩)
    rw [h2, h4, h5]
    rfl
end
section
abbrev moW (W H : Nat) (mth mbd mne mnw mmn mbx man mrs mrl mfl : Int) (mpt mdf mlb mbo mwn mwo mxo myo mor mco mro mpw mph mrk mrb mrf mfr mfm med map mwh : Int → Int) : gW := [(60, gob 9 [gi mth, gi W, gi H, gr 61, gi mbd, gi mne, gi mnw, gr 62, gr 63, gi mmn, gi mbx, gr 64, gr 65, gr 66, gr 67, gr 68, gr 69, gi man, gr 70, gi mrs, gr 71, gr 72, gr 73, gi mrl, gr 74, gr 75, gr 76, gi mfl, gr 77, gr 78, gr 79, gr 80, gr 81]), (61, gai 0 2048 mpt), (62, gai 1 1024 mdf), (63, gai 0 1024 mlb), (64, gai 0 4096 mbo), (65, gai 0 2 mwn), (66, gai 0 80 mwo), (67, gai 0 80 mxo), (68, gai 0 80 myo), (69, gai 0 80 mor), (70, gai 0 1681 mco), (71, gai 0 320 mro), (72, gai 0 40 mpw), (73, gai 0 40 mph), (74, gai 0 12 mrk), (75, gai 0 12 mrb), (76, gai 1 12 mrf), (77, gai 0 12 mfr), (78, gai 0 12 mfm), (79, gai 0 20 med), (80, gai 0 20 map), (81, gai 0 120 mwh)]
set_option maxHeartbeats 4000000 in
set_option maxRecDepth 100000 in
theorem c_X8_in (l : Launch) (D : va_G) (cA : Nat → ClassId) (v : Int) (lo : Int) (hi : Int) (hv : inR v) (hlo : inR lo) (hhi : inR hi) :
    gC l D cA yX8_in mX8_in (some .boolean) 0 0 [gi v, gi lo, gi hi] ([]) (fun r9 w9 => r9 = some (gi (gb (lo ≤ v ∧ v ≤ hi))) ∧ w9 = []) := by
  refine gC_of rfl kX8_in rfl rfl (Nat.le_of_ble_eq_true rfl) (fun X ad hX hE => ?_)
  refine G.go hX 2 ([], 2, [(0, gi v), (1, gi lo), (2, gi hi)], [gi lo, gi v]) rfl trivial ?_
  refine g_icmp_lt hX 14 rfl rfl (by assumption) (by assumption) (fun b2 => ?_) (fun b2 => ?_)
  ·
    refine G.go hX 1 ([], 15, [(0, gi v), (1, gi lo), (2, gi hi)], [gi 0]) rfl trivial ?_
    exact g_zret hX hE rfl (Or.inl rfl) ⟨(congrArg (fun z => some (gi z)) (gb_f (by omega)).symm), rfl⟩
  ·
    refine G.go hX 2 ([], 7, [(0, gi v), (1, gi lo), (2, gi hi)], [gi hi, gi v]) rfl trivial ?_
    refine g_icmp_gt hX 14 rfl rfl (by assumption) (by assumption) (fun b7 => ?_) (fun b7 => ?_)
    ·
      refine G.go hX 1 ([], 15, [(0, gi v), (1, gi lo), (2, gi hi)], [gi 0]) rfl trivial ?_
      exact g_zret hX hE rfl (Or.inl rfl) ⟨(congrArg (fun z => some (gi z)) (gb_f (by omega)).symm), rfl⟩
    ·
      refine G.go hX 2 ([], 15, [(0, gi v), (1, gi lo), (2, gi hi)], [gi 1]) rfl trivial ?_
      exact g_zret hX hE rfl (Or.inr rfl) ⟨(congrArg (fun z => some (gi z)) (gb_t (by omega)).symm), rfl⟩
set_option maxHeartbeats 4000000 in
set_option maxRecDepth 100000 in
theorem c_X8_thrown (l : Launch) (D : va_G) (cA : Nat → ClassId) (W : Nat) (H : Nat) (mth : Int) (mbd : Int) (mne : Int) (mnw : Int) (mmn : Int) (mbx : Int) (man : Int) (mrs : Int) (mrl : Int) (mfl : Int) (mpt : Int → Int) (mdf : Int → Int) (mlb : Int → Int) (mbo : Int → Int) (mwn : Int → Int) (mwo : Int → Int) (mxo : Int → Int) (myo : Int → Int) (mor : Int → Int) (mco : Int → Int) (mro : Int → Int) (mpw : Int → Int) (mph : Int → Int) (mrk : Int → Int) (mrb : Int → Int) (mrf : Int → Int) (mfr : Int → Int) (mfm : Int → Int) (med : Int → Int) (map : Int → Int) (mwh : Int → Int)  :
    gC l D cA yX8_thrown mX8_thrown (some .int) 0 0 [gr 60] (moW W H mth mbd mne mnw mmn mbx man mrs mrl mfl mpt mdf mlb mbo mwn mwo mxo myo mor mco mro mpw mph mrk mrb mrf mfr mfm med map mwh) (fun r9 w9 => r9 = some (gi mth) ∧ w9 = moW W H mth mbd mne mnw mmn mbx man mrs mrl mfl mpt mdf mlb mbo mwn mwo mxo myo mor mco mro mpw mph mrk mrb mrf mfr mfm med map mwh) := by
  refine gC_of rfl kX8_thrown rfl rfl (Nat.le_of_ble_eq_true rfl) (fun X ad hX hE => ?_)
  refine G.go hX 2 (moW W H mth mbd mne mnw mmn mbx man mrs mrl mfl mpt mdf mlb mbo mwn mwo mxo myo mor mco mro mpw mph mrk mrb mrf mfr mfm med map mwh, 4, [(0, gr 60)], [gi mth]) rfl trivial ?_
  exact g_iret hX hE rfl ⟨rfl, rfl⟩
set_option maxHeartbeats 4000000 in
set_option maxRecDepth 100000 in
theorem c_X8_point (l : Launch) (D : va_G) (cA : Nat → ClassId) (W : Nat) (H : Nat) (mth : Int) (mbd : Int) (mne : Int) (mnw : Int) (mmn : Int) (mbx : Int) (man : Int) (mrs : Int) (mrl : Int) (mfl : Int) (mpt : Int → Int) (mdf : Int → Int) (mlb : Int → Int) (mbo : Int → Int) (mwn : Int → Int) (mwo : Int → Int) (mxo : Int → Int) (myo : Int → Int) (mor : Int → Int) (mco : Int → Int) (mro : Int → Int) (mpw : Int → Int) (mph : Int → Int) (mrk : Int → Int) (mrb : Int → Int) (mrf : Int → Int) (mfr : Int → Int) (mfm : Int → Int) (med : Int → Int) (map : Int → Int) (mwh : Int → Int) (s : Int) (x : Int) (y : Int) (v : Int) (hW : W ≤ 32) (hH : H ≤ 32) (hs : inR s) (hx : inR x) (hy : inR y) :
    gC l D cA yX8_point mX8_point (some .int) 0 0 [gr 60, gi s, gi x, gi y, gi v] (moW W H mth mbd mne mnw mmn mbx man mrs mrl mfl mpt mdf mlb mbo mwn mwo mxo myo mor mco mro mpw mph mrk mrb mrf mfr mfm med map mwh) (fun r9 w9 => ∃ (rv : Int) (th : Int) (nw : Int) (pt : Int → Int), r9 = some (gi rv) ∧ w9 = moW W H th mbd mne nw mmn mbx man mrs mrl mfl pt mdf mlb mbo mwn mwo mxo myo mor mco mro mpw mph mrk mrb mrf mfr mfm med map mwh ∧ ((0 ≤ s ∧ s ≤ 1) ∧ (0 ≤ x ∧ x < W) ∧ 0 ≤ y ∧ y < H → th = 0 ∧ nw = 1 ∧ rv = mpt (1024 * s + 32 * y + x) ∧ pt = gu mpt (1024 * s + 32 * y + x) (Int32.ofInt v &&& Int32.ofInt 255).toInt) ∧ (¬ ((0 ≤ s ∧ s ≤ 1) ∧ (0 ≤ x ∧ x < W) ∧ 0 ≤ y ∧ y < H) → th = 1 ∧ rv = 0 ∧ nw = mnw ∧ pt = mpt)) := by
  refine gC_of rfl kX8_point rfl rfl (Nat.le_of_ble_eq_true rfl) (fun X ad hX hE => ?_)
  refine G.go hX 3 (moW W H mth mbd mne mnw mmn mbx man mrs mrl mfl mpt mdf mlb mbo mwn mwo mxo myo mor mco mro mpw mph mrk mrb mrf mfr mfm med map mwh, 3, [(0, gr 60), (1, gi s), (2, gi x), (3, gi y), (4, gi v)], [gi 1, gi 0, gi s]) rfl trivial ?_
  refine G.callS (av := [gi s, gi 0, gi 1]) (st := []) hX rfl (fun l D cA => c_X8_in l D cA s 0 1 (by first | assumption | exact ⟨by omega, by omega⟩) ⟨by omega, by omega⟩ ⟨by omega, by omega⟩) (by decide +kernel) aX8_in rfl ⟨rfl, rfl⟩ (by decide) (Nat.le_of_ble_eq_true rfl) [] [0, 1, 2, 3, 4, 5, 6, 7, 8, 9, 10, 11, 12, 13, 14, 15, 16, 17, 18, 19, 20, 21] (moW W H mth mbd mne mnw mmn mbx man mrs mrl mfl mpt mdf mlb mbo mwn mwo mxo myo mor mco mro mpw mph mrk mrb mrf mfr mfm med map mwh) rfl rfl rfl (fun r w' hp => ?_)
  obtain ⟨rfl, rfl⟩ := hp
  show G X mX8_point ad 0 0 (moW W H mth mbd mne mnw mmn mbx man mrs mrl mfl mpt mdf mlb mbo mwn mwo mxo myo mor mco mro mpw mph mrk mrb mrf mfr mfm med map mwh, 6, [(0, gr 60), (1, gi s), (2, gi x), (3, gi y), (4, gi v)], [gi (gb (0 ≤ s ∧ s ≤ 1))])
  have jn42 : G X mX8_point ad 0 0 (moW W H mth mbd mne mnw mmn mbx man mrs mrl mfl mpt mdf mlb mbo mwn mwo mxo myo mor mco mro mpw mph mrk mrb mrf mfr mfm med map mwh, 42, [(0, gr 60), (1, gi s), (2, gi x), (3, gi y), (4, gi v)], [gi (gb ((0 ≤ s ∧ s ≤ 1) ∧ (0 ≤ x ∧ x < W) ∧ 0 ≤ y ∧ y < H))]) := by
    refine G.go hX 3 (moW W H mth mbd mne mnw mmn mbx man mrs mrl mfl mpt mdf mlb mbo mwn mwo mxo myo mor mco mro mpw mph mrk mrb mrf mfr mfm med map mwh, 47, [(0, gr 60), (1, gi s), (2, gi x), (3, gi y), (4, gi v), (5, gi (gb ((0 ≤ s ∧ s ≤ 1) ∧ (0 ≤ x ∧ x < W) ∧ 0 ≤ y ∧ y < H)))], [gi (gb ((0 ≤ s ∧ s ≤ 1) ∧ (0 ≤ x ∧ x < W) ∧ 0 ≤ y ∧ y < H)), gr 60]) rfl trivial ?_
    refine g_if_eq hX 54 rfl rfl (gb_r _) (fun b47 => ?_) (fun b47 => ?_)
    ·
      have b47 := gb_0.mp b47
      refine G.go hX 4 (moW W H 1 mbd mne mnw mmn mbx man mrs mrl mfl mpt mdf mlb mbo mwn mwo mxo myo mor mco mro mpw mph mrk mrb mrf mfr mfm med map mwh, 62, [(0, gr 60), (1, gi s), (2, gi x), (3, gi y), (4, gi v), (5, gi (gb ((0 ≤ s ∧ s ≤ 1) ∧ (0 ≤ x ∧ x < W) ∧ 0 ≤ y ∧ y < H)))], [gi 1]) rfl trivial ?_
      refine g_if_le hX 67 rfl rfl ⟨by omega, by omega⟩ (fun b62 => ?_) (fun b62 => ?_)
      ·
        exfalso
        omega
      ·
        refine G.go hX 1 (moW W H 1 mbd mne mnw mmn mbx man mrs mrl mfl mpt mdf mlb mbo mwn mwo mxo myo mor mco mro mpw mph mrk mrb mrf mfr mfm med map mwh, 66, [(0, gr 60), (1, gi s), (2, gi x), (3, gi y), (4, gi v), (5, gi (gb ((0 ≤ s ∧ s ≤ 1) ∧ (0 ≤ x ∧ x < W) ∧ 0 ≤ y ∧ y < H)))], [gi 0]) rfl trivial ?_
        exact g_iret hX hE rfl ⟨0, 1, mnw, mpt, rfl, rfl, fun h9 => absurd h9 b47, fun _ => ⟨rfl, rfl, rfl, rfl⟩⟩
    ·
      have b47 := gb_n0 b47
      refine G.go hX 5 (moW W H 0 mbd mne mnw mmn mbx man mrs mrl mfl mpt mdf mlb mbo mwn mwo mxo myo mor mco mro mpw mph mrk mrb mrf mfr mfm med map mwh, 62, [(0, gr 60), (1, gi s), (2, gi x), (3, gi y), (4, gi v), (5, gi (gb ((0 ≤ s ∧ s ≤ 1) ∧ (0 ≤ x ∧ x < W) ∧ 0 ≤ y ∧ y < H)))], [gi 0]) rfl trivial ?_
      refine g_if_le hX 67 rfl rfl ⟨by omega, by omega⟩ (fun b62 => ?_) (fun b62 => ?_)
      ·
        refine G.go hX 26 (moW W H 0 mbd mne 1 mmn mbx man mrs mrl mfl (gu mpt (((1024 * s) + (32 * y)) + x) ((Int32.ofInt v &&& Int32.ofInt 255).toInt)) mdf mlb mbo mwn mwo mxo myo mor mco mro mpw mph mrk mrb mrf mfr mfm med map mwh, 110, [(0, gr 60), (1, gi s), (2, gi x), (3, gi y), (4, gi v), (5, gi (gb ((0 ≤ s ∧ s ≤ 1) ∧ (0 ≤ x ∧ x < W) ∧ 0 ≤ y ∧ y < H))), (6, gi (((1024 * s) + (32 * y)) + x)), (7, gi (mpt (((1024 * s) + (32 * y)) + x)))], [gi (mpt (((1024 * s) + (32 * y)) + x))]) rfl ?_ ?_
        · refine ⟨?_, ?_, ?_, trivial⟩
          · omega
          · omega
          · omega
        exact g_iret hX hE rfl ⟨_, 0, 1, _, rfl, rfl, fun _ => ⟨rfl, rfl, rfl, rfl⟩, fun h9 => absurd b47 h9⟩
      ·
        exfalso
        omega
  refine g_if_eq hX 41 rfl rfl (gb_r _) (fun b6 => ?_) (fun b6 => ?_)
  ·
    have b6 := gb_0.mp b6
    refine G.go hX 1 (moW W H mth mbd mne mnw mmn mbx man mrs mrl mfl mpt mdf mlb mbo mwn mwo mxo myo mor mco mro mpw mph mrk mrb mrf mfr mfm med map mwh, 42, [(0, gr 60), (1, gi s), (2, gi x), (3, gi y), (4, gi v)], [gi 0]) rfl trivial ?_
    refine G.eq (S' := (moW W H mth mbd mne mnw mmn mbx man mrs mrl mfl mpt mdf mlb mbo mwn mwo mxo myo mor mco mro mpw mph mrk mrb mrf mfr mfm med map mwh, 42, [(0, gr 60), (1, gi s), (2, gi x), (3, gi y), (4, gi v)], [gi (gb ((0 ≤ s ∧ s ≤ 1) ∧ (0 ≤ x ∧ x < W) ∧ 0 ≤ y ∧ y < H))])) ?_ jn42
    first | (rw [gb_t (show (0 ≤ s ∧ s ≤ 1) ∧ (0 ≤ x ∧ x < W) ∧ 0 ≤ y ∧ y < H by omega)]) | (rw [gb_f (show ¬ ((0 ≤ s ∧ s ≤ 1) ∧ (0 ≤ x ∧ x < W) ∧ 0 ≤ y ∧ y < H) by omega)])
  ·
    have b6 := gb_n0 b6
    refine G.go hX 6 (moW W H mth mbd mne mnw mmn mbx man mrs mrl mfl mpt mdf mlb mbo mwn mwo mxo myo mor mco mro mpw mph mrk mrb mrf mfr mfm med map mwh, 17, [(0, gr 60), (1, gi s), (2, gi x), (3, gi y), (4, gi v)], [gi (W - 1), gi 0, gi x]) rfl trivial ?_
    refine G.callS (av := [gi x, gi 0, gi (W - 1)]) (st := []) hX rfl (fun l D cA => c_X8_in l D cA x 0 (W - 1) (by first | assumption | exact ⟨by omega, by omega⟩) ⟨by omega, by omega⟩ ⟨by omega, by omega⟩) (by decide +kernel) aX8_in rfl ⟨rfl, rfl⟩ (by decide) (Nat.le_of_ble_eq_true rfl) [] [0, 1, 2, 3, 4, 5, 6, 7, 8, 9, 10, 11, 12, 13, 14, 15, 16, 17, 18, 19, 20, 21] (moW W H mth mbd mne mnw mmn mbx man mrs mrl mfl mpt mdf mlb mbo mwn mwo mxo myo mor mco mro mpw mph mrk mrb mrf mfr mfm med map mwh) rfl rfl rfl (fun r w' hp => ?_)
    obtain ⟨rfl, rfl⟩ := hp
    show G X mX8_point ad 0 0 (moW W H mth mbd mne mnw mmn mbx man mrs mrl mfl mpt mdf mlb mbo mwn mwo mxo myo mor mco mro mpw mph mrk mrb mrf mfr mfm med map mwh, 20, [(0, gr 60), (1, gi s), (2, gi x), (3, gi y), (4, gi v)], [gi (gb (0 ≤ x ∧ x ≤ (W - 1)))])
    refine g_if_eq hX 41 rfl rfl (gb_r _) (fun b20 => ?_) (fun b20 => ?_)
    ·
      have b20 := gb_0.mp b20
      refine G.go hX 1 (moW W H mth mbd mne mnw mmn mbx man mrs mrl mfl mpt mdf mlb mbo mwn mwo mxo myo mor mco mro mpw mph mrk mrb mrf mfr mfm med map mwh, 42, [(0, gr 60), (1, gi s), (2, gi x), (3, gi y), (4, gi v)], [gi 0]) rfl trivial ?_
      refine G.eq (S' := (moW W H mth mbd mne mnw mmn mbx man mrs mrl mfl mpt mdf mlb mbo mwn mwo mxo myo mor mco mro mpw mph mrk mrb mrf mfr mfm med map mwh, 42, [(0, gr 60), (1, gi s), (2, gi x), (3, gi y), (4, gi v)], [gi (gb ((0 ≤ s ∧ s ≤ 1) ∧ (0 ≤ x ∧ x < W) ∧ 0 ≤ y ∧ y < H))])) ?_ jn42
      first | (rw [gb_t (show (0 ≤ s ∧ s ≤ 1) ∧ (0 ≤ x ∧ x < W) ∧ 0 ≤ y ∧ y < H by omega)]) | (rw [gb_f (show ¬ ((0 ≤ s ∧ s ≤ 1) ∧ (0 ≤ x ∧ x < W) ∧ 0 ≤ y ∧ y < H) by omega)])
    ·
      have b20 := gb_n0 b20
      refine G.go hX 6 (moW W H mth mbd mne mnw mmn mbx man mrs mrl mfl mpt mdf mlb mbo mwn mwo mxo myo mor mco mro mpw mph mrk mrb mrf mfr mfm med map mwh, 31, [(0, gr 60), (1, gi s), (2, gi x), (3, gi y), (4, gi v)], [gi (H - 1), gi 0, gi y]) rfl trivial ?_
      refine G.callS (av := [gi y, gi 0, gi (H - 1)]) (st := []) hX rfl (fun l D cA => c_X8_in l D cA y 0 (H - 1) (by first | assumption | exact ⟨by omega, by omega⟩) ⟨by omega, by omega⟩ ⟨by omega, by omega⟩) (by decide +kernel) aX8_in rfl ⟨rfl, rfl⟩ (by decide) (Nat.le_of_ble_eq_true rfl) [] [0, 1, 2, 3, 4, 5, 6, 7, 8, 9, 10, 11, 12, 13, 14, 15, 16, 17, 18, 19, 20, 21] (moW W H mth mbd mne mnw mmn mbx man mrs mrl mfl mpt mdf mlb mbo mwn mwo mxo myo mor mco mro mpw mph mrk mrb mrf mfr mfm med map mwh) rfl rfl rfl (fun r w' hp => ?_)
      obtain ⟨rfl, rfl⟩ := hp
      show G X mX8_point ad 0 0 (moW W H mth mbd mne mnw mmn mbx man mrs mrl mfl mpt mdf mlb mbo mwn mwo mxo myo mor mco mro mpw mph mrk mrb mrf mfr mfm med map mwh, 34, [(0, gr 60), (1, gi s), (2, gi x), (3, gi y), (4, gi v)], [gi (gb (0 ≤ y ∧ y ≤ (H - 1)))])
      refine g_if_eq hX 41 rfl rfl (gb_r _) (fun b34 => ?_) (fun b34 => ?_)
      ·
        have b34 := gb_0.mp b34
        refine G.go hX 1 (moW W H mth mbd mne mnw mmn mbx man mrs mrl mfl mpt mdf mlb mbo mwn mwo mxo myo mor mco mro mpw mph mrk mrb mrf mfr mfm med map mwh, 42, [(0, gr 60), (1, gi s), (2, gi x), (3, gi y), (4, gi v)], [gi 0]) rfl trivial ?_
        refine G.eq (S' := (moW W H mth mbd mne mnw mmn mbx man mrs mrl mfl mpt mdf mlb mbo mwn mwo mxo myo mor mco mro mpw mph mrk mrb mrf mfr mfm med map mwh, 42, [(0, gr 60), (1, gi s), (2, gi x), (3, gi y), (4, gi v)], [gi (gb ((0 ≤ s ∧ s ≤ 1) ∧ (0 ≤ x ∧ x < W) ∧ 0 ≤ y ∧ y < H))])) ?_ jn42
        first | (rw [gb_t (show (0 ≤ s ∧ s ≤ 1) ∧ (0 ≤ x ∧ x < W) ∧ 0 ≤ y ∧ y < H by omega)]) | (rw [gb_f (show ¬ ((0 ≤ s ∧ s ≤ 1) ∧ (0 ≤ x ∧ x < W) ∧ 0 ≤ y ∧ y < H) by omega)])
      ·
        have b34 := gb_n0 b34
        refine G.go hX 2 (moW W H mth mbd mne mnw mmn mbx man mrs mrl mfl mpt mdf mlb mbo mwn mwo mxo myo mor mco mro mpw mph mrk mrb mrf mfr mfm med map mwh, 42, [(0, gr 60), (1, gi s), (2, gi x), (3, gi y), (4, gi v)], [gi 1]) rfl trivial ?_
        refine G.eq (S' := (moW W H mth mbd mne mnw mmn mbx man mrs mrl mfl mpt mdf mlb mbo mwn mwo mxo myo mor mco mro mpw mph mrk mrb mrf mfr mfm med map mwh, 42, [(0, gr 60), (1, gi s), (2, gi x), (3, gi y), (4, gi v)], [gi (gb ((0 ≤ s ∧ s ≤ 1) ∧ (0 ≤ x ∧ x < W) ∧ 0 ≤ y ∧ y < H))])) ?_ jn42
        first | (rw [gb_t (show (0 ≤ s ∧ s ≤ 1) ∧ (0 ≤ x ∧ x < W) ∧ 0 ≤ y ∧ y < H by omega)]) | (rw [gb_f (show ¬ ((0 ≤ s ∧ s ≤ 1) ∧ (0 ≤ x ∧ x < W) ∧ 0 ≤ y ∧ y < H) by omega)])
set_option maxHeartbeats 4000000 in
set_option maxRecDepth 100000 in
theorem c_X8_bound (l : Launch) (D : va_G) (cA : Nat → ClassId) (W : Nat) (H : Nat) (mth : Int) (mbd : Int) (mne : Int) (mnw : Int) (mmn : Int) (mbx : Int) (man : Int) (mrs : Int) (mrl : Int) (mfl : Int) (mpt : Int → Int) (mdf : Int → Int) (mlb : Int → Int) (mbo : Int → Int) (mwn : Int → Int) (mwo : Int → Int) (mxo : Int → Int) (myo : Int → Int) (mor : Int → Int) (mco : Int → Int) (mro : Int → Int) (mpw : Int → Int) (mph : Int → Int) (mrk : Int → Int) (mrb : Int → Int) (mrf : Int → Int) (mfr : Int → Int) (mfm : Int → Int) (med : Int → Int) (map : Int → Int) (mwh : Int → Int) (b : Int) (n : Int) (hb : inR b) (hn : inR n) :
    gC l D cA yX8_bound mX8_bound (some .int) 0 0 [gr 60, gi b, gi n] (moW W H mth mbd mne mnw mmn mbx man mrs mrl mfl mpt mdf mlb mbo mwn mwo mxo myo mor mco mro mpw mph mrk mrb mrf mfr mfm med map mwh) (fun r9 w9 => ∃ (rv : Int) (th : Int) (nw : Int) (bd : Int) (ne : Int), r9 = some (gi rv) ∧ w9 = moW W H th bd ne nw mmn mbx man mrs mrl mfl mpt mdf mlb mbo mwn mwo mxo myo mor mco mro mpw mph mrk mrb mrf mfr mfm med map mwh ∧ ((0 ≤ b ∧ b ≤ 255) ∧ 0 ≤ n ∧ n ≤ 2 → th = 0 ∧ nw = 1 ∧ rv = 10 * mbd + mne ∧ bd = b ∧ ne = n) ∧ (¬ ((0 ≤ b ∧ b ≤ 255) ∧ 0 ≤ n ∧ n ≤ 2) → th = 1 ∧ rv = 0 ∧ nw = mnw ∧ bd = mbd ∧ ne = mne)) := by
  refine gC_of rfl kX8_bound rfl rfl (Nat.le_of_ble_eq_true rfl) (fun X ad hX hE => ?_)
  refine G.go hX 4 (moW W H mth mbd mne mnw mmn mbx man mrs mrl mfl mpt mdf mlb mbo mwn mwo mxo myo mor mco mro mpw mph mrk mrb mrf mfr mfm med map mwh, 6, [(0, gr 60), (1, gi b), (2, gi n)], [gi 255, gi 0, gi b, gr 60]) rfl trivial ?_
  refine G.callS (av := [gi b, gi 0, gi 255]) (st := [gr 60]) hX rfl (fun l D cA => c_X8_in l D cA b 0 255 (by first | assumption | exact ⟨by omega, by omega⟩) ⟨by omega, by omega⟩ ⟨by omega, by omega⟩) (by decide +kernel) aX8_in rfl ⟨rfl, rfl⟩ (by decide) (Nat.le_of_ble_eq_true rfl) [] [0, 1, 2, 3, 4, 5, 6, 7, 8, 9, 10, 11, 12, 13, 14, 15, 16, 17, 18, 19, 20, 21] (moW W H mth mbd mne mnw mmn mbx man mrs mrl mfl mpt mdf mlb mbo mwn mwo mxo myo mor mco mro mpw mph mrk mrb mrf mfr mfm med map mwh) rfl rfl rfl (fun r w' hp => ?_)
  obtain ⟨rfl, rfl⟩ := hp
  show G X mX8_bound ad 0 0 (moW W H mth mbd mne mnw mmn mbx man mrs mrl mfl mpt mdf mlb mbo mwn mwo mxo myo mor mco mro mpw mph mrk mrb mrf mfr mfm med map mwh, 9, [(0, gr 60), (1, gi b), (2, gi n)], [gi (gb (0 ≤ b ∧ b ≤ 255)), gr 60])
  refine g_if_eq hX 25 rfl rfl (gb_r _) (fun b9 => ?_) (fun b9 => ?_)
  ·
    have b9 := gb_0.mp b9
    refine G.go hX 4 (moW W H 1 mbd mne mnw mmn mbx man mrs mrl mfl mpt mdf mlb mbo mwn mwo mxo myo mor mco mro mpw mph mrk mrb mrf mfr mfm med map mwh, 33, [(0, gr 60), (1, gi b), (2, gi n)], [gi 1]) rfl trivial ?_
    refine g_if_le hX 38 rfl rfl ⟨by omega, by omega⟩ (fun b33 => ?_) (fun b33 => ?_)
    ·
      exfalso
      omega
    ·
      refine G.go hX 1 (moW W H 1 mbd mne mnw mmn mbx man mrs mrl mfl mpt mdf mlb mbo mwn mwo mxo myo mor mco mro mpw mph mrk mrb mrf mfr mfm med map mwh, 37, [(0, gr 60), (1, gi b), (2, gi n)], [gi 0]) rfl trivial ?_
      exact g_iret hX hE rfl ⟨0, 1, mnw, mbd, mne, rfl, rfl, fun h9 => by (exfalso; omega), fun _ => ⟨rfl, rfl, rfl, rfl, rfl⟩⟩
  ·
    have b9 := gb_n0 b9
    refine G.go hX 3 (moW W H mth mbd mne mnw mmn mbx man mrs mrl mfl mpt mdf mlb mbo mwn mwo mxo myo mor mco mro mpw mph mrk mrb mrf mfr mfm med map mwh, 15, [(0, gr 60), (1, gi b), (2, gi n)], [gi 2, gi 0, gi n, gr 60]) rfl trivial ?_
    refine G.callS (av := [gi n, gi 0, gi 2]) (st := [gr 60]) hX rfl (fun l D cA => c_X8_in l D cA n 0 2 (by first | assumption | exact ⟨by omega, by omega⟩) ⟨by omega, by omega⟩ ⟨by omega, by omega⟩) (by decide +kernel) aX8_in rfl ⟨rfl, rfl⟩ (by decide) (Nat.le_of_ble_eq_true rfl) [] [0, 1, 2, 3, 4, 5, 6, 7, 8, 9, 10, 11, 12, 13, 14, 15, 16, 17, 18, 19, 20, 21] (moW W H mth mbd mne mnw mmn mbx man mrs mrl mfl mpt mdf mlb mbo mwn mwo mxo myo mor mco mro mpw mph mrk mrb mrf mfr mfm med map mwh) rfl rfl rfl (fun r w' hp => ?_)
    obtain ⟨rfl, rfl⟩ := hp
    show G X mX8_bound ad 0 0 (moW W H mth mbd mne mnw mmn mbx man mrs mrl mfl mpt mdf mlb mbo mwn mwo mxo myo mor mco mro mpw mph mrk mrb mrf mfr mfm med map mwh, 18, [(0, gr 60), (1, gi b), (2, gi n)], [gi (gb (0 ≤ n ∧ n ≤ 2)), gr 60])
    refine g_if_eq hX 25 rfl rfl (gb_r _) (fun b18 => ?_) (fun b18 => ?_)
    ·
      have b18 := gb_0.mp b18
      refine G.go hX 4 (moW W H 1 mbd mne mnw mmn mbx man mrs mrl mfl mpt mdf mlb mbo mwn mwo mxo myo mor mco mro mpw mph mrk mrb mrf mfr mfm med map mwh, 33, [(0, gr 60), (1, gi b), (2, gi n)], [gi 1]) rfl trivial ?_
      refine g_if_le hX 38 rfl rfl ⟨by omega, by omega⟩ (fun b33 => ?_) (fun b33 => ?_)
      ·
        exfalso
        omega
      ·
        refine G.go hX 1 (moW W H 1 mbd mne mnw mmn mbx man mrs mrl mfl mpt mdf mlb mbo mwn mwo mxo myo mor mco mro mpw mph mrk mrb mrf mfr mfm med map mwh, 37, [(0, gr 60), (1, gi b), (2, gi n)], [gi 0]) rfl trivial ?_
        exact g_iret hX hE rfl ⟨0, 1, mnw, mbd, mne, rfl, rfl, fun h9 => by (exfalso; omega), fun _ => ⟨rfl, rfl, rfl, rfl, rfl⟩⟩
    ·
      have b18 := gb_n0 b18
      refine G.go hX 5 (moW W H 0 mbd mne mnw mmn mbx man mrs mrl mfl mpt mdf mlb mbo mwn mwo mxo myo mor mco mro mpw mph mrk mrb mrf mfr mfm med map mwh, 33, [(0, gr 60), (1, gi b), (2, gi n)], [gi 0]) rfl trivial ?_
      refine g_if_le hX 38 rfl rfl ⟨by omega, by omega⟩ (fun b33 => ?_) (fun b33 => ?_)
      ·
        refine G.go hX 18 (moW W H 0 b n 1 mmn mbx man mrs mrl mfl mpt mdf mlb mbo mwn mwo mxo myo mor mco mro mpw mph mrk mrb mrf mfr mfm med map mwh, 67, [(0, gr 60), (1, gi b), (2, gi n), (3, gi ((10 * mbd) + mne))], [gi ((10 * mbd) + mne)]) rfl ?_ ?_
        · refine ⟨?_, trivial⟩
          · omega
        exact g_iret hX hE rfl ⟨_, 0, 1, b, n, rfl, rfl, fun _ => ⟨rfl, rfl, rfl, rfl, rfl⟩, fun h9 => by (exfalso; omega)⟩
      ·
        exfalso
        omega
set_option maxHeartbeats 4000000 in
set_option maxRecDepth 100000 in
theorem c_X8_size (l : Launch) (D : va_G) (cA : Nat → ClassId) (W : Nat) (H : Nat) (mth : Int) (mbd : Int) (mne : Int) (mnw : Int) (mmn : Int) (mbx : Int) (man : Int) (mrs : Int) (mrl : Int) (mfl : Int) (mpt : Int → Int) (mdf : Int → Int) (mlb : Int → Int) (mbo : Int → Int) (mwn : Int → Int) (mwo : Int → Int) (mxo : Int → Int) (myo : Int → Int) (mor : Int → Int) (mco : Int → Int) (mro : Int → Int) (mpw : Int → Int) (mph : Int → Int) (mrk : Int → Int) (mrb : Int → Int) (mrf : Int → Int) (mfr : Int → Int) (mfm : Int → Int) (med : Int → Int) (map : Int → Int) (mwh : Int → Int) (s : Int) (p : Int) (w : Int) (h : Int) (hs : inR s) (hp : inR p) (hw : inR w) (hh : inR h) (hpw : ∀ q : Int, inR (mpw q) ∧ inR (mph q)) :
    gC l D cA yX8_size mX8_size (some .int) 0 0 [gr 60, gi s, gi p, gi w, gi h] (moW W H mth mbd mne mnw mmn mbx man mrs mrl mfl mpt mdf mlb mbo mwn mwo mxo myo mor mco mro mpw mph mrk mrb mrf mfr mfm med map mwh) (fun r9 w9 => ∃ (rv : Int) (th : Int) (pw : Int → Int) (ph : Int → Int), r9 = some (gi rv) ∧ w9 = moW W H th mbd mne mnw mmn mbx man mrs mrl mfl mpt mdf mlb mbo mwn mwo mxo myo mor mco mro pw ph mrk mrb mrf mfr mfm med map mwh ∧ (¬ ((0 ≤ s ∧ s ≤ 1) ∧ 0 ≤ p ∧ p ≤ 19) → th = 1 ∧ pw = mpw ∧ ph = mph ∧ rv = 0) ∧ ((0 ≤ s ∧ s ≤ 1) ∧ 0 ≤ p ∧ p ≤ 19 → ¬ (1 ≤ w ∧ 1 ≤ h) → th = 2 ∧ pw = mpw ∧ ph = mph ∧ rv = 0) ∧ ((0 ≤ s ∧ s ≤ 1) ∧ 0 ≤ p ∧ p ≤ 19 → 1 ≤ w ∧ 1 ≤ h → th = 0 ∧ pw = gu mpw (20 * s + p) w ∧ ph = gu mph (20 * s + p) h ∧ rv = gb (mpw (20 - 20 * s + p) = 0 ∨ (mpw (20 - 20 * s + p) = w ∧ mph (20 - 20 * s + p) = h)))) := by
  refine gC_of rfl kX8_size rfl rfl (Nat.le_of_ble_eq_true rfl) (fun X ad hX hE => ?_)
  refine G.go hX 4 (moW W H mth mbd mne mnw mmn mbx man mrs mrl mfl mpt mdf mlb mbo mwn mwo mxo myo mor mco mro mpw mph mrk mrb mrf mfr mfm med map mwh, 4, [(0, gr 60), (1, gi s), (2, gi p), (3, gi w), (4, gi h)], [gi 1, gi 0, gi s, gr 60]) rfl trivial ?_
  refine G.callS (av := [gi s, gi 0, gi 1]) (st := [gr 60]) hX rfl (fun l D cA => c_X8_in l D cA s 0 1 (by first | assumption | exact ⟨by omega, by omega⟩) ⟨by omega, by omega⟩ ⟨by omega, by omega⟩) (by decide +kernel) aX8_in rfl ⟨rfl, rfl⟩ (by decide) (Nat.le_of_ble_eq_true rfl) [] [0, 1, 2, 3, 4, 5, 6, 7, 8, 9, 10, 11, 12, 13, 14, 15, 16, 17, 18, 19, 20, 21] (moW W H mth mbd mne mnw mmn mbx man mrs mrl mfl mpt mdf mlb mbo mwn mwo mxo myo mor mco mro mpw mph mrk mrb mrf mfr mfm med map mwh) rfl rfl rfl (fun r w' hp => ?_)
  obtain ⟨rfl, rfl⟩ := hp
  show G X mX8_size ad 0 0 (moW W H mth mbd mne mnw mmn mbx man mrs mrl mfl mpt mdf mlb mbo mwn mwo mxo myo mor mco mro mpw mph mrk mrb mrf mfr mfm med map mwh, 7, [(0, gr 60), (1, gi s), (2, gi p), (3, gi w), (4, gi h)], [gi (gb (0 ≤ s ∧ s ≤ 1)), gr 60])
  refine g_if_eq hX 20 rfl rfl (gb_r _) (fun b7 => ?_) (fun b7 => ?_)
  ·
    have b7 := gb_0.mp b7
    refine G.go hX 5 (moW W H 1 mbd mne mnw mmn mbx man mrs mrl mfl mpt mdf mlb mbo mwn mwo mxo myo mor mco mro mpw mph mrk mrb mrf mfr mfm med map mwh, 47, [(0, gr 60), (1, gi s), (2, gi p), (3, gi w), (4, gi h)], [gi 1]) rfl trivial ?_
    refine g_if_le hX 52 rfl rfl ⟨by omega, by omega⟩ (fun b47 => ?_) (fun b47 => ?_)
    ·
      exfalso
      omega
    ·
      refine G.go hX 1 (moW W H 1 mbd mne mnw mmn mbx man mrs mrl mfl mpt mdf mlb mbo mwn mwo mxo myo mor mco mro mpw mph mrk mrb mrf mfr mfm med map mwh, 51, [(0, gr 60), (1, gi s), (2, gi p), (3, gi w), (4, gi h)], [gi 0]) rfl trivial ?_
      exact g_iret hX hE rfl ⟨0, 1, mpw, mph, rfl, rfl, fun _ => ⟨rfl, rfl, rfl, rfl⟩, fun h9 => by (exfalso; omega), fun h9 => by (exfalso; omega)⟩
  ·
    have b7 := gb_n0 b7
    refine G.go hX 3 (moW W H mth mbd mne mnw mmn mbx man mrs mrl mfl mpt mdf mlb mbo mwn mwo mxo myo mor mco mro mpw mph mrk mrb mrf mfr mfm med map mwh, 14, [(0, gr 60), (1, gi s), (2, gi p), (3, gi w), (4, gi h)], [gi 19, gi 0, gi p, gr 60]) rfl trivial ?_
    refine G.callS (av := [gi p, gi 0, gi 19]) (st := [gr 60]) hX rfl (fun l D cA => c_X8_in l D cA p 0 19 (by first | assumption | exact ⟨by omega, by omega⟩) ⟨by omega, by omega⟩ ⟨by omega, by omega⟩) (by decide +kernel) aX8_in rfl ⟨rfl, rfl⟩ (by decide) (Nat.le_of_ble_eq_true rfl) [] [0, 1, 2, 3, 4, 5, 6, 7, 8, 9, 10, 11, 12, 13, 14, 15, 16, 17, 18, 19, 20, 21] (moW W H mth mbd mne mnw mmn mbx man mrs mrl mfl mpt mdf mlb mbo mwn mwo mxo myo mor mco mro mpw mph mrk mrb mrf mfr mfm med map mwh) rfl rfl rfl (fun r w' hp => ?_)
    obtain ⟨rfl, rfl⟩ := hp
    show G X mX8_size ad 0 0 (moW W H mth mbd mne mnw mmn mbx man mrs mrl mfl mpt mdf mlb mbo mwn mwo mxo myo mor mco mro mpw mph mrk mrb mrf mfr mfm med map mwh, 17, [(0, gr 60), (1, gi s), (2, gi p), (3, gi w), (4, gi h)], [gi (gb (0 ≤ p ∧ p ≤ 19)), gr 60])
    refine g_if_ne hX 24 rfl rfl (gb_r _) (fun b17 => ?_) (fun b17 => ?_)
    ·
      have b17 := gb_n0 b17
      refine G.go hX 2 (moW W H mth mbd mne mnw mmn mbx man mrs mrl mfl mpt mdf mlb mbo mwn mwo mxo myo mor mco mro mpw mph mrk mrb mrf mfr mfm med map mwh, 26, [(0, gr 60), (1, gi s), (2, gi p), (3, gi w), (4, gi h)], [gi 1, gi w, gr 60]) rfl trivial ?_
      refine g_icmp_lt hX 35 rfl rfl (by first | assumption | exact ⟨by omega, by omega⟩) (by first | assumption | exact ⟨by omega, by omega⟩) (fun b26 => ?_) (fun b26 => ?_)
      ·
        refine G.go hX 5 (moW W H 2 mbd mne mnw mmn mbx man mrs mrl mfl mpt mdf mlb mbo mwn mwo mxo myo mor mco mro mpw mph mrk mrb mrf mfr mfm med map mwh, 47, [(0, gr 60), (1, gi s), (2, gi p), (3, gi w), (4, gi h)], [gi 2]) rfl trivial ?_
        refine g_if_le hX 52 rfl rfl ⟨by omega, by omega⟩ (fun b47 => ?_) (fun b47 => ?_)
        ·
          exfalso
          omega
        ·
          refine G.go hX 1 (moW W H 2 mbd mne mnw mmn mbx man mrs mrl mfl mpt mdf mlb mbo mwn mwo mxo myo mor mco mro mpw mph mrk mrb mrf mfr mfm med map mwh, 51, [(0, gr 60), (1, gi s), (2, gi p), (3, gi w), (4, gi h)], [gi 0]) rfl trivial ?_
          exact g_iret hX hE rfl ⟨0, 2, mpw, mph, rfl, rfl, fun h9 => by (exfalso; omega), fun _ _ => ⟨rfl, rfl, rfl, rfl⟩, fun _ h9 => by (exfalso; omega)⟩
      ·
        refine G.go hX 2 (moW W H mth mbd mne mnw mmn mbx man mrs mrl mfl mpt mdf mlb mbo mwn mwo mxo myo mor mco mro mpw mph mrk mrb mrf mfr mfm med map mwh, 32, [(0, gr 60), (1, gi s), (2, gi p), (3, gi w), (4, gi h)], [gi 1, gi h, gr 60]) rfl trivial ?_
        refine g_icmp_ge hX 39 rfl rfl (by first | assumption | exact ⟨by omega, by omega⟩) (by first | assumption | exact ⟨by omega, by omega⟩) (fun b32 => ?_) (fun b32 => ?_)
        ·
          refine G.go hX 4 (moW W H 0 mbd mne mnw mmn mbx man mrs mrl mfl mpt mdf mlb mbo mwn mwo mxo myo mor mco mro mpw mph mrk mrb mrf mfr mfm med map mwh, 47, [(0, gr 60), (1, gi s), (2, gi p), (3, gi w), (4, gi h)], [gi 0]) rfl trivial ?_
          refine g_if_le hX 52 rfl rfl ⟨by omega, by omega⟩ (fun b47 => ?_) (fun b47 => ?_)
          ·
            refine G.go hX 18 (moW W H 0 mbd mne mnw mmn mbx man mrs mrl mfl mpt mdf mlb mbo mwn mwo mxo myo mor mco mro (gu mpw ((20 * s) + p) w) (gu mph ((20 * s) + p) h) mrk mrb mrf mfr mfm med map mwh, 77, [(0, gr 60), (1, gi s), (2, gi p), (3, gi w), (4, gi h)], []) rfl ?_ ?_
            · refine ⟨?_, ?_, trivial⟩
              · omega
              · omega
            have e1 : gu mpw (20 * s + p) w (20 - 20 * s + p) = mpw (20 - 20 * s + p) := gu_n _ _ (by omega)
            have e2 : gu mph (20 * s + p) h (20 - 20 * s + p) = mph (20 - 20 * s + p) := gu_n _ _ (by omega)
            have hp9 := hpw (20 - 20 * s + p)
            refine G.go hX 12 (moW W H 0 mbd mne mnw mmn mbx man mrs mrl mfl mpt mdf mlb mbo mwn mwo mxo myo mor mco mro (gu mpw ((20 * s) + p) w) (gu mph ((20 * s) + p) h) mrk mrb mrf mfr mfm med map mwh, 95, [(0, gr 60), (1, gi s), (2, gi p), (3, gi w), (4, gi h), (5, gi ((20 - (20 * s)) + p))], [gi ((gu mpw ((20 * s) + p) w) ((20 - (20 * s)) + p))]) rfl ?_ ?_
            · refine ⟨?_, trivial⟩
              · omega
            refine g_if_eq hX 121 rfl rfl (by rw [e1]; exact hp9.1) (fun b95 => ?_) (fun b95 => ?_)
            ·
              refine G.go hX 2 (moW W H 0 mbd mne mnw mmn mbx man mrs mrl mfl mpt mdf mlb mbo mwn mwo mxo myo mor mco mro (gu mpw ((20 * s) + p) w) (gu mph ((20 * s) + p) h) mrk mrb mrf mfr mfm med map mwh, 126, [(0, gr 60), (1, gi s), (2, gi p), (3, gi w), (4, gi h), (5, gi ((20 - (20 * s)) + p))], [gi 1]) rfl trivial ?_
              exact g_iret hX hE rfl ⟨1, 0, _, _, rfl, rfl, fun h9 => by (exfalso; omega), fun _ h9 => by (exfalso; omega), fun _ _ => ⟨rfl, rfl, rfl, by first | (rw [gb_t (by omega)]) | (rw [gb_f (by omega)])⟩⟩
            ·
              refine G.go hX 5 (moW W H 0 mbd mne mnw mmn mbx man mrs mrl mfl mpt mdf mlb mbo mwn mwo mxo myo mor mco mro (gu mpw ((20 * s) + p) w) (gu mph ((20 * s) + p) h) mrk mrb mrf mfr mfm med map mwh, 106, [(0, gr 60), (1, gi s), (2, gi p), (3, gi w), (4, gi h), (5, gi ((20 - (20 * s)) + p))], [gi w, gi ((gu mpw ((20 * s) + p) w) ((20 - (20 * s)) + p))]) rfl ?_ ?_
              · refine ⟨?_, trivial⟩
                · omega
              refine g_icmp_ne hX 125 rfl rfl (by first | (rw [e1]; exact hp9.1) | assumption) (by first | (rw [e1]; exact hp9.1) | assumption) (fun b106 => ?_) (fun b106 => ?_)
              ·
                refine G.go hX 1 (moW W H 0 mbd mne mnw mmn mbx man mrs mrl mfl mpt mdf mlb mbo mwn mwo mxo myo mor mco mro (gu mpw ((20 * s) + p) w) (gu mph ((20 * s) + p) h) mrk mrb mrf mfr mfm med map mwh, 126, [(0, gr 60), (1, gi s), (2, gi p), (3, gi w), (4, gi h), (5, gi ((20 - (20 * s)) + p))], [gi 0]) rfl trivial ?_
                exact g_iret hX hE rfl ⟨0, 0, _, _, rfl, rfl, fun h9 => by (exfalso; omega), fun _ h9 => by (exfalso; omega), fun _ _ => ⟨rfl, rfl, rfl, by first | (rw [gb_t (by omega)]) | (rw [gb_f (by omega)])⟩⟩
              ·
                refine G.go hX 5 (moW W H 0 mbd mne mnw mmn mbx man mrs mrl mfl mpt mdf mlb mbo mwn mwo mxo myo mor mco mro (gu mpw ((20 * s) + p) w) (gu mph ((20 * s) + p) h) mrk mrb mrf mfr mfm med map mwh, 118, [(0, gr 60), (1, gi s), (2, gi p), (3, gi w), (4, gi h), (5, gi ((20 - (20 * s)) + p))], [gi h, gi ((gu mph ((20 * s) + p) h) ((20 - (20 * s)) + p))]) rfl ?_ ?_
                · refine ⟨?_, trivial⟩
                  · omega
                refine g_icmp_ne hX 125 rfl rfl (by first | (rw [e2]; exact hp9.2) | assumption) (by first | (rw [e2]; exact hp9.2) | assumption) (fun b118 => ?_) (fun b118 => ?_)
                ·
                  refine G.go hX 1 (moW W H 0 mbd mne mnw mmn mbx man mrs mrl mfl mpt mdf mlb mbo mwn mwo mxo myo mor mco mro (gu mpw ((20 * s) + p) w) (gu mph ((20 * s) + p) h) mrk mrb mrf mfr mfm med map mwh, 126, [(0, gr 60), (1, gi s), (2, gi p), (3, gi w), (4, gi h), (5, gi ((20 - (20 * s)) + p))], [gi 0]) rfl trivial ?_
                  exact g_iret hX hE rfl ⟨0, 0, _, _, rfl, rfl, fun h9 => by (exfalso; omega), fun _ h9 => by (exfalso; omega), fun _ _ => ⟨rfl, rfl, rfl, by first | (rw [gb_t (by omega)]) | (rw [gb_f (by omega)])⟩⟩
                ·
                  refine G.go hX 2 (moW W H 0 mbd mne mnw mmn mbx man mrs mrl mfl mpt mdf mlb mbo mwn mwo mxo myo mor mco mro (gu mpw ((20 * s) + p) w) (gu mph ((20 * s) + p) h) mrk mrb mrf mfr mfm med map mwh, 126, [(0, gr 60), (1, gi s), (2, gi p), (3, gi w), (4, gi h), (5, gi ((20 - (20 * s)) + p))], [gi 1]) rfl trivial ?_
                  exact g_iret hX hE rfl ⟨1, 0, _, _, rfl, rfl, fun h9 => by (exfalso; omega), fun _ h9 => by (exfalso; omega), fun _ _ => ⟨rfl, rfl, rfl, by first | (rw [gb_t (by omega)]) | (rw [gb_f (by omega)])⟩⟩
          ·
            exfalso
            omega
        ·
          refine G.go hX 5 (moW W H 2 mbd mne mnw mmn mbx man mrs mrl mfl mpt mdf mlb mbo mwn mwo mxo myo mor mco mro mpw mph mrk mrb mrf mfr mfm med map mwh, 47, [(0, gr 60), (1, gi s), (2, gi p), (3, gi w), (4, gi h)], [gi 2]) rfl trivial ?_
          refine g_if_le hX 52 rfl rfl ⟨by omega, by omega⟩ (fun b47 => ?_) (fun b47 => ?_)
          ·
            exfalso
            omega
          ·
            refine G.go hX 1 (moW W H 2 mbd mne mnw mmn mbx man mrs mrl mfl mpt mdf mlb mbo mwn mwo mxo myo mor mco mro mpw mph mrk mrb mrf mfr mfm med map mwh, 51, [(0, gr 60), (1, gi s), (2, gi p), (3, gi w), (4, gi h)], [gi 0]) rfl trivial ?_
            exact g_iret hX hE rfl ⟨0, 2, mpw, mph, rfl, rfl, fun h9 => by (exfalso; omega), fun _ _ => ⟨rfl, rfl, rfl, rfl⟩, fun _ h9 => by (exfalso; omega)⟩
    ·
      have b17 := gb_nn b17
      refine G.go hX 5 (moW W H 1 mbd mne mnw mmn mbx man mrs mrl mfl mpt mdf mlb mbo mwn mwo mxo myo mor mco mro mpw mph mrk mrb mrf mfr mfm med map mwh, 47, [(0, gr 60), (1, gi s), (2, gi p), (3, gi w), (4, gi h)], [gi 1]) rfl trivial ?_
      refine g_if_le hX 52 rfl rfl ⟨by omega, by omega⟩ (fun b47 => ?_) (fun b47 => ?_)
      ·
        exfalso
        omega
      ·
        refine G.go hX 1 (moW W H 1 mbd mne mnw mmn mbx man mrs mrl mfl mpt mdf mlb mbo mwn mwo mxo myo mor mco mro mpw mph mrk mrb mrf mfr mfm med map mwh, 51, [(0, gr 60), (1, gi s), (2, gi p), (3, gi w), (4, gi h)], [gi 0]) rfl trivial ?_
        exact g_iret hX hE rfl ⟨0, 1, mpw, mph, rfl, rfl, fun _ => ⟨rfl, rfl, rfl, rfl⟩, fun h9 => by (exfalso; omega), fun h9 => by (exfalso; omega)⟩
set_option maxHeartbeats 4000000 in
set_option maxRecDepth 100000 in
theorem c_X8_rule (l : Launch) (D : va_G) (cA : Nat → ClassId) (W : Nat) (H : Nat) (mth : Int) (mbd : Int) (mne : Int) (mnw : Int) (mmn : Int) (mbx : Int) (man : Int) (mrs : Int) (mrl : Int) (mfl : Int) (mpt : Int → Int) (mdf : Int → Int) (mlb : Int → Int) (mbo : Int → Int) (mwn : Int → Int) (mwo : Int → Int) (mxo : Int → Int) (myo : Int → Int) (mor : Int → Int) (mco : Int → Int) (mro : Int → Int) (mpw : Int → Int) (mph : Int → Int) (mrk : Int → Int) (mrb : Int → Int) (mrf : Int → Int) (mfr : Int → Int) (mfm : Int → Int) (med : Int → Int) (map : Int → Int) (mwh : Int → Int) (k : Int) (a : Int) (f : Int) (hk : inR k) (ha : inR a) (hf : f = 0 ∨ f = 1) (hrl : 0 ≤ mrl ∧ mrl ≤ 12) :
    gC l D cA yX8_rule mX8_rule (some .int) 0 0 [gr 60, gi k, gi a, gi f] (moW W H mth mbd mne mnw mmn mbx man mrs mrl mfl mpt mdf mlb mbo mwn mwo mxo myo mor mco mro mpw mph mrk mrb mrf mfr mfm med map mwh) (fun r9 w9 => ∃ (rv : Int) (th : Int) (rl : Int) (rk : Int → Int) (rb : Int → Int) (rf : Int → Int), r9 = some (gi rv) ∧ w9 = moW W H th mbd mne mnw mmn mbx man mrs rl mfl mpt mdf mlb mbo mwn mwo mxo myo mor mco mro mpw mph rk rb rf mfr mfm med map mwh ∧ (¬ ((0 ≤ k ∧ k ≤ 5) ∧ 0 ≤ a) → th = 1 ∧ rv = 0 ∧ rl = mrl ∧ rk = mrk ∧ rb = mrb ∧ rf = mrf) ∧ ((0 ≤ k ∧ k ≤ 5) ∧ 0 ≤ a → mrl = 12 → th = 2 ∧ rv = 0 ∧ rl = mrl ∧ rk = mrk ∧ rb = mrb ∧ rf = mrf) ∧ ((0 ≤ k ∧ k ≤ 5) ∧ 0 ≤ a → mrl < 12 → th = 0 ∧ rv = mrl ∧ rl = mrl + 1 ∧ rk = gu mrk mrl k ∧ rb = gu mrb mrl a ∧ rf = gu mrf mrl f)) := by
  refine gC_of rfl kX8_rule rfl rfl (Nat.le_of_ble_eq_true rfl) (fun X ad hX hE => ?_)
  refine G.go hX 4 (moW W H mth mbd mne mnw mmn mbx man mrs mrl mfl mpt mdf mlb mbo mwn mwo mxo myo mor mco mro mpw mph mrk mrb mrf mfr mfm med map mwh, 4, [(0, gr 60), (1, gi k), (2, gi a), (3, gi f)], [gi 5, gi 0, gi k, gr 60]) rfl trivial ?_
  refine G.callS (av := [gi k, gi 0, gi 5]) (st := [gr 60]) hX rfl (fun l D cA => c_X8_in l D cA k 0 5 (by first | assumption | exact ⟨by omega, by omega⟩) ⟨by omega, by omega⟩ ⟨by omega, by omega⟩) (by decide +kernel) aX8_in rfl ⟨rfl, rfl⟩ (by decide) (Nat.le_of_ble_eq_true rfl) [] [0, 1, 2, 3, 4, 5, 6, 7, 8, 9, 10, 11, 12, 13, 14, 15, 16, 17, 18, 19, 20, 21] (moW W H mth mbd mne mnw mmn mbx man mrs mrl mfl mpt mdf mlb mbo mwn mwo mxo myo mor mco mro mpw mph mrk mrb mrf mfr mfm med map mwh) rfl rfl rfl (fun r w' hp => ?_)
  obtain ⟨rfl, rfl⟩ := hp
  show G X mX8_rule ad 0 0 (moW W H mth mbd mne mnw mmn mbx man mrs mrl mfl mpt mdf mlb mbo mwn mwo mxo myo mor mco mro mpw mph mrk mrb mrf mfr mfm med map mwh, 7, [(0, gr 60), (1, gi k), (2, gi a), (3, gi f)], [gi (gb (0 ≤ k ∧ k ≤ 5)), gr 60])
  refine g_if_eq hX 14 rfl rfl (gb_r _) (fun b7 => ?_) (fun b7 => ?_)
  ·
    have b7 := gb_0.mp b7
    refine G.go hX 5 (moW W H 1 mbd mne mnw mmn mbx man mrs mrl mfl mpt mdf mlb mbo mwn mwo mxo myo mor mco mro mpw mph mrk mrb mrf mfr mfm med map mwh, 39, [(0, gr 60), (1, gi k), (2, gi a), (3, gi f)], [gi 1]) rfl trivial ?_
    refine g_if_le hX 44 rfl rfl ⟨by omega, by omega⟩ (fun b39 => ?_) (fun b39 => ?_)
    ·
      exfalso
      omega
    ·
      refine G.go hX 1 (moW W H 1 mbd mne mnw mmn mbx man mrs mrl mfl mpt mdf mlb mbo mwn mwo mxo myo mor mco mro mpw mph mrk mrb mrf mfr mfm med map mwh, 43, [(0, gr 60), (1, gi k), (2, gi a), (3, gi f)], [gi 0]) rfl trivial ?_
      exact g_iret hX hE rfl ⟨0, 1, mrl, mrk, mrb, mrf, rfl, rfl, fun _ => ⟨rfl, rfl, rfl, rfl, rfl, rfl⟩, fun h9 => by (exfalso; omega), fun h9 => by (exfalso; omega)⟩
  ·
    have b7 := gb_n0 b7
    refine G.go hX 1 (moW W H mth mbd mne mnw mmn mbx man mrs mrl mfl mpt mdf mlb mbo mwn mwo mxo myo mor mco mro mpw mph mrk mrb mrf mfr mfm med map mwh, 11, [(0, gr 60), (1, gi k), (2, gi a), (3, gi f)], [gi a, gr 60]) rfl trivial ?_
    refine g_if_ge hX 18 rfl rfl ha (fun b11 => ?_) (fun b11 => ?_)
    ·
      refine G.go hX 3 (moW W H mth mbd mne mnw mmn mbx man mrs mrl mfl mpt mdf mlb mbo mwn mwo mxo myo mor mco mro mpw mph mrk mrb mrf mfr mfm med map mwh, 24, [(0, gr 60), (1, gi k), (2, gi a), (3, gi f)], [gi 12, gi mrl, gr 60]) rfl trivial ?_
      refine g_icmp_ne hX 31 rfl rfl ⟨by omega, by omega⟩ ⟨by omega, by omega⟩ (fun b24 => ?_) (fun b24 => ?_)
      ·
        refine G.go hX 4 (moW W H 0 mbd mne mnw mmn mbx man mrs mrl mfl mpt mdf mlb mbo mwn mwo mxo myo mor mco mro mpw mph mrk mrb mrf mfr mfm med map mwh, 39, [(0, gr 60), (1, gi k), (2, gi a), (3, gi f)], [gi 0]) rfl trivial ?_
        refine g_if_le hX 44 rfl rfl ⟨by omega, by omega⟩ (fun b39 => ?_) (fun b39 => ?_)
        ·
          refine G.go hX 28 (moW W H 0 mbd mne mnw mmn mbx man mrs (mrl + 1) mfl mpt mdf mlb mbo mwn mwo mxo myo mor mco mro mpw mph (gu mrk mrl k) (gu mrb mrl a) (gu mrf mrl f) mfr mfm med map mwh, 90, [(0, gr 60), (1, gi k), (2, gi a), (3, gi f)], [gi ((mrl + 1) - 1)]) rfl ?_ ?_
          · refine ⟨?_, ?_, ?_, trivial⟩
            · omega
            · omega
            · omega
          exact g_iret hX hE rfl ⟨mrl, 0, mrl + 1, _, _, _, congrArg (fun z => some (gi z)) (by omega), rfl, fun h9 => by (exfalso; omega), fun _ h9 => by (exfalso; omega), fun _ _ => ⟨rfl, rfl, rfl, rfl, rfl, rfl⟩⟩
        ·
          exfalso
          omega
      ·
        refine G.go hX 5 (moW W H 2 mbd mne mnw mmn mbx man mrs mrl mfl mpt mdf mlb mbo mwn mwo mxo myo mor mco mro mpw mph mrk mrb mrf mfr mfm med map mwh, 39, [(0, gr 60), (1, gi k), (2, gi a), (3, gi f)], [gi 2]) rfl trivial ?_
        refine g_if_le hX 44 rfl rfl ⟨by omega, by omega⟩ (fun b39 => ?_) (fun b39 => ?_)
        ·
          exfalso
          omega
        ·
          refine G.go hX 1 (moW W H 2 mbd mne mnw mmn mbx man mrs mrl mfl mpt mdf mlb mbo mwn mwo mxo myo mor mco mro mpw mph mrk mrb mrf mfr mfm med map mwh, 43, [(0, gr 60), (1, gi k), (2, gi a), (3, gi f)], [gi 0]) rfl trivial ?_
          exact g_iret hX hE rfl ⟨0, 2, mrl, mrk, mrb, mrf, rfl, rfl, fun h9 => by (exfalso; omega), fun _ _ => ⟨rfl, rfl, rfl, rfl, rfl, rfl⟩, fun _ h9 => by (exfalso; omega)⟩
    ·
      refine G.go hX 5 (moW W H 1 mbd mne mnw mmn mbx man mrs mrl mfl mpt mdf mlb mbo mwn mwo mxo myo mor mco mro mpw mph mrk mrb mrf mfr mfm med map mwh, 39, [(0, gr 60), (1, gi k), (2, gi a), (3, gi f)], [gi 1]) rfl trivial ?_
      refine g_if_le hX 44 rfl rfl ⟨by omega, by omega⟩ (fun b39 => ?_) (fun b39 => ?_)
      ·
        exfalso
        omega
      ·
        refine G.go hX 1 (moW W H 1 mbd mne mnw mmn mbx man mrs mrl mfl mpt mdf mlb mbo mwn mwo mxo myo mor mco mro mpw mph mrk mrb mrf mfr mfm med map mwh, 43, [(0, gr 60), (1, gi k), (2, gi a), (3, gi f)], [gi 0]) rfl trivial ?_
        exact g_iret hX hE rfl ⟨0, 1, mrl, mrk, mrb, mrf, rfl, rfl, fun _ => ⟨rfl, rfl, rfl, rfl, rfl, rfl⟩, fun h9 => by (exfalso; omega), fun h9 => by (exfalso; omega)⟩
set_option maxHeartbeats 4000000 in
set_option maxRecDepth 100000 in
theorem c_X8_approved (l : Launch) (D : va_G) (cA : Nat → ClassId) (W : Nat) (H : Nat) (mth : Int) (mbd : Int) (mne : Int) (mnw : Int) (mmn : Int) (mbx : Int) (man : Int) (mrs : Int) (mrl : Int) (mfl : Int) (mpt : Int → Int) (mdf : Int → Int) (mlb : Int → Int) (mbo : Int → Int) (mwn : Int → Int) (mwo : Int → Int) (mxo : Int → Int) (myo : Int → Int) (mor : Int → Int) (mco : Int → Int) (mro : Int → Int) (mpw : Int → Int) (mph : Int → Int) (mrk : Int → Int) (mrb : Int → Int) (mrf : Int → Int) (mfr : Int → Int) (mfm : Int → Int) (med : Int → Int) (map : Int → Int) (mwh : Int → Int) (p : Int) (hp : inR p) (hap : ∀ q : Int, inR (map q)) :
    gC l D cA yX8_approved mX8_approved (some .boolean) 0 0 [gr 60, gi p] (moW W H mth mbd mne mnw mmn mbx man mrs mrl mfl mpt mdf mlb mbo mwn mwo mxo myo mor mco mro mpw mph mrk mrb mrf mfr mfm med map mwh) (fun r9 w9 => ∃ (rv : Int) (th : Int), r9 = some (gi rv) ∧ w9 = moW W H th mbd mne mnw mmn mbx man mrs mrl mfl mpt mdf mlb mbo mwn mwo mxo myo mor mco mro mpw mph mrk mrb mrf mfr mfm med map mwh ∧ (¬ (0 ≤ p ∧ p ≤ 19) → th = 1 ∧ rv = 0) ∧ ((0 ≤ p ∧ p ≤ 19) → th = 0 ∧ rv = gb (2 ≤ map p))) := by
  refine gC_of rfl kX8_approved rfl rfl (Nat.le_of_ble_eq_true rfl) (fun X ad hX hE => ?_)
  refine G.go hX 4 (moW W H mth mbd mne mnw mmn mbx man mrs mrl mfl mpt mdf mlb mbo mwn mwo mxo myo mor mco mro mpw mph mrk mrb mrf mfr mfm med map mwh, 5, [(0, gr 60), (1, gi p)], [gi 19, gi 0, gi p, gr 60]) rfl trivial ?_
  refine G.callS (av := [gi p, gi 0, gi 19]) (st := [gr 60]) hX rfl (fun l D cA => c_X8_in l D cA p 0 19 (by first | assumption | exact ⟨by omega, by omega⟩) ⟨by omega, by omega⟩ ⟨by omega, by omega⟩) (by decide +kernel) aX8_in rfl ⟨rfl, rfl⟩ (by decide) (Nat.le_of_ble_eq_true rfl) [] [0, 1, 2, 3, 4, 5, 6, 7, 8, 9, 10, 11, 12, 13, 14, 15, 16, 17, 18, 19, 20, 21] (moW W H mth mbd mne mnw mmn mbx man mrs mrl mfl mpt mdf mlb mbo mwn mwo mxo myo mor mco mro mpw mph mrk mrb mrf mfr mfm med map mwh) rfl rfl rfl (fun r w' hp => ?_)
  obtain ⟨rfl, rfl⟩ := hp
  show G X mX8_approved ad 0 0 (moW W H mth mbd mne mnw mmn mbx man mrs mrl mfl mpt mdf mlb mbo mwn mwo mxo myo mor mco mro mpw mph mrk mrb mrf mfr mfm med map mwh, 8, [(0, gr 60), (1, gi p)], [gi (gb (0 ≤ p ∧ p ≤ 19)), gr 60])
  refine g_if_eq hX 15 rfl rfl (gb_r _) (fun b8 => ?_) (fun b8 => ?_)
  ·
    have b8 := gb_0.mp b8
    refine G.go hX 4 (moW W H 1 mbd mne mnw mmn mbx man mrs mrl mfl mpt mdf mlb mbo mwn mwo mxo myo mor mco mro mpw mph mrk mrb mrf mfr mfm med map mwh, 23, [(0, gr 60), (1, gi p)], [gi 1]) rfl trivial ?_
    refine g_if_ne hX 40 rfl rfl ⟨by omega, by omega⟩ (fun b23 => ?_) (fun b23 => ?_)
    ·
      refine G.go hX 1 (moW W H 1 mbd mne mnw mmn mbx man mrs mrl mfl mpt mdf mlb mbo mwn mwo mxo myo mor mco mro mpw mph mrk mrb mrf mfr mfm med map mwh, 41, [(0, gr 60), (1, gi p)], [gi 0]) rfl trivial ?_
      exact g_zret hX hE rfl (Or.inl rfl) ⟨0, 1, rfl, rfl, fun _ => ⟨rfl, rfl⟩, fun h9 => by (exfalso; omega)⟩
    ·
      exfalso
      omega
  ·
    have b8 := gb_n0 b8
    refine G.go hX 5 (moW W H 0 mbd mne mnw mmn mbx man mrs mrl mfl mpt mdf mlb mbo mwn mwo mxo myo mor mco mro mpw mph mrk mrb mrf mfr mfm med map mwh, 23, [(0, gr 60), (1, gi p)], [gi 0]) rfl trivial ?_
    refine g_if_ne hX 40 rfl rfl ⟨by omega, by omega⟩ (fun b23 => ?_) (fun b23 => ?_)
    ·
      exfalso
      omega
    ·
      refine G.go hX 5 (moW W H 0 mbd mne mnw mmn mbx man mrs mrl mfl mpt mdf mlb mbo mwn mwo mxo myo mor mco mro mpw mph mrk mrb mrf mfr mfm med map mwh, 33, [(0, gr 60), (1, gi p)], [gi 1, gi (map p)]) rfl ?_ ?_
      · refine ⟨?_, trivial⟩
        · omega
      refine g_icmp_le hX 40 rfl rfl (by first | exact hap _ | exact ⟨by omega, by omega⟩) (by first | exact hap _ | exact ⟨by omega, by omega⟩) (fun b33 => ?_) (fun b33 => ?_)
      ·
        refine G.go hX 1 (moW W H 0 mbd mne mnw mmn mbx man mrs mrl mfl mpt mdf mlb mbo mwn mwo mxo myo mor mco mro mpw mph mrk mrb mrf mfr mfm med map mwh, 41, [(0, gr 60), (1, gi p)], [gi 0]) rfl trivial ?_
        exact g_zret hX hE rfl (Or.inl rfl) ⟨0, 0, rfl, rfl, fun h9 => by (exfalso; omega), fun _ => ⟨rfl, by first | (rw [gb_t (by omega)]) | (rw [gb_f (by omega)])⟩⟩
      ·
        refine G.go hX 2 (moW W H 0 mbd mne mnw mmn mbx man mrs mrl mfl mpt mdf mlb mbo mwn mwo mxo myo mor mco mro mpw mph mrk mrb mrf mfr mfm med map mwh, 41, [(0, gr 60), (1, gi p)], [gi 1]) rfl trivial ?_
        exact g_zret hX hE rfl (Or.inr rfl) ⟨1, 0, rfl, rfl, fun h9 => by (exfalso; omega), fun _ => ⟨rfl, by first | (rw [gb_t (by omega)]) | (rw [gb_f (by omega)])⟩⟩
set_option maxHeartbeats 4000000 in
set_option maxRecDepth 100000 in
theorem c_X8_at (l : Launch) (D : va_G) (cA : Nat → ClassId) (W : Nat) (H : Nat) (mth : Int) (mbd : Int) (mne : Int) (mnw : Int) (mmn : Int) (mbx : Int) (man : Int) (mrs : Int) (mrl : Int) (mfl : Int) (mpt : Int → Int) (mdf : Int → Int) (mlb : Int → Int) (mbo : Int → Int) (mwn : Int → Int) (mwo : Int → Int) (mxo : Int → Int) (myo : Int → Int) (mor : Int → Int) (mco : Int → Int) (mro : Int → Int) (mpw : Int → Int) (mph : Int → Int) (mrk : Int → Int) (mrb : Int → Int) (mrf : Int → Int) (mfr : Int → Int) (mfm : Int → Int) (med : Int → Int) (map : Int → Int) (mwh : Int → Int) (s : Int) (k : Int) (hk : 0 ≤ 40 * s + k ∧ 40 * s + k < 80) :
    gC l D cA yX8_at mX8_at (some .int) 0 0 [gr 60, gi s, gi k] (moW W H mth mbd mne mnw mmn mbx man mrs mrl mfl mpt mdf mlb mbo mwn mwo mxo myo mor mco mro mpw mph mrk mrb mrf mfr mfm med map mwh) (fun r9 w9 => r9 = some (gi (mor (40 * s + k))) ∧ w9 = moW W H mth mbd mne mnw mmn mbx man mrs mrl mfl mpt mdf mlb mbo mwn mwo mxo myo mor mco mro mpw mph mrk mrb mrf mfr mfm med map mwh) := by
  refine gC_of rfl kX8_at rfl rfl (Nat.le_of_ble_eq_true rfl) (fun X ad hX hE => ?_)
  refine G.go hX 8 (moW W H mth mbd mne mnw mmn mbx man mrs mrl mfl mpt mdf mlb mbo mwn mwo mxo myo mor mco mro mpw mph mrk mrb mrf mfr mfm med map mwh, 11, [(0, gr 60), (1, gi s), (2, gi k)], [gi (mor ((40 * s) + k))]) rfl ?_ ?_
  · refine ⟨?_, trivial⟩
    · omega
  exact g_iret hX hE rfl ⟨(congrArg (fun z => some (gi z)) (by first | rfl | (omega))), rfl⟩
set_option maxHeartbeats 4000000 in
set_option maxRecDepth 100000 in
theorem c_X8_addRow (l : Launch) (D : va_G) (cA : Nat → ClassId) (W : Nat) (H : Nat) (mth : Int) (mbd : Int) (mne : Int) (mnw : Int) (mmn : Int) (mbx : Int) (man : Int) (mrs : Int) (mrl : Int) (mfl : Int) (mpt : Int → Int) (mdf : Int → Int) (mlb : Int → Int) (mbo : Int → Int) (mwn : Int → Int) (mwo : Int → Int) (mxo : Int → Int) (myo : Int → Int) (mor : Int → Int) (mco : Int → Int) (mro : Int → Int) (mpw : Int → Int) (mph : Int → Int) (mrk : Int → Int) (mrb : Int → Int) (mrf : Int → Int) (mfr : Int → Int) (mfm : Int → Int) (med : Int → Int) (map : Int → Int) (mwh : Int → Int) (k : Int) (w : Int) (p : Int) (q : Int) (hr : 0 ≤ mrs ∧ mrs < 80) :
    gC l D cA yX8_addRow mX8_addRow none 0 0 [gr 60, gi k, gi w, gi p, gi q] (moW W H mth mbd mne mnw mmn mbx man mrs mrl mfl mpt mdf mlb mbo mwn mwo mxo myo mor mco mro mpw mph mrk mrb mrf mfr mfm med map mwh) (fun r9 w9 => r9 = none ∧ w9 = moW W H mth mbd mne mnw mmn mbx man (mrs + 1) mrl mfl mpt mdf mlb mbo mwn mwo mxo myo mor mco (wap mro mrs k w p q) mpw mph mrk mrb mrf mfr mfm med map mwh) := by
  refine gC_of rfl kX8_addRow rfl rfl (Nat.le_of_ble_eq_true rfl) (fun X ad hX hE => ?_)
  refine G.go hX 44 (moW W H mth mbd mne mnw mmn mbx man (mrs + 1) mrl mfl mpt mdf mlb mbo mwn mwo mxo myo mor mco (gu (gu (gu (gu mro (4 * mrs) k) ((4 * mrs) + 1) w) ((4 * mrs) + 2) p) ((4 * mrs) + 3) q) mpw mph mrk mrb mrf mfr mfm med map mwh, 65, [(0, gr 60), (1, gi k), (2, gi w), (3, gi p), (4, gi q)], []) rfl ?_ ?_
  · refine ⟨?_, ?_, ?_, ?_, trivial⟩
    · omega
    · omega
    · omega
    · omega
  exact g_vret hX hE rfl ⟨rfl, (by first | rfl | (unfold wap; simp only [Int.mul_comm 4 mrs, Int.add_zero]))⟩
set_option maxHeartbeats 4000000 in
set_option maxRecDepth 100000 in
theorem c_X8_isBefore (l : Launch) (D : va_G) (cA : Nat → ClassId) (W : Nat) (H : Nat) (mth : Int) (mbd : Int) (mne : Int) (mnw : Int) (mmn : Int) (mbx : Int) (man : Int) (mrs : Int) (mrl : Int) (mfl : Int) (mpt : Int → Int) (mdf : Int → Int) (mlb : Int → Int) (mbo : Int → Int) (mwn : Int → Int) (mwo : Int → Int) (mxo : Int → Int) (myo : Int → Int) (mor : Int → Int) (mco : Int → Int) (mro : Int → Int) (mpw : Int → Int) (mph : Int → Int) (mrk : Int → Int) (mrb : Int → Int) (mrf : Int → Int) (mfr : Int → Int) (mfm : Int → Int) (med : Int → Int) (map : Int → Int) (mwh : Int → Int) (p : Int) (q : Int) (hp : 0 ≤ p ∧ p < 80) (hq : 0 ≤ q ∧ q < 80) (hxy : ∀ q : Int, inR (mxo q) ∧ inR (myo q)) :
    gC l D cA yX8_isBefore mX8_isBefore (some .boolean) 0 0 [gr 60, gi p, gi q] (moW W H mth mbd mne mnw mmn mbx man mrs mrl mfl mpt mdf mlb mbo mwn mwo mxo myo mor mco mro mpw mph mrk mrb mrf mfr mfm med map mwh) (fun r9 w9 => r9 = some (gi (gb (wbf mxo myo p q))) ∧ w9 = moW W H mth mbd mne mnw mmn mbx man mrs mrl mfl mpt mdf mlb mbo mwn mwo mxo myo mor mco mro mpw mph mrk mrb mrf mfr mfm med map mwh) := by
  refine gC_of rfl kX8_isBefore rfl rfl (Nat.le_of_ble_eq_true rfl) (fun X ad hX hE => ?_)
  refine G.go hX 8 (moW W H mth mbd mne mnw mmn mbx man mrs mrl mfl mpt mdf mlb mbo mwn mwo mxo myo mor mco mro mpw mph mrk mrb mrf mfr mfm med map mwh, 12, [(0, gr 60), (1, gi p), (2, gi q)], [gi (myo q), gi (myo p)]) rfl ?_ ?_
  · refine ⟨?_, ?_, trivial⟩
    · omega
    · omega
  refine g_icmp_eq hX 36 rfl rfl (by first | exact (hxy _).1 | exact (hxy _).2 | exact ⟨by omega, by omega⟩) (by first | exact (hxy _).1 | exact (hxy _).2 | exact ⟨by omega, by omega⟩) (fun b12 => ?_) (fun b12 => ?_)
  ·
    refine G.go hX 8 (moW W H mth mbd mne mnw mmn mbx man mrs mrl mfl mpt mdf mlb mbo mwn mwo mxo myo mor mco mro mpw mph mrk mrb mrf mfr mfm med map mwh, 48, [(0, gr 60), (1, gi p), (2, gi q)], [gi (mxo q), gi (mxo p)]) rfl ?_ ?_
    · refine ⟨?_, ?_, trivial⟩
      · omega
      · omega
    refine g_icmp_eq hX 74 rfl rfl (by first | exact (hxy _).1 | exact (hxy _).2 | exact ⟨by omega, by omega⟩) (by first | exact (hxy _).1 | exact (hxy _).2 | exact ⟨by omega, by omega⟩) (fun b48 => ?_) (fun b48 => ?_)
    ·
      refine G.go hX 2 (moW W H mth mbd mne mnw mmn mbx man mrs mrl mfl mpt mdf mlb mbo mwn mwo mxo myo mor mco mro mpw mph mrk mrb mrf mfr mfm med map mwh, 76, [(0, gr 60), (1, gi p), (2, gi q)], [gi q, gi p]) rfl trivial ?_
      refine g_icmp_ge hX 83 rfl rfl (by first | exact (hxy _).1 | exact (hxy _).2 | exact ⟨by omega, by omega⟩) (by first | exact (hxy _).1 | exact (hxy _).2 | exact ⟨by omega, by omega⟩) (fun b76 => ?_) (fun b76 => ?_)
      ·
        refine G.go hX 1 (moW W H mth mbd mne mnw mmn mbx man mrs mrl mfl mpt mdf mlb mbo mwn mwo mxo myo mor mco mro mpw mph mrk mrb mrf mfr mfm med map mwh, 84, [(0, gr 60), (1, gi p), (2, gi q)], [gi 0]) rfl trivial ?_
        exact g_zret hX hE rfl (Or.inl rfl) ⟨(congrArg (fun z => some (gi z)) (gb_f (by unfold wbf; omega)).symm), rfl⟩
      ·
        refine G.go hX 2 (moW W H mth mbd mne mnw mmn mbx man mrs mrl mfl mpt mdf mlb mbo mwn mwo mxo myo mor mco mro mpw mph mrk mrb mrf mfr mfm med map mwh, 84, [(0, gr 60), (1, gi p), (2, gi q)], [gi 1]) rfl trivial ?_
        exact g_zret hX hE rfl (Or.inr rfl) ⟨(congrArg (fun z => some (gi z)) (gb_t (by unfold wbf; omega)).symm), rfl⟩
    ·
      refine G.go hX 8 (moW W H mth mbd mne mnw mmn mbx man mrs mrl mfl mpt mdf mlb mbo mwn mwo mxo myo mor mco mro mpw mph mrk mrb mrf mfr mfm med map mwh, 63, [(0, gr 60), (1, gi p), (2, gi q)], [gi (mxo q), gi (mxo p)]) rfl ?_ ?_
      · refine ⟨?_, ?_, trivial⟩
        · omega
        · omega
      refine g_icmp_ge hX 70 rfl rfl (by first | exact (hxy _).1 | exact (hxy _).2 | exact ⟨by omega, by omega⟩) (by first | exact (hxy _).1 | exact (hxy _).2 | exact ⟨by omega, by omega⟩) (fun b63 => ?_) (fun b63 => ?_)
      ·
        refine G.go hX 2 (moW W H mth mbd mne mnw mmn mbx man mrs mrl mfl mpt mdf mlb mbo mwn mwo mxo myo mor mco mro mpw mph mrk mrb mrf mfr mfm med map mwh, 84, [(0, gr 60), (1, gi p), (2, gi q)], [gi 0]) rfl trivial ?_
        exact g_zret hX hE rfl (Or.inl rfl) ⟨(congrArg (fun z => some (gi z)) (gb_f (by unfold wbf; omega)).symm), rfl⟩
      ·
        refine G.go hX 2 (moW W H mth mbd mne mnw mmn mbx man mrs mrl mfl mpt mdf mlb mbo mwn mwo mxo myo mor mco mro mpw mph mrk mrb mrf mfr mfm med map mwh, 84, [(0, gr 60), (1, gi p), (2, gi q)], [gi 1]) rfl trivial ?_
        exact g_zret hX hE rfl (Or.inr rfl) ⟨(congrArg (fun z => some (gi z)) (gb_t (by unfold wbf; omega)).symm), rfl⟩
  ·
    refine G.go hX 8 (moW W H mth mbd mne mnw mmn mbx man mrs mrl mfl mpt mdf mlb mbo mwn mwo mxo myo mor mco mro mpw mph mrk mrb mrf mfr mfm med map mwh, 27, [(0, gr 60), (1, gi p), (2, gi q)], [gi (myo q), gi (myo p)]) rfl ?_ ?_
    · refine ⟨?_, ?_, trivial⟩
      · omega
      · omega
    refine g_icmp_ge hX 34 rfl rfl (by first | exact (hxy _).1 | exact (hxy _).2 | exact ⟨by omega, by omega⟩) (by first | exact (hxy _).1 | exact (hxy _).2 | exact ⟨by omega, by omega⟩) (fun b27 => ?_) (fun b27 => ?_)
    ·
      refine G.go hX 1 (moW W H mth mbd mne mnw mmn mbx man mrs mrl mfl mpt mdf mlb mbo mwn mwo mxo myo mor mco mro mpw mph mrk mrb mrf mfr mfm med map mwh, 35, [(0, gr 60), (1, gi p), (2, gi q)], [gi 0]) rfl trivial ?_
      exact g_zret hX hE rfl (Or.inl rfl) ⟨(congrArg (fun z => some (gi z)) (gb_f (by unfold wbf; omega)).symm), rfl⟩
    ·
      refine G.go hX 2 (moW W H mth mbd mne mnw mmn mbx man mrs mrl mfl mpt mdf mlb mbo mwn mwo mxo myo mor mco mro mpw mph mrk mrb mrf mfr mfm med map mwh, 35, [(0, gr 60), (1, gi p), (2, gi q)], [gi 1]) rfl trivial ?_
      exact g_zret hX hE rfl (Or.inr rfl) ⟨(congrArg (fun z => some (gi z)) (gb_t (by unfold wbf; omega)).symm), rfl⟩
set_option maxHeartbeats 4000000 in
set_option maxRecDepth 100000 in
theorem c_X8_fault (l : Launch) (D : va_G) (cA : Nat → ClassId) (W : Nat) (H : Nat) (mth : Int) (mbd : Int) (mne : Int) (mnw : Int) (mmn : Int) (mbx : Int) (man : Int) (mrs : Int) (mrl : Int) (mfl : Int) (mpt : Int → Int) (mdf : Int → Int) (mlb : Int → Int) (mbo : Int → Int) (mwn : Int → Int) (mwo : Int → Int) (mxo : Int → Int) (myo : Int → Int) (mor : Int → Int) (mco : Int → Int) (mro : Int → Int) (mpw : Int → Int) (mph : Int → Int) (mrk : Int → Int) (mrb : Int → Int) (mrf : Int → Int) (mfr : Int → Int) (mfm : Int → Int) (med : Int → Int) (map : Int → Int) (mwh : Int → Int) (i : Int) (k : Int) (hi : inR i) (hk : inR k) (hfl : 0 ≤ mfl ∧ mfl ≤ 12) (hfr : ∀ q : Int, 0 ≤ q → q < mfl → 0 ≤ mfr q ∧ mfr q < 12) (hrf : ∀ q : Int, mrf q = 0 ∨ mrf q = 1) :
    gC l D cA yX8_fault mX8_fault (some .int) 0 0 [gr 60, gi i, gi k] (moW W H mth mbd mne mnw mmn mbx man mrs mrl mfl mpt mdf mlb mbo mwn mwo mxo myo mor mco mro mpw mph mrk mrb mrf mfr mfm med map mwh) (fun r9 w9 => ∃ (rv : Int) (th : Int), r9 = some (gi rv) ∧ w9 = moW W H th mbd mne mnw mmn mbx man mrs mrl mfl mpt mdf mlb mbo mwn mwo mxo myo mor mco mro mpw mph mrk mrb mrf mfr mfm med map mwh ∧ (¬ ((0 ≤ i ∧ i < mfl) ∧ 0 ≤ k ∧ k ≤ 2) → th = 1 ∧ rv = 0) ∧ (((0 ≤ i ∧ i < mfl) ∧ 0 ≤ k ∧ k ≤ 2) → th = 0 ∧ (k = 0 → rv = mfr i) ∧ (k = 1 → rv = if mrf (mfr i) = 0 then mrk (mfr i) else -1) ∧ (k = 2 → rv = mfm i))) := by
  refine gC_of rfl kX8_fault rfl rfl (Nat.le_of_ble_eq_true rfl) (fun X ad hX hE => ?_)
  refine G.go hX 7 (moW W H mth mbd mne mnw mmn mbx man mrs mrl mfl mpt mdf mlb mbo mwn mwo mxo myo mor mco mro mpw mph mrk mrb mrf mfr mfm med map mwh, 9, [(0, gr 60), (1, gi i), (2, gi k)], [gi (mfl - 1), gi 0, gi i, gr 60]) rfl trivial ?_
  refine G.callS (av := [gi i, gi 0, gi (mfl - 1)]) (st := [gr 60]) hX rfl (fun l D cA => c_X8_in l D cA i 0 (mfl - 1) (by first | assumption | exact ⟨by omega, by omega⟩) ⟨by omega, by omega⟩ ⟨by omega, by omega⟩) (by decide +kernel) aX8_in rfl ⟨rfl, rfl⟩ (by decide) (Nat.le_of_ble_eq_true rfl) [] [0, 1, 2, 3, 4, 5, 6, 7, 8, 9, 10, 11, 12, 13, 14, 15, 16, 17, 18, 19, 20, 21] (moW W H mth mbd mne mnw mmn mbx man mrs mrl mfl mpt mdf mlb mbo mwn mwo mxo myo mor mco mro mpw mph mrk mrb mrf mfr mfm med map mwh) rfl rfl rfl (fun r w' hp => ?_)
  obtain ⟨rfl, rfl⟩ := hp
  show G X mX8_fault ad 0 0 (moW W H mth mbd mne mnw mmn mbx man mrs mrl mfl mpt mdf mlb mbo mwn mwo mxo myo mor mco mro mpw mph mrk mrb mrf mfr mfm med map mwh, 12, [(0, gr 60), (1, gi i), (2, gi k)], [gi (gb (0 ≤ i ∧ i ≤ (mfl - 1))), gr 60])
  refine g_if_eq hX 28 rfl rfl (gb_r _) (fun b12 => ?_) (fun b12 => ?_)
  ·
    have b12 := gb_0.mp b12
    refine G.go hX 4 (moW W H 1 mbd mne mnw mmn mbx man mrs mrl mfl mpt mdf mlb mbo mwn mwo mxo myo mor mco mro mpw mph mrk mrb mrf mfr mfm med map mwh, 36, [(0, gr 60), (1, gi i), (2, gi k)], [gi 1]) rfl trivial ?_
    refine g_if_le hX 41 rfl rfl ⟨by omega, by omega⟩ (fun b36 => ?_) (fun b36 => ?_)
    ·
      exfalso
      omega
    ·
      refine G.go hX 1 (moW W H 1 mbd mne mnw mmn mbx man mrs mrl mfl mpt mdf mlb mbo mwn mwo mxo myo mor mco mro mpw mph mrk mrb mrf mfr mfm med map mwh, 40, [(0, gr 60), (1, gi i), (2, gi k)], [gi 0]) rfl trivial ?_
      exact g_iret hX hE rfl ⟨0, 1, rfl, rfl, fun _ => ⟨rfl, rfl⟩, fun h9 => by (exfalso; omega)⟩
  ·
    have b12 := gb_n0 b12
    refine G.go hX 3 (moW W H mth mbd mne mnw mmn mbx man mrs mrl mfl mpt mdf mlb mbo mwn mwo mxo myo mor mco mro mpw mph mrk mrb mrf mfr mfm med map mwh, 18, [(0, gr 60), (1, gi i), (2, gi k)], [gi 2, gi 0, gi k, gr 60]) rfl trivial ?_
    refine G.callS (av := [gi k, gi 0, gi 2]) (st := [gr 60]) hX rfl (fun l D cA => c_X8_in l D cA k 0 2 (by first | assumption | exact ⟨by omega, by omega⟩) ⟨by omega, by omega⟩ ⟨by omega, by omega⟩) (by decide +kernel) aX8_in rfl ⟨rfl, rfl⟩ (by decide) (Nat.le_of_ble_eq_true rfl) [] [0, 1, 2, 3, 4, 5, 6, 7, 8, 9, 10, 11, 12, 13, 14, 15, 16, 17, 18, 19, 20, 21] (moW W H mth mbd mne mnw mmn mbx man mrs mrl mfl mpt mdf mlb mbo mwn mwo mxo myo mor mco mro mpw mph mrk mrb mrf mfr mfm med map mwh) rfl rfl rfl (fun r w' hp => ?_)
    obtain ⟨rfl, rfl⟩ := hp
    show G X mX8_fault ad 0 0 (moW W H mth mbd mne mnw mmn mbx man mrs mrl mfl mpt mdf mlb mbo mwn mwo mxo myo mor mco mro mpw mph mrk mrb mrf mfr mfm med map mwh, 21, [(0, gr 60), (1, gi i), (2, gi k)], [gi (gb (0 ≤ k ∧ k ≤ 2)), gr 60])
    refine g_if_eq hX 28 rfl rfl (gb_r _) (fun b21 => ?_) (fun b21 => ?_)
    ·
      have b21 := gb_0.mp b21
      refine G.go hX 4 (moW W H 1 mbd mne mnw mmn mbx man mrs mrl mfl mpt mdf mlb mbo mwn mwo mxo myo mor mco mro mpw mph mrk mrb mrf mfr mfm med map mwh, 36, [(0, gr 60), (1, gi i), (2, gi k)], [gi 1]) rfl trivial ?_
      refine g_if_le hX 41 rfl rfl ⟨by omega, by omega⟩ (fun b36 => ?_) (fun b36 => ?_)
      ·
        exfalso
        omega
      ·
        refine G.go hX 1 (moW W H 1 mbd mne mnw mmn mbx man mrs mrl mfl mpt mdf mlb mbo mwn mwo mxo myo mor mco mro mpw mph mrk mrb mrf mfr mfm med map mwh, 40, [(0, gr 60), (1, gi i), (2, gi k)], [gi 0]) rfl trivial ?_
        exact g_iret hX hE rfl ⟨0, 1, rfl, rfl, fun _ => ⟨rfl, rfl⟩, fun h9 => by (exfalso; omega)⟩
    ·
      have b21 := gb_n0 b21
      refine G.go hX 5 (moW W H 0 mbd mne mnw mmn mbx man mrs mrl mfl mpt mdf mlb mbo mwn mwo mxo myo mor mco mro mpw mph mrk mrb mrf mfr mfm med map mwh, 36, [(0, gr 60), (1, gi i), (2, gi k)], [gi 0]) rfl trivial ?_
      refine g_if_le hX 41 rfl rfl ⟨by omega, by omega⟩ (fun b36 => ?_) (fun b36 => ?_)
      ·
        have hf9 := hfr i (by omega) (by omega)
        have hb9 := hrf (mfr i)
        refine G.go hX 6 (moW W H 0 mbd mne mnw mmn mbx man mrs mrl mfl mpt mdf mlb mbo mwn mwo mxo myo mor mco mro mpw mph mrk mrb mrf mfr mfm med map mwh, 49, [(0, gr 60), (1, gi i), (2, gi k), (3, gi (mfr i))], [gi k]) rfl ?_ ?_
        · refine ⟨?_, trivial⟩
          · omega
        refine g_if_ne hX 56 rfl rfl hk (fun b49 => ?_) (fun b49 => ?_)
        ·
          refine G.go hX 2 (moW W H 0 mbd mne mnw mmn mbx man mrs mrl mfl mpt mdf mlb mbo mwn mwo mxo myo mor mco mro mpw mph mrk mrb mrf mfr mfm med map mwh, 58, [(0, gr 60), (1, gi i), (2, gi k), (3, gi (mfr i))], [gi 1, gi k]) rfl trivial ?_
          refine g_icmp_ne hX 83 rfl rfl ⟨by omega, by omega⟩ ⟨by omega, by omega⟩ (fun b58 => ?_) (fun b58 => ?_)
          ·
            refine G.go hX 4 (moW W H 0 mbd mne mnw mmn mbx man mrs mrl mfl mpt mdf mlb mbo mwn mwo mxo myo mor mco mro mpw mph mrk mrb mrf mfr mfm med map mwh, 89, [(0, gr 60), (1, gi i), (2, gi k), (3, gi (mfr i))], [gi (mfm i)]) rfl ?_ ?_
            · refine ⟨?_, trivial⟩
              · omega
            exact g_iret hX hE rfl ⟨_, 0, rfl, rfl, fun h9 => by (exfalso; omega), fun _ => ⟨rfl, fun h9 => by first | rfl | (exfalso; omega), fun h9 => by first | (rw [if_pos (by assumption)]) | (rw [if_neg (by assumption)]) | (exfalso; omega), fun h9 => by first | rfl | (exfalso; omega)⟩⟩
          ·
            refine G.go hX 4 (moW W H 0 mbd mne mnw mmn mbx man mrs mrl mfl mpt mdf mlb mbo mwn mwo mxo myo mor mco mro mpw mph mrk mrb mrf mfr mfm med map mwh, 67, [(0, gr 60), (1, gi i), (2, gi k), (3, gi (mfr i))], [gi (mrf (mfr i))]) rfl ?_ ?_
            · refine ⟨?_, trivial⟩
              · omega
            refine g_if_eq hX 74 rfl rfl (by rcases hb9 with h9 | h9 <;> rw [h9] <;> exact ⟨by omega, by omega⟩) (fun b67 => ?_) (fun b67 => ?_)
            ·
              refine G.go hX 5 (moW W H 0 mbd mne mnw mmn mbx man mrs mrl mfl mpt mdf mlb mbo mwn mwo mxo myo mor mco mro mpw mph mrk mrb mrf mfr mfm med map mwh, 89, [(0, gr 60), (1, gi i), (2, gi k), (3, gi (mfr i))], [gi (mrk (mfr i))]) rfl ?_ ?_
              · refine ⟨?_, trivial⟩
                · omega
              exact g_iret hX hE rfl ⟨_, 0, rfl, rfl, fun h9 => by (exfalso; omega), fun _ => ⟨rfl, fun h9 => by first | rfl | (exfalso; omega), fun h9 => by first | (rw [if_pos (by assumption)]) | (rw [if_neg (by assumption)]) | (exfalso; omega), fun h9 => by first | rfl | (exfalso; omega)⟩⟩
            ·
              refine G.go hX 2 (moW W H 0 mbd mne mnw mmn mbx man mrs mrl mfl mpt mdf mlb mbo mwn mwo mxo myo mor mco mro mpw mph mrk mrb mrf mfr mfm med map mwh, 89, [(0, gr 60), (1, gi i), (2, gi k), (3, gi (mfr i))], [gi (-1)]) rfl trivial ?_
              exact g_iret hX hE rfl ⟨_, 0, rfl, rfl, fun h9 => by (exfalso; omega), fun _ => ⟨rfl, fun h9 => by first | rfl | (exfalso; omega), fun h9 => by first | (rw [if_pos (by assumption)]) | (rw [if_neg (by assumption)]) | (exfalso; omega), fun h9 => by first | rfl | (exfalso; omega)⟩⟩
        ·
          refine G.go hX 2 (moW W H 0 mbd mne mnw mmn mbx man mrs mrl mfl mpt mdf mlb mbo mwn mwo mxo myo mor mco mro mpw mph mrk mrb mrf mfr mfm med map mwh, 89, [(0, gr 60), (1, gi i), (2, gi k), (3, gi (mfr i))], [gi (mfr i)]) rfl trivial ?_
          exact g_iret hX hE rfl ⟨_, 0, rfl, rfl, fun h9 => by (exfalso; omega), fun _ => ⟨rfl, fun h9 => by first | rfl | (exfalso; omega), fun h9 => by first | (rw [if_pos (by assumption)]) | (rw [if_neg (by assumption)]) | (exfalso; omega), fun h9 => by first | rfl | (exfalso; omega)⟩⟩
      ·
        exfalso
        omega
end
section
/-- box i of the model -/
def mrw (f : Int → Int) (i : Int) : Int → Int := fun k => f (4 * i + k)
def mgw (f : Int → Int) (b x1 x2 x3 x4 : Int) : Int → Int := gu (gu (gu (gu f (4 * b) (min x1 (f (4 * b)))) (4 * b + 1) (min x2 (f (4 * b + 1)))) (4 * b + 2) (max x3 (f (4 * b + 2)))) (4 * b + 3) (max x4 (f (4 * b + 3)))
def mms (pw : Int → Int) (p : Int) : Prop := ¬ (0 < pw p ↔ 0 < pw (20 + p))
theorem gb_ne {P Q : Prop} (h : ¬ gb P = gb Q) : ¬ (P ↔ Q) := fun h9 => h (gb_c h9)
theorem gb_eq {P Q : Prop} (h : gb P = gb Q) : P ↔ Q := ⟨fun h9 => gb_1.mp (by rw [← h]; exact gb_t h9), fun h9 => gb_1.mp (by rw [h]; exact gb_t h9)⟩
set_option maxHeartbeats 4000000 in
set_option maxRecDepth 100000 in
theorem c_X8_grow (l : Launch) (D : va_G) (cA : Nat → ClassId) (W : Nat) (H : Nat) (mth : Int) (mbd : Int) (mne : Int) (mnw : Int) (mmn : Int) (mbx : Int) (man : Int) (mrs : Int) (mrl : Int) (mfl : Int) (mpt : Int → Int) (mdf : Int → Int) (mlb : Int → Int) (mbo : Int → Int) (mwn : Int → Int) (mwo : Int → Int) (mxo : Int → Int) (myo : Int → Int) (mor : Int → Int) (mco : Int → Int) (mro : Int → Int) (mpw : Int → Int) (mph : Int → Int) (mrk : Int → Int) (mrb : Int → Int) (mrf : Int → Int) (mfr : Int → Int) (mfm : Int → Int) (med : Int → Int) (map : Int → Int) (mwh : Int → Int) (b : Int) (x1 : Int) (x2 : Int) (x3 : Int) (x4 : Int) (hb : 0 ≤ b ∧ b < 1024) (hbo : ∀ q : Int, inR (mbo q)) (h1 : inR x1) (h2 : inR x2) (h3 : inR x3) (h4 : inR x4) :
    gC l D cA yX8_grow mX8_grow none 0 0 [gr 60, gi b, gi x1, gi x2, gi x3, gi x4] (moW W H mth mbd mne mnw mmn mbx man mrs mrl mfl mpt mdf mlb mbo mwn mwo mxo myo mor mco mro mpw mph mrk mrb mrf mfr mfm med map mwh) (fun r9 w9 => r9 = none ∧ w9 = moW W H mth mbd mne mnw mmn mbx man mrs mrl mfl mpt mdf mlb (mgw mbo b x1 x2 x3 x4) mwn mwo mxo myo mor mco mro mpw mph mrk mrb mrf mfr mfm med map mwh) := by
  refine gC_of rfl kX8_grow rfl rfl (Nat.le_of_ble_eq_true rfl) (fun X ad hX hE => ?_)
  refine G.go hX 12 (moW W H mth mbd mne mnw mmn mbx man mrs mrl mfl mpt mdf mlb mbo mwn mwo mxo myo mor mco mro mpw mph mrk mrb mrf mfr mfm med map mwh, 19, [(0, gr 60), (1, gi b), (2, gi x1), (3, gi x2), (4, gi x3), (5, gi x4), (6, gi (4 * b))], [gi (mbo (4 * b)), gi x1, gi (4 * b), gr 64]) rfl ?_ ?_
  · refine ⟨?_, trivial⟩
    · omega
  have jn33 : G X mX8_grow ad 0 0 (moW W H mth mbd mne mnw mmn mbx man mrs mrl mfl mpt mdf mlb mbo mwn mwo mxo myo mor mco mro mpw mph mrk mrb mrf mfr mfm med map mwh, 33, [(0, gr 60), (1, gi b), (2, gi x1), (3, gi x2), (4, gi x3), (5, gi x4), (6, gi (4 * b))], [gi (min x1 (mbo (4 * b))), gi (4 * b), gr 64]) := by
    refine G.go hX 13 (moW W H mth mbd mne mnw mmn mbx man mrs mrl mfl mpt mdf mlb (gu mbo (4 * b) (min x1 (mbo (4 * b)))) mwn mwo mxo myo mor mco mro mpw mph mrk mrb mrf mfr mfm med map mwh, 52, [(0, gr 60), (1, gi b), (2, gi x1), (3, gi x2), (4, gi x3), (5, gi x4), (6, gi (4 * b))], [gi ((gu mbo (4 * b) (min x1 (mbo (4 * b)))) ((4 * b) + 1)), gi x2, gi ((4 * b) + 1), gr 64]) rfl ?_ ?_
    · refine ⟨?_, ?_, trivial⟩
      · omega
      · omega
    have jn68 : G X mX8_grow ad 0 0 (moW W H mth mbd mne mnw mmn mbx man mrs mrl mfl mpt mdf mlb (gu mbo (4 * b) (min x1 (mbo (4 * b)))) mwn mwo mxo myo mor mco mro mpw mph mrk mrb mrf mfr mfm med map mwh, 68, [(0, gr 60), (1, gi b), (2, gi x1), (3, gi x2), (4, gi x3), (5, gi x4), (6, gi (4 * b))], [gi (min x2 ((gu mbo (4 * b) (min x1 (mbo (4 * b)))) ((4 * b) + 1))), gi ((4 * b) + 1), gr 64]) := by
      refine G.go hX 13 (moW W H mth mbd mne mnw mmn mbx man mrs mrl mfl mpt mdf mlb (gu (gu mbo (4 * b) (min x1 (mbo (4 * b)))) ((4 * b) + 1) (min x2 ((gu mbo (4 * b) (min x1 (mbo (4 * b)))) ((4 * b) + 1)))) mwn mwo mxo myo mor mco mro mpw mph mrk mrb mrf mfr mfm med map mwh, 88, [(0, gr 60), (1, gi b), (2, gi x1), (3, gi x2), (4, gi x3), (5, gi x4), (6, gi (4 * b))], [gi ((gu (gu mbo (4 * b) (min x1 (mbo (4 * b)))) ((4 * b) + 1) (min x2 ((gu mbo (4 * b) (min x1 (mbo (4 * b)))) ((4 * b) + 1)))) ((4 * b) + 2)), gi x3, gi ((4 * b) + 2), gr 64]) rfl ?_ ?_
      · refine ⟨?_, ?_, trivial⟩
        · omega
        · omega
      have jn105 : G X mX8_grow ad 0 0 (moW W H mth mbd mne mnw mmn mbx man mrs mrl mfl mpt mdf mlb (gu (gu mbo (4 * b) (min x1 (mbo (4 * b)))) ((4 * b) + 1) (min x2 ((gu mbo (4 * b) (min x1 (mbo (4 * b)))) ((4 * b) + 1)))) mwn mwo mxo myo mor mco mro mpw mph mrk mrb mrf mfr mfm med map mwh, 105, [(0, gr 60), (1, gi b), (2, gi x1), (3, gi x2), (4, gi x3), (5, gi x4), (6, gi (4 * b))], [gi (max x3 ((gu (gu mbo (4 * b) (min x1 (mbo (4 * b)))) ((4 * b) + 1) (min x2 ((gu mbo (4 * b) (min x1 (mbo (4 * b)))) ((4 * b) + 1)))) ((4 * b) + 2))), gi ((4 * b) + 2), gr 64]) := by
        refine G.go hX 13 (moW W H mth mbd mne mnw mmn mbx man mrs mrl mfl mpt mdf mlb (gu (gu (gu mbo (4 * b) (min x1 (mbo (4 * b)))) ((4 * b) + 1) (min x2 ((gu mbo (4 * b) (min x1 (mbo (4 * b)))) ((4 * b) + 1)))) ((4 * b) + 2) (max x3 ((gu (gu mbo (4 * b) (min x1 (mbo (4 * b)))) ((4 * b) + 1) (min x2 ((gu mbo (4 * b) (min x1 (mbo (4 * b)))) ((4 * b) + 1)))) ((4 * b) + 2)))) mwn mwo mxo myo mor mco mro mpw mph mrk mrb mrf mfr mfm med map mwh, 125, [(0, gr 60), (1, gi b), (2, gi x1), (3, gi x2), (4, gi x3), (5, gi x4), (6, gi (4 * b))], [gi ((gu (gu (gu mbo (4 * b) (min x1 (mbo (4 * b)))) ((4 * b) + 1) (min x2 ((gu mbo (4 * b) (min x1 (mbo (4 * b)))) ((4 * b) + 1)))) ((4 * b) + 2) (max x3 ((gu (gu mbo (4 * b) (min x1 (mbo (4 * b)))) ((4 * b) + 1) (min x2 ((gu mbo (4 * b) (min x1 (mbo (4 * b)))) ((4 * b) + 1)))) ((4 * b) + 2)))) ((4 * b) + 3)), gi x4, gi ((4 * b) + 3), gr 64]) rfl ?_ ?_
        · refine ⟨?_, ?_, trivial⟩
          · omega
          · omega
        have jn142 : G X mX8_grow ad 0 0 (moW W H mth mbd mne mnw mmn mbx man mrs mrl mfl mpt mdf mlb (gu (gu (gu mbo (4 * b) (min x1 (mbo (4 * b)))) ((4 * b) + 1) (min x2 ((gu mbo (4 * b) (min x1 (mbo (4 * b)))) ((4 * b) + 1)))) ((4 * b) + 2) (max x3 ((gu (gu mbo (4 * b) (min x1 (mbo (4 * b)))) ((4 * b) + 1) (min x2 ((gu mbo (4 * b) (min x1 (mbo (4 * b)))) ((4 * b) + 1)))) ((4 * b) + 2)))) mwn mwo mxo myo mor mco mro mpw mph mrk mrb mrf mfr mfm med map mwh, 142, [(0, gr 60), (1, gi b), (2, gi x1), (3, gi x2), (4, gi x3), (5, gi x4), (6, gi (4 * b))], [gi (max x4 ((gu (gu (gu mbo (4 * b) (min x1 (mbo (4 * b)))) ((4 * b) + 1) (min x2 ((gu mbo (4 * b) (min x1 (mbo (4 * b)))) ((4 * b) + 1)))) ((4 * b) + 2) (max x3 ((gu (gu mbo (4 * b) (min x1 (mbo (4 * b)))) ((4 * b) + 1) (min x2 ((gu mbo (4 * b) (min x1 (mbo (4 * b)))) ((4 * b) + 1)))) ((4 * b) + 2)))) ((4 * b) + 3))), gi ((4 * b) + 3), gr 64]) := by
          refine G.go hX 1 (moW W H mth mbd mne mnw mmn mbx man mrs mrl mfl mpt mdf mlb (gu (gu (gu (gu mbo (4 * b) (min x1 (mbo (4 * b)))) ((4 * b) + 1) (min x2 ((gu mbo (4 * b) (min x1 (mbo (4 * b)))) ((4 * b) + 1)))) ((4 * b) + 2) (max x3 ((gu (gu mbo (4 * b) (min x1 (mbo (4 * b)))) ((4 * b) + 1) (min x2 ((gu mbo (4 * b) (min x1 (mbo (4 * b)))) ((4 * b) + 1)))) ((4 * b) + 2)))) ((4 * b) + 3) (max x4 ((gu (gu (gu mbo (4 * b) (min x1 (mbo (4 * b)))) ((4 * b) + 1) (min x2 ((gu mbo (4 * b) (min x1 (mbo (4 * b)))) ((4 * b) + 1)))) ((4 * b) + 2) (max x3 ((gu (gu mbo (4 * b) (min x1 (mbo (4 * b)))) ((4 * b) + 1) (min x2 ((gu mbo (4 * b) (min x1 (mbo (4 * b)))) ((4 * b) + 1)))) ((4 * b) + 2)))) ((4 * b) + 3)))) mwn mwo mxo myo mor mco mro mpw mph mrk mrb mrf mfr mfm med map mwh, 143, [(0, gr 60), (1, gi b), (2, gi x1), (3, gi x2), (4, gi x3), (5, gi x4), (6, gi (4 * b))], []) rfl ?_ ?_
          · refine ⟨?_, trivial⟩
            · omega
          have e1 : ∀ v, gu mbo (4 * b) v (4 * b + 1) = mbo (4 * b + 1) := fun v => gu_n _ _ (by omega)
          have e2 : ∀ v w, gu (gu mbo (4 * b) v) (4 * b + 1) w (4 * b + 2) = mbo (4 * b + 2) := fun v w => by rw [gu_n _ _ (by omega), gu_n _ _ (by omega)]
          have e3 : ∀ v w u, gu (gu (gu mbo (4 * b) v) (4 * b + 1) w) (4 * b + 2) u (4 * b + 3) = mbo (4 * b + 3) := fun v w u => by rw [gu_n _ _ (by omega), gu_n _ _ (by omega), gu_n _ _ (by omega)]
          exact g_vret hX hE rfl ⟨rfl, (by first | rfl | (unfold mgw; simp only [e1, e2, e3]))⟩
        refine g_icmp_le hX 133 rfl rfl (by first | exact gu_r (gu_r (gu_r hbo (gmn_r h1 (hbo _)).1) (gmn_r h2 (gu_r hbo (gmn_r h1 (hbo _)).1 _)).1) (gmn_r h3 (gu_r (gu_r hbo (gmn_r h1 (hbo _)).1) (gmn_r h2 (gu_r hbo (gmn_r h1 (hbo _)).1 _)).1 _)).2 _ | exact gu_r (gu_r hbo (gmn_r h1 (hbo _)).1) (gmn_r h2 (gu_r hbo (gmn_r h1 (hbo _)).1 _)).1 _ | exact gu_r hbo (gmn_r h1 (hbo _)).1 _ | exact hbo _ | assumption) (by first | exact gu_r (gu_r (gu_r hbo (gmn_r h1 (hbo _)).1) (gmn_r h2 (gu_r hbo (gmn_r h1 (hbo _)).1 _)).1) (gmn_r h3 (gu_r (gu_r hbo (gmn_r h1 (hbo _)).1) (gmn_r h2 (gu_r hbo (gmn_r h1 (hbo _)).1 _)).1 _)).2 _ | exact gu_r (gu_r hbo (gmn_r h1 (hbo _)).1) (gmn_r h2 (gu_r hbo (gmn_r h1 (hbo _)).1 _)).1 _ | exact gu_r hbo (gmn_r h1 (hbo _)).1 _ | exact hbo _ | assumption) (fun b125 => ?_) (fun b125 => ?_)
        ·
          refine G.go hX 6 (moW W H mth mbd mne mnw mmn mbx man mrs mrl mfl mpt mdf mlb (gu (gu (gu mbo (4 * b) (min x1 (mbo (4 * b)))) ((4 * b) + 1) (min x2 ((gu mbo (4 * b) (min x1 (mbo (4 * b)))) ((4 * b) + 1)))) ((4 * b) + 2) (max x3 ((gu (gu mbo (4 * b) (min x1 (mbo (4 * b)))) ((4 * b) + 1) (min x2 ((gu mbo (4 * b) (min x1 (mbo (4 * b)))) ((4 * b) + 1)))) ((4 * b) + 2)))) mwn mwo mxo myo mor mco mro mpw mph mrk mrb mrf mfr mfm med map mwh, 142, [(0, gr 60), (1, gi b), (2, gi x1), (3, gi x2), (4, gi x3), (5, gi x4), (6, gi (4 * b))], [gi ((gu (gu (gu mbo (4 * b) (min x1 (mbo (4 * b)))) ((4 * b) + 1) (min x2 ((gu mbo (4 * b) (min x1 (mbo (4 * b)))) ((4 * b) + 1)))) ((4 * b) + 2) (max x3 ((gu (gu mbo (4 * b) (min x1 (mbo (4 * b)))) ((4 * b) + 1) (min x2 ((gu mbo (4 * b) (min x1 (mbo (4 * b)))) ((4 * b) + 1)))) ((4 * b) + 2)))) ((4 * b) + 3)), gi ((4 * b) + 3), gr 64]) rfl ?_ ?_
          · refine ⟨?_, trivial⟩
            · omega
          refine G.eq (S' := (moW W H mth mbd mne mnw mmn mbx man mrs mrl mfl mpt mdf mlb (gu (gu (gu mbo (4 * b) (min x1 (mbo (4 * b)))) ((4 * b) + 1) (min x2 ((gu mbo (4 * b) (min x1 (mbo (4 * b)))) ((4 * b) + 1)))) ((4 * b) + 2) (max x3 ((gu (gu mbo (4 * b) (min x1 (mbo (4 * b)))) ((4 * b) + 1) (min x2 ((gu mbo (4 * b) (min x1 (mbo (4 * b)))) ((4 * b) + 1)))) ((4 * b) + 2)))) mwn mwo mxo myo mor mco mro mpw mph mrk mrb mrf mfr mfm med map mwh, 142, [(0, gr 60), (1, gi b), (2, gi x1), (3, gi x2), (4, gi x3), (5, gi x4), (6, gi (4 * b))], [gi (max x4 ((gu (gu (gu mbo (4 * b) (min x1 (mbo (4 * b)))) ((4 * b) + 1) (min x2 ((gu mbo (4 * b) (min x1 (mbo (4 * b)))) ((4 * b) + 1)))) ((4 * b) + 2) (max x3 ((gu (gu mbo (4 * b) (min x1 (mbo (4 * b)))) ((4 * b) + 1) (min x2 ((gu mbo (4 * b) (min x1 (mbo (4 * b)))) ((4 * b) + 1)))) ((4 * b) + 2)))) ((4 * b) + 3))), gi ((4 * b) + 3), gr 64])) ?_ jn142
          rw [show max x4 ((gu (gu (gu mbo (4 * b) (min x1 (mbo (4 * b)))) ((4 * b) + 1) (min x2 ((gu mbo (4 * b) (min x1 (mbo (4 * b)))) ((4 * b) + 1)))) ((4 * b) + 2) (max x3 ((gu (gu mbo (4 * b) (min x1 (mbo (4 * b)))) ((4 * b) + 1) (min x2 ((gu mbo (4 * b) (min x1 (mbo (4 * b)))) ((4 * b) + 1)))) ((4 * b) + 2)))) ((4 * b) + 3)) = (gu (gu (gu mbo (4 * b) (min x1 (mbo (4 * b)))) ((4 * b) + 1) (min x2 ((gu mbo (4 * b) (min x1 (mbo (4 * b)))) ((4 * b) + 1)))) ((4 * b) + 2) (max x3 ((gu (gu mbo (4 * b) (min x1 (mbo (4 * b)))) ((4 * b) + 1) (min x2 ((gu mbo (4 * b) (min x1 (mbo (4 * b)))) ((4 * b) + 1)))) ((4 * b) + 2)))) ((4 * b) + 3) by omega]
        ·
          refine G.go hX 2 (moW W H mth mbd mne mnw mmn mbx man mrs mrl mfl mpt mdf mlb (gu (gu (gu mbo (4 * b) (min x1 (mbo (4 * b)))) ((4 * b) + 1) (min x2 ((gu mbo (4 * b) (min x1 (mbo (4 * b)))) ((4 * b) + 1)))) ((4 * b) + 2) (max x3 ((gu (gu mbo (4 * b) (min x1 (mbo (4 * b)))) ((4 * b) + 1) (min x2 ((gu mbo (4 * b) (min x1 (mbo (4 * b)))) ((4 * b) + 1)))) ((4 * b) + 2)))) mwn mwo mxo myo mor mco mro mpw mph mrk mrb mrf mfr mfm med map mwh, 142, [(0, gr 60), (1, gi b), (2, gi x1), (3, gi x2), (4, gi x3), (5, gi x4), (6, gi (4 * b))], [gi x4, gi ((4 * b) + 3), gr 64]) rfl trivial ?_
          refine G.eq (S' := (moW W H mth mbd mne mnw mmn mbx man mrs mrl mfl mpt mdf mlb (gu (gu (gu mbo (4 * b) (min x1 (mbo (4 * b)))) ((4 * b) + 1) (min x2 ((gu mbo (4 * b) (min x1 (mbo (4 * b)))) ((4 * b) + 1)))) ((4 * b) + 2) (max x3 ((gu (gu mbo (4 * b) (min x1 (mbo (4 * b)))) ((4 * b) + 1) (min x2 ((gu mbo (4 * b) (min x1 (mbo (4 * b)))) ((4 * b) + 1)))) ((4 * b) + 2)))) mwn mwo mxo myo mor mco mro mpw mph mrk mrb mrf mfr mfm med map mwh, 142, [(0, gr 60), (1, gi b), (2, gi x1), (3, gi x2), (4, gi x3), (5, gi x4), (6, gi (4 * b))], [gi (max x4 ((gu (gu (gu mbo (4 * b) (min x1 (mbo (4 * b)))) ((4 * b) + 1) (min x2 ((gu mbo (4 * b) (min x1 (mbo (4 * b)))) ((4 * b) + 1)))) ((4 * b) + 2) (max x3 ((gu (gu mbo (4 * b) (min x1 (mbo (4 * b)))) ((4 * b) + 1) (min x2 ((gu mbo (4 * b) (min x1 (mbo (4 * b)))) ((4 * b) + 1)))) ((4 * b) + 2)))) ((4 * b) + 3))), gi ((4 * b) + 3), gr 64])) ?_ jn142
          rw [show max x4 ((gu (gu (gu mbo (4 * b) (min x1 (mbo (4 * b)))) ((4 * b) + 1) (min x2 ((gu mbo (4 * b) (min x1 (mbo (4 * b)))) ((4 * b) + 1)))) ((4 * b) + 2) (max x3 ((gu (gu mbo (4 * b) (min x1 (mbo (4 * b)))) ((4 * b) + 1) (min x2 ((gu mbo (4 * b) (min x1 (mbo (4 * b)))) ((4 * b) + 1)))) ((4 * b) + 2)))) ((4 * b) + 3)) = x4 by omega]
      refine g_icmp_le hX 96 rfl rfl (by first | exact gu_r (gu_r (gu_r hbo (gmn_r h1 (hbo _)).1) (gmn_r h2 (gu_r hbo (gmn_r h1 (hbo _)).1 _)).1) (gmn_r h3 (gu_r (gu_r hbo (gmn_r h1 (hbo _)).1) (gmn_r h2 (gu_r hbo (gmn_r h1 (hbo _)).1 _)).1 _)).2 _ | exact gu_r (gu_r hbo (gmn_r h1 (hbo _)).1) (gmn_r h2 (gu_r hbo (gmn_r h1 (hbo _)).1 _)).1 _ | exact gu_r hbo (gmn_r h1 (hbo _)).1 _ | exact hbo _ | assumption) (by first | exact gu_r (gu_r (gu_r hbo (gmn_r h1 (hbo _)).1) (gmn_r h2 (gu_r hbo (gmn_r h1 (hbo _)).1 _)).1) (gmn_r h3 (gu_r (gu_r hbo (gmn_r h1 (hbo _)).1) (gmn_r h2 (gu_r hbo (gmn_r h1 (hbo _)).1 _)).1 _)).2 _ | exact gu_r (gu_r hbo (gmn_r h1 (hbo _)).1) (gmn_r h2 (gu_r hbo (gmn_r h1 (hbo _)).1 _)).1 _ | exact gu_r hbo (gmn_r h1 (hbo _)).1 _ | exact hbo _ | assumption) (fun b88 => ?_) (fun b88 => ?_)
      ·
        refine G.go hX 6 (moW W H mth mbd mne mnw mmn mbx man mrs mrl mfl mpt mdf mlb (gu (gu mbo (4 * b) (min x1 (mbo (4 * b)))) ((4 * b) + 1) (min x2 ((gu mbo (4 * b) (min x1 (mbo (4 * b)))) ((4 * b) + 1)))) mwn mwo mxo myo mor mco mro mpw mph mrk mrb mrf mfr mfm med map mwh, 105, [(0, gr 60), (1, gi b), (2, gi x1), (3, gi x2), (4, gi x3), (5, gi x4), (6, gi (4 * b))], [gi ((gu (gu mbo (4 * b) (min x1 (mbo (4 * b)))) ((4 * b) + 1) (min x2 ((gu mbo (4 * b) (min x1 (mbo (4 * b)))) ((4 * b) + 1)))) ((4 * b) + 2)), gi ((4 * b) + 2), gr 64]) rfl ?_ ?_
        · refine ⟨?_, trivial⟩
          · omega
        refine G.eq (S' := (moW W H mth mbd mne mnw mmn mbx man mrs mrl mfl mpt mdf mlb (gu (gu mbo (4 * b) (min x1 (mbo (4 * b)))) ((4 * b) + 1) (min x2 ((gu mbo (4 * b) (min x1 (mbo (4 * b)))) ((4 * b) + 1)))) mwn mwo mxo myo mor mco mro mpw mph mrk mrb mrf mfr mfm med map mwh, 105, [(0, gr 60), (1, gi b), (2, gi x1), (3, gi x2), (4, gi x3), (5, gi x4), (6, gi (4 * b))], [gi (max x3 ((gu (gu mbo (4 * b) (min x1 (mbo (4 * b)))) ((4 * b) + 1) (min x2 ((gu mbo (4 * b) (min x1 (mbo (4 * b)))) ((4 * b) + 1)))) ((4 * b) + 2))), gi ((4 * b) + 2), gr 64])) ?_ jn105
        rw [show max x3 ((gu (gu mbo (4 * b) (min x1 (mbo (4 * b)))) ((4 * b) + 1) (min x2 ((gu mbo (4 * b) (min x1 (mbo (4 * b)))) ((4 * b) + 1)))) ((4 * b) + 2)) = (gu (gu mbo (4 * b) (min x1 (mbo (4 * b)))) ((4 * b) + 1) (min x2 ((gu mbo (4 * b) (min x1 (mbo (4 * b)))) ((4 * b) + 1)))) ((4 * b) + 2) by omega]
      ·
        refine G.go hX 2 (moW W H mth mbd mne mnw mmn mbx man mrs mrl mfl mpt mdf mlb (gu (gu mbo (4 * b) (min x1 (mbo (4 * b)))) ((4 * b) + 1) (min x2 ((gu mbo (4 * b) (min x1 (mbo (4 * b)))) ((4 * b) + 1)))) mwn mwo mxo myo mor mco mro mpw mph mrk mrb mrf mfr mfm med map mwh, 105, [(0, gr 60), (1, gi b), (2, gi x1), (3, gi x2), (4, gi x3), (5, gi x4), (6, gi (4 * b))], [gi x3, gi ((4 * b) + 2), gr 64]) rfl trivial ?_
        refine G.eq (S' := (moW W H mth mbd mne mnw mmn mbx man mrs mrl mfl mpt mdf mlb (gu (gu mbo (4 * b) (min x1 (mbo (4 * b)))) ((4 * b) + 1) (min x2 ((gu mbo (4 * b) (min x1 (mbo (4 * b)))) ((4 * b) + 1)))) mwn mwo mxo myo mor mco mro mpw mph mrk mrb mrf mfr mfm med map mwh, 105, [(0, gr 60), (1, gi b), (2, gi x1), (3, gi x2), (4, gi x3), (5, gi x4), (6, gi (4 * b))], [gi (max x3 ((gu (gu mbo (4 * b) (min x1 (mbo (4 * b)))) ((4 * b) + 1) (min x2 ((gu mbo (4 * b) (min x1 (mbo (4 * b)))) ((4 * b) + 1)))) ((4 * b) + 2))), gi ((4 * b) + 2), gr 64])) ?_ jn105
        rw [show max x3 ((gu (gu mbo (4 * b) (min x1 (mbo (4 * b)))) ((4 * b) + 1) (min x2 ((gu mbo (4 * b) (min x1 (mbo (4 * b)))) ((4 * b) + 1)))) ((4 * b) + 2)) = x3 by omega]
    refine g_icmp_ge hX 59 rfl rfl (by first | exact gu_r (gu_r (gu_r hbo (gmn_r h1 (hbo _)).1) (gmn_r h2 (gu_r hbo (gmn_r h1 (hbo _)).1 _)).1) (gmn_r h3 (gu_r (gu_r hbo (gmn_r h1 (hbo _)).1) (gmn_r h2 (gu_r hbo (gmn_r h1 (hbo _)).1 _)).1 _)).2 _ | exact gu_r (gu_r hbo (gmn_r h1 (hbo _)).1) (gmn_r h2 (gu_r hbo (gmn_r h1 (hbo _)).1 _)).1 _ | exact gu_r hbo (gmn_r h1 (hbo _)).1 _ | exact hbo _ | assumption) (by first | exact gu_r (gu_r (gu_r hbo (gmn_r h1 (hbo _)).1) (gmn_r h2 (gu_r hbo (gmn_r h1 (hbo _)).1 _)).1) (gmn_r h3 (gu_r (gu_r hbo (gmn_r h1 (hbo _)).1) (gmn_r h2 (gu_r hbo (gmn_r h1 (hbo _)).1 _)).1 _)).2 _ | exact gu_r (gu_r hbo (gmn_r h1 (hbo _)).1) (gmn_r h2 (gu_r hbo (gmn_r h1 (hbo _)).1 _)).1 _ | exact gu_r hbo (gmn_r h1 (hbo _)).1 _ | exact hbo _ | assumption) (fun b52 => ?_) (fun b52 => ?_)
    ·
      refine G.go hX 6 (moW W H mth mbd mne mnw mmn mbx man mrs mrl mfl mpt mdf mlb (gu mbo (4 * b) (min x1 (mbo (4 * b)))) mwn mwo mxo myo mor mco mro mpw mph mrk mrb mrf mfr mfm med map mwh, 68, [(0, gr 60), (1, gi b), (2, gi x1), (3, gi x2), (4, gi x3), (5, gi x4), (6, gi (4 * b))], [gi ((gu mbo (4 * b) (min x1 (mbo (4 * b)))) ((4 * b) + 1)), gi ((4 * b) + 1), gr 64]) rfl ?_ ?_
      · refine ⟨?_, trivial⟩
        · omega
      refine G.eq (S' := (moW W H mth mbd mne mnw mmn mbx man mrs mrl mfl mpt mdf mlb (gu mbo (4 * b) (min x1 (mbo (4 * b)))) mwn mwo mxo myo mor mco mro mpw mph mrk mrb mrf mfr mfm med map mwh, 68, [(0, gr 60), (1, gi b), (2, gi x1), (3, gi x2), (4, gi x3), (5, gi x4), (6, gi (4 * b))], [gi (min x2 ((gu mbo (4 * b) (min x1 (mbo (4 * b)))) ((4 * b) + 1))), gi ((4 * b) + 1), gr 64])) ?_ jn68
      rw [show min x2 ((gu mbo (4 * b) (min x1 (mbo (4 * b)))) ((4 * b) + 1)) = (gu mbo (4 * b) (min x1 (mbo (4 * b)))) ((4 * b) + 1) by omega]
    ·
      refine G.go hX 2 (moW W H mth mbd mne mnw mmn mbx man mrs mrl mfl mpt mdf mlb (gu mbo (4 * b) (min x1 (mbo (4 * b)))) mwn mwo mxo myo mor mco mro mpw mph mrk mrb mrf mfr mfm med map mwh, 68, [(0, gr 60), (1, gi b), (2, gi x1), (3, gi x2), (4, gi x3), (5, gi x4), (6, gi (4 * b))], [gi x2, gi ((4 * b) + 1), gr 64]) rfl trivial ?_
      refine G.eq (S' := (moW W H mth mbd mne mnw mmn mbx man mrs mrl mfl mpt mdf mlb (gu mbo (4 * b) (min x1 (mbo (4 * b)))) mwn mwo mxo myo mor mco mro mpw mph mrk mrb mrf mfr mfm med map mwh, 68, [(0, gr 60), (1, gi b), (2, gi x1), (3, gi x2), (4, gi x3), (5, gi x4), (6, gi (4 * b))], [gi (min x2 ((gu mbo (4 * b) (min x1 (mbo (4 * b)))) ((4 * b) + 1))), gi ((4 * b) + 1), gr 64])) ?_ jn68
      rw [show min x2 ((gu mbo (4 * b) (min x1 (mbo (4 * b)))) ((4 * b) + 1)) = x2 by omega]
  refine g_icmp_ge hX 26 rfl rfl (by first | exact gu_r (gu_r (gu_r hbo (gmn_r h1 (hbo _)).1) (gmn_r h2 (gu_r hbo (gmn_r h1 (hbo _)).1 _)).1) (gmn_r h3 (gu_r (gu_r hbo (gmn_r h1 (hbo _)).1) (gmn_r h2 (gu_r hbo (gmn_r h1 (hbo _)).1 _)).1 _)).2 _ | exact gu_r (gu_r hbo (gmn_r h1 (hbo _)).1) (gmn_r h2 (gu_r hbo (gmn_r h1 (hbo _)).1 _)).1 _ | exact gu_r hbo (gmn_r h1 (hbo _)).1 _ | exact hbo _ | assumption) (by first | exact gu_r (gu_r (gu_r hbo (gmn_r h1 (hbo _)).1) (gmn_r h2 (gu_r hbo (gmn_r h1 (hbo _)).1 _)).1) (gmn_r h3 (gu_r (gu_r hbo (gmn_r h1 (hbo _)).1) (gmn_r h2 (gu_r hbo (gmn_r h1 (hbo _)).1 _)).1 _)).2 _ | exact gu_r (gu_r hbo (gmn_r h1 (hbo _)).1) (gmn_r h2 (gu_r hbo (gmn_r h1 (hbo _)).1 _)).1 _ | exact gu_r hbo (gmn_r h1 (hbo _)).1 _ | exact hbo _ | assumption) (fun b19 => ?_) (fun b19 => ?_)
  ·
    refine G.go hX 4 (moW W H mth mbd mne mnw mmn mbx man mrs mrl mfl mpt mdf mlb mbo mwn mwo mxo myo mor mco mro mpw mph mrk mrb mrf mfr mfm med map mwh, 33, [(0, gr 60), (1, gi b), (2, gi x1), (3, gi x2), (4, gi x3), (5, gi x4), (6, gi (4 * b))], [gi (mbo (4 * b)), gi (4 * b), gr 64]) rfl ?_ ?_
    · refine ⟨?_, trivial⟩
      · omega
    refine G.eq (S' := (moW W H mth mbd mne mnw mmn mbx man mrs mrl mfl mpt mdf mlb mbo mwn mwo mxo myo mor mco mro mpw mph mrk mrb mrf mfr mfm med map mwh, 33, [(0, gr 60), (1, gi b), (2, gi x1), (3, gi x2), (4, gi x3), (5, gi x4), (6, gi (4 * b))], [gi (min x1 (mbo (4 * b))), gi (4 * b), gr 64])) ?_ jn33
    rw [show min x1 (mbo (4 * b)) = mbo (4 * b) by omega]
  ·
    refine G.go hX 2 (moW W H mth mbd mne mnw mmn mbx man mrs mrl mfl mpt mdf mlb mbo mwn mwo mxo myo mor mco mro mpw mph mrk mrb mrf mfr mfm med map mwh, 33, [(0, gr 60), (1, gi b), (2, gi x1), (3, gi x2), (4, gi x3), (5, gi x4), (6, gi (4 * b))], [gi x1, gi (4 * b), gr 64]) rfl trivial ?_
    refine G.eq (S' := (moW W H mth mbd mne mnw mmn mbx man mrs mrl mfl mpt mdf mlb mbo mwn mwo mxo myo mor mco mro mpw mph mrk mrb mrf mfr mfm med map mwh, 33, [(0, gr 60), (1, gi b), (2, gi x1), (3, gi x2), (4, gi x3), (5, gi x4), (6, gi (4 * b))], [gi (min x1 (mbo (4 * b))), gi (4 * b), gr 64])) ?_ jn33
    rw [show min x1 (mbo (4 * b)) = x1 by omega]
set_option maxHeartbeats 4000000 in
set_option maxRecDepth 100000 in
theorem c_X8_share (l : Launch) (D : va_G) (cA : Nat → ClassId) (W : Nat) (H : Nat) (mth : Int) (mbd : Int) (mne : Int) (mnw : Int) (mmn : Int) (mbx : Int) (man : Int) (mrs : Int) (mrl : Int) (mfl : Int) (mpt : Int → Int) (mdf : Int → Int) (mlb : Int → Int) (mbo : Int → Int) (mwn : Int → Int) (mwo : Int → Int) (mxo : Int → Int) (myo : Int → Int) (mor : Int → Int) (mco : Int → Int) (mro : Int → Int) (mpw : Int → Int) (mph : Int → Int) (mrk : Int → Int) (mrb : Int → Int) (mrf : Int → Int) (mfr : Int → Int) (mfm : Int → Int) (med : Int → Int) (map : Int → Int) (mwh : Int → Int) (a : Int) (b : Int) (ha : 0 ≤ a ∧ a < 1024) (hb : 0 ≤ b ∧ b < 1024) (hbo : ∀ q : Int, inR (mbo q)) :
    gC l D cA yX8_share mX8_share (some .boolean) 0 0 [gr 60, gi a, gi b] (moW W H mth mbd mne mnw mmn mbx man mrs mrl mfl mpt mdf mlb mbo mwn mwo mxo myo mor mco mro mpw mph mrk mrb mrf mfr mfm med map mwh) (fun r9 w9 => r9 = some (gi (gb (fsh (mrw mbo a) (mrw mbo b)))) ∧ w9 = moW W H mth mbd mne mnw mmn mbx man mrs mrl mfl mpt mdf mlb mbo mwn mwo mxo myo mor mco mro mpw mph mrk mrb mrf mfr mfm med map mwh) := by
  refine gC_of rfl kX8_share rfl rfl (Nat.le_of_ble_eq_true rfl) (fun X ad hX hE => ?_)
  refine G.go hX 14 (moW W H mth mbd mne mnw mmn mbx man mrs mrl mfl mpt mdf mlb mbo mwn mwo mxo myo mor mco mro mpw mph mrk mrb mrf mfr mfm med map mwh, 18, [(0, gr 60), (1, gi a), (2, gi b)], [gi (mbo (4 * b)), gi (mbo ((4 * a) + 2))]) rfl ?_ ?_
  · refine ⟨?_, ?_, trivial⟩
    · omega
    · omega
  have jn47 : G X mX8_share ad 0 0 (moW W H mth mbd mne mnw mmn mbx man mrs mrl mfl mpt mdf mlb mbo mwn mwo mxo myo mor mco mro mpw mph mrk mrb mrf mfr mfm med map mwh, 47, [(0, gr 60), (1, gi a), (2, gi b)], [gi (gb (mbo (4 * a + 2) < mbo (4 * b) ∨ mbo (4 * b + 2) < mbo (4 * a)))]) := by
    refine G.go hX 17 (moW W H mth mbd mne mnw mmn mbx man mrs mrl mfl mpt mdf mlb mbo mwn mwo mxo myo mor mco mro mpw mph mrk mrb mrf mfr mfm med map mwh, 68, [(0, gr 60), (1, gi a), (2, gi b), (3, gi (gb (mbo (4 * a + 2) < mbo (4 * b) ∨ mbo (4 * b + 2) < mbo (4 * a))))], [gi (mbo ((4 * b) + 1)), gi (mbo ((4 * a) + 3))]) rfl ?_ ?_
    · refine ⟨?_, ?_, trivial⟩
      · omega
      · omega
    have jn99 : G X mX8_share ad 0 0 (moW W H mth mbd mne mnw mmn mbx man mrs mrl mfl mpt mdf mlb mbo mwn mwo mxo myo mor mco mro mpw mph mrk mrb mrf mfr mfm med map mwh, 99, [(0, gr 60), (1, gi a), (2, gi b), (3, gi (gb (mbo (4 * a + 2) < mbo (4 * b) ∨ mbo (4 * b + 2) < mbo (4 * a))))], [gi (gb (mbo (4 * a + 3) < mbo (4 * b + 1) ∨ mbo (4 * b + 3) < mbo (4 * a + 1)))]) := by
      refine G.go hX 2 (moW W H mth mbd mne mnw mmn mbx man mrs mrl mfl mpt mdf mlb mbo mwn mwo mxo myo mor mco mro mpw mph mrk mrb mrf mfr mfm med map mwh, 102, [(0, gr 60), (1, gi a), (2, gi b), (3, gi (gb (mbo (4 * a + 2) < mbo (4 * b) ∨ mbo (4 * b + 2) < mbo (4 * a)))), (4, gi (gb (mbo (4 * a + 3) < mbo (4 * b + 1) ∨ mbo (4 * b + 3) < mbo (4 * a + 1))))], [gi (gb (mbo (4 * a + 2) < mbo (4 * b) ∨ mbo (4 * b + 2) < mbo (4 * a)))]) rfl trivial ?_
      refine g_if_ne hX 114 rfl rfl (gb_r _) (fun b102 => ?_) (fun b102 => ?_)
      ·
        have b102 := gb_n0 b102
        refine G.go hX 1 (moW W H mth mbd mne mnw mmn mbx man mrs mrl mfl mpt mdf mlb mbo mwn mwo mxo myo mor mco mro mpw mph mrk mrb mrf mfr mfm med map mwh, 115, [(0, gr 60), (1, gi a), (2, gi b), (3, gi (gb (mbo (4 * a + 2) < mbo (4 * b) ∨ mbo (4 * b + 2) < mbo (4 * a)))), (4, gi (gb (mbo (4 * a + 3) < mbo (4 * b + 1) ∨ mbo (4 * b + 3) < mbo (4 * a + 1))))], [gi 0]) rfl trivial ?_
        exact g_zret hX hE rfl (Or.inl rfl) ⟨(congrArg (fun z => some (gi z)) (gb_f (by unfold fsh mrw; simp only [Int.add_zero]; omega)).symm), rfl⟩
      ·
        have b102 := gb_nn b102
        refine G.go hX 1 (moW W H mth mbd mne mnw mmn mbx man mrs mrl mfl mpt mdf mlb mbo mwn mwo mxo myo mor mco mro mpw mph mrk mrb mrf mfr mfm med map mwh, 107, [(0, gr 60), (1, gi a), (2, gi b), (3, gi (gb (mbo (4 * a + 2) < mbo (4 * b) ∨ mbo (4 * b + 2) < mbo (4 * a)))), (4, gi (gb (mbo (4 * a + 3) < mbo (4 * b + 1) ∨ mbo (4 * b + 3) < mbo (4 * a + 1))))], [gi (gb (mbo (4 * a + 3) < mbo (4 * b + 1) ∨ mbo (4 * b + 3) < mbo (4 * a + 1)))]) rfl trivial ?_
        refine g_if_ne hX 114 rfl rfl (gb_r _) (fun b107 => ?_) (fun b107 => ?_)
        ·
          have b107 := gb_n0 b107
          refine G.go hX 1 (moW W H mth mbd mne mnw mmn mbx man mrs mrl mfl mpt mdf mlb mbo mwn mwo mxo myo mor mco mro mpw mph mrk mrb mrf mfr mfm med map mwh, 115, [(0, gr 60), (1, gi a), (2, gi b), (3, gi (gb (mbo (4 * a + 2) < mbo (4 * b) ∨ mbo (4 * b + 2) < mbo (4 * a)))), (4, gi (gb (mbo (4 * a + 3) < mbo (4 * b + 1) ∨ mbo (4 * b + 3) < mbo (4 * a + 1))))], [gi 0]) rfl trivial ?_
          exact g_zret hX hE rfl (Or.inl rfl) ⟨(congrArg (fun z => some (gi z)) (gb_f (by unfold fsh mrw; simp only [Int.add_zero]; omega)).symm), rfl⟩
        ·
          have b107 := gb_nn b107
          refine G.go hX 2 (moW W H mth mbd mne mnw mmn mbx man mrs mrl mfl mpt mdf mlb mbo mwn mwo mxo myo mor mco mro mpw mph mrk mrb mrf mfr mfm med map mwh, 115, [(0, gr 60), (1, gi a), (2, gi b), (3, gi (gb (mbo (4 * a + 2) < mbo (4 * b) ∨ mbo (4 * b + 2) < mbo (4 * a)))), (4, gi (gb (mbo (4 * a + 3) < mbo (4 * b + 1) ∨ mbo (4 * b + 3) < mbo (4 * a + 1))))], [gi 1]) rfl trivial ?_
          exact g_zret hX hE rfl (Or.inr rfl) ⟨(congrArg (fun z => some (gi z)) (gb_t (by unfold fsh mrw; simp only [Int.add_zero]; omega)).symm), rfl⟩
    refine g_icmp_lt hX 94 rfl rfl (hbo _) (hbo _) (fun b68 => ?_) (fun b68 => ?_)
    ·
      refine G.go hX 2 (moW W H mth mbd mne mnw mmn mbx man mrs mrl mfl mpt mdf mlb mbo mwn mwo mxo myo mor mco mro mpw mph mrk mrb mrf mfr mfm med map mwh, 99, [(0, gr 60), (1, gi a), (2, gi b), (3, gi (gb (mbo (4 * a + 2) < mbo (4 * b) ∨ mbo (4 * b + 2) < mbo (4 * a))))], [gi 1]) rfl trivial ?_
      refine G.eq (S' := (moW W H mth mbd mne mnw mmn mbx man mrs mrl mfl mpt mdf mlb mbo mwn mwo mxo myo mor mco mro mpw mph mrk mrb mrf mfr mfm med map mwh, 99, [(0, gr 60), (1, gi a), (2, gi b), (3, gi (gb (mbo (4 * a + 2) < mbo (4 * b) ∨ mbo (4 * b + 2) < mbo (4 * a))))], [gi (gb (mbo (4 * a + 3) < mbo (4 * b + 1) ∨ mbo (4 * b + 3) < mbo (4 * a + 1)))])) ?_ jn99
      rw [gb_t (show mbo (4 * a + 3) < mbo (4 * b + 1) ∨ mbo (4 * b + 3) < mbo (4 * a + 1) by omega)]
    ·
      refine G.go hX 16 (moW W H mth mbd mne mnw mmn mbx man mrs mrl mfl mpt mdf mlb mbo mwn mwo mxo myo mor mco mro mpw mph mrk mrb mrf mfr mfm med map mwh, 91, [(0, gr 60), (1, gi a), (2, gi b), (3, gi (gb (mbo (4 * a + 2) < mbo (4 * b) ∨ mbo (4 * b + 2) < mbo (4 * a))))], [gi (mbo ((4 * a) + 1)), gi (mbo ((4 * b) + 3))]) rfl ?_ ?_
      · refine ⟨?_, ?_, trivial⟩
        · omega
        · omega
      refine g_icmp_ge hX 98 rfl rfl (hbo _) (hbo _) (fun b91 => ?_) (fun b91 => ?_)
      ·
        refine G.go hX 1 (moW W H mth mbd mne mnw mmn mbx man mrs mrl mfl mpt mdf mlb mbo mwn mwo mxo myo mor mco mro mpw mph mrk mrb mrf mfr mfm med map mwh, 99, [(0, gr 60), (1, gi a), (2, gi b), (3, gi (gb (mbo (4 * a + 2) < mbo (4 * b) ∨ mbo (4 * b + 2) < mbo (4 * a))))], [gi 0]) rfl trivial ?_
        refine G.eq (S' := (moW W H mth mbd mne mnw mmn mbx man mrs mrl mfl mpt mdf mlb mbo mwn mwo mxo myo mor mco mro mpw mph mrk mrb mrf mfr mfm med map mwh, 99, [(0, gr 60), (1, gi a), (2, gi b), (3, gi (gb (mbo (4 * a + 2) < mbo (4 * b) ∨ mbo (4 * b + 2) < mbo (4 * a))))], [gi (gb (mbo (4 * a + 3) < mbo (4 * b + 1) ∨ mbo (4 * b + 3) < mbo (4 * a + 1)))])) ?_ jn99
        rw [gb_f (show ¬ (mbo (4 * a + 3) < mbo (4 * b + 1) ∨ mbo (4 * b + 3) < mbo (4 * a + 1)) by omega)]
      ·
        refine G.go hX 2 (moW W H mth mbd mne mnw mmn mbx man mrs mrl mfl mpt mdf mlb mbo mwn mwo mxo myo mor mco mro mpw mph mrk mrb mrf mfr mfm med map mwh, 99, [(0, gr 60), (1, gi a), (2, gi b), (3, gi (gb (mbo (4 * a + 2) < mbo (4 * b) ∨ mbo (4 * b + 2) < mbo (4 * a))))], [gi 1]) rfl trivial ?_
        refine G.eq (S' := (moW W H mth mbd mne mnw mmn mbx man mrs mrl mfl mpt mdf mlb mbo mwn mwo mxo myo mor mco mro mpw mph mrk mrb mrf mfr mfm med map mwh, 99, [(0, gr 60), (1, gi a), (2, gi b), (3, gi (gb (mbo (4 * a + 2) < mbo (4 * b) ∨ mbo (4 * b + 2) < mbo (4 * a))))], [gi (gb (mbo (4 * a + 3) < mbo (4 * b + 1) ∨ mbo (4 * b + 3) < mbo (4 * a + 1)))])) ?_ jn99
        rw [gb_t (show mbo (4 * a + 3) < mbo (4 * b + 1) ∨ mbo (4 * b + 3) < mbo (4 * a + 1) by omega)]
  refine g_icmp_lt hX 42 rfl rfl (hbo _) (hbo _) (fun b18 => ?_) (fun b18 => ?_)
  ·
    refine G.go hX 2 (moW W H mth mbd mne mnw mmn mbx man mrs mrl mfl mpt mdf mlb mbo mwn mwo mxo myo mor mco mro mpw mph mrk mrb mrf mfr mfm med map mwh, 47, [(0, gr 60), (1, gi a), (2, gi b)], [gi 1]) rfl trivial ?_
    refine G.eq (S' := (moW W H mth mbd mne mnw mmn mbx man mrs mrl mfl mpt mdf mlb mbo mwn mwo mxo myo mor mco mro mpw mph mrk mrb mrf mfr mfm med map mwh, 47, [(0, gr 60), (1, gi a), (2, gi b)], [gi (gb (mbo (4 * a + 2) < mbo (4 * b) ∨ mbo (4 * b + 2) < mbo (4 * a)))])) ?_ jn47
    rw [gb_t (show mbo (4 * a + 2) < mbo (4 * b) ∨ mbo (4 * b + 2) < mbo (4 * a) by omega)]
  ·
    refine G.go hX 14 (moW W H mth mbd mne mnw mmn mbx man mrs mrl mfl mpt mdf mlb mbo mwn mwo mxo myo mor mco mro mpw mph mrk mrb mrf mfr mfm med map mwh, 39, [(0, gr 60), (1, gi a), (2, gi b)], [gi (mbo (4 * a)), gi (mbo ((4 * b) + 2))]) rfl ?_ ?_
    · refine ⟨?_, ?_, trivial⟩
      · omega
      · omega
    refine g_icmp_ge hX 46 rfl rfl (hbo _) (hbo _) (fun b39 => ?_) (fun b39 => ?_)
    ·
      refine G.go hX 1 (moW W H mth mbd mne mnw mmn mbx man mrs mrl mfl mpt mdf mlb mbo mwn mwo mxo myo mor mco mro mpw mph mrk mrb mrf mfr mfm med map mwh, 47, [(0, gr 60), (1, gi a), (2, gi b)], [gi 0]) rfl trivial ?_
      refine G.eq (S' := (moW W H mth mbd mne mnw mmn mbx man mrs mrl mfl mpt mdf mlb mbo mwn mwo mxo myo mor mco mro mpw mph mrk mrb mrf mfr mfm med map mwh, 47, [(0, gr 60), (1, gi a), (2, gi b)], [gi (gb (mbo (4 * a + 2) < mbo (4 * b) ∨ mbo (4 * b + 2) < mbo (4 * a)))])) ?_ jn47
      rw [gb_f (show ¬ (mbo (4 * a + 2) < mbo (4 * b) ∨ mbo (4 * b + 2) < mbo (4 * a)) by omega)]
    ·
      refine G.go hX 2 (moW W H mth mbd mne mnw mmn mbx man mrs mrl mfl mpt mdf mlb mbo mwn mwo mxo myo mor mco mro mpw mph mrk mrb mrf mfr mfm med map mwh, 47, [(0, gr 60), (1, gi a), (2, gi b)], [gi 1]) rfl trivial ?_
      refine G.eq (S' := (moW W H mth mbd mne mnw mmn mbx man mrs mrl mfl mpt mdf mlb mbo mwn mwo mxo myo mor mco mro mpw mph mrk mrb mrf mfr mfm med map mwh, 47, [(0, gr 60), (1, gi a), (2, gi b)], [gi (gb (mbo (4 * a + 2) < mbo (4 * b) ∨ mbo (4 * b + 2) < mbo (4 * a)))])) ?_ jn47
      rw [gb_t (show mbo (4 * a + 2) < mbo (4 * b) ∨ mbo (4 * b + 2) < mbo (4 * a) by omega)]
set_option maxHeartbeats 4000000 in
set_option maxRecDepth 100000 in
theorem c_X8_mostPlaces (l : Launch) (D : va_G) (cA : Nat → ClassId) (W : Nat) (H : Nat) (mth : Int) (mbd : Int) (mne : Int) (mnw : Int) (mmn : Int) (mbx : Int) (man : Int) (mrs : Int) (mrl : Int) (mfl : Int) (mpt : Int → Int) (mdf : Int → Int) (mlb : Int → Int) (mbo : Int → Int) (mwn : Int → Int) (mwo : Int → Int) (mxo : Int → Int) (myo : Int → Int) (mor : Int → Int) (mco : Int → Int) (mro : Int → Int) (mpw : Int → Int) (mph : Int → Int) (mrk : Int → Int) (mrb : Int → Int) (mrf : Int → Int) (mfr : Int → Int) (mfm : Int → Int) (med : Int → Int) (map : Int → Int) (mwh : Int → Int) (hbx : 0 ≤ mbx ∧ mbx ≤ 1024) (hb : ∀ i : Int, 0 ≤ i → i < mbx → 0 ≤ mbo (4 * i) ∧ mbo (4 * i) ≤ mbo (4 * i + 2) ∧ mbo (4 * i + 2) ≤ 31 ∧ 0 ≤ mbo (4 * i + 1) ∧ mbo (4 * i + 1) ≤ mbo (4 * i + 3) ∧ mbo (4 * i + 3) ≤ 31) :
    gC l D cA yX8_mostPlaces mX8_mostPlaces (some .int) 0 0 [gr 60] (moW W H mth mbd mne mnw mmn mbx man mrs mrl mfl mpt mdf mlb mbo mwn mwo mxo myo mor mco mro mpw mph mrk mrb mrf mfr mfm med map mwh) (fun r9 w9 => r9 = some (gi (gmx (fun i => (mbo (4 * i + 2) - mbo (4 * i) + 1) * (mbo (4 * i + 3) - mbo (4 * i + 1) + 1)) mbx.toNat)) ∧ w9 = moW W H mth mbd mne mnw mmn mbx man mrs mrl mfl mpt mdf mlb mbo mwn mwo mxo myo mor mco mro mpw mph mrk mrb mrf mfr mfm med map mwh) := by
  refine gC_of rfl kX8_mostPlaces rfl rfl (Nat.le_of_ble_eq_true rfl) (fun X ad hX hE => ?_)
  refine G.go hX 4 (moW W H mth mbd mne mnw mmn mbx man mrs mrl mfl mpt mdf mlb mbo mwn mwo mxo myo mor mco mro mpw mph mrk mrb mrf mfr mfm med map mwh, 4, [(0, gr 60), (1, gi 0), (2, gi 0)], []) rfl trivial ?_
  have lp4 : ∀ (n : Nat) (lg : Int) (i : Int), (0 ≤ i ∧ i ≤ mbx) → (lg = gmx (fun i => (mbo (4 * i + 2) - mbo (4 * i) + 1) * (mbo (4 * i + 3) - mbo (4 * i + 1) + 1)) i.toNat) → (0 ≤ lg ∧ lg ≤ 1024) → (mbx - i).toNat < n → G X mX8_mostPlaces ad 0 0 (moW W H mth mbd mne mnw mmn mbx man mrs mrl mfl mpt mdf mlb mbo mwn mwo mxo myo mor mco mro mpw mph mrk mrb mrf mfr mfm med map mwh, 4, [(0, gr 60), (1, gi lg), (2, gi i)], []) := by
    intro n
    induction n with
    | zero => intro lg i hi1 hlg hlb hm9; exact absurd hm9 (Nat.not_lt_zero _)
    | succ n ih4 =>
      intro lg i hi1 hlg hlb hm4
      refine G.go hX 3 (moW W H mth mbd mne mnw mmn mbx man mrs mrl mfl mpt mdf mlb mbo mwn mwo mxo myo mor mco mro mpw mph mrk mrb mrf mfr mfm med map mwh, 9, [(0, gr 60), (1, gi lg), (2, gi i)], [gi mbx, gi i]) rfl trivial ?_
      refine g_icmp_ge hX 75 rfl rfl ⟨by omega, by omega⟩ ⟨by omega, by omega⟩ (fun b9 => ?_) (fun b9 => ?_)
      ·
        refine G.go hX 1 (moW W H mth mbd mne mnw mmn mbx man mrs mrl mfl mpt mdf mlb mbo mwn mwo mxo myo mor mco mro mpw mph mrk mrb mrf mfr mfm med map mwh, 76, [(0, gr 60), (1, gi lg), (2, gi i)], [gi lg]) rfl trivial ?_
        exact g_iret hX hE rfl ⟨(congrArg (fun z => some (gi z)) (by first | rfl | (rw [hlg, show i = mbx by omega]))), rfl⟩
      ·
        have hbi := hb i (by omega) (by omega)
        have hmu := gmul_le (a := mbo (4 * i + 2) - mbo (4 * i) + 1) (b := mbo (4 * i + 3) - mbo (4 * i + 1) + 1) (c := 32) (d := 32) (by omega) (by omega) (by omega) (by omega)
        refine G.go hX 40 (moW W H mth mbd mne mnw mmn mbx man mrs mrl mfl mpt mdf mlb mbo mwn mwo mxo myo mor mco mro mpw mph mrk mrb mrf mfr mfm med map mwh, 60, [(0, gr 60), (1, gi lg), (2, gi i), (3, gi ((((mbo ((4 * i) + 2)) - (mbo (4 * i))) + 1) * (((mbo ((4 * i) + 3)) - (mbo ((4 * i) + 1))) + 1)))], [gi lg, gi ((((mbo ((4 * i) + 2)) - (mbo (4 * i))) + 1) * (((mbo ((4 * i) + 3)) - (mbo ((4 * i) + 1))) + 1))]) rfl ?_ ?_
        · refine ⟨?_, ?_, ?_, ?_, trivial⟩
          · omega
          · omega
          · omega
          · omega
        have jn68 : G X mX8_mostPlaces ad 0 0 (moW W H mth mbd mne mnw mmn mbx man mrs mrl mfl mpt mdf mlb mbo mwn mwo mxo myo mor mco mro mpw mph mrk mrb mrf mfr mfm med map mwh, 68, [(0, gr 60), (1, gi lg), (2, gi i), (3, gi ((((mbo ((4 * i) + 2)) - (mbo (4 * i))) + 1) * (((mbo ((4 * i) + 3)) - (mbo ((4 * i) + 1))) + 1)))], [gi (max lg ((((mbo ((4 * i) + 2)) - (mbo (4 * i))) + 1) * (((mbo ((4 * i) + 3)) - (mbo ((4 * i) + 1))) + 1)))]) := by
          refine G.go hX 3 (moW W H mth mbd mne mnw mmn mbx man mrs mrl mfl mpt mdf mlb mbo mwn mwo mxo myo mor mco mro mpw mph mrk mrb mrf mfr mfm med map mwh, 4, [(0, gr 60), (1, gi (max lg ((((mbo ((4 * i) + 2)) - (mbo (4 * i))) + 1) * (((mbo ((4 * i) + 3)) - (mbo ((4 * i) + 1))) + 1)))), (2, gi (i + 1)), (3, gi ((((mbo ((4 * i) + 2)) - (mbo (4 * i))) + 1) * (((mbo ((4 * i) + 3)) - (mbo ((4 * i) + 1))) + 1)))], []) rfl trivial ?_
          refine G.locs [(0, gr 60), (1, gi (max lg ((((mbo ((4 * i) + 2)) - (mbo (4 * i))) + 1) * (((mbo ((4 * i) + 3)) - (mbo ((4 * i) + 1))) + 1)))), (2, gi (i + 1))] [0, 1, 2] rfl ?_
          exact ih4 (max lg ((((mbo ((4 * i) + 2)) - (mbo (4 * i))) + 1) * (((mbo ((4 * i) + 3)) - (mbo ((4 * i) + 1))) + 1))) (i + 1) (by omega) (by rw [hlg, show (i + 1).toNat = i.toNat + 1 by omega]; show max _ _ = max _ _; rw [show ((i.toNat : Nat) : Int) = i by omega]) (by omega) (by omega)
        refine g_icmp_le hX 67 rfl rfl ⟨by omega, by omega⟩ ⟨by omega, by omega⟩ (fun b60 => ?_) (fun b60 => ?_)
        ·
          refine G.go hX 1 (moW W H mth mbd mne mnw mmn mbx man mrs mrl mfl mpt mdf mlb mbo mwn mwo mxo myo mor mco mro mpw mph mrk mrb mrf mfr mfm med map mwh, 68, [(0, gr 60), (1, gi lg), (2, gi i), (3, gi ((((mbo ((4 * i) + 2)) - (mbo (4 * i))) + 1) * (((mbo ((4 * i) + 3)) - (mbo ((4 * i) + 1))) + 1)))], [gi lg]) rfl trivial ?_
          refine G.eq (S' := (moW W H mth mbd mne mnw mmn mbx man mrs mrl mfl mpt mdf mlb mbo mwn mwo mxo myo mor mco mro mpw mph mrk mrb mrf mfr mfm med map mwh, 68, [(0, gr 60), (1, gi lg), (2, gi i), (3, gi ((((mbo ((4 * i) + 2)) - (mbo (4 * i))) + 1) * (((mbo ((4 * i) + 3)) - (mbo ((4 * i) + 1))) + 1)))], [gi (max lg ((((mbo ((4 * i) + 2)) - (mbo (4 * i))) + 1) * (((mbo ((4 * i) + 3)) - (mbo ((4 * i) + 1))) + 1)))])) ?_ jn68
          rw [show max lg ((((mbo ((4 * i) + 2)) - (mbo (4 * i))) + 1) * (((mbo ((4 * i) + 3)) - (mbo ((4 * i) + 1))) + 1)) = lg by omega]
        ·
          refine G.go hX 2 (moW W H mth mbd mne mnw mmn mbx man mrs mrl mfl mpt mdf mlb mbo mwn mwo mxo myo mor mco mro mpw mph mrk mrb mrf mfr mfm med map mwh, 68, [(0, gr 60), (1, gi lg), (2, gi i), (3, gi ((((mbo ((4 * i) + 2)) - (mbo (4 * i))) + 1) * (((mbo ((4 * i) + 3)) - (mbo ((4 * i) + 1))) + 1)))], [gi ((((mbo ((4 * i) + 2)) - (mbo (4 * i))) + 1) * (((mbo ((4 * i) + 3)) - (mbo ((4 * i) + 1))) + 1))]) rfl trivial ?_
          refine G.eq (S' := (moW W H mth mbd mne mnw mmn mbx man mrs mrl mfl mpt mdf mlb mbo mwn mwo mxo myo mor mco mro mpw mph mrk mrb mrf mfr mfm med map mwh, 68, [(0, gr 60), (1, gi lg), (2, gi i), (3, gi ((((mbo ((4 * i) + 2)) - (mbo (4 * i))) + 1) * (((mbo ((4 * i) + 3)) - (mbo ((4 * i) + 1))) + 1)))], [gi (max lg ((((mbo ((4 * i) + 2)) - (mbo (4 * i))) + 1) * (((mbo ((4 * i) + 3)) - (mbo ((4 * i) + 1))) + 1)))])) ?_ jn68
          rw [show max lg ((((mbo ((4 * i) + 2)) - (mbo (4 * i))) + 1) * (((mbo ((4 * i) + 3)) - (mbo ((4 * i) + 1))) + 1)) = (((mbo ((4 * i) + 2)) - (mbo (4 * i))) + 1) * (((mbo ((4 * i) + 3)) - (mbo ((4 * i) + 1))) + 1) by omega]
  exact lp4 _ 0 0 (by omega) (by rfl) (by omega) (Nat.lt_succ_self _)
set_option maxHeartbeats 4000000 in
set_option maxRecDepth 100000 in
theorem c_X8_countRows (l : Launch) (D : va_G) (cA : Nat → ClassId) (W : Nat) (H : Nat) (mth : Int) (mbd : Int) (mne : Int) (mnw : Int) (mmn : Int) (mbx : Int) (man : Int) (mrs : Int) (mrl : Int) (mfl : Int) (mpt : Int → Int) (mdf : Int → Int) (mlb : Int → Int) (mbo : Int → Int) (mwn : Int → Int) (mwo : Int → Int) (mxo : Int → Int) (myo : Int → Int) (mor : Int → Int) (mco : Int → Int) (mro : Int → Int) (mpw : Int → Int) (mph : Int → Int) (mrk : Int → Int) (mrb : Int → Int) (mrf : Int → Int) (mfr : Int → Int) (mfm : Int → Int) (med : Int → Int) (map : Int → Int) (mwh : Int → Int) (o : Int) (t : Int) (hrs : 0 ≤ mrs ∧ mrs ≤ 80) (hro : ∀ q : Int, inR (mro q)) (ho : inR o) (ht : inR t) :
    gC l D cA yX8_countRows mX8_countRows (some .int) 0 0 [gr 60, gi o, gi t] (moW W H mth mbd mne mnw mmn mbx man mrs mrl mfl mpt mdf mlb mbo mwn mwo mxo myo mor mco mro mpw mph mrk mrb mrf mfr mfm med map mwh) (fun r9 w9 => r9 = some (gi (gsm (fun q => gb (0 < mro (4 * q) ∧ (mro (4 * q) = o ∨ mro (4 * q) = t))) mrs.toNat)) ∧ w9 = moW W H mth mbd mne mnw mmn mbx man mrs mrl mfl mpt mdf mlb mbo mwn mwo mxo myo mor mco mro mpw mph mrk mrb mrf mfr mfm med map mwh) := by
  refine gC_of rfl kX8_countRows rfl rfl (Nat.le_of_ble_eq_true rfl) (fun X ad hX hE => ?_)
  refine G.go hX 4 (moW W H mth mbd mne mnw mmn mbx man mrs mrl mfl mpt mdf mlb mbo mwn mwo mxo myo mor mco mro mpw mph mrk mrb mrf mfr mfm med map mwh, 5, [(0, gr 60), (1, gi o), (2, gi t), (3, gi 0), (4, gi 0)], []) rfl trivial ?_
  have lp5 : ∀ (n : Nat) (n1 : Int) (i : Int), (0 ≤ i ∧ i ≤ mrs) → (n1 = gsm (fun q => gb (0 < mro (4 * q) ∧ (mro (4 * q) = o ∨ mro (4 * q) = t))) i.toNat) → (mrs - i).toNat < n → G X mX8_countRows ad 0 0 (moW W H mth mbd mne mnw mmn mbx man mrs mrl mfl mpt mdf mlb mbo mwn mwo mxo myo mor mco mro mpw mph mrk mrb mrf mfr mfm med map mwh, 5, [(0, gr 60), (1, gi o), (2, gi t), (3, gi n1), (4, gi i)], []) := by
    intro n
    induction n with
    | zero => intro n1 i hi hn hm9; exact absurd hm9 (Nat.not_lt_zero _)
    | succ n ih5 =>
      intro n1 i hi hn hm5
      refine G.go hX 3 (moW W H mth mbd mne mnw mmn mbx man mrs mrl mfl mpt mdf mlb mbo mwn mwo mxo myo mor mco mro mpw mph mrk mrb mrf mfr mfm med map mwh, 11, [(0, gr 60), (1, gi o), (2, gi t), (3, gi n1), (4, gi i)], [gi mrs, gi i]) rfl trivial ?_
      refine g_icmp_ge hX 66 rfl rfl ⟨by omega, by omega⟩ ⟨by omega, by omega⟩ (fun b11 => ?_) (fun b11 => ?_)
      ·
        refine G.go hX 1 (moW W H mth mbd mne mnw mmn mbx man mrs mrl mfl mpt mdf mlb mbo mwn mwo mxo myo mor mco mro mpw mph mrk mrb mrf mfr mfm med map mwh, 67, [(0, gr 60), (1, gi o), (2, gi t), (3, gi n1), (4, gi i)], [gi n1]) rfl trivial ?_
        exact g_iret hX hE rfl ⟨(congrArg (fun z => some (gi z)) (by first | rfl | (rw [hn, show i = mrs by omega]))), rfl⟩
      ·
        refine G.go hX 6 (moW W H mth mbd mne mnw mmn mbx man mrs mrl mfl mpt mdf mlb mbo mwn mwo mxo myo mor mco mro mpw mph mrk mrb mrf mfr mfm med map mwh, 23, [(0, gr 60), (1, gi o), (2, gi t), (3, gi n1), (4, gi i)], [gi (mro (4 * i))]) rfl ?_ ?_
        · refine ⟨?_, trivial⟩
          · omega
        refine g_if_le hX 58 rfl rfl (hro _) (fun b23 => ?_) (fun b23 => ?_)
        ·
          refine G.go hX 4 (moW W H mth mbd mne mnw mmn mbx man mrs mrl mfl mpt mdf mlb mbo mwn mwo mxo myo mor mco mro mpw mph mrk mrb mrf mfr mfm med map mwh, 5, [(0, gr 60), (1, gi o), (2, gi t), (3, gi n1), (4, gi (i + 1))], []) rfl trivial ?_
          exact ih5 n1 (i + 1) (by omega) (by have h9 := gsm_next (fun q => gb (0 < mro (4 * q) ∧ (mro (4 * q) = o ∨ mro (4 * q) = t))) hi.1 hn; first | (rw [gb_t (by omega)] at h9; exact h9) | (rw [gb_f (by omega)] at h9; omega)) (by omega)
        ·
          refine G.go hX 7 (moW W H mth mbd mne mnw mmn mbx man mrs mrl mfl mpt mdf mlb mbo mwn mwo mxo myo mor mco mro mpw mph mrk mrb mrf mfr mfm med map mwh, 36, [(0, gr 60), (1, gi o), (2, gi t), (3, gi n1), (4, gi i)], [gi o, gi (mro (4 * i))]) rfl ?_ ?_
          · refine ⟨?_, trivial⟩
            · omega
          refine g_icmp_eq hX 52 rfl rfl (by first | exact hro _ | assumption) (by first | exact hro _ | assumption) (fun b36 => ?_) (fun b36 => ?_)
          ·
            refine G.go hX 7 (moW W H mth mbd mne mnw mmn mbx man mrs mrl mfl mpt mdf mlb mbo mwn mwo mxo myo mor mco mro mpw mph mrk mrb mrf mfr mfm med map mwh, 5, [(0, gr 60), (1, gi o), (2, gi t), (3, gi (n1 + 1)), (4, gi (i + 1))], []) rfl trivial ?_
            exact ih5 (n1 + 1) (i + 1) (by omega) (by have h9 := gsm_next (fun q => gb (0 < mro (4 * q) ∧ (mro (4 * q) = o ∨ mro (4 * q) = t))) hi.1 hn; first | (rw [gb_t (by omega)] at h9; exact h9) | (rw [gb_f (by omega)] at h9; omega)) (by omega)
          ·
            refine G.go hX 7 (moW W H mth mbd mne mnw mmn mbx man mrs mrl mfl mpt mdf mlb mbo mwn mwo mxo myo mor mco mro mpw mph mrk mrb mrf mfr mfm med map mwh, 49, [(0, gr 60), (1, gi o), (2, gi t), (3, gi n1), (4, gi i)], [gi t, gi (mro (4 * i))]) rfl ?_ ?_
            · refine ⟨?_, trivial⟩
              · omega
            refine g_icmp_ne hX 58 rfl rfl (by first | exact hro _ | assumption) (by first | exact hro _ | assumption) (fun b49 => ?_) (fun b49 => ?_)
            ·
              refine G.go hX 4 (moW W H mth mbd mne mnw mmn mbx man mrs mrl mfl mpt mdf mlb mbo mwn mwo mxo myo mor mco mro mpw mph mrk mrb mrf mfr mfm med map mwh, 5, [(0, gr 60), (1, gi o), (2, gi t), (3, gi n1), (4, gi (i + 1))], []) rfl trivial ?_
              exact ih5 n1 (i + 1) (by omega) (by have h9 := gsm_next (fun q => gb (0 < mro (4 * q) ∧ (mro (4 * q) = o ∨ mro (4 * q) = t))) hi.1 hn; first | (rw [gb_t (by omega)] at h9; exact h9) | (rw [gb_f (by omega)] at h9; omega)) (by omega)
            ·
              refine G.go hX 7 (moW W H mth mbd mne mnw mmn mbx man mrs mrl mfl mpt mdf mlb mbo mwn mwo mxo myo mor mco mro mpw mph mrk mrb mrf mfr mfm med map mwh, 5, [(0, gr 60), (1, gi o), (2, gi t), (3, gi (n1 + 1)), (4, gi (i + 1))], []) rfl trivial ?_
              exact ih5 (n1 + 1) (i + 1) (by omega) (by have h9 := gsm_next (fun q => gb (0 < mro (4 * q) ∧ (mro (4 * q) = o ∨ mro (4 * q) = t))) hi.1 hn; first | (rw [gb_t (by omega)] at h9; exact h9) | (rw [gb_f (by omega)] at h9; omega)) (by omega)
  exact lp5 _ 0 0 (by omega) (by rfl) (Nat.lt_succ_self _)
set_option maxHeartbeats 4000000 in
set_option maxRecDepth 100000 in
theorem c_X8_missing (l : Launch) (D : va_G) (cA : Nat → ClassId) (W : Nat) (H : Nat) (mth : Int) (mbd : Int) (mne : Int) (mnw : Int) (mmn : Int) (mbx : Int) (man : Int) (mrs : Int) (mrl : Int) (mfl : Int) (mpt : Int → Int) (mdf : Int → Int) (mlb : Int → Int) (mbo : Int → Int) (mwn : Int → Int) (mwo : Int → Int) (mxo : Int → Int) (myo : Int → Int) (mor : Int → Int) (mco : Int → Int) (mro : Int → Int) (mpw : Int → Int) (mph : Int → Int) (mrk : Int → Int) (mrb : Int → Int) (mrf : Int → Int) (mfr : Int → Int) (mfm : Int → Int) (med : Int → Int) (map : Int → Int) (mwh : Int → Int) (i : Int) (hi : inR i) (hpw : ∀ q : Int, inR (mpw q)) :
    gC l D cA yX8_missing mX8_missing (some .int) 0 0 [gr 60, gi i] (moW W H mth mbd mne mnw mmn mbx man mrs mrl mfl mpt mdf mlb mbo mwn mwo mxo myo mor mco mro mpw mph mrk mrb mrf mfr mfm med map mwh) (fun r9 w9 => ∃ (rv : Int) (th : Int), r9 = some (gi rv) ∧ w9 = moW W H th mbd mne mnw mmn mbx man mrs mrl mfl mpt mdf mlb mbo mwn mwo mxo myo mor mco mro mpw mph mrk mrb mrf mfr mfm med map mwh ∧ (i = -1 → th = 0 ∧ rv = gsm (fun q => gb (mms mpw q)) 20) ∧ (0 ≤ i → i < gsm (fun q => gb (mms mpw q)) 20 → th = 0 ∧ ∃ pg : Int, (0 ≤ pg ∧ pg < 20) ∧ mms mpw pg ∧ gsm (fun q => gb (mms mpw q)) pg.toNat = i ∧ rv = 2 * pg + gb (¬ 0 < mpw (20 + pg))) ∧ (i ≠ -1 → ¬ (0 ≤ i ∧ i < gsm (fun q => gb (mms mpw q)) 20) → th = 1 ∧ rv = 0)) := by
  refine gC_of rfl kX8_missing rfl rfl (Nat.le_of_ble_eq_true rfl) (fun X ad hX hE => ?_)
  refine G.go hX 11 (moW W H 0 mbd mne mnw mmn mbx man mrs mrl mfl mpt mdf mlb mbo mwn mwo mxo myo mor mco mro mpw mph mrk mrb mrf mfr mfm med map mwh, 15, [(0, gr 60), (1, gi i), (2, gi 0), (3, gi 0), (4, gi 0), (5, gi 0)], []) rfl trivial ?_
  have lp15 : ∀ (n : Nat) (n1 : Int) (to : Int) (fo : Int) (p : Int), (0 ≤ p ∧ p ≤ 20) → (n1 = gsm (fun q => gb (mms mpw q)) p.toNat) → (fo = gb (0 ≤ i ∧ i < n1)) → (0 ≤ i → i < n1 → ∃ pg : Int, (0 ≤ pg ∧ pg < p) ∧ mms mpw pg ∧ gsm (fun q => gb (mms mpw q)) pg.toNat = i ∧ to = 2 * pg + gb (¬ 0 < mpw (20 + pg))) → (20 - p).toNat < n → G X mX8_missing ad 0 0 (moW W H 0 mbd mne mnw mmn mbx man mrs mrl mfl mpt mdf mlb mbo mwn mwo mxo myo mor mco mro mpw mph mrk mrb mrf mfr mfm med map mwh, 15, [(0, gr 60), (1, gi i), (2, gi n1), (3, gi to), (4, gi fo), (5, gi p)], []) := by
    intro n
    induction n with
    | zero => intro n1 to fo p hp hn hfo hto hm9; exact absurd hm9 (Nat.not_lt_zero _)
    | succ n ih15 =>
      intro n1 to fo p hp hn hfo hto hm15
      have hnb := gsm_gb (mms mpw) p.toNat
      have hf01 := gb_01 (0 ≤ i ∧ i < n1)
      refine G.go hX 2 (moW W H 0 mbd mne mnw mmn mbx man mrs mrl mfl mpt mdf mlb mbo mwn mwo mxo myo mor mco mro mpw mph mrk mrb mrf mfr mfm med map mwh, 19, [(0, gr 60), (1, gi i), (2, gi n1), (3, gi to), (4, gi fo), (5, gi p)], [gi 20, gi p]) rfl trivial ?_
      refine g_icmp_ge hX 117 rfl rfl ⟨by omega, by omega⟩ ⟨by omega, by omega⟩ (fun b19 => ?_) (fun b19 => ?_)
      ·
        have hp20 : p = 20 := by omega
        have hn20 : n1 = gsm (fun q => gb (mms mpw q)) 20 := by (rw [hn, hp20]; rfl)
        refine G.go hX 2 (moW W H 0 mbd mne mnw mmn mbx man mrs mrl mfl mpt mdf mlb mbo mwn mwo mxo myo mor mco mro mpw mph mrk mrb mrf mfr mfm med map mwh, 119, [(0, gr 60), (1, gi i), (2, gi n1), (3, gi to), (4, gi fo), (5, gi p)], [gi (-1), gi i]) rfl trivial ?_
        refine g_icmp_ne hX 124 rfl rfl ⟨by omega, by omega⟩ ⟨by omega, by omega⟩ (fun b119 => ?_) (fun b119 => ?_)
        ·
          refine G.go hX 2 (moW W H 0 mbd mne mnw mmn mbx man mrs mrl mfl mpt mdf mlb mbo mwn mwo mxo myo mor mco mro mpw mph mrk mrb mrf mfr mfm med map mwh, 127, [(0, gr 60), (1, gi i), (2, gi n1), (3, gi to), (4, gi fo), (5, gi p)], [gi fo, gr 60]) rfl trivial ?_
          refine g_if_eq hX 134 rfl rfl ⟨by omega, by omega⟩ (fun b127 => ?_) (fun b127 => ?_)
          ·
            refine G.go hX 3 (moW W H 1 mbd mne mnw mmn mbx man mrs mrl mfl mpt mdf mlb mbo mwn mwo mxo myo mor mco mro mpw mph mrk mrb mrf mfr mfm med map mwh, 140, [(0, gr 60), (1, gi i), (2, gi n1), (3, gi to), (4, gi fo), (5, gi p)], [gi fo]) rfl trivial ?_
            refine g_if_eq hX 147 rfl rfl ⟨by omega, by omega⟩ (fun b140 => ?_) (fun b140 => ?_)
            ·
              refine G.go hX 1 (moW W H 1 mbd mne mnw mmn mbx man mrs mrl mfl mpt mdf mlb mbo mwn mwo mxo myo mor mco mro mpw mph mrk mrb mrf mfr mfm med map mwh, 148, [(0, gr 60), (1, gi i), (2, gi n1), (3, gi to), (4, gi fo), (5, gi p)], [gi 0]) rfl trivial ?_
              exact g_iret hX hE rfl ⟨0, 1, rfl, rfl, fun h9 => by (exfalso; omega), fun h1 h2 => by (have h8 := gb_0 (P := 0 ≤ i ∧ i < n1) |>.mp (by omega); exfalso; omega), fun _ _ => ⟨rfl, rfl⟩⟩
            ·
              refine G.go hX 2 (moW W H 1 mbd mne mnw mmn mbx man mrs mrl mfl mpt mdf mlb mbo mwn mwo mxo myo mor mco mro mpw mph mrk mrb mrf mfr mfm med map mwh, 148, [(0, gr 60), (1, gi i), (2, gi n1), (3, gi to), (4, gi fo), (5, gi p)], [gi to]) rfl trivial ?_
              exact g_iret hX hE rfl (by exfalso; omega)
          ·
            refine G.go hX 4 (moW W H 0 mbd mne mnw mmn mbx man mrs mrl mfl mpt mdf mlb mbo mwn mwo mxo myo mor mco mro mpw mph mrk mrb mrf mfr mfm med map mwh, 140, [(0, gr 60), (1, gi i), (2, gi n1), (3, gi to), (4, gi fo), (5, gi p)], [gi fo]) rfl trivial ?_
            refine g_if_eq hX 147 rfl rfl ⟨by omega, by omega⟩ (fun b140 => ?_) (fun b140 => ?_)
            ·
              refine G.go hX 1 (moW W H 0 mbd mne mnw mmn mbx man mrs mrl mfl mpt mdf mlb mbo mwn mwo mxo myo mor mco mro mpw mph mrk mrb mrf mfr mfm med map mwh, 148, [(0, gr 60), (1, gi i), (2, gi n1), (3, gi to), (4, gi fo), (5, gi p)], [gi 0]) rfl trivial ?_
              exact g_iret hX hE rfl (by exfalso; omega)
            ·
              refine G.go hX 2 (moW W H 0 mbd mne mnw mmn mbx man mrs mrl mfl mpt mdf mlb mbo mwn mwo mxo myo mor mco mro mpw mph mrk mrb mrf mfr mfm med map mwh, 148, [(0, gr 60), (1, gi i), (2, gi n1), (3, gi to), (4, gi fo), (5, gi p)], [gi to]) rfl trivial ?_
              exact g_iret hX hE rfl ⟨to, 0, rfl, rfl, fun h9 => by (exfalso; omega), fun h1 h2 => ⟨rfl, by (obtain ⟨pg, k1, k2, k3, k4⟩ := hto h1 (by omega); exact ⟨pg, by omega, k2, k3, k4⟩)⟩, fun _ h9 => by (have h8 := gb_n0 (P := 0 ≤ i ∧ i < n1) (by omega); exfalso; omega)⟩
        ·
          refine G.go hX 1 (moW W H 0 mbd mne mnw mmn mbx man mrs mrl mfl mpt mdf mlb mbo mwn mwo mxo myo mor mco mro mpw mph mrk mrb mrf mfr mfm med map mwh, 123, [(0, gr 60), (1, gi i), (2, gi n1), (3, gi to), (4, gi fo), (5, gi p)], [gi n1]) rfl trivial ?_
          exact g_iret hX hE rfl ⟨n1, 0, rfl, rfl, fun _ => ⟨rfl, hn20⟩, fun h9 => by (exfalso; omega), fun h9 => by (exfalso; omega)⟩
      ·
        refine G.go hX 4 (moW W H 0 mbd mne mnw mmn mbx man mrs mrl mfl mpt mdf mlb mbo mwn mwo mxo myo mor mco mro mpw mph mrk mrb mrf mfr mfm med map mwh, 29, [(0, gr 60), (1, gi i), (2, gi n1), (3, gi to), (4, gi fo), (5, gi p)], [gi (mpw p)]) rfl ?_ ?_
        · refine ⟨?_, trivial⟩
          · omega
        have jn37 : G X mX8_missing ad 0 0 (moW W H 0 mbd mne mnw mmn mbx man mrs mrl mfl mpt mdf mlb mbo mwn mwo mxo myo mor mco mro mpw mph mrk mrb mrf mfr mfm med map mwh, 37, [(0, gr 60), (1, gi i), (2, gi n1), (3, gi to), (4, gi fo), (5, gi p)], [gi (gb (0 < mpw p))]) := by
          refine G.go hX 7 (moW W H 0 mbd mne mnw mmn mbx man mrs mrl mfl mpt mdf mlb mbo mwn mwo mxo myo mor mco mro mpw mph mrk mrb mrf mfr mfm med map mwh, 49, [(0, gr 60), (1, gi i), (2, gi n1), (3, gi to), (4, gi fo), (5, gi p), (6, gi (gb (0 < mpw p)))], [gi (mpw (20 + p))]) rfl ?_ ?_
          · refine ⟨?_, trivial⟩
            · omega
          have jn57 : G X mX8_missing ad 0 0 (moW W H 0 mbd mne mnw mmn mbx man mrs mrl mfl mpt mdf mlb mbo mwn mwo mxo myo mor mco mro mpw mph mrk mrb mrf mfr mfm med map mwh, 57, [(0, gr 60), (1, gi i), (2, gi n1), (3, gi to), (4, gi fo), (5, gi p), (6, gi (gb (0 < mpw p)))], [gi (gb (0 < mpw (20 + p)))]) := by
            refine G.go hX 3 (moW W H 0 mbd mne mnw mmn mbx man mrs mrl mfl mpt mdf mlb mbo mwn mwo mxo myo mor mco mro mpw mph mrk mrb mrf mfr mfm med map mwh, 63, [(0, gr 60), (1, gi i), (2, gi n1), (3, gi to), (4, gi fo), (5, gi p), (6, gi (gb (0 < mpw p))), (7, gi (gb (0 < mpw (20 + p))))], [gi (gb (0 < mpw (20 + p))), gi (gb (0 < mpw p))]) rfl trivial ?_
            refine g_icmp_eq hX 111 rfl rfl (gb_r _) (gb_r _) (fun b63 => ?_) (fun b63 => ?_)
            ·
              refine G.go hX 2 (moW W H 0 mbd mne mnw mmn mbx man mrs mrl mfl mpt mdf mlb mbo mwn mwo mxo myo mor mco mro mpw mph mrk mrb mrf mfr mfm med map mwh, 15, [(0, gr 60), (1, gi i), (2, gi n1), (3, gi to), (4, gi fo), (5, gi (p + 1)), (6, gi (gb (0 < mpw p))), (7, gi (gb (0 < mpw (20 + p))))], []) rfl trivial ?_
              refine G.locs [(0, gr 60), (1, gi i), (2, gi n1), (3, gi to), (4, gi fo), (5, gi (p + 1))] [0, 1, 2, 3, 4, 5] rfl ?_
              exact ih15 n1 to fo (p + 1) (by omega) (by have h9 := gsm_next (fun q => gb (mms mpw q)) hp.1 hn; rw [gb_f (P := mms mpw p) (fun h8 => h8 (gb_eq b63))] at h9; omega) (by exact hfo) (by intro h1 h2; obtain ⟨pg, k1, k2, k3, k4⟩ := hto h1 h2; exact ⟨pg, by omega, k2, k3, k4⟩) (by omega)
            ·
              refine G.go hX 1 (moW W H 0 mbd mne mnw mmn mbx man mrs mrl mfl mpt mdf mlb mbo mwn mwo mxo myo mor mco mro mpw mph mrk mrb mrf mfr mfm med map mwh, 68, [(0, gr 60), (1, gi i), (2, gi n1), (3, gi to), (4, gi fo), (5, gi p), (6, gi (gb (0 < mpw p))), (7, gi (gb (0 < mpw (20 + p))))], [gi fo]) rfl trivial ?_
              have jn81 : G X mX8_missing ad 0 0 (moW W H 0 mbd mne mnw mmn mbx man mrs mrl mfl mpt mdf mlb mbo mwn mwo mxo myo mor mco mro mpw mph mrk mrb mrf mfr mfm med map mwh, 81, [(0, gr 60), (1, gi i), (2, gi n1), (3, gi to), (4, gi fo), (5, gi p), (6, gi (gb (0 < mpw p))), (7, gi (gb (0 < mpw (20 + p))))], [gi (gb (0 ≤ i ∧ i < n1 + 1))]) := by
                refine G.go hX 3 (moW W H 0 mbd mne mnw mmn mbx man mrs mrl mfl mpt mdf mlb mbo mwn mwo mxo myo mor mco mro mpw mph mrk mrb mrf mfr mfm med map mwh, 85, [(0, gr 60), (1, gi i), (2, gi n1), (3, gi to), (4, gi (gb (0 ≤ i ∧ i < n1 + 1))), (5, gi p), (6, gi (gb (0 < mpw p))), (7, gi (gb (0 < mpw (20 + p))))], [gi i, gi n1]) rfl trivial ?_
                have jn107 : G X mX8_missing ad 0 0 (moW W H 0 mbd mne mnw mmn mbx man mrs mrl mfl mpt mdf mlb mbo mwn mwo mxo myo mor mco mro mpw mph mrk mrb mrf mfr mfm med map mwh, 107, [(0, gr 60), (1, gi i), (2, gi n1), (3, gi to), (4, gi (gb (0 ≤ i ∧ i < n1 + 1))), (5, gi p), (6, gi (gb (0 < mpw p))), (7, gi (gb (0 < mpw (20 + p))))], [gi (if n1 = i then 2 * p + gb (¬ 0 < mpw (20 + p)) else to)]) := by
                  refine G.go hX 4 (moW W H 0 mbd mne mnw mmn mbx man mrs mrl mfl mpt mdf mlb mbo mwn mwo mxo myo mor mco mro mpw mph mrk mrb mrf mfr mfm med map mwh, 15, [(0, gr 60), (1, gi i), (2, gi (n1 + 1)), (3, gi (if n1 = i then 2 * p + gb (¬ 0 < mpw (20 + p)) else to)), (4, gi (gb (0 ≤ i ∧ i < n1 + 1))), (5, gi (p + 1)), (6, gi (gb (0 < mpw p))), (7, gi (gb (0 < mpw (20 + p))))], []) rfl trivial ?_
                  refine G.locs [(0, gr 60), (1, gi i), (2, gi (n1 + 1)), (3, gi (if n1 = i then 2 * p + gb (¬ 0 < mpw (20 + p)) else to)), (4, gi (gb (0 ≤ i ∧ i < n1 + 1))), (5, gi (p + 1))] [0, 1, 2, 3, 4, 5] rfl ?_
                  exact ih15 (n1 + 1) (if n1 = i then 2 * p + gb (¬ 0 < mpw (20 + p)) else to) (gb (0 ≤ i ∧ i < n1 + 1)) (p + 1) (by omega) (by have h9 := gsm_next (fun q => gb (mms mpw q)) hp.1 hn; rw [gb_t (P := mms mpw p) (gb_ne b63)] at h9; exact h9) (by rfl) (by intro h1 h2; by_cases e9 : n1 = i; exact ⟨p, by omega, gb_ne b63, by omega, by rw [if_pos e9]⟩; (obtain ⟨pg, k1, k2, k3, k4⟩ := hto h1 (by omega); exact ⟨pg, by omega, k2, k3, by rw [if_neg e9]; exact k4⟩)) (by omega)
                refine g_icmp_ne hX 106 rfl rfl (by first | assumption | exact ⟨by omega, by omega⟩) (by first | assumption | exact ⟨by omega, by omega⟩) (fun b85 => ?_) (fun b85 => ?_)
                ·
                  refine G.go hX 1 (moW W H 0 mbd mne mnw mmn mbx man mrs mrl mfl mpt mdf mlb mbo mwn mwo mxo myo mor mco mro mpw mph mrk mrb mrf mfr mfm med map mwh, 107, [(0, gr 60), (1, gi i), (2, gi n1), (3, gi to), (4, gi (gb (0 ≤ i ∧ i < n1 + 1))), (5, gi p), (6, gi (gb (0 < mpw p))), (7, gi (gb (0 < mpw (20 + p))))], [gi to]) rfl trivial ?_
                  refine G.eq (S' := (moW W H 0 mbd mne mnw mmn mbx man mrs mrl mfl mpt mdf mlb mbo mwn mwo mxo myo mor mco mro mpw mph mrk mrb mrf mfr mfm med map mwh, 107, [(0, gr 60), (1, gi i), (2, gi n1), (3, gi to), (4, gi (gb (0 ≤ i ∧ i < n1 + 1))), (5, gi p), (6, gi (gb (0 < mpw p))), (7, gi (gb (0 < mpw (20 + p))))], [gi (if n1 = i then 2 * p + gb (¬ 0 < mpw (20 + p)) else to)])) ?_ jn107
                  rw [if_neg (by omega)]
                ·
                  refine G.go hX 4 (moW W H 0 mbd mne mnw mmn mbx man mrs mrl mfl mpt mdf mlb mbo mwn mwo mxo myo mor mco mro mpw mph mrk mrb mrf mfr mfm med map mwh, 94, [(0, gr 60), (1, gi i), (2, gi n1), (3, gi to), (4, gi (gb (0 ≤ i ∧ i < n1 + 1))), (5, gi p), (6, gi (gb (0 < mpw p))), (7, gi (gb (0 < mpw (20 + p))))], [gi (gb (0 < mpw (20 + p))), gi (2 * p)]) rfl trivial ?_
                  have jn102 : G X mX8_missing ad 0 0 (moW W H 0 mbd mne mnw mmn mbx man mrs mrl mfl mpt mdf mlb mbo mwn mwo mxo myo mor mco mro mpw mph mrk mrb mrf mfr mfm med map mwh, 102, [(0, gr 60), (1, gi i), (2, gi n1), (3, gi to), (4, gi (gb (0 ≤ i ∧ i < n1 + 1))), (5, gi p), (6, gi (gb (0 < mpw p))), (7, gi (gb (0 < mpw (20 + p))))], [gi (gb (¬ 0 < mpw (20 + p))), gi (2 * p)]) := by
                    refine G.go hX 2 (moW W H 0 mbd mne mnw mmn mbx man mrs mrl mfl mpt mdf mlb mbo mwn mwo mxo myo mor mco mro mpw mph mrk mrb mrf mfr mfm med map mwh, 107, [(0, gr 60), (1, gi i), (2, gi n1), (3, gi to), (4, gi (gb (0 ≤ i ∧ i < n1 + 1))), (5, gi p), (6, gi (gb (0 < mpw p))), (7, gi (gb (0 < mpw (20 + p))))], [gi ((2 * p) + (gb (¬ 0 < mpw (20 + p))))]) rfl trivial ?_
                    refine G.eq (S' := (moW W H 0 mbd mne mnw mmn mbx man mrs mrl mfl mpt mdf mlb mbo mwn mwo mxo myo mor mco mro mpw mph mrk mrb mrf mfr mfm med map mwh, 107, [(0, gr 60), (1, gi i), (2, gi n1), (3, gi to), (4, gi (gb (0 ≤ i ∧ i < n1 + 1))), (5, gi p), (6, gi (gb (0 < mpw p))), (7, gi (gb (0 < mpw (20 + p))))], [gi (if n1 = i then 2 * p + gb (¬ 0 < mpw (20 + p)) else to)])) ?_ jn107
                    rw [if_pos (by omega)]
                  refine g_if_eq hX 101 rfl rfl (gb_r _) (fun b94 => ?_) (fun b94 => ?_)
                  ·
                    have b94 := gb_0.mp b94
                    refine G.go hX 1 (moW W H 0 mbd mne mnw mmn mbx man mrs mrl mfl mpt mdf mlb mbo mwn mwo mxo myo mor mco mro mpw mph mrk mrb mrf mfr mfm med map mwh, 102, [(0, gr 60), (1, gi i), (2, gi n1), (3, gi to), (4, gi (gb (0 ≤ i ∧ i < n1 + 1))), (5, gi p), (6, gi (gb (0 < mpw p))), (7, gi (gb (0 < mpw (20 + p))))], [gi 1, gi (2 * p)]) rfl trivial ?_
                    refine G.eq (S' := (moW W H 0 mbd mne mnw mmn mbx man mrs mrl mfl mpt mdf mlb mbo mwn mwo mxo myo mor mco mro mpw mph mrk mrb mrf mfr mfm med map mwh, 102, [(0, gr 60), (1, gi i), (2, gi n1), (3, gi to), (4, gi (gb (0 ≤ i ∧ i < n1 + 1))), (5, gi p), (6, gi (gb (0 < mpw p))), (7, gi (gb (0 < mpw (20 + p))))], [gi (gb (¬ 0 < mpw (20 + p))), gi (2 * p)])) ?_ jn102
                    rw [gb_t (P := ¬ 0 < mpw (20 + p)) b94]
                  ·
                    have b94 := gb_n0 b94
                    refine G.go hX 2 (moW W H 0 mbd mne mnw mmn mbx man mrs mrl mfl mpt mdf mlb mbo mwn mwo mxo myo mor mco mro mpw mph mrk mrb mrf mfr mfm med map mwh, 102, [(0, gr 60), (1, gi i), (2, gi n1), (3, gi to), (4, gi (gb (0 ≤ i ∧ i < n1 + 1))), (5, gi p), (6, gi (gb (0 < mpw p))), (7, gi (gb (0 < mpw (20 + p))))], [gi 0, gi (2 * p)]) rfl trivial ?_
                    refine G.eq (S' := (moW W H 0 mbd mne mnw mmn mbx man mrs mrl mfl mpt mdf mlb mbo mwn mwo mxo myo mor mco mro mpw mph mrk mrb mrf mfr mfm med map mwh, 102, [(0, gr 60), (1, gi i), (2, gi n1), (3, gi to), (4, gi (gb (0 ≤ i ∧ i < n1 + 1))), (5, gi p), (6, gi (gb (0 < mpw p))), (7, gi (gb (0 < mpw (20 + p))))], [gi (gb (¬ 0 < mpw (20 + p))), gi (2 * p)])) ?_ jn102
                    rw [gb_f (P := ¬ 0 < mpw (20 + p)) (fun h9 => h9 b94)]
              refine g_if_ne hX 76 rfl rfl ⟨by omega, by omega⟩ (fun b68 => ?_) (fun b68 => ?_)
              ·
                refine G.go hX 2 (moW W H 0 mbd mne mnw mmn mbx man mrs mrl mfl mpt mdf mlb mbo mwn mwo mxo myo mor mco mro mpw mph mrk mrb mrf mfr mfm med map mwh, 81, [(0, gr 60), (1, gi i), (2, gi n1), (3, gi to), (4, gi fo), (5, gi p), (6, gi (gb (0 < mpw p))), (7, gi (gb (0 < mpw (20 + p))))], [gi 1]) rfl trivial ?_
                refine G.eq (S' := (moW W H 0 mbd mne mnw mmn mbx man mrs mrl mfl mpt mdf mlb mbo mwn mwo mxo myo mor mco mro mpw mph mrk mrb mrf mfr mfm med map mwh, 81, [(0, gr 60), (1, gi i), (2, gi n1), (3, gi to), (4, gi fo), (5, gi p), (6, gi (gb (0 < mpw p))), (7, gi (gb (0 < mpw (20 + p))))], [gi (gb (0 ≤ i ∧ i < n1 + 1))])) ?_ jn81
                rw [gb_t (show 0 ≤ i ∧ i < n1 + 1 by first | omega | (have h8 := gb_n0 (P := 0 ≤ i ∧ i < n1) (by omega); omega))]
              ·
                refine G.go hX 2 (moW W H 0 mbd mne mnw mmn mbx man mrs mrl mfl mpt mdf mlb mbo mwn mwo mxo myo mor mco mro mpw mph mrk mrb mrf mfr mfm med map mwh, 73, [(0, gr 60), (1, gi i), (2, gi n1), (3, gi to), (4, gi fo), (5, gi p), (6, gi (gb (0 < mpw p))), (7, gi (gb (0 < mpw (20 + p))))], [gi i, gi n1]) rfl trivial ?_
                refine g_icmp_ne hX 80 rfl rfl (by first | assumption | exact ⟨by omega, by omega⟩) (by first | assumption | exact ⟨by omega, by omega⟩) (fun b73 => ?_) (fun b73 => ?_)
                ·
                  refine G.go hX 1 (moW W H 0 mbd mne mnw mmn mbx man mrs mrl mfl mpt mdf mlb mbo mwn mwo mxo myo mor mco mro mpw mph mrk mrb mrf mfr mfm med map mwh, 81, [(0, gr 60), (1, gi i), (2, gi n1), (3, gi to), (4, gi fo), (5, gi p), (6, gi (gb (0 < mpw p))), (7, gi (gb (0 < mpw (20 + p))))], [gi 0]) rfl trivial ?_
                  refine G.eq (S' := (moW W H 0 mbd mne mnw mmn mbx man mrs mrl mfl mpt mdf mlb mbo mwn mwo mxo myo mor mco mro mpw mph mrk mrb mrf mfr mfm med map mwh, 81, [(0, gr 60), (1, gi i), (2, gi n1), (3, gi to), (4, gi fo), (5, gi p), (6, gi (gb (0 < mpw p))), (7, gi (gb (0 < mpw (20 + p))))], [gi (gb (0 ≤ i ∧ i < n1 + 1))])) ?_ jn81
                  rw [gb_f (show ¬ (0 ≤ i ∧ i < n1 + 1) by (have h8 := gb_0 (P := 0 ≤ i ∧ i < n1) |>.mp (by omega); omega))]
                ·
                  refine G.go hX 2 (moW W H 0 mbd mne mnw mmn mbx man mrs mrl mfl mpt mdf mlb mbo mwn mwo mxo myo mor mco mro mpw mph mrk mrb mrf mfr mfm med map mwh, 81, [(0, gr 60), (1, gi i), (2, gi n1), (3, gi to), (4, gi fo), (5, gi p), (6, gi (gb (0 < mpw p))), (7, gi (gb (0 < mpw (20 + p))))], [gi 1]) rfl trivial ?_
                  refine G.eq (S' := (moW W H 0 mbd mne mnw mmn mbx man mrs mrl mfl mpt mdf mlb mbo mwn mwo mxo myo mor mco mro mpw mph mrk mrb mrf mfr mfm med map mwh, 81, [(0, gr 60), (1, gi i), (2, gi n1), (3, gi to), (4, gi fo), (5, gi p), (6, gi (gb (0 < mpw p))), (7, gi (gb (0 < mpw (20 + p))))], [gi (gb (0 ≤ i ∧ i < n1 + 1))])) ?_ jn81
                  rw [gb_t (show 0 ≤ i ∧ i < n1 + 1 by first | omega | (have h8 := gb_n0 (P := 0 ≤ i ∧ i < n1) (by omega); omega))]
          refine g_if_le hX 56 rfl rfl (hpw _) (fun b49 => ?_) (fun b49 => ?_)
          ·
            refine G.go hX 1 (moW W H 0 mbd mne mnw mmn mbx man mrs mrl mfl mpt mdf mlb mbo mwn mwo mxo myo mor mco mro mpw mph mrk mrb mrf mfr mfm med map mwh, 57, [(0, gr 60), (1, gi i), (2, gi n1), (3, gi to), (4, gi fo), (5, gi p), (6, gi (gb (0 < mpw p)))], [gi 0]) rfl trivial ?_
            refine G.eq (S' := (moW W H 0 mbd mne mnw mmn mbx man mrs mrl mfl mpt mdf mlb mbo mwn mwo mxo myo mor mco mro mpw mph mrk mrb mrf mfr mfm med map mwh, 57, [(0, gr 60), (1, gi i), (2, gi n1), (3, gi to), (4, gi fo), (5, gi p), (6, gi (gb (0 < mpw p)))], [gi (gb (0 < mpw (20 + p)))])) ?_ jn57
            rw [gb_f (show ¬ (0 < mpw (20 + p)) by omega)]
          ·
            refine G.go hX 2 (moW W H 0 mbd mne mnw mmn mbx man mrs mrl mfl mpt mdf mlb mbo mwn mwo mxo myo mor mco mro mpw mph mrk mrb mrf mfr mfm med map mwh, 57, [(0, gr 60), (1, gi i), (2, gi n1), (3, gi to), (4, gi fo), (5, gi p), (6, gi (gb (0 < mpw p)))], [gi 1]) rfl trivial ?_
            refine G.eq (S' := (moW W H 0 mbd mne mnw mmn mbx man mrs mrl mfl mpt mdf mlb mbo mwn mwo mxo myo mor mco mro mpw mph mrk mrb mrf mfr mfm med map mwh, 57, [(0, gr 60), (1, gi i), (2, gi n1), (3, gi to), (4, gi fo), (5, gi p), (6, gi (gb (0 < mpw p)))], [gi (gb (0 < mpw (20 + p)))])) ?_ jn57
            rw [gb_t (show 0 < mpw (20 + p) by omega)]
        refine g_if_le hX 36 rfl rfl (hpw _) (fun b29 => ?_) (fun b29 => ?_)
        ·
          refine G.go hX 1 (moW W H 0 mbd mne mnw mmn mbx man mrs mrl mfl mpt mdf mlb mbo mwn mwo mxo myo mor mco mro mpw mph mrk mrb mrf mfr mfm med map mwh, 37, [(0, gr 60), (1, gi i), (2, gi n1), (3, gi to), (4, gi fo), (5, gi p)], [gi 0]) rfl trivial ?_
          refine G.eq (S' := (moW W H 0 mbd mne mnw mmn mbx man mrs mrl mfl mpt mdf mlb mbo mwn mwo mxo myo mor mco mro mpw mph mrk mrb mrf mfr mfm med map mwh, 37, [(0, gr 60), (1, gi i), (2, gi n1), (3, gi to), (4, gi fo), (5, gi p)], [gi (gb (0 < mpw p))])) ?_ jn37
          rw [gb_f (show ¬ (0 < mpw p) by omega)]
        ·
          refine G.go hX 2 (moW W H 0 mbd mne mnw mmn mbx man mrs mrl mfl mpt mdf mlb mbo mwn mwo mxo myo mor mco mro mpw mph mrk mrb mrf mfr mfm med map mwh, 37, [(0, gr 60), (1, gi i), (2, gi n1), (3, gi to), (4, gi fo), (5, gi p)], [gi 1]) rfl trivial ?_
          refine G.eq (S' := (moW W H 0 mbd mne mnw mmn mbx man mrs mrl mfl mpt mdf mlb mbo mwn mwo mxo myo mor mco mro mpw mph mrk mrb mrf mfr mfm med map mwh, 37, [(0, gr 60), (1, gi i), (2, gi n1), (3, gi to), (4, gi fo), (5, gi p)], [gi (gb (0 < mpw p))])) ?_ jn37
          rw [gb_t (show 0 < mpw p by omega)]
  exact lp15 _ 0 0 0 0 (by omega) (by rfl) (by rw [gb_f (by omega)]) (by intro h1 h2; omega) (Nat.lt_succ_self _)
set_option maxHeartbeats 4000000 in
set_option maxRecDepth 100000 in
theorem c_X8_approve (l : Launch) (D : va_G) (cA : Nat → ClassId) (W : Nat) (H : Nat) (mth : Int) (mbd : Int) (mne : Int) (mnw : Int) (mmn : Int) (mbx : Int) (man : Int) (mrs : Int) (mrl : Int) (mfl : Int) (mpt : Int → Int) (mdf : Int → Int) (mlb : Int → Int) (mbo : Int → Int) (mwn : Int → Int) (mwo : Int → Int) (mxo : Int → Int) (myo : Int → Int) (mor : Int → Int) (mco : Int → Int) (mro : Int → Int) (mpw : Int → Int) (mph : Int → Int) (mrk : Int → Int) (mrb : Int → Int) (mrf : Int → Int) (mfr : Int → Int) (mfm : Int → Int) (med : Int → Int) (map : Int → Int) (mwh : Int → Int) (p : Int) (e : Int) (w : Int) (hp : inR p) (he : inR e) (hw : inR w) (hed : ∀ q : Int, inR (med q) ∧ inR (mwh q)) (hap : ∀ q : Int, 0 ≤ map q ∧ map q ≤ 6) :
    gC l D cA yX8_approve mX8_approve (some .int) 0 0 [gr 60, gi p, gi e, gi w] (moW W H mth mbd mne mnw mmn mbx man mrs mrl mfl mpt mdf mlb mbo mwn mwo mxo myo mor mco mro mpw mph mrk mrb mrf mfr mfm med map mwh) (fun r9 w9 => ∃ (rv : Int) (th : Int) (ed2 : Int → Int) (wh2 : Int → Int) (ap2 : Int → Int), r9 = some (gi rv) ∧ w9 = moW W H th mbd mne mnw mmn mbx man mrs mrl mfl mpt mdf mlb mbo mwn mwo mxo myo mor mco mro mpw mph mrk mrb mrf mfr mfm ed2 ap2 wh2 ∧ (¬ (0 ≤ p ∧ p ≤ 19) → th = 1 ∧ rv = 0 ∧ ed2 = med ∧ wh2 = mwh ∧ ap2 = map) ∧ (0 ≤ p ∧ p ≤ 19 → e < 0 → th = 2 ∧ rv = 0 ∧ ed2 = med ∧ wh2 = mwh ∧ ap2 = map) ∧ (0 ≤ p ∧ p ≤ 19 → 0 ≤ e → (e < med p ∨ ∃ j : Int, 0 ≤ j ∧ j < (if e = med p then map p else 0) ∧ mwh (6 * p + j) = w) → th = 0 ∧ rv = 0 ∧ ed2 = med ∧ wh2 = mwh ∧ ap2 = map) ∧ (0 ≤ p ∧ p ≤ 19 → 0 ≤ e → ¬ (e < med p ∨ ∃ j : Int, 0 ≤ j ∧ j < (if e = med p then map p else 0) ∧ mwh (6 * p + j) = w) → (if e = med p then map p else 0) = 6 → th = 3 ∧ rv = 0 ∧ ed2 = med ∧ wh2 = mwh ∧ ap2 = map) ∧ (0 ≤ p ∧ p ≤ 19 → 0 ≤ e → ¬ (e < med p ∨ ∃ j : Int, 0 ≤ j ∧ j < (if e = med p then map p else 0) ∧ mwh (6 * p + j) = w) → (if e = med p then map p else 0) ≠ 6 → th = 0 ∧ rv = 1 ∧ ed2 = gu med p e ∧ wh2 = gu mwh (6 * p + (if e = med p then map p else 0)) w ∧ ap2 = gu map p ((if e = med p then map p else 0) + 1))) := by
  refine gC_of rfl kX8_approve rfl rfl (Nat.le_of_ble_eq_true rfl) (fun X ad hX hE => ?_)
  refine G.go hX 4 (moW W H mth mbd mne mnw mmn mbx man mrs mrl mfl mpt mdf mlb mbo mwn mwo mxo myo mor mco mro mpw mph mrk mrb mrf mfr mfm med map mwh, 5, [(0, gr 60), (1, gi p), (2, gi e), (3, gi w)], [gi 19, gi 0, gi p, gr 60]) rfl trivial ?_
  refine G.callS (av := [gi p, gi 0, gi 19]) (st := [gr 60]) hX rfl (fun l D cA => c_X8_in l D cA p 0 19 (by first | assumption | exact ⟨by omega, by omega⟩) ⟨by omega, by omega⟩ ⟨by omega, by omega⟩) (by decide +kernel) aX8_in rfl ⟨rfl, rfl⟩ (by decide) (Nat.le_of_ble_eq_true rfl) [] [0, 1, 2, 3, 4, 5, 6, 7, 8, 9, 10, 11, 12, 13, 14, 15, 16, 17, 18, 19, 20, 21] (moW W H mth mbd mne mnw mmn mbx man mrs mrl mfl mpt mdf mlb mbo mwn mwo mxo myo mor mco mro mpw mph mrk mrb mrf mfr mfm med map mwh) rfl rfl rfl (fun r w' hp => ?_)
  obtain ⟨rfl, rfl⟩ := hp
  show G X mX8_approve ad 0 0 (moW W H mth mbd mne mnw mmn mbx man mrs mrl mfl mpt mdf mlb mbo mwn mwo mxo myo mor mco mro mpw mph mrk mrb mrf mfr mfm med map mwh, 8, [(0, gr 60), (1, gi p), (2, gi e), (3, gi w)], [gi (gb (0 ≤ p ∧ p ≤ 19)), gr 60])
  refine g_if_ne hX 15 rfl rfl (gb_r _) (fun b8 => ?_) (fun b8 => ?_)
  ·
    have b8 := gb_n0 b8
    refine G.go hX 1 (moW W H mth mbd mne mnw mmn mbx man mrs mrl mfl mpt mdf mlb mbo mwn mwo mxo myo mor mco mro mpw mph mrk mrb mrf mfr mfm med map mwh, 16, [(0, gr 60), (1, gi p), (2, gi e), (3, gi w)], [gi e, gr 60]) rfl trivial ?_
    refine g_if_ge hX 23 rfl rfl he (fun b16 => ?_) (fun b16 => ?_)
    ·
      refine G.go hX 4 (moW W H 0 mbd mne mnw mmn mbx man mrs mrl mfl mpt mdf mlb mbo mwn mwo mxo myo mor mco mro mpw mph mrk mrb mrf mfr mfm med map mwh, 31, [(0, gr 60), (1, gi p), (2, gi e), (3, gi w)], [gi 0]) rfl trivial ?_
      refine g_if_gt hX 44 rfl rfl ⟨by omega, by omega⟩ (fun b31 => ?_) (fun b31 => ?_)
      ·
        exfalso
        omega
      ·
        have hap9 := hap p
        refine G.go hX 5 (moW W H 0 mbd mne mnw mmn mbx man mrs mrl mfl mpt mdf mlb mbo mwn mwo mxo myo mor mco mro mpw mph mrk mrb mrf mfr mfm med map mwh, 41, [(0, gr 60), (1, gi p), (2, gi e), (3, gi w)], [gi (med p), gi e]) rfl ?_ ?_
        · refine ⟨?_, trivial⟩
          · omega
        refine g_icmp_ge hX 46 rfl rfl (by first | assumption | exact (hed _).1) (by first | assumption | exact (hed _).1) (fun b41 => ?_) (fun b41 => ?_)
        ·
          have hap9 := hap p
          have hnn : 0 ≤ (if e = med p then map p else 0) ∧ (if e = med p then map p else 0) ≤ 6 := by (split <;> omega)
          refine G.go hX 5 (moW W H 0 mbd mne mnw mmn mbx man mrs mrl mfl mpt mdf mlb mbo mwn mwo mxo myo mor mco mro mpw mph mrk mrb mrf mfr mfm med map mwh, 53, [(0, gr 60), (1, gi p), (2, gi e), (3, gi w)], [gi (med p), gi e]) rfl ?_ ?_
          · refine ⟨?_, trivial⟩
            · omega
          have jn66 : G X mX8_approve ad 0 0 (moW W H 0 mbd mne mnw mmn mbx man mrs mrl mfl mpt mdf mlb mbo mwn mwo mxo myo mor mco mro mpw mph mrk mrb mrf mfr mfm med map mwh, 66, [(0, gr 60), (1, gi p), (2, gi e), (3, gi w)], [gi (if e = med p then map p else 0)]) := by
            refine G.go hX 3 (moW W H 0 mbd mne mnw mmn mbx man mrs mrl mfl mpt mdf mlb mbo mwn mwo mxo myo mor mco mro mpw mph mrk mrb mrf mfr mfm med map mwh, 71, [(0, gr 60), (1, gi p), (2, gi e), (3, gi w), (4, gi (if e = med p then map p else 0)), (5, gi 0)], []) rfl trivial ?_
            have lp71 : ∀ (n : Nat) (k : Int), (0 ≤ k ∧ k ≤ (if e = med p then map p else 0)) → (∀ j : Int, 0 ≤ j → j < k → mwh (6 * p + j) ≠ w) → ((if e = med p then map p else 0) - k).toNat < n → G X mX8_approve ad 0 0 (moW W H 0 mbd mne mnw mmn mbx man mrs mrl mfl mpt mdf mlb mbo mwn mwo mxo myo mor mco mro mpw mph mrk mrb mrf mfr mfm med map mwh, 71, [(0, gr 60), (1, gi p), (2, gi e), (3, gi w), (4, gi (if e = med p then map p else 0)), (5, gi k)], []) := by
              intro n
              induction n with
              | zero => intro k hk hno hm9; exact absurd hm9 (Nat.not_lt_zero _)
              | succ n ih71 =>
                intro k hk hno hm71
                refine G.go hX 2 (moW W H 0 mbd mne mnw mmn mbx man mrs mrl mfl mpt mdf mlb mbo mwn mwo mxo myo mor mco mro mpw mph mrk mrb mrf mfr mfm med map mwh, 75, [(0, gr 60), (1, gi p), (2, gi e), (3, gi w), (4, gi (if e = med p then map p else 0)), (5, gi k)], [gi (if e = med p then map p else 0), gi k]) rfl trivial ?_
                refine g_icmp_ge hX 102 rfl rfl ⟨by omega, by omega⟩ ⟨by omega, by omega⟩ (fun b75 => ?_) (fun b75 => ?_)
                ·
                  have hnh : ¬ (∃ j : Int, 0 ≤ j ∧ j < (if e = med p then map p else 0) ∧ mwh (6 * p + j) = w) := fun ⟨j, h1, h2, h3⟩ => hno j h1 (by omega) h3
                  refine G.go hX 3 (moW W H 0 mbd mne mnw mmn mbx man mrs mrl mfl mpt mdf mlb mbo mwn mwo mxo myo mor mco mro mpw mph mrk mrb mrf mfr mfm med map mwh, 107, [(0, gr 60), (1, gi p), (2, gi e), (3, gi w), (4, gi (if e = med p then map p else 0)), (5, gi k)], [gi 6, gi (if e = med p then map p else 0), gr 60]) rfl trivial ?_
                  refine g_icmp_ne hX 114 rfl rfl ⟨by omega, by omega⟩ ⟨by omega, by omega⟩ (fun b107 => ?_) (fun b107 => ?_)
                  ·
                    refine G.go hX 4 (moW W H 0 mbd mne mnw mmn mbx man mrs mrl mfl mpt mdf mlb mbo mwn mwo mxo myo mor mco mro mpw mph mrk mrb mrf mfr mfm med map mwh, 122, [(0, gr 60), (1, gi p), (2, gi e), (3, gi w), (4, gi (if e = med p then map p else 0)), (5, gi k)], [gi 0]) rfl trivial ?_
                    refine g_if_le hX 127 rfl rfl ⟨by omega, by omega⟩ (fun b122 => ?_) (fun b122 => ?_)
                    ·
                      refine G.go hX 22 (moW W H 0 mbd mne mnw mmn mbx man mrs mrl mfl mpt mdf mlb mbo mwn mwo mxo myo mor mco mro mpw mph mrk mrb mrf mfr mfm (gu med p e) (gu map p ((if e = med p then map p else 0) + 1)) (gu mwh ((6 * p) + (if e = med p then map p else 0)) w), 158, [(0, gr 60), (1, gi p), (2, gi e), (3, gi w), (4, gi (if e = med p then map p else 0)), (5, gi k)], [gi 1]) rfl ?_ ?_
                      · refine ⟨?_, ?_, ?_, trivial⟩
                        · omega
                        · omega
                        · omega
                      exact g_iret hX hE rfl ⟨1, 0, _, _, _, rfl, rfl, fun h9 => by (exfalso; omega), fun _ h9 => by (exfalso; omega), fun _ _ h9 => by (rcases h9 with h9 | h9; (exfalso; omega); exact absurd h9 hnh), fun _ _ _ h9 => by (exfalso; omega), fun _ _ _ _ => ⟨rfl, rfl, rfl, rfl, rfl⟩⟩
                    ·
                      exfalso
                      omega
                  ·
                    refine G.go hX 5 (moW W H 3 mbd mne mnw mmn mbx man mrs mrl mfl mpt mdf mlb mbo mwn mwo mxo myo mor mco mro mpw mph mrk mrb mrf mfr mfm med map mwh, 122, [(0, gr 60), (1, gi p), (2, gi e), (3, gi w), (4, gi (if e = med p then map p else 0)), (5, gi k)], [gi 3]) rfl trivial ?_
                    refine g_if_le hX 127 rfl rfl ⟨by omega, by omega⟩ (fun b122 => ?_) (fun b122 => ?_)
                    ·
                      exfalso
                      omega
                    ·
                      refine G.go hX 1 (moW W H 3 mbd mne mnw mmn mbx man mrs mrl mfl mpt mdf mlb mbo mwn mwo mxo myo mor mco mro mpw mph mrk mrb mrf mfr mfm med map mwh, 126, [(0, gr 60), (1, gi p), (2, gi e), (3, gi w), (4, gi (if e = med p then map p else 0)), (5, gi k)], [gi 0]) rfl trivial ?_
                      exact g_iret hX hE rfl ⟨0, 3, med, mwh, map, rfl, rfl, fun h9 => by (exfalso; omega), fun _ h9 => by (exfalso; omega), fun _ _ h9 => by (rcases h9 with h9 | h9; (exfalso; omega); exact absurd h9 hnh), fun _ _ _ _ => ⟨rfl, rfl, rfl, rfl, rfl⟩, fun _ _ _ h9 => by (exfalso; omega)⟩
                ·
                  refine G.go hX 9 (moW W H 0 mbd mne mnw mmn mbx man mrs mrl mfl mpt mdf mlb mbo mwn mwo mxo myo mor mco mro mpw mph mrk mrb mrf mfr mfm med map mwh, 91, [(0, gr 60), (1, gi p), (2, gi e), (3, gi w), (4, gi (if e = med p then map p else 0)), (5, gi k)], [gi w, gi (mwh ((6 * p) + k))]) rfl ?_ ?_
                  · refine ⟨?_, trivial⟩
                    · omega
                  refine g_icmp_ne hX 96 rfl rfl (by first | exact (hed _).2 | assumption) (by first | exact (hed _).2 | assumption) (fun b91 => ?_) (fun b91 => ?_)
                  ·
                    refine G.go hX 2 (moW W H 0 mbd mne mnw mmn mbx man mrs mrl mfl mpt mdf mlb mbo mwn mwo mxo myo mor mco mro mpw mph mrk mrb mrf mfr mfm med map mwh, 71, [(0, gr 60), (1, gi p), (2, gi e), (3, gi w), (4, gi (if e = med p then map p else 0)), (5, gi (k + 1))], []) rfl trivial ?_
                    exact ih71 (k + 1) (by omega) (by intro j h1 h2; by_cases e9 : j = k; (subst e9; omega); exact hno j h1 (by omega)) (by omega)
                  ·
                    refine G.go hX 1 (moW W H 0 mbd mne mnw mmn mbx man mrs mrl mfl mpt mdf mlb mbo mwn mwo mxo myo mor mco mro mpw mph mrk mrb mrf mfr mfm med map mwh, 95, [(0, gr 60), (1, gi p), (2, gi e), (3, gi w), (4, gi (if e = med p then map p else 0)), (5, gi k)], [gi 0]) rfl trivial ?_
                    exact g_iret hX hE rfl ⟨0, 0, med, mwh, map, rfl, rfl, fun h9 => by (exfalso; omega), fun _ h9 => by (exfalso; omega), fun _ _ _ => ⟨rfl, rfl, rfl, rfl, rfl⟩, fun _ _ h9 => absurd (Or.inr ⟨k, by omega, by omega, by omega⟩) h9, fun _ _ h9 => absurd (Or.inr ⟨k, by omega, by omega, by omega⟩) h9⟩
            exact lp71 _ 0 (by omega) (by intro j h1 h2; omega) (Nat.lt_succ_self _)
          refine g_icmp_ne hX 65 rfl rfl (by first | assumption | exact (hed _).1) (by first | assumption | exact (hed _).1) (fun b53 => ?_) (fun b53 => ?_)
          ·
            refine G.go hX 1 (moW W H 0 mbd mne mnw mmn mbx man mrs mrl mfl mpt mdf mlb mbo mwn mwo mxo myo mor mco mro mpw mph mrk mrb mrf mfr mfm med map mwh, 66, [(0, gr 60), (1, gi p), (2, gi e), (3, gi w)], [gi 0]) rfl trivial ?_
            refine G.eq (S' := (moW W H 0 mbd mne mnw mmn mbx man mrs mrl mfl mpt mdf mlb mbo mwn mwo mxo myo mor mco mro mpw mph mrk mrb mrf mfr mfm med map mwh, 66, [(0, gr 60), (1, gi p), (2, gi e), (3, gi w)], [gi (if e = med p then map p else 0)])) ?_ jn66
            rw [if_neg (by omega)]
          ·
            refine G.go hX 5 (moW W H 0 mbd mne mnw mmn mbx man mrs mrl mfl mpt mdf mlb mbo mwn mwo mxo myo mor mco mro mpw mph mrk mrb mrf mfr mfm med map mwh, 66, [(0, gr 60), (1, gi p), (2, gi e), (3, gi w)], [gi (map p)]) rfl ?_ ?_
            · refine ⟨?_, trivial⟩
              · omega
            refine G.eq (S' := (moW W H 0 mbd mne mnw mmn mbx man mrs mrl mfl mpt mdf mlb mbo mwn mwo mxo myo mor mco mro mpw mph mrk mrb mrf mfr mfm med map mwh, 66, [(0, gr 60), (1, gi p), (2, gi e), (3, gi w)], [gi (if e = med p then map p else 0)])) ?_ jn66
            rw [if_pos (by omega)]
        ·
          refine G.go hX 1 (moW W H 0 mbd mne mnw mmn mbx man mrs mrl mfl mpt mdf mlb mbo mwn mwo mxo myo mor mco mro mpw mph mrk mrb mrf mfr mfm med map mwh, 45, [(0, gr 60), (1, gi p), (2, gi e), (3, gi w)], [gi 0]) rfl trivial ?_
          exact g_iret hX hE rfl ⟨0, 0, med, mwh, map, rfl, rfl, fun h9 => by (exfalso; omega), fun _ h9 => by (exfalso; omega), fun _ _ _ => ⟨rfl, rfl, rfl, rfl, rfl⟩, fun _ _ h9 => absurd (Or.inl (by omega)) h9, fun _ _ h9 => absurd (Or.inl (by omega)) h9⟩
    ·
      refine G.go hX 5 (moW W H 2 mbd mne mnw mmn mbx man mrs mrl mfl mpt mdf mlb mbo mwn mwo mxo myo mor mco mro mpw mph mrk mrb mrf mfr mfm med map mwh, 31, [(0, gr 60), (1, gi p), (2, gi e), (3, gi w)], [gi 2]) rfl trivial ?_
      refine g_if_gt hX 44 rfl rfl ⟨by omega, by omega⟩ (fun b31 => ?_) (fun b31 => ?_)
      ·
        refine G.go hX 1 (moW W H 2 mbd mne mnw mmn mbx man mrs mrl mfl mpt mdf mlb mbo mwn mwo mxo myo mor mco mro mpw mph mrk mrb mrf mfr mfm med map mwh, 45, [(0, gr 60), (1, gi p), (2, gi e), (3, gi w)], [gi 0]) rfl trivial ?_
        exact g_iret hX hE rfl ⟨0, 2, med, mwh, map, rfl, rfl, fun h9 => by (exfalso; omega), fun _ _ => ⟨rfl, rfl, rfl, rfl, rfl⟩, fun _ h9 => by (exfalso; omega), fun _ h9 => by (exfalso; omega), fun _ h9 => by (exfalso; omega)⟩
      ·
        exfalso
        omega
  ·
    have b8 := gb_nn b8
    refine G.go hX 5 (moW W H 1 mbd mne mnw mmn mbx man mrs mrl mfl mpt mdf mlb mbo mwn mwo mxo myo mor mco mro mpw mph mrk mrb mrf mfr mfm med map mwh, 31, [(0, gr 60), (1, gi p), (2, gi e), (3, gi w)], [gi 1]) rfl trivial ?_
    refine g_if_gt hX 44 rfl rfl ⟨by omega, by omega⟩ (fun b31 => ?_) (fun b31 => ?_)
    ·
      refine G.go hX 1 (moW W H 1 mbd mne mnw mmn mbx man mrs mrl mfl mpt mdf mlb mbo mwn mwo mxo myo mor mco mro mpw mph mrk mrb mrf mfr mfm med map mwh, 45, [(0, gr 60), (1, gi p), (2, gi e), (3, gi w)], [gi 0]) rfl trivial ?_
      exact g_iret hX hE rfl ⟨0, 1, med, mwh, map, rfl, rfl, fun _ => ⟨rfl, rfl, rfl, rfl, rfl⟩, fun h9 => by (exfalso; omega), fun h9 => by (exfalso; omega), fun h9 => by (exfalso; omega), fun h9 => by (exfalso; omega)⟩
    ·
      exfalso
      omega
end
