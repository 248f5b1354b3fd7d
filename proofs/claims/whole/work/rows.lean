section
-- ===== PART A: goes FIRST, ahead of the names: the tables' words, and 'selects' of the private methods out of them =====
/-- a private method of a class that the tables say can be made, by its rows of tables_1 -/
def lw_okq (q : MethodName × Nat) : Prop := (q.1.cls ≠ "java/lang/invoke/MethodHandle" ∧ q.1.cls ≠ "java/lang/invoke/VarHandle") ∧ Cond.instantiable q.1.cls q.2 ∈ tables_1 ∧ Cond.privateMethod q.1 ∈ tables_1 ∧ Cond.instanceMethod q.1 ∈ tables_1
theorem lw_p0 : lw_okq (⟨"ProofCompare$Surfaces", "isUnmetAt", "(II)Z"⟩, 9) := ⟨⟨by decide +kernel, by decide +kernel⟩, List.mem_of_getElem? (i := 28) (by decide +kernel), List.mem_of_getElem? (i := 251) (by decide +kernel), List.mem_of_getElem? (i := 252) (by decide +kernel)⟩
theorem lw_p1 : lw_okq (⟨"ProofCompare$Surfaces", "isClose", "(II)Z"⟩, 9) := ⟨⟨by decide +kernel, by decide +kernel⟩, List.mem_of_getElem? (i := 28) (by decide +kernel), List.mem_of_getElem? (i := 255) (by decide +kernel), List.mem_of_getElem? (i := 256) (by decide +kernel)⟩
theorem lw_p2 : lw_okq (⟨"ProofCompare$Surfaces", "isMet", "(I[III)Z"⟩, 9) := ⟨⟨by decide +kernel, by decide +kernel⟩, List.mem_of_getElem? (i := 28) (by decide +kernel), List.mem_of_getElem? (i := 262) (by decide +kernel), List.mem_of_getElem? (i := 263) (by decide +kernel)⟩
theorem lw_p3 : lw_okq (⟨"ProofCompare$Boxes", "growFrom", "(II[ZI)V"⟩, 9) := ⟨⟨by decide +kernel, by decide +kernel⟩, List.mem_of_getElem? (i := 42) (by decide +kernel), List.mem_of_getElem? (i := 270) (by decide +kernel), List.mem_of_getElem? (i := 271) (by decide +kernel)⟩
theorem lw_p4 : lw_okq (⟨"ProofCompare$Boxes", "take", "(II[Z)V"⟩, 9) := ⟨⟨by decide +kernel, by decide +kernel⟩, List.mem_of_getElem? (i := 42) (by decide +kernel), List.mem_of_getElem? (i := 274) (by decide +kernel), List.mem_of_getElem? (i := 275) (by decide +kernel)⟩
theorem lw_p5 : lw_okq (⟨"ProofCompare$Boxes", "widen", "(IIII)V"⟩, 9) := ⟨⟨by decide +kernel, by decide +kernel⟩, List.mem_of_getElem? (i := 42) (by decide +kernel), List.mem_of_getElem? (i := 278) (by decide +kernel), List.mem_of_getElem? (i := 279) (by decide +kernel)⟩
theorem lw_p6 : lw_okq (⟨"ProofCompare$Boxes", "takeAround", "(II[ZI)V"⟩, 9) := ⟨⟨by decide +kernel, by decide +kernel⟩, List.mem_of_getElem? (i := 42) (by decide +kernel), List.mem_of_getElem? (i := 284) (by decide +kernel), List.mem_of_getElem? (i := 285) (by decide +kernel)⟩
theorem lw_p7 : lw_okq (⟨"ProofCompare$Boxes", "absorbAll", "()V"⟩, 9) := ⟨⟨by decide +kernel, by decide +kernel⟩, List.mem_of_getElem? (i := 42) (by decide +kernel), List.mem_of_getElem? (i := 288) (by decide +kernel), List.mem_of_getElem? (i := 289) (by decide +kernel)⟩
theorem lw_p8 : lw_okq (⟨"ProofCompare$Boxes", "absorbRound", "()Z"⟩, 9) := ⟨⟨by decide +kernel, by decide +kernel⟩, List.mem_of_getElem? (i := 42) (by decide +kernel), List.mem_of_getElem? (i := 292) (by decide +kernel), List.mem_of_getElem? (i := 293) (by decide +kernel)⟩
theorem lw_p9 : lw_okq (⟨"ProofCompare$Boxes", "sharesPlace", "(I)Z"⟩, 9) := ⟨⟨by decide +kernel, by decide +kernel⟩, List.mem_of_getElem? (i := 42) (by decide +kernel), List.mem_of_getElem? (i := 296) (by decide +kernel), List.mem_of_getElem? (i := 297) (by decide +kernel)⟩
theorem lw_p10 : lw_okq (⟨"ProofCompare$Boxes", "keepGrown", "()V"⟩, 9) := ⟨⟨by decide +kernel, by decide +kernel⟩, List.mem_of_getElem? (i := 42) (by decide +kernel), List.mem_of_getElem? (i := 307) (by decide +kernel), List.mem_of_getElem? (i := 308) (by decide +kernel)⟩
theorem lw_p11 : lw_okq (⟨"ProofCompare$Boxes", "sort", "()V"⟩, 9) := ⟨⟨by decide +kernel, by decide +kernel⟩, List.mem_of_getElem? (i := 42) (by decide +kernel), List.mem_of_getElem? (i := 311) (by decide +kernel), List.mem_of_getElem? (i := 312) (by decide +kernel)⟩
theorem lw_p12 : lw_okq (⟨"ProofCompare$Boxes", "comesBefore", "(II)Z"⟩, 9) := ⟨⟨by decide +kernel, by decide +kernel⟩, List.mem_of_getElem? (i := 42) (by decide +kernel), List.mem_of_getElem? (i := 315) (by decide +kernel), List.mem_of_getElem? (i := 316) (by decide +kernel)⟩
theorem lw_p13 : lw_okq (⟨"ProofCompare$Boxes", "swap", "(II)V"⟩, 9) := ⟨⟨by decide +kernel, by decide +kernel⟩, List.mem_of_getElem? (i := 42) (by decide +kernel), List.mem_of_getElem? (i := 319) (by decide +kernel), List.mem_of_getElem? (i := 320) (by decide +kernel)⟩
theorem lw_p14 : lw_okq (⟨"ProofCompare$WordRows", "measure", "()V"⟩, 6) := ⟨⟨by decide +kernel, by decide +kernel⟩, List.mem_of_getElem? (i := 133) (by decide +kernel), List.mem_of_getElem? (i := 331) (by decide +kernel), List.mem_of_getElem? (i := 332) (by decide +kernel)⟩
theorem lw_p15 : lw_okq (⟨"ProofCompare$WordRows", "measureAt", "(II)I"⟩, 6) := ⟨⟨by decide +kernel, by decide +kernel⟩, List.mem_of_getElem? (i := 133) (by decide +kernel), List.mem_of_getElem? (i := 335) (by decide +kernel), List.mem_of_getElem? (i := 336) (by decide +kernel)⟩
def lw_privs_1 : List (MethodName × Nat) := [(⟨"ProofCompare$Surfaces", "isUnmetAt", "(II)Z"⟩, 9), (⟨"ProofCompare$Surfaces", "isClose", "(II)Z"⟩, 9), (⟨"ProofCompare$Surfaces", "isMet", "(I[III)Z"⟩, 9), (⟨"ProofCompare$Boxes", "growFrom", "(II[ZI)V"⟩, 9), (⟨"ProofCompare$Boxes", "take", "(II[Z)V"⟩, 9), (⟨"ProofCompare$Boxes", "widen", "(IIII)V"⟩, 9), (⟨"ProofCompare$Boxes", "takeAround", "(II[ZI)V"⟩, 9), (⟨"ProofCompare$Boxes", "absorbAll", "()V"⟩, 9), (⟨"ProofCompare$Boxes", "absorbRound", "()Z"⟩, 9), (⟨"ProofCompare$Boxes", "sharesPlace", "(I)Z"⟩, 9), (⟨"ProofCompare$Boxes", "keepGrown", "()V"⟩, 9), (⟨"ProofCompare$Boxes", "sort", "()V"⟩, 9), (⟨"ProofCompare$Boxes", "comesBefore", "(II)Z"⟩, 9), (⟨"ProofCompare$Boxes", "swap", "(II)V"⟩, 9), (⟨"ProofCompare$WordRows", "measure", "()V"⟩, 6), (⟨"ProofCompare$WordRows", "measureAt", "(II)I"⟩, 6)]
theorem lw_r1 : ∀ q ∈ lw_privs_1, lw_okq q := List.forall_mem_cons.mpr ⟨lw_p0, List.forall_mem_cons.mpr ⟨lw_p1, List.forall_mem_cons.mpr ⟨lw_p2, List.forall_mem_cons.mpr ⟨lw_p3, List.forall_mem_cons.mpr ⟨lw_p4, List.forall_mem_cons.mpr ⟨lw_p5, List.forall_mem_cons.mpr ⟨lw_p6, List.forall_mem_cons.mpr ⟨lw_p7, List.forall_mem_cons.mpr ⟨lw_p8, List.forall_mem_cons.mpr ⟨lw_p9, List.forall_mem_cons.mpr ⟨lw_p10, List.forall_mem_cons.mpr ⟨lw_p11, List.forall_mem_cons.mpr ⟨lw_p12, List.forall_mem_cons.mpr ⟨lw_p13, List.forall_mem_cons.mpr ⟨lw_p14, List.forall_mem_cons.mpr ⟨lw_p15, fun _ h => absurd h List.not_mem_nil⟩⟩⟩⟩⟩⟩⟩⟩⟩⟩⟩⟩⟩⟩⟩⟩
theorem lw_p16 : lw_okq (⟨"ProofCompare$WordRows", "walk", "()V"⟩, 6) := ⟨⟨by decide +kernel, by decide +kernel⟩, List.mem_of_getElem? (i := 133) (by decide +kernel), List.mem_of_getElem? (i := 344) (by decide +kernel), List.mem_of_getElem? (i := 345) (by decide +kernel)⟩
theorem lw_p17 : lw_okq (⟨"ProofCompare$WordRows", "isKept", "(II)Z"⟩, 6) := ⟨⟨by decide +kernel, by decide +kernel⟩, List.mem_of_getElem? (i := 133) (by decide +kernel), List.mem_of_getElem? (i := 348) (by decide +kernel), List.mem_of_getElem? (i := 349) (by decide +kernel)⟩
theorem lw_p18 : lw_okq (⟨"ProofCompare$WordRows", "tellIfShifted", "(II)V"⟩, 6) := ⟨⟨by decide +kernel, by decide +kernel⟩, List.mem_of_getElem? (i := 133) (by decide +kernel), List.mem_of_getElem? (i := 352) (by decide +kernel), List.mem_of_getElem? (i := 353) (by decide +kernel)⟩
theorem lw_p19 : lw_okq (⟨"ProofCompare$WordRows", "append", "(IIII)V"⟩, 6) := ⟨⟨by decide +kernel, by decide +kernel⟩, List.mem_of_getElem? (i := 133) (by decide +kernel), List.mem_of_getElem? (i := 364) (by decide +kernel), List.mem_of_getElem? (i := 365) (by decide +kernel)⟩
theorem lw_p20 : lw_okq (⟨"ProofCompare$WordRows", "isGone", "(II)Z"⟩, 6) := ⟨⟨by decide +kernel, by decide +kernel⟩, List.mem_of_getElem? (i := 133) (by decide +kernel), List.mem_of_getElem? (i := 368) (by decide +kernel), List.mem_of_getElem? (i := 369) (by decide +kernel)⟩
theorem lw_p21 : lw_okq (⟨"ProofCompare$WordRows", "pairMoved", "()V"⟩, 6) := ⟨⟨by decide +kernel, by decide +kernel⟩, List.mem_of_getElem? (i := 133) (by decide +kernel), List.mem_of_getElem? (i := 372) (by decide +kernel), List.mem_of_getElem? (i := 373) (by decide +kernel)⟩
theorem lw_p22 : lw_okq (⟨"ProofCompare$WordRows", "pairWithFirstNew", "(I)V"⟩, 6) := ⟨⟨by decide +kernel, by decide +kernel⟩, List.mem_of_getElem? (i := 133) (by decide +kernel), List.mem_of_getElem? (i := 380) (by decide +kernel), List.mem_of_getElem? (i := 381) (by decide +kernel)⟩
theorem lw_p23 : lw_okq (⟨"ProofCompare$WordRows", "dropUntold", "()V"⟩, 6) := ⟨⟨by decide +kernel, by decide +kernel⟩, List.mem_of_getElem? (i := 133) (by decide +kernel), List.mem_of_getElem? (i := 384) (by decide +kernel), List.mem_of_getElem? (i := 385) (by decide +kernel)⟩
theorem lw_p24 : lw_okq (⟨"ProofCompare$Rules", "append", "(III)V"⟩, 6) := ⟨⟨by decide +kernel, by decide +kernel⟩, List.mem_of_getElem? (i := 174) (by decide +kernel), List.mem_of_getElem? (i := 397) (by decide +kernel), List.mem_of_getElem? (i := 398) (by decide +kernel)⟩
theorem lw_p25 : lw_okq (⟨"ProofCompare", "find", "(I)I"⟩, 7) := ⟨⟨by decide +kernel, by decide +kernel⟩, List.mem_of_getElem? (i := 20) (by decide +kernel), List.mem_of_getElem? (i := 401) (by decide +kernel), List.mem_of_getElem? (i := 402) (by decide +kernel)⟩
theorem lw_p26 : lw_okq (⟨"ProofCompare$Pages", "isMissing", "(I)Z"⟩, 2) := ⟨⟨by decide +kernel, by decide +kernel⟩, List.mem_of_getElem? (i := 160) (by decide +kernel), List.mem_of_getElem? (i := 417) (by decide +kernel), List.mem_of_getElem? (i := 418) (by decide +kernel)⟩
theorem lw_p27 : lw_okq (⟨"ProofCompare$Pages", "isThere", "(II)Z"⟩, 2) := ⟨⟨by decide +kernel, by decide +kernel⟩, List.mem_of_getElem? (i := 160) (by decide +kernel), List.mem_of_getElem? (i := 421) (by decide +kernel), List.mem_of_getElem? (i := 422) (by decide +kernel)⟩
theorem lw_p28 : lw_okq (⟨"java/lang/Throwable", "fillInStackTrace", "(I)Ljava/lang/Throwable;"⟩, 6) := ⟨⟨by decide +kernel, by decide +kernel⟩, List.mem_of_getElem? (i := 496) (by decide +kernel), List.mem_of_getElem? (i := 494) (by decide +kernel), List.mem_of_getElem? (i := 495) (by decide +kernel)⟩
theorem lw_p29 : lw_okq (⟨"ProofCompare$WordSide", "liesBehind", "(III)Z"⟩, 5) := ⟨⟨by decide +kernel, by decide +kernel⟩, List.mem_of_getElem? (i := 109) (by decide +kernel), List.mem_of_getElem? (i := 613) (by decide +kernel), List.mem_of_getElem? (i := 614) (by decide +kernel)⟩
theorem lw_p30 : lw_okq (⟨"ProofCompare$Approvals", "isLatest", "(II)Z"⟩, 3) := ⟨⟨by decide +kernel, by decide +kernel⟩, List.mem_of_getElem? (i := 203) (by decide +kernel), List.mem_of_getElem? (i := 697) (by decide +kernel), List.mem_of_getElem? (i := 698) (by decide +kernel)⟩
theorem lw_p31 : lw_okq (⟨"ProofCompareModel", "look", "()V"⟩, 33) := ⟨⟨by decide +kernel, by decide +kernel⟩, List.mem_of_getElem? (i := 717) (by decide +kernel), List.mem_of_getElem? (i := 842) (by decide +kernel), List.mem_of_getElem? (i := 843) (by decide +kernel)⟩
def lw_privs_2 : List (MethodName × Nat) := [(⟨"ProofCompare$WordRows", "walk", "()V"⟩, 6), (⟨"ProofCompare$WordRows", "isKept", "(II)Z"⟩, 6), (⟨"ProofCompare$WordRows", "tellIfShifted", "(II)V"⟩, 6), (⟨"ProofCompare$WordRows", "append", "(IIII)V"⟩, 6), (⟨"ProofCompare$WordRows", "isGone", "(II)Z"⟩, 6), (⟨"ProofCompare$WordRows", "pairMoved", "()V"⟩, 6), (⟨"ProofCompare$WordRows", "pairWithFirstNew", "(I)V"⟩, 6), (⟨"ProofCompare$WordRows", "dropUntold", "()V"⟩, 6), (⟨"ProofCompare$Rules", "append", "(III)V"⟩, 6), (⟨"ProofCompare", "find", "(I)I"⟩, 7), (⟨"ProofCompare$Pages", "isMissing", "(I)Z"⟩, 2), (⟨"ProofCompare$Pages", "isThere", "(II)Z"⟩, 2), (⟨"java/lang/Throwable", "fillInStackTrace", "(I)Ljava/lang/Throwable;"⟩, 6), (⟨"ProofCompare$WordSide", "liesBehind", "(III)Z"⟩, 5), (⟨"ProofCompare$Approvals", "isLatest", "(II)Z"⟩, 3), (⟨"ProofCompareModel", "look", "()V"⟩, 33)]
theorem lw_r2 : ∀ q ∈ lw_privs_2, lw_okq q := List.forall_mem_cons.mpr ⟨lw_p16, List.forall_mem_cons.mpr ⟨lw_p17, List.forall_mem_cons.mpr ⟨lw_p18, List.forall_mem_cons.mpr ⟨lw_p19, List.forall_mem_cons.mpr ⟨lw_p20, List.forall_mem_cons.mpr ⟨lw_p21, List.forall_mem_cons.mpr ⟨lw_p22, List.forall_mem_cons.mpr ⟨lw_p23, List.forall_mem_cons.mpr ⟨lw_p24, List.forall_mem_cons.mpr ⟨lw_p25, List.forall_mem_cons.mpr ⟨lw_p26, List.forall_mem_cons.mpr ⟨lw_p27, List.forall_mem_cons.mpr ⟨lw_p28, List.forall_mem_cons.mpr ⟨lw_p29, List.forall_mem_cons.mpr ⟨lw_p30, List.forall_mem_cons.mpr ⟨lw_p31, fun _ h => absurd h List.not_mem_nil⟩⟩⟩⟩⟩⟩⟩⟩⟩⟩⟩⟩⟩⟩⟩⟩
theorem lw_p32 : lw_okq (⟨"ProofCompareModel", "isMet", "(III)Z"⟩, 33) := ⟨⟨by decide +kernel, by decide +kernel⟩, List.mem_of_getElem? (i := 717) (by decide +kernel), List.mem_of_getElem? (i := 846) (by decide +kernel), List.mem_of_getElem? (i := 847) (by decide +kernel)⟩
theorem lw_p33 : lw_okq (⟨"ProofCompareModel", "spread", "()V"⟩, 33) := ⟨⟨by decide +kernel, by decide +kernel⟩, List.mem_of_getElem? (i := 717) (by decide +kernel), List.mem_of_getElem? (i := 850) (by decide +kernel), List.mem_of_getElem? (i := 851) (by decide +kernel)⟩
theorem lw_p34 : lw_okq (⟨"ProofCompareModel", "leastNear", "(II)I"⟩, 33) := ⟨⟨by decide +kernel, by decide +kernel⟩, List.mem_of_getElem? (i := 717) (by decide +kernel), List.mem_of_getElem? (i := 854) (by decide +kernel), List.mem_of_getElem? (i := 855) (by decide +kernel)⟩
theorem lw_p35 : lw_okq (⟨"ProofCompareModel", "makeBoxes", "()V"⟩, 33) := ⟨⟨by decide +kernel, by decide +kernel⟩, List.mem_of_getElem? (i := 717) (by decide +kernel), List.mem_of_getElem? (i := 858) (by decide +kernel), List.mem_of_getElem? (i := 859) (by decide +kernel)⟩
theorem lw_p36 : lw_okq (⟨"ProofCompareModel", "grow", "(IIIII)V"⟩, 33) := ⟨⟨by decide +kernel, by decide +kernel⟩, List.mem_of_getElem? (i := 717) (by decide +kernel), List.mem_of_getElem? (i := 862) (by decide +kernel), List.mem_of_getElem? (i := 863) (by decide +kernel)⟩
theorem lw_p37 : lw_okq (⟨"ProofCompareModel", "joinBoxes", "()V"⟩, 33) := ⟨⟨by decide +kernel, by decide +kernel⟩, List.mem_of_getElem? (i := 717) (by decide +kernel), List.mem_of_getElem? (i := 866) (by decide +kernel), List.mem_of_getElem? (i := 867) (by decide +kernel)⟩
theorem lw_p38 : lw_okq (⟨"ProofCompareModel", "share", "(II)Z"⟩, 33) := ⟨⟨by decide +kernel, by decide +kernel⟩, List.mem_of_getElem? (i := 717) (by decide +kernel), List.mem_of_getElem? (i := 870) (by decide +kernel), List.mem_of_getElem? (i := 871) (by decide +kernel)⟩
theorem lw_p39 : lw_okq (⟨"ProofCompareModel", "sortBoxes", "()V"⟩, 33) := ⟨⟨by decide +kernel, by decide +kernel⟩, List.mem_of_getElem? (i := 717) (by decide +kernel), List.mem_of_getElem? (i := 874) (by decide +kernel), List.mem_of_getElem? (i := 875) (by decide +kernel)⟩
theorem lw_p40 : lw_okq (⟨"ProofCompareModel", "compare", "()V"⟩, 33) := ⟨⟨by decide +kernel, by decide +kernel⟩, List.mem_of_getElem? (i := 717) (by decide +kernel), List.mem_of_getElem? (i := 890) (by decide +kernel), List.mem_of_getElem? (i := 891) (by decide +kernel)⟩
theorem lw_p41 : lw_okq (⟨"ProofCompareModel", "sortWords", "(I)V"⟩, 33) := ⟨⟨by decide +kernel, by decide +kernel⟩, List.mem_of_getElem? (i := 717) (by decide +kernel), List.mem_of_getElem? (i := 894) (by decide +kernel), List.mem_of_getElem? (i := 895) (by decide +kernel)⟩
theorem lw_p42 : lw_okq (⟨"ProofCompareModel", "isBefore", "(II)Z"⟩, 33) := ⟨⟨by decide +kernel, by decide +kernel⟩, List.mem_of_getElem? (i := 717) (by decide +kernel), List.mem_of_getElem? (i := 898) (by decide +kernel), List.mem_of_getElem? (i := 899) (by decide +kernel)⟩
theorem lw_p43 : lw_okq (⟨"ProofCompareModel", "fillCommon", "()V"⟩, 33) := ⟨⟨by decide +kernel, by decide +kernel⟩, List.mem_of_getElem? (i := 717) (by decide +kernel), List.mem_of_getElem? (i := 902) (by decide +kernel), List.mem_of_getElem? (i := 903) (by decide +kernel)⟩
theorem lw_p44 : lw_okq (⟨"ProofCompareModel", "at", "(II)I"⟩, 33) := ⟨⟨by decide +kernel, by decide +kernel⟩, List.mem_of_getElem? (i := 717) (by decide +kernel), List.mem_of_getElem? (i := 906) (by decide +kernel), List.mem_of_getElem? (i := 907) (by decide +kernel)⟩
theorem lw_p45 : lw_okq (⟨"ProofCompareModel", "addRow", "(IIII)V"⟩, 33) := ⟨⟨by decide +kernel, by decide +kernel⟩, List.mem_of_getElem? (i := 717) (by decide +kernel), List.mem_of_getElem? (i := 910) (by decide +kernel), List.mem_of_getElem? (i := 911) (by decide +kernel)⟩
theorem lw_p46 : lw_okq (⟨"ProofCompareModel", "find", "(I)I"⟩, 33) := ⟨⟨by decide +kernel, by decide +kernel⟩, List.mem_of_getElem? (i := 717) (by decide +kernel), List.mem_of_getElem? (i := 930) (by decide +kernel), List.mem_of_getElem? (i := 931) (by decide +kernel)⟩
theorem lw_p47 : lw_okq (⟨"ProofCompareModel", "mostPlaces", "()I"⟩, 33) := ⟨⟨by decide +kernel, by decide +kernel⟩, List.mem_of_getElem? (i := 717) (by decide +kernel), List.mem_of_getElem? (i := 934) (by decide +kernel), List.mem_of_getElem? (i := 935) (by decide +kernel)⟩
def lw_privs_3 : List (MethodName × Nat) := [(⟨"ProofCompareModel", "isMet", "(III)Z"⟩, 33), (⟨"ProofCompareModel", "spread", "()V"⟩, 33), (⟨"ProofCompareModel", "leastNear", "(II)I"⟩, 33), (⟨"ProofCompareModel", "makeBoxes", "()V"⟩, 33), (⟨"ProofCompareModel", "grow", "(IIIII)V"⟩, 33), (⟨"ProofCompareModel", "joinBoxes", "()V"⟩, 33), (⟨"ProofCompareModel", "share", "(II)Z"⟩, 33), (⟨"ProofCompareModel", "sortBoxes", "()V"⟩, 33), (⟨"ProofCompareModel", "compare", "()V"⟩, 33), (⟨"ProofCompareModel", "sortWords", "(I)V"⟩, 33), (⟨"ProofCompareModel", "isBefore", "(II)Z"⟩, 33), (⟨"ProofCompareModel", "fillCommon", "()V"⟩, 33), (⟨"ProofCompareModel", "at", "(II)I"⟩, 33), (⟨"ProofCompareModel", "addRow", "(IIII)V"⟩, 33), (⟨"ProofCompareModel", "find", "(I)I"⟩, 33), (⟨"ProofCompareModel", "mostPlaces", "()I"⟩, 33)]
theorem lw_r3 : ∀ q ∈ lw_privs_3, lw_okq q := List.forall_mem_cons.mpr ⟨lw_p32, List.forall_mem_cons.mpr ⟨lw_p33, List.forall_mem_cons.mpr ⟨lw_p34, List.forall_mem_cons.mpr ⟨lw_p35, List.forall_mem_cons.mpr ⟨lw_p36, List.forall_mem_cons.mpr ⟨lw_p37, List.forall_mem_cons.mpr ⟨lw_p38, List.forall_mem_cons.mpr ⟨lw_p39, List.forall_mem_cons.mpr ⟨lw_p40, List.forall_mem_cons.mpr ⟨lw_p41, List.forall_mem_cons.mpr ⟨lw_p42, List.forall_mem_cons.mpr ⟨lw_p43, List.forall_mem_cons.mpr ⟨lw_p44, List.forall_mem_cons.mpr ⟨lw_p45, List.forall_mem_cons.mpr ⟨lw_p46, List.forall_mem_cons.mpr ⟨lw_p47, fun _ h => absurd h List.not_mem_nil⟩⟩⟩⟩⟩⟩⟩⟩⟩⟩⟩⟩⟩⟩⟩⟩
theorem lw_p48 : lw_okq (⟨"ProofCompareModel", "countRows", "(II)I"⟩, 33) := ⟨⟨by decide +kernel, by decide +kernel⟩, List.mem_of_getElem? (i := 717) (by decide +kernel), List.mem_of_getElem? (i := 938) (by decide +kernel), List.mem_of_getElem? (i := 939) (by decide +kernel)⟩
def lw_privs_4 : List (MethodName × Nat) := [(⟨"ProofCompareModel", "countRows", "(II)I"⟩, 33)]
theorem lw_r4 : ∀ q ∈ lw_privs_4, lw_okq q := List.forall_mem_cons.mpr ⟨lw_p48, fun _ h => absurd h List.not_mem_nil⟩
def lw_privs : List (MethodName × Nat) := lw_privs_1 ++ (lw_privs_2 ++ (lw_privs_3 ++ (lw_privs_4)))
def lw_tbl : List Cond := k2_sels lw_privs ++ tables_1
theorem lw_privs_ok : ∀ q ∈ lw_privs, lw_okq q := by
  show ∀ q ∈ lw_privs_1 ++ (lw_privs_2 ++ (lw_privs_3 ++ (lw_privs_4))), lw_okq q
  exact List.forall_mem_append.mpr ⟨lw_r1, List.forall_mem_append.mpr ⟨lw_r2, List.forall_mem_append.mpr ⟨lw_r3, lw_r4⟩⟩⟩
/-! ===== BEGIN words of one list among another's, by their places ===== -/
theorem goodIn_r {big : List Cond} (ws : List Cond) (ps : List Nat) (hp : ws = ps.filterMap (fun i => big[i]?)) (h : ws.all goodWord = true) : GoodIn big ws := by
  intro w hw
  have h1 := List.all_eq_true.mp h w hw
  rw [hp] at hw
  obtain ⟨i, -, hi⟩ := List.mem_filterMap.mp hw
  have hm : w ∈ big := by first | exact List.mem_of_getElem? hi | exact List.getElem?_mem hi
  exact ⟨hm, good_of_word h1⟩
theorem goodIn_app {big a b : List Cond} (ha : GoodIn big a) (hb : GoodIn big b) : GoodIn big (a ++ b) := fun w h => (List.mem_append.mp h).elim (ha w) (hb w)
theorem goodIn_ca {big a b : List Cond} {c : Cond} (ha : GoodIn big (c :: a)) (hb : GoodIn big b) : GoodIn big (c :: (a ++ b)) := fun w h => (List.mem_cons.mp h).elim (fun e => ha w (List.mem_cons.mpr (Or.inl e))) (fun h => (List.mem_append.mp h).elim (fun h => ha w (List.mem_cons.mpr (Or.inr h))) (hb w))
theorem goodIn_sub {big ws : List Cond} (hm : ∀ w ∈ ws, w ∈ big) (h : ws.all goodWord = true) : GoodIn big ws := fun w hw => ⟨hm w hw, good_of_word (List.all_eq_true.mp h w hw)⟩
/-! ===== END ===== -/
def RX0 : String := "ProofCompare$Approvals"
def TX0 : u_T := fun k => match k with
  | 0 => ("ProofCompare$Approvals", "counts", "[I", true)
  | 1 => ("ProofCompare$Approvals", "editions", "[I", true)
  | _ => ("ProofCompare$Approvals", "people", "[[I", true)
def tyX0 : Nat → FieldType := fun k => match k with
  | 0 => .array .int
  | 1 => .array .int
  | _ => .array (.array .int)
abbrev wsX00 : List Cond := u_ws RX0 TX0 3
theorem nmX0 : ∀ a, a < 3 → ∀ b, b < 3 → a ≠ b → (TX0 a).2.1 ≠ (TX0 b).2.1 := by decide +kernel
theorem tyX0_ok : ∀ k, k < 3 → parseFieldDescriptor (TX0 k).2.2.1 = some (tyX0 k) := by decide +kernel
abbrev cX0_init : ByteArray := prog_2_method_1_code
def yX0_init : MethodName := ⟨RX0, "<init>", "()V"⟩
abbrev cX0_isOlder : ByteArray := prog_2_method_2_code
def yX0_isOlder : MethodName := ⟨RX0, "isOlder", "(II)Z"⟩
abbrev cX0_has : ByteArray := prog_2_method_3_code
def yX0_has : MethodName := ⟨RX0, "has", "(III)Z"⟩
abbrev cX0_isFull : ByteArray := prog_2_method_4_code
def yX0_isFull : MethodName := ⟨RX0, "isFull", "(II)Z"⟩
abbrev cX0_add : ByteArray := prog_2_method_5_code
def yX0_add : MethodName := ⟨RX0, "add", "(III)V"⟩
abbrev cX0_isLatest : ByteArray := prog_2_method_6_code
def yX0_isLatest : MethodName := ⟨RX0, "isLatest", "(II)Z"⟩
def RX1 : String := "ProofCompare$Boxes"
def TX1 : u_T := fun k => match k with
  | 0 => ("ProofCompare$Boxes", "count", "I", false)
  | 1 => ("ProofCompare$Boxes", "width", "I", true)
  | 2 => ("ProofCompare$Boxes", "height", "I", true)
  | 3 => ("ProofCompare$Boxes", "most", "I", true)
  | 4 => ("ProofCompare$Boxes", "rows", "[I", true)
  | 5 => ("ProofCompare$Boxes", "grown", "[I", true)
  | 6 => ("ProofCompare$Boxes", "waitingX", "[I", true)
  | 7 => ("ProofCompare$Boxes", "waitingY", "[I", true)
  | _ => ("ProofCompare$Boxes", "waiting", "I", false)
def tyX1 : Nat → FieldType := fun k => match k with
  | 0 => .int
  | 1 => .int
  | 2 => .int
  | 3 => .int
  | 4 => .array .int
  | 5 => .array .int
  | 6 => .array .int
  | 7 => .array .int
  | _ => .int
abbrev wsX10 : List Cond := u_ws RX1 TX1 9
theorem nmX1 : ∀ a, a < 9 → ∀ b, b < 9 → a ≠ b → (TX1 a).2.1 ≠ (TX1 b).2.1 := by decide +kernel
theorem tyX1_ok : ∀ k, k < 9 → parseFieldDescriptor (TX1 k).2.2.1 = some (tyX1 k) := by decide +kernel
abbrev cX1_init : ByteArray := prog_3_method_1_code
def yX1_init : MethodName := ⟨RX1, "<init>", "(II)V"⟩
abbrev cX1_tell : ByteArray := prog_3_method_2_code
def yX1_tell : MethodName := ⟨RX1, "tell", "(II)I"⟩
abbrev cX1_mostPlaces : ByteArray := prog_3_method_3_code
def yX1_mostPlaces : MethodName := ⟨RX1, "mostPlaces", "()I"⟩
abbrev cX1_gather : ByteArray := prog_3_method_4_code
def yX1_gather : MethodName := ⟨RX1, "gather", "([ZI)V"⟩
abbrev cX1_growFrom : ByteArray := prog_3_method_5_code
def yX1_growFrom : MethodName := ⟨RX1, "growFrom", "(II[ZI)V"⟩
abbrev cX1_takeAround : ByteArray := prog_3_method_6_code
def yX1_takeAround : MethodName := ⟨RX1, "takeAround", "(II[ZI)V"⟩
abbrev cX1_take : ByteArray := prog_3_method_7_code
def yX1_take : MethodName := ⟨RX1, "take", "(II[Z)V"⟩
abbrev cX1_widen : ByteArray := prog_3_method_8_code
def yX1_widen : MethodName := ⟨RX1, "widen", "(IIII)V"⟩
abbrev cX1_absorbAll : ByteArray := prog_3_method_9_code
def yX1_absorbAll : MethodName := ⟨RX1, "absorbAll", "()V"⟩
abbrev cX1_absorbRound : ByteArray := prog_3_method_10_code
def yX1_absorbRound : MethodName := ⟨RX1, "absorbRound", "()Z"⟩
abbrev cX1_sharesPlace : ByteArray := prog_3_method_11_code
def yX1_sharesPlace : MethodName := ⟨RX1, "sharesPlace", "(I)Z"⟩
abbrev cX1_keepGrown : ByteArray := prog_3_method_12_code
def yX1_keepGrown : MethodName := ⟨RX1, "keepGrown", "()V"⟩
abbrev cX1_sort : ByteArray := prog_3_method_13_code
def yX1_sort : MethodName := ⟨RX1, "sort", "()V"⟩
abbrev cX1_comesBefore : ByteArray := prog_3_method_14_code
def yX1_comesBefore : MethodName := ⟨RX1, "comesBefore", "(II)Z"⟩
abbrev cX1_swap : ByteArray := prog_3_method_15_code
def yX1_swap : MethodName := ⟨RX1, "swap", "(II)V"⟩
def RX2 : String := "ProofCompare$Pages"
def TX2 : u_T := fun k => match k with
  | 0 => ("ProofCompare$Pages", "widths", "[[I", true)
  | _ => ("ProofCompare$Pages", "heights", "[[I", true)
def tyX2 : Nat → FieldType := fun k => match k with
  | 0 => .array (.array .int)
  | _ => .array (.array .int)
abbrev wsX20 : List Cond := u_ws RX2 TX2 2
theorem nmX2 : ∀ a, a < 2 → ∀ b, b < 2 → a ≠ b → (TX2 a).2.1 ≠ (TX2 b).2.1 := by decide +kernel
theorem tyX2_ok : ∀ k, k < 2 → parseFieldDescriptor (TX2 k).2.2.1 = some (tyX2 k) := by decide +kernel
abbrev cX2_init : ByteArray := prog_4_method_1_code
def yX2_init : MethodName := ⟨RX2, "<init>", "()V"⟩
abbrev cX2_put : ByteArray := prog_4_method_2_code
def yX2_put : MethodName := ⟨RX2, "put", "(IIII)V"⟩
abbrev cX2_hasOtherSizes : ByteArray := prog_4_method_3_code
def yX2_hasOtherSizes : MethodName := ⟨RX2, "hasOtherSizes", "(I)Z"⟩
abbrev cX2_countOtherSizes : ByteArray := prog_4_method_4_code
def yX2_countOtherSizes : MethodName := ⟨RX2, "countOtherSizes", "()I"⟩
abbrev cX2_countMissing : ByteArray := prog_4_method_5_code
def yX2_countMissing : MethodName := ⟨RX2, "countMissing", "()I"⟩
abbrev cX2_tellMissing : ByteArray := prog_4_method_6_code
def yX2_tellMissing : MethodName := ⟨RX2, "tellMissing", "(I)I"⟩
abbrev cX2_isThere : ByteArray := prog_4_method_7_code
def yX2_isThere : MethodName := ⟨RX2, "isThere", "(II)Z"⟩
abbrev cX2_isMissing : ByteArray := prog_4_method_8_code
def yX2_isMissing : MethodName := ⟨RX2, "isMissing", "(I)Z"⟩
def RX3 : String := "ProofCompare$Rules"
def TX3 : u_T := fun k => match k with
  | 0 => ("ProofCompare$Rules", "count", "I", false)
  | 1 => ("ProofCompare$Rules", "faultCount", "I", false)
  | 2 => ("ProofCompare$Rules", "kinds", "[I", true)
  | 3 => ("ProofCompare$Rules", "fails", "[Z", true)
  | 4 => ("ProofCompare$Rules", "limits", "[I", true)
  | _ => ("ProofCompare$Rules", "faults", "[I", true)
def tyX3 : Nat → FieldType := fun k => match k with
  | 0 => .int
  | 1 => .int
  | 2 => .array .int
  | 3 => .array .boolean
  | 4 => .array .int
  | _ => .array .int
abbrev wsX30 : List Cond := u_ws RX3 TX3 6
theorem nmX3 : ∀ a, a < 6 → ∀ b, b < 6 → a ≠ b → (TX3 a).2.1 ≠ (TX3 b).2.1 := by decide +kernel
theorem tyX3_ok : ∀ k, k < 6 → parseFieldDescriptor (TX3 k).2.2.1 = some (tyX3 k) := by decide +kernel
abbrev cX3_init : ByteArray := prog_5_method_1_code
def yX3_init : MethodName := ⟨RX3, "<init>", "()V"⟩
abbrev cX3_add : ByteArray := prog_5_method_2_code
def yX3_add : MethodName := ⟨RX3, "add", "(IIZ)I"⟩
abbrev cX3_tellFault : ByteArray := prog_5_method_3_code
def yX3_tellFault : MethodName := ⟨RX3, "tellFault", "(II)I"⟩
abbrev cX3_forgetFaults : ByteArray := prog_5_method_4_code
def yX3_forgetFaults : MethodName := ⟨RX3, "forgetFaults", "()V"⟩
abbrev cX3_judge : ByteArray := prog_5_method_5_code
def yX3_judge : MethodName := ⟨RX3, "judge", "(II)V"⟩
abbrev cX3_noteFailure : ByteArray := prog_5_method_6_code
def yX3_noteFailure : MethodName := ⟨RX3, "noteFailure", "(I)V"⟩
abbrev cX3_append : ByteArray := prog_5_method_7_code
def yX3_append : MethodName := ⟨RX3, "append", "(III)V"⟩
def RX4 : String := "ProofCompare$Surfaces"
def TX4 : u_T := fun k => match k with
  | 0 => ("ProofCompare$Surfaces", "boxes", "LProofCompare$Boxes;", true)
  | 1 => ("ProofCompare$Surfaces", "differingPlaces", "I", false)
  | 2 => ("ProofCompare$Surfaces", "width", "I", true)
  | 3 => ("ProofCompare$Surfaces", "height", "I", true)
  | 4 => ("ProofCompare$Surfaces", "points", "[[I", true)
  | 5 => ("ProofCompare$Surfaces", "differs", "[Z", true)
  | 6 => ("ProofCompare$Surfaces", "farthest", "I", false)
  | 7 => ("ProofCompare$Surfaces", "near", "I", false)
  | _ => ("ProofCompare$Surfaces", "stale", "Z", false)
def tyX4 : Nat → FieldType := fun k => match k with
  | 0 => .object "ProofCompare$Boxes"
  | 1 => .int
  | 2 => .int
  | 3 => .int
  | 4 => .array (.array .int)
  | 5 => .array .boolean
  | 6 => .int
  | 7 => .int
  | _ => .boolean
abbrev wsX40 : List Cond := u_ws RX4 TX4 9
theorem nmX4 : ∀ a, a < 9 → ∀ b, b < 9 → a ≠ b → (TX4 a).2.1 ≠ (TX4 b).2.1 := by decide +kernel
theorem tyX4_ok : ∀ k, k < 9 → parseFieldDescriptor (TX4 k).2.2.1 = some (tyX4 k) := by decide +kernel
abbrev cX4_init : ByteArray := prog_6_method_1_code
def yX4_init : MethodName := ⟨RX4, "<init>", "(II)V"⟩
abbrev cX4_holds : ByteArray := prog_6_method_2_code
def yX4_holds : MethodName := ⟨RX4, "holds", "(II)Z"⟩
abbrev cX4_put : ByteArray := prog_6_method_3_code
def yX4_put : MethodName := ⟨RX4, "put", "(IIII)I"⟩
abbrev cX4_limit : ByteArray := prog_6_method_4_code
def yX4_limit : MethodName := ⟨RX4, "limit", "(II)I"⟩
abbrev cX4_refresh : ByteArray := prog_6_method_5_code
def yX4_refresh : MethodName := ⟨RX4, "refresh", "()V"⟩
abbrev cX4_isUnmetAt : ByteArray := prog_6_method_6_code
def yX4_isUnmetAt : MethodName := ⟨RX4, "isUnmetAt", "(II)Z"⟩
abbrev cX4_isMet : ByteArray := prog_6_method_7_code
def yX4_isMet : MethodName := ⟨RX4, "isMet", "(I[III)Z"⟩
abbrev cX4_isClose : ByteArray := prog_6_method_8_code
def yX4_isClose : MethodName := ⟨RX4, "isClose", "(II)Z"⟩
def RX5 : String := "ProofCompare$WordRows"
def TX5 : u_T := fun k => match k with
  | 0 => ("ProofCompare$WordRows", "count", "I", false)
  | 1 => ("ProofCompare$WordRows", "stale", "Z", false)
  | 2 => ("ProofCompare$WordRows", "before", "LProofCompare$WordSide;", true)
  | 3 => ("ProofCompare$WordRows", "after", "LProofCompare$WordSide;", true)
  | 4 => ("ProofCompare$WordRows", "rows", "[I", true)
  | _ => ("ProofCompare$WordRows", "longest", "[I", true)
def tyX5 : Nat → FieldType := fun k => match k with
  | 0 => .int
  | 1 => .boolean
  | 2 => .object "ProofCompare$WordSide"
  | 3 => .object "ProofCompare$WordSide"
  | 4 => .array .int
  | _ => .array .int
abbrev wsX50 : List Cond := u_ws RX5 TX5 6
theorem nmX5 : ∀ a, a < 6 → ∀ b, b < 6 → a ≠ b → (TX5 a).2.1 ≠ (TX5 b).2.1 := by decide +kernel
theorem tyX5_ok : ∀ k, k < 6 → parseFieldDescriptor (TX5 k).2.2.1 = some (tyX5 k) := by decide +kernel
abbrev cX5_init : ByteArray := prog_7_method_1_code
def yX5_init : MethodName := ⟨RX5, "<init>", "(LProofCompare$WordSide;LProofCompare$WordSide;)V"⟩
abbrev cX5_tell : ByteArray := prog_7_method_2_code
def yX5_tell : MethodName := ⟨RX5, "tell", "(II)I"⟩
abbrev cX5_countKind : ByteArray := prog_7_method_3_code
def yX5_countKind : MethodName := ⟨RX5, "countKind", "(I)I"⟩
abbrev cX5_refresh : ByteArray := prog_7_method_4_code
def yX5_refresh : MethodName := ⟨RX5, "refresh", "()V"⟩
abbrev cX5_measure : ByteArray := prog_7_method_5_code
def yX5_measure : MethodName := ⟨RX5, "measure", "()V"⟩
abbrev cX5_measureAt : ByteArray := prog_7_method_6_code
def yX5_measureAt : MethodName := ⟨RX5, "measureAt", "(II)I"⟩
abbrev cX5_walk : ByteArray := prog_7_method_7_code
def yX5_walk : MethodName := ⟨RX5, "walk", "()V"⟩
abbrev cX5_isKept : ByteArray := prog_7_method_8_code
def yX5_isKept : MethodName := ⟨RX5, "isKept", "(II)Z"⟩
abbrev cX5_isGone : ByteArray := prog_7_method_9_code
def yX5_isGone : MethodName := ⟨RX5, "isGone", "(II)Z"⟩
abbrev cX5_tellIfShifted : ByteArray := prog_7_method_10_code
def yX5_tellIfShifted : MethodName := ⟨RX5, "tellIfShifted", "(II)V"⟩
abbrev cX5_append : ByteArray := prog_7_method_11_code
def yX5_append : MethodName := ⟨RX5, "append", "(IIII)V"⟩
abbrev cX5_pairMoved : ByteArray := prog_7_method_12_code
def yX5_pairMoved : MethodName := ⟨RX5, "pairMoved", "()V"⟩
abbrev cX5_pairWithFirstNew : ByteArray := prog_7_method_13_code
def yX5_pairWithFirstNew : MethodName := ⟨RX5, "pairWithFirstNew", "(I)V"⟩
abbrev cX5_dropUntold : ByteArray := prog_7_method_14_code
def yX5_dropUntold : MethodName := ⟨RX5, "dropUntold", "()V"⟩
def RX6 : String := "ProofCompare$WordSide"
def TX6 : u_T := fun k => match k with
  | 0 => ("ProofCompare$WordSide", "count", "I", false)
  | 1 => ("ProofCompare$WordSide", "values", "[I", true)
  | 2 => ("ProofCompare$WordSide", "xs", "[I", true)
  | 3 => ("ProofCompare$WordSide", "ys", "[I", true)
  | _ => ("ProofCompare$WordSide", "order", "[I", true)
def tyX6 : Nat → FieldType := fun k => match k with
  | 0 => .int
  | 1 => .array .int
  | 2 => .array .int
  | 3 => .array .int
  | _ => .array .int
abbrev wsX60 : List Cond := u_ws RX6 TX6 5
theorem nmX6 : ∀ a, a < 5 → ∀ b, b < 5 → a ≠ b → (TX6 a).2.1 ≠ (TX6 b).2.1 := by decide +kernel
theorem tyX6_ok : ∀ k, k < 5 → parseFieldDescriptor (TX6 k).2.2.1 = some (tyX6 k) := by decide +kernel
abbrev cX6_init : ByteArray := prog_8_method_1_code
def yX6_init : MethodName := ⟨RX6, "<init>", "()V"⟩
abbrev cX6_add : ByteArray := prog_8_method_2_code
def yX6_add : MethodName := ⟨RX6, "add", "(III)I"⟩
abbrev cX6_numberAt : ByteArray := prog_8_method_3_code
def yX6_numberAt : MethodName := ⟨RX6, "numberAt", "(I)I"⟩
abbrev cX6_valueAt : ByteArray := prog_8_method_4_code
def yX6_valueAt : MethodName := ⟨RX6, "valueAt", "(I)I"⟩
abbrev cX6_isSamePlace : ByteArray := prog_8_method_5_code
def yX6_isSamePlace : MethodName := ⟨RX6, "isSamePlace", "(ILProofCompare$WordSide;I)Z"⟩
abbrev cX6_liesBehind : ByteArray := prog_8_method_6_code
def yX6_liesBehind : MethodName := ⟨RX6, "liesBehind", "(III)Z"⟩
def RX7 : String := "ProofCompare"
def TX7 : u_T := fun k => match k with
  | 0 => ("ProofCompare", "surfaces", "LProofCompare$Surfaces;", true)
  | 1 => ("ProofCompare", "before", "LProofCompare$WordSide;", true)
  | 2 => ("ProofCompare", "after", "LProofCompare$WordSide;", true)
  | 3 => ("ProofCompare", "wordRows", "LProofCompare$WordRows;", true)
  | 4 => ("ProofCompare", "pages", "LProofCompare$Pages;", true)
  | 5 => ("ProofCompare", "rules", "LProofCompare$Rules;", true)
  | _ => ("ProofCompare", "approvals", "LProofCompare$Approvals;", true)
def tyX7 : Nat → FieldType := fun k => match k with
  | 0 => .object "ProofCompare$Surfaces"
  | 1 => .object "ProofCompare$WordSide"
  | 2 => .object "ProofCompare$WordSide"
  | 3 => .object "ProofCompare$WordRows"
  | 4 => .object "ProofCompare$Pages"
  | 5 => .object "ProofCompare$Rules"
  | _ => .object "ProofCompare$Approvals"
abbrev wsX70 : List Cond := u_ws RX7 TX7 7
theorem nmX7 : ∀ a, a < 7 → ∀ b, b < 7 → a ≠ b → (TX7 a).2.1 ≠ (TX7 b).2.1 := by decide +kernel
theorem tyX7_ok : ∀ k, k < 7 → parseFieldDescriptor (TX7 k).2.2.1 = some (tyX7 k) := by decide +kernel
abbrev cX7_init : ByteArray := prog_1_method_1_code
def yX7_init : MethodName := ⟨RX7, "<init>", "(II)V"⟩
abbrev cX7_point : ByteArray := prog_1_method_2_code
def yX7_point : MethodName := ⟨RX7, "point", "(IIII)I"⟩
abbrev cX7_bound : ByteArray := prog_1_method_3_code
def yX7_bound : MethodName := ⟨RX7, "bound", "(II)I"⟩
abbrev cX7_differing : ByteArray := prog_1_method_4_code
def yX7_differing : MethodName := ⟨RX7, "differing", "()J"⟩
abbrev cX7_box : ByteArray := prog_1_method_5_code
def yX7_box : MethodName := ⟨RX7, "box", "(II)I"⟩
abbrev cX7_word : ByteArray := prog_1_method_6_code
def yX7_word : MethodName := ⟨RX7, "word", "(IIII)I"⟩
abbrev cX7_words : ByteArray := prog_1_method_7_code
def yX7_words : MethodName := ⟨RX7, "words", "(II)I"⟩
abbrev cX7_size : ByteArray := prog_1_method_8_code
def yX7_size : MethodName := ⟨RX7, "size", "(IIII)I"⟩
abbrev cX7_missing : ByteArray := prog_1_method_9_code
def yX7_missing : MethodName := ⟨RX7, "missing", "(I)I"⟩
abbrev cX7_rule : ByteArray := prog_1_method_10_code
def yX7_rule : MethodName := ⟨RX7, "rule", "(IIZ)I"⟩
abbrev cX7_check : ByteArray := prog_1_method_11_code
def yX7_check : MethodName := ⟨RX7, "check", "()I"⟩
abbrev cX7_fault : ByteArray := prog_1_method_12_code
def yX7_fault : MethodName := ⟨RX7, "fault", "(II)I"⟩
abbrev cX7_approve : ByteArray := prog_1_method_13_code
def yX7_approve : MethodName := ⟨RX7, "approve", "(III)I"⟩
abbrev cX7_approved : ByteArray := prog_1_method_14_code
def yX7_approved : MethodName := ⟨RX7, "approved", "(I)Z"⟩
abbrev cX7_isSide : ByteArray := prog_1_method_15_code
def yX7_isSide : MethodName := ⟨RX7, "isSide", "(I)Z"⟩
abbrev cX7_isPage : ByteArray := prog_1_method_16_code
def yX7_isPage : MethodName := ⟨RX7, "isPage", "(I)Z"⟩
abbrev cX7_find : ByteArray := prog_1_method_17_code
def yX7_find : MethodName := ⟨RX7, "find", "(I)I"⟩
def RX8 : String := "ProofCompareModel"
def TX8 : u_T := fun k => match k with
  | 0 => ("ProofCompareModel", "thrown", "I", false)
  | 1 => ("ProofCompareModel", "wide", "I", true)
  | 2 => ("ProofCompareModel", "high", "I", true)
  | 3 => ("ProofCompareModel", "points", "[I", true)
  | 4 => ("ProofCompareModel", "bound", "I", false)
  | 5 => ("ProofCompareModel", "near", "I", false)
  | 6 => ("ProofCompareModel", "isNew", "Z", false)
  | 7 => ("ProofCompareModel", "differs", "[Z", true)
  | 8 => ("ProofCompareModel", "label", "[I", true)
  | 9 => ("ProofCompareModel", "many", "I", false)
  | 10 => ("ProofCompareModel", "boxes", "I", false)
  | 11 => ("ProofCompareModel", "box", "[I", true)
  | 12 => ("ProofCompareModel", "words", "[I", true)
  | 13 => ("ProofCompareModel", "wordOf", "[I", true)
  | 14 => ("ProofCompareModel", "xOf", "[I", true)
  | 15 => ("ProofCompareModel", "yOf", "[I", true)
  | 16 => ("ProofCompareModel", "order", "[I", true)
  | 17 => ("ProofCompareModel", "areNew", "Z", false)
  | 18 => ("ProofCompareModel", "common", "[I", true)
  | 19 => ("ProofCompareModel", "rows", "I", false)
  | 20 => ("ProofCompareModel", "row", "[I", true)
  | 21 => ("ProofCompareModel", "pageWide", "[I", true)
  | 22 => ("ProofCompareModel", "pageHigh", "[I", true)
  | 23 => ("ProofCompareModel", "rules", "I", false)
  | 24 => ("ProofCompareModel", "ruleKind", "[I", true)
  | 25 => ("ProofCompareModel", "ruleBound", "[I", true)
  | 26 => ("ProofCompareModel", "ruleFails", "[Z", true)
  | 27 => ("ProofCompareModel", "faults", "I", false)
  | 28 => ("ProofCompareModel", "faultRule", "[I", true)
  | 29 => ("ProofCompareModel", "faultMany", "[I", true)
  | 30 => ("ProofCompareModel", "edition", "[I", true)
  | 31 => ("ProofCompareModel", "approvals", "[I", true)
  | _ => ("ProofCompareModel", "who", "[I", true)
def tyX8 : Nat → FieldType := fun k => match k with
  | 0 => .int
  | 1 => .int
  | 2 => .int
  | 3 => .array .int
  | 4 => .int
  | 5 => .int
  | 6 => .boolean
  | 7 => .array .boolean
  | 8 => .array .int
  | 9 => .int
  | 10 => .int
  | 11 => .array .int
  | 12 => .array .int
  | 13 => .array .int
  | 14 => .array .int
  | 15 => .array .int
  | 16 => .array .int
  | 17 => .boolean
  | 18 => .array .int
  | 19 => .int
  | 20 => .array .int
  | 21 => .array .int
  | 22 => .array .int
  | 23 => .int
  | 24 => .array .int
  | 25 => .array .int
  | 26 => .array .boolean
  | 27 => .int
  | 28 => .array .int
  | 29 => .array .int
  | 30 => .array .int
  | 31 => .array .int
  | _ => .array .int
abbrev wsX80 : List Cond := u_ws RX8 TX8 33
theorem nmX8 : ∀ a, a < 33 → ∀ b, b < 33 → a ≠ b → (TX8 a).2.1 ≠ (TX8 b).2.1 := by decide +kernel
theorem tyX8_ok : ∀ k, k < 33 → parseFieldDescriptor (TX8 k).2.2.1 = some (tyX8 k) := by decide +kernel
abbrev cX8_init : ByteArray := prog_10_method_1_code
def yX8_init : MethodName := ⟨RX8, "<init>", "(II)V"⟩
abbrev cX8_thrown : ByteArray := prog_10_method_2_code
def yX8_thrown : MethodName := ⟨RX8, "thrown", "()I"⟩
abbrev cX8_in : ByteArray := prog_10_method_3_code
def yX8_in : MethodName := ⟨RX8, "in", "(III)Z"⟩
abbrev cX8_point : ByteArray := prog_10_method_4_code
def yX8_point : MethodName := ⟨RX8, "point", "(IIII)I"⟩
abbrev cX8_bound : ByteArray := prog_10_method_5_code
def yX8_bound : MethodName := ⟨RX8, "bound", "(II)I"⟩
abbrev cX8_isMet : ByteArray := prog_10_method_6_code
def yX8_isMet : MethodName := ⟨RX8, "isMet", "(III)Z"⟩
abbrev cX8_leastNear : ByteArray := prog_10_method_7_code
def yX8_leastNear : MethodName := ⟨RX8, "leastNear", "(II)I"⟩
abbrev cX8_spread : ByteArray := prog_10_method_8_code
def yX8_spread : MethodName := ⟨RX8, "spread", "()V"⟩
abbrev cX8_grow : ByteArray := prog_10_method_9_code
def yX8_grow : MethodName := ⟨RX8, "grow", "(IIIII)V"⟩
abbrev cX8_makeBoxes : ByteArray := prog_10_method_10_code
def yX8_makeBoxes : MethodName := ⟨RX8, "makeBoxes", "()V"⟩
abbrev cX8_share : ByteArray := prog_10_method_11_code
def yX8_share : MethodName := ⟨RX8, "share", "(II)Z"⟩
abbrev cX8_joinBoxes : ByteArray := prog_10_method_12_code
def yX8_joinBoxes : MethodName := ⟨RX8, "joinBoxes", "()V"⟩
abbrev cX8_sortBoxes : ByteArray := prog_10_method_13_code
def yX8_sortBoxes : MethodName := ⟨RX8, "sortBoxes", "()V"⟩
abbrev cX8_look : ByteArray := prog_10_method_14_code
def yX8_look : MethodName := ⟨RX8, "look", "()V"⟩
abbrev cX8_differing : ByteArray := prog_10_method_15_code
def yX8_differing : MethodName := ⟨RX8, "differing", "()J"⟩
abbrev cX8_box : ByteArray := prog_10_method_16_code
def yX8_box : MethodName := ⟨RX8, "box", "(II)I"⟩
abbrev cX8_word : ByteArray := prog_10_method_17_code
def yX8_word : MethodName := ⟨RX8, "word", "(IIII)I"⟩
abbrev cX8_isBefore : ByteArray := prog_10_method_18_code
def yX8_isBefore : MethodName := ⟨RX8, "isBefore", "(II)Z"⟩
abbrev cX8_sortWords : ByteArray := prog_10_method_19_code
def yX8_sortWords : MethodName := ⟨RX8, "sortWords", "(I)V"⟩
abbrev cX8_at : ByteArray := prog_10_method_20_code
def yX8_at : MethodName := ⟨RX8, "at", "(II)I"⟩
abbrev cX8_addRow : ByteArray := prog_10_method_21_code
def yX8_addRow : MethodName := ⟨RX8, "addRow", "(IIII)V"⟩
abbrev cX8_fillCommon : ByteArray := prog_10_method_22_code
def yX8_fillCommon : MethodName := ⟨RX8, "fillCommon", "()V"⟩
abbrev cX8_compare : ByteArray := prog_10_method_23_code
def yX8_compare : MethodName := ⟨RX8, "compare", "()V"⟩
abbrev cX8_countRows : ByteArray := prog_10_method_24_code
def yX8_countRows : MethodName := ⟨RX8, "countRows", "(II)I"⟩
abbrev cX8_words : ByteArray := prog_10_method_25_code
def yX8_words : MethodName := ⟨RX8, "words", "(II)I"⟩
abbrev cX8_size : ByteArray := prog_10_method_26_code
def yX8_size : MethodName := ⟨RX8, "size", "(IIII)I"⟩
abbrev cX8_missing : ByteArray := prog_10_method_27_code
def yX8_missing : MethodName := ⟨RX8, "missing", "(I)I"⟩
abbrev cX8_rule : ByteArray := prog_10_method_28_code
def yX8_rule : MethodName := ⟨RX8, "rule", "(IIZ)I"⟩
abbrev cX8_mostPlaces : ByteArray := prog_10_method_29_code
def yX8_mostPlaces : MethodName := ⟨RX8, "mostPlaces", "()I"⟩
abbrev cX8_find : ByteArray := prog_10_method_30_code
def yX8_find : MethodName := ⟨RX8, "find", "(I)I"⟩
abbrev cX8_check : ByteArray := prog_10_method_31_code
def yX8_check : MethodName := ⟨RX8, "check", "()I"⟩
abbrev cX8_fault : ByteArray := prog_10_method_32_code
def yX8_fault : MethodName := ⟨RX8, "fault", "(II)I"⟩
abbrev cX8_approve : ByteArray := prog_10_method_33_code
def yX8_approve : MethodName := ⟨RX8, "approve", "(III)I"⟩
abbrev cX8_approved : ByteArray := prog_10_method_34_code
def yX8_approved : MethodName := ⟨RX8, "approved", "(I)Z"⟩
def RJx00060 : String := "java/lang/ArrayIndexOutOfBoundsException"
def TJx00060 : u_T := fun k => match k with
  | 0 => ("java/lang/Throwable", "cause", "Ljava/lang/Throwable;", false)
  | 1 => ("java/lang/Throwable", "stackTrace", "[Ljava/lang/StackTraceElement;", false)
  | 2 => ("java/lang/Throwable", "suppressedExceptions", "Ljava/util/List;", false)
  | 3 => ("java/lang/Throwable", "detailMessage", "Ljava/lang/String;", false)
  | 4 => ("java/lang/Throwable", "backtrace", "Ljava/lang/Object;", false)
  | _ => ("java/lang/Throwable", "depth", "I", false)
def tyJx00060 : Nat → FieldType := fun k => match k with
  | 0 => .object "java/lang/Throwable"
  | 1 => .array (.object "java/lang/StackTraceElement")
  | 2 => .object "java/util/List"
  | 3 => .object "java/lang/String"
  | 4 => .object "java/lang/Object"
  | _ => .int
abbrev wsJx000600 : List Cond := u_ws RJx00060 TJx00060 6
theorem nmJx00060 : ∀ a, a < 6 → ∀ b, b < 6 → a ≠ b → (TJx00060 a).2.1 ≠ (TJx00060 b).2.1 := by decide +kernel
theorem tyJx00060_ok : ∀ k, k < 6 → parseFieldDescriptor (TJx00060 k).2.2.1 = some (tyJx00060 k) := by decide +kernel
abbrev cJx00060_init_a7421 : ByteArray := prog_11_method_2_code
def yJx00060_init_a7421 : MethodName := ⟨RJx00060, "<init>", "(Ljava/lang/String;)V"⟩
def RJ9 : String := "java/lang/Math"
def TJ9 : u_T := fun k => match k with
  | _ => ("", "", "", false)
def tyJ9 : Nat → FieldType := fun k => match k with
  | _ => .int
abbrev wsJ90 : List Cond := u_ws RJ9 TJ9 0
theorem nmJ9 : ∀ a, a < 0 → ∀ b, b < 0 → a ≠ b → (TJ9 a).2.1 ≠ (TJ9 b).2.1 := by decide +kernel
theorem tyJ9_ok : ∀ k, k < 0 → parseFieldDescriptor (TJ9 k).2.2.1 = some (tyJ9 k) := by decide +kernel
abbrev cJ9_abs_0f7a4 : ByteArray := prog_15_method_59_code
def yJ9_abs_0f7a4 : MethodName := ⟨RJ9, "abs", "(I)I"⟩
abbrev cJ9_max_7cf53 : ByteArray := prog_15_method_65_code
def yJ9_max_7cf53 : MethodName := ⟨RJ9, "max", "(II)I"⟩
abbrev cJ9_min_7cf53 : ByteArray := prog_15_method_69_code
def yJ9_min_7cf53 : MethodName := ⟨RJ9, "min", "(II)I"⟩
def RJ0 : String := "java/lang/String"
def TJ0 : u_T := fun k => match k with
  | _ => ("", "", "", false)
def tyJ0 : Nat → FieldType := fun k => match k with
  | _ => .int
abbrev wsJ00 : List Cond := u_ws RJ0 TJ0 0
theorem nmJ0 : ∀ a, a < 0 → ∀ b, b < 0 → a ≠ b → (TJ0 a).2.1 ≠ (TJ0 b).2.1 := by decide +kernel
theorem tyJ0_ok : ∀ k, k < 0 → parseFieldDescriptor (TJ0 k).2.2.1 = some (tyJ0 k) := by decide +kernel
def RJ10 : String := "java/lang/System"
def TJ10 : u_T := fun k => match k with
  | _ => ("", "", "", false)
def tyJ10 : Nat → FieldType := fun k => match k with
  | _ => .int
abbrev wsJ100 : List Cond := u_ws RJ10 TJ10 0
theorem nmJ10 : ∀ a, a < 0 → ∀ b, b < 0 → a ≠ b → (TJ10 a).2.1 ≠ (TJ10 b).2.1 := by decide +kernel
theorem tyJ10_ok : ∀ k, k < 0 → parseFieldDescriptor (TJ10 k).2.2.1 = some (tyJ10 k) := by decide +kernel
def RL : String := "ProofCompareLaw"
abbrev cL_cell : ByteArray := method_2_code
def yL_cell : MethodName := ⟨RL, "cell", "([II)I"⟩
abbrev cL_point : ByteArray := method_3_code
def yL_point : MethodName := ⟨RL, "point", "(LProofCompare;IIII[J)I"⟩
abbrev cL_bound : ByteArray := method_4_code
def yL_bound : MethodName := ⟨RL, "bound", "(LProofCompare;II[J)I"⟩
abbrev cL_box : ByteArray := method_5_code
def yL_box : MethodName := ⟨RL, "box", "(LProofCompare;II[J)I"⟩
abbrev cL_word : ByteArray := method_6_code
def yL_word : MethodName := ⟨RL, "word", "(LProofCompare;IIII[J)I"⟩
abbrev cL_words : ByteArray := method_7_code
def yL_words : MethodName := ⟨RL, "words", "(LProofCompare;II[J)I"⟩
abbrev cL_size : ByteArray := method_8_code
def yL_size : MethodName := ⟨RL, "size", "(LProofCompare;IIII[J)I"⟩
abbrev cL_missing : ByteArray := method_9_code
def yL_missing : MethodName := ⟨RL, "missing", "(LProofCompare;I[J)I"⟩
abbrev cL_rule : ByteArray := method_10_code
def yL_rule : MethodName := ⟨RL, "rule", "(LProofCompare;IIZ[J)I"⟩
abbrev cL_fault : ByteArray := method_11_code
def yL_fault : MethodName := ⟨RL, "fault", "(LProofCompare;II[J)I"⟩
abbrev cL_approve : ByteArray := method_12_code
def yL_approve : MethodName := ⟨RL, "approve", "(LProofCompare;III[J)I"⟩
abbrev cL_approved : ByteArray := method_13_code
def yL_approved : MethodName := ⟨RL, "approved", "(LProofCompare;I[J)I"⟩
abbrev cL_law : ByteArray := code
def yL_law : MethodName := ⟨RL, "law", "([I)Z"⟩
abbrev vwCl : List vw_C := [(RJx00060, TJx00060, 6), (RX0, TX0, 3), (RX1, TX1, 9), (RX2, TX2, 2), (RX3, TX3, 6), (RX4, TX4, 9), (RX5, TX5, 6), (RX6, TX6, 5), (RX7, TX7, 7), (RX8, TX8, 33)]
end
section
/-- the tables' words that a call keeps -/
def gtb : List Cond := lw_tbl.filter goodWord
/-! THE G LAYER: the machine's state as plain data (numbers are Int, references are numbers of cells, arrays are functions of Int),
and a function 'gstep' that does the straight instructions on it; 'G' says that from such a state the machine comes to its goal. -/
abbrev gV : Type := Int ⊕ (Int ⊕ Option Nat)
abbrev gi (z : Int) : gV := Sum.inl z
abbrev gl (z : Int) : gV := Sum.inr (Sum.inl z)
abbrev gr (k : Nat) : gV := Sum.inr (Sum.inr (some k))
abbrev gn : gV := Sum.inr (Sum.inr none)
/-- what a value is in the machine; ad: where each cell lies -/
def gv (ad : Nat → Nat) (v : gV) : Value := match v with
  | .inl z => .int (Int32.ofInt z)
  | .inr (.inl z) => .long (Int64.ofInt z)
  | .inr (.inr none) => .null
  | .inr (.inr (some k)) => .ref (ad k)
/-- a cell: an object (its class's place, its fields), or an array (its kind's place, its length, what it holds: ints, references, longs) -/
abbrev gE : Type := (Nat × List gV) ⊕ (Nat × Nat × ((Int → Int) ⊕ ((Int → Option Nat) ⊕ (Int → Int))))
abbrev gob (ci : Nat) (fs : List gV) : gE := Sum.inl (ci, fs)
abbrev gai (t n : Nat) (f : Int → Int) : gE := Sum.inr (t, n, Sum.inl f)
abbrev gar (t n : Nat) (f : Int → Option Nat) : gE := Sum.inr (t, n, Sum.inr (Sum.inl f))
abbrev gal (t n : Nat) (f : Int → Int) : gE := Sum.inr (t, n, Sum.inr (Sum.inr f))
def ge (cA : Nat → ClassId) (ad : Nat → Nat) (x : gE) : va_E := match x with
  | .inl (ci, fs) => .inr (ci, fs.map (gv ad))
  | .inr (t, n, .inl f) => .inl (cA t, n, .inl (fun j => Int32.ofInt (f (j : Int))))
  | .inr (t, n, .inr (.inl f)) => .inl (cA t, n, .inr (.inr (.inr (.inr (fun j => (f (j : Int)).map ad)))))
  | .inr (t, n, .inr (.inr f)) => .inl (cA t, n, .inr (.inl (fun j => Int64.ofInt (f (j : Int)))))
abbrev gW : Type := List (Nat × gE)
def gw (cA : Nat → ClassId) (ad : Nat → Nat) (w : gW) : va_W := w.map (fun q => (ad q.1, ge cA ad q.2))
/-- lookups that compute -/
def glook (i : Nat) : List (Nat × gV) → Option gV
  | [] => none
  | q :: t => match Nat.beq q.1 i with
    | true => some q.2
    | false => glook i t
def gdel (i : Nat) : List (Nat × gV) → List (Nat × gV)
  | [] => []
  | q :: t => match Nat.beq q.1 i with
    | true => gdel i t
    | false => q :: gdel i t
def gset (i : Nat) (v : gV) : List (Nat × gV) → List (Nat × gV)
  | [] => [(i, v)]
  | q :: t => match Nat.beq q.1 i with
    | true => (i, v) :: gdel i t
    | false => q :: gset i v t
def gwl (k : Nat) : gW → Option gE
  | [] => none
  | q :: t => match Nat.beq q.1 k with
    | true => some q.2
    | false => gwl k t
def gws (k : Nat) (e : gE) : gW → gW
  | [] => []
  | q :: t => match Nat.beq q.1 k with
    | true => (k, e) :: t
    | false => q :: gws k e t
abbrev gFt : Type := Nat × Nat × Nat × Nat
def gft (idx : Nat) : List gFt → Option (Nat × Nat × Nat)
  | [] => none
  | q :: t => match Nat.beq q.1 idx with
    | true => some q.2
    | false => gft idx t
def gnl : List (Nat × gV) → Bool
  | [] => true
  | q :: t => match q.2 with
    | .inr (.inl _) => false
    | _ => gnl t
def gu (f : Int → Int) (k v : Int) : Int → Int := fun j => if j = k then v else f j
theorem gu_s (f : Int → Int) (k v : Int) : gu f k v k = v := if_pos rfl
theorem gu_n (f : Int → Int) {k j : Int} (v : Int) (h : j ≠ k) : gu f k v j = f j := if_neg h
/-- a number that an int holds -/
abbrev inR (z : Int) : Prop := -2147483648 ≤ z ∧ z ≤ 2147483647
abbrev gS : Type := gW × Nat × List (Nat × gV) × List gV
def gstep (ft : List gFt) (i : Instr) (n : Nat) (S : gS) : Option (gS × Option Prop) :=
  match S with
  | (w, pc, lv, st) =>
  match i with
  | .iload_n k => match glook k.val lv with
    | some (.inl z) => some ((w, pc + n, lv, .inl z :: st), none)
    | _ => none
  | .iload k => match glook k lv with
    | some (.inl z) => some ((w, pc + n, lv, .inl z :: st), none)
    | _ => none
  | .aload_n k => match glook k.val lv with
    | some (.inr (.inr (some r))) => some ((w, pc + n, lv, .inr (.inr (some r)) :: st), none)
    | _ => none
  | .aload k => match glook k lv with
    | some (.inr (.inr (some r))) => some ((w, pc + n, lv, .inr (.inr (some r)) :: st), none)
    | _ => none
  | .istore_n k => match gnl lv, st with
    | true, .inl z :: st => some ((w, pc + n, gset k.val (.inl z) lv, st), none)
    | _, _ => none
  | .istore k => match gnl lv, st with
    | true, .inl z :: st => some ((w, pc + n, gset k (.inl z) lv, st), none)
    | _, _ => none
  | .astore_n k => match gnl lv, st with
    | true, .inr (.inr (some r)) :: st => some ((w, pc + n, gset k.val (.inr (.inr (some r))) lv, st), none)
    | _, _ => none
  | .astore k => match gnl lv, st with
    | true, .inr (.inr (some r)) :: st => some ((w, pc + n, gset k (.inr (.inr (some r))) lv, st), none)
    | _, _ => none
  | .iinc k c => match gnl lv, glook k lv with
    | true, some (.inl z) => some ((w, pc + n, gset k (.inl (z + c)) lv, st), none)
    | _, _ => none
  | .iconst z => some ((w, pc + n, lv, .inl z :: st), none)
  | .bipush z => some ((w, pc + n, lv, .inl z :: st), none)
  | .sipush z => some ((w, pc + n, lv, .inl z :: st), none)
  | .iadd => match st with
    | .inl y :: .inl x :: st => some ((w, pc + n, lv, .inl (x + y) :: st), none)
    | _ => none
  | .isub => match st with
    | .inl y :: .inl x :: st => some ((w, pc + n, lv, .inl (x - y) :: st), none)
    | _ => none
  | .imul => match st with
    | .inl y :: .inl x :: st => some ((w, pc + n, lv, .inl (x * y) :: st), none)
    | _ => none
  | .ineg => match st with
    | .inl x :: st => some ((w, pc + n, lv, .inl (-x) :: st), none)
    | _ => none
  | .iand => match st with
    | .inl y :: .inl x :: st => some ((w, pc + n, lv, .inl (Int32.ofInt x &&& Int32.ofInt y).toInt :: st), none)
    | _ => none
  | .idiv => match st with
    | .inl y :: .inl x :: st => some ((w, pc + n, lv, .inl (x / y) :: st), some (0 ≤ x ∧ x < 2147483648 ∧ 0 < y ∧ y < 2147483648))
    | _ => none
  | .irem => match st with
    | .inl y :: .inl x :: st => some ((w, pc + n, lv, .inl (x % y) :: st), some (0 ≤ x ∧ x < 2147483648 ∧ 0 < y ∧ y < 2147483648))
    | _ => none
  | .dup => match st with
    | .inl x :: st => some ((w, pc + n, lv, .inl x :: .inl x :: st), none)
    | .inr (.inr r) :: st => some ((w, pc + n, lv, .inr (.inr r) :: .inr (.inr r) :: st), none)
    | _ => none
  | .pop => match st with
    | .inl _ :: st => some ((w, pc + n, lv, st), none)
    | .inr (.inr _) :: st => some ((w, pc + n, lv, st), none)
    | _ => none
  | .dup2 => match st with
    | .inl x :: .inr (.inr r) :: st => some ((w, pc + n, lv, .inl x :: .inr (.inr r) :: .inl x :: .inr (.inr r) :: st), none)
    | _ => none
  | .dup_x1 => match st with
    | .inl x :: .inr (.inr r) :: st => some ((w, pc + n, lv, .inl x :: .inr (.inr r) :: .inl x :: st), none)
    | _ => none
  | .goto off => some ((w, ((pc : Int) + off).toNat, lv, st), none)
  | .getfield idx => match st with
    | .inr (.inr (some o)) :: st => match gft idx ft, gwl o w with
      | some (ci, k, _), some (.inl (cj, fs)) => match Nat.beq ci cj, fs[k]? with
        | true, some v => some ((w, pc + n, lv, v :: st), none)
        | _, _ => none
      | _, _ => none
    | _ => none
  | .putfield idx => match st with
    | .inl z :: .inr (.inr (some o)) :: st => match gft idx ft, gwl o w with
      | some (ci, k, 0), some (.inl (cj, fs)) => match Nat.beq ci cj, fs[k]? with
        | true, some _ => some ((gws o (.inl (cj, fs.set k (.inl z))) w, pc + n, lv, st), none)
        | _, _ => none
      | some (ci, k, 1), some (.inl (cj, fs)) => match Nat.beq ci cj, fs[k]? with
        | true, some _ => some ((gws o (.inl (cj, fs.set k (.inl z))) w, pc + n, lv, st), some (z = 0 ∨ z = 1))
        | _, _ => none
      | _, _ => none
    | _ => none
  | .iaload => match st with
    | .inl z :: .inr (.inr (some o)) :: st => match gwl o w with
      | some (.inr (0, len, .inl f)) => some ((w, pc + n, lv, .inl (f z) :: st), some (0 ≤ z ∧ z < (len : Int) ∧ (len : Int) ≤ 2147483647))
      | _ => none
    | _ => none
  | .baload => match st with
    | .inl z :: .inr (.inr (some o)) :: st => match gwl o w with
      | some (.inr (1, len, .inl f)) => some ((w, pc + n, lv, .inl (f z) :: st), some (0 ≤ z ∧ z < (len : Int) ∧ (len : Int) ≤ 2147483647))
      | _ => none
    | _ => none
  | .iastore => match st with
    | .inl v :: .inl z :: .inr (.inr (some o)) :: st => match gwl o w with
      | some (.inr (0, len, .inl f)) => some ((gws o (.inr (0, len, .inl (gu f z v))) w, pc + n, lv, st), some (0 ≤ z ∧ z < (len : Int) ∧ (len : Int) ≤ 2147483647))
      | _ => none
    | _ => none
  | .bastore => match st with
    | .inl v :: .inl z :: .inr (.inr (some o)) :: st => match gwl o w with
      | some (.inr (1, len, .inl f)) => some ((gws o (.inr (1, len, .inl (gu f z v))) w, pc + n, lv, st), some ((0 ≤ z ∧ z < (len : Int) ∧ (len : Int) ≤ 2147483647) ∧ (v = 0 ∨ v = 1)))
      | _ => none
    | _ => none
  | .arraylength => match st with
    | .inr (.inr (some o)) :: st => match gwl o w with
      | some (.inr (0, len, .inl _)) => some ((w, pc + n, lv, .inl (len : Int) :: st), none)
      | some (.inr (1, len, .inl _)) => some ((w, pc + n, lv, .inl (len : Int) :: st), none)
      | _ => none
    | _ => none
  | _ => none
/-- a word of the table says more than its bytes: its operand is in range, its jump isn't below 0 -/
def gwell (nL : Nat) (pc : Nat) (i : Instr) (n : Nat) : Bool := match i with
  | .iload_n _ => Nat.beq n 1
  | .iload _ => Nat.beq n 2
  | .aload_n _ => Nat.beq n 1
  | .aload _ => Nat.beq n 2
  | .istore_n k => Nat.beq n 1 && Nat.blt k.val nL
  | .istore k => Nat.beq n 2 && Nat.blt k nL
  | .astore_n k => Nat.beq n 1 && Nat.blt k.val nL
  | .astore k => Nat.beq n 2 && Nat.blt k nL
  | .iinc k _ => Nat.beq n 3 && Nat.blt k nL
  | .iconst _ => Nat.beq n 1
  | .bipush z => Nat.beq n 2 && decide ((Int8.ofInt z).toInt32 = Int32.ofInt z)
  | .sipush z => Nat.beq n 3 && decide ((Int16.ofInt z).toInt32 = Int32.ofInt z)
  | .goto off => Nat.beq n 3 && decide (0 ≤ (pc : Int) + off)
  | .getfield _ => Nat.beq n 3
  | .putfield _ => Nat.beq n 3
  | .if_icmp _ off => Nat.beq n 3 && decide (0 ≤ (pc : Int) + off)
  | .ifCond _ off => Nat.beq n 3 && decide (0 ≤ (pc : Int) + off)
  | .invokevirtual _ => Nat.beq n 3
  | .invokestatic _ => Nat.beq n 3
  | .invokespecial _ => Nat.beq n 3
  | .new _ => Nat.beq n 3
  | .newarray _ => Nat.beq n 2
  | .tableswitch .. => true
  | .ldc _ => true
  | .anewarray _ => true
  | .multianewarray .. => true
  | _ => Nat.beq n 1
end
section
def gty (ci : Nat) : Nat → FieldType := match ci with
  | 0 => tyJx00060
  | 1 => tyX0
  | 2 => tyX1
  | 3 => tyX2
  | 4 => tyX3
  | 5 => tyX4
  | 6 => tyX5
  | 7 => tyX6
  | 8 => tyX7
  | _ => tyX8
/-- the kinds of arrays -/
def gtys (cA : Nat → ClassId) : List (ClassId × FieldType) := [(cA 0, .int), (cA 1, .boolean), (cA 2, .array .int), (cA 3, .long)]
theorem gin_Jx00060 : ∀ w ∈ u_ws RJx00060 TJx00060 6, w ∈ gtb := by decide +kernel
theorem gin_X0 : ∀ w ∈ u_ws RX0 TX0 3, w ∈ gtb := by decide +kernel
theorem gin_X1 : ∀ w ∈ u_ws RX1 TX1 9, w ∈ gtb := by decide +kernel
theorem gin_X2 : ∀ w ∈ u_ws RX2 TX2 2, w ∈ gtb := by decide +kernel
theorem gin_X3 : ∀ w ∈ u_ws RX3 TX3 6, w ∈ gtb := by decide +kernel
theorem gin_X4 : ∀ w ∈ u_ws RX4 TX4 9, w ∈ gtb := by decide +kernel
theorem gin_X5 : ∀ w ∈ u_ws RX5 TX5 6, w ∈ gtb := by decide +kernel
theorem gin_X6 : ∀ w ∈ u_ws RX6 TX6 5, w ∈ gtb := by decide +kernel
theorem gin_X7 : ∀ w ∈ u_ws RX7 TX7 7, w ∈ gtb := by decide +kernel
theorem gin_X8 : ∀ w ∈ u_ws RX8 TX8 33, w ∈ gtb := by decide +kernel
theorem gcl_in {ci : Nat} {C : String} {T : u_T} {N : Nat} (h : vwCl[ci]? = some (C, T, N)) : ∀ w ∈ u_ws C T N, w ∈ gtb := by
  match ci, h with
  | 0, h => cases h; exact gin_Jx00060
  | 1, h => cases h; exact gin_X0
  | 2, h => cases h; exact gin_X1
  | 3, h => cases h; exact gin_X2
  | 4, h => cases h; exact gin_X3
  | 5, h => cases h; exact gin_X4
  | 6, h => cases h; exact gin_X5
  | 7, h => cases h; exact gin_X6
  | 8, h => cases h; exact gin_X7
  | 9, h => cases h; exact gin_X8
  | k + 10, h => simp [vwCl] at h
theorem gcl_ty {ci : Nat} {C : String} {T : u_T} {N : Nat} (h : vwCl[ci]? = some (C, T, N)) : ∀ k, k < N → parseFieldDescriptor (T k).2.2.1 = some (gty ci k) := by
  match ci, h with
  | 0, h => cases h; exact tyJx00060_ok
  | 1, h => cases h; exact tyX0_ok
  | 2, h => cases h; exact tyX1_ok
  | 3, h => cases h; exact tyX2_ok
  | 4, h => cases h; exact tyX3_ok
  | 5, h => cases h; exact tyX4_ok
  | 6, h => cases h; exact tyX5_ok
  | 7, h => cases h; exact tyX6_ok
  | 8, h => cases h; exact tyX7_ok
  | 9, h => cases h; exact tyX8_ok
  | k + 10, h => simp [vwCl] at h
theorem gcl_nm {ci : Nat} {C : String} {T : u_T} {N : Nat} (h : vwCl[ci]? = some (C, T, N)) : ∀ a, a < N → ∀ b, b < N → a ≠ b → (T a).2.1 ≠ (T b).2.1 := by
  match ci, h with
  | 0, h => cases h; exact nmJx00060
  | 1, h => cases h; exact nmX0
  | 2, h => cases h; exact nmX1
  | 3, h => cases h; exact nmX2
  | 4, h => cases h; exact nmX3
  | 5, h => cases h; exact nmX4
  | 6, h => cases h; exact nmX5
  | 7, h => cases h; exact nmX6
  | 8, h => cases h; exact nmX7
  | 9, h => cases h; exact nmX8
  | k + 10, h => simp [vwCl] at h
abbrev gI : Type := Nat × Instr × Nat
/-- a method: its bytes, how many locals, the class that it stands in, its instructions, its fields' places in the pool -/
abbrev gM : Type := ByteArray × Nat × String × List gI × List gFt × Room
def gfet (pc : Nat) : List gI → Option (Instr × Nat)
  | [] => none
  | q :: t => match Nat.beq q.1 pc with
    | true => some q.2
    | false => gfet pc t
def gfok (own : String) (f : gFt) : Bool := match vwCl[f.2.1]? with
  | none => false
  | some (_, T, N) => Nat.blt f.2.2.1 N && decide (Cond.fieldLink own f.1 (T f.2.2.1).1 (T f.2.2.1).2.1 (T f.2.2.1).2.2.1 ∈ gtb) && (match parseFieldDescriptor (T f.2.2.1).2.2.1, f.2.2.2, (T f.2.2.1).2.2.2 with
    | some .int, 0, false => true
    | some .boolean, 1, false => true
    | some _, 2, _ => true
    | some _, 3, _ => true
    | _, _, _ => false)
def gOkM (mm : gM) : Prop := (∀ q ∈ mm.2.2.2.1, decode mm.1 q.1 = .ok (q.2.1, q.2.2) ∧ gwell mm.2.1 q.1 q.2.1 q.2.2 = true) ∧ ∀ f ∈ mm.2.2.2.2.1, gfok mm.2.2.1 f = true
abbrev gX : Type := Program × Launch × Env × Room × State × MethodId × Array Value × List Frame × Method × Code × va_G × (Nat → ClassId) × (Nat → Prop) × Heap × (State → Prop)
def gOk (X : gX) (mm : gM) : Prop := match X with
  | (p, _, _, R, s, m, args, _, meth, c, D, cA, A, H0, _) => p.tables.exec = Jvm.exec ∧ c.code = mm.1 ∧ c.maxLocals = mm.2.1 ∧ s.vm.findClass mm.2.2.1 = some m.cls ∧ (∀ w ∈ gtb, w.before args s = true) ∧ va_K D vwCl (gtys cA) s ∧ meth.locks = false ∧ (∀ q : Nat, H0.size ≤ q → A q) ∧ R = mm.2.2.2.2.2 ∧ gOkM mm
/-- from this state the machine comes to its goal -/
def G (X : gX) (mm : gM) (ad : Nat → Nat) (kc ks : Nat) (S : gS) : Prop := match X with
  | (p, l, e, R, s, m, args, below, meth, c, D, cA, A, H0, Q) => ∀ (H : Heap) (locs : List Loc) (ls : Array Slot), va_P D vwCl (gw cA ad S.1) H → va_D A (gw cA ad S.1) → va_S A H0 H locs → lv_has ls mm.2.1 (S.2.2.1.map (fun q => (q.1, gv ad q.2))) → W p l e R s m args below meth c H locs kc ks Q (F0 m S.2.1 ls (S.2.2.2.map (gv ad)))
theorem gbeq {a b : Nat} (h : Nat.beq a b = true) : a = b := Nat.eq_of_beq_eq_true h
theorem gbne {a b : Nat} (h : Nat.beq a b = false) : a ≠ b := Nat.ne_of_beq_eq_false h
theorem gfet_mem {pc : Nat} {is : List gI} {i : Instr} {n : Nat} (h : gfet pc is = some (i, n)) : (pc, i, n) ∈ is := by
  induction is with
  | nil => cases h
  | cons q t ih =>
    unfold gfet at h
    split at h
    next hb =>
      obtain ⟨a, b, c⟩ := q
      have := gbeq hb
      cases h
      cases this
      exact List.mem_cons_self
    next => exact List.mem_cons_of_mem _ (ih h)
theorem glook_mem {i : Nat} {lv : List (Nat × gV)} {v : gV} (h : glook i lv = some v) : (i, v) ∈ lv := by
  induction lv with
  | nil => cases h
  | cons q t ih =>
    unfold glook at h
    split at h
    next hb =>
      obtain ⟨a, b⟩ := q
      have := gbeq hb
      cases h
      cases this
      exact List.mem_cons_self
    next => exact List.mem_cons_of_mem _ (ih h)
theorem glv {ad : Nat → Nat} {ls : Array Slot} {nL : Nat} {lv : List (Nat × gV)} {i : Nat} {v : gV} (hl : lv_has ls nL (lv.map (fun q => (q.1, gv ad q.2)))) (h : glook i lv = some v) : ls[i]? = some (.val (gv ad v)) :=
  hl.2.2 (i, gv ad v) (List.mem_map.mpr ⟨(i, v), glook_mem h, rfl⟩)
theorem gdel_mem {i : Nat} {lv : List (Nat × gV)} {q : Nat × gV} (h : q ∈ gdel i lv) : q ∈ lv ∧ q.1 ≠ i := by
  induction lv with
  | nil => cases h
  | cons x t ih =>
    unfold gdel at h
    split at h
    next => exact ⟨List.mem_cons_of_mem _ (ih h).1, (ih h).2⟩
    next hb =>
      rcases List.mem_cons.mp h with rfl | h
      · exact ⟨List.mem_cons_self, gbne hb⟩
      · exact ⟨List.mem_cons_of_mem _ (ih h).1, (ih h).2⟩
theorem gset_mem {i : Nat} {v : gV} {lv : List (Nat × gV)} {q : Nat × gV} (h : q ∈ gset i v lv) : q = (i, v) ∨ (q ∈ lv ∧ q.1 ≠ i) := by
  induction lv with
  | nil =>
    rcases List.mem_cons.mp h with rfl | h
    · exact Or.inl rfl
    · cases h
  | cons x t ih =>
    unfold gset at h
    split at h
    next =>
      rcases List.mem_cons.mp h with rfl | h
      · exact Or.inl rfl
      · exact Or.inr ⟨List.mem_cons_of_mem _ (gdel_mem h).1, (gdel_mem h).2⟩
    next hb =>
      rcases List.mem_cons.mp h with rfl | h
      · exact Or.inr ⟨List.mem_cons_self, gbne hb⟩
      · rcases ih h with h | h
        · exact Or.inl h
        · exact Or.inr ⟨List.mem_cons_of_mem _ h.1, h.2⟩
theorem gnl_cat {ad : Nat → Nat} {lv : List (Nat × gV)} (h : gnl lv = true) {q : Nat × gV} (hq : q ∈ lv) : (gv ad q.2).category = 1 := by
  induction lv with
  | nil => cases hq
  | cons x t ih =>
    unfold gnl at h
    obtain ⟨a, b⟩ := x
    rcases b with z | z | (_ | k)
    · rcases List.mem_cons.mp hq with rfl | hq
      · rfl
      · exact ih h hq
    · cases h
    · rcases List.mem_cons.mp hq with rfl | hq
      · rfl
      · exact ih h hq
    · rcases List.mem_cons.mp hq with rfl | hq
      · rfl
      · exact ih h hq
theorem glvst {ad : Nat → Nat} {ls : Array Slot} {nL : Nat} {lv : List (Nat × gV)} {i : Nat} {v : gV} (hn : gnl lv = true) (hl : lv_has ls nL ((i, gv ad v) :: (lv.map (fun q => (q.1, gv ad q.2))).filter (fun q => !(q.1 == i) && !(q.1 + 1 == i && q.2.category == 2)))) : lv_has ls nL ((gset i v lv).map (fun q => (q.1, gv ad q.2))) := by
  refine ⟨hl.1, hl.2.1, fun q hq => ?_⟩
  obtain ⟨x, hx, rfl⟩ := List.mem_map.mp hq
  rcases gset_mem hx with rfl | ⟨h1, h2⟩
  · exact hl.2.2 _ List.mem_cons_self
  · refine hl.2.2 _ (List.mem_cons_of_mem _ (List.mem_filter.mpr ⟨List.mem_map.mpr ⟨x, h1, rfl⟩, ?_⟩))
    have hc := gnl_cat (ad := ad) hn h1
    simp [h2, hc]
theorem gwl_ix {k : Nat} {w : gW} {e : gE} (h : gwl k w = some e) : ∃ q0 : Nat, w[q0]? = some (k, e) ∧ ∀ e' : gE, gws k e' w = w.set q0 (k, e') := by
  induction w with
  | nil => cases h
  | cons q t ih =>
    unfold gwl at h
    split at h
    next hb =>
      obtain ⟨a, b⟩ := q
      have h9 := gbeq hb
      cases h
      refine ⟨0, by rw [← h9]; rfl, fun e' => ?_⟩
      unfold gws
      rw [hb]
      rfl
    next hb =>
      obtain ⟨q0, h1, h2⟩ := ih h
      refine ⟨q0 + 1, by simpa using h1, fun e' => ?_⟩
      show gws k e' (q :: t) = q :: t.set q0 (k, e')
      rw [← h2 e']
      conv => lhs; unfold gws
      rw [hb]
theorem gw_at {cA : Nat → ClassId} {ad : Nat → Nat} {w : gW} {q0 k : Nat} {e : gE} (h : w[q0]? = some (k, e)) : (gw cA ad w)[q0]? = some (ad k, ge cA ad e) := by
  unfold gw
  rw [List.getElem?_map, h]
  rfl
theorem gw_set {cA : Nat → ClassId} {ad : Nat → Nat} {w : gW} {q0 k : Nat} {e : gE} : gw cA ad (w.set q0 (k, e)) = (gw cA ad w).set q0 (ad k, ge cA ad e) := by
  unfold gw
  rw [List.map_set]
theorem gI_toInt {z : Int} (h : inR z) : (Int32.ofInt z).toInt = z := Int32.toInt_ofInt_of_le (by omega) (by omega)
theorem gI_lt {x y : Int} (hx : inR x) (hy : inR y) : Int32.ofInt x < Int32.ofInt y ↔ x < y := by rw [Int32.lt_iff_toInt_lt, gI_toInt hx, gI_toInt hy]
theorem gI_le {x y : Int} (hx : inR x) (hy : inR y) : Int32.ofInt x ≤ Int32.ofInt y ↔ x ≤ y := by rw [Int32.le_iff_toInt_le, gI_toInt hx, gI_toInt hy]
theorem gI_eq {x y : Int} (hx : inR x) (hy : inR y) : Int32.ofInt x = Int32.ofInt y ↔ x = y := by rw [← Int32.toInt_inj, gI_toInt hx, gI_toInt hy]
theorem gI_in {z : Int} {n : Nat} (h : 0 ≤ z ∧ z < (n : Int) ∧ (n : Int) ≤ 2147483647) : vp_in (Int32.ofInt z) n := by
  rw [vp_in_iff, gI_toInt ⟨by omega, by omega⟩]
  exact ⟨h.1, h.2.1⟩
theorem gI_cl {z : Int} (h0 : 0 ≤ z) (h1 : z ≤ 2147483647) : (Int32.ofInt z).toNatClampNeg = z.toNat := Int32.toNatClampNeg_ofInt_of_le (by omega) (by omega)
theorem gI_rd {z : Int} {n : Nat} (f : Int → Int) (h : 0 ≤ z ∧ z < (n : Int) ∧ (n : Int) ≤ 2147483647) : Int32.ofInt (f (((Int32.ofInt z).toNatClampNeg : Nat) : Int)) = Int32.ofInt (f z) := by
  rw [gI_cl h.1 (by omega), Int.toNat_of_nonneg h.1]
theorem gI_wr {z v : Int} {n : Nat} (f : Int → Int) (h : 0 ≤ z ∧ z < (n : Int) ∧ (n : Int) ≤ 2147483647) : upd (fun j : Nat => Int32.ofInt (f (j : Int))) (Int32.ofInt z).toNatClampNeg (Int32.ofInt v) = (fun j : Nat => Int32.ofInt (gu f z v (j : Int))) := by
  funext j
  rw [gI_cl h.1 (by omega)]
  simp only [upd, gu]
  by_cases hj : (j : Int) = z
  · have h2 : j = z.toNat := by omega
    rw [if_pos h2, if_pos hj]
  · have h2 : ¬ j = z.toNat := by omega
    rw [if_neg h2, if_neg hj]
theorem gI_div {x y : Int} (h : 0 ≤ x ∧ x < 2147483648 ∧ 0 < y ∧ y < 2147483648) : Int32.ofInt x / Int32.ofInt y = Int32.ofInt (x / y) := by
  have h1 : 0 ≤ x / y := Int.ediv_nonneg h.1 (by omega)
  have h2 : x / y ≤ x := Int.ediv_le_self y h.1
  apply Int32.toInt_inj.mp
  rw [Int32.toInt_div_of_ne_right _ _ (fun h9 => by
    have := congrArg Int32.toInt h9
    rw [gI_toInt ⟨by omega, by omega⟩] at this
    have h8 : (-1 : Int32).toInt = -1 := by decide
    omega), gI_toInt ⟨by omega, by omega⟩, gI_toInt ⟨by omega, by omega⟩, gI_toInt ⟨by omega, by omega⟩, Int.tdiv_eq_ediv_of_nonneg h.1]
theorem gI_rem {x y : Int} (h : 0 ≤ x ∧ x < 2147483648 ∧ 0 < y ∧ y < 2147483648) : Int32.ofInt x - Int32.ofInt x / Int32.ofInt y * Int32.ofInt y = Int32.ofInt (x % y) := by
  rw [gI_div h, ← Int32.ofInt_mul, ← Int32.ofInt_sub, Int.emod_def, Int.mul_comm y]
theorem gI_ne0 {y : Int} (h : 0 < y ∧ y < 2147483648) : ¬ Int32.ofInt y = 0 := by
  intro h9
  have := congrArg Int32.toInt h9
  rw [gI_toInt ⟨by omega, by omega⟩] at this
  have h8 : (0 : Int32).toInt = 0 := by decide
  omega
theorem gI_bool {z : Int} (h : z = 0 ∨ z = 1) : narrow .boolean (.int (Int32.ofInt z)) = .int (Int32.ofInt z) ∧ fits .boolean (.int (Int32.ofInt z)) = true ∧ vp_nar .boolean (Int32.ofInt z) = Int32.ofInt z := by
  rcases h with rfl | rfl <;> decide
theorem gft_mem {idx : Nat} {ft : List gFt} {q : Nat × Nat × Nat} (h : gft idx ft = some q) : (idx, q) ∈ ft := by
  induction ft with
  | nil => cases h
  | cons x t ih =>
    unfold gft at h
    split at h
    next hb =>
      obtain ⟨a, b⟩ := x
      have := gbeq hb
      cases h
      cases this
      exact List.mem_cons_self
    next => exact List.mem_cons_of_mem _ (ih h)
theorem gfok_ok {own : String} {ft : List gFt} {idx ci k kd : Nat} (hF : ∀ f ∈ ft, gfok own f = true) (hf : (idx, ci, k, kd) ∈ ft) : ∃ (C : String) (T : u_T) (N : Nat), vwCl[ci]? = some (C, T, N) ∧ k < N ∧ Cond.fieldLink own idx (T k).1 (T k).2.1 (T k).2.2.1 ∈ gtb ∧ ((kd = 0 → parseFieldDescriptor (T k).2.2.1 = some .int ∧ (T k).2.2.2 = false) ∧ (kd = 1 → parseFieldDescriptor (T k).2.2.1 = some .boolean ∧ (T k).2.2.2 = false)) := by
  have h := hF _ hf
  unfold gfok at h
  dsimp only at h
  cases hc : vwCl[ci]? with
  | none => rw [hc] at h; cases h
  | some q =>
    obtain ⟨C, T, N⟩ := q
    rw [hc] at h
    dsimp only at h
    simp only [Bool.and_eq_true] at h
    obtain ⟨⟨h1, h2⟩, h3⟩ := h
    refine ⟨C, T, N, rfl, by simpa [Nat.blt_eq] using h1, of_decide_eq_true h2, fun e => ?_, fun e => ?_⟩
    · subst e
      revert h3
      generalize parseFieldDescriptor (T k).2.2.1 = a
      generalize (T k).2.2.2 = b
      intro h3
      split at h3 <;> first | (exact ⟨rfl, rfl⟩) | (simp_all; done) | (cases h3)
    · subst e
      revert h3
      generalize parseFieldDescriptor (T k).2.2.1 = a
      generalize (T k).2.2.2 = b
      intro h3
      split at h3 <;> first | (exact ⟨rfl, rfl⟩) | (simp_all; done) | (cases h3)
end
section
set_option maxHeartbeats 4000000 in
set_option maxRecDepth 100000 in
theorem gstep_ok {X : gX} {mm : gM} {ad : Nat → Nat} {kc ks : Nat} (hX : gOk X mm) {i : Instr} {n : Nat} {S S' : gS} {O : Option Prop} (hi : (S.2.1, i, n) ∈ mm.2.2.2.1) (h : gstep mm.2.2.2.2.1 i n S = some (S', O)) (hO : ∀ P, O = some P → P) (k : G X mm ad kc ks S') : G X mm ad kc ks S := by
  obtain ⟨p, l, e, R, s, m, args, below, meth, c, D, cA, A, H0, Q⟩ := X
  obtain ⟨w, pc, lv, st⟩ := S
  obtain ⟨hx, hb, hml, hown, hts, hK, hlk, hA, hR, hM⟩ := hX
  obtain ⟨hd, hw⟩ := hM.1 _ hi
  have hF := hM.2
  dsimp only at hd hw hi
  intro H locs ls hP hD hS hl
  dsimp only at hP hD hl ⊢
  cases i
  case iload_n kk =>
    have hn := gbeq hw
    subst hn
    cases hg : glook kk.val lv with
    | none => simp only [gstep, hg] at h; cases h
    | some v =>
      rcases v with z | z | _ | z <;> simp only [gstep, hg] at h <;> first | (cases h; done) | skip
      cases h
      exact lv_iload_n hx hb hd rfl (glv hl hg) (k H locs ls hP hD hS hl)
  case iload kk =>
    have hn := gbeq hw
    subst hn
    cases hg : glook kk lv with
    | none => simp only [gstep, hg] at h; cases h
    | some v =>
      rcases v with z | z | _ | z <;> simp only [gstep, hg] at h <;> first | (cases h; done) | skip
      cases h
      exact lv_iload hx hb hd (glv hl hg) (k H locs ls hP hD hS hl)
  case aload_n kk =>
    have hn := gbeq hw
    subst hn
    cases hg : glook kk.val lv with
    | none => simp only [gstep, hg] at h; cases h
    | some v =>
      rcases v with z | z | _ | z <;> simp only [gstep, hg] at h <;> first | (cases h; done) | skip
      cases h
      exact lv_aload_n hx hb hd rfl (glv hl hg) (k H locs ls hP hD hS hl)
  case aload kk =>
    have hn := gbeq hw
    subst hn
    cases hg : glook kk lv with
    | none => simp only [gstep, hg] at h; cases h
    | some v =>
      rcases v with z | z | _ | z <;> simp only [gstep, hg] at h <;> first | (cases h; done) | skip
      cases h
      exact lv_aload hx hb hd (glv hl hg) (k H locs ls hP hD hS hl)
  case istore_n kk =>
    obtain ⟨hw1, hw2⟩ := Bool.and_eq_true_iff.mp hw
    have hn := gbeq hw1
    subst hn
    have hlt : kk.val < mm.2.1 := by simpa [Nat.blt_eq] using hw2
    cases hg : gnl lv with
    | false => simp only [gstep, hg] at h; cases h
    | true =>
      rcases st with _ | ⟨z | z | _ | z, st⟩ <;> simp only [gstep, hg] at h <;> first | (cases h; done) | skip
      cases h
      exact lv_istore_n hx hb hd rfl hl hlt rfl (fun ls' hl' => k H locs ls' hP hD hS (glvst hg hl'))
  case istore kk =>
    obtain ⟨hw1, hw2⟩ := Bool.and_eq_true_iff.mp hw
    have hn := gbeq hw1
    subst hn
    have hlt : kk < mm.2.1 := by simpa [Nat.blt_eq] using hw2
    cases hg : gnl lv with
    | false => simp only [gstep, hg] at h; cases h
    | true =>
      rcases st with _ | ⟨z | z | _ | z, st⟩ <;> simp only [gstep, hg] at h <;> first | (cases h; done) | skip
      cases h
      exact lv_istore hx hb hd hl hlt rfl (fun ls' hl' => k H locs ls' hP hD hS (glvst hg hl'))
  case astore_n kk =>
    obtain ⟨hw1, hw2⟩ := Bool.and_eq_true_iff.mp hw
    have hn := gbeq hw1
    subst hn
    have hlt : kk.val < mm.2.1 := by simpa [Nat.blt_eq] using hw2
    cases hg : gnl lv with
    | false => simp only [gstep, hg] at h; cases h
    | true =>
      rcases st with _ | ⟨z | z | _ | z, st⟩ <;> simp only [gstep, hg] at h <;> first | (cases h; done) | skip
      cases h
      exact lv_astore_n hx hb hd rfl hl hlt rfl (fun ls' hl' => k H locs ls' hP hD hS (glvst hg hl'))
  case astore kk =>
    obtain ⟨hw1, hw2⟩ := Bool.and_eq_true_iff.mp hw
    have hn := gbeq hw1
    subst hn
    have hlt : kk < mm.2.1 := by simpa [Nat.blt_eq] using hw2
    cases hg : gnl lv with
    | false => simp only [gstep, hg] at h; cases h
    | true =>
      rcases st with _ | ⟨z | z | _ | z, st⟩ <;> simp only [gstep, hg] at h <;> first | (cases h; done) | skip
      cases h
      exact lv_astore hx hb hd hl hlt rfl (fun ls' hl' => k H locs ls' hP hD hS (glvst hg hl'))
  case iinc kk cc =>
    obtain ⟨hw1, hw2⟩ := Bool.and_eq_true_iff.mp hw
    have hn := gbeq hw1
    subst hn
    have hlt : kk < mm.2.1 := by simpa [Nat.blt_eq] using hw2
    cases hg : gnl lv with
    | false => simp only [gstep, hg] at h; cases h
    | true =>
      cases hg2 : glook kk lv with
      | none => simp only [gstep, hg, hg2] at h; cases h
      | some v =>
        rcases v with z | z | _ | z <;> simp only [gstep, hg, hg2] at h <;> first | (cases h; done) | skip
        cases h
        obtain ⟨j, hj⟩ := List.getElem?_of_mem (glook_mem hg2)
        exact lv_iinc (v := Int32.ofInt (z + cc)) (k := j) (x := Int32.ofInt z) hx hb hd hl (by rw [List.getElem?_map, hj]; rfl) (Int32.ofInt_add z cc).symm hlt rfl (fun ls' hl' => k H locs ls' hP hD hS (glvst (v := .inl (z + cc)) hg hl'))
  case iconst z =>
    have hn := gbeq hw
    subst hn
    simp only [gstep] at h
    cases h
    exact lv_iconst hx hb hd rfl (k H locs ls hP hD hS hl)
  case bipush z =>
    obtain ⟨hw1, hw2⟩ := Bool.and_eq_true_iff.mp hw
    have hn := gbeq hw1
    subst hn
    simp only [gstep] at h
    cases h
    exact lv_bipush hx hb hd (of_decide_eq_true hw2) (k H locs ls hP hD hS hl)
  case sipush z =>
    obtain ⟨hw1, hw2⟩ := Bool.and_eq_true_iff.mp hw
    have hn := gbeq hw1
    subst hn
    simp only [gstep] at h
    cases h
    exact lv_sipush hx hb hd (of_decide_eq_true hw2) (k H locs ls hP hD hS hl)
  case iadd =>
    have hn := gbeq hw
    subst hn
    rcases st with _ | ⟨y | y | _ | y, _ | ⟨x | x | _ | x, st⟩⟩ <;> simp only [gstep] at h <;> first | (cases h; done) | skip
    cases h
    refine lv_iadd hx hb hd ?_
    have k9 := k H locs ls hP hD hS hl
    simp only [List.map_cons, gv, Int32.ofInt_add] at k9
    exact k9
  case isub =>
    have hn := gbeq hw
    subst hn
    rcases st with _ | ⟨y | y | _ | y, _ | ⟨x | x | _ | x, st⟩⟩ <;> simp only [gstep] at h <;> first | (cases h; done) | skip
    cases h
    refine lv_isub hx hb hd ?_
    have k9 := k H locs ls hP hD hS hl
    simp only [List.map_cons, gv, Int32.ofInt_sub] at k9
    exact k9
  case imul =>
    have hn := gbeq hw
    subst hn
    rcases st with _ | ⟨y | y | _ | y, _ | ⟨x | x | _ | x, st⟩⟩ <;> simp only [gstep] at h <;> first | (cases h; done) | skip
    cases h
    refine lv_imul hx hb hd ?_
    have k9 := k H locs ls hP hD hS hl
    simp only [List.map_cons, gv, Int32.ofInt_mul] at k9
    exact k9
  case ineg =>
    have hn := gbeq hw
    subst hn
    rcases st with _ | ⟨y | y | _ | y, st⟩ <;> simp only [gstep] at h <;> first | (cases h; done) | skip
    cases h
    refine lv_ineg hx hb hd ?_
    have k9 := k H locs ls hP hD hS hl
    simp only [List.map_cons, gv, Int32.ofInt_neg] at k9
    exact k9
  case iand =>
    have hn := gbeq hw
    subst hn
    rcases st with _ | ⟨y | y | _ | y, _ | ⟨x | x | _ | x, st⟩⟩ <;> simp only [gstep] at h <;> first | (cases h; done) | skip
    cases h
    refine lv_iand hx hb hd ?_
    have k9 := k H locs ls hP hD hS hl
    simp only [List.map_cons, gv, Int32.ofInt_toInt] at k9
    exact k9
  case idiv =>
    have hn := gbeq hw
    subst hn
    rcases st with _ | ⟨y | y | _ | y, _ | ⟨x | x | _ | x, st⟩⟩ <;> simp only [gstep] at h <;> first | (cases h; done) | skip
    cases h
    have h9 := hO _ rfl
    refine lv_idiv hx hb hd (gI_ne0 h9.2.2) ?_
    have k9 := k H locs ls hP hD hS hl
    simp only [List.map_cons, gv] at k9
    rw [gI_div h9]
    exact k9
  case irem =>
    have hn := gbeq hw
    subst hn
    rcases st with _ | ⟨y | y | _ | y, _ | ⟨x | x | _ | x, st⟩⟩ <;> simp only [gstep] at h <;> first | (cases h; done) | skip
    cases h
    have h9 := hO _ rfl
    refine lv_irem hx hb hd (gI_ne0 h9.2.2) ?_
    have k9 := k H locs ls hP hD hS hl
    simp only [List.map_cons, gv] at k9
    rw [gI_rem h9]
    exact k9
  case dup =>
    have hn := gbeq hw
    subst hn
    rcases st with _ | ⟨y | y | _ | y, st⟩ <;> simp only [gstep] at h <;> first | (cases h; done) | skip
    all_goals
      cases h
      exact lv_dup hx hb hd rfl (k H locs ls hP hD hS hl)
  case pop =>
    have hn := gbeq hw
    subst hn
    rcases st with _ | ⟨y | y | _ | y, st⟩ <;> simp only [gstep] at h <;> first | (cases h; done) | skip
    all_goals
      cases h
      exact lv_pop hx hb hd rfl (k H locs ls hP hD hS hl)
  case dup2 =>
    have hn := gbeq hw
    subst hn
    rcases st with _ | ⟨y | y | _ | y, _ | ⟨x | x | _ | x, st⟩⟩ <;> simp only [gstep] at h <;> first | (cases h; done) | skip
    all_goals
      cases h
      exact lv_dup2_11 hx hb hd rfl rfl (k H locs ls hP hD hS hl)
  case dup_x1 =>
    have hn := gbeq hw
    subst hn
    rcases st with _ | ⟨y | y | _ | y, _ | ⟨x | x | _ | x, st⟩⟩ <;> simp only [gstep] at h <;> first | (cases h; done) | skip
    all_goals
      cases h
      exact lv_dup_x1 hx hb hd rfl rfl (k H locs ls hP hD hS hl)
  case goto off =>
    obtain ⟨hw1, hw2⟩ := Bool.and_eq_true_iff.mp hw
    have hn := gbeq hw1
    subst hn
    simp only [gstep] at h
    cases h
    exact lv_goto hx hb hd (Int.toNat_of_nonneg (of_decide_eq_true hw2)).symm (k H locs ls hP hD hS hl)
  case getfield idx =>
    have hn := gbeq hw
    subst hn
    rcases st with _ | ⟨y | y | _ | o, st⟩ <;> simp only [gstep] at h <;> first | (cases h; done) | skip
    cases hg : gft idx mm.2.2.2.2.1 with
    | none => simp only [hg] at h; cases h
    | some q =>
      obtain ⟨ci, kf, kd⟩ := q
      cases hg2 : gwl o w with
      | none => simp only [hg, hg2] at h; cases h
      | some e9 =>
        rcases e9 with ⟨cj, fs⟩ | e9
        · simp only [hg, hg2] at h
          cases hb2 : Nat.beq ci cj with
          | false => simp only [hb2] at h; cases h
          | true =>
            cases hfs : fs[kf]? with
            | none => simp only [hb2, hfs] at h; cases h
            | some v =>
              simp only [hb2, hfs] at h
              cases h
              have e1 := gbeq hb2
              subst e1
              obtain ⟨C, T, N, hc, hkN, hlink, -⟩ := gfok_ok hF (gft_mem hg)
              obtain ⟨q0, hq, -⟩ := gwl_ix hg2
              exact va_get (D := D) (v := gv ad v) hx hb hts (gcl_in hc) hown hK hP q0 (gw_at hq) hc kf hkN (hts _ hlink) (fun _ h => h) (by rw [List.getElem?_map, hfs]; rfl) hd (k H locs ls hP hD hS hl)
        · simp only [hg, hg2] at h
          cases h
  case putfield idx =>
    have hn := gbeq hw
    subst hn
    rcases st with _ | ⟨z | z | _ | z, _ | ⟨y | y | _ | o, st⟩⟩ <;> simp only [gstep] at h <;> first | (cases h; done) | skip
    cases hg : gft idx mm.2.2.2.2.1 with
    | none => simp only [hg] at h; cases h
    | some q =>
      obtain ⟨ci, kf, kd⟩ := q
      cases hg2 : gwl o w with
      | none => rcases kd with _ | _ | kd <;> simp only [hg, hg2] at h <;> cases h
      | some e9 =>
        rcases e9 with ⟨cj, fs⟩ | e9
        · obtain ⟨C, T, N, hc, hkN, hlink, hty⟩ := gfok_ok hF (gft_mem hg)
          obtain ⟨q0, hq, hset⟩ := gwl_ix hg2
          rcases kd with _ | _ | kd
          · simp only [hg, hg2] at h
            cases hb2 : Nat.beq ci cj with
            | false => simp only [hb2] at h; cases h
            | true =>
              cases hfs : fs[kf]? with
              | none => simp only [hb2, hfs] at h; cases h
              | some v =>
                simp only [hb2, hfs] at h
                cases h
                have e1 := gbeq hb2
                subst e1
                obtain ⟨ht1, ht2⟩ := hty.1 rfl
                refine va_put (D := D) (v := .int (Int32.ofInt z)) (ty := .int) hx hb hts (gcl_in hc) (gty ci) (gcl_ty hc) (gcl_nm hc) hown hK hP hD hS q0 (gw_at hq) hc kf hkN (hts _ hlink) (fun _ h => h) ht2 ht1 rfl rfl (by rw [List.length_map]; exact (List.getElem?_eq_some_iff.mp hfs).1) hd (fun H1 locs1 hP1 hD1 hS1 => ?_)
                refine k H1 locs1 ls ?_ ?_ hS1 hl
                · show va_P D vwCl (gw cA ad (gws o _ w)) H1
                  rw [hset, gw_set]
                  simpa [ge, gv, List.map_set] using hP1
                · show va_D A (gw cA ad (gws o _ w))
                  rw [hset, gw_set]
                  simpa [ge, gv, List.map_set] using hD1
          · simp only [hg, hg2] at h
            cases hb2 : Nat.beq ci cj with
            | false => simp only [hb2] at h; cases h
            | true =>
              cases hfs : fs[kf]? with
              | none => simp only [hb2, hfs] at h; cases h
              | some v =>
                simp only [hb2, hfs] at h
                cases h
                have e1 := gbeq hb2
                subst e1
                obtain ⟨ht1, ht2⟩ := hty.2 rfl
                have h9 := gI_bool (hO _ rfl)
                refine va_put (D := D) (v := .int (Int32.ofInt z)) (ty := .boolean) hx hb hts (gcl_in hc) (gty ci) (gcl_ty hc) (gcl_nm hc) hown hK hP hD hS q0 (gw_at hq) hc kf hkN (hts _ hlink) (fun _ h => h) ht2 ht1 h9.1 h9.2.1 (by rw [List.length_map]; exact (List.getElem?_eq_some_iff.mp hfs).1) hd (fun H1 locs1 hP1 hD1 hS1 => ?_)
                refine k H1 locs1 ls ?_ ?_ hS1 hl
                · show va_P D vwCl (gw cA ad (gws o _ w)) H1
                  rw [hset, gw_set]
                  simpa [ge, gv, List.map_set] using hP1
                · show va_D A (gw cA ad (gws o _ w))
                  rw [hset, gw_set]
                  simpa [ge, gv, List.map_set] using hD1
          · simp only [hg, hg2] at h
            cases h
        · rcases kd with _ | _ | kd <;> simp only [hg, hg2] at h <;> cases h
  case iaload =>
    have hn := gbeq hw
    subst hn
    rcases st with _ | ⟨z | z | _ | z, _ | ⟨y | y | _ | o, st⟩⟩ <;> simp only [gstep] at h <;> first | (cases h; done) | skip
    cases hg2 : gwl o w with
    | none => simp only [hg2] at h; cases h
    | some e9 =>
      rcases e9 with ⟨cj, fs⟩ | ⟨_ | t, len, f | f⟩ <;> simp only [hg2] at h <;> first | (cases h; done) | skip
      cases h
      have h9 := hO _ rfl
      obtain ⟨q0, hq, -⟩ := gwl_ix hg2
      refine va_iald (D := D) hx hb hK hP q0 0 (gw_at hq) rfl (gI_in h9) hd ?_
      rw [gI_rd f h9]
      exact k H locs ls hP hD hS hl
  case baload =>
    have hn := gbeq hw
    subst hn
    rcases st with _ | ⟨z | z | _ | z, _ | ⟨y | y | _ | o, st⟩⟩ <;> simp only [gstep] at h <;> first | (cases h; done) | skip
    cases hg2 : gwl o w with
    | none => simp only [hg2] at h; cases h
    | some e9 =>
      rcases e9 with ⟨cj, fs⟩ | ⟨_ | _ | t, len, f | f⟩ <;> simp only [hg2] at h <;> first | (cases h; done) | skip
      cases h
      have h9 := hO _ rfl
      obtain ⟨q0, hq, -⟩ := gwl_ix hg2
      refine va_zald (D := D) hx hb hK hP q0 1 (gw_at hq) rfl (gI_in h9) hd ?_
      rw [gI_rd f h9]
      exact k H locs ls hP hD hS hl
  case iastore =>
    have hn := gbeq hw
    subst hn
    rcases st with _ | ⟨v | v | _ | v, _ | ⟨z | z | _ | z, _ | ⟨y | y | _ | o, st⟩⟩⟩ <;> simp only [gstep] at h <;> first | (cases h; done) | skip
    cases hg2 : gwl o w with
    | none => simp only [hg2] at h; cases h
    | some e9 =>
      rcases e9 with ⟨cj, fs⟩ | ⟨_ | t, len, f | f⟩ <;> simp only [hg2] at h <;> first | (cases h; done) | skip
      cases h
      have h9 := hO _ rfl
      obtain ⟨q0, hq, hset⟩ := gwl_ix hg2
      refine va_iast (D := D) hx hb hK hP hD hS q0 0 (gw_at hq) rfl (gI_in h9) hd (fun H1 locs1 hP1 hD1 hS1 => ?_)
      rw [gI_wr f h9] at hP1 hD1
      refine k H1 locs1 ls ?_ ?_ hS1 hl
      · show va_P D vwCl (gw cA ad (gws o _ w)) H1
        rw [hset, gw_set]
        exact hP1
      · show va_D A (gw cA ad (gws o _ w))
        rw [hset, gw_set]
        exact hD1
  case bastore =>
    have hn := gbeq hw
    subst hn
    rcases st with _ | ⟨v | v | _ | v, _ | ⟨z | z | _ | z, _ | ⟨y | y | _ | o, st⟩⟩⟩ <;> simp only [gstep] at h <;> first | (cases h; done) | skip
    cases hg2 : gwl o w with
    | none => simp only [hg2] at h; cases h
    | some e9 =>
      rcases e9 with ⟨cj, fs⟩ | ⟨_ | _ | t, len, f | f⟩ <;> simp only [hg2] at h <;> first | (cases h; done) | skip
      cases h
      have h9 := hO _ rfl
      obtain ⟨q0, hq, hset⟩ := gwl_ix hg2
      refine va_zast (D := D) hx hb hK hP hD hS q0 1 (gw_at hq) rfl (gI_in h9.1) hd (fun H1 locs1 hP1 hD1 hS1 => ?_)
      rw [(gI_bool h9.2).2.2] at hP1 hD1
      rw [gI_wr f h9.1] at hP1 hD1
      refine k H1 locs1 ls ?_ ?_ hS1 hl
      · show va_P D vwCl (gw cA ad (gws o _ w)) H1
        rw [hset, gw_set]
        exact hP1
      · show va_D A (gw cA ad (gws o _ w))
        rw [hset, gw_set]
        exact hD1
  case arraylength =>
    have hn := gbeq hw
    subst hn
    rcases st with _ | ⟨y | y | _ | o, st⟩ <;> simp only [gstep] at h <;> first | (cases h; done) | skip
    cases hg2 : gwl o w with
    | none => simp only [hg2] at h; cases h
    | some e9 =>
      rcases e9 with ⟨cj, fs⟩ | ⟨_ | _ | t, len, f | f⟩ <;> simp only [hg2] at h <;> first | (cases h; done) | skip
      all_goals
        cases h
        obtain ⟨q0, hq, -⟩ := gwl_ix hg2
      · exact va_alen (D := D) hx hb hK hP q0 0 (gw_at hq) rfl (Int32.ofInt_eq_ofNat).symm hd (k H locs ls hP hD hS hl)
      · exact va_alen (D := D) hx hb hK hP q0 1 (gw_at hq) rfl (Int32.ofInt_eq_ofNat).symm hd (k H locs ls hP hD hS hl)
  all_goals (cases h)
end
section
/-! rows over G: a run of straight instructions, branches, the way into and out of a method, calls -/
def gcat (O1 : Option Prop) (O2 : Prop) : Prop := match O1 with
  | none => O2
  | some P => P ∧ O2
/-- n straight instructions; what has to hold for them (indices in range) -/
def grun (is : List gI) (ft : List gFt) : Nat → gS → Option (gS × Prop)
  | 0, S => some (S, True)
  | n + 1, S => match gfet S.2.1 is with
    | none => none
    | some (i, len) => match gstep ft i len S with
      | none => none
      | some (S1, O1) => match grun is ft n S1 with
        | none => none
        | some (S2, O2) => some (S2, gcat O1 O2)
theorem gOk.m {X : gX} {mm : gM} (h : gOk X mm) : gOkM mm := by
  obtain ⟨p, l, e, R, s, m, args, below, meth, c, D, cA, A, H0, Q⟩ := X
  exact h.2.2.2.2.2.2.2.2.2
theorem G.go {X : gX} {mm : gM} {ad : Nat → Nat} {kc ks : Nat} (hX : gOk X mm) (n : Nat) {S : gS} (S' : gS) {O : Prop} (h : grun mm.2.2.2.1 mm.2.2.2.2.1 n S = some (S', O)) (hO : O) (k : G X mm ad kc ks S') : G X mm ad kc ks S := by
  induction n generalizing S O with
  | zero =>
    unfold grun at h
    cases h
    exact k
  | succ n ih =>
    unfold grun at h
    cases hf : gfet S.2.1 mm.2.2.2.1 with
    | none => simp only [hf] at h; cases h
    | some q =>
      obtain ⟨i, len⟩ := q
      simp only [hf] at h
      cases hs : gstep mm.2.2.2.2.1 i len S with
      | none => simp only [hs] at h; cases h
      | some q =>
        obtain ⟨S1, O1⟩ := q
        simp only [hs] at h
        cases hr : grun mm.2.2.2.1 mm.2.2.2.2.1 n S1 with
        | none => simp only [hr] at h; cases h
        | some q =>
          obtain ⟨S2, O2⟩ := q
          simp only [hr] at h
          cases h
          have hO2 : O2 := by
            cases O1 with
            | none => exact hO
            | some P => exact hO.2
          refine gstep_ok hX (gfet_mem hf) hs (fun P hP => ?_) (ih hr hO2)
          subst hP
          exact hO.1
/-- another picture of the same state -/
theorem G.eq {X : gX} {mm : gM} {ad : Nat → Nat} {kc ks : Nat} {S S' : gS} (h : S = S') (k : G X mm ad kc ks S') : G X mm ad kc ks S := h ▸ k
theorem g_icmp_eq {X : gX} {mm : gM} {ad : Nat → Nat} {kc ks : Nat} (hX : gOk X mm) {w : gW} {pc : Nat} (tgt : Nat) {off : Int} {lv : List (Nat × gV)} {st : List gV} {x y : Int} (hi : gfet pc mm.2.2.2.1 = some (.if_icmp .eq off, 3)) (ht : (pc : Int) + off = (tgt : Int)) (hx : inR x) (hy : inR y) (kt : x = y → G X mm ad kc ks (w, tgt, lv, st)) (kf : ¬ (x = y) → G X mm ad kc ks (w, pc + 3, lv, st)) : G X mm ad kc ks (w, pc, lv, .inl y :: .inl x :: st) := by
  have hd := (hX.m.1 _ (gfet_mem hi)).1
  obtain ⟨p, l, e, R, s, m, args, below, meth, c, D, cA, A, H0, Q⟩ := X
  obtain ⟨hxc, hb, hml, hown, hts, hK, hlk, hA, hR, hM⟩ := hX
  intro H locs ls hP hD hS hl
  exact lv_icmp_eq (tgt := tgt) hxc hb hd ht (fun h => kt ((gI_eq hx hy).mp h) H locs ls hP hD hS hl) (fun h => kf (fun h9 => h ((gI_eq hx hy).mpr h9)) H locs ls hP hD hS hl)
theorem g_icmp_ne {X : gX} {mm : gM} {ad : Nat → Nat} {kc ks : Nat} (hX : gOk X mm) {w : gW} {pc : Nat} (tgt : Nat) {off : Int} {lv : List (Nat × gV)} {st : List gV} {x y : Int} (hi : gfet pc mm.2.2.2.1 = some (.if_icmp .ne off, 3)) (ht : (pc : Int) + off = (tgt : Int)) (hx : inR x) (hy : inR y) (kt : ¬ x = y → G X mm ad kc ks (w, tgt, lv, st)) (kf : ¬ (¬ x = y) → G X mm ad kc ks (w, pc + 3, lv, st)) : G X mm ad kc ks (w, pc, lv, .inl y :: .inl x :: st) := by
  have hd := (hX.m.1 _ (gfet_mem hi)).1
  obtain ⟨p, l, e, R, s, m, args, below, meth, c, D, cA, A, H0, Q⟩ := X
  obtain ⟨hxc, hb, hml, hown, hts, hK, hlk, hA, hR, hM⟩ := hX
  intro H locs ls hP hD hS hl
  exact lv_icmp_ne (tgt := tgt) hxc hb hd ht (fun h => kt ((not_congr (gI_eq hx hy)).mp h) H locs ls hP hD hS hl) (fun h => kf (fun h9 => h9 ((gI_eq hx hy).mp h)) H locs ls hP hD hS hl)
theorem g_icmp_lt {X : gX} {mm : gM} {ad : Nat → Nat} {kc ks : Nat} (hX : gOk X mm) {w : gW} {pc : Nat} (tgt : Nat) {off : Int} {lv : List (Nat × gV)} {st : List gV} {x y : Int} (hi : gfet pc mm.2.2.2.1 = some (.if_icmp .lt off, 3)) (ht : (pc : Int) + off = (tgt : Int)) (hx : inR x) (hy : inR y) (kt : x < y → G X mm ad kc ks (w, tgt, lv, st)) (kf : ¬ (x < y) → G X mm ad kc ks (w, pc + 3, lv, st)) : G X mm ad kc ks (w, pc, lv, .inl y :: .inl x :: st) := by
  have hd := (hX.m.1 _ (gfet_mem hi)).1
  obtain ⟨p, l, e, R, s, m, args, below, meth, c, D, cA, A, H0, Q⟩ := X
  obtain ⟨hxc, hb, hml, hown, hts, hK, hlk, hA, hR, hM⟩ := hX
  intro H locs ls hP hD hS hl
  exact lv_icmp_lt (tgt := tgt) hxc hb hd ht (fun h => kt ((gI_lt hx hy).mp h) H locs ls hP hD hS hl) (fun h => kf (fun h9 => h ((gI_lt hx hy).mpr h9)) H locs ls hP hD hS hl)
theorem g_icmp_ge {X : gX} {mm : gM} {ad : Nat → Nat} {kc ks : Nat} (hX : gOk X mm) {w : gW} {pc : Nat} (tgt : Nat) {off : Int} {lv : List (Nat × gV)} {st : List gV} {x y : Int} (hi : gfet pc mm.2.2.2.1 = some (.if_icmp .ge off, 3)) (ht : (pc : Int) + off = (tgt : Int)) (hx : inR x) (hy : inR y) (kt : y ≤ x → G X mm ad kc ks (w, tgt, lv, st)) (kf : ¬ (y ≤ x) → G X mm ad kc ks (w, pc + 3, lv, st)) : G X mm ad kc ks (w, pc, lv, .inl y :: .inl x :: st) := by
  have hd := (hX.m.1 _ (gfet_mem hi)).1
  obtain ⟨p, l, e, R, s, m, args, below, meth, c, D, cA, A, H0, Q⟩ := X
  obtain ⟨hxc, hb, hml, hown, hts, hK, hlk, hA, hR, hM⟩ := hX
  intro H locs ls hP hD hS hl
  exact lv_icmp_ge (tgt := tgt) hxc hb hd ht (fun h => kt ((gI_le hy hx).mp h) H locs ls hP hD hS hl) (fun h => kf (fun h9 => h ((gI_le hy hx).mpr h9)) H locs ls hP hD hS hl)
theorem g_icmp_gt {X : gX} {mm : gM} {ad : Nat → Nat} {kc ks : Nat} (hX : gOk X mm) {w : gW} {pc : Nat} (tgt : Nat) {off : Int} {lv : List (Nat × gV)} {st : List gV} {x y : Int} (hi : gfet pc mm.2.2.2.1 = some (.if_icmp .gt off, 3)) (ht : (pc : Int) + off = (tgt : Int)) (hx : inR x) (hy : inR y) (kt : y < x → G X mm ad kc ks (w, tgt, lv, st)) (kf : ¬ (y < x) → G X mm ad kc ks (w, pc + 3, lv, st)) : G X mm ad kc ks (w, pc, lv, .inl y :: .inl x :: st) := by
  have hd := (hX.m.1 _ (gfet_mem hi)).1
  obtain ⟨p, l, e, R, s, m, args, below, meth, c, D, cA, A, H0, Q⟩ := X
  obtain ⟨hxc, hb, hml, hown, hts, hK, hlk, hA, hR, hM⟩ := hX
  intro H locs ls hP hD hS hl
  exact lv_icmp_gt (tgt := tgt) hxc hb hd ht (fun h => kt ((gI_lt hy hx).mp h) H locs ls hP hD hS hl) (fun h => kf (fun h9 => h ((gI_lt hy hx).mpr h9)) H locs ls hP hD hS hl)
theorem g_icmp_le {X : gX} {mm : gM} {ad : Nat → Nat} {kc ks : Nat} (hX : gOk X mm) {w : gW} {pc : Nat} (tgt : Nat) {off : Int} {lv : List (Nat × gV)} {st : List gV} {x y : Int} (hi : gfet pc mm.2.2.2.1 = some (.if_icmp .le off, 3)) (ht : (pc : Int) + off = (tgt : Int)) (hx : inR x) (hy : inR y) (kt : x ≤ y → G X mm ad kc ks (w, tgt, lv, st)) (kf : ¬ (x ≤ y) → G X mm ad kc ks (w, pc + 3, lv, st)) : G X mm ad kc ks (w, pc, lv, .inl y :: .inl x :: st) := by
  have hd := (hX.m.1 _ (gfet_mem hi)).1
  obtain ⟨p, l, e, R, s, m, args, below, meth, c, D, cA, A, H0, Q⟩ := X
  obtain ⟨hxc, hb, hml, hown, hts, hK, hlk, hA, hR, hM⟩ := hX
  intro H locs ls hP hD hS hl
  exact lv_icmp_le (tgt := tgt) hxc hb hd ht (fun h => kt ((gI_le hx hy).mp h) H locs ls hP hD hS hl) (fun h => kf (fun h9 => h ((gI_le hx hy).mpr h9)) H locs ls hP hD hS hl)
theorem g_if_eq {X : gX} {mm : gM} {ad : Nat → Nat} {kc ks : Nat} (hX : gOk X mm) {w : gW} {pc : Nat} (tgt : Nat) {off : Int} {lv : List (Nat × gV)} {st : List gV} {x : Int} (hi : gfet pc mm.2.2.2.1 = some (.ifCond .eq off, 3)) (ht : (pc : Int) + off = (tgt : Int)) (hx : inR x) (kt : x = 0 → G X mm ad kc ks (w, tgt, lv, st)) (kf : ¬ (x = 0) → G X mm ad kc ks (w, pc + 3, lv, st)) : G X mm ad kc ks (w, pc, lv, .inl x :: st) := by
  have hd := (hX.m.1 _ (gfet_mem hi)).1
  obtain ⟨p, l, e, R, s, m, args, below, meth, c, D, cA, A, H0, Q⟩ := X
  obtain ⟨hxc, hb, hml, hown, hts, hK, hlk, hA, hR, hM⟩ := hX
  have hy : inR 0 := ⟨by omega, by omega⟩
  intro H locs ls hP hD hS hl
  exact lv_if_eq (tgt := tgt) hxc hb hd ht (fun h => kt ((gI_eq hx hy).mp h) H locs ls hP hD hS hl) (fun h => kf (fun h9 => h ((gI_eq hx hy).mpr h9)) H locs ls hP hD hS hl)
theorem g_if_ne {X : gX} {mm : gM} {ad : Nat → Nat} {kc ks : Nat} (hX : gOk X mm) {w : gW} {pc : Nat} (tgt : Nat) {off : Int} {lv : List (Nat × gV)} {st : List gV} {x : Int} (hi : gfet pc mm.2.2.2.1 = some (.ifCond .ne off, 3)) (ht : (pc : Int) + off = (tgt : Int)) (hx : inR x) (kt : ¬ x = 0 → G X mm ad kc ks (w, tgt, lv, st)) (kf : ¬ (¬ x = 0) → G X mm ad kc ks (w, pc + 3, lv, st)) : G X mm ad kc ks (w, pc, lv, .inl x :: st) := by
  have hd := (hX.m.1 _ (gfet_mem hi)).1
  obtain ⟨p, l, e, R, s, m, args, below, meth, c, D, cA, A, H0, Q⟩ := X
  obtain ⟨hxc, hb, hml, hown, hts, hK, hlk, hA, hR, hM⟩ := hX
  have hy : inR 0 := ⟨by omega, by omega⟩
  intro H locs ls hP hD hS hl
  exact lv_if_ne (tgt := tgt) hxc hb hd ht (fun h => kt ((not_congr (gI_eq hx hy)).mp h) H locs ls hP hD hS hl) (fun h => kf (fun h9 => h9 ((gI_eq hx hy).mp h)) H locs ls hP hD hS hl)
theorem g_if_lt {X : gX} {mm : gM} {ad : Nat → Nat} {kc ks : Nat} (hX : gOk X mm) {w : gW} {pc : Nat} (tgt : Nat) {off : Int} {lv : List (Nat × gV)} {st : List gV} {x : Int} (hi : gfet pc mm.2.2.2.1 = some (.ifCond .lt off, 3)) (ht : (pc : Int) + off = (tgt : Int)) (hx : inR x) (kt : x < 0 → G X mm ad kc ks (w, tgt, lv, st)) (kf : ¬ (x < 0) → G X mm ad kc ks (w, pc + 3, lv, st)) : G X mm ad kc ks (w, pc, lv, .inl x :: st) := by
  have hd := (hX.m.1 _ (gfet_mem hi)).1
  obtain ⟨p, l, e, R, s, m, args, below, meth, c, D, cA, A, H0, Q⟩ := X
  obtain ⟨hxc, hb, hml, hown, hts, hK, hlk, hA, hR, hM⟩ := hX
  have hy : inR 0 := ⟨by omega, by omega⟩
  intro H locs ls hP hD hS hl
  exact lv_if_lt (tgt := tgt) hxc hb hd ht (fun h => kt ((gI_lt hx hy).mp h) H locs ls hP hD hS hl) (fun h => kf (fun h9 => h ((gI_lt hx hy).mpr h9)) H locs ls hP hD hS hl)
theorem g_if_ge {X : gX} {mm : gM} {ad : Nat → Nat} {kc ks : Nat} (hX : gOk X mm) {w : gW} {pc : Nat} (tgt : Nat) {off : Int} {lv : List (Nat × gV)} {st : List gV} {x : Int} (hi : gfet pc mm.2.2.2.1 = some (.ifCond .ge off, 3)) (ht : (pc : Int) + off = (tgt : Int)) (hx : inR x) (kt : 0 ≤ x → G X mm ad kc ks (w, tgt, lv, st)) (kf : ¬ (0 ≤ x) → G X mm ad kc ks (w, pc + 3, lv, st)) : G X mm ad kc ks (w, pc, lv, .inl x :: st) := by
  have hd := (hX.m.1 _ (gfet_mem hi)).1
  obtain ⟨p, l, e, R, s, m, args, below, meth, c, D, cA, A, H0, Q⟩ := X
  obtain ⟨hxc, hb, hml, hown, hts, hK, hlk, hA, hR, hM⟩ := hX
  have hy : inR 0 := ⟨by omega, by omega⟩
  intro H locs ls hP hD hS hl
  exact lv_if_ge (tgt := tgt) hxc hb hd ht (fun h => kt ((gI_le hy hx).mp h) H locs ls hP hD hS hl) (fun h => kf (fun h9 => h ((gI_le hy hx).mpr h9)) H locs ls hP hD hS hl)
theorem g_if_gt {X : gX} {mm : gM} {ad : Nat → Nat} {kc ks : Nat} (hX : gOk X mm) {w : gW} {pc : Nat} (tgt : Nat) {off : Int} {lv : List (Nat × gV)} {st : List gV} {x : Int} (hi : gfet pc mm.2.2.2.1 = some (.ifCond .gt off, 3)) (ht : (pc : Int) + off = (tgt : Int)) (hx : inR x) (kt : 0 < x → G X mm ad kc ks (w, tgt, lv, st)) (kf : ¬ (0 < x) → G X mm ad kc ks (w, pc + 3, lv, st)) : G X mm ad kc ks (w, pc, lv, .inl x :: st) := by
  have hd := (hX.m.1 _ (gfet_mem hi)).1
  obtain ⟨p, l, e, R, s, m, args, below, meth, c, D, cA, A, H0, Q⟩ := X
  obtain ⟨hxc, hb, hml, hown, hts, hK, hlk, hA, hR, hM⟩ := hX
  have hy : inR 0 := ⟨by omega, by omega⟩
  intro H locs ls hP hD hS hl
  exact lv_if_gt (tgt := tgt) hxc hb hd ht (fun h => kt ((gI_lt hy hx).mp h) H locs ls hP hD hS hl) (fun h => kf (fun h9 => h ((gI_lt hy hx).mpr h9)) H locs ls hP hD hS hl)
theorem g_if_le {X : gX} {mm : gM} {ad : Nat → Nat} {kc ks : Nat} (hX : gOk X mm) {w : gW} {pc : Nat} (tgt : Nat) {off : Int} {lv : List (Nat × gV)} {st : List gV} {x : Int} (hi : gfet pc mm.2.2.2.1 = some (.ifCond .le off, 3)) (ht : (pc : Int) + off = (tgt : Int)) (hx : inR x) (kt : x ≤ 0 → G X mm ad kc ks (w, tgt, lv, st)) (kf : ¬ (x ≤ 0) → G X mm ad kc ks (w, pc + 3, lv, st)) : G X mm ad kc ks (w, pc, lv, .inl x :: st) := by
  have hd := (hX.m.1 _ (gfet_mem hi)).1
  obtain ⟨p, l, e, R, s, m, args, below, meth, c, D, cA, A, H0, Q⟩ := X
  obtain ⟨hxc, hb, hml, hown, hts, hK, hlk, hA, hR, hM⟩ := hX
  have hy : inR 0 := ⟨by omega, by omega⟩
  intro H locs ls hP hD hS hl
  exact lv_if_le (tgt := tgt) hxc hb hd ht (fun h => kt ((gI_le hx hy).mp h) H locs ls hP hD hS hl) (fun h => kf (fun h9 => h ((gI_le hx hy).mpr h9)) H locs ls hP hD hS hl)
end
section
/-! contracts: a method's start and end as plain data -/
def gQ (D : va_G) (cA : Nat → ClassId) (ad : Nat → Nat) (A : Nat → Prop) (post : Option gV → gW → Prop) : Array Value → State → Outcome → State → Prop := fun _ st oc t =>
  (∃ (r : Option gV) (w : gW), oc = .returned (r.map (gv ad)) ∧ post r w ∧ va_P D vwCl (gw cA ad w) t.heap ∧ va_K D vwCl (gtys cA) t ∧ va_D A (gw cA ad w)) ∧ va_F A st t
def gPre (D : va_G) (cA : Nat → ClassId) (ad : Nat → Nat) (sz : Nat) (w : gW) : State → Prop := fun U => U.heap.size = sz ∧ va_P D vwCl (gw cA ad w) U.heap ∧ va_K D vwCl (gtys cA) U ∧ va_D (fun _ => True) (gw cA ad w)
/-- method y, with arguments av and cells w, returns, and 'post answer cells'; mc new cells of ms slots at most -/
def gC (l : Launch) (D : va_G) (cA : Nat → ClassId) (y : MethodName) (mm : gM) (ret : Option FieldType) (mc ms : Nat) (av : List gV) (w : gW) (post : Option gV → gW → Prop) : Prop :=
  ∀ (ad : Nat → Nat) (sz : Nat), Met l y (Cond.code y mm.1 mm.2.1 ret :: gtb) mm.2.2.2.2.2 (va_Pc (av.map (gv ad)) (gPre D cA ad sz w)) (gQ D cA ad (va_A (gw cA ad w) sz) post) mc ms (va_A (gw cA ad w) sz)
/-- what the end of a method is, seen from within -/
def gEnd (X : gX) (ad : Nat → Nat) (mc ms : Nat) (post : Option gV → gW → Prop) (ret : Option FieldType) : Prop := match X with
  | (_, _, _, _, s, _, args, below, meth, _, D, cA, A, H0, Q) => meth.sig.returnType = ret ∧ H0 = s.heap ∧ Q = MQ below (gQ D cA ad A post) args s mc ms A
theorem g_iret {X : gX} {mm : gM} {ad : Nat → Nat} {kc ks : Nat} {post : Option gV → gW → Prop} (hX : gOk X mm) (hE : gEnd X ad kc ks post (some .int)) {w : gW} {pc : Nat} {lv : List (Nat × gV)} {z : Int} (hi : gfet pc mm.2.2.2.1 = some (.ireturn, 1)) (h : post (some (.inl z)) w) : G X mm ad kc ks (w, pc, lv, [.inl z]) := by
  have hd := (hX.m.1 _ (gfet_mem hi)).1
  obtain ⟨p, l, e, R, s, m, args, below, meth, c, D, cA, A, H0, Q⟩ := X
  obtain ⟨hxc, hb, hml, hown, hts, hK, hlk, hA, hR, hM⟩ := hX
  obtain ⟨hr, rfl, rfl⟩ := hE
  intro H locs ls hP hD hS hl
  exact W.iret hxc hb hr (fun t ht hW => ⟨⟨some (.inl z), w, rfl, h, by rw [ht]; exact hP, va_K.moved hW.alike hK, hD⟩, hS.F ht⟩) hS.2.2 hd hlk
theorem g_zret {X : gX} {mm : gM} {ad : Nat → Nat} {kc ks : Nat} {post : Option gV → gW → Prop} (hX : gOk X mm) (hE : gEnd X ad kc ks post (some .boolean)) {w : gW} {pc : Nat} {lv : List (Nat × gV)} {z : Int} (hi : gfet pc mm.2.2.2.1 = some (.ireturn, 1)) (hz : z = 0 ∨ z = 1) (h : post (some (.inl z)) w) : G X mm ad kc ks (w, pc, lv, [.inl z]) := by
  have hd := (hX.m.1 _ (gfet_mem hi)).1
  obtain ⟨p, l, e, R, s, m, args, below, meth, c, D, cA, A, H0, Q⟩ := X
  obtain ⟨hxc, hb, hml, hown, hts, hK, hlk, hA, hR, hM⟩ := hX
  obtain ⟨hr, rfl, rfl⟩ := hE
  intro H locs ls hP hD hS hl
  exact W.zret hxc hb hr (gI_bool hz).1 (fun t ht hW => ⟨⟨some (.inl z), w, rfl, h, by rw [ht]; exact hP, va_K.moved hW.alike hK, hD⟩, hS.F ht⟩) hS.2.2 hd hlk
theorem g_vret {X : gX} {mm : gM} {ad : Nat → Nat} {kc ks : Nat} {post : Option gV → gW → Prop} (hX : gOk X mm) (hE : gEnd X ad kc ks post none) {w : gW} {pc : Nat} {lv : List (Nat × gV)} (hi : gfet pc mm.2.2.2.1 = some (.return_, 1)) (h : post none w) : G X mm ad kc ks (w, pc, lv, []) := by
  have hd := (hX.m.1 _ (gfet_mem hi)).1
  obtain ⟨p, l, e, R, s, m, args, below, meth, c, D, cA, A, H0, Q⟩ := X
  obtain ⟨hxc, hb, hml, hown, hts, hK, hlk, hA, hR, hM⟩ := hX
  obtain ⟨hr, rfl, rfl⟩ := hE
  intro H locs ls hP hD hS hl
  exact W.vret hxc hb hr (fun t ht hW => ⟨⟨none, w, rfl, h, by rw [ht]; exact hP, va_K.moved hW.alike hK, hD⟩, hS.F ht⟩) hS.2.2 hd hlk
theorem G.widen {X : gX} {mm : gM} {ad : Nat → Nat} {kc ks kc' ks' : Nat} {S : gS} (h1 : kc ≤ kc') (h2 : ks ≤ ks') (k : G X mm ad kc' ks' S) : G X mm ad kc ks S := by
  obtain ⟨p, l, e, R, s, m, args, below, meth, c, D, cA, A, H0, Q⟩ := X
  intro H locs ls hP hD hS hl
  exact W.widen h1 h2 (k H locs ls hP hD hS hl)
def gargs : Nat → List gV → List (Nat × gV)
  | _, [] => []
  | i, v :: t => (i, v) :: gargs (i + 1) t
def gnlv : List gV → Bool
  | [] => true
  | .inr (.inl _) :: _ => false
  | _ :: t => gnlv t
theorem gargs_ok {ad : Nat → Nat} : ∀ (av : List gV) (i : Nat), gnlv av = true → lv_args i (av.map (gv ad)) = (gargs i av).map (fun q => (q.1, gv ad q.2)) ∧ (lg_sl (av.map (gv ad))).length = av.length
  | [], _, _ => ⟨rfl, rfl⟩
  | v :: t, i, h => by
    have hc : (gv ad v).category = 1 ∧ gnlv t = true := by
      rcases v with z | z | _ | z
      · exact ⟨rfl, h⟩
      · cases h
      · exact ⟨rfl, h⟩
      · exact ⟨rfl, h⟩
    obtain ⟨h1, h2⟩ := gargs_ok (ad := ad) t (i + 1) hc.2
    have h9 : ¬ (gv ad v).category = 2 := by rw [hc.1]; decide
    refine ⟨?_, ?_⟩
    · show (i, gv ad v) :: lv_args (if (gv ad v).category = 2 then i + 2 else i + 1) (t.map (gv ad)) = (i, gv ad v) :: _
      rw [if_neg h9, h1]
    · have h3 : lg_sl ((v :: t).map (gv ad)) = [Slot.val (gv ad v)] ++ lg_sl (t.map (gv ad)) := by
        simp [lg_sl, hc.1]
      rw [h3, List.length_append, h2]
      simp [Nat.add_comm]
theorem gC_of {l : Launch} {D : va_G} {cA : Nat → ClassId} {y : MethodName} {mm : gM} {ret : Option FieldType} {mc ms : Nat} {av : List gV} {w : gW} {post : Option gV → gW → Prop} (hy : Jvm.plainName y.cls = true) (hM : gOkM mm) (hc : y.cls = mm.2.2.1) (hav : gnlv av = true) (hn : av.length ≤ mm.2.1)
    (body : ∀ (X : gX) (ad : Nat → Nat), gOk X mm → gEnd X ad mc ms post ret → G X mm ad 0 0 (w, 0, gargs 0 av, [])) : gC l D cA y mm ret mc ms av w post := by
  intro ad sz
  refine Met.ofW (cc := mm.1) (maxL := mm.2.1) (ret := ret) hy rfl ?_
  intro p e s m args below meth c s₁ B hml hv
  obtain ⟨rfl, hsz, hP, hK, hD0⟩ := hv
  have hts := atoms_spec (ws := Cond.code y mm.1 mm.2.1 ret :: gtb) B.pre
  have hown : s.vm.findClass y.cls = some m.cls := findClass_of_methodNamed B.named
  have hlocks := B.notSynchronized
  subst hsz
  have hD := hD0.self (sz := s.heap.size)
  have hl := lv_entry (av.map (gv ad)) (n := mm.2.1) (by rw [(gargs_ok av 0 hav).2]; exact hn)
  rw [(gargs_ok av 0 hav).1] at hl
  rw [lg_entry_eq]
  have k := body (p, l, e, mm.2.2.2.2.2, s, m, (av.map (gv ad)).toArray, below, meth, c, D, cA, va_A (gw cA ad w) s.heap.size, s.heap, MQ below (gQ D cA ad (va_A (gw cA ad w) s.heap.size) post) (av.map (gv ad)).toArray s mc ms (va_A (gw cA ad w) s.heap.size)) ad
    ⟨B.exec, B.bytes, hml, by rw [← hc]; exact hown, fun x hx => hts x (List.mem_cons_of_mem _ hx), hK, hlocks, fun q h => Or.inr h, rfl, hM⟩ ⟨B.returns, rfl, rfl⟩
  exact k s.heap [] _ hP hD va_S.rf hl
/-! calls -/
theorem gsel_fm {α : Type} {is : List Nat} {f : Nat → Option α} {l : List α} (h : is.map f = l.map some) : is.filterMap f = l := by
  induction is generalizing l with
  | nil =>
    cases l with
    | nil => rfl
    | cons a t => cases h
  | cons i t ih =>
    cases l with
    | nil => cases h
    | cons a l =>
      simp only [List.map_cons, List.cons.injEq] at h
      rw [List.filterMap_cons, h.1, ih h.2]
theorem gsel_gw {cA : Nat → ClassId} {ad : Nat → Nat} {w wc : gW} {is : List Nat} (h : is.map (fun i => w[i]?) = wc.map some) : is.map (fun i => (gw cA ad w)[i]?) = (gw cA ad wc).map some := by
  induction is generalizing wc with
  | nil =>
    cases wc with
    | nil => rfl
    | cons a t => cases h
  | cons i t ih =>
    cases wc with
    | nil => cases h
    | cons a l =>
      simp only [List.map_cons, List.cons.injEq] at h
      obtain ⟨k, e⟩ := a
      have h1 := gw_at (cA := cA) (ad := ad) h.1
      show (gw cA ad w)[i]? :: t.map (fun i => (gw cA ad w)[i]?) = some (ad k, ge cA ad e) :: (gw cA ad l).map some
      rw [h1, ih h.2]
theorem gw_app {cA : Nat → ClassId} {ad : Nat → Nat} (a b : gW) : gw cA ad (a ++ b) = gw cA ad a ++ gw cA ad b := by
  unfold gw
  rw [List.map_append]
/-- the cells in another order, or fewer of them -/
theorem G.perm {X : gX} {mm : gM} {ad : Nat → Nat} {kc ks : Nat} {w : gW} (w' : gW) (is : List Nat) {r : Nat × List (Nat × gV) × List gV} (hs : is.map (fun i => w[i]?) = w'.map some) (hn : va_nd is = true) (k : G X mm ad kc ks (w', r)) : G X mm ad kc ks (w, r) := by
  obtain ⟨p, l, e, R, s, m, args, below, meth, c, D, cA, A, H0, Q⟩ := X
  intro H locs ls hP hD hS hl
  exact k H locs ls (hP.sub is (gsel_fm (gsel_gw hs))) (hD.sub is hn (gsel_gw hs)) hS hl
/-- fewer locals -/
theorem G.locs {X : gX} {mm : gM} {ad : Nat → Nat} {kc ks : Nat} {w : gW} {pc : Nat} {lv : List (Nat × gV)} {st : List gV} (lv' : List (Nat × gV)) (is : List Nat) (hs : is.map (fun i => lv[i]?) = lv'.map some) (k : G X mm ad kc ks (w, pc, lv', st)) : G X mm ad kc ks (w, pc, lv, st) := by
  obtain ⟨p, l, e, R, s, m, args, below, meth, c, D, cA, A, H0, Q⟩ := X
  intro H locs ls hP hD hS hl
  refine k H locs ls hP hD hS ⟨hl.1, hl.2.1, fun q hq => ?_⟩
  obtain ⟨x, hx, rfl⟩ := List.mem_map.mp hq
  refine hl.2.2 _ (List.mem_map.mpr ⟨x, ?_, rfl⟩)
  rw [← gsel_fm hs] at hx
  obtain ⟨i, -, hi⟩ := List.mem_filterMap.mp hx
  exact List.mem_of_getElem? hi
section GAFTER
variable {p : Program} {l : Launch} {e : Env} {R : Room} {s : State} {m : MethodId} {args : Array Value} {below : List Frame} {meth : Method} {c : Code} {H : Heap} {locs : List Loc} {cells slots : Nat} {Q : State → Prop}
variable {pc : Nat} {ls : Array Slot} {rest st0 : List Value} {a : Array Value} {A0 A1 : Nat → Prop} {H0 : Heap} {mc ms : Nat} {free : Addr → Prop} {D : va_G} {cA : Nat → ClassId} {ad : Nat → Nat}
theorem g_after {post : Option gV → gW → Prop} (hr : va_Run p l e R s m args below meth c H locs cells slots mc ms (F0 m pc ls st0) rest (gQ D cA ad A1 post a) free) (hS : va_S A0 H0 H locs) (hA : ∀ q, q < H.size → A1 q → A0 q) (hf : ∀ q, free q → A0 q)
    (kk : ∀ (r : Option gV) (w : gW) (H1 : Heap) (locs1 : List Loc), post r w → va_P D vwCl (gw cA ad w) H1 → va_D A1 (gw cA ad w) → H.size ≤ H1.size → (∀ q : Nat, q < H.size → ¬ A1 q → H1[q]? = H[q]?) → va_S A0 H0 H1 locs1 → W p l e R s m args below meth c H1 locs1 (cells + mc) (slots + ms) Q (F0 m (pc + 3) ls ((r.map (gv ad)).toList ++ rest))) : W p l e R s m args below meth c H locs cells slots Q (F0 m pc ls st0) := by
  intro T hT X
  obtain ⟨v, st₀, t, T', L, h0, X', hL, e1, e2, ⟨⟨r, w, hv, hp, hP1, hK1, hD1⟩, hz, hk⟩, st⟩ := hr T hT X
  cases hv
  rw [h0] at hz hk
  obtain ⟨t2, a1, b1⟩ := kk r w T'.heap (locs ++ L) hp (by rw [e1]; exact hP1) hD1 (by rw [e1]; exact hz) (fun q h1 h2 => by rw [e1]; exact hk q h1 h2)
    ⟨Nat.le_trans hS.1 (by rw [e1]; exact hz), fun q h1 h2 => by rw [e1, hk q (Nat.lt_of_lt_of_le h1 hS.1) (fun z => h2 (hA q (Nat.lt_of_lt_of_le h1 hS.1) z))]; exact hS.2.1 q h1 h2, fun q hq => by
      rcases List.mem_append.mp hq with h | h
      · exact hS.2.2 q h
      · exact hf _ (hL q h)⟩ T' rfl X'
  exact ⟨t2, st t2 a1, b1⟩
end GAFTER
theorem lw_good : gtb.all goodWord = true := List.all_eq_true.mpr fun _ h => (List.mem_filter.mp h).2
theorem gGood {own C : String} {idx : Nat} {y : MethodName} {bytes : ByteArray} {maxL : Nat} {ret : Option FieldType} (h1 : Cond.methodLink own idx y ∈ gtb) (h2 : Cond.instanceMethod y ∈ gtb) (h3 : Cond.selects C y y ∈ gtb) (h4 : Cond.initialized C ∈ gtb) (h5 : Cond.code y bytes maxL ret ∈ gtb) : GoodIn gtb (wsV own idx C y (Cond.code y bytes maxL ret :: gtb)) := by
  refine goodIn_sub (fun w hw => ?_) ?_
  · rcases List.mem_append.mp hw with hw | hw
    · simp only [List.mem_cons, List.not_mem_nil, or_false] at hw
      rcases hw with rfl | rfl | rfl | rfl <;> assumption
    · rcases List.mem_cons.mp hw with rfl | hw
      · exact h5
      · exact hw
  · rw [List.all_eq_true]
    intro w hw
    refine List.all_eq_true.mp lw_good w ?_
    rcases List.mem_append.mp hw with hw | hw
    · simp only [List.mem_cons, List.not_mem_nil, or_false] at hw
      rcases hw with rfl | rfl | rfl | rfl <;> assumption
    · rcases List.mem_cons.mp hw with rfl | hw
      · exact h5
      · exact hw
theorem gGoodS {own : String} {idx : Nat} {y : MethodName} {bytes : ByteArray} {maxL : Nat} {ret : Option FieldType} (h1 : Cond.methodLink own idx y ∈ gtb) (h2 : Cond.static y ∈ gtb) (h4 : Cond.initialized y.cls ∈ gtb) (h5 : Cond.code y bytes maxL ret ∈ gtb) : GoodIn gtb (va_wsS own idx y (Cond.code y bytes maxL ret :: gtb)) := by
  have hm : ∀ w ∈ va_wsS own idx y (Cond.code y bytes maxL ret :: gtb), w ∈ gtb := fun w hw => by
    rcases List.mem_append.mp hw with hw | hw
    · simp only [List.mem_cons, List.not_mem_nil, or_false] at hw
      rcases hw with rfl | rfl | rfl <;> assumption
    · rcases List.mem_cons.mp hw with rfl | hw
      · exact h5
      · exact hw
  exact goodIn_sub hm (List.all_eq_true.mpr fun w hw => List.all_eq_true.mp lw_good w (hm w hw))
/-- what the tables say of a method that is called on an object -/
def gCalV (y : MethodName) (mm : gM) (ret : Option FieldType) (n : Nat) : Prop := Cond.code y mm.1 mm.2.1 ret ∈ gtb ∧ Cond.instanceMethod y ∈ gtb ∧ Cond.selects y.cls y y ∈ gtb ∧ Cond.initialized y.cls ∈ gtb ∧ y.cls ≠ "java/lang/invoke/MethodHandle" ∧ y.cls ≠ "java/lang/invoke/VarHandle" ∧ (parseMethodDescriptor y.desc).map (fun d => d.parameters.length) = some n
def gCalS (y : MethodName) (mm : gM) (ret : Option FieldType) (n : Nat) : Prop := Cond.code y mm.1 mm.2.1 ret ∈ gtb ∧ Cond.static y ∈ gtb ∧ Cond.initialized y.cls ∈ gtb ∧ y.cls ≠ "java/lang/invoke/MethodHandle" ∧ y.cls ≠ "java/lang/invoke/VarHandle" ∧ (parseMethodDescriptor y.desc).map (fun d => d.parameters.length) = some n
def gstk : List gV → Nat
  | [] => 0
  | .inr (.inl _) :: t => gstk t + 2
  | _ :: t => gstk t + 1
theorem gstk_ok {ad : Nat → Nat} : ∀ st : List gV, ((st.map (gv ad)).map fun v => v.category).sum = gstk st
  | [] => rfl
  | v :: t => by
    have ih := gstk_ok (ad := ad) t
    rw [List.map_cons, List.map_cons, List.sum_cons, ih]
    rcases v with z | z | _ | z <;> simp only [gstk, gv, Value.category] <;> omega
/-- a call on an object: its cells (places isC) go in, what it leaves comes back behind the others (places isR) -/
theorem G.callV {X : gX} {mm : gM} {ad : Nat → Nat} {kc ks : Nat} (hX : gOk X mm) {w : gW} {pc : Nat} {lv : List (Nat × gV)} {st : List gV} {idx : Nat} (hi : gfet pc mm.2.2.2.1 = some (.invokevirtual idx, 3)) {y : MethodName} {cm : gM} {ret : Option FieldType} {n mc ms : Nat} {o : Nat} {av : List gV} {wc : gW} {post : Option gV → gW → Prop}
    (hC : ∀ l D cA, gC l D cA y cm ret mc ms (gr o :: av) wc post) (hl1 : Cond.methodLink mm.2.2.1 idx y ∈ gtb) (hcal : gCalV y cm ret n) (hn : av.length = n) {ci : Nat} {fs : List gV} (ho : gwl o w = some (.inl (ci, fs))) (hci : (vwCl[ci]?).map (fun q => q.1) = some y.cls)
    (hrc : cm.2.2.2.2.2.cells = mc ∧ cm.2.2.2.2.2.slots = ms) (hroom : (cm.2.2.2.2.2.frames + 1 ≤ mm.2.2.2.2.2.frames ∧ 8 + (cm.2.1 + 11) + cm.2.2.2.2.2.locals ≤ mm.2.2.2.2.2.locals) ∧ kc + mc ≤ mm.2.2.2.2.2.cells ∧ ks + ms ≤ mm.2.2.2.2.2.slots) (hst : gstk st ≤ 8)
    (isC isR : List Nat) (wr : gW) (hwc : isC.map (fun i => w[i]?) = wc.map some) (hwr : isR.map (fun i => w[i]?) = wr.map some) (hnd : (va_nd isC && va_nd isR && isR.all (fun i => !isC.contains i)) = true)
    (k : ∀ (r : Option gV) (w' : gW), post r w' → G X mm ad (kc + mc) (ks + ms) (wr ++ w', pc + 3, lv, r.toList ++ st)) : G X mm ad kc ks (w, pc, lv, av.reverse ++ gr o :: st) := by
  have hd := (hX.m.1 _ (gfet_mem hi)).1
  obtain ⟨p, l, e, R, s, m, args, below, meth, c, D, cA, A, H0, Q⟩ := X
  obtain ⟨hxc, hb, hml, hown, hts, hK, hlk, hA, hR, hM⟩ := hX
  simp only [Bool.and_eq_true] at hnd
  obtain ⟨⟨hn1, hn2⟩, hn3⟩ := hnd
  have hdis : ∀ i ∈ isR, i ∉ isC := fun i hi h => by
    have := List.all_eq_true.mp hn3 i hi
    simp [h] at this
  intro H locs ls hP hD hS hl
  have hPc := hP.sub isC (gsel_fm (gsel_gw (cA := cA) (ad := ad) hwc))
  have hDc := hD.sub isC hn1 (gsel_gw hwc)
  have hFc := va_free hD hS hA isC (gsel_gw hwc)
  obtain ⟨q0, hq, -⟩ := gwl_ix ho
  cases hcl : vwCl[ci]? with
  | none => rw [hcl] at hci; cases hci
  | some q9 =>
    rw [hcl] at hci
    have hci2 : q9.1 = y.cls := Option.some.inj hci
    obtain ⟨c1, c2, c3, c4, c5, c6, c7⟩ := hcal
    have hrecv := va_recv hK hP hcl (gw_at (cA := cA) (ad := ad) hq)
    rw [hci2] at hrecv
    refine g_after (D := D) (cA := cA) (ad := ad) (va_runV (As := av.map (gv ad)) (rest := st.map (gv ad)) (b := ad o) ⟨hxc, hb, hml, hown, hts⟩ (hC l D cA ad H.size) (cwV (C := y.cls) n hts (gGood hl1 c2 c3 c4 c1) rfl hrc.1 hrc.2 ⟨rfl, c5, c6, c7⟩ (by rw [hR]; exact hroom.1))
      ⟨fun a U g mk q => ⟨q.1, q.2.1, q.2.2.1, va_K.moved (u := U) (U := U.calling g mk a) (Vm.Alike.refl U.vm) q.2.2.2.1, q.2.2.2.2⟩, hrecv, fun U hU hW => ⟨rfl, by rw [hU], by rw [hU]; exact hPc, va_K.moved hW.alike hK, hDc.weaken (fun _ _ _ _ => trivial)⟩⟩ rfl (by rw [List.length_map]; exact hn) hl.1 ?_ (by show 2 * 0 + _ ≤ 8; rw [gstk_ok]; omega) hd ⟨by rw [hR]; exact hroom.2.1, by rw [hR]; exact hroom.2.2⟩) hS (fun q _ h => hFc q h) hFc (fun r w' H1 locs1 hp hP1 hD1 hz hk hS1 => ?_)
    · show ((av.reverse ++ gr o :: st).map (gv ad)) = _
      rw [List.map_append, List.map_reverse]
      rfl
    · obtain ⟨hP2, hD2⟩ := va_join hP hD isC isR (gsel_gw hwc) (gsel_gw (cA := cA) (ad := ad) hwr) hn2 hdis hk hFc hP1 hD1
      have k9 := k r w' hp H1 locs1 ls (by rw [gw_app]; exact hP2) (by rw [gw_app]; exact hD2) hS1 hl
      rw [List.map_append] at k9
      cases r <;> exact k9
theorem G.callS {X : gX} {mm : gM} {ad : Nat → Nat} {kc ks : Nat} (hX : gOk X mm) {w : gW} {pc : Nat} {lv : List (Nat × gV)} {st : List gV} {idx : Nat} (hi : gfet pc mm.2.2.2.1 = some (.invokestatic idx, 3)) {y : MethodName} {cm : gM} {ret : Option FieldType} {n mc ms : Nat} {av : List gV} {wc : gW} {post : Option gV → gW → Prop}
    (hC : ∀ l D cA, gC l D cA y cm ret mc ms av wc post) (hl1 : Cond.methodLink mm.2.2.1 idx y ∈ gtb) (hcal : gCalS y cm ret n) (hn : av.length = n)
    (hrc : cm.2.2.2.2.2.cells = mc ∧ cm.2.2.2.2.2.slots = ms) (hroom : (cm.2.2.2.2.2.frames + 1 ≤ mm.2.2.2.2.2.frames ∧ 8 + (cm.2.1 + 11) + cm.2.2.2.2.2.locals ≤ mm.2.2.2.2.2.locals) ∧ kc + mc ≤ mm.2.2.2.2.2.cells ∧ ks + ms ≤ mm.2.2.2.2.2.slots) (hst : gstk st ≤ 8)
    (isC isR : List Nat) (wr : gW) (hwc : isC.map (fun i => w[i]?) = wc.map some) (hwr : isR.map (fun i => w[i]?) = wr.map some) (hnd : (va_nd isC && va_nd isR && isR.all (fun i => !isC.contains i)) = true)
    (k : ∀ (r : Option gV) (w' : gW), post r w' → G X mm ad (kc + mc) (ks + ms) (wr ++ w', pc + 3, lv, r.toList ++ st)) : G X mm ad kc ks (w, pc, lv, av.reverse ++ st) := by
  have hd := (hX.m.1 _ (gfet_mem hi)).1
  obtain ⟨p, l, e, R, s, m, args, below, meth, c, D, cA, A, H0, Q⟩ := X
  obtain ⟨hxc, hb, hml, hown, hts, hK, hlk, hA, hR, hM⟩ := hX
  simp only [Bool.and_eq_true] at hnd
  obtain ⟨⟨hn1, hn2⟩, hn3⟩ := hnd
  have hdis : ∀ i ∈ isR, i ∉ isC := fun i hi h => by
    have := List.all_eq_true.mp hn3 i hi
    simp [h] at this
  intro H locs ls hP hD hS hl
  have hPc := hP.sub isC (gsel_fm (gsel_gw (cA := cA) (ad := ad) hwc))
  have hDc := hD.sub isC hn1 (gsel_gw hwc)
  have hFc := va_free hD hS hA isC (gsel_gw hwc)
  obtain ⟨c1, c2, c4, c5, c6, c7⟩ := hcal
  refine g_after (D := D) (cA := cA) (ad := ad) (va_runS (As := av.map (gv ad)) (rest := st.map (gv ad)) ⟨hxc, hb, hml, hown, hts⟩ (hC l D cA ad H.size) (va_cwS n hts (gGoodS hl1 c2 c4 c1) rfl hrc.1 hrc.2 ⟨c5, c6, c7⟩ (by rw [hR]; exact hroom.1))
      ⟨fun a U g mk q => ⟨q.1, q.2.1, q.2.2.1, va_K.moved (u := U) (U := U.calling g mk a) (Vm.Alike.refl U.vm) q.2.2.2.1, q.2.2.2.2⟩, fun U hU hW => ⟨rfl, by rw [hU], by rw [hU]; exact hPc, va_K.moved hW.alike hK, hDc.weaken (fun _ _ _ _ => trivial)⟩⟩ rfl (by rw [List.length_map]; exact hn) hl.1 ?_ (by show 2 * 0 + _ ≤ 8; rw [gstk_ok]; omega) hd ⟨by rw [hR]; exact hroom.2.1, by rw [hR]; exact hroom.2.2⟩) hS (fun q _ h => hFc q h) hFc (fun r w' H1 locs1 hp hP1 hD1 hz hk hS1 => ?_)
  · show ((av.reverse ++ st).map (gv ad)) = _
    rw [List.map_append, List.map_reverse]
  · obtain ⟨hP2, hD2⟩ := va_join hP hD isC isR (gsel_gw hwc) (gsel_gw (cA := cA) (ad := ad) hwr) hn2 hdis hk hFc hP1 hD1
    have k9 := k r w' hp H1 locs1 ls (by rw [gw_app]; exact hP2) (by rw [gw_app]; exact hD2) hS1 hl
    rw [List.map_append] at k9
    cases r <;> exact k9
end
