-- ===== PART A: goes FIRST, ahead of the names: the tables' words, and 'selects' of the private methods out of them =====
/-- a private method of a class that the tables say can be made, by its rows of tables_1 -/
def lw_okq (q : MethodName × Nat) : Prop := (q.1.cls ≠ "java/lang/invoke/MethodHandle" ∧ q.1.cls ≠ "java/lang/invoke/VarHandle") ∧ Cond.instantiable q.1.cls q.2 ∈ tables_1 ∧ Cond.privateMethod q.1 ∈ tables_1 ∧ Cond.instanceMethod q.1 ∈ tables_1
theorem lw_p0 : lw_okq (⟨"RealRoots", "clearWide", "()V"⟩, 14) := ⟨⟨by decide +kernel, by decide +kernel⟩, List.mem_of_getElem? (i := 16) (by decide +kernel), List.mem_of_getElem? (i := 245) (by decide +kernel), List.mem_of_getElem? (i := 246) (by decide +kernel)⟩
theorem lw_p1 : lw_okq (⟨"RealRoots", "keepWide", "()I"⟩, 14) := ⟨⟨by decide +kernel, by decide +kernel⟩, List.mem_of_getElem? (i := 16) (by decide +kernel), List.mem_of_getElem? (i := 249) (by decide +kernel), List.mem_of_getElem? (i := 250) (by decide +kernel)⟩
theorem lw_p2 : lw_okq (⟨"RealRoots", "narrow", "([I)V"⟩, 14) := ⟨⟨by decide +kernel, by decide +kernel⟩, List.mem_of_getElem? (i := 16) (by decide +kernel), List.mem_of_getElem? (i := 254) (by decide +kernel), List.mem_of_getElem? (i := 255) (by decide +kernel)⟩
theorem lw_p3 : lw_okq (⟨"RealRoots", "unknown", "(I)Z"⟩, 14) := ⟨⟨by decide +kernel, by decide +kernel⟩, List.mem_of_getElem? (i := 16) (by decide +kernel), List.mem_of_getElem? (i := 262) (by decide +kernel), List.mem_of_getElem? (i := 263) (by decide +kernel)⟩
theorem lw_p4 : lw_okq (⟨"RealRoots", "ofTwo", "(I[I[I)V"⟩, 14) := ⟨⟨by decide +kernel, by decide +kernel⟩, List.mem_of_getElem? (i := 16) (by decide +kernel), List.mem_of_getElem? (i := 277) (by decide +kernel), List.mem_of_getElem? (i := 278) (by decide +kernel)⟩
theorem lw_p5 : lw_okq (⟨"RealRoots", "common", "([I[I)V"⟩, 14) := ⟨⟨by decide +kernel, by decide +kernel⟩, List.mem_of_getElem? (i := 16) (by decide +kernel), List.mem_of_getElem? (i := 281) (by decide +kernel), List.mem_of_getElem? (i := 282) (by decide +kernel)⟩
theorem lw_p6 : lw_okq (⟨"RealRoots", "widen", "([I)V"⟩, 14) := ⟨⟨by decide +kernel, by decide +kernel⟩, List.mem_of_getElem? (i := 16) (by decide +kernel), List.mem_of_getElem? (i := 285) (by decide +kernel), List.mem_of_getElem? (i := 286) (by decide +kernel)⟩
theorem lw_p7 : lw_okq (⟨"RealRoots$Chain", "divide", "()V"⟩, 7) := ⟨⟨by decide +kernel, by decide +kernel⟩, List.mem_of_getElem? (i := 26) (by decide +kernel), List.mem_of_getElem? (i := 299) (by decide +kernel), List.mem_of_getElem? (i := 300) (by decide +kernel)⟩
theorem lw_p8 : lw_okq (⟨"RealRoots$Big", "lowPair", "()J"⟩, 3) := ⟨⟨by decide +kernel, by decide +kernel⟩, List.mem_of_getElem? (i := 33) (by decide +kernel), List.mem_of_getElem? (i := 334) (by decide +kernel), List.mem_of_getElem? (i := 335) (by decide +kernel)⟩
theorem lw_p9 : lw_okq (⟨"RealRoots", "makeWidePrimitive", "()V"⟩, 14) := ⟨⟨by decide +kernel, by decide +kernel⟩, List.mem_of_getElem? (i := 16) (by decide +kernel), List.mem_of_getElem? (i := 340) (by decide +kernel), List.mem_of_getElem? (i := 341) (by decide +kernel)⟩
theorem lw_p10 : lw_okq (⟨"RealRoots", "ofOne", "(I[II)V"⟩, 14) := ⟨⟨by decide +kernel, by decide +kernel⟩, List.mem_of_getElem? (i := 16) (by decide +kernel), List.mem_of_getElem? (i := 344) (by decide +kernel), List.mem_of_getElem? (i := 345) (by decide +kernel)⟩
theorem lw_p11 : lw_okq (⟨"RealRoots", "withoutRepeats", "([I)V"⟩, 14) := ⟨⟨by decide +kernel, by decide +kernel⟩, List.mem_of_getElem? (i := 16) (by decide +kernel), List.mem_of_getElem? (i := 351) (by decide +kernel), List.mem_of_getElem? (i := 352) (by decide +kernel)⟩
theorem lw_p12 : lw_okq (⟨"RealRoots", "moved", "([II)V"⟩, 14) := ⟨⟨by decide +kernel, by decide +kernel⟩, List.mem_of_getElem? (i := 16) (by decide +kernel), List.mem_of_getElem? (i := 355) (by decide +kernel), List.mem_of_getElem? (i := 356) (by decide +kernel)⟩
theorem lw_p13 : lw_okq (⟨"RealRoots", "stretched", "([II)V"⟩, 14) := ⟨⟨by decide +kernel, by decide +kernel⟩, List.mem_of_getElem? (i := 16) (by decide +kernel), List.mem_of_getElem? (i := 359) (by decide +kernel), List.mem_of_getElem? (i := 360) (by decide +kernel)⟩
theorem lw_p14 : lw_okq (⟨"RealRoots", "ready", "(I)I"⟩, 14) := ⟨⟨by decide +kernel, by decide +kernel⟩, List.mem_of_getElem? (i := 16) (by decide +kernel), List.mem_of_getElem? (i := 371) (by decide +kernel), List.mem_of_getElem? (i := 372) (by decide +kernel)⟩
theorem lw_p15 : lw_okq (⟨"RealRoots", "signRow", "([I)V"⟩, 14) := ⟨⟨by decide +kernel, by decide +kernel⟩, List.mem_of_getElem? (i := 16) (by decide +kernel), List.mem_of_getElem? (i := 375) (by decide +kernel), List.mem_of_getElem? (i := 376) (by decide +kernel)⟩
def lw_privs_1 : List (MethodName × Nat) := [(⟨"RealRoots", "clearWide", "()V"⟩, 14), (⟨"RealRoots", "keepWide", "()I"⟩, 14), (⟨"RealRoots", "narrow", "([I)V"⟩, 14), (⟨"RealRoots", "unknown", "(I)Z"⟩, 14), (⟨"RealRoots", "ofTwo", "(I[I[I)V"⟩, 14), (⟨"RealRoots", "common", "([I[I)V"⟩, 14), (⟨"RealRoots", "widen", "([I)V"⟩, 14), (⟨"RealRoots$Chain", "divide", "()V"⟩, 7), (⟨"RealRoots$Big", "lowPair", "()J"⟩, 3), (⟨"RealRoots", "makeWidePrimitive", "()V"⟩, 14), (⟨"RealRoots", "ofOne", "(I[II)V"⟩, 14), (⟨"RealRoots", "withoutRepeats", "([I)V"⟩, 14), (⟨"RealRoots", "moved", "([II)V"⟩, 14), (⟨"RealRoots", "stretched", "([II)V"⟩, 14), (⟨"RealRoots", "ready", "(I)I"⟩, 14), (⟨"RealRoots", "signRow", "([I)V"⟩, 14)]
theorem lw_r1 : ∀ q ∈ lw_privs_1, lw_okq q := List.forall_mem_cons.mpr ⟨lw_p0, List.forall_mem_cons.mpr ⟨lw_p1, List.forall_mem_cons.mpr ⟨lw_p2, List.forall_mem_cons.mpr ⟨lw_p3, List.forall_mem_cons.mpr ⟨lw_p4, List.forall_mem_cons.mpr ⟨lw_p5, List.forall_mem_cons.mpr ⟨lw_p6, List.forall_mem_cons.mpr ⟨lw_p7, List.forall_mem_cons.mpr ⟨lw_p8, List.forall_mem_cons.mpr ⟨lw_p9, List.forall_mem_cons.mpr ⟨lw_p10, List.forall_mem_cons.mpr ⟨lw_p11, List.forall_mem_cons.mpr ⟨lw_p12, List.forall_mem_cons.mpr ⟨lw_p13, List.forall_mem_cons.mpr ⟨lw_p14, List.forall_mem_cons.mpr ⟨lw_p15, fun _ h => absurd h List.not_mem_nil⟩⟩⟩⟩⟩⟩⟩⟩⟩⟩⟩⟩⟩⟩⟩⟩
theorem lw_p16 : lw_okq (⟨"RealRoots", "findWholes", "(LRealRoots$Curve;)V"⟩, 14) := ⟨⟨by decide +kernel, by decide +kernel⟩, List.mem_of_getElem? (i := 16) (by decide +kernel), List.mem_of_getElem? (i := 389) (by decide +kernel), List.mem_of_getElem? (i := 390) (by decide +kernel)⟩
theorem lw_p17 : lw_okq (⟨"RealRoots", "tellApart", "(LRealRoots$Curve;)V"⟩, 14) := ⟨⟨by decide +kernel, by decide +kernel⟩, List.mem_of_getElem? (i := 16) (by decide +kernel), List.mem_of_getElem? (i := 426) (by decide +kernel), List.mem_of_getElem? (i := 427) (by decide +kernel)⟩
theorem lw_p18 : lw_okq (⟨"RealRoots", "deepenByCount", "(LRealRoots$Curve;I)V"⟩, 14) := ⟨⟨by decide +kernel, by decide +kernel⟩, List.mem_of_getElem? (i := 16) (by decide +kernel), List.mem_of_getElem? (i := 439) (by decide +kernel), List.mem_of_getElem? (i := 440) (by decide +kernel)⟩
theorem lw_p19 : lw_okq (⟨"RealRoots", "vanishes", "(LRealRoots$Curve;I[I)Z"⟩, 14) := ⟨⟨by decide +kernel, by decide +kernel⟩, List.mem_of_getElem? (i := 16) (by decide +kernel), List.mem_of_getElem? (i := 470) (by decide +kernel), List.mem_of_getElem? (i := 471) (by decide +kernel)⟩
theorem lw_p20 : lw_okq (⟨"RealRoots", "deepen", "(LRealRoots$Curve;I)V"⟩, 14) := ⟨⟨by decide +kernel, by decide +kernel⟩, List.mem_of_getElem? (i := 16) (by decide +kernel), List.mem_of_getElem? (i := 484) (by decide +kernel), List.mem_of_getElem? (i := 485) (by decide +kernel)⟩
theorem lw_p21 : lw_okq (⟨"RealRoots", "deepenTo", "(LRealRoots$Curve;II)V"⟩, 14) := ⟨⟨by decide +kernel, by decide +kernel⟩, List.mem_of_getElem? (i := 16) (by decide +kernel), List.mem_of_getElem? (i := 494) (by decide +kernel), List.mem_of_getElem? (i := 495) (by decide +kernel)⟩
theorem lw_p22 : lw_okq (⟨"RealRoots", "findFraction", "(LRealRoots$Curve;I)V"⟩, 14) := ⟨⟨by decide +kernel, by decide +kernel⟩, List.mem_of_getElem? (i := 16) (by decide +kernel), List.mem_of_getElem? (i := 506) (by decide +kernel), List.mem_of_getElem? (i := 507) (by decide +kernel)⟩
theorem lw_p23 : lw_okq (⟨"RealRoots", "order", "(II)I"⟩, 14) := ⟨⟨by decide +kernel, by decide +kernel⟩, List.mem_of_getElem? (i := 16) (by decide +kernel), List.mem_of_getElem? (i := 518) (by decide +kernel), List.mem_of_getElem? (i := 519) (by decide +kernel)⟩
theorem lw_p24 : lw_okq (⟨"RealRoots", "lineUp", "()V"⟩, 14) := ⟨⟨by decide +kernel, by decide +kernel⟩, List.mem_of_getElem? (i := 16) (by decide +kernel), List.mem_of_getElem? (i := 533) (by decide +kernel), List.mem_of_getElem? (i := 534) (by decide +kernel)⟩
theorem lw_p25 : lw_okq (⟨"RealRoots", "insert", "(II)V"⟩, 14) := ⟨⟨by decide +kernel, by decide +kernel⟩, List.mem_of_getElem? (i := 16) (by decide +kernel), List.mem_of_getElem? (i := 537) (by decide +kernel), List.mem_of_getElem? (i := 538) (by decide +kernel)⟩
theorem lw_p26 : lw_okq (⟨"java/lang/Throwable", "fillInStackTrace", "(I)Ljava/lang/Throwable;"⟩, 6) := ⟨⟨by decide +kernel, by decide +kernel⟩, List.mem_of_getElem? (i := 618) (by decide +kernel), List.mem_of_getElem? (i := 616) (by decide +kernel), List.mem_of_getElem? (i := 617) (by decide +kernel)⟩
theorem lw_p27 : lw_okq (⟨"RealRoots$Ratio", "findDivisor", "()V"⟩, 7) := ⟨⟨by decide +kernel, by decide +kernel⟩, List.mem_of_getElem? (i := 115) (by decide +kernel), List.mem_of_getElem? (i := 658) (by decide +kernel), List.mem_of_getElem? (i := 659) (by decide +kernel)⟩
theorem lw_p28 : lw_okq (⟨"RealRoots$Ratio", "quotient", "(LRealRoots$Big;)J"⟩, 7) := ⟨⟨by decide +kernel, by decide +kernel⟩, List.mem_of_getElem? (i := 115) (by decide +kernel), List.mem_of_getElem? (i := 664) (by decide +kernel), List.mem_of_getElem? (i := 665) (by decide +kernel)⟩
theorem lw_p29 : lw_okq (⟨"RealRootsModel", "is", "(I)Z"⟩, 18) := ⟨⟨by decide +kernel, by decide +kernel⟩, List.mem_of_getElem? (i := 672) (by decide +kernel), List.mem_of_getElem? (i := 746) (by decide +kernel), List.mem_of_getElem? (i := 747) (by decide +kernel)⟩
theorem lw_p30 : lw_okq (⟨"RealRootsModel", "degreeOf", "(I)I"⟩, 18) := ⟨⟨by decide +kernel, by decide +kernel⟩, List.mem_of_getElem? (i := 672) (by decide +kernel), List.mem_of_getElem? (i := 764) (by decide +kernel), List.mem_of_getElem? (i := 765) (by decide +kernel)⟩
theorem lw_p31 : lw_okq (⟨"RealRootsModel", "making", "(IIII)Z"⟩, 18) := ⟨⟨by decide +kernel, by decide +kernel⟩, List.mem_of_getElem? (i := 672) (by decide +kernel), List.mem_of_getElem? (i := 777) (by decide +kernel), List.mem_of_getElem? (i := 778) (by decide +kernel)⟩
def lw_privs_2 : List (MethodName × Nat) := [(⟨"RealRoots", "findWholes", "(LRealRoots$Curve;)V"⟩, 14), (⟨"RealRoots", "tellApart", "(LRealRoots$Curve;)V"⟩, 14), (⟨"RealRoots", "deepenByCount", "(LRealRoots$Curve;I)V"⟩, 14), (⟨"RealRoots", "vanishes", "(LRealRoots$Curve;I[I)Z"⟩, 14), (⟨"RealRoots", "deepen", "(LRealRoots$Curve;I)V"⟩, 14), (⟨"RealRoots", "deepenTo", "(LRealRoots$Curve;II)V"⟩, 14), (⟨"RealRoots", "findFraction", "(LRealRoots$Curve;I)V"⟩, 14), (⟨"RealRoots", "order", "(II)I"⟩, 14), (⟨"RealRoots", "lineUp", "()V"⟩, 14), (⟨"RealRoots", "insert", "(II)V"⟩, 14), (⟨"java/lang/Throwable", "fillInStackTrace", "(I)Ljava/lang/Throwable;"⟩, 6), (⟨"RealRoots$Ratio", "findDivisor", "()V"⟩, 7), (⟨"RealRoots$Ratio", "quotient", "(LRealRoots$Big;)J"⟩, 7), (⟨"RealRootsModel", "is", "(I)Z"⟩, 18), (⟨"RealRootsModel", "degreeOf", "(I)I"⟩, 18), (⟨"RealRootsModel", "making", "(IIII)Z"⟩, 18)]
theorem lw_r2 : ∀ q ∈ lw_privs_2, lw_okq q := List.forall_mem_cons.mpr ⟨lw_p16, List.forall_mem_cons.mpr ⟨lw_p17, List.forall_mem_cons.mpr ⟨lw_p18, List.forall_mem_cons.mpr ⟨lw_p19, List.forall_mem_cons.mpr ⟨lw_p20, List.forall_mem_cons.mpr ⟨lw_p21, List.forall_mem_cons.mpr ⟨lw_p22, List.forall_mem_cons.mpr ⟨lw_p23, List.forall_mem_cons.mpr ⟨lw_p24, List.forall_mem_cons.mpr ⟨lw_p25, List.forall_mem_cons.mpr ⟨lw_p26, List.forall_mem_cons.mpr ⟨lw_p27, List.forall_mem_cons.mpr ⟨lw_p28, List.forall_mem_cons.mpr ⟨lw_p29, List.forall_mem_cons.mpr ⟨lw_p30, List.forall_mem_cons.mpr ⟨lw_p31, fun _ h => absurd h List.not_mem_nil⟩⟩⟩⟩⟩⟩⟩⟩⟩⟩⟩⟩⟩⟩⟩⟩
theorem lw_p32 : lw_okq (⟨"RealRootsModel", "load", "([JI)V"⟩, 18) := ⟨⟨by decide +kernel, by decide +kernel⟩, List.mem_of_getElem? (i := 672) (by decide +kernel), List.mem_of_getElem? (i := 781) (by decide +kernel), List.mem_of_getElem? (i := 782) (by decide +kernel)⟩
theorem lw_p33 : lw_okq (⟨"RealRootsModel", "common", "([J[J)V"⟩, 18) := ⟨⟨by decide +kernel, by decide +kernel⟩, List.mem_of_getElem? (i := 672) (by decide +kernel), List.mem_of_getElem? (i := 785) (by decide +kernel), List.mem_of_getElem? (i := 786) (by decide +kernel)⟩
theorem lw_p34 : lw_okq (⟨"RealRootsModel", "put", "(I[J)V"⟩, 18) := ⟨⟨by decide +kernel, by decide +kernel⟩, List.mem_of_getElem? (i := 672) (by decide +kernel), List.mem_of_getElem? (i := 789) (by decide +kernel), List.mem_of_getElem? (i := 790) (by decide +kernel)⟩
theorem lw_p35 : lw_okq (⟨"RealRootsModel", "lay0", "(IJ)V"⟩, 18) := ⟨⟨by decide +kernel, by decide +kernel⟩, List.mem_of_getElem? (i := 672) (by decide +kernel), List.mem_of_getElem? (i := 793) (by decide +kernel), List.mem_of_getElem? (i := 794) (by decide +kernel)⟩
theorem lw_p36 : lw_okq (⟨"RealRootsModel", "degreeAt", "(I)I"⟩, 18) := ⟨⟨by decide +kernel, by decide +kernel⟩, List.mem_of_getElem? (i := 672) (by decide +kernel), List.mem_of_getElem? (i := 797) (by decide +kernel), List.mem_of_getElem? (i := 798) (by decide +kernel)⟩
theorem lw_p37 : lw_okq (⟨"RealRootsModel", "remainder", "(III)V"⟩, 18) := ⟨⟨by decide +kernel, by decide +kernel⟩, List.mem_of_getElem? (i := 672) (by decide +kernel), List.mem_of_getElem? (i := 801) (by decide +kernel), List.mem_of_getElem? (i := 802) (by decide +kernel)⟩
theorem lw_p38 : lw_okq (⟨"RealRootsModel", "copy", "(II)V"⟩, 18) := ⟨⟨by decide +kernel, by decide +kernel⟩, List.mem_of_getElem? (i := 672) (by decide +kernel), List.mem_of_getElem? (i := 805) (by decide +kernel), List.mem_of_getElem? (i := 806) (by decide +kernel)⟩
theorem lw_p39 : lw_okq (⟨"RealRootsModel", "multiply", "(III)V"⟩, 18) := ⟨⟨by decide +kernel, by decide +kernel⟩, List.mem_of_getElem? (i := 672) (by decide +kernel), List.mem_of_getElem? (i := 809) (by decide +kernel), List.mem_of_getElem? (i := 810) (by decide +kernel)⟩
theorem lw_p40 : lw_okq (⟨"RealRootsModel", "trim", "(I)V"⟩, 18) := ⟨⟨by decide +kernel, by decide +kernel⟩, List.mem_of_getElem? (i := 672) (by decide +kernel), List.mem_of_getElem? (i := 817) (by decide +kernel), List.mem_of_getElem? (i := 818) (by decide +kernel)⟩
theorem lw_p41 : lw_okq (⟨"RealRootsModel", "add", "(IIII)V"⟩, 18) := ⟨⟨by decide +kernel, by decide +kernel⟩, List.mem_of_getElem? (i := 672) (by decide +kernel), List.mem_of_getElem? (i := 821) (by decide +kernel), List.mem_of_getElem? (i := 822) (by decide +kernel)⟩
theorem lw_p42 : lw_okq (⟨"RealRootsModel", "limbOf", "(II)J"⟩, 18) := ⟨⟨by decide +kernel, by decide +kernel⟩, List.mem_of_getElem? (i := 672) (by decide +kernel), List.mem_of_getElem? (i := 825) (by decide +kernel), List.mem_of_getElem? (i := 826) (by decide +kernel)⟩
theorem lw_p43 : lw_okq (⟨"RealRootsModel", "sizes", "(II)I"⟩, 18) := ⟨⟨by decide +kernel, by decide +kernel⟩, List.mem_of_getElem? (i := 672) (by decide +kernel), List.mem_of_getElem? (i := 829) (by decide +kernel), List.mem_of_getElem? (i := 830) (by decide +kernel)⟩
theorem lw_p44 : lw_okq (⟨"RealRootsModel", "lessen", "(I)V"⟩, 18) := ⟨⟨by decide +kernel, by decide +kernel⟩, List.mem_of_getElem? (i := 672) (by decide +kernel), List.mem_of_getElem? (i := 833) (by decide +kernel), List.mem_of_getElem? (i := 834) (by decide +kernel)⟩
theorem lw_p45 : lw_okq (⟨"RealRootsModel", "divisor", "(II)V"⟩, 18) := ⟨⟨by decide +kernel, by decide +kernel⟩, List.mem_of_getElem? (i := 672) (by decide +kernel), List.mem_of_getElem? (i := 837) (by decide +kernel), List.mem_of_getElem? (i := 838) (by decide +kernel)⟩
theorem lw_p46 : lw_okq (⟨"RealRootsModel", "divide", "(III)V"⟩, 18) := ⟨⟨by decide +kernel, by decide +kernel⟩, List.mem_of_getElem? (i := 672) (by decide +kernel), List.mem_of_getElem? (i := 841) (by decide +kernel), List.mem_of_getElem? (i := 842) (by decide +kernel)⟩
theorem lw_p47 : lw_okq (⟨"RealRootsModel", "bitsOf", "(I)I"⟩, 18) := ⟨⟨by decide +kernel, by decide +kernel⟩, List.mem_of_getElem? (i := 672) (by decide +kernel), List.mem_of_getElem? (i := 845) (by decide +kernel), List.mem_of_getElem? (i := 846) (by decide +kernel)⟩
def lw_privs_3 : List (MethodName × Nat) := [(⟨"RealRootsModel", "load", "([JI)V"⟩, 18), (⟨"RealRootsModel", "common", "([J[J)V"⟩, 18), (⟨"RealRootsModel", "put", "(I[J)V"⟩, 18), (⟨"RealRootsModel", "lay0", "(IJ)V"⟩, 18), (⟨"RealRootsModel", "degreeAt", "(I)I"⟩, 18), (⟨"RealRootsModel", "remainder", "(III)V"⟩, 18), (⟨"RealRootsModel", "copy", "(II)V"⟩, 18), (⟨"RealRootsModel", "multiply", "(III)V"⟩, 18), (⟨"RealRootsModel", "trim", "(I)V"⟩, 18), (⟨"RealRootsModel", "add", "(IIII)V"⟩, 18), (⟨"RealRootsModel", "limbOf", "(II)J"⟩, 18), (⟨"RealRootsModel", "sizes", "(II)I"⟩, 18), (⟨"RealRootsModel", "lessen", "(I)V"⟩, 18), (⟨"RealRootsModel", "divisor", "(II)V"⟩, 18), (⟨"RealRootsModel", "divide", "(III)V"⟩, 18), (⟨"RealRootsModel", "bitsOf", "(I)I"⟩, 18)]
theorem lw_r3 : ∀ q ∈ lw_privs_3, lw_okq q := List.forall_mem_cons.mpr ⟨lw_p32, List.forall_mem_cons.mpr ⟨lw_p33, List.forall_mem_cons.mpr ⟨lw_p34, List.forall_mem_cons.mpr ⟨lw_p35, List.forall_mem_cons.mpr ⟨lw_p36, List.forall_mem_cons.mpr ⟨lw_p37, List.forall_mem_cons.mpr ⟨lw_p38, List.forall_mem_cons.mpr ⟨lw_p39, List.forall_mem_cons.mpr ⟨lw_p40, List.forall_mem_cons.mpr ⟨lw_p41, List.forall_mem_cons.mpr ⟨lw_p42, List.forall_mem_cons.mpr ⟨lw_p43, List.forall_mem_cons.mpr ⟨lw_p44, List.forall_mem_cons.mpr ⟨lw_p45, List.forall_mem_cons.mpr ⟨lw_p46, List.forall_mem_cons.mpr ⟨lw_p47, fun _ h => absurd h List.not_mem_nil⟩⟩⟩⟩⟩⟩⟩⟩⟩⟩⟩⟩⟩⟩⟩⟩
theorem lw_p48 : lw_okq (⟨"RealRootsModel", "shift", "(II)V"⟩, 18) := ⟨⟨by decide +kernel, by decide +kernel⟩, List.mem_of_getElem? (i := 672) (by decide +kernel), List.mem_of_getElem? (i := 849) (by decide +kernel), List.mem_of_getElem? (i := 850) (by decide +kernel)⟩
theorem lw_p49 : lw_okq (⟨"RealRootsModel", "valueOf", "(I)J"⟩, 18) := ⟨⟨by decide +kernel, by decide +kernel⟩, List.mem_of_getElem? (i := 672) (by decide +kernel), List.mem_of_getElem? (i := 853) (by decide +kernel), List.mem_of_getElem? (i := 854) (by decide +kernel)⟩
theorem lw_p50 : lw_okq (⟨"RealRootsModel", "squareFree", "([J)V"⟩, 18) := ⟨⟨by decide +kernel, by decide +kernel⟩, List.mem_of_getElem? (i := 672) (by decide +kernel), List.mem_of_getElem? (i := 863) (by decide +kernel), List.mem_of_getElem? (i := 864) (by decide +kernel)⟩
theorem lw_p51 : lw_okq (⟨"RealRootsModel", "quotient", "([J[J)V"⟩, 18) := ⟨⟨by decide +kernel, by decide +kernel⟩, List.mem_of_getElem? (i := 672) (by decide +kernel), List.mem_of_getElem? (i := 870) (by decide +kernel), List.mem_of_getElem? (i := 871) (by decide +kernel)⟩
theorem lw_p52 : lw_okq (⟨"RealRootsModel", "moving", "(III)Z"⟩, 18) := ⟨⟨by decide +kernel, by decide +kernel⟩, List.mem_of_getElem? (i := 672) (by decide +kernel), List.mem_of_getElem? (i := 874) (by decide +kernel), List.mem_of_getElem? (i := 875) (by decide +kernel)⟩
theorem lw_p53 : lw_okq (⟨"RealRootsModel", "lay", "(I)V"⟩, 18) := ⟨⟨by decide +kernel, by decide +kernel⟩, List.mem_of_getElem? (i := 672) (by decide +kernel), List.mem_of_getElem? (i := 883) (by decide +kernel), List.mem_of_getElem? (i := 884) (by decide +kernel)⟩
theorem lw_p54 : lw_okq (⟨"RealRootsModel", "laySigns", "([J)V"⟩, 18) := ⟨⟨by decide +kernel, by decide +kernel⟩, List.mem_of_getElem? (i := 672) (by decide +kernel), List.mem_of_getElem? (i := 887) (by decide +kernel), List.mem_of_getElem? (i := 888) (by decide +kernel)⟩
theorem lw_p55 : lw_okq (⟨"RealRootsModel", "changesFarLeft", "()I"⟩, 18) := ⟨⟨by decide +kernel, by decide +kernel⟩, List.mem_of_getElem? (i := 672) (by decide +kernel), List.mem_of_getElem? (i := 891) (by decide +kernel), List.mem_of_getElem? (i := 892) (by decide +kernel)⟩
theorem lw_p56 : lw_okq (⟨"RealRootsModel", "changesFarRight", "()I"⟩, 18) := ⟨⟨by decide +kernel, by decide +kernel⟩, List.mem_of_getElem? (i := 672) (by decide +kernel), List.mem_of_getElem? (i := 895) (by decide +kernel), List.mem_of_getElem? (i := 896) (by decide +kernel)⟩
theorem lw_p57 : lw_okq (⟨"RealRootsModel", "findRoot", "(III)V"⟩, 18) := ⟨⟨by decide +kernel, by decide +kernel⟩, List.mem_of_getElem? (i := 672) (by decide +kernel), List.mem_of_getElem? (i := 899) (by decide +kernel), List.mem_of_getElem? (i := 900) (by decide +kernel)⟩
theorem lw_p58 : lw_okq (⟨"RealRootsModel", "below", "(III)I"⟩, 18) := ⟨⟨by decide +kernel, by decide +kernel⟩, List.mem_of_getElem? (i := 672) (by decide +kernel), List.mem_of_getElem? (i := 904) (by decide +kernel), List.mem_of_getElem? (i := 905) (by decide +kernel)⟩
theorem lw_p59 : lw_okq (⟨"RealRootsModel", "changesAt", "()I"⟩, 18) := ⟨⟨by decide +kernel, by decide +kernel⟩, List.mem_of_getElem? (i := 672) (by decide +kernel), List.mem_of_getElem? (i := 908) (by decide +kernel), List.mem_of_getElem? (i := 909) (by decide +kernel)⟩
theorem lw_p60 : lw_okq (⟨"RealRootsModel", "signAt", "(I)I"⟩, 18) := ⟨⟨by decide +kernel, by decide +kernel⟩, List.mem_of_getElem? (i := 672) (by decide +kernel), List.mem_of_getElem? (i := 912) (by decide +kernel), List.mem_of_getElem? (i := 913) (by decide +kernel)⟩
theorem lw_p61 : lw_okq (⟨"RealRootsModel", "signDyadic", "(III)I"⟩, 18) := ⟨⟨by decide +kernel, by decide +kernel⟩, List.mem_of_getElem? (i := 672) (by decide +kernel), List.mem_of_getElem? (i := 916) (by decide +kernel), List.mem_of_getElem? (i := 917) (by decide +kernel)⟩
theorem lw_p62 : lw_okq (⟨"RealRootsModel", "isRoot", "(II)Z"⟩, 18) := ⟨⟨by decide +kernel, by decide +kernel⟩, List.mem_of_getElem? (i := 672) (by decide +kernel), List.mem_of_getElem? (i := 924) (by decide +kernel), List.mem_of_getElem? (i := 925) (by decide +kernel)⟩
theorem lw_p63 : lw_okq (⟨"RealRootsModel", "hasIn", "([JI)Z"⟩, 18) := ⟨⟨by decide +kernel, by decide +kernel⟩, List.mem_of_getElem? (i := 672) (by decide +kernel), List.mem_of_getElem? (i := 928) (by decide +kernel), List.mem_of_getElem? (i := 929) (by decide +kernel)⟩
def lw_privs_4 : List (MethodName × Nat) := [(⟨"RealRootsModel", "shift", "(II)V"⟩, 18), (⟨"RealRootsModel", "valueOf", "(I)J"⟩, 18), (⟨"RealRootsModel", "squareFree", "([J)V"⟩, 18), (⟨"RealRootsModel", "quotient", "([J[J)V"⟩, 18), (⟨"RealRootsModel", "moving", "(III)Z"⟩, 18), (⟨"RealRootsModel", "lay", "(I)V"⟩, 18), (⟨"RealRootsModel", "laySigns", "([J)V"⟩, 18), (⟨"RealRootsModel", "changesFarLeft", "()I"⟩, 18), (⟨"RealRootsModel", "changesFarRight", "()I"⟩, 18), (⟨"RealRootsModel", "findRoot", "(III)V"⟩, 18), (⟨"RealRootsModel", "below", "(III)I"⟩, 18), (⟨"RealRootsModel", "changesAt", "()I"⟩, 18), (⟨"RealRootsModel", "signAt", "(I)I"⟩, 18), (⟨"RealRootsModel", "signDyadic", "(III)I"⟩, 18), (⟨"RealRootsModel", "isRoot", "(II)Z"⟩, 18), (⟨"RealRootsModel", "hasIn", "([JI)Z"⟩, 18)]
theorem lw_r4 : ∀ q ∈ lw_privs_4, lw_okq q := List.forall_mem_cons.mpr ⟨lw_p48, List.forall_mem_cons.mpr ⟨lw_p49, List.forall_mem_cons.mpr ⟨lw_p50, List.forall_mem_cons.mpr ⟨lw_p51, List.forall_mem_cons.mpr ⟨lw_p52, List.forall_mem_cons.mpr ⟨lw_p53, List.forall_mem_cons.mpr ⟨lw_p54, List.forall_mem_cons.mpr ⟨lw_p55, List.forall_mem_cons.mpr ⟨lw_p56, List.forall_mem_cons.mpr ⟨lw_p57, List.forall_mem_cons.mpr ⟨lw_p58, List.forall_mem_cons.mpr ⟨lw_p59, List.forall_mem_cons.mpr ⟨lw_p60, List.forall_mem_cons.mpr ⟨lw_p61, List.forall_mem_cons.mpr ⟨lw_p62, List.forall_mem_cons.mpr ⟨lw_p63, fun _ h => absurd h List.not_mem_nil⟩⟩⟩⟩⟩⟩⟩⟩⟩⟩⟩⟩⟩⟩⟩⟩
theorem lw_p64 : lw_okq (⟨"RealRootsModel", "down", "(II)J"⟩, 18) := ⟨⟨by decide +kernel, by decide +kernel⟩, List.mem_of_getElem? (i := 672) (by decide +kernel), List.mem_of_getElem? (i := 938) (by decide +kernel), List.mem_of_getElem? (i := 939) (by decide +kernel)⟩
theorem lw_p65 : lw_okq (⟨"RealRootsModel", "isFraction", "(II)Z"⟩, 18) := ⟨⟨by decide +kernel, by decide +kernel⟩, List.mem_of_getElem? (i := 672) (by decide +kernel), List.mem_of_getElem? (i := 947) (by decide +kernel), List.mem_of_getElem? (i := 948) (by decide +kernel)⟩
theorem lw_p66 : lw_okq (⟨"RealRootsModel", "compareNumbers", "(II)I"⟩, 18) := ⟨⟨by decide +kernel, by decide +kernel⟩, List.mem_of_getElem? (i := 672) (by decide +kernel), List.mem_of_getElem? (i := 951) (by decide +kernel), List.mem_of_getElem? (i := 952) (by decide +kernel)⟩
theorem lw_p67 : lw_okq (⟨"RealRootsModel", "countRoots", "(I)I"⟩, 18) := ⟨⟨by decide +kernel, by decide +kernel⟩, List.mem_of_getElem? (i := 672) (by decide +kernel), List.mem_of_getElem? (i := 967) (by decide +kernel), List.mem_of_getElem? (i := 968) (by decide +kernel)⟩
theorem lw_p68 : lw_okq (⟨"RealRootsModel", "isNew", "(II)Z"⟩, 18) := ⟨⟨by decide +kernel, by decide +kernel⟩, List.mem_of_getElem? (i := 672) (by decide +kernel), List.mem_of_getElem? (i := 971) (by decide +kernel), List.mem_of_getElem? (i := 972) (by decide +kernel)⟩
theorem lw_p69 : lw_okq (⟨"RealRootsModel", "against", "(III)I"⟩, 18) := ⟨⟨by decide +kernel, by decide +kernel⟩, List.mem_of_getElem? (i := 672) (by decide +kernel), List.mem_of_getElem? (i := 988) (by decide +kernel), List.mem_of_getElem? (i := 989) (by decide +kernel)⟩
def lw_privs_5 : List (MethodName × Nat) := [(⟨"RealRootsModel", "down", "(II)J"⟩, 18), (⟨"RealRootsModel", "isFraction", "(II)Z"⟩, 18), (⟨"RealRootsModel", "compareNumbers", "(II)I"⟩, 18), (⟨"RealRootsModel", "countRoots", "(I)I"⟩, 18), (⟨"RealRootsModel", "isNew", "(II)Z"⟩, 18), (⟨"RealRootsModel", "against", "(III)I"⟩, 18)]
theorem lw_r5 : ∀ q ∈ lw_privs_5, lw_okq q := List.forall_mem_cons.mpr ⟨lw_p64, List.forall_mem_cons.mpr ⟨lw_p65, List.forall_mem_cons.mpr ⟨lw_p66, List.forall_mem_cons.mpr ⟨lw_p67, List.forall_mem_cons.mpr ⟨lw_p68, List.forall_mem_cons.mpr ⟨lw_p69, fun _ h => absurd h List.not_mem_nil⟩⟩⟩⟩⟩⟩
def lw_privs : List (MethodName × Nat) := lw_privs_1 ++ (lw_privs_2 ++ (lw_privs_3 ++ (lw_privs_4 ++ (lw_privs_5))))
def lw_tbl : List Cond := k2_sels lw_privs ++ tables_1
theorem lw_privs_ok : ∀ q ∈ lw_privs, lw_okq q := by
  show ∀ q ∈ lw_privs_1 ++ (lw_privs_2 ++ (lw_privs_3 ++ (lw_privs_4 ++ (lw_privs_5)))), lw_okq q
  exact List.forall_mem_append.mpr ⟨lw_r1, List.forall_mem_append.mpr ⟨lw_r2, List.forall_mem_append.mpr ⟨lw_r3, List.forall_mem_append.mpr ⟨lw_r4, lw_r5⟩⟩⟩⟩
/-! the good words of the tables -/
def gw : List Cond := lw_tbl.filter goodWord
theorem gw_good : GoodIn gw gw := fun w h => ⟨h, good_of_word (List.mem_filter.mp h).2⟩
theorem gw_of {args : Array Value} {s : State} (h : ∀ w ∈ lw_tbl, w.before args s = true) : ∀ w ∈ gw, w.before args s = true := fun w q => h w (List.mem_filter.mp q).1
theorem gw_in {w : Cond} (i : Nat) (h : lw_tbl[i]? = some w) (g : goodWord w = true) : w ∈ gw := List.mem_filter.mpr ⟨List.mem_of_getElem? h, g⟩
theorem gw_cons {w : Cond} (h : w ∈ gw) : GoodIn gw (w :: gw) := fun x q => (List.mem_cons.mp q).elim (fun e => e ▸ gw_good w h) (gw_good x)
theorem gw_V {own C : String} {idx : Nat} {y : MethodName} {w : Cond} (h1 : Cond.methodLink own idx y ∈ gw) (h2 : Cond.instanceMethod y ∈ gw) (h3 : Cond.selects C y y ∈ gw) (h4 : Cond.initialized C ∈ gw) (h5 : w ∈ gw) : GoodIn gw (wsV own idx C y (w :: gw)) := by
  intro x q
  rcases List.mem_append.mp q with q | q
  · simp only [List.mem_cons, List.not_mem_nil, or_false] at q
    rcases q with q | q | q | q <;> subst q
    · exact gw_good _ h1
    · exact gw_good _ h2
    · exact gw_good _ h3
    · exact gw_good _ h4
  · exact gw_cons h5 x q
theorem gw_S {own : String} {idx : Nat} {y : MethodName} {w : Cond} (h1 : Cond.methodLink own idx y ∈ gw) (h2 : Cond.static y ∈ gw) (h4 : Cond.initialized y.cls ∈ gw) (h5 : w ∈ gw) : GoodIn gw (va_wsS own idx y (w :: gw)) := by
  intro x q
  rcases List.mem_append.mp q with q | q
  · simp only [List.mem_cons, List.not_mem_nil, or_false] at q
    rcases q with q | q | q <;> subst q
    · exact gw_good _ h1
    · exact gw_good _ h2
    · exact gw_good _ h4
  · exact gw_cons h5 x q
/-! classes -/
def RX0 : String := "RealRoots$Big"
def TX0 : u_T := fun k => match k with
  | 0 => ("RealRoots$Big", "side", "I", false)
  | 1 => ("RealRoots$Big", "size", "I", false)
  | _ => ("RealRoots$Big", "limb", "[I", true)
def tyX0 : Nat → FieldType := fun k => match k with
  | 0 => .int
  | 1 => .int
  | _ => .array .int
theorem nmX0 : ∀ a, a < 3 → ∀ b, b < 3 → a ≠ b → (TX0 a).2.1 ≠ (TX0 b).2.1 := by decide +kernel
theorem tyX0_ok : ∀ k, k < 3 → parseFieldDescriptor (TX0 k).2.2.1 = some (tyX0 k) := by decide +kernel
theorem inX0 : ∀ w ∈ u_ws RX0 TX0 3, w ∈ gw := by
  intro w h
  obtain ⟨k, hk, e⟩ := List.mem_map.mp h
  have hk := List.mem_range.mp hk
  subst e
  match k, hk with
  | 0, _ => exact gw_in 114 (by decide +kernel) (by decide +kernel)
  | 1, _ => exact gw_in 116 (by decide +kernel) (by decide +kernel)
  | 2, _ => exact gw_in 118 (by decide +kernel) (by decide +kernel)
  | k + 3, h => exact absurd h (by omega)
def RX1 : String := "RealRoots$Chain"
def TX1 : u_T := fun k => match k with
  | 0 => ("RealRoots$Chain", "term", "[LRealRoots$Big;", true)
  | 1 => ("RealRoots$Chain", "tops", "[I", true)
  | 2 => ("RealRoots$Chain", "length", "I", false)
  | 3 => ("RealRoots$Chain", "turns", "I", false)
  | 4 => ("RealRoots$Chain", "first", "I", false)
  | 5 => ("RealRoots$Chain", "left", "LRealRoots$Big;", false)
  | _ => ("RealRoots$Chain", "right", "LRealRoots$Big;", true)
def tyX1 : Nat → FieldType := fun k => match k with
  | 0 => .array (.object "RealRoots$Big")
  | 1 => .array .int
  | 2 => .int
  | 3 => .int
  | 4 => .int
  | 5 => .object "RealRoots$Big"
  | _ => .object "RealRoots$Big"
theorem nmX1 : ∀ a, a < 7 → ∀ b, b < 7 → a ≠ b → (TX1 a).2.1 ≠ (TX1 b).2.1 := by decide +kernel
theorem tyX1_ok : ∀ k, k < 7 → parseFieldDescriptor (TX1 k).2.2.1 = some (tyX1 k) := by decide +kernel
theorem inX1 : ∀ w ∈ u_ws RX1 TX1 7, w ∈ gw := by
  intro w h
  obtain ⟨k, hk, e⟩ := List.mem_map.mp h
  have hk := List.mem_range.mp hk
  subst e
  match k, hk with
  | 0, _ => exact gw_in 131 (by decide +kernel) (by decide +kernel)
  | 1, _ => exact gw_in 133 (by decide +kernel) (by decide +kernel)
  | 2, _ => exact gw_in 135 (by decide +kernel) (by decide +kernel)
  | 3, _ => exact gw_in 137 (by decide +kernel) (by decide +kernel)
  | 4, _ => exact gw_in 139 (by decide +kernel) (by decide +kernel)
  | 5, _ => exact gw_in 141 (by decide +kernel) (by decide +kernel)
  | 6, _ => exact gw_in 143 (by decide +kernel) (by decide +kernel)
  | k + 7, h => exact absurd h (by omega)
def RX2 : String := "RealRoots$Curve"
def TX2 : u_T := fun k => match k with
  | 0 => ("RealRoots$Curve", "value", "[I", true)
  | 1 => ("RealRoots$Curve", "free", "[I", true)
  | 2 => ("RealRoots$Curve", "place", "[LRealRoots$Place;", true)
  | 3 => ("RealRoots$Curve", "settled", "Z", false)
  | _ => ("RealRoots$Curve", "many", "I", false)
def tyX2 : Nat → FieldType := fun k => match k with
  | 0 => .array .int
  | 1 => .array .int
  | 2 => .array (.object "RealRoots$Place")
  | 3 => .boolean
  | _ => .int
theorem nmX2 : ∀ a, a < 5 → ∀ b, b < 5 → a ≠ b → (TX2 a).2.1 ≠ (TX2 b).2.1 := by decide +kernel
theorem tyX2_ok : ∀ k, k < 5 → parseFieldDescriptor (TX2 k).2.2.1 = some (tyX2 k) := by decide +kernel
theorem inX2 : ∀ w ∈ u_ws RX2 TX2 5, w ∈ gw := by
  intro w h
  obtain ⟨k, hk, e⟩ := List.mem_map.mp h
  have hk := List.mem_range.mp hk
  subst e
  match k, hk with
  | 0, _ => exact gw_in 256 (by decide +kernel) (by decide +kernel)
  | 1, _ => exact gw_in 258 (by decide +kernel) (by decide +kernel)
  | 2, _ => exact gw_in 260 (by decide +kernel) (by decide +kernel)
  | 3, _ => exact gw_in 262 (by decide +kernel) (by decide +kernel)
  | 4, _ => exact gw_in 264 (by decide +kernel) (by decide +kernel)
  | k + 5, h => exact absurd h (by omega)
def RX3 : String := "RealRoots$Place"
def TX3 : u_T := fun k => match k with
  | 0 => ("RealRoots$Place", "whole", "I", false)
  | 1 => ("RealRoots$Place", "depth", "I", false)
  | _ => ("RealRoots$Place", "word", "[I", true)
def tyX3 : Nat → FieldType := fun k => match k with
  | 0 => .int
  | 1 => .int
  | _ => .array .int
theorem nmX3 : ∀ a, a < 3 → ∀ b, b < 3 → a ≠ b → (TX3 a).2.1 ≠ (TX3 b).2.1 := by decide +kernel
theorem tyX3_ok : ∀ k, k < 3 → parseFieldDescriptor (TX3 k).2.2.1 = some (tyX3 k) := by decide +kernel
theorem inX3 : ∀ w ∈ u_ws RX3 TX3 3, w ∈ gw := by
  intro w h
  obtain ⟨k, hk, e⟩ := List.mem_map.mp h
  have hk := List.mem_range.mp hk
  subst e
  match k, hk with
  | 0, _ => exact gw_in 238 (by decide +kernel) (by decide +kernel)
  | 1, _ => exact gw_in 240 (by decide +kernel) (by decide +kernel)
  | 2, _ => exact gw_in 242 (by decide +kernel) (by decide +kernel)
  | k + 3, h => exact absurd h (by omega)
def RX4 : String := "RealRoots$Ratio"
def TX4 : u_T := fun k => match k with
  | 0 => ("RealRoots$Ratio", "upper", "LRealRoots$Big;", true)
  | 1 => ("RealRoots$Ratio", "lower", "LRealRoots$Big;", true)
  | 2 => ("RealRoots$Ratio", "n", "J", false)
  | 3 => ("RealRoots$Ratio", "d", "J", false)
  | 4 => ("RealRoots$Ratio", "one", "LRealRoots$Big;", true)
  | 5 => ("RealRoots$Ratio", "two", "LRealRoots$Big;", true)
  | _ => ("RealRoots$Ratio", "spare", "LRealRoots$Big;", true)
def tyX4 : Nat → FieldType := fun k => match k with
  | 0 => .object "RealRoots$Big"
  | 1 => .object "RealRoots$Big"
  | 2 => .long
  | 3 => .long
  | 4 => .object "RealRoots$Big"
  | 5 => .object "RealRoots$Big"
  | _ => .object "RealRoots$Big"
theorem nmX4 : ∀ a, a < 7 → ∀ b, b < 7 → a ≠ b → (TX4 a).2.1 ≠ (TX4 b).2.1 := by decide +kernel
theorem tyX4_ok : ∀ k, k < 7 → parseFieldDescriptor (TX4 k).2.2.1 = some (tyX4 k) := by decide +kernel
theorem inX4 : ∀ w ∈ u_ws RX4 TX4 7, w ∈ gw := by
  intro w h
  obtain ⟨k, hk, e⟩ := List.mem_map.mp h
  have hk := List.mem_range.mp hk
  subst e
  match k, hk with
  | 0, _ => exact gw_in 203 (by decide +kernel) (by decide +kernel)
  | 1, _ => exact gw_in 205 (by decide +kernel) (by decide +kernel)
  | 2, _ => exact gw_in 207 (by decide +kernel) (by decide +kernel)
  | 3, _ => exact gw_in 209 (by decide +kernel) (by decide +kernel)
  | 4, _ => exact gw_in 211 (by decide +kernel) (by decide +kernel)
  | 5, _ => exact gw_in 213 (by decide +kernel) (by decide +kernel)
  | 6, _ => exact gw_in 215 (by decide +kernel) (by decide +kernel)
  | k + 7, h => exact absurd h (by omega)
def RX5 : String := "RealRoots$Spot"
def TX5 : u_T := fun k => match k with
  | 0 => ("RealRoots$Spot", "upper", "LRealRoots$Big;", true)
  | 1 => ("RealRoots$Spot", "lower", "LRealRoots$Big;", true)
  | 2 => ("RealRoots$Spot", "small", "[LRealRoots$Big;", true)
  | 3 => ("RealRoots$Spot", "top", "I", false)
  | 4 => ("RealRoots$Spot", "total", "LRealRoots$Big;", false)
  | 5 => ("RealRoots$Spot", "power", "LRealRoots$Big;", false)
  | 6 => ("RealRoots$Spot", "left", "LRealRoots$Big;", false)
  | _ => ("RealRoots$Spot", "right", "LRealRoots$Big;", false)
def tyX5 : Nat → FieldType := fun k => match k with
  | 0 => .object "RealRoots$Big"
  | 1 => .object "RealRoots$Big"
  | 2 => .array (.object "RealRoots$Big")
  | 3 => .int
  | 4 => .object "RealRoots$Big"
  | 5 => .object "RealRoots$Big"
  | 6 => .object "RealRoots$Big"
  | _ => .object "RealRoots$Big"
theorem nmX5 : ∀ a, a < 8 → ∀ b, b < 8 → a ≠ b → (TX5 a).2.1 ≠ (TX5 b).2.1 := by decide +kernel
theorem tyX5_ok : ∀ k, k < 8 → parseFieldDescriptor (TX5 k).2.2.1 = some (tyX5 k) := by decide +kernel
theorem inX5 : ∀ w ∈ u_ws RX5 TX5 8, w ∈ gw := by
  intro w h
  obtain ⟨k, hk, e⟩ := List.mem_map.mp h
  have hk := List.mem_range.mp hk
  subst e
  match k, hk with
  | 0, _ => exact gw_in 167 (by decide +kernel) (by decide +kernel)
  | 1, _ => exact gw_in 169 (by decide +kernel) (by decide +kernel)
  | 2, _ => exact gw_in 171 (by decide +kernel) (by decide +kernel)
  | 3, _ => exact gw_in 173 (by decide +kernel) (by decide +kernel)
  | 4, _ => exact gw_in 175 (by decide +kernel) (by decide +kernel)
  | 5, _ => exact gw_in 177 (by decide +kernel) (by decide +kernel)
  | 6, _ => exact gw_in 179 (by decide +kernel) (by decide +kernel)
  | 7, _ => exact gw_in 181 (by decide +kernel) (by decide +kernel)
  | k + 8, h => exact absurd h (by omega)
def RX6 : String := "RealRoots"
def TX6 : u_T := fun k => match k with
  | 0 => ("RealRoots", "curves", "[LRealRoots$Curve;", true)
  | 1 => ("RealRoots", "held", "I", false)
  | 2 => ("RealRoots", "chain", "LRealRoots$Chain;", true)
  | 3 => ("RealRoots", "spot", "LRealRoots$Spot;", true)
  | 4 => ("RealRoots", "ratio", "LRealRoots$Ratio;", true)
  | 5 => ("RealRoots", "wide", "[J", true)
  | 6 => ("RealRoots", "slope", "[I", true)
  | 7 => ("RealRoots", "shared", "[I", true)
  | 8 => ("RealRoots", "low", "[I", true)
  | 9 => ("RealRoots", "high", "[I", true)
  | 10 => ("RealRoots", "line", "[I", true)
  | 11 => ("RealRoots", "standsFor", "[I", true)
  | 12 => ("RealRoots", "lineLength", "I", false)
  | _ => ("RealRoots", "lined", "Z", false)
def tyX6 : Nat → FieldType := fun k => match k with
  | 0 => .array (.object "RealRoots$Curve")
  | 1 => .int
  | 2 => .object "RealRoots$Chain"
  | 3 => .object "RealRoots$Spot"
  | 4 => .object "RealRoots$Ratio"
  | 5 => .array .long
  | 6 => .array .int
  | 7 => .array .int
  | 8 => .array .int
  | 9 => .array .int
  | 10 => .array .int
  | 11 => .array .int
  | 12 => .int
  | _ => .boolean
theorem nmX6 : ∀ a, a < 14 → ∀ b, b < 14 → a ≠ b → (TX6 a).2.1 ≠ (TX6 b).2.1 := by decide +kernel
theorem tyX6_ok : ∀ k, k < 14 → parseFieldDescriptor (TX6 k).2.2.1 = some (tyX6 k) := by decide +kernel
theorem inX6 : ∀ w ∈ u_ws RX6 TX6 14, w ∈ gw := by
  intro w h
  obtain ⟨k, hk, e⟩ := List.mem_map.mp h
  have hk := List.mem_range.mp hk
  subst e
  match k, hk with
  | 0, _ => exact gw_in 281 (by decide +kernel) (by decide +kernel)
  | 1, _ => exact gw_in 283 (by decide +kernel) (by decide +kernel)
  | 2, _ => exact gw_in 285 (by decide +kernel) (by decide +kernel)
  | 3, _ => exact gw_in 287 (by decide +kernel) (by decide +kernel)
  | 4, _ => exact gw_in 289 (by decide +kernel) (by decide +kernel)
  | 5, _ => exact gw_in 291 (by decide +kernel) (by decide +kernel)
  | 6, _ => exact gw_in 293 (by decide +kernel) (by decide +kernel)
  | 7, _ => exact gw_in 295 (by decide +kernel) (by decide +kernel)
  | 8, _ => exact gw_in 297 (by decide +kernel) (by decide +kernel)
  | 9, _ => exact gw_in 299 (by decide +kernel) (by decide +kernel)
  | 10, _ => exact gw_in 301 (by decide +kernel) (by decide +kernel)
  | 11, _ => exact gw_in 303 (by decide +kernel) (by decide +kernel)
  | 12, _ => exact gw_in 305 (by decide +kernel) (by decide +kernel)
  | 13, _ => exact gw_in 307 (by decide +kernel) (by decide +kernel)
  | k + 14, h => exact absurd h (by omega)
def RX7 : String := "RealRootsModel"
def TX7 : u_T := fun k => match k with
  | 0 => ("RealRootsModel", "thrown", "I", false)
  | 1 => ("RealRootsModel", "limb", "[I", false)
  | 2 => ("RealRootsModel", "many", "[I", false)
  | 3 => ("RealRootsModel", "sign", "[I", false)
  | 4 => ("RealRootsModel", "polynomials", "I", false)
  | 5 => ("RealRootsModel", "coefficient", "[I", false)
  | 6 => ("RealRootsModel", "isLaid", "[Z", false)
  | 7 => ("RealRootsModel", "made", "[J", false)
  | 8 => ("RealRootsModel", "one", "[J", false)
  | 9 => ("RealRootsModel", "two", "[J", false)
  | 10 => ("RealRootsModel", "whole", "[J", false)
  | 11 => ("RealRootsModel", "row", "[J", false)
  | 12 => ("RealRootsModel", "rootsOf", "[I", false)
  | 13 => ("RealRootsModel", "free", "[J", false)
  | 14 => ("RealRootsModel", "rows", "I", false)
  | 15 => ("RealRootsModel", "rest", "[J", false)
  | 16 => ("RealRootsModel", "foundUp", "J", false)
  | _ => ("RealRootsModel", "foundBelow", "J", false)
def tyX7 : Nat → FieldType := fun k => match k with
  | 0 => .int
  | 1 => .array .int
  | 2 => .array .int
  | 3 => .array .int
  | 4 => .int
  | 5 => .array .int
  | 6 => .array .boolean
  | 7 => .array .long
  | 8 => .array .long
  | 9 => .array .long
  | 10 => .array .long
  | 11 => .array .long
  | 12 => .array .int
  | 13 => .array .long
  | 14 => .int
  | 15 => .array .long
  | 16 => .long
  | _ => .long
theorem nmX7 : ∀ a, a < 18 → ∀ b, b < 18 → a ≠ b → (TX7 a).2.1 ≠ (TX7 b).2.1 := by decide +kernel
theorem tyX7_ok : ∀ k, k < 18 → parseFieldDescriptor (TX7 k).2.2.1 = some (tyX7 k) := by decide +kernel
theorem inX7 : ∀ w ∈ u_ws RX7 TX7 18, w ∈ gw := by
  intro w h
  obtain ⟨k, hk, e⟩ := List.mem_map.mp h
  have hk := List.mem_range.mp hk
  subst e
  match k, hk with
  | 0, _ => exact gw_in 765 (by decide +kernel) (by decide +kernel)
  | 1, _ => exact gw_in 767 (by decide +kernel) (by decide +kernel)
  | 2, _ => exact gw_in 769 (by decide +kernel) (by decide +kernel)
  | 3, _ => exact gw_in 771 (by decide +kernel) (by decide +kernel)
  | 4, _ => exact gw_in 773 (by decide +kernel) (by decide +kernel)
  | 5, _ => exact gw_in 775 (by decide +kernel) (by decide +kernel)
  | 6, _ => exact gw_in 777 (by decide +kernel) (by decide +kernel)
  | 7, _ => exact gw_in 779 (by decide +kernel) (by decide +kernel)
  | 8, _ => exact gw_in 781 (by decide +kernel) (by decide +kernel)
  | 9, _ => exact gw_in 783 (by decide +kernel) (by decide +kernel)
  | 10, _ => exact gw_in 785 (by decide +kernel) (by decide +kernel)
  | 11, _ => exact gw_in 787 (by decide +kernel) (by decide +kernel)
  | 12, _ => exact gw_in 789 (by decide +kernel) (by decide +kernel)
  | 13, _ => exact gw_in 791 (by decide +kernel) (by decide +kernel)
  | 14, _ => exact gw_in 793 (by decide +kernel) (by decide +kernel)
  | 15, _ => exact gw_in 795 (by decide +kernel) (by decide +kernel)
  | 16, _ => exact gw_in 797 (by decide +kernel) (by decide +kernel)
  | 17, _ => exact gw_in 799 (by decide +kernel) (by decide +kernel)
  | k + 18, h => exact absurd h (by omega)
abbrev vwCl : List vw_C := [(RX0, TX0, 3), (RX1, TX1, 7), (RX2, TX2, 5), (RX3, TX3, 3), (RX4, TX4, 7), (RX5, TX5, 8), (RX6, TX6, 14), (RX7, TX7, 18)]
/-! words that aren't good: nests and arrays of objects -/
def Xw (U : State) : Prop := va_Nw (.methodLinkNest "RealRoots$Chain" 31 ⟨"RealRoots$Big", "<init>", "()V"⟩ "RealRoots") U ∧ va_Nw (.methodLinkNest "RealRoots$Spot" 11 ⟨"RealRoots$Big", "<init>", "()V"⟩ "RealRoots") U ∧ va_Nw (.methodLinkNest "RealRoots" 35 ⟨"RealRoots$Ratio", "<init>", "()V"⟩ "RealRoots") U ∧ va_Nw (.methodLinkNest "RealRoots$Ratio" 9 ⟨"RealRoots$Big", "<init>", "()V"⟩ "RealRoots") U ∧ va_Nw (.methodLinkNest "RealRoots$Curve" 32 ⟨"RealRoots$Place", "<init>", "()V"⟩ "RealRoots") U ∧ va_Nw (.methodLinkNest "RealRoots$Chain" 39 ⟨"RealRoots", "topOf", "([I)I"⟩ "RealRoots") U ∧ va_Nw (.methodLinkNest "RealRoots$Spot" 41 ⟨"RealRoots", "topOf", "([I)I"⟩ "RealRoots") U ∧ va_AO "RealRoots$Curve" U ∧ va_AO "RealRoots$Big" U ∧ va_AO "RealRoots$Place" U
theorem Xw.warm {s U : State} (h : Xw s) (hW : s.WarmedH U.vm) : Xw U := by
  obtain ⟨a0, a1, a2, a3, a4, a5, a6, b0, b1, b2⟩ := h
  exact ⟨a0.warmM hW, a1.warmM hW, a2.warmM hW, a3.warmM hW, a4.warmM hW, a5.warmM hW, a6.warmM hW, b0.moved hW.alike, b1.moved hW.alike, b2.moved hW.alike⟩
theorem Xw.calling {U : State} (g : JFrame) (mk : MethodId) (a : Array Value) (h : Xw U) : Xw (U.calling g mk a) := by
  obtain ⟨a0, a1, a2, a3, a4, a5, a6, b0, b1, b2⟩ := h
  exact ⟨a0.same rfl rfl, a1.same rfl rfl, a2.same rfl rfl, a3.same rfl rfl, a4.same rfl rfl, a5.same rfl rfl, a6.same rfl rfl, b0.moved (Vm.Alike.refl U.vm), b1.moved (Vm.Alike.refl U.vm), b2.moved (Vm.Alike.refl U.vm)⟩
theorem Xw.of {A : Array Value} {s : State} (h : ∀ w ∈ lw_tbl, w.before A s = true) : Xw s :=
  ⟨va_Nw.of rfl (h _ (List.mem_of_getElem? (i := 104) (by decide +kernel))), va_Nw.of rfl (h _ (List.mem_of_getElem? (i := 153) (by decide +kernel))), va_Nw.of rfl (h _ (List.mem_of_getElem? (i := 186) (by decide +kernel))), va_Nw.of rfl (h _ (List.mem_of_getElem? (i := 191) (by decide +kernel))), va_Nw.of rfl (h _ (List.mem_of_getElem? (i := 226) (by decide +kernel))), va_Nw.of rfl (h _ (List.mem_of_getElem? (i := 362) (by decide +kernel))), va_Nw.of rfl (h _ (List.mem_of_getElem? (i := 547) (by decide +kernel))), va_AO.of (A := A) (h _ (List.mem_of_getElem? (i := 94) (by decide +kernel))), va_AO.of (A := A) (h _ (List.mem_of_getElem? (i := 102) (by decide +kernel))), va_AO.of (A := A) (h _ (List.mem_of_getElem? (i := 224) (by decide +kernel)))⟩
