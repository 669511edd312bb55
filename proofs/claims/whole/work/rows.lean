section
-- ===== PART A: goes FIRST, ahead of the names: the tables' words, and 'selects' of the private methods out of them =====
/-- a private method of a class that the tables say can be made, by its rows of tables_1 -/
def lw_okq (q : MethodName × Nat) : Prop := (q.1.cls ≠ "java/lang/invoke/MethodHandle" ∧ q.1.cls ≠ "java/lang/invoke/VarHandle") ∧ Cond.instantiable q.1.cls q.2 ∈ tables_1 ∧ Cond.privateMethod q.1 ∈ tables_1 ∧ Cond.instanceMethod q.1 ∈ tables_1
theorem lw_p0 : lw_okq (⟨"TriangularSystems", "eliminateEquations", "()V"⟩, 5) := ⟨⟨by decide +kernel, by decide +kernel⟩, List.mem_of_getElem? (i := 13) (by decide +kernel), List.mem_of_getElem? (i := 99) (by decide +kernel), List.mem_of_getElem? (i := 100) (by decide +kernel)⟩
theorem lw_p1 : lw_okq (⟨"TriangularSystems$Elimination", "begin", "(II)V"⟩, 5) := ⟨⟨by decide +kernel, by decide +kernel⟩, List.mem_of_getElem? (i := 29) (by decide +kernel), List.mem_of_getElem? (i := 103) (by decide +kernel), List.mem_of_getElem? (i := 104) (by decide +kernel)⟩
theorem lw_p2 : lw_okq (⟨"TriangularSystems$Elimination", "eliminate", "()V"⟩, 5) := ⟨⟨by decide +kernel, by decide +kernel⟩, List.mem_of_getElem? (i := 29) (by decide +kernel), List.mem_of_getElem? (i := 109) (by decide +kernel), List.mem_of_getElem? (i := 110) (by decide +kernel)⟩
theorem lw_p3 : lw_okq (⟨"TriangularSystems$Elimination", "firstRowWith", "(I)I"⟩, 5) := ⟨⟨by decide +kernel, by decide +kernel⟩, List.mem_of_getElem? (i := 29) (by decide +kernel), List.mem_of_getElem? (i := 113) (by decide +kernel), List.mem_of_getElem? (i := 114) (by decide +kernel)⟩
theorem lw_p4 : lw_okq (⟨"TriangularSystems$Elimination", "exchange", "(II)V"⟩, 5) := ⟨⟨by decide +kernel, by decide +kernel⟩, List.mem_of_getElem? (i := 29) (by decide +kernel), List.mem_of_getElem? (i := 117) (by decide +kernel), List.mem_of_getElem? (i := 118) (by decide +kernel)⟩
theorem lw_p5 : lw_okq (⟨"TriangularSystems$Elimination", "makeAboveZero", "(II)V"⟩, 5) := ⟨⟨by decide +kernel, by decide +kernel⟩, List.mem_of_getElem? (i := 29) (by decide +kernel), List.mem_of_getElem? (i := 121) (by decide +kernel), List.mem_of_getElem? (i := 122) (by decide +kernel)⟩
theorem lw_p6 : lw_okq (⟨"TriangularSystems$Elimination", "clearColumn", "(II)V"⟩, 5) := ⟨⟨by decide +kernel, by decide +kernel⟩, List.mem_of_getElem? (i := 29) (by decide +kernel), List.mem_of_getElem? (i := 125) (by decide +kernel), List.mem_of_getElem? (i := 126) (by decide +kernel)⟩
theorem lw_p7 : lw_okq (⟨"TriangularSystems$Elimination", "divideByShared", "(I)V"⟩, 5) := ⟨⟨by decide +kernel, by decide +kernel⟩, List.mem_of_getElem? (i := 29) (by decide +kernel), List.mem_of_getElem? (i := 129) (by decide +kernel), List.mem_of_getElem? (i := 130) (by decide +kernel)⟩
theorem lw_p8 : lw_okq (⟨"TriangularSystems$Elimination", "agrees", "()Z"⟩, 5) := ⟨⟨by decide +kernel, by decide +kernel⟩, List.mem_of_getElem? (i := 29) (by decide +kernel), List.mem_of_getElem? (i := 143) (by decide +kernel), List.mem_of_getElem? (i := 144) (by decide +kernel)⟩
theorem lw_p9 : lw_okq (⟨"TriangularSystems$Elimination", "freeUnknown", "(I)I"⟩, 5) := ⟨⟨by decide +kernel, by decide +kernel⟩, List.mem_of_getElem? (i := 29) (by decide +kernel), List.mem_of_getElem? (i := 151) (by decide +kernel), List.mem_of_getElem? (i := 152) (by decide +kernel)⟩
theorem lw_p10 : lw_okq (⟨"TriangularSystems$Elimination", "rowDeciding", "(I)I"⟩, 5) := ⟨⟨by decide +kernel, by decide +kernel⟩, List.mem_of_getElem? (i := 29) (by decide +kernel), List.mem_of_getElem? (i := 155) (by decide +kernel), List.mem_of_getElem? (i := 156) (by decide +kernel)⟩
theorem lw_p11 : lw_okq (⟨"TriangularSystems", "spanLattice", "()V"⟩, 5) := ⟨⟨by decide +kernel, by decide +kernel⟩, List.mem_of_getElem? (i := 13) (by decide +kernel), List.mem_of_getElem? (i := 163) (by decide +kernel), List.mem_of_getElem? (i := 164) (by decide +kernel)⟩
theorem lw_p12 : lw_okq (⟨"TriangularSystems$Lattice", "begin", "(I)V"⟩, 4) := ⟨⟨by decide +kernel, by decide +kernel⟩, List.mem_of_getElem? (i := 57) (by decide +kernel), List.mem_of_getElem? (i := 167) (by decide +kernel), List.mem_of_getElem? (i := 168) (by decide +kernel)⟩
theorem lw_p13 : lw_okq (⟨"TriangularSystems$Lattice", "span", "()V"⟩, 4) := ⟨⟨by decide +kernel, by decide +kernel⟩, List.mem_of_getElem? (i := 57) (by decide +kernel), List.mem_of_getElem? (i := 173) (by decide +kernel), List.mem_of_getElem? (i := 174) (by decide +kernel)⟩
theorem lw_p14 : lw_okq (⟨"TriangularSystems$Lattice", "gather", "(II)V"⟩, 4) := ⟨⟨by decide +kernel, by decide +kernel⟩, List.mem_of_getElem? (i := 57) (by decide +kernel), List.mem_of_getElem? (i := 177) (by decide +kernel), List.mem_of_getElem? (i := 178) (by decide +kernel)⟩
theorem lw_p15 : lw_okq (⟨"TriangularSystems$Lattice", "lessen", "([JI)V"⟩, 4) := ⟨⟨by decide +kernel, by decide +kernel⟩, List.mem_of_getElem? (i := 57) (by decide +kernel), List.mem_of_getElem? (i := 193) (by decide +kernel), List.mem_of_getElem? (i := 194) (by decide +kernel)⟩
def lw_privs_1 : List (MethodName × Nat) := [(⟨"TriangularSystems", "eliminateEquations", "()V"⟩, 5), (⟨"TriangularSystems$Elimination", "begin", "(II)V"⟩, 5), (⟨"TriangularSystems$Elimination", "eliminate", "()V"⟩, 5), (⟨"TriangularSystems$Elimination", "firstRowWith", "(I)I"⟩, 5), (⟨"TriangularSystems$Elimination", "exchange", "(II)V"⟩, 5), (⟨"TriangularSystems$Elimination", "makeAboveZero", "(II)V"⟩, 5), (⟨"TriangularSystems$Elimination", "clearColumn", "(II)V"⟩, 5), (⟨"TriangularSystems$Elimination", "divideByShared", "(I)V"⟩, 5), (⟨"TriangularSystems$Elimination", "agrees", "()Z"⟩, 5), (⟨"TriangularSystems$Elimination", "freeUnknown", "(I)I"⟩, 5), (⟨"TriangularSystems$Elimination", "rowDeciding", "(I)I"⟩, 5), (⟨"TriangularSystems", "spanLattice", "()V"⟩, 5), (⟨"TriangularSystems$Lattice", "begin", "(I)V"⟩, 4), (⟨"TriangularSystems$Lattice", "span", "()V"⟩, 4), (⟨"TriangularSystems$Lattice", "gather", "(II)V"⟩, 4), (⟨"TriangularSystems$Lattice", "lessen", "([JI)V"⟩, 4)]
theorem lw_r1 : ∀ q ∈ lw_privs_1, lw_okq q := List.forall_mem_cons.mpr ⟨lw_p0, List.forall_mem_cons.mpr ⟨lw_p1, List.forall_mem_cons.mpr ⟨lw_p2, List.forall_mem_cons.mpr ⟨lw_p3, List.forall_mem_cons.mpr ⟨lw_p4, List.forall_mem_cons.mpr ⟨lw_p5, List.forall_mem_cons.mpr ⟨lw_p6, List.forall_mem_cons.mpr ⟨lw_p7, List.forall_mem_cons.mpr ⟨lw_p8, List.forall_mem_cons.mpr ⟨lw_p9, List.forall_mem_cons.mpr ⟨lw_p10, List.forall_mem_cons.mpr ⟨lw_p11, List.forall_mem_cons.mpr ⟨lw_p12, List.forall_mem_cons.mpr ⟨lw_p13, List.forall_mem_cons.mpr ⟨lw_p14, List.forall_mem_cons.mpr ⟨lw_p15, fun _ h => absurd h List.not_mem_nil⟩⟩⟩⟩⟩⟩⟩⟩⟩⟩⟩⟩⟩⟩⟩⟩
theorem lw_p16 : lw_okq (⟨"TriangularSystems$Lattice", "isReached", "()Z"⟩, 4) := ⟨⟨by decide +kernel, by decide +kernel⟩, List.mem_of_getElem? (i := 57) (by decide +kernel), List.mem_of_getElem? (i := 200) (by decide +kernel), List.mem_of_getElem? (i := 201) (by decide +kernel)⟩
theorem lw_p17 : lw_okq (⟨"TriangularSystems", "excess", "(IJJJ)J"⟩, 5) := ⟨⟨by decide +kernel, by decide +kernel⟩, List.mem_of_getElem? (i := 13) (by decide +kernel), List.mem_of_getElem? (i := 208) (by decide +kernel), List.mem_of_getElem? (i := 209) (by decide +kernel)⟩
theorem lw_p18 : lw_okq (⟨"java/lang/Throwable", "fillInStackTrace", "(I)Ljava/lang/Throwable;"⟩, 6) := ⟨⟨by decide +kernel, by decide +kernel⟩, List.mem_of_getElem? (i := 269) (by decide +kernel), List.mem_of_getElem? (i := 267) (by decide +kernel), List.mem_of_getElem? (i := 268) (by decide +kernel)⟩
theorem lw_p19 : lw_okq (⟨"TriangularSystems", "isPlace", "(II)Z"⟩, 5) := ⟨⟨by decide +kernel, by decide +kernel⟩, List.mem_of_getElem? (i := 13) (by decide +kernel), List.mem_of_getElem? (i := 308) (by decide +kernel), List.mem_of_getElem? (i := 309) (by decide +kernel)⟩
theorem lw_p20 : lw_okq (⟨"TriangularSystems", "isUnknown", "(I)Z"⟩, 5) := ⟨⟨by decide +kernel, by decide +kernel⟩, List.mem_of_getElem? (i := 13) (by decide +kernel), List.mem_of_getElem? (i := 358) (by decide +kernel), List.mem_of_getElem? (i := 359) (by decide +kernel)⟩
theorem lw_p21 : lw_okq (⟨"TriangularSystems$Elimination", "plainPart", "(II)J"⟩, 5) := ⟨⟨by decide +kernel, by decide +kernel⟩, List.mem_of_getElem? (i := 29) (by decide +kernel), List.mem_of_getElem? (i := 368) (by decide +kernel), List.mem_of_getElem? (i := 369) (by decide +kernel)⟩
theorem lw_p22 : lw_okq (⟨"TriangularSystems$Elimination", "directionPart", "(III)J"⟩, 5) := ⟨⟨by decide +kernel, by decide +kernel⟩, List.mem_of_getElem? (i := 29) (by decide +kernel), List.mem_of_getElem? (i := 384) (by decide +kernel), List.mem_of_getElem? (i := 385) (by decide +kernel)⟩
theorem lw_p23 : lw_okq (⟨"TriangularSystems$Lattice", "members", "()I"⟩, 4) := ⟨⟨by decide +kernel, by decide +kernel⟩, List.mem_of_getElem? (i := 57) (by decide +kernel), List.mem_of_getElem? (i := 395) (by decide +kernel), List.mem_of_getElem? (i := 396) (by decide +kernel)⟩
theorem lw_p24 : lw_okq (⟨"TriangularSystems$Lattice", "member", "(II)J"⟩, 4) := ⟨⟨by decide +kernel, by decide +kernel⟩, List.mem_of_getElem? (i := 57) (by decide +kernel), List.mem_of_getElem? (i := 400) (by decide +kernel), List.mem_of_getElem? (i := 401) (by decide +kernel)⟩
theorem lw_p25 : lw_okq (⟨"TriangularSystems", "eliminateNearest", "()V"⟩, 5) := ⟨⟨by decide +kernel, by decide +kernel⟩, List.mem_of_getElem? (i := 13) (by decide +kernel), List.mem_of_getElem? (i := 420) (by decide +kernel), List.mem_of_getElem? (i := 421) (by decide +kernel)⟩
theorem lw_p26 : lw_okq (⟨"TriangularSystems", "columnProduct", "(II)J"⟩, 5) := ⟨⟨by decide +kernel, by decide +kernel⟩, List.mem_of_getElem? (i := 13) (by decide +kernel), List.mem_of_getElem? (i := 424) (by decide +kernel), List.mem_of_getElem? (i := 425) (by decide +kernel)⟩
theorem lw_p27 : lw_okq (⟨"TriangularSystems", "fittingFirsts", "(III)I"⟩, 5) := ⟨⟨by decide +kernel, by decide +kernel⟩, List.mem_of_getElem? (i := 13) (by decide +kernel), List.mem_of_getElem? (i := 443) (by decide +kernel), List.mem_of_getElem? (i := 444) (by decide +kernel)⟩
theorem lw_p28 : lw_okq (⟨"TriangularSystemsModel", "isPlace", "(II)Z"⟩, 23) := ⟨⟨by decide +kernel, by decide +kernel⟩, List.mem_of_getElem? (i := 447) (by decide +kernel), List.mem_of_getElem? (i := 536) (by decide +kernel), List.mem_of_getElem? (i := 537) (by decide +kernel)⟩
theorem lw_p29 : lw_okq (⟨"TriangularSystemsModel", "place", "(II)I"⟩, 23) := ⟨⟨by decide +kernel, by decide +kernel⟩, List.mem_of_getElem? (i := 447) (by decide +kernel), List.mem_of_getElem? (i := 545) (by decide +kernel), List.mem_of_getElem? (i := 546) (by decide +kernel)⟩
theorem lw_p30 : lw_okq (⟨"TriangularSystemsModel", "look", "()V"⟩, 23) := ⟨⟨by decide +kernel, by decide +kernel⟩, List.mem_of_getElem? (i := 447) (by decide +kernel), List.mem_of_getElem? (i := 565) (by decide +kernel), List.mem_of_getElem? (i := 566) (by decide +kernel)⟩
theorem lw_p31 : lw_okq (⟨"TriangularSystemsModel", "stands", "(I)Z"⟩, 23) := ⟨⟨by decide +kernel, by decide +kernel⟩, List.mem_of_getElem? (i := 447) (by decide +kernel), List.mem_of_getElem? (i := 569) (by decide +kernel), List.mem_of_getElem? (i := 570) (by decide +kernel)⟩
def lw_privs_2 : List (MethodName × Nat) := [(⟨"TriangularSystems$Lattice", "isReached", "()Z"⟩, 4), (⟨"TriangularSystems", "excess", "(IJJJ)J"⟩, 5), (⟨"java/lang/Throwable", "fillInStackTrace", "(I)Ljava/lang/Throwable;"⟩, 6), (⟨"TriangularSystems", "isPlace", "(II)Z"⟩, 5), (⟨"TriangularSystems", "isUnknown", "(I)Z"⟩, 5), (⟨"TriangularSystems$Elimination", "plainPart", "(II)J"⟩, 5), (⟨"TriangularSystems$Elimination", "directionPart", "(III)J"⟩, 5), (⟨"TriangularSystems$Lattice", "members", "()I"⟩, 4), (⟨"TriangularSystems$Lattice", "member", "(II)J"⟩, 4), (⟨"TriangularSystems", "eliminateNearest", "()V"⟩, 5), (⟨"TriangularSystems", "columnProduct", "(II)J"⟩, 5), (⟨"TriangularSystems", "fittingFirsts", "(III)I"⟩, 5), (⟨"TriangularSystemsModel", "isPlace", "(II)Z"⟩, 23), (⟨"TriangularSystemsModel", "place", "(II)I"⟩, 23), (⟨"TriangularSystemsModel", "look", "()V"⟩, 23), (⟨"TriangularSystemsModel", "stands", "(I)Z"⟩, 23)]
theorem lw_r2 : ∀ q ∈ lw_privs_2, lw_okq q := List.forall_mem_cons.mpr ⟨lw_p16, List.forall_mem_cons.mpr ⟨lw_p17, List.forall_mem_cons.mpr ⟨lw_p18, List.forall_mem_cons.mpr ⟨lw_p19, List.forall_mem_cons.mpr ⟨lw_p20, List.forall_mem_cons.mpr ⟨lw_p21, List.forall_mem_cons.mpr ⟨lw_p22, List.forall_mem_cons.mpr ⟨lw_p23, List.forall_mem_cons.mpr ⟨lw_p24, List.forall_mem_cons.mpr ⟨lw_p25, List.forall_mem_cons.mpr ⟨lw_p26, List.forall_mem_cons.mpr ⟨lw_p27, List.forall_mem_cons.mpr ⟨lw_p28, List.forall_mem_cons.mpr ⟨lw_p29, List.forall_mem_cons.mpr ⟨lw_p30, List.forall_mem_cons.mpr ⟨lw_p31, fun _ h => absurd h List.not_mem_nil⟩⟩⟩⟩⟩⟩⟩⟩⟩⟩⟩⟩⟩⟩⟩⟩
theorem lw_p32 : lw_okq (⟨"TriangularSystemsModel", "determinant", "(I)J"⟩, 23) := ⟨⟨by decide +kernel, by decide +kernel⟩, List.mem_of_getElem? (i := 447) (by decide +kernel), List.mem_of_getElem? (i := 573) (by decide +kernel), List.mem_of_getElem? (i := 574) (by decide +kernel)⟩
theorem lw_p33 : lw_okq (⟨"TriangularSystemsModel", "findPlain", "()Z"⟩, 23) := ⟨⟨by decide +kernel, by decide +kernel⟩, List.mem_of_getElem? (i := 447) (by decide +kernel), List.mem_of_getElem? (i := 581) (by decide +kernel), List.mem_of_getElem? (i := 582) (by decide +kernel)⟩
theorem lw_p34 : lw_okq (⟨"TriangularSystemsModel", "solve", "()V"⟩, 23) := ⟨⟨by decide +kernel, by decide +kernel⟩, List.mem_of_getElem? (i := 447) (by decide +kernel), List.mem_of_getElem? (i := 585) (by decide +kernel), List.mem_of_getElem? (i := 586) (by decide +kernel)⟩
theorem lw_p35 : lw_okq (⟨"TriangularSystemsModel", "solveSquare", "(I)V"⟩, 23) := ⟨⟨by decide +kernel, by decide +kernel⟩, List.mem_of_getElem? (i := 447) (by decide +kernel), List.mem_of_getElem? (i := 589) (by decide +kernel), List.mem_of_getElem? (i := 590) (by decide +kernel)⟩
theorem lw_p36 : lw_okq (⟨"TriangularSystemsModel", "freeAt", "(I)I"⟩, 23) := ⟨⟨by decide +kernel, by decide +kernel⟩, List.mem_of_getElem? (i := 447) (by decide +kernel), List.mem_of_getElem? (i := 597) (by decide +kernel), List.mem_of_getElem? (i := 598) (by decide +kernel)⟩
theorem lw_p37 : lw_okq (⟨"TriangularSystemsModel", "isUnknown", "(I)Z"⟩, 23) := ⟨⟨by decide +kernel, by decide +kernel⟩, List.mem_of_getElem? (i := 447) (by decide +kernel), List.mem_of_getElem? (i := 605) (by decide +kernel), List.mem_of_getElem? (i := 606) (by decide +kernel)⟩
theorem lw_p38 : lw_okq (⟨"TriangularSystemsModel", "raise", "(I)I"⟩, 23) := ⟨⟨by decide +kernel, by decide +kernel⟩, List.mem_of_getElem? (i := 447) (by decide +kernel), List.mem_of_getElem? (i := 609) (by decide +kernel), List.mem_of_getElem? (i := 610) (by decide +kernel)⟩
theorem lw_p39 : lw_okq (⟨"TriangularSystemsModel", "takeAnswer", "(I)V"⟩, 23) := ⟨⟨by decide +kernel, by decide +kernel⟩, List.mem_of_getElem? (i := 447) (by decide +kernel), List.mem_of_getElem? (i := 613) (by decide +kernel), List.mem_of_getElem? (i := 614) (by decide +kernel)⟩
theorem lw_p40 : lw_okq (⟨"TriangularSystemsModel", "lowest", "(JJ)V"⟩, 23) := ⟨⟨by decide +kernel, by decide +kernel⟩, List.mem_of_getElem? (i := 447) (by decide +kernel), List.mem_of_getElem? (i := 617) (by decide +kernel), List.mem_of_getElem? (i := 618) (by decide +kernel)⟩
theorem lw_p41 : lw_okq (⟨"TriangularSystemsModel", "told", "(I)J"⟩, 23) := ⟨⟨by decide +kernel, by decide +kernel⟩, List.mem_of_getElem? (i := 447) (by decide +kernel), List.mem_of_getElem? (i := 624) (by decide +kernel), List.mem_of_getElem? (i := 625) (by decide +kernel)⟩
theorem lw_p42 : lw_okq (⟨"TriangularSystemsModel", "findBase", "()V"⟩, 23) := ⟨⟨by decide +kernel, by decide +kernel⟩, List.mem_of_getElem? (i := 447) (by decide +kernel), List.mem_of_getElem? (i := 636) (by decide +kernel), List.mem_of_getElem? (i := 637) (by decide +kernel)⟩
theorem lw_p43 : lw_okq (⟨"TriangularSystemsModel", "member", "(JJJ)V"⟩, 23) := ⟨⟨by decide +kernel, by decide +kernel⟩, List.mem_of_getElem? (i := 447) (by decide +kernel), List.mem_of_getElem? (i := 640) (by decide +kernel), List.mem_of_getElem? (i := 641) (by decide +kernel)⟩
theorem lw_p44 : lw_okq (⟨"TriangularSystemsModel", "number", "(II)J"⟩, 23) := ⟨⟨by decide +kernel, by decide +kernel⟩, List.mem_of_getElem? (i := 447) (by decide +kernel), List.mem_of_getElem? (i := 644) (by decide +kernel), List.mem_of_getElem? (i := 645) (by decide +kernel)⟩
theorem lw_p45 : lw_okq (⟨"TriangularSystemsModel", "lineOf", "(JJJ)V"⟩, 23) := ⟨⟨by decide +kernel, by decide +kernel⟩, List.mem_of_getElem? (i := 447) (by decide +kernel), List.mem_of_getElem? (i := 648) (by decide +kernel), List.mem_of_getElem? (i := 649) (by decide +kernel)⟩
theorem lw_p46 : lw_okq (⟨"TriangularSystemsModel", "planeOf", "(JJJ)V"⟩, 23) := ⟨⟨by decide +kernel, by decide +kernel⟩, List.mem_of_getElem? (i := 447) (by decide +kernel), List.mem_of_getElem? (i := 652) (by decide +kernel), List.mem_of_getElem? (i := 653) (by decide +kernel)⟩
theorem lw_p47 : lw_okq (⟨"TriangularSystemsModel", "findWhole", "()Z"⟩, 23) := ⟨⟨by decide +kernel, by decide +kernel⟩, List.mem_of_getElem? (i := 447) (by decide +kernel), List.mem_of_getElem? (i := 660) (by decide +kernel), List.mem_of_getElem? (i := 661) (by decide +kernel)⟩
def lw_privs_3 : List (MethodName × Nat) := [(⟨"TriangularSystemsModel", "determinant", "(I)J"⟩, 23), (⟨"TriangularSystemsModel", "findPlain", "()Z"⟩, 23), (⟨"TriangularSystemsModel", "solve", "()V"⟩, 23), (⟨"TriangularSystemsModel", "solveSquare", "(I)V"⟩, 23), (⟨"TriangularSystemsModel", "freeAt", "(I)I"⟩, 23), (⟨"TriangularSystemsModel", "isUnknown", "(I)Z"⟩, 23), (⟨"TriangularSystemsModel", "raise", "(I)I"⟩, 23), (⟨"TriangularSystemsModel", "takeAnswer", "(I)V"⟩, 23), (⟨"TriangularSystemsModel", "lowest", "(JJ)V"⟩, 23), (⟨"TriangularSystemsModel", "told", "(I)J"⟩, 23), (⟨"TriangularSystemsModel", "findBase", "()V"⟩, 23), (⟨"TriangularSystemsModel", "member", "(JJJ)V"⟩, 23), (⟨"TriangularSystemsModel", "number", "(II)J"⟩, 23), (⟨"TriangularSystemsModel", "lineOf", "(JJJ)V"⟩, 23), (⟨"TriangularSystemsModel", "planeOf", "(JJJ)V"⟩, 23), (⟨"TriangularSystemsModel", "findWhole", "()Z"⟩, 23)]
theorem lw_r3 : ∀ q ∈ lw_privs_3, lw_okq q := List.forall_mem_cons.mpr ⟨lw_p32, List.forall_mem_cons.mpr ⟨lw_p33, List.forall_mem_cons.mpr ⟨lw_p34, List.forall_mem_cons.mpr ⟨lw_p35, List.forall_mem_cons.mpr ⟨lw_p36, List.forall_mem_cons.mpr ⟨lw_p37, List.forall_mem_cons.mpr ⟨lw_p38, List.forall_mem_cons.mpr ⟨lw_p39, List.forall_mem_cons.mpr ⟨lw_p40, List.forall_mem_cons.mpr ⟨lw_p41, List.forall_mem_cons.mpr ⟨lw_p42, List.forall_mem_cons.mpr ⟨lw_p43, List.forall_mem_cons.mpr ⟨lw_p44, List.forall_mem_cons.mpr ⟨lw_p45, List.forall_mem_cons.mpr ⟨lw_p46, List.forall_mem_cons.mpr ⟨lw_p47, fun _ h => absurd h List.not_mem_nil⟩⟩⟩⟩⟩⟩⟩⟩⟩⟩⟩⟩⟩⟩⟩⟩
theorem lw_p48 : lw_okq (⟨"TriangularSystemsModel", "fits", "(JJJ)Z"⟩, 23) := ⟨⟨by decide +kernel, by decide +kernel⟩, List.mem_of_getElem? (i := 447) (by decide +kernel), List.mem_of_getElem? (i := 664) (by decide +kernel), List.mem_of_getElem? (i := 665) (by decide +kernel)⟩
theorem lw_p49 : lw_okq (⟨"TriangularSystemsModel", "findNearest", "()V"⟩, 23) := ⟨⟨by decide +kernel, by decide +kernel⟩, List.mem_of_getElem? (i := 447) (by decide +kernel), List.mem_of_getElem? (i := 676) (by decide +kernel), List.mem_of_getElem? (i := 677) (by decide +kernel)⟩
theorem lw_p50 : lw_okq (⟨"TriangularSystemsModel", "products", "(II)J"⟩, 23) := ⟨⟨by decide +kernel, by decide +kernel⟩, List.mem_of_getElem? (i := 447) (by decide +kernel), List.mem_of_getElem? (i := 680) (by decide +kernel), List.mem_of_getElem? (i := 681) (by decide +kernel)⟩
theorem lw_p51 : lw_okq (⟨"TriangularSystemsModel", "isSolution", "(JJJ)Z"⟩, 23) := ⟨⟨by decide +kernel, by decide +kernel⟩, List.mem_of_getElem? (i := 447) (by decide +kernel), List.mem_of_getElem? (i := 693) (by decide +kernel), List.mem_of_getElem? (i := 694) (by decide +kernel)⟩
def lw_privs_4 : List (MethodName × Nat) := [(⟨"TriangularSystemsModel", "fits", "(JJJ)Z"⟩, 23), (⟨"TriangularSystemsModel", "findNearest", "()V"⟩, 23), (⟨"TriangularSystemsModel", "products", "(II)J"⟩, 23), (⟨"TriangularSystemsModel", "isSolution", "(JJJ)Z"⟩, 23)]
theorem lw_r4 : ∀ q ∈ lw_privs_4, lw_okq q := List.forall_mem_cons.mpr ⟨lw_p48, List.forall_mem_cons.mpr ⟨lw_p49, List.forall_mem_cons.mpr ⟨lw_p50, List.forall_mem_cons.mpr ⟨lw_p51, fun _ h => absurd h List.not_mem_nil⟩⟩⟩⟩
def lw_privs : List (MethodName × Nat) := lw_privs_1 ++ (lw_privs_2 ++ (lw_privs_3 ++ (lw_privs_4)))
def lw_tbl : List Cond := k2_sels lw_privs ++ tables_1
theorem lw_privs_ok : ∀ q ∈ lw_privs, lw_okq q := by
  show ∀ q ∈ lw_privs_1 ++ (lw_privs_2 ++ (lw_privs_3 ++ (lw_privs_4))), lw_okq q
  exact List.forall_mem_append.mpr ⟨lw_r1, List.forall_mem_append.mpr ⟨lw_r2, List.forall_mem_append.mpr ⟨lw_r3, lw_r4⟩⟩⟩
-- ===== end of PART A; then your names; then what follows =====
end
section
/-! Names (by wip/gen/names.py out of JAVAP.txt and the table words): classes, fields, methods, words by their places. -/
abbrev RX0 : String := "TriangularSystems$Elimination"
abbrev RX1 : String := "TriangularSystems$Lattice"
abbrev RX2 : String := "TriangularSystems"
abbrev RX3 : String := "TriangularSystemsModel"
abbrev RL : String := "TriangularSystemsLaw"
abbrev RJ9 : String := "java/lang/Math"
def TX0 : u_T := fun k => match k with
  | 0 => ("TriangularSystems$Elimination", "rows", "[[J", true)
  | 1 => ("TriangularSystems$Elimination", "decides", "[I", true)
  | 2 => ("TriangularSystems$Elimination", "width", "I", false)
  | 3 => ("TriangularSystems$Elimination", "height", "I", false)
  | _ => ("TriangularSystems$Elimination", "decided", "I", false)
def tyX0 : Nat → FieldType := fun k => match k with
  | 0 => .array (.array .long)
  | 1 => .array .int
  | 2 => .int
  | 3 => .int
  | _ => .int
theorem nmX0 : ∀ a, a < 5 → ∀ b, b < 5 → a ≠ b → (TX0 a).2.1 ≠ (TX0 b).2.1 := by decide +kernel
theorem tyX0_ok : ∀ k, k < 5 → parseFieldDescriptor (TX0 k).2.2.1 = some (tyX0 k) := by decide +kernel
def TX1 : u_T := fun k => match k with
  | 0 => ("TriangularSystems$Lattice", "rows", "[[J", true)
  | 1 => ("TriangularSystems$Lattice", "beginnings", "[I", true)
  | 2 => ("TriangularSystems$Lattice", "target", "[J", true)
  | _ => ("TriangularSystems$Lattice", "height", "I", false)
def tyX1 : Nat → FieldType := fun k => match k with
  | 0 => .array (.array .long)
  | 1 => .array .int
  | 2 => .array .long
  | _ => .int
theorem nmX1 : ∀ a, a < 4 → ∀ b, b < 4 → a ≠ b → (TX1 a).2.1 ≠ (TX1 b).2.1 := by decide +kernel
theorem tyX1_ok : ∀ k, k < 4 → parseFieldDescriptor (TX1 k).2.2.1 = some (tyX1 k) := by decide +kernel
def TX2 : u_T := fun k => match k with
  | 0 => ("TriangularSystems", "unknowns", "I", true)
  | 1 => ("TriangularSystems", "numbers", "[[I", true)
  | 2 => ("TriangularSystems", "elimination", "LTriangularSystems$Elimination;", true)
  | 3 => ("TriangularSystems", "lattice", "LTriangularSystems$Lattice;", true)
  | _ => ("TriangularSystems", "equations", "I", false)
def tyX2 : Nat → FieldType := fun k => match k with
  | 0 => .int
  | 1 => .array (.array .int)
  | 2 => .object "TriangularSystems$Elimination"
  | 3 => .object "TriangularSystems$Lattice"
  | _ => .int
theorem nmX2 : ∀ a, a < 5 → ∀ b, b < 5 → a ≠ b → (TX2 a).2.1 ≠ (TX2 b).2.1 := by decide +kernel
theorem tyX2_ok : ∀ k, k < 5 → parseFieldDescriptor (TX2 k).2.2.1 = some (tyX2 k) := by decide +kernel
def TX3 : u_T := fun k => match k with
  | 0 => ("TriangularSystemsModel", "code", "I", false)
  | 1 => ("TriangularSystemsModel", "n", "I", true)
  | 2 => ("TriangularSystemsModel", "m", "I", false)
  | 3 => ("TriangularSystemsModel", "cells", "[I", true)
  | 4 => ("TriangularSystemsModel", "rank", "I", false)
  | 5 => ("TriangularSystemsModel", "columns", "[I", true)
  | 6 => ("TriangularSystemsModel", "lines", "[I", true)
  | 7 => ("TriangularSystemsModel", "isFree", "[Z", true)
  | 8 => ("TriangularSystemsModel", "square", "[J", true)
  | 9 => ("TriangularSystemsModel", "comes", "[J", true)
  | 10 => ("TriangularSystemsModel", "answer", "[J", true)
  | 11 => ("TriangularSystemsModel", "all", "J", false)
  | 12 => ("TriangularSystemsModel", "up", "J", false)
  | 13 => ("TriangularSystemsModel", "down", "J", false)
  | 14 => ("TriangularSystemsModel", "spare", "[J", true)
  | 15 => ("TriangularSystemsModel", "size", "I", false)
  | 16 => ("TriangularSystemsModel", "bases", "[J", true)
  | 17 => ("TriangularSystemsModel", "begins", "[I", true)
  | 18 => ("TriangularSystemsModel", "trial", "[J", true)
  | 19 => ("TriangularSystemsModel", "most", "[J", true)
  | 20 => ("TriangularSystemsModel", "near", "[J", true)
  | 21 => ("TriangularSystemsModel", "below", "J", false)
  | _ => ("TriangularSystemsModel", "turned", "[J", true)
def tyX3 : Nat → FieldType := fun k => match k with
  | 0 => .int
  | 1 => .int
  | 2 => .int
  | 3 => .array .int
  | 4 => .int
  | 5 => .array .int
  | 6 => .array .int
  | 7 => .array .boolean
  | 8 => .array .long
  | 9 => .array .long
  | 10 => .array .long
  | 11 => .long
  | 12 => .long
  | 13 => .long
  | 14 => .array .long
  | 15 => .int
  | 16 => .array .long
  | 17 => .array .int
  | 18 => .array .long
  | 19 => .array .long
  | 20 => .array .long
  | 21 => .long
  | _ => .array .long
theorem nmX3 : ∀ a, a < 23 → ∀ b, b < 23 → a ≠ b → (TX3 a).2.1 ≠ (TX3 b).2.1 := by decide +kernel
theorem tyX3_ok : ∀ k, k < 23 → parseFieldDescriptor (TX3 k).2.2.1 = some (tyX3 k) := by decide +kernel
/-- the classes whose objects the worlds hold -/
abbrev vc : List vw_C := [(RX0, TX0, 5), (RX1, TX1, 4), (RX2, TX2, 5), (RX3, TX3, 23)]
abbrev cX2_init : ByteArray := prog_1_method_1_code
abbrev yX2_init : MethodName := ⟨"TriangularSystems", "<init>", "(I)V"⟩
abbrev cX2_equation : ByteArray := prog_1_method_2_code
abbrev yX2_equation : MethodName := ⟨"TriangularSystems", "equation", "()I"⟩
abbrev cX2_put : ByteArray := prog_1_method_3_code
abbrev yX2_put : MethodName := ⟨"TriangularSystems", "put", "(III)Z"⟩
abbrev cX2_at : ByteArray := prog_1_method_4_code
abbrev yX2_at : MethodName := ⟨"TriangularSystems", "at", "(II)I"⟩
abbrev cX2_rank : ByteArray := prog_1_method_5_code
abbrev yX2_rank : MethodName := ⟨"TriangularSystems", "rank", "()I"⟩
abbrev cX2_solutions : ByteArray := prog_1_method_6_code
abbrev yX2_solutions : MethodName := ⟨"TriangularSystems", "solutions", "()I"⟩
abbrev cX2_free : ByteArray := prog_1_method_7_code
abbrev yX2_free : MethodName := ⟨"TriangularSystems", "free", "(I)I"⟩
abbrev cX2_plain : ByteArray := prog_1_method_8_code
abbrev yX2_plain : MethodName := ⟨"TriangularSystems", "plain", "(II)J"⟩
abbrev cX2_direction : ByteArray := prog_1_method_9_code
abbrev yX2_direction : MethodName := ⟨"TriangularSystems", "direction", "(III)J"⟩
abbrev cX2_whole : ByteArray := prog_1_method_10_code
abbrev yX2_whole : MethodName := ⟨"TriangularSystems", "whole", "()Z"⟩
abbrev cX2_base : ByteArray := prog_1_method_11_code
abbrev yX2_base : MethodName := ⟨"TriangularSystems", "base", "(II)J"⟩
abbrev cX2_least : ByteArray := prog_1_method_12_code
abbrev yX2_least : MethodName := ⟨"TriangularSystems", "least", "(I)J"⟩
abbrev cX2_nearest : ByteArray := prog_1_method_13_code
abbrev yX2_nearest : MethodName := ⟨"TriangularSystems", "nearest", "(II)J"⟩
abbrev cX2_squares : ByteArray := prog_1_method_14_code
abbrev yX2_squares : MethodName := ⟨"TriangularSystems", "squares", "(I)J"⟩
abbrev cX2_inBox : ByteArray := prog_1_method_15_code
abbrev yX2_inBox : MethodName := ⟨"TriangularSystems", "inBox", "(I)I"⟩
abbrev cX2_solves : ByteArray := prog_1_method_16_code
abbrev yX2_solves : MethodName := ⟨"TriangularSystems", "solves", "(III)Z"⟩
abbrev cX2_count : ByteArray := prog_1_method_17_code
abbrev yX2_count : MethodName := ⟨"TriangularSystems", "count", "(I)I"⟩
abbrev cX2_clear : ByteArray := prog_1_method_18_code
abbrev yX2_clear : MethodName := ⟨"TriangularSystems", "clear", "()V"⟩
abbrev cX2_isUnknown : ByteArray := prog_1_method_19_code
abbrev yX2_isUnknown : MethodName := ⟨"TriangularSystems", "isUnknown", "(I)Z"⟩
abbrev cX2_isPlace : ByteArray := prog_1_method_20_code
abbrev yX2_isPlace : MethodName := ⟨"TriangularSystems", "isPlace", "(II)Z"⟩
abbrev cX2_isPart : ByteArray := prog_1_method_21_code
abbrev yX2_isPart : MethodName := ⟨"TriangularSystems", "isPart", "(I)Z"⟩
abbrev cX2_excess : ByteArray := prog_1_method_22_code
abbrev yX2_excess : MethodName := ⟨"TriangularSystems", "excess", "(IJJJ)J"⟩
abbrev cX2_fittingFirsts : ByteArray := prog_1_method_23_code
abbrev yX2_fittingFirsts : MethodName := ⟨"TriangularSystems", "fittingFirsts", "(III)I"⟩
abbrev cX2_eliminateEquations : ByteArray := prog_1_method_24_code
abbrev yX2_eliminateEquations : MethodName := ⟨"TriangularSystems", "eliminateEquations", "()V"⟩
abbrev cX2_eliminateNearest : ByteArray := prog_1_method_25_code
abbrev yX2_eliminateNearest : MethodName := ⟨"TriangularSystems", "eliminateNearest", "()V"⟩
abbrev cX2_columnProduct : ByteArray := prog_1_method_26_code
abbrev yX2_columnProduct : MethodName := ⟨"TriangularSystems", "columnProduct", "(II)J"⟩
abbrev cX2_spanLattice : ByteArray := prog_1_method_27_code
abbrev yX2_spanLattice : MethodName := ⟨"TriangularSystems", "spanLattice", "()V"⟩
abbrev cX2_commonDivisor : ByteArray := prog_1_method_28_code
abbrev yX2_commonDivisor : MethodName := ⟨"TriangularSystems", "commonDivisor", "(JJ)J"⟩
abbrev cX2_lowestPart : ByteArray := prog_1_method_29_code
abbrev yX2_lowestPart : MethodName := ⟨"TriangularSystems", "lowestPart", "(JJI)J"⟩
abbrev cX3_init : ByteArray := prog_5_method_1_code
abbrev yX3_init : MethodName := ⟨"TriangularSystemsModel", "<init>", "(I)V"⟩
abbrev cX3_thrown : ByteArray := prog_5_method_2_code
abbrev yX3_thrown : MethodName := ⟨"TriangularSystemsModel", "thrown", "()I"⟩
abbrev cX3_raise : ByteArray := prog_5_method_3_code
abbrev yX3_raise : MethodName := ⟨"TriangularSystemsModel", "raise", "(I)I"⟩
abbrev cX3_in : ByteArray := prog_5_method_4_code
abbrev yX3_in : MethodName := ⟨"TriangularSystemsModel", "in", "(JJJ)Z"⟩
abbrev cX3_divisor : ByteArray := prog_5_method_5_code
abbrev yX3_divisor : MethodName := ⟨"TriangularSystemsModel", "divisor", "(JJ)J"⟩
abbrev cX3_lowest : ByteArray := prog_5_method_6_code
abbrev yX3_lowest : MethodName := ⟨"TriangularSystemsModel", "lowest", "(JJ)V"⟩
abbrev cX3_told : ByteArray := prog_5_method_7_code
abbrev yX3_told : MethodName := ⟨"TriangularSystemsModel", "told", "(I)J"⟩
abbrev cX3_equation : ByteArray := prog_5_method_8_code
abbrev yX3_equation : MethodName := ⟨"TriangularSystemsModel", "equation", "()I"⟩
abbrev cX3_isPlace : ByteArray := prog_5_method_9_code
abbrev yX3_isPlace : MethodName := ⟨"TriangularSystemsModel", "isPlace", "(II)Z"⟩
abbrev cX3_place : ByteArray := prog_5_method_10_code
abbrev yX3_place : MethodName := ⟨"TriangularSystemsModel", "place", "(II)I"⟩
abbrev cX3_put : ByteArray := prog_5_method_11_code
abbrev yX3_put : MethodName := ⟨"TriangularSystemsModel", "put", "(III)Z"⟩
abbrev cX3_at : ByteArray := prog_5_method_12_code
abbrev yX3_at : MethodName := ⟨"TriangularSystemsModel", "at", "(II)I"⟩
abbrev cX3_clear : ByteArray := prog_5_method_13_code
abbrev yX3_clear : MethodName := ⟨"TriangularSystemsModel", "clear", "()V"⟩
abbrev cX3_count : ByteArray := prog_5_method_14_code
abbrev yX3_count : MethodName := ⟨"TriangularSystemsModel", "count", "(I)I"⟩
abbrev cX3_determinant : ByteArray := prog_5_method_15_code
abbrev yX3_determinant : MethodName := ⟨"TriangularSystemsModel", "determinant", "(I)J"⟩
abbrev cX3_stands : ByteArray := prog_5_method_16_code
abbrev yX3_stands : MethodName := ⟨"TriangularSystemsModel", "stands", "(I)Z"⟩
abbrev cX3_look : ByteArray := prog_5_method_17_code
abbrev yX3_look : MethodName := ⟨"TriangularSystemsModel", "look", "()V"⟩
abbrev cX3_solve : ByteArray := prog_5_method_18_code
abbrev yX3_solve : MethodName := ⟨"TriangularSystemsModel", "solve", "()V"⟩
abbrev cX3_solveSquare : ByteArray := prog_5_method_19_code
abbrev yX3_solveSquare : MethodName := ⟨"TriangularSystemsModel", "solveSquare", "(I)V"⟩
abbrev cX3_rank : ByteArray := prog_5_method_20_code
abbrev yX3_rank : MethodName := ⟨"TriangularSystemsModel", "rank", "()I"⟩
abbrev cX3_findPlain : ByteArray := prog_5_method_21_code
abbrev yX3_findPlain : MethodName := ⟨"TriangularSystemsModel", "findPlain", "()Z"⟩
abbrev cX3_solutions : ByteArray := prog_5_method_22_code
abbrev yX3_solutions : MethodName := ⟨"TriangularSystemsModel", "solutions", "()I"⟩
abbrev cX3_freeAt : ByteArray := prog_5_method_23_code
abbrev yX3_freeAt : MethodName := ⟨"TriangularSystemsModel", "freeAt", "(I)I"⟩
abbrev cX3_free : ByteArray := prog_5_method_24_code
abbrev yX3_free : MethodName := ⟨"TriangularSystemsModel", "free", "(I)I"⟩
abbrev cX3_isUnknown : ByteArray := prog_5_method_25_code
abbrev yX3_isUnknown : MethodName := ⟨"TriangularSystemsModel", "isUnknown", "(I)Z"⟩
abbrev cX3_takeAnswer : ByteArray := prog_5_method_26_code
abbrev yX3_takeAnswer : MethodName := ⟨"TriangularSystemsModel", "takeAnswer", "(I)V"⟩
abbrev cX3_plain : ByteArray := prog_5_method_27_code
abbrev yX3_plain : MethodName := ⟨"TriangularSystemsModel", "plain", "(II)J"⟩
abbrev cX3_direction : ByteArray := prog_5_method_28_code
abbrev yX3_direction : MethodName := ⟨"TriangularSystemsModel", "direction", "(III)J"⟩
abbrev cX3_member : ByteArray := prog_5_method_29_code
abbrev yX3_member : MethodName := ⟨"TriangularSystemsModel", "member", "(JJJ)V"⟩
abbrev cX3_lineOf : ByteArray := prog_5_method_30_code
abbrev yX3_lineOf : MethodName := ⟨"TriangularSystemsModel", "lineOf", "(JJJ)V"⟩
abbrev cX3_planeOf : ByteArray := prog_5_method_31_code
abbrev yX3_planeOf : MethodName := ⟨"TriangularSystemsModel", "planeOf", "(JJJ)V"⟩
abbrev cX3_findBase : ByteArray := prog_5_method_32_code
abbrev yX3_findBase : MethodName := ⟨"TriangularSystemsModel", "findBase", "()V"⟩
abbrev cX3_number : ByteArray := prog_5_method_33_code
abbrev yX3_number : MethodName := ⟨"TriangularSystemsModel", "number", "(II)J"⟩
abbrev cX3_base : ByteArray := prog_5_method_34_code
abbrev yX3_base : MethodName := ⟨"TriangularSystemsModel", "base", "(II)J"⟩
abbrev cX3_findWhole : ByteArray := prog_5_method_35_code
abbrev yX3_findWhole : MethodName := ⟨"TriangularSystemsModel", "findWhole", "()Z"⟩
abbrev cX3_fits : ByteArray := prog_5_method_36_code
abbrev yX3_fits : MethodName := ⟨"TriangularSystemsModel", "fits", "(JJJ)Z"⟩
abbrev cX3_whole : ByteArray := prog_5_method_37_code
abbrev yX3_whole : MethodName := ⟨"TriangularSystemsModel", "whole", "()Z"⟩
abbrev cX3_least : ByteArray := prog_5_method_38_code
abbrev yX3_least : MethodName := ⟨"TriangularSystemsModel", "least", "(I)J"⟩
abbrev cX3_findNearest : ByteArray := prog_5_method_39_code
abbrev yX3_findNearest : MethodName := ⟨"TriangularSystemsModel", "findNearest", "()V"⟩
abbrev cX3_products : ByteArray := prog_5_method_40_code
abbrev yX3_products : MethodName := ⟨"TriangularSystemsModel", "products", "(II)J"⟩
abbrev cX3_nearest : ByteArray := prog_5_method_41_code
abbrev yX3_nearest : MethodName := ⟨"TriangularSystemsModel", "nearest", "(II)J"⟩
abbrev cX3_squares : ByteArray := prog_5_method_42_code
abbrev yX3_squares : MethodName := ⟨"TriangularSystemsModel", "squares", "(I)J"⟩
abbrev cX3_isSolution : ByteArray := prog_5_method_43_code
abbrev yX3_isSolution : MethodName := ⟨"TriangularSystemsModel", "isSolution", "(JJJ)Z"⟩
abbrev cX3_inBox : ByteArray := prog_5_method_44_code
abbrev yX3_inBox : MethodName := ⟨"TriangularSystemsModel", "inBox", "(I)I"⟩
abbrev cX3_solves : ByteArray := prog_5_method_45_code
abbrev yX3_solves : MethodName := ⟨"TriangularSystemsModel", "solves", "(III)Z"⟩
abbrev cX0_init : ByteArray := prog_2_method_1_code
abbrev yX0_init : MethodName := ⟨"TriangularSystems$Elimination", "<init>", "()V"⟩
abbrev cX0_begin : ByteArray := prog_2_method_2_code
abbrev yX0_begin : MethodName := ⟨"TriangularSystems$Elimination", "begin", "(II)V"⟩
abbrev cX0_eliminate : ByteArray := prog_2_method_3_code
abbrev yX0_eliminate : MethodName := ⟨"TriangularSystems$Elimination", "eliminate", "()V"⟩
abbrev cX0_firstRowWith : ByteArray := prog_2_method_4_code
abbrev yX0_firstRowWith : MethodName := ⟨"TriangularSystems$Elimination", "firstRowWith", "(I)I"⟩
abbrev cX0_exchange : ByteArray := prog_2_method_5_code
abbrev yX0_exchange : MethodName := ⟨"TriangularSystems$Elimination", "exchange", "(II)V"⟩
abbrev cX0_makeAboveZero : ByteArray := prog_2_method_6_code
abbrev yX0_makeAboveZero : MethodName := ⟨"TriangularSystems$Elimination", "makeAboveZero", "(II)V"⟩
abbrev cX0_clearColumn : ByteArray := prog_2_method_7_code
abbrev yX0_clearColumn : MethodName := ⟨"TriangularSystems$Elimination", "clearColumn", "(II)V"⟩
abbrev cX0_divideByShared : ByteArray := prog_2_method_8_code
abbrev yX0_divideByShared : MethodName := ⟨"TriangularSystems$Elimination", "divideByShared", "(I)V"⟩
abbrev cX0_agrees : ByteArray := prog_2_method_9_code
abbrev yX0_agrees : MethodName := ⟨"TriangularSystems$Elimination", "agrees", "()Z"⟩
abbrev cX0_rowDeciding : ByteArray := prog_2_method_10_code
abbrev yX0_rowDeciding : MethodName := ⟨"TriangularSystems$Elimination", "rowDeciding", "(I)I"⟩
abbrev cX0_freeUnknown : ByteArray := prog_2_method_11_code
abbrev yX0_freeUnknown : MethodName := ⟨"TriangularSystems$Elimination", "freeUnknown", "(I)I"⟩
abbrev cX0_plainPart : ByteArray := prog_2_method_12_code
abbrev yX0_plainPart : MethodName := ⟨"TriangularSystems$Elimination", "plainPart", "(II)J"⟩
abbrev cX0_directionPart : ByteArray := prog_2_method_13_code
abbrev yX0_directionPart : MethodName := ⟨"TriangularSystems$Elimination", "directionPart", "(III)J"⟩
abbrev cX1_init : ByteArray := prog_3_method_1_code
abbrev yX1_init : MethodName := ⟨"TriangularSystems$Lattice", "<init>", "()V"⟩
abbrev cX1_begin : ByteArray := prog_3_method_2_code
abbrev yX1_begin : MethodName := ⟨"TriangularSystems$Lattice", "begin", "(I)V"⟩
abbrev cX1_span : ByteArray := prog_3_method_3_code
abbrev yX1_span : MethodName := ⟨"TriangularSystems$Lattice", "span", "()V"⟩
abbrev cX1_gather : ByteArray := prog_3_method_4_code
abbrev yX1_gather : MethodName := ⟨"TriangularSystems$Lattice", "gather", "(II)V"⟩
abbrev cX1_negate : ByteArray := prog_3_method_5_code
abbrev yX1_negate : MethodName := ⟨"TriangularSystems$Lattice", "negate", "([J)V"⟩
abbrev cX1_divideInTurn : ByteArray := prog_3_method_6_code
abbrev yX1_divideInTurn : MethodName := ⟨"TriangularSystems$Lattice", "divideInTurn", "([J[JI)V"⟩
abbrev cX1_exchange : ByteArray := prog_3_method_7_code
abbrev yX1_exchange : MethodName := ⟨"TriangularSystems$Lattice", "exchange", "([J[J)V"⟩
abbrev cX1_subtract : ByteArray := prog_3_method_8_code
abbrev yX1_subtract : MethodName := ⟨"TriangularSystems$Lattice", "subtract", "([J[JJ)V"⟩
abbrev cX1_lessen : ByteArray := prog_3_method_9_code
abbrev yX1_lessen : MethodName := ⟨"TriangularSystems$Lattice", "lessen", "([JI)V"⟩
abbrev cX1_isReached : ByteArray := prog_3_method_10_code
abbrev yX1_isReached : MethodName := ⟨"TriangularSystems$Lattice", "isReached", "()Z"⟩
abbrev cX1_members : ByteArray := prog_3_method_11_code
abbrev yX1_members : MethodName := ⟨"TriangularSystems$Lattice", "members", "()I"⟩
abbrev cX1_member : ByteArray := prog_3_method_12_code
abbrev yX1_member : MethodName := ⟨"TriangularSystems$Lattice", "member", "(II)J"⟩
abbrev cL_cell : ByteArray := method_2_code
abbrev yL_cell : MethodName := ⟨"TriangularSystemsLaw", "cell", "([II)I"⟩
abbrev cL_equation : ByteArray := method_3_code
abbrev yL_equation : MethodName := ⟨"TriangularSystemsLaw", "equation", "(LTriangularSystems;[J)I"⟩
abbrev cL_put : ByteArray := method_4_code
abbrev yL_put : MethodName := ⟨"TriangularSystemsLaw", "put", "(LTriangularSystems;III[J)I"⟩
abbrev cL_at : ByteArray := method_5_code
abbrev yL_at : MethodName := ⟨"TriangularSystemsLaw", "at", "(LTriangularSystems;II[J)I"⟩
abbrev cL_plain : ByteArray := method_6_code
abbrev yL_plain : MethodName := ⟨"TriangularSystemsLaw", "plain", "(LTriangularSystems;II[J)I"⟩
abbrev cL_direction : ByteArray := method_7_code
abbrev yL_direction : MethodName := ⟨"TriangularSystemsLaw", "direction", "(LTriangularSystems;III[J)I"⟩
abbrev cL_base : ByteArray := method_8_code
abbrev yL_base : MethodName := ⟨"TriangularSystemsLaw", "base", "(LTriangularSystems;II[J)I"⟩
abbrev cL_least : ByteArray := method_9_code
abbrev yL_least : MethodName := ⟨"TriangularSystemsLaw", "least", "(LTriangularSystems;I[J)I"⟩
abbrev cL_nearest : ByteArray := method_10_code
abbrev yL_nearest : MethodName := ⟨"TriangularSystemsLaw", "nearest", "(LTriangularSystems;II[J)I"⟩
abbrev cL_squares : ByteArray := method_11_code
abbrev yL_squares : MethodName := ⟨"TriangularSystemsLaw", "squares", "(LTriangularSystems;I[J)I"⟩
abbrev cL_inBox : ByteArray := method_12_code
abbrev yL_inBox : MethodName := ⟨"TriangularSystemsLaw", "inBox", "(LTriangularSystems;I[J)I"⟩
abbrev cL_law : ByteArray := code
abbrev yL_law : MethodName := ⟨"TriangularSystemsLaw", "law", "([I)Z"⟩
abbrev cJ9_floorDiv : ByteArray := prog_10_method_49_code
abbrev yJ9_floorDiv : MethodName := ⟨"java/lang/Math", "floorDiv", "(JJ)J"⟩
abbrev cJ9_min : ByteArray := prog_10_method_69_code
abbrev yJ9_min : MethodName := ⟨"java/lang/Math", "min", "(II)I"⟩
abbrev cJ9_max : ByteArray := prog_10_method_65_code
abbrev yJ9_max : MethodName := ⟨"java/lang/Math", "max", "(II)I"⟩
abbrev cJ9_abs : ByteArray := prog_10_method_61_code
abbrev yJ9_abs : MethodName := ⟨"java/lang/Math", "abs", "(J)J"⟩
/-- the words that every contract here rests on: all good ones of the tables -/
def GW : List Cond := lw_tbl.filter goodWord
theorem gw_in {w : Cond} (i : Nat) (h : lw_tbl[i]? = some w) (g : goodWord w = true) : w ∈ GW := List.mem_filter.mpr ⟨List.mem_of_getElem? h, g⟩
theorem gw_good {w : Cond} (h : w ∈ GW) : (w.onTables && w.keeps) = true ∨ ∃ ty, w = .arrayClass ty := good_of_word (List.mem_filter.mp h).2
theorem gw_tbl {w : Cond} (h : w ∈ GW) : w ∈ lw_tbl := (List.mem_filter.mp h).1
end
section
/-! Words by their places in lw_tbl (by wip/gen/names.py). -/
theorem gw_0 : Cond.selects "TriangularSystems" ⟨"TriangularSystems", "eliminateEquations", "()V"⟩ ⟨"TriangularSystems", "eliminateEquations", "()V"⟩ ∈ GW := gw_in 0 (by decide +kernel) (by decide +kernel)
theorem gw_1 : Cond.selects "TriangularSystems$Elimination" ⟨"TriangularSystems$Elimination", "begin", "(II)V"⟩ ⟨"TriangularSystems$Elimination", "begin", "(II)V"⟩ ∈ GW := gw_in 1 (by decide +kernel) (by decide +kernel)
theorem gw_2 : Cond.selects "TriangularSystems$Elimination" ⟨"TriangularSystems$Elimination", "eliminate", "()V"⟩ ⟨"TriangularSystems$Elimination", "eliminate", "()V"⟩ ∈ GW := gw_in 2 (by decide +kernel) (by decide +kernel)
theorem gw_3 : Cond.selects "TriangularSystems$Elimination" ⟨"TriangularSystems$Elimination", "firstRowWith", "(I)I"⟩ ⟨"TriangularSystems$Elimination", "firstRowWith", "(I)I"⟩ ∈ GW := gw_in 3 (by decide +kernel) (by decide +kernel)
theorem gw_4 : Cond.selects "TriangularSystems$Elimination" ⟨"TriangularSystems$Elimination", "exchange", "(II)V"⟩ ⟨"TriangularSystems$Elimination", "exchange", "(II)V"⟩ ∈ GW := gw_in 4 (by decide +kernel) (by decide +kernel)
theorem gw_5 : Cond.selects "TriangularSystems$Elimination" ⟨"TriangularSystems$Elimination", "makeAboveZero", "(II)V"⟩ ⟨"TriangularSystems$Elimination", "makeAboveZero", "(II)V"⟩ ∈ GW := gw_in 5 (by decide +kernel) (by decide +kernel)
theorem gw_6 : Cond.selects "TriangularSystems$Elimination" ⟨"TriangularSystems$Elimination", "clearColumn", "(II)V"⟩ ⟨"TriangularSystems$Elimination", "clearColumn", "(II)V"⟩ ∈ GW := gw_in 6 (by decide +kernel) (by decide +kernel)
theorem gw_7 : Cond.selects "TriangularSystems$Elimination" ⟨"TriangularSystems$Elimination", "divideByShared", "(I)V"⟩ ⟨"TriangularSystems$Elimination", "divideByShared", "(I)V"⟩ ∈ GW := gw_in 7 (by decide +kernel) (by decide +kernel)
theorem gw_8 : Cond.selects "TriangularSystems$Elimination" ⟨"TriangularSystems$Elimination", "agrees", "()Z"⟩ ⟨"TriangularSystems$Elimination", "agrees", "()Z"⟩ ∈ GW := gw_in 8 (by decide +kernel) (by decide +kernel)
theorem gw_9 : Cond.selects "TriangularSystems$Elimination" ⟨"TriangularSystems$Elimination", "freeUnknown", "(I)I"⟩ ⟨"TriangularSystems$Elimination", "freeUnknown", "(I)I"⟩ ∈ GW := gw_in 9 (by decide +kernel) (by decide +kernel)
theorem gw_10 : Cond.selects "TriangularSystems$Elimination" ⟨"TriangularSystems$Elimination", "rowDeciding", "(I)I"⟩ ⟨"TriangularSystems$Elimination", "rowDeciding", "(I)I"⟩ ∈ GW := gw_in 10 (by decide +kernel) (by decide +kernel)
theorem gw_11 : Cond.selects "TriangularSystems" ⟨"TriangularSystems", "spanLattice", "()V"⟩ ⟨"TriangularSystems", "spanLattice", "()V"⟩ ∈ GW := gw_in 11 (by decide +kernel) (by decide +kernel)
theorem gw_12 : Cond.selects "TriangularSystems$Lattice" ⟨"TriangularSystems$Lattice", "begin", "(I)V"⟩ ⟨"TriangularSystems$Lattice", "begin", "(I)V"⟩ ∈ GW := gw_in 12 (by decide +kernel) (by decide +kernel)
theorem gw_13 : Cond.selects "TriangularSystems$Lattice" ⟨"TriangularSystems$Lattice", "span", "()V"⟩ ⟨"TriangularSystems$Lattice", "span", "()V"⟩ ∈ GW := gw_in 13 (by decide +kernel) (by decide +kernel)
theorem gw_14 : Cond.selects "TriangularSystems$Lattice" ⟨"TriangularSystems$Lattice", "gather", "(II)V"⟩ ⟨"TriangularSystems$Lattice", "gather", "(II)V"⟩ ∈ GW := gw_in 14 (by decide +kernel) (by decide +kernel)
theorem gw_15 : Cond.selects "TriangularSystems$Lattice" ⟨"TriangularSystems$Lattice", "lessen", "([JI)V"⟩ ⟨"TriangularSystems$Lattice", "lessen", "([JI)V"⟩ ∈ GW := gw_in 15 (by decide +kernel) (by decide +kernel)
theorem gw_16 : Cond.selects "TriangularSystems$Lattice" ⟨"TriangularSystems$Lattice", "isReached", "()Z"⟩ ⟨"TriangularSystems$Lattice", "isReached", "()Z"⟩ ∈ GW := gw_in 16 (by decide +kernel) (by decide +kernel)
theorem gw_17 : Cond.selects "TriangularSystems" ⟨"TriangularSystems", "excess", "(IJJJ)J"⟩ ⟨"TriangularSystems", "excess", "(IJJJ)J"⟩ ∈ GW := gw_in 17 (by decide +kernel) (by decide +kernel)
theorem gw_18 : Cond.selects "java/lang/Throwable" ⟨"java/lang/Throwable", "fillInStackTrace", "(I)Ljava/lang/Throwable;"⟩ ⟨"java/lang/Throwable", "fillInStackTrace", "(I)Ljava/lang/Throwable;"⟩ ∈ GW := gw_in 18 (by decide +kernel) (by decide +kernel)
theorem gw_19 : Cond.selects "TriangularSystems" ⟨"TriangularSystems", "isPlace", "(II)Z"⟩ ⟨"TriangularSystems", "isPlace", "(II)Z"⟩ ∈ GW := gw_in 19 (by decide +kernel) (by decide +kernel)
theorem gw_20 : Cond.selects "TriangularSystems" ⟨"TriangularSystems", "isUnknown", "(I)Z"⟩ ⟨"TriangularSystems", "isUnknown", "(I)Z"⟩ ∈ GW := gw_in 20 (by decide +kernel) (by decide +kernel)
theorem gw_21 : Cond.selects "TriangularSystems$Elimination" ⟨"TriangularSystems$Elimination", "plainPart", "(II)J"⟩ ⟨"TriangularSystems$Elimination", "plainPart", "(II)J"⟩ ∈ GW := gw_in 21 (by decide +kernel) (by decide +kernel)
theorem gw_22 : Cond.selects "TriangularSystems$Elimination" ⟨"TriangularSystems$Elimination", "directionPart", "(III)J"⟩ ⟨"TriangularSystems$Elimination", "directionPart", "(III)J"⟩ ∈ GW := gw_in 22 (by decide +kernel) (by decide +kernel)
theorem gw_23 : Cond.selects "TriangularSystems$Lattice" ⟨"TriangularSystems$Lattice", "members", "()I"⟩ ⟨"TriangularSystems$Lattice", "members", "()I"⟩ ∈ GW := gw_in 23 (by decide +kernel) (by decide +kernel)
theorem gw_24 : Cond.selects "TriangularSystems$Lattice" ⟨"TriangularSystems$Lattice", "member", "(II)J"⟩ ⟨"TriangularSystems$Lattice", "member", "(II)J"⟩ ∈ GW := gw_in 24 (by decide +kernel) (by decide +kernel)
theorem gw_25 : Cond.selects "TriangularSystems" ⟨"TriangularSystems", "eliminateNearest", "()V"⟩ ⟨"TriangularSystems", "eliminateNearest", "()V"⟩ ∈ GW := gw_in 25 (by decide +kernel) (by decide +kernel)
theorem gw_26 : Cond.selects "TriangularSystems" ⟨"TriangularSystems", "columnProduct", "(II)J"⟩ ⟨"TriangularSystems", "columnProduct", "(II)J"⟩ ∈ GW := gw_in 26 (by decide +kernel) (by decide +kernel)
theorem gw_27 : Cond.selects "TriangularSystems" ⟨"TriangularSystems", "fittingFirsts", "(III)I"⟩ ⟨"TriangularSystems", "fittingFirsts", "(III)I"⟩ ∈ GW := gw_in 27 (by decide +kernel) (by decide +kernel)
theorem gw_28 : Cond.selects "TriangularSystemsModel" ⟨"TriangularSystemsModel", "isPlace", "(II)Z"⟩ ⟨"TriangularSystemsModel", "isPlace", "(II)Z"⟩ ∈ GW := gw_in 28 (by decide +kernel) (by decide +kernel)
theorem gw_29 : Cond.selects "TriangularSystemsModel" ⟨"TriangularSystemsModel", "place", "(II)I"⟩ ⟨"TriangularSystemsModel", "place", "(II)I"⟩ ∈ GW := gw_in 29 (by decide +kernel) (by decide +kernel)
theorem gw_30 : Cond.selects "TriangularSystemsModel" ⟨"TriangularSystemsModel", "look", "()V"⟩ ⟨"TriangularSystemsModel", "look", "()V"⟩ ∈ GW := gw_in 30 (by decide +kernel) (by decide +kernel)
theorem gw_31 : Cond.selects "TriangularSystemsModel" ⟨"TriangularSystemsModel", "stands", "(I)Z"⟩ ⟨"TriangularSystemsModel", "stands", "(I)Z"⟩ ∈ GW := gw_in 31 (by decide +kernel) (by decide +kernel)
theorem gw_32 : Cond.selects "TriangularSystemsModel" ⟨"TriangularSystemsModel", "determinant", "(I)J"⟩ ⟨"TriangularSystemsModel", "determinant", "(I)J"⟩ ∈ GW := gw_in 32 (by decide +kernel) (by decide +kernel)
theorem gw_33 : Cond.selects "TriangularSystemsModel" ⟨"TriangularSystemsModel", "findPlain", "()Z"⟩ ⟨"TriangularSystemsModel", "findPlain", "()Z"⟩ ∈ GW := gw_in 33 (by decide +kernel) (by decide +kernel)
theorem gw_34 : Cond.selects "TriangularSystemsModel" ⟨"TriangularSystemsModel", "solve", "()V"⟩ ⟨"TriangularSystemsModel", "solve", "()V"⟩ ∈ GW := gw_in 34 (by decide +kernel) (by decide +kernel)
theorem gw_35 : Cond.selects "TriangularSystemsModel" ⟨"TriangularSystemsModel", "solveSquare", "(I)V"⟩ ⟨"TriangularSystemsModel", "solveSquare", "(I)V"⟩ ∈ GW := gw_in 35 (by decide +kernel) (by decide +kernel)
theorem gw_36 : Cond.selects "TriangularSystemsModel" ⟨"TriangularSystemsModel", "freeAt", "(I)I"⟩ ⟨"TriangularSystemsModel", "freeAt", "(I)I"⟩ ∈ GW := gw_in 36 (by decide +kernel) (by decide +kernel)
theorem gw_37 : Cond.selects "TriangularSystemsModel" ⟨"TriangularSystemsModel", "isUnknown", "(I)Z"⟩ ⟨"TriangularSystemsModel", "isUnknown", "(I)Z"⟩ ∈ GW := gw_in 37 (by decide +kernel) (by decide +kernel)
theorem gw_38 : Cond.selects "TriangularSystemsModel" ⟨"TriangularSystemsModel", "raise", "(I)I"⟩ ⟨"TriangularSystemsModel", "raise", "(I)I"⟩ ∈ GW := gw_in 38 (by decide +kernel) (by decide +kernel)
theorem gw_39 : Cond.selects "TriangularSystemsModel" ⟨"TriangularSystemsModel", "takeAnswer", "(I)V"⟩ ⟨"TriangularSystemsModel", "takeAnswer", "(I)V"⟩ ∈ GW := gw_in 39 (by decide +kernel) (by decide +kernel)
theorem gw_40 : Cond.selects "TriangularSystemsModel" ⟨"TriangularSystemsModel", "lowest", "(JJ)V"⟩ ⟨"TriangularSystemsModel", "lowest", "(JJ)V"⟩ ∈ GW := gw_in 40 (by decide +kernel) (by decide +kernel)
theorem gw_41 : Cond.selects "TriangularSystemsModel" ⟨"TriangularSystemsModel", "told", "(I)J"⟩ ⟨"TriangularSystemsModel", "told", "(I)J"⟩ ∈ GW := gw_in 41 (by decide +kernel) (by decide +kernel)
theorem gw_42 : Cond.selects "TriangularSystemsModel" ⟨"TriangularSystemsModel", "findBase", "()V"⟩ ⟨"TriangularSystemsModel", "findBase", "()V"⟩ ∈ GW := gw_in 42 (by decide +kernel) (by decide +kernel)
theorem gw_43 : Cond.selects "TriangularSystemsModel" ⟨"TriangularSystemsModel", "member", "(JJJ)V"⟩ ⟨"TriangularSystemsModel", "member", "(JJJ)V"⟩ ∈ GW := gw_in 43 (by decide +kernel) (by decide +kernel)
theorem gw_44 : Cond.selects "TriangularSystemsModel" ⟨"TriangularSystemsModel", "number", "(II)J"⟩ ⟨"TriangularSystemsModel", "number", "(II)J"⟩ ∈ GW := gw_in 44 (by decide +kernel) (by decide +kernel)
theorem gw_45 : Cond.selects "TriangularSystemsModel" ⟨"TriangularSystemsModel", "lineOf", "(JJJ)V"⟩ ⟨"TriangularSystemsModel", "lineOf", "(JJJ)V"⟩ ∈ GW := gw_in 45 (by decide +kernel) (by decide +kernel)
theorem gw_46 : Cond.selects "TriangularSystemsModel" ⟨"TriangularSystemsModel", "planeOf", "(JJJ)V"⟩ ⟨"TriangularSystemsModel", "planeOf", "(JJJ)V"⟩ ∈ GW := gw_in 46 (by decide +kernel) (by decide +kernel)
theorem gw_47 : Cond.selects "TriangularSystemsModel" ⟨"TriangularSystemsModel", "findWhole", "()Z"⟩ ⟨"TriangularSystemsModel", "findWhole", "()Z"⟩ ∈ GW := gw_in 47 (by decide +kernel) (by decide +kernel)
theorem gw_48 : Cond.selects "TriangularSystemsModel" ⟨"TriangularSystemsModel", "fits", "(JJJ)Z"⟩ ⟨"TriangularSystemsModel", "fits", "(JJJ)Z"⟩ ∈ GW := gw_in 48 (by decide +kernel) (by decide +kernel)
theorem gw_49 : Cond.selects "TriangularSystemsModel" ⟨"TriangularSystemsModel", "findNearest", "()V"⟩ ⟨"TriangularSystemsModel", "findNearest", "()V"⟩ ∈ GW := gw_in 49 (by decide +kernel) (by decide +kernel)
theorem gw_50 : Cond.selects "TriangularSystemsModel" ⟨"TriangularSystemsModel", "products", "(II)J"⟩ ⟨"TriangularSystemsModel", "products", "(II)J"⟩ ∈ GW := gw_in 50 (by decide +kernel) (by decide +kernel)
theorem gw_51 : Cond.selects "TriangularSystemsModel" ⟨"TriangularSystemsModel", "isSolution", "(JJJ)Z"⟩ ⟨"TriangularSystemsModel", "isSolution", "(JJJ)Z"⟩ ∈ GW := gw_in 51 (by decide +kernel) (by decide +kernel)
theorem gw_52 : Cond.initialized "TriangularSystemsLaw" ∈ GW := gw_in 52 (by decide +kernel) (by decide +kernel)
theorem gw_53 : Cond.initialized "TriangularSystems" ∈ GW := gw_in 53 (by decide +kernel) (by decide +kernel)
theorem gw_54 : Cond.initialized "java/lang/Math" ∈ GW := gw_in 54 (by decide +kernel) (by decide +kernel)
theorem gw_55 : Cond.initialized "TriangularSystems$Elimination" ∈ GW := gw_in 55 (by decide +kernel) (by decide +kernel)
theorem gw_56 : Cond.initialized "TriangularSystems$Lattice" ∈ GW := gw_in 56 (by decide +kernel) (by decide +kernel)
theorem gw_57 : Cond.initialized "TriangularSystemsModel" ∈ GW := gw_in 57 (by decide +kernel) (by decide +kernel)
theorem gw_58 : Cond.initialized "java/lang/Throwable" ∈ GW := gw_in 58 (by decide +kernel) (by decide +kernel)
theorem gw_59 : Cond.initialized "java/lang/Exception" ∈ GW := gw_in 59 (by decide +kernel) (by decide +kernel)
theorem gw_60 : Cond.initialized "java/lang/RuntimeException" ∈ GW := gw_in 60 (by decide +kernel) (by decide +kernel)
theorem gw_61 : Cond.initialized "java/lang/IllegalStateException" ∈ GW := gw_in 61 (by decide +kernel) (by decide +kernel)
theorem gw_62 : Cond.initialized "java/lang/IndexOutOfBoundsException" ∈ GW := gw_in 62 (by decide +kernel) (by decide +kernel)
theorem gw_63 : Cond.initialized "java/lang/IllegalArgumentException" ∈ GW := gw_in 63 (by decide +kernel) (by decide +kernel)
theorem gw_64 : Cond.classLink "TriangularSystemsLaw" 8 "TriangularSystems" ∈ GW := gw_in 64 (by decide +kernel) (by decide +kernel)
theorem gw_65 : Cond.instantiable "TriangularSystems" 5 ∈ GW := gw_in 65 (by decide +kernel) (by decide +kernel)
theorem gw_66 : Cond.methodLink "TriangularSystemsLaw" 58 ⟨"TriangularSystems", "<init>", "(I)V"⟩ ∈ GW := gw_in 66 (by decide +kernel) (by decide +kernel)
theorem gw_67 : Cond.instanceMethod ⟨"TriangularSystems", "<init>", "(I)V"⟩ ∈ GW := gw_in 67 (by decide +kernel) (by decide +kernel)
theorem gw_68 : Cond.code ⟨"TriangularSystems", "<init>", "(I)V"⟩ prog_1_method_1_code 2 none ∈ GW := gw_in 68 (by decide +kernel) (by decide +kernel)
theorem gw_69 : Cond.methodLink "TriangularSystems" 1 ⟨"java/lang/Object", "<init>", "()V"⟩ ∈ GW := gw_in 69 (by decide +kernel) (by decide +kernel)
theorem gw_70 : Cond.instanceMethod ⟨"java/lang/Object", "<init>", "()V"⟩ ∈ GW := gw_in 70 (by decide +kernel) (by decide +kernel)
theorem gw_71 : Cond.code ⟨"java/lang/Object", "<init>", "()V"⟩ object_method_1_code 1 none ∈ GW := gw_in 71 (by decide +kernel) (by decide +kernel)
theorem gw_72 : Cond.methodLink "TriangularSystems" 9 ⟨"java/lang/Math", "min", "(II)I"⟩ ∈ GW := gw_in 72 (by decide +kernel) (by decide +kernel)
theorem gw_73 : Cond.static ⟨"java/lang/Math", "min", "(II)I"⟩ ∈ GW := gw_in 73 (by decide +kernel) (by decide +kernel)
theorem gw_74 : Cond.code ⟨"java/lang/Math", "min", "(II)I"⟩ prog_10_method_69_code 2 (some FieldType.int) ∈ GW := gw_in 74 (by decide +kernel) (by decide +kernel)
theorem gw_75 : Cond.methodLink "TriangularSystems" 15 ⟨"java/lang/Math", "max", "(II)I"⟩ ∈ GW := gw_in 75 (by decide +kernel) (by decide +kernel)
theorem gw_76 : Cond.static ⟨"java/lang/Math", "max", "(II)I"⟩ ∈ GW := gw_in 76 (by decide +kernel) (by decide +kernel)
theorem gw_77 : Cond.code ⟨"java/lang/Math", "max", "(II)I"⟩ prog_10_method_65_code 2 (some FieldType.int) ∈ GW := gw_in 77 (by decide +kernel) (by decide +kernel)
theorem gw_78 : Cond.classLink "TriangularSystems" 22 "[[I" ∈ GW := gw_in 78 (by decide +kernel) (by decide +kernel)
theorem gw_80 : Cond.classLink "TriangularSystems" 27 "TriangularSystems$Elimination" ∈ GW := gw_in 80 (by decide +kernel) (by decide +kernel)
theorem gw_81 : Cond.instantiable "TriangularSystems$Elimination" 5 ∈ GW := gw_in 81 (by decide +kernel) (by decide +kernel)
theorem gw_83 : Cond.instanceMethod ⟨"TriangularSystems$Elimination", "<init>", "()V"⟩ ∈ GW := gw_in 83 (by decide +kernel) (by decide +kernel)
theorem gw_84 : Cond.code ⟨"TriangularSystems$Elimination", "<init>", "()V"⟩ prog_2_method_1_code 1 none ∈ GW := gw_in 84 (by decide +kernel) (by decide +kernel)
theorem gw_85 : Cond.methodLink "TriangularSystems$Elimination" 3 ⟨"java/lang/Object", "<init>", "()V"⟩ ∈ GW := gw_in 85 (by decide +kernel) (by decide +kernel)
theorem gw_86 : Cond.classLink "TriangularSystems$Elimination" 11 "[[J" ∈ GW := gw_in 86 (by decide +kernel) (by decide +kernel)
theorem gw_88 : Cond.fieldLink "TriangularSystems$Elimination" 13 "TriangularSystems$Elimination" "rows" "[[J" ∈ GW := gw_in 88 (by decide +kernel) (by decide +kernel)
theorem gw_90 : Cond.fieldLink "TriangularSystems$Elimination" 16 "TriangularSystems$Elimination" "decides" "[I" ∈ GW := gw_in 90 (by decide +kernel) (by decide +kernel)
theorem gw_91 : Cond.fieldLink "TriangularSystems$Elimination" 20 "TriangularSystems$Elimination" "width" "I" ∈ GW := gw_in 91 (by decide +kernel) (by decide +kernel)
theorem gw_92 : Cond.fieldLink "TriangularSystems$Elimination" 24 "TriangularSystems$Elimination" "height" "I" ∈ GW := gw_in 92 (by decide +kernel) (by decide +kernel)
theorem gw_93 : Cond.fieldLink "TriangularSystems$Elimination" 27 "TriangularSystems$Elimination" "decided" "I" ∈ GW := gw_in 93 (by decide +kernel) (by decide +kernel)
theorem gw_95 : Cond.laysFinal "TriangularSystems$Elimination" "TriangularSystems$Elimination" "rows" "[[J" ∈ GW := gw_in 95 (by decide +kernel) (by decide +kernel)
theorem gw_97 : Cond.laysFinal "TriangularSystems$Elimination" "TriangularSystems$Elimination" "decides" "[I" ∈ GW := gw_in 97 (by decide +kernel) (by decide +kernel)
theorem gw_99 : Cond.lays "TriangularSystems$Elimination" "TriangularSystems$Elimination" "width" "I" ∈ GW := gw_in 99 (by decide +kernel) (by decide +kernel)
theorem gw_101 : Cond.lays "TriangularSystems$Elimination" "TriangularSystems$Elimination" "height" "I" ∈ GW := gw_in 101 (by decide +kernel) (by decide +kernel)
theorem gw_103 : Cond.lays "TriangularSystems$Elimination" "TriangularSystems$Elimination" "decided" "I" ∈ GW := gw_in 103 (by decide +kernel) (by decide +kernel)
theorem gw_106 : Cond.arrayClass FieldType.int ∈ GW := gw_in 106 (by decide +kernel) (by decide +kernel)
theorem gw_107 : Cond.arrayClass FieldType.long ∈ GW := gw_in 107 (by decide +kernel) (by decide +kernel)
theorem gw_108 : Cond.classLink "TriangularSystems" 34 "TriangularSystems$Lattice" ∈ GW := gw_in 108 (by decide +kernel) (by decide +kernel)
theorem gw_109 : Cond.instantiable "TriangularSystems$Lattice" 4 ∈ GW := gw_in 109 (by decide +kernel) (by decide +kernel)
theorem gw_111 : Cond.instanceMethod ⟨"TriangularSystems$Lattice", "<init>", "()V"⟩ ∈ GW := gw_in 111 (by decide +kernel) (by decide +kernel)
theorem gw_112 : Cond.code ⟨"TriangularSystems$Lattice", "<init>", "()V"⟩ prog_3_method_1_code 1 none ∈ GW := gw_in 112 (by decide +kernel) (by decide +kernel)
theorem gw_113 : Cond.methodLink "TriangularSystems$Lattice" 3 ⟨"java/lang/Object", "<init>", "()V"⟩ ∈ GW := gw_in 113 (by decide +kernel) (by decide +kernel)
theorem gw_114 : Cond.classLink "TriangularSystems$Lattice" 11 "[[J" ∈ GW := gw_in 114 (by decide +kernel) (by decide +kernel)
theorem gw_115 : Cond.fieldLink "TriangularSystems$Lattice" 13 "TriangularSystems$Lattice" "rows" "[[J" ∈ GW := gw_in 115 (by decide +kernel) (by decide +kernel)
theorem gw_117 : Cond.fieldLink "TriangularSystems$Lattice" 16 "TriangularSystems$Lattice" "beginnings" "[I" ∈ GW := gw_in 117 (by decide +kernel) (by decide +kernel)
theorem gw_118 : Cond.fieldLink "TriangularSystems$Lattice" 20 "TriangularSystems$Lattice" "target" "[J" ∈ GW := gw_in 118 (by decide +kernel) (by decide +kernel)
theorem gw_120 : Cond.fieldLink "TriangularSystems$Lattice" 24 "TriangularSystems$Lattice" "height" "I" ∈ GW := gw_in 120 (by decide +kernel) (by decide +kernel)
theorem gw_121 : Cond.laysFinal "TriangularSystems$Lattice" "TriangularSystems$Lattice" "rows" "[[J" ∈ GW := gw_in 121 (by decide +kernel) (by decide +kernel)
theorem gw_123 : Cond.laysFinal "TriangularSystems$Lattice" "TriangularSystems$Lattice" "beginnings" "[I" ∈ GW := gw_in 123 (by decide +kernel) (by decide +kernel)
theorem gw_125 : Cond.laysFinal "TriangularSystems$Lattice" "TriangularSystems$Lattice" "target" "[J" ∈ GW := gw_in 125 (by decide +kernel) (by decide +kernel)
theorem gw_127 : Cond.lays "TriangularSystems$Lattice" "TriangularSystems$Lattice" "height" "I" ∈ GW := gw_in 127 (by decide +kernel) (by decide +kernel)
theorem gw_130 : Cond.fieldLink "TriangularSystems" 18 "TriangularSystems" "unknowns" "I" ∈ GW := gw_in 130 (by decide +kernel) (by decide +kernel)
theorem gw_131 : Cond.fieldLink "TriangularSystems" 24 "TriangularSystems" "numbers" "[[I" ∈ GW := gw_in 131 (by decide +kernel) (by decide +kernel)
theorem gw_132 : Cond.fieldLink "TriangularSystems" 30 "TriangularSystems" "elimination" "LTriangularSystems$Elimination;" ∈ GW := gw_in 132 (by decide +kernel) (by decide +kernel)
theorem gw_133 : Cond.fieldLink "TriangularSystems" 37 "TriangularSystems" "lattice" "LTriangularSystems$Lattice;" ∈ GW := gw_in 133 (by decide +kernel) (by decide +kernel)
theorem gw_134 : Cond.fieldLink "TriangularSystems" 41 "TriangularSystems" "equations" "I" ∈ GW := gw_in 134 (by decide +kernel) (by decide +kernel)
theorem gw_135 : Cond.laysFinal "TriangularSystems" "TriangularSystems" "unknowns" "I" ∈ GW := gw_in 135 (by decide +kernel) (by decide +kernel)
theorem gw_137 : Cond.laysFinal "TriangularSystems" "TriangularSystems" "numbers" "[[I" ∈ GW := gw_in 137 (by decide +kernel) (by decide +kernel)
theorem gw_139 : Cond.laysFinal "TriangularSystems" "TriangularSystems" "elimination" "LTriangularSystems$Elimination;" ∈ GW := gw_in 139 (by decide +kernel) (by decide +kernel)
theorem gw_141 : Cond.laysFinal "TriangularSystems" "TriangularSystems" "lattice" "LTriangularSystems$Lattice;" ∈ GW := gw_in 141 (by decide +kernel) (by decide +kernel)
theorem gw_143 : Cond.lays "TriangularSystems" "TriangularSystems" "equations" "I" ∈ GW := gw_in 143 (by decide +kernel) (by decide +kernel)
theorem gw_146 : Cond.methodLink "TriangularSystemsLaw" 79 ⟨"TriangularSystems", "rank", "()I"⟩ ∈ GW := gw_in 146 (by decide +kernel) (by decide +kernel)
theorem gw_147 : Cond.instanceMethod ⟨"TriangularSystems", "rank", "()I"⟩ ∈ GW := gw_in 147 (by decide +kernel) (by decide +kernel)
theorem gw_148 : Cond.selects "TriangularSystems" ⟨"TriangularSystems", "rank", "()I"⟩ ⟨"TriangularSystems", "rank", "()I"⟩ ∈ GW := gw_in 148 (by decide +kernel) (by decide +kernel)
theorem gw_149 : Cond.code ⟨"TriangularSystems", "rank", "()I"⟩ prog_1_method_5_code 1 (some FieldType.int) ∈ GW := gw_in 149 (by decide +kernel) (by decide +kernel)
theorem gw_150 : Cond.methodLink "TriangularSystems" 65 ⟨"TriangularSystems", "eliminateEquations", "()V"⟩ ∈ GW := gw_in 150 (by decide +kernel) (by decide +kernel)
theorem gw_152 : Cond.instanceMethod ⟨"TriangularSystems", "eliminateEquations", "()V"⟩ ∈ GW := gw_in 152 (by decide +kernel) (by decide +kernel)
theorem gw_153 : Cond.code ⟨"TriangularSystems", "eliminateEquations", "()V"⟩ prog_1_method_24_code 3 none ∈ GW := gw_in 153 (by decide +kernel) (by decide +kernel)
theorem gw_156 : Cond.instanceMethod ⟨"TriangularSystems$Elimination", "begin", "(II)V"⟩ ∈ GW := gw_in 156 (by decide +kernel) (by decide +kernel)
theorem gw_157 : Cond.code ⟨"TriangularSystems$Elimination", "begin", "(II)V"⟩ prog_2_method_2_code 5 none ∈ GW := gw_in 157 (by decide +kernel) (by decide +kernel)
theorem gw_158 : Cond.methodLink "TriangularSystems$Elimination" 30 ⟨"java/lang/Math", "min", "(II)I"⟩ ∈ GW := gw_in 158 (by decide +kernel) (by decide +kernel)
theorem gw_159 : Cond.methodLink "TriangularSystems$Elimination" 36 ⟨"java/lang/Math", "max", "(II)I"⟩ ∈ GW := gw_in 159 (by decide +kernel) (by decide +kernel)
theorem gw_162 : Cond.instanceMethod ⟨"TriangularSystems$Elimination", "eliminate", "()V"⟩ ∈ GW := gw_in 162 (by decide +kernel) (by decide +kernel)
theorem gw_163 : Cond.code ⟨"TriangularSystems$Elimination", "eliminate", "()V"⟩ prog_2_method_3_code 3 none ∈ GW := gw_in 163 (by decide +kernel) (by decide +kernel)
theorem gw_164 : Cond.methodLink "TriangularSystems$Elimination" 39 ⟨"TriangularSystems$Elimination", "firstRowWith", "(I)I"⟩ ∈ GW := gw_in 164 (by decide +kernel) (by decide +kernel)
theorem gw_166 : Cond.instanceMethod ⟨"TriangularSystems$Elimination", "firstRowWith", "(I)I"⟩ ∈ GW := gw_in 166 (by decide +kernel) (by decide +kernel)
theorem gw_167 : Cond.code ⟨"TriangularSystems$Elimination", "firstRowWith", "(I)I"⟩ prog_2_method_4_code 3 (some FieldType.int) ∈ GW := gw_in 167 (by decide +kernel) (by decide +kernel)
theorem gw_168 : Cond.methodLink "TriangularSystems$Elimination" 43 ⟨"TriangularSystems$Elimination", "exchange", "(II)V"⟩ ∈ GW := gw_in 168 (by decide +kernel) (by decide +kernel)
theorem gw_170 : Cond.instanceMethod ⟨"TriangularSystems$Elimination", "exchange", "(II)V"⟩ ∈ GW := gw_in 170 (by decide +kernel) (by decide +kernel)
theorem gw_171 : Cond.code ⟨"TriangularSystems$Elimination", "exchange", "(II)V"⟩ prog_2_method_5_code 6 none ∈ GW := gw_in 171 (by decide +kernel) (by decide +kernel)
theorem gw_172 : Cond.methodLink "TriangularSystems$Elimination" 47 ⟨"TriangularSystems$Elimination", "makeAboveZero", "(II)V"⟩ ∈ GW := gw_in 172 (by decide +kernel) (by decide +kernel)
theorem gw_174 : Cond.instanceMethod ⟨"TriangularSystems$Elimination", "makeAboveZero", "(II)V"⟩ ∈ GW := gw_in 174 (by decide +kernel) (by decide +kernel)
theorem gw_175 : Cond.code ⟨"TriangularSystems$Elimination", "makeAboveZero", "(II)V"⟩ prog_2_method_6_code 4 none ∈ GW := gw_in 175 (by decide +kernel) (by decide +kernel)
theorem gw_176 : Cond.methodLink "TriangularSystems$Elimination" 50 ⟨"TriangularSystems$Elimination", "clearColumn", "(II)V"⟩ ∈ GW := gw_in 176 (by decide +kernel) (by decide +kernel)
theorem gw_178 : Cond.instanceMethod ⟨"TriangularSystems$Elimination", "clearColumn", "(II)V"⟩ ∈ GW := gw_in 178 (by decide +kernel) (by decide +kernel)
theorem gw_179 : Cond.code ⟨"TriangularSystems$Elimination", "clearColumn", "(II)V"⟩ prog_2_method_7_code 9 none ∈ GW := gw_in 179 (by decide +kernel) (by decide +kernel)
theorem gw_180 : Cond.methodLink "TriangularSystems$Elimination" 53 ⟨"TriangularSystems$Elimination", "divideByShared", "(I)V"⟩ ∈ GW := gw_in 180 (by decide +kernel) (by decide +kernel)
theorem gw_182 : Cond.instanceMethod ⟨"TriangularSystems$Elimination", "divideByShared", "(I)V"⟩ ∈ GW := gw_in 182 (by decide +kernel) (by decide +kernel)
theorem gw_183 : Cond.code ⟨"TriangularSystems$Elimination", "divideByShared", "(I)V"⟩ prog_2_method_8_code 5 none ∈ GW := gw_in 183 (by decide +kernel) (by decide +kernel)
theorem gw_185 : Cond.static ⟨"TriangularSystems", "commonDivisor", "(JJ)J"⟩ ∈ GW := gw_in 185 (by decide +kernel) (by decide +kernel)
theorem gw_186 : Cond.code ⟨"TriangularSystems", "commonDivisor", "(JJ)J"⟩ prog_1_method_28_code 11 (some FieldType.long) ∈ GW := gw_in 186 (by decide +kernel) (by decide +kernel)
theorem gw_187 : Cond.methodLink "TriangularSystems" 157 ⟨"java/lang/Math", "abs", "(J)J"⟩ ∈ GW := gw_in 187 (by decide +kernel) (by decide +kernel)
theorem gw_188 : Cond.static ⟨"java/lang/Math", "abs", "(J)J"⟩ ∈ GW := gw_in 188 (by decide +kernel) (by decide +kernel)
theorem gw_189 : Cond.code ⟨"java/lang/Math", "abs", "(J)J"⟩ prog_10_method_61_code 2 (some FieldType.long) ∈ GW := gw_in 189 (by decide +kernel) (by decide +kernel)
theorem gw_190 : Cond.methodLink "TriangularSystemsLaw" 83 ⟨"TriangularSystems", "solutions", "()I"⟩ ∈ GW := gw_in 190 (by decide +kernel) (by decide +kernel)
theorem gw_191 : Cond.instanceMethod ⟨"TriangularSystems", "solutions", "()I"⟩ ∈ GW := gw_in 191 (by decide +kernel) (by decide +kernel)
theorem gw_192 : Cond.selects "TriangularSystems" ⟨"TriangularSystems", "solutions", "()I"⟩ ⟨"TriangularSystems", "solutions", "()I"⟩ ∈ GW := gw_in 192 (by decide +kernel) (by decide +kernel)
theorem gw_193 : Cond.code ⟨"TriangularSystems", "solutions", "()I"⟩ prog_1_method_6_code 1 (some FieldType.int) ∈ GW := gw_in 193 (by decide +kernel) (by decide +kernel)
theorem gw_196 : Cond.instanceMethod ⟨"TriangularSystems$Elimination", "agrees", "()Z"⟩ ∈ GW := gw_in 196 (by decide +kernel) (by decide +kernel)
theorem gw_197 : Cond.code ⟨"TriangularSystems$Elimination", "agrees", "()Z"⟩ prog_2_method_9_code 2 (some FieldType.boolean) ∈ GW := gw_in 197 (by decide +kernel) (by decide +kernel)
theorem gw_198 : Cond.methodLink "TriangularSystemsLaw" 87 ⟨"TriangularSystems", "free", "(I)I"⟩ ∈ GW := gw_in 198 (by decide +kernel) (by decide +kernel)
theorem gw_199 : Cond.instanceMethod ⟨"TriangularSystems", "free", "(I)I"⟩ ∈ GW := gw_in 199 (by decide +kernel) (by decide +kernel)
theorem gw_200 : Cond.selects "TriangularSystems" ⟨"TriangularSystems", "free", "(I)I"⟩ ⟨"TriangularSystems", "free", "(I)I"⟩ ∈ GW := gw_in 200 (by decide +kernel) (by decide +kernel)
theorem gw_201 : Cond.code ⟨"TriangularSystems", "free", "(I)I"⟩ prog_1_method_7_code 2 (some FieldType.int) ∈ GW := gw_in 201 (by decide +kernel) (by decide +kernel)
theorem gw_204 : Cond.instanceMethod ⟨"TriangularSystems$Elimination", "freeUnknown", "(I)I"⟩ ∈ GW := gw_in 204 (by decide +kernel) (by decide +kernel)
theorem gw_205 : Cond.code ⟨"TriangularSystems$Elimination", "freeUnknown", "(I)I"⟩ prog_2_method_11_code 4 (some FieldType.int) ∈ GW := gw_in 205 (by decide +kernel) (by decide +kernel)
theorem gw_206 : Cond.methodLink "TriangularSystems$Elimination" 61 ⟨"TriangularSystems$Elimination", "rowDeciding", "(I)I"⟩ ∈ GW := gw_in 206 (by decide +kernel) (by decide +kernel)
theorem gw_208 : Cond.instanceMethod ⟨"TriangularSystems$Elimination", "rowDeciding", "(I)I"⟩ ∈ GW := gw_in 208 (by decide +kernel) (by decide +kernel)
theorem gw_209 : Cond.code ⟨"TriangularSystems$Elimination", "rowDeciding", "(I)I"⟩ prog_2_method_10_code 3 (some FieldType.int) ∈ GW := gw_in 209 (by decide +kernel) (by decide +kernel)
theorem gw_210 : Cond.methodLink "TriangularSystemsLaw" 97 ⟨"TriangularSystems", "whole", "()Z"⟩ ∈ GW := gw_in 210 (by decide +kernel) (by decide +kernel)
theorem gw_211 : Cond.instanceMethod ⟨"TriangularSystems", "whole", "()Z"⟩ ∈ GW := gw_in 211 (by decide +kernel) (by decide +kernel)
theorem gw_212 : Cond.selects "TriangularSystems" ⟨"TriangularSystems", "whole", "()Z"⟩ ⟨"TriangularSystems", "whole", "()Z"⟩ ∈ GW := gw_in 212 (by decide +kernel) (by decide +kernel)
theorem gw_213 : Cond.code ⟨"TriangularSystems", "whole", "()Z"⟩ prog_1_method_10_code 1 (some FieldType.boolean) ∈ GW := gw_in 213 (by decide +kernel) (by decide +kernel)
theorem gw_214 : Cond.methodLink "TriangularSystems" 102 ⟨"TriangularSystems", "spanLattice", "()V"⟩ ∈ GW := gw_in 214 (by decide +kernel) (by decide +kernel)
theorem gw_216 : Cond.instanceMethod ⟨"TriangularSystems", "spanLattice", "()V"⟩ ∈ GW := gw_in 216 (by decide +kernel) (by decide +kernel)
theorem gw_217 : Cond.code ⟨"TriangularSystems", "spanLattice", "()V"⟩ prog_1_method_27_code 3 none ∈ GW := gw_in 217 (by decide +kernel) (by decide +kernel)
theorem gw_220 : Cond.instanceMethod ⟨"TriangularSystems$Lattice", "begin", "(I)V"⟩ ∈ GW := gw_in 220 (by decide +kernel) (by decide +kernel)
theorem gw_221 : Cond.code ⟨"TriangularSystems$Lattice", "begin", "(I)V"⟩ prog_3_method_2_code 4 none ∈ GW := gw_in 221 (by decide +kernel) (by decide +kernel)
theorem gw_222 : Cond.methodLink "TriangularSystems$Lattice" 28 ⟨"java/lang/Math", "min", "(II)I"⟩ ∈ GW := gw_in 222 (by decide +kernel) (by decide +kernel)
theorem gw_223 : Cond.methodLink "TriangularSystems$Lattice" 34 ⟨"java/lang/Math", "max", "(II)I"⟩ ∈ GW := gw_in 223 (by decide +kernel) (by decide +kernel)
theorem gw_226 : Cond.instanceMethod ⟨"TriangularSystems$Lattice", "span", "()V"⟩ ∈ GW := gw_in 226 (by decide +kernel) (by decide +kernel)
theorem gw_227 : Cond.code ⟨"TriangularSystems$Lattice", "span", "()V"⟩ prog_3_method_3_code 4 none ∈ GW := gw_in 227 (by decide +kernel) (by decide +kernel)
theorem gw_228 : Cond.methodLink "TriangularSystems$Lattice" 37 ⟨"TriangularSystems$Lattice", "gather", "(II)V"⟩ ∈ GW := gw_in 228 (by decide +kernel) (by decide +kernel)
theorem gw_230 : Cond.instanceMethod ⟨"TriangularSystems$Lattice", "gather", "(II)V"⟩ ∈ GW := gw_in 230 (by decide +kernel) (by decide +kernel)
theorem gw_231 : Cond.code ⟨"TriangularSystems$Lattice", "gather", "(II)V"⟩ prog_3_method_4_code 4 none ∈ GW := gw_in 231 (by decide +kernel) (by decide +kernel)
theorem gw_232 : Cond.methodLink "TriangularSystems$Lattice" 45 ⟨"TriangularSystems$Lattice", "divideInTurn", "([J[JI)V"⟩ ∈ GW := gw_in 232 (by decide +kernel) (by decide +kernel)
theorem gw_233 : Cond.static ⟨"TriangularSystems$Lattice", "divideInTurn", "([J[JI)V"⟩ ∈ GW := gw_in 233 (by decide +kernel) (by decide +kernel)
theorem gw_234 : Cond.code ⟨"TriangularSystems$Lattice", "divideInTurn", "([J[JI)V"⟩ prog_3_method_6_code 4 none ∈ GW := gw_in 234 (by decide +kernel) (by decide +kernel)
theorem gw_235 : Cond.methodLink "TriangularSystems$Lattice" 53 ⟨"TriangularSystems$Lattice", "subtract", "([J[JJ)V"⟩ ∈ GW := gw_in 235 (by decide +kernel) (by decide +kernel)
theorem gw_236 : Cond.static ⟨"TriangularSystems$Lattice", "subtract", "([J[JJ)V"⟩ ∈ GW := gw_in 236 (by decide +kernel) (by decide +kernel)
theorem gw_237 : Cond.code ⟨"TriangularSystems$Lattice", "subtract", "([J[JJ)V"⟩ prog_3_method_8_code 5 none ∈ GW := gw_in 237 (by decide +kernel) (by decide +kernel)
theorem gw_238 : Cond.methodLink "TriangularSystems$Lattice" 57 ⟨"TriangularSystems$Lattice", "exchange", "([J[J)V"⟩ ∈ GW := gw_in 238 (by decide +kernel) (by decide +kernel)
theorem gw_239 : Cond.static ⟨"TriangularSystems$Lattice", "exchange", "([J[J)V"⟩ ∈ GW := gw_in 239 (by decide +kernel) (by decide +kernel)
theorem gw_240 : Cond.code ⟨"TriangularSystems$Lattice", "exchange", "([J[J)V"⟩ prog_3_method_7_code 5 none ∈ GW := gw_in 240 (by decide +kernel) (by decide +kernel)
theorem gw_241 : Cond.methodLink "TriangularSystems$Lattice" 49 ⟨"TriangularSystems$Lattice", "negate", "([J)V"⟩ ∈ GW := gw_in 241 (by decide +kernel) (by decide +kernel)
theorem gw_242 : Cond.static ⟨"TriangularSystems$Lattice", "negate", "([J)V"⟩ ∈ GW := gw_in 242 (by decide +kernel) (by decide +kernel)
theorem gw_243 : Cond.code ⟨"TriangularSystems$Lattice", "negate", "([J)V"⟩ prog_3_method_5_code 2 none ∈ GW := gw_in 243 (by decide +kernel) (by decide +kernel)
theorem gw_244 : Cond.methodLink "TriangularSystems$Lattice" 41 ⟨"TriangularSystems$Lattice", "lessen", "([JI)V"⟩ ∈ GW := gw_in 244 (by decide +kernel) (by decide +kernel)
theorem gw_246 : Cond.instanceMethod ⟨"TriangularSystems$Lattice", "lessen", "([JI)V"⟩ ∈ GW := gw_in 246 (by decide +kernel) (by decide +kernel)
theorem gw_247 : Cond.code ⟨"TriangularSystems$Lattice", "lessen", "([JI)V"⟩ prog_3_method_9_code 5 none ∈ GW := gw_in 247 (by decide +kernel) (by decide +kernel)
theorem gw_248 : Cond.methodLink "TriangularSystems$Lattice" 61 ⟨"java/lang/Math", "floorDiv", "(JJ)J"⟩ ∈ GW := gw_in 248 (by decide +kernel) (by decide +kernel)
theorem gw_249 : Cond.static ⟨"java/lang/Math", "floorDiv", "(JJ)J"⟩ ∈ GW := gw_in 249 (by decide +kernel) (by decide +kernel)
theorem gw_250 : Cond.code ⟨"java/lang/Math", "floorDiv", "(JJ)J"⟩ prog_10_method_49_code 6 (some FieldType.long) ∈ GW := gw_in 250 (by decide +kernel) (by decide +kernel)
theorem gw_253 : Cond.instanceMethod ⟨"TriangularSystems$Lattice", "isReached", "()Z"⟩ ∈ GW := gw_in 253 (by decide +kernel) (by decide +kernel)
theorem gw_254 : Cond.code ⟨"TriangularSystems$Lattice", "isReached", "()Z"⟩ prog_3_method_10_code 2 (some FieldType.boolean) ∈ GW := gw_in 254 (by decide +kernel) (by decide +kernel)
theorem gw_255 : Cond.methodLink "TriangularSystemsLaw" 118 ⟨"TriangularSystems", "solves", "(III)Z"⟩ ∈ GW := gw_in 255 (by decide +kernel) (by decide +kernel)
theorem gw_256 : Cond.instanceMethod ⟨"TriangularSystems", "solves", "(III)Z"⟩ ∈ GW := gw_in 256 (by decide +kernel) (by decide +kernel)
theorem gw_257 : Cond.selects "TriangularSystems" ⟨"TriangularSystems", "solves", "(III)Z"⟩ ⟨"TriangularSystems", "solves", "(III)Z"⟩ ∈ GW := gw_in 257 (by decide +kernel) (by decide +kernel)
theorem gw_258 : Cond.code ⟨"TriangularSystems", "solves", "(III)Z"⟩ prog_1_method_16_code 5 (some FieldType.boolean) ∈ GW := gw_in 258 (by decide +kernel) (by decide +kernel)
theorem gw_259 : Cond.methodLink "TriangularSystems" 132 ⟨"TriangularSystems", "excess", "(IJJJ)J"⟩ ∈ GW := gw_in 259 (by decide +kernel) (by decide +kernel)
theorem gw_261 : Cond.instanceMethod ⟨"TriangularSystems", "excess", "(IJJJ)J"⟩ ∈ GW := gw_in 261 (by decide +kernel) (by decide +kernel)
theorem gw_262 : Cond.code ⟨"TriangularSystems", "excess", "(IJJJ)J"⟩ prog_1_method_22_code 11 (some FieldType.long) ∈ GW := gw_in 262 (by decide +kernel) (by decide +kernel)
theorem gw_263 : Cond.methodLink "TriangularSystemsLaw" 122 ⟨"TriangularSystems", "count", "(I)I"⟩ ∈ GW := gw_in 263 (by decide +kernel) (by decide +kernel)
theorem gw_264 : Cond.instanceMethod ⟨"TriangularSystems", "count", "(I)I"⟩ ∈ GW := gw_in 264 (by decide +kernel) (by decide +kernel)
theorem gw_265 : Cond.selects "TriangularSystems" ⟨"TriangularSystems", "count", "(I)I"⟩ ⟨"TriangularSystems", "count", "(I)I"⟩ ∈ GW := gw_in 265 (by decide +kernel) (by decide +kernel)
theorem gw_266 : Cond.code ⟨"TriangularSystems", "count", "(I)I"⟩ prog_1_method_17_code 2 (some FieldType.int) ∈ GW := gw_in 266 (by decide +kernel) (by decide +kernel)
theorem gw_267 : Cond.methodLink "TriangularSystemsLaw" 126 ⟨"TriangularSystems", "clear", "()V"⟩ ∈ GW := gw_in 267 (by decide +kernel) (by decide +kernel)
theorem gw_268 : Cond.instanceMethod ⟨"TriangularSystems", "clear", "()V"⟩ ∈ GW := gw_in 268 (by decide +kernel) (by decide +kernel)
theorem gw_269 : Cond.selects "TriangularSystems" ⟨"TriangularSystems", "clear", "()V"⟩ ⟨"TriangularSystems", "clear", "()V"⟩ ∈ GW := gw_in 269 (by decide +kernel) (by decide +kernel)
theorem gw_270 : Cond.code ⟨"TriangularSystems", "clear", "()V"⟩ prog_1_method_18_code 1 none ∈ GW := gw_in 270 (by decide +kernel) (by decide +kernel)
theorem gw_271 : Cond.methodLink "TriangularSystemsLaw" 52 ⟨"TriangularSystemsLaw", "cell", "([II)I"⟩ ∈ GW := gw_in 271 (by decide +kernel) (by decide +kernel)
theorem gw_272 : Cond.static ⟨"TriangularSystemsLaw", "cell", "([II)I"⟩ ∈ GW := gw_in 272 (by decide +kernel) (by decide +kernel)
theorem gw_273 : Cond.code ⟨"TriangularSystemsLaw", "cell", "([II)I"⟩ method_2_code 2 (some FieldType.int) ∈ GW := gw_in 273 (by decide +kernel) (by decide +kernel)
theorem gw_274 : Cond.methodLink "TriangularSystemsLaw" 64 ⟨"TriangularSystemsLaw", "equation", "(LTriangularSystems;[J)I"⟩ ∈ GW := gw_in 274 (by decide +kernel) (by decide +kernel)
theorem gw_275 : Cond.static ⟨"TriangularSystemsLaw", "equation", "(LTriangularSystems;[J)I"⟩ ∈ GW := gw_in 275 (by decide +kernel) (by decide +kernel)
theorem gw_276 : Cond.codeWith ⟨"TriangularSystemsLaw", "equation", "(LTriangularSystems;[J)I"⟩ method_3_code 3 (some FieldType.int) [(0, 8, 11, 13)] ∈ GW := gw_in 276 (by decide +kernel) (by decide +kernel)
theorem gw_277 : Cond.classLink "TriangularSystemsLaw" 13 "java/lang/IllegalStateException" ∈ GW := gw_in 277 (by decide +kernel) (by decide +kernel)
theorem gw_278 : Cond.methodLink "TriangularSystemsLaw" 7 ⟨"TriangularSystems", "equation", "()I"⟩ ∈ GW := gw_in 278 (by decide +kernel) (by decide +kernel)
theorem gw_279 : Cond.instanceMethod ⟨"TriangularSystems", "equation", "()I"⟩ ∈ GW := gw_in 279 (by decide +kernel) (by decide +kernel)
theorem gw_280 : Cond.selects "TriangularSystems" ⟨"TriangularSystems", "equation", "()I"⟩ ⟨"TriangularSystems", "equation", "()I"⟩ ∈ GW := gw_in 280 (by decide +kernel) (by decide +kernel)
theorem gw_281 : Cond.code ⟨"TriangularSystems", "equation", "()I"⟩ prog_1_method_2_code 2 (some FieldType.int) ∈ GW := gw_in 281 (by decide +kernel) (by decide +kernel)
theorem gw_282 : Cond.classLink "TriangularSystems" 44 "java/lang/IllegalStateException" ∈ GW := gw_in 282 (by decide +kernel) (by decide +kernel)
theorem gw_283 : Cond.instantiable "java/lang/IllegalStateException" 6 ∈ GW := gw_in 283 (by decide +kernel) (by decide +kernel)
theorem gw_291 : Cond.selects "java/lang/IllegalStateException" ⟨"java/lang/Throwable", "fillInStackTrace", "(I)Ljava/lang/Throwable;"⟩ ⟨"java/lang/Throwable", "fillInStackTrace", "(I)Ljava/lang/Throwable;"⟩ ∈ GW := gw_in 291 (by decide +kernel) (by decide +kernel)
theorem gw_292 : Cond.selects "java/lang/IllegalStateException" ⟨"java/lang/Throwable", "fillInStackTrace", "()Ljava/lang/Throwable;"⟩ ⟨"java/lang/Throwable", "fillInStackTrace", "()Ljava/lang/Throwable;"⟩ ∈ GW := gw_in 292 (by decide +kernel) (by decide +kernel)
theorem gw_293 : Cond.lays "java/lang/IllegalStateException" "java/lang/Throwable" "cause" "Ljava/lang/Throwable;" ∈ GW := gw_in 293 (by decide +kernel) (by decide +kernel)
theorem gw_294 : Cond.lays "java/lang/Throwable" "java/lang/Throwable" "cause" "Ljava/lang/Throwable;" ∈ GW := gw_in 294 (by decide +kernel) (by decide +kernel)
theorem gw_295 : Cond.lays "java/lang/IllegalStateException" "java/lang/Throwable" "stackTrace" "[Ljava/lang/StackTraceElement;" ∈ GW := gw_in 295 (by decide +kernel) (by decide +kernel)
theorem gw_296 : Cond.lays "java/lang/Throwable" "java/lang/Throwable" "stackTrace" "[Ljava/lang/StackTraceElement;" ∈ GW := gw_in 296 (by decide +kernel) (by decide +kernel)
theorem gw_297 : Cond.lays "java/lang/IllegalStateException" "java/lang/Throwable" "suppressedExceptions" "Ljava/util/List;" ∈ GW := gw_in 297 (by decide +kernel) (by decide +kernel)
theorem gw_298 : Cond.lays "java/lang/Throwable" "java/lang/Throwable" "suppressedExceptions" "Ljava/util/List;" ∈ GW := gw_in 298 (by decide +kernel) (by decide +kernel)
theorem gw_299 : Cond.lays "java/lang/IllegalStateException" "java/lang/Throwable" "detailMessage" "Ljava/lang/String;" ∈ GW := gw_in 299 (by decide +kernel) (by decide +kernel)
theorem gw_300 : Cond.lays "java/lang/Throwable" "java/lang/Throwable" "detailMessage" "Ljava/lang/String;" ∈ GW := gw_in 300 (by decide +kernel) (by decide +kernel)
theorem gw_301 : Cond.lays "java/lang/IllegalStateException" "java/lang/Throwable" "backtrace" "Ljava/lang/Object;" ∈ GW := gw_in 301 (by decide +kernel) (by decide +kernel)
theorem gw_302 : Cond.lays "java/lang/Throwable" "java/lang/Throwable" "backtrace" "Ljava/lang/Object;" ∈ GW := gw_in 302 (by decide +kernel) (by decide +kernel)
theorem gw_303 : Cond.fieldLink "java/lang/Throwable" 198 "java/lang/Throwable" "backtrace" "Ljava/lang/Object;" ∈ GW := gw_in 303 (by decide +kernel) (by decide +kernel)
theorem gw_305 : Cond.instanceMethod ⟨"java/lang/Throwable", "<init>", "()V"⟩ ∈ GW := gw_in 305 (by decide +kernel) (by decide +kernel)
theorem gw_306 : Cond.code ⟨"java/lang/Throwable", "<init>", "()V"⟩ prog_13_method_1_code 1 none ∈ GW := gw_in 306 (by decide +kernel) (by decide +kernel)
theorem gw_307 : Cond.methodLink "java/lang/Throwable" 1 ⟨"java/lang/Object", "<init>", "()V"⟩ ∈ GW := gw_in 307 (by decide +kernel) (by decide +kernel)
theorem gw_308 : Cond.fieldLink "java/lang/Throwable" 13 "java/lang/Throwable" "UNASSIGNED_STACK" "[Ljava/lang/StackTraceElement;" ∈ GW := gw_in 308 (by decide +kernel) (by decide +kernel)
theorem gw_310 : Cond.fieldLink "java/lang/Throwable" 20 "java/lang/Throwable" "SUPPRESSED_SENTINEL" "Ljava/util/List;" ∈ GW := gw_in 310 (by decide +kernel) (by decide +kernel)
theorem gw_312 : Cond.methodLink "java/lang/Throwable" 27 ⟨"java/lang/Throwable", "fillInStackTrace", "()Ljava/lang/Throwable;"⟩ ∈ GW := gw_in 312 (by decide +kernel) (by decide +kernel)
theorem gw_313 : Cond.instanceMethod ⟨"java/lang/Throwable", "fillInStackTrace", "()Ljava/lang/Throwable;"⟩ ∈ GW := gw_in 313 (by decide +kernel) (by decide +kernel)
theorem gw_315 : Cond.selects "java/lang/IllegalArgumentException" ⟨"java/lang/Throwable", "fillInStackTrace", "()Ljava/lang/Throwable;"⟩ ⟨"java/lang/Throwable", "fillInStackTrace", "()Ljava/lang/Throwable;"⟩ ∈ GW := gw_in 315 (by decide +kernel) (by decide +kernel)
theorem gw_316 : Cond.selects "java/lang/IndexOutOfBoundsException" ⟨"java/lang/Throwable", "fillInStackTrace", "()Ljava/lang/Throwable;"⟩ ⟨"java/lang/Throwable", "fillInStackTrace", "()Ljava/lang/Throwable;"⟩ ∈ GW := gw_in 316 (by decide +kernel) (by decide +kernel)
theorem gw_318 : Cond.methodLink "java/lang/Throwable" 202 ⟨"java/lang/Throwable", "fillInStackTrace", "(I)Ljava/lang/Throwable;"⟩ ∈ GW := gw_in 318 (by decide +kernel) (by decide +kernel)
theorem gw_320 : Cond.instanceMethod ⟨"java/lang/Throwable", "fillInStackTrace", "(I)Ljava/lang/Throwable;"⟩ ∈ GW := gw_in 320 (by decide +kernel) (by decide +kernel)
theorem gw_321 : Cond.instantiable "java/lang/Throwable" 6 ∈ GW := gw_in 321 (by decide +kernel) (by decide +kernel)
theorem gw_324 : Cond.methodLink "TriangularSystems" 48 ⟨"java/lang/IllegalStateException", "<init>", "(Ljava/lang/String;)V"⟩ ∈ GW := gw_in 324 (by decide +kernel) (by decide +kernel)
theorem gw_325 : Cond.instanceMethod ⟨"java/lang/IllegalStateException", "<init>", "(Ljava/lang/String;)V"⟩ ∈ GW := gw_in 325 (by decide +kernel) (by decide +kernel)
theorem gw_326 : Cond.code ⟨"java/lang/IllegalStateException", "<init>", "(Ljava/lang/String;)V"⟩ prog_8_method_2_code 2 none ∈ GW := gw_in 326 (by decide +kernel) (by decide +kernel)
theorem gw_327 : Cond.methodLink "java/lang/IllegalStateException" 7 ⟨"java/lang/RuntimeException", "<init>", "(Ljava/lang/String;)V"⟩ ∈ GW := gw_in 327 (by decide +kernel) (by decide +kernel)
theorem gw_328 : Cond.instanceMethod ⟨"java/lang/RuntimeException", "<init>", "(Ljava/lang/String;)V"⟩ ∈ GW := gw_in 328 (by decide +kernel) (by decide +kernel)
theorem gw_329 : Cond.code ⟨"java/lang/RuntimeException", "<init>", "(Ljava/lang/String;)V"⟩ prog_11_method_2_code 2 none ∈ GW := gw_in 329 (by decide +kernel) (by decide +kernel)
theorem gw_330 : Cond.methodLink "java/lang/RuntimeException" 7 ⟨"java/lang/Exception", "<init>", "(Ljava/lang/String;)V"⟩ ∈ GW := gw_in 330 (by decide +kernel) (by decide +kernel)
theorem gw_331 : Cond.instanceMethod ⟨"java/lang/Exception", "<init>", "(Ljava/lang/String;)V"⟩ ∈ GW := gw_in 331 (by decide +kernel) (by decide +kernel)
theorem gw_332 : Cond.code ⟨"java/lang/Exception", "<init>", "(Ljava/lang/String;)V"⟩ prog_6_method_2_code 2 none ∈ GW := gw_in 332 (by decide +kernel) (by decide +kernel)
theorem gw_333 : Cond.methodLink "java/lang/Exception" 7 ⟨"java/lang/Throwable", "<init>", "(Ljava/lang/String;)V"⟩ ∈ GW := gw_in 333 (by decide +kernel) (by decide +kernel)
theorem gw_334 : Cond.instanceMethod ⟨"java/lang/Throwable", "<init>", "(Ljava/lang/String;)V"⟩ ∈ GW := gw_in 334 (by decide +kernel) (by decide +kernel)
theorem gw_335 : Cond.code ⟨"java/lang/Throwable", "<init>", "(Ljava/lang/String;)V"⟩ prog_13_method_2_code 2 none ∈ GW := gw_in 335 (by decide +kernel) (by decide +kernel)
theorem gw_337 : Cond.fieldLink "java/lang/Throwable" 31 "java/lang/Throwable" "detailMessage" "Ljava/lang/String;" ∈ GW := gw_in 337 (by decide +kernel) (by decide +kernel)
theorem gw_338 : Cond.fieldLink "java/lang/Throwable" 7 "java/lang/Throwable" "cause" "Ljava/lang/Throwable;" ∈ GW := gw_in 338 (by decide +kernel) (by decide +kernel)
theorem gw_339 : Cond.fieldLink "java/lang/Throwable" 17 "java/lang/Throwable" "stackTrace" "[Ljava/lang/StackTraceElement;" ∈ GW := gw_in 339 (by decide +kernel) (by decide +kernel)
theorem gw_340 : Cond.fieldLink "java/lang/Throwable" 24 "java/lang/Throwable" "suppressedExceptions" "Ljava/util/List;" ∈ GW := gw_in 340 (by decide +kernel) (by decide +kernel)
theorem gw_345 : Cond.lays "java/lang/IllegalStateException" "java/lang/Throwable" "depth" "I" ∈ GW := gw_in 345 (by decide +kernel) (by decide +kernel)
theorem gw_349 : Cond.arrayClass FieldType.byte ∈ GW := gw_in 349 (by decide +kernel) (by decide +kernel)
theorem gw_350 : Cond.methodLink "TriangularSystemsLaw" 71 ⟨"TriangularSystemsLaw", "put", "(LTriangularSystems;III[J)I"⟩ ∈ GW := gw_in 350 (by decide +kernel) (by decide +kernel)
theorem gw_351 : Cond.static ⟨"TriangularSystemsLaw", "put", "(LTriangularSystems;III[J)I"⟩ ∈ GW := gw_in 351 (by decide +kernel) (by decide +kernel)
theorem gw_352 : Cond.codeWith ⟨"TriangularSystemsLaw", "put", "(LTriangularSystems;III[J)I"⟩ method_4_code 6 (some FieldType.int) [(0, 19, 22, 19), (0, 19, 26, 21)] ∈ GW := gw_in 352 (by decide +kernel) (by decide +kernel)
theorem gw_353 : Cond.classLink "TriangularSystemsLaw" 19 "java/lang/IndexOutOfBoundsException" ∈ GW := gw_in 353 (by decide +kernel) (by decide +kernel)
theorem gw_354 : Cond.classLink "TriangularSystemsLaw" 21 "java/lang/IllegalArgumentException" ∈ GW := gw_in 354 (by decide +kernel) (by decide +kernel)
theorem gw_355 : Cond.methodLink "TriangularSystemsLaw" 15 ⟨"TriangularSystems", "put", "(III)Z"⟩ ∈ GW := gw_in 355 (by decide +kernel) (by decide +kernel)
theorem gw_356 : Cond.instanceMethod ⟨"TriangularSystems", "put", "(III)Z"⟩ ∈ GW := gw_in 356 (by decide +kernel) (by decide +kernel)
theorem gw_357 : Cond.selects "TriangularSystems" ⟨"TriangularSystems", "put", "(III)Z"⟩ ⟨"TriangularSystems", "put", "(III)Z"⟩ ∈ GW := gw_in 357 (by decide +kernel) (by decide +kernel)
theorem gw_358 : Cond.code ⟨"TriangularSystems", "put", "(III)Z"⟩ prog_1_method_3_code 5 (some FieldType.boolean) ∈ GW := gw_in 358 (by decide +kernel) (by decide +kernel)
theorem gw_359 : Cond.methodLink "TriangularSystems" 51 ⟨"TriangularSystems", "isPlace", "(II)Z"⟩ ∈ GW := gw_in 359 (by decide +kernel) (by decide +kernel)
theorem gw_361 : Cond.instanceMethod ⟨"TriangularSystems", "isPlace", "(II)Z"⟩ ∈ GW := gw_in 361 (by decide +kernel) (by decide +kernel)
theorem gw_362 : Cond.code ⟨"TriangularSystems", "isPlace", "(II)Z"⟩ prog_1_method_20_code 3 (some FieldType.boolean) ∈ GW := gw_in 362 (by decide +kernel) (by decide +kernel)
theorem gw_363 : Cond.classLink "TriangularSystems" 55 "java/lang/IndexOutOfBoundsException" ∈ GW := gw_in 363 (by decide +kernel) (by decide +kernel)
theorem gw_364 : Cond.instantiable "java/lang/IndexOutOfBoundsException" 6 ∈ GW := gw_in 364 (by decide +kernel) (by decide +kernel)
theorem gw_366 : Cond.selects "java/lang/IndexOutOfBoundsException" ⟨"java/lang/Throwable", "fillInStackTrace", "(I)Ljava/lang/Throwable;"⟩ ⟨"java/lang/Throwable", "fillInStackTrace", "(I)Ljava/lang/Throwable;"⟩ ∈ GW := gw_in 366 (by decide +kernel) (by decide +kernel)
theorem gw_367 : Cond.lays "java/lang/IndexOutOfBoundsException" "java/lang/Throwable" "cause" "Ljava/lang/Throwable;" ∈ GW := gw_in 367 (by decide +kernel) (by decide +kernel)
theorem gw_368 : Cond.lays "java/lang/IndexOutOfBoundsException" "java/lang/Throwable" "stackTrace" "[Ljava/lang/StackTraceElement;" ∈ GW := gw_in 368 (by decide +kernel) (by decide +kernel)
theorem gw_369 : Cond.lays "java/lang/IndexOutOfBoundsException" "java/lang/Throwable" "suppressedExceptions" "Ljava/util/List;" ∈ GW := gw_in 369 (by decide +kernel) (by decide +kernel)
theorem gw_370 : Cond.lays "java/lang/IndexOutOfBoundsException" "java/lang/Throwable" "detailMessage" "Ljava/lang/String;" ∈ GW := gw_in 370 (by decide +kernel) (by decide +kernel)
theorem gw_371 : Cond.lays "java/lang/IndexOutOfBoundsException" "java/lang/Throwable" "backtrace" "Ljava/lang/Object;" ∈ GW := gw_in 371 (by decide +kernel) (by decide +kernel)
theorem gw_373 : Cond.methodLink "TriangularSystems" 59 ⟨"java/lang/IndexOutOfBoundsException", "<init>", "(Ljava/lang/String;)V"⟩ ∈ GW := gw_in 373 (by decide +kernel) (by decide +kernel)
theorem gw_374 : Cond.instanceMethod ⟨"java/lang/IndexOutOfBoundsException", "<init>", "(Ljava/lang/String;)V"⟩ ∈ GW := gw_in 374 (by decide +kernel) (by decide +kernel)
theorem gw_375 : Cond.code ⟨"java/lang/IndexOutOfBoundsException", "<init>", "(Ljava/lang/String;)V"⟩ prog_9_method_2_code 2 none ∈ GW := gw_in 375 (by decide +kernel) (by decide +kernel)
theorem gw_376 : Cond.methodLink "java/lang/IndexOutOfBoundsException" 7 ⟨"java/lang/RuntimeException", "<init>", "(Ljava/lang/String;)V"⟩ ∈ GW := gw_in 376 (by decide +kernel) (by decide +kernel)
theorem gw_377 : Cond.lays "java/lang/IndexOutOfBoundsException" "java/lang/Throwable" "depth" "I" ∈ GW := gw_in 377 (by decide +kernel) (by decide +kernel)
theorem gw_379 : Cond.classLink "TriangularSystems" 60 "java/lang/IllegalArgumentException" ∈ GW := gw_in 379 (by decide +kernel) (by decide +kernel)
theorem gw_380 : Cond.instantiable "java/lang/IllegalArgumentException" 6 ∈ GW := gw_in 380 (by decide +kernel) (by decide +kernel)
theorem gw_382 : Cond.selects "java/lang/IllegalArgumentException" ⟨"java/lang/Throwable", "fillInStackTrace", "(I)Ljava/lang/Throwable;"⟩ ⟨"java/lang/Throwable", "fillInStackTrace", "(I)Ljava/lang/Throwable;"⟩ ∈ GW := gw_in 382 (by decide +kernel) (by decide +kernel)
theorem gw_383 : Cond.lays "java/lang/IllegalArgumentException" "java/lang/Throwable" "cause" "Ljava/lang/Throwable;" ∈ GW := gw_in 383 (by decide +kernel) (by decide +kernel)
theorem gw_384 : Cond.lays "java/lang/IllegalArgumentException" "java/lang/Throwable" "stackTrace" "[Ljava/lang/StackTraceElement;" ∈ GW := gw_in 384 (by decide +kernel) (by decide +kernel)
theorem gw_385 : Cond.lays "java/lang/IllegalArgumentException" "java/lang/Throwable" "suppressedExceptions" "Ljava/util/List;" ∈ GW := gw_in 385 (by decide +kernel) (by decide +kernel)
theorem gw_386 : Cond.lays "java/lang/IllegalArgumentException" "java/lang/Throwable" "detailMessage" "Ljava/lang/String;" ∈ GW := gw_in 386 (by decide +kernel) (by decide +kernel)
theorem gw_387 : Cond.lays "java/lang/IllegalArgumentException" "java/lang/Throwable" "backtrace" "Ljava/lang/Object;" ∈ GW := gw_in 387 (by decide +kernel) (by decide +kernel)
theorem gw_389 : Cond.methodLink "TriangularSystems" 64 ⟨"java/lang/IllegalArgumentException", "<init>", "(Ljava/lang/String;)V"⟩ ∈ GW := gw_in 389 (by decide +kernel) (by decide +kernel)
theorem gw_390 : Cond.instanceMethod ⟨"java/lang/IllegalArgumentException", "<init>", "(Ljava/lang/String;)V"⟩ ∈ GW := gw_in 390 (by decide +kernel) (by decide +kernel)
theorem gw_391 : Cond.code ⟨"java/lang/IllegalArgumentException", "<init>", "(Ljava/lang/String;)V"⟩ prog_7_method_2_code 2 none ∈ GW := gw_in 391 (by decide +kernel) (by decide +kernel)
theorem gw_392 : Cond.methodLink "java/lang/IllegalArgumentException" 7 ⟨"java/lang/RuntimeException", "<init>", "(Ljava/lang/String;)V"⟩ ∈ GW := gw_in 392 (by decide +kernel) (by decide +kernel)
theorem gw_393 : Cond.lays "java/lang/IllegalArgumentException" "java/lang/Throwable" "depth" "I" ∈ GW := gw_in 393 (by decide +kernel) (by decide +kernel)
theorem gw_395 : Cond.methodLink "TriangularSystemsLaw" 75 ⟨"TriangularSystemsLaw", "at", "(LTriangularSystems;II[J)I"⟩ ∈ GW := gw_in 395 (by decide +kernel) (by decide +kernel)
theorem gw_396 : Cond.static ⟨"TriangularSystemsLaw", "at", "(LTriangularSystems;II[J)I"⟩ ∈ GW := gw_in 396 (by decide +kernel) (by decide +kernel)
theorem gw_397 : Cond.codeWith ⟨"TriangularSystemsLaw", "at", "(LTriangularSystems;II[J)I"⟩ method_5_code 5 (some FieldType.int) [(0, 10, 13, 19)] ∈ GW := gw_in 397 (by decide +kernel) (by decide +kernel)
theorem gw_398 : Cond.methodLink "TriangularSystemsLaw" 23 ⟨"TriangularSystems", "at", "(II)I"⟩ ∈ GW := gw_in 398 (by decide +kernel) (by decide +kernel)
theorem gw_399 : Cond.instanceMethod ⟨"TriangularSystems", "at", "(II)I"⟩ ∈ GW := gw_in 399 (by decide +kernel) (by decide +kernel)
theorem gw_400 : Cond.selects "TriangularSystems" ⟨"TriangularSystems", "at", "(II)I"⟩ ⟨"TriangularSystems", "at", "(II)I"⟩ ∈ GW := gw_in 400 (by decide +kernel) (by decide +kernel)
theorem gw_401 : Cond.code ⟨"TriangularSystems", "at", "(II)I"⟩ prog_1_method_4_code 3 (some FieldType.int) ∈ GW := gw_in 401 (by decide +kernel) (by decide +kernel)
theorem gw_402 : Cond.methodLink "TriangularSystemsLaw" 91 ⟨"TriangularSystemsLaw", "plain", "(LTriangularSystems;II[J)I"⟩ ∈ GW := gw_in 402 (by decide +kernel) (by decide +kernel)
theorem gw_403 : Cond.static ⟨"TriangularSystemsLaw", "plain", "(LTriangularSystems;II[J)I"⟩ ∈ GW := gw_in 403 (by decide +kernel) (by decide +kernel)
theorem gw_404 : Cond.codeWith ⟨"TriangularSystemsLaw", "plain", "(LTriangularSystems;II[J)I"⟩ method_6_code 5 (some FieldType.int) [(0, 9, 12, 19), (0, 9, 16, 13), (0, 9, 20, 21)] ∈ GW := gw_in 404 (by decide +kernel) (by decide +kernel)
theorem gw_405 : Cond.methodLink "TriangularSystemsLaw" 27 ⟨"TriangularSystems", "plain", "(II)J"⟩ ∈ GW := gw_in 405 (by decide +kernel) (by decide +kernel)
theorem gw_406 : Cond.instanceMethod ⟨"TriangularSystems", "plain", "(II)J"⟩ ∈ GW := gw_in 406 (by decide +kernel) (by decide +kernel)
theorem gw_407 : Cond.selects "TriangularSystems" ⟨"TriangularSystems", "plain", "(II)J"⟩ ⟨"TriangularSystems", "plain", "(II)J"⟩ ∈ GW := gw_in 407 (by decide +kernel) (by decide +kernel)
theorem gw_408 : Cond.code ⟨"TriangularSystems", "plain", "(II)J"⟩ prog_1_method_8_code 3 (some FieldType.long) ∈ GW := gw_in 408 (by decide +kernel) (by decide +kernel)
theorem gw_409 : Cond.methodLink "TriangularSystems" 79 ⟨"TriangularSystems", "isUnknown", "(I)Z"⟩ ∈ GW := gw_in 409 (by decide +kernel) (by decide +kernel)
theorem gw_411 : Cond.instanceMethod ⟨"TriangularSystems", "isUnknown", "(I)Z"⟩ ∈ GW := gw_in 411 (by decide +kernel) (by decide +kernel)
theorem gw_412 : Cond.code ⟨"TriangularSystems", "isUnknown", "(I)Z"⟩ prog_1_method_19_code 2 (some FieldType.boolean) ∈ GW := gw_in 412 (by decide +kernel) (by decide +kernel)
theorem gw_415 : Cond.methodLink "TriangularSystems" 87 ⟨"TriangularSystems", "isPart", "(I)Z"⟩ ∈ GW := gw_in 415 (by decide +kernel) (by decide +kernel)
theorem gw_416 : Cond.static ⟨"TriangularSystems", "isPart", "(I)Z"⟩ ∈ GW := gw_in 416 (by decide +kernel) (by decide +kernel)
theorem gw_417 : Cond.code ⟨"TriangularSystems", "isPart", "(I)Z"⟩ prog_1_method_21_code 1 (some FieldType.boolean) ∈ GW := gw_in 417 (by decide +kernel) (by decide +kernel)
theorem gw_421 : Cond.instanceMethod ⟨"TriangularSystems$Elimination", "plainPart", "(II)J"⟩ ∈ GW := gw_in 421 (by decide +kernel) (by decide +kernel)
theorem gw_422 : Cond.code ⟨"TriangularSystems$Elimination", "plainPart", "(II)J"⟩ prog_2_method_12_code 4 (some FieldType.long) ∈ GW := gw_in 422 (by decide +kernel) (by decide +kernel)
theorem gw_424 : Cond.static ⟨"TriangularSystems", "lowestPart", "(JJI)J"⟩ ∈ GW := gw_in 424 (by decide +kernel) (by decide +kernel)
theorem gw_425 : Cond.code ⟨"TriangularSystems", "lowestPart", "(JJI)J"⟩ prog_1_method_29_code 9 (some FieldType.long) ∈ GW := gw_in 425 (by decide +kernel) (by decide +kernel)
theorem gw_426 : Cond.methodLink "TriangularSystems" 161 ⟨"TriangularSystems", "commonDivisor", "(JJ)J"⟩ ∈ GW := gw_in 426 (by decide +kernel) (by decide +kernel)
theorem gw_427 : Cond.methodLink "TriangularSystemsLaw" 94 ⟨"TriangularSystemsLaw", "direction", "(LTriangularSystems;III[J)I"⟩ ∈ GW := gw_in 427 (by decide +kernel) (by decide +kernel)
theorem gw_428 : Cond.static ⟨"TriangularSystemsLaw", "direction", "(LTriangularSystems;III[J)I"⟩ ∈ GW := gw_in 428 (by decide +kernel) (by decide +kernel)
theorem gw_429 : Cond.codeWith ⟨"TriangularSystemsLaw", "direction", "(LTriangularSystems;III[J)I"⟩ method_7_code 6 (some FieldType.int) [(0, 11, 14, 19), (0, 11, 18, 21)] ∈ GW := gw_in 429 (by decide +kernel) (by decide +kernel)
theorem gw_430 : Cond.methodLink "TriangularSystemsLaw" 31 ⟨"TriangularSystems", "direction", "(III)J"⟩ ∈ GW := gw_in 430 (by decide +kernel) (by decide +kernel)
theorem gw_431 : Cond.instanceMethod ⟨"TriangularSystems", "direction", "(III)J"⟩ ∈ GW := gw_in 431 (by decide +kernel) (by decide +kernel)
theorem gw_432 : Cond.selects "TriangularSystems" ⟨"TriangularSystems", "direction", "(III)J"⟩ ⟨"TriangularSystems", "direction", "(III)J"⟩ ∈ GW := gw_in 432 (by decide +kernel) (by decide +kernel)
theorem gw_433 : Cond.code ⟨"TriangularSystems", "direction", "(III)J"⟩ prog_1_method_9_code 5 (some FieldType.long) ∈ GW := gw_in 433 (by decide +kernel) (by decide +kernel)
theorem gw_437 : Cond.instanceMethod ⟨"TriangularSystems$Elimination", "directionPart", "(III)J"⟩ ∈ GW := gw_in 437 (by decide +kernel) (by decide +kernel)
theorem gw_438 : Cond.code ⟨"TriangularSystems$Elimination", "directionPart", "(III)J"⟩ prog_2_method_13_code 5 (some FieldType.long) ∈ GW := gw_in 438 (by decide +kernel) (by decide +kernel)
theorem gw_439 : Cond.methodLink "TriangularSystemsLaw" 102 ⟨"TriangularSystemsLaw", "base", "(LTriangularSystems;II[J)I"⟩ ∈ GW := gw_in 439 (by decide +kernel) (by decide +kernel)
theorem gw_440 : Cond.static ⟨"TriangularSystemsLaw", "base", "(LTriangularSystems;II[J)I"⟩ ∈ GW := gw_in 440 (by decide +kernel) (by decide +kernel)
theorem gw_441 : Cond.codeWith ⟨"TriangularSystemsLaw", "base", "(LTriangularSystems;II[J)I"⟩ method_8_code 5 (some FieldType.int) [(0, 9, 12, 19)] ∈ GW := gw_in 441 (by decide +kernel) (by decide +kernel)
theorem gw_442 : Cond.methodLink "TriangularSystemsLaw" 35 ⟨"TriangularSystems", "base", "(II)J"⟩ ∈ GW := gw_in 442 (by decide +kernel) (by decide +kernel)
theorem gw_443 : Cond.instanceMethod ⟨"TriangularSystems", "base", "(II)J"⟩ ∈ GW := gw_in 443 (by decide +kernel) (by decide +kernel)
theorem gw_444 : Cond.selects "TriangularSystems" ⟨"TriangularSystems", "base", "(II)J"⟩ ⟨"TriangularSystems", "base", "(II)J"⟩ ∈ GW := gw_in 444 (by decide +kernel) (by decide +kernel)
theorem gw_445 : Cond.code ⟨"TriangularSystems", "base", "(II)J"⟩ prog_1_method_11_code 3 (some FieldType.long) ∈ GW := gw_in 445 (by decide +kernel) (by decide +kernel)
theorem gw_448 : Cond.instanceMethod ⟨"TriangularSystems$Lattice", "members", "()I"⟩ ∈ GW := gw_in 448 (by decide +kernel) (by decide +kernel)
theorem gw_449 : Cond.code ⟨"TriangularSystems$Lattice", "members", "()I"⟩ prog_3_method_11_code 3 (some FieldType.int) ∈ GW := gw_in 449 (by decide +kernel) (by decide +kernel)
theorem gw_453 : Cond.instanceMethod ⟨"TriangularSystems$Lattice", "member", "(II)J"⟩ ∈ GW := gw_in 453 (by decide +kernel) (by decide +kernel)
theorem gw_454 : Cond.code ⟨"TriangularSystems$Lattice", "member", "(II)J"⟩ prog_3_method_12_code 3 (some FieldType.long) ∈ GW := gw_in 454 (by decide +kernel) (by decide +kernel)
theorem gw_455 : Cond.methodLink "TriangularSystems$Lattice" 65 ⟨"TriangularSystems$Lattice", "members", "()I"⟩ ∈ GW := gw_in 455 (by decide +kernel) (by decide +kernel)
theorem gw_456 : Cond.methodLink "TriangularSystemsLaw" 105 ⟨"TriangularSystemsLaw", "least", "(LTriangularSystems;I[J)I"⟩ ∈ GW := gw_in 456 (by decide +kernel) (by decide +kernel)
theorem gw_457 : Cond.static ⟨"TriangularSystemsLaw", "least", "(LTriangularSystems;I[J)I"⟩ ∈ GW := gw_in 457 (by decide +kernel) (by decide +kernel)
theorem gw_458 : Cond.codeWith ⟨"TriangularSystemsLaw", "least", "(LTriangularSystems;I[J)I"⟩ method_9_code 4 (some FieldType.int) [(0, 8, 11, 19), (0, 8, 14, 13)] ∈ GW := gw_in 458 (by decide +kernel) (by decide +kernel)
theorem gw_459 : Cond.methodLink "TriangularSystemsLaw" 38 ⟨"TriangularSystems", "least", "(I)J"⟩ ∈ GW := gw_in 459 (by decide +kernel) (by decide +kernel)
theorem gw_460 : Cond.instanceMethod ⟨"TriangularSystems", "least", "(I)J"⟩ ∈ GW := gw_in 460 (by decide +kernel) (by decide +kernel)
theorem gw_461 : Cond.selects "TriangularSystems" ⟨"TriangularSystems", "least", "(I)J"⟩ ⟨"TriangularSystems", "least", "(I)J"⟩ ∈ GW := gw_in 461 (by decide +kernel) (by decide +kernel)
theorem gw_462 : Cond.code ⟨"TriangularSystems", "least", "(I)J"⟩ prog_1_method_12_code 2 (some FieldType.long) ∈ GW := gw_in 462 (by decide +kernel) (by decide +kernel)
theorem gw_464 : Cond.methodLink "TriangularSystemsLaw" 109 ⟨"TriangularSystemsLaw", "nearest", "(LTriangularSystems;II[J)I"⟩ ∈ GW := gw_in 464 (by decide +kernel) (by decide +kernel)
theorem gw_465 : Cond.static ⟨"TriangularSystemsLaw", "nearest", "(LTriangularSystems;II[J)I"⟩ ∈ GW := gw_in 465 (by decide +kernel) (by decide +kernel)
theorem gw_466 : Cond.codeWith ⟨"TriangularSystemsLaw", "nearest", "(LTriangularSystems;II[J)I"⟩ method_10_code 5 (some FieldType.int) [(0, 9, 12, 19), (0, 9, 16, 21)] ∈ GW := gw_in 466 (by decide +kernel) (by decide +kernel)
theorem gw_467 : Cond.methodLink "TriangularSystemsLaw" 42 ⟨"TriangularSystems", "nearest", "(II)J"⟩ ∈ GW := gw_in 467 (by decide +kernel) (by decide +kernel)
theorem gw_468 : Cond.instanceMethod ⟨"TriangularSystems", "nearest", "(II)J"⟩ ∈ GW := gw_in 468 (by decide +kernel) (by decide +kernel)
theorem gw_469 : Cond.selects "TriangularSystems" ⟨"TriangularSystems", "nearest", "(II)J"⟩ ⟨"TriangularSystems", "nearest", "(II)J"⟩ ∈ GW := gw_in 469 (by decide +kernel) (by decide +kernel)
theorem gw_470 : Cond.code ⟨"TriangularSystems", "nearest", "(II)J"⟩ prog_1_method_13_code 3 (some FieldType.long) ∈ GW := gw_in 470 (by decide +kernel) (by decide +kernel)
theorem gw_471 : Cond.methodLink "TriangularSystems" 123 ⟨"TriangularSystems", "eliminateNearest", "()V"⟩ ∈ GW := gw_in 471 (by decide +kernel) (by decide +kernel)
theorem gw_473 : Cond.instanceMethod ⟨"TriangularSystems", "eliminateNearest", "()V"⟩ ∈ GW := gw_in 473 (by decide +kernel) (by decide +kernel)
theorem gw_474 : Cond.code ⟨"TriangularSystems", "eliminateNearest", "()V"⟩ prog_1_method_25_code 4 none ∈ GW := gw_in 474 (by decide +kernel) (by decide +kernel)
theorem gw_475 : Cond.methodLink "TriangularSystems" 147 ⟨"TriangularSystems", "columnProduct", "(II)J"⟩ ∈ GW := gw_in 475 (by decide +kernel) (by decide +kernel)
theorem gw_477 : Cond.instanceMethod ⟨"TriangularSystems", "columnProduct", "(II)J"⟩ ∈ GW := gw_in 477 (by decide +kernel) (by decide +kernel)
theorem gw_478 : Cond.code ⟨"TriangularSystems", "columnProduct", "(II)J"⟩ prog_1_method_26_code 6 (some FieldType.long) ∈ GW := gw_in 478 (by decide +kernel) (by decide +kernel)
theorem gw_479 : Cond.methodLink "TriangularSystemsLaw" 112 ⟨"TriangularSystemsLaw", "squares", "(LTriangularSystems;I[J)I"⟩ ∈ GW := gw_in 479 (by decide +kernel) (by decide +kernel)
theorem gw_480 : Cond.static ⟨"TriangularSystemsLaw", "squares", "(LTriangularSystems;I[J)I"⟩ ∈ GW := gw_in 480 (by decide +kernel) (by decide +kernel)
theorem gw_481 : Cond.codeWith ⟨"TriangularSystemsLaw", "squares", "(LTriangularSystems;I[J)I"⟩ method_11_code 4 (some FieldType.int) [(0, 8, 11, 21)] ∈ GW := gw_in 481 (by decide +kernel) (by decide +kernel)
theorem gw_482 : Cond.methodLink "TriangularSystemsLaw" 45 ⟨"TriangularSystems", "squares", "(I)J"⟩ ∈ GW := gw_in 482 (by decide +kernel) (by decide +kernel)
theorem gw_483 : Cond.instanceMethod ⟨"TriangularSystems", "squares", "(I)J"⟩ ∈ GW := gw_in 483 (by decide +kernel) (by decide +kernel)
theorem gw_484 : Cond.selects "TriangularSystems" ⟨"TriangularSystems", "squares", "(I)J"⟩ ⟨"TriangularSystems", "squares", "(I)J"⟩ ∈ GW := gw_in 484 (by decide +kernel) (by decide +kernel)
theorem gw_485 : Cond.code ⟨"TriangularSystems", "squares", "(I)J"⟩ prog_1_method_14_code 2 (some FieldType.long) ∈ GW := gw_in 485 (by decide +kernel) (by decide +kernel)
theorem gw_486 : Cond.methodLink "TriangularSystemsLaw" 115 ⟨"TriangularSystemsLaw", "inBox", "(LTriangularSystems;I[J)I"⟩ ∈ GW := gw_in 486 (by decide +kernel) (by decide +kernel)
theorem gw_487 : Cond.static ⟨"TriangularSystemsLaw", "inBox", "(LTriangularSystems;I[J)I"⟩ ∈ GW := gw_in 487 (by decide +kernel) (by decide +kernel)
theorem gw_488 : Cond.codeWith ⟨"TriangularSystemsLaw", "inBox", "(LTriangularSystems;I[J)I"⟩ method_12_code 4 (some FieldType.int) [(0, 9, 12, 21)] ∈ GW := gw_in 488 (by decide +kernel) (by decide +kernel)
theorem gw_489 : Cond.methodLink "TriangularSystemsLaw" 48 ⟨"TriangularSystems", "inBox", "(I)I"⟩ ∈ GW := gw_in 489 (by decide +kernel) (by decide +kernel)
theorem gw_490 : Cond.instanceMethod ⟨"TriangularSystems", "inBox", "(I)I"⟩ ∈ GW := gw_in 490 (by decide +kernel) (by decide +kernel)
theorem gw_491 : Cond.selects "TriangularSystems" ⟨"TriangularSystems", "inBox", "(I)I"⟩ ⟨"TriangularSystems", "inBox", "(I)I"⟩ ∈ GW := gw_in 491 (by decide +kernel) (by decide +kernel)
theorem gw_492 : Cond.code ⟨"TriangularSystems", "inBox", "(I)I"⟩ prog_1_method_15_code 7 (some FieldType.int) ∈ GW := gw_in 492 (by decide +kernel) (by decide +kernel)
theorem gw_494 : Cond.methodLink "TriangularSystems" 128 ⟨"TriangularSystems", "fittingFirsts", "(III)I"⟩ ∈ GW := gw_in 494 (by decide +kernel) (by decide +kernel)
theorem gw_496 : Cond.instanceMethod ⟨"TriangularSystems", "fittingFirsts", "(III)I"⟩ ∈ GW := gw_in 496 (by decide +kernel) (by decide +kernel)
theorem gw_497 : Cond.code ⟨"TriangularSystems", "fittingFirsts", "(III)I"⟩ prog_1_method_23_code 9 (some FieldType.int) ∈ GW := gw_in 497 (by decide +kernel) (by decide +kernel)
theorem gw_498 : Cond.classLink "TriangularSystemsLaw" 61 "TriangularSystemsModel" ∈ GW := gw_in 498 (by decide +kernel) (by decide +kernel)
theorem gw_499 : Cond.instantiable "TriangularSystemsModel" 23 ∈ GW := gw_in 499 (by decide +kernel) (by decide +kernel)
theorem gw_500 : Cond.methodLink "TriangularSystemsLaw" 63 ⟨"TriangularSystemsModel", "<init>", "(I)V"⟩ ∈ GW := gw_in 500 (by decide +kernel) (by decide +kernel)
theorem gw_501 : Cond.instanceMethod ⟨"TriangularSystemsModel", "<init>", "(I)V"⟩ ∈ GW := gw_in 501 (by decide +kernel) (by decide +kernel)
theorem gw_502 : Cond.code ⟨"TriangularSystemsModel", "<init>", "(I)V"⟩ prog_5_method_1_code 2 none ∈ GW := gw_in 502 (by decide +kernel) (by decide +kernel)
theorem gw_503 : Cond.methodLink "TriangularSystemsModel" 1 ⟨"java/lang/Object", "<init>", "()V"⟩ ∈ GW := gw_in 503 (by decide +kernel) (by decide +kernel)
theorem gw_504 : Cond.fieldLink "TriangularSystemsModel" 58 "TriangularSystemsModel" "code" "I" ∈ GW := gw_in 504 (by decide +kernel) (by decide +kernel)
theorem gw_505 : Cond.fieldLink "TriangularSystemsModel" 54 "TriangularSystemsModel" "n" "I" ∈ GW := gw_in 505 (by decide +kernel) (by decide +kernel)
theorem gw_506 : Cond.fieldLink "TriangularSystemsModel" 72 "TriangularSystemsModel" "m" "I" ∈ GW := gw_in 506 (by decide +kernel) (by decide +kernel)
theorem gw_507 : Cond.fieldLink "TriangularSystemsModel" 7 "TriangularSystemsModel" "cells" "[I" ∈ GW := gw_in 507 (by decide +kernel) (by decide +kernel)
theorem gw_508 : Cond.fieldLink "TriangularSystemsModel" 95 "TriangularSystemsModel" "rank" "I" ∈ GW := gw_in 508 (by decide +kernel) (by decide +kernel)
theorem gw_509 : Cond.fieldLink "TriangularSystemsModel" 13 "TriangularSystemsModel" "columns" "[I" ∈ GW := gw_in 509 (by decide +kernel) (by decide +kernel)
theorem gw_510 : Cond.fieldLink "TriangularSystemsModel" 16 "TriangularSystemsModel" "lines" "[I" ∈ GW := gw_in 510 (by decide +kernel) (by decide +kernel)
theorem gw_511 : Cond.fieldLink "TriangularSystemsModel" 19 "TriangularSystemsModel" "isFree" "[Z" ∈ GW := gw_in 511 (by decide +kernel) (by decide +kernel)
theorem gw_512 : Cond.fieldLink "TriangularSystemsModel" 23 "TriangularSystemsModel" "square" "[J" ∈ GW := gw_in 512 (by decide +kernel) (by decide +kernel)
theorem gw_513 : Cond.fieldLink "TriangularSystemsModel" 27 "TriangularSystemsModel" "comes" "[J" ∈ GW := gw_in 513 (by decide +kernel) (by decide +kernel)
theorem gw_514 : Cond.fieldLink "TriangularSystemsModel" 30 "TriangularSystemsModel" "answer" "[J" ∈ GW := gw_in 514 (by decide +kernel) (by decide +kernel)
theorem gw_515 : Cond.fieldLink "TriangularSystemsModel" 106 "TriangularSystemsModel" "all" "J" ∈ GW := gw_in 515 (by decide +kernel) (by decide +kernel)
theorem gw_516 : Cond.fieldLink "TriangularSystemsModel" 65 "TriangularSystemsModel" "up" "J" ∈ GW := gw_in 516 (by decide +kernel) (by decide +kernel)
theorem gw_517 : Cond.fieldLink "TriangularSystemsModel" 69 "TriangularSystemsModel" "down" "J" ∈ GW := gw_in 517 (by decide +kernel) (by decide +kernel)
theorem gw_518 : Cond.fieldLink "TriangularSystemsModel" 33 "TriangularSystemsModel" "spare" "[J" ∈ GW := gw_in 518 (by decide +kernel) (by decide +kernel)
theorem gw_519 : Cond.fieldLink "TriangularSystemsModel" 139 "TriangularSystemsModel" "size" "I" ∈ GW := gw_in 519 (by decide +kernel) (by decide +kernel)
theorem gw_520 : Cond.fieldLink "TriangularSystemsModel" 36 "TriangularSystemsModel" "bases" "[J" ∈ GW := gw_in 520 (by decide +kernel) (by decide +kernel)
theorem gw_521 : Cond.fieldLink "TriangularSystemsModel" 39 "TriangularSystemsModel" "begins" "[I" ∈ GW := gw_in 521 (by decide +kernel) (by decide +kernel)
theorem gw_522 : Cond.fieldLink "TriangularSystemsModel" 42 "TriangularSystemsModel" "trial" "[J" ∈ GW := gw_in 522 (by decide +kernel) (by decide +kernel)
theorem gw_523 : Cond.fieldLink "TriangularSystemsModel" 45 "TriangularSystemsModel" "most" "[J" ∈ GW := gw_in 523 (by decide +kernel) (by decide +kernel)
theorem gw_524 : Cond.fieldLink "TriangularSystemsModel" 48 "TriangularSystemsModel" "near" "[J" ∈ GW := gw_in 524 (by decide +kernel) (by decide +kernel)
theorem gw_525 : Cond.fieldLink "TriangularSystemsModel" 165 "TriangularSystemsModel" "below" "J" ∈ GW := gw_in 525 (by decide +kernel) (by decide +kernel)
theorem gw_526 : Cond.fieldLink "TriangularSystemsModel" 51 "TriangularSystemsModel" "turned" "[J" ∈ GW := gw_in 526 (by decide +kernel) (by decide +kernel)
theorem gw_527 : Cond.lays "TriangularSystemsModel" "TriangularSystemsModel" "code" "I" ∈ GW := gw_in 527 (by decide +kernel) (by decide +kernel)
theorem gw_529 : Cond.laysFinal "TriangularSystemsModel" "TriangularSystemsModel" "n" "I" ∈ GW := gw_in 529 (by decide +kernel) (by decide +kernel)
theorem gw_531 : Cond.lays "TriangularSystemsModel" "TriangularSystemsModel" "m" "I" ∈ GW := gw_in 531 (by decide +kernel) (by decide +kernel)
theorem gw_533 : Cond.laysFinal "TriangularSystemsModel" "TriangularSystemsModel" "cells" "[I" ∈ GW := gw_in 533 (by decide +kernel) (by decide +kernel)
theorem gw_535 : Cond.lays "TriangularSystemsModel" "TriangularSystemsModel" "rank" "I" ∈ GW := gw_in 535 (by decide +kernel) (by decide +kernel)
theorem gw_537 : Cond.laysFinal "TriangularSystemsModel" "TriangularSystemsModel" "columns" "[I" ∈ GW := gw_in 537 (by decide +kernel) (by decide +kernel)
theorem gw_539 : Cond.laysFinal "TriangularSystemsModel" "TriangularSystemsModel" "lines" "[I" ∈ GW := gw_in 539 (by decide +kernel) (by decide +kernel)
theorem gw_541 : Cond.laysFinal "TriangularSystemsModel" "TriangularSystemsModel" "isFree" "[Z" ∈ GW := gw_in 541 (by decide +kernel) (by decide +kernel)
theorem gw_543 : Cond.laysFinal "TriangularSystemsModel" "TriangularSystemsModel" "square" "[J" ∈ GW := gw_in 543 (by decide +kernel) (by decide +kernel)
theorem gw_545 : Cond.laysFinal "TriangularSystemsModel" "TriangularSystemsModel" "comes" "[J" ∈ GW := gw_in 545 (by decide +kernel) (by decide +kernel)
theorem gw_547 : Cond.laysFinal "TriangularSystemsModel" "TriangularSystemsModel" "answer" "[J" ∈ GW := gw_in 547 (by decide +kernel) (by decide +kernel)
theorem gw_549 : Cond.lays "TriangularSystemsModel" "TriangularSystemsModel" "all" "J" ∈ GW := gw_in 549 (by decide +kernel) (by decide +kernel)
theorem gw_551 : Cond.lays "TriangularSystemsModel" "TriangularSystemsModel" "up" "J" ∈ GW := gw_in 551 (by decide +kernel) (by decide +kernel)
theorem gw_553 : Cond.lays "TriangularSystemsModel" "TriangularSystemsModel" "down" "J" ∈ GW := gw_in 553 (by decide +kernel) (by decide +kernel)
theorem gw_555 : Cond.laysFinal "TriangularSystemsModel" "TriangularSystemsModel" "spare" "[J" ∈ GW := gw_in 555 (by decide +kernel) (by decide +kernel)
theorem gw_557 : Cond.lays "TriangularSystemsModel" "TriangularSystemsModel" "size" "I" ∈ GW := gw_in 557 (by decide +kernel) (by decide +kernel)
theorem gw_559 : Cond.laysFinal "TriangularSystemsModel" "TriangularSystemsModel" "bases" "[J" ∈ GW := gw_in 559 (by decide +kernel) (by decide +kernel)
theorem gw_561 : Cond.laysFinal "TriangularSystemsModel" "TriangularSystemsModel" "begins" "[I" ∈ GW := gw_in 561 (by decide +kernel) (by decide +kernel)
theorem gw_563 : Cond.laysFinal "TriangularSystemsModel" "TriangularSystemsModel" "trial" "[J" ∈ GW := gw_in 563 (by decide +kernel) (by decide +kernel)
theorem gw_565 : Cond.laysFinal "TriangularSystemsModel" "TriangularSystemsModel" "most" "[J" ∈ GW := gw_in 565 (by decide +kernel) (by decide +kernel)
theorem gw_567 : Cond.laysFinal "TriangularSystemsModel" "TriangularSystemsModel" "near" "[J" ∈ GW := gw_in 567 (by decide +kernel) (by decide +kernel)
theorem gw_569 : Cond.lays "TriangularSystemsModel" "TriangularSystemsModel" "below" "J" ∈ GW := gw_in 569 (by decide +kernel) (by decide +kernel)
theorem gw_571 : Cond.laysFinal "TriangularSystemsModel" "TriangularSystemsModel" "turned" "[J" ∈ GW := gw_in 571 (by decide +kernel) (by decide +kernel)
theorem gw_574 : Cond.arrayClass FieldType.boolean ∈ GW := gw_in 574 (by decide +kernel) (by decide +kernel)
theorem gw_575 : Cond.methodLink "TriangularSystemsLaw" 68 ⟨"TriangularSystemsModel", "thrown", "()I"⟩ ∈ GW := gw_in 575 (by decide +kernel) (by decide +kernel)
theorem gw_576 : Cond.instanceMethod ⟨"TriangularSystemsModel", "thrown", "()I"⟩ ∈ GW := gw_in 576 (by decide +kernel) (by decide +kernel)
theorem gw_577 : Cond.selects "TriangularSystemsModel" ⟨"TriangularSystemsModel", "thrown", "()I"⟩ ⟨"TriangularSystemsModel", "thrown", "()I"⟩ ∈ GW := gw_in 577 (by decide +kernel) (by decide +kernel)
theorem gw_578 : Cond.code ⟨"TriangularSystemsModel", "thrown", "()I"⟩ prog_5_method_2_code 1 (some FieldType.int) ∈ GW := gw_in 578 (by decide +kernel) (by decide +kernel)
theorem gw_579 : Cond.methodLink "TriangularSystemsLaw" 67 ⟨"TriangularSystemsModel", "equation", "()I"⟩ ∈ GW := gw_in 579 (by decide +kernel) (by decide +kernel)
theorem gw_580 : Cond.instanceMethod ⟨"TriangularSystemsModel", "equation", "()I"⟩ ∈ GW := gw_in 580 (by decide +kernel) (by decide +kernel)
theorem gw_581 : Cond.selects "TriangularSystemsModel" ⟨"TriangularSystemsModel", "equation", "()I"⟩ ⟨"TriangularSystemsModel", "equation", "()I"⟩ ∈ GW := gw_in 581 (by decide +kernel) (by decide +kernel)
theorem gw_582 : Cond.code ⟨"TriangularSystemsModel", "equation", "()I"⟩ prog_5_method_8_code 2 (some FieldType.int) ∈ GW := gw_in 582 (by decide +kernel) (by decide +kernel)
theorem gw_583 : Cond.methodLink "TriangularSystemsLaw" 74 ⟨"TriangularSystemsModel", "put", "(III)Z"⟩ ∈ GW := gw_in 583 (by decide +kernel) (by decide +kernel)
theorem gw_584 : Cond.instanceMethod ⟨"TriangularSystemsModel", "put", "(III)Z"⟩ ∈ GW := gw_in 584 (by decide +kernel) (by decide +kernel)
theorem gw_585 : Cond.selects "TriangularSystemsModel" ⟨"TriangularSystemsModel", "put", "(III)Z"⟩ ⟨"TriangularSystemsModel", "put", "(III)Z"⟩ ∈ GW := gw_in 585 (by decide +kernel) (by decide +kernel)
theorem gw_586 : Cond.code ⟨"TriangularSystemsModel", "put", "(III)Z"⟩ prog_5_method_11_code 5 (some FieldType.boolean) ∈ GW := gw_in 586 (by decide +kernel) (by decide +kernel)
theorem gw_587 : Cond.methodLink "TriangularSystemsModel" 79 ⟨"TriangularSystemsModel", "isPlace", "(II)Z"⟩ ∈ GW := gw_in 587 (by decide +kernel) (by decide +kernel)
theorem gw_589 : Cond.instanceMethod ⟨"TriangularSystemsModel", "isPlace", "(II)Z"⟩ ∈ GW := gw_in 589 (by decide +kernel) (by decide +kernel)
theorem gw_590 : Cond.code ⟨"TriangularSystemsModel", "isPlace", "(II)Z"⟩ prog_5_method_9_code 3 (some FieldType.boolean) ∈ GW := gw_in 590 (by decide +kernel) (by decide +kernel)
theorem gw_591 : Cond.methodLink "TriangularSystemsModel" 75 ⟨"TriangularSystemsModel", "in", "(JJJ)Z"⟩ ∈ GW := gw_in 591 (by decide +kernel) (by decide +kernel)
theorem gw_592 : Cond.static ⟨"TriangularSystemsModel", "in", "(JJJ)Z"⟩ ∈ GW := gw_in 592 (by decide +kernel) (by decide +kernel)
theorem gw_593 : Cond.code ⟨"TriangularSystemsModel", "in", "(JJJ)Z"⟩ prog_5_method_4_code 6 (some FieldType.boolean) ∈ GW := gw_in 593 (by decide +kernel) (by decide +kernel)
theorem gw_596 : Cond.methodLink "TriangularSystemsModel" 87 ⟨"TriangularSystemsModel", "place", "(II)I"⟩ ∈ GW := gw_in 596 (by decide +kernel) (by decide +kernel)
theorem gw_598 : Cond.instanceMethod ⟨"TriangularSystemsModel", "place", "(II)I"⟩ ∈ GW := gw_in 598 (by decide +kernel) (by decide +kernel)
theorem gw_599 : Cond.code ⟨"TriangularSystemsModel", "place", "(II)I"⟩ prog_5_method_10_code 3 (some FieldType.int) ∈ GW := gw_in 599 (by decide +kernel) (by decide +kernel)
theorem gw_600 : Cond.methodLink "TriangularSystemsLaw" 78 ⟨"TriangularSystemsModel", "at", "(II)I"⟩ ∈ GW := gw_in 600 (by decide +kernel) (by decide +kernel)
theorem gw_601 : Cond.instanceMethod ⟨"TriangularSystemsModel", "at", "(II)I"⟩ ∈ GW := gw_in 601 (by decide +kernel) (by decide +kernel)
theorem gw_602 : Cond.selects "TriangularSystemsModel" ⟨"TriangularSystemsModel", "at", "(II)I"⟩ ⟨"TriangularSystemsModel", "at", "(II)I"⟩ ∈ GW := gw_in 602 (by decide +kernel) (by decide +kernel)
theorem gw_603 : Cond.code ⟨"TriangularSystemsModel", "at", "(II)I"⟩ prog_5_method_12_code 3 (some FieldType.int) ∈ GW := gw_in 603 (by decide +kernel) (by decide +kernel)
theorem gw_604 : Cond.methodLink "TriangularSystemsLaw" 129 ⟨"TriangularSystemsModel", "clear", "()V"⟩ ∈ GW := gw_in 604 (by decide +kernel) (by decide +kernel)
theorem gw_605 : Cond.instanceMethod ⟨"TriangularSystemsModel", "clear", "()V"⟩ ∈ GW := gw_in 605 (by decide +kernel) (by decide +kernel)
theorem gw_606 : Cond.selects "TriangularSystemsModel" ⟨"TriangularSystemsModel", "clear", "()V"⟩ ⟨"TriangularSystemsModel", "clear", "()V"⟩ ∈ GW := gw_in 606 (by decide +kernel) (by decide +kernel)
theorem gw_607 : Cond.code ⟨"TriangularSystemsModel", "clear", "()V"⟩ prog_5_method_13_code 1 none ∈ GW := gw_in 607 (by decide +kernel) (by decide +kernel)
theorem gw_608 : Cond.methodLink "TriangularSystemsLaw" 125 ⟨"TriangularSystemsModel", "count", "(I)I"⟩ ∈ GW := gw_in 608 (by decide +kernel) (by decide +kernel)
theorem gw_609 : Cond.instanceMethod ⟨"TriangularSystemsModel", "count", "(I)I"⟩ ∈ GW := gw_in 609 (by decide +kernel) (by decide +kernel)
theorem gw_610 : Cond.selects "TriangularSystemsModel" ⟨"TriangularSystemsModel", "count", "(I)I"⟩ ⟨"TriangularSystemsModel", "count", "(I)I"⟩ ∈ GW := gw_in 610 (by decide +kernel) (by decide +kernel)
theorem gw_611 : Cond.code ⟨"TriangularSystemsModel", "count", "(I)I"⟩ prog_5_method_14_code 2 (some FieldType.int) ∈ GW := gw_in 611 (by decide +kernel) (by decide +kernel)
theorem gw_612 : Cond.methodLink "TriangularSystemsLaw" 82 ⟨"TriangularSystemsModel", "rank", "()I"⟩ ∈ GW := gw_in 612 (by decide +kernel) (by decide +kernel)
theorem gw_613 : Cond.instanceMethod ⟨"TriangularSystemsModel", "rank", "()I"⟩ ∈ GW := gw_in 613 (by decide +kernel) (by decide +kernel)
theorem gw_614 : Cond.selects "TriangularSystemsModel" ⟨"TriangularSystemsModel", "rank", "()I"⟩ ⟨"TriangularSystemsModel", "rank", "()I"⟩ ∈ GW := gw_in 614 (by decide +kernel) (by decide +kernel)
theorem gw_615 : Cond.code ⟨"TriangularSystemsModel", "rank", "()I"⟩ prog_5_method_20_code 1 (some FieldType.int) ∈ GW := gw_in 615 (by decide +kernel) (by decide +kernel)
theorem gw_616 : Cond.methodLink "TriangularSystemsModel" 109 ⟨"TriangularSystemsModel", "look", "()V"⟩ ∈ GW := gw_in 616 (by decide +kernel) (by decide +kernel)
theorem gw_618 : Cond.instanceMethod ⟨"TriangularSystemsModel", "look", "()V"⟩ ∈ GW := gw_in 618 (by decide +kernel) (by decide +kernel)
theorem gw_619 : Cond.code ⟨"TriangularSystemsModel", "look", "()V"⟩ prog_5_method_17_code 2 none ∈ GW := gw_in 619 (by decide +kernel) (by decide +kernel)
theorem gw_620 : Cond.methodLink "TriangularSystemsModel" 98 ⟨"TriangularSystemsModel", "stands", "(I)Z"⟩ ∈ GW := gw_in 620 (by decide +kernel) (by decide +kernel)
theorem gw_622 : Cond.instanceMethod ⟨"TriangularSystemsModel", "stands", "(I)Z"⟩ ∈ GW := gw_in 622 (by decide +kernel) (by decide +kernel)
theorem gw_623 : Cond.code ⟨"TriangularSystemsModel", "stands", "(I)Z"⟩ prog_5_method_16_code 6 (some FieldType.boolean) ∈ GW := gw_in 623 (by decide +kernel) (by decide +kernel)
theorem gw_624 : Cond.methodLink "TriangularSystemsModel" 91 ⟨"TriangularSystemsModel", "determinant", "(I)J"⟩ ∈ GW := gw_in 624 (by decide +kernel) (by decide +kernel)
theorem gw_626 : Cond.instanceMethod ⟨"TriangularSystemsModel", "determinant", "(I)J"⟩ ∈ GW := gw_in 626 (by decide +kernel) (by decide +kernel)
theorem gw_627 : Cond.code ⟨"TriangularSystemsModel", "determinant", "(I)J"⟩ prog_5_method_15_code 3 (some FieldType.long) ∈ GW := gw_in 627 (by decide +kernel) (by decide +kernel)
theorem gw_628 : Cond.methodLink "TriangularSystemsLaw" 86 ⟨"TriangularSystemsModel", "solutions", "()I"⟩ ∈ GW := gw_in 628 (by decide +kernel) (by decide +kernel)
theorem gw_629 : Cond.instanceMethod ⟨"TriangularSystemsModel", "solutions", "()I"⟩ ∈ GW := gw_in 629 (by decide +kernel) (by decide +kernel)
theorem gw_630 : Cond.selects "TriangularSystemsModel" ⟨"TriangularSystemsModel", "solutions", "()I"⟩ ⟨"TriangularSystemsModel", "solutions", "()I"⟩ ∈ GW := gw_in 630 (by decide +kernel) (by decide +kernel)
theorem gw_631 : Cond.code ⟨"TriangularSystemsModel", "solutions", "()I"⟩ prog_5_method_22_code 1 (some FieldType.int) ∈ GW := gw_in 631 (by decide +kernel) (by decide +kernel)
theorem gw_632 : Cond.methodLink "TriangularSystemsModel" 115 ⟨"TriangularSystemsModel", "findPlain", "()Z"⟩ ∈ GW := gw_in 632 (by decide +kernel) (by decide +kernel)
theorem gw_634 : Cond.instanceMethod ⟨"TriangularSystemsModel", "findPlain", "()Z"⟩ ∈ GW := gw_in 634 (by decide +kernel) (by decide +kernel)
theorem gw_635 : Cond.code ⟨"TriangularSystemsModel", "findPlain", "()Z"⟩ prog_5_method_21_code 5 (some FieldType.boolean) ∈ GW := gw_in 635 (by decide +kernel) (by decide +kernel)
theorem gw_636 : Cond.methodLink "TriangularSystemsModel" 112 ⟨"TriangularSystemsModel", "solve", "()V"⟩ ∈ GW := gw_in 636 (by decide +kernel) (by decide +kernel)
theorem gw_638 : Cond.instanceMethod ⟨"TriangularSystemsModel", "solve", "()V"⟩ ∈ GW := gw_in 638 (by decide +kernel) (by decide +kernel)
theorem gw_639 : Cond.code ⟨"TriangularSystemsModel", "solve", "()V"⟩ prog_5_method_18_code 3 none ∈ GW := gw_in 639 (by decide +kernel) (by decide +kernel)
theorem gw_640 : Cond.methodLink "TriangularSystemsModel" 102 ⟨"TriangularSystemsModel", "solveSquare", "(I)V"⟩ ∈ GW := gw_in 640 (by decide +kernel) (by decide +kernel)
theorem gw_642 : Cond.instanceMethod ⟨"TriangularSystemsModel", "solveSquare", "(I)V"⟩ ∈ GW := gw_in 642 (by decide +kernel) (by decide +kernel)
theorem gw_643 : Cond.code ⟨"TriangularSystemsModel", "solveSquare", "(I)V"⟩ prog_5_method_19_code 4 none ∈ GW := gw_in 643 (by decide +kernel) (by decide +kernel)
theorem gw_644 : Cond.methodLink "TriangularSystemsLaw" 90 ⟨"TriangularSystemsModel", "free", "(I)I"⟩ ∈ GW := gw_in 644 (by decide +kernel) (by decide +kernel)
theorem gw_645 : Cond.instanceMethod ⟨"TriangularSystemsModel", "free", "(I)I"⟩ ∈ GW := gw_in 645 (by decide +kernel) (by decide +kernel)
theorem gw_646 : Cond.selects "TriangularSystemsModel" ⟨"TriangularSystemsModel", "free", "(I)I"⟩ ⟨"TriangularSystemsModel", "free", "(I)I"⟩ ∈ GW := gw_in 646 (by decide +kernel) (by decide +kernel)
theorem gw_647 : Cond.code ⟨"TriangularSystemsModel", "free", "(I)I"⟩ prog_5_method_24_code 2 (some FieldType.int) ∈ GW := gw_in 647 (by decide +kernel) (by decide +kernel)
theorem gw_648 : Cond.methodLink "TriangularSystemsModel" 119 ⟨"TriangularSystemsModel", "freeAt", "(I)I"⟩ ∈ GW := gw_in 648 (by decide +kernel) (by decide +kernel)
theorem gw_650 : Cond.instanceMethod ⟨"TriangularSystemsModel", "freeAt", "(I)I"⟩ ∈ GW := gw_in 650 (by decide +kernel) (by decide +kernel)
theorem gw_651 : Cond.code ⟨"TriangularSystemsModel", "freeAt", "(I)I"⟩ prog_5_method_23_code 4 (some FieldType.int) ∈ GW := gw_in 651 (by decide +kernel) (by decide +kernel)
theorem gw_652 : Cond.methodLink "TriangularSystemsLaw" 93 ⟨"TriangularSystemsModel", "plain", "(II)J"⟩ ∈ GW := gw_in 652 (by decide +kernel) (by decide +kernel)
theorem gw_653 : Cond.instanceMethod ⟨"TriangularSystemsModel", "plain", "(II)J"⟩ ∈ GW := gw_in 653 (by decide +kernel) (by decide +kernel)
theorem gw_654 : Cond.selects "TriangularSystemsModel" ⟨"TriangularSystemsModel", "plain", "(II)J"⟩ ⟨"TriangularSystemsModel", "plain", "(II)J"⟩ ∈ GW := gw_in 654 (by decide +kernel) (by decide +kernel)
theorem gw_655 : Cond.code ⟨"TriangularSystemsModel", "plain", "(II)J"⟩ prog_5_method_27_code 3 (some FieldType.long) ∈ GW := gw_in 655 (by decide +kernel) (by decide +kernel)
theorem gw_656 : Cond.methodLink "TriangularSystemsModel" 127 ⟨"TriangularSystemsModel", "isUnknown", "(I)Z"⟩ ∈ GW := gw_in 656 (by decide +kernel) (by decide +kernel)
theorem gw_658 : Cond.instanceMethod ⟨"TriangularSystemsModel", "isUnknown", "(I)Z"⟩ ∈ GW := gw_in 658 (by decide +kernel) (by decide +kernel)
theorem gw_659 : Cond.code ⟨"TriangularSystemsModel", "isUnknown", "(I)Z"⟩ prog_5_method_25_code 2 (some FieldType.boolean) ∈ GW := gw_in 659 (by decide +kernel) (by decide +kernel)
theorem gw_660 : Cond.methodLink "TriangularSystemsModel" 130 ⟨"TriangularSystemsModel", "raise", "(I)I"⟩ ∈ GW := gw_in 660 (by decide +kernel) (by decide +kernel)
theorem gw_662 : Cond.instanceMethod ⟨"TriangularSystemsModel", "raise", "(I)I"⟩ ∈ GW := gw_in 662 (by decide +kernel) (by decide +kernel)
theorem gw_663 : Cond.code ⟨"TriangularSystemsModel", "raise", "(I)I"⟩ prog_5_method_3_code 2 (some FieldType.int) ∈ GW := gw_in 663 (by decide +kernel) (by decide +kernel)
theorem gw_664 : Cond.methodLink "TriangularSystemsModel" 133 ⟨"TriangularSystemsModel", "takeAnswer", "(I)V"⟩ ∈ GW := gw_in 664 (by decide +kernel) (by decide +kernel)
theorem gw_666 : Cond.instanceMethod ⟨"TriangularSystemsModel", "takeAnswer", "(I)V"⟩ ∈ GW := gw_in 666 (by decide +kernel) (by decide +kernel)
theorem gw_667 : Cond.code ⟨"TriangularSystemsModel", "takeAnswer", "(I)V"⟩ prog_5_method_26_code 3 none ∈ GW := gw_in 667 (by decide +kernel) (by decide +kernel)
theorem gw_668 : Cond.methodLink "TriangularSystemsModel" 123 ⟨"TriangularSystemsModel", "lowest", "(JJ)V"⟩ ∈ GW := gw_in 668 (by decide +kernel) (by decide +kernel)
theorem gw_670 : Cond.instanceMethod ⟨"TriangularSystemsModel", "lowest", "(JJ)V"⟩ ∈ GW := gw_in 670 (by decide +kernel) (by decide +kernel)
theorem gw_671 : Cond.code ⟨"TriangularSystemsModel", "lowest", "(JJ)V"⟩ prog_5_method_6_code 7 none ∈ GW := gw_in 671 (by decide +kernel) (by decide +kernel)
theorem gw_672 : Cond.methodLink "TriangularSystemsModel" 61 ⟨"TriangularSystemsModel", "divisor", "(JJ)J"⟩ ∈ GW := gw_in 672 (by decide +kernel) (by decide +kernel)
theorem gw_673 : Cond.static ⟨"TriangularSystemsModel", "divisor", "(JJ)J"⟩ ∈ GW := gw_in 673 (by decide +kernel) (by decide +kernel)
theorem gw_674 : Cond.code ⟨"TriangularSystemsModel", "divisor", "(JJ)J"⟩ prog_5_method_5_code 10 (some FieldType.long) ∈ GW := gw_in 674 (by decide +kernel) (by decide +kernel)
theorem gw_675 : Cond.methodLink "TriangularSystemsModel" 136 ⟨"TriangularSystemsModel", "told", "(I)J"⟩ ∈ GW := gw_in 675 (by decide +kernel) (by decide +kernel)
theorem gw_677 : Cond.instanceMethod ⟨"TriangularSystemsModel", "told", "(I)J"⟩ ∈ GW := gw_in 677 (by decide +kernel) (by decide +kernel)
theorem gw_678 : Cond.code ⟨"TriangularSystemsModel", "told", "(I)J"⟩ prog_5_method_7_code 2 (some FieldType.long) ∈ GW := gw_in 678 (by decide +kernel) (by decide +kernel)
theorem gw_679 : Cond.methodLink "TriangularSystemsLaw" 96 ⟨"TriangularSystemsModel", "direction", "(III)J"⟩ ∈ GW := gw_in 679 (by decide +kernel) (by decide +kernel)
theorem gw_680 : Cond.instanceMethod ⟨"TriangularSystemsModel", "direction", "(III)J"⟩ ∈ GW := gw_in 680 (by decide +kernel) (by decide +kernel)
theorem gw_681 : Cond.selects "TriangularSystemsModel" ⟨"TriangularSystemsModel", "direction", "(III)J"⟩ ⟨"TriangularSystemsModel", "direction", "(III)J"⟩ ∈ GW := gw_in 681 (by decide +kernel) (by decide +kernel)
theorem gw_682 : Cond.code ⟨"TriangularSystemsModel", "direction", "(III)J"⟩ prog_5_method_28_code 6 (some FieldType.long) ∈ GW := gw_in 682 (by decide +kernel) (by decide +kernel)
theorem gw_683 : Cond.methodLink "TriangularSystemsLaw" 104 ⟨"TriangularSystemsModel", "base", "(II)J"⟩ ∈ GW := gw_in 683 (by decide +kernel) (by decide +kernel)
theorem gw_684 : Cond.instanceMethod ⟨"TriangularSystemsModel", "base", "(II)J"⟩ ∈ GW := gw_in 684 (by decide +kernel) (by decide +kernel)
theorem gw_685 : Cond.selects "TriangularSystemsModel" ⟨"TriangularSystemsModel", "base", "(II)J"⟩ ⟨"TriangularSystemsModel", "base", "(II)J"⟩ ∈ GW := gw_in 685 (by decide +kernel) (by decide +kernel)
theorem gw_686 : Cond.code ⟨"TriangularSystemsModel", "base", "(II)J"⟩ prog_5_method_34_code 3 (some FieldType.long) ∈ GW := gw_in 686 (by decide +kernel) (by decide +kernel)
theorem gw_687 : Cond.methodLink "TriangularSystemsModel" 156 ⟨"TriangularSystemsModel", "findBase", "()V"⟩ ∈ GW := gw_in 687 (by decide +kernel) (by decide +kernel)
theorem gw_689 : Cond.instanceMethod ⟨"TriangularSystemsModel", "findBase", "()V"⟩ ∈ GW := gw_in 689 (by decide +kernel) (by decide +kernel)
theorem gw_690 : Cond.code ⟨"TriangularSystemsModel", "findBase", "()V"⟩ prog_5_method_32_code 3 none ∈ GW := gw_in 690 (by decide +kernel) (by decide +kernel)
theorem gw_691 : Cond.methodLink "TriangularSystemsModel" 142 ⟨"TriangularSystemsModel", "member", "(JJJ)V"⟩ ∈ GW := gw_in 691 (by decide +kernel) (by decide +kernel)
theorem gw_693 : Cond.instanceMethod ⟨"TriangularSystemsModel", "member", "(JJJ)V"⟩ ∈ GW := gw_in 693 (by decide +kernel) (by decide +kernel)
theorem gw_694 : Cond.code ⟨"TriangularSystemsModel", "member", "(JJJ)V"⟩ prog_5_method_29_code 7 none ∈ GW := gw_in 694 (by decide +kernel) (by decide +kernel)
theorem gw_695 : Cond.methodLink "TriangularSystemsModel" 146 ⟨"TriangularSystemsModel", "number", "(II)J"⟩ ∈ GW := gw_in 695 (by decide +kernel) (by decide +kernel)
theorem gw_697 : Cond.instanceMethod ⟨"TriangularSystemsModel", "number", "(II)J"⟩ ∈ GW := gw_in 697 (by decide +kernel) (by decide +kernel)
theorem gw_698 : Cond.code ⟨"TriangularSystemsModel", "number", "(II)J"⟩ prog_5_method_33_code 3 (some FieldType.long) ∈ GW := gw_in 698 (by decide +kernel) (by decide +kernel)
theorem gw_699 : Cond.methodLink "TriangularSystemsModel" 150 ⟨"TriangularSystemsModel", "lineOf", "(JJJ)V"⟩ ∈ GW := gw_in 699 (by decide +kernel) (by decide +kernel)
theorem gw_701 : Cond.instanceMethod ⟨"TriangularSystemsModel", "lineOf", "(JJJ)V"⟩ ∈ GW := gw_in 701 (by decide +kernel) (by decide +kernel)
theorem gw_702 : Cond.code ⟨"TriangularSystemsModel", "lineOf", "(JJJ)V"⟩ prog_5_method_30_code 11 none ∈ GW := gw_in 702 (by decide +kernel) (by decide +kernel)
theorem gw_703 : Cond.methodLink "TriangularSystemsModel" 153 ⟨"TriangularSystemsModel", "planeOf", "(JJJ)V"⟩ ∈ GW := gw_in 703 (by decide +kernel) (by decide +kernel)
theorem gw_705 : Cond.instanceMethod ⟨"TriangularSystemsModel", "planeOf", "(JJJ)V"⟩ ∈ GW := gw_in 705 (by decide +kernel) (by decide +kernel)
theorem gw_706 : Cond.code ⟨"TriangularSystemsModel", "planeOf", "(JJJ)V"⟩ prog_5_method_31_code 17 none ∈ GW := gw_in 706 (by decide +kernel) (by decide +kernel)
theorem gw_707 : Cond.methodLink "TriangularSystemsLaw" 101 ⟨"TriangularSystemsModel", "whole", "()Z"⟩ ∈ GW := gw_in 707 (by decide +kernel) (by decide +kernel)
theorem gw_708 : Cond.instanceMethod ⟨"TriangularSystemsModel", "whole", "()Z"⟩ ∈ GW := gw_in 708 (by decide +kernel) (by decide +kernel)
theorem gw_709 : Cond.selects "TriangularSystemsModel" ⟨"TriangularSystemsModel", "whole", "()Z"⟩ ⟨"TriangularSystemsModel", "whole", "()Z"⟩ ∈ GW := gw_in 709 (by decide +kernel) (by decide +kernel)
theorem gw_710 : Cond.code ⟨"TriangularSystemsModel", "whole", "()Z"⟩ prog_5_method_37_code 1 (some FieldType.boolean) ∈ GW := gw_in 710 (by decide +kernel) (by decide +kernel)
theorem gw_711 : Cond.methodLink "TriangularSystemsModel" 162 ⟨"TriangularSystemsModel", "findWhole", "()Z"⟩ ∈ GW := gw_in 711 (by decide +kernel) (by decide +kernel)
theorem gw_713 : Cond.instanceMethod ⟨"TriangularSystemsModel", "findWhole", "()Z"⟩ ∈ GW := gw_in 713 (by decide +kernel) (by decide +kernel)
theorem gw_714 : Cond.code ⟨"TriangularSystemsModel", "findWhole", "()Z"⟩ prog_5_method_35_code 7 (some FieldType.boolean) ∈ GW := gw_in 714 (by decide +kernel) (by decide +kernel)
theorem gw_715 : Cond.methodLink "TriangularSystemsModel" 159 ⟨"TriangularSystemsModel", "fits", "(JJJ)Z"⟩ ∈ GW := gw_in 715 (by decide +kernel) (by decide +kernel)
theorem gw_717 : Cond.instanceMethod ⟨"TriangularSystemsModel", "fits", "(JJJ)Z"⟩ ∈ GW := gw_in 717 (by decide +kernel) (by decide +kernel)
theorem gw_718 : Cond.code ⟨"TriangularSystemsModel", "fits", "(JJJ)Z"⟩ prog_5_method_36_code 10 (some FieldType.boolean) ∈ GW := gw_in 718 (by decide +kernel) (by decide +kernel)
theorem gw_719 : Cond.methodLink "TriangularSystemsLaw" 108 ⟨"TriangularSystemsModel", "least", "(I)J"⟩ ∈ GW := gw_in 719 (by decide +kernel) (by decide +kernel)
theorem gw_720 : Cond.instanceMethod ⟨"TriangularSystemsModel", "least", "(I)J"⟩ ∈ GW := gw_in 720 (by decide +kernel) (by decide +kernel)
theorem gw_721 : Cond.selects "TriangularSystemsModel" ⟨"TriangularSystemsModel", "least", "(I)J"⟩ ⟨"TriangularSystemsModel", "least", "(I)J"⟩ ∈ GW := gw_in 721 (by decide +kernel) (by decide +kernel)
theorem gw_722 : Cond.code ⟨"TriangularSystemsModel", "least", "(I)J"⟩ prog_5_method_38_code 2 (some FieldType.long) ∈ GW := gw_in 722 (by decide +kernel) (by decide +kernel)
theorem gw_723 : Cond.methodLink "TriangularSystemsLaw" 111 ⟨"TriangularSystemsModel", "nearest", "(II)J"⟩ ∈ GW := gw_in 723 (by decide +kernel) (by decide +kernel)
theorem gw_724 : Cond.instanceMethod ⟨"TriangularSystemsModel", "nearest", "(II)J"⟩ ∈ GW := gw_in 724 (by decide +kernel) (by decide +kernel)
theorem gw_725 : Cond.selects "TriangularSystemsModel" ⟨"TriangularSystemsModel", "nearest", "(II)J"⟩ ⟨"TriangularSystemsModel", "nearest", "(II)J"⟩ ∈ GW := gw_in 725 (by decide +kernel) (by decide +kernel)
theorem gw_726 : Cond.code ⟨"TriangularSystemsModel", "nearest", "(II)J"⟩ prog_5_method_41_code 3 (some FieldType.long) ∈ GW := gw_in 726 (by decide +kernel) (by decide +kernel)
theorem gw_727 : Cond.methodLink "TriangularSystemsModel" 171 ⟨"TriangularSystemsModel", "findNearest", "()V"⟩ ∈ GW := gw_in 727 (by decide +kernel) (by decide +kernel)
theorem gw_729 : Cond.instanceMethod ⟨"TriangularSystemsModel", "findNearest", "()V"⟩ ∈ GW := gw_in 729 (by decide +kernel) (by decide +kernel)
theorem gw_730 : Cond.code ⟨"TriangularSystemsModel", "findNearest", "()V"⟩ prog_5_method_39_code 4 none ∈ GW := gw_in 730 (by decide +kernel) (by decide +kernel)
theorem gw_731 : Cond.methodLink "TriangularSystemsModel" 168 ⟨"TriangularSystemsModel", "products", "(II)J"⟩ ∈ GW := gw_in 731 (by decide +kernel) (by decide +kernel)
theorem gw_733 : Cond.instanceMethod ⟨"TriangularSystemsModel", "products", "(II)J"⟩ ∈ GW := gw_in 733 (by decide +kernel) (by decide +kernel)
theorem gw_734 : Cond.code ⟨"TriangularSystemsModel", "products", "(II)J"⟩ prog_5_method_40_code 6 (some FieldType.long) ∈ GW := gw_in 734 (by decide +kernel) (by decide +kernel)
theorem gw_735 : Cond.methodLink "TriangularSystemsLaw" 114 ⟨"TriangularSystemsModel", "squares", "(I)J"⟩ ∈ GW := gw_in 735 (by decide +kernel) (by decide +kernel)
theorem gw_736 : Cond.instanceMethod ⟨"TriangularSystemsModel", "squares", "(I)J"⟩ ∈ GW := gw_in 736 (by decide +kernel) (by decide +kernel)
theorem gw_737 : Cond.selects "TriangularSystemsModel" ⟨"TriangularSystemsModel", "squares", "(I)J"⟩ ⟨"TriangularSystemsModel", "squares", "(I)J"⟩ ∈ GW := gw_in 737 (by decide +kernel) (by decide +kernel)
theorem gw_738 : Cond.code ⟨"TriangularSystemsModel", "squares", "(I)J"⟩ prog_5_method_42_code 8 (some FieldType.long) ∈ GW := gw_in 738 (by decide +kernel) (by decide +kernel)
theorem gw_739 : Cond.methodLink "TriangularSystemsLaw" 117 ⟨"TriangularSystemsModel", "inBox", "(I)I"⟩ ∈ GW := gw_in 739 (by decide +kernel) (by decide +kernel)
theorem gw_740 : Cond.instanceMethod ⟨"TriangularSystemsModel", "inBox", "(I)I"⟩ ∈ GW := gw_in 740 (by decide +kernel) (by decide +kernel)
theorem gw_741 : Cond.selects "TriangularSystemsModel" ⟨"TriangularSystemsModel", "inBox", "(I)I"⟩ ⟨"TriangularSystemsModel", "inBox", "(I)I"⟩ ∈ GW := gw_in 741 (by decide +kernel) (by decide +kernel)
theorem gw_742 : Cond.code ⟨"TriangularSystemsModel", "inBox", "(I)I"⟩ prog_5_method_44_code 6 (some FieldType.int) ∈ GW := gw_in 742 (by decide +kernel) (by decide +kernel)
theorem gw_744 : Cond.methodLink "TriangularSystemsModel" 176 ⟨"TriangularSystemsModel", "isSolution", "(JJJ)Z"⟩ ∈ GW := gw_in 744 (by decide +kernel) (by decide +kernel)
theorem gw_746 : Cond.instanceMethod ⟨"TriangularSystemsModel", "isSolution", "(JJJ)Z"⟩ ∈ GW := gw_in 746 (by decide +kernel) (by decide +kernel)
theorem gw_747 : Cond.code ⟨"TriangularSystemsModel", "isSolution", "(JJJ)Z"⟩ prog_5_method_43_code 10 (some FieldType.boolean) ∈ GW := gw_in 747 (by decide +kernel) (by decide +kernel)
theorem gw_748 : Cond.methodLink "TriangularSystemsLaw" 121 ⟨"TriangularSystemsModel", "solves", "(III)Z"⟩ ∈ GW := gw_in 748 (by decide +kernel) (by decide +kernel)
theorem gw_749 : Cond.instanceMethod ⟨"TriangularSystemsModel", "solves", "(III)Z"⟩ ∈ GW := gw_in 749 (by decide +kernel) (by decide +kernel)
theorem gw_750 : Cond.selects "TriangularSystemsModel" ⟨"TriangularSystemsModel", "solves", "(III)Z"⟩ ⟨"TriangularSystemsModel", "solves", "(III)Z"⟩ ∈ GW := gw_in 750 (by decide +kernel) (by decide +kernel)
theorem gw_751 : Cond.code ⟨"TriangularSystemsModel", "solves", "(III)Z"⟩ prog_5_method_45_code 4 (some FieldType.boolean) ∈ GW := gw_in 751 (by decide +kernel) (by decide +kernel)
theorem usX0 : ∀ w ∈ u_ws RX0 TX0 5, w ∈ GW := by decide +kernel
theorem usX1 : ∀ w ∈ u_ws RX1 TX1 4, w ∈ GW := by decide +kernel
theorem usX2 : ∀ w ∈ u_ws RX2 TX2 5, w ∈ GW := by decide +kernel
theorem usX3 : ∀ w ∈ u_ws RX3 TX3 23, w ∈ GW := by decide +kernel
end
section
/-! decode rows of J9 -/
theorem dJ9_floorDiv_0 : decode cJ9_floorDiv 0 = .ok (.lload_n 0, 1) := by decide +kernel
theorem dJ9_floorDiv_1 : decode cJ9_floorDiv 1 = .ok (.lload_n 2, 1) := by decide +kernel
theorem dJ9_floorDiv_2 : decode cJ9_floorDiv 2 = .ok (.ldiv, 1) := by decide +kernel
theorem dJ9_floorDiv_3 : decode cJ9_floorDiv 3 = .ok (.lstore 4, 2) := by decide +kernel
theorem dJ9_floorDiv_5 : decode cJ9_floorDiv 5 = .ok (.lload_n 0, 1) := by decide +kernel
theorem dJ9_floorDiv_6 : decode cJ9_floorDiv 6 = .ok (.lload_n 2, 1) := by decide +kernel
theorem dJ9_floorDiv_7 : decode cJ9_floorDiv 7 = .ok (.lxor, 1) := by decide +kernel
theorem dJ9_floorDiv_8 : decode cJ9_floorDiv 8 = .ok (.lconst 0, 1) := by decide +kernel
theorem dJ9_floorDiv_9 : decode cJ9_floorDiv 9 = .ok (.lcmp, 1) := by decide +kernel
theorem dJ9_floorDiv_10 : decode cJ9_floorDiv 10 = .ok (.ifCond .ge 17, 3) := by decide +kernel
theorem dJ9_floorDiv_13 : decode cJ9_floorDiv 13 = .ok (.lload 4, 2) := by decide +kernel
theorem dJ9_floorDiv_15 : decode cJ9_floorDiv 15 = .ok (.lload_n 2, 1) := by decide +kernel
theorem dJ9_floorDiv_16 : decode cJ9_floorDiv 16 = .ok (.lmul, 1) := by decide +kernel
theorem dJ9_floorDiv_17 : decode cJ9_floorDiv 17 = .ok (.lload_n 0, 1) := by decide +kernel
theorem dJ9_floorDiv_18 : decode cJ9_floorDiv 18 = .ok (.lcmp, 1) := by decide +kernel
theorem dJ9_floorDiv_19 : decode cJ9_floorDiv 19 = .ok (.ifCond .eq 8, 3) := by decide +kernel
theorem dJ9_floorDiv_22 : decode cJ9_floorDiv 22 = .ok (.lload 4, 2) := by decide +kernel
theorem dJ9_floorDiv_24 : decode cJ9_floorDiv 24 = .ok (.lconst 1, 1) := by decide +kernel
theorem dJ9_floorDiv_25 : decode cJ9_floorDiv 25 = .ok (.lsub, 1) := by decide +kernel
theorem dJ9_floorDiv_26 : decode cJ9_floorDiv 26 = .ok (.lreturn, 1) := by decide +kernel
theorem dJ9_floorDiv_27 : decode cJ9_floorDiv 27 = .ok (.lload 4, 2) := by decide +kernel
theorem dJ9_floorDiv_29 : decode cJ9_floorDiv 29 = .ok (.lreturn, 1) := by decide +kernel
end
section
/-! decode rows of L -/
theorem dL_cell_0 : decode cL_cell 0 = .ok (.iload_n 1, 1) := by decide +kernel
theorem dL_cell_1 : decode cL_cell 1 = .ok (.aload_n 0, 1) := by decide +kernel
theorem dL_cell_2 : decode cL_cell 2 = .ok (.arraylength, 1) := by decide +kernel
theorem dL_cell_3 : decode cL_cell 3 = .ok (.if_icmp .ge 9, 3) := by decide +kernel
theorem dL_cell_6 : decode cL_cell 6 = .ok (.aload_n 0, 1) := by decide +kernel
theorem dL_cell_7 : decode cL_cell 7 = .ok (.iload_n 1, 1) := by decide +kernel
theorem dL_cell_8 : decode cL_cell 8 = .ok (.iaload, 1) := by decide +kernel
theorem dL_cell_9 : decode cL_cell 9 = .ok (.goto 4, 3) := by decide +kernel
theorem dL_cell_12 : decode cL_cell 12 = .ok (.iconst 0, 1) := by decide +kernel
theorem dL_cell_13 : decode cL_cell 13 = .ok (.ireturn, 1) := by decide +kernel
theorem dL_equation_0 : decode cL_equation 0 = .ok (.aload_n 1, 1) := by decide +kernel
theorem dL_equation_1 : decode cL_equation 1 = .ok (.iconst 0, 1) := by decide +kernel
theorem dL_equation_2 : decode cL_equation 2 = .ok (.aload_n 0, 1) := by decide +kernel
theorem dL_equation_3 : decode cL_equation 3 = .ok (.invokevirtual 7, 3) := by decide +kernel
theorem dL_equation_6 : decode cL_equation 6 = .ok (.i2l, 1) := by decide +kernel
theorem dL_equation_7 : decode cL_equation 7 = .ok (.lastore, 1) := by decide +kernel
theorem dL_equation_8 : decode cL_equation 8 = .ok (.goto 6, 3) := by decide +kernel
theorem dL_equation_11 : decode cL_equation 11 = .ok (.astore_n 2, 1) := by decide +kernel
theorem dL_equation_12 : decode cL_equation 12 = .ok (.iconst 1, 1) := by decide +kernel
theorem dL_equation_13 : decode cL_equation 13 = .ok (.ireturn, 1) := by decide +kernel
theorem dL_equation_14 : decode cL_equation 14 = .ok (.iconst 0, 1) := by decide +kernel
theorem dL_equation_15 : decode cL_equation 15 = .ok (.ireturn, 1) := by decide +kernel
theorem dL_put_0 : decode cL_put 0 = .ok (.aload 4, 2) := by decide +kernel
theorem dL_put_2 : decode cL_put 2 = .ok (.iconst 0, 1) := by decide +kernel
theorem dL_put_3 : decode cL_put 3 = .ok (.aload_n 0, 1) := by decide +kernel
theorem dL_put_4 : decode cL_put 4 = .ok (.iload_n 1, 1) := by decide +kernel
theorem dL_put_5 : decode cL_put 5 = .ok (.iload_n 2, 1) := by decide +kernel
theorem dL_put_6 : decode cL_put 6 = .ok (.iload_n 3, 1) := by decide +kernel
theorem dL_put_7 : decode cL_put 7 = .ok (.invokevirtual 15, 3) := by decide +kernel
theorem dL_put_10 : decode cL_put 10 = .ok (.ifCond .eq 7, 3) := by decide +kernel
theorem dL_put_13 : decode cL_put 13 = .ok (.lconst 1, 1) := by decide +kernel
theorem dL_put_14 : decode cL_put 14 = .ok (.goto 4, 3) := by decide +kernel
theorem dL_put_17 : decode cL_put 17 = .ok (.lconst 0, 1) := by decide +kernel
theorem dL_put_18 : decode cL_put 18 = .ok (.lastore, 1) := by decide +kernel
theorem dL_put_19 : decode cL_put 19 = .ok (.goto 11, 3) := by decide +kernel
theorem dL_put_22 : decode cL_put 22 = .ok (.astore 5, 2) := by decide +kernel
theorem dL_put_24 : decode cL_put 24 = .ok (.iconst 1, 1) := by decide +kernel
theorem dL_put_25 : decode cL_put 25 = .ok (.ireturn, 1) := by decide +kernel
theorem dL_put_26 : decode cL_put 26 = .ok (.astore 5, 2) := by decide +kernel
theorem dL_put_28 : decode cL_put 28 = .ok (.iconst 2, 1) := by decide +kernel
theorem dL_put_29 : decode cL_put 29 = .ok (.ireturn, 1) := by decide +kernel
theorem dL_put_30 : decode cL_put 30 = .ok (.iconst 0, 1) := by decide +kernel
theorem dL_put_31 : decode cL_put 31 = .ok (.ireturn, 1) := by decide +kernel
theorem dL_at_0 : decode cL_at 0 = .ok (.aload_n 3, 1) := by decide +kernel
theorem dL_at_1 : decode cL_at 1 = .ok (.iconst 0, 1) := by decide +kernel
theorem dL_at_2 : decode cL_at 2 = .ok (.aload_n 0, 1) := by decide +kernel
theorem dL_at_3 : decode cL_at 3 = .ok (.iload_n 1, 1) := by decide +kernel
theorem dL_at_4 : decode cL_at 4 = .ok (.iload_n 2, 1) := by decide +kernel
theorem dL_at_5 : decode cL_at 5 = .ok (.invokevirtual 23, 3) := by decide +kernel
theorem dL_at_8 : decode cL_at 8 = .ok (.i2l, 1) := by decide +kernel
theorem dL_at_9 : decode cL_at 9 = .ok (.lastore, 1) := by decide +kernel
theorem dL_at_10 : decode cL_at 10 = .ok (.goto 7, 3) := by decide +kernel
theorem dL_at_13 : decode cL_at 13 = .ok (.astore 4, 2) := by decide +kernel
theorem dL_at_15 : decode cL_at 15 = .ok (.iconst 1, 1) := by decide +kernel
theorem dL_at_16 : decode cL_at 16 = .ok (.ireturn, 1) := by decide +kernel
theorem dL_at_17 : decode cL_at 17 = .ok (.iconst 0, 1) := by decide +kernel
theorem dL_at_18 : decode cL_at 18 = .ok (.ireturn, 1) := by decide +kernel
theorem dL_plain_0 : decode cL_plain 0 = .ok (.aload_n 3, 1) := by decide +kernel
theorem dL_plain_1 : decode cL_plain 1 = .ok (.iconst 0, 1) := by decide +kernel
theorem dL_plain_2 : decode cL_plain 2 = .ok (.aload_n 0, 1) := by decide +kernel
theorem dL_plain_3 : decode cL_plain 3 = .ok (.iload_n 1, 1) := by decide +kernel
theorem dL_plain_4 : decode cL_plain 4 = .ok (.iload_n 2, 1) := by decide +kernel
theorem dL_plain_5 : decode cL_plain 5 = .ok (.invokevirtual 27, 3) := by decide +kernel
theorem dL_plain_8 : decode cL_plain 8 = .ok (.lastore, 1) := by decide +kernel
theorem dL_plain_9 : decode cL_plain 9 = .ok (.goto 15, 3) := by decide +kernel
theorem dL_plain_12 : decode cL_plain 12 = .ok (.astore 4, 2) := by decide +kernel
theorem dL_plain_14 : decode cL_plain 14 = .ok (.iconst 1, 1) := by decide +kernel
theorem dL_plain_15 : decode cL_plain 15 = .ok (.ireturn, 1) := by decide +kernel
theorem dL_plain_16 : decode cL_plain 16 = .ok (.astore 4, 2) := by decide +kernel
theorem dL_plain_18 : decode cL_plain 18 = .ok (.iconst 2, 1) := by decide +kernel
theorem dL_plain_19 : decode cL_plain 19 = .ok (.ireturn, 1) := by decide +kernel
theorem dL_plain_20 : decode cL_plain 20 = .ok (.astore 4, 2) := by decide +kernel
theorem dL_plain_22 : decode cL_plain 22 = .ok (.iconst 3, 1) := by decide +kernel
theorem dL_plain_23 : decode cL_plain 23 = .ok (.ireturn, 1) := by decide +kernel
theorem dL_plain_24 : decode cL_plain 24 = .ok (.iconst 0, 1) := by decide +kernel
theorem dL_plain_25 : decode cL_plain 25 = .ok (.ireturn, 1) := by decide +kernel
theorem dL_direction_0 : decode cL_direction 0 = .ok (.aload 4, 2) := by decide +kernel
theorem dL_direction_2 : decode cL_direction 2 = .ok (.iconst 0, 1) := by decide +kernel
theorem dL_direction_3 : decode cL_direction 3 = .ok (.aload_n 0, 1) := by decide +kernel
theorem dL_direction_4 : decode cL_direction 4 = .ok (.iload_n 1, 1) := by decide +kernel
theorem dL_direction_5 : decode cL_direction 5 = .ok (.iload_n 2, 1) := by decide +kernel
theorem dL_direction_6 : decode cL_direction 6 = .ok (.iload_n 3, 1) := by decide +kernel
theorem dL_direction_7 : decode cL_direction 7 = .ok (.invokevirtual 31, 3) := by decide +kernel
theorem dL_direction_10 : decode cL_direction 10 = .ok (.lastore, 1) := by decide +kernel
theorem dL_direction_11 : decode cL_direction 11 = .ok (.goto 11, 3) := by decide +kernel
theorem dL_direction_14 : decode cL_direction 14 = .ok (.astore 5, 2) := by decide +kernel
theorem dL_direction_16 : decode cL_direction 16 = .ok (.iconst 1, 1) := by decide +kernel
theorem dL_direction_17 : decode cL_direction 17 = .ok (.ireturn, 1) := by decide +kernel
theorem dL_direction_18 : decode cL_direction 18 = .ok (.astore 5, 2) := by decide +kernel
theorem dL_direction_20 : decode cL_direction 20 = .ok (.iconst 2, 1) := by decide +kernel
theorem dL_direction_21 : decode cL_direction 21 = .ok (.ireturn, 1) := by decide +kernel
theorem dL_direction_22 : decode cL_direction 22 = .ok (.iconst 0, 1) := by decide +kernel
theorem dL_direction_23 : decode cL_direction 23 = .ok (.ireturn, 1) := by decide +kernel
theorem dL_base_0 : decode cL_base 0 = .ok (.aload_n 3, 1) := by decide +kernel
theorem dL_base_1 : decode cL_base 1 = .ok (.iconst 0, 1) := by decide +kernel
theorem dL_base_2 : decode cL_base 2 = .ok (.aload_n 0, 1) := by decide +kernel
theorem dL_base_3 : decode cL_base 3 = .ok (.iload_n 1, 1) := by decide +kernel
theorem dL_base_4 : decode cL_base 4 = .ok (.iload_n 2, 1) := by decide +kernel
theorem dL_base_5 : decode cL_base 5 = .ok (.invokevirtual 35, 3) := by decide +kernel
theorem dL_base_8 : decode cL_base 8 = .ok (.lastore, 1) := by decide +kernel
theorem dL_base_9 : decode cL_base 9 = .ok (.goto 7, 3) := by decide +kernel
theorem dL_base_12 : decode cL_base 12 = .ok (.astore 4, 2) := by decide +kernel
theorem dL_base_14 : decode cL_base 14 = .ok (.iconst 1, 1) := by decide +kernel
theorem dL_base_15 : decode cL_base 15 = .ok (.ireturn, 1) := by decide +kernel
theorem dL_base_16 : decode cL_base 16 = .ok (.iconst 0, 1) := by decide +kernel
theorem dL_base_17 : decode cL_base 17 = .ok (.ireturn, 1) := by decide +kernel
theorem dL_least_0 : decode cL_least 0 = .ok (.aload_n 2, 1) := by decide +kernel
theorem dL_least_1 : decode cL_least 1 = .ok (.iconst 0, 1) := by decide +kernel
theorem dL_least_2 : decode cL_least 2 = .ok (.aload_n 0, 1) := by decide +kernel
theorem dL_least_3 : decode cL_least 3 = .ok (.iload_n 1, 1) := by decide +kernel
theorem dL_least_4 : decode cL_least 4 = .ok (.invokevirtual 38, 3) := by decide +kernel
theorem dL_least_7 : decode cL_least 7 = .ok (.lastore, 1) := by decide +kernel
theorem dL_least_8 : decode cL_least 8 = .ok (.goto 9, 3) := by decide +kernel
theorem dL_least_11 : decode cL_least 11 = .ok (.astore_n 3, 1) := by decide +kernel
theorem dL_least_12 : decode cL_least 12 = .ok (.iconst 1, 1) := by decide +kernel
theorem dL_least_13 : decode cL_least 13 = .ok (.ireturn, 1) := by decide +kernel
theorem dL_least_14 : decode cL_least 14 = .ok (.astore_n 3, 1) := by decide +kernel
theorem dL_least_15 : decode cL_least 15 = .ok (.iconst 2, 1) := by decide +kernel
theorem dL_least_16 : decode cL_least 16 = .ok (.ireturn, 1) := by decide +kernel
theorem dL_least_17 : decode cL_least 17 = .ok (.iconst 0, 1) := by decide +kernel
theorem dL_least_18 : decode cL_least 18 = .ok (.ireturn, 1) := by decide +kernel
theorem dL_nearest_0 : decode cL_nearest 0 = .ok (.aload_n 3, 1) := by decide +kernel
theorem dL_nearest_1 : decode cL_nearest 1 = .ok (.iconst 0, 1) := by decide +kernel
theorem dL_nearest_2 : decode cL_nearest 2 = .ok (.aload_n 0, 1) := by decide +kernel
theorem dL_nearest_3 : decode cL_nearest 3 = .ok (.iload_n 1, 1) := by decide +kernel
theorem dL_nearest_4 : decode cL_nearest 4 = .ok (.iload_n 2, 1) := by decide +kernel
theorem dL_nearest_5 : decode cL_nearest 5 = .ok (.invokevirtual 42, 3) := by decide +kernel
theorem dL_nearest_8 : decode cL_nearest 8 = .ok (.lastore, 1) := by decide +kernel
theorem dL_nearest_9 : decode cL_nearest 9 = .ok (.goto 11, 3) := by decide +kernel
theorem dL_nearest_12 : decode cL_nearest 12 = .ok (.astore 4, 2) := by decide +kernel
theorem dL_nearest_14 : decode cL_nearest 14 = .ok (.iconst 1, 1) := by decide +kernel
theorem dL_nearest_15 : decode cL_nearest 15 = .ok (.ireturn, 1) := by decide +kernel
theorem dL_nearest_16 : decode cL_nearest 16 = .ok (.astore 4, 2) := by decide +kernel
theorem dL_nearest_18 : decode cL_nearest 18 = .ok (.iconst 2, 1) := by decide +kernel
theorem dL_nearest_19 : decode cL_nearest 19 = .ok (.ireturn, 1) := by decide +kernel
theorem dL_nearest_20 : decode cL_nearest 20 = .ok (.iconst 0, 1) := by decide +kernel
theorem dL_nearest_21 : decode cL_nearest 21 = .ok (.ireturn, 1) := by decide +kernel
theorem dL_squares_0 : decode cL_squares 0 = .ok (.aload_n 2, 1) := by decide +kernel
theorem dL_squares_1 : decode cL_squares 1 = .ok (.iconst 0, 1) := by decide +kernel
theorem dL_squares_2 : decode cL_squares 2 = .ok (.aload_n 0, 1) := by decide +kernel
theorem dL_squares_3 : decode cL_squares 3 = .ok (.iload_n 1, 1) := by decide +kernel
theorem dL_squares_4 : decode cL_squares 4 = .ok (.invokevirtual 45, 3) := by decide +kernel
theorem dL_squares_7 : decode cL_squares 7 = .ok (.lastore, 1) := by decide +kernel
theorem dL_squares_8 : decode cL_squares 8 = .ok (.goto 6, 3) := by decide +kernel
theorem dL_squares_11 : decode cL_squares 11 = .ok (.astore_n 3, 1) := by decide +kernel
theorem dL_squares_12 : decode cL_squares 12 = .ok (.iconst 1, 1) := by decide +kernel
theorem dL_squares_13 : decode cL_squares 13 = .ok (.ireturn, 1) := by decide +kernel
theorem dL_squares_14 : decode cL_squares 14 = .ok (.iconst 0, 1) := by decide +kernel
theorem dL_squares_15 : decode cL_squares 15 = .ok (.ireturn, 1) := by decide +kernel
theorem dL_inBox_0 : decode cL_inBox 0 = .ok (.aload_n 2, 1) := by decide +kernel
theorem dL_inBox_1 : decode cL_inBox 1 = .ok (.iconst 0, 1) := by decide +kernel
theorem dL_inBox_2 : decode cL_inBox 2 = .ok (.aload_n 0, 1) := by decide +kernel
theorem dL_inBox_3 : decode cL_inBox 3 = .ok (.iload_n 1, 1) := by decide +kernel
theorem dL_inBox_4 : decode cL_inBox 4 = .ok (.invokevirtual 48, 3) := by decide +kernel
theorem dL_inBox_7 : decode cL_inBox 7 = .ok (.i2l, 1) := by decide +kernel
theorem dL_inBox_8 : decode cL_inBox 8 = .ok (.lastore, 1) := by decide +kernel
theorem dL_inBox_9 : decode cL_inBox 9 = .ok (.goto 6, 3) := by decide +kernel
theorem dL_inBox_12 : decode cL_inBox 12 = .ok (.astore_n 3, 1) := by decide +kernel
theorem dL_inBox_13 : decode cL_inBox 13 = .ok (.iconst 1, 1) := by decide +kernel
theorem dL_inBox_14 : decode cL_inBox 14 = .ok (.ireturn, 1) := by decide +kernel
theorem dL_inBox_15 : decode cL_inBox 15 = .ok (.iconst 0, 1) := by decide +kernel
theorem dL_inBox_16 : decode cL_inBox 16 = .ok (.ireturn, 1) := by decide +kernel
theorem dL_law_0 : decode cL_law 0 = .ok (.new 8, 3) := by decide +kernel
theorem dL_law_3 : decode cL_law 3 = .ok (.dup, 1) := by decide +kernel
theorem dL_law_4 : decode cL_law 4 = .ok (.aload_n 0, 1) := by decide +kernel
theorem dL_law_5 : decode cL_law 5 = .ok (.iconst 0, 1) := by decide +kernel
theorem dL_law_6 : decode cL_law 6 = .ok (.invokestatic 52, 3) := by decide +kernel
theorem dL_law_9 : decode cL_law 9 = .ok (.invokespecial 58, 3) := by decide +kernel
theorem dL_law_12 : decode cL_law 12 = .ok (.astore_n 1, 1) := by decide +kernel
theorem dL_law_13 : decode cL_law 13 = .ok (.new 61, 3) := by decide +kernel
theorem dL_law_16 : decode cL_law 16 = .ok (.dup, 1) := by decide +kernel
theorem dL_law_17 : decode cL_law 17 = .ok (.aload_n 0, 1) := by decide +kernel
theorem dL_law_18 : decode cL_law 18 = .ok (.iconst 0, 1) := by decide +kernel
theorem dL_law_19 : decode cL_law 19 = .ok (.invokestatic 52, 3) := by decide +kernel
theorem dL_law_22 : decode cL_law 22 = .ok (.invokespecial 63, 3) := by decide +kernel
theorem dL_law_25 : decode cL_law 25 = .ok (.astore_n 2, 1) := by decide +kernel
theorem dL_law_26 : decode cL_law 26 = .ok (.iconst 1, 1) := by decide +kernel
theorem dL_law_27 : decode cL_law 27 = .ok (.newarray .long, 2) := by decide +kernel
theorem dL_law_29 : decode cL_law 29 = .ok (.astore_n 3, 1) := by decide +kernel
theorem dL_law_30 : decode cL_law 30 = .ok (.iconst 1, 1) := by decide +kernel
theorem dL_law_31 : decode cL_law 31 = .ok (.istore 4, 2) := by decide +kernel
theorem dL_law_33 : decode cL_law 33 = .ok (.iload 4, 2) := by decide +kernel
theorem dL_law_35 : decode cL_law 35 = .ok (.aload_n 0, 1) := by decide +kernel
theorem dL_law_36 : decode cL_law 36 = .ok (.arraylength, 1) := by decide +kernel
theorem dL_law_37 : decode cL_law 37 = .ok (.iconst 4, 1) := by decide +kernel
theorem dL_law_38 : decode cL_law 38 = .ok (.isub, 1) := by decide +kernel
theorem dL_law_39 : decode cL_law 39 = .ok (.if_icmp .gt 893, 3) := by decide +kernel
theorem dL_law_42 : decode cL_law 42 = .ok (.aload_n 0, 1) := by decide +kernel
theorem dL_law_43 : decode cL_law 43 = .ok (.iload 4, 2) := by decide +kernel
theorem dL_law_45 : decode cL_law 45 = .ok (.iaload, 1) := by decide +kernel
theorem dL_law_46 : decode cL_law 46 = .ok (.bipush 31, 2) := by decide +kernel
theorem dL_law_48 : decode cL_law 48 = .ok (.iand, 1) := by decide +kernel
theorem dL_law_49 : decode cL_law 49 = .ok (.tableswitch 877 0 16 #[83, 127, 214, 282, 295, 308, 333, 400, 479, 492, 559, 614, 681, 736, 792, 841, 866], 83) := by decide +kernel
theorem dL_law_132 : decode cL_law 132 = .ok (.aload_n 1, 1) := by decide +kernel
theorem dL_law_133 : decode cL_law 133 = .ok (.aload_n 3, 1) := by decide +kernel
theorem dL_law_134 : decode cL_law 134 = .ok (.invokestatic 64, 3) := by decide +kernel
theorem dL_law_137 : decode cL_law 137 = .ok (.istore 5, 2) := by decide +kernel
theorem dL_law_139 : decode cL_law 139 = .ok (.aload_n 2, 1) := by decide +kernel
theorem dL_law_140 : decode cL_law 140 = .ok (.invokevirtual 67, 3) := by decide +kernel
theorem dL_law_143 : decode cL_law 143 = .ok (.istore 6, 2) := by decide +kernel
theorem dL_law_145 : decode cL_law 145 = .ok (.aload_n 2, 1) := by decide +kernel
theorem dL_law_146 : decode cL_law 146 = .ok (.invokevirtual 68, 3) := by decide +kernel
theorem dL_law_149 : decode cL_law 149 = .ok (.iload 5, 2) := by decide +kernel
theorem dL_law_151 : decode cL_law 151 = .ok (.if_icmp .eq 5, 3) := by decide +kernel
theorem dL_law_154 : decode cL_law 154 = .ok (.iconst 0, 1) := by decide +kernel
theorem dL_law_155 : decode cL_law 155 = .ok (.ireturn, 1) := by decide +kernel
theorem dL_law_156 : decode cL_law 156 = .ok (.iload 5, 2) := by decide +kernel
theorem dL_law_158 : decode cL_law 158 = .ok (.ifCond .ne 15, 3) := by decide +kernel
theorem dL_law_161 : decode cL_law 161 = .ok (.aload_n 3, 1) := by decide +kernel
theorem dL_law_162 : decode cL_law 162 = .ok (.iconst 0, 1) := by decide +kernel
theorem dL_law_163 : decode cL_law 163 = .ok (.laload, 1) := by decide +kernel
theorem dL_law_164 : decode cL_law 164 = .ok (.iload 6, 2) := by decide +kernel
theorem dL_law_166 : decode cL_law 166 = .ok (.i2l, 1) := by decide +kernel
theorem dL_law_167 : decode cL_law 167 = .ok (.lcmp, 1) := by decide +kernel
theorem dL_law_168 : decode cL_law 168 = .ok (.ifCond .eq 5, 3) := by decide +kernel
theorem dL_law_171 : decode cL_law 171 = .ok (.iconst 0, 1) := by decide +kernel
theorem dL_law_172 : decode cL_law 172 = .ok (.ireturn, 1) := by decide +kernel
theorem dL_law_173 : decode cL_law 173 = .ok (.goto 753, 3) := by decide +kernel
theorem dL_law_176 : decode cL_law 176 = .ok (.aload_n 1, 1) := by decide +kernel
theorem dL_law_177 : decode cL_law 177 = .ok (.aload_n 0, 1) := by decide +kernel
theorem dL_law_178 : decode cL_law 178 = .ok (.iload 4, 2) := by decide +kernel
theorem dL_law_180 : decode cL_law 180 = .ok (.iconst 1, 1) := by decide +kernel
theorem dL_law_181 : decode cL_law 181 = .ok (.iadd, 1) := by decide +kernel
theorem dL_law_182 : decode cL_law 182 = .ok (.iaload, 1) := by decide +kernel
theorem dL_law_183 : decode cL_law 183 = .ok (.aload_n 0, 1) := by decide +kernel
theorem dL_law_184 : decode cL_law 184 = .ok (.iload 4, 2) := by decide +kernel
theorem dL_law_186 : decode cL_law 186 = .ok (.iconst 2, 1) := by decide +kernel
theorem dL_law_187 : decode cL_law 187 = .ok (.iadd, 1) := by decide +kernel
theorem dL_law_188 : decode cL_law 188 = .ok (.iaload, 1) := by decide +kernel
theorem dL_law_189 : decode cL_law 189 = .ok (.aload_n 0, 1) := by decide +kernel
theorem dL_law_190 : decode cL_law 190 = .ok (.iload 4, 2) := by decide +kernel
theorem dL_law_192 : decode cL_law 192 = .ok (.iconst 3, 1) := by decide +kernel
theorem dL_law_193 : decode cL_law 193 = .ok (.iadd, 1) := by decide +kernel
theorem dL_law_194 : decode cL_law 194 = .ok (.iaload, 1) := by decide +kernel
theorem dL_law_195 : decode cL_law 195 = .ok (.aload_n 3, 1) := by decide +kernel
theorem dL_law_196 : decode cL_law 196 = .ok (.invokestatic 71, 3) := by decide +kernel
theorem dL_law_199 : decode cL_law 199 = .ok (.istore 5, 2) := by decide +kernel
theorem dL_law_201 : decode cL_law 201 = .ok (.aload_n 2, 1) := by decide +kernel
theorem dL_law_202 : decode cL_law 202 = .ok (.aload_n 0, 1) := by decide +kernel
theorem dL_law_203 : decode cL_law 203 = .ok (.iload 4, 2) := by decide +kernel
theorem dL_law_205 : decode cL_law 205 = .ok (.iconst 1, 1) := by decide +kernel
theorem dL_law_206 : decode cL_law 206 = .ok (.iadd, 1) := by decide +kernel
theorem dL_law_207 : decode cL_law 207 = .ok (.iaload, 1) := by decide +kernel
theorem dL_law_208 : decode cL_law 208 = .ok (.aload_n 0, 1) := by decide +kernel
theorem dL_law_209 : decode cL_law 209 = .ok (.iload 4, 2) := by decide +kernel
theorem dL_law_211 : decode cL_law 211 = .ok (.iconst 2, 1) := by decide +kernel
theorem dL_law_212 : decode cL_law 212 = .ok (.iadd, 1) := by decide +kernel
theorem dL_law_213 : decode cL_law 213 = .ok (.iaload, 1) := by decide +kernel
theorem dL_law_214 : decode cL_law 214 = .ok (.aload_n 0, 1) := by decide +kernel
theorem dL_law_215 : decode cL_law 215 = .ok (.iload 4, 2) := by decide +kernel
theorem dL_law_217 : decode cL_law 217 = .ok (.iconst 3, 1) := by decide +kernel
theorem dL_law_218 : decode cL_law 218 = .ok (.iadd, 1) := by decide +kernel
theorem dL_law_219 : decode cL_law 219 = .ok (.iaload, 1) := by decide +kernel
theorem dL_law_220 : decode cL_law 220 = .ok (.invokevirtual 74, 3) := by decide +kernel
theorem dL_law_223 : decode cL_law 223 = .ok (.istore 6, 2) := by decide +kernel
theorem dL_law_225 : decode cL_law 225 = .ok (.aload_n 2, 1) := by decide +kernel
theorem dL_law_226 : decode cL_law 226 = .ok (.invokevirtual 68, 3) := by decide +kernel
theorem dL_law_229 : decode cL_law 229 = .ok (.iload 5, 2) := by decide +kernel
theorem dL_law_231 : decode cL_law 231 = .ok (.if_icmp .eq 5, 3) := by decide +kernel
theorem dL_law_234 : decode cL_law 234 = .ok (.iconst 0, 1) := by decide +kernel
theorem dL_law_235 : decode cL_law 235 = .ok (.ireturn, 1) := by decide +kernel
theorem dL_law_236 : decode cL_law 236 = .ok (.iload 5, 2) := by decide +kernel
theorem dL_law_238 : decode cL_law 238 = .ok (.ifCond .ne 22, 3) := by decide +kernel
theorem dL_law_241 : decode cL_law 241 = .ok (.aload_n 3, 1) := by decide +kernel
theorem dL_law_242 : decode cL_law 242 = .ok (.iconst 0, 1) := by decide +kernel
theorem dL_law_243 : decode cL_law 243 = .ok (.laload, 1) := by decide +kernel
theorem dL_law_244 : decode cL_law 244 = .ok (.iload 6, 2) := by decide +kernel
theorem dL_law_246 : decode cL_law 246 = .ok (.ifCond .eq 7, 3) := by decide +kernel
theorem dL_law_249 : decode cL_law 249 = .ok (.lconst 1, 1) := by decide +kernel
theorem dL_law_250 : decode cL_law 250 = .ok (.goto 4, 3) := by decide +kernel
theorem dL_law_253 : decode cL_law 253 = .ok (.lconst 0, 1) := by decide +kernel
theorem dL_law_254 : decode cL_law 254 = .ok (.lcmp, 1) := by decide +kernel
theorem dL_law_255 : decode cL_law 255 = .ok (.ifCond .eq 5, 3) := by decide +kernel
theorem dL_law_258 : decode cL_law 258 = .ok (.iconst 0, 1) := by decide +kernel
theorem dL_law_259 : decode cL_law 259 = .ok (.ireturn, 1) := by decide +kernel
theorem dL_law_260 : decode cL_law 260 = .ok (.goto 666, 3) := by decide +kernel
theorem dL_law_263 : decode cL_law 263 = .ok (.aload_n 1, 1) := by decide +kernel
theorem dL_law_264 : decode cL_law 264 = .ok (.aload_n 0, 1) := by decide +kernel
theorem dL_law_265 : decode cL_law 265 = .ok (.iload 4, 2) := by decide +kernel
theorem dL_law_267 : decode cL_law 267 = .ok (.iconst 1, 1) := by decide +kernel
theorem dL_law_268 : decode cL_law 268 = .ok (.iadd, 1) := by decide +kernel
theorem dL_law_269 : decode cL_law 269 = .ok (.iaload, 1) := by decide +kernel
theorem dL_law_270 : decode cL_law 270 = .ok (.aload_n 0, 1) := by decide +kernel
theorem dL_law_271 : decode cL_law 271 = .ok (.iload 4, 2) := by decide +kernel
theorem dL_law_273 : decode cL_law 273 = .ok (.iconst 2, 1) := by decide +kernel
theorem dL_law_274 : decode cL_law 274 = .ok (.iadd, 1) := by decide +kernel
theorem dL_law_275 : decode cL_law 275 = .ok (.iaload, 1) := by decide +kernel
theorem dL_law_276 : decode cL_law 276 = .ok (.aload_n 3, 1) := by decide +kernel
theorem dL_law_277 : decode cL_law 277 = .ok (.invokestatic 75, 3) := by decide +kernel
theorem dL_law_280 : decode cL_law 280 = .ok (.istore 5, 2) := by decide +kernel
theorem dL_law_282 : decode cL_law 282 = .ok (.aload_n 2, 1) := by decide +kernel
theorem dL_law_283 : decode cL_law 283 = .ok (.aload_n 0, 1) := by decide +kernel
theorem dL_law_284 : decode cL_law 284 = .ok (.iload 4, 2) := by decide +kernel
theorem dL_law_286 : decode cL_law 286 = .ok (.iconst 1, 1) := by decide +kernel
theorem dL_law_287 : decode cL_law 287 = .ok (.iadd, 1) := by decide +kernel
theorem dL_law_288 : decode cL_law 288 = .ok (.iaload, 1) := by decide +kernel
theorem dL_law_289 : decode cL_law 289 = .ok (.aload_n 0, 1) := by decide +kernel
theorem dL_law_290 : decode cL_law 290 = .ok (.iload 4, 2) := by decide +kernel
theorem dL_law_292 : decode cL_law 292 = .ok (.iconst 2, 1) := by decide +kernel
theorem dL_law_293 : decode cL_law 293 = .ok (.iadd, 1) := by decide +kernel
theorem dL_law_294 : decode cL_law 294 = .ok (.iaload, 1) := by decide +kernel
theorem dL_law_295 : decode cL_law 295 = .ok (.invokevirtual 78, 3) := by decide +kernel
theorem dL_law_298 : decode cL_law 298 = .ok (.istore 6, 2) := by decide +kernel
theorem dL_law_300 : decode cL_law 300 = .ok (.aload_n 2, 1) := by decide +kernel
theorem dL_law_301 : decode cL_law 301 = .ok (.invokevirtual 68, 3) := by decide +kernel
theorem dL_law_304 : decode cL_law 304 = .ok (.iload 5, 2) := by decide +kernel
theorem dL_law_306 : decode cL_law 306 = .ok (.if_icmp .eq 5, 3) := by decide +kernel
theorem dL_law_309 : decode cL_law 309 = .ok (.iconst 0, 1) := by decide +kernel
theorem dL_law_310 : decode cL_law 310 = .ok (.ireturn, 1) := by decide +kernel
theorem dL_law_311 : decode cL_law 311 = .ok (.iload 5, 2) := by decide +kernel
theorem dL_law_313 : decode cL_law 313 = .ok (.ifCond .ne 15, 3) := by decide +kernel
theorem dL_law_316 : decode cL_law 316 = .ok (.aload_n 3, 1) := by decide +kernel
theorem dL_law_317 : decode cL_law 317 = .ok (.iconst 0, 1) := by decide +kernel
theorem dL_law_318 : decode cL_law 318 = .ok (.laload, 1) := by decide +kernel
theorem dL_law_319 : decode cL_law 319 = .ok (.iload 6, 2) := by decide +kernel
theorem dL_law_321 : decode cL_law 321 = .ok (.i2l, 1) := by decide +kernel
theorem dL_law_322 : decode cL_law 322 = .ok (.lcmp, 1) := by decide +kernel
theorem dL_law_323 : decode cL_law 323 = .ok (.ifCond .eq 5, 3) := by decide +kernel
theorem dL_law_326 : decode cL_law 326 = .ok (.iconst 0, 1) := by decide +kernel
theorem dL_law_327 : decode cL_law 327 = .ok (.ireturn, 1) := by decide +kernel
theorem dL_law_328 : decode cL_law 328 = .ok (.goto 598, 3) := by decide +kernel
theorem dL_law_331 : decode cL_law 331 = .ok (.aload_n 1, 1) := by decide +kernel
theorem dL_law_332 : decode cL_law 332 = .ok (.invokevirtual 79, 3) := by decide +kernel
theorem dL_law_335 : decode cL_law 335 = .ok (.aload_n 2, 1) := by decide +kernel
theorem dL_law_336 : decode cL_law 336 = .ok (.invokevirtual 82, 3) := by decide +kernel
theorem dL_law_339 : decode cL_law 339 = .ok (.if_icmp .eq 587, 3) := by decide +kernel
theorem dL_law_342 : decode cL_law 342 = .ok (.iconst 0, 1) := by decide +kernel
theorem dL_law_343 : decode cL_law 343 = .ok (.ireturn, 1) := by decide +kernel
theorem dL_law_344 : decode cL_law 344 = .ok (.aload_n 1, 1) := by decide +kernel
theorem dL_law_345 : decode cL_law 345 = .ok (.invokevirtual 83, 3) := by decide +kernel
theorem dL_law_348 : decode cL_law 348 = .ok (.aload_n 2, 1) := by decide +kernel
theorem dL_law_349 : decode cL_law 349 = .ok (.invokevirtual 86, 3) := by decide +kernel
theorem dL_law_352 : decode cL_law 352 = .ok (.if_icmp .eq 574, 3) := by decide +kernel
theorem dL_law_355 : decode cL_law 355 = .ok (.iconst 0, 1) := by decide +kernel
theorem dL_law_356 : decode cL_law 356 = .ok (.ireturn, 1) := by decide +kernel
theorem dL_law_357 : decode cL_law 357 = .ok (.aload_n 1, 1) := by decide +kernel
theorem dL_law_358 : decode cL_law 358 = .ok (.aload_n 0, 1) := by decide +kernel
theorem dL_law_359 : decode cL_law 359 = .ok (.iload 4, 2) := by decide +kernel
theorem dL_law_361 : decode cL_law 361 = .ok (.iconst 1, 1) := by decide +kernel
theorem dL_law_362 : decode cL_law 362 = .ok (.iadd, 1) := by decide +kernel
theorem dL_law_363 : decode cL_law 363 = .ok (.iaload, 1) := by decide +kernel
theorem dL_law_364 : decode cL_law 364 = .ok (.invokevirtual 87, 3) := by decide +kernel
theorem dL_law_367 : decode cL_law 367 = .ok (.aload_n 2, 1) := by decide +kernel
theorem dL_law_368 : decode cL_law 368 = .ok (.aload_n 0, 1) := by decide +kernel
theorem dL_law_369 : decode cL_law 369 = .ok (.iload 4, 2) := by decide +kernel
theorem dL_law_371 : decode cL_law 371 = .ok (.iconst 1, 1) := by decide +kernel
theorem dL_law_372 : decode cL_law 372 = .ok (.iadd, 1) := by decide +kernel
theorem dL_law_373 : decode cL_law 373 = .ok (.iaload, 1) := by decide +kernel
theorem dL_law_374 : decode cL_law 374 = .ok (.invokevirtual 90, 3) := by decide +kernel
theorem dL_law_377 : decode cL_law 377 = .ok (.if_icmp .eq 549, 3) := by decide +kernel
theorem dL_law_380 : decode cL_law 380 = .ok (.iconst 0, 1) := by decide +kernel
theorem dL_law_381 : decode cL_law 381 = .ok (.ireturn, 1) := by decide +kernel
theorem dL_law_382 : decode cL_law 382 = .ok (.aload_n 1, 1) := by decide +kernel
theorem dL_law_383 : decode cL_law 383 = .ok (.aload_n 0, 1) := by decide +kernel
theorem dL_law_384 : decode cL_law 384 = .ok (.iload 4, 2) := by decide +kernel
theorem dL_law_386 : decode cL_law 386 = .ok (.iconst 1, 1) := by decide +kernel
theorem dL_law_387 : decode cL_law 387 = .ok (.iadd, 1) := by decide +kernel
theorem dL_law_388 : decode cL_law 388 = .ok (.iaload, 1) := by decide +kernel
theorem dL_law_389 : decode cL_law 389 = .ok (.aload_n 0, 1) := by decide +kernel
theorem dL_law_390 : decode cL_law 390 = .ok (.iload 4, 2) := by decide +kernel
theorem dL_law_392 : decode cL_law 392 = .ok (.iconst 2, 1) := by decide +kernel
theorem dL_law_393 : decode cL_law 393 = .ok (.iadd, 1) := by decide +kernel
theorem dL_law_394 : decode cL_law 394 = .ok (.iaload, 1) := by decide +kernel
theorem dL_law_395 : decode cL_law 395 = .ok (.aload_n 3, 1) := by decide +kernel
theorem dL_law_396 : decode cL_law 396 = .ok (.invokestatic 91, 3) := by decide +kernel
theorem dL_law_399 : decode cL_law 399 = .ok (.istore 5, 2) := by decide +kernel
theorem dL_law_401 : decode cL_law 401 = .ok (.aload_n 2, 1) := by decide +kernel
theorem dL_law_402 : decode cL_law 402 = .ok (.aload_n 0, 1) := by decide +kernel
theorem dL_law_403 : decode cL_law 403 = .ok (.iload 4, 2) := by decide +kernel
theorem dL_law_405 : decode cL_law 405 = .ok (.iconst 1, 1) := by decide +kernel
theorem dL_law_406 : decode cL_law 406 = .ok (.iadd, 1) := by decide +kernel
theorem dL_law_407 : decode cL_law 407 = .ok (.iaload, 1) := by decide +kernel
theorem dL_law_408 : decode cL_law 408 = .ok (.aload_n 0, 1) := by decide +kernel
theorem dL_law_409 : decode cL_law 409 = .ok (.iload 4, 2) := by decide +kernel
theorem dL_law_411 : decode cL_law 411 = .ok (.iconst 2, 1) := by decide +kernel
theorem dL_law_412 : decode cL_law 412 = .ok (.iadd, 1) := by decide +kernel
theorem dL_law_413 : decode cL_law 413 = .ok (.iaload, 1) := by decide +kernel
theorem dL_law_414 : decode cL_law 414 = .ok (.invokevirtual 93, 3) := by decide +kernel
theorem dL_law_417 : decode cL_law 417 = .ok (.lstore 6, 2) := by decide +kernel
theorem dL_law_419 : decode cL_law 419 = .ok (.aload_n 2, 1) := by decide +kernel
theorem dL_law_420 : decode cL_law 420 = .ok (.invokevirtual 68, 3) := by decide +kernel
theorem dL_law_423 : decode cL_law 423 = .ok (.iload 5, 2) := by decide +kernel
theorem dL_law_425 : decode cL_law 425 = .ok (.if_icmp .eq 5, 3) := by decide +kernel
theorem dL_law_428 : decode cL_law 428 = .ok (.iconst 0, 1) := by decide +kernel
theorem dL_law_429 : decode cL_law 429 = .ok (.ireturn, 1) := by decide +kernel
theorem dL_law_430 : decode cL_law 430 = .ok (.iload 5, 2) := by decide +kernel
theorem dL_law_432 : decode cL_law 432 = .ok (.ifCond .ne 14, 3) := by decide +kernel
theorem dL_law_435 : decode cL_law 435 = .ok (.aload_n 3, 1) := by decide +kernel
theorem dL_law_436 : decode cL_law 436 = .ok (.iconst 0, 1) := by decide +kernel
theorem dL_law_437 : decode cL_law 437 = .ok (.laload, 1) := by decide +kernel
theorem dL_law_438 : decode cL_law 438 = .ok (.lload 6, 2) := by decide +kernel
theorem dL_law_440 : decode cL_law 440 = .ok (.lcmp, 1) := by decide +kernel
theorem dL_law_441 : decode cL_law 441 = .ok (.ifCond .eq 5, 3) := by decide +kernel
theorem dL_law_444 : decode cL_law 444 = .ok (.iconst 0, 1) := by decide +kernel
theorem dL_law_445 : decode cL_law 445 = .ok (.ireturn, 1) := by decide +kernel
theorem dL_law_446 : decode cL_law 446 = .ok (.goto 480, 3) := by decide +kernel
theorem dL_law_449 : decode cL_law 449 = .ok (.aload_n 1, 1) := by decide +kernel
theorem dL_law_450 : decode cL_law 450 = .ok (.aload_n 0, 1) := by decide +kernel
theorem dL_law_451 : decode cL_law 451 = .ok (.iload 4, 2) := by decide +kernel
theorem dL_law_453 : decode cL_law 453 = .ok (.iconst 1, 1) := by decide +kernel
theorem dL_law_454 : decode cL_law 454 = .ok (.iadd, 1) := by decide +kernel
theorem dL_law_455 : decode cL_law 455 = .ok (.iaload, 1) := by decide +kernel
theorem dL_law_456 : decode cL_law 456 = .ok (.aload_n 0, 1) := by decide +kernel
theorem dL_law_457 : decode cL_law 457 = .ok (.iload 4, 2) := by decide +kernel
theorem dL_law_459 : decode cL_law 459 = .ok (.iconst 2, 1) := by decide +kernel
theorem dL_law_460 : decode cL_law 460 = .ok (.iadd, 1) := by decide +kernel
theorem dL_law_461 : decode cL_law 461 = .ok (.iaload, 1) := by decide +kernel
theorem dL_law_462 : decode cL_law 462 = .ok (.aload_n 0, 1) := by decide +kernel
theorem dL_law_463 : decode cL_law 463 = .ok (.iload 4, 2) := by decide +kernel
theorem dL_law_465 : decode cL_law 465 = .ok (.iconst 3, 1) := by decide +kernel
theorem dL_law_466 : decode cL_law 466 = .ok (.iadd, 1) := by decide +kernel
theorem dL_law_467 : decode cL_law 467 = .ok (.iaload, 1) := by decide +kernel
theorem dL_law_468 : decode cL_law 468 = .ok (.aload_n 3, 1) := by decide +kernel
theorem dL_law_469 : decode cL_law 469 = .ok (.invokestatic 94, 3) := by decide +kernel
theorem dL_law_472 : decode cL_law 472 = .ok (.istore 5, 2) := by decide +kernel
theorem dL_law_474 : decode cL_law 474 = .ok (.aload_n 2, 1) := by decide +kernel
theorem dL_law_475 : decode cL_law 475 = .ok (.aload_n 0, 1) := by decide +kernel
theorem dL_law_476 : decode cL_law 476 = .ok (.iload 4, 2) := by decide +kernel
theorem dL_law_478 : decode cL_law 478 = .ok (.iconst 1, 1) := by decide +kernel
theorem dL_law_479 : decode cL_law 479 = .ok (.iadd, 1) := by decide +kernel
theorem dL_law_480 : decode cL_law 480 = .ok (.iaload, 1) := by decide +kernel
theorem dL_law_481 : decode cL_law 481 = .ok (.aload_n 0, 1) := by decide +kernel
theorem dL_law_482 : decode cL_law 482 = .ok (.iload 4, 2) := by decide +kernel
theorem dL_law_484 : decode cL_law 484 = .ok (.iconst 2, 1) := by decide +kernel
theorem dL_law_485 : decode cL_law 485 = .ok (.iadd, 1) := by decide +kernel
theorem dL_law_486 : decode cL_law 486 = .ok (.iaload, 1) := by decide +kernel
theorem dL_law_487 : decode cL_law 487 = .ok (.aload_n 0, 1) := by decide +kernel
theorem dL_law_488 : decode cL_law 488 = .ok (.iload 4, 2) := by decide +kernel
theorem dL_law_490 : decode cL_law 490 = .ok (.iconst 3, 1) := by decide +kernel
theorem dL_law_491 : decode cL_law 491 = .ok (.iadd, 1) := by decide +kernel
theorem dL_law_492 : decode cL_law 492 = .ok (.iaload, 1) := by decide +kernel
theorem dL_law_493 : decode cL_law 493 = .ok (.invokevirtual 96, 3) := by decide +kernel
theorem dL_law_496 : decode cL_law 496 = .ok (.lstore 6, 2) := by decide +kernel
theorem dL_law_498 : decode cL_law 498 = .ok (.aload_n 2, 1) := by decide +kernel
theorem dL_law_499 : decode cL_law 499 = .ok (.invokevirtual 68, 3) := by decide +kernel
theorem dL_law_502 : decode cL_law 502 = .ok (.iload 5, 2) := by decide +kernel
theorem dL_law_504 : decode cL_law 504 = .ok (.if_icmp .eq 5, 3) := by decide +kernel
theorem dL_law_507 : decode cL_law 507 = .ok (.iconst 0, 1) := by decide +kernel
theorem dL_law_508 : decode cL_law 508 = .ok (.ireturn, 1) := by decide +kernel
theorem dL_law_509 : decode cL_law 509 = .ok (.iload 5, 2) := by decide +kernel
theorem dL_law_511 : decode cL_law 511 = .ok (.ifCond .ne 14, 3) := by decide +kernel
theorem dL_law_514 : decode cL_law 514 = .ok (.aload_n 3, 1) := by decide +kernel
theorem dL_law_515 : decode cL_law 515 = .ok (.iconst 0, 1) := by decide +kernel
theorem dL_law_516 : decode cL_law 516 = .ok (.laload, 1) := by decide +kernel
theorem dL_law_517 : decode cL_law 517 = .ok (.lload 6, 2) := by decide +kernel
theorem dL_law_519 : decode cL_law 519 = .ok (.lcmp, 1) := by decide +kernel
theorem dL_law_520 : decode cL_law 520 = .ok (.ifCond .eq 5, 3) := by decide +kernel
theorem dL_law_523 : decode cL_law 523 = .ok (.iconst 0, 1) := by decide +kernel
theorem dL_law_524 : decode cL_law 524 = .ok (.ireturn, 1) := by decide +kernel
theorem dL_law_525 : decode cL_law 525 = .ok (.goto 401, 3) := by decide +kernel
theorem dL_law_528 : decode cL_law 528 = .ok (.aload_n 1, 1) := by decide +kernel
theorem dL_law_529 : decode cL_law 529 = .ok (.invokevirtual 97, 3) := by decide +kernel
theorem dL_law_532 : decode cL_law 532 = .ok (.aload_n 2, 1) := by decide +kernel
theorem dL_law_533 : decode cL_law 533 = .ok (.invokevirtual 101, 3) := by decide +kernel
theorem dL_law_536 : decode cL_law 536 = .ok (.if_icmp .eq 390, 3) := by decide +kernel
theorem dL_law_539 : decode cL_law 539 = .ok (.iconst 0, 1) := by decide +kernel
theorem dL_law_540 : decode cL_law 540 = .ok (.ireturn, 1) := by decide +kernel
theorem dL_law_541 : decode cL_law 541 = .ok (.aload_n 1, 1) := by decide +kernel
theorem dL_law_542 : decode cL_law 542 = .ok (.aload_n 0, 1) := by decide +kernel
theorem dL_law_543 : decode cL_law 543 = .ok (.iload 4, 2) := by decide +kernel
theorem dL_law_545 : decode cL_law 545 = .ok (.iconst 1, 1) := by decide +kernel
theorem dL_law_546 : decode cL_law 546 = .ok (.iadd, 1) := by decide +kernel
theorem dL_law_547 : decode cL_law 547 = .ok (.iaload, 1) := by decide +kernel
theorem dL_law_548 : decode cL_law 548 = .ok (.aload_n 0, 1) := by decide +kernel
theorem dL_law_549 : decode cL_law 549 = .ok (.iload 4, 2) := by decide +kernel
theorem dL_law_551 : decode cL_law 551 = .ok (.iconst 2, 1) := by decide +kernel
theorem dL_law_552 : decode cL_law 552 = .ok (.iadd, 1) := by decide +kernel
theorem dL_law_553 : decode cL_law 553 = .ok (.iaload, 1) := by decide +kernel
theorem dL_law_554 : decode cL_law 554 = .ok (.aload_n 3, 1) := by decide +kernel
theorem dL_law_555 : decode cL_law 555 = .ok (.invokestatic 102, 3) := by decide +kernel
theorem dL_law_558 : decode cL_law 558 = .ok (.istore 5, 2) := by decide +kernel
theorem dL_law_560 : decode cL_law 560 = .ok (.aload_n 2, 1) := by decide +kernel
theorem dL_law_561 : decode cL_law 561 = .ok (.aload_n 0, 1) := by decide +kernel
theorem dL_law_562 : decode cL_law 562 = .ok (.iload 4, 2) := by decide +kernel
theorem dL_law_564 : decode cL_law 564 = .ok (.iconst 1, 1) := by decide +kernel
theorem dL_law_565 : decode cL_law 565 = .ok (.iadd, 1) := by decide +kernel
theorem dL_law_566 : decode cL_law 566 = .ok (.iaload, 1) := by decide +kernel
theorem dL_law_567 : decode cL_law 567 = .ok (.aload_n 0, 1) := by decide +kernel
theorem dL_law_568 : decode cL_law 568 = .ok (.iload 4, 2) := by decide +kernel
theorem dL_law_570 : decode cL_law 570 = .ok (.iconst 2, 1) := by decide +kernel
theorem dL_law_571 : decode cL_law 571 = .ok (.iadd, 1) := by decide +kernel
theorem dL_law_572 : decode cL_law 572 = .ok (.iaload, 1) := by decide +kernel
theorem dL_law_573 : decode cL_law 573 = .ok (.invokevirtual 104, 3) := by decide +kernel
theorem dL_law_576 : decode cL_law 576 = .ok (.lstore 6, 2) := by decide +kernel
theorem dL_law_578 : decode cL_law 578 = .ok (.aload_n 2, 1) := by decide +kernel
theorem dL_law_579 : decode cL_law 579 = .ok (.invokevirtual 68, 3) := by decide +kernel
theorem dL_law_582 : decode cL_law 582 = .ok (.iload 5, 2) := by decide +kernel
theorem dL_law_584 : decode cL_law 584 = .ok (.if_icmp .eq 5, 3) := by decide +kernel
theorem dL_law_587 : decode cL_law 587 = .ok (.iconst 0, 1) := by decide +kernel
theorem dL_law_588 : decode cL_law 588 = .ok (.ireturn, 1) := by decide +kernel
theorem dL_law_589 : decode cL_law 589 = .ok (.iload 5, 2) := by decide +kernel
theorem dL_law_591 : decode cL_law 591 = .ok (.ifCond .ne 14, 3) := by decide +kernel
theorem dL_law_594 : decode cL_law 594 = .ok (.aload_n 3, 1) := by decide +kernel
theorem dL_law_595 : decode cL_law 595 = .ok (.iconst 0, 1) := by decide +kernel
theorem dL_law_596 : decode cL_law 596 = .ok (.laload, 1) := by decide +kernel
theorem dL_law_597 : decode cL_law 597 = .ok (.lload 6, 2) := by decide +kernel
theorem dL_law_599 : decode cL_law 599 = .ok (.lcmp, 1) := by decide +kernel
theorem dL_law_600 : decode cL_law 600 = .ok (.ifCond .eq 5, 3) := by decide +kernel
theorem dL_law_603 : decode cL_law 603 = .ok (.iconst 0, 1) := by decide +kernel
theorem dL_law_604 : decode cL_law 604 = .ok (.ireturn, 1) := by decide +kernel
theorem dL_law_605 : decode cL_law 605 = .ok (.goto 321, 3) := by decide +kernel
theorem dL_law_608 : decode cL_law 608 = .ok (.aload_n 1, 1) := by decide +kernel
theorem dL_law_609 : decode cL_law 609 = .ok (.aload_n 0, 1) := by decide +kernel
theorem dL_law_610 : decode cL_law 610 = .ok (.iload 4, 2) := by decide +kernel
theorem dL_law_612 : decode cL_law 612 = .ok (.iconst 1, 1) := by decide +kernel
theorem dL_law_613 : decode cL_law 613 = .ok (.iadd, 1) := by decide +kernel
theorem dL_law_614 : decode cL_law 614 = .ok (.iaload, 1) := by decide +kernel
theorem dL_law_615 : decode cL_law 615 = .ok (.aload_n 3, 1) := by decide +kernel
theorem dL_law_616 : decode cL_law 616 = .ok (.invokestatic 105, 3) := by decide +kernel
theorem dL_law_619 : decode cL_law 619 = .ok (.istore 5, 2) := by decide +kernel
theorem dL_law_621 : decode cL_law 621 = .ok (.aload_n 2, 1) := by decide +kernel
theorem dL_law_622 : decode cL_law 622 = .ok (.aload_n 0, 1) := by decide +kernel
theorem dL_law_623 : decode cL_law 623 = .ok (.iload 4, 2) := by decide +kernel
theorem dL_law_625 : decode cL_law 625 = .ok (.iconst 1, 1) := by decide +kernel
theorem dL_law_626 : decode cL_law 626 = .ok (.iadd, 1) := by decide +kernel
theorem dL_law_627 : decode cL_law 627 = .ok (.iaload, 1) := by decide +kernel
theorem dL_law_628 : decode cL_law 628 = .ok (.invokevirtual 108, 3) := by decide +kernel
theorem dL_law_631 : decode cL_law 631 = .ok (.lstore 6, 2) := by decide +kernel
theorem dL_law_633 : decode cL_law 633 = .ok (.aload_n 2, 1) := by decide +kernel
theorem dL_law_634 : decode cL_law 634 = .ok (.invokevirtual 68, 3) := by decide +kernel
theorem dL_law_637 : decode cL_law 637 = .ok (.iload 5, 2) := by decide +kernel
theorem dL_law_639 : decode cL_law 639 = .ok (.if_icmp .eq 5, 3) := by decide +kernel
theorem dL_law_642 : decode cL_law 642 = .ok (.iconst 0, 1) := by decide +kernel
theorem dL_law_643 : decode cL_law 643 = .ok (.ireturn, 1) := by decide +kernel
theorem dL_law_644 : decode cL_law 644 = .ok (.iload 5, 2) := by decide +kernel
theorem dL_law_646 : decode cL_law 646 = .ok (.ifCond .ne 14, 3) := by decide +kernel
theorem dL_law_649 : decode cL_law 649 = .ok (.aload_n 3, 1) := by decide +kernel
theorem dL_law_650 : decode cL_law 650 = .ok (.iconst 0, 1) := by decide +kernel
theorem dL_law_651 : decode cL_law 651 = .ok (.laload, 1) := by decide +kernel
theorem dL_law_652 : decode cL_law 652 = .ok (.lload 6, 2) := by decide +kernel
theorem dL_law_654 : decode cL_law 654 = .ok (.lcmp, 1) := by decide +kernel
theorem dL_law_655 : decode cL_law 655 = .ok (.ifCond .eq 5, 3) := by decide +kernel
theorem dL_law_658 : decode cL_law 658 = .ok (.iconst 0, 1) := by decide +kernel
theorem dL_law_659 : decode cL_law 659 = .ok (.ireturn, 1) := by decide +kernel
theorem dL_law_660 : decode cL_law 660 = .ok (.goto 266, 3) := by decide +kernel
theorem dL_law_663 : decode cL_law 663 = .ok (.aload_n 1, 1) := by decide +kernel
theorem dL_law_664 : decode cL_law 664 = .ok (.aload_n 0, 1) := by decide +kernel
theorem dL_law_665 : decode cL_law 665 = .ok (.iload 4, 2) := by decide +kernel
theorem dL_law_667 : decode cL_law 667 = .ok (.iconst 1, 1) := by decide +kernel
theorem dL_law_668 : decode cL_law 668 = .ok (.iadd, 1) := by decide +kernel
theorem dL_law_669 : decode cL_law 669 = .ok (.iaload, 1) := by decide +kernel
theorem dL_law_670 : decode cL_law 670 = .ok (.aload_n 0, 1) := by decide +kernel
theorem dL_law_671 : decode cL_law 671 = .ok (.iload 4, 2) := by decide +kernel
theorem dL_law_673 : decode cL_law 673 = .ok (.iconst 2, 1) := by decide +kernel
theorem dL_law_674 : decode cL_law 674 = .ok (.iadd, 1) := by decide +kernel
theorem dL_law_675 : decode cL_law 675 = .ok (.iaload, 1) := by decide +kernel
theorem dL_law_676 : decode cL_law 676 = .ok (.aload_n 3, 1) := by decide +kernel
theorem dL_law_677 : decode cL_law 677 = .ok (.invokestatic 109, 3) := by decide +kernel
theorem dL_law_680 : decode cL_law 680 = .ok (.istore 5, 2) := by decide +kernel
theorem dL_law_682 : decode cL_law 682 = .ok (.aload_n 2, 1) := by decide +kernel
theorem dL_law_683 : decode cL_law 683 = .ok (.aload_n 0, 1) := by decide +kernel
theorem dL_law_684 : decode cL_law 684 = .ok (.iload 4, 2) := by decide +kernel
theorem dL_law_686 : decode cL_law 686 = .ok (.iconst 1, 1) := by decide +kernel
theorem dL_law_687 : decode cL_law 687 = .ok (.iadd, 1) := by decide +kernel
theorem dL_law_688 : decode cL_law 688 = .ok (.iaload, 1) := by decide +kernel
theorem dL_law_689 : decode cL_law 689 = .ok (.aload_n 0, 1) := by decide +kernel
theorem dL_law_690 : decode cL_law 690 = .ok (.iload 4, 2) := by decide +kernel
theorem dL_law_692 : decode cL_law 692 = .ok (.iconst 2, 1) := by decide +kernel
theorem dL_law_693 : decode cL_law 693 = .ok (.iadd, 1) := by decide +kernel
theorem dL_law_694 : decode cL_law 694 = .ok (.iaload, 1) := by decide +kernel
theorem dL_law_695 : decode cL_law 695 = .ok (.invokevirtual 111, 3) := by decide +kernel
theorem dL_law_698 : decode cL_law 698 = .ok (.lstore 6, 2) := by decide +kernel
theorem dL_law_700 : decode cL_law 700 = .ok (.aload_n 2, 1) := by decide +kernel
theorem dL_law_701 : decode cL_law 701 = .ok (.invokevirtual 68, 3) := by decide +kernel
theorem dL_law_704 : decode cL_law 704 = .ok (.iload 5, 2) := by decide +kernel
theorem dL_law_706 : decode cL_law 706 = .ok (.if_icmp .eq 5, 3) := by decide +kernel
theorem dL_law_709 : decode cL_law 709 = .ok (.iconst 0, 1) := by decide +kernel
theorem dL_law_710 : decode cL_law 710 = .ok (.ireturn, 1) := by decide +kernel
theorem dL_law_711 : decode cL_law 711 = .ok (.iload 5, 2) := by decide +kernel
theorem dL_law_713 : decode cL_law 713 = .ok (.ifCond .ne 14, 3) := by decide +kernel
theorem dL_law_716 : decode cL_law 716 = .ok (.aload_n 3, 1) := by decide +kernel
theorem dL_law_717 : decode cL_law 717 = .ok (.iconst 0, 1) := by decide +kernel
theorem dL_law_718 : decode cL_law 718 = .ok (.laload, 1) := by decide +kernel
theorem dL_law_719 : decode cL_law 719 = .ok (.lload 6, 2) := by decide +kernel
theorem dL_law_721 : decode cL_law 721 = .ok (.lcmp, 1) := by decide +kernel
theorem dL_law_722 : decode cL_law 722 = .ok (.ifCond .eq 5, 3) := by decide +kernel
theorem dL_law_725 : decode cL_law 725 = .ok (.iconst 0, 1) := by decide +kernel
theorem dL_law_726 : decode cL_law 726 = .ok (.ireturn, 1) := by decide +kernel
theorem dL_law_727 : decode cL_law 727 = .ok (.goto 199, 3) := by decide +kernel
theorem dL_law_730 : decode cL_law 730 = .ok (.aload_n 1, 1) := by decide +kernel
theorem dL_law_731 : decode cL_law 731 = .ok (.aload_n 0, 1) := by decide +kernel
theorem dL_law_732 : decode cL_law 732 = .ok (.iload 4, 2) := by decide +kernel
theorem dL_law_734 : decode cL_law 734 = .ok (.iconst 1, 1) := by decide +kernel
theorem dL_law_735 : decode cL_law 735 = .ok (.iadd, 1) := by decide +kernel
theorem dL_law_736 : decode cL_law 736 = .ok (.iaload, 1) := by decide +kernel
theorem dL_law_737 : decode cL_law 737 = .ok (.aload_n 3, 1) := by decide +kernel
theorem dL_law_738 : decode cL_law 738 = .ok (.invokestatic 112, 3) := by decide +kernel
theorem dL_law_741 : decode cL_law 741 = .ok (.istore 5, 2) := by decide +kernel
theorem dL_law_743 : decode cL_law 743 = .ok (.aload_n 2, 1) := by decide +kernel
theorem dL_law_744 : decode cL_law 744 = .ok (.aload_n 0, 1) := by decide +kernel
theorem dL_law_745 : decode cL_law 745 = .ok (.iload 4, 2) := by decide +kernel
theorem dL_law_747 : decode cL_law 747 = .ok (.iconst 1, 1) := by decide +kernel
theorem dL_law_748 : decode cL_law 748 = .ok (.iadd, 1) := by decide +kernel
theorem dL_law_749 : decode cL_law 749 = .ok (.iaload, 1) := by decide +kernel
theorem dL_law_750 : decode cL_law 750 = .ok (.invokevirtual 114, 3) := by decide +kernel
theorem dL_law_753 : decode cL_law 753 = .ok (.lstore 6, 2) := by decide +kernel
theorem dL_law_755 : decode cL_law 755 = .ok (.aload_n 2, 1) := by decide +kernel
theorem dL_law_756 : decode cL_law 756 = .ok (.invokevirtual 68, 3) := by decide +kernel
theorem dL_law_759 : decode cL_law 759 = .ok (.iload 5, 2) := by decide +kernel
theorem dL_law_761 : decode cL_law 761 = .ok (.if_icmp .eq 5, 3) := by decide +kernel
theorem dL_law_764 : decode cL_law 764 = .ok (.iconst 0, 1) := by decide +kernel
theorem dL_law_765 : decode cL_law 765 = .ok (.ireturn, 1) := by decide +kernel
theorem dL_law_766 : decode cL_law 766 = .ok (.iload 5, 2) := by decide +kernel
theorem dL_law_768 : decode cL_law 768 = .ok (.ifCond .ne 14, 3) := by decide +kernel
theorem dL_law_771 : decode cL_law 771 = .ok (.aload_n 3, 1) := by decide +kernel
theorem dL_law_772 : decode cL_law 772 = .ok (.iconst 0, 1) := by decide +kernel
theorem dL_law_773 : decode cL_law 773 = .ok (.laload, 1) := by decide +kernel
theorem dL_law_774 : decode cL_law 774 = .ok (.lload 6, 2) := by decide +kernel
theorem dL_law_776 : decode cL_law 776 = .ok (.lcmp, 1) := by decide +kernel
theorem dL_law_777 : decode cL_law 777 = .ok (.ifCond .eq 5, 3) := by decide +kernel
theorem dL_law_780 : decode cL_law 780 = .ok (.iconst 0, 1) := by decide +kernel
theorem dL_law_781 : decode cL_law 781 = .ok (.ireturn, 1) := by decide +kernel
theorem dL_law_782 : decode cL_law 782 = .ok (.goto 144, 3) := by decide +kernel
theorem dL_law_785 : decode cL_law 785 = .ok (.aload_n 1, 1) := by decide +kernel
theorem dL_law_786 : decode cL_law 786 = .ok (.aload_n 0, 1) := by decide +kernel
theorem dL_law_787 : decode cL_law 787 = .ok (.iload 4, 2) := by decide +kernel
theorem dL_law_789 : decode cL_law 789 = .ok (.iconst 1, 1) := by decide +kernel
theorem dL_law_790 : decode cL_law 790 = .ok (.iadd, 1) := by decide +kernel
theorem dL_law_791 : decode cL_law 791 = .ok (.iaload, 1) := by decide +kernel
theorem dL_law_792 : decode cL_law 792 = .ok (.aload_n 3, 1) := by decide +kernel
theorem dL_law_793 : decode cL_law 793 = .ok (.invokestatic 115, 3) := by decide +kernel
theorem dL_law_796 : decode cL_law 796 = .ok (.istore 5, 2) := by decide +kernel
theorem dL_law_798 : decode cL_law 798 = .ok (.aload_n 2, 1) := by decide +kernel
theorem dL_law_799 : decode cL_law 799 = .ok (.aload_n 0, 1) := by decide +kernel
theorem dL_law_800 : decode cL_law 800 = .ok (.iload 4, 2) := by decide +kernel
theorem dL_law_802 : decode cL_law 802 = .ok (.iconst 1, 1) := by decide +kernel
theorem dL_law_803 : decode cL_law 803 = .ok (.iadd, 1) := by decide +kernel
theorem dL_law_804 : decode cL_law 804 = .ok (.iaload, 1) := by decide +kernel
theorem dL_law_805 : decode cL_law 805 = .ok (.invokevirtual 117, 3) := by decide +kernel
theorem dL_law_808 : decode cL_law 808 = .ok (.istore 6, 2) := by decide +kernel
theorem dL_law_810 : decode cL_law 810 = .ok (.aload_n 2, 1) := by decide +kernel
theorem dL_law_811 : decode cL_law 811 = .ok (.invokevirtual 68, 3) := by decide +kernel
theorem dL_law_814 : decode cL_law 814 = .ok (.iload 5, 2) := by decide +kernel
theorem dL_law_816 : decode cL_law 816 = .ok (.if_icmp .eq 5, 3) := by decide +kernel
theorem dL_law_819 : decode cL_law 819 = .ok (.iconst 0, 1) := by decide +kernel
theorem dL_law_820 : decode cL_law 820 = .ok (.ireturn, 1) := by decide +kernel
theorem dL_law_821 : decode cL_law 821 = .ok (.iload 5, 2) := by decide +kernel
theorem dL_law_823 : decode cL_law 823 = .ok (.ifCond .ne 15, 3) := by decide +kernel
theorem dL_law_826 : decode cL_law 826 = .ok (.aload_n 3, 1) := by decide +kernel
theorem dL_law_827 : decode cL_law 827 = .ok (.iconst 0, 1) := by decide +kernel
theorem dL_law_828 : decode cL_law 828 = .ok (.laload, 1) := by decide +kernel
theorem dL_law_829 : decode cL_law 829 = .ok (.iload 6, 2) := by decide +kernel
theorem dL_law_831 : decode cL_law 831 = .ok (.i2l, 1) := by decide +kernel
theorem dL_law_832 : decode cL_law 832 = .ok (.lcmp, 1) := by decide +kernel
theorem dL_law_833 : decode cL_law 833 = .ok (.ifCond .eq 5, 3) := by decide +kernel
theorem dL_law_836 : decode cL_law 836 = .ok (.iconst 0, 1) := by decide +kernel
theorem dL_law_837 : decode cL_law 837 = .ok (.ireturn, 1) := by decide +kernel
theorem dL_law_838 : decode cL_law 838 = .ok (.goto 88, 3) := by decide +kernel
theorem dL_law_841 : decode cL_law 841 = .ok (.aload_n 1, 1) := by decide +kernel
theorem dL_law_842 : decode cL_law 842 = .ok (.aload_n 0, 1) := by decide +kernel
theorem dL_law_843 : decode cL_law 843 = .ok (.iload 4, 2) := by decide +kernel
theorem dL_law_845 : decode cL_law 845 = .ok (.iconst 1, 1) := by decide +kernel
theorem dL_law_846 : decode cL_law 846 = .ok (.iadd, 1) := by decide +kernel
theorem dL_law_847 : decode cL_law 847 = .ok (.iaload, 1) := by decide +kernel
theorem dL_law_848 : decode cL_law 848 = .ok (.aload_n 0, 1) := by decide +kernel
theorem dL_law_849 : decode cL_law 849 = .ok (.iload 4, 2) := by decide +kernel
theorem dL_law_851 : decode cL_law 851 = .ok (.iconst 2, 1) := by decide +kernel
theorem dL_law_852 : decode cL_law 852 = .ok (.iadd, 1) := by decide +kernel
theorem dL_law_853 : decode cL_law 853 = .ok (.iaload, 1) := by decide +kernel
theorem dL_law_854 : decode cL_law 854 = .ok (.aload_n 0, 1) := by decide +kernel
theorem dL_law_855 : decode cL_law 855 = .ok (.iload 4, 2) := by decide +kernel
theorem dL_law_857 : decode cL_law 857 = .ok (.iconst 3, 1) := by decide +kernel
theorem dL_law_858 : decode cL_law 858 = .ok (.iadd, 1) := by decide +kernel
theorem dL_law_859 : decode cL_law 859 = .ok (.iaload, 1) := by decide +kernel
theorem dL_law_860 : decode cL_law 860 = .ok (.invokevirtual 118, 3) := by decide +kernel
theorem dL_law_863 : decode cL_law 863 = .ok (.aload_n 2, 1) := by decide +kernel
theorem dL_law_864 : decode cL_law 864 = .ok (.aload_n 0, 1) := by decide +kernel
theorem dL_law_865 : decode cL_law 865 = .ok (.iload 4, 2) := by decide +kernel
theorem dL_law_867 : decode cL_law 867 = .ok (.iconst 1, 1) := by decide +kernel
theorem dL_law_868 : decode cL_law 868 = .ok (.iadd, 1) := by decide +kernel
theorem dL_law_869 : decode cL_law 869 = .ok (.iaload, 1) := by decide +kernel
theorem dL_law_870 : decode cL_law 870 = .ok (.aload_n 0, 1) := by decide +kernel
theorem dL_law_871 : decode cL_law 871 = .ok (.iload 4, 2) := by decide +kernel
theorem dL_law_873 : decode cL_law 873 = .ok (.iconst 2, 1) := by decide +kernel
theorem dL_law_874 : decode cL_law 874 = .ok (.iadd, 1) := by decide +kernel
theorem dL_law_875 : decode cL_law 875 = .ok (.iaload, 1) := by decide +kernel
theorem dL_law_876 : decode cL_law 876 = .ok (.aload_n 0, 1) := by decide +kernel
theorem dL_law_877 : decode cL_law 877 = .ok (.iload 4, 2) := by decide +kernel
theorem dL_law_879 : decode cL_law 879 = .ok (.iconst 3, 1) := by decide +kernel
theorem dL_law_880 : decode cL_law 880 = .ok (.iadd, 1) := by decide +kernel
theorem dL_law_881 : decode cL_law 881 = .ok (.iaload, 1) := by decide +kernel
theorem dL_law_882 : decode cL_law 882 = .ok (.invokevirtual 121, 3) := by decide +kernel
theorem dL_law_885 : decode cL_law 885 = .ok (.if_icmp .eq 41, 3) := by decide +kernel
theorem dL_law_888 : decode cL_law 888 = .ok (.iconst 0, 1) := by decide +kernel
theorem dL_law_889 : decode cL_law 889 = .ok (.ireturn, 1) := by decide +kernel
theorem dL_law_890 : decode cL_law 890 = .ok (.aload_n 1, 1) := by decide +kernel
theorem dL_law_891 : decode cL_law 891 = .ok (.aload_n 0, 1) := by decide +kernel
theorem dL_law_892 : decode cL_law 892 = .ok (.iload 4, 2) := by decide +kernel
theorem dL_law_894 : decode cL_law 894 = .ok (.iconst 1, 1) := by decide +kernel
theorem dL_law_895 : decode cL_law 895 = .ok (.iadd, 1) := by decide +kernel
theorem dL_law_896 : decode cL_law 896 = .ok (.iaload, 1) := by decide +kernel
theorem dL_law_897 : decode cL_law 897 = .ok (.invokevirtual 122, 3) := by decide +kernel
theorem dL_law_900 : decode cL_law 900 = .ok (.aload_n 2, 1) := by decide +kernel
theorem dL_law_901 : decode cL_law 901 = .ok (.aload_n 0, 1) := by decide +kernel
theorem dL_law_902 : decode cL_law 902 = .ok (.iload 4, 2) := by decide +kernel
theorem dL_law_904 : decode cL_law 904 = .ok (.iconst 1, 1) := by decide +kernel
theorem dL_law_905 : decode cL_law 905 = .ok (.iadd, 1) := by decide +kernel
theorem dL_law_906 : decode cL_law 906 = .ok (.iaload, 1) := by decide +kernel
theorem dL_law_907 : decode cL_law 907 = .ok (.invokevirtual 125, 3) := by decide +kernel
theorem dL_law_910 : decode cL_law 910 = .ok (.if_icmp .eq 16, 3) := by decide +kernel
end
section
/-! decode rows of L -/
theorem dL_law_913 : decode cL_law 913 = .ok (.iconst 0, 1) := by decide +kernel
theorem dL_law_914 : decode cL_law 914 = .ok (.ireturn, 1) := by decide +kernel
theorem dL_law_915 : decode cL_law 915 = .ok (.aload_n 1, 1) := by decide +kernel
theorem dL_law_916 : decode cL_law 916 = .ok (.invokevirtual 126, 3) := by decide +kernel
theorem dL_law_919 : decode cL_law 919 = .ok (.aload_n 2, 1) := by decide +kernel
theorem dL_law_920 : decode cL_law 920 = .ok (.invokevirtual 129, 3) := by decide +kernel
theorem dL_law_923 : decode cL_law 923 = .ok (.goto 3, 3) := by decide +kernel
theorem dL_law_926 : decode cL_law 926 = .ok (.iinc 4 4, 3) := by decide +kernel
theorem dL_law_929 : decode cL_law 929 = .ok (.goto (-896), 3) := by decide +kernel
theorem dL_law_932 : decode cL_law 932 = .ok (.iconst 1, 1) := by decide +kernel
theorem dL_law_933 : decode cL_law 933 = .ok (.ireturn, 1) := by decide +kernel
end
section
/-! decode rows of X0 -/
theorem dX0_init_0 : decode cX0_init 0 = .ok (.aload_n 0, 1) := by decide +kernel
theorem dX0_init_1 : decode cX0_init 1 = .ok (.invokespecial 3, 3) := by decide +kernel
theorem dX0_init_4 : decode cX0_init 4 = .ok (.aload_n 0, 1) := by decide +kernel
theorem dX0_init_5 : decode cX0_init 5 = .ok (.bipush 7, 2) := by decide +kernel
theorem dX0_init_7 : decode cX0_init 7 = .ok (.iconst 5, 1) := by decide +kernel
theorem dX0_init_8 : decode cX0_init 8 = .ok (.multianewarray 11 2, 4) := by decide +kernel
theorem dX0_init_12 : decode cX0_init 12 = .ok (.putfield 13, 3) := by decide +kernel
theorem dX0_init_15 : decode cX0_init 15 = .ok (.aload_n 0, 1) := by decide +kernel
theorem dX0_init_16 : decode cX0_init 16 = .ok (.bipush 7, 2) := by decide +kernel
theorem dX0_init_18 : decode cX0_init 18 = .ok (.newarray .int, 2) := by decide +kernel
theorem dX0_init_20 : decode cX0_init 20 = .ok (.putfield 16, 3) := by decide +kernel
theorem dX0_init_23 : decode cX0_init 23 = .ok (.aload_n 0, 1) := by decide +kernel
theorem dX0_init_24 : decode cX0_init 24 = .ok (.iconst 0, 1) := by decide +kernel
theorem dX0_init_25 : decode cX0_init 25 = .ok (.putfield 20, 3) := by decide +kernel
theorem dX0_init_28 : decode cX0_init 28 = .ok (.aload_n 0, 1) := by decide +kernel
theorem dX0_init_29 : decode cX0_init 29 = .ok (.iconst 0, 1) := by decide +kernel
theorem dX0_init_30 : decode cX0_init 30 = .ok (.putfield 24, 3) := by decide +kernel
theorem dX0_init_33 : decode cX0_init 33 = .ok (.aload_n 0, 1) := by decide +kernel
theorem dX0_init_34 : decode cX0_init 34 = .ok (.iconst 0, 1) := by decide +kernel
theorem dX0_init_35 : decode cX0_init 35 = .ok (.putfield 27, 3) := by decide +kernel
theorem dX0_init_38 : decode cX0_init 38 = .ok (.return_, 1) := by decide +kernel
theorem dX0_begin_0 : decode cX0_begin 0 = .ok (.aload_n 0, 1) := by decide +kernel
theorem dX0_begin_1 : decode cX0_begin 1 = .ok (.iconst 0, 1) := by decide +kernel
theorem dX0_begin_2 : decode cX0_begin 2 = .ok (.iconst 4, 1) := by decide +kernel
theorem dX0_begin_3 : decode cX0_begin 3 = .ok (.iload_n 1, 1) := by decide +kernel
theorem dX0_begin_4 : decode cX0_begin 4 = .ok (.invokestatic 30, 3) := by decide +kernel
theorem dX0_begin_7 : decode cX0_begin 7 = .ok (.invokestatic 36, 3) := by decide +kernel
theorem dX0_begin_10 : decode cX0_begin 10 = .ok (.putfield 20, 3) := by decide +kernel
theorem dX0_begin_13 : decode cX0_begin 13 = .ok (.aload_n 0, 1) := by decide +kernel
theorem dX0_begin_14 : decode cX0_begin 14 = .ok (.iconst 0, 1) := by decide +kernel
theorem dX0_begin_15 : decode cX0_begin 15 = .ok (.bipush 7, 2) := by decide +kernel
theorem dX0_begin_17 : decode cX0_begin 17 = .ok (.iload_n 2, 1) := by decide +kernel
theorem dX0_begin_18 : decode cX0_begin 18 = .ok (.invokestatic 30, 3) := by decide +kernel
theorem dX0_begin_21 : decode cX0_begin 21 = .ok (.invokestatic 36, 3) := by decide +kernel
theorem dX0_begin_24 : decode cX0_begin 24 = .ok (.putfield 24, 3) := by decide +kernel
theorem dX0_begin_27 : decode cX0_begin 27 = .ok (.aload_n 0, 1) := by decide +kernel
theorem dX0_begin_28 : decode cX0_begin 28 = .ok (.iconst 0, 1) := by decide +kernel
theorem dX0_begin_29 : decode cX0_begin 29 = .ok (.putfield 27, 3) := by decide +kernel
theorem dX0_begin_32 : decode cX0_begin 32 = .ok (.iconst 0, 1) := by decide +kernel
theorem dX0_begin_33 : decode cX0_begin 33 = .ok (.istore_n 3, 1) := by decide +kernel
theorem dX0_begin_34 : decode cX0_begin 34 = .ok (.iload_n 3, 1) := by decide +kernel
theorem dX0_begin_35 : decode cX0_begin 35 = .ok (.aload_n 0, 1) := by decide +kernel
theorem dX0_begin_36 : decode cX0_begin 36 = .ok (.getfield 24, 3) := by decide +kernel
theorem dX0_begin_39 : decode cX0_begin 39 = .ok (.if_icmp .ge 37, 3) := by decide +kernel
theorem dX0_begin_42 : decode cX0_begin 42 = .ok (.iconst 0, 1) := by decide +kernel
theorem dX0_begin_43 : decode cX0_begin 43 = .ok (.istore 4, 2) := by decide +kernel
theorem dX0_begin_45 : decode cX0_begin 45 = .ok (.iload 4, 2) := by decide +kernel
theorem dX0_begin_47 : decode cX0_begin 47 = .ok (.aload_n 0, 1) := by decide +kernel
theorem dX0_begin_48 : decode cX0_begin 48 = .ok (.getfield 20, 3) := by decide +kernel
theorem dX0_begin_51 : decode cX0_begin 51 = .ok (.if_icmp .gt 19, 3) := by decide +kernel
theorem dX0_begin_54 : decode cX0_begin 54 = .ok (.aload_n 0, 1) := by decide +kernel
theorem dX0_begin_55 : decode cX0_begin 55 = .ok (.getfield 13, 3) := by decide +kernel
theorem dX0_begin_58 : decode cX0_begin 58 = .ok (.iload_n 3, 1) := by decide +kernel
theorem dX0_begin_59 : decode cX0_begin 59 = .ok (.aaload, 1) := by decide +kernel
theorem dX0_begin_60 : decode cX0_begin 60 = .ok (.iload 4, 2) := by decide +kernel
theorem dX0_begin_62 : decode cX0_begin 62 = .ok (.lconst 0, 1) := by decide +kernel
theorem dX0_begin_63 : decode cX0_begin 63 = .ok (.lastore, 1) := by decide +kernel
theorem dX0_begin_64 : decode cX0_begin 64 = .ok (.iinc 4 1, 3) := by decide +kernel
theorem dX0_begin_67 : decode cX0_begin 67 = .ok (.goto (-22), 3) := by decide +kernel
theorem dX0_begin_70 : decode cX0_begin 70 = .ok (.iinc 3 1, 3) := by decide +kernel
theorem dX0_begin_73 : decode cX0_begin 73 = .ok (.goto (-39), 3) := by decide +kernel
theorem dX0_begin_76 : decode cX0_begin 76 = .ok (.return_, 1) := by decide +kernel
theorem dX0_eliminate_0 : decode cX0_eliminate 0 = .ok (.iconst 0, 1) := by decide +kernel
theorem dX0_eliminate_1 : decode cX0_eliminate 1 = .ok (.istore_n 1, 1) := by decide +kernel
theorem dX0_eliminate_2 : decode cX0_eliminate 2 = .ok (.iload_n 1, 1) := by decide +kernel
theorem dX0_eliminate_3 : decode cX0_eliminate 3 = .ok (.aload_n 0, 1) := by decide +kernel
theorem dX0_eliminate_4 : decode cX0_eliminate 4 = .ok (.getfield 20, 3) := by decide +kernel
theorem dX0_eliminate_7 : decode cX0_eliminate 7 = .ok (.if_icmp .ge 77, 3) := by decide +kernel
theorem dX0_eliminate_10 : decode cX0_eliminate 10 = .ok (.aload_n 0, 1) := by decide +kernel
theorem dX0_eliminate_11 : decode cX0_eliminate 11 = .ok (.getfield 27, 3) := by decide +kernel
theorem dX0_eliminate_14 : decode cX0_eliminate 14 = .ok (.aload_n 0, 1) := by decide +kernel
theorem dX0_eliminate_15 : decode cX0_eliminate 15 = .ok (.getfield 24, 3) := by decide +kernel
theorem dX0_eliminate_18 : decode cX0_eliminate 18 = .ok (.if_icmp .ge 66, 3) := by decide +kernel
theorem dX0_eliminate_21 : decode cX0_eliminate 21 = .ok (.aload_n 0, 1) := by decide +kernel
theorem dX0_eliminate_22 : decode cX0_eliminate 22 = .ok (.iload_n 1, 1) := by decide +kernel
theorem dX0_eliminate_23 : decode cX0_eliminate 23 = .ok (.invokevirtual 39, 3) := by decide +kernel
theorem dX0_eliminate_26 : decode cX0_eliminate 26 = .ok (.istore_n 2, 1) := by decide +kernel
theorem dX0_eliminate_27 : decode cX0_eliminate 27 = .ok (.iload_n 2, 1) := by decide +kernel
theorem dX0_eliminate_28 : decode cX0_eliminate 28 = .ok (.ifCond .lt 50, 3) := by decide +kernel
theorem dX0_eliminate_31 : decode cX0_eliminate 31 = .ok (.aload_n 0, 1) := by decide +kernel
theorem dX0_eliminate_32 : decode cX0_eliminate 32 = .ok (.aload_n 0, 1) := by decide +kernel
theorem dX0_eliminate_33 : decode cX0_eliminate 33 = .ok (.getfield 27, 3) := by decide +kernel
theorem dX0_eliminate_36 : decode cX0_eliminate 36 = .ok (.iload_n 2, 1) := by decide +kernel
theorem dX0_eliminate_37 : decode cX0_eliminate 37 = .ok (.invokevirtual 43, 3) := by decide +kernel
theorem dX0_eliminate_40 : decode cX0_eliminate 40 = .ok (.aload_n 0, 1) := by decide +kernel
theorem dX0_eliminate_41 : decode cX0_eliminate 41 = .ok (.aload_n 0, 1) := by decide +kernel
theorem dX0_eliminate_42 : decode cX0_eliminate 42 = .ok (.getfield 27, 3) := by decide +kernel
theorem dX0_eliminate_45 : decode cX0_eliminate 45 = .ok (.iload_n 1, 1) := by decide +kernel
theorem dX0_eliminate_46 : decode cX0_eliminate 46 = .ok (.invokevirtual 47, 3) := by decide +kernel
theorem dX0_eliminate_49 : decode cX0_eliminate 49 = .ok (.aload_n 0, 1) := by decide +kernel
theorem dX0_eliminate_50 : decode cX0_eliminate 50 = .ok (.aload_n 0, 1) := by decide +kernel
theorem dX0_eliminate_51 : decode cX0_eliminate 51 = .ok (.getfield 27, 3) := by decide +kernel
theorem dX0_eliminate_54 : decode cX0_eliminate 54 = .ok (.iload_n 1, 1) := by decide +kernel
theorem dX0_eliminate_55 : decode cX0_eliminate 55 = .ok (.invokevirtual 50, 3) := by decide +kernel
theorem dX0_eliminate_58 : decode cX0_eliminate 58 = .ok (.aload_n 0, 1) := by decide +kernel
theorem dX0_eliminate_59 : decode cX0_eliminate 59 = .ok (.getfield 16, 3) := by decide +kernel
theorem dX0_eliminate_62 : decode cX0_eliminate 62 = .ok (.aload_n 0, 1) := by decide +kernel
theorem dX0_eliminate_63 : decode cX0_eliminate 63 = .ok (.getfield 27, 3) := by decide +kernel
theorem dX0_eliminate_66 : decode cX0_eliminate 66 = .ok (.iload_n 1, 1) := by decide +kernel
theorem dX0_eliminate_67 : decode cX0_eliminate 67 = .ok (.iastore, 1) := by decide +kernel
theorem dX0_eliminate_68 : decode cX0_eliminate 68 = .ok (.aload_n 0, 1) := by decide +kernel
theorem dX0_eliminate_69 : decode cX0_eliminate 69 = .ok (.dup, 1) := by decide +kernel
theorem dX0_eliminate_70 : decode cX0_eliminate 70 = .ok (.getfield 27, 3) := by decide +kernel
theorem dX0_eliminate_73 : decode cX0_eliminate 73 = .ok (.iconst 1, 1) := by decide +kernel
theorem dX0_eliminate_74 : decode cX0_eliminate 74 = .ok (.iadd, 1) := by decide +kernel
theorem dX0_eliminate_75 : decode cX0_eliminate 75 = .ok (.putfield 27, 3) := by decide +kernel
theorem dX0_eliminate_78 : decode cX0_eliminate 78 = .ok (.iinc 1 1, 3) := by decide +kernel
theorem dX0_eliminate_81 : decode cX0_eliminate 81 = .ok (.goto (-79), 3) := by decide +kernel
theorem dX0_eliminate_84 : decode cX0_eliminate 84 = .ok (.return_, 1) := by decide +kernel
theorem dX0_firstRowWith_0 : decode cX0_firstRowWith 0 = .ok (.aload_n 0, 1) := by decide +kernel
theorem dX0_firstRowWith_1 : decode cX0_firstRowWith 1 = .ok (.getfield 27, 3) := by decide +kernel
theorem dX0_firstRowWith_4 : decode cX0_firstRowWith 4 = .ok (.istore_n 2, 1) := by decide +kernel
theorem dX0_firstRowWith_5 : decode cX0_firstRowWith 5 = .ok (.iload_n 2, 1) := by decide +kernel
theorem dX0_firstRowWith_6 : decode cX0_firstRowWith 6 = .ok (.aload_n 0, 1) := by decide +kernel
theorem dX0_firstRowWith_7 : decode cX0_firstRowWith 7 = .ok (.getfield 24, 3) := by decide +kernel
theorem dX0_firstRowWith_10 : decode cX0_firstRowWith 10 = .ok (.if_icmp .ge 24, 3) := by decide +kernel
theorem dX0_firstRowWith_13 : decode cX0_firstRowWith 13 = .ok (.aload_n 0, 1) := by decide +kernel
theorem dX0_firstRowWith_14 : decode cX0_firstRowWith 14 = .ok (.getfield 13, 3) := by decide +kernel
theorem dX0_firstRowWith_17 : decode cX0_firstRowWith 17 = .ok (.iload_n 2, 1) := by decide +kernel
theorem dX0_firstRowWith_18 : decode cX0_firstRowWith 18 = .ok (.aaload, 1) := by decide +kernel
theorem dX0_firstRowWith_19 : decode cX0_firstRowWith 19 = .ok (.iload_n 1, 1) := by decide +kernel
theorem dX0_firstRowWith_20 : decode cX0_firstRowWith 20 = .ok (.laload, 1) := by decide +kernel
theorem dX0_firstRowWith_21 : decode cX0_firstRowWith 21 = .ok (.lconst 0, 1) := by decide +kernel
theorem dX0_firstRowWith_22 : decode cX0_firstRowWith 22 = .ok (.lcmp, 1) := by decide +kernel
theorem dX0_firstRowWith_23 : decode cX0_firstRowWith 23 = .ok (.ifCond .eq 5, 3) := by decide +kernel
theorem dX0_firstRowWith_26 : decode cX0_firstRowWith 26 = .ok (.iload_n 2, 1) := by decide +kernel
theorem dX0_firstRowWith_27 : decode cX0_firstRowWith 27 = .ok (.ireturn, 1) := by decide +kernel
theorem dX0_firstRowWith_28 : decode cX0_firstRowWith 28 = .ok (.iinc 2 1, 3) := by decide +kernel
theorem dX0_firstRowWith_31 : decode cX0_firstRowWith 31 = .ok (.goto (-26), 3) := by decide +kernel
theorem dX0_firstRowWith_34 : decode cX0_firstRowWith 34 = .ok (.iconst (-1), 1) := by decide +kernel
theorem dX0_firstRowWith_35 : decode cX0_firstRowWith 35 = .ok (.ireturn, 1) := by decide +kernel
theorem dX0_exchange_0 : decode cX0_exchange 0 = .ok (.iconst 0, 1) := by decide +kernel
theorem dX0_exchange_1 : decode cX0_exchange 1 = .ok (.istore_n 3, 1) := by decide +kernel
theorem dX0_exchange_2 : decode cX0_exchange 2 = .ok (.iload_n 3, 1) := by decide +kernel
theorem dX0_exchange_3 : decode cX0_exchange 3 = .ok (.aload_n 0, 1) := by decide +kernel
theorem dX0_exchange_4 : decode cX0_exchange 4 = .ok (.getfield 20, 3) := by decide +kernel
theorem dX0_exchange_7 : decode cX0_exchange 7 = .ok (.if_icmp .gt 45, 3) := by decide +kernel
theorem dX0_exchange_10 : decode cX0_exchange 10 = .ok (.aload_n 0, 1) := by decide +kernel
theorem dX0_exchange_11 : decode cX0_exchange 11 = .ok (.getfield 13, 3) := by decide +kernel
theorem dX0_exchange_14 : decode cX0_exchange 14 = .ok (.iload_n 1, 1) := by decide +kernel
theorem dX0_exchange_15 : decode cX0_exchange 15 = .ok (.aaload, 1) := by decide +kernel
theorem dX0_exchange_16 : decode cX0_exchange 16 = .ok (.iload_n 3, 1) := by decide +kernel
theorem dX0_exchange_17 : decode cX0_exchange 17 = .ok (.laload, 1) := by decide +kernel
theorem dX0_exchange_18 : decode cX0_exchange 18 = .ok (.lstore 4, 2) := by decide +kernel
theorem dX0_exchange_20 : decode cX0_exchange 20 = .ok (.aload_n 0, 1) := by decide +kernel
theorem dX0_exchange_21 : decode cX0_exchange 21 = .ok (.getfield 13, 3) := by decide +kernel
theorem dX0_exchange_24 : decode cX0_exchange 24 = .ok (.iload_n 1, 1) := by decide +kernel
theorem dX0_exchange_25 : decode cX0_exchange 25 = .ok (.aaload, 1) := by decide +kernel
theorem dX0_exchange_26 : decode cX0_exchange 26 = .ok (.iload_n 3, 1) := by decide +kernel
theorem dX0_exchange_27 : decode cX0_exchange 27 = .ok (.aload_n 0, 1) := by decide +kernel
theorem dX0_exchange_28 : decode cX0_exchange 28 = .ok (.getfield 13, 3) := by decide +kernel
theorem dX0_exchange_31 : decode cX0_exchange 31 = .ok (.iload_n 2, 1) := by decide +kernel
theorem dX0_exchange_32 : decode cX0_exchange 32 = .ok (.aaload, 1) := by decide +kernel
theorem dX0_exchange_33 : decode cX0_exchange 33 = .ok (.iload_n 3, 1) := by decide +kernel
theorem dX0_exchange_34 : decode cX0_exchange 34 = .ok (.laload, 1) := by decide +kernel
theorem dX0_exchange_35 : decode cX0_exchange 35 = .ok (.lastore, 1) := by decide +kernel
theorem dX0_exchange_36 : decode cX0_exchange 36 = .ok (.aload_n 0, 1) := by decide +kernel
theorem dX0_exchange_37 : decode cX0_exchange 37 = .ok (.getfield 13, 3) := by decide +kernel
theorem dX0_exchange_40 : decode cX0_exchange 40 = .ok (.iload_n 2, 1) := by decide +kernel
theorem dX0_exchange_41 : decode cX0_exchange 41 = .ok (.aaload, 1) := by decide +kernel
theorem dX0_exchange_42 : decode cX0_exchange 42 = .ok (.iload_n 3, 1) := by decide +kernel
theorem dX0_exchange_43 : decode cX0_exchange 43 = .ok (.lload 4, 2) := by decide +kernel
theorem dX0_exchange_45 : decode cX0_exchange 45 = .ok (.lastore, 1) := by decide +kernel
theorem dX0_exchange_46 : decode cX0_exchange 46 = .ok (.iinc 3 1, 3) := by decide +kernel
theorem dX0_exchange_49 : decode cX0_exchange 49 = .ok (.goto (-47), 3) := by decide +kernel
theorem dX0_exchange_52 : decode cX0_exchange 52 = .ok (.return_, 1) := by decide +kernel
theorem dX0_makeAboveZero_0 : decode cX0_makeAboveZero 0 = .ok (.aload_n 0, 1) := by decide +kernel
theorem dX0_makeAboveZero_1 : decode cX0_makeAboveZero 1 = .ok (.getfield 13, 3) := by decide +kernel
theorem dX0_makeAboveZero_4 : decode cX0_makeAboveZero 4 = .ok (.iload_n 1, 1) := by decide +kernel
theorem dX0_makeAboveZero_5 : decode cX0_makeAboveZero 5 = .ok (.aaload, 1) := by decide +kernel
theorem dX0_makeAboveZero_6 : decode cX0_makeAboveZero 6 = .ok (.iload_n 2, 1) := by decide +kernel
theorem dX0_makeAboveZero_7 : decode cX0_makeAboveZero 7 = .ok (.laload, 1) := by decide +kernel
theorem dX0_makeAboveZero_8 : decode cX0_makeAboveZero 8 = .ok (.lconst 0, 1) := by decide +kernel
theorem dX0_makeAboveZero_9 : decode cX0_makeAboveZero 9 = .ok (.lcmp, 1) := by decide +kernel
theorem dX0_makeAboveZero_10 : decode cX0_makeAboveZero 10 = .ok (.ifCond .ge 36, 3) := by decide +kernel
theorem dX0_makeAboveZero_13 : decode cX0_makeAboveZero 13 = .ok (.iconst 0, 1) := by decide +kernel
theorem dX0_makeAboveZero_14 : decode cX0_makeAboveZero 14 = .ok (.istore_n 3, 1) := by decide +kernel
theorem dX0_makeAboveZero_15 : decode cX0_makeAboveZero 15 = .ok (.iload_n 3, 1) := by decide +kernel
theorem dX0_makeAboveZero_16 : decode cX0_makeAboveZero 16 = .ok (.aload_n 0, 1) := by decide +kernel
theorem dX0_makeAboveZero_17 : decode cX0_makeAboveZero 17 = .ok (.getfield 20, 3) := by decide +kernel
theorem dX0_makeAboveZero_20 : decode cX0_makeAboveZero 20 = .ok (.if_icmp .gt 26, 3) := by decide +kernel
theorem dX0_makeAboveZero_23 : decode cX0_makeAboveZero 23 = .ok (.aload_n 0, 1) := by decide +kernel
theorem dX0_makeAboveZero_24 : decode cX0_makeAboveZero 24 = .ok (.getfield 13, 3) := by decide +kernel
theorem dX0_makeAboveZero_27 : decode cX0_makeAboveZero 27 = .ok (.iload_n 1, 1) := by decide +kernel
theorem dX0_makeAboveZero_28 : decode cX0_makeAboveZero 28 = .ok (.aaload, 1) := by decide +kernel
theorem dX0_makeAboveZero_29 : decode cX0_makeAboveZero 29 = .ok (.iload_n 3, 1) := by decide +kernel
theorem dX0_makeAboveZero_30 : decode cX0_makeAboveZero 30 = .ok (.aload_n 0, 1) := by decide +kernel
theorem dX0_makeAboveZero_31 : decode cX0_makeAboveZero 31 = .ok (.getfield 13, 3) := by decide +kernel
theorem dX0_makeAboveZero_34 : decode cX0_makeAboveZero 34 = .ok (.iload_n 1, 1) := by decide +kernel
theorem dX0_makeAboveZero_35 : decode cX0_makeAboveZero 35 = .ok (.aaload, 1) := by decide +kernel
theorem dX0_makeAboveZero_36 : decode cX0_makeAboveZero 36 = .ok (.iload_n 3, 1) := by decide +kernel
theorem dX0_makeAboveZero_37 : decode cX0_makeAboveZero 37 = .ok (.laload, 1) := by decide +kernel
theorem dX0_makeAboveZero_38 : decode cX0_makeAboveZero 38 = .ok (.lneg, 1) := by decide +kernel
theorem dX0_makeAboveZero_39 : decode cX0_makeAboveZero 39 = .ok (.lastore, 1) := by decide +kernel
theorem dX0_makeAboveZero_40 : decode cX0_makeAboveZero 40 = .ok (.iinc 3 1, 3) := by decide +kernel
theorem dX0_makeAboveZero_43 : decode cX0_makeAboveZero 43 = .ok (.goto (-28), 3) := by decide +kernel
theorem dX0_makeAboveZero_46 : decode cX0_makeAboveZero 46 = .ok (.return_, 1) := by decide +kernel
theorem dX0_clearColumn_0 : decode cX0_clearColumn 0 = .ok (.aload_n 0, 1) := by decide +kernel
theorem dX0_clearColumn_1 : decode cX0_clearColumn 1 = .ok (.getfield 13, 3) := by decide +kernel
theorem dX0_clearColumn_4 : decode cX0_clearColumn 4 = .ok (.iload_n 1, 1) := by decide +kernel
theorem dX0_clearColumn_5 : decode cX0_clearColumn 5 = .ok (.aaload, 1) := by decide +kernel
theorem dX0_clearColumn_6 : decode cX0_clearColumn 6 = .ok (.iload_n 2, 1) := by decide +kernel
theorem dX0_clearColumn_7 : decode cX0_clearColumn 7 = .ok (.laload, 1) := by decide +kernel
theorem dX0_clearColumn_8 : decode cX0_clearColumn 8 = .ok (.lstore_n 3, 1) := by decide +kernel
theorem dX0_clearColumn_9 : decode cX0_clearColumn 9 = .ok (.iconst 0, 1) := by decide +kernel
theorem dX0_clearColumn_10 : decode cX0_clearColumn 10 = .ok (.istore 5, 2) := by decide +kernel
theorem dX0_clearColumn_12 : decode cX0_clearColumn 12 = .ok (.iload 5, 2) := by decide +kernel
theorem dX0_clearColumn_14 : decode cX0_clearColumn 14 = .ok (.aload_n 0, 1) := by decide +kernel
theorem dX0_clearColumn_15 : decode cX0_clearColumn 15 = .ok (.getfield 24, 3) := by decide +kernel
theorem dX0_clearColumn_18 : decode cX0_clearColumn 18 = .ok (.if_icmp .ge 92, 3) := by decide +kernel
theorem dX0_clearColumn_21 : decode cX0_clearColumn 21 = .ok (.aload_n 0, 1) := by decide +kernel
theorem dX0_clearColumn_22 : decode cX0_clearColumn 22 = .ok (.getfield 13, 3) := by decide +kernel
theorem dX0_clearColumn_25 : decode cX0_clearColumn 25 = .ok (.iload 5, 2) := by decide +kernel
theorem dX0_clearColumn_27 : decode cX0_clearColumn 27 = .ok (.aaload, 1) := by decide +kernel
theorem dX0_clearColumn_28 : decode cX0_clearColumn 28 = .ok (.iload_n 2, 1) := by decide +kernel
theorem dX0_clearColumn_29 : decode cX0_clearColumn 29 = .ok (.laload, 1) := by decide +kernel
theorem dX0_clearColumn_30 : decode cX0_clearColumn 30 = .ok (.lstore 6, 2) := by decide +kernel
theorem dX0_clearColumn_32 : decode cX0_clearColumn 32 = .ok (.iload 5, 2) := by decide +kernel
theorem dX0_clearColumn_34 : decode cX0_clearColumn 34 = .ok (.iload_n 1, 1) := by decide +kernel
theorem dX0_clearColumn_35 : decode cX0_clearColumn 35 = .ok (.if_icmp .eq 69, 3) := by decide +kernel
theorem dX0_clearColumn_38 : decode cX0_clearColumn 38 = .ok (.lload 6, 2) := by decide +kernel
theorem dX0_clearColumn_40 : decode cX0_clearColumn 40 = .ok (.lconst 0, 1) := by decide +kernel
theorem dX0_clearColumn_41 : decode cX0_clearColumn 41 = .ok (.lcmp, 1) := by decide +kernel
theorem dX0_clearColumn_42 : decode cX0_clearColumn 42 = .ok (.ifCond .eq 62, 3) := by decide +kernel
theorem dX0_clearColumn_45 : decode cX0_clearColumn 45 = .ok (.iconst 0, 1) := by decide +kernel
theorem dX0_clearColumn_46 : decode cX0_clearColumn 46 = .ok (.istore 8, 2) := by decide +kernel
theorem dX0_clearColumn_48 : decode cX0_clearColumn 48 = .ok (.iload 8, 2) := by decide +kernel
theorem dX0_clearColumn_50 : decode cX0_clearColumn 50 = .ok (.aload_n 0, 1) := by decide +kernel
theorem dX0_clearColumn_51 : decode cX0_clearColumn 51 = .ok (.getfield 20, 3) := by decide +kernel
theorem dX0_clearColumn_54 : decode cX0_clearColumn 54 = .ok (.if_icmp .gt 44, 3) := by decide +kernel
theorem dX0_clearColumn_57 : decode cX0_clearColumn 57 = .ok (.aload_n 0, 1) := by decide +kernel
theorem dX0_clearColumn_58 : decode cX0_clearColumn 58 = .ok (.getfield 13, 3) := by decide +kernel
theorem dX0_clearColumn_61 : decode cX0_clearColumn 61 = .ok (.iload 5, 2) := by decide +kernel
theorem dX0_clearColumn_63 : decode cX0_clearColumn 63 = .ok (.aaload, 1) := by decide +kernel
theorem dX0_clearColumn_64 : decode cX0_clearColumn 64 = .ok (.iload 8, 2) := by decide +kernel
theorem dX0_clearColumn_66 : decode cX0_clearColumn 66 = .ok (.aload_n 0, 1) := by decide +kernel
theorem dX0_clearColumn_67 : decode cX0_clearColumn 67 = .ok (.getfield 13, 3) := by decide +kernel
theorem dX0_clearColumn_70 : decode cX0_clearColumn 70 = .ok (.iload 5, 2) := by decide +kernel
theorem dX0_clearColumn_72 : decode cX0_clearColumn 72 = .ok (.aaload, 1) := by decide +kernel
theorem dX0_clearColumn_73 : decode cX0_clearColumn 73 = .ok (.iload 8, 2) := by decide +kernel
theorem dX0_clearColumn_75 : decode cX0_clearColumn 75 = .ok (.laload, 1) := by decide +kernel
theorem dX0_clearColumn_76 : decode cX0_clearColumn 76 = .ok (.lload_n 3, 1) := by decide +kernel
theorem dX0_clearColumn_77 : decode cX0_clearColumn 77 = .ok (.lmul, 1) := by decide +kernel
theorem dX0_clearColumn_78 : decode cX0_clearColumn 78 = .ok (.aload_n 0, 1) := by decide +kernel
theorem dX0_clearColumn_79 : decode cX0_clearColumn 79 = .ok (.getfield 13, 3) := by decide +kernel
theorem dX0_clearColumn_82 : decode cX0_clearColumn 82 = .ok (.iload_n 1, 1) := by decide +kernel
theorem dX0_clearColumn_83 : decode cX0_clearColumn 83 = .ok (.aaload, 1) := by decide +kernel
theorem dX0_clearColumn_84 : decode cX0_clearColumn 84 = .ok (.iload 8, 2) := by decide +kernel
theorem dX0_clearColumn_86 : decode cX0_clearColumn 86 = .ok (.laload, 1) := by decide +kernel
theorem dX0_clearColumn_87 : decode cX0_clearColumn 87 = .ok (.lload 6, 2) := by decide +kernel
theorem dX0_clearColumn_89 : decode cX0_clearColumn 89 = .ok (.lmul, 1) := by decide +kernel
theorem dX0_clearColumn_90 : decode cX0_clearColumn 90 = .ok (.lsub, 1) := by decide +kernel
theorem dX0_clearColumn_91 : decode cX0_clearColumn 91 = .ok (.lastore, 1) := by decide +kernel
theorem dX0_clearColumn_92 : decode cX0_clearColumn 92 = .ok (.iinc 8 1, 3) := by decide +kernel
theorem dX0_clearColumn_95 : decode cX0_clearColumn 95 = .ok (.goto (-47), 3) := by decide +kernel
theorem dX0_clearColumn_98 : decode cX0_clearColumn 98 = .ok (.aload_n 0, 1) := by decide +kernel
theorem dX0_clearColumn_99 : decode cX0_clearColumn 99 = .ok (.iload 5, 2) := by decide +kernel
theorem dX0_clearColumn_101 : decode cX0_clearColumn 101 = .ok (.invokevirtual 53, 3) := by decide +kernel
theorem dX0_clearColumn_104 : decode cX0_clearColumn 104 = .ok (.iinc 5 1, 3) := by decide +kernel
theorem dX0_clearColumn_107 : decode cX0_clearColumn 107 = .ok (.goto (-95), 3) := by decide +kernel
theorem dX0_clearColumn_110 : decode cX0_clearColumn 110 = .ok (.return_, 1) := by decide +kernel
theorem dX0_divideByShared_0 : decode cX0_divideByShared 0 = .ok (.lconst 0, 1) := by decide +kernel
theorem dX0_divideByShared_1 : decode cX0_divideByShared 1 = .ok (.lstore_n 2, 1) := by decide +kernel
theorem dX0_divideByShared_2 : decode cX0_divideByShared 2 = .ok (.iconst 0, 1) := by decide +kernel
theorem dX0_divideByShared_3 : decode cX0_divideByShared 3 = .ok (.istore 4, 2) := by decide +kernel
theorem dX0_divideByShared_5 : decode cX0_divideByShared 5 = .ok (.iload 4, 2) := by decide +kernel
theorem dX0_divideByShared_7 : decode cX0_divideByShared 7 = .ok (.aload_n 0, 1) := by decide +kernel
theorem dX0_divideByShared_8 : decode cX0_divideByShared 8 = .ok (.getfield 20, 3) := by decide +kernel
theorem dX0_divideByShared_11 : decode cX0_divideByShared 11 = .ok (.if_icmp .gt 23, 3) := by decide +kernel
theorem dX0_divideByShared_14 : decode cX0_divideByShared 14 = .ok (.lload_n 2, 1) := by decide +kernel
theorem dX0_divideByShared_15 : decode cX0_divideByShared 15 = .ok (.aload_n 0, 1) := by decide +kernel
theorem dX0_divideByShared_16 : decode cX0_divideByShared 16 = .ok (.getfield 13, 3) := by decide +kernel
theorem dX0_divideByShared_19 : decode cX0_divideByShared 19 = .ok (.iload_n 1, 1) := by decide +kernel
theorem dX0_divideByShared_20 : decode cX0_divideByShared 20 = .ok (.aaload, 1) := by decide +kernel
theorem dX0_divideByShared_21 : decode cX0_divideByShared 21 = .ok (.iload 4, 2) := by decide +kernel
theorem dX0_divideByShared_23 : decode cX0_divideByShared 23 = .ok (.laload, 1) := by decide +kernel
theorem dX0_divideByShared_24 : decode cX0_divideByShared 24 = .ok (.invokestatic 57, 3) := by decide +kernel
theorem dX0_divideByShared_27 : decode cX0_divideByShared 27 = .ok (.lstore_n 2, 1) := by decide +kernel
theorem dX0_divideByShared_28 : decode cX0_divideByShared 28 = .ok (.iinc 4 1, 3) := by decide +kernel
theorem dX0_divideByShared_31 : decode cX0_divideByShared 31 = .ok (.goto (-26), 3) := by decide +kernel
theorem dX0_divideByShared_34 : decode cX0_divideByShared 34 = .ok (.lload_n 2, 1) := by decide +kernel
theorem dX0_divideByShared_35 : decode cX0_divideByShared 35 = .ok (.lconst 1, 1) := by decide +kernel
theorem dX0_divideByShared_36 : decode cX0_divideByShared 36 = .ok (.lcmp, 1) := by decide +kernel
theorem dX0_divideByShared_37 : decode cX0_divideByShared 37 = .ok (.ifCond .le 34, 3) := by decide +kernel
theorem dX0_divideByShared_40 : decode cX0_divideByShared 40 = .ok (.iconst 0, 1) := by decide +kernel
theorem dX0_divideByShared_41 : decode cX0_divideByShared 41 = .ok (.istore 4, 2) := by decide +kernel
theorem dX0_divideByShared_43 : decode cX0_divideByShared 43 = .ok (.iload 4, 2) := by decide +kernel
theorem dX0_divideByShared_45 : decode cX0_divideByShared 45 = .ok (.aload_n 0, 1) := by decide +kernel
theorem dX0_divideByShared_46 : decode cX0_divideByShared 46 = .ok (.getfield 20, 3) := by decide +kernel
theorem dX0_divideByShared_49 : decode cX0_divideByShared 49 = .ok (.if_icmp .gt 22, 3) := by decide +kernel
theorem dX0_divideByShared_52 : decode cX0_divideByShared 52 = .ok (.aload_n 0, 1) := by decide +kernel
theorem dX0_divideByShared_53 : decode cX0_divideByShared 53 = .ok (.getfield 13, 3) := by decide +kernel
theorem dX0_divideByShared_56 : decode cX0_divideByShared 56 = .ok (.iload_n 1, 1) := by decide +kernel
theorem dX0_divideByShared_57 : decode cX0_divideByShared 57 = .ok (.aaload, 1) := by decide +kernel
theorem dX0_divideByShared_58 : decode cX0_divideByShared 58 = .ok (.iload 4, 2) := by decide +kernel
theorem dX0_divideByShared_60 : decode cX0_divideByShared 60 = .ok (.dup2, 1) := by decide +kernel
theorem dX0_divideByShared_61 : decode cX0_divideByShared 61 = .ok (.laload, 1) := by decide +kernel
theorem dX0_divideByShared_62 : decode cX0_divideByShared 62 = .ok (.lload_n 2, 1) := by decide +kernel
theorem dX0_divideByShared_63 : decode cX0_divideByShared 63 = .ok (.ldiv, 1) := by decide +kernel
theorem dX0_divideByShared_64 : decode cX0_divideByShared 64 = .ok (.lastore, 1) := by decide +kernel
theorem dX0_divideByShared_65 : decode cX0_divideByShared 65 = .ok (.iinc 4 1, 3) := by decide +kernel
theorem dX0_divideByShared_68 : decode cX0_divideByShared 68 = .ok (.goto (-25), 3) := by decide +kernel
theorem dX0_divideByShared_71 : decode cX0_divideByShared 71 = .ok (.return_, 1) := by decide +kernel
theorem dX0_agrees_0 : decode cX0_agrees 0 = .ok (.aload_n 0, 1) := by decide +kernel
theorem dX0_agrees_1 : decode cX0_agrees 1 = .ok (.getfield 27, 3) := by decide +kernel
theorem dX0_agrees_4 : decode cX0_agrees 4 = .ok (.istore_n 1, 1) := by decide +kernel
theorem dX0_agrees_5 : decode cX0_agrees 5 = .ok (.iload_n 1, 1) := by decide +kernel
theorem dX0_agrees_6 : decode cX0_agrees 6 = .ok (.aload_n 0, 1) := by decide +kernel
theorem dX0_agrees_7 : decode cX0_agrees 7 = .ok (.getfield 24, 3) := by decide +kernel
theorem dX0_agrees_10 : decode cX0_agrees 10 = .ok (.if_icmp .ge 27, 3) := by decide +kernel
theorem dX0_agrees_13 : decode cX0_agrees 13 = .ok (.aload_n 0, 1) := by decide +kernel
theorem dX0_agrees_14 : decode cX0_agrees 14 = .ok (.getfield 13, 3) := by decide +kernel
theorem dX0_agrees_17 : decode cX0_agrees 17 = .ok (.iload_n 1, 1) := by decide +kernel
theorem dX0_agrees_18 : decode cX0_agrees 18 = .ok (.aaload, 1) := by decide +kernel
theorem dX0_agrees_19 : decode cX0_agrees 19 = .ok (.aload_n 0, 1) := by decide +kernel
theorem dX0_agrees_20 : decode cX0_agrees 20 = .ok (.getfield 20, 3) := by decide +kernel
theorem dX0_agrees_23 : decode cX0_agrees 23 = .ok (.laload, 1) := by decide +kernel
theorem dX0_agrees_24 : decode cX0_agrees 24 = .ok (.lconst 0, 1) := by decide +kernel
theorem dX0_agrees_25 : decode cX0_agrees 25 = .ok (.lcmp, 1) := by decide +kernel
theorem dX0_agrees_26 : decode cX0_agrees 26 = .ok (.ifCond .eq 5, 3) := by decide +kernel
theorem dX0_agrees_29 : decode cX0_agrees 29 = .ok (.iconst 0, 1) := by decide +kernel
theorem dX0_agrees_30 : decode cX0_agrees 30 = .ok (.ireturn, 1) := by decide +kernel
theorem dX0_agrees_31 : decode cX0_agrees 31 = .ok (.iinc 1 1, 3) := by decide +kernel
theorem dX0_agrees_34 : decode cX0_agrees 34 = .ok (.goto (-29), 3) := by decide +kernel
theorem dX0_agrees_37 : decode cX0_agrees 37 = .ok (.iconst 1, 1) := by decide +kernel
theorem dX0_agrees_38 : decode cX0_agrees 38 = .ok (.ireturn, 1) := by decide +kernel
theorem dX0_rowDeciding_0 : decode cX0_rowDeciding 0 = .ok (.iconst 0, 1) := by decide +kernel
theorem dX0_rowDeciding_1 : decode cX0_rowDeciding 1 = .ok (.istore_n 2, 1) := by decide +kernel
theorem dX0_rowDeciding_2 : decode cX0_rowDeciding 2 = .ok (.iload_n 2, 1) := by decide +kernel
theorem dX0_rowDeciding_3 : decode cX0_rowDeciding 3 = .ok (.aload_n 0, 1) := by decide +kernel
theorem dX0_rowDeciding_4 : decode cX0_rowDeciding 4 = .ok (.getfield 27, 3) := by decide +kernel
theorem dX0_rowDeciding_7 : decode cX0_rowDeciding 7 = .ok (.if_icmp .ge 21, 3) := by decide +kernel
theorem dX0_rowDeciding_10 : decode cX0_rowDeciding 10 = .ok (.aload_n 0, 1) := by decide +kernel
theorem dX0_rowDeciding_11 : decode cX0_rowDeciding 11 = .ok (.getfield 16, 3) := by decide +kernel
theorem dX0_rowDeciding_14 : decode cX0_rowDeciding 14 = .ok (.iload_n 2, 1) := by decide +kernel
theorem dX0_rowDeciding_15 : decode cX0_rowDeciding 15 = .ok (.iaload, 1) := by decide +kernel
theorem dX0_rowDeciding_16 : decode cX0_rowDeciding 16 = .ok (.iload_n 1, 1) := by decide +kernel
theorem dX0_rowDeciding_17 : decode cX0_rowDeciding 17 = .ok (.if_icmp .ne 5, 3) := by decide +kernel
theorem dX0_rowDeciding_20 : decode cX0_rowDeciding 20 = .ok (.iload_n 2, 1) := by decide +kernel
theorem dX0_rowDeciding_21 : decode cX0_rowDeciding 21 = .ok (.ireturn, 1) := by decide +kernel
theorem dX0_rowDeciding_22 : decode cX0_rowDeciding 22 = .ok (.iinc 2 1, 3) := by decide +kernel
theorem dX0_rowDeciding_25 : decode cX0_rowDeciding 25 = .ok (.goto (-23), 3) := by decide +kernel
theorem dX0_rowDeciding_28 : decode cX0_rowDeciding 28 = .ok (.iconst (-1), 1) := by decide +kernel
theorem dX0_rowDeciding_29 : decode cX0_rowDeciding 29 = .ok (.ireturn, 1) := by decide +kernel
theorem dX0_freeUnknown_0 : decode cX0_freeUnknown 0 = .ok (.iconst 0, 1) := by decide +kernel
theorem dX0_freeUnknown_1 : decode cX0_freeUnknown 1 = .ok (.istore_n 2, 1) := by decide +kernel
theorem dX0_freeUnknown_2 : decode cX0_freeUnknown 2 = .ok (.iconst 0, 1) := by decide +kernel
theorem dX0_freeUnknown_3 : decode cX0_freeUnknown 3 = .ok (.istore_n 3, 1) := by decide +kernel
theorem dX0_freeUnknown_4 : decode cX0_freeUnknown 4 = .ok (.iload_n 3, 1) := by decide +kernel
theorem dX0_freeUnknown_5 : decode cX0_freeUnknown 5 = .ok (.aload_n 0, 1) := by decide +kernel
theorem dX0_freeUnknown_6 : decode cX0_freeUnknown 6 = .ok (.getfield 20, 3) := by decide +kernel
theorem dX0_freeUnknown_9 : decode cX0_freeUnknown 9 = .ok (.if_icmp .ge 27, 3) := by decide +kernel
theorem dX0_freeUnknown_12 : decode cX0_freeUnknown 12 = .ok (.aload_n 0, 1) := by decide +kernel
theorem dX0_freeUnknown_13 : decode cX0_freeUnknown 13 = .ok (.iload_n 3, 1) := by decide +kernel
theorem dX0_freeUnknown_14 : decode cX0_freeUnknown 14 = .ok (.invokevirtual 61, 3) := by decide +kernel
theorem dX0_freeUnknown_17 : decode cX0_freeUnknown 17 = .ok (.ifCond .ge 13, 3) := by decide +kernel
theorem dX0_freeUnknown_20 : decode cX0_freeUnknown 20 = .ok (.iload_n 2, 1) := by decide +kernel
theorem dX0_freeUnknown_21 : decode cX0_freeUnknown 21 = .ok (.iload_n 1, 1) := by decide +kernel
theorem dX0_freeUnknown_22 : decode cX0_freeUnknown 22 = .ok (.if_icmp .ne 5, 3) := by decide +kernel
theorem dX0_freeUnknown_25 : decode cX0_freeUnknown 25 = .ok (.iload_n 3, 1) := by decide +kernel
theorem dX0_freeUnknown_26 : decode cX0_freeUnknown 26 = .ok (.ireturn, 1) := by decide +kernel
theorem dX0_freeUnknown_27 : decode cX0_freeUnknown 27 = .ok (.iinc 2 1, 3) := by decide +kernel
theorem dX0_freeUnknown_30 : decode cX0_freeUnknown 30 = .ok (.iinc 3 1, 3) := by decide +kernel
theorem dX0_freeUnknown_33 : decode cX0_freeUnknown 33 = .ok (.goto (-29), 3) := by decide +kernel
theorem dX0_freeUnknown_36 : decode cX0_freeUnknown 36 = .ok (.iconst (-1), 1) := by decide +kernel
theorem dX0_freeUnknown_37 : decode cX0_freeUnknown 37 = .ok (.ireturn, 1) := by decide +kernel
theorem dX0_plainPart_0 : decode cX0_plainPart 0 = .ok (.aload_n 0, 1) := by decide +kernel
theorem dX0_plainPart_1 : decode cX0_plainPart 1 = .ok (.iload_n 1, 1) := by decide +kernel
theorem dX0_plainPart_2 : decode cX0_plainPart 2 = .ok (.invokevirtual 61, 3) := by decide +kernel
theorem dX0_plainPart_5 : decode cX0_plainPart 5 = .ok (.istore_n 3, 1) := by decide +kernel
theorem dX0_plainPart_6 : decode cX0_plainPart 6 = .ok (.iload_n 3, 1) := by decide +kernel
theorem dX0_plainPart_7 : decode cX0_plainPart 7 = .ok (.ifCond .ge 10, 3) := by decide +kernel
theorem dX0_plainPart_10 : decode cX0_plainPart 10 = .ok (.lconst 0, 1) := by decide +kernel
theorem dX0_plainPart_11 : decode cX0_plainPart 11 = .ok (.lconst 1, 1) := by decide +kernel
theorem dX0_plainPart_12 : decode cX0_plainPart 12 = .ok (.iload_n 2, 1) := by decide +kernel
theorem dX0_plainPart_13 : decode cX0_plainPart 13 = .ok (.invokestatic 64, 3) := by decide +kernel
theorem dX0_plainPart_16 : decode cX0_plainPart 16 = .ok (.lreturn, 1) := by decide +kernel
theorem dX0_plainPart_17 : decode cX0_plainPart 17 = .ok (.aload_n 0, 1) := by decide +kernel
theorem dX0_plainPart_18 : decode cX0_plainPart 18 = .ok (.getfield 13, 3) := by decide +kernel
theorem dX0_plainPart_21 : decode cX0_plainPart 21 = .ok (.iload_n 3, 1) := by decide +kernel
theorem dX0_plainPart_22 : decode cX0_plainPart 22 = .ok (.aaload, 1) := by decide +kernel
theorem dX0_plainPart_23 : decode cX0_plainPart 23 = .ok (.aload_n 0, 1) := by decide +kernel
theorem dX0_plainPart_24 : decode cX0_plainPart 24 = .ok (.getfield 20, 3) := by decide +kernel
theorem dX0_plainPart_27 : decode cX0_plainPart 27 = .ok (.laload, 1) := by decide +kernel
theorem dX0_plainPart_28 : decode cX0_plainPart 28 = .ok (.aload_n 0, 1) := by decide +kernel
theorem dX0_plainPart_29 : decode cX0_plainPart 29 = .ok (.getfield 13, 3) := by decide +kernel
theorem dX0_plainPart_32 : decode cX0_plainPart 32 = .ok (.iload_n 3, 1) := by decide +kernel
theorem dX0_plainPart_33 : decode cX0_plainPart 33 = .ok (.aaload, 1) := by decide +kernel
theorem dX0_plainPart_34 : decode cX0_plainPart 34 = .ok (.iload_n 1, 1) := by decide +kernel
theorem dX0_plainPart_35 : decode cX0_plainPart 35 = .ok (.laload, 1) := by decide +kernel
theorem dX0_plainPart_36 : decode cX0_plainPart 36 = .ok (.iload_n 2, 1) := by decide +kernel
theorem dX0_plainPart_37 : decode cX0_plainPart 37 = .ok (.invokestatic 64, 3) := by decide +kernel
theorem dX0_plainPart_40 : decode cX0_plainPart 40 = .ok (.lreturn, 1) := by decide +kernel
theorem dX0_directionPart_0 : decode cX0_directionPart 0 = .ok (.aload_n 0, 1) := by decide +kernel
theorem dX0_directionPart_1 : decode cX0_directionPart 1 = .ok (.iload_n 2, 1) := by decide +kernel
theorem dX0_directionPart_2 : decode cX0_directionPart 2 = .ok (.invokevirtual 61, 3) := by decide +kernel
theorem dX0_directionPart_5 : decode cX0_directionPart 5 = .ok (.istore 4, 2) := by decide +kernel
theorem dX0_directionPart_7 : decode cX0_directionPart 7 = .ok (.iload 4, 2) := by decide +kernel
theorem dX0_directionPart_9 : decode cX0_directionPart 9 = .ok (.ifCond .ge 19, 3) := by decide +kernel
theorem dX0_directionPart_12 : decode cX0_directionPart 12 = .ok (.iload_n 2, 1) := by decide +kernel
theorem dX0_directionPart_13 : decode cX0_directionPart 13 = .ok (.iload_n 1, 1) := by decide +kernel
theorem dX0_directionPart_14 : decode cX0_directionPart 14 = .ok (.if_icmp .ne 7, 3) := by decide +kernel
theorem dX0_directionPart_17 : decode cX0_directionPart 17 = .ok (.lconst 1, 1) := by decide +kernel
theorem dX0_directionPart_18 : decode cX0_directionPart 18 = .ok (.goto 4, 3) := by decide +kernel
theorem dX0_directionPart_21 : decode cX0_directionPart 21 = .ok (.lconst 0, 1) := by decide +kernel
theorem dX0_directionPart_22 : decode cX0_directionPart 22 = .ok (.lconst 1, 1) := by decide +kernel
theorem dX0_directionPart_23 : decode cX0_directionPart 23 = .ok (.iload_n 3, 1) := by decide +kernel
theorem dX0_directionPart_24 : decode cX0_directionPart 24 = .ok (.invokestatic 64, 3) := by decide +kernel
theorem dX0_directionPart_27 : decode cX0_directionPart 27 = .ok (.lreturn, 1) := by decide +kernel
theorem dX0_directionPart_28 : decode cX0_directionPart 28 = .ok (.aload_n 0, 1) := by decide +kernel
theorem dX0_directionPart_29 : decode cX0_directionPart 29 = .ok (.getfield 13, 3) := by decide +kernel
theorem dX0_directionPart_32 : decode cX0_directionPart 32 = .ok (.iload 4, 2) := by decide +kernel
theorem dX0_directionPart_34 : decode cX0_directionPart 34 = .ok (.aaload, 1) := by decide +kernel
theorem dX0_directionPart_35 : decode cX0_directionPart 35 = .ok (.iload_n 1, 1) := by decide +kernel
theorem dX0_directionPart_36 : decode cX0_directionPart 36 = .ok (.laload, 1) := by decide +kernel
theorem dX0_directionPart_37 : decode cX0_directionPart 37 = .ok (.lneg, 1) := by decide +kernel
theorem dX0_directionPart_38 : decode cX0_directionPart 38 = .ok (.aload_n 0, 1) := by decide +kernel
theorem dX0_directionPart_39 : decode cX0_directionPart 39 = .ok (.getfield 13, 3) := by decide +kernel
theorem dX0_directionPart_42 : decode cX0_directionPart 42 = .ok (.iload 4, 2) := by decide +kernel
theorem dX0_directionPart_44 : decode cX0_directionPart 44 = .ok (.aaload, 1) := by decide +kernel
theorem dX0_directionPart_45 : decode cX0_directionPart 45 = .ok (.iload_n 2, 1) := by decide +kernel
theorem dX0_directionPart_46 : decode cX0_directionPart 46 = .ok (.laload, 1) := by decide +kernel
theorem dX0_directionPart_47 : decode cX0_directionPart 47 = .ok (.iload_n 3, 1) := by decide +kernel
theorem dX0_directionPart_48 : decode cX0_directionPart 48 = .ok (.invokestatic 64, 3) := by decide +kernel
theorem dX0_directionPart_51 : decode cX0_directionPart 51 = .ok (.lreturn, 1) := by decide +kernel
end
section
/-! decode rows of X1 -/
theorem dX1_init_0 : decode cX1_init 0 = .ok (.aload_n 0, 1) := by decide +kernel
theorem dX1_init_1 : decode cX1_init 1 = .ok (.invokespecial 3, 3) := by decide +kernel
theorem dX1_init_4 : decode cX1_init 4 = .ok (.aload_n 0, 1) := by decide +kernel
theorem dX1_init_5 : decode cX1_init 5 = .ok (.iconst 3, 1) := by decide +kernel
theorem dX1_init_6 : decode cX1_init 6 = .ok (.bipush 6, 2) := by decide +kernel
theorem dX1_init_8 : decode cX1_init 8 = .ok (.multianewarray 11 2, 4) := by decide +kernel
theorem dX1_init_12 : decode cX1_init 12 = .ok (.putfield 13, 3) := by decide +kernel
theorem dX1_init_15 : decode cX1_init 15 = .ok (.aload_n 0, 1) := by decide +kernel
theorem dX1_init_16 : decode cX1_init 16 = .ok (.iconst 3, 1) := by decide +kernel
theorem dX1_init_17 : decode cX1_init 17 = .ok (.newarray .int, 2) := by decide +kernel
theorem dX1_init_19 : decode cX1_init 19 = .ok (.putfield 16, 3) := by decide +kernel
theorem dX1_init_22 : decode cX1_init 22 = .ok (.aload_n 0, 1) := by decide +kernel
theorem dX1_init_23 : decode cX1_init 23 = .ok (.bipush 6, 2) := by decide +kernel
theorem dX1_init_25 : decode cX1_init 25 = .ok (.newarray .long, 2) := by decide +kernel
theorem dX1_init_27 : decode cX1_init 27 = .ok (.putfield 20, 3) := by decide +kernel
theorem dX1_init_30 : decode cX1_init 30 = .ok (.aload_n 0, 1) := by decide +kernel
theorem dX1_init_31 : decode cX1_init 31 = .ok (.iconst 0, 1) := by decide +kernel
theorem dX1_init_32 : decode cX1_init 32 = .ok (.putfield 24, 3) := by decide +kernel
theorem dX1_init_35 : decode cX1_init 35 = .ok (.return_, 1) := by decide +kernel
theorem dX1_begin_0 : decode cX1_begin 0 = .ok (.aload_n 0, 1) := by decide +kernel
theorem dX1_begin_1 : decode cX1_begin 1 = .ok (.iconst 0, 1) := by decide +kernel
theorem dX1_begin_2 : decode cX1_begin 2 = .ok (.iconst 3, 1) := by decide +kernel
theorem dX1_begin_3 : decode cX1_begin 3 = .ok (.iload_n 1, 1) := by decide +kernel
theorem dX1_begin_4 : decode cX1_begin 4 = .ok (.invokestatic 28, 3) := by decide +kernel
theorem dX1_begin_7 : decode cX1_begin 7 = .ok (.invokestatic 34, 3) := by decide +kernel
theorem dX1_begin_10 : decode cX1_begin 10 = .ok (.putfield 24, 3) := by decide +kernel
theorem dX1_begin_13 : decode cX1_begin 13 = .ok (.iconst 0, 1) := by decide +kernel
theorem dX1_begin_14 : decode cX1_begin 14 = .ok (.istore_n 2, 1) := by decide +kernel
theorem dX1_begin_15 : decode cX1_begin 15 = .ok (.iload_n 2, 1) := by decide +kernel
theorem dX1_begin_16 : decode cX1_begin 16 = .ok (.bipush 6, 2) := by decide +kernel
theorem dX1_begin_18 : decode cX1_begin 18 = .ok (.if_icmp .ge 52, 3) := by decide +kernel
theorem dX1_begin_21 : decode cX1_begin 21 = .ok (.aload_n 0, 1) := by decide +kernel
theorem dX1_begin_22 : decode cX1_begin 22 = .ok (.getfield 20, 3) := by decide +kernel
theorem dX1_begin_25 : decode cX1_begin 25 = .ok (.iload_n 2, 1) := by decide +kernel
theorem dX1_begin_26 : decode cX1_begin 26 = .ok (.lconst 0, 1) := by decide +kernel
theorem dX1_begin_27 : decode cX1_begin 27 = .ok (.lastore, 1) := by decide +kernel
theorem dX1_begin_28 : decode cX1_begin 28 = .ok (.iconst 0, 1) := by decide +kernel
theorem dX1_begin_29 : decode cX1_begin 29 = .ok (.istore_n 3, 1) := by decide +kernel
theorem dX1_begin_30 : decode cX1_begin 30 = .ok (.iload_n 3, 1) := by decide +kernel
theorem dX1_begin_31 : decode cX1_begin 31 = .ok (.aload_n 0, 1) := by decide +kernel
theorem dX1_begin_32 : decode cX1_begin 32 = .ok (.getfield 24, 3) := by decide +kernel
theorem dX1_begin_35 : decode cX1_begin 35 = .ok (.if_icmp .ge 29, 3) := by decide +kernel
theorem dX1_begin_38 : decode cX1_begin 38 = .ok (.aload_n 0, 1) := by decide +kernel
theorem dX1_begin_39 : decode cX1_begin 39 = .ok (.getfield 13, 3) := by decide +kernel
theorem dX1_begin_42 : decode cX1_begin 42 = .ok (.iload_n 3, 1) := by decide +kernel
theorem dX1_begin_43 : decode cX1_begin 43 = .ok (.aaload, 1) := by decide +kernel
theorem dX1_begin_44 : decode cX1_begin 44 = .ok (.iload_n 2, 1) := by decide +kernel
theorem dX1_begin_45 : decode cX1_begin 45 = .ok (.iload_n 2, 1) := by decide +kernel
theorem dX1_begin_46 : decode cX1_begin 46 = .ok (.iconst 3, 1) := by decide +kernel
theorem dX1_begin_47 : decode cX1_begin 47 = .ok (.iload_n 3, 1) := by decide +kernel
theorem dX1_begin_48 : decode cX1_begin 48 = .ok (.iadd, 1) := by decide +kernel
theorem dX1_begin_49 : decode cX1_begin 49 = .ok (.if_icmp .ne 7, 3) := by decide +kernel
theorem dX1_begin_52 : decode cX1_begin 52 = .ok (.lconst 1, 1) := by decide +kernel
theorem dX1_begin_53 : decode cX1_begin 53 = .ok (.goto 4, 3) := by decide +kernel
theorem dX1_begin_56 : decode cX1_begin 56 = .ok (.lconst 0, 1) := by decide +kernel
theorem dX1_begin_57 : decode cX1_begin 57 = .ok (.lastore, 1) := by decide +kernel
theorem dX1_begin_58 : decode cX1_begin 58 = .ok (.iinc 3 1, 3) := by decide +kernel
theorem dX1_begin_61 : decode cX1_begin 61 = .ok (.goto (-31), 3) := by decide +kernel
theorem dX1_begin_64 : decode cX1_begin 64 = .ok (.iinc 2 1, 3) := by decide +kernel
theorem dX1_begin_67 : decode cX1_begin 67 = .ok (.goto (-52), 3) := by decide +kernel
theorem dX1_begin_70 : decode cX1_begin 70 = .ok (.return_, 1) := by decide +kernel
theorem dX1_span_0 : decode cX1_span 0 = .ok (.iconst 0, 1) := by decide +kernel
theorem dX1_span_1 : decode cX1_span 1 = .ok (.istore_n 1, 1) := by decide +kernel
theorem dX1_span_2 : decode cX1_span 2 = .ok (.iconst 0, 1) := by decide +kernel
theorem dX1_span_3 : decode cX1_span 3 = .ok (.istore_n 2, 1) := by decide +kernel
theorem dX1_span_4 : decode cX1_span 4 = .ok (.iload_n 2, 1) := by decide +kernel
theorem dX1_span_5 : decode cX1_span 5 = .ok (.bipush 6, 2) := by decide +kernel
theorem dX1_span_7 : decode cX1_span 7 = .ok (.if_icmp .ge 70, 3) := by decide +kernel
theorem dX1_span_10 : decode cX1_span 10 = .ok (.iload_n 1, 1) := by decide +kernel
theorem dX1_span_11 : decode cX1_span 11 = .ok (.aload_n 0, 1) := by decide +kernel
theorem dX1_span_12 : decode cX1_span 12 = .ok (.getfield 24, 3) := by decide +kernel
theorem dX1_span_15 : decode cX1_span 15 = .ok (.if_icmp .ge 62, 3) := by decide +kernel
theorem dX1_span_18 : decode cX1_span 18 = .ok (.aload_n 0, 1) := by decide +kernel
theorem dX1_span_19 : decode cX1_span 19 = .ok (.iload_n 1, 1) := by decide +kernel
theorem dX1_span_20 : decode cX1_span 20 = .ok (.iload_n 2, 1) := by decide +kernel
theorem dX1_span_21 : decode cX1_span 21 = .ok (.invokevirtual 37, 3) := by decide +kernel
theorem dX1_span_24 : decode cX1_span 24 = .ok (.aload_n 0, 1) := by decide +kernel
theorem dX1_span_25 : decode cX1_span 25 = .ok (.getfield 13, 3) := by decide +kernel
theorem dX1_span_28 : decode cX1_span 28 = .ok (.iload_n 1, 1) := by decide +kernel
theorem dX1_span_29 : decode cX1_span 29 = .ok (.aaload, 1) := by decide +kernel
theorem dX1_span_30 : decode cX1_span 30 = .ok (.iload_n 2, 1) := by decide +kernel
theorem dX1_span_31 : decode cX1_span 31 = .ok (.laload, 1) := by decide +kernel
theorem dX1_span_32 : decode cX1_span 32 = .ok (.lconst 0, 1) := by decide +kernel
theorem dX1_span_33 : decode cX1_span 33 = .ok (.lcmp, 1) := by decide +kernel
theorem dX1_span_34 : decode cX1_span 34 = .ok (.ifCond .eq 37, 3) := by decide +kernel
theorem dX1_span_37 : decode cX1_span 37 = .ok (.aload_n 0, 1) := by decide +kernel
theorem dX1_span_38 : decode cX1_span 38 = .ok (.getfield 16, 3) := by decide +kernel
theorem dX1_span_41 : decode cX1_span 41 = .ok (.iload_n 1, 1) := by decide +kernel
theorem dX1_span_42 : decode cX1_span 42 = .ok (.iload_n 2, 1) := by decide +kernel
theorem dX1_span_43 : decode cX1_span 43 = .ok (.iastore, 1) := by decide +kernel
theorem dX1_span_44 : decode cX1_span 44 = .ok (.iconst 0, 1) := by decide +kernel
theorem dX1_span_45 : decode cX1_span 45 = .ok (.istore_n 3, 1) := by decide +kernel
theorem dX1_span_46 : decode cX1_span 46 = .ok (.iload_n 3, 1) := by decide +kernel
theorem dX1_span_47 : decode cX1_span 47 = .ok (.iload_n 1, 1) := by decide +kernel
theorem dX1_span_48 : decode cX1_span 48 = .ok (.if_icmp .ge 20, 3) := by decide +kernel
theorem dX1_span_51 : decode cX1_span 51 = .ok (.aload_n 0, 1) := by decide +kernel
theorem dX1_span_52 : decode cX1_span 52 = .ok (.aload_n 0, 1) := by decide +kernel
theorem dX1_span_53 : decode cX1_span 53 = .ok (.getfield 13, 3) := by decide +kernel
theorem dX1_span_56 : decode cX1_span 56 = .ok (.iload_n 3, 1) := by decide +kernel
theorem dX1_span_57 : decode cX1_span 57 = .ok (.aaload, 1) := by decide +kernel
theorem dX1_span_58 : decode cX1_span 58 = .ok (.iload_n 1, 1) := by decide +kernel
theorem dX1_span_59 : decode cX1_span 59 = .ok (.invokevirtual 41, 3) := by decide +kernel
theorem dX1_span_62 : decode cX1_span 62 = .ok (.iinc 3 1, 3) := by decide +kernel
theorem dX1_span_65 : decode cX1_span 65 = .ok (.goto (-19), 3) := by decide +kernel
theorem dX1_span_68 : decode cX1_span 68 = .ok (.iinc 1 1, 3) := by decide +kernel
theorem dX1_span_71 : decode cX1_span 71 = .ok (.iinc 2 1, 3) := by decide +kernel
theorem dX1_span_74 : decode cX1_span 74 = .ok (.goto (-70), 3) := by decide +kernel
theorem dX1_span_77 : decode cX1_span 77 = .ok (.iconst 0, 1) := by decide +kernel
theorem dX1_span_78 : decode cX1_span 78 = .ok (.istore_n 2, 1) := by decide +kernel
theorem dX1_span_79 : decode cX1_span 79 = .ok (.iload_n 2, 1) := by decide +kernel
theorem dX1_span_80 : decode cX1_span 80 = .ok (.aload_n 0, 1) := by decide +kernel
theorem dX1_span_81 : decode cX1_span 81 = .ok (.getfield 24, 3) := by decide +kernel
theorem dX1_span_84 : decode cX1_span 84 = .ok (.if_icmp .ge 18, 3) := by decide +kernel
theorem dX1_span_87 : decode cX1_span 87 = .ok (.aload_n 0, 1) := by decide +kernel
theorem dX1_span_88 : decode cX1_span 88 = .ok (.aload_n 0, 1) := by decide +kernel
theorem dX1_span_89 : decode cX1_span 89 = .ok (.getfield 20, 3) := by decide +kernel
theorem dX1_span_92 : decode cX1_span 92 = .ok (.iload_n 2, 1) := by decide +kernel
theorem dX1_span_93 : decode cX1_span 93 = .ok (.invokevirtual 41, 3) := by decide +kernel
theorem dX1_span_96 : decode cX1_span 96 = .ok (.iinc 2 1, 3) := by decide +kernel
theorem dX1_span_99 : decode cX1_span 99 = .ok (.goto (-20), 3) := by decide +kernel
theorem dX1_span_102 : decode cX1_span 102 = .ok (.return_, 1) := by decide +kernel
theorem dX1_gather_0 : decode cX1_gather 0 = .ok (.iload_n 1, 1) := by decide +kernel
theorem dX1_gather_1 : decode cX1_gather 1 = .ok (.iconst 1, 1) := by decide +kernel
theorem dX1_gather_2 : decode cX1_gather 2 = .ok (.iadd, 1) := by decide +kernel
theorem dX1_gather_3 : decode cX1_gather 3 = .ok (.istore_n 3, 1) := by decide +kernel
theorem dX1_gather_4 : decode cX1_gather 4 = .ok (.iload_n 3, 1) := by decide +kernel
theorem dX1_gather_5 : decode cX1_gather 5 = .ok (.aload_n 0, 1) := by decide +kernel
theorem dX1_gather_6 : decode cX1_gather 6 = .ok (.getfield 24, 3) := by decide +kernel
theorem dX1_gather_9 : decode cX1_gather 9 = .ok (.if_icmp .ge 25, 3) := by decide +kernel
theorem dX1_gather_12 : decode cX1_gather 12 = .ok (.aload_n 0, 1) := by decide +kernel
theorem dX1_gather_13 : decode cX1_gather 13 = .ok (.getfield 13, 3) := by decide +kernel
theorem dX1_gather_16 : decode cX1_gather 16 = .ok (.iload_n 1, 1) := by decide +kernel
theorem dX1_gather_17 : decode cX1_gather 17 = .ok (.aaload, 1) := by decide +kernel
theorem dX1_gather_18 : decode cX1_gather 18 = .ok (.aload_n 0, 1) := by decide +kernel
theorem dX1_gather_19 : decode cX1_gather 19 = .ok (.getfield 13, 3) := by decide +kernel
theorem dX1_gather_22 : decode cX1_gather 22 = .ok (.iload_n 3, 1) := by decide +kernel
theorem dX1_gather_23 : decode cX1_gather 23 = .ok (.aaload, 1) := by decide +kernel
theorem dX1_gather_24 : decode cX1_gather 24 = .ok (.iload_n 2, 1) := by decide +kernel
theorem dX1_gather_25 : decode cX1_gather 25 = .ok (.invokestatic 45, 3) := by decide +kernel
theorem dX1_gather_28 : decode cX1_gather 28 = .ok (.iinc 3 1, 3) := by decide +kernel
theorem dX1_gather_31 : decode cX1_gather 31 = .ok (.goto (-27), 3) := by decide +kernel
theorem dX1_gather_34 : decode cX1_gather 34 = .ok (.aload_n 0, 1) := by decide +kernel
theorem dX1_gather_35 : decode cX1_gather 35 = .ok (.getfield 13, 3) := by decide +kernel
theorem dX1_gather_38 : decode cX1_gather 38 = .ok (.iload_n 1, 1) := by decide +kernel
theorem dX1_gather_39 : decode cX1_gather 39 = .ok (.aaload, 1) := by decide +kernel
theorem dX1_gather_40 : decode cX1_gather 40 = .ok (.iload_n 2, 1) := by decide +kernel
theorem dX1_gather_41 : decode cX1_gather 41 = .ok (.laload, 1) := by decide +kernel
theorem dX1_gather_42 : decode cX1_gather 42 = .ok (.lconst 0, 1) := by decide +kernel
theorem dX1_gather_43 : decode cX1_gather 43 = .ok (.lcmp, 1) := by decide +kernel
theorem dX1_gather_44 : decode cX1_gather 44 = .ok (.ifCond .ge 12, 3) := by decide +kernel
theorem dX1_gather_47 : decode cX1_gather 47 = .ok (.aload_n 0, 1) := by decide +kernel
theorem dX1_gather_48 : decode cX1_gather 48 = .ok (.getfield 13, 3) := by decide +kernel
theorem dX1_gather_51 : decode cX1_gather 51 = .ok (.iload_n 1, 1) := by decide +kernel
theorem dX1_gather_52 : decode cX1_gather 52 = .ok (.aaload, 1) := by decide +kernel
theorem dX1_gather_53 : decode cX1_gather 53 = .ok (.invokestatic 49, 3) := by decide +kernel
theorem dX1_gather_56 : decode cX1_gather 56 = .ok (.return_, 1) := by decide +kernel
theorem dX1_negate_0 : decode cX1_negate 0 = .ok (.iconst 0, 1) := by decide +kernel
theorem dX1_negate_1 : decode cX1_negate 1 = .ok (.istore_n 1, 1) := by decide +kernel
theorem dX1_negate_2 : decode cX1_negate 2 = .ok (.iload_n 1, 1) := by decide +kernel
theorem dX1_negate_3 : decode cX1_negate 3 = .ok (.bipush 6, 2) := by decide +kernel
theorem dX1_negate_5 : decode cX1_negate 5 = .ok (.if_icmp .ge 16, 3) := by decide +kernel
theorem dX1_negate_8 : decode cX1_negate 8 = .ok (.aload_n 0, 1) := by decide +kernel
theorem dX1_negate_9 : decode cX1_negate 9 = .ok (.iload_n 1, 1) := by decide +kernel
theorem dX1_negate_10 : decode cX1_negate 10 = .ok (.aload_n 0, 1) := by decide +kernel
theorem dX1_negate_11 : decode cX1_negate 11 = .ok (.iload_n 1, 1) := by decide +kernel
theorem dX1_negate_12 : decode cX1_negate 12 = .ok (.laload, 1) := by decide +kernel
theorem dX1_negate_13 : decode cX1_negate 13 = .ok (.lneg, 1) := by decide +kernel
theorem dX1_negate_14 : decode cX1_negate 14 = .ok (.lastore, 1) := by decide +kernel
theorem dX1_negate_15 : decode cX1_negate 15 = .ok (.iinc 1 1, 3) := by decide +kernel
theorem dX1_negate_18 : decode cX1_negate 18 = .ok (.goto (-16), 3) := by decide +kernel
theorem dX1_negate_21 : decode cX1_negate 21 = .ok (.return_, 1) := by decide +kernel
theorem dX1_divideInTurn_0 : decode cX1_divideInTurn 0 = .ok (.iconst 0, 1) := by decide +kernel
theorem dX1_divideInTurn_1 : decode cX1_divideInTurn 1 = .ok (.istore_n 3, 1) := by decide +kernel
theorem dX1_divideInTurn_2 : decode cX1_divideInTurn 2 = .ok (.iload_n 3, 1) := by decide +kernel
theorem dX1_divideInTurn_3 : decode cX1_divideInTurn 3 = .ok (.bipush 100, 2) := by decide +kernel
theorem dX1_divideInTurn_5 : decode cX1_divideInTurn 5 = .ok (.if_icmp .ge 34, 3) := by decide +kernel
theorem dX1_divideInTurn_8 : decode cX1_divideInTurn 8 = .ok (.aload_n 1, 1) := by decide +kernel
theorem dX1_divideInTurn_9 : decode cX1_divideInTurn 9 = .ok (.iload_n 2, 1) := by decide +kernel
theorem dX1_divideInTurn_10 : decode cX1_divideInTurn 10 = .ok (.laload, 1) := by decide +kernel
theorem dX1_divideInTurn_11 : decode cX1_divideInTurn 11 = .ok (.lconst 0, 1) := by decide +kernel
theorem dX1_divideInTurn_12 : decode cX1_divideInTurn 12 = .ok (.lcmp, 1) := by decide +kernel
theorem dX1_divideInTurn_13 : decode cX1_divideInTurn 13 = .ok (.ifCond .eq 26, 3) := by decide +kernel
theorem dX1_divideInTurn_16 : decode cX1_divideInTurn 16 = .ok (.aload_n 0, 1) := by decide +kernel
theorem dX1_divideInTurn_17 : decode cX1_divideInTurn 17 = .ok (.aload_n 1, 1) := by decide +kernel
theorem dX1_divideInTurn_18 : decode cX1_divideInTurn 18 = .ok (.aload_n 0, 1) := by decide +kernel
theorem dX1_divideInTurn_19 : decode cX1_divideInTurn 19 = .ok (.iload_n 2, 1) := by decide +kernel
theorem dX1_divideInTurn_20 : decode cX1_divideInTurn 20 = .ok (.laload, 1) := by decide +kernel
theorem dX1_divideInTurn_21 : decode cX1_divideInTurn 21 = .ok (.aload_n 1, 1) := by decide +kernel
theorem dX1_divideInTurn_22 : decode cX1_divideInTurn 22 = .ok (.iload_n 2, 1) := by decide +kernel
theorem dX1_divideInTurn_23 : decode cX1_divideInTurn 23 = .ok (.laload, 1) := by decide +kernel
theorem dX1_divideInTurn_24 : decode cX1_divideInTurn 24 = .ok (.ldiv, 1) := by decide +kernel
theorem dX1_divideInTurn_25 : decode cX1_divideInTurn 25 = .ok (.invokestatic 53, 3) := by decide +kernel
theorem dX1_divideInTurn_28 : decode cX1_divideInTurn 28 = .ok (.aload_n 0, 1) := by decide +kernel
theorem dX1_divideInTurn_29 : decode cX1_divideInTurn 29 = .ok (.aload_n 1, 1) := by decide +kernel
theorem dX1_divideInTurn_30 : decode cX1_divideInTurn 30 = .ok (.invokestatic 57, 3) := by decide +kernel
theorem dX1_divideInTurn_33 : decode cX1_divideInTurn 33 = .ok (.iinc 3 1, 3) := by decide +kernel
theorem dX1_divideInTurn_36 : decode cX1_divideInTurn 36 = .ok (.goto (-34), 3) := by decide +kernel
theorem dX1_divideInTurn_39 : decode cX1_divideInTurn 39 = .ok (.return_, 1) := by decide +kernel
theorem dX1_exchange_0 : decode cX1_exchange 0 = .ok (.iconst 0, 1) := by decide +kernel
theorem dX1_exchange_1 : decode cX1_exchange 1 = .ok (.istore_n 2, 1) := by decide +kernel
theorem dX1_exchange_2 : decode cX1_exchange 2 = .ok (.iload_n 2, 1) := by decide +kernel
theorem dX1_exchange_3 : decode cX1_exchange 3 = .ok (.bipush 6, 2) := by decide +kernel
theorem dX1_exchange_5 : decode cX1_exchange 5 = .ok (.if_icmp .ge 23, 3) := by decide +kernel
theorem dX1_exchange_8 : decode cX1_exchange 8 = .ok (.aload_n 0, 1) := by decide +kernel
theorem dX1_exchange_9 : decode cX1_exchange 9 = .ok (.iload_n 2, 1) := by decide +kernel
theorem dX1_exchange_10 : decode cX1_exchange 10 = .ok (.laload, 1) := by decide +kernel
theorem dX1_exchange_11 : decode cX1_exchange 11 = .ok (.lstore_n 3, 1) := by decide +kernel
theorem dX1_exchange_12 : decode cX1_exchange 12 = .ok (.aload_n 0, 1) := by decide +kernel
theorem dX1_exchange_13 : decode cX1_exchange 13 = .ok (.iload_n 2, 1) := by decide +kernel
theorem dX1_exchange_14 : decode cX1_exchange 14 = .ok (.aload_n 1, 1) := by decide +kernel
theorem dX1_exchange_15 : decode cX1_exchange 15 = .ok (.iload_n 2, 1) := by decide +kernel
theorem dX1_exchange_16 : decode cX1_exchange 16 = .ok (.laload, 1) := by decide +kernel
theorem dX1_exchange_17 : decode cX1_exchange 17 = .ok (.lastore, 1) := by decide +kernel
theorem dX1_exchange_18 : decode cX1_exchange 18 = .ok (.aload_n 1, 1) := by decide +kernel
theorem dX1_exchange_19 : decode cX1_exchange 19 = .ok (.iload_n 2, 1) := by decide +kernel
theorem dX1_exchange_20 : decode cX1_exchange 20 = .ok (.lload_n 3, 1) := by decide +kernel
theorem dX1_exchange_21 : decode cX1_exchange 21 = .ok (.lastore, 1) := by decide +kernel
theorem dX1_exchange_22 : decode cX1_exchange 22 = .ok (.iinc 2 1, 3) := by decide +kernel
theorem dX1_exchange_25 : decode cX1_exchange 25 = .ok (.goto (-23), 3) := by decide +kernel
theorem dX1_exchange_28 : decode cX1_exchange 28 = .ok (.return_, 1) := by decide +kernel
theorem dX1_subtract_0 : decode cX1_subtract 0 = .ok (.iconst 0, 1) := by decide +kernel
theorem dX1_subtract_1 : decode cX1_subtract 1 = .ok (.istore 4, 2) := by decide +kernel
theorem dX1_subtract_3 : decode cX1_subtract 3 = .ok (.iload 4, 2) := by decide +kernel
theorem dX1_subtract_5 : decode cX1_subtract 5 = .ok (.bipush 6, 2) := by decide +kernel
theorem dX1_subtract_7 : decode cX1_subtract 7 = .ok (.if_icmp .ge 22, 3) := by decide +kernel
theorem dX1_subtract_10 : decode cX1_subtract 10 = .ok (.aload_n 0, 1) := by decide +kernel
theorem dX1_subtract_11 : decode cX1_subtract 11 = .ok (.iload 4, 2) := by decide +kernel
theorem dX1_subtract_13 : decode cX1_subtract 13 = .ok (.dup2, 1) := by decide +kernel
theorem dX1_subtract_14 : decode cX1_subtract 14 = .ok (.laload, 1) := by decide +kernel
theorem dX1_subtract_15 : decode cX1_subtract 15 = .ok (.lload_n 2, 1) := by decide +kernel
theorem dX1_subtract_16 : decode cX1_subtract 16 = .ok (.aload_n 1, 1) := by decide +kernel
theorem dX1_subtract_17 : decode cX1_subtract 17 = .ok (.iload 4, 2) := by decide +kernel
theorem dX1_subtract_19 : decode cX1_subtract 19 = .ok (.laload, 1) := by decide +kernel
theorem dX1_subtract_20 : decode cX1_subtract 20 = .ok (.lmul, 1) := by decide +kernel
theorem dX1_subtract_21 : decode cX1_subtract 21 = .ok (.lsub, 1) := by decide +kernel
theorem dX1_subtract_22 : decode cX1_subtract 22 = .ok (.lastore, 1) := by decide +kernel
theorem dX1_subtract_23 : decode cX1_subtract 23 = .ok (.iinc 4 1, 3) := by decide +kernel
theorem dX1_subtract_26 : decode cX1_subtract 26 = .ok (.goto (-23), 3) := by decide +kernel
theorem dX1_subtract_29 : decode cX1_subtract 29 = .ok (.return_, 1) := by decide +kernel
theorem dX1_lessen_0 : decode cX1_lessen 0 = .ok (.aload_n 0, 1) := by decide +kernel
theorem dX1_lessen_1 : decode cX1_lessen 1 = .ok (.getfield 13, 3) := by decide +kernel
theorem dX1_lessen_4 : decode cX1_lessen 4 = .ok (.iload_n 2, 1) := by decide +kernel
theorem dX1_lessen_5 : decode cX1_lessen 5 = .ok (.aaload, 1) := by decide +kernel
theorem dX1_lessen_6 : decode cX1_lessen 6 = .ok (.aload_n 0, 1) := by decide +kernel
theorem dX1_lessen_7 : decode cX1_lessen 7 = .ok (.getfield 16, 3) := by decide +kernel
theorem dX1_lessen_10 : decode cX1_lessen 10 = .ok (.iload_n 2, 1) := by decide +kernel
theorem dX1_lessen_11 : decode cX1_lessen 11 = .ok (.iaload, 1) := by decide +kernel
theorem dX1_lessen_12 : decode cX1_lessen 12 = .ok (.laload, 1) := by decide +kernel
theorem dX1_lessen_13 : decode cX1_lessen 13 = .ok (.lstore_n 3, 1) := by decide +kernel
theorem dX1_lessen_14 : decode cX1_lessen 14 = .ok (.lload_n 3, 1) := by decide +kernel
theorem dX1_lessen_15 : decode cX1_lessen 15 = .ok (.lconst 0, 1) := by decide +kernel
theorem dX1_lessen_16 : decode cX1_lessen 16 = .ok (.lcmp, 1) := by decide +kernel
theorem dX1_lessen_17 : decode cX1_lessen 17 = .ok (.ifCond .le 25, 3) := by decide +kernel
theorem dX1_lessen_20 : decode cX1_lessen 20 = .ok (.aload_n 1, 1) := by decide +kernel
theorem dX1_lessen_21 : decode cX1_lessen 21 = .ok (.aload_n 0, 1) := by decide +kernel
theorem dX1_lessen_22 : decode cX1_lessen 22 = .ok (.getfield 13, 3) := by decide +kernel
theorem dX1_lessen_25 : decode cX1_lessen 25 = .ok (.iload_n 2, 1) := by decide +kernel
theorem dX1_lessen_26 : decode cX1_lessen 26 = .ok (.aaload, 1) := by decide +kernel
theorem dX1_lessen_27 : decode cX1_lessen 27 = .ok (.aload_n 1, 1) := by decide +kernel
theorem dX1_lessen_28 : decode cX1_lessen 28 = .ok (.aload_n 0, 1) := by decide +kernel
theorem dX1_lessen_29 : decode cX1_lessen 29 = .ok (.getfield 16, 3) := by decide +kernel
theorem dX1_lessen_32 : decode cX1_lessen 32 = .ok (.iload_n 2, 1) := by decide +kernel
theorem dX1_lessen_33 : decode cX1_lessen 33 = .ok (.iaload, 1) := by decide +kernel
theorem dX1_lessen_34 : decode cX1_lessen 34 = .ok (.laload, 1) := by decide +kernel
theorem dX1_lessen_35 : decode cX1_lessen 35 = .ok (.lload_n 3, 1) := by decide +kernel
theorem dX1_lessen_36 : decode cX1_lessen 36 = .ok (.invokestatic 61, 3) := by decide +kernel
theorem dX1_lessen_39 : decode cX1_lessen 39 = .ok (.invokestatic 53, 3) := by decide +kernel
theorem dX1_lessen_42 : decode cX1_lessen 42 = .ok (.return_, 1) := by decide +kernel
theorem dX1_isReached_0 : decode cX1_isReached 0 = .ok (.iconst 0, 1) := by decide +kernel
theorem dX1_isReached_1 : decode cX1_isReached 1 = .ok (.istore_n 1, 1) := by decide +kernel
theorem dX1_isReached_2 : decode cX1_isReached 2 = .ok (.iload_n 1, 1) := by decide +kernel
theorem dX1_isReached_3 : decode cX1_isReached 3 = .ok (.iconst 3, 1) := by decide +kernel
theorem dX1_isReached_4 : decode cX1_isReached 4 = .ok (.if_icmp .ge 22, 3) := by decide +kernel
theorem dX1_isReached_7 : decode cX1_isReached 7 = .ok (.aload_n 0, 1) := by decide +kernel
theorem dX1_isReached_8 : decode cX1_isReached 8 = .ok (.getfield 20, 3) := by decide +kernel
theorem dX1_isReached_11 : decode cX1_isReached 11 = .ok (.iload_n 1, 1) := by decide +kernel
theorem dX1_isReached_12 : decode cX1_isReached 12 = .ok (.laload, 1) := by decide +kernel
theorem dX1_isReached_13 : decode cX1_isReached 13 = .ok (.lconst 0, 1) := by decide +kernel
theorem dX1_isReached_14 : decode cX1_isReached 14 = .ok (.lcmp, 1) := by decide +kernel
theorem dX1_isReached_15 : decode cX1_isReached 15 = .ok (.ifCond .eq 5, 3) := by decide +kernel
theorem dX1_isReached_18 : decode cX1_isReached 18 = .ok (.iconst 0, 1) := by decide +kernel
theorem dX1_isReached_19 : decode cX1_isReached 19 = .ok (.ireturn, 1) := by decide +kernel
theorem dX1_isReached_20 : decode cX1_isReached 20 = .ok (.iinc 1 1, 3) := by decide +kernel
theorem dX1_isReached_23 : decode cX1_isReached 23 = .ok (.goto (-21), 3) := by decide +kernel
theorem dX1_isReached_26 : decode cX1_isReached 26 = .ok (.iconst 1, 1) := by decide +kernel
theorem dX1_isReached_27 : decode cX1_isReached 27 = .ok (.ireturn, 1) := by decide +kernel
theorem dX1_members_0 : decode cX1_members 0 = .ok (.iconst 0, 1) := by decide +kernel
theorem dX1_members_1 : decode cX1_members 1 = .ok (.istore_n 1, 1) := by decide +kernel
theorem dX1_members_2 : decode cX1_members 2 = .ok (.iconst 0, 1) := by decide +kernel
theorem dX1_members_3 : decode cX1_members 3 = .ok (.istore_n 2, 1) := by decide +kernel
theorem dX1_members_4 : decode cX1_members 4 = .ok (.iload_n 2, 1) := by decide +kernel
theorem dX1_members_5 : decode cX1_members 5 = .ok (.aload_n 0, 1) := by decide +kernel
theorem dX1_members_6 : decode cX1_members 6 = .ok (.getfield 24, 3) := by decide +kernel
theorem dX1_members_9 : decode cX1_members 9 = .ok (.if_icmp .ge 22, 3) := by decide +kernel
theorem dX1_members_12 : decode cX1_members 12 = .ok (.aload_n 0, 1) := by decide +kernel
theorem dX1_members_13 : decode cX1_members 13 = .ok (.getfield 16, 3) := by decide +kernel
theorem dX1_members_16 : decode cX1_members 16 = .ok (.iload_n 2, 1) := by decide +kernel
theorem dX1_members_17 : decode cX1_members 17 = .ok (.iaload, 1) := by decide +kernel
theorem dX1_members_18 : decode cX1_members 18 = .ok (.iconst 3, 1) := by decide +kernel
theorem dX1_members_19 : decode cX1_members 19 = .ok (.if_icmp .lt 6, 3) := by decide +kernel
theorem dX1_members_22 : decode cX1_members 22 = .ok (.iinc 1 1, 3) := by decide +kernel
theorem dX1_members_25 : decode cX1_members 25 = .ok (.iinc 2 1, 3) := by decide +kernel
theorem dX1_members_28 : decode cX1_members 28 = .ok (.goto (-24), 3) := by decide +kernel
theorem dX1_members_31 : decode cX1_members 31 = .ok (.iload_n 1, 1) := by decide +kernel
theorem dX1_members_32 : decode cX1_members 32 = .ok (.ireturn, 1) := by decide +kernel
theorem dX1_member_0 : decode cX1_member 0 = .ok (.aload_n 0, 1) := by decide +kernel
theorem dX1_member_1 : decode cX1_member 1 = .ok (.getfield 13, 3) := by decide +kernel
theorem dX1_member_4 : decode cX1_member 4 = .ok (.aload_n 0, 1) := by decide +kernel
theorem dX1_member_5 : decode cX1_member 5 = .ok (.getfield 24, 3) := by decide +kernel
theorem dX1_member_8 : decode cX1_member 8 = .ok (.aload_n 0, 1) := by decide +kernel
theorem dX1_member_9 : decode cX1_member 9 = .ok (.invokevirtual 65, 3) := by decide +kernel
theorem dX1_member_12 : decode cX1_member 12 = .ok (.isub, 1) := by decide +kernel
theorem dX1_member_13 : decode cX1_member 13 = .ok (.iload_n 1, 1) := by decide +kernel
theorem dX1_member_14 : decode cX1_member 14 = .ok (.iadd, 1) := by decide +kernel
theorem dX1_member_15 : decode cX1_member 15 = .ok (.aaload, 1) := by decide +kernel
theorem dX1_member_16 : decode cX1_member 16 = .ok (.iconst 3, 1) := by decide +kernel
theorem dX1_member_17 : decode cX1_member 17 = .ok (.iload_n 2, 1) := by decide +kernel
theorem dX1_member_18 : decode cX1_member 18 = .ok (.iadd, 1) := by decide +kernel
theorem dX1_member_19 : decode cX1_member 19 = .ok (.laload, 1) := by decide +kernel
theorem dX1_member_20 : decode cX1_member 20 = .ok (.lreturn, 1) := by decide +kernel
end
section
/-! decode rows of X2 -/
theorem dX2_init_0 : decode cX2_init 0 = .ok (.aload_n 0, 1) := by decide +kernel
theorem dX2_init_1 : decode cX2_init 1 = .ok (.invokespecial 1, 3) := by decide +kernel
theorem dX2_init_4 : decode cX2_init 4 = .ok (.aload_n 0, 1) := by decide +kernel
theorem dX2_init_5 : decode cX2_init 5 = .ok (.iconst 1, 1) := by decide +kernel
theorem dX2_init_6 : decode cX2_init 6 = .ok (.iconst 3, 1) := by decide +kernel
theorem dX2_init_7 : decode cX2_init 7 = .ok (.iload_n 1, 1) := by decide +kernel
theorem dX2_init_8 : decode cX2_init 8 = .ok (.invokestatic 9, 3) := by decide +kernel
theorem dX2_init_11 : decode cX2_init 11 = .ok (.invokestatic 15, 3) := by decide +kernel
theorem dX2_init_14 : decode cX2_init 14 = .ok (.putfield 18, 3) := by decide +kernel
theorem dX2_init_17 : decode cX2_init 17 = .ok (.aload_n 0, 1) := by decide +kernel
theorem dX2_init_18 : decode cX2_init 18 = .ok (.iconst 3, 1) := by decide +kernel
theorem dX2_init_19 : decode cX2_init 19 = .ok (.iconst 4, 1) := by decide +kernel
theorem dX2_init_20 : decode cX2_init 20 = .ok (.multianewarray 22 2, 4) := by decide +kernel
theorem dX2_init_24 : decode cX2_init 24 = .ok (.putfield 24, 3) := by decide +kernel
theorem dX2_init_27 : decode cX2_init 27 = .ok (.aload_n 0, 1) := by decide +kernel
theorem dX2_init_28 : decode cX2_init 28 = .ok (.new 27, 3) := by decide +kernel
theorem dX2_init_31 : decode cX2_init 31 = .ok (.dup, 1) := by decide +kernel
theorem dX2_init_32 : decode cX2_init 32 = .ok (.invokespecial 29, 3) := by decide +kernel
theorem dX2_init_35 : decode cX2_init 35 = .ok (.putfield 30, 3) := by decide +kernel
theorem dX2_init_38 : decode cX2_init 38 = .ok (.aload_n 0, 1) := by decide +kernel
theorem dX2_init_39 : decode cX2_init 39 = .ok (.new 34, 3) := by decide +kernel
theorem dX2_init_42 : decode cX2_init 42 = .ok (.dup, 1) := by decide +kernel
theorem dX2_init_43 : decode cX2_init 43 = .ok (.invokespecial 36, 3) := by decide +kernel
theorem dX2_init_46 : decode cX2_init 46 = .ok (.putfield 37, 3) := by decide +kernel
theorem dX2_init_49 : decode cX2_init 49 = .ok (.aload_n 0, 1) := by decide +kernel
theorem dX2_init_50 : decode cX2_init 50 = .ok (.iconst 0, 1) := by decide +kernel
theorem dX2_init_51 : decode cX2_init 51 = .ok (.putfield 41, 3) := by decide +kernel
theorem dX2_init_54 : decode cX2_init 54 = .ok (.return_, 1) := by decide +kernel
theorem dX2_equation_0 : decode cX2_equation 0 = .ok (.aload_n 0, 1) := by decide +kernel
theorem dX2_equation_1 : decode cX2_equation 1 = .ok (.getfield 41, 3) := by decide +kernel
theorem dX2_equation_4 : decode cX2_equation 4 = .ok (.iconst 3, 1) := by decide +kernel
theorem dX2_equation_5 : decode cX2_equation 5 = .ok (.if_icmp .lt 13, 3) := by decide +kernel
theorem dX2_equation_8 : decode cX2_equation 8 = .ok (.new 44, 3) := by decide +kernel
theorem dX2_equation_11 : decode cX2_equation 11 = .ok (.dup, 1) := by decide +kernel
theorem dX2_equation_12 : decode cX2_equation 12 = .ok (.ldc 46, 2) := by decide +kernel
theorem dX2_equation_14 : decode cX2_equation 14 = .ok (.invokespecial 48, 3) := by decide +kernel
theorem dX2_equation_17 : decode cX2_equation 17 = .ok (.athrow, 1) := by decide +kernel
theorem dX2_equation_18 : decode cX2_equation 18 = .ok (.iconst 0, 1) := by decide +kernel
theorem dX2_equation_19 : decode cX2_equation 19 = .ok (.istore_n 1, 1) := by decide +kernel
theorem dX2_equation_20 : decode cX2_equation 20 = .ok (.iload_n 1, 1) := by decide +kernel
theorem dX2_equation_21 : decode cX2_equation 21 = .ok (.aload_n 0, 1) := by decide +kernel
theorem dX2_equation_22 : decode cX2_equation 22 = .ok (.getfield 18, 3) := by decide +kernel
theorem dX2_equation_25 : decode cX2_equation 25 = .ok (.if_icmp .gt 21, 3) := by decide +kernel
theorem dX2_equation_28 : decode cX2_equation 28 = .ok (.aload_n 0, 1) := by decide +kernel
theorem dX2_equation_29 : decode cX2_equation 29 = .ok (.getfield 24, 3) := by decide +kernel
theorem dX2_equation_32 : decode cX2_equation 32 = .ok (.aload_n 0, 1) := by decide +kernel
theorem dX2_equation_33 : decode cX2_equation 33 = .ok (.getfield 41, 3) := by decide +kernel
theorem dX2_equation_36 : decode cX2_equation 36 = .ok (.aaload, 1) := by decide +kernel
theorem dX2_equation_37 : decode cX2_equation 37 = .ok (.iload_n 1, 1) := by decide +kernel
theorem dX2_equation_38 : decode cX2_equation 38 = .ok (.iconst 0, 1) := by decide +kernel
theorem dX2_equation_39 : decode cX2_equation 39 = .ok (.iastore, 1) := by decide +kernel
theorem dX2_equation_40 : decode cX2_equation 40 = .ok (.iinc 1 1, 3) := by decide +kernel
theorem dX2_equation_43 : decode cX2_equation 43 = .ok (.goto (-23), 3) := by decide +kernel
theorem dX2_equation_46 : decode cX2_equation 46 = .ok (.aload_n 0, 1) := by decide +kernel
theorem dX2_equation_47 : decode cX2_equation 47 = .ok (.dup, 1) := by decide +kernel
theorem dX2_equation_48 : decode cX2_equation 48 = .ok (.getfield 41, 3) := by decide +kernel
theorem dX2_equation_51 : decode cX2_equation 51 = .ok (.iconst 1, 1) := by decide +kernel
theorem dX2_equation_52 : decode cX2_equation 52 = .ok (.iadd, 1) := by decide +kernel
theorem dX2_equation_53 : decode cX2_equation 53 = .ok (.putfield 41, 3) := by decide +kernel
theorem dX2_equation_56 : decode cX2_equation 56 = .ok (.aload_n 0, 1) := by decide +kernel
theorem dX2_equation_57 : decode cX2_equation 57 = .ok (.getfield 41, 3) := by decide +kernel
theorem dX2_equation_60 : decode cX2_equation 60 = .ok (.iconst 1, 1) := by decide +kernel
theorem dX2_equation_61 : decode cX2_equation 61 = .ok (.isub, 1) := by decide +kernel
theorem dX2_equation_62 : decode cX2_equation 62 = .ok (.ireturn, 1) := by decide +kernel
theorem dX2_put_0 : decode cX2_put 0 = .ok (.aload_n 0, 1) := by decide +kernel
theorem dX2_put_1 : decode cX2_put 1 = .ok (.iload_n 1, 1) := by decide +kernel
theorem dX2_put_2 : decode cX2_put 2 = .ok (.iload_n 2, 1) := by decide +kernel
theorem dX2_put_3 : decode cX2_put 3 = .ok (.invokevirtual 51, 3) := by decide +kernel
theorem dX2_put_6 : decode cX2_put 6 = .ok (.ifCond .ne 13, 3) := by decide +kernel
theorem dX2_put_9 : decode cX2_put 9 = .ok (.new 55, 3) := by decide +kernel
theorem dX2_put_12 : decode cX2_put 12 = .ok (.dup, 1) := by decide +kernel
theorem dX2_put_13 : decode cX2_put 13 = .ok (.ldc 57, 2) := by decide +kernel
theorem dX2_put_15 : decode cX2_put 15 = .ok (.invokespecial 59, 3) := by decide +kernel
theorem dX2_put_18 : decode cX2_put 18 = .ok (.athrow, 1) := by decide +kernel
theorem dX2_put_19 : decode cX2_put 19 = .ok (.iload_n 3, 1) := by decide +kernel
theorem dX2_put_20 : decode cX2_put 20 = .ok (.bipush (-9), 2) := by decide +kernel
theorem dX2_put_22 : decode cX2_put 22 = .ok (.if_icmp .lt 9, 3) := by decide +kernel
theorem dX2_put_25 : decode cX2_put 25 = .ok (.iload_n 3, 1) := by decide +kernel
theorem dX2_put_26 : decode cX2_put 26 = .ok (.bipush 9, 2) := by decide +kernel
theorem dX2_put_28 : decode cX2_put 28 = .ok (.if_icmp .le 13, 3) := by decide +kernel
theorem dX2_put_31 : decode cX2_put 31 = .ok (.new 60, 3) := by decide +kernel
theorem dX2_put_34 : decode cX2_put 34 = .ok (.dup, 1) := by decide +kernel
theorem dX2_put_35 : decode cX2_put 35 = .ok (.ldc 62, 2) := by decide +kernel
theorem dX2_put_37 : decode cX2_put 37 = .ok (.invokespecial 64, 3) := by decide +kernel
theorem dX2_put_40 : decode cX2_put 40 = .ok (.athrow, 1) := by decide +kernel
theorem dX2_put_41 : decode cX2_put 41 = .ok (.aload_n 0, 1) := by decide +kernel
theorem dX2_put_42 : decode cX2_put 42 = .ok (.getfield 24, 3) := by decide +kernel
theorem dX2_put_45 : decode cX2_put 45 = .ok (.iload_n 1, 1) := by decide +kernel
theorem dX2_put_46 : decode cX2_put 46 = .ok (.aaload, 1) := by decide +kernel
theorem dX2_put_47 : decode cX2_put 47 = .ok (.iload_n 2, 1) := by decide +kernel
theorem dX2_put_48 : decode cX2_put 48 = .ok (.iaload, 1) := by decide +kernel
theorem dX2_put_49 : decode cX2_put 49 = .ok (.iload_n 3, 1) := by decide +kernel
theorem dX2_put_50 : decode cX2_put 50 = .ok (.if_icmp .eq 7, 3) := by decide +kernel
theorem dX2_put_53 : decode cX2_put 53 = .ok (.iconst 1, 1) := by decide +kernel
theorem dX2_put_54 : decode cX2_put 54 = .ok (.goto 4, 3) := by decide +kernel
theorem dX2_put_57 : decode cX2_put 57 = .ok (.iconst 0, 1) := by decide +kernel
theorem dX2_put_58 : decode cX2_put 58 = .ok (.istore 4, 2) := by decide +kernel
theorem dX2_put_60 : decode cX2_put 60 = .ok (.aload_n 0, 1) := by decide +kernel
theorem dX2_put_61 : decode cX2_put 61 = .ok (.getfield 24, 3) := by decide +kernel
theorem dX2_put_64 : decode cX2_put 64 = .ok (.iload_n 1, 1) := by decide +kernel
theorem dX2_put_65 : decode cX2_put 65 = .ok (.aaload, 1) := by decide +kernel
theorem dX2_put_66 : decode cX2_put 66 = .ok (.iload_n 2, 1) := by decide +kernel
theorem dX2_put_67 : decode cX2_put 67 = .ok (.iload_n 3, 1) := by decide +kernel
theorem dX2_put_68 : decode cX2_put 68 = .ok (.iastore, 1) := by decide +kernel
theorem dX2_put_69 : decode cX2_put 69 = .ok (.iload 4, 2) := by decide +kernel
theorem dX2_put_71 : decode cX2_put 71 = .ok (.ireturn, 1) := by decide +kernel
theorem dX2_at_0 : decode cX2_at 0 = .ok (.aload_n 0, 1) := by decide +kernel
theorem dX2_at_1 : decode cX2_at 1 = .ok (.iload_n 1, 1) := by decide +kernel
theorem dX2_at_2 : decode cX2_at 2 = .ok (.iload_n 2, 1) := by decide +kernel
theorem dX2_at_3 : decode cX2_at 3 = .ok (.invokevirtual 51, 3) := by decide +kernel
theorem dX2_at_6 : decode cX2_at 6 = .ok (.ifCond .ne 13, 3) := by decide +kernel
theorem dX2_at_9 : decode cX2_at 9 = .ok (.new 55, 3) := by decide +kernel
theorem dX2_at_12 : decode cX2_at 12 = .ok (.dup, 1) := by decide +kernel
theorem dX2_at_13 : decode cX2_at 13 = .ok (.ldc 57, 2) := by decide +kernel
theorem dX2_at_15 : decode cX2_at 15 = .ok (.invokespecial 59, 3) := by decide +kernel
theorem dX2_at_18 : decode cX2_at 18 = .ok (.athrow, 1) := by decide +kernel
theorem dX2_at_19 : decode cX2_at 19 = .ok (.aload_n 0, 1) := by decide +kernel
theorem dX2_at_20 : decode cX2_at 20 = .ok (.getfield 24, 3) := by decide +kernel
theorem dX2_at_23 : decode cX2_at 23 = .ok (.iload_n 1, 1) := by decide +kernel
theorem dX2_at_24 : decode cX2_at 24 = .ok (.aaload, 1) := by decide +kernel
theorem dX2_at_25 : decode cX2_at 25 = .ok (.iload_n 2, 1) := by decide +kernel
theorem dX2_at_26 : decode cX2_at 26 = .ok (.iaload, 1) := by decide +kernel
theorem dX2_at_27 : decode cX2_at 27 = .ok (.ireturn, 1) := by decide +kernel
theorem dX2_rank_0 : decode cX2_rank 0 = .ok (.aload_n 0, 1) := by decide +kernel
theorem dX2_rank_1 : decode cX2_rank 1 = .ok (.invokevirtual 65, 3) := by decide +kernel
theorem dX2_rank_4 : decode cX2_rank 4 = .ok (.aload_n 0, 1) := by decide +kernel
theorem dX2_rank_5 : decode cX2_rank 5 = .ok (.getfield 30, 3) := by decide +kernel
theorem dX2_rank_8 : decode cX2_rank 8 = .ok (.getfield 68, 3) := by decide +kernel
theorem dX2_rank_11 : decode cX2_rank 11 = .ok (.ireturn, 1) := by decide +kernel
theorem dX2_solutions_0 : decode cX2_solutions 0 = .ok (.aload_n 0, 1) := by decide +kernel
theorem dX2_solutions_1 : decode cX2_solutions 1 = .ok (.invokevirtual 65, 3) := by decide +kernel
theorem dX2_solutions_4 : decode cX2_solutions 4 = .ok (.aload_n 0, 1) := by decide +kernel
theorem dX2_solutions_5 : decode cX2_solutions 5 = .ok (.getfield 30, 3) := by decide +kernel
theorem dX2_solutions_8 : decode cX2_solutions 8 = .ok (.invokevirtual 71, 3) := by decide +kernel
theorem dX2_solutions_11 : decode cX2_solutions 11 = .ok (.ifCond .eq 18, 3) := by decide +kernel
theorem dX2_solutions_14 : decode cX2_solutions 14 = .ok (.aload_n 0, 1) := by decide +kernel
theorem dX2_solutions_15 : decode cX2_solutions 15 = .ok (.getfield 18, 3) := by decide +kernel
theorem dX2_solutions_18 : decode cX2_solutions 18 = .ok (.aload_n 0, 1) := by decide +kernel
theorem dX2_solutions_19 : decode cX2_solutions 19 = .ok (.getfield 30, 3) := by decide +kernel
theorem dX2_solutions_22 : decode cX2_solutions 22 = .ok (.getfield 68, 3) := by decide +kernel
theorem dX2_solutions_25 : decode cX2_solutions 25 = .ok (.isub, 1) := by decide +kernel
theorem dX2_solutions_26 : decode cX2_solutions 26 = .ok (.goto 4, 3) := by decide +kernel
theorem dX2_solutions_29 : decode cX2_solutions 29 = .ok (.iconst (-1), 1) := by decide +kernel
theorem dX2_solutions_30 : decode cX2_solutions 30 = .ok (.ireturn, 1) := by decide +kernel
theorem dX2_free_0 : decode cX2_free 0 = .ok (.aload_n 0, 1) := by decide +kernel
theorem dX2_free_1 : decode cX2_free 1 = .ok (.invokevirtual 65, 3) := by decide +kernel
theorem dX2_free_4 : decode cX2_free 4 = .ok (.aload_n 0, 1) := by decide +kernel
theorem dX2_free_5 : decode cX2_free 5 = .ok (.getfield 30, 3) := by decide +kernel
theorem dX2_free_8 : decode cX2_free 8 = .ok (.iload_n 1, 1) := by decide +kernel
theorem dX2_free_9 : decode cX2_free 9 = .ok (.invokevirtual 75, 3) := by decide +kernel
theorem dX2_free_12 : decode cX2_free 12 = .ok (.ireturn, 1) := by decide +kernel
theorem dX2_plain_0 : decode cX2_plain 0 = .ok (.aload_n 0, 1) := by decide +kernel
theorem dX2_plain_1 : decode cX2_plain 1 = .ok (.iload_n 1, 1) := by decide +kernel
theorem dX2_plain_2 : decode cX2_plain 2 = .ok (.invokevirtual 79, 3) := by decide +kernel
theorem dX2_plain_5 : decode cX2_plain 5 = .ok (.ifCond .ne 13, 3) := by decide +kernel
theorem dX2_plain_8 : decode cX2_plain 8 = .ok (.new 55, 3) := by decide +kernel
theorem dX2_plain_11 : decode cX2_plain 11 = .ok (.dup, 1) := by decide +kernel
theorem dX2_plain_12 : decode cX2_plain 12 = .ok (.ldc 83, 2) := by decide +kernel
theorem dX2_plain_14 : decode cX2_plain 14 = .ok (.invokespecial 59, 3) := by decide +kernel
theorem dX2_plain_17 : decode cX2_plain 17 = .ok (.athrow, 1) := by decide +kernel
theorem dX2_plain_18 : decode cX2_plain 18 = .ok (.aload_n 0, 1) := by decide +kernel
theorem dX2_plain_19 : decode cX2_plain 19 = .ok (.invokevirtual 65, 3) := by decide +kernel
theorem dX2_plain_22 : decode cX2_plain 22 = .ok (.aload_n 0, 1) := by decide +kernel
theorem dX2_plain_23 : decode cX2_plain 23 = .ok (.getfield 30, 3) := by decide +kernel
theorem dX2_plain_26 : decode cX2_plain 26 = .ok (.invokevirtual 71, 3) := by decide +kernel
theorem dX2_plain_29 : decode cX2_plain 29 = .ok (.ifCond .ne 13, 3) := by decide +kernel
theorem dX2_plain_32 : decode cX2_plain 32 = .ok (.new 44, 3) := by decide +kernel
theorem dX2_plain_35 : decode cX2_plain 35 = .ok (.dup, 1) := by decide +kernel
theorem dX2_plain_36 : decode cX2_plain 36 = .ok (.ldc 85, 2) := by decide +kernel
theorem dX2_plain_38 : decode cX2_plain 38 = .ok (.invokespecial 48, 3) := by decide +kernel
theorem dX2_plain_41 : decode cX2_plain 41 = .ok (.athrow, 1) := by decide +kernel
theorem dX2_plain_42 : decode cX2_plain 42 = .ok (.iload_n 2, 1) := by decide +kernel
theorem dX2_plain_43 : decode cX2_plain 43 = .ok (.invokestatic 87, 3) := by decide +kernel
theorem dX2_plain_46 : decode cX2_plain 46 = .ok (.ifCond .ne 13, 3) := by decide +kernel
theorem dX2_plain_49 : decode cX2_plain 49 = .ok (.new 60, 3) := by decide +kernel
theorem dX2_plain_52 : decode cX2_plain 52 = .ok (.dup, 1) := by decide +kernel
theorem dX2_plain_53 : decode cX2_plain 53 = .ok (.ldc 90, 2) := by decide +kernel
theorem dX2_plain_55 : decode cX2_plain 55 = .ok (.invokespecial 64, 3) := by decide +kernel
theorem dX2_plain_58 : decode cX2_plain 58 = .ok (.athrow, 1) := by decide +kernel
theorem dX2_plain_59 : decode cX2_plain 59 = .ok (.aload_n 0, 1) := by decide +kernel
theorem dX2_plain_60 : decode cX2_plain 60 = .ok (.getfield 30, 3) := by decide +kernel
theorem dX2_plain_63 : decode cX2_plain 63 = .ok (.iload_n 1, 1) := by decide +kernel
theorem dX2_plain_64 : decode cX2_plain 64 = .ok (.iload_n 2, 1) := by decide +kernel
theorem dX2_plain_65 : decode cX2_plain 65 = .ok (.invokevirtual 92, 3) := by decide +kernel
theorem dX2_plain_68 : decode cX2_plain 68 = .ok (.lreturn, 1) := by decide +kernel
theorem dX2_direction_0 : decode cX2_direction 0 = .ok (.aload_n 0, 1) := by decide +kernel
theorem dX2_direction_1 : decode cX2_direction 1 = .ok (.invokevirtual 65, 3) := by decide +kernel
theorem dX2_direction_4 : decode cX2_direction 4 = .ok (.aload_n 0, 1) := by decide +kernel
theorem dX2_direction_5 : decode cX2_direction 5 = .ok (.getfield 30, 3) := by decide +kernel
theorem dX2_direction_8 : decode cX2_direction 8 = .ok (.iload_n 1, 1) := by decide +kernel
theorem dX2_direction_9 : decode cX2_direction 9 = .ok (.invokevirtual 75, 3) := by decide +kernel
theorem dX2_direction_12 : decode cX2_direction 12 = .ok (.istore 4, 2) := by decide +kernel
theorem dX2_direction_14 : decode cX2_direction 14 = .ok (.iload 4, 2) := by decide +kernel
theorem dX2_direction_16 : decode cX2_direction 16 = .ok (.ifCond .lt 11, 3) := by decide +kernel
theorem dX2_direction_19 : decode cX2_direction 19 = .ok (.aload_n 0, 1) := by decide +kernel
theorem dX2_direction_20 : decode cX2_direction 20 = .ok (.iload_n 2, 1) := by decide +kernel
theorem dX2_direction_21 : decode cX2_direction 21 = .ok (.invokevirtual 79, 3) := by decide +kernel
theorem dX2_direction_24 : decode cX2_direction 24 = .ok (.ifCond .ne 13, 3) := by decide +kernel
theorem dX2_direction_27 : decode cX2_direction 27 = .ok (.new 55, 3) := by decide +kernel
theorem dX2_direction_30 : decode cX2_direction 30 = .ok (.dup, 1) := by decide +kernel
theorem dX2_direction_31 : decode cX2_direction 31 = .ok (.ldc 96, 2) := by decide +kernel
theorem dX2_direction_33 : decode cX2_direction 33 = .ok (.invokespecial 59, 3) := by decide +kernel
theorem dX2_direction_36 : decode cX2_direction 36 = .ok (.athrow, 1) := by decide +kernel
theorem dX2_direction_37 : decode cX2_direction 37 = .ok (.iload_n 3, 1) := by decide +kernel
theorem dX2_direction_38 : decode cX2_direction 38 = .ok (.invokestatic 87, 3) := by decide +kernel
theorem dX2_direction_41 : decode cX2_direction 41 = .ok (.ifCond .ne 13, 3) := by decide +kernel
theorem dX2_direction_44 : decode cX2_direction 44 = .ok (.new 60, 3) := by decide +kernel
theorem dX2_direction_47 : decode cX2_direction 47 = .ok (.dup, 1) := by decide +kernel
theorem dX2_direction_48 : decode cX2_direction 48 = .ok (.ldc 90, 2) := by decide +kernel
theorem dX2_direction_50 : decode cX2_direction 50 = .ok (.invokespecial 64, 3) := by decide +kernel
theorem dX2_direction_53 : decode cX2_direction 53 = .ok (.athrow, 1) := by decide +kernel
theorem dX2_direction_54 : decode cX2_direction 54 = .ok (.aload_n 0, 1) := by decide +kernel
theorem dX2_direction_55 : decode cX2_direction 55 = .ok (.getfield 30, 3) := by decide +kernel
theorem dX2_direction_58 : decode cX2_direction 58 = .ok (.iload 4, 2) := by decide +kernel
theorem dX2_direction_60 : decode cX2_direction 60 = .ok (.iload_n 2, 1) := by decide +kernel
theorem dX2_direction_61 : decode cX2_direction 61 = .ok (.iload_n 3, 1) := by decide +kernel
theorem dX2_direction_62 : decode cX2_direction 62 = .ok (.invokevirtual 98, 3) := by decide +kernel
theorem dX2_direction_65 : decode cX2_direction 65 = .ok (.lreturn, 1) := by decide +kernel
theorem dX2_whole_0 : decode cX2_whole 0 = .ok (.aload_n 0, 1) := by decide +kernel
theorem dX2_whole_1 : decode cX2_whole 1 = .ok (.invokevirtual 102, 3) := by decide +kernel
theorem dX2_whole_4 : decode cX2_whole 4 = .ok (.aload_n 0, 1) := by decide +kernel
theorem dX2_whole_5 : decode cX2_whole 5 = .ok (.getfield 37, 3) := by decide +kernel
theorem dX2_whole_8 : decode cX2_whole 8 = .ok (.invokevirtual 105, 3) := by decide +kernel
theorem dX2_whole_11 : decode cX2_whole 11 = .ok (.ireturn, 1) := by decide +kernel
theorem dX2_base_0 : decode cX2_base 0 = .ok (.aload_n 0, 1) := by decide +kernel
theorem dX2_base_1 : decode cX2_base 1 = .ok (.invokevirtual 102, 3) := by decide +kernel
theorem dX2_base_4 : decode cX2_base 4 = .ok (.iload_n 1, 1) := by decide +kernel
theorem dX2_base_5 : decode cX2_base 5 = .ok (.ifCond .lt 22, 3) := by decide +kernel
theorem dX2_base_8 : decode cX2_base 8 = .ok (.iload_n 1, 1) := by decide +kernel
theorem dX2_base_9 : decode cX2_base 9 = .ok (.aload_n 0, 1) := by decide +kernel
theorem dX2_base_10 : decode cX2_base 10 = .ok (.getfield 37, 3) := by decide +kernel
theorem dX2_base_13 : decode cX2_base 13 = .ok (.invokevirtual 108, 3) := by decide +kernel
theorem dX2_base_16 : decode cX2_base 16 = .ok (.if_icmp .ge 11, 3) := by decide +kernel
theorem dX2_base_19 : decode cX2_base 19 = .ok (.aload_n 0, 1) := by decide +kernel
theorem dX2_base_20 : decode cX2_base 20 = .ok (.iload_n 2, 1) := by decide +kernel
theorem dX2_base_21 : decode cX2_base 21 = .ok (.invokevirtual 79, 3) := by decide +kernel
theorem dX2_base_24 : decode cX2_base 24 = .ok (.ifCond .ne 13, 3) := by decide +kernel
theorem dX2_base_27 : decode cX2_base 27 = .ok (.new 55, 3) := by decide +kernel
theorem dX2_base_30 : decode cX2_base 30 = .ok (.dup, 1) := by decide +kernel
theorem dX2_base_31 : decode cX2_base 31 = .ok (.ldc 112, 2) := by decide +kernel
theorem dX2_base_33 : decode cX2_base 33 = .ok (.invokespecial 59, 3) := by decide +kernel
theorem dX2_base_36 : decode cX2_base 36 = .ok (.athrow, 1) := by decide +kernel
theorem dX2_base_37 : decode cX2_base 37 = .ok (.aload_n 0, 1) := by decide +kernel
theorem dX2_base_38 : decode cX2_base 38 = .ok (.getfield 37, 3) := by decide +kernel
theorem dX2_base_41 : decode cX2_base 41 = .ok (.iload_n 1, 1) := by decide +kernel
theorem dX2_base_42 : decode cX2_base 42 = .ok (.iload_n 2, 1) := by decide +kernel
theorem dX2_base_43 : decode cX2_base 43 = .ok (.invokevirtual 114, 3) := by decide +kernel
theorem dX2_base_46 : decode cX2_base 46 = .ok (.lreturn, 1) := by decide +kernel
theorem dX2_least_0 : decode cX2_least 0 = .ok (.aload_n 0, 1) := by decide +kernel
theorem dX2_least_1 : decode cX2_least 1 = .ok (.iload_n 1, 1) := by decide +kernel
theorem dX2_least_2 : decode cX2_least 2 = .ok (.invokevirtual 79, 3) := by decide +kernel
theorem dX2_least_5 : decode cX2_least 5 = .ok (.ifCond .ne 13, 3) := by decide +kernel
theorem dX2_least_8 : decode cX2_least 8 = .ok (.new 55, 3) := by decide +kernel
theorem dX2_least_11 : decode cX2_least 11 = .ok (.dup, 1) := by decide +kernel
theorem dX2_least_12 : decode cX2_least 12 = .ok (.ldc 83, 2) := by decide +kernel
theorem dX2_least_14 : decode cX2_least 14 = .ok (.invokespecial 59, 3) := by decide +kernel
theorem dX2_least_17 : decode cX2_least 17 = .ok (.athrow, 1) := by decide +kernel
theorem dX2_least_18 : decode cX2_least 18 = .ok (.aload_n 0, 1) := by decide +kernel
theorem dX2_least_19 : decode cX2_least 19 = .ok (.invokevirtual 102, 3) := by decide +kernel
theorem dX2_least_22 : decode cX2_least 22 = .ok (.aload_n 0, 1) := by decide +kernel
theorem dX2_least_23 : decode cX2_least 23 = .ok (.getfield 37, 3) := by decide +kernel
theorem dX2_least_26 : decode cX2_least 26 = .ok (.invokevirtual 105, 3) := by decide +kernel
theorem dX2_least_29 : decode cX2_least 29 = .ok (.ifCond .ne 13, 3) := by decide +kernel
theorem dX2_least_32 : decode cX2_least 32 = .ok (.new 44, 3) := by decide +kernel
theorem dX2_least_35 : decode cX2_least 35 = .ok (.dup, 1) := by decide +kernel
theorem dX2_least_36 : decode cX2_least 36 = .ok (.ldc 117, 2) := by decide +kernel
theorem dX2_least_38 : decode cX2_least 38 = .ok (.invokespecial 48, 3) := by decide +kernel
theorem dX2_least_41 : decode cX2_least 41 = .ok (.athrow, 1) := by decide +kernel
theorem dX2_least_42 : decode cX2_least 42 = .ok (.aload_n 0, 1) := by decide +kernel
theorem dX2_least_43 : decode cX2_least 43 = .ok (.getfield 37, 3) := by decide +kernel
theorem dX2_least_46 : decode cX2_least 46 = .ok (.getfield 119, 3) := by decide +kernel
theorem dX2_least_49 : decode cX2_least 49 = .ok (.iconst 3, 1) := by decide +kernel
theorem dX2_least_50 : decode cX2_least 50 = .ok (.iload_n 1, 1) := by decide +kernel
theorem dX2_least_51 : decode cX2_least 51 = .ok (.iadd, 1) := by decide +kernel
theorem dX2_least_52 : decode cX2_least 52 = .ok (.laload, 1) := by decide +kernel
theorem dX2_least_53 : decode cX2_least 53 = .ok (.lreturn, 1) := by decide +kernel
theorem dX2_nearest_0 : decode cX2_nearest 0 = .ok (.aload_n 0, 1) := by decide +kernel
theorem dX2_nearest_1 : decode cX2_nearest 1 = .ok (.iload_n 1, 1) := by decide +kernel
theorem dX2_nearest_2 : decode cX2_nearest 2 = .ok (.invokevirtual 79, 3) := by decide +kernel
theorem dX2_nearest_5 : decode cX2_nearest 5 = .ok (.ifCond .ne 13, 3) := by decide +kernel
theorem dX2_nearest_8 : decode cX2_nearest 8 = .ok (.new 55, 3) := by decide +kernel
theorem dX2_nearest_11 : decode cX2_nearest 11 = .ok (.dup, 1) := by decide +kernel
theorem dX2_nearest_12 : decode cX2_nearest 12 = .ok (.ldc 83, 2) := by decide +kernel
theorem dX2_nearest_14 : decode cX2_nearest 14 = .ok (.invokespecial 59, 3) := by decide +kernel
theorem dX2_nearest_17 : decode cX2_nearest 17 = .ok (.athrow, 1) := by decide +kernel
theorem dX2_nearest_18 : decode cX2_nearest 18 = .ok (.iload_n 2, 1) := by decide +kernel
theorem dX2_nearest_19 : decode cX2_nearest 19 = .ok (.invokestatic 87, 3) := by decide +kernel
theorem dX2_nearest_22 : decode cX2_nearest 22 = .ok (.ifCond .ne 13, 3) := by decide +kernel
theorem dX2_nearest_25 : decode cX2_nearest 25 = .ok (.new 60, 3) := by decide +kernel
theorem dX2_nearest_28 : decode cX2_nearest 28 = .ok (.dup, 1) := by decide +kernel
theorem dX2_nearest_29 : decode cX2_nearest 29 = .ok (.ldc 90, 2) := by decide +kernel
theorem dX2_nearest_31 : decode cX2_nearest 31 = .ok (.invokespecial 64, 3) := by decide +kernel
theorem dX2_nearest_34 : decode cX2_nearest 34 = .ok (.athrow, 1) := by decide +kernel
theorem dX2_nearest_35 : decode cX2_nearest 35 = .ok (.aload_n 0, 1) := by decide +kernel
theorem dX2_nearest_36 : decode cX2_nearest 36 = .ok (.invokevirtual 123, 3) := by decide +kernel
theorem dX2_nearest_39 : decode cX2_nearest 39 = .ok (.aload_n 0, 1) := by decide +kernel
theorem dX2_nearest_40 : decode cX2_nearest 40 = .ok (.getfield 30, 3) := by decide +kernel
theorem dX2_nearest_43 : decode cX2_nearest 43 = .ok (.iload_n 1, 1) := by decide +kernel
theorem dX2_nearest_44 : decode cX2_nearest 44 = .ok (.iload_n 2, 1) := by decide +kernel
theorem dX2_nearest_45 : decode cX2_nearest 45 = .ok (.invokevirtual 92, 3) := by decide +kernel
theorem dX2_nearest_48 : decode cX2_nearest 48 = .ok (.lreturn, 1) := by decide +kernel
theorem dX2_squares_0 : decode cX2_squares 0 = .ok (.iload_n 1, 1) := by decide +kernel
theorem dX2_squares_1 : decode cX2_squares 1 = .ok (.invokestatic 87, 3) := by decide +kernel
theorem dX2_squares_4 : decode cX2_squares 4 = .ok (.ifCond .ne 13, 3) := by decide +kernel
theorem dX2_squares_7 : decode cX2_squares 7 = .ok (.new 60, 3) := by decide +kernel
theorem dX2_squares_10 : decode cX2_squares 10 = .ok (.dup, 1) := by decide +kernel
theorem dX2_squares_11 : decode cX2_squares 11 = .ok (.ldc 90, 2) := by decide +kernel
theorem dX2_squares_13 : decode cX2_squares 13 = .ok (.invokespecial 64, 3) := by decide +kernel
theorem dX2_squares_16 : decode cX2_squares 16 = .ok (.athrow, 1) := by decide +kernel
theorem dX2_squares_17 : decode cX2_squares 17 = .ok (.aload_n 0, 1) := by decide +kernel
theorem dX2_squares_18 : decode cX2_squares 18 = .ok (.invokevirtual 123, 3) := by decide +kernel
theorem dX2_squares_21 : decode cX2_squares 21 = .ok (.aload_n 0, 1) := by decide +kernel
theorem dX2_squares_22 : decode cX2_squares 22 = .ok (.getfield 30, 3) := by decide +kernel
theorem dX2_squares_25 : decode cX2_squares 25 = .ok (.aload_n 0, 1) := by decide +kernel
theorem dX2_squares_26 : decode cX2_squares 26 = .ok (.getfield 18, 3) := by decide +kernel
theorem dX2_squares_29 : decode cX2_squares 29 = .ok (.iload_n 1, 1) := by decide +kernel
theorem dX2_squares_30 : decode cX2_squares 30 = .ok (.invokevirtual 92, 3) := by decide +kernel
theorem dX2_squares_33 : decode cX2_squares 33 = .ok (.lreturn, 1) := by decide +kernel
theorem dX2_inBox_0 : decode cX2_inBox 0 = .ok (.iload_n 1, 1) := by decide +kernel
theorem dX2_inBox_1 : decode cX2_inBox 1 = .ok (.ifCond .lt 9, 3) := by decide +kernel
theorem dX2_inBox_4 : decode cX2_inBox 4 = .ok (.iload_n 1, 1) := by decide +kernel
theorem dX2_inBox_5 : decode cX2_inBox 5 = .ok (.bipush 12, 2) := by decide +kernel
theorem dX2_inBox_7 : decode cX2_inBox 7 = .ok (.if_icmp .le 13, 3) := by decide +kernel
theorem dX2_inBox_10 : decode cX2_inBox 10 = .ok (.new 60, 3) := by decide +kernel
theorem dX2_inBox_13 : decode cX2_inBox 13 = .ok (.dup, 1) := by decide +kernel
theorem dX2_inBox_14 : decode cX2_inBox 14 = .ok (.ldc 126, 2) := by decide +kernel
theorem dX2_inBox_16 : decode cX2_inBox 16 = .ok (.invokespecial 64, 3) := by decide +kernel
theorem dX2_inBox_19 : decode cX2_inBox 19 = .ok (.athrow, 1) := by decide +kernel
theorem dX2_inBox_20 : decode cX2_inBox 20 = .ok (.aload_n 0, 1) := by decide +kernel
theorem dX2_inBox_21 : decode cX2_inBox 21 = .ok (.getfield 18, 3) := by decide +kernel
theorem dX2_inBox_24 : decode cX2_inBox 24 = .ok (.iconst 1, 1) := by decide +kernel
theorem dX2_inBox_25 : decode cX2_inBox 25 = .ok (.if_icmp .le 7, 3) := by decide +kernel
theorem dX2_inBox_28 : decode cX2_inBox 28 = .ok (.iload_n 1, 1) := by decide +kernel
theorem dX2_inBox_29 : decode cX2_inBox 29 = .ok (.goto 4, 3) := by decide +kernel
theorem dX2_inBox_32 : decode cX2_inBox 32 = .ok (.iconst 0, 1) := by decide +kernel
theorem dX2_inBox_33 : decode cX2_inBox 33 = .ok (.istore_n 2, 1) := by decide +kernel
theorem dX2_inBox_34 : decode cX2_inBox 34 = .ok (.aload_n 0, 1) := by decide +kernel
theorem dX2_inBox_35 : decode cX2_inBox 35 = .ok (.getfield 18, 3) := by decide +kernel
theorem dX2_inBox_38 : decode cX2_inBox 38 = .ok (.iconst 2, 1) := by decide +kernel
theorem dX2_inBox_39 : decode cX2_inBox 39 = .ok (.if_icmp .le 7, 3) := by decide +kernel
theorem dX2_inBox_42 : decode cX2_inBox 42 = .ok (.iload_n 1, 1) := by decide +kernel
theorem dX2_inBox_43 : decode cX2_inBox 43 = .ok (.goto 4, 3) := by decide +kernel
theorem dX2_inBox_46 : decode cX2_inBox 46 = .ok (.iconst 0, 1) := by decide +kernel
theorem dX2_inBox_47 : decode cX2_inBox 47 = .ok (.istore_n 3, 1) := by decide +kernel
theorem dX2_inBox_48 : decode cX2_inBox 48 = .ok (.iconst 0, 1) := by decide +kernel
theorem dX2_inBox_49 : decode cX2_inBox 49 = .ok (.istore 4, 2) := by decide +kernel
theorem dX2_inBox_51 : decode cX2_inBox 51 = .ok (.iload_n 2, 1) := by decide +kernel
theorem dX2_inBox_52 : decode cX2_inBox 52 = .ok (.ineg, 1) := by decide +kernel
theorem dX2_inBox_53 : decode cX2_inBox 53 = .ok (.istore 5, 2) := by decide +kernel
theorem dX2_inBox_55 : decode cX2_inBox 55 = .ok (.iload 5, 2) := by decide +kernel
theorem dX2_inBox_57 : decode cX2_inBox 57 = .ok (.iload_n 2, 1) := by decide +kernel
theorem dX2_inBox_58 : decode cX2_inBox 58 = .ok (.if_icmp .gt 39, 3) := by decide +kernel
theorem dX2_inBox_61 : decode cX2_inBox 61 = .ok (.iload_n 3, 1) := by decide +kernel
theorem dX2_inBox_62 : decode cX2_inBox 62 = .ok (.ineg, 1) := by decide +kernel
theorem dX2_inBox_63 : decode cX2_inBox 63 = .ok (.istore 6, 2) := by decide +kernel
theorem dX2_inBox_65 : decode cX2_inBox 65 = .ok (.iload 6, 2) := by decide +kernel
theorem dX2_inBox_67 : decode cX2_inBox 67 = .ok (.iload_n 3, 1) := by decide +kernel
theorem dX2_inBox_68 : decode cX2_inBox 68 = .ok (.if_icmp .gt 23, 3) := by decide +kernel
theorem dX2_inBox_71 : decode cX2_inBox 71 = .ok (.iload 4, 2) := by decide +kernel
theorem dX2_inBox_73 : decode cX2_inBox 73 = .ok (.aload_n 0, 1) := by decide +kernel
theorem dX2_inBox_74 : decode cX2_inBox 74 = .ok (.iload 5, 2) := by decide +kernel
theorem dX2_inBox_76 : decode cX2_inBox 76 = .ok (.iload 6, 2) := by decide +kernel
theorem dX2_inBox_78 : decode cX2_inBox 78 = .ok (.iload_n 1, 1) := by decide +kernel
theorem dX2_inBox_79 : decode cX2_inBox 79 = .ok (.invokevirtual 128, 3) := by decide +kernel
theorem dX2_inBox_82 : decode cX2_inBox 82 = .ok (.iadd, 1) := by decide +kernel
theorem dX2_inBox_83 : decode cX2_inBox 83 = .ok (.istore 4, 2) := by decide +kernel
theorem dX2_inBox_85 : decode cX2_inBox 85 = .ok (.iinc 6 1, 3) := by decide +kernel
theorem dX2_inBox_88 : decode cX2_inBox 88 = .ok (.goto (-23), 3) := by decide +kernel
theorem dX2_inBox_91 : decode cX2_inBox 91 = .ok (.iinc 5 1, 3) := by decide +kernel
theorem dX2_inBox_94 : decode cX2_inBox 94 = .ok (.goto (-39), 3) := by decide +kernel
theorem dX2_inBox_97 : decode cX2_inBox 97 = .ok (.iload 4, 2) := by decide +kernel
theorem dX2_inBox_99 : decode cX2_inBox 99 = .ok (.ireturn, 1) := by decide +kernel
theorem dX2_solves_0 : decode cX2_solves 0 = .ok (.iconst 0, 1) := by decide +kernel
theorem dX2_solves_1 : decode cX2_solves 1 = .ok (.istore 4, 2) := by decide +kernel
theorem dX2_solves_3 : decode cX2_solves 3 = .ok (.iload 4, 2) := by decide +kernel
theorem dX2_solves_5 : decode cX2_solves 5 = .ok (.aload_n 0, 1) := by decide +kernel
theorem dX2_solves_6 : decode cX2_solves 6 = .ok (.getfield 41, 3) := by decide +kernel
theorem dX2_solves_9 : decode cX2_solves 9 = .ok (.if_icmp .ge 28, 3) := by decide +kernel
theorem dX2_solves_12 : decode cX2_solves 12 = .ok (.aload_n 0, 1) := by decide +kernel
theorem dX2_solves_13 : decode cX2_solves 13 = .ok (.iload 4, 2) := by decide +kernel
theorem dX2_solves_15 : decode cX2_solves 15 = .ok (.iload_n 1, 1) := by decide +kernel
theorem dX2_solves_16 : decode cX2_solves 16 = .ok (.i2l, 1) := by decide +kernel
theorem dX2_solves_17 : decode cX2_solves 17 = .ok (.iload_n 2, 1) := by decide +kernel
theorem dX2_solves_18 : decode cX2_solves 18 = .ok (.i2l, 1) := by decide +kernel
theorem dX2_solves_19 : decode cX2_solves 19 = .ok (.iload_n 3, 1) := by decide +kernel
theorem dX2_solves_20 : decode cX2_solves 20 = .ok (.i2l, 1) := by decide +kernel
theorem dX2_solves_21 : decode cX2_solves 21 = .ok (.invokevirtual 132, 3) := by decide +kernel
theorem dX2_solves_24 : decode cX2_solves 24 = .ok (.lconst 0, 1) := by decide +kernel
theorem dX2_solves_25 : decode cX2_solves 25 = .ok (.lcmp, 1) := by decide +kernel
theorem dX2_solves_26 : decode cX2_solves 26 = .ok (.ifCond .eq 5, 3) := by decide +kernel
theorem dX2_solves_29 : decode cX2_solves 29 = .ok (.iconst 0, 1) := by decide +kernel
theorem dX2_solves_30 : decode cX2_solves 30 = .ok (.ireturn, 1) := by decide +kernel
theorem dX2_solves_31 : decode cX2_solves 31 = .ok (.iinc 4 1, 3) := by decide +kernel
theorem dX2_solves_34 : decode cX2_solves 34 = .ok (.goto (-31), 3) := by decide +kernel
theorem dX2_solves_37 : decode cX2_solves 37 = .ok (.iconst 1, 1) := by decide +kernel
theorem dX2_solves_38 : decode cX2_solves 38 = .ok (.ireturn, 1) := by decide +kernel
theorem dX2_count_0 : decode cX2_count 0 = .ok (.iload_n 1, 1) := by decide +kernel
theorem dX2_count_1 : decode cX2_count 1 = .ok (.ifCond .ne 8, 3) := by decide +kernel
theorem dX2_count_4 : decode cX2_count 4 = .ok (.aload_n 0, 1) := by decide +kernel
theorem dX2_count_5 : decode cX2_count 5 = .ok (.getfield 41, 3) := by decide +kernel
theorem dX2_count_8 : decode cX2_count 8 = .ok (.ireturn, 1) := by decide +kernel
theorem dX2_count_9 : decode cX2_count 9 = .ok (.iload_n 1, 1) := by decide +kernel
theorem dX2_count_10 : decode cX2_count 10 = .ok (.iconst 1, 1) := by decide +kernel
theorem dX2_count_11 : decode cX2_count 11 = .ok (.if_icmp .ne 10, 3) := by decide +kernel
theorem dX2_count_14 : decode cX2_count 14 = .ok (.aload_n 0, 1) := by decide +kernel
theorem dX2_count_15 : decode cX2_count 15 = .ok (.getfield 18, 3) := by decide +kernel
theorem dX2_count_18 : decode cX2_count 18 = .ok (.goto 4, 3) := by decide +kernel
theorem dX2_count_21 : decode cX2_count 21 = .ok (.iconst (-1), 1) := by decide +kernel
theorem dX2_count_22 : decode cX2_count 22 = .ok (.ireturn, 1) := by decide +kernel
theorem dX2_clear_0 : decode cX2_clear 0 = .ok (.aload_n 0, 1) := by decide +kernel
theorem dX2_clear_1 : decode cX2_clear 1 = .ok (.iconst 0, 1) := by decide +kernel
theorem dX2_clear_2 : decode cX2_clear 2 = .ok (.putfield 41, 3) := by decide +kernel
theorem dX2_clear_5 : decode cX2_clear 5 = .ok (.return_, 1) := by decide +kernel
theorem dX2_isUnknown_0 : decode cX2_isUnknown 0 = .ok (.iload_n 1, 1) := by decide +kernel
theorem dX2_isUnknown_1 : decode cX2_isUnknown 1 = .ok (.ifCond .lt 15, 3) := by decide +kernel
theorem dX2_isUnknown_4 : decode cX2_isUnknown 4 = .ok (.iload_n 1, 1) := by decide +kernel
theorem dX2_isUnknown_5 : decode cX2_isUnknown 5 = .ok (.aload_n 0, 1) := by decide +kernel
theorem dX2_isUnknown_6 : decode cX2_isUnknown 6 = .ok (.getfield 18, 3) := by decide +kernel
theorem dX2_isUnknown_9 : decode cX2_isUnknown 9 = .ok (.if_icmp .ge 7, 3) := by decide +kernel
theorem dX2_isUnknown_12 : decode cX2_isUnknown 12 = .ok (.iconst 1, 1) := by decide +kernel
theorem dX2_isUnknown_13 : decode cX2_isUnknown 13 = .ok (.goto 4, 3) := by decide +kernel
theorem dX2_isUnknown_16 : decode cX2_isUnknown 16 = .ok (.iconst 0, 1) := by decide +kernel
theorem dX2_isUnknown_17 : decode cX2_isUnknown 17 = .ok (.ireturn, 1) := by decide +kernel
theorem dX2_isPlace_0 : decode cX2_isPlace 0 = .ok (.iload_n 1, 1) := by decide +kernel
theorem dX2_isPlace_1 : decode cX2_isPlace 1 = .ok (.ifCond .lt 27, 3) := by decide +kernel
theorem dX2_isPlace_4 : decode cX2_isPlace 4 = .ok (.iload_n 1, 1) := by decide +kernel
theorem dX2_isPlace_5 : decode cX2_isPlace 5 = .ok (.aload_n 0, 1) := by decide +kernel
theorem dX2_isPlace_6 : decode cX2_isPlace 6 = .ok (.getfield 41, 3) := by decide +kernel
theorem dX2_isPlace_9 : decode cX2_isPlace 9 = .ok (.if_icmp .ge 19, 3) := by decide +kernel
theorem dX2_isPlace_12 : decode cX2_isPlace 12 = .ok (.iload_n 2, 1) := by decide +kernel
theorem dX2_isPlace_13 : decode cX2_isPlace 13 = .ok (.ifCond .lt 15, 3) := by decide +kernel
theorem dX2_isPlace_16 : decode cX2_isPlace 16 = .ok (.iload_n 2, 1) := by decide +kernel
theorem dX2_isPlace_17 : decode cX2_isPlace 17 = .ok (.aload_n 0, 1) := by decide +kernel
theorem dX2_isPlace_18 : decode cX2_isPlace 18 = .ok (.getfield 18, 3) := by decide +kernel
theorem dX2_isPlace_21 : decode cX2_isPlace 21 = .ok (.if_icmp .gt 7, 3) := by decide +kernel
theorem dX2_isPlace_24 : decode cX2_isPlace 24 = .ok (.iconst 1, 1) := by decide +kernel
theorem dX2_isPlace_25 : decode cX2_isPlace 25 = .ok (.goto 4, 3) := by decide +kernel
theorem dX2_isPlace_28 : decode cX2_isPlace 28 = .ok (.iconst 0, 1) := by decide +kernel
theorem dX2_isPlace_29 : decode cX2_isPlace 29 = .ok (.ireturn, 1) := by decide +kernel
theorem dX2_isPart_0 : decode cX2_isPart 0 = .ok (.iload_n 0, 1) := by decide +kernel
theorem dX2_isPart_1 : decode cX2_isPart 1 = .ok (.ifCond .eq 8, 3) := by decide +kernel
theorem dX2_isPart_4 : decode cX2_isPart 4 = .ok (.iload_n 0, 1) := by decide +kernel
theorem dX2_isPart_5 : decode cX2_isPart 5 = .ok (.iconst 1, 1) := by decide +kernel
theorem dX2_isPart_6 : decode cX2_isPart 6 = .ok (.if_icmp .ne 7, 3) := by decide +kernel
theorem dX2_isPart_9 : decode cX2_isPart 9 = .ok (.iconst 1, 1) := by decide +kernel
theorem dX2_isPart_10 : decode cX2_isPart 10 = .ok (.goto 4, 3) := by decide +kernel
theorem dX2_isPart_13 : decode cX2_isPart 13 = .ok (.iconst 0, 1) := by decide +kernel
theorem dX2_isPart_14 : decode cX2_isPart 14 = .ok (.ireturn, 1) := by decide +kernel
theorem dX2_excess_0 : decode cX2_excess 0 = .ok (.aload_n 0, 1) := by decide +kernel
theorem dX2_excess_1 : decode cX2_excess 1 = .ok (.getfield 24, 3) := by decide +kernel
theorem dX2_excess_4 : decode cX2_excess 4 = .ok (.iload_n 1, 1) := by decide +kernel
theorem dX2_excess_5 : decode cX2_excess 5 = .ok (.aaload, 1) := by decide +kernel
theorem dX2_excess_6 : decode cX2_excess 6 = .ok (.astore 8, 2) := by decide +kernel
theorem dX2_excess_8 : decode cX2_excess 8 = .ok (.aload 8, 2) := by decide +kernel
theorem dX2_excess_10 : decode cX2_excess 10 = .ok (.iconst 0, 1) := by decide +kernel
theorem dX2_excess_11 : decode cX2_excess 11 = .ok (.iaload, 1) := by decide +kernel
theorem dX2_excess_12 : decode cX2_excess 12 = .ok (.i2l, 1) := by decide +kernel
theorem dX2_excess_13 : decode cX2_excess 13 = .ok (.lload_n 2, 1) := by decide +kernel
theorem dX2_excess_14 : decode cX2_excess 14 = .ok (.lmul, 1) := by decide +kernel
theorem dX2_excess_15 : decode cX2_excess 15 = .ok (.aload 8, 2) := by decide +kernel
theorem dX2_excess_17 : decode cX2_excess 17 = .ok (.aload_n 0, 1) := by decide +kernel
theorem dX2_excess_18 : decode cX2_excess 18 = .ok (.getfield 18, 3) := by decide +kernel
theorem dX2_excess_21 : decode cX2_excess 21 = .ok (.iaload, 1) := by decide +kernel
theorem dX2_excess_22 : decode cX2_excess 22 = .ok (.i2l, 1) := by decide +kernel
theorem dX2_excess_23 : decode cX2_excess 23 = .ok (.lsub, 1) := by decide +kernel
theorem dX2_excess_24 : decode cX2_excess 24 = .ok (.lstore 9, 2) := by decide +kernel
theorem dX2_excess_26 : decode cX2_excess 26 = .ok (.aload_n 0, 1) := by decide +kernel
theorem dX2_excess_27 : decode cX2_excess 27 = .ok (.getfield 18, 3) := by decide +kernel
theorem dX2_excess_30 : decode cX2_excess 30 = .ok (.iconst 1, 1) := by decide +kernel
theorem dX2_excess_31 : decode cX2_excess 31 = .ok (.if_icmp .le 16, 3) := by decide +kernel
theorem dX2_excess_34 : decode cX2_excess 34 = .ok (.lload 9, 2) := by decide +kernel
theorem dX2_excess_36 : decode cX2_excess 36 = .ok (.aload 8, 2) := by decide +kernel
theorem dX2_excess_38 : decode cX2_excess 38 = .ok (.iconst 1, 1) := by decide +kernel
theorem dX2_excess_39 : decode cX2_excess 39 = .ok (.iaload, 1) := by decide +kernel
theorem dX2_excess_40 : decode cX2_excess 40 = .ok (.i2l, 1) := by decide +kernel
theorem dX2_excess_41 : decode cX2_excess 41 = .ok (.lload 4, 2) := by decide +kernel
theorem dX2_excess_43 : decode cX2_excess 43 = .ok (.lmul, 1) := by decide +kernel
theorem dX2_excess_44 : decode cX2_excess 44 = .ok (.ladd, 1) := by decide +kernel
theorem dX2_excess_45 : decode cX2_excess 45 = .ok (.lstore 9, 2) := by decide +kernel
theorem dX2_excess_47 : decode cX2_excess 47 = .ok (.aload_n 0, 1) := by decide +kernel
theorem dX2_excess_48 : decode cX2_excess 48 = .ok (.getfield 18, 3) := by decide +kernel
theorem dX2_excess_51 : decode cX2_excess 51 = .ok (.iconst 2, 1) := by decide +kernel
theorem dX2_excess_52 : decode cX2_excess 52 = .ok (.if_icmp .le 16, 3) := by decide +kernel
theorem dX2_excess_55 : decode cX2_excess 55 = .ok (.lload 9, 2) := by decide +kernel
theorem dX2_excess_57 : decode cX2_excess 57 = .ok (.aload 8, 2) := by decide +kernel
theorem dX2_excess_59 : decode cX2_excess 59 = .ok (.iconst 2, 1) := by decide +kernel
theorem dX2_excess_60 : decode cX2_excess 60 = .ok (.iaload, 1) := by decide +kernel
theorem dX2_excess_61 : decode cX2_excess 61 = .ok (.i2l, 1) := by decide +kernel
theorem dX2_excess_62 : decode cX2_excess 62 = .ok (.lload 6, 2) := by decide +kernel
theorem dX2_excess_64 : decode cX2_excess 64 = .ok (.lmul, 1) := by decide +kernel
theorem dX2_excess_65 : decode cX2_excess 65 = .ok (.ladd, 1) := by decide +kernel
theorem dX2_excess_66 : decode cX2_excess 66 = .ok (.lstore 9, 2) := by decide +kernel
theorem dX2_excess_68 : decode cX2_excess 68 = .ok (.lload 9, 2) := by decide +kernel
theorem dX2_excess_70 : decode cX2_excess 70 = .ok (.lreturn, 1) := by decide +kernel
theorem dX2_fittingFirsts_0 : decode cX2_fittingFirsts 0 = .ok (.iload_n 3, 1) := by decide +kernel
theorem dX2_fittingFirsts_1 : decode cX2_fittingFirsts 1 = .ok (.ineg, 1) := by decide +kernel
theorem dX2_fittingFirsts_2 : decode cX2_fittingFirsts 2 = .ok (.istore 4, 2) := by decide +kernel
theorem dX2_fittingFirsts_4 : decode cX2_fittingFirsts 4 = .ok (.iload_n 3, 1) := by decide +kernel
theorem dX2_fittingFirsts_5 : decode cX2_fittingFirsts 5 = .ok (.istore 5, 2) := by decide +kernel
theorem dX2_fittingFirsts_7 : decode cX2_fittingFirsts 7 = .ok (.iconst 0, 1) := by decide +kernel
theorem dX2_fittingFirsts_8 : decode cX2_fittingFirsts 8 = .ok (.istore 6, 2) := by decide +kernel
theorem dX2_fittingFirsts_10 : decode cX2_fittingFirsts 10 = .ok (.iload 6, 2) := by decide +kernel
theorem dX2_fittingFirsts_12 : decode cX2_fittingFirsts 12 = .ok (.aload_n 0, 1) := by decide +kernel
theorem dX2_fittingFirsts_13 : decode cX2_fittingFirsts 13 = .ok (.getfield 41, 3) := by decide +kernel
theorem dX2_fittingFirsts_16 : decode cX2_fittingFirsts 16 = .ok (.if_icmp .ge 81, 3) := by decide +kernel
theorem dX2_fittingFirsts_19 : decode cX2_fittingFirsts 19 = .ok (.aload_n 0, 1) := by decide +kernel
theorem dX2_fittingFirsts_20 : decode cX2_fittingFirsts 20 = .ok (.getfield 24, 3) := by decide +kernel
theorem dX2_fittingFirsts_23 : decode cX2_fittingFirsts 23 = .ok (.iload 6, 2) := by decide +kernel
theorem dX2_fittingFirsts_25 : decode cX2_fittingFirsts 25 = .ok (.aaload, 1) := by decide +kernel
theorem dX2_fittingFirsts_26 : decode cX2_fittingFirsts 26 = .ok (.iconst 0, 1) := by decide +kernel
theorem dX2_fittingFirsts_27 : decode cX2_fittingFirsts 27 = .ok (.iaload, 1) := by decide +kernel
theorem dX2_fittingFirsts_28 : decode cX2_fittingFirsts 28 = .ok (.istore 7, 2) := by decide +kernel
theorem dX2_fittingFirsts_30 : decode cX2_fittingFirsts 30 = .ok (.aload_n 0, 1) := by decide +kernel
theorem dX2_fittingFirsts_31 : decode cX2_fittingFirsts 31 = .ok (.iload 6, 2) := by decide +kernel
theorem dX2_fittingFirsts_33 : decode cX2_fittingFirsts 33 = .ok (.lconst 0, 1) := by decide +kernel
theorem dX2_fittingFirsts_34 : decode cX2_fittingFirsts 34 = .ok (.iload_n 1, 1) := by decide +kernel
theorem dX2_fittingFirsts_35 : decode cX2_fittingFirsts 35 = .ok (.i2l, 1) := by decide +kernel
theorem dX2_fittingFirsts_36 : decode cX2_fittingFirsts 36 = .ok (.iload_n 2, 1) := by decide +kernel
theorem dX2_fittingFirsts_37 : decode cX2_fittingFirsts 37 = .ok (.i2l, 1) := by decide +kernel
theorem dX2_fittingFirsts_38 : decode cX2_fittingFirsts 38 = .ok (.invokevirtual 132, 3) := by decide +kernel
theorem dX2_fittingFirsts_41 : decode cX2_fittingFirsts 41 = .ok (.lneg, 1) := by decide +kernel
theorem dX2_fittingFirsts_42 : decode cX2_fittingFirsts 42 = .ok (.l2i, 1) := by decide +kernel
theorem dX2_fittingFirsts_43 : decode cX2_fittingFirsts 43 = .ok (.istore 8, 2) := by decide +kernel
theorem dX2_fittingFirsts_45 : decode cX2_fittingFirsts 45 = .ok (.iload 7, 2) := by decide +kernel
theorem dX2_fittingFirsts_47 : decode cX2_fittingFirsts 47 = .ok (.ifCond .ne 10, 3) := by decide +kernel
theorem dX2_fittingFirsts_50 : decode cX2_fittingFirsts 50 = .ok (.iload 8, 2) := by decide +kernel
theorem dX2_fittingFirsts_52 : decode cX2_fittingFirsts 52 = .ok (.ifCond .eq 39, 3) := by decide +kernel
theorem dX2_fittingFirsts_55 : decode cX2_fittingFirsts 55 = .ok (.iconst 0, 1) := by decide +kernel
theorem dX2_fittingFirsts_56 : decode cX2_fittingFirsts 56 = .ok (.ireturn, 1) := by decide +kernel
theorem dX2_fittingFirsts_57 : decode cX2_fittingFirsts 57 = .ok (.iload 8, 2) := by decide +kernel
theorem dX2_fittingFirsts_59 : decode cX2_fittingFirsts 59 = .ok (.iload 7, 2) := by decide +kernel
theorem dX2_fittingFirsts_61 : decode cX2_fittingFirsts 61 = .ok (.irem, 1) := by decide +kernel
theorem dX2_fittingFirsts_62 : decode cX2_fittingFirsts 62 = .ok (.ifCond .eq 5, 3) := by decide +kernel
theorem dX2_fittingFirsts_65 : decode cX2_fittingFirsts 65 = .ok (.iconst 0, 1) := by decide +kernel
theorem dX2_fittingFirsts_66 : decode cX2_fittingFirsts 66 = .ok (.ireturn, 1) := by decide +kernel
theorem dX2_fittingFirsts_67 : decode cX2_fittingFirsts 67 = .ok (.iload 4, 2) := by decide +kernel
theorem dX2_fittingFirsts_69 : decode cX2_fittingFirsts 69 = .ok (.iload 8, 2) := by decide +kernel
theorem dX2_fittingFirsts_71 : decode cX2_fittingFirsts 71 = .ok (.iload 7, 2) := by decide +kernel
theorem dX2_fittingFirsts_73 : decode cX2_fittingFirsts 73 = .ok (.idiv, 1) := by decide +kernel
theorem dX2_fittingFirsts_74 : decode cX2_fittingFirsts 74 = .ok (.invokestatic 15, 3) := by decide +kernel
theorem dX2_fittingFirsts_77 : decode cX2_fittingFirsts 77 = .ok (.istore 4, 2) := by decide +kernel
theorem dX2_fittingFirsts_79 : decode cX2_fittingFirsts 79 = .ok (.iload 5, 2) := by decide +kernel
theorem dX2_fittingFirsts_81 : decode cX2_fittingFirsts 81 = .ok (.iload 8, 2) := by decide +kernel
theorem dX2_fittingFirsts_83 : decode cX2_fittingFirsts 83 = .ok (.iload 7, 2) := by decide +kernel
theorem dX2_fittingFirsts_85 : decode cX2_fittingFirsts 85 = .ok (.idiv, 1) := by decide +kernel
theorem dX2_fittingFirsts_86 : decode cX2_fittingFirsts 86 = .ok (.invokestatic 9, 3) := by decide +kernel
theorem dX2_fittingFirsts_89 : decode cX2_fittingFirsts 89 = .ok (.istore 5, 2) := by decide +kernel
theorem dX2_fittingFirsts_91 : decode cX2_fittingFirsts 91 = .ok (.iinc 6 1, 3) := by decide +kernel
theorem dX2_fittingFirsts_94 : decode cX2_fittingFirsts 94 = .ok (.goto (-84), 3) := by decide +kernel
theorem dX2_fittingFirsts_97 : decode cX2_fittingFirsts 97 = .ok (.iload 4, 2) := by decide +kernel
theorem dX2_fittingFirsts_99 : decode cX2_fittingFirsts 99 = .ok (.iload 5, 2) := by decide +kernel
theorem dX2_fittingFirsts_101 : decode cX2_fittingFirsts 101 = .ok (.if_icmp .gt 13, 3) := by decide +kernel
theorem dX2_fittingFirsts_104 : decode cX2_fittingFirsts 104 = .ok (.iload 5, 2) := by decide +kernel
theorem dX2_fittingFirsts_106 : decode cX2_fittingFirsts 106 = .ok (.iload 4, 2) := by decide +kernel
theorem dX2_fittingFirsts_108 : decode cX2_fittingFirsts 108 = .ok (.isub, 1) := by decide +kernel
theorem dX2_fittingFirsts_109 : decode cX2_fittingFirsts 109 = .ok (.iconst 1, 1) := by decide +kernel
theorem dX2_fittingFirsts_110 : decode cX2_fittingFirsts 110 = .ok (.iadd, 1) := by decide +kernel
theorem dX2_fittingFirsts_111 : decode cX2_fittingFirsts 111 = .ok (.goto 4, 3) := by decide +kernel
theorem dX2_fittingFirsts_114 : decode cX2_fittingFirsts 114 = .ok (.iconst 0, 1) := by decide +kernel
theorem dX2_fittingFirsts_115 : decode cX2_fittingFirsts 115 = .ok (.ireturn, 1) := by decide +kernel
theorem dX2_eliminateEquations_0 : decode cX2_eliminateEquations 0 = .ok (.aload_n 0, 1) := by decide +kernel
theorem dX2_eliminateEquations_1 : decode cX2_eliminateEquations 1 = .ok (.getfield 30, 3) := by decide +kernel
theorem dX2_eliminateEquations_4 : decode cX2_eliminateEquations 4 = .ok (.aload_n 0, 1) := by decide +kernel
theorem dX2_eliminateEquations_5 : decode cX2_eliminateEquations 5 = .ok (.getfield 18, 3) := by decide +kernel
theorem dX2_eliminateEquations_8 : decode cX2_eliminateEquations 8 = .ok (.aload_n 0, 1) := by decide +kernel
theorem dX2_eliminateEquations_9 : decode cX2_eliminateEquations 9 = .ok (.getfield 41, 3) := by decide +kernel
theorem dX2_eliminateEquations_12 : decode cX2_eliminateEquations 12 = .ok (.invokevirtual 136, 3) := by decide +kernel
theorem dX2_eliminateEquations_15 : decode cX2_eliminateEquations 15 = .ok (.iconst 0, 1) := by decide +kernel
theorem dX2_eliminateEquations_16 : decode cX2_eliminateEquations 16 = .ok (.istore_n 1, 1) := by decide +kernel
theorem dX2_eliminateEquations_17 : decode cX2_eliminateEquations 17 = .ok (.iload_n 1, 1) := by decide +kernel
theorem dX2_eliminateEquations_18 : decode cX2_eliminateEquations 18 = .ok (.aload_n 0, 1) := by decide +kernel
theorem dX2_eliminateEquations_19 : decode cX2_eliminateEquations 19 = .ok (.getfield 41, 3) := by decide +kernel
theorem dX2_eliminateEquations_22 : decode cX2_eliminateEquations 22 = .ok (.if_icmp .ge 45, 3) := by decide +kernel
theorem dX2_eliminateEquations_25 : decode cX2_eliminateEquations 25 = .ok (.iconst 0, 1) := by decide +kernel
theorem dX2_eliminateEquations_26 : decode cX2_eliminateEquations 26 = .ok (.istore_n 2, 1) := by decide +kernel
theorem dX2_eliminateEquations_27 : decode cX2_eliminateEquations 27 = .ok (.iload_n 2, 1) := by decide +kernel
theorem dX2_eliminateEquations_28 : decode cX2_eliminateEquations 28 = .ok (.aload_n 0, 1) := by decide +kernel
theorem dX2_eliminateEquations_29 : decode cX2_eliminateEquations 29 = .ok (.getfield 18, 3) := by decide +kernel
theorem dX2_eliminateEquations_32 : decode cX2_eliminateEquations 32 = .ok (.if_icmp .gt 29, 3) := by decide +kernel
theorem dX2_eliminateEquations_35 : decode cX2_eliminateEquations 35 = .ok (.aload_n 0, 1) := by decide +kernel
theorem dX2_eliminateEquations_36 : decode cX2_eliminateEquations 36 = .ok (.getfield 30, 3) := by decide +kernel
theorem dX2_eliminateEquations_39 : decode cX2_eliminateEquations 39 = .ok (.getfield 140, 3) := by decide +kernel
theorem dX2_eliminateEquations_42 : decode cX2_eliminateEquations 42 = .ok (.iload_n 1, 1) := by decide +kernel
theorem dX2_eliminateEquations_43 : decode cX2_eliminateEquations 43 = .ok (.aaload, 1) := by decide +kernel
theorem dX2_eliminateEquations_44 : decode cX2_eliminateEquations 44 = .ok (.iload_n 2, 1) := by decide +kernel
theorem dX2_eliminateEquations_45 : decode cX2_eliminateEquations 45 = .ok (.aload_n 0, 1) := by decide +kernel
theorem dX2_eliminateEquations_46 : decode cX2_eliminateEquations 46 = .ok (.getfield 24, 3) := by decide +kernel
theorem dX2_eliminateEquations_49 : decode cX2_eliminateEquations 49 = .ok (.iload_n 1, 1) := by decide +kernel
theorem dX2_eliminateEquations_50 : decode cX2_eliminateEquations 50 = .ok (.aaload, 1) := by decide +kernel
theorem dX2_eliminateEquations_51 : decode cX2_eliminateEquations 51 = .ok (.iload_n 2, 1) := by decide +kernel
theorem dX2_eliminateEquations_52 : decode cX2_eliminateEquations 52 = .ok (.iaload, 1) := by decide +kernel
theorem dX2_eliminateEquations_53 : decode cX2_eliminateEquations 53 = .ok (.i2l, 1) := by decide +kernel
theorem dX2_eliminateEquations_54 : decode cX2_eliminateEquations 54 = .ok (.lastore, 1) := by decide +kernel
theorem dX2_eliminateEquations_55 : decode cX2_eliminateEquations 55 = .ok (.iinc 2 1, 3) := by decide +kernel
theorem dX2_eliminateEquations_58 : decode cX2_eliminateEquations 58 = .ok (.goto (-31), 3) := by decide +kernel
theorem dX2_eliminateEquations_61 : decode cX2_eliminateEquations 61 = .ok (.iinc 1 1, 3) := by decide +kernel
theorem dX2_eliminateEquations_64 : decode cX2_eliminateEquations 64 = .ok (.goto (-47), 3) := by decide +kernel
theorem dX2_eliminateEquations_67 : decode cX2_eliminateEquations 67 = .ok (.aload_n 0, 1) := by decide +kernel
theorem dX2_eliminateEquations_68 : decode cX2_eliminateEquations 68 = .ok (.getfield 30, 3) := by decide +kernel
theorem dX2_eliminateEquations_71 : decode cX2_eliminateEquations 71 = .ok (.invokevirtual 144, 3) := by decide +kernel
theorem dX2_eliminateEquations_74 : decode cX2_eliminateEquations 74 = .ok (.return_, 1) := by decide +kernel
theorem dX2_eliminateNearest_0 : decode cX2_eliminateNearest 0 = .ok (.aload_n 0, 1) := by decide +kernel
theorem dX2_eliminateNearest_1 : decode cX2_eliminateNearest 1 = .ok (.invokevirtual 102, 3) := by decide +kernel
theorem dX2_eliminateNearest_4 : decode cX2_eliminateNearest 4 = .ok (.aload_n 0, 1) := by decide +kernel
theorem dX2_eliminateNearest_5 : decode cX2_eliminateNearest 5 = .ok (.getfield 37, 3) := by decide +kernel
theorem dX2_eliminateNearest_8 : decode cX2_eliminateNearest 8 = .ok (.invokevirtual 108, 3) := by decide +kernel
theorem dX2_eliminateNearest_11 : decode cX2_eliminateNearest 11 = .ok (.istore_n 1, 1) := by decide +kernel
theorem dX2_eliminateNearest_12 : decode cX2_eliminateNearest 12 = .ok (.aload_n 0, 1) := by decide +kernel
theorem dX2_eliminateNearest_13 : decode cX2_eliminateNearest 13 = .ok (.getfield 30, 3) := by decide +kernel
theorem dX2_eliminateNearest_16 : decode cX2_eliminateNearest 16 = .ok (.aload_n 0, 1) := by decide +kernel
theorem dX2_eliminateNearest_17 : decode cX2_eliminateNearest 17 = .ok (.getfield 18, 3) := by decide +kernel
theorem dX2_eliminateNearest_20 : decode cX2_eliminateNearest 20 = .ok (.iconst 1, 1) := by decide +kernel
theorem dX2_eliminateNearest_21 : decode cX2_eliminateNearest 21 = .ok (.iadd, 1) := by decide +kernel
theorem dX2_eliminateNearest_22 : decode cX2_eliminateNearest 22 = .ok (.aload_n 0, 1) := by decide +kernel
theorem dX2_eliminateNearest_23 : decode cX2_eliminateNearest 23 = .ok (.getfield 18, 3) := by decide +kernel
theorem dX2_eliminateNearest_26 : decode cX2_eliminateNearest 26 = .ok (.iconst 1, 1) := by decide +kernel
theorem dX2_eliminateNearest_27 : decode cX2_eliminateNearest 27 = .ok (.iadd, 1) := by decide +kernel
theorem dX2_eliminateNearest_28 : decode cX2_eliminateNearest 28 = .ok (.iload_n 1, 1) := by decide +kernel
theorem dX2_eliminateNearest_29 : decode cX2_eliminateNearest 29 = .ok (.iadd, 1) := by decide +kernel
theorem dX2_eliminateNearest_30 : decode cX2_eliminateNearest 30 = .ok (.invokevirtual 136, 3) := by decide +kernel
theorem dX2_eliminateNearest_33 : decode cX2_eliminateNearest 33 = .ok (.iconst 0, 1) := by decide +kernel
theorem dX2_eliminateNearest_34 : decode cX2_eliminateNearest 34 = .ok (.istore_n 2, 1) := by decide +kernel
theorem dX2_eliminateNearest_35 : decode cX2_eliminateNearest 35 = .ok (.iload_n 2, 1) := by decide +kernel
theorem dX2_eliminateNearest_36 : decode cX2_eliminateNearest 36 = .ok (.aload_n 0, 1) := by decide +kernel
theorem dX2_eliminateNearest_37 : decode cX2_eliminateNearest 37 = .ok (.getfield 18, 3) := by decide +kernel
theorem dX2_eliminateNearest_40 : decode cX2_eliminateNearest 40 = .ok (.if_icmp .gt 94, 3) := by decide +kernel
theorem dX2_eliminateNearest_43 : decode cX2_eliminateNearest 43 = .ok (.iconst 0, 1) := by decide +kernel
theorem dX2_eliminateNearest_44 : decode cX2_eliminateNearest 44 = .ok (.istore_n 3, 1) := by decide +kernel
theorem dX2_eliminateNearest_45 : decode cX2_eliminateNearest 45 = .ok (.iload_n 3, 1) := by decide +kernel
theorem dX2_eliminateNearest_46 : decode cX2_eliminateNearest 46 = .ok (.aload_n 0, 1) := by decide +kernel
theorem dX2_eliminateNearest_47 : decode cX2_eliminateNearest 47 = .ok (.getfield 18, 3) := by decide +kernel
theorem dX2_eliminateNearest_50 : decode cX2_eliminateNearest 50 = .ok (.if_icmp .ge 26, 3) := by decide +kernel
theorem dX2_eliminateNearest_53 : decode cX2_eliminateNearest 53 = .ok (.aload_n 0, 1) := by decide +kernel
theorem dX2_eliminateNearest_54 : decode cX2_eliminateNearest 54 = .ok (.getfield 30, 3) := by decide +kernel
theorem dX2_eliminateNearest_57 : decode cX2_eliminateNearest 57 = .ok (.getfield 140, 3) := by decide +kernel
theorem dX2_eliminateNearest_60 : decode cX2_eliminateNearest 60 = .ok (.iload_n 2, 1) := by decide +kernel
theorem dX2_eliminateNearest_61 : decode cX2_eliminateNearest 61 = .ok (.aaload, 1) := by decide +kernel
theorem dX2_eliminateNearest_62 : decode cX2_eliminateNearest 62 = .ok (.iload_n 3, 1) := by decide +kernel
theorem dX2_eliminateNearest_63 : decode cX2_eliminateNearest 63 = .ok (.aload_n 0, 1) := by decide +kernel
theorem dX2_eliminateNearest_64 : decode cX2_eliminateNearest 64 = .ok (.iload_n 2, 1) := by decide +kernel
theorem dX2_eliminateNearest_65 : decode cX2_eliminateNearest 65 = .ok (.iload_n 3, 1) := by decide +kernel
theorem dX2_eliminateNearest_66 : decode cX2_eliminateNearest 66 = .ok (.invokevirtual 147, 3) := by decide +kernel
theorem dX2_eliminateNearest_69 : decode cX2_eliminateNearest 69 = .ok (.lastore, 1) := by decide +kernel
theorem dX2_eliminateNearest_70 : decode cX2_eliminateNearest 70 = .ok (.iinc 3 1, 3) := by decide +kernel
theorem dX2_eliminateNearest_73 : decode cX2_eliminateNearest 73 = .ok (.goto (-28), 3) := by decide +kernel
theorem dX2_eliminateNearest_76 : decode cX2_eliminateNearest 76 = .ok (.aload_n 0, 1) := by decide +kernel
theorem dX2_eliminateNearest_77 : decode cX2_eliminateNearest 77 = .ok (.getfield 30, 3) := by decide +kernel
theorem dX2_eliminateNearest_80 : decode cX2_eliminateNearest 80 = .ok (.getfield 140, 3) := by decide +kernel
theorem dX2_eliminateNearest_83 : decode cX2_eliminateNearest 83 = .ok (.iload_n 2, 1) := by decide +kernel
theorem dX2_eliminateNearest_84 : decode cX2_eliminateNearest 84 = .ok (.aaload, 1) := by decide +kernel
theorem dX2_eliminateNearest_85 : decode cX2_eliminateNearest 85 = .ok (.aload_n 0, 1) := by decide +kernel
theorem dX2_eliminateNearest_86 : decode cX2_eliminateNearest 86 = .ok (.getfield 18, 3) := by decide +kernel
theorem dX2_eliminateNearest_89 : decode cX2_eliminateNearest 89 = .ok (.iload_n 2, 1) := by decide +kernel
theorem dX2_eliminateNearest_90 : decode cX2_eliminateNearest 90 = .ok (.aload_n 0, 1) := by decide +kernel
theorem dX2_eliminateNearest_91 : decode cX2_eliminateNearest 91 = .ok (.getfield 18, 3) := by decide +kernel
theorem dX2_eliminateNearest_94 : decode cX2_eliminateNearest 94 = .ok (.if_icmp .ne 7, 3) := by decide +kernel
theorem dX2_eliminateNearest_97 : decode cX2_eliminateNearest 97 = .ok (.lconst 1, 1) := by decide +kernel
theorem dX2_eliminateNearest_98 : decode cX2_eliminateNearest 98 = .ok (.goto 4, 3) := by decide +kernel
theorem dX2_eliminateNearest_101 : decode cX2_eliminateNearest 101 = .ok (.lconst 0, 1) := by decide +kernel
theorem dX2_eliminateNearest_102 : decode cX2_eliminateNearest 102 = .ok (.lastore, 1) := by decide +kernel
theorem dX2_eliminateNearest_103 : decode cX2_eliminateNearest 103 = .ok (.aload_n 0, 1) := by decide +kernel
theorem dX2_eliminateNearest_104 : decode cX2_eliminateNearest 104 = .ok (.getfield 30, 3) := by decide +kernel
theorem dX2_eliminateNearest_107 : decode cX2_eliminateNearest 107 = .ok (.getfield 140, 3) := by decide +kernel
theorem dX2_eliminateNearest_110 : decode cX2_eliminateNearest 110 = .ok (.iload_n 2, 1) := by decide +kernel
theorem dX2_eliminateNearest_111 : decode cX2_eliminateNearest 111 = .ok (.aaload, 1) := by decide +kernel
theorem dX2_eliminateNearest_112 : decode cX2_eliminateNearest 112 = .ok (.aload_n 0, 1) := by decide +kernel
theorem dX2_eliminateNearest_113 : decode cX2_eliminateNearest 113 = .ok (.getfield 18, 3) := by decide +kernel
theorem dX2_eliminateNearest_116 : decode cX2_eliminateNearest 116 = .ok (.iconst 1, 1) := by decide +kernel
theorem dX2_eliminateNearest_117 : decode cX2_eliminateNearest 117 = .ok (.iadd, 1) := by decide +kernel
theorem dX2_eliminateNearest_118 : decode cX2_eliminateNearest 118 = .ok (.aload_n 0, 1) := by decide +kernel
theorem dX2_eliminateNearest_119 : decode cX2_eliminateNearest 119 = .ok (.iload_n 2, 1) := by decide +kernel
theorem dX2_eliminateNearest_120 : decode cX2_eliminateNearest 120 = .ok (.aload_n 0, 1) := by decide +kernel
theorem dX2_eliminateNearest_121 : decode cX2_eliminateNearest 121 = .ok (.getfield 18, 3) := by decide +kernel
theorem dX2_eliminateNearest_124 : decode cX2_eliminateNearest 124 = .ok (.invokevirtual 147, 3) := by decide +kernel
theorem dX2_eliminateNearest_127 : decode cX2_eliminateNearest 127 = .ok (.lastore, 1) := by decide +kernel
theorem dX2_eliminateNearest_128 : decode cX2_eliminateNearest 128 = .ok (.iinc 2 1, 3) := by decide +kernel
theorem dX2_eliminateNearest_131 : decode cX2_eliminateNearest 131 = .ok (.goto (-96), 3) := by decide +kernel
theorem dX2_eliminateNearest_134 : decode cX2_eliminateNearest 134 = .ok (.iconst 0, 1) := by decide +kernel
theorem dX2_eliminateNearest_135 : decode cX2_eliminateNearest 135 = .ok (.istore_n 2, 1) := by decide +kernel
theorem dX2_eliminateNearest_136 : decode cX2_eliminateNearest 136 = .ok (.iload_n 2, 1) := by decide +kernel
theorem dX2_eliminateNearest_137 : decode cX2_eliminateNearest 137 = .ok (.iload_n 1, 1) := by decide +kernel
theorem dX2_eliminateNearest_138 : decode cX2_eliminateNearest 138 = .ok (.if_icmp .ge 52, 3) := by decide +kernel
theorem dX2_eliminateNearest_141 : decode cX2_eliminateNearest 141 = .ok (.iconst 0, 1) := by decide +kernel
theorem dX2_eliminateNearest_142 : decode cX2_eliminateNearest 142 = .ok (.istore_n 3, 1) := by decide +kernel
theorem dX2_eliminateNearest_143 : decode cX2_eliminateNearest 143 = .ok (.iload_n 3, 1) := by decide +kernel
theorem dX2_eliminateNearest_144 : decode cX2_eliminateNearest 144 = .ok (.aload_n 0, 1) := by decide +kernel
theorem dX2_eliminateNearest_145 : decode cX2_eliminateNearest 145 = .ok (.getfield 18, 3) := by decide +kernel
theorem dX2_eliminateNearest_148 : decode cX2_eliminateNearest 148 = .ok (.if_icmp .ge 36, 3) := by decide +kernel
theorem dX2_eliminateNearest_151 : decode cX2_eliminateNearest 151 = .ok (.aload_n 0, 1) := by decide +kernel
theorem dX2_eliminateNearest_152 : decode cX2_eliminateNearest 152 = .ok (.getfield 30, 3) := by decide +kernel
theorem dX2_eliminateNearest_155 : decode cX2_eliminateNearest 155 = .ok (.getfield 140, 3) := by decide +kernel
theorem dX2_eliminateNearest_158 : decode cX2_eliminateNearest 158 = .ok (.aload_n 0, 1) := by decide +kernel
theorem dX2_eliminateNearest_159 : decode cX2_eliminateNearest 159 = .ok (.getfield 18, 3) := by decide +kernel
theorem dX2_eliminateNearest_162 : decode cX2_eliminateNearest 162 = .ok (.iconst 1, 1) := by decide +kernel
theorem dX2_eliminateNearest_163 : decode cX2_eliminateNearest 163 = .ok (.iadd, 1) := by decide +kernel
theorem dX2_eliminateNearest_164 : decode cX2_eliminateNearest 164 = .ok (.iload_n 2, 1) := by decide +kernel
theorem dX2_eliminateNearest_165 : decode cX2_eliminateNearest 165 = .ok (.iadd, 1) := by decide +kernel
theorem dX2_eliminateNearest_166 : decode cX2_eliminateNearest 166 = .ok (.aaload, 1) := by decide +kernel
theorem dX2_eliminateNearest_167 : decode cX2_eliminateNearest 167 = .ok (.iload_n 3, 1) := by decide +kernel
theorem dX2_eliminateNearest_168 : decode cX2_eliminateNearest 168 = .ok (.aload_n 0, 1) := by decide +kernel
end
section
/-! decode rows of X2 -/
theorem dX2_eliminateNearest_169 : decode cX2_eliminateNearest 169 = .ok (.getfield 37, 3) := by decide +kernel
theorem dX2_eliminateNearest_172 : decode cX2_eliminateNearest 172 = .ok (.iload_n 2, 1) := by decide +kernel
theorem dX2_eliminateNearest_173 : decode cX2_eliminateNearest 173 = .ok (.iload_n 3, 1) := by decide +kernel
theorem dX2_eliminateNearest_174 : decode cX2_eliminateNearest 174 = .ok (.invokevirtual 114, 3) := by decide +kernel
theorem dX2_eliminateNearest_177 : decode cX2_eliminateNearest 177 = .ok (.lastore, 1) := by decide +kernel
theorem dX2_eliminateNearest_178 : decode cX2_eliminateNearest 178 = .ok (.iinc 3 1, 3) := by decide +kernel
theorem dX2_eliminateNearest_181 : decode cX2_eliminateNearest 181 = .ok (.goto (-38), 3) := by decide +kernel
theorem dX2_eliminateNearest_184 : decode cX2_eliminateNearest 184 = .ok (.iinc 2 1, 3) := by decide +kernel
theorem dX2_eliminateNearest_187 : decode cX2_eliminateNearest 187 = .ok (.goto (-51), 3) := by decide +kernel
theorem dX2_eliminateNearest_190 : decode cX2_eliminateNearest 190 = .ok (.aload_n 0, 1) := by decide +kernel
theorem dX2_eliminateNearest_191 : decode cX2_eliminateNearest 191 = .ok (.getfield 30, 3) := by decide +kernel
theorem dX2_eliminateNearest_194 : decode cX2_eliminateNearest 194 = .ok (.invokevirtual 144, 3) := by decide +kernel
theorem dX2_eliminateNearest_197 : decode cX2_eliminateNearest 197 = .ok (.return_, 1) := by decide +kernel
theorem dX2_columnProduct_0 : decode cX2_columnProduct 0 = .ok (.lconst 0, 1) := by decide +kernel
theorem dX2_columnProduct_1 : decode cX2_columnProduct 1 = .ok (.lstore_n 3, 1) := by decide +kernel
theorem dX2_columnProduct_2 : decode cX2_columnProduct 2 = .ok (.iconst 0, 1) := by decide +kernel
theorem dX2_columnProduct_3 : decode cX2_columnProduct 3 = .ok (.istore 5, 2) := by decide +kernel
theorem dX2_columnProduct_5 : decode cX2_columnProduct 5 = .ok (.iload 5, 2) := by decide +kernel
theorem dX2_columnProduct_7 : decode cX2_columnProduct 7 = .ok (.aload_n 0, 1) := by decide +kernel
theorem dX2_columnProduct_8 : decode cX2_columnProduct 8 = .ok (.getfield 41, 3) := by decide +kernel
theorem dX2_columnProduct_11 : decode cX2_columnProduct 11 = .ok (.if_icmp .ge 32, 3) := by decide +kernel
theorem dX2_columnProduct_14 : decode cX2_columnProduct 14 = .ok (.lload_n 3, 1) := by decide +kernel
theorem dX2_columnProduct_15 : decode cX2_columnProduct 15 = .ok (.aload_n 0, 1) := by decide +kernel
theorem dX2_columnProduct_16 : decode cX2_columnProduct 16 = .ok (.getfield 24, 3) := by decide +kernel
theorem dX2_columnProduct_19 : decode cX2_columnProduct 19 = .ok (.iload 5, 2) := by decide +kernel
theorem dX2_columnProduct_21 : decode cX2_columnProduct 21 = .ok (.aaload, 1) := by decide +kernel
theorem dX2_columnProduct_22 : decode cX2_columnProduct 22 = .ok (.iload_n 1, 1) := by decide +kernel
theorem dX2_columnProduct_23 : decode cX2_columnProduct 23 = .ok (.iaload, 1) := by decide +kernel
theorem dX2_columnProduct_24 : decode cX2_columnProduct 24 = .ok (.aload_n 0, 1) := by decide +kernel
theorem dX2_columnProduct_25 : decode cX2_columnProduct 25 = .ok (.getfield 24, 3) := by decide +kernel
theorem dX2_columnProduct_28 : decode cX2_columnProduct 28 = .ok (.iload 5, 2) := by decide +kernel
theorem dX2_columnProduct_30 : decode cX2_columnProduct 30 = .ok (.aaload, 1) := by decide +kernel
theorem dX2_columnProduct_31 : decode cX2_columnProduct 31 = .ok (.iload_n 2, 1) := by decide +kernel
theorem dX2_columnProduct_32 : decode cX2_columnProduct 32 = .ok (.iaload, 1) := by decide +kernel
theorem dX2_columnProduct_33 : decode cX2_columnProduct 33 = .ok (.imul, 1) := by decide +kernel
theorem dX2_columnProduct_34 : decode cX2_columnProduct 34 = .ok (.i2l, 1) := by decide +kernel
theorem dX2_columnProduct_35 : decode cX2_columnProduct 35 = .ok (.ladd, 1) := by decide +kernel
theorem dX2_columnProduct_36 : decode cX2_columnProduct 36 = .ok (.lstore_n 3, 1) := by decide +kernel
theorem dX2_columnProduct_37 : decode cX2_columnProduct 37 = .ok (.iinc 5 1, 3) := by decide +kernel
theorem dX2_columnProduct_40 : decode cX2_columnProduct 40 = .ok (.goto (-35), 3) := by decide +kernel
theorem dX2_columnProduct_43 : decode cX2_columnProduct 43 = .ok (.lload_n 3, 1) := by decide +kernel
theorem dX2_columnProduct_44 : decode cX2_columnProduct 44 = .ok (.lreturn, 1) := by decide +kernel
theorem dX2_spanLattice_0 : decode cX2_spanLattice 0 = .ok (.aload_n 0, 1) := by decide +kernel
theorem dX2_spanLattice_1 : decode cX2_spanLattice 1 = .ok (.getfield 37, 3) := by decide +kernel
theorem dX2_spanLattice_4 : decode cX2_spanLattice 4 = .ok (.aload_n 0, 1) := by decide +kernel
theorem dX2_spanLattice_5 : decode cX2_spanLattice 5 = .ok (.getfield 18, 3) := by decide +kernel
theorem dX2_spanLattice_8 : decode cX2_spanLattice 8 = .ok (.invokevirtual 150, 3) := by decide +kernel
theorem dX2_spanLattice_11 : decode cX2_spanLattice 11 = .ok (.iconst 0, 1) := by decide +kernel
theorem dX2_spanLattice_12 : decode cX2_spanLattice 12 = .ok (.istore_n 1, 1) := by decide +kernel
theorem dX2_spanLattice_13 : decode cX2_spanLattice 13 = .ok (.iload_n 1, 1) := by decide +kernel
theorem dX2_spanLattice_14 : decode cX2_spanLattice 14 = .ok (.aload_n 0, 1) := by decide +kernel
theorem dX2_spanLattice_15 : decode cX2_spanLattice 15 = .ok (.getfield 41, 3) := by decide +kernel
theorem dX2_spanLattice_18 : decode cX2_spanLattice 18 = .ok (.if_icmp .ge 67, 3) := by decide +kernel
theorem dX2_spanLattice_21 : decode cX2_spanLattice 21 = .ok (.iconst 0, 1) := by decide +kernel
theorem dX2_spanLattice_22 : decode cX2_spanLattice 22 = .ok (.istore_n 2, 1) := by decide +kernel
theorem dX2_spanLattice_23 : decode cX2_spanLattice 23 = .ok (.iload_n 2, 1) := by decide +kernel
theorem dX2_spanLattice_24 : decode cX2_spanLattice 24 = .ok (.aload_n 0, 1) := by decide +kernel
theorem dX2_spanLattice_25 : decode cX2_spanLattice 25 = .ok (.getfield 18, 3) := by decide +kernel
theorem dX2_spanLattice_28 : decode cX2_spanLattice 28 = .ok (.if_icmp .ge 29, 3) := by decide +kernel
theorem dX2_spanLattice_31 : decode cX2_spanLattice 31 = .ok (.aload_n 0, 1) := by decide +kernel
theorem dX2_spanLattice_32 : decode cX2_spanLattice 32 = .ok (.getfield 37, 3) := by decide +kernel
theorem dX2_spanLattice_35 : decode cX2_spanLattice 35 = .ok (.getfield 153, 3) := by decide +kernel
theorem dX2_spanLattice_38 : decode cX2_spanLattice 38 = .ok (.iload_n 2, 1) := by decide +kernel
theorem dX2_spanLattice_39 : decode cX2_spanLattice 39 = .ok (.aaload, 1) := by decide +kernel
theorem dX2_spanLattice_40 : decode cX2_spanLattice 40 = .ok (.iload_n 1, 1) := by decide +kernel
theorem dX2_spanLattice_41 : decode cX2_spanLattice 41 = .ok (.aload_n 0, 1) := by decide +kernel
theorem dX2_spanLattice_42 : decode cX2_spanLattice 42 = .ok (.getfield 24, 3) := by decide +kernel
theorem dX2_spanLattice_45 : decode cX2_spanLattice 45 = .ok (.iload_n 1, 1) := by decide +kernel
theorem dX2_spanLattice_46 : decode cX2_spanLattice 46 = .ok (.aaload, 1) := by decide +kernel
theorem dX2_spanLattice_47 : decode cX2_spanLattice 47 = .ok (.iload_n 2, 1) := by decide +kernel
theorem dX2_spanLattice_48 : decode cX2_spanLattice 48 = .ok (.iaload, 1) := by decide +kernel
theorem dX2_spanLattice_49 : decode cX2_spanLattice 49 = .ok (.i2l, 1) := by decide +kernel
theorem dX2_spanLattice_50 : decode cX2_spanLattice 50 = .ok (.lastore, 1) := by decide +kernel
theorem dX2_spanLattice_51 : decode cX2_spanLattice 51 = .ok (.iinc 2 1, 3) := by decide +kernel
theorem dX2_spanLattice_54 : decode cX2_spanLattice 54 = .ok (.goto (-31), 3) := by decide +kernel
theorem dX2_spanLattice_57 : decode cX2_spanLattice 57 = .ok (.aload_n 0, 1) := by decide +kernel
theorem dX2_spanLattice_58 : decode cX2_spanLattice 58 = .ok (.getfield 37, 3) := by decide +kernel
theorem dX2_spanLattice_61 : decode cX2_spanLattice 61 = .ok (.getfield 119, 3) := by decide +kernel
theorem dX2_spanLattice_64 : decode cX2_spanLattice 64 = .ok (.iload_n 1, 1) := by decide +kernel
theorem dX2_spanLattice_65 : decode cX2_spanLattice 65 = .ok (.aload_n 0, 1) := by decide +kernel
theorem dX2_spanLattice_66 : decode cX2_spanLattice 66 = .ok (.getfield 24, 3) := by decide +kernel
theorem dX2_spanLattice_69 : decode cX2_spanLattice 69 = .ok (.iload_n 1, 1) := by decide +kernel
theorem dX2_spanLattice_70 : decode cX2_spanLattice 70 = .ok (.aaload, 1) := by decide +kernel
theorem dX2_spanLattice_71 : decode cX2_spanLattice 71 = .ok (.aload_n 0, 1) := by decide +kernel
theorem dX2_spanLattice_72 : decode cX2_spanLattice 72 = .ok (.getfield 18, 3) := by decide +kernel
theorem dX2_spanLattice_75 : decode cX2_spanLattice 75 = .ok (.iaload, 1) := by decide +kernel
theorem dX2_spanLattice_76 : decode cX2_spanLattice 76 = .ok (.ineg, 1) := by decide +kernel
theorem dX2_spanLattice_77 : decode cX2_spanLattice 77 = .ok (.i2l, 1) := by decide +kernel
theorem dX2_spanLattice_78 : decode cX2_spanLattice 78 = .ok (.lastore, 1) := by decide +kernel
theorem dX2_spanLattice_79 : decode cX2_spanLattice 79 = .ok (.iinc 1 1, 3) := by decide +kernel
theorem dX2_spanLattice_82 : decode cX2_spanLattice 82 = .ok (.goto (-69), 3) := by decide +kernel
theorem dX2_spanLattice_85 : decode cX2_spanLattice 85 = .ok (.aload_n 0, 1) := by decide +kernel
theorem dX2_spanLattice_86 : decode cX2_spanLattice 86 = .ok (.getfield 37, 3) := by decide +kernel
theorem dX2_spanLattice_89 : decode cX2_spanLattice 89 = .ok (.invokevirtual 154, 3) := by decide +kernel
theorem dX2_spanLattice_92 : decode cX2_spanLattice 92 = .ok (.return_, 1) := by decide +kernel
theorem dX2_commonDivisor_0 : decode cX2_commonDivisor 0 = .ok (.lload_n 0, 1) := by decide +kernel
theorem dX2_commonDivisor_1 : decode cX2_commonDivisor 1 = .ok (.invokestatic 157, 3) := by decide +kernel
theorem dX2_commonDivisor_4 : decode cX2_commonDivisor 4 = .ok (.lstore 4, 2) := by decide +kernel
theorem dX2_commonDivisor_6 : decode cX2_commonDivisor 6 = .ok (.lload_n 2, 1) := by decide +kernel
theorem dX2_commonDivisor_7 : decode cX2_commonDivisor 7 = .ok (.invokestatic 157, 3) := by decide +kernel
theorem dX2_commonDivisor_10 : decode cX2_commonDivisor 10 = .ok (.lstore 6, 2) := by decide +kernel
theorem dX2_commonDivisor_12 : decode cX2_commonDivisor 12 = .ok (.iconst 0, 1) := by decide +kernel
theorem dX2_commonDivisor_13 : decode cX2_commonDivisor 13 = .ok (.istore 8, 2) := by decide +kernel
theorem dX2_commonDivisor_15 : decode cX2_commonDivisor 15 = .ok (.iload 8, 2) := by decide +kernel
theorem dX2_commonDivisor_17 : decode cX2_commonDivisor 17 = .ok (.bipush 100, 2) := by decide +kernel
theorem dX2_commonDivisor_19 : decode cX2_commonDivisor 19 = .ok (.if_icmp .ge 31, 3) := by decide +kernel
theorem dX2_commonDivisor_22 : decode cX2_commonDivisor 22 = .ok (.lload 6, 2) := by decide +kernel
theorem dX2_commonDivisor_24 : decode cX2_commonDivisor 24 = .ok (.lconst 0, 1) := by decide +kernel
theorem dX2_commonDivisor_25 : decode cX2_commonDivisor 25 = .ok (.lcmp, 1) := by decide +kernel
theorem dX2_commonDivisor_26 : decode cX2_commonDivisor 26 = .ok (.ifCond .eq 24, 3) := by decide +kernel
theorem dX2_commonDivisor_29 : decode cX2_commonDivisor 29 = .ok (.lload 4, 2) := by decide +kernel
theorem dX2_commonDivisor_31 : decode cX2_commonDivisor 31 = .ok (.lload 6, 2) := by decide +kernel
theorem dX2_commonDivisor_33 : decode cX2_commonDivisor 33 = .ok (.lrem, 1) := by decide +kernel
theorem dX2_commonDivisor_34 : decode cX2_commonDivisor 34 = .ok (.lstore 9, 2) := by decide +kernel
theorem dX2_commonDivisor_36 : decode cX2_commonDivisor 36 = .ok (.lload 6, 2) := by decide +kernel
theorem dX2_commonDivisor_38 : decode cX2_commonDivisor 38 = .ok (.lstore 4, 2) := by decide +kernel
theorem dX2_commonDivisor_40 : decode cX2_commonDivisor 40 = .ok (.lload 9, 2) := by decide +kernel
theorem dX2_commonDivisor_42 : decode cX2_commonDivisor 42 = .ok (.lstore 6, 2) := by decide +kernel
theorem dX2_commonDivisor_44 : decode cX2_commonDivisor 44 = .ok (.iinc 8 1, 3) := by decide +kernel
theorem dX2_commonDivisor_47 : decode cX2_commonDivisor 47 = .ok (.goto (-32), 3) := by decide +kernel
theorem dX2_commonDivisor_50 : decode cX2_commonDivisor 50 = .ok (.lload 4, 2) := by decide +kernel
theorem dX2_commonDivisor_52 : decode cX2_commonDivisor 52 = .ok (.lreturn, 1) := by decide +kernel
theorem dX2_lowestPart_0 : decode cX2_lowestPart 0 = .ok (.iload 4, 2) := by decide +kernel
theorem dX2_lowestPart_2 : decode cX2_lowestPart 2 = .ok (.ifCond .ne 7, 3) := by decide +kernel
theorem dX2_lowestPart_5 : decode cX2_lowestPart 5 = .ok (.lload_n 0, 1) := by decide +kernel
theorem dX2_lowestPart_6 : decode cX2_lowestPart 6 = .ok (.goto 4, 3) := by decide +kernel
theorem dX2_lowestPart_9 : decode cX2_lowestPart 9 = .ok (.lload_n 2, 1) := by decide +kernel
theorem dX2_lowestPart_10 : decode cX2_lowestPart 10 = .ok (.lstore 5, 2) := by decide +kernel
theorem dX2_lowestPart_12 : decode cX2_lowestPart 12 = .ok (.lload_n 0, 1) := by decide +kernel
theorem dX2_lowestPart_13 : decode cX2_lowestPart 13 = .ok (.lload_n 2, 1) := by decide +kernel
theorem dX2_lowestPart_14 : decode cX2_lowestPart 14 = .ok (.invokestatic 161, 3) := by decide +kernel
theorem dX2_lowestPart_17 : decode cX2_lowestPart 17 = .ok (.lstore 7, 2) := by decide +kernel
theorem dX2_lowestPart_19 : decode cX2_lowestPart 19 = .ok (.lload 7, 2) := by decide +kernel
theorem dX2_lowestPart_21 : decode cX2_lowestPart 21 = .ok (.lconst 1, 1) := by decide +kernel
theorem dX2_lowestPart_22 : decode cX2_lowestPart 22 = .ok (.lcmp, 1) := by decide +kernel
theorem dX2_lowestPart_23 : decode cX2_lowestPart 23 = .ok (.ifCond .le 11, 3) := by decide +kernel
theorem dX2_lowestPart_26 : decode cX2_lowestPart 26 = .ok (.lload 5, 2) := by decide +kernel
theorem dX2_lowestPart_28 : decode cX2_lowestPart 28 = .ok (.lload 7, 2) := by decide +kernel
theorem dX2_lowestPart_30 : decode cX2_lowestPart 30 = .ok (.ldiv, 1) := by decide +kernel
theorem dX2_lowestPart_31 : decode cX2_lowestPart 31 = .ok (.goto 5, 3) := by decide +kernel
theorem dX2_lowestPart_34 : decode cX2_lowestPart 34 = .ok (.lload 5, 2) := by decide +kernel
theorem dX2_lowestPart_36 : decode cX2_lowestPart 36 = .ok (.lreturn, 1) := by decide +kernel
end
section
/-! decode rows of X3 -/
theorem dX3_init_0 : decode cX3_init 0 = .ok (.aload_n 0, 1) := by decide +kernel
theorem dX3_init_1 : decode cX3_init 1 = .ok (.invokespecial 1, 3) := by decide +kernel
theorem dX3_init_4 : decode cX3_init 4 = .ok (.aload_n 0, 1) := by decide +kernel
theorem dX3_init_5 : decode cX3_init 5 = .ok (.bipush 12, 2) := by decide +kernel
theorem dX3_init_7 : decode cX3_init 7 = .ok (.newarray .int, 2) := by decide +kernel
theorem dX3_init_9 : decode cX3_init 9 = .ok (.putfield 7, 3) := by decide +kernel
theorem dX3_init_12 : decode cX3_init 12 = .ok (.aload_n 0, 1) := by decide +kernel
theorem dX3_init_13 : decode cX3_init 13 = .ok (.iconst 3, 1) := by decide +kernel
theorem dX3_init_14 : decode cX3_init 14 = .ok (.newarray .int, 2) := by decide +kernel
theorem dX3_init_16 : decode cX3_init 16 = .ok (.putfield 13, 3) := by decide +kernel
theorem dX3_init_19 : decode cX3_init 19 = .ok (.aload_n 0, 1) := by decide +kernel
theorem dX3_init_20 : decode cX3_init 20 = .ok (.iconst 3, 1) := by decide +kernel
theorem dX3_init_21 : decode cX3_init 21 = .ok (.newarray .int, 2) := by decide +kernel
theorem dX3_init_23 : decode cX3_init 23 = .ok (.putfield 16, 3) := by decide +kernel
theorem dX3_init_26 : decode cX3_init 26 = .ok (.aload_n 0, 1) := by decide +kernel
theorem dX3_init_27 : decode cX3_init 27 = .ok (.iconst 3, 1) := by decide +kernel
theorem dX3_init_28 : decode cX3_init 28 = .ok (.newarray .boolean, 2) := by decide +kernel
theorem dX3_init_30 : decode cX3_init 30 = .ok (.putfield 19, 3) := by decide +kernel
theorem dX3_init_33 : decode cX3_init 33 = .ok (.aload_n 0, 1) := by decide +kernel
theorem dX3_init_34 : decode cX3_init 34 = .ok (.bipush 9, 2) := by decide +kernel
theorem dX3_init_36 : decode cX3_init 36 = .ok (.newarray .long, 2) := by decide +kernel
theorem dX3_init_38 : decode cX3_init 38 = .ok (.putfield 23, 3) := by decide +kernel
theorem dX3_init_41 : decode cX3_init 41 = .ok (.aload_n 0, 1) := by decide +kernel
theorem dX3_init_42 : decode cX3_init 42 = .ok (.iconst 3, 1) := by decide +kernel
theorem dX3_init_43 : decode cX3_init 43 = .ok (.newarray .long, 2) := by decide +kernel
theorem dX3_init_45 : decode cX3_init 45 = .ok (.putfield 27, 3) := by decide +kernel
theorem dX3_init_48 : decode cX3_init 48 = .ok (.aload_n 0, 1) := by decide +kernel
theorem dX3_init_49 : decode cX3_init 49 = .ok (.iconst 3, 1) := by decide +kernel
theorem dX3_init_50 : decode cX3_init 50 = .ok (.newarray .long, 2) := by decide +kernel
theorem dX3_init_52 : decode cX3_init 52 = .ok (.putfield 30, 3) := by decide +kernel
theorem dX3_init_55 : decode cX3_init 55 = .ok (.aload_n 0, 1) := by decide +kernel
theorem dX3_init_56 : decode cX3_init 56 = .ok (.iconst 3, 1) := by decide +kernel
theorem dX3_init_57 : decode cX3_init 57 = .ok (.newarray .long, 2) := by decide +kernel
theorem dX3_init_59 : decode cX3_init 59 = .ok (.putfield 33, 3) := by decide +kernel
theorem dX3_init_62 : decode cX3_init 62 = .ok (.aload_n 0, 1) := by decide +kernel
theorem dX3_init_63 : decode cX3_init 63 = .ok (.bipush 9, 2) := by decide +kernel
theorem dX3_init_65 : decode cX3_init 65 = .ok (.newarray .long, 2) := by decide +kernel
theorem dX3_init_67 : decode cX3_init 67 = .ok (.putfield 36, 3) := by decide +kernel
theorem dX3_init_70 : decode cX3_init 70 = .ok (.aload_n 0, 1) := by decide +kernel
theorem dX3_init_71 : decode cX3_init 71 = .ok (.iconst 3, 1) := by decide +kernel
theorem dX3_init_72 : decode cX3_init 72 = .ok (.newarray .int, 2) := by decide +kernel
theorem dX3_init_74 : decode cX3_init 74 = .ok (.putfield 39, 3) := by decide +kernel
theorem dX3_init_77 : decode cX3_init 77 = .ok (.aload_n 0, 1) := by decide +kernel
theorem dX3_init_78 : decode cX3_init 78 = .ok (.iconst 3, 1) := by decide +kernel
theorem dX3_init_79 : decode cX3_init 79 = .ok (.newarray .long, 2) := by decide +kernel
theorem dX3_init_81 : decode cX3_init 81 = .ok (.putfield 42, 3) := by decide +kernel
theorem dX3_init_84 : decode cX3_init 84 = .ok (.aload_n 0, 1) := by decide +kernel
theorem dX3_init_85 : decode cX3_init 85 = .ok (.iconst 3, 1) := by decide +kernel
theorem dX3_init_86 : decode cX3_init 86 = .ok (.newarray .long, 2) := by decide +kernel
theorem dX3_init_88 : decode cX3_init 88 = .ok (.putfield 45, 3) := by decide +kernel
theorem dX3_init_91 : decode cX3_init 91 = .ok (.aload_n 0, 1) := by decide +kernel
theorem dX3_init_92 : decode cX3_init 92 = .ok (.iconst 3, 1) := by decide +kernel
theorem dX3_init_93 : decode cX3_init 93 = .ok (.newarray .long, 2) := by decide +kernel
theorem dX3_init_95 : decode cX3_init 95 = .ok (.putfield 48, 3) := by decide +kernel
theorem dX3_init_98 : decode cX3_init 98 = .ok (.aload_n 0, 1) := by decide +kernel
theorem dX3_init_99 : decode cX3_init 99 = .ok (.bipush 9, 2) := by decide +kernel
theorem dX3_init_101 : decode cX3_init 101 = .ok (.newarray .long, 2) := by decide +kernel
theorem dX3_init_103 : decode cX3_init 103 = .ok (.putfield 51, 3) := by decide +kernel
theorem dX3_init_106 : decode cX3_init 106 = .ok (.aload_n 0, 1) := by decide +kernel
theorem dX3_init_107 : decode cX3_init 107 = .ok (.iload_n 1, 1) := by decide +kernel
theorem dX3_init_108 : decode cX3_init 108 = .ok (.iconst 1, 1) := by decide +kernel
theorem dX3_init_109 : decode cX3_init 109 = .ok (.if_icmp .ge 7, 3) := by decide +kernel
theorem dX3_init_112 : decode cX3_init 112 = .ok (.iconst 1, 1) := by decide +kernel
theorem dX3_init_113 : decode cX3_init 113 = .ok (.goto 13, 3) := by decide +kernel
theorem dX3_init_116 : decode cX3_init 116 = .ok (.iload_n 1, 1) := by decide +kernel
theorem dX3_init_117 : decode cX3_init 117 = .ok (.iconst 3, 1) := by decide +kernel
theorem dX3_init_118 : decode cX3_init 118 = .ok (.if_icmp .le 7, 3) := by decide +kernel
theorem dX3_init_121 : decode cX3_init 121 = .ok (.iconst 3, 1) := by decide +kernel
theorem dX3_init_122 : decode cX3_init 122 = .ok (.goto 4, 3) := by decide +kernel
theorem dX3_init_125 : decode cX3_init 125 = .ok (.iload_n 1, 1) := by decide +kernel
theorem dX3_init_126 : decode cX3_init 126 = .ok (.putfield 54, 3) := by decide +kernel
theorem dX3_init_129 : decode cX3_init 129 = .ok (.return_, 1) := by decide +kernel
theorem dX3_thrown_0 : decode cX3_thrown 0 = .ok (.aload_n 0, 1) := by decide +kernel
theorem dX3_thrown_1 : decode cX3_thrown 1 = .ok (.getfield 58, 3) := by decide +kernel
theorem dX3_thrown_4 : decode cX3_thrown 4 = .ok (.ireturn, 1) := by decide +kernel
theorem dX3_raise_0 : decode cX3_raise 0 = .ok (.aload_n 0, 1) := by decide +kernel
theorem dX3_raise_1 : decode cX3_raise 1 = .ok (.iload_n 1, 1) := by decide +kernel
theorem dX3_raise_2 : decode cX3_raise 2 = .ok (.putfield 58, 3) := by decide +kernel
theorem dX3_raise_5 : decode cX3_raise 5 = .ok (.iconst 0, 1) := by decide +kernel
theorem dX3_raise_6 : decode cX3_raise 6 = .ok (.ireturn, 1) := by decide +kernel
theorem dX3_in_0 : decode cX3_in 0 = .ok (.lload_n 0, 1) := by decide +kernel
theorem dX3_in_1 : decode cX3_in 1 = .ok (.lload_n 2, 1) := by decide +kernel
theorem dX3_in_2 : decode cX3_in 2 = .ok (.lcmp, 1) := by decide +kernel
theorem dX3_in_3 : decode cX3_in 3 = .ok (.ifCond .lt 14, 3) := by decide +kernel
theorem dX3_in_6 : decode cX3_in 6 = .ok (.lload_n 0, 1) := by decide +kernel
theorem dX3_in_7 : decode cX3_in 7 = .ok (.lload 4, 2) := by decide +kernel
theorem dX3_in_9 : decode cX3_in 9 = .ok (.lcmp, 1) := by decide +kernel
theorem dX3_in_10 : decode cX3_in 10 = .ok (.ifCond .gt 7, 3) := by decide +kernel
theorem dX3_in_13 : decode cX3_in 13 = .ok (.iconst 1, 1) := by decide +kernel
theorem dX3_in_14 : decode cX3_in 14 = .ok (.goto 4, 3) := by decide +kernel
theorem dX3_in_17 : decode cX3_in 17 = .ok (.iconst 0, 1) := by decide +kernel
theorem dX3_in_18 : decode cX3_in 18 = .ok (.ireturn, 1) := by decide +kernel
theorem dX3_divisor_0 : decode cX3_divisor 0 = .ok (.lload_n 0, 1) := by decide +kernel
theorem dX3_divisor_1 : decode cX3_divisor 1 = .ok (.lconst 0, 1) := by decide +kernel
theorem dX3_divisor_2 : decode cX3_divisor 2 = .ok (.lcmp, 1) := by decide +kernel
theorem dX3_divisor_3 : decode cX3_divisor 3 = .ok (.ifCond .ge 8, 3) := by decide +kernel
theorem dX3_divisor_6 : decode cX3_divisor 6 = .ok (.lload_n 0, 1) := by decide +kernel
theorem dX3_divisor_7 : decode cX3_divisor 7 = .ok (.lneg, 1) := by decide +kernel
theorem dX3_divisor_8 : decode cX3_divisor 8 = .ok (.goto 4, 3) := by decide +kernel
theorem dX3_divisor_11 : decode cX3_divisor 11 = .ok (.lload_n 0, 1) := by decide +kernel
theorem dX3_divisor_12 : decode cX3_divisor 12 = .ok (.lstore 4, 2) := by decide +kernel
theorem dX3_divisor_14 : decode cX3_divisor 14 = .ok (.lload_n 2, 1) := by decide +kernel
theorem dX3_divisor_15 : decode cX3_divisor 15 = .ok (.lconst 0, 1) := by decide +kernel
theorem dX3_divisor_16 : decode cX3_divisor 16 = .ok (.lcmp, 1) := by decide +kernel
theorem dX3_divisor_17 : decode cX3_divisor 17 = .ok (.ifCond .ge 8, 3) := by decide +kernel
theorem dX3_divisor_20 : decode cX3_divisor 20 = .ok (.lload_n 2, 1) := by decide +kernel
theorem dX3_divisor_21 : decode cX3_divisor 21 = .ok (.lneg, 1) := by decide +kernel
theorem dX3_divisor_22 : decode cX3_divisor 22 = .ok (.goto 4, 3) := by decide +kernel
theorem dX3_divisor_25 : decode cX3_divisor 25 = .ok (.lload_n 2, 1) := by decide +kernel
theorem dX3_divisor_26 : decode cX3_divisor 26 = .ok (.lstore 6, 2) := by decide +kernel
theorem dX3_divisor_28 : decode cX3_divisor 28 = .ok (.lload 6, 2) := by decide +kernel
theorem dX3_divisor_30 : decode cX3_divisor 30 = .ok (.lconst 0, 1) := by decide +kernel
theorem dX3_divisor_31 : decode cX3_divisor 31 = .ok (.lcmp, 1) := by decide +kernel
theorem dX3_divisor_32 : decode cX3_divisor 32 = .ok (.ifCond .eq 21, 3) := by decide +kernel
theorem dX3_divisor_35 : decode cX3_divisor 35 = .ok (.lload 4, 2) := by decide +kernel
theorem dX3_divisor_37 : decode cX3_divisor 37 = .ok (.lload 6, 2) := by decide +kernel
theorem dX3_divisor_39 : decode cX3_divisor 39 = .ok (.lrem, 1) := by decide +kernel
theorem dX3_divisor_40 : decode cX3_divisor 40 = .ok (.lstore 8, 2) := by decide +kernel
theorem dX3_divisor_42 : decode cX3_divisor 42 = .ok (.lload 6, 2) := by decide +kernel
theorem dX3_divisor_44 : decode cX3_divisor 44 = .ok (.lstore 4, 2) := by decide +kernel
theorem dX3_divisor_46 : decode cX3_divisor 46 = .ok (.lload 8, 2) := by decide +kernel
theorem dX3_divisor_48 : decode cX3_divisor 48 = .ok (.lstore 6, 2) := by decide +kernel
theorem dX3_divisor_50 : decode cX3_divisor 50 = .ok (.goto (-22), 3) := by decide +kernel
theorem dX3_divisor_53 : decode cX3_divisor 53 = .ok (.lload 4, 2) := by decide +kernel
theorem dX3_divisor_55 : decode cX3_divisor 55 = .ok (.lreturn, 1) := by decide +kernel
theorem dX3_lowest_0 : decode cX3_lowest 0 = .ok (.lload_n 1, 1) := by decide +kernel
theorem dX3_lowest_1 : decode cX3_lowest 1 = .ok (.lload_n 3, 1) := by decide +kernel
theorem dX3_lowest_2 : decode cX3_lowest 2 = .ok (.invokestatic 61, 3) := by decide +kernel
theorem dX3_lowest_5 : decode cX3_lowest 5 = .ok (.lstore 5, 2) := by decide +kernel
theorem dX3_lowest_7 : decode cX3_lowest 7 = .ok (.aload_n 0, 1) := by decide +kernel
theorem dX3_lowest_8 : decode cX3_lowest 8 = .ok (.lload_n 3, 1) := by decide +kernel
theorem dX3_lowest_9 : decode cX3_lowest 9 = .ok (.lconst 0, 1) := by decide +kernel
theorem dX3_lowest_10 : decode cX3_lowest 10 = .ok (.lcmp, 1) := by decide +kernel
theorem dX3_lowest_11 : decode cX3_lowest 11 = .ok (.ifCond .ge 11, 3) := by decide +kernel
theorem dX3_lowest_14 : decode cX3_lowest 14 = .ok (.lload_n 1, 1) := by decide +kernel
theorem dX3_lowest_15 : decode cX3_lowest 15 = .ok (.lload 5, 2) := by decide +kernel
theorem dX3_lowest_17 : decode cX3_lowest 17 = .ok (.ldiv, 1) := by decide +kernel
theorem dX3_lowest_18 : decode cX3_lowest 18 = .ok (.lneg, 1) := by decide +kernel
theorem dX3_lowest_19 : decode cX3_lowest 19 = .ok (.goto 7, 3) := by decide +kernel
theorem dX3_lowest_22 : decode cX3_lowest 22 = .ok (.lload_n 1, 1) := by decide +kernel
theorem dX3_lowest_23 : decode cX3_lowest 23 = .ok (.lload 5, 2) := by decide +kernel
theorem dX3_lowest_25 : decode cX3_lowest 25 = .ok (.ldiv, 1) := by decide +kernel
theorem dX3_lowest_26 : decode cX3_lowest 26 = .ok (.putfield 65, 3) := by decide +kernel
theorem dX3_lowest_29 : decode cX3_lowest 29 = .ok (.aload_n 0, 1) := by decide +kernel
theorem dX3_lowest_30 : decode cX3_lowest 30 = .ok (.lload_n 3, 1) := by decide +kernel
theorem dX3_lowest_31 : decode cX3_lowest 31 = .ok (.lconst 0, 1) := by decide +kernel
theorem dX3_lowest_32 : decode cX3_lowest 32 = .ok (.lcmp, 1) := by decide +kernel
theorem dX3_lowest_33 : decode cX3_lowest 33 = .ok (.ifCond .ge 11, 3) := by decide +kernel
theorem dX3_lowest_36 : decode cX3_lowest 36 = .ok (.lload_n 3, 1) := by decide +kernel
theorem dX3_lowest_37 : decode cX3_lowest 37 = .ok (.lload 5, 2) := by decide +kernel
theorem dX3_lowest_39 : decode cX3_lowest 39 = .ok (.ldiv, 1) := by decide +kernel
theorem dX3_lowest_40 : decode cX3_lowest 40 = .ok (.lneg, 1) := by decide +kernel
theorem dX3_lowest_41 : decode cX3_lowest 41 = .ok (.goto 7, 3) := by decide +kernel
theorem dX3_lowest_44 : decode cX3_lowest 44 = .ok (.lload_n 3, 1) := by decide +kernel
theorem dX3_lowest_45 : decode cX3_lowest 45 = .ok (.lload 5, 2) := by decide +kernel
theorem dX3_lowest_47 : decode cX3_lowest 47 = .ok (.ldiv, 1) := by decide +kernel
theorem dX3_lowest_48 : decode cX3_lowest 48 = .ok (.putfield 69, 3) := by decide +kernel
theorem dX3_lowest_51 : decode cX3_lowest 51 = .ok (.return_, 1) := by decide +kernel
theorem dX3_told_0 : decode cX3_told 0 = .ok (.iload_n 1, 1) := by decide +kernel
theorem dX3_told_1 : decode cX3_told 1 = .ok (.ifCond .ne 10, 3) := by decide +kernel
theorem dX3_told_4 : decode cX3_told 4 = .ok (.aload_n 0, 1) := by decide +kernel
theorem dX3_told_5 : decode cX3_told 5 = .ok (.getfield 65, 3) := by decide +kernel
theorem dX3_told_8 : decode cX3_told 8 = .ok (.goto 7, 3) := by decide +kernel
theorem dX3_told_11 : decode cX3_told 11 = .ok (.aload_n 0, 1) := by decide +kernel
theorem dX3_told_12 : decode cX3_told 12 = .ok (.getfield 69, 3) := by decide +kernel
theorem dX3_told_15 : decode cX3_told 15 = .ok (.lreturn, 1) := by decide +kernel
theorem dX3_equation_0 : decode cX3_equation 0 = .ok (.aload_n 0, 1) := by decide +kernel
theorem dX3_equation_1 : decode cX3_equation 1 = .ok (.aload_n 0, 1) := by decide +kernel
theorem dX3_equation_2 : decode cX3_equation 2 = .ok (.getfield 72, 3) := by decide +kernel
theorem dX3_equation_5 : decode cX3_equation 5 = .ok (.iconst 3, 1) := by decide +kernel
theorem dX3_equation_6 : decode cX3_equation 6 = .ok (.if_icmp .ne 7, 3) := by decide +kernel
theorem dX3_equation_9 : decode cX3_equation 9 = .ok (.iconst 1, 1) := by decide +kernel
theorem dX3_equation_10 : decode cX3_equation 10 = .ok (.goto 4, 3) := by decide +kernel
theorem dX3_equation_13 : decode cX3_equation 13 = .ok (.iconst 0, 1) := by decide +kernel
theorem dX3_equation_14 : decode cX3_equation 14 = .ok (.putfield 58, 3) := by decide +kernel
theorem dX3_equation_17 : decode cX3_equation 17 = .ok (.aload_n 0, 1) := by decide +kernel
theorem dX3_equation_18 : decode cX3_equation 18 = .ok (.getfield 58, 3) := by decide +kernel
theorem dX3_equation_21 : decode cX3_equation 21 = .ok (.ifCond .le 5, 3) := by decide +kernel
theorem dX3_equation_24 : decode cX3_equation 24 = .ok (.iconst 0, 1) := by decide +kernel
theorem dX3_equation_25 : decode cX3_equation 25 = .ok (.ireturn, 1) := by decide +kernel
theorem dX3_equation_26 : decode cX3_equation 26 = .ok (.iconst 0, 1) := by decide +kernel
theorem dX3_equation_27 : decode cX3_equation 27 = .ok (.istore_n 1, 1) := by decide +kernel
theorem dX3_equation_28 : decode cX3_equation 28 = .ok (.iload_n 1, 1) := by decide +kernel
theorem dX3_equation_29 : decode cX3_equation 29 = .ok (.iconst 4, 1) := by decide +kernel
theorem dX3_equation_30 : decode cX3_equation 30 = .ok (.if_icmp .ge 23, 3) := by decide +kernel
theorem dX3_equation_33 : decode cX3_equation 33 = .ok (.aload_n 0, 1) := by decide +kernel
theorem dX3_equation_34 : decode cX3_equation 34 = .ok (.getfield 7, 3) := by decide +kernel
theorem dX3_equation_37 : decode cX3_equation 37 = .ok (.iconst 4, 1) := by decide +kernel
theorem dX3_equation_38 : decode cX3_equation 38 = .ok (.aload_n 0, 1) := by decide +kernel
theorem dX3_equation_39 : decode cX3_equation 39 = .ok (.getfield 72, 3) := by decide +kernel
theorem dX3_equation_42 : decode cX3_equation 42 = .ok (.imul, 1) := by decide +kernel
theorem dX3_equation_43 : decode cX3_equation 43 = .ok (.iload_n 1, 1) := by decide +kernel
theorem dX3_equation_44 : decode cX3_equation 44 = .ok (.iadd, 1) := by decide +kernel
theorem dX3_equation_45 : decode cX3_equation 45 = .ok (.iconst 0, 1) := by decide +kernel
theorem dX3_equation_46 : decode cX3_equation 46 = .ok (.iastore, 1) := by decide +kernel
theorem dX3_equation_47 : decode cX3_equation 47 = .ok (.iinc 1 1, 3) := by decide +kernel
theorem dX3_equation_50 : decode cX3_equation 50 = .ok (.goto (-22), 3) := by decide +kernel
theorem dX3_equation_53 : decode cX3_equation 53 = .ok (.aload_n 0, 1) := by decide +kernel
theorem dX3_equation_54 : decode cX3_equation 54 = .ok (.dup, 1) := by decide +kernel
theorem dX3_equation_55 : decode cX3_equation 55 = .ok (.getfield 72, 3) := by decide +kernel
theorem dX3_equation_58 : decode cX3_equation 58 = .ok (.iconst 1, 1) := by decide +kernel
theorem dX3_equation_59 : decode cX3_equation 59 = .ok (.iadd, 1) := by decide +kernel
theorem dX3_equation_60 : decode cX3_equation 60 = .ok (.putfield 72, 3) := by decide +kernel
theorem dX3_equation_63 : decode cX3_equation 63 = .ok (.aload_n 0, 1) := by decide +kernel
theorem dX3_equation_64 : decode cX3_equation 64 = .ok (.getfield 72, 3) := by decide +kernel
theorem dX3_equation_67 : decode cX3_equation 67 = .ok (.iconst 1, 1) := by decide +kernel
theorem dX3_equation_68 : decode cX3_equation 68 = .ok (.isub, 1) := by decide +kernel
theorem dX3_equation_69 : decode cX3_equation 69 = .ok (.ireturn, 1) := by decide +kernel
theorem dX3_isPlace_0 : decode cX3_isPlace 0 = .ok (.aload_n 0, 1) := by decide +kernel
theorem dX3_isPlace_1 : decode cX3_isPlace 1 = .ok (.iload_n 1, 1) := by decide +kernel
theorem dX3_isPlace_2 : decode cX3_isPlace 2 = .ok (.i2l, 1) := by decide +kernel
theorem dX3_isPlace_3 : decode cX3_isPlace 3 = .ok (.lconst 0, 1) := by decide +kernel
theorem dX3_isPlace_4 : decode cX3_isPlace 4 = .ok (.aload_n 0, 1) := by decide +kernel
theorem dX3_isPlace_5 : decode cX3_isPlace 5 = .ok (.getfield 72, 3) := by decide +kernel
theorem dX3_isPlace_8 : decode cX3_isPlace 8 = .ok (.iconst 1, 1) := by decide +kernel
theorem dX3_isPlace_9 : decode cX3_isPlace 9 = .ok (.isub, 1) := by decide +kernel
theorem dX3_isPlace_10 : decode cX3_isPlace 10 = .ok (.i2l, 1) := by decide +kernel
theorem dX3_isPlace_11 : decode cX3_isPlace 11 = .ok (.invokestatic 75, 3) := by decide +kernel
theorem dX3_isPlace_14 : decode cX3_isPlace 14 = .ok (.ifCond .eq 21, 3) := by decide +kernel
theorem dX3_isPlace_17 : decode cX3_isPlace 17 = .ok (.iload_n 2, 1) := by decide +kernel
theorem dX3_isPlace_18 : decode cX3_isPlace 18 = .ok (.i2l, 1) := by decide +kernel
theorem dX3_isPlace_19 : decode cX3_isPlace 19 = .ok (.lconst 0, 1) := by decide +kernel
theorem dX3_isPlace_20 : decode cX3_isPlace 20 = .ok (.aload_n 0, 1) := by decide +kernel
theorem dX3_isPlace_21 : decode cX3_isPlace 21 = .ok (.getfield 54, 3) := by decide +kernel
theorem dX3_isPlace_24 : decode cX3_isPlace 24 = .ok (.i2l, 1) := by decide +kernel
theorem dX3_isPlace_25 : decode cX3_isPlace 25 = .ok (.invokestatic 75, 3) := by decide +kernel
theorem dX3_isPlace_28 : decode cX3_isPlace 28 = .ok (.ifCond .eq 7, 3) := by decide +kernel
theorem dX3_isPlace_31 : decode cX3_isPlace 31 = .ok (.iconst 0, 1) := by decide +kernel
theorem dX3_isPlace_32 : decode cX3_isPlace 32 = .ok (.goto 4, 3) := by decide +kernel
theorem dX3_isPlace_35 : decode cX3_isPlace 35 = .ok (.iconst 1, 1) := by decide +kernel
theorem dX3_isPlace_36 : decode cX3_isPlace 36 = .ok (.putfield 58, 3) := by decide +kernel
theorem dX3_isPlace_39 : decode cX3_isPlace 39 = .ok (.aload_n 0, 1) := by decide +kernel
theorem dX3_isPlace_40 : decode cX3_isPlace 40 = .ok (.getfield 58, 3) := by decide +kernel
theorem dX3_isPlace_43 : decode cX3_isPlace 43 = .ok (.ifCond .ne 7, 3) := by decide +kernel
theorem dX3_isPlace_46 : decode cX3_isPlace 46 = .ok (.iconst 1, 1) := by decide +kernel
theorem dX3_isPlace_47 : decode cX3_isPlace 47 = .ok (.goto 4, 3) := by decide +kernel
theorem dX3_isPlace_50 : decode cX3_isPlace 50 = .ok (.iconst 0, 1) := by decide +kernel
theorem dX3_isPlace_51 : decode cX3_isPlace 51 = .ok (.ireturn, 1) := by decide +kernel
theorem dX3_place_0 : decode cX3_place 0 = .ok (.iconst 4, 1) := by decide +kernel
theorem dX3_place_1 : decode cX3_place 1 = .ok (.iload_n 1, 1) := by decide +kernel
theorem dX3_place_2 : decode cX3_place 2 = .ok (.imul, 1) := by decide +kernel
theorem dX3_place_3 : decode cX3_place 3 = .ok (.iload_n 2, 1) := by decide +kernel
theorem dX3_place_4 : decode cX3_place 4 = .ok (.aload_n 0, 1) := by decide +kernel
theorem dX3_place_5 : decode cX3_place 5 = .ok (.getfield 54, 3) := by decide +kernel
theorem dX3_place_8 : decode cX3_place 8 = .ok (.if_icmp .ne 7, 3) := by decide +kernel
theorem dX3_place_11 : decode cX3_place 11 = .ok (.iconst 3, 1) := by decide +kernel
theorem dX3_place_12 : decode cX3_place 12 = .ok (.goto 4, 3) := by decide +kernel
theorem dX3_place_15 : decode cX3_place 15 = .ok (.iload_n 2, 1) := by decide +kernel
theorem dX3_place_16 : decode cX3_place 16 = .ok (.iadd, 1) := by decide +kernel
theorem dX3_place_17 : decode cX3_place 17 = .ok (.ireturn, 1) := by decide +kernel
theorem dX3_put_0 : decode cX3_put 0 = .ok (.aload_n 0, 1) := by decide +kernel
theorem dX3_put_1 : decode cX3_put 1 = .ok (.iload_n 1, 1) := by decide +kernel
theorem dX3_put_2 : decode cX3_put 2 = .ok (.iload_n 2, 1) := by decide +kernel
theorem dX3_put_3 : decode cX3_put 3 = .ok (.invokevirtual 79, 3) := by decide +kernel
theorem dX3_put_6 : decode cX3_put 6 = .ok (.ifCond .ne 5, 3) := by decide +kernel
theorem dX3_put_9 : decode cX3_put 9 = .ok (.iconst 0, 1) := by decide +kernel
theorem dX3_put_10 : decode cX3_put 10 = .ok (.ireturn, 1) := by decide +kernel
theorem dX3_put_11 : decode cX3_put 11 = .ok (.aload_n 0, 1) := by decide +kernel
theorem dX3_put_12 : decode cX3_put 12 = .ok (.iload_n 3, 1) := by decide +kernel
theorem dX3_put_13 : decode cX3_put 13 = .ok (.i2l, 1) := by decide +kernel
theorem dX3_put_14 : decode cX3_put 14 = .ok (.ldc2_w 83, 3) := by decide +kernel
theorem dX3_put_17 : decode cX3_put 17 = .ok (.ldc2_w 85, 3) := by decide +kernel
theorem dX3_put_20 : decode cX3_put 20 = .ok (.invokestatic 75, 3) := by decide +kernel
theorem dX3_put_23 : decode cX3_put 23 = .ok (.ifCond .eq 7, 3) := by decide +kernel
theorem dX3_put_26 : decode cX3_put 26 = .ok (.iconst 0, 1) := by decide +kernel
theorem dX3_put_27 : decode cX3_put 27 = .ok (.goto 4, 3) := by decide +kernel
theorem dX3_put_30 : decode cX3_put 30 = .ok (.iconst 2, 1) := by decide +kernel
theorem dX3_put_31 : decode cX3_put 31 = .ok (.putfield 58, 3) := by decide +kernel
theorem dX3_put_34 : decode cX3_put 34 = .ok (.aload_n 0, 1) := by decide +kernel
theorem dX3_put_35 : decode cX3_put 35 = .ok (.getfield 58, 3) := by decide +kernel
theorem dX3_put_38 : decode cX3_put 38 = .ok (.ifCond .le 5, 3) := by decide +kernel
theorem dX3_put_41 : decode cX3_put 41 = .ok (.iconst 0, 1) := by decide +kernel
theorem dX3_put_42 : decode cX3_put 42 = .ok (.ireturn, 1) := by decide +kernel
theorem dX3_put_43 : decode cX3_put 43 = .ok (.aload_n 0, 1) := by decide +kernel
theorem dX3_put_44 : decode cX3_put 44 = .ok (.getfield 7, 3) := by decide +kernel
theorem dX3_put_47 : decode cX3_put 47 = .ok (.aload_n 0, 1) := by decide +kernel
theorem dX3_put_48 : decode cX3_put 48 = .ok (.iload_n 1, 1) := by decide +kernel
theorem dX3_put_49 : decode cX3_put 49 = .ok (.iload_n 2, 1) := by decide +kernel
theorem dX3_put_50 : decode cX3_put 50 = .ok (.invokevirtual 87, 3) := by decide +kernel
theorem dX3_put_53 : decode cX3_put 53 = .ok (.iaload, 1) := by decide +kernel
theorem dX3_put_54 : decode cX3_put 54 = .ok (.iload_n 3, 1) := by decide +kernel
theorem dX3_put_55 : decode cX3_put 55 = .ok (.if_icmp .eq 7, 3) := by decide +kernel
theorem dX3_put_58 : decode cX3_put 58 = .ok (.iconst 1, 1) := by decide +kernel
theorem dX3_put_59 : decode cX3_put 59 = .ok (.goto 4, 3) := by decide +kernel
theorem dX3_put_62 : decode cX3_put 62 = .ok (.iconst 0, 1) := by decide +kernel
theorem dX3_put_63 : decode cX3_put 63 = .ok (.istore 4, 2) := by decide +kernel
theorem dX3_put_65 : decode cX3_put 65 = .ok (.aload_n 0, 1) := by decide +kernel
theorem dX3_put_66 : decode cX3_put 66 = .ok (.getfield 7, 3) := by decide +kernel
theorem dX3_put_69 : decode cX3_put 69 = .ok (.aload_n 0, 1) := by decide +kernel
theorem dX3_put_70 : decode cX3_put 70 = .ok (.iload_n 1, 1) := by decide +kernel
theorem dX3_put_71 : decode cX3_put 71 = .ok (.iload_n 2, 1) := by decide +kernel
theorem dX3_put_72 : decode cX3_put 72 = .ok (.invokevirtual 87, 3) := by decide +kernel
theorem dX3_put_75 : decode cX3_put 75 = .ok (.iload_n 3, 1) := by decide +kernel
theorem dX3_put_76 : decode cX3_put 76 = .ok (.iastore, 1) := by decide +kernel
theorem dX3_put_77 : decode cX3_put 77 = .ok (.iload 4, 2) := by decide +kernel
theorem dX3_put_79 : decode cX3_put 79 = .ok (.ireturn, 1) := by decide +kernel
theorem dX3_at_0 : decode cX3_at 0 = .ok (.aload_n 0, 1) := by decide +kernel
theorem dX3_at_1 : decode cX3_at 1 = .ok (.iload_n 1, 1) := by decide +kernel
theorem dX3_at_2 : decode cX3_at 2 = .ok (.iload_n 2, 1) := by decide +kernel
theorem dX3_at_3 : decode cX3_at 3 = .ok (.invokevirtual 79, 3) := by decide +kernel
theorem dX3_at_6 : decode cX3_at 6 = .ok (.ifCond .eq 17, 3) := by decide +kernel
theorem dX3_at_9 : decode cX3_at 9 = .ok (.aload_n 0, 1) := by decide +kernel
theorem dX3_at_10 : decode cX3_at 10 = .ok (.getfield 7, 3) := by decide +kernel
theorem dX3_at_13 : decode cX3_at 13 = .ok (.aload_n 0, 1) := by decide +kernel
theorem dX3_at_14 : decode cX3_at 14 = .ok (.iload_n 1, 1) := by decide +kernel
theorem dX3_at_15 : decode cX3_at 15 = .ok (.iload_n 2, 1) := by decide +kernel
theorem dX3_at_16 : decode cX3_at 16 = .ok (.invokevirtual 87, 3) := by decide +kernel
theorem dX3_at_19 : decode cX3_at 19 = .ok (.iaload, 1) := by decide +kernel
theorem dX3_at_20 : decode cX3_at 20 = .ok (.goto 4, 3) := by decide +kernel
theorem dX3_at_23 : decode cX3_at 23 = .ok (.iconst 0, 1) := by decide +kernel
theorem dX3_at_24 : decode cX3_at 24 = .ok (.ireturn, 1) := by decide +kernel
theorem dX3_clear_0 : decode cX3_clear 0 = .ok (.aload_n 0, 1) := by decide +kernel
theorem dX3_clear_1 : decode cX3_clear 1 = .ok (.iconst 0, 1) := by decide +kernel
theorem dX3_clear_2 : decode cX3_clear 2 = .ok (.putfield 58, 3) := by decide +kernel
theorem dX3_clear_5 : decode cX3_clear 5 = .ok (.aload_n 0, 1) := by decide +kernel
theorem dX3_clear_6 : decode cX3_clear 6 = .ok (.iconst 0, 1) := by decide +kernel
theorem dX3_clear_7 : decode cX3_clear 7 = .ok (.putfield 72, 3) := by decide +kernel
theorem dX3_clear_10 : decode cX3_clear 10 = .ok (.return_, 1) := by decide +kernel
theorem dX3_count_0 : decode cX3_count 0 = .ok (.aload_n 0, 1) := by decide +kernel
theorem dX3_count_1 : decode cX3_count 1 = .ok (.iconst 0, 1) := by decide +kernel
theorem dX3_count_2 : decode cX3_count 2 = .ok (.putfield 58, 3) := by decide +kernel
theorem dX3_count_5 : decode cX3_count 5 = .ok (.iload_n 1, 1) := by decide +kernel
theorem dX3_count_6 : decode cX3_count 6 = .ok (.ifCond .ne 10, 3) := by decide +kernel
theorem dX3_count_9 : decode cX3_count 9 = .ok (.aload_n 0, 1) := by decide +kernel
theorem dX3_count_10 : decode cX3_count 10 = .ok (.getfield 72, 3) := by decide +kernel
theorem dX3_count_13 : decode cX3_count 13 = .ok (.goto 16, 3) := by decide +kernel
theorem dX3_count_16 : decode cX3_count 16 = .ok (.iload_n 1, 1) := by decide +kernel
theorem dX3_count_17 : decode cX3_count 17 = .ok (.iconst 1, 1) := by decide +kernel
theorem dX3_count_18 : decode cX3_count 18 = .ok (.if_icmp .ne 10, 3) := by decide +kernel
theorem dX3_count_21 : decode cX3_count 21 = .ok (.aload_n 0, 1) := by decide +kernel
theorem dX3_count_22 : decode cX3_count 22 = .ok (.getfield 54, 3) := by decide +kernel
theorem dX3_count_25 : decode cX3_count 25 = .ok (.goto 4, 3) := by decide +kernel
theorem dX3_count_28 : decode cX3_count 28 = .ok (.iconst (-1), 1) := by decide +kernel
theorem dX3_count_29 : decode cX3_count 29 = .ok (.ireturn, 1) := by decide +kernel
theorem dX3_determinant_0 : decode cX3_determinant 0 = .ok (.aload_n 0, 1) := by decide +kernel
theorem dX3_determinant_1 : decode cX3_determinant 1 = .ok (.getfield 23, 3) := by decide +kernel
theorem dX3_determinant_4 : decode cX3_determinant 4 = .ok (.astore_n 2, 1) := by decide +kernel
theorem dX3_determinant_5 : decode cX3_determinant 5 = .ok (.iload_n 1, 1) := by decide +kernel
theorem dX3_determinant_6 : decode cX3_determinant 6 = .ok (.ifCond .ne 5, 3) := by decide +kernel
theorem dX3_determinant_9 : decode cX3_determinant 9 = .ok (.lconst 1, 1) := by decide +kernel
theorem dX3_determinant_10 : decode cX3_determinant 10 = .ok (.lreturn, 1) := by decide +kernel
theorem dX3_determinant_11 : decode cX3_determinant 11 = .ok (.iload_n 1, 1) := by decide +kernel
theorem dX3_determinant_12 : decode cX3_determinant 12 = .ok (.iconst 1, 1) := by decide +kernel
theorem dX3_determinant_13 : decode cX3_determinant 13 = .ok (.if_icmp .ne 7, 3) := by decide +kernel
theorem dX3_determinant_16 : decode cX3_determinant 16 = .ok (.aload_n 2, 1) := by decide +kernel
theorem dX3_determinant_17 : decode cX3_determinant 17 = .ok (.iconst 0, 1) := by decide +kernel
theorem dX3_determinant_18 : decode cX3_determinant 18 = .ok (.laload, 1) := by decide +kernel
theorem dX3_determinant_19 : decode cX3_determinant 19 = .ok (.lreturn, 1) := by decide +kernel
theorem dX3_determinant_20 : decode cX3_determinant 20 = .ok (.iload_n 1, 1) := by decide +kernel
theorem dX3_determinant_21 : decode cX3_determinant 21 = .ok (.iconst 2, 1) := by decide +kernel
theorem dX3_determinant_22 : decode cX3_determinant 22 = .ok (.if_icmp .ne 19, 3) := by decide +kernel
theorem dX3_determinant_25 : decode cX3_determinant 25 = .ok (.aload_n 2, 1) := by decide +kernel
theorem dX3_determinant_26 : decode cX3_determinant 26 = .ok (.iconst 0, 1) := by decide +kernel
theorem dX3_determinant_27 : decode cX3_determinant 27 = .ok (.laload, 1) := by decide +kernel
theorem dX3_determinant_28 : decode cX3_determinant 28 = .ok (.aload_n 2, 1) := by decide +kernel
theorem dX3_determinant_29 : decode cX3_determinant 29 = .ok (.iconst 4, 1) := by decide +kernel
theorem dX3_determinant_30 : decode cX3_determinant 30 = .ok (.laload, 1) := by decide +kernel
theorem dX3_determinant_31 : decode cX3_determinant 31 = .ok (.lmul, 1) := by decide +kernel
theorem dX3_determinant_32 : decode cX3_determinant 32 = .ok (.aload_n 2, 1) := by decide +kernel
theorem dX3_determinant_33 : decode cX3_determinant 33 = .ok (.iconst 1, 1) := by decide +kernel
theorem dX3_determinant_34 : decode cX3_determinant 34 = .ok (.laload, 1) := by decide +kernel
theorem dX3_determinant_35 : decode cX3_determinant 35 = .ok (.aload_n 2, 1) := by decide +kernel
theorem dX3_determinant_36 : decode cX3_determinant 36 = .ok (.iconst 3, 1) := by decide +kernel
theorem dX3_determinant_37 : decode cX3_determinant 37 = .ok (.laload, 1) := by decide +kernel
theorem dX3_determinant_38 : decode cX3_determinant 38 = .ok (.lmul, 1) := by decide +kernel
theorem dX3_determinant_39 : decode cX3_determinant 39 = .ok (.lsub, 1) := by decide +kernel
theorem dX3_determinant_40 : decode cX3_determinant 40 = .ok (.lreturn, 1) := by decide +kernel
theorem dX3_determinant_41 : decode cX3_determinant 41 = .ok (.aload_n 2, 1) := by decide +kernel
theorem dX3_determinant_42 : decode cX3_determinant 42 = .ok (.iconst 0, 1) := by decide +kernel
theorem dX3_determinant_43 : decode cX3_determinant 43 = .ok (.laload, 1) := by decide +kernel
theorem dX3_determinant_44 : decode cX3_determinant 44 = .ok (.aload_n 2, 1) := by decide +kernel
theorem dX3_determinant_45 : decode cX3_determinant 45 = .ok (.iconst 4, 1) := by decide +kernel
theorem dX3_determinant_46 : decode cX3_determinant 46 = .ok (.laload, 1) := by decide +kernel
theorem dX3_determinant_47 : decode cX3_determinant 47 = .ok (.aload_n 2, 1) := by decide +kernel
theorem dX3_determinant_48 : decode cX3_determinant 48 = .ok (.bipush 8, 2) := by decide +kernel
theorem dX3_determinant_50 : decode cX3_determinant 50 = .ok (.laload, 1) := by decide +kernel
theorem dX3_determinant_51 : decode cX3_determinant 51 = .ok (.lmul, 1) := by decide +kernel
theorem dX3_determinant_52 : decode cX3_determinant 52 = .ok (.aload_n 2, 1) := by decide +kernel
theorem dX3_determinant_53 : decode cX3_determinant 53 = .ok (.iconst 5, 1) := by decide +kernel
theorem dX3_determinant_54 : decode cX3_determinant 54 = .ok (.laload, 1) := by decide +kernel
theorem dX3_determinant_55 : decode cX3_determinant 55 = .ok (.aload_n 2, 1) := by decide +kernel
theorem dX3_determinant_56 : decode cX3_determinant 56 = .ok (.bipush 7, 2) := by decide +kernel
theorem dX3_determinant_58 : decode cX3_determinant 58 = .ok (.laload, 1) := by decide +kernel
theorem dX3_determinant_59 : decode cX3_determinant 59 = .ok (.lmul, 1) := by decide +kernel
theorem dX3_determinant_60 : decode cX3_determinant 60 = .ok (.lsub, 1) := by decide +kernel
theorem dX3_determinant_61 : decode cX3_determinant 61 = .ok (.lmul, 1) := by decide +kernel
theorem dX3_determinant_62 : decode cX3_determinant 62 = .ok (.aload_n 2, 1) := by decide +kernel
theorem dX3_determinant_63 : decode cX3_determinant 63 = .ok (.iconst 1, 1) := by decide +kernel
theorem dX3_determinant_64 : decode cX3_determinant 64 = .ok (.laload, 1) := by decide +kernel
theorem dX3_determinant_65 : decode cX3_determinant 65 = .ok (.aload_n 2, 1) := by decide +kernel
theorem dX3_determinant_66 : decode cX3_determinant 66 = .ok (.iconst 3, 1) := by decide +kernel
theorem dX3_determinant_67 : decode cX3_determinant 67 = .ok (.laload, 1) := by decide +kernel
theorem dX3_determinant_68 : decode cX3_determinant 68 = .ok (.aload_n 2, 1) := by decide +kernel
theorem dX3_determinant_69 : decode cX3_determinant 69 = .ok (.bipush 8, 2) := by decide +kernel
theorem dX3_determinant_71 : decode cX3_determinant 71 = .ok (.laload, 1) := by decide +kernel
theorem dX3_determinant_72 : decode cX3_determinant 72 = .ok (.lmul, 1) := by decide +kernel
theorem dX3_determinant_73 : decode cX3_determinant 73 = .ok (.aload_n 2, 1) := by decide +kernel
theorem dX3_determinant_74 : decode cX3_determinant 74 = .ok (.iconst 5, 1) := by decide +kernel
theorem dX3_determinant_75 : decode cX3_determinant 75 = .ok (.laload, 1) := by decide +kernel
theorem dX3_determinant_76 : decode cX3_determinant 76 = .ok (.aload_n 2, 1) := by decide +kernel
theorem dX3_determinant_77 : decode cX3_determinant 77 = .ok (.bipush 6, 2) := by decide +kernel
theorem dX3_determinant_79 : decode cX3_determinant 79 = .ok (.laload, 1) := by decide +kernel
theorem dX3_determinant_80 : decode cX3_determinant 80 = .ok (.lmul, 1) := by decide +kernel
theorem dX3_determinant_81 : decode cX3_determinant 81 = .ok (.lsub, 1) := by decide +kernel
theorem dX3_determinant_82 : decode cX3_determinant 82 = .ok (.lmul, 1) := by decide +kernel
theorem dX3_determinant_83 : decode cX3_determinant 83 = .ok (.lsub, 1) := by decide +kernel
theorem dX3_determinant_84 : decode cX3_determinant 84 = .ok (.aload_n 2, 1) := by decide +kernel
theorem dX3_determinant_85 : decode cX3_determinant 85 = .ok (.iconst 2, 1) := by decide +kernel
theorem dX3_determinant_86 : decode cX3_determinant 86 = .ok (.laload, 1) := by decide +kernel
theorem dX3_determinant_87 : decode cX3_determinant 87 = .ok (.aload_n 2, 1) := by decide +kernel
theorem dX3_determinant_88 : decode cX3_determinant 88 = .ok (.iconst 3, 1) := by decide +kernel
theorem dX3_determinant_89 : decode cX3_determinant 89 = .ok (.laload, 1) := by decide +kernel
theorem dX3_determinant_90 : decode cX3_determinant 90 = .ok (.aload_n 2, 1) := by decide +kernel
theorem dX3_determinant_91 : decode cX3_determinant 91 = .ok (.bipush 7, 2) := by decide +kernel
theorem dX3_determinant_93 : decode cX3_determinant 93 = .ok (.laload, 1) := by decide +kernel
theorem dX3_determinant_94 : decode cX3_determinant 94 = .ok (.lmul, 1) := by decide +kernel
theorem dX3_determinant_95 : decode cX3_determinant 95 = .ok (.aload_n 2, 1) := by decide +kernel
theorem dX3_determinant_96 : decode cX3_determinant 96 = .ok (.iconst 4, 1) := by decide +kernel
theorem dX3_determinant_97 : decode cX3_determinant 97 = .ok (.laload, 1) := by decide +kernel
theorem dX3_determinant_98 : decode cX3_determinant 98 = .ok (.aload_n 2, 1) := by decide +kernel
theorem dX3_determinant_99 : decode cX3_determinant 99 = .ok (.bipush 6, 2) := by decide +kernel
theorem dX3_determinant_101 : decode cX3_determinant 101 = .ok (.laload, 1) := by decide +kernel
theorem dX3_determinant_102 : decode cX3_determinant 102 = .ok (.lmul, 1) := by decide +kernel
theorem dX3_determinant_103 : decode cX3_determinant 103 = .ok (.lsub, 1) := by decide +kernel
theorem dX3_determinant_104 : decode cX3_determinant 104 = .ok (.lmul, 1) := by decide +kernel
theorem dX3_determinant_105 : decode cX3_determinant 105 = .ok (.ladd, 1) := by decide +kernel
theorem dX3_determinant_106 : decode cX3_determinant 106 = .ok (.lreturn, 1) := by decide +kernel
theorem dX3_stands_0 : decode cX3_stands 0 = .ok (.iconst 0, 1) := by decide +kernel
theorem dX3_stands_1 : decode cX3_stands 1 = .ok (.istore_n 2, 1) := by decide +kernel
theorem dX3_stands_2 : decode cX3_stands 2 = .ok (.iload_n 2, 1) := by decide +kernel
theorem dX3_stands_3 : decode cX3_stands 3 = .ok (.iconst 1, 1) := by decide +kernel
theorem dX3_stands_4 : decode cX3_stands 4 = .ok (.aload_n 0, 1) := by decide +kernel
theorem dX3_stands_5 : decode cX3_stands 5 = .ok (.getfield 72, 3) := by decide +kernel
theorem dX3_stands_8 : decode cX3_stands 8 = .ok (.ishl, 1) := by decide +kernel
theorem dX3_stands_9 : decode cX3_stands 9 = .ok (.if_icmp .ge 123, 3) := by decide +kernel
theorem dX3_stands_12 : decode cX3_stands 12 = .ok (.iconst 0, 1) := by decide +kernel
theorem dX3_stands_13 : decode cX3_stands 13 = .ok (.istore_n 3, 1) := by decide +kernel
theorem dX3_stands_14 : decode cX3_stands 14 = .ok (.iconst 0, 1) := by decide +kernel
theorem dX3_stands_15 : decode cX3_stands 15 = .ok (.istore 4, 2) := by decide +kernel
theorem dX3_stands_17 : decode cX3_stands 17 = .ok (.iload 4, 2) := by decide +kernel
theorem dX3_stands_19 : decode cX3_stands 19 = .ok (.aload_n 0, 1) := by decide +kernel
theorem dX3_stands_20 : decode cX3_stands 20 = .ok (.getfield 72, 3) := by decide +kernel
theorem dX3_stands_23 : decode cX3_stands 23 = .ok (.if_icmp .ge 86, 3) := by decide +kernel
theorem dX3_stands_26 : decode cX3_stands 26 = .ok (.iload_n 2, 1) := by decide +kernel
theorem dX3_stands_27 : decode cX3_stands 27 = .ok (.iload 4, 2) := by decide +kernel
theorem dX3_stands_29 : decode cX3_stands 29 = .ok (.ishr, 1) := by decide +kernel
theorem dX3_stands_30 : decode cX3_stands 30 = .ok (.iconst 1, 1) := by decide +kernel
theorem dX3_stands_31 : decode cX3_stands 31 = .ok (.iand, 1) := by decide +kernel
theorem dX3_stands_32 : decode cX3_stands 32 = .ok (.ifCond .ne 6, 3) := by decide +kernel
theorem dX3_stands_35 : decode cX3_stands 35 = .ok (.goto 68, 3) := by decide +kernel
theorem dX3_stands_38 : decode cX3_stands 38 = .ok (.iconst 0, 1) := by decide +kernel
theorem dX3_stands_39 : decode cX3_stands 39 = .ok (.istore 5, 2) := by decide +kernel
theorem dX3_stands_41 : decode cX3_stands 41 = .ok (.iload 5, 2) := by decide +kernel
theorem dX3_stands_43 : decode cX3_stands 43 = .ok (.iload_n 1, 1) := by decide +kernel
theorem dX3_stands_44 : decode cX3_stands 44 = .ok (.if_icmp .ge 43, 3) := by decide +kernel
theorem dX3_stands_47 : decode cX3_stands 47 = .ok (.iload_n 3, 1) := by decide +kernel
theorem dX3_stands_48 : decode cX3_stands 48 = .ok (.iload_n 1, 1) := by decide +kernel
theorem dX3_stands_49 : decode cX3_stands 49 = .ok (.if_icmp .ge 38, 3) := by decide +kernel
theorem dX3_stands_52 : decode cX3_stands 52 = .ok (.aload_n 0, 1) := by decide +kernel
theorem dX3_stands_53 : decode cX3_stands 53 = .ok (.getfield 23, 3) := by decide +kernel
theorem dX3_stands_56 : decode cX3_stands 56 = .ok (.iconst 3, 1) := by decide +kernel
theorem dX3_stands_57 : decode cX3_stands 57 = .ok (.iload_n 3, 1) := by decide +kernel
theorem dX3_stands_58 : decode cX3_stands 58 = .ok (.imul, 1) := by decide +kernel
theorem dX3_stands_59 : decode cX3_stands 59 = .ok (.iload 5, 2) := by decide +kernel
theorem dX3_stands_61 : decode cX3_stands 61 = .ok (.iadd, 1) := by decide +kernel
theorem dX3_stands_62 : decode cX3_stands 62 = .ok (.aload_n 0, 1) := by decide +kernel
theorem dX3_stands_63 : decode cX3_stands 63 = .ok (.getfield 7, 3) := by decide +kernel
theorem dX3_stands_66 : decode cX3_stands 66 = .ok (.iconst 4, 1) := by decide +kernel
theorem dX3_stands_67 : decode cX3_stands 67 = .ok (.iload 4, 2) := by decide +kernel
theorem dX3_stands_69 : decode cX3_stands 69 = .ok (.imul, 1) := by decide +kernel
theorem dX3_stands_70 : decode cX3_stands 70 = .ok (.aload_n 0, 1) := by decide +kernel
theorem dX3_stands_71 : decode cX3_stands 71 = .ok (.getfield 13, 3) := by decide +kernel
theorem dX3_stands_74 : decode cX3_stands 74 = .ok (.iload 5, 2) := by decide +kernel
theorem dX3_stands_76 : decode cX3_stands 76 = .ok (.iaload, 1) := by decide +kernel
theorem dX3_stands_77 : decode cX3_stands 77 = .ok (.iadd, 1) := by decide +kernel
theorem dX3_stands_78 : decode cX3_stands 78 = .ok (.iaload, 1) := by decide +kernel
theorem dX3_stands_79 : decode cX3_stands 79 = .ok (.i2l, 1) := by decide +kernel
theorem dX3_stands_80 : decode cX3_stands 80 = .ok (.lastore, 1) := by decide +kernel
theorem dX3_stands_81 : decode cX3_stands 81 = .ok (.iinc 5 1, 3) := by decide +kernel
theorem dX3_stands_84 : decode cX3_stands 84 = .ok (.goto (-43), 3) := by decide +kernel
theorem dX3_stands_87 : decode cX3_stands 87 = .ok (.iload_n 3, 1) := by decide +kernel
theorem dX3_stands_88 : decode cX3_stands 88 = .ok (.iconst 3, 1) := by decide +kernel
theorem dX3_stands_89 : decode cX3_stands 89 = .ok (.if_icmp .ge 11, 3) := by decide +kernel
theorem dX3_stands_92 : decode cX3_stands 92 = .ok (.aload_n 0, 1) := by decide +kernel
theorem dX3_stands_93 : decode cX3_stands 93 = .ok (.getfield 16, 3) := by decide +kernel
theorem dX3_stands_96 : decode cX3_stands 96 = .ok (.iload_n 3, 1) := by decide +kernel
theorem dX3_stands_97 : decode cX3_stands 97 = .ok (.iload 4, 2) := by decide +kernel
theorem dX3_stands_99 : decode cX3_stands 99 = .ok (.iastore, 1) := by decide +kernel
theorem dX3_stands_100 : decode cX3_stands 100 = .ok (.iinc 3 1, 3) := by decide +kernel
theorem dX3_stands_103 : decode cX3_stands 103 = .ok (.iinc 4 1, 3) := by decide +kernel
theorem dX3_stands_106 : decode cX3_stands 106 = .ok (.goto (-89), 3) := by decide +kernel
theorem dX3_stands_109 : decode cX3_stands 109 = .ok (.iload_n 3, 1) := by decide +kernel
theorem dX3_stands_110 : decode cX3_stands 110 = .ok (.iload_n 1, 1) := by decide +kernel
theorem dX3_stands_111 : decode cX3_stands 111 = .ok (.if_icmp .ne 15, 3) := by decide +kernel
theorem dX3_stands_114 : decode cX3_stands 114 = .ok (.aload_n 0, 1) := by decide +kernel
theorem dX3_stands_115 : decode cX3_stands 115 = .ok (.iload_n 1, 1) := by decide +kernel
theorem dX3_stands_116 : decode cX3_stands 116 = .ok (.invokevirtual 91, 3) := by decide +kernel
theorem dX3_stands_119 : decode cX3_stands 119 = .ok (.lconst 0, 1) := by decide +kernel
theorem dX3_stands_120 : decode cX3_stands 120 = .ok (.lcmp, 1) := by decide +kernel
theorem dX3_stands_121 : decode cX3_stands 121 = .ok (.ifCond .eq 5, 3) := by decide +kernel
theorem dX3_stands_124 : decode cX3_stands 124 = .ok (.iconst 1, 1) := by decide +kernel
theorem dX3_stands_125 : decode cX3_stands 125 = .ok (.ireturn, 1) := by decide +kernel
theorem dX3_stands_126 : decode cX3_stands 126 = .ok (.iinc 2 1, 3) := by decide +kernel
theorem dX3_stands_129 : decode cX3_stands 129 = .ok (.goto (-127), 3) := by decide +kernel
theorem dX3_stands_132 : decode cX3_stands 132 = .ok (.iconst 0, 1) := by decide +kernel
theorem dX3_stands_133 : decode cX3_stands 133 = .ok (.ireturn, 1) := by decide +kernel
theorem dX3_look_0 : decode cX3_look 0 = .ok (.aload_n 0, 1) := by decide +kernel
theorem dX3_look_1 : decode cX3_look 1 = .ok (.iconst 0, 1) := by decide +kernel
theorem dX3_look_2 : decode cX3_look 2 = .ok (.putfield 95, 3) := by decide +kernel
theorem dX3_look_5 : decode cX3_look 5 = .ok (.iconst 0, 1) := by decide +kernel
theorem dX3_look_6 : decode cX3_look 6 = .ok (.istore_n 1, 1) := by decide +kernel
theorem dX3_look_7 : decode cX3_look 7 = .ok (.iload_n 1, 1) := by decide +kernel
theorem dX3_look_8 : decode cX3_look 8 = .ok (.aload_n 0, 1) := by decide +kernel
theorem dX3_look_9 : decode cX3_look 9 = .ok (.getfield 54, 3) := by decide +kernel
theorem dX3_look_12 : decode cX3_look 12 = .ok (.if_icmp .ge 73, 3) := by decide +kernel
theorem dX3_look_15 : decode cX3_look 15 = .ok (.aload_n 0, 1) := by decide +kernel
theorem dX3_look_16 : decode cX3_look 16 = .ok (.getfield 13, 3) := by decide +kernel
theorem dX3_look_19 : decode cX3_look 19 = .ok (.aload_n 0, 1) := by decide +kernel
theorem dX3_look_20 : decode cX3_look 20 = .ok (.getfield 95, 3) := by decide +kernel
theorem dX3_look_23 : decode cX3_look 23 = .ok (.iload_n 1, 1) := by decide +kernel
theorem dX3_look_24 : decode cX3_look 24 = .ok (.iastore, 1) := by decide +kernel
theorem dX3_look_25 : decode cX3_look 25 = .ok (.aload_n 0, 1) := by decide +kernel
theorem dX3_look_26 : decode cX3_look 26 = .ok (.getfield 19, 3) := by decide +kernel
theorem dX3_look_29 : decode cX3_look 29 = .ok (.iload_n 1, 1) := by decide +kernel
theorem dX3_look_30 : decode cX3_look 30 = .ok (.aload_n 0, 1) := by decide +kernel
theorem dX3_look_31 : decode cX3_look 31 = .ok (.getfield 95, 3) := by decide +kernel
theorem dX3_look_34 : decode cX3_look 34 = .ok (.aload_n 0, 1) := by decide +kernel
theorem dX3_look_35 : decode cX3_look 35 = .ok (.getfield 72, 3) := by decide +kernel
theorem dX3_look_38 : decode cX3_look 38 = .ok (.if_icmp .eq 16, 3) := by decide +kernel
theorem dX3_look_41 : decode cX3_look 41 = .ok (.aload_n 0, 1) := by decide +kernel
theorem dX3_look_42 : decode cX3_look 42 = .ok (.aload_n 0, 1) := by decide +kernel
theorem dX3_look_43 : decode cX3_look 43 = .ok (.getfield 95, 3) := by decide +kernel
theorem dX3_look_46 : decode cX3_look 46 = .ok (.iconst 1, 1) := by decide +kernel
theorem dX3_look_47 : decode cX3_look 47 = .ok (.iadd, 1) := by decide +kernel
theorem dX3_look_48 : decode cX3_look 48 = .ok (.invokevirtual 98, 3) := by decide +kernel
theorem dX3_look_51 : decode cX3_look 51 = .ok (.ifCond .ne 7, 3) := by decide +kernel
theorem dX3_look_54 : decode cX3_look 54 = .ok (.iconst 1, 1) := by decide +kernel
theorem dX3_look_55 : decode cX3_look 55 = .ok (.goto 4, 3) := by decide +kernel
theorem dX3_look_58 : decode cX3_look 58 = .ok (.iconst 0, 1) := by decide +kernel
theorem dX3_look_59 : decode cX3_look 59 = .ok (.bastore, 1) := by decide +kernel
theorem dX3_look_60 : decode cX3_look 60 = .ok (.aload_n 0, 1) := by decide +kernel
theorem dX3_look_61 : decode cX3_look 61 = .ok (.getfield 19, 3) := by decide +kernel
theorem dX3_look_64 : decode cX3_look 64 = .ok (.iload_n 1, 1) := by decide +kernel
theorem dX3_look_65 : decode cX3_look 65 = .ok (.baload, 1) := by decide +kernel
theorem dX3_look_66 : decode cX3_look 66 = .ok (.ifCond .ne 13, 3) := by decide +kernel
theorem dX3_look_69 : decode cX3_look 69 = .ok (.aload_n 0, 1) := by decide +kernel
theorem dX3_look_70 : decode cX3_look 70 = .ok (.dup, 1) := by decide +kernel
theorem dX3_look_71 : decode cX3_look 71 = .ok (.getfield 95, 3) := by decide +kernel
theorem dX3_look_74 : decode cX3_look 74 = .ok (.iconst 1, 1) := by decide +kernel
theorem dX3_look_75 : decode cX3_look 75 = .ok (.iadd, 1) := by decide +kernel
theorem dX3_look_76 : decode cX3_look 76 = .ok (.putfield 95, 3) := by decide +kernel
theorem dX3_look_79 : decode cX3_look 79 = .ok (.iinc 1 1, 3) := by decide +kernel
theorem dX3_look_82 : decode cX3_look 82 = .ok (.goto (-75), 3) := by decide +kernel
theorem dX3_look_85 : decode cX3_look 85 = .ok (.aload_n 0, 1) := by decide +kernel
theorem dX3_look_86 : decode cX3_look 86 = .ok (.aload_n 0, 1) := by decide +kernel
theorem dX3_look_87 : decode cX3_look 87 = .ok (.getfield 95, 3) := by decide +kernel
theorem dX3_look_90 : decode cX3_look 90 = .ok (.invokevirtual 98, 3) := by decide +kernel
theorem dX3_look_93 : decode cX3_look 93 = .ok (.pop, 1) := by decide +kernel
theorem dX3_look_94 : decode cX3_look 94 = .ok (.return_, 1) := by decide +kernel
theorem dX3_solve_0 : decode cX3_solve 0 = .ok (.iconst 0, 1) := by decide +kernel
theorem dX3_solve_1 : decode cX3_solve 1 = .ok (.istore_n 1, 1) := by decide +kernel
theorem dX3_solve_2 : decode cX3_solve 2 = .ok (.iload_n 1, 1) := by decide +kernel
theorem dX3_solve_3 : decode cX3_solve 3 = .ok (.aload_n 0, 1) := by decide +kernel
theorem dX3_solve_4 : decode cX3_solve 4 = .ok (.getfield 95, 3) := by decide +kernel
theorem dX3_solve_7 : decode cX3_solve 7 = .ok (.if_icmp .ge 56, 3) := by decide +kernel
theorem dX3_solve_10 : decode cX3_solve 10 = .ok (.iconst 0, 1) := by decide +kernel
theorem dX3_solve_11 : decode cX3_solve 11 = .ok (.istore_n 2, 1) := by decide +kernel
theorem dX3_solve_12 : decode cX3_solve 12 = .ok (.iload_n 2, 1) := by decide +kernel
theorem dX3_solve_13 : decode cX3_solve 13 = .ok (.aload_n 0, 1) := by decide +kernel
theorem dX3_solve_14 : decode cX3_solve 14 = .ok (.getfield 95, 3) := by decide +kernel
theorem dX3_solve_17 : decode cX3_solve 17 = .ok (.if_icmp .ge 40, 3) := by decide +kernel
theorem dX3_solve_20 : decode cX3_solve 20 = .ok (.aload_n 0, 1) := by decide +kernel
theorem dX3_solve_21 : decode cX3_solve 21 = .ok (.getfield 23, 3) := by decide +kernel
theorem dX3_solve_24 : decode cX3_solve 24 = .ok (.iconst 3, 1) := by decide +kernel
theorem dX3_solve_25 : decode cX3_solve 25 = .ok (.iload_n 1, 1) := by decide +kernel
theorem dX3_solve_26 : decode cX3_solve 26 = .ok (.imul, 1) := by decide +kernel
theorem dX3_solve_27 : decode cX3_solve 27 = .ok (.iload_n 2, 1) := by decide +kernel
theorem dX3_solve_28 : decode cX3_solve 28 = .ok (.iadd, 1) := by decide +kernel
theorem dX3_solve_29 : decode cX3_solve 29 = .ok (.aload_n 0, 1) := by decide +kernel
theorem dX3_solve_30 : decode cX3_solve 30 = .ok (.getfield 7, 3) := by decide +kernel
theorem dX3_solve_33 : decode cX3_solve 33 = .ok (.iconst 4, 1) := by decide +kernel
theorem dX3_solve_34 : decode cX3_solve 34 = .ok (.aload_n 0, 1) := by decide +kernel
theorem dX3_solve_35 : decode cX3_solve 35 = .ok (.getfield 16, 3) := by decide +kernel
theorem dX3_solve_38 : decode cX3_solve 38 = .ok (.iload_n 1, 1) := by decide +kernel
theorem dX3_solve_39 : decode cX3_solve 39 = .ok (.iaload, 1) := by decide +kernel
theorem dX3_solve_40 : decode cX3_solve 40 = .ok (.imul, 1) := by decide +kernel
theorem dX3_solve_41 : decode cX3_solve 41 = .ok (.aload_n 0, 1) := by decide +kernel
theorem dX3_solve_42 : decode cX3_solve 42 = .ok (.getfield 13, 3) := by decide +kernel
theorem dX3_solve_45 : decode cX3_solve 45 = .ok (.iload_n 2, 1) := by decide +kernel
theorem dX3_solve_46 : decode cX3_solve 46 = .ok (.iaload, 1) := by decide +kernel
theorem dX3_solve_47 : decode cX3_solve 47 = .ok (.iadd, 1) := by decide +kernel
theorem dX3_solve_48 : decode cX3_solve 48 = .ok (.iaload, 1) := by decide +kernel
theorem dX3_solve_49 : decode cX3_solve 49 = .ok (.i2l, 1) := by decide +kernel
theorem dX3_solve_50 : decode cX3_solve 50 = .ok (.lastore, 1) := by decide +kernel
theorem dX3_solve_51 : decode cX3_solve 51 = .ok (.iinc 2 1, 3) := by decide +kernel
theorem dX3_solve_54 : decode cX3_solve 54 = .ok (.goto (-42), 3) := by decide +kernel
theorem dX3_solve_57 : decode cX3_solve 57 = .ok (.iinc 1 1, 3) := by decide +kernel
theorem dX3_solve_60 : decode cX3_solve 60 = .ok (.goto (-58), 3) := by decide +kernel
theorem dX3_solve_63 : decode cX3_solve 63 = .ok (.aload_n 0, 1) := by decide +kernel
theorem dX3_solve_64 : decode cX3_solve 64 = .ok (.aload_n 0, 1) := by decide +kernel
theorem dX3_solve_65 : decode cX3_solve 65 = .ok (.getfield 95, 3) := by decide +kernel
theorem dX3_solve_68 : decode cX3_solve 68 = .ok (.invokevirtual 102, 3) := by decide +kernel
theorem dX3_solve_71 : decode cX3_solve 71 = .ok (.return_, 1) := by decide +kernel
theorem dX3_solveSquare_0 : decode cX3_solveSquare 0 = .ok (.aload_n 0, 1) := by decide +kernel
theorem dX3_solveSquare_1 : decode cX3_solveSquare 1 = .ok (.aload_n 0, 1) := by decide +kernel
theorem dX3_solveSquare_2 : decode cX3_solveSquare 2 = .ok (.iload_n 1, 1) := by decide +kernel
theorem dX3_solveSquare_3 : decode cX3_solveSquare 3 = .ok (.invokevirtual 91, 3) := by decide +kernel
theorem dX3_solveSquare_6 : decode cX3_solveSquare 6 = .ok (.putfield 106, 3) := by decide +kernel
theorem dX3_solveSquare_9 : decode cX3_solveSquare 9 = .ok (.iconst 0, 1) := by decide +kernel
theorem dX3_solveSquare_10 : decode cX3_solveSquare 10 = .ok (.istore_n 2, 1) := by decide +kernel
theorem dX3_solveSquare_11 : decode cX3_solveSquare 11 = .ok (.iload_n 2, 1) := by decide +kernel
theorem dX3_solveSquare_12 : decode cX3_solveSquare 12 = .ok (.iload_n 1, 1) := by decide +kernel
theorem dX3_solveSquare_13 : decode cX3_solveSquare 13 = .ok (.if_icmp .ge 94, 3) := by decide +kernel
theorem dX3_solveSquare_16 : decode cX3_solveSquare 16 = .ok (.iconst 0, 1) := by decide +kernel
theorem dX3_solveSquare_17 : decode cX3_solveSquare 17 = .ok (.istore_n 3, 1) := by decide +kernel
theorem dX3_solveSquare_18 : decode cX3_solveSquare 18 = .ok (.iload_n 3, 1) := by decide +kernel
theorem dX3_solveSquare_19 : decode cX3_solveSquare 19 = .ok (.iload_n 1, 1) := by decide +kernel
theorem dX3_solveSquare_20 : decode cX3_solveSquare 20 = .ok (.if_icmp .ge 41, 3) := by decide +kernel
theorem dX3_solveSquare_23 : decode cX3_solveSquare 23 = .ok (.aload_n 0, 1) := by decide +kernel
theorem dX3_solveSquare_24 : decode cX3_solveSquare 24 = .ok (.getfield 33, 3) := by decide +kernel
theorem dX3_solveSquare_27 : decode cX3_solveSquare 27 = .ok (.iload_n 3, 1) := by decide +kernel
theorem dX3_solveSquare_28 : decode cX3_solveSquare 28 = .ok (.aload_n 0, 1) := by decide +kernel
theorem dX3_solveSquare_29 : decode cX3_solveSquare 29 = .ok (.getfield 23, 3) := by decide +kernel
theorem dX3_solveSquare_32 : decode cX3_solveSquare 32 = .ok (.iconst 3, 1) := by decide +kernel
theorem dX3_solveSquare_33 : decode cX3_solveSquare 33 = .ok (.iload_n 3, 1) := by decide +kernel
theorem dX3_solveSquare_34 : decode cX3_solveSquare 34 = .ok (.imul, 1) := by decide +kernel
theorem dX3_solveSquare_35 : decode cX3_solveSquare 35 = .ok (.iload_n 2, 1) := by decide +kernel
theorem dX3_solveSquare_36 : decode cX3_solveSquare 36 = .ok (.iadd, 1) := by decide +kernel
theorem dX3_solveSquare_37 : decode cX3_solveSquare 37 = .ok (.laload, 1) := by decide +kernel
theorem dX3_solveSquare_38 : decode cX3_solveSquare 38 = .ok (.lastore, 1) := by decide +kernel
theorem dX3_solveSquare_39 : decode cX3_solveSquare 39 = .ok (.aload_n 0, 1) := by decide +kernel
theorem dX3_solveSquare_40 : decode cX3_solveSquare 40 = .ok (.getfield 23, 3) := by decide +kernel
theorem dX3_solveSquare_43 : decode cX3_solveSquare 43 = .ok (.iconst 3, 1) := by decide +kernel
theorem dX3_solveSquare_44 : decode cX3_solveSquare 44 = .ok (.iload_n 3, 1) := by decide +kernel
theorem dX3_solveSquare_45 : decode cX3_solveSquare 45 = .ok (.imul, 1) := by decide +kernel
theorem dX3_solveSquare_46 : decode cX3_solveSquare 46 = .ok (.iload_n 2, 1) := by decide +kernel
theorem dX3_solveSquare_47 : decode cX3_solveSquare 47 = .ok (.iadd, 1) := by decide +kernel
theorem dX3_solveSquare_48 : decode cX3_solveSquare 48 = .ok (.aload_n 0, 1) := by decide +kernel
theorem dX3_solveSquare_49 : decode cX3_solveSquare 49 = .ok (.getfield 27, 3) := by decide +kernel
theorem dX3_solveSquare_52 : decode cX3_solveSquare 52 = .ok (.iload_n 3, 1) := by decide +kernel
theorem dX3_solveSquare_53 : decode cX3_solveSquare 53 = .ok (.laload, 1) := by decide +kernel
theorem dX3_solveSquare_54 : decode cX3_solveSquare 54 = .ok (.lastore, 1) := by decide +kernel
theorem dX3_solveSquare_55 : decode cX3_solveSquare 55 = .ok (.iinc 3 1, 3) := by decide +kernel
theorem dX3_solveSquare_58 : decode cX3_solveSquare 58 = .ok (.goto (-40), 3) := by decide +kernel
theorem dX3_solveSquare_61 : decode cX3_solveSquare 61 = .ok (.aload_n 0, 1) := by decide +kernel
theorem dX3_solveSquare_62 : decode cX3_solveSquare 62 = .ok (.getfield 30, 3) := by decide +kernel
theorem dX3_solveSquare_65 : decode cX3_solveSquare 65 = .ok (.iload_n 2, 1) := by decide +kernel
theorem dX3_solveSquare_66 : decode cX3_solveSquare 66 = .ok (.aload_n 0, 1) := by decide +kernel
theorem dX3_solveSquare_67 : decode cX3_solveSquare 67 = .ok (.iload_n 1, 1) := by decide +kernel
theorem dX3_solveSquare_68 : decode cX3_solveSquare 68 = .ok (.invokevirtual 91, 3) := by decide +kernel
theorem dX3_solveSquare_71 : decode cX3_solveSquare 71 = .ok (.lastore, 1) := by decide +kernel
theorem dX3_solveSquare_72 : decode cX3_solveSquare 72 = .ok (.iconst 0, 1) := by decide +kernel
theorem dX3_solveSquare_73 : decode cX3_solveSquare 73 = .ok (.istore_n 3, 1) := by decide +kernel
theorem dX3_solveSquare_74 : decode cX3_solveSquare 74 = .ok (.iload_n 3, 1) := by decide +kernel
theorem dX3_solveSquare_75 : decode cX3_solveSquare 75 = .ok (.iload_n 1, 1) := by decide +kernel
theorem dX3_solveSquare_76 : decode cX3_solveSquare 76 = .ok (.if_icmp .ge 25, 3) := by decide +kernel
theorem dX3_solveSquare_79 : decode cX3_solveSquare 79 = .ok (.aload_n 0, 1) := by decide +kernel
theorem dX3_solveSquare_80 : decode cX3_solveSquare 80 = .ok (.getfield 23, 3) := by decide +kernel
theorem dX3_solveSquare_83 : decode cX3_solveSquare 83 = .ok (.iconst 3, 1) := by decide +kernel
theorem dX3_solveSquare_84 : decode cX3_solveSquare 84 = .ok (.iload_n 3, 1) := by decide +kernel
theorem dX3_solveSquare_85 : decode cX3_solveSquare 85 = .ok (.imul, 1) := by decide +kernel
theorem dX3_solveSquare_86 : decode cX3_solveSquare 86 = .ok (.iload_n 2, 1) := by decide +kernel
theorem dX3_solveSquare_87 : decode cX3_solveSquare 87 = .ok (.iadd, 1) := by decide +kernel
theorem dX3_solveSquare_88 : decode cX3_solveSquare 88 = .ok (.aload_n 0, 1) := by decide +kernel
theorem dX3_solveSquare_89 : decode cX3_solveSquare 89 = .ok (.getfield 33, 3) := by decide +kernel
theorem dX3_solveSquare_92 : decode cX3_solveSquare 92 = .ok (.iload_n 3, 1) := by decide +kernel
theorem dX3_solveSquare_93 : decode cX3_solveSquare 93 = .ok (.laload, 1) := by decide +kernel
theorem dX3_solveSquare_94 : decode cX3_solveSquare 94 = .ok (.lastore, 1) := by decide +kernel
theorem dX3_solveSquare_95 : decode cX3_solveSquare 95 = .ok (.iinc 3 1, 3) := by decide +kernel
theorem dX3_solveSquare_98 : decode cX3_solveSquare 98 = .ok (.goto (-24), 3) := by decide +kernel
theorem dX3_solveSquare_101 : decode cX3_solveSquare 101 = .ok (.iinc 2 1, 3) := by decide +kernel
theorem dX3_solveSquare_104 : decode cX3_solveSquare 104 = .ok (.goto (-93), 3) := by decide +kernel
theorem dX3_solveSquare_107 : decode cX3_solveSquare 107 = .ok (.return_, 1) := by decide +kernel
theorem dX3_rank_0 : decode cX3_rank 0 = .ok (.aload_n 0, 1) := by decide +kernel
theorem dX3_rank_1 : decode cX3_rank 1 = .ok (.iconst 0, 1) := by decide +kernel
theorem dX3_rank_2 : decode cX3_rank 2 = .ok (.putfield 58, 3) := by decide +kernel
theorem dX3_rank_5 : decode cX3_rank 5 = .ok (.aload_n 0, 1) := by decide +kernel
theorem dX3_rank_6 : decode cX3_rank 6 = .ok (.invokevirtual 109, 3) := by decide +kernel
theorem dX3_rank_9 : decode cX3_rank 9 = .ok (.aload_n 0, 1) := by decide +kernel
theorem dX3_rank_10 : decode cX3_rank 10 = .ok (.getfield 95, 3) := by decide +kernel
theorem dX3_rank_13 : decode cX3_rank 13 = .ok (.ireturn, 1) := by decide +kernel
theorem dX3_findPlain_0 : decode cX3_findPlain 0 = .ok (.aload_n 0, 1) := by decide +kernel
theorem dX3_findPlain_1 : decode cX3_findPlain 1 = .ok (.invokevirtual 109, 3) := by decide +kernel
theorem dX3_findPlain_4 : decode cX3_findPlain 4 = .ok (.iconst 0, 1) := by decide +kernel
theorem dX3_findPlain_5 : decode cX3_findPlain 5 = .ok (.istore_n 1, 1) := by decide +kernel
theorem dX3_findPlain_6 : decode cX3_findPlain 6 = .ok (.iload_n 1, 1) := by decide +kernel
theorem dX3_findPlain_7 : decode cX3_findPlain 7 = .ok (.aload_n 0, 1) := by decide +kernel
theorem dX3_findPlain_8 : decode cX3_findPlain 8 = .ok (.getfield 95, 3) := by decide +kernel
theorem dX3_findPlain_11 : decode cX3_findPlain 11 = .ok (.if_icmp .ge 31, 3) := by decide +kernel
theorem dX3_findPlain_14 : decode cX3_findPlain 14 = .ok (.aload_n 0, 1) := by decide +kernel
theorem dX3_findPlain_15 : decode cX3_findPlain 15 = .ok (.getfield 27, 3) := by decide +kernel
theorem dX3_findPlain_18 : decode cX3_findPlain 18 = .ok (.iload_n 1, 1) := by decide +kernel
theorem dX3_findPlain_19 : decode cX3_findPlain 19 = .ok (.aload_n 0, 1) := by decide +kernel
theorem dX3_findPlain_20 : decode cX3_findPlain 20 = .ok (.getfield 7, 3) := by decide +kernel
theorem dX3_findPlain_23 : decode cX3_findPlain 23 = .ok (.iconst 4, 1) := by decide +kernel
theorem dX3_findPlain_24 : decode cX3_findPlain 24 = .ok (.aload_n 0, 1) := by decide +kernel
theorem dX3_findPlain_25 : decode cX3_findPlain 25 = .ok (.getfield 16, 3) := by decide +kernel
theorem dX3_findPlain_28 : decode cX3_findPlain 28 = .ok (.iload_n 1, 1) := by decide +kernel
theorem dX3_findPlain_29 : decode cX3_findPlain 29 = .ok (.iaload, 1) := by decide +kernel
theorem dX3_findPlain_30 : decode cX3_findPlain 30 = .ok (.imul, 1) := by decide +kernel
end
section
/-! decode rows of X3 -/
theorem dX3_findPlain_31 : decode cX3_findPlain 31 = .ok (.iconst 3, 1) := by decide +kernel
theorem dX3_findPlain_32 : decode cX3_findPlain 32 = .ok (.iadd, 1) := by decide +kernel
theorem dX3_findPlain_33 : decode cX3_findPlain 33 = .ok (.iaload, 1) := by decide +kernel
theorem dX3_findPlain_34 : decode cX3_findPlain 34 = .ok (.i2l, 1) := by decide +kernel
theorem dX3_findPlain_35 : decode cX3_findPlain 35 = .ok (.lastore, 1) := by decide +kernel
theorem dX3_findPlain_36 : decode cX3_findPlain 36 = .ok (.iinc 1 1, 3) := by decide +kernel
theorem dX3_findPlain_39 : decode cX3_findPlain 39 = .ok (.goto (-33), 3) := by decide +kernel
theorem dX3_findPlain_42 : decode cX3_findPlain 42 = .ok (.aload_n 0, 1) := by decide +kernel
theorem dX3_findPlain_43 : decode cX3_findPlain 43 = .ok (.invokevirtual 112, 3) := by decide +kernel
theorem dX3_findPlain_46 : decode cX3_findPlain 46 = .ok (.iconst 0, 1) := by decide +kernel
theorem dX3_findPlain_47 : decode cX3_findPlain 47 = .ok (.istore_n 1, 1) := by decide +kernel
theorem dX3_findPlain_48 : decode cX3_findPlain 48 = .ok (.iload_n 1, 1) := by decide +kernel
theorem dX3_findPlain_49 : decode cX3_findPlain 49 = .ok (.aload_n 0, 1) := by decide +kernel
theorem dX3_findPlain_50 : decode cX3_findPlain 50 = .ok (.getfield 72, 3) := by decide +kernel
theorem dX3_findPlain_53 : decode cX3_findPlain 53 = .ok (.if_icmp .ge 80, 3) := by decide +kernel
theorem dX3_findPlain_56 : decode cX3_findPlain 56 = .ok (.lconst 0, 1) := by decide +kernel
theorem dX3_findPlain_57 : decode cX3_findPlain 57 = .ok (.lstore_n 2, 1) := by decide +kernel
theorem dX3_findPlain_58 : decode cX3_findPlain 58 = .ok (.iconst 0, 1) := by decide +kernel
theorem dX3_findPlain_59 : decode cX3_findPlain 59 = .ok (.istore 4, 2) := by decide +kernel
theorem dX3_findPlain_61 : decode cX3_findPlain 61 = .ok (.iload 4, 2) := by decide +kernel
theorem dX3_findPlain_63 : decode cX3_findPlain 63 = .ok (.aload_n 0, 1) := by decide +kernel
theorem dX3_findPlain_64 : decode cX3_findPlain 64 = .ok (.getfield 95, 3) := by decide +kernel
theorem dX3_findPlain_67 : decode cX3_findPlain 67 = .ok (.if_icmp .ge 37, 3) := by decide +kernel
theorem dX3_findPlain_70 : decode cX3_findPlain 70 = .ok (.lload_n 2, 1) := by decide +kernel
theorem dX3_findPlain_71 : decode cX3_findPlain 71 = .ok (.aload_n 0, 1) := by decide +kernel
theorem dX3_findPlain_72 : decode cX3_findPlain 72 = .ok (.getfield 7, 3) := by decide +kernel
theorem dX3_findPlain_75 : decode cX3_findPlain 75 = .ok (.iconst 4, 1) := by decide +kernel
theorem dX3_findPlain_76 : decode cX3_findPlain 76 = .ok (.iload_n 1, 1) := by decide +kernel
theorem dX3_findPlain_77 : decode cX3_findPlain 77 = .ok (.imul, 1) := by decide +kernel
theorem dX3_findPlain_78 : decode cX3_findPlain 78 = .ok (.aload_n 0, 1) := by decide +kernel
theorem dX3_findPlain_79 : decode cX3_findPlain 79 = .ok (.getfield 13, 3) := by decide +kernel
theorem dX3_findPlain_82 : decode cX3_findPlain 82 = .ok (.iload 4, 2) := by decide +kernel
theorem dX3_findPlain_84 : decode cX3_findPlain 84 = .ok (.iaload, 1) := by decide +kernel
theorem dX3_findPlain_85 : decode cX3_findPlain 85 = .ok (.iadd, 1) := by decide +kernel
theorem dX3_findPlain_86 : decode cX3_findPlain 86 = .ok (.iaload, 1) := by decide +kernel
theorem dX3_findPlain_87 : decode cX3_findPlain 87 = .ok (.i2l, 1) := by decide +kernel
theorem dX3_findPlain_88 : decode cX3_findPlain 88 = .ok (.aload_n 0, 1) := by decide +kernel
theorem dX3_findPlain_89 : decode cX3_findPlain 89 = .ok (.getfield 30, 3) := by decide +kernel
theorem dX3_findPlain_92 : decode cX3_findPlain 92 = .ok (.iload 4, 2) := by decide +kernel
theorem dX3_findPlain_94 : decode cX3_findPlain 94 = .ok (.laload, 1) := by decide +kernel
theorem dX3_findPlain_95 : decode cX3_findPlain 95 = .ok (.lmul, 1) := by decide +kernel
theorem dX3_findPlain_96 : decode cX3_findPlain 96 = .ok (.ladd, 1) := by decide +kernel
theorem dX3_findPlain_97 : decode cX3_findPlain 97 = .ok (.lstore_n 2, 1) := by decide +kernel
theorem dX3_findPlain_98 : decode cX3_findPlain 98 = .ok (.iinc 4 1, 3) := by decide +kernel
theorem dX3_findPlain_101 : decode cX3_findPlain 101 = .ok (.goto (-40), 3) := by decide +kernel
theorem dX3_findPlain_104 : decode cX3_findPlain 104 = .ok (.lload_n 2, 1) := by decide +kernel
theorem dX3_findPlain_105 : decode cX3_findPlain 105 = .ok (.aload_n 0, 1) := by decide +kernel
theorem dX3_findPlain_106 : decode cX3_findPlain 106 = .ok (.getfield 7, 3) := by decide +kernel
theorem dX3_findPlain_109 : decode cX3_findPlain 109 = .ok (.iconst 4, 1) := by decide +kernel
theorem dX3_findPlain_110 : decode cX3_findPlain 110 = .ok (.iload_n 1, 1) := by decide +kernel
theorem dX3_findPlain_111 : decode cX3_findPlain 111 = .ok (.imul, 1) := by decide +kernel
theorem dX3_findPlain_112 : decode cX3_findPlain 112 = .ok (.iconst 3, 1) := by decide +kernel
theorem dX3_findPlain_113 : decode cX3_findPlain 113 = .ok (.iadd, 1) := by decide +kernel
theorem dX3_findPlain_114 : decode cX3_findPlain 114 = .ok (.iaload, 1) := by decide +kernel
theorem dX3_findPlain_115 : decode cX3_findPlain 115 = .ok (.i2l, 1) := by decide +kernel
theorem dX3_findPlain_116 : decode cX3_findPlain 116 = .ok (.aload_n 0, 1) := by decide +kernel
theorem dX3_findPlain_117 : decode cX3_findPlain 117 = .ok (.getfield 106, 3) := by decide +kernel
theorem dX3_findPlain_120 : decode cX3_findPlain 120 = .ok (.lmul, 1) := by decide +kernel
theorem dX3_findPlain_121 : decode cX3_findPlain 121 = .ok (.lcmp, 1) := by decide +kernel
theorem dX3_findPlain_122 : decode cX3_findPlain 122 = .ok (.ifCond .eq 5, 3) := by decide +kernel
theorem dX3_findPlain_125 : decode cX3_findPlain 125 = .ok (.iconst 0, 1) := by decide +kernel
theorem dX3_findPlain_126 : decode cX3_findPlain 126 = .ok (.ireturn, 1) := by decide +kernel
theorem dX3_findPlain_127 : decode cX3_findPlain 127 = .ok (.iinc 1 1, 3) := by decide +kernel
theorem dX3_findPlain_130 : decode cX3_findPlain 130 = .ok (.goto (-82), 3) := by decide +kernel
theorem dX3_findPlain_133 : decode cX3_findPlain 133 = .ok (.iconst 1, 1) := by decide +kernel
theorem dX3_findPlain_134 : decode cX3_findPlain 134 = .ok (.ireturn, 1) := by decide +kernel
theorem dX3_solutions_0 : decode cX3_solutions 0 = .ok (.aload_n 0, 1) := by decide +kernel
theorem dX3_solutions_1 : decode cX3_solutions 1 = .ok (.iconst 0, 1) := by decide +kernel
theorem dX3_solutions_2 : decode cX3_solutions 2 = .ok (.putfield 58, 3) := by decide +kernel
theorem dX3_solutions_5 : decode cX3_solutions 5 = .ok (.aload_n 0, 1) := by decide +kernel
theorem dX3_solutions_6 : decode cX3_solutions 6 = .ok (.invokevirtual 115, 3) := by decide +kernel
theorem dX3_solutions_9 : decode cX3_solutions 9 = .ok (.ifCond .eq 15, 3) := by decide +kernel
theorem dX3_solutions_12 : decode cX3_solutions 12 = .ok (.aload_n 0, 1) := by decide +kernel
theorem dX3_solutions_13 : decode cX3_solutions 13 = .ok (.getfield 54, 3) := by decide +kernel
theorem dX3_solutions_16 : decode cX3_solutions 16 = .ok (.aload_n 0, 1) := by decide +kernel
theorem dX3_solutions_17 : decode cX3_solutions 17 = .ok (.getfield 95, 3) := by decide +kernel
theorem dX3_solutions_20 : decode cX3_solutions 20 = .ok (.isub, 1) := by decide +kernel
theorem dX3_solutions_21 : decode cX3_solutions 21 = .ok (.goto 4, 3) := by decide +kernel
theorem dX3_solutions_24 : decode cX3_solutions 24 = .ok (.iconst (-1), 1) := by decide +kernel
theorem dX3_solutions_25 : decode cX3_solutions 25 = .ok (.ireturn, 1) := by decide +kernel
theorem dX3_freeAt_0 : decode cX3_freeAt 0 = .ok (.iconst 0, 1) := by decide +kernel
theorem dX3_freeAt_1 : decode cX3_freeAt 1 = .ok (.istore_n 2, 1) := by decide +kernel
theorem dX3_freeAt_2 : decode cX3_freeAt 2 = .ok (.iconst 0, 1) := by decide +kernel
theorem dX3_freeAt_3 : decode cX3_freeAt 3 = .ok (.istore_n 3, 1) := by decide +kernel
theorem dX3_freeAt_4 : decode cX3_freeAt 4 = .ok (.iload_n 3, 1) := by decide +kernel
theorem dX3_freeAt_5 : decode cX3_freeAt 5 = .ok (.aload_n 0, 1) := by decide +kernel
theorem dX3_freeAt_6 : decode cX3_freeAt 6 = .ok (.getfield 54, 3) := by decide +kernel
theorem dX3_freeAt_9 : decode cX3_freeAt 9 = .ok (.if_icmp .ge 31, 3) := by decide +kernel
theorem dX3_freeAt_12 : decode cX3_freeAt 12 = .ok (.aload_n 0, 1) := by decide +kernel
theorem dX3_freeAt_13 : decode cX3_freeAt 13 = .ok (.getfield 19, 3) := by decide +kernel
theorem dX3_freeAt_16 : decode cX3_freeAt 16 = .ok (.iload_n 3, 1) := by decide +kernel
theorem dX3_freeAt_17 : decode cX3_freeAt 17 = .ok (.baload, 1) := by decide +kernel
theorem dX3_freeAt_18 : decode cX3_freeAt 18 = .ok (.ifCond .ne 6, 3) := by decide +kernel
theorem dX3_freeAt_21 : decode cX3_freeAt 21 = .ok (.goto 13, 3) := by decide +kernel
theorem dX3_freeAt_24 : decode cX3_freeAt 24 = .ok (.iload_n 2, 1) := by decide +kernel
theorem dX3_freeAt_25 : decode cX3_freeAt 25 = .ok (.iload_n 1, 1) := by decide +kernel
theorem dX3_freeAt_26 : decode cX3_freeAt 26 = .ok (.if_icmp .ne 5, 3) := by decide +kernel
theorem dX3_freeAt_29 : decode cX3_freeAt 29 = .ok (.iload_n 3, 1) := by decide +kernel
theorem dX3_freeAt_30 : decode cX3_freeAt 30 = .ok (.ireturn, 1) := by decide +kernel
theorem dX3_freeAt_31 : decode cX3_freeAt 31 = .ok (.iinc 2 1, 3) := by decide +kernel
theorem dX3_freeAt_34 : decode cX3_freeAt 34 = .ok (.iinc 3 1, 3) := by decide +kernel
theorem dX3_freeAt_37 : decode cX3_freeAt 37 = .ok (.goto (-33), 3) := by decide +kernel
theorem dX3_freeAt_40 : decode cX3_freeAt 40 = .ok (.iconst (-1), 1) := by decide +kernel
theorem dX3_freeAt_41 : decode cX3_freeAt 41 = .ok (.ireturn, 1) := by decide +kernel
theorem dX3_free_0 : decode cX3_free 0 = .ok (.aload_n 0, 1) := by decide +kernel
theorem dX3_free_1 : decode cX3_free 1 = .ok (.iconst 0, 1) := by decide +kernel
theorem dX3_free_2 : decode cX3_free 2 = .ok (.putfield 58, 3) := by decide +kernel
theorem dX3_free_5 : decode cX3_free 5 = .ok (.aload_n 0, 1) := by decide +kernel
theorem dX3_free_6 : decode cX3_free 6 = .ok (.invokevirtual 109, 3) := by decide +kernel
theorem dX3_free_9 : decode cX3_free 9 = .ok (.aload_n 0, 1) := by decide +kernel
theorem dX3_free_10 : decode cX3_free 10 = .ok (.iload_n 1, 1) := by decide +kernel
theorem dX3_free_11 : decode cX3_free 11 = .ok (.invokevirtual 119, 3) := by decide +kernel
theorem dX3_free_14 : decode cX3_free 14 = .ok (.ireturn, 1) := by decide +kernel
theorem dX3_isUnknown_0 : decode cX3_isUnknown 0 = .ok (.iload_n 1, 1) := by decide +kernel
theorem dX3_isUnknown_1 : decode cX3_isUnknown 1 = .ok (.i2l, 1) := by decide +kernel
theorem dX3_isUnknown_2 : decode cX3_isUnknown 2 = .ok (.lconst 0, 1) := by decide +kernel
theorem dX3_isUnknown_3 : decode cX3_isUnknown 3 = .ok (.aload_n 0, 1) := by decide +kernel
theorem dX3_isUnknown_4 : decode cX3_isUnknown 4 = .ok (.getfield 54, 3) := by decide +kernel
theorem dX3_isUnknown_7 : decode cX3_isUnknown 7 = .ok (.iconst 1, 1) := by decide +kernel
theorem dX3_isUnknown_8 : decode cX3_isUnknown 8 = .ok (.isub, 1) := by decide +kernel
theorem dX3_isUnknown_9 : decode cX3_isUnknown 9 = .ok (.i2l, 1) := by decide +kernel
theorem dX3_isUnknown_10 : decode cX3_isUnknown 10 = .ok (.invokestatic 75, 3) := by decide +kernel
theorem dX3_isUnknown_13 : decode cX3_isUnknown 13 = .ok (.ireturn, 1) := by decide +kernel
theorem dX3_takeAnswer_0 : decode cX3_takeAnswer 0 = .ok (.aload_n 0, 1) := by decide +kernel
theorem dX3_takeAnswer_1 : decode cX3_takeAnswer 1 = .ok (.lconst 0, 1) := by decide +kernel
theorem dX3_takeAnswer_2 : decode cX3_takeAnswer 2 = .ok (.lconst 1, 1) := by decide +kernel
theorem dX3_takeAnswer_3 : decode cX3_takeAnswer 3 = .ok (.invokevirtual 123, 3) := by decide +kernel
theorem dX3_takeAnswer_6 : decode cX3_takeAnswer 6 = .ok (.iconst 0, 1) := by decide +kernel
theorem dX3_takeAnswer_7 : decode cX3_takeAnswer 7 = .ok (.istore_n 2, 1) := by decide +kernel
theorem dX3_takeAnswer_8 : decode cX3_takeAnswer 8 = .ok (.iload_n 2, 1) := by decide +kernel
theorem dX3_takeAnswer_9 : decode cX3_takeAnswer 9 = .ok (.aload_n 0, 1) := by decide +kernel
theorem dX3_takeAnswer_10 : decode cX3_takeAnswer 10 = .ok (.getfield 95, 3) := by decide +kernel
theorem dX3_takeAnswer_13 : decode cX3_takeAnswer 13 = .ok (.if_icmp .ge 33, 3) := by decide +kernel
theorem dX3_takeAnswer_16 : decode cX3_takeAnswer 16 = .ok (.aload_n 0, 1) := by decide +kernel
theorem dX3_takeAnswer_17 : decode cX3_takeAnswer 17 = .ok (.getfield 13, 3) := by decide +kernel
theorem dX3_takeAnswer_20 : decode cX3_takeAnswer 20 = .ok (.iload_n 2, 1) := by decide +kernel
theorem dX3_takeAnswer_21 : decode cX3_takeAnswer 21 = .ok (.iaload, 1) := by decide +kernel
theorem dX3_takeAnswer_22 : decode cX3_takeAnswer 22 = .ok (.iload_n 1, 1) := by decide +kernel
theorem dX3_takeAnswer_23 : decode cX3_takeAnswer 23 = .ok (.if_icmp .ne 17, 3) := by decide +kernel
theorem dX3_takeAnswer_26 : decode cX3_takeAnswer 26 = .ok (.aload_n 0, 1) := by decide +kernel
theorem dX3_takeAnswer_27 : decode cX3_takeAnswer 27 = .ok (.aload_n 0, 1) := by decide +kernel
theorem dX3_takeAnswer_28 : decode cX3_takeAnswer 28 = .ok (.getfield 30, 3) := by decide +kernel
theorem dX3_takeAnswer_31 : decode cX3_takeAnswer 31 = .ok (.iload_n 2, 1) := by decide +kernel
theorem dX3_takeAnswer_32 : decode cX3_takeAnswer 32 = .ok (.laload, 1) := by decide +kernel
theorem dX3_takeAnswer_33 : decode cX3_takeAnswer 33 = .ok (.aload_n 0, 1) := by decide +kernel
theorem dX3_takeAnswer_34 : decode cX3_takeAnswer 34 = .ok (.getfield 106, 3) := by decide +kernel
theorem dX3_takeAnswer_37 : decode cX3_takeAnswer 37 = .ok (.invokevirtual 123, 3) := by decide +kernel
theorem dX3_takeAnswer_40 : decode cX3_takeAnswer 40 = .ok (.iinc 2 1, 3) := by decide +kernel
theorem dX3_takeAnswer_43 : decode cX3_takeAnswer 43 = .ok (.goto (-35), 3) := by decide +kernel
theorem dX3_takeAnswer_46 : decode cX3_takeAnswer 46 = .ok (.return_, 1) := by decide +kernel
theorem dX3_plain_0 : decode cX3_plain 0 = .ok (.aload_n 0, 1) := by decide +kernel
theorem dX3_plain_1 : decode cX3_plain 1 = .ok (.iload_n 1, 1) := by decide +kernel
theorem dX3_plain_2 : decode cX3_plain 2 = .ok (.invokevirtual 127, 3) := by decide +kernel
theorem dX3_plain_5 : decode cX3_plain 5 = .ok (.ifCond .ne 10, 3) := by decide +kernel
theorem dX3_plain_8 : decode cX3_plain 8 = .ok (.aload_n 0, 1) := by decide +kernel
theorem dX3_plain_9 : decode cX3_plain 9 = .ok (.iconst 1, 1) := by decide +kernel
theorem dX3_plain_10 : decode cX3_plain 10 = .ok (.invokevirtual 130, 3) := by decide +kernel
theorem dX3_plain_13 : decode cX3_plain 13 = .ok (.i2l, 1) := by decide +kernel
theorem dX3_plain_14 : decode cX3_plain 14 = .ok (.lreturn, 1) := by decide +kernel
theorem dX3_plain_15 : decode cX3_plain 15 = .ok (.aload_n 0, 1) := by decide +kernel
theorem dX3_plain_16 : decode cX3_plain 16 = .ok (.invokevirtual 115, 3) := by decide +kernel
theorem dX3_plain_19 : decode cX3_plain 19 = .ok (.ifCond .ne 10, 3) := by decide +kernel
theorem dX3_plain_22 : decode cX3_plain 22 = .ok (.aload_n 0, 1) := by decide +kernel
theorem dX3_plain_23 : decode cX3_plain 23 = .ok (.iconst 2, 1) := by decide +kernel
theorem dX3_plain_24 : decode cX3_plain 24 = .ok (.invokevirtual 130, 3) := by decide +kernel
theorem dX3_plain_27 : decode cX3_plain 27 = .ok (.i2l, 1) := by decide +kernel
theorem dX3_plain_28 : decode cX3_plain 28 = .ok (.lreturn, 1) := by decide +kernel
theorem dX3_plain_29 : decode cX3_plain 29 = .ok (.aload_n 0, 1) := by decide +kernel
theorem dX3_plain_30 : decode cX3_plain 30 = .ok (.iload_n 2, 1) := by decide +kernel
theorem dX3_plain_31 : decode cX3_plain 31 = .ok (.i2l, 1) := by decide +kernel
theorem dX3_plain_32 : decode cX3_plain 32 = .ok (.lconst 0, 1) := by decide +kernel
theorem dX3_plain_33 : decode cX3_plain 33 = .ok (.lconst 1, 1) := by decide +kernel
theorem dX3_plain_34 : decode cX3_plain 34 = .ok (.invokestatic 75, 3) := by decide +kernel
theorem dX3_plain_37 : decode cX3_plain 37 = .ok (.ifCond .eq 7, 3) := by decide +kernel
theorem dX3_plain_40 : decode cX3_plain 40 = .ok (.iconst 0, 1) := by decide +kernel
theorem dX3_plain_41 : decode cX3_plain 41 = .ok (.goto 4, 3) := by decide +kernel
theorem dX3_plain_44 : decode cX3_plain 44 = .ok (.iconst 3, 1) := by decide +kernel
theorem dX3_plain_45 : decode cX3_plain 45 = .ok (.putfield 58, 3) := by decide +kernel
theorem dX3_plain_48 : decode cX3_plain 48 = .ok (.aload_n 0, 1) := by decide +kernel
theorem dX3_plain_49 : decode cX3_plain 49 = .ok (.iload_n 1, 1) := by decide +kernel
theorem dX3_plain_50 : decode cX3_plain 50 = .ok (.invokevirtual 133, 3) := by decide +kernel
theorem dX3_plain_53 : decode cX3_plain 53 = .ok (.aload_n 0, 1) := by decide +kernel
theorem dX3_plain_54 : decode cX3_plain 54 = .ok (.getfield 58, 3) := by decide +kernel
theorem dX3_plain_57 : decode cX3_plain 57 = .ok (.ifCond .le 7, 3) := by decide +kernel
theorem dX3_plain_60 : decode cX3_plain 60 = .ok (.lconst 0, 1) := by decide +kernel
theorem dX3_plain_61 : decode cX3_plain 61 = .ok (.goto 8, 3) := by decide +kernel
theorem dX3_plain_64 : decode cX3_plain 64 = .ok (.aload_n 0, 1) := by decide +kernel
theorem dX3_plain_65 : decode cX3_plain 65 = .ok (.iload_n 2, 1) := by decide +kernel
theorem dX3_plain_66 : decode cX3_plain 66 = .ok (.invokevirtual 136, 3) := by decide +kernel
theorem dX3_plain_69 : decode cX3_plain 69 = .ok (.lreturn, 1) := by decide +kernel
theorem dX3_direction_0 : decode cX3_direction 0 = .ok (.aload_n 0, 1) := by decide +kernel
theorem dX3_direction_1 : decode cX3_direction 1 = .ok (.invokevirtual 109, 3) := by decide +kernel
theorem dX3_direction_4 : decode cX3_direction 4 = .ok (.aload_n 0, 1) := by decide +kernel
theorem dX3_direction_5 : decode cX3_direction 5 = .ok (.iload_n 1, 1) := by decide +kernel
theorem dX3_direction_6 : decode cX3_direction 6 = .ok (.invokevirtual 119, 3) := by decide +kernel
theorem dX3_direction_9 : decode cX3_direction 9 = .ok (.istore 4, 2) := by decide +kernel
theorem dX3_direction_11 : decode cX3_direction 11 = .ok (.iload 4, 2) := by decide +kernel
theorem dX3_direction_13 : decode cX3_direction 13 = .ok (.iconst (-1), 1) := by decide +kernel
theorem dX3_direction_14 : decode cX3_direction 14 = .ok (.if_icmp .eq 11, 3) := by decide +kernel
theorem dX3_direction_17 : decode cX3_direction 17 = .ok (.aload_n 0, 1) := by decide +kernel
theorem dX3_direction_18 : decode cX3_direction 18 = .ok (.iload_n 2, 1) := by decide +kernel
theorem dX3_direction_19 : decode cX3_direction 19 = .ok (.invokevirtual 127, 3) := by decide +kernel
theorem dX3_direction_22 : decode cX3_direction 22 = .ok (.ifCond .ne 10, 3) := by decide +kernel
theorem dX3_direction_25 : decode cX3_direction 25 = .ok (.aload_n 0, 1) := by decide +kernel
theorem dX3_direction_26 : decode cX3_direction 26 = .ok (.iconst 1, 1) := by decide +kernel
theorem dX3_direction_27 : decode cX3_direction 27 = .ok (.invokevirtual 130, 3) := by decide +kernel
theorem dX3_direction_30 : decode cX3_direction 30 = .ok (.i2l, 1) := by decide +kernel
theorem dX3_direction_31 : decode cX3_direction 31 = .ok (.lreturn, 1) := by decide +kernel
theorem dX3_direction_32 : decode cX3_direction 32 = .ok (.aload_n 0, 1) := by decide +kernel
theorem dX3_direction_33 : decode cX3_direction 33 = .ok (.iload_n 3, 1) := by decide +kernel
theorem dX3_direction_34 : decode cX3_direction 34 = .ok (.i2l, 1) := by decide +kernel
theorem dX3_direction_35 : decode cX3_direction 35 = .ok (.lconst 0, 1) := by decide +kernel
theorem dX3_direction_36 : decode cX3_direction 36 = .ok (.lconst 1, 1) := by decide +kernel
theorem dX3_direction_37 : decode cX3_direction 37 = .ok (.invokestatic 75, 3) := by decide +kernel
theorem dX3_direction_40 : decode cX3_direction 40 = .ok (.ifCond .eq 7, 3) := by decide +kernel
theorem dX3_direction_43 : decode cX3_direction 43 = .ok (.iconst 0, 1) := by decide +kernel
theorem dX3_direction_44 : decode cX3_direction 44 = .ok (.goto 4, 3) := by decide +kernel
theorem dX3_direction_47 : decode cX3_direction 47 = .ok (.iconst 2, 1) := by decide +kernel
theorem dX3_direction_48 : decode cX3_direction 48 = .ok (.putfield 58, 3) := by decide +kernel
theorem dX3_direction_51 : decode cX3_direction 51 = .ok (.aload_n 0, 1) := by decide +kernel
theorem dX3_direction_52 : decode cX3_direction 52 = .ok (.getfield 58, 3) := by decide +kernel
theorem dX3_direction_55 : decode cX3_direction 55 = .ok (.ifCond .le 5, 3) := by decide +kernel
theorem dX3_direction_58 : decode cX3_direction 58 = .ok (.lconst 0, 1) := by decide +kernel
theorem dX3_direction_59 : decode cX3_direction 59 = .ok (.lreturn, 1) := by decide +kernel
theorem dX3_direction_60 : decode cX3_direction 60 = .ok (.iconst 0, 1) := by decide +kernel
theorem dX3_direction_61 : decode cX3_direction 61 = .ok (.istore 5, 2) := by decide +kernel
theorem dX3_direction_63 : decode cX3_direction 63 = .ok (.iload 5, 2) := by decide +kernel
theorem dX3_direction_65 : decode cX3_direction 65 = .ok (.aload_n 0, 1) := by decide +kernel
theorem dX3_direction_66 : decode cX3_direction 66 = .ok (.getfield 95, 3) := by decide +kernel
theorem dX3_direction_69 : decode cX3_direction 69 = .ok (.if_icmp .ge 35, 3) := by decide +kernel
theorem dX3_direction_72 : decode cX3_direction 72 = .ok (.aload_n 0, 1) := by decide +kernel
theorem dX3_direction_73 : decode cX3_direction 73 = .ok (.getfield 27, 3) := by decide +kernel
theorem dX3_direction_76 : decode cX3_direction 76 = .ok (.iload 5, 2) := by decide +kernel
theorem dX3_direction_78 : decode cX3_direction 78 = .ok (.aload_n 0, 1) := by decide +kernel
theorem dX3_direction_79 : decode cX3_direction 79 = .ok (.getfield 7, 3) := by decide +kernel
theorem dX3_direction_82 : decode cX3_direction 82 = .ok (.iconst 4, 1) := by decide +kernel
theorem dX3_direction_83 : decode cX3_direction 83 = .ok (.aload_n 0, 1) := by decide +kernel
theorem dX3_direction_84 : decode cX3_direction 84 = .ok (.getfield 16, 3) := by decide +kernel
theorem dX3_direction_87 : decode cX3_direction 87 = .ok (.iload 5, 2) := by decide +kernel
theorem dX3_direction_89 : decode cX3_direction 89 = .ok (.iaload, 1) := by decide +kernel
theorem dX3_direction_90 : decode cX3_direction 90 = .ok (.imul, 1) := by decide +kernel
theorem dX3_direction_91 : decode cX3_direction 91 = .ok (.iload 4, 2) := by decide +kernel
theorem dX3_direction_93 : decode cX3_direction 93 = .ok (.iadd, 1) := by decide +kernel
theorem dX3_direction_94 : decode cX3_direction 94 = .ok (.iaload, 1) := by decide +kernel
theorem dX3_direction_95 : decode cX3_direction 95 = .ok (.ineg, 1) := by decide +kernel
theorem dX3_direction_96 : decode cX3_direction 96 = .ok (.i2l, 1) := by decide +kernel
theorem dX3_direction_97 : decode cX3_direction 97 = .ok (.lastore, 1) := by decide +kernel
theorem dX3_direction_98 : decode cX3_direction 98 = .ok (.iinc 5 1, 3) := by decide +kernel
theorem dX3_direction_101 : decode cX3_direction 101 = .ok (.goto (-38), 3) := by decide +kernel
theorem dX3_direction_104 : decode cX3_direction 104 = .ok (.aload_n 0, 1) := by decide +kernel
theorem dX3_direction_105 : decode cX3_direction 105 = .ok (.invokevirtual 112, 3) := by decide +kernel
theorem dX3_direction_108 : decode cX3_direction 108 = .ok (.aload_n 0, 1) := by decide +kernel
theorem dX3_direction_109 : decode cX3_direction 109 = .ok (.iload_n 2, 1) := by decide +kernel
theorem dX3_direction_110 : decode cX3_direction 110 = .ok (.invokevirtual 133, 3) := by decide +kernel
theorem dX3_direction_113 : decode cX3_direction 113 = .ok (.iload_n 2, 1) := by decide +kernel
theorem dX3_direction_114 : decode cX3_direction 114 = .ok (.iload 4, 2) := by decide +kernel
theorem dX3_direction_116 : decode cX3_direction 116 = .ok (.if_icmp .ne 9, 3) := by decide +kernel
theorem dX3_direction_119 : decode cX3_direction 119 = .ok (.aload_n 0, 1) := by decide +kernel
theorem dX3_direction_120 : decode cX3_direction 120 = .ok (.lconst 1, 1) := by decide +kernel
theorem dX3_direction_121 : decode cX3_direction 121 = .ok (.lconst 1, 1) := by decide +kernel
theorem dX3_direction_122 : decode cX3_direction 122 = .ok (.invokevirtual 123, 3) := by decide +kernel
theorem dX3_direction_125 : decode cX3_direction 125 = .ok (.aload_n 0, 1) := by decide +kernel
theorem dX3_direction_126 : decode cX3_direction 126 = .ok (.iload_n 3, 1) := by decide +kernel
theorem dX3_direction_127 : decode cX3_direction 127 = .ok (.invokevirtual 136, 3) := by decide +kernel
theorem dX3_direction_130 : decode cX3_direction 130 = .ok (.lreturn, 1) := by decide +kernel
theorem dX3_member_0 : decode cX3_member 0 = .ok (.aload_n 0, 1) := by decide +kernel
theorem dX3_member_1 : decode cX3_member 1 = .ok (.getfield 36, 3) := by decide +kernel
theorem dX3_member_4 : decode cX3_member 4 = .ok (.iconst 3, 1) := by decide +kernel
theorem dX3_member_5 : decode cX3_member 5 = .ok (.aload_n 0, 1) := by decide +kernel
theorem dX3_member_6 : decode cX3_member 6 = .ok (.getfield 139, 3) := by decide +kernel
theorem dX3_member_9 : decode cX3_member 9 = .ok (.imul, 1) := by decide +kernel
theorem dX3_member_10 : decode cX3_member 10 = .ok (.lload_n 1, 1) := by decide +kernel
theorem dX3_member_11 : decode cX3_member 11 = .ok (.lastore, 1) := by decide +kernel
theorem dX3_member_12 : decode cX3_member 12 = .ok (.aload_n 0, 1) := by decide +kernel
theorem dX3_member_13 : decode cX3_member 13 = .ok (.getfield 36, 3) := by decide +kernel
theorem dX3_member_16 : decode cX3_member 16 = .ok (.iconst 3, 1) := by decide +kernel
theorem dX3_member_17 : decode cX3_member 17 = .ok (.aload_n 0, 1) := by decide +kernel
theorem dX3_member_18 : decode cX3_member 18 = .ok (.getfield 139, 3) := by decide +kernel
theorem dX3_member_21 : decode cX3_member 21 = .ok (.imul, 1) := by decide +kernel
theorem dX3_member_22 : decode cX3_member 22 = .ok (.iconst 1, 1) := by decide +kernel
theorem dX3_member_23 : decode cX3_member 23 = .ok (.iadd, 1) := by decide +kernel
theorem dX3_member_24 : decode cX3_member 24 = .ok (.lload_n 3, 1) := by decide +kernel
theorem dX3_member_25 : decode cX3_member 25 = .ok (.lastore, 1) := by decide +kernel
theorem dX3_member_26 : decode cX3_member 26 = .ok (.aload_n 0, 1) := by decide +kernel
theorem dX3_member_27 : decode cX3_member 27 = .ok (.getfield 36, 3) := by decide +kernel
theorem dX3_member_30 : decode cX3_member 30 = .ok (.iconst 3, 1) := by decide +kernel
theorem dX3_member_31 : decode cX3_member 31 = .ok (.aload_n 0, 1) := by decide +kernel
theorem dX3_member_32 : decode cX3_member 32 = .ok (.getfield 139, 3) := by decide +kernel
theorem dX3_member_35 : decode cX3_member 35 = .ok (.imul, 1) := by decide +kernel
theorem dX3_member_36 : decode cX3_member 36 = .ok (.iconst 2, 1) := by decide +kernel
theorem dX3_member_37 : decode cX3_member 37 = .ok (.iadd, 1) := by decide +kernel
theorem dX3_member_38 : decode cX3_member 38 = .ok (.lload 5, 2) := by decide +kernel
theorem dX3_member_40 : decode cX3_member 40 = .ok (.lastore, 1) := by decide +kernel
theorem dX3_member_41 : decode cX3_member 41 = .ok (.aload_n 0, 1) := by decide +kernel
theorem dX3_member_42 : decode cX3_member 42 = .ok (.dup, 1) := by decide +kernel
theorem dX3_member_43 : decode cX3_member 43 = .ok (.getfield 139, 3) := by decide +kernel
theorem dX3_member_46 : decode cX3_member 46 = .ok (.iconst 1, 1) := by decide +kernel
theorem dX3_member_47 : decode cX3_member 47 = .ok (.iadd, 1) := by decide +kernel
theorem dX3_member_48 : decode cX3_member 48 = .ok (.putfield 139, 3) := by decide +kernel
theorem dX3_member_51 : decode cX3_member 51 = .ok (.return_, 1) := by decide +kernel
theorem dX3_lineOf_0 : decode cX3_lineOf 0 = .ok (.lload_n 1, 1) := by decide +kernel
theorem dX3_lineOf_1 : decode cX3_lineOf 1 = .ok (.lload_n 3, 1) := by decide +kernel
theorem dX3_lineOf_2 : decode cX3_lineOf 2 = .ok (.lload 5, 2) := by decide +kernel
theorem dX3_lineOf_4 : decode cX3_lineOf 4 = .ok (.invokestatic 61, 3) := by decide +kernel
theorem dX3_lineOf_7 : decode cX3_lineOf 7 = .ok (.invokestatic 61, 3) := by decide +kernel
theorem dX3_lineOf_10 : decode cX3_lineOf 10 = .ok (.lstore 7, 2) := by decide +kernel
theorem dX3_lineOf_12 : decode cX3_lineOf 12 = .ok (.lload_n 1, 1) := by decide +kernel
theorem dX3_lineOf_13 : decode cX3_lineOf 13 = .ok (.lconst 0, 1) := by decide +kernel
theorem dX3_lineOf_14 : decode cX3_lineOf 14 = .ok (.lcmp, 1) := by decide +kernel
theorem dX3_lineOf_15 : decode cX3_lineOf 15 = .ok (.ifCond .eq 7, 3) := by decide +kernel
theorem dX3_lineOf_18 : decode cX3_lineOf 18 = .ok (.lload_n 1, 1) := by decide +kernel
theorem dX3_lineOf_19 : decode cX3_lineOf 19 = .ok (.goto 15, 3) := by decide +kernel
theorem dX3_lineOf_22 : decode cX3_lineOf 22 = .ok (.lload_n 3, 1) := by decide +kernel
theorem dX3_lineOf_23 : decode cX3_lineOf 23 = .ok (.lconst 0, 1) := by decide +kernel
theorem dX3_lineOf_24 : decode cX3_lineOf 24 = .ok (.lcmp, 1) := by decide +kernel
theorem dX3_lineOf_25 : decode cX3_lineOf 25 = .ok (.ifCond .eq 7, 3) := by decide +kernel
theorem dX3_lineOf_28 : decode cX3_lineOf 28 = .ok (.lload_n 3, 1) := by decide +kernel
theorem dX3_lineOf_29 : decode cX3_lineOf 29 = .ok (.goto 5, 3) := by decide +kernel
theorem dX3_lineOf_32 : decode cX3_lineOf 32 = .ok (.lload 5, 2) := by decide +kernel
theorem dX3_lineOf_34 : decode cX3_lineOf 34 = .ok (.lstore 9, 2) := by decide +kernel
theorem dX3_lineOf_36 : decode cX3_lineOf 36 = .ok (.lload 9, 2) := by decide +kernel
theorem dX3_lineOf_38 : decode cX3_lineOf 38 = .ok (.lconst 0, 1) := by decide +kernel
theorem dX3_lineOf_39 : decode cX3_lineOf 39 = .ok (.lcmp, 1) := by decide +kernel
theorem dX3_lineOf_40 : decode cX3_lineOf 40 = .ok (.ifCond .ge 9, 3) := by decide +kernel
theorem dX3_lineOf_43 : decode cX3_lineOf 43 = .ok (.lload 7, 2) := by decide +kernel
theorem dX3_lineOf_45 : decode cX3_lineOf 45 = .ok (.lneg, 1) := by decide +kernel
theorem dX3_lineOf_46 : decode cX3_lineOf 46 = .ok (.goto 5, 3) := by decide +kernel
theorem dX3_lineOf_49 : decode cX3_lineOf 49 = .ok (.lload 7, 2) := by decide +kernel
theorem dX3_lineOf_51 : decode cX3_lineOf 51 = .ok (.lstore 7, 2) := by decide +kernel
theorem dX3_lineOf_53 : decode cX3_lineOf 53 = .ok (.aload_n 0, 1) := by decide +kernel
theorem dX3_lineOf_54 : decode cX3_lineOf 54 = .ok (.lload_n 1, 1) := by decide +kernel
theorem dX3_lineOf_55 : decode cX3_lineOf 55 = .ok (.lload 7, 2) := by decide +kernel
theorem dX3_lineOf_57 : decode cX3_lineOf 57 = .ok (.ldiv, 1) := by decide +kernel
theorem dX3_lineOf_58 : decode cX3_lineOf 58 = .ok (.lload_n 3, 1) := by decide +kernel
theorem dX3_lineOf_59 : decode cX3_lineOf 59 = .ok (.lload 7, 2) := by decide +kernel
theorem dX3_lineOf_61 : decode cX3_lineOf 61 = .ok (.ldiv, 1) := by decide +kernel
theorem dX3_lineOf_62 : decode cX3_lineOf 62 = .ok (.lload 5, 2) := by decide +kernel
theorem dX3_lineOf_64 : decode cX3_lineOf 64 = .ok (.lload 7, 2) := by decide +kernel
theorem dX3_lineOf_66 : decode cX3_lineOf 66 = .ok (.ldiv, 1) := by decide +kernel
theorem dX3_lineOf_67 : decode cX3_lineOf 67 = .ok (.invokevirtual 142, 3) := by decide +kernel
theorem dX3_lineOf_70 : decode cX3_lineOf 70 = .ok (.return_, 1) := by decide +kernel
theorem dX3_planeOf_0 : decode cX3_planeOf 0 = .ok (.lload_n 3, 1) := by decide +kernel
theorem dX3_planeOf_1 : decode cX3_planeOf 1 = .ok (.lconst 0, 1) := by decide +kernel
theorem dX3_planeOf_2 : decode cX3_planeOf 2 = .ok (.lcmp, 1) := by decide +kernel
theorem dX3_planeOf_3 : decode cX3_planeOf 3 = .ok (.ifCond .ne 25, 3) := by decide +kernel
theorem dX3_planeOf_6 : decode cX3_planeOf 6 = .ok (.lload 5, 2) := by decide +kernel
theorem dX3_planeOf_8 : decode cX3_planeOf 8 = .ok (.lconst 0, 1) := by decide +kernel
theorem dX3_planeOf_9 : decode cX3_planeOf 9 = .ok (.lcmp, 1) := by decide +kernel
theorem dX3_planeOf_10 : decode cX3_planeOf 10 = .ok (.ifCond .ne 18, 3) := by decide +kernel
theorem dX3_planeOf_13 : decode cX3_planeOf 13 = .ok (.aload_n 0, 1) := by decide +kernel
theorem dX3_planeOf_14 : decode cX3_planeOf 14 = .ok (.lconst 0, 1) := by decide +kernel
theorem dX3_planeOf_15 : decode cX3_planeOf 15 = .ok (.lconst 1, 1) := by decide +kernel
theorem dX3_planeOf_16 : decode cX3_planeOf 16 = .ok (.lconst 0, 1) := by decide +kernel
theorem dX3_planeOf_17 : decode cX3_planeOf 17 = .ok (.invokevirtual 142, 3) := by decide +kernel
theorem dX3_planeOf_20 : decode cX3_planeOf 20 = .ok (.aload_n 0, 1) := by decide +kernel
theorem dX3_planeOf_21 : decode cX3_planeOf 21 = .ok (.lconst 0, 1) := by decide +kernel
theorem dX3_planeOf_22 : decode cX3_planeOf 22 = .ok (.lconst 0, 1) := by decide +kernel
theorem dX3_planeOf_23 : decode cX3_planeOf 23 = .ok (.lconst 1, 1) := by decide +kernel
theorem dX3_planeOf_24 : decode cX3_planeOf 24 = .ok (.invokevirtual 142, 3) := by decide +kernel
theorem dX3_planeOf_27 : decode cX3_planeOf 27 = .ok (.return_, 1) := by decide +kernel
theorem dX3_planeOf_28 : decode cX3_planeOf 28 = .ok (.lload_n 3, 1) := by decide +kernel
theorem dX3_planeOf_29 : decode cX3_planeOf 29 = .ok (.lload 5, 2) := by decide +kernel
theorem dX3_planeOf_31 : decode cX3_planeOf 31 = .ok (.invokestatic 61, 3) := by decide +kernel
theorem dX3_planeOf_34 : decode cX3_planeOf 34 = .ok (.lstore 7, 2) := by decide +kernel
theorem dX3_planeOf_36 : decode cX3_planeOf 36 = .ok (.lload_n 3, 1) := by decide +kernel
theorem dX3_planeOf_37 : decode cX3_planeOf 37 = .ok (.lload 7, 2) := by decide +kernel
theorem dX3_planeOf_39 : decode cX3_planeOf 39 = .ok (.ldiv, 1) := by decide +kernel
theorem dX3_planeOf_40 : decode cX3_planeOf 40 = .ok (.lstore 9, 2) := by decide +kernel
theorem dX3_planeOf_42 : decode cX3_planeOf 42 = .ok (.lload 5, 2) := by decide +kernel
theorem dX3_planeOf_44 : decode cX3_planeOf 44 = .ok (.lload 7, 2) := by decide +kernel
theorem dX3_planeOf_46 : decode cX3_planeOf 46 = .ok (.ldiv, 1) := by decide +kernel
theorem dX3_planeOf_47 : decode cX3_planeOf 47 = .ok (.lstore 11, 2) := by decide +kernel
theorem dX3_planeOf_49 : decode cX3_planeOf 49 = .ok (.lload 11, 2) := by decide +kernel
theorem dX3_planeOf_51 : decode cX3_planeOf 51 = .ok (.lconst 0, 1) := by decide +kernel
theorem dX3_planeOf_52 : decode cX3_planeOf 52 = .ok (.lcmp, 1) := by decide +kernel
theorem dX3_planeOf_53 : decode cX3_planeOf 53 = .ok (.ifCond .ge 9, 3) := by decide +kernel
theorem dX3_planeOf_56 : decode cX3_planeOf 56 = .ok (.lload 11, 2) := by decide +kernel
theorem dX3_planeOf_58 : decode cX3_planeOf 58 = .ok (.lneg, 1) := by decide +kernel
theorem dX3_planeOf_59 : decode cX3_planeOf 59 = .ok (.goto 5, 3) := by decide +kernel
theorem dX3_planeOf_62 : decode cX3_planeOf 62 = .ok (.lload 11, 2) := by decide +kernel
theorem dX3_planeOf_64 : decode cX3_planeOf 64 = .ok (.lstore 13, 2) := by decide +kernel
theorem dX3_planeOf_66 : decode cX3_planeOf 66 = .ok (.lload 11, 2) := by decide +kernel
theorem dX3_planeOf_68 : decode cX3_planeOf 68 = .ok (.lconst 0, 1) := by decide +kernel
theorem dX3_planeOf_69 : decode cX3_planeOf 69 = .ok (.lcmp, 1) := by decide +kernel
theorem dX3_planeOf_70 : decode cX3_planeOf 70 = .ok (.ifCond .ne 11, 3) := by decide +kernel
theorem dX3_planeOf_73 : decode cX3_planeOf 73 = .ok (.lload_n 1, 1) := by decide +kernel
theorem dX3_planeOf_74 : decode cX3_planeOf 74 = .ok (.lneg, 1) := by decide +kernel
theorem dX3_planeOf_75 : decode cX3_planeOf 75 = .ok (.lload 9, 2) := by decide +kernel
theorem dX3_planeOf_77 : decode cX3_planeOf 77 = .ok (.ldiv, 1) := by decide +kernel
theorem dX3_planeOf_78 : decode cX3_planeOf 78 = .ok (.goto 4, 3) := by decide +kernel
theorem dX3_planeOf_81 : decode cX3_planeOf 81 = .ok (.lconst 0, 1) := by decide +kernel
theorem dX3_planeOf_82 : decode cX3_planeOf 82 = .ok (.lstore 15, 2) := by decide +kernel
theorem dX3_planeOf_84 : decode cX3_planeOf 84 = .ok (.lload 11, 2) := by decide +kernel
theorem dX3_planeOf_86 : decode cX3_planeOf 86 = .ok (.lconst 0, 1) := by decide +kernel
theorem dX3_planeOf_87 : decode cX3_planeOf 87 = .ok (.lcmp, 1) := by decide +kernel
theorem dX3_planeOf_88 : decode cX3_planeOf 88 = .ok (.ifCond .eq 28, 3) := by decide +kernel
theorem dX3_planeOf_91 : decode cX3_planeOf 91 = .ok (.lload_n 1, 1) := by decide +kernel
theorem dX3_planeOf_92 : decode cX3_planeOf 92 = .ok (.lneg, 1) := by decide +kernel
theorem dX3_planeOf_93 : decode cX3_planeOf 93 = .ok (.lload 9, 2) := by decide +kernel
theorem dX3_planeOf_95 : decode cX3_planeOf 95 = .ok (.lload 15, 2) := by decide +kernel
theorem dX3_planeOf_97 : decode cX3_planeOf 97 = .ok (.lmul, 1) := by decide +kernel
theorem dX3_planeOf_98 : decode cX3_planeOf 98 = .ok (.lsub, 1) := by decide +kernel
theorem dX3_planeOf_99 : decode cX3_planeOf 99 = .ok (.lload 11, 2) := by decide +kernel
theorem dX3_planeOf_101 : decode cX3_planeOf 101 = .ok (.lrem, 1) := by decide +kernel
theorem dX3_planeOf_102 : decode cX3_planeOf 102 = .ok (.lconst 0, 1) := by decide +kernel
theorem dX3_planeOf_103 : decode cX3_planeOf 103 = .ok (.lcmp, 1) := by decide +kernel
theorem dX3_planeOf_104 : decode cX3_planeOf 104 = .ok (.ifCond .eq 12, 3) := by decide +kernel
theorem dX3_planeOf_107 : decode cX3_planeOf 107 = .ok (.lload 15, 2) := by decide +kernel
theorem dX3_planeOf_109 : decode cX3_planeOf 109 = .ok (.lconst 1, 1) := by decide +kernel
theorem dX3_planeOf_110 : decode cX3_planeOf 110 = .ok (.ladd, 1) := by decide +kernel
theorem dX3_planeOf_111 : decode cX3_planeOf 111 = .ok (.lstore 15, 2) := by decide +kernel
theorem dX3_planeOf_113 : decode cX3_planeOf 113 = .ok (.goto (-29), 3) := by decide +kernel
theorem dX3_planeOf_116 : decode cX3_planeOf 116 = .ok (.aload_n 0, 1) := by decide +kernel
theorem dX3_planeOf_117 : decode cX3_planeOf 117 = .ok (.lload 7, 2) := by decide +kernel
theorem dX3_planeOf_119 : decode cX3_planeOf 119 = .ok (.lload 15, 2) := by decide +kernel
theorem dX3_planeOf_121 : decode cX3_planeOf 121 = .ok (.lload 11, 2) := by decide +kernel
theorem dX3_planeOf_123 : decode cX3_planeOf 123 = .ok (.lconst 0, 1) := by decide +kernel
theorem dX3_planeOf_124 : decode cX3_planeOf 124 = .ok (.lcmp, 1) := by decide +kernel
theorem dX3_planeOf_125 : decode cX3_planeOf 125 = .ok (.ifCond .ne 7, 3) := by decide +kernel
theorem dX3_planeOf_128 : decode cX3_planeOf 128 = .ok (.lconst 0, 1) := by decide +kernel
theorem dX3_planeOf_129 : decode cX3_planeOf 129 = .ok (.goto 14, 3) := by decide +kernel
theorem dX3_planeOf_132 : decode cX3_planeOf 132 = .ok (.lload_n 1, 1) := by decide +kernel
theorem dX3_planeOf_133 : decode cX3_planeOf 133 = .ok (.lneg, 1) := by decide +kernel
theorem dX3_planeOf_134 : decode cX3_planeOf 134 = .ok (.lload 9, 2) := by decide +kernel
theorem dX3_planeOf_136 : decode cX3_planeOf 136 = .ok (.lload 15, 2) := by decide +kernel
theorem dX3_planeOf_138 : decode cX3_planeOf 138 = .ok (.lmul, 1) := by decide +kernel
theorem dX3_planeOf_139 : decode cX3_planeOf 139 = .ok (.lsub, 1) := by decide +kernel
theorem dX3_planeOf_140 : decode cX3_planeOf 140 = .ok (.lload 11, 2) := by decide +kernel
theorem dX3_planeOf_142 : decode cX3_planeOf 142 = .ok (.ldiv, 1) := by decide +kernel
theorem dX3_planeOf_143 : decode cX3_planeOf 143 = .ok (.invokevirtual 142, 3) := by decide +kernel
theorem dX3_planeOf_146 : decode cX3_planeOf 146 = .ok (.lload 11, 2) := by decide +kernel
theorem dX3_planeOf_148 : decode cX3_planeOf 148 = .ok (.lconst 0, 1) := by decide +kernel
theorem dX3_planeOf_149 : decode cX3_planeOf 149 = .ok (.lcmp, 1) := by decide +kernel
theorem dX3_planeOf_150 : decode cX3_planeOf 150 = .ok (.ifCond .ne 13, 3) := by decide +kernel
theorem dX3_planeOf_153 : decode cX3_planeOf 153 = .ok (.aload_n 0, 1) := by decide +kernel
theorem dX3_planeOf_154 : decode cX3_planeOf 154 = .ok (.lconst 0, 1) := by decide +kernel
theorem dX3_planeOf_155 : decode cX3_planeOf 155 = .ok (.lconst 0, 1) := by decide +kernel
theorem dX3_planeOf_156 : decode cX3_planeOf 156 = .ok (.lconst 1, 1) := by decide +kernel
theorem dX3_planeOf_157 : decode cX3_planeOf 157 = .ok (.invokevirtual 142, 3) := by decide +kernel
theorem dX3_planeOf_160 : decode cX3_planeOf 160 = .ok (.goto 25, 3) := by decide +kernel
theorem dX3_planeOf_163 : decode cX3_planeOf 163 = .ok (.aload_n 0, 1) := by decide +kernel
theorem dX3_planeOf_164 : decode cX3_planeOf 164 = .ok (.lconst 0, 1) := by decide +kernel
theorem dX3_planeOf_165 : decode cX3_planeOf 165 = .ok (.lload 13, 2) := by decide +kernel
theorem dX3_planeOf_167 : decode cX3_planeOf 167 = .ok (.lload 11, 2) := by decide +kernel
theorem dX3_planeOf_169 : decode cX3_planeOf 169 = .ok (.lconst 0, 1) := by decide +kernel
theorem dX3_planeOf_170 : decode cX3_planeOf 170 = .ok (.lcmp, 1) := by decide +kernel
theorem dX3_planeOf_171 : decode cX3_planeOf 171 = .ok (.ifCond .ge 8, 3) := by decide +kernel
theorem dX3_planeOf_174 : decode cX3_planeOf 174 = .ok (.lload 9, 2) := by decide +kernel
theorem dX3_planeOf_176 : decode cX3_planeOf 176 = .ok (.goto 6, 3) := by decide +kernel
theorem dX3_planeOf_179 : decode cX3_planeOf 179 = .ok (.lload 9, 2) := by decide +kernel
theorem dX3_planeOf_181 : decode cX3_planeOf 181 = .ok (.lneg, 1) := by decide +kernel
theorem dX3_planeOf_182 : decode cX3_planeOf 182 = .ok (.invokevirtual 142, 3) := by decide +kernel
theorem dX3_planeOf_185 : decode cX3_planeOf 185 = .ok (.return_, 1) := by decide +kernel
theorem dX3_findBase_0 : decode cX3_findBase 0 = .ok (.aload_n 0, 1) := by decide +kernel
theorem dX3_findBase_1 : decode cX3_findBase 1 = .ok (.invokevirtual 109, 3) := by decide +kernel
theorem dX3_findBase_4 : decode cX3_findBase 4 = .ok (.aload_n 0, 1) := by decide +kernel
theorem dX3_findBase_5 : decode cX3_findBase 5 = .ok (.iconst 0, 1) := by decide +kernel
theorem dX3_findBase_6 : decode cX3_findBase 6 = .ok (.putfield 139, 3) := by decide +kernel
theorem dX3_findBase_9 : decode cX3_findBase 9 = .ok (.aload_n 0, 1) := by decide +kernel
theorem dX3_findBase_10 : decode cX3_findBase 10 = .ok (.getfield 95, 3) := by decide +kernel
theorem dX3_findBase_13 : decode cX3_findBase 13 = .ok (.ifCond .ne 55, 3) := by decide +kernel
theorem dX3_findBase_16 : decode cX3_findBase 16 = .ok (.iconst 0, 1) := by decide +kernel
theorem dX3_findBase_17 : decode cX3_findBase 17 = .ok (.istore_n 1, 1) := by decide +kernel
theorem dX3_findBase_18 : decode cX3_findBase 18 = .ok (.iload_n 1, 1) := by decide +kernel
theorem dX3_findBase_19 : decode cX3_findBase 19 = .ok (.aload_n 0, 1) := by decide +kernel
theorem dX3_findBase_20 : decode cX3_findBase 20 = .ok (.getfield 54, 3) := by decide +kernel
theorem dX3_findBase_23 : decode cX3_findBase 23 = .ok (.if_icmp .ge 42, 3) := by decide +kernel
theorem dX3_findBase_26 : decode cX3_findBase 26 = .ok (.aload_n 0, 1) := by decide +kernel
theorem dX3_findBase_27 : decode cX3_findBase 27 = .ok (.iload_n 1, 1) := by decide +kernel
theorem dX3_findBase_28 : decode cX3_findBase 28 = .ok (.ifCond .ne 7, 3) := by decide +kernel
theorem dX3_findBase_31 : decode cX3_findBase 31 = .ok (.lconst 1, 1) := by decide +kernel
theorem dX3_findBase_32 : decode cX3_findBase 32 = .ok (.goto 4, 3) := by decide +kernel
theorem dX3_findBase_35 : decode cX3_findBase 35 = .ok (.lconst 0, 1) := by decide +kernel
theorem dX3_findBase_36 : decode cX3_findBase 36 = .ok (.iload_n 1, 1) := by decide +kernel
theorem dX3_findBase_37 : decode cX3_findBase 37 = .ok (.iconst 1, 1) := by decide +kernel
theorem dX3_findBase_38 : decode cX3_findBase 38 = .ok (.if_icmp .ne 7, 3) := by decide +kernel
theorem dX3_findBase_41 : decode cX3_findBase 41 = .ok (.lconst 1, 1) := by decide +kernel
theorem dX3_findBase_42 : decode cX3_findBase 42 = .ok (.goto 4, 3) := by decide +kernel
theorem dX3_findBase_45 : decode cX3_findBase 45 = .ok (.lconst 0, 1) := by decide +kernel
theorem dX3_findBase_46 : decode cX3_findBase 46 = .ok (.iload_n 1, 1) := by decide +kernel
theorem dX3_findBase_47 : decode cX3_findBase 47 = .ok (.iconst 2, 1) := by decide +kernel
theorem dX3_findBase_48 : decode cX3_findBase 48 = .ok (.if_icmp .ne 7, 3) := by decide +kernel
theorem dX3_findBase_51 : decode cX3_findBase 51 = .ok (.lconst 1, 1) := by decide +kernel
theorem dX3_findBase_52 : decode cX3_findBase 52 = .ok (.goto 4, 3) := by decide +kernel
theorem dX3_findBase_55 : decode cX3_findBase 55 = .ok (.lconst 0, 1) := by decide +kernel
theorem dX3_findBase_56 : decode cX3_findBase 56 = .ok (.invokevirtual 142, 3) := by decide +kernel
theorem dX3_findBase_59 : decode cX3_findBase 59 = .ok (.iinc 1 1, 3) := by decide +kernel
theorem dX3_findBase_62 : decode cX3_findBase 62 = .ok (.goto (-44), 3) := by decide +kernel
theorem dX3_findBase_65 : decode cX3_findBase 65 = .ok (.goto 197, 3) := by decide +kernel
theorem dX3_findBase_68 : decode cX3_findBase 68 = .ok (.aload_n 0, 1) := by decide +kernel
theorem dX3_findBase_69 : decode cX3_findBase 69 = .ok (.getfield 95, 3) := by decide +kernel
theorem dX3_findBase_72 : decode cX3_findBase 72 = .ok (.iconst 1, 1) := by decide +kernel
theorem dX3_findBase_73 : decode cX3_findBase 73 = .ok (.iadd, 1) := by decide +kernel
theorem dX3_findBase_74 : decode cX3_findBase 74 = .ok (.aload_n 0, 1) := by decide +kernel
theorem dX3_findBase_75 : decode cX3_findBase 75 = .ok (.getfield 54, 3) := by decide +kernel
theorem dX3_findBase_78 : decode cX3_findBase 78 = .ok (.if_icmp .ne 120, 3) := by decide +kernel
theorem dX3_findBase_81 : decode cX3_findBase 81 = .ok (.aload_n 0, 1) := by decide +kernel
theorem dX3_findBase_82 : decode cX3_findBase 82 = .ok (.getfield 54, 3) := by decide +kernel
theorem dX3_findBase_85 : decode cX3_findBase 85 = .ok (.iconst 2, 1) := by decide +kernel
theorem dX3_findBase_86 : decode cX3_findBase 86 = .ok (.if_icmp .ne 24, 3) := by decide +kernel
theorem dX3_findBase_89 : decode cX3_findBase 89 = .ok (.aload_n 0, 1) := by decide +kernel
theorem dX3_findBase_90 : decode cX3_findBase 90 = .ok (.aload_n 0, 1) := by decide +kernel
theorem dX3_findBase_91 : decode cX3_findBase 91 = .ok (.iconst 0, 1) := by decide +kernel
theorem dX3_findBase_92 : decode cX3_findBase 92 = .ok (.iconst 1, 1) := by decide +kernel
theorem dX3_findBase_93 : decode cX3_findBase 93 = .ok (.invokevirtual 146, 3) := by decide +kernel
theorem dX3_findBase_96 : decode cX3_findBase 96 = .ok (.aload_n 0, 1) := by decide +kernel
theorem dX3_findBase_97 : decode cX3_findBase 97 = .ok (.iconst 0, 1) := by decide +kernel
theorem dX3_findBase_98 : decode cX3_findBase 98 = .ok (.iconst 0, 1) := by decide +kernel
theorem dX3_findBase_99 : decode cX3_findBase 99 = .ok (.invokevirtual 146, 3) := by decide +kernel
theorem dX3_findBase_102 : decode cX3_findBase 102 = .ok (.lneg, 1) := by decide +kernel
theorem dX3_findBase_103 : decode cX3_findBase 103 = .ok (.lconst 0, 1) := by decide +kernel
theorem dX3_findBase_104 : decode cX3_findBase 104 = .ok (.invokevirtual 150, 3) := by decide +kernel
theorem dX3_findBase_107 : decode cX3_findBase 107 = .ok (.goto 155, 3) := by decide +kernel
theorem dX3_findBase_110 : decode cX3_findBase 110 = .ok (.aload_n 0, 1) := by decide +kernel
theorem dX3_findBase_111 : decode cX3_findBase 111 = .ok (.aload_n 0, 1) := by decide +kernel
theorem dX3_findBase_112 : decode cX3_findBase 112 = .ok (.iconst 0, 1) := by decide +kernel
theorem dX3_findBase_113 : decode cX3_findBase 113 = .ok (.iconst 1, 1) := by decide +kernel
theorem dX3_findBase_114 : decode cX3_findBase 114 = .ok (.invokevirtual 146, 3) := by decide +kernel
theorem dX3_findBase_117 : decode cX3_findBase 117 = .ok (.aload_n 0, 1) := by decide +kernel
theorem dX3_findBase_118 : decode cX3_findBase 118 = .ok (.iconst 1, 1) := by decide +kernel
theorem dX3_findBase_119 : decode cX3_findBase 119 = .ok (.iconst 2, 1) := by decide +kernel
theorem dX3_findBase_120 : decode cX3_findBase 120 = .ok (.invokevirtual 146, 3) := by decide +kernel
theorem dX3_findBase_123 : decode cX3_findBase 123 = .ok (.lmul, 1) := by decide +kernel
theorem dX3_findBase_124 : decode cX3_findBase 124 = .ok (.aload_n 0, 1) := by decide +kernel
theorem dX3_findBase_125 : decode cX3_findBase 125 = .ok (.iconst 0, 1) := by decide +kernel
theorem dX3_findBase_126 : decode cX3_findBase 126 = .ok (.iconst 2, 1) := by decide +kernel
theorem dX3_findBase_127 : decode cX3_findBase 127 = .ok (.invokevirtual 146, 3) := by decide +kernel
theorem dX3_findBase_130 : decode cX3_findBase 130 = .ok (.aload_n 0, 1) := by decide +kernel
theorem dX3_findBase_131 : decode cX3_findBase 131 = .ok (.iconst 1, 1) := by decide +kernel
theorem dX3_findBase_132 : decode cX3_findBase 132 = .ok (.iconst 1, 1) := by decide +kernel
theorem dX3_findBase_133 : decode cX3_findBase 133 = .ok (.invokevirtual 146, 3) := by decide +kernel
theorem dX3_findBase_136 : decode cX3_findBase 136 = .ok (.lmul, 1) := by decide +kernel
theorem dX3_findBase_137 : decode cX3_findBase 137 = .ok (.lsub, 1) := by decide +kernel
theorem dX3_findBase_138 : decode cX3_findBase 138 = .ok (.aload_n 0, 1) := by decide +kernel
theorem dX3_findBase_139 : decode cX3_findBase 139 = .ok (.iconst 0, 1) := by decide +kernel
theorem dX3_findBase_140 : decode cX3_findBase 140 = .ok (.iconst 2, 1) := by decide +kernel
theorem dX3_findBase_141 : decode cX3_findBase 141 = .ok (.invokevirtual 146, 3) := by decide +kernel
theorem dX3_findBase_144 : decode cX3_findBase 144 = .ok (.aload_n 0, 1) := by decide +kernel
theorem dX3_findBase_145 : decode cX3_findBase 145 = .ok (.iconst 1, 1) := by decide +kernel
theorem dX3_findBase_146 : decode cX3_findBase 146 = .ok (.iconst 0, 1) := by decide +kernel
theorem dX3_findBase_147 : decode cX3_findBase 147 = .ok (.invokevirtual 146, 3) := by decide +kernel
theorem dX3_findBase_150 : decode cX3_findBase 150 = .ok (.lmul, 1) := by decide +kernel
theorem dX3_findBase_151 : decode cX3_findBase 151 = .ok (.aload_n 0, 1) := by decide +kernel
theorem dX3_findBase_152 : decode cX3_findBase 152 = .ok (.iconst 0, 1) := by decide +kernel
theorem dX3_findBase_153 : decode cX3_findBase 153 = .ok (.iconst 0, 1) := by decide +kernel
theorem dX3_findBase_154 : decode cX3_findBase 154 = .ok (.invokevirtual 146, 3) := by decide +kernel
theorem dX3_findBase_157 : decode cX3_findBase 157 = .ok (.aload_n 0, 1) := by decide +kernel
theorem dX3_findBase_158 : decode cX3_findBase 158 = .ok (.iconst 1, 1) := by decide +kernel
theorem dX3_findBase_159 : decode cX3_findBase 159 = .ok (.iconst 2, 1) := by decide +kernel
theorem dX3_findBase_160 : decode cX3_findBase 160 = .ok (.invokevirtual 146, 3) := by decide +kernel
theorem dX3_findBase_163 : decode cX3_findBase 163 = .ok (.lmul, 1) := by decide +kernel
theorem dX3_findBase_164 : decode cX3_findBase 164 = .ok (.lsub, 1) := by decide +kernel
theorem dX3_findBase_165 : decode cX3_findBase 165 = .ok (.aload_n 0, 1) := by decide +kernel
theorem dX3_findBase_166 : decode cX3_findBase 166 = .ok (.iconst 0, 1) := by decide +kernel
theorem dX3_findBase_167 : decode cX3_findBase 167 = .ok (.iconst 0, 1) := by decide +kernel
theorem dX3_findBase_168 : decode cX3_findBase 168 = .ok (.invokevirtual 146, 3) := by decide +kernel
theorem dX3_findBase_171 : decode cX3_findBase 171 = .ok (.aload_n 0, 1) := by decide +kernel
theorem dX3_findBase_172 : decode cX3_findBase 172 = .ok (.iconst 1, 1) := by decide +kernel
theorem dX3_findBase_173 : decode cX3_findBase 173 = .ok (.iconst 1, 1) := by decide +kernel
theorem dX3_findBase_174 : decode cX3_findBase 174 = .ok (.invokevirtual 146, 3) := by decide +kernel
theorem dX3_findBase_177 : decode cX3_findBase 177 = .ok (.lmul, 1) := by decide +kernel
theorem dX3_findBase_178 : decode cX3_findBase 178 = .ok (.aload_n 0, 1) := by decide +kernel
theorem dX3_findBase_179 : decode cX3_findBase 179 = .ok (.iconst 0, 1) := by decide +kernel
theorem dX3_findBase_180 : decode cX3_findBase 180 = .ok (.iconst 1, 1) := by decide +kernel
theorem dX3_findBase_181 : decode cX3_findBase 181 = .ok (.invokevirtual 146, 3) := by decide +kernel
theorem dX3_findBase_184 : decode cX3_findBase 184 = .ok (.aload_n 0, 1) := by decide +kernel
theorem dX3_findBase_185 : decode cX3_findBase 185 = .ok (.iconst 1, 1) := by decide +kernel
theorem dX3_findBase_186 : decode cX3_findBase 186 = .ok (.iconst 0, 1) := by decide +kernel
theorem dX3_findBase_187 : decode cX3_findBase 187 = .ok (.invokevirtual 146, 3) := by decide +kernel
theorem dX3_findBase_190 : decode cX3_findBase 190 = .ok (.lmul, 1) := by decide +kernel
theorem dX3_findBase_191 : decode cX3_findBase 191 = .ok (.lsub, 1) := by decide +kernel
theorem dX3_findBase_192 : decode cX3_findBase 192 = .ok (.invokevirtual 150, 3) := by decide +kernel
theorem dX3_findBase_195 : decode cX3_findBase 195 = .ok (.goto 67, 3) := by decide +kernel
theorem dX3_findBase_198 : decode cX3_findBase 198 = .ok (.aload_n 0, 1) := by decide +kernel
theorem dX3_findBase_199 : decode cX3_findBase 199 = .ok (.getfield 95, 3) := by decide +kernel
theorem dX3_findBase_202 : decode cX3_findBase 202 = .ok (.aload_n 0, 1) := by decide +kernel
theorem dX3_findBase_203 : decode cX3_findBase 203 = .ok (.getfield 54, 3) := by decide +kernel
theorem dX3_findBase_206 : decode cX3_findBase 206 = .ok (.if_icmp .ge 56, 3) := by decide +kernel
theorem dX3_findBase_209 : decode cX3_findBase 209 = .ok (.aload_n 0, 1) := by decide +kernel
theorem dX3_findBase_210 : decode cX3_findBase 210 = .ok (.iconst 0, 1) := by decide +kernel
theorem dX3_findBase_211 : decode cX3_findBase 211 = .ok (.iconst 0, 1) := by decide +kernel
theorem dX3_findBase_212 : decode cX3_findBase 212 = .ok (.invokevirtual 146, 3) := by decide +kernel
theorem dX3_findBase_215 : decode cX3_findBase 215 = .ok (.aload_n 0, 1) := by decide +kernel
theorem dX3_findBase_216 : decode cX3_findBase 216 = .ok (.iconst 0, 1) := by decide +kernel
theorem dX3_findBase_217 : decode cX3_findBase 217 = .ok (.iconst 1, 1) := by decide +kernel
theorem dX3_findBase_218 : decode cX3_findBase 218 = .ok (.invokevirtual 146, 3) := by decide +kernel
theorem dX3_findBase_221 : decode cX3_findBase 221 = .ok (.aload_n 0, 1) := by decide +kernel
theorem dX3_findBase_222 : decode cX3_findBase 222 = .ok (.iconst 0, 1) := by decide +kernel
theorem dX3_findBase_223 : decode cX3_findBase 223 = .ok (.iconst 2, 1) := by decide +kernel
theorem dX3_findBase_224 : decode cX3_findBase 224 = .ok (.invokevirtual 146, 3) := by decide +kernel
theorem dX3_findBase_227 : decode cX3_findBase 227 = .ok (.invokestatic 61, 3) := by decide +kernel
theorem dX3_findBase_230 : decode cX3_findBase 230 = .ok (.invokestatic 61, 3) := by decide +kernel
theorem dX3_findBase_233 : decode cX3_findBase 233 = .ok (.lstore_n 1, 1) := by decide +kernel
theorem dX3_findBase_234 : decode cX3_findBase 234 = .ok (.aload_n 0, 1) := by decide +kernel
theorem dX3_findBase_235 : decode cX3_findBase 235 = .ok (.aload_n 0, 1) := by decide +kernel
theorem dX3_findBase_236 : decode cX3_findBase 236 = .ok (.iconst 0, 1) := by decide +kernel
theorem dX3_findBase_237 : decode cX3_findBase 237 = .ok (.iconst 0, 1) := by decide +kernel
theorem dX3_findBase_238 : decode cX3_findBase 238 = .ok (.invokevirtual 146, 3) := by decide +kernel
theorem dX3_findBase_241 : decode cX3_findBase 241 = .ok (.lload_n 1, 1) := by decide +kernel
theorem dX3_findBase_242 : decode cX3_findBase 242 = .ok (.ldiv, 1) := by decide +kernel
theorem dX3_findBase_243 : decode cX3_findBase 243 = .ok (.aload_n 0, 1) := by decide +kernel
theorem dX3_findBase_244 : decode cX3_findBase 244 = .ok (.iconst 0, 1) := by decide +kernel
theorem dX3_findBase_245 : decode cX3_findBase 245 = .ok (.iconst 1, 1) := by decide +kernel
theorem dX3_findBase_246 : decode cX3_findBase 246 = .ok (.invokevirtual 146, 3) := by decide +kernel
theorem dX3_findBase_249 : decode cX3_findBase 249 = .ok (.lload_n 1, 1) := by decide +kernel
theorem dX3_findBase_250 : decode cX3_findBase 250 = .ok (.ldiv, 1) := by decide +kernel
theorem dX3_findBase_251 : decode cX3_findBase 251 = .ok (.aload_n 0, 1) := by decide +kernel
theorem dX3_findBase_252 : decode cX3_findBase 252 = .ok (.iconst 0, 1) := by decide +kernel
theorem dX3_findBase_253 : decode cX3_findBase 253 = .ok (.iconst 2, 1) := by decide +kernel
theorem dX3_findBase_254 : decode cX3_findBase 254 = .ok (.invokevirtual 146, 3) := by decide +kernel
theorem dX3_findBase_257 : decode cX3_findBase 257 = .ok (.lload_n 1, 1) := by decide +kernel
theorem dX3_findBase_258 : decode cX3_findBase 258 = .ok (.ldiv, 1) := by decide +kernel
theorem dX3_findBase_259 : decode cX3_findBase 259 = .ok (.invokevirtual 153, 3) := by decide +kernel
theorem dX3_findBase_262 : decode cX3_findBase 262 = .ok (.iconst 0, 1) := by decide +kernel
theorem dX3_findBase_263 : decode cX3_findBase 263 = .ok (.istore_n 1, 1) := by decide +kernel
theorem dX3_findBase_264 : decode cX3_findBase 264 = .ok (.iload_n 1, 1) := by decide +kernel
theorem dX3_findBase_265 : decode cX3_findBase 265 = .ok (.aload_n 0, 1) := by decide +kernel
theorem dX3_findBase_266 : decode cX3_findBase 266 = .ok (.getfield 139, 3) := by decide +kernel
theorem dX3_findBase_269 : decode cX3_findBase 269 = .ok (.if_icmp .ge 49, 3) := by decide +kernel
theorem dX3_findBase_272 : decode cX3_findBase 272 = .ok (.aload_n 0, 1) := by decide +kernel
theorem dX3_findBase_273 : decode cX3_findBase 273 = .ok (.getfield 39, 3) := by decide +kernel
theorem dX3_findBase_276 : decode cX3_findBase 276 = .ok (.iload_n 1, 1) := by decide +kernel
theorem dX3_findBase_277 : decode cX3_findBase 277 = .ok (.iconst 0, 1) := by decide +kernel
theorem dX3_findBase_278 : decode cX3_findBase 278 = .ok (.iastore, 1) := by decide +kernel
theorem dX3_findBase_279 : decode cX3_findBase 279 = .ok (.aload_n 0, 1) := by decide +kernel
theorem dX3_findBase_280 : decode cX3_findBase 280 = .ok (.getfield 36, 3) := by decide +kernel
theorem dX3_findBase_283 : decode cX3_findBase 283 = .ok (.iconst 3, 1) := by decide +kernel
theorem dX3_findBase_284 : decode cX3_findBase 284 = .ok (.iload_n 1, 1) := by decide +kernel
theorem dX3_findBase_285 : decode cX3_findBase 285 = .ok (.imul, 1) := by decide +kernel
theorem dX3_findBase_286 : decode cX3_findBase 286 = .ok (.aload_n 0, 1) := by decide +kernel
theorem dX3_findBase_287 : decode cX3_findBase 287 = .ok (.getfield 39, 3) := by decide +kernel
theorem dX3_findBase_290 : decode cX3_findBase 290 = .ok (.iload_n 1, 1) := by decide +kernel
theorem dX3_findBase_291 : decode cX3_findBase 291 = .ok (.iaload, 1) := by decide +kernel
theorem dX3_findBase_292 : decode cX3_findBase 292 = .ok (.iadd, 1) := by decide +kernel
theorem dX3_findBase_293 : decode cX3_findBase 293 = .ok (.laload, 1) := by decide +kernel
theorem dX3_findBase_294 : decode cX3_findBase 294 = .ok (.lconst 0, 1) := by decide +kernel
theorem dX3_findBase_295 : decode cX3_findBase 295 = .ok (.lcmp, 1) := by decide +kernel
theorem dX3_findBase_296 : decode cX3_findBase 296 = .ok (.ifCond .ne 16, 3) := by decide +kernel
theorem dX3_findBase_299 : decode cX3_findBase 299 = .ok (.aload_n 0, 1) := by decide +kernel
theorem dX3_findBase_300 : decode cX3_findBase 300 = .ok (.getfield 39, 3) := by decide +kernel
theorem dX3_findBase_303 : decode cX3_findBase 303 = .ok (.iload_n 1, 1) := by decide +kernel
theorem dX3_findBase_304 : decode cX3_findBase 304 = .ok (.dup2, 1) := by decide +kernel
theorem dX3_findBase_305 : decode cX3_findBase 305 = .ok (.iaload, 1) := by decide +kernel
theorem dX3_findBase_306 : decode cX3_findBase 306 = .ok (.iconst 1, 1) := by decide +kernel
theorem dX3_findBase_307 : decode cX3_findBase 307 = .ok (.iadd, 1) := by decide +kernel
theorem dX3_findBase_308 : decode cX3_findBase 308 = .ok (.iastore, 1) := by decide +kernel
theorem dX3_findBase_309 : decode cX3_findBase 309 = .ok (.goto (-30), 3) := by decide +kernel
theorem dX3_findBase_312 : decode cX3_findBase 312 = .ok (.iinc 1 1, 3) := by decide +kernel
theorem dX3_findBase_315 : decode cX3_findBase 315 = .ok (.goto (-51), 3) := by decide +kernel
theorem dX3_findBase_318 : decode cX3_findBase 318 = .ok (.return_, 1) := by decide +kernel
theorem dX3_number_0 : decode cX3_number 0 = .ok (.aload_n 0, 1) := by decide +kernel
theorem dX3_number_1 : decode cX3_number 1 = .ok (.getfield 7, 3) := by decide +kernel
theorem dX3_number_4 : decode cX3_number 4 = .ok (.iconst 4, 1) := by decide +kernel
theorem dX3_number_5 : decode cX3_number 5 = .ok (.aload_n 0, 1) := by decide +kernel
theorem dX3_number_6 : decode cX3_number 6 = .ok (.getfield 16, 3) := by decide +kernel
theorem dX3_number_9 : decode cX3_number 9 = .ok (.iload_n 1, 1) := by decide +kernel
theorem dX3_number_10 : decode cX3_number 10 = .ok (.iaload, 1) := by decide +kernel
theorem dX3_number_11 : decode cX3_number 11 = .ok (.imul, 1) := by decide +kernel
theorem dX3_number_12 : decode cX3_number 12 = .ok (.iload_n 2, 1) := by decide +kernel
theorem dX3_number_13 : decode cX3_number 13 = .ok (.iadd, 1) := by decide +kernel
theorem dX3_number_14 : decode cX3_number 14 = .ok (.iaload, 1) := by decide +kernel
theorem dX3_number_15 : decode cX3_number 15 = .ok (.i2l, 1) := by decide +kernel
theorem dX3_number_16 : decode cX3_number 16 = .ok (.lreturn, 1) := by decide +kernel
theorem dX3_base_0 : decode cX3_base 0 = .ok (.aload_n 0, 1) := by decide +kernel
theorem dX3_base_1 : decode cX3_base 1 = .ok (.invokevirtual 156, 3) := by decide +kernel
theorem dX3_base_4 : decode cX3_base 4 = .ok (.aload_n 0, 1) := by decide +kernel
theorem dX3_base_5 : decode cX3_base 5 = .ok (.iload_n 1, 1) := by decide +kernel
theorem dX3_base_6 : decode cX3_base 6 = .ok (.i2l, 1) := by decide +kernel
theorem dX3_base_7 : decode cX3_base 7 = .ok (.lconst 0, 1) := by decide +kernel
theorem dX3_base_8 : decode cX3_base 8 = .ok (.aload_n 0, 1) := by decide +kernel
theorem dX3_base_9 : decode cX3_base 9 = .ok (.getfield 139, 3) := by decide +kernel
theorem dX3_base_12 : decode cX3_base 12 = .ok (.iconst 1, 1) := by decide +kernel
theorem dX3_base_13 : decode cX3_base 13 = .ok (.isub, 1) := by decide +kernel
theorem dX3_base_14 : decode cX3_base 14 = .ok (.i2l, 1) := by decide +kernel
theorem dX3_base_15 : decode cX3_base 15 = .ok (.invokestatic 75, 3) := by decide +kernel
theorem dX3_base_18 : decode cX3_base 18 = .ok (.ifCond .eq 15, 3) := by decide +kernel
theorem dX3_base_21 : decode cX3_base 21 = .ok (.aload_n 0, 1) := by decide +kernel
theorem dX3_base_22 : decode cX3_base 22 = .ok (.iload_n 2, 1) := by decide +kernel
theorem dX3_base_23 : decode cX3_base 23 = .ok (.invokevirtual 127, 3) := by decide +kernel
theorem dX3_base_26 : decode cX3_base 26 = .ok (.ifCond .eq 7, 3) := by decide +kernel
theorem dX3_base_29 : decode cX3_base 29 = .ok (.iconst 0, 1) := by decide +kernel
theorem dX3_base_30 : decode cX3_base 30 = .ok (.goto 4, 3) := by decide +kernel
theorem dX3_base_33 : decode cX3_base 33 = .ok (.iconst 1, 1) := by decide +kernel
theorem dX3_base_34 : decode cX3_base 34 = .ok (.putfield 58, 3) := by decide +kernel
theorem dX3_base_37 : decode cX3_base 37 = .ok (.aload_n 0, 1) := by decide +kernel
theorem dX3_base_38 : decode cX3_base 38 = .ok (.getfield 58, 3) := by decide +kernel
theorem dX3_base_41 : decode cX3_base 41 = .ok (.ifCond .le 7, 3) := by decide +kernel
theorem dX3_base_44 : decode cX3_base 44 = .ok (.lconst 0, 1) := by decide +kernel
theorem dX3_base_45 : decode cX3_base 45 = .ok (.goto 13, 3) := by decide +kernel
theorem dX3_base_48 : decode cX3_base 48 = .ok (.aload_n 0, 1) := by decide +kernel
theorem dX3_base_49 : decode cX3_base 49 = .ok (.getfield 36, 3) := by decide +kernel
theorem dX3_base_52 : decode cX3_base 52 = .ok (.iconst 3, 1) := by decide +kernel
theorem dX3_base_53 : decode cX3_base 53 = .ok (.iload_n 1, 1) := by decide +kernel
theorem dX3_base_54 : decode cX3_base 54 = .ok (.imul, 1) := by decide +kernel
theorem dX3_base_55 : decode cX3_base 55 = .ok (.iload_n 2, 1) := by decide +kernel
theorem dX3_base_56 : decode cX3_base 56 = .ok (.iadd, 1) := by decide +kernel
theorem dX3_base_57 : decode cX3_base 57 = .ok (.laload, 1) := by decide +kernel
theorem dX3_base_58 : decode cX3_base 58 = .ok (.lreturn, 1) := by decide +kernel
theorem dX3_findWhole_0 : decode cX3_findWhole 0 = .ok (.aload_n 0, 1) := by decide +kernel
theorem dX3_findWhole_1 : decode cX3_findWhole 1 = .ok (.invokevirtual 156, 3) := by decide +kernel
end
section
/-! decode rows of X3 -/
theorem dX3_findWhole_4 : decode cX3_findWhole 4 = .ok (.aload_n 0, 1) := by decide +kernel
theorem dX3_findWhole_5 : decode cX3_findWhole 5 = .ok (.invokevirtual 115, 3) := by decide +kernel
theorem dX3_findWhole_8 : decode cX3_findWhole 8 = .ok (.ifCond .ne 5, 3) := by decide +kernel
theorem dX3_findWhole_11 : decode cX3_findWhole 11 = .ok (.iconst 0, 1) := by decide +kernel
theorem dX3_findWhole_12 : decode cX3_findWhole 12 = .ok (.ireturn, 1) := by decide +kernel
theorem dX3_findWhole_13 : decode cX3_findWhole 13 = .ok (.iconst 0, 1) := by decide +kernel
theorem dX3_findWhole_14 : decode cX3_findWhole 14 = .ok (.istore_n 1, 1) := by decide +kernel
theorem dX3_findWhole_15 : decode cX3_findWhole 15 = .ok (.iload_n 1, 1) := by decide +kernel
theorem dX3_findWhole_16 : decode cX3_findWhole 16 = .ok (.iconst 3, 1) := by decide +kernel
theorem dX3_findWhole_17 : decode cX3_findWhole 17 = .ok (.if_icmp .ge 58, 3) := by decide +kernel
theorem dX3_findWhole_20 : decode cX3_findWhole 20 = .ok (.aload_n 0, 1) := by decide +kernel
theorem dX3_findWhole_21 : decode cX3_findWhole 21 = .ok (.getfield 45, 3) := by decide +kernel
theorem dX3_findWhole_24 : decode cX3_findWhole 24 = .ok (.iload_n 1, 1) := by decide +kernel
theorem dX3_findWhole_25 : decode cX3_findWhole 25 = .ok (.lconst 0, 1) := by decide +kernel
theorem dX3_findWhole_26 : decode cX3_findWhole 26 = .ok (.lastore, 1) := by decide +kernel
theorem dX3_findWhole_27 : decode cX3_findWhole 27 = .ok (.iconst 0, 1) := by decide +kernel
theorem dX3_findWhole_28 : decode cX3_findWhole 28 = .ok (.istore_n 2, 1) := by decide +kernel
theorem dX3_findWhole_29 : decode cX3_findWhole 29 = .ok (.iload_n 2, 1) := by decide +kernel
theorem dX3_findWhole_30 : decode cX3_findWhole 30 = .ok (.aload_n 0, 1) := by decide +kernel
theorem dX3_findWhole_31 : decode cX3_findWhole 31 = .ok (.getfield 139, 3) := by decide +kernel
theorem dX3_findWhole_34 : decode cX3_findWhole 34 = .ok (.if_icmp .ge 35, 3) := by decide +kernel
theorem dX3_findWhole_37 : decode cX3_findWhole 37 = .ok (.aload_n 0, 1) := by decide +kernel
theorem dX3_findWhole_38 : decode cX3_findWhole 38 = .ok (.getfield 39, 3) := by decide +kernel
theorem dX3_findWhole_41 : decode cX3_findWhole 41 = .ok (.iload_n 2, 1) := by decide +kernel
theorem dX3_findWhole_42 : decode cX3_findWhole 42 = .ok (.iaload, 1) := by decide +kernel
theorem dX3_findWhole_43 : decode cX3_findWhole 43 = .ok (.iload_n 1, 1) := by decide +kernel
theorem dX3_findWhole_44 : decode cX3_findWhole 44 = .ok (.if_icmp .ne 19, 3) := by decide +kernel
theorem dX3_findWhole_47 : decode cX3_findWhole 47 = .ok (.aload_n 0, 1) := by decide +kernel
theorem dX3_findWhole_48 : decode cX3_findWhole 48 = .ok (.getfield 45, 3) := by decide +kernel
theorem dX3_findWhole_51 : decode cX3_findWhole 51 = .ok (.iload_n 1, 1) := by decide +kernel
theorem dX3_findWhole_52 : decode cX3_findWhole 52 = .ok (.aload_n 0, 1) := by decide +kernel
theorem dX3_findWhole_53 : decode cX3_findWhole 53 = .ok (.getfield 36, 3) := by decide +kernel
theorem dX3_findWhole_56 : decode cX3_findWhole 56 = .ok (.iconst 3, 1) := by decide +kernel
theorem dX3_findWhole_57 : decode cX3_findWhole 57 = .ok (.iload_n 2, 1) := by decide +kernel
theorem dX3_findWhole_58 : decode cX3_findWhole 58 = .ok (.imul, 1) := by decide +kernel
theorem dX3_findWhole_59 : decode cX3_findWhole 59 = .ok (.iload_n 1, 1) := by decide +kernel
theorem dX3_findWhole_60 : decode cX3_findWhole 60 = .ok (.iadd, 1) := by decide +kernel
theorem dX3_findWhole_61 : decode cX3_findWhole 61 = .ok (.laload, 1) := by decide +kernel
theorem dX3_findWhole_62 : decode cX3_findWhole 62 = .ok (.lastore, 1) := by decide +kernel
theorem dX3_findWhole_63 : decode cX3_findWhole 63 = .ok (.iinc 2 1, 3) := by decide +kernel
theorem dX3_findWhole_66 : decode cX3_findWhole 66 = .ok (.goto (-37), 3) := by decide +kernel
theorem dX3_findWhole_69 : decode cX3_findWhole 69 = .ok (.iinc 1 1, 3) := by decide +kernel
theorem dX3_findWhole_72 : decode cX3_findWhole 72 = .ok (.goto (-57), 3) := by decide +kernel
theorem dX3_findWhole_75 : decode cX3_findWhole 75 = .ok (.lconst 0, 1) := by decide +kernel
theorem dX3_findWhole_76 : decode cX3_findWhole 76 = .ok (.lstore_n 1, 1) := by decide +kernel
theorem dX3_findWhole_77 : decode cX3_findWhole 77 = .ok (.lload_n 1, 1) := by decide +kernel
theorem dX3_findWhole_78 : decode cX3_findWhole 78 = .ok (.aload_n 0, 1) := by decide +kernel
theorem dX3_findWhole_79 : decode cX3_findWhole 79 = .ok (.getfield 45, 3) := by decide +kernel
theorem dX3_findWhole_82 : decode cX3_findWhole 82 = .ok (.iconst 0, 1) := by decide +kernel
theorem dX3_findWhole_83 : decode cX3_findWhole 83 = .ok (.laload, 1) := by decide +kernel
theorem dX3_findWhole_84 : decode cX3_findWhole 84 = .ok (.lconst 0, 1) := by decide +kernel
theorem dX3_findWhole_85 : decode cX3_findWhole 85 = .ok (.lcmp, 1) := by decide +kernel
theorem dX3_findWhole_86 : decode cX3_findWhole 86 = .ok (.ifCond .le 12, 3) := by decide +kernel
theorem dX3_findWhole_89 : decode cX3_findWhole 89 = .ok (.aload_n 0, 1) := by decide +kernel
theorem dX3_findWhole_90 : decode cX3_findWhole 90 = .ok (.getfield 45, 3) := by decide +kernel
theorem dX3_findWhole_93 : decode cX3_findWhole 93 = .ok (.iconst 0, 1) := by decide +kernel
theorem dX3_findWhole_94 : decode cX3_findWhole 94 = .ok (.laload, 1) := by decide +kernel
theorem dX3_findWhole_95 : decode cX3_findWhole 95 = .ok (.goto 4, 3) := by decide +kernel
theorem dX3_findWhole_98 : decode cX3_findWhole 98 = .ok (.lconst 1, 1) := by decide +kernel
theorem dX3_findWhole_99 : decode cX3_findWhole 99 = .ok (.lcmp, 1) := by decide +kernel
theorem dX3_findWhole_100 : decode cX3_findWhole 100 = .ok (.ifCond .ge 97, 3) := by decide +kernel
theorem dX3_findWhole_103 : decode cX3_findWhole 103 = .ok (.lconst 0, 1) := by decide +kernel
theorem dX3_findWhole_104 : decode cX3_findWhole 104 = .ok (.lstore_n 3, 1) := by decide +kernel
theorem dX3_findWhole_105 : decode cX3_findWhole 105 = .ok (.lload_n 3, 1) := by decide +kernel
theorem dX3_findWhole_106 : decode cX3_findWhole 106 = .ok (.aload_n 0, 1) := by decide +kernel
theorem dX3_findWhole_107 : decode cX3_findWhole 107 = .ok (.getfield 45, 3) := by decide +kernel
theorem dX3_findWhole_110 : decode cX3_findWhole 110 = .ok (.iconst 1, 1) := by decide +kernel
theorem dX3_findWhole_111 : decode cX3_findWhole 111 = .ok (.laload, 1) := by decide +kernel
theorem dX3_findWhole_112 : decode cX3_findWhole 112 = .ok (.lconst 0, 1) := by decide +kernel
theorem dX3_findWhole_113 : decode cX3_findWhole 113 = .ok (.lcmp, 1) := by decide +kernel
theorem dX3_findWhole_114 : decode cX3_findWhole 114 = .ok (.ifCond .le 12, 3) := by decide +kernel
theorem dX3_findWhole_117 : decode cX3_findWhole 117 = .ok (.aload_n 0, 1) := by decide +kernel
theorem dX3_findWhole_118 : decode cX3_findWhole 118 = .ok (.getfield 45, 3) := by decide +kernel
theorem dX3_findWhole_121 : decode cX3_findWhole 121 = .ok (.iconst 1, 1) := by decide +kernel
theorem dX3_findWhole_122 : decode cX3_findWhole 122 = .ok (.laload, 1) := by decide +kernel
theorem dX3_findWhole_123 : decode cX3_findWhole 123 = .ok (.goto 4, 3) := by decide +kernel
theorem dX3_findWhole_126 : decode cX3_findWhole 126 = .ok (.lconst 1, 1) := by decide +kernel
theorem dX3_findWhole_127 : decode cX3_findWhole 127 = .ok (.lcmp, 1) := by decide +kernel
theorem dX3_findWhole_128 : decode cX3_findWhole 128 = .ok (.ifCond .ge 62, 3) := by decide +kernel
theorem dX3_findWhole_131 : decode cX3_findWhole 131 = .ok (.lconst 0, 1) := by decide +kernel
theorem dX3_findWhole_132 : decode cX3_findWhole 132 = .ok (.lstore 5, 2) := by decide +kernel
theorem dX3_findWhole_134 : decode cX3_findWhole 134 = .ok (.lload 5, 2) := by decide +kernel
theorem dX3_findWhole_136 : decode cX3_findWhole 136 = .ok (.aload_n 0, 1) := by decide +kernel
theorem dX3_findWhole_137 : decode cX3_findWhole 137 = .ok (.getfield 45, 3) := by decide +kernel
theorem dX3_findWhole_140 : decode cX3_findWhole 140 = .ok (.iconst 2, 1) := by decide +kernel
theorem dX3_findWhole_141 : decode cX3_findWhole 141 = .ok (.laload, 1) := by decide +kernel
theorem dX3_findWhole_142 : decode cX3_findWhole 142 = .ok (.lconst 0, 1) := by decide +kernel
theorem dX3_findWhole_143 : decode cX3_findWhole 143 = .ok (.lcmp, 1) := by decide +kernel
theorem dX3_findWhole_144 : decode cX3_findWhole 144 = .ok (.ifCond .le 12, 3) := by decide +kernel
theorem dX3_findWhole_147 : decode cX3_findWhole 147 = .ok (.aload_n 0, 1) := by decide +kernel
theorem dX3_findWhole_148 : decode cX3_findWhole 148 = .ok (.getfield 45, 3) := by decide +kernel
theorem dX3_findWhole_151 : decode cX3_findWhole 151 = .ok (.iconst 2, 1) := by decide +kernel
theorem dX3_findWhole_152 : decode cX3_findWhole 152 = .ok (.laload, 1) := by decide +kernel
theorem dX3_findWhole_153 : decode cX3_findWhole 153 = .ok (.goto 4, 3) := by decide +kernel
theorem dX3_findWhole_156 : decode cX3_findWhole 156 = .ok (.lconst 1, 1) := by decide +kernel
theorem dX3_findWhole_157 : decode cX3_findWhole 157 = .ok (.lcmp, 1) := by decide +kernel
theorem dX3_findWhole_158 : decode cX3_findWhole 158 = .ok (.ifCond .ge 25, 3) := by decide +kernel
theorem dX3_findWhole_161 : decode cX3_findWhole 161 = .ok (.aload_n 0, 1) := by decide +kernel
theorem dX3_findWhole_162 : decode cX3_findWhole 162 = .ok (.lload_n 1, 1) := by decide +kernel
theorem dX3_findWhole_163 : decode cX3_findWhole 163 = .ok (.lload_n 3, 1) := by decide +kernel
theorem dX3_findWhole_164 : decode cX3_findWhole 164 = .ok (.lload 5, 2) := by decide +kernel
theorem dX3_findWhole_166 : decode cX3_findWhole 166 = .ok (.invokevirtual 159, 3) := by decide +kernel
theorem dX3_findWhole_169 : decode cX3_findWhole 169 = .ok (.ifCond .eq 5, 3) := by decide +kernel
theorem dX3_findWhole_172 : decode cX3_findWhole 172 = .ok (.iconst 1, 1) := by decide +kernel
theorem dX3_findWhole_173 : decode cX3_findWhole 173 = .ok (.ireturn, 1) := by decide +kernel
theorem dX3_findWhole_174 : decode cX3_findWhole 174 = .ok (.lload 5, 2) := by decide +kernel
theorem dX3_findWhole_176 : decode cX3_findWhole 176 = .ok (.lconst 1, 1) := by decide +kernel
theorem dX3_findWhole_177 : decode cX3_findWhole 177 = .ok (.ladd, 1) := by decide +kernel
theorem dX3_findWhole_178 : decode cX3_findWhole 178 = .ok (.lstore 5, 2) := by decide +kernel
theorem dX3_findWhole_180 : decode cX3_findWhole 180 = .ok (.goto (-46), 3) := by decide +kernel
theorem dX3_findWhole_183 : decode cX3_findWhole 183 = .ok (.lload_n 3, 1) := by decide +kernel
theorem dX3_findWhole_184 : decode cX3_findWhole 184 = .ok (.lconst 1, 1) := by decide +kernel
theorem dX3_findWhole_185 : decode cX3_findWhole 185 = .ok (.ladd, 1) := by decide +kernel
theorem dX3_findWhole_186 : decode cX3_findWhole 186 = .ok (.lstore_n 3, 1) := by decide +kernel
theorem dX3_findWhole_187 : decode cX3_findWhole 187 = .ok (.goto (-82), 3) := by decide +kernel
theorem dX3_findWhole_190 : decode cX3_findWhole 190 = .ok (.lload_n 1, 1) := by decide +kernel
theorem dX3_findWhole_191 : decode cX3_findWhole 191 = .ok (.lconst 1, 1) := by decide +kernel
theorem dX3_findWhole_192 : decode cX3_findWhole 192 = .ok (.ladd, 1) := by decide +kernel
theorem dX3_findWhole_193 : decode cX3_findWhole 193 = .ok (.lstore_n 1, 1) := by decide +kernel
theorem dX3_findWhole_194 : decode cX3_findWhole 194 = .ok (.goto (-117), 3) := by decide +kernel
theorem dX3_findWhole_197 : decode cX3_findWhole 197 = .ok (.iconst 0, 1) := by decide +kernel
theorem dX3_findWhole_198 : decode cX3_findWhole 198 = .ok (.ireturn, 1) := by decide +kernel
theorem dX3_fits_0 : decode cX3_fits 0 = .ok (.aload_n 0, 1) := by decide +kernel
theorem dX3_fits_1 : decode cX3_fits 1 = .ok (.getfield 42, 3) := by decide +kernel
theorem dX3_fits_4 : decode cX3_fits 4 = .ok (.iconst 0, 1) := by decide +kernel
theorem dX3_fits_5 : decode cX3_fits 5 = .ok (.lload_n 1, 1) := by decide +kernel
theorem dX3_fits_6 : decode cX3_fits 6 = .ok (.lastore, 1) := by decide +kernel
theorem dX3_fits_7 : decode cX3_fits 7 = .ok (.aload_n 0, 1) := by decide +kernel
theorem dX3_fits_8 : decode cX3_fits 8 = .ok (.getfield 42, 3) := by decide +kernel
theorem dX3_fits_11 : decode cX3_fits 11 = .ok (.iconst 1, 1) := by decide +kernel
theorem dX3_fits_12 : decode cX3_fits 12 = .ok (.lload_n 3, 1) := by decide +kernel
theorem dX3_fits_13 : decode cX3_fits 13 = .ok (.lastore, 1) := by decide +kernel
theorem dX3_fits_14 : decode cX3_fits 14 = .ok (.aload_n 0, 1) := by decide +kernel
theorem dX3_fits_15 : decode cX3_fits 15 = .ok (.getfield 42, 3) := by decide +kernel
theorem dX3_fits_18 : decode cX3_fits 18 = .ok (.iconst 2, 1) := by decide +kernel
theorem dX3_fits_19 : decode cX3_fits 19 = .ok (.lload 5, 2) := by decide +kernel
theorem dX3_fits_21 : decode cX3_fits 21 = .ok (.lastore, 1) := by decide +kernel
theorem dX3_fits_22 : decode cX3_fits 22 = .ok (.iconst 0, 1) := by decide +kernel
theorem dX3_fits_23 : decode cX3_fits 23 = .ok (.istore 7, 2) := by decide +kernel
theorem dX3_fits_25 : decode cX3_fits 25 = .ok (.iconst 0, 1) := by decide +kernel
theorem dX3_fits_26 : decode cX3_fits 26 = .ok (.istore 8, 2) := by decide +kernel
theorem dX3_fits_28 : decode cX3_fits 28 = .ok (.iload 8, 2) := by decide +kernel
theorem dX3_fits_30 : decode cX3_fits 30 = .ok (.aload_n 0, 1) := by decide +kernel
theorem dX3_fits_31 : decode cX3_fits 31 = .ok (.getfield 54, 3) := by decide +kernel
theorem dX3_fits_34 : decode cX3_fits 34 = .ok (.if_icmp .ge 73, 3) := by decide +kernel
theorem dX3_fits_37 : decode cX3_fits 37 = .ok (.aload_n 0, 1) := by decide +kernel
theorem dX3_fits_38 : decode cX3_fits 38 = .ok (.getfield 45, 3) := by decide +kernel
theorem dX3_fits_41 : decode cX3_fits 41 = .ok (.iload 8, 2) := by decide +kernel
theorem dX3_fits_43 : decode cX3_fits 43 = .ok (.laload, 1) := by decide +kernel
theorem dX3_fits_44 : decode cX3_fits 44 = .ok (.lconst 0, 1) := by decide +kernel
theorem dX3_fits_45 : decode cX3_fits 45 = .ok (.lcmp, 1) := by decide +kernel
theorem dX3_fits_46 : decode cX3_fits 46 = .ok (.ifCond .le 6, 3) := by decide +kernel
theorem dX3_fits_49 : decode cX3_fits 49 = .ok (.goto 52, 3) := by decide +kernel
theorem dX3_fits_52 : decode cX3_fits 52 = .ok (.iconst 0, 1) := by decide +kernel
theorem dX3_fits_53 : decode cX3_fits 53 = .ok (.istore 9, 2) := by decide +kernel
theorem dX3_fits_55 : decode cX3_fits 55 = .ok (.iload 9, 2) := by decide +kernel
theorem dX3_fits_57 : decode cX3_fits 57 = .ok (.aload_n 0, 1) := by decide +kernel
theorem dX3_fits_58 : decode cX3_fits 58 = .ok (.getfield 95, 3) := by decide +kernel
theorem dX3_fits_61 : decode cX3_fits 61 = .ok (.if_icmp .ge 29, 3) := by decide +kernel
theorem dX3_fits_64 : decode cX3_fits 64 = .ok (.aload_n 0, 1) := by decide +kernel
theorem dX3_fits_65 : decode cX3_fits 65 = .ok (.getfield 23, 3) := by decide +kernel
theorem dX3_fits_68 : decode cX3_fits 68 = .ok (.iconst 3, 1) := by decide +kernel
theorem dX3_fits_69 : decode cX3_fits 69 = .ok (.iload 9, 2) := by decide +kernel
theorem dX3_fits_71 : decode cX3_fits 71 = .ok (.imul, 1) := by decide +kernel
theorem dX3_fits_72 : decode cX3_fits 72 = .ok (.iload 7, 2) := by decide +kernel
theorem dX3_fits_74 : decode cX3_fits 74 = .ok (.iadd, 1) := by decide +kernel
theorem dX3_fits_75 : decode cX3_fits 75 = .ok (.aload_n 0, 1) := by decide +kernel
theorem dX3_fits_76 : decode cX3_fits 76 = .ok (.iload 9, 2) := by decide +kernel
theorem dX3_fits_78 : decode cX3_fits 78 = .ok (.iload 8, 2) := by decide +kernel
theorem dX3_fits_80 : decode cX3_fits 80 = .ok (.invokevirtual 146, 3) := by decide +kernel
theorem dX3_fits_83 : decode cX3_fits 83 = .ok (.lastore, 1) := by decide +kernel
theorem dX3_fits_84 : decode cX3_fits 84 = .ok (.iinc 9 1, 3) := by decide +kernel
theorem dX3_fits_87 : decode cX3_fits 87 = .ok (.goto (-32), 3) := by decide +kernel
theorem dX3_fits_90 : decode cX3_fits 90 = .ok (.aload_n 0, 1) := by decide +kernel
theorem dX3_fits_91 : decode cX3_fits 91 = .ok (.getfield 42, 3) := by decide +kernel
theorem dX3_fits_94 : decode cX3_fits 94 = .ok (.iload 8, 2) := by decide +kernel
theorem dX3_fits_96 : decode cX3_fits 96 = .ok (.lconst 0, 1) := by decide +kernel
theorem dX3_fits_97 : decode cX3_fits 97 = .ok (.lastore, 1) := by decide +kernel
theorem dX3_fits_98 : decode cX3_fits 98 = .ok (.iinc 7 1, 3) := by decide +kernel
theorem dX3_fits_101 : decode cX3_fits 101 = .ok (.iinc 8 1, 3) := by decide +kernel
theorem dX3_fits_104 : decode cX3_fits 104 = .ok (.goto (-76), 3) := by decide +kernel
theorem dX3_fits_107 : decode cX3_fits 107 = .ok (.iconst 0, 1) := by decide +kernel
theorem dX3_fits_108 : decode cX3_fits 108 = .ok (.istore 8, 2) := by decide +kernel
theorem dX3_fits_110 : decode cX3_fits 110 = .ok (.iload 8, 2) := by decide +kernel
theorem dX3_fits_112 : decode cX3_fits 112 = .ok (.aload_n 0, 1) := by decide +kernel
theorem dX3_fits_113 : decode cX3_fits 113 = .ok (.getfield 95, 3) := by decide +kernel
theorem dX3_fits_116 : decode cX3_fits 116 = .ok (.if_icmp .ge 77, 3) := by decide +kernel
theorem dX3_fits_119 : decode cX3_fits 119 = .ok (.aload_n 0, 1) := by decide +kernel
theorem dX3_fits_120 : decode cX3_fits 120 = .ok (.getfield 27, 3) := by decide +kernel
theorem dX3_fits_123 : decode cX3_fits 123 = .ok (.iload 8, 2) := by decide +kernel
theorem dX3_fits_125 : decode cX3_fits 125 = .ok (.aload_n 0, 1) := by decide +kernel
theorem dX3_fits_126 : decode cX3_fits 126 = .ok (.getfield 7, 3) := by decide +kernel
theorem dX3_fits_129 : decode cX3_fits 129 = .ok (.iconst 4, 1) := by decide +kernel
theorem dX3_fits_130 : decode cX3_fits 130 = .ok (.aload_n 0, 1) := by decide +kernel
theorem dX3_fits_131 : decode cX3_fits 131 = .ok (.getfield 16, 3) := by decide +kernel
theorem dX3_fits_134 : decode cX3_fits 134 = .ok (.iload 8, 2) := by decide +kernel
theorem dX3_fits_136 : decode cX3_fits 136 = .ok (.iaload, 1) := by decide +kernel
theorem dX3_fits_137 : decode cX3_fits 137 = .ok (.imul, 1) := by decide +kernel
theorem dX3_fits_138 : decode cX3_fits 138 = .ok (.iconst 3, 1) := by decide +kernel
theorem dX3_fits_139 : decode cX3_fits 139 = .ok (.iadd, 1) := by decide +kernel
theorem dX3_fits_140 : decode cX3_fits 140 = .ok (.iaload, 1) := by decide +kernel
theorem dX3_fits_141 : decode cX3_fits 141 = .ok (.i2l, 1) := by decide +kernel
theorem dX3_fits_142 : decode cX3_fits 142 = .ok (.lastore, 1) := by decide +kernel
theorem dX3_fits_143 : decode cX3_fits 143 = .ok (.iconst 0, 1) := by decide +kernel
theorem dX3_fits_144 : decode cX3_fits 144 = .ok (.istore 9, 2) := by decide +kernel
theorem dX3_fits_146 : decode cX3_fits 146 = .ok (.iload 9, 2) := by decide +kernel
theorem dX3_fits_148 : decode cX3_fits 148 = .ok (.aload_n 0, 1) := by decide +kernel
theorem dX3_fits_149 : decode cX3_fits 149 = .ok (.getfield 54, 3) := by decide +kernel
theorem dX3_fits_152 : decode cX3_fits 152 = .ok (.if_icmp .ge 35, 3) := by decide +kernel
theorem dX3_fits_155 : decode cX3_fits 155 = .ok (.aload_n 0, 1) := by decide +kernel
theorem dX3_fits_156 : decode cX3_fits 156 = .ok (.getfield 27, 3) := by decide +kernel
theorem dX3_fits_159 : decode cX3_fits 159 = .ok (.iload 8, 2) := by decide +kernel
theorem dX3_fits_161 : decode cX3_fits 161 = .ok (.dup2, 1) := by decide +kernel
theorem dX3_fits_162 : decode cX3_fits 162 = .ok (.laload, 1) := by decide +kernel
theorem dX3_fits_163 : decode cX3_fits 163 = .ok (.aload_n 0, 1) := by decide +kernel
theorem dX3_fits_164 : decode cX3_fits 164 = .ok (.iload 8, 2) := by decide +kernel
theorem dX3_fits_166 : decode cX3_fits 166 = .ok (.iload 9, 2) := by decide +kernel
theorem dX3_fits_168 : decode cX3_fits 168 = .ok (.invokevirtual 146, 3) := by decide +kernel
theorem dX3_fits_171 : decode cX3_fits 171 = .ok (.aload_n 0, 1) := by decide +kernel
theorem dX3_fits_172 : decode cX3_fits 172 = .ok (.getfield 42, 3) := by decide +kernel
theorem dX3_fits_175 : decode cX3_fits 175 = .ok (.iload 9, 2) := by decide +kernel
theorem dX3_fits_177 : decode cX3_fits 177 = .ok (.laload, 1) := by decide +kernel
theorem dX3_fits_178 : decode cX3_fits 178 = .ok (.lmul, 1) := by decide +kernel
theorem dX3_fits_179 : decode cX3_fits 179 = .ok (.lsub, 1) := by decide +kernel
theorem dX3_fits_180 : decode cX3_fits 180 = .ok (.lastore, 1) := by decide +kernel
theorem dX3_fits_181 : decode cX3_fits 181 = .ok (.iinc 9 1, 3) := by decide +kernel
theorem dX3_fits_184 : decode cX3_fits 184 = .ok (.goto (-38), 3) := by decide +kernel
theorem dX3_fits_187 : decode cX3_fits 187 = .ok (.iinc 8 1, 3) := by decide +kernel
theorem dX3_fits_190 : decode cX3_fits 190 = .ok (.goto (-80), 3) := by decide +kernel
theorem dX3_fits_193 : decode cX3_fits 193 = .ok (.aload_n 0, 1) := by decide +kernel
theorem dX3_fits_194 : decode cX3_fits 194 = .ok (.aload_n 0, 1) := by decide +kernel
theorem dX3_fits_195 : decode cX3_fits 195 = .ok (.getfield 95, 3) := by decide +kernel
theorem dX3_fits_198 : decode cX3_fits 198 = .ok (.invokevirtual 102, 3) := by decide +kernel
theorem dX3_fits_201 : decode cX3_fits 201 = .ok (.iconst 0, 1) := by decide +kernel
theorem dX3_fits_202 : decode cX3_fits 202 = .ok (.istore 7, 2) := by decide +kernel
theorem dX3_fits_204 : decode cX3_fits 204 = .ok (.iconst 0, 1) := by decide +kernel
theorem dX3_fits_205 : decode cX3_fits 205 = .ok (.istore 8, 2) := by decide +kernel
theorem dX3_fits_207 : decode cX3_fits 207 = .ok (.iload 8, 2) := by decide +kernel
theorem dX3_fits_209 : decode cX3_fits 209 = .ok (.aload_n 0, 1) := by decide +kernel
theorem dX3_fits_210 : decode cX3_fits 210 = .ok (.getfield 54, 3) := by decide +kernel
theorem dX3_fits_213 : decode cX3_fits 213 = .ok (.if_icmp .ge 65, 3) := by decide +kernel
theorem dX3_fits_216 : decode cX3_fits 216 = .ok (.aload_n 0, 1) := by decide +kernel
theorem dX3_fits_217 : decode cX3_fits 217 = .ok (.getfield 45, 3) := by decide +kernel
theorem dX3_fits_220 : decode cX3_fits 220 = .ok (.iload 8, 2) := by decide +kernel
theorem dX3_fits_222 : decode cX3_fits 222 = .ok (.laload, 1) := by decide +kernel
theorem dX3_fits_223 : decode cX3_fits 223 = .ok (.lconst 0, 1) := by decide +kernel
theorem dX3_fits_224 : decode cX3_fits 224 = .ok (.lcmp, 1) := by decide +kernel
theorem dX3_fits_225 : decode cX3_fits 225 = .ok (.ifCond .le 6, 3) := by decide +kernel
theorem dX3_fits_228 : decode cX3_fits 228 = .ok (.goto 44, 3) := by decide +kernel
theorem dX3_fits_231 : decode cX3_fits 231 = .ok (.aload_n 0, 1) := by decide +kernel
theorem dX3_fits_232 : decode cX3_fits 232 = .ok (.getfield 30, 3) := by decide +kernel
theorem dX3_fits_235 : decode cX3_fits 235 = .ok (.iload 7, 2) := by decide +kernel
theorem dX3_fits_237 : decode cX3_fits 237 = .ok (.laload, 1) := by decide +kernel
theorem dX3_fits_238 : decode cX3_fits 238 = .ok (.aload_n 0, 1) := by decide +kernel
theorem dX3_fits_239 : decode cX3_fits 239 = .ok (.getfield 106, 3) := by decide +kernel
theorem dX3_fits_242 : decode cX3_fits 242 = .ok (.lrem, 1) := by decide +kernel
theorem dX3_fits_243 : decode cX3_fits 243 = .ok (.lconst 0, 1) := by decide +kernel
theorem dX3_fits_244 : decode cX3_fits 244 = .ok (.lcmp, 1) := by decide +kernel
theorem dX3_fits_245 : decode cX3_fits 245 = .ok (.ifCond .eq 5, 3) := by decide +kernel
theorem dX3_fits_248 : decode cX3_fits 248 = .ok (.iconst 0, 1) := by decide +kernel
theorem dX3_fits_249 : decode cX3_fits 249 = .ok (.ireturn, 1) := by decide +kernel
theorem dX3_fits_250 : decode cX3_fits 250 = .ok (.aload_n 0, 1) := by decide +kernel
theorem dX3_fits_251 : decode cX3_fits 251 = .ok (.getfield 42, 3) := by decide +kernel
theorem dX3_fits_254 : decode cX3_fits 254 = .ok (.iload 8, 2) := by decide +kernel
theorem dX3_fits_256 : decode cX3_fits 256 = .ok (.aload_n 0, 1) := by decide +kernel
theorem dX3_fits_257 : decode cX3_fits 257 = .ok (.getfield 30, 3) := by decide +kernel
theorem dX3_fits_260 : decode cX3_fits 260 = .ok (.iload 7, 2) := by decide +kernel
theorem dX3_fits_262 : decode cX3_fits 262 = .ok (.laload, 1) := by decide +kernel
theorem dX3_fits_263 : decode cX3_fits 263 = .ok (.aload_n 0, 1) := by decide +kernel
theorem dX3_fits_264 : decode cX3_fits 264 = .ok (.getfield 106, 3) := by decide +kernel
theorem dX3_fits_267 : decode cX3_fits 267 = .ok (.ldiv, 1) := by decide +kernel
theorem dX3_fits_268 : decode cX3_fits 268 = .ok (.lastore, 1) := by decide +kernel
theorem dX3_fits_269 : decode cX3_fits 269 = .ok (.iinc 7 1, 3) := by decide +kernel
theorem dX3_fits_272 : decode cX3_fits 272 = .ok (.iinc 8 1, 3) := by decide +kernel
theorem dX3_fits_275 : decode cX3_fits 275 = .ok (.goto (-68), 3) := by decide +kernel
theorem dX3_fits_278 : decode cX3_fits 278 = .ok (.iconst 1, 1) := by decide +kernel
theorem dX3_fits_279 : decode cX3_fits 279 = .ok (.ireturn, 1) := by decide +kernel
theorem dX3_whole_0 : decode cX3_whole 0 = .ok (.aload_n 0, 1) := by decide +kernel
theorem dX3_whole_1 : decode cX3_whole 1 = .ok (.iconst 0, 1) := by decide +kernel
theorem dX3_whole_2 : decode cX3_whole 2 = .ok (.putfield 58, 3) := by decide +kernel
theorem dX3_whole_5 : decode cX3_whole 5 = .ok (.aload_n 0, 1) := by decide +kernel
theorem dX3_whole_6 : decode cX3_whole 6 = .ok (.invokevirtual 162, 3) := by decide +kernel
theorem dX3_whole_9 : decode cX3_whole 9 = .ok (.ireturn, 1) := by decide +kernel
theorem dX3_least_0 : decode cX3_least 0 = .ok (.aload_n 0, 1) := by decide +kernel
theorem dX3_least_1 : decode cX3_least 1 = .ok (.iload_n 1, 1) := by decide +kernel
theorem dX3_least_2 : decode cX3_least 2 = .ok (.invokevirtual 127, 3) := by decide +kernel
theorem dX3_least_5 : decode cX3_least 5 = .ok (.ifCond .ne 10, 3) := by decide +kernel
theorem dX3_least_8 : decode cX3_least 8 = .ok (.aload_n 0, 1) := by decide +kernel
theorem dX3_least_9 : decode cX3_least 9 = .ok (.iconst 1, 1) := by decide +kernel
theorem dX3_least_10 : decode cX3_least 10 = .ok (.invokevirtual 130, 3) := by decide +kernel
theorem dX3_least_13 : decode cX3_least 13 = .ok (.i2l, 1) := by decide +kernel
theorem dX3_least_14 : decode cX3_least 14 = .ok (.lreturn, 1) := by decide +kernel
theorem dX3_least_15 : decode cX3_least 15 = .ok (.aload_n 0, 1) := by decide +kernel
theorem dX3_least_16 : decode cX3_least 16 = .ok (.aload_n 0, 1) := by decide +kernel
theorem dX3_least_17 : decode cX3_least 17 = .ok (.invokevirtual 162, 3) := by decide +kernel
theorem dX3_least_20 : decode cX3_least 20 = .ok (.ifCond .eq 7, 3) := by decide +kernel
theorem dX3_least_23 : decode cX3_least 23 = .ok (.iconst 0, 1) := by decide +kernel
theorem dX3_least_24 : decode cX3_least 24 = .ok (.goto 4, 3) := by decide +kernel
theorem dX3_least_27 : decode cX3_least 27 = .ok (.iconst 2, 1) := by decide +kernel
theorem dX3_least_28 : decode cX3_least 28 = .ok (.putfield 58, 3) := by decide +kernel
theorem dX3_least_31 : decode cX3_least 31 = .ok (.aload_n 0, 1) := by decide +kernel
theorem dX3_least_32 : decode cX3_least 32 = .ok (.getfield 58, 3) := by decide +kernel
theorem dX3_least_35 : decode cX3_least 35 = .ok (.ifCond .le 7, 3) := by decide +kernel
theorem dX3_least_38 : decode cX3_least 38 = .ok (.lconst 0, 1) := by decide +kernel
theorem dX3_least_39 : decode cX3_least 39 = .ok (.goto 9, 3) := by decide +kernel
theorem dX3_least_42 : decode cX3_least 42 = .ok (.aload_n 0, 1) := by decide +kernel
theorem dX3_least_43 : decode cX3_least 43 = .ok (.getfield 42, 3) := by decide +kernel
theorem dX3_least_46 : decode cX3_least 46 = .ok (.iload_n 1, 1) := by decide +kernel
theorem dX3_least_47 : decode cX3_least 47 = .ok (.laload, 1) := by decide +kernel
theorem dX3_least_48 : decode cX3_least 48 = .ok (.lreturn, 1) := by decide +kernel
theorem dX3_findNearest_0 : decode cX3_findNearest 0 = .ok (.aload_n 0, 1) := by decide +kernel
theorem dX3_findNearest_1 : decode cX3_findNearest 1 = .ok (.invokevirtual 109, 3) := by decide +kernel
theorem dX3_findNearest_4 : decode cX3_findNearest 4 = .ok (.iconst 0, 1) := by decide +kernel
theorem dX3_findNearest_5 : decode cX3_findNearest 5 = .ok (.istore_n 1, 1) := by decide +kernel
theorem dX3_findNearest_6 : decode cX3_findNearest 6 = .ok (.iload_n 1, 1) := by decide +kernel
theorem dX3_findNearest_7 : decode cX3_findNearest 7 = .ok (.iconst 3, 1) := by decide +kernel
theorem dX3_findNearest_8 : decode cX3_findNearest 8 = .ok (.if_icmp .ge 16, 3) := by decide +kernel
theorem dX3_findNearest_11 : decode cX3_findNearest 11 = .ok (.aload_n 0, 1) := by decide +kernel
theorem dX3_findNearest_12 : decode cX3_findNearest 12 = .ok (.getfield 48, 3) := by decide +kernel
theorem dX3_findNearest_15 : decode cX3_findNearest 15 = .ok (.iload_n 1, 1) := by decide +kernel
theorem dX3_findNearest_16 : decode cX3_findNearest 16 = .ok (.lconst 0, 1) := by decide +kernel
theorem dX3_findNearest_17 : decode cX3_findNearest 17 = .ok (.lastore, 1) := by decide +kernel
theorem dX3_findNearest_18 : decode cX3_findNearest 18 = .ok (.iinc 1 1, 3) := by decide +kernel
theorem dX3_findNearest_21 : decode cX3_findNearest 21 = .ok (.goto (-15), 3) := by decide +kernel
theorem dX3_findNearest_24 : decode cX3_findNearest 24 = .ok (.aload_n 0, 1) := by decide +kernel
theorem dX3_findNearest_25 : decode cX3_findNearest 25 = .ok (.lconst 1, 1) := by decide +kernel
theorem dX3_findNearest_26 : decode cX3_findNearest 26 = .ok (.putfield 165, 3) := by decide +kernel
theorem dX3_findNearest_29 : decode cX3_findNearest 29 = .ok (.aload_n 0, 1) := by decide +kernel
theorem dX3_findNearest_30 : decode cX3_findNearest 30 = .ok (.getfield 95, 3) := by decide +kernel
theorem dX3_findNearest_33 : decode cX3_findNearest 33 = .ok (.iconst 3, 1) := by decide +kernel
theorem dX3_findNearest_34 : decode cX3_findNearest 34 = .ok (.if_icmp .ne 81, 3) := by decide +kernel
theorem dX3_findNearest_37 : decode cX3_findNearest 37 = .ok (.iconst 0, 1) := by decide +kernel
theorem dX3_findNearest_38 : decode cX3_findNearest 38 = .ok (.istore_n 1, 1) := by decide +kernel
theorem dX3_findNearest_39 : decode cX3_findNearest 39 = .ok (.iload_n 1, 1) := by decide +kernel
theorem dX3_findNearest_40 : decode cX3_findNearest 40 = .ok (.iconst 3, 1) := by decide +kernel
theorem dX3_findNearest_41 : decode cX3_findNearest 41 = .ok (.if_icmp .ge 31, 3) := by decide +kernel
theorem dX3_findNearest_44 : decode cX3_findNearest 44 = .ok (.aload_n 0, 1) := by decide +kernel
theorem dX3_findNearest_45 : decode cX3_findNearest 45 = .ok (.getfield 27, 3) := by decide +kernel
theorem dX3_findNearest_48 : decode cX3_findNearest 48 = .ok (.iload_n 1, 1) := by decide +kernel
theorem dX3_findNearest_49 : decode cX3_findNearest 49 = .ok (.aload_n 0, 1) := by decide +kernel
theorem dX3_findNearest_50 : decode cX3_findNearest 50 = .ok (.getfield 7, 3) := by decide +kernel
theorem dX3_findNearest_53 : decode cX3_findNearest 53 = .ok (.iconst 4, 1) := by decide +kernel
theorem dX3_findNearest_54 : decode cX3_findNearest 54 = .ok (.aload_n 0, 1) := by decide +kernel
theorem dX3_findNearest_55 : decode cX3_findNearest 55 = .ok (.getfield 16, 3) := by decide +kernel
theorem dX3_findNearest_58 : decode cX3_findNearest 58 = .ok (.iload_n 1, 1) := by decide +kernel
theorem dX3_findNearest_59 : decode cX3_findNearest 59 = .ok (.iaload, 1) := by decide +kernel
theorem dX3_findNearest_60 : decode cX3_findNearest 60 = .ok (.imul, 1) := by decide +kernel
theorem dX3_findNearest_61 : decode cX3_findNearest 61 = .ok (.iconst 3, 1) := by decide +kernel
theorem dX3_findNearest_62 : decode cX3_findNearest 62 = .ok (.iadd, 1) := by decide +kernel
theorem dX3_findNearest_63 : decode cX3_findNearest 63 = .ok (.iaload, 1) := by decide +kernel
theorem dX3_findNearest_64 : decode cX3_findNearest 64 = .ok (.i2l, 1) := by decide +kernel
theorem dX3_findNearest_65 : decode cX3_findNearest 65 = .ok (.lastore, 1) := by decide +kernel
theorem dX3_findNearest_66 : decode cX3_findNearest 66 = .ok (.iinc 1 1, 3) := by decide +kernel
theorem dX3_findNearest_69 : decode cX3_findNearest 69 = .ok (.goto (-30), 3) := by decide +kernel
theorem dX3_findNearest_72 : decode cX3_findNearest 72 = .ok (.aload_n 0, 1) := by decide +kernel
theorem dX3_findNearest_73 : decode cX3_findNearest 73 = .ok (.invokevirtual 112, 3) := by decide +kernel
theorem dX3_findNearest_76 : decode cX3_findNearest 76 = .ok (.iconst 0, 1) := by decide +kernel
theorem dX3_findNearest_77 : decode cX3_findNearest 77 = .ok (.istore_n 1, 1) := by decide +kernel
theorem dX3_findNearest_78 : decode cX3_findNearest 78 = .ok (.iload_n 1, 1) := by decide +kernel
theorem dX3_findNearest_79 : decode cX3_findNearest 79 = .ok (.iconst 3, 1) := by decide +kernel
theorem dX3_findNearest_80 : decode cX3_findNearest 80 = .ok (.if_icmp .ge 26, 3) := by decide +kernel
theorem dX3_findNearest_83 : decode cX3_findNearest 83 = .ok (.aload_n 0, 1) := by decide +kernel
theorem dX3_findNearest_84 : decode cX3_findNearest 84 = .ok (.getfield 48, 3) := by decide +kernel
theorem dX3_findNearest_87 : decode cX3_findNearest 87 = .ok (.aload_n 0, 1) := by decide +kernel
theorem dX3_findNearest_88 : decode cX3_findNearest 88 = .ok (.getfield 13, 3) := by decide +kernel
theorem dX3_findNearest_91 : decode cX3_findNearest 91 = .ok (.iload_n 1, 1) := by decide +kernel
theorem dX3_findNearest_92 : decode cX3_findNearest 92 = .ok (.iaload, 1) := by decide +kernel
theorem dX3_findNearest_93 : decode cX3_findNearest 93 = .ok (.aload_n 0, 1) := by decide +kernel
theorem dX3_findNearest_94 : decode cX3_findNearest 94 = .ok (.getfield 30, 3) := by decide +kernel
theorem dX3_findNearest_97 : decode cX3_findNearest 97 = .ok (.iload_n 1, 1) := by decide +kernel
theorem dX3_findNearest_98 : decode cX3_findNearest 98 = .ok (.laload, 1) := by decide +kernel
theorem dX3_findNearest_99 : decode cX3_findNearest 99 = .ok (.lastore, 1) := by decide +kernel
theorem dX3_findNearest_100 : decode cX3_findNearest 100 = .ok (.iinc 1 1, 3) := by decide +kernel
theorem dX3_findNearest_103 : decode cX3_findNearest 103 = .ok (.goto (-25), 3) := by decide +kernel
theorem dX3_findNearest_106 : decode cX3_findNearest 106 = .ok (.aload_n 0, 1) := by decide +kernel
theorem dX3_findNearest_107 : decode cX3_findNearest 107 = .ok (.aload_n 0, 1) := by decide +kernel
theorem dX3_findNearest_108 : decode cX3_findNearest 108 = .ok (.getfield 106, 3) := by decide +kernel
theorem dX3_findNearest_111 : decode cX3_findNearest 111 = .ok (.putfield 165, 3) := by decide +kernel
theorem dX3_findNearest_114 : decode cX3_findNearest 114 = .ok (.return_, 1) := by decide +kernel
theorem dX3_findNearest_115 : decode cX3_findNearest 115 = .ok (.iconst 0, 1) := by decide +kernel
theorem dX3_findNearest_116 : decode cX3_findNearest 116 = .ok (.istore_n 1, 1) := by decide +kernel
theorem dX3_findNearest_117 : decode cX3_findNearest 117 = .ok (.iload_n 1, 1) := by decide +kernel
theorem dX3_findNearest_118 : decode cX3_findNearest 118 = .ok (.aload_n 0, 1) := by decide +kernel
theorem dX3_findNearest_119 : decode cX3_findNearest 119 = .ok (.getfield 72, 3) := by decide +kernel
theorem dX3_findNearest_122 : decode cX3_findNearest 122 = .ok (.if_icmp .ge 46, 3) := by decide +kernel
theorem dX3_findNearest_125 : decode cX3_findNearest 125 = .ok (.iconst 0, 1) := by decide +kernel
theorem dX3_findNearest_126 : decode cX3_findNearest 126 = .ok (.istore_n 2, 1) := by decide +kernel
theorem dX3_findNearest_127 : decode cX3_findNearest 127 = .ok (.iload_n 2, 1) := by decide +kernel
theorem dX3_findNearest_128 : decode cX3_findNearest 128 = .ok (.aload_n 0, 1) := by decide +kernel
theorem dX3_findNearest_129 : decode cX3_findNearest 129 = .ok (.getfield 95, 3) := by decide +kernel
theorem dX3_findNearest_132 : decode cX3_findNearest 132 = .ok (.if_icmp .ge 30, 3) := by decide +kernel
theorem dX3_findNearest_135 : decode cX3_findNearest 135 = .ok (.aload_n 0, 1) := by decide +kernel
theorem dX3_findNearest_136 : decode cX3_findNearest 136 = .ok (.getfield 51, 3) := by decide +kernel
theorem dX3_findNearest_139 : decode cX3_findNearest 139 = .ok (.iconst 3, 1) := by decide +kernel
theorem dX3_findNearest_140 : decode cX3_findNearest 140 = .ok (.iload_n 1, 1) := by decide +kernel
theorem dX3_findNearest_141 : decode cX3_findNearest 141 = .ok (.imul, 1) := by decide +kernel
theorem dX3_findNearest_142 : decode cX3_findNearest 142 = .ok (.iload_n 2, 1) := by decide +kernel
theorem dX3_findNearest_143 : decode cX3_findNearest 143 = .ok (.iadd, 1) := by decide +kernel
theorem dX3_findNearest_144 : decode cX3_findNearest 144 = .ok (.aload_n 0, 1) := by decide +kernel
theorem dX3_findNearest_145 : decode cX3_findNearest 145 = .ok (.iload_n 1, 1) := by decide +kernel
theorem dX3_findNearest_146 : decode cX3_findNearest 146 = .ok (.aload_n 0, 1) := by decide +kernel
theorem dX3_findNearest_147 : decode cX3_findNearest 147 = .ok (.getfield 16, 3) := by decide +kernel
theorem dX3_findNearest_150 : decode cX3_findNearest 150 = .ok (.iload_n 2, 1) := by decide +kernel
theorem dX3_findNearest_151 : decode cX3_findNearest 151 = .ok (.iaload, 1) := by decide +kernel
theorem dX3_findNearest_152 : decode cX3_findNearest 152 = .ok (.invokevirtual 168, 3) := by decide +kernel
theorem dX3_findNearest_155 : decode cX3_findNearest 155 = .ok (.lastore, 1) := by decide +kernel
theorem dX3_findNearest_156 : decode cX3_findNearest 156 = .ok (.iinc 2 1, 3) := by decide +kernel
theorem dX3_findNearest_159 : decode cX3_findNearest 159 = .ok (.goto (-32), 3) := by decide +kernel
theorem dX3_findNearest_162 : decode cX3_findNearest 162 = .ok (.iinc 1 1, 3) := by decide +kernel
theorem dX3_findNearest_165 : decode cX3_findNearest 165 = .ok (.goto (-48), 3) := by decide +kernel
theorem dX3_findNearest_168 : decode cX3_findNearest 168 = .ok (.iconst 0, 1) := by decide +kernel
theorem dX3_findNearest_169 : decode cX3_findNearest 169 = .ok (.istore_n 1, 1) := by decide +kernel
theorem dX3_findNearest_170 : decode cX3_findNearest 170 = .ok (.iload_n 1, 1) := by decide +kernel
theorem dX3_findNearest_171 : decode cX3_findNearest 171 = .ok (.aload_n 0, 1) := by decide +kernel
theorem dX3_findNearest_172 : decode cX3_findNearest 172 = .ok (.getfield 95, 3) := by decide +kernel
theorem dX3_findNearest_175 : decode cX3_findNearest 175 = .ok (.if_icmp .ge 140, 3) := by decide +kernel
theorem dX3_findNearest_178 : decode cX3_findNearest 178 = .ok (.aload_n 0, 1) := by decide +kernel
theorem dX3_findNearest_179 : decode cX3_findNearest 179 = .ok (.getfield 27, 3) := by decide +kernel
theorem dX3_findNearest_182 : decode cX3_findNearest 182 = .ok (.iload_n 1, 1) := by decide +kernel
theorem dX3_findNearest_183 : decode cX3_findNearest 183 = .ok (.lconst 0, 1) := by decide +kernel
theorem dX3_findNearest_184 : decode cX3_findNearest 184 = .ok (.lastore, 1) := by decide +kernel
theorem dX3_findNearest_185 : decode cX3_findNearest 185 = .ok (.iconst 0, 1) := by decide +kernel
theorem dX3_findNearest_186 : decode cX3_findNearest 186 = .ok (.istore_n 2, 1) := by decide +kernel
theorem dX3_findNearest_187 : decode cX3_findNearest 187 = .ok (.iload_n 2, 1) := by decide +kernel
theorem dX3_findNearest_188 : decode cX3_findNearest 188 = .ok (.aload_n 0, 1) := by decide +kernel
theorem dX3_findNearest_189 : decode cX3_findNearest 189 = .ok (.getfield 72, 3) := by decide +kernel
theorem dX3_findNearest_192 : decode cX3_findNearest 192 = .ok (.if_icmp .ge 40, 3) := by decide +kernel
theorem dX3_findNearest_195 : decode cX3_findNearest 195 = .ok (.aload_n 0, 1) := by decide +kernel
theorem dX3_findNearest_196 : decode cX3_findNearest 196 = .ok (.getfield 27, 3) := by decide +kernel
theorem dX3_findNearest_199 : decode cX3_findNearest 199 = .ok (.iload_n 1, 1) := by decide +kernel
theorem dX3_findNearest_200 : decode cX3_findNearest 200 = .ok (.dup2, 1) := by decide +kernel
theorem dX3_findNearest_201 : decode cX3_findNearest 201 = .ok (.laload, 1) := by decide +kernel
theorem dX3_findNearest_202 : decode cX3_findNearest 202 = .ok (.aload_n 0, 1) := by decide +kernel
theorem dX3_findNearest_203 : decode cX3_findNearest 203 = .ok (.getfield 51, 3) := by decide +kernel
theorem dX3_findNearest_206 : decode cX3_findNearest 206 = .ok (.iconst 3, 1) := by decide +kernel
theorem dX3_findNearest_207 : decode cX3_findNearest 207 = .ok (.iload_n 2, 1) := by decide +kernel
theorem dX3_findNearest_208 : decode cX3_findNearest 208 = .ok (.imul, 1) := by decide +kernel
theorem dX3_findNearest_209 : decode cX3_findNearest 209 = .ok (.iload_n 1, 1) := by decide +kernel
theorem dX3_findNearest_210 : decode cX3_findNearest 210 = .ok (.iadd, 1) := by decide +kernel
theorem dX3_findNearest_211 : decode cX3_findNearest 211 = .ok (.laload, 1) := by decide +kernel
theorem dX3_findNearest_212 : decode cX3_findNearest 212 = .ok (.aload_n 0, 1) := by decide +kernel
theorem dX3_findNearest_213 : decode cX3_findNearest 213 = .ok (.getfield 7, 3) := by decide +kernel
theorem dX3_findNearest_216 : decode cX3_findNearest 216 = .ok (.iconst 4, 1) := by decide +kernel
theorem dX3_findNearest_217 : decode cX3_findNearest 217 = .ok (.iload_n 2, 1) := by decide +kernel
theorem dX3_findNearest_218 : decode cX3_findNearest 218 = .ok (.imul, 1) := by decide +kernel
theorem dX3_findNearest_219 : decode cX3_findNearest 219 = .ok (.iconst 3, 1) := by decide +kernel
theorem dX3_findNearest_220 : decode cX3_findNearest 220 = .ok (.iadd, 1) := by decide +kernel
theorem dX3_findNearest_221 : decode cX3_findNearest 221 = .ok (.iaload, 1) := by decide +kernel
theorem dX3_findNearest_222 : decode cX3_findNearest 222 = .ok (.i2l, 1) := by decide +kernel
theorem dX3_findNearest_223 : decode cX3_findNearest 223 = .ok (.lmul, 1) := by decide +kernel
theorem dX3_findNearest_224 : decode cX3_findNearest 224 = .ok (.ladd, 1) := by decide +kernel
theorem dX3_findNearest_225 : decode cX3_findNearest 225 = .ok (.lastore, 1) := by decide +kernel
theorem dX3_findNearest_226 : decode cX3_findNearest 226 = .ok (.iinc 2 1, 3) := by decide +kernel
theorem dX3_findNearest_229 : decode cX3_findNearest 229 = .ok (.goto (-42), 3) := by decide +kernel
theorem dX3_findNearest_232 : decode cX3_findNearest 232 = .ok (.iconst 0, 1) := by decide +kernel
theorem dX3_findNearest_233 : decode cX3_findNearest 233 = .ok (.istore_n 2, 1) := by decide +kernel
theorem dX3_findNearest_234 : decode cX3_findNearest 234 = .ok (.iload_n 2, 1) := by decide +kernel
theorem dX3_findNearest_235 : decode cX3_findNearest 235 = .ok (.aload_n 0, 1) := by decide +kernel
theorem dX3_findNearest_236 : decode cX3_findNearest 236 = .ok (.getfield 95, 3) := by decide +kernel
theorem dX3_findNearest_239 : decode cX3_findNearest 239 = .ok (.if_icmp .ge 70, 3) := by decide +kernel
theorem dX3_findNearest_242 : decode cX3_findNearest 242 = .ok (.aload_n 0, 1) := by decide +kernel
theorem dX3_findNearest_243 : decode cX3_findNearest 243 = .ok (.getfield 23, 3) := by decide +kernel
theorem dX3_findNearest_246 : decode cX3_findNearest 246 = .ok (.iconst 3, 1) := by decide +kernel
theorem dX3_findNearest_247 : decode cX3_findNearest 247 = .ok (.iload_n 1, 1) := by decide +kernel
theorem dX3_findNearest_248 : decode cX3_findNearest 248 = .ok (.imul, 1) := by decide +kernel
theorem dX3_findNearest_249 : decode cX3_findNearest 249 = .ok (.iload_n 2, 1) := by decide +kernel
theorem dX3_findNearest_250 : decode cX3_findNearest 250 = .ok (.iadd, 1) := by decide +kernel
theorem dX3_findNearest_251 : decode cX3_findNearest 251 = .ok (.lconst 0, 1) := by decide +kernel
theorem dX3_findNearest_252 : decode cX3_findNearest 252 = .ok (.lastore, 1) := by decide +kernel
theorem dX3_findNearest_253 : decode cX3_findNearest 253 = .ok (.iconst 0, 1) := by decide +kernel
theorem dX3_findNearest_254 : decode cX3_findNearest 254 = .ok (.istore_n 3, 1) := by decide +kernel
theorem dX3_findNearest_255 : decode cX3_findNearest 255 = .ok (.iload_n 3, 1) := by decide +kernel
theorem dX3_findNearest_256 : decode cX3_findNearest 256 = .ok (.aload_n 0, 1) := by decide +kernel
theorem dX3_findNearest_257 : decode cX3_findNearest 257 = .ok (.getfield 72, 3) := by decide +kernel
theorem dX3_findNearest_260 : decode cX3_findNearest 260 = .ok (.if_icmp .ge 43, 3) := by decide +kernel
theorem dX3_findNearest_263 : decode cX3_findNearest 263 = .ok (.aload_n 0, 1) := by decide +kernel
theorem dX3_findNearest_264 : decode cX3_findNearest 264 = .ok (.getfield 23, 3) := by decide +kernel
theorem dX3_findNearest_267 : decode cX3_findNearest 267 = .ok (.iconst 3, 1) := by decide +kernel
theorem dX3_findNearest_268 : decode cX3_findNearest 268 = .ok (.iload_n 1, 1) := by decide +kernel
theorem dX3_findNearest_269 : decode cX3_findNearest 269 = .ok (.imul, 1) := by decide +kernel
theorem dX3_findNearest_270 : decode cX3_findNearest 270 = .ok (.iload_n 2, 1) := by decide +kernel
theorem dX3_findNearest_271 : decode cX3_findNearest 271 = .ok (.iadd, 1) := by decide +kernel
theorem dX3_findNearest_272 : decode cX3_findNearest 272 = .ok (.dup2, 1) := by decide +kernel
theorem dX3_findNearest_273 : decode cX3_findNearest 273 = .ok (.laload, 1) := by decide +kernel
theorem dX3_findNearest_274 : decode cX3_findNearest 274 = .ok (.aload_n 0, 1) := by decide +kernel
theorem dX3_findNearest_275 : decode cX3_findNearest 275 = .ok (.getfield 51, 3) := by decide +kernel
theorem dX3_findNearest_278 : decode cX3_findNearest 278 = .ok (.iconst 3, 1) := by decide +kernel
theorem dX3_findNearest_279 : decode cX3_findNearest 279 = .ok (.iload_n 3, 1) := by decide +kernel
theorem dX3_findNearest_280 : decode cX3_findNearest 280 = .ok (.imul, 1) := by decide +kernel
theorem dX3_findNearest_281 : decode cX3_findNearest 281 = .ok (.iload_n 1, 1) := by decide +kernel
theorem dX3_findNearest_282 : decode cX3_findNearest 282 = .ok (.iadd, 1) := by decide +kernel
theorem dX3_findNearest_283 : decode cX3_findNearest 283 = .ok (.laload, 1) := by decide +kernel
theorem dX3_findNearest_284 : decode cX3_findNearest 284 = .ok (.aload_n 0, 1) := by decide +kernel
theorem dX3_findNearest_285 : decode cX3_findNearest 285 = .ok (.getfield 51, 3) := by decide +kernel
theorem dX3_findNearest_288 : decode cX3_findNearest 288 = .ok (.iconst 3, 1) := by decide +kernel
theorem dX3_findNearest_289 : decode cX3_findNearest 289 = .ok (.iload_n 3, 1) := by decide +kernel
theorem dX3_findNearest_290 : decode cX3_findNearest 290 = .ok (.imul, 1) := by decide +kernel
theorem dX3_findNearest_291 : decode cX3_findNearest 291 = .ok (.iload_n 2, 1) := by decide +kernel
theorem dX3_findNearest_292 : decode cX3_findNearest 292 = .ok (.iadd, 1) := by decide +kernel
theorem dX3_findNearest_293 : decode cX3_findNearest 293 = .ok (.laload, 1) := by decide +kernel
theorem dX3_findNearest_294 : decode cX3_findNearest 294 = .ok (.lmul, 1) := by decide +kernel
theorem dX3_findNearest_295 : decode cX3_findNearest 295 = .ok (.ladd, 1) := by decide +kernel
theorem dX3_findNearest_296 : decode cX3_findNearest 296 = .ok (.lastore, 1) := by decide +kernel
theorem dX3_findNearest_297 : decode cX3_findNearest 297 = .ok (.iinc 3 1, 3) := by decide +kernel
theorem dX3_findNearest_300 : decode cX3_findNearest 300 = .ok (.goto (-45), 3) := by decide +kernel
theorem dX3_findNearest_303 : decode cX3_findNearest 303 = .ok (.iinc 2 1, 3) := by decide +kernel
theorem dX3_findNearest_306 : decode cX3_findNearest 306 = .ok (.goto (-72), 3) := by decide +kernel
theorem dX3_findNearest_309 : decode cX3_findNearest 309 = .ok (.iinc 1 1, 3) := by decide +kernel
theorem dX3_findNearest_312 : decode cX3_findNearest 312 = .ok (.goto (-142), 3) := by decide +kernel
theorem dX3_findNearest_315 : decode cX3_findNearest 315 = .ok (.aload_n 0, 1) := by decide +kernel
theorem dX3_findNearest_316 : decode cX3_findNearest 316 = .ok (.aload_n 0, 1) := by decide +kernel
theorem dX3_findNearest_317 : decode cX3_findNearest 317 = .ok (.getfield 95, 3) := by decide +kernel
theorem dX3_findNearest_320 : decode cX3_findNearest 320 = .ok (.invokevirtual 102, 3) := by decide +kernel
theorem dX3_findNearest_323 : decode cX3_findNearest 323 = .ok (.aload_n 0, 1) := by decide +kernel
theorem dX3_findNearest_324 : decode cX3_findNearest 324 = .ok (.aload_n 0, 1) := by decide +kernel
theorem dX3_findNearest_325 : decode cX3_findNearest 325 = .ok (.getfield 106, 3) := by decide +kernel
theorem dX3_findNearest_328 : decode cX3_findNearest 328 = .ok (.putfield 165, 3) := by decide +kernel
theorem dX3_findNearest_331 : decode cX3_findNearest 331 = .ok (.iconst 0, 1) := by decide +kernel
theorem dX3_findNearest_332 : decode cX3_findNearest 332 = .ok (.istore_n 1, 1) := by decide +kernel
theorem dX3_findNearest_333 : decode cX3_findNearest 333 = .ok (.iload_n 1, 1) := by decide +kernel
theorem dX3_findNearest_334 : decode cX3_findNearest 334 = .ok (.aload_n 0, 1) := by decide +kernel
theorem dX3_findNearest_335 : decode cX3_findNearest 335 = .ok (.getfield 54, 3) := by decide +kernel
theorem dX3_findNearest_338 : decode cX3_findNearest 338 = .ok (.if_icmp .ge 47, 3) := by decide +kernel
theorem dX3_findNearest_341 : decode cX3_findNearest 341 = .ok (.iconst 0, 1) := by decide +kernel
theorem dX3_findNearest_342 : decode cX3_findNearest 342 = .ok (.istore_n 2, 1) := by decide +kernel
theorem dX3_findNearest_343 : decode cX3_findNearest 343 = .ok (.iload_n 2, 1) := by decide +kernel
theorem dX3_findNearest_344 : decode cX3_findNearest 344 = .ok (.aload_n 0, 1) := by decide +kernel
theorem dX3_findNearest_345 : decode cX3_findNearest 345 = .ok (.getfield 95, 3) := by decide +kernel
theorem dX3_findNearest_348 : decode cX3_findNearest 348 = .ok (.if_icmp .ge 31, 3) := by decide +kernel
theorem dX3_findNearest_351 : decode cX3_findNearest 351 = .ok (.aload_n 0, 1) := by decide +kernel
theorem dX3_findNearest_352 : decode cX3_findNearest 352 = .ok (.getfield 48, 3) := by decide +kernel
theorem dX3_findNearest_355 : decode cX3_findNearest 355 = .ok (.iload_n 1, 1) := by decide +kernel
theorem dX3_findNearest_356 : decode cX3_findNearest 356 = .ok (.dup2, 1) := by decide +kernel
theorem dX3_findNearest_357 : decode cX3_findNearest 357 = .ok (.laload, 1) := by decide +kernel
theorem dX3_findNearest_358 : decode cX3_findNearest 358 = .ok (.aload_n 0, 1) := by decide +kernel
theorem dX3_findNearest_359 : decode cX3_findNearest 359 = .ok (.iload_n 2, 1) := by decide +kernel
theorem dX3_findNearest_360 : decode cX3_findNearest 360 = .ok (.iload_n 1, 1) := by decide +kernel
theorem dX3_findNearest_361 : decode cX3_findNearest 361 = .ok (.invokevirtual 146, 3) := by decide +kernel
theorem dX3_findNearest_364 : decode cX3_findNearest 364 = .ok (.aload_n 0, 1) := by decide +kernel
theorem dX3_findNearest_365 : decode cX3_findNearest 365 = .ok (.getfield 30, 3) := by decide +kernel
theorem dX3_findNearest_368 : decode cX3_findNearest 368 = .ok (.iload_n 2, 1) := by decide +kernel
theorem dX3_findNearest_369 : decode cX3_findNearest 369 = .ok (.laload, 1) := by decide +kernel
theorem dX3_findNearest_370 : decode cX3_findNearest 370 = .ok (.lmul, 1) := by decide +kernel
theorem dX3_findNearest_371 : decode cX3_findNearest 371 = .ok (.ladd, 1) := by decide +kernel
theorem dX3_findNearest_372 : decode cX3_findNearest 372 = .ok (.lastore, 1) := by decide +kernel
theorem dX3_findNearest_373 : decode cX3_findNearest 373 = .ok (.iinc 2 1, 3) := by decide +kernel
theorem dX3_findNearest_376 : decode cX3_findNearest 376 = .ok (.goto (-33), 3) := by decide +kernel
theorem dX3_findNearest_379 : decode cX3_findNearest 379 = .ok (.iinc 1 1, 3) := by decide +kernel
theorem dX3_findNearest_382 : decode cX3_findNearest 382 = .ok (.goto (-49), 3) := by decide +kernel
theorem dX3_findNearest_385 : decode cX3_findNearest 385 = .ok (.return_, 1) := by decide +kernel
theorem dX3_products_0 : decode cX3_products 0 = .ok (.lconst 0, 1) := by decide +kernel
theorem dX3_products_1 : decode cX3_products 1 = .ok (.lstore_n 3, 1) := by decide +kernel
theorem dX3_products_2 : decode cX3_products 2 = .ok (.iconst 0, 1) := by decide +kernel
theorem dX3_products_3 : decode cX3_products 3 = .ok (.istore 5, 2) := by decide +kernel
theorem dX3_products_5 : decode cX3_products 5 = .ok (.iload 5, 2) := by decide +kernel
theorem dX3_products_7 : decode cX3_products 7 = .ok (.aload_n 0, 1) := by decide +kernel
theorem dX3_products_8 : decode cX3_products 8 = .ok (.getfield 54, 3) := by decide +kernel
theorem dX3_products_11 : decode cX3_products 11 = .ok (.if_icmp .ge 37, 3) := by decide +kernel
theorem dX3_products_14 : decode cX3_products 14 = .ok (.lload_n 3, 1) := by decide +kernel
theorem dX3_products_15 : decode cX3_products 15 = .ok (.aload_n 0, 1) := by decide +kernel
theorem dX3_products_16 : decode cX3_products 16 = .ok (.getfield 7, 3) := by decide +kernel
theorem dX3_products_19 : decode cX3_products 19 = .ok (.iconst 4, 1) := by decide +kernel
theorem dX3_products_20 : decode cX3_products 20 = .ok (.iload_n 1, 1) := by decide +kernel
theorem dX3_products_21 : decode cX3_products 21 = .ok (.imul, 1) := by decide +kernel
theorem dX3_products_22 : decode cX3_products 22 = .ok (.iload 5, 2) := by decide +kernel
theorem dX3_products_24 : decode cX3_products 24 = .ok (.iadd, 1) := by decide +kernel
theorem dX3_products_25 : decode cX3_products 25 = .ok (.iaload, 1) := by decide +kernel
theorem dX3_products_26 : decode cX3_products 26 = .ok (.i2l, 1) := by decide +kernel
theorem dX3_products_27 : decode cX3_products 27 = .ok (.aload_n 0, 1) := by decide +kernel
theorem dX3_products_28 : decode cX3_products 28 = .ok (.getfield 7, 3) := by decide +kernel
theorem dX3_products_31 : decode cX3_products 31 = .ok (.iconst 4, 1) := by decide +kernel
theorem dX3_products_32 : decode cX3_products 32 = .ok (.iload_n 2, 1) := by decide +kernel
theorem dX3_products_33 : decode cX3_products 33 = .ok (.imul, 1) := by decide +kernel
theorem dX3_products_34 : decode cX3_products 34 = .ok (.iload 5, 2) := by decide +kernel
theorem dX3_products_36 : decode cX3_products 36 = .ok (.iadd, 1) := by decide +kernel
theorem dX3_products_37 : decode cX3_products 37 = .ok (.iaload, 1) := by decide +kernel
theorem dX3_products_38 : decode cX3_products 38 = .ok (.i2l, 1) := by decide +kernel
theorem dX3_products_39 : decode cX3_products 39 = .ok (.lmul, 1) := by decide +kernel
theorem dX3_products_40 : decode cX3_products 40 = .ok (.ladd, 1) := by decide +kernel
theorem dX3_products_41 : decode cX3_products 41 = .ok (.lstore_n 3, 1) := by decide +kernel
theorem dX3_products_42 : decode cX3_products 42 = .ok (.iinc 5 1, 3) := by decide +kernel
theorem dX3_products_45 : decode cX3_products 45 = .ok (.goto (-40), 3) := by decide +kernel
theorem dX3_products_48 : decode cX3_products 48 = .ok (.lload_n 3, 1) := by decide +kernel
theorem dX3_products_49 : decode cX3_products 49 = .ok (.lreturn, 1) := by decide +kernel
theorem dX3_nearest_0 : decode cX3_nearest 0 = .ok (.aload_n 0, 1) := by decide +kernel
theorem dX3_nearest_1 : decode cX3_nearest 1 = .ok (.aload_n 0, 1) := by decide +kernel
theorem dX3_nearest_2 : decode cX3_nearest 2 = .ok (.iload_n 1, 1) := by decide +kernel
theorem dX3_nearest_3 : decode cX3_nearest 3 = .ok (.invokevirtual 127, 3) := by decide +kernel
theorem dX3_nearest_6 : decode cX3_nearest 6 = .ok (.ifCond .ne 7, 3) := by decide +kernel
theorem dX3_nearest_9 : decode cX3_nearest 9 = .ok (.iconst 1, 1) := by decide +kernel
theorem dX3_nearest_10 : decode cX3_nearest 10 = .ok (.goto 18, 3) := by decide +kernel
theorem dX3_nearest_13 : decode cX3_nearest 13 = .ok (.iload_n 2, 1) := by decide +kernel
theorem dX3_nearest_14 : decode cX3_nearest 14 = .ok (.i2l, 1) := by decide +kernel
theorem dX3_nearest_15 : decode cX3_nearest 15 = .ok (.lconst 0, 1) := by decide +kernel
theorem dX3_nearest_16 : decode cX3_nearest 16 = .ok (.lconst 1, 1) := by decide +kernel
theorem dX3_nearest_17 : decode cX3_nearest 17 = .ok (.invokestatic 75, 3) := by decide +kernel
theorem dX3_nearest_20 : decode cX3_nearest 20 = .ok (.ifCond .eq 7, 3) := by decide +kernel
theorem dX3_nearest_23 : decode cX3_nearest 23 = .ok (.iconst 0, 1) := by decide +kernel
theorem dX3_nearest_24 : decode cX3_nearest 24 = .ok (.goto 4, 3) := by decide +kernel
theorem dX3_nearest_27 : decode cX3_nearest 27 = .ok (.iconst 2, 1) := by decide +kernel
theorem dX3_nearest_28 : decode cX3_nearest 28 = .ok (.putfield 58, 3) := by decide +kernel
theorem dX3_nearest_31 : decode cX3_nearest 31 = .ok (.aload_n 0, 1) := by decide +kernel
theorem dX3_nearest_32 : decode cX3_nearest 32 = .ok (.getfield 58, 3) := by decide +kernel
theorem dX3_nearest_35 : decode cX3_nearest 35 = .ok (.ifCond .le 5, 3) := by decide +kernel
theorem dX3_nearest_38 : decode cX3_nearest 38 = .ok (.lconst 0, 1) := by decide +kernel
theorem dX3_nearest_39 : decode cX3_nearest 39 = .ok (.lreturn, 1) := by decide +kernel
theorem dX3_nearest_40 : decode cX3_nearest 40 = .ok (.aload_n 0, 1) := by decide +kernel
theorem dX3_nearest_41 : decode cX3_nearest 41 = .ok (.invokevirtual 171, 3) := by decide +kernel
theorem dX3_nearest_44 : decode cX3_nearest 44 = .ok (.aload_n 0, 1) := by decide +kernel
theorem dX3_nearest_45 : decode cX3_nearest 45 = .ok (.aload_n 0, 1) := by decide +kernel
theorem dX3_nearest_46 : decode cX3_nearest 46 = .ok (.getfield 48, 3) := by decide +kernel
theorem dX3_nearest_49 : decode cX3_nearest 49 = .ok (.iload_n 1, 1) := by decide +kernel
theorem dX3_nearest_50 : decode cX3_nearest 50 = .ok (.laload, 1) := by decide +kernel
theorem dX3_nearest_51 : decode cX3_nearest 51 = .ok (.aload_n 0, 1) := by decide +kernel
theorem dX3_nearest_52 : decode cX3_nearest 52 = .ok (.getfield 165, 3) := by decide +kernel
theorem dX3_nearest_55 : decode cX3_nearest 55 = .ok (.invokevirtual 123, 3) := by decide +kernel
theorem dX3_nearest_58 : decode cX3_nearest 58 = .ok (.aload_n 0, 1) := by decide +kernel
theorem dX3_nearest_59 : decode cX3_nearest 59 = .ok (.iload_n 2, 1) := by decide +kernel
theorem dX3_nearest_60 : decode cX3_nearest 60 = .ok (.invokevirtual 136, 3) := by decide +kernel
theorem dX3_nearest_63 : decode cX3_nearest 63 = .ok (.lreturn, 1) := by decide +kernel
theorem dX3_squares_0 : decode cX3_squares 0 = .ok (.aload_n 0, 1) := by decide +kernel
theorem dX3_squares_1 : decode cX3_squares 1 = .ok (.iload_n 1, 1) := by decide +kernel
theorem dX3_squares_2 : decode cX3_squares 2 = .ok (.i2l, 1) := by decide +kernel
theorem dX3_squares_3 : decode cX3_squares 3 = .ok (.lconst 0, 1) := by decide +kernel
theorem dX3_squares_4 : decode cX3_squares 4 = .ok (.lconst 1, 1) := by decide +kernel
theorem dX3_squares_5 : decode cX3_squares 5 = .ok (.invokestatic 75, 3) := by decide +kernel
theorem dX3_squares_8 : decode cX3_squares 8 = .ok (.ifCond .eq 7, 3) := by decide +kernel
theorem dX3_squares_11 : decode cX3_squares 11 = .ok (.iconst 0, 1) := by decide +kernel
theorem dX3_squares_12 : decode cX3_squares 12 = .ok (.goto 4, 3) := by decide +kernel
theorem dX3_squares_15 : decode cX3_squares 15 = .ok (.iconst 1, 1) := by decide +kernel
theorem dX3_squares_16 : decode cX3_squares 16 = .ok (.putfield 58, 3) := by decide +kernel
theorem dX3_squares_19 : decode cX3_squares 19 = .ok (.aload_n 0, 1) := by decide +kernel
theorem dX3_squares_20 : decode cX3_squares 20 = .ok (.getfield 58, 3) := by decide +kernel
theorem dX3_squares_23 : decode cX3_squares 23 = .ok (.ifCond .le 5, 3) := by decide +kernel
theorem dX3_squares_26 : decode cX3_squares 26 = .ok (.lconst 0, 1) := by decide +kernel
theorem dX3_squares_27 : decode cX3_squares 27 = .ok (.lreturn, 1) := by decide +kernel
theorem dX3_squares_28 : decode cX3_squares 28 = .ok (.aload_n 0, 1) := by decide +kernel
theorem dX3_squares_29 : decode cX3_squares 29 = .ok (.invokevirtual 171, 3) := by decide +kernel
theorem dX3_squares_32 : decode cX3_squares 32 = .ok (.lconst 0, 1) := by decide +kernel
theorem dX3_squares_33 : decode cX3_squares 33 = .ok (.lstore_n 2, 1) := by decide +kernel
theorem dX3_squares_34 : decode cX3_squares 34 = .ok (.iconst 0, 1) := by decide +kernel
theorem dX3_squares_35 : decode cX3_squares 35 = .ok (.istore 4, 2) := by decide +kernel
theorem dX3_squares_37 : decode cX3_squares 37 = .ok (.iload 4, 2) := by decide +kernel
theorem dX3_squares_39 : decode cX3_squares 39 = .ok (.aload_n 0, 1) := by decide +kernel
theorem dX3_squares_40 : decode cX3_squares 40 = .ok (.getfield 72, 3) := by decide +kernel
theorem dX3_squares_43 : decode cX3_squares 43 = .ok (.if_icmp .ge 81, 3) := by decide +kernel
theorem dX3_squares_46 : decode cX3_squares 46 = .ok (.aload_n 0, 1) := by decide +kernel
theorem dX3_squares_47 : decode cX3_squares 47 = .ok (.getfield 7, 3) := by decide +kernel
theorem dX3_squares_50 : decode cX3_squares 50 = .ok (.iconst 4, 1) := by decide +kernel
theorem dX3_squares_51 : decode cX3_squares 51 = .ok (.iload 4, 2) := by decide +kernel
theorem dX3_squares_53 : decode cX3_squares 53 = .ok (.imul, 1) := by decide +kernel
theorem dX3_squares_54 : decode cX3_squares 54 = .ok (.iconst 3, 1) := by decide +kernel
theorem dX3_squares_55 : decode cX3_squares 55 = .ok (.iadd, 1) := by decide +kernel
theorem dX3_squares_56 : decode cX3_squares 56 = .ok (.iaload, 1) := by decide +kernel
theorem dX3_squares_57 : decode cX3_squares 57 = .ok (.i2l, 1) := by decide +kernel
theorem dX3_squares_58 : decode cX3_squares 58 = .ok (.lstore 5, 2) := by decide +kernel
theorem dX3_squares_60 : decode cX3_squares 60 = .ok (.lload_n 2, 1) := by decide +kernel
theorem dX3_squares_61 : decode cX3_squares 61 = .ok (.lload 5, 2) := by decide +kernel
theorem dX3_squares_63 : decode cX3_squares 63 = .ok (.lload 5, 2) := by decide +kernel
theorem dX3_squares_65 : decode cX3_squares 65 = .ok (.lmul, 1) := by decide +kernel
theorem dX3_squares_66 : decode cX3_squares 66 = .ok (.aload_n 0, 1) := by decide +kernel
theorem dX3_squares_67 : decode cX3_squares 67 = .ok (.getfield 165, 3) := by decide +kernel
theorem dX3_squares_70 : decode cX3_squares 70 = .ok (.lmul, 1) := by decide +kernel
theorem dX3_squares_71 : decode cX3_squares 71 = .ok (.ladd, 1) := by decide +kernel
theorem dX3_squares_72 : decode cX3_squares 72 = .ok (.lstore_n 2, 1) := by decide +kernel
theorem dX3_squares_73 : decode cX3_squares 73 = .ok (.iconst 0, 1) := by decide +kernel
theorem dX3_squares_74 : decode cX3_squares 74 = .ok (.istore 7, 2) := by decide +kernel
theorem dX3_squares_76 : decode cX3_squares 76 = .ok (.iload 7, 2) := by decide +kernel
theorem dX3_squares_78 : decode cX3_squares 78 = .ok (.aload_n 0, 1) := by decide +kernel
theorem dX3_squares_79 : decode cX3_squares 79 = .ok (.getfield 54, 3) := by decide +kernel
theorem dX3_squares_82 : decode cX3_squares 82 = .ok (.if_icmp .ge 36, 3) := by decide +kernel
theorem dX3_squares_85 : decode cX3_squares 85 = .ok (.lload_n 2, 1) := by decide +kernel
theorem dX3_squares_86 : decode cX3_squares 86 = .ok (.lload 5, 2) := by decide +kernel
theorem dX3_squares_88 : decode cX3_squares 88 = .ok (.aload_n 0, 1) := by decide +kernel
theorem dX3_squares_89 : decode cX3_squares 89 = .ok (.getfield 7, 3) := by decide +kernel
theorem dX3_squares_92 : decode cX3_squares 92 = .ok (.iconst 4, 1) := by decide +kernel
theorem dX3_squares_93 : decode cX3_squares 93 = .ok (.iload 4, 2) := by decide +kernel
theorem dX3_squares_95 : decode cX3_squares 95 = .ok (.imul, 1) := by decide +kernel
theorem dX3_squares_96 : decode cX3_squares 96 = .ok (.iload 7, 2) := by decide +kernel
theorem dX3_squares_98 : decode cX3_squares 98 = .ok (.iadd, 1) := by decide +kernel
theorem dX3_squares_99 : decode cX3_squares 99 = .ok (.iaload, 1) := by decide +kernel
theorem dX3_squares_100 : decode cX3_squares 100 = .ok (.i2l, 1) := by decide +kernel
theorem dX3_squares_101 : decode cX3_squares 101 = .ok (.lmul, 1) := by decide +kernel
theorem dX3_squares_102 : decode cX3_squares 102 = .ok (.aload_n 0, 1) := by decide +kernel
theorem dX3_squares_103 : decode cX3_squares 103 = .ok (.getfield 48, 3) := by decide +kernel
theorem dX3_squares_106 : decode cX3_squares 106 = .ok (.iload 7, 2) := by decide +kernel
theorem dX3_squares_108 : decode cX3_squares 108 = .ok (.laload, 1) := by decide +kernel
theorem dX3_squares_109 : decode cX3_squares 109 = .ok (.lmul, 1) := by decide +kernel
theorem dX3_squares_110 : decode cX3_squares 110 = .ok (.lsub, 1) := by decide +kernel
theorem dX3_squares_111 : decode cX3_squares 111 = .ok (.lstore_n 2, 1) := by decide +kernel
theorem dX3_squares_112 : decode cX3_squares 112 = .ok (.iinc 7 1, 3) := by decide +kernel
theorem dX3_squares_115 : decode cX3_squares 115 = .ok (.goto (-39), 3) := by decide +kernel
theorem dX3_squares_118 : decode cX3_squares 118 = .ok (.iinc 4 1, 3) := by decide +kernel
theorem dX3_squares_121 : decode cX3_squares 121 = .ok (.goto (-84), 3) := by decide +kernel
theorem dX3_squares_124 : decode cX3_squares 124 = .ok (.aload_n 0, 1) := by decide +kernel
theorem dX3_squares_125 : decode cX3_squares 125 = .ok (.lload_n 2, 1) := by decide +kernel
theorem dX3_squares_126 : decode cX3_squares 126 = .ok (.aload_n 0, 1) := by decide +kernel
theorem dX3_squares_127 : decode cX3_squares 127 = .ok (.getfield 165, 3) := by decide +kernel
theorem dX3_squares_130 : decode cX3_squares 130 = .ok (.invokevirtual 123, 3) := by decide +kernel
theorem dX3_squares_133 : decode cX3_squares 133 = .ok (.aload_n 0, 1) := by decide +kernel
end
section
/-! decode rows of X3 -/
theorem dX3_squares_134 : decode cX3_squares 134 = .ok (.iload_n 1, 1) := by decide +kernel
theorem dX3_squares_135 : decode cX3_squares 135 = .ok (.invokevirtual 136, 3) := by decide +kernel
theorem dX3_squares_138 : decode cX3_squares 138 = .ok (.lreturn, 1) := by decide +kernel
theorem dX3_isSolution_0 : decode cX3_isSolution 0 = .ok (.iconst 0, 1) := by decide +kernel
theorem dX3_isSolution_1 : decode cX3_isSolution 1 = .ok (.istore 7, 2) := by decide +kernel
theorem dX3_isSolution_3 : decode cX3_isSolution 3 = .ok (.iload 7, 2) := by decide +kernel
theorem dX3_isSolution_5 : decode cX3_isSolution 5 = .ok (.aload_n 0, 1) := by decide +kernel
theorem dX3_isSolution_6 : decode cX3_isSolution 6 = .ok (.getfield 72, 3) := by decide +kernel
theorem dX3_isSolution_9 : decode cX3_isSolution 9 = .ok (.if_icmp .ge 98, 3) := by decide +kernel
theorem dX3_isSolution_12 : decode cX3_isSolution 12 = .ok (.aload_n 0, 1) := by decide +kernel
theorem dX3_isSolution_13 : decode cX3_isSolution 13 = .ok (.getfield 7, 3) := by decide +kernel
theorem dX3_isSolution_16 : decode cX3_isSolution 16 = .ok (.iconst 4, 1) := by decide +kernel
theorem dX3_isSolution_17 : decode cX3_isSolution 17 = .ok (.iload 7, 2) := by decide +kernel
theorem dX3_isSolution_19 : decode cX3_isSolution 19 = .ok (.imul, 1) := by decide +kernel
theorem dX3_isSolution_20 : decode cX3_isSolution 20 = .ok (.iaload, 1) := by decide +kernel
theorem dX3_isSolution_21 : decode cX3_isSolution 21 = .ok (.i2l, 1) := by decide +kernel
theorem dX3_isSolution_22 : decode cX3_isSolution 22 = .ok (.lload_n 1, 1) := by decide +kernel
theorem dX3_isSolution_23 : decode cX3_isSolution 23 = .ok (.lmul, 1) := by decide +kernel
theorem dX3_isSolution_24 : decode cX3_isSolution 24 = .ok (.lstore 8, 2) := by decide +kernel
theorem dX3_isSolution_26 : decode cX3_isSolution 26 = .ok (.aload_n 0, 1) := by decide +kernel
theorem dX3_isSolution_27 : decode cX3_isSolution 27 = .ok (.getfield 54, 3) := by decide +kernel
theorem dX3_isSolution_30 : decode cX3_isSolution 30 = .ok (.iconst 1, 1) := by decide +kernel
theorem dX3_isSolution_31 : decode cX3_isSolution 31 = .ok (.if_icmp .le 22, 3) := by decide +kernel
theorem dX3_isSolution_34 : decode cX3_isSolution 34 = .ok (.lload 8, 2) := by decide +kernel
theorem dX3_isSolution_36 : decode cX3_isSolution 36 = .ok (.aload_n 0, 1) := by decide +kernel
theorem dX3_isSolution_37 : decode cX3_isSolution 37 = .ok (.getfield 7, 3) := by decide +kernel
theorem dX3_isSolution_40 : decode cX3_isSolution 40 = .ok (.iconst 4, 1) := by decide +kernel
theorem dX3_isSolution_41 : decode cX3_isSolution 41 = .ok (.iload 7, 2) := by decide +kernel
theorem dX3_isSolution_43 : decode cX3_isSolution 43 = .ok (.imul, 1) := by decide +kernel
theorem dX3_isSolution_44 : decode cX3_isSolution 44 = .ok (.iconst 1, 1) := by decide +kernel
theorem dX3_isSolution_45 : decode cX3_isSolution 45 = .ok (.iadd, 1) := by decide +kernel
theorem dX3_isSolution_46 : decode cX3_isSolution 46 = .ok (.iaload, 1) := by decide +kernel
theorem dX3_isSolution_47 : decode cX3_isSolution 47 = .ok (.i2l, 1) := by decide +kernel
theorem dX3_isSolution_48 : decode cX3_isSolution 48 = .ok (.lload_n 3, 1) := by decide +kernel
theorem dX3_isSolution_49 : decode cX3_isSolution 49 = .ok (.lmul, 1) := by decide +kernel
theorem dX3_isSolution_50 : decode cX3_isSolution 50 = .ok (.ladd, 1) := by decide +kernel
theorem dX3_isSolution_51 : decode cX3_isSolution 51 = .ok (.lstore 8, 2) := by decide +kernel
theorem dX3_isSolution_53 : decode cX3_isSolution 53 = .ok (.aload_n 0, 1) := by decide +kernel
theorem dX3_isSolution_54 : decode cX3_isSolution 54 = .ok (.getfield 54, 3) := by decide +kernel
theorem dX3_isSolution_57 : decode cX3_isSolution 57 = .ok (.iconst 2, 1) := by decide +kernel
theorem dX3_isSolution_58 : decode cX3_isSolution 58 = .ok (.if_icmp .le 23, 3) := by decide +kernel
theorem dX3_isSolution_61 : decode cX3_isSolution 61 = .ok (.lload 8, 2) := by decide +kernel
theorem dX3_isSolution_63 : decode cX3_isSolution 63 = .ok (.aload_n 0, 1) := by decide +kernel
theorem dX3_isSolution_64 : decode cX3_isSolution 64 = .ok (.getfield 7, 3) := by decide +kernel
theorem dX3_isSolution_67 : decode cX3_isSolution 67 = .ok (.iconst 4, 1) := by decide +kernel
theorem dX3_isSolution_68 : decode cX3_isSolution 68 = .ok (.iload 7, 2) := by decide +kernel
theorem dX3_isSolution_70 : decode cX3_isSolution 70 = .ok (.imul, 1) := by decide +kernel
theorem dX3_isSolution_71 : decode cX3_isSolution 71 = .ok (.iconst 2, 1) := by decide +kernel
theorem dX3_isSolution_72 : decode cX3_isSolution 72 = .ok (.iadd, 1) := by decide +kernel
theorem dX3_isSolution_73 : decode cX3_isSolution 73 = .ok (.iaload, 1) := by decide +kernel
theorem dX3_isSolution_74 : decode cX3_isSolution 74 = .ok (.i2l, 1) := by decide +kernel
theorem dX3_isSolution_75 : decode cX3_isSolution 75 = .ok (.lload 5, 2) := by decide +kernel
theorem dX3_isSolution_77 : decode cX3_isSolution 77 = .ok (.lmul, 1) := by decide +kernel
theorem dX3_isSolution_78 : decode cX3_isSolution 78 = .ok (.ladd, 1) := by decide +kernel
theorem dX3_isSolution_79 : decode cX3_isSolution 79 = .ok (.lstore 8, 2) := by decide +kernel
theorem dX3_isSolution_81 : decode cX3_isSolution 81 = .ok (.lload 8, 2) := by decide +kernel
theorem dX3_isSolution_83 : decode cX3_isSolution 83 = .ok (.aload_n 0, 1) := by decide +kernel
theorem dX3_isSolution_84 : decode cX3_isSolution 84 = .ok (.getfield 7, 3) := by decide +kernel
theorem dX3_isSolution_87 : decode cX3_isSolution 87 = .ok (.iconst 4, 1) := by decide +kernel
theorem dX3_isSolution_88 : decode cX3_isSolution 88 = .ok (.iload 7, 2) := by decide +kernel
theorem dX3_isSolution_90 : decode cX3_isSolution 90 = .ok (.imul, 1) := by decide +kernel
theorem dX3_isSolution_91 : decode cX3_isSolution 91 = .ok (.iconst 3, 1) := by decide +kernel
theorem dX3_isSolution_92 : decode cX3_isSolution 92 = .ok (.iadd, 1) := by decide +kernel
theorem dX3_isSolution_93 : decode cX3_isSolution 93 = .ok (.iaload, 1) := by decide +kernel
theorem dX3_isSolution_94 : decode cX3_isSolution 94 = .ok (.i2l, 1) := by decide +kernel
theorem dX3_isSolution_95 : decode cX3_isSolution 95 = .ok (.lcmp, 1) := by decide +kernel
theorem dX3_isSolution_96 : decode cX3_isSolution 96 = .ok (.ifCond .eq 5, 3) := by decide +kernel
theorem dX3_isSolution_99 : decode cX3_isSolution 99 = .ok (.iconst 0, 1) := by decide +kernel
theorem dX3_isSolution_100 : decode cX3_isSolution 100 = .ok (.ireturn, 1) := by decide +kernel
theorem dX3_isSolution_101 : decode cX3_isSolution 101 = .ok (.iinc 7 1, 3) := by decide +kernel
theorem dX3_isSolution_104 : decode cX3_isSolution 104 = .ok (.goto (-101), 3) := by decide +kernel
theorem dX3_isSolution_107 : decode cX3_isSolution 107 = .ok (.iconst 1, 1) := by decide +kernel
theorem dX3_isSolution_108 : decode cX3_isSolution 108 = .ok (.ireturn, 1) := by decide +kernel
theorem dX3_inBox_0 : decode cX3_inBox 0 = .ok (.aload_n 0, 1) := by decide +kernel
theorem dX3_inBox_1 : decode cX3_inBox 1 = .ok (.iload_n 1, 1) := by decide +kernel
theorem dX3_inBox_2 : decode cX3_inBox 2 = .ok (.i2l, 1) := by decide +kernel
theorem dX3_inBox_3 : decode cX3_inBox 3 = .ok (.lconst 0, 1) := by decide +kernel
theorem dX3_inBox_4 : decode cX3_inBox 4 = .ok (.ldc2_w 174, 3) := by decide +kernel
theorem dX3_inBox_7 : decode cX3_inBox 7 = .ok (.invokestatic 75, 3) := by decide +kernel
theorem dX3_inBox_10 : decode cX3_inBox 10 = .ok (.ifCond .eq 7, 3) := by decide +kernel
theorem dX3_inBox_13 : decode cX3_inBox 13 = .ok (.iconst 0, 1) := by decide +kernel
theorem dX3_inBox_14 : decode cX3_inBox 14 = .ok (.goto 4, 3) := by decide +kernel
theorem dX3_inBox_17 : decode cX3_inBox 17 = .ok (.iconst 1, 1) := by decide +kernel
theorem dX3_inBox_18 : decode cX3_inBox 18 = .ok (.putfield 58, 3) := by decide +kernel
theorem dX3_inBox_21 : decode cX3_inBox 21 = .ok (.aload_n 0, 1) := by decide +kernel
theorem dX3_inBox_22 : decode cX3_inBox 22 = .ok (.getfield 58, 3) := by decide +kernel
theorem dX3_inBox_25 : decode cX3_inBox 25 = .ok (.ifCond .le 5, 3) := by decide +kernel
theorem dX3_inBox_28 : decode cX3_inBox 28 = .ok (.iconst 0, 1) := by decide +kernel
theorem dX3_inBox_29 : decode cX3_inBox 29 = .ok (.ireturn, 1) := by decide +kernel
theorem dX3_inBox_30 : decode cX3_inBox 30 = .ok (.iconst 0, 1) := by decide +kernel
theorem dX3_inBox_31 : decode cX3_inBox 31 = .ok (.istore_n 2, 1) := by decide +kernel
theorem dX3_inBox_32 : decode cX3_inBox 32 = .ok (.iload_n 1, 1) := by decide +kernel
theorem dX3_inBox_33 : decode cX3_inBox 33 = .ok (.ineg, 1) := by decide +kernel
theorem dX3_inBox_34 : decode cX3_inBox 34 = .ok (.istore_n 3, 1) := by decide +kernel
theorem dX3_inBox_35 : decode cX3_inBox 35 = .ok (.iload_n 3, 1) := by decide +kernel
theorem dX3_inBox_36 : decode cX3_inBox 36 = .ok (.iload_n 1, 1) := by decide +kernel
theorem dX3_inBox_37 : decode cX3_inBox 37 = .ok (.if_icmp .gt 112, 3) := by decide +kernel
theorem dX3_inBox_40 : decode cX3_inBox 40 = .ok (.aload_n 0, 1) := by decide +kernel
theorem dX3_inBox_41 : decode cX3_inBox 41 = .ok (.getfield 54, 3) := by decide +kernel
theorem dX3_inBox_44 : decode cX3_inBox 44 = .ok (.iconst 1, 1) := by decide +kernel
theorem dX3_inBox_45 : decode cX3_inBox 45 = .ok (.if_icmp .le 8, 3) := by decide +kernel
theorem dX3_inBox_48 : decode cX3_inBox 48 = .ok (.iload_n 1, 1) := by decide +kernel
theorem dX3_inBox_49 : decode cX3_inBox 49 = .ok (.ineg, 1) := by decide +kernel
theorem dX3_inBox_50 : decode cX3_inBox 50 = .ok (.goto 4, 3) := by decide +kernel
theorem dX3_inBox_53 : decode cX3_inBox 53 = .ok (.iconst 0, 1) := by decide +kernel
theorem dX3_inBox_54 : decode cX3_inBox 54 = .ok (.istore 4, 2) := by decide +kernel
theorem dX3_inBox_56 : decode cX3_inBox 56 = .ok (.iload 4, 2) := by decide +kernel
theorem dX3_inBox_58 : decode cX3_inBox 58 = .ok (.aload_n 0, 1) := by decide +kernel
theorem dX3_inBox_59 : decode cX3_inBox 59 = .ok (.getfield 54, 3) := by decide +kernel
theorem dX3_inBox_62 : decode cX3_inBox 62 = .ok (.iconst 1, 1) := by decide +kernel
theorem dX3_inBox_63 : decode cX3_inBox 63 = .ok (.if_icmp .le 7, 3) := by decide +kernel
theorem dX3_inBox_66 : decode cX3_inBox 66 = .ok (.iload_n 1, 1) := by decide +kernel
theorem dX3_inBox_67 : decode cX3_inBox 67 = .ok (.goto 4, 3) := by decide +kernel
theorem dX3_inBox_70 : decode cX3_inBox 70 = .ok (.iconst 0, 1) := by decide +kernel
theorem dX3_inBox_71 : decode cX3_inBox 71 = .ok (.if_icmp .gt 72, 3) := by decide +kernel
theorem dX3_inBox_74 : decode cX3_inBox 74 = .ok (.aload_n 0, 1) := by decide +kernel
theorem dX3_inBox_75 : decode cX3_inBox 75 = .ok (.getfield 54, 3) := by decide +kernel
theorem dX3_inBox_78 : decode cX3_inBox 78 = .ok (.iconst 2, 1) := by decide +kernel
theorem dX3_inBox_79 : decode cX3_inBox 79 = .ok (.if_icmp .le 8, 3) := by decide +kernel
theorem dX3_inBox_82 : decode cX3_inBox 82 = .ok (.iload_n 1, 1) := by decide +kernel
theorem dX3_inBox_83 : decode cX3_inBox 83 = .ok (.ineg, 1) := by decide +kernel
theorem dX3_inBox_84 : decode cX3_inBox 84 = .ok (.goto 4, 3) := by decide +kernel
theorem dX3_inBox_87 : decode cX3_inBox 87 = .ok (.iconst 0, 1) := by decide +kernel
theorem dX3_inBox_88 : decode cX3_inBox 88 = .ok (.istore 5, 2) := by decide +kernel
theorem dX3_inBox_90 : decode cX3_inBox 90 = .ok (.iload 5, 2) := by decide +kernel
theorem dX3_inBox_92 : decode cX3_inBox 92 = .ok (.aload_n 0, 1) := by decide +kernel
theorem dX3_inBox_93 : decode cX3_inBox 93 = .ok (.getfield 54, 3) := by decide +kernel
theorem dX3_inBox_96 : decode cX3_inBox 96 = .ok (.iconst 2, 1) := by decide +kernel
theorem dX3_inBox_97 : decode cX3_inBox 97 = .ok (.if_icmp .le 7, 3) := by decide +kernel
theorem dX3_inBox_100 : decode cX3_inBox 100 = .ok (.iload_n 1, 1) := by decide +kernel
theorem dX3_inBox_101 : decode cX3_inBox 101 = .ok (.goto 4, 3) := by decide +kernel
theorem dX3_inBox_104 : decode cX3_inBox 104 = .ok (.iconst 0, 1) := by decide +kernel
theorem dX3_inBox_105 : decode cX3_inBox 105 = .ok (.if_icmp .gt 32, 3) := by decide +kernel
theorem dX3_inBox_108 : decode cX3_inBox 108 = .ok (.iload_n 2, 1) := by decide +kernel
theorem dX3_inBox_109 : decode cX3_inBox 109 = .ok (.aload_n 0, 1) := by decide +kernel
theorem dX3_inBox_110 : decode cX3_inBox 110 = .ok (.iload_n 3, 1) := by decide +kernel
theorem dX3_inBox_111 : decode cX3_inBox 111 = .ok (.i2l, 1) := by decide +kernel
theorem dX3_inBox_112 : decode cX3_inBox 112 = .ok (.iload 4, 2) := by decide +kernel
theorem dX3_inBox_114 : decode cX3_inBox 114 = .ok (.i2l, 1) := by decide +kernel
theorem dX3_inBox_115 : decode cX3_inBox 115 = .ok (.iload 5, 2) := by decide +kernel
theorem dX3_inBox_117 : decode cX3_inBox 117 = .ok (.i2l, 1) := by decide +kernel
theorem dX3_inBox_118 : decode cX3_inBox 118 = .ok (.invokevirtual 176, 3) := by decide +kernel
theorem dX3_inBox_121 : decode cX3_inBox 121 = .ok (.ifCond .eq 7, 3) := by decide +kernel
theorem dX3_inBox_124 : decode cX3_inBox 124 = .ok (.iconst 1, 1) := by decide +kernel
theorem dX3_inBox_125 : decode cX3_inBox 125 = .ok (.goto 4, 3) := by decide +kernel
theorem dX3_inBox_128 : decode cX3_inBox 128 = .ok (.iconst 0, 1) := by decide +kernel
theorem dX3_inBox_129 : decode cX3_inBox 129 = .ok (.iadd, 1) := by decide +kernel
theorem dX3_inBox_130 : decode cX3_inBox 130 = .ok (.istore_n 2, 1) := by decide +kernel
theorem dX3_inBox_131 : decode cX3_inBox 131 = .ok (.iinc 5 1, 3) := by decide +kernel
theorem dX3_inBox_134 : decode cX3_inBox 134 = .ok (.goto (-44), 3) := by decide +kernel
theorem dX3_inBox_137 : decode cX3_inBox 137 = .ok (.iinc 4 1, 3) := by decide +kernel
theorem dX3_inBox_140 : decode cX3_inBox 140 = .ok (.goto (-84), 3) := by decide +kernel
theorem dX3_inBox_143 : decode cX3_inBox 143 = .ok (.iinc 3 1, 3) := by decide +kernel
theorem dX3_inBox_146 : decode cX3_inBox 146 = .ok (.goto (-111), 3) := by decide +kernel
theorem dX3_inBox_149 : decode cX3_inBox 149 = .ok (.iload_n 2, 1) := by decide +kernel
theorem dX3_inBox_150 : decode cX3_inBox 150 = .ok (.ireturn, 1) := by decide +kernel
theorem dX3_solves_0 : decode cX3_solves 0 = .ok (.aload_n 0, 1) := by decide +kernel
theorem dX3_solves_1 : decode cX3_solves 1 = .ok (.iconst 0, 1) := by decide +kernel
theorem dX3_solves_2 : decode cX3_solves 2 = .ok (.putfield 58, 3) := by decide +kernel
theorem dX3_solves_5 : decode cX3_solves 5 = .ok (.aload_n 0, 1) := by decide +kernel
theorem dX3_solves_6 : decode cX3_solves 6 = .ok (.iload_n 1, 1) := by decide +kernel
theorem dX3_solves_7 : decode cX3_solves 7 = .ok (.i2l, 1) := by decide +kernel
theorem dX3_solves_8 : decode cX3_solves 8 = .ok (.iload_n 2, 1) := by decide +kernel
theorem dX3_solves_9 : decode cX3_solves 9 = .ok (.i2l, 1) := by decide +kernel
theorem dX3_solves_10 : decode cX3_solves 10 = .ok (.iload_n 3, 1) := by decide +kernel
theorem dX3_solves_11 : decode cX3_solves 11 = .ok (.i2l, 1) := by decide +kernel
theorem dX3_solves_12 : decode cX3_solves 12 = .ok (.invokevirtual 176, 3) := by decide +kernel
theorem dX3_solves_15 : decode cX3_solves 15 = .ok (.ireturn, 1) := by decide +kernel
end
section
/-! The layer under all contracts: worlds as tables of cells, rows over natural indices. -/
/-- n cells, cell k at the address ad k -/
def wm (n : Nat) (ad : Nat → Nat) (cf : Nat → va_E) : va_W := (List.range n).map fun k => (ad k, cf k)
theorem wm_get {n : Nat} {ad : Nat → Nat} {cf : Nat → va_E} {k : Nat} (h : k < n) : (wm n ad cf)[k]? = some (ad k, cf k) := by
  unfold wm
  rw [List.getElem?_map, List.getElem?_range h]
  rfl
theorem wm_at {n : Nat} {ad : Nat → Nat} {cf : Nat → va_E} {k : Nat} {e : va_E} (h : k < n) (hc : cf k = e) : (wm n ad cf)[k]? = some (ad k, e) := by
  rw [wm_get h, hc]
theorem wm_len {n : Nat} {ad : Nat → Nat} {cf : Nat → va_E} : (wm n ad cf).length = n := by simp [wm]
theorem wm_set {n : Nat} {ad : Nat → Nat} {cf : Nat → va_E} {k : Nat} {e : va_E} : (wm n ad cf).set k (ad k, e) = wm n ad (va_up cf k e) := by
  apply List.ext_getElem?
  intro j
  by_cases hj : j < n
  · rw [wm_get hj, List.getElem?_set]
    by_cases hk : k = j
    · subst hk
      simp [wm_len, hj, va_up]
    · rw [if_neg hk, wm_get hj, va_up_ne _ _ (fun q => hk q.symm)]
  · rw [List.getElem?_eq_none (by rw [List.length_set, wm_len]; omega), List.getElem?_eq_none (by rw [wm_len]; omega)]
theorem wm_congr {n : Nat} {ad : Nat → Nat} {cf cg : Nat → va_E} (h : ∀ k, k < n → cf k = cg k) : wm n ad cf = wm n ad cg := by
  unfold wm
  apply List.map_congr_left
  intro k hk
  rw [h k (List.mem_range.mp hk)]
/-- one place of a table of tables -/
def up2 {α : Type} (f : Nat → Nat → α) (k j : Nat) (v : α) : Nat → Nat → α := fun a b => if a = k ∧ b = j then v else f a b
def up1 {α : Type} (f : Nat → α) (k : Nat) (v : α) : Nat → α := fun a => if a = k then v else f a
theorem up1_s {α : Type} {f : Nat → α} {k : Nat} {v : α} : up1 f k v k = v := if_pos rfl
theorem up1_n {α : Type} {f : Nat → α} {k a : Nat} {v : α} (h : a ≠ k) : up1 f k v a = f a := if_neg h
theorem up2_s {α : Type} {f : Nat → Nat → α} {k j : Nat} {v : α} : up2 f k j v k j = v := if_pos ⟨rfl, rfl⟩
theorem up2_n {α : Type} {f : Nat → Nat → α} {k j a b : Nat} {v : α} (h : ¬ (a = k ∧ b = j)) : up2 f k j v a b = f a b := if_neg h
theorem up2_row {α : Type} {f : Nat → Nat → α} {k j a : Nat} {v : α} (h : a ≠ k) : up2 f k j v a = f a := by
  funext b
  exact if_neg (fun q => h q.1)
theorem up2_L {f : Nat → Nat → Int64} {k j : Nat} {v : Int64} : vp_updL (f k) j v = up2 f k j v k := by
  funext b
  simp [vp_updL, up2]
theorem up2_I {f : Nat → Nat → Int32} {k j : Nat} {v : Int32} : upd (f k) j v = up2 f k j v k := by
  funext b
  simp [upd, up2]
theorem up2_N {f : Nat → Nat → Nat} {k j v : Nat} : upd (fun b => nI (f k b)) j (nI v) = fun b => nI (up2 f k j v k b) := by
  funext b
  by_cases h : b = j
  · subst h
    simp [upd, up2]
  · simp [upd, up2, h]
section B5
variable {p : Program} {l : Launch} {e : Env} {R : Room} {s : State} {m : MethodId} {args : Array Value} {below : List Frame} {meth : Method} {c : Code} {H : Heap} {locs : List Loc} {cells slots : Nat} {Q : State → Prop}
variable {cc : ByteArray} {pc : Nat} {ls : Array Slot} {rest : List Value} {D : va_G} {A : Nat → Prop} {tys : List (ClassId × FieldType)} {H0 : Heap} {n : Nat} {ad : Nat → Nat} {cf : Nat → va_E}
theorem b_lald (hx : p.tables.exec = Jvm.exec) (hb : c.code = cc) (hK : va_K D vc tys s) (hP : va_P D vc (wm n ad cf) H) (k t0 : Nat) {cA : ClassId} {len : Nat} {f : Nat → Int64} (hk : k < n) (hc : cf k = .inl (cA, len, .inr (.inl f))) (ht : tys[t0]? = some (cA, .long)) {j : Nat} (hj : j < len) (hl : len < 2 ^ 31) (hdg : decode cc pc = .ok (.laload, 1))
    (kk : W p l e R s m args below meth c H locs cells slots Q (F0 m (pc + 1) ls (.long (f j) :: rest))) : W p l e R s m args below meth c H locs cells slots Q (F0 m pc ls (.int (nI j) :: .ref (ad k) :: rest)) := by
  refine va_lald hx hb hK hP k t0 (wm_at hk hc) ht (vp_in_nI hj hl) hdg ?_
  rw [nI_clamp (by omega)]
  exact kk
theorem b_iald (hx : p.tables.exec = Jvm.exec) (hb : c.code = cc) (hK : va_K D vc tys s) (hP : va_P D vc (wm n ad cf) H) (k t0 : Nat) {cA : ClassId} {len : Nat} {f : Nat → Int32} (hk : k < n) (hc : cf k = .inl (cA, len, .inl f)) (ht : tys[t0]? = some (cA, .int)) {j : Nat} (hj : j < len) (hl : len < 2 ^ 31) (hdg : decode cc pc = .ok (.iaload, 1))
    (kk : W p l e R s m args below meth c H locs cells slots Q (F0 m (pc + 1) ls (.int (f j) :: rest))) : W p l e R s m args below meth c H locs cells slots Q (F0 m pc ls (.int (nI j) :: .ref (ad k) :: rest)) := by
  refine va_iald hx hb hK hP k t0 (wm_at hk hc) ht (vp_in_nI hj hl) hdg ?_
  rw [nI_clamp (by omega)]
  exact kk
theorem b_zald (hx : p.tables.exec = Jvm.exec) (hb : c.code = cc) (hK : va_K D vc tys s) (hP : va_P D vc (wm n ad cf) H) (k t0 : Nat) {cA : ClassId} {len : Nat} {f : Nat → Int32} (hk : k < n) (hc : cf k = .inl (cA, len, .inl f)) (ht : tys[t0]? = some (cA, .boolean)) {j : Nat} (hj : j < len) (hl : len < 2 ^ 31) (hdg : decode cc pc = .ok (.baload, 1))
    (kk : W p l e R s m args below meth c H locs cells slots Q (F0 m (pc + 1) ls (.int (f j) :: rest))) : W p l e R s m args below meth c H locs cells slots Q (F0 m pc ls (.int (nI j) :: .ref (ad k) :: rest)) := by
  refine va_zald hx hb hK hP k t0 (wm_at hk hc) ht (vp_in_nI hj hl) hdg ?_
  rw [nI_clamp (by omega)]
  exact kk
theorem b_aald (hx : p.tables.exec = Jvm.exec) (hb : c.code = cc) (hK : va_K D vc tys s) (hP : va_P D vc (wm n ad cf) H) (k t0 : Nat) {cA : ClassId} {ty : FieldType} {len : Nat} {f : Nat → Option Nat} (hk : k < n) (hc : cf k = .inl (cA, len, .inr (.inr (.inr (.inr f))))) (ht : tys[t0]? = some (cA, .array ty)) {j q : Nat} (hj : j < len) (hl : len < 2 ^ 31) (hf : f j = some q) (hdg : decode cc pc = .ok (.aaload, 1))
    (kk : W p l e R s m args below meth c H locs cells slots Q (F0 m (pc + 1) ls (.ref q :: rest))) : W p l e R s m args below meth c H locs cells slots Q (F0 m pc ls (.int (nI j) :: .ref (ad k) :: rest)) := by
  have hcl : (nI j).toNatClampNeg = j := nI_clamp (by omega)
  have hin : vp_in (nI j) len := vp_in_nI hj hl
  refine W.aald (v := va_rf (f (nI j).toNatClampNeg)) (ty := .array ty) hx hb (hP k _ (wm_at hk hc)) ((hK.2 t0 _ ht).1 len (fun j => va_rf (f j))) rfl (fun q => by cases q) (by show ¬ (nI j < 0 ∨ (arrV _ _ _).slots.size ≤ _); rw [arrV_size]; exact hin) (by show (arrV _ _ _).slots[_]? = _; rw [arrV_read _ _ (by rw [hcl]; exact hj)]) rfl rfl hdg ?_
  rw [hcl, hf]
  exact kk
theorem b_last (hx : p.tables.exec = Jvm.exec) (hb : c.code = cc) (hK : va_K D vc tys s) (hP : va_P D vc (wm n ad cf) H) (hD : va_D A (wm n ad cf)) (hS : va_S A H0 H locs) (k t0 : Nat) {cA : ClassId} {len : Nat} {f : Nat → Int64} (hk : k < n) (hc : cf k = .inl (cA, len, .inr (.inl f))) (ht : tys[t0]? = some (cA, .long)) {j : Nat} {x : Int64} (hj : j < len) (hl : len < 2 ^ 31) (hdg : decode cc pc = .ok (.lastore, 1)) {cg : Nat → va_E} (hg : wm n ad (va_up cf k (.inl (cA, len, .inr (.inl (vp_updL f j x))))) = wm n ad cg)
    (kk : ∀ (H1 : Heap) (locs1 : List Loc), va_P D vc (wm n ad cg) H1 → va_D A (wm n ad cg) → va_S A H0 H1 locs1 → W p l e R s m args below meth c H1 locs1 cells slots Q (F0 m (pc + 1) ls rest)) : W p l e R s m args below meth c H locs cells slots Q (F0 m pc ls (.long x :: .int (nI j) :: .ref (ad k) :: rest)) := by
  refine va_last hx hb hK hP hD hS k t0 (wm_at hk hc) ht (vp_in_nI hj hl) hdg ?_
  rw [nI_clamp (by omega), wm_set, hg]
  exact kk
theorem b_iast (hx : p.tables.exec = Jvm.exec) (hb : c.code = cc) (hK : va_K D vc tys s) (hP : va_P D vc (wm n ad cf) H) (hD : va_D A (wm n ad cf)) (hS : va_S A H0 H locs) (k t0 : Nat) {cA : ClassId} {len : Nat} {f : Nat → Int32} (hk : k < n) (hc : cf k = .inl (cA, len, .inl f)) (ht : tys[t0]? = some (cA, .int)) {j : Nat} {x : Int32} (hj : j < len) (hl : len < 2 ^ 31) (hdg : decode cc pc = .ok (.iastore, 1)) {cg : Nat → va_E} (hg : wm n ad (va_up cf k (.inl (cA, len, .inl (upd f j x)))) = wm n ad cg)
    (kk : ∀ (H1 : Heap) (locs1 : List Loc), va_P D vc (wm n ad cg) H1 → va_D A (wm n ad cg) → va_S A H0 H1 locs1 → W p l e R s m args below meth c H1 locs1 cells slots Q (F0 m (pc + 1) ls rest)) : W p l e R s m args below meth c H locs cells slots Q (F0 m pc ls (.int x :: .int (nI j) :: .ref (ad k) :: rest)) := by
  refine va_iast hx hb hK hP hD hS k t0 (wm_at hk hc) ht (vp_in_nI hj hl) hdg ?_
  rw [nI_clamp (by omega), wm_set, hg]
  exact kk
theorem b_get (hx : p.tables.exec = Jvm.exec) (hb : c.code = cc) {own C : String} {T : u_T} {N ci index : Nat} {Ts : List Cond} (hts : ∀ w ∈ Ts, w.before args s = true) (hin : ∀ w ∈ u_ws C T N, w ∈ Ts) (hown : s.vm.findClass own = some m.cls) (hK : va_K D vc tys s) (hP : va_P D vc (wm n ad cf) H) (q0 : Nat) (hq : q0 < n) {fs : List Value} (he : cf q0 = .inr (ci, fs)) (hc : vc[ci]? = some (C, T, N)) (k : Nat) (hk : k < N) (hlink : (Cond.fieldLink own index (T k).1 (T k).2.1 (T k).2.2.1).before args s = true) {v : Value} (hv : fs[k]? = some v) (hdg : decode cc pc = .ok (.getfield index, 3))
    (kk : W p l e R s m args below meth c H locs cells slots Q (F0 m (pc + 3) ls (v :: rest))) : W p l e R s m args below meth c H locs cells slots Q (F0 m pc ls (.ref (ad q0) :: rest)) :=
  va_get hx hb hts hin hown hK hP q0 (wm_at hq he) hc k hk hlink (fun _ h => h) hv hdg kk
theorem b_getN (hx : p.tables.exec = Jvm.exec) (hb : c.code = cc) {own C host : String} {T : u_T} {N ci index : Nat} {Ts : List Cond} (hts : ∀ w ∈ Ts, w.before args s = true) (hin : ∀ w ∈ u_ws C T N, w ∈ Ts) (hown : s.vm.findClass own = some m.cls) (hK : va_K D vc tys s) (hP : va_P D vc (wm n ad cf) H) (q0 : Nat) (hq : q0 < n) {fs : List Value} (he : cf q0 = .inr (ci, fs)) (hc : vc[ci]? = some (C, T, N)) (k : Nat) (hk : k < N) (hlink : va_Nw (Cond.fieldLinkNest own index (T k).1 (T k).2.1 (T k).2.2.1 host) s) {v : Value} (hv : fs[k]? = some v) (hdg : decode cc pc = .ok (.getfield index, 3))
    (kk : W p l e R s m args below meth c H locs cells slots Q (F0 m (pc + 3) ls (v :: rest))) : W p l e R s m args below meth c H locs cells slots Q (F0 m pc ls (.ref (ad q0) :: rest)) :=
  va_getN hx hb hts hin hown hK hP q0 (wm_at hq he) hc k hk (va_Nw.use rfl hlink) (fun _ h => h) hv hdg kk
theorem b_put (hx : p.tables.exec = Jvm.exec) (hb : c.code = cc) {own C : String} {T : u_T} {N ci index : Nat} {Ts : List Cond} (hts : ∀ w ∈ Ts, w.before args s = true) (hin : ∀ w ∈ u_ws C T N, w ∈ Ts) (ty0 : Nat → FieldType) (hty : ∀ k, k < N → parseFieldDescriptor (T k).2.2.1 = some (ty0 k)) (hnm : ∀ a, a < N → ∀ b, b < N → a ≠ b → (T a).2.1 ≠ (T b).2.1) (hown : s.vm.findClass own = some m.cls) (hK : va_K D vc tys s) (hP : va_P D vc (wm n ad cf) H) (hD : va_D A (wm n ad cf)) (hS : va_S A H0 H locs) (q0 : Nat) (hq : q0 < n) {fs : List Value} (he : cf q0 = .inr (ci, fs)) (hc : vc[ci]? = some (C, T, N)) (k : Nat) (hk : k < N) (hlink : (Cond.fieldLink own index (T k).1 (T k).2.1 (T k).2.2.1).before args s = true) (hfin : (T k).2.2.2 = false) {v : Value} (hn : narrow (ty0 k) v = v) (hfit : fits (ty0 k) v = true) (hl : k < fs.length)
    (hdg : decode cc pc = .ok (.putfield index, 3)) {cg : Nat → va_E} (hg : wm n ad (va_up cf q0 (.inr (ci, fs.set k v))) = wm n ad cg) (kk : ∀ (H1 : Heap) (locs1 : List Loc), va_P D vc (wm n ad cg) H1 → va_D A (wm n ad cg) → va_S A H0 H1 locs1 → W p l e R s m args below meth c H1 locs1 cells slots Q (F0 m (pc + 3) ls rest)) : W p l e R s m args below meth c H locs cells slots Q (F0 m pc ls (v :: .ref (ad q0) :: rest)) := by
  refine va_put hx hb hts hin ty0 hty hnm hown hK hP hD hS q0 (wm_at hq he) hc k hk hlink (fun _ h => h) hfin (hty k hk) hn hfit hl hdg ?_
  rw [wm_set, hg]
  exact kk
/-- branches that are decided -/
theorem b_ge_t (hx : p.tables.exec = Jvm.exec) (hb : c.code = cc) {a b : Nat} {off : Int} {tgt : Nat} (hdg : decode cc pc = .ok (.if_icmp .ge off, 3)) (ht : (pc : Int) + off = (tgt : Int)) (h : b ≤ a) (ha : a < 2 ^ 31)
    (kk : W p l e R s m args below meth c H locs cells slots Q (F0 m tgt ls rest)) : W p l e R s m args below meth c H locs cells slots Q (F0 m pc ls (.int (nI b) :: .int (nI a) :: rest)) :=
  lv_icmp_ge hx hb hdg ht (fun _ => kk) (fun q => absurd (nI_le h ha) q)
theorem b_ge_f (hx : p.tables.exec = Jvm.exec) (hb : c.code = cc) {a b : Nat} {off : Int} {tgt : Nat} (hdg : decode cc pc = .ok (.if_icmp .ge off, 3)) (ht : (pc : Int) + off = (tgt : Int)) (h : a < b) (ha : b < 2 ^ 31)
    (kk : W p l e R s m args below meth c H locs cells slots Q (F0 m (pc + 3) ls rest)) : W p l e R s m args below meth c H locs cells slots Q (F0 m pc ls (.int (nI b) :: .int (nI a) :: rest)) :=
  lv_icmp_ge hx hb hdg ht (fun q => absurd q (nI_ge h ha)) (fun _ => kk)
theorem b_gt_t (hx : p.tables.exec = Jvm.exec) (hb : c.code = cc) {a b : Nat} {off : Int} {tgt : Nat} (hdg : decode cc pc = .ok (.if_icmp .gt off, 3)) (ht : (pc : Int) + off = (tgt : Int)) (h : b < a) (ha : a < 2 ^ 31)
    (kk : W p l e R s m args below meth c H locs cells slots Q (F0 m tgt ls rest)) : W p l e R s m args below meth c H locs cells slots Q (F0 m pc ls (.int (nI b) :: .int (nI a) :: rest)) :=
  lv_icmp_gt hx hb hdg ht (fun _ => kk) (fun q => absurd (nI_lt h ha) q)
theorem b_gt_f (hx : p.tables.exec = Jvm.exec) (hb : c.code = cc) {a b : Nat} {off : Int} {tgt : Nat} (hdg : decode cc pc = .ok (.if_icmp .gt off, 3)) (ht : (pc : Int) + off = (tgt : Int)) (h : a ≤ b) (ha : b < 2 ^ 31)
    (kk : W p l e R s m args below meth c H locs cells slots Q (F0 m (pc + 3) ls rest)) : W p l e R s m args below meth c H locs cells slots Q (F0 m pc ls (.int (nI b) :: .int (nI a) :: rest)) :=
  lv_icmp_gt hx hb hdg ht (fun q => absurd q (nI_nlt h ha)) (fun _ => kk)
end B5
end
section
/-! The class's own world: 22 cells. I: unknowns, equations, width, height, decided, the lattice's height; AN 5: decides, AN 7: beginnings; AI 8 .. 10: the numbers' rows; AL 11 .. 17: the elimination's rows, AL 18 .. 20: the lattice's, AL 21: the target. -/
abbrev tyK (cs : Nat → ClassId) : List (ClassId × FieldType) := [(cs 0, .int), (cs 1, .long), (cs 2, .boolean), (cs 3, .array .int), (cs 4, .array .long)]
def cT (cs : Nat → ClassId) (ad : Nat → Nat) (I : Nat → Nat) (AN : Nat → Nat → Nat) (AI : Nat → Nat → Int32) (AL : Nat → Nat → Int64) : Nat → va_E := fun k =>
  if k = 0 then .inr (2, [.int (nI (I 0)), .ref (ad 1), .ref (ad 2), .ref (ad 3), .int (nI (I 1))])
  else if k = 1 then .inl (cs 3, 3, .inr (.inr (.inr (.inr (fun i => if i < 3 then some (ad (i + 8)) else none)))))
  else if k = 2 then .inr (0, [.ref (ad 4), .ref (ad 5), .int (nI (I 2)), .int (nI (I 3)), .int (nI (I 4))])
  else if k = 3 then .inr (1, [.ref (ad 6), .ref (ad 7), .ref (ad 21), .int (nI (I 5))])
  else if k = 4 then .inl (cs 4, 7, .inr (.inr (.inr (.inr (fun i => if i < 7 then some (ad (i + 11)) else none)))))
  else if k = 5 then .inl (cs 0, 7, .inl (fun j => nI (AN 5 j)))
  else if k = 6 then .inl (cs 4, 3, .inr (.inr (.inr (.inr (fun i => if i < 3 then some (ad (i + 18)) else none)))))
  else if k = 7 then .inl (cs 0, 3, .inl (fun j => nI (AN 7 j)))
  else if k < 11 then .inl (cs 0, 4, .inl (AI k))
  else if k < 18 then .inl (cs 1, 5, .inr (.inl (AL k)))
  else .inl (cs 1, 6, .inr (.inl (AL k)))
abbrev wT (cs : Nat → ClassId) (ad : Nat → Nat) (I : Nat → Nat) (AN : Nat → Nat → Nat) (AI : Nat → Nat → Int32) (AL : Nat → Nat → Int64) : va_W := wm 22 ad (cT cs ad I AN AI AL)
section T6
variable {cs : Nat → ClassId} {ad : Nat → Nat} {I : Nat → Nat} {AN : Nat → Nat → Nat} {AI : Nat → Nat → Int32} {AL : Nat → Nat → Int64}
theorem cT_N {i : Nat} (h : i < 3) : cT cs ad I AN AI AL (i + 8) = .inl (cs 0, 4, .inl (AI (i + 8))) := by
  unfold cT
  rw [if_neg (by omega), if_neg (by omega), if_neg (by omega), if_neg (by omega), if_neg (by omega), if_neg (by omega), if_neg (by omega), if_neg (by omega), if_pos (by omega)]
theorem cT_E {i : Nat} (h : i < 7) : cT cs ad I AN AI AL (i + 11) = .inl (cs 1, 5, .inr (.inl (AL (i + 11)))) := by
  unfold cT
  rw [if_neg (by omega), if_neg (by omega), if_neg (by omega), if_neg (by omega), if_neg (by omega), if_neg (by omega), if_neg (by omega), if_neg (by omega), if_neg (by omega), if_pos (by omega)]
theorem cT_L {i : Nat} : cT cs ad I AN AI AL (i + 18) = .inl (cs 1, 6, .inr (.inl (AL (i + 18)))) := by
  unfold cT
  rw [if_neg (by omega), if_neg (by omega), if_neg (by omega), if_neg (by omega), if_neg (by omega), if_neg (by omega), if_neg (by omega), if_neg (by omega), if_neg (by omega), if_neg (by omega)]
theorem sT_N {i j : Nat} {x : Int32} (h : i < 3) : wm 22 ad (va_up (cT cs ad I AN AI AL) (i + 8) (.inl (cs 0, 4, .inl (upd (AI (i + 8)) j x)))) = wm 22 ad (cT cs ad I AN (up2 AI (i + 8) j x) AL) := by
  refine wm_congr fun k _ => ?_
  by_cases hk : k = i + 8
  · subst hk
    rw [va_up_self, cT_N h, up2_I]
  · rw [va_up_ne _ _ hk]
    unfold cT
    rw [up2_row hk]
theorem sT_E {i j : Nat} {x : Int64} (h : i < 7) : wm 22 ad (va_up (cT cs ad I AN AI AL) (i + 11) (.inl (cs 1, 5, .inr (.inl (vp_updL (AL (i + 11)) j x))))) = wm 22 ad (cT cs ad I AN AI (up2 AL (i + 11) j x)) := by
  refine wm_congr fun k _ => ?_
  by_cases hk : k = i + 11
  · subst hk
    rw [va_up_self, cT_E h, up2_L]
  · rw [va_up_ne _ _ hk]
    unfold cT
    rw [up2_row hk]
theorem sT_L {i j : Nat} {x : Int64} : wm 22 ad (va_up (cT cs ad I AN AI AL) (i + 18) (.inl (cs 1, 6, .inr (.inl (vp_updL (AL (i + 18)) j x))))) = wm 22 ad (cT cs ad I AN AI (up2 AL (i + 18) j x)) := by
  refine wm_congr fun k _ => ?_
  by_cases hk : k = i + 18
  · subst hk
    rw [va_up_self, cT_L, up2_L]
  · rw [va_up_ne _ _ hk]
    unfold cT
    rw [up2_row hk]
theorem sT_D {j v : Nat} : wm 22 ad (va_up (cT cs ad I AN AI AL) 5 (.inl (cs 0, 7, .inl (upd (fun b => nI (AN 5 b)) j (nI v))))) = wm 22 ad (cT cs ad I (up2 AN 5 j v) AI AL) := by
  refine wm_congr fun k _ => ?_
  by_cases hk : k = 5
  · subst hk
    rw [va_up_self, up2_N]
    rfl
  · rw [va_up_ne _ _ hk]
    unfold cT
    rw [if_neg hk, if_neg hk, up2_row (show (7 : Nat) ≠ 5 by decide)]
theorem sT_B {j v : Nat} : wm 22 ad (va_up (cT cs ad I AN AI AL) 7 (.inl (cs 0, 3, .inl (upd (fun b => nI (AN 7 b)) j (nI v))))) = wm 22 ad (cT cs ad I (up2 AN 7 j v) AI AL) := by
  refine wm_congr fun k _ => ?_
  by_cases hk : k = 7
  · subst hk
    rw [va_up_self, up2_N]
    rfl
  · rw [va_up_ne _ _ hk]
    unfold cT
    rw [if_neg hk, if_neg hk, up2_row (show (5 : Nat) ≠ 7 by decide)]
theorem sT_eq {v : Nat} : wm 22 ad (va_up (cT cs ad I AN AI AL) 0 (.inr (2, [.int (nI (I 0)), .ref (ad 1), .ref (ad 2), .ref (ad 3), .int (nI v)]))) = wm 22 ad (cT cs ad (up1 I 1 v) AN AI AL) := by
  refine wm_congr fun k _ => ?_
  by_cases hk : k = 0
  · subst hk
    rfl
  · rw [va_up_ne _ _ hk]
    unfold cT
    rw [if_neg hk, if_neg hk]
    rfl
theorem sT_w {v : Nat} : wm 22 ad (va_up (cT cs ad I AN AI AL) 2 (.inr (0, [.ref (ad 4), .ref (ad 5), .int (nI v), .int (nI (I 3)), .int (nI (I 4))]))) = wm 22 ad (cT cs ad (up1 I 2 v) AN AI AL) := by
  refine wm_congr fun k _ => ?_
  by_cases hk : k = 2
  · subst hk
    rfl
  · rw [va_up_ne _ _ hk]
    unfold cT
    rw [if_neg hk, if_neg hk]
    rfl
theorem sT_h {v : Nat} : wm 22 ad (va_up (cT cs ad I AN AI AL) 2 (.inr (0, [.ref (ad 4), .ref (ad 5), .int (nI (I 2)), .int (nI v), .int (nI (I 4))]))) = wm 22 ad (cT cs ad (up1 I 3 v) AN AI AL) := by
  refine wm_congr fun k _ => ?_
  by_cases hk : k = 2
  · subst hk
    rfl
  · rw [va_up_ne _ _ hk]
    unfold cT
    rw [if_neg hk, if_neg hk]
    rfl
theorem sT_d {v : Nat} : wm 22 ad (va_up (cT cs ad I AN AI AL) 2 (.inr (0, [.ref (ad 4), .ref (ad 5), .int (nI (I 2)), .int (nI (I 3)), .int (nI v)]))) = wm 22 ad (cT cs ad (up1 I 4 v) AN AI AL) := by
  refine wm_congr fun k _ => ?_
  by_cases hk : k = 2
  · subst hk
    rfl
  · rw [va_up_ne _ _ hk]
    unfold cT
    rw [if_neg hk, if_neg hk]
    rfl
theorem sT_lh {v : Nat} : wm 22 ad (va_up (cT cs ad I AN AI AL) 3 (.inr (1, [.ref (ad 6), .ref (ad 7), .ref (ad 21), .int (nI v)]))) = wm 22 ad (cT cs ad (up1 I 5 v) AN AI AL) := by
  refine wm_congr fun k _ => ?_
  by_cases hk : k = 3
  · subst hk
    rfl
  · rw [va_up_ne _ _ hk]
    unfold cT
    rw [if_neg hk, if_neg hk]
    rfl
variable {p : Program} {l : Launch} {e : Env} {R : Room} {s : State} {m : MethodId} {args : Array Value} {below : List Frame} {meth : Method} {c : Code} {H : Heap} {locs : List Loc} {cells slots : Nat} {Q : State → Prop}
variable {cc : ByteArray} {pc : Nat} {ls : Array Slot} {rest : List Value} {D : va_G} {A : Nat → Prop} {H0 : Heap}
/-- rows[i] of the elimination, of the lattice, numbers[i] -/
theorem tE_r (hx : p.tables.exec = Jvm.exec) (hb : c.code = cc) (hK : va_K D vc (tyK cs) s) (hP : va_P D vc (wT cs ad I AN AI AL) H) {i : Nat} (hi : i < 7) (hdg : decode cc pc = .ok (.aaload, 1))
    (kk : W p l e R s m args below meth c H locs cells slots Q (F0 m (pc + 1) ls (.ref (ad (i + 11)) :: rest))) : W p l e R s m args below meth c H locs cells slots Q (F0 m pc ls (.int (nI i) :: .ref (ad 4) :: rest)) :=
  b_aald hx hb hK hP 4 4 (ty := .long) (by decide) rfl rfl hi (by decide) (if_pos hi) hdg kk
theorem tL_r (hx : p.tables.exec = Jvm.exec) (hb : c.code = cc) (hK : va_K D vc (tyK cs) s) (hP : va_P D vc (wT cs ad I AN AI AL) H) {i : Nat} (hi : i < 3) (hdg : decode cc pc = .ok (.aaload, 1))
    (kk : W p l e R s m args below meth c H locs cells slots Q (F0 m (pc + 1) ls (.ref (ad (i + 18)) :: rest))) : W p l e R s m args below meth c H locs cells slots Q (F0 m pc ls (.int (nI i) :: .ref (ad 6) :: rest)) :=
  b_aald hx hb hK hP 6 4 (ty := .long) (by decide) rfl rfl hi (by decide) (if_pos hi) hdg kk
theorem tN_r (hx : p.tables.exec = Jvm.exec) (hb : c.code = cc) (hK : va_K D vc (tyK cs) s) (hP : va_P D vc (wT cs ad I AN AI AL) H) {i : Nat} (hi : i < 3) (hdg : decode cc pc = .ok (.aaload, 1))
    (kk : W p l e R s m args below meth c H locs cells slots Q (F0 m (pc + 1) ls (.ref (ad (i + 8)) :: rest))) : W p l e R s m args below meth c H locs cells slots Q (F0 m pc ls (.int (nI i) :: .ref (ad 1) :: rest)) :=
  b_aald hx hb hK hP 1 3 (ty := .int) (by decide) rfl rfl hi (by decide) (if_pos hi) hdg kk
theorem tE_ld (hx : p.tables.exec = Jvm.exec) (hb : c.code = cc) (hK : va_K D vc (tyK cs) s) (hP : va_P D vc (wT cs ad I AN AI AL) H) {i j : Nat} (hi : i < 7) (hj : j < 5) (hdg : decode cc pc = .ok (.laload, 1))
    (kk : W p l e R s m args below meth c H locs cells slots Q (F0 m (pc + 1) ls (.long (AL (i + 11) j) :: rest))) : W p l e R s m args below meth c H locs cells slots Q (F0 m pc ls (.int (nI j) :: .ref (ad (i + 11)) :: rest)) :=
  b_lald hx hb hK hP (i + 11) 1 (by omega) (cT_E hi) rfl hj (by decide) hdg kk
theorem tE_st (hx : p.tables.exec = Jvm.exec) (hb : c.code = cc) (hK : va_K D vc (tyK cs) s) (hP : va_P D vc (wT cs ad I AN AI AL) H) (hD : va_D A (wT cs ad I AN AI AL)) (hS : va_S A H0 H locs) {i j : Nat} {x : Int64} (hi : i < 7) (hj : j < 5) (hdg : decode cc pc = .ok (.lastore, 1))
    (kk : ∀ (H1 : Heap) (locs1 : List Loc), va_P D vc (wT cs ad I AN AI (up2 AL (i + 11) j x)) H1 → va_D A (wT cs ad I AN AI (up2 AL (i + 11) j x)) → va_S A H0 H1 locs1 → W p l e R s m args below meth c H1 locs1 cells slots Q (F0 m (pc + 1) ls rest)) : W p l e R s m args below meth c H locs cells slots Q (F0 m pc ls (.long x :: .int (nI j) :: .ref (ad (i + 11)) :: rest)) :=
  b_last hx hb hK hP hD hS (i + 11) 1 (by omega) (cT_E hi) rfl hj (by decide) hdg (sT_E hi) kk
theorem tL_ld (hx : p.tables.exec = Jvm.exec) (hb : c.code = cc) (hK : va_K D vc (tyK cs) s) (hP : va_P D vc (wT cs ad I AN AI AL) H) {i j : Nat} (hi : i < 4) (hj : j < 6) (hdg : decode cc pc = .ok (.laload, 1))
    (kk : W p l e R s m args below meth c H locs cells slots Q (F0 m (pc + 1) ls (.long (AL (i + 18) j) :: rest))) : W p l e R s m args below meth c H locs cells slots Q (F0 m pc ls (.int (nI j) :: .ref (ad (i + 18)) :: rest)) :=
  b_lald hx hb hK hP (i + 18) 1 (by omega) cT_L rfl hj (by decide) hdg kk
theorem tL_st (hx : p.tables.exec = Jvm.exec) (hb : c.code = cc) (hK : va_K D vc (tyK cs) s) (hP : va_P D vc (wT cs ad I AN AI AL) H) (hD : va_D A (wT cs ad I AN AI AL)) (hS : va_S A H0 H locs) {i j : Nat} {x : Int64} (hi : i < 4) (hj : j < 6) (hdg : decode cc pc = .ok (.lastore, 1))
    (kk : ∀ (H1 : Heap) (locs1 : List Loc), va_P D vc (wT cs ad I AN AI (up2 AL (i + 18) j x)) H1 → va_D A (wT cs ad I AN AI (up2 AL (i + 18) j x)) → va_S A H0 H1 locs1 → W p l e R s m args below meth c H1 locs1 cells slots Q (F0 m (pc + 1) ls rest)) : W p l e R s m args below meth c H locs cells slots Q (F0 m pc ls (.long x :: .int (nI j) :: .ref (ad (i + 18)) :: rest)) :=
  b_last hx hb hK hP hD hS (i + 18) 1 (by omega) cT_L rfl hj (by decide) hdg sT_L kk
theorem tN_ld (hx : p.tables.exec = Jvm.exec) (hb : c.code = cc) (hK : va_K D vc (tyK cs) s) (hP : va_P D vc (wT cs ad I AN AI AL) H) {i j : Nat} (hi : i < 3) (hj : j < 4) (hdg : decode cc pc = .ok (.iaload, 1))
    (kk : W p l e R s m args below meth c H locs cells slots Q (F0 m (pc + 1) ls (.int (AI (i + 8) j) :: rest))) : W p l e R s m args below meth c H locs cells slots Q (F0 m pc ls (.int (nI j) :: .ref (ad (i + 8)) :: rest)) :=
  b_iald hx hb hK hP (i + 8) 0 (by omega) (cT_N hi) rfl hj (by decide) hdg kk
theorem tN_st (hx : p.tables.exec = Jvm.exec) (hb : c.code = cc) (hK : va_K D vc (tyK cs) s) (hP : va_P D vc (wT cs ad I AN AI AL) H) (hD : va_D A (wT cs ad I AN AI AL)) (hS : va_S A H0 H locs) {i j : Nat} {x : Int32} (hi : i < 3) (hj : j < 4) (hdg : decode cc pc = .ok (.iastore, 1))
    (kk : ∀ (H1 : Heap) (locs1 : List Loc), va_P D vc (wT cs ad I AN (up2 AI (i + 8) j x) AL) H1 → va_D A (wT cs ad I AN (up2 AI (i + 8) j x) AL) → va_S A H0 H1 locs1 → W p l e R s m args below meth c H1 locs1 cells slots Q (F0 m (pc + 1) ls rest)) : W p l e R s m args below meth c H locs cells slots Q (F0 m pc ls (.int x :: .int (nI j) :: .ref (ad (i + 8)) :: rest)) :=
  b_iast hx hb hK hP hD hS (i + 8) 0 (by omega) (cT_N hi) rfl hj (by decide) hdg (sT_N hi) kk
theorem tD_ld (hx : p.tables.exec = Jvm.exec) (hb : c.code = cc) (hK : va_K D vc (tyK cs) s) (hP : va_P D vc (wT cs ad I AN AI AL) H) {j : Nat} (hj : j < 7) (hdg : decode cc pc = .ok (.iaload, 1))
    (kk : W p l e R s m args below meth c H locs cells slots Q (F0 m (pc + 1) ls (.int (nI (AN 5 j)) :: rest))) : W p l e R s m args below meth c H locs cells slots Q (F0 m pc ls (.int (nI j) :: .ref (ad 5) :: rest)) :=
  b_iald hx hb hK hP 5 0 (by decide) rfl rfl hj (by decide) hdg kk
theorem tD_st (hx : p.tables.exec = Jvm.exec) (hb : c.code = cc) (hK : va_K D vc (tyK cs) s) (hP : va_P D vc (wT cs ad I AN AI AL) H) (hD : va_D A (wT cs ad I AN AI AL)) (hS : va_S A H0 H locs) {j v : Nat} (hj : j < 7) (hdg : decode cc pc = .ok (.iastore, 1))
    (kk : ∀ (H1 : Heap) (locs1 : List Loc), va_P D vc (wT cs ad I (up2 AN 5 j v) AI AL) H1 → va_D A (wT cs ad I (up2 AN 5 j v) AI AL) → va_S A H0 H1 locs1 → W p l e R s m args below meth c H1 locs1 cells slots Q (F0 m (pc + 1) ls rest)) : W p l e R s m args below meth c H locs cells slots Q (F0 m pc ls (.int (nI v) :: .int (nI j) :: .ref (ad 5) :: rest)) :=
  b_iast hx hb hK hP hD hS 5 0 (by decide) rfl rfl hj (by decide) hdg sT_D kk
theorem tB_ld (hx : p.tables.exec = Jvm.exec) (hb : c.code = cc) (hK : va_K D vc (tyK cs) s) (hP : va_P D vc (wT cs ad I AN AI AL) H) {j : Nat} (hj : j < 3) (hdg : decode cc pc = .ok (.iaload, 1))
    (kk : W p l e R s m args below meth c H locs cells slots Q (F0 m (pc + 1) ls (.int (nI (AN 7 j)) :: rest))) : W p l e R s m args below meth c H locs cells slots Q (F0 m pc ls (.int (nI j) :: .ref (ad 7) :: rest)) :=
  b_iald hx hb hK hP 7 0 (by decide) rfl rfl hj (by decide) hdg kk
theorem tB_st (hx : p.tables.exec = Jvm.exec) (hb : c.code = cc) (hK : va_K D vc (tyK cs) s) (hP : va_P D vc (wT cs ad I AN AI AL) H) (hD : va_D A (wT cs ad I AN AI AL)) (hS : va_S A H0 H locs) {j v : Nat} (hj : j < 3) (hdg : decode cc pc = .ok (.iastore, 1))
    (kk : ∀ (H1 : Heap) (locs1 : List Loc), va_P D vc (wT cs ad I (up2 AN 7 j v) AI AL) H1 → va_D A (wT cs ad I (up2 AN 7 j v) AI AL) → va_S A H0 H1 locs1 → W p l e R s m args below meth c H1 locs1 cells slots Q (F0 m (pc + 1) ls rest)) : W p l e R s m args below meth c H locs cells slots Q (F0 m pc ls (.int (nI v) :: .int (nI j) :: .ref (ad 7) :: rest)) :=
  b_iast hx hb hK hP hD hS 7 0 (by decide) rfl rfl hj (by decide) hdg sT_B kk
end T6
abbrev TS : Type := (Nat → Nat) × (Nat → Nat → Nat) × (Nat → Nat → Int32) × (Nat → Nat → Int64)
abbrev wTs (cs : Nat → ClassId) (ad : Nat → Nat) (u : TS) : va_W := wT cs ad u.1 u.2.1 u.2.2.1 u.2.2.2
end
section
/-! Contracts in one form, calls over a whole world. -/
/-- links across the nest: no word of GW says them -/
def NWs : List Cond := [Cond.methodLinkNest "TriangularSystems" 29 ⟨"TriangularSystems$Elimination", "<init>", "()V"⟩ "TriangularSystems", Cond.fieldLinkNest "TriangularSystems" 140 "TriangularSystems$Elimination" "rows" "[[J" "TriangularSystems", Cond.fieldLinkNest "TriangularSystems" 68 "TriangularSystems$Elimination" "decided" "I" "TriangularSystems", Cond.methodLinkNest "TriangularSystems" 36 ⟨"TriangularSystems$Lattice", "<init>", "()V"⟩ "TriangularSystems", Cond.fieldLinkNest "TriangularSystems" 153 "TriangularSystems$Lattice" "rows" "[[J" "TriangularSystems", Cond.fieldLinkNest "TriangularSystems" 119 "TriangularSystems$Lattice" "target" "[J" "TriangularSystems", Cond.methodLinkNest "TriangularSystems" 136 ⟨"TriangularSystems$Elimination", "begin", "(II)V"⟩ "TriangularSystems", Cond.methodLinkNest "TriangularSystems" 144 ⟨"TriangularSystems$Elimination", "eliminate", "()V"⟩ "TriangularSystems", Cond.methodLinkNest "TriangularSystems$Elimination" 57 ⟨"TriangularSystems", "commonDivisor", "(JJ)J"⟩ "TriangularSystems", Cond.methodLinkNest "TriangularSystems" 71 ⟨"TriangularSystems$Elimination", "agrees", "()Z"⟩ "TriangularSystems", Cond.methodLinkNest "TriangularSystems" 75 ⟨"TriangularSystems$Elimination", "freeUnknown", "(I)I"⟩ "TriangularSystems", Cond.methodLinkNest "TriangularSystems" 150 ⟨"TriangularSystems$Lattice", "begin", "(I)V"⟩ "TriangularSystems", Cond.methodLinkNest "TriangularSystems" 154 ⟨"TriangularSystems$Lattice", "span", "()V"⟩ "TriangularSystems", Cond.methodLinkNest "TriangularSystems" 105 ⟨"TriangularSystems$Lattice", "isReached", "()Z"⟩ "TriangularSystems", Cond.methodLinkNest "TriangularSystems" 92 ⟨"TriangularSystems$Elimination", "plainPart", "(II)J"⟩ "TriangularSystems", Cond.methodLinkNest "TriangularSystems$Elimination" 64 ⟨"TriangularSystems", "lowestPart", "(JJI)J"⟩ "TriangularSystems", Cond.methodLinkNest "TriangularSystems" 98 ⟨"TriangularSystems$Elimination", "directionPart", "(III)J"⟩ "TriangularSystems", Cond.methodLinkNest "TriangularSystems" 108 ⟨"TriangularSystems$Lattice", "members", "()I"⟩ "TriangularSystems", Cond.methodLinkNest "TriangularSystems" 114 ⟨"TriangularSystems$Lattice", "member", "(II)J"⟩ "TriangularSystems"]
def NW (U : State) : Prop := ∀ w ∈ NWs, va_Nw w U
theorem NW.warm {s U : State} (hW : s.WarmedH U.vm) (h : NW s) : NW U := by
  intro w hw
  have h1 := h w hw
  simp only [NWs, List.mem_cons, List.not_mem_nil, or_false] at hw
  rcases hw with rfl | rfl | rfl | rfl | rfl | rfl | rfl | rfl | rfl | rfl | rfl | rfl | rfl | rfl | rfl | rfl | rfl | rfl | rfl
  · exact va_Nw.warmM hW h1
  · exact va_Nw.warmF hW h1
  · exact va_Nw.warmF hW h1
  · exact va_Nw.warmM hW h1
  · exact va_Nw.warmF hW h1
  · exact va_Nw.warmF hW h1
  · exact va_Nw.warmM hW h1
  · exact va_Nw.warmM hW h1
  · exact va_Nw.warmM hW h1
  · exact va_Nw.warmM hW h1
  · exact va_Nw.warmM hW h1
  · exact va_Nw.warmM hW h1
  · exact va_Nw.warmM hW h1
  · exact va_Nw.warmM hW h1
  · exact va_Nw.warmM hW h1
  · exact va_Nw.warmM hW h1
  · exact va_Nw.warmM hW h1
  · exact va_Nw.warmM hW h1
  · exact va_Nw.warmM hW h1
theorem NW.same {s U : State} (e : s.vm = U.vm) (h : NW s) : NW U := by
  intro w hw
  have h1 := h w hw
  simp only [NWs, List.mem_cons, List.not_mem_nil, or_false] at hw
  rcases hw with rfl | rfl | rfl | rfl | rfl | rfl | rfl | rfl | rfl | rfl | rfl | rfl | rfl | rfl | rfl | rfl | rfl | rfl | rfl <;> exact va_Nw.same rfl e h1
/-- what a method finds: its world, the tables -/
def gP (D : va_G) (cs : Nat → ClassId) (ws : va_W) (sz : Nat) (U : State) : Prop := U.heap.size = sz ∧ va_P D vc ws U.heap ∧ va_K D vc (tyK cs) U ∧ va_D (fun _ => True) ws ∧ NW U
/-- what it leaves -/
def gB {S : Type} (D : va_G) (cs : Nat → ClassId) (A : Nat → Prop) (wf : S → va_W) (u : S) (t : State) : Prop := va_P D vc (wf u) t.heap ∧ va_K D vc (tyK cs) t ∧ va_D A (wf u)
theorem g_blind {av : List Value} {D : va_G} {cs : Nat → ClassId} {ws : va_W} {sz : Nat} : FrameBlind (va_Pc av (gP D cs ws sz)) := fun a U g mk q => by
  obtain ⟨q0, q1, qP, qK, qD, qN⟩ := q
  exact ⟨q0, q1, qP, va_K.moved (u := U) (U := U.calling g mk a) (Vm.Alike.refl U.vm) qK, qD, NW.same (s := U) (U := U.calling g mk a) rfl qN⟩
theorem g_pre {av : List Value} {D : va_G} {cs : Nat → ClassId} {ws : va_W} {s : State} {H : Heap} {A : Nat → Prop} (hP : va_P D vc ws H) (hK : va_K D vc (tyK cs) s) (hD : va_D A ws) (hN : NW s) : ∀ U : State, U.heap = H → s.WarmedH U.vm → va_Pc av (gP D cs ws H.size) av.toArray U :=
  fun U hU hW => ⟨rfl, by rw [hU], by rw [hU]; exact hP, va_K.moved hW.alike hK, hD.weaken (fun _ _ _ _ => trivial), NW.warm hW hN⟩
theorem gi_V {own C : String} {idx maxL : Nat} {y : MethodName} {bytes : ByteArray} {ret : Option FieldType} (hm : Cond.methodLink own idx y ∈ GW) (hi : Cond.instanceMethod y ∈ GW) (hs : Cond.selects C y y ∈ GW) (hini : Cond.initialized C ∈ GW) (hc : Cond.code y bytes maxL ret ∈ GW) : GoodIn GW (wsV own idx C y (Cond.code y bytes maxL ret :: GW)) := by
  intro w hw
  have h9 : w ∈ GW := by
    unfold wsV at hw
    rcases List.mem_append.mp hw with h | h
    · simp only [List.mem_cons, List.not_mem_nil, or_false] at h
      rcases h with rfl | rfl | rfl | rfl
      · exact hm
      · exact hi
      · exact hs
      · exact hini
    · rcases List.mem_cons.mp h with rfl | h
      · exact hc
      · exact h
  exact ⟨h9, gw_good h9⟩
theorem gi_S {own : String} {idx maxL : Nat} {y : MethodName} {bytes : ByteArray} {ret : Option FieldType} (hm : Cond.methodLink own idx y ∈ GW) (hi : Cond.static y ∈ GW) (hini : Cond.initialized y.cls ∈ GW) (hc : Cond.code y bytes maxL ret ∈ GW) : GoodIn GW (va_wsS own idx y (Cond.code y bytes maxL ret :: GW)) := by
  intro w hw
  have h9 : w ∈ GW := by
    unfold va_wsS at hw
    rcases List.mem_append.mp hw with h | h
    · simp only [List.mem_cons, List.not_mem_nil, or_false] at h
      rcases h with rfl | rfl | rfl
      · exact hm
      · exact hi
      · exact hini
    · rcases List.mem_cons.mp h with rfl | h
      · exact hc
      · exact h
  exact ⟨h9, gw_good h9⟩
theorem gi_C {w1 : Cond} (hc : w1 ∈ GW) : GoodIn GW (w1 :: GW) := by
  intro w hw
  have h9 : w ∈ GW := (List.mem_cons.mp hw).elim (fun e => e ▸ hc) id
  exact ⟨h9, gw_good h9⟩
section G7
variable {p : Program} {l : Launch} {e : Env} {R : Room} {s : State} {m : MethodId} {args : Array Value} {below : List Frame} {meth : Method} {c : Code} {H : Heap} {locs : List Loc} {cells slots : Nat} {Q : State → Prop}
variable {pc : Nat} {ls : Array Slot} {rest st0 : List Value} {a : Array Value} {D : va_G} {cs : Nat → ClassId} {A : Nat → Prop} {H0 : Heap} {mc ms : Nat}
theorem g_free {ws : va_W} (hD : va_D A ws) (hS : va_S A H0 H locs) (hA : ∀ q : Nat, H0.size ≤ q → A q) : ∀ q, va_A ws H.size q → A q := by
  intro q h
  rcases h with ⟨k, e, h⟩ | h
  · exact hD.2 k _ h
  · exact hA q (Nat.le_trans hS.1 h)
theorem g_callv {S : Type} {post : S → Prop} {wf : S → va_W} {w0 : va_W} (hr : va_Run p l e R s m args below meth c H locs cells slots mc ms (F0 m pc ls st0) rest (va_Qv post (gB D cs (va_A w0 H.size) wf) (va_A w0 H.size) a) (va_A w0 H.size)) (hD : va_D A w0) (hS : va_S A H0 H locs) (hA : ∀ q : Nat, H0.size ≤ q → A q)
    (kk : ∀ (u : S) (H1 : Heap) (locs1 : List Loc), post u → va_P D vc (wf u) H1 → va_D A (wf u) → va_S A H0 H1 locs1 → W p l e R s m args below meth c H1 locs1 (cells + mc) (slots + ms) Q (F0 m (pc + 3) ls rest)) : W p l e R s m args below meth c H locs cells slots Q (F0 m pc ls st0) :=
  va_callv hr hS (fun q _ h => g_free hD hS hA q h) (g_free hD hS hA) (fun u t H1 locs1 ht hvm hw hB hz hk hS1 => kk u H1 locs1 hw (by rw [← ht]; exact hB.1) (hB.2.2.weaken (fun _ _ _ h => g_free hD hS hA _ h)) hS1)
theorem g_calli {S : Type} {post : Int32 → S → Prop} {wf : S → va_W} {w0 : va_W} (hr : va_Run p l e R s m args below meth c H locs cells slots mc ms (F0 m pc ls st0) rest (va_Qi post (gB D cs (va_A w0 H.size) wf) (va_A w0 H.size) a) (va_A w0 H.size)) (hD : va_D A w0) (hS : va_S A H0 H locs) (hA : ∀ q : Nat, H0.size ≤ q → A q)
    (kk : ∀ (r : Int32) (u : S) (H1 : Heap) (locs1 : List Loc), post r u → va_P D vc (wf u) H1 → va_D A (wf u) → va_S A H0 H1 locs1 → W p l e R s m args below meth c H1 locs1 (cells + mc) (slots + ms) Q (F0 m (pc + 3) ls (.int r :: rest))) : W p l e R s m args below meth c H locs cells slots Q (F0 m pc ls st0) :=
  va_calli hr hS (fun q _ h => g_free hD hS hA q h) (g_free hD hS hA) (fun r u t H1 locs1 ht hvm hw hB hz hk hS1 => kk r u H1 locs1 hw (by rw [← ht]; exact hB.1) (hB.2.2.weaken (fun _ _ _ h => g_free hD hS hA _ h)) hS1)
theorem g_calll {S : Type} {post : Int64 → S → Prop} {wf : S → va_W} {w0 : va_W} (hr : va_Run p l e R s m args below meth c H locs cells slots mc ms (F0 m pc ls st0) rest (va_Ql post (gB D cs (va_A w0 H.size) wf) (va_A w0 H.size) a) (va_A w0 H.size)) (hD : va_D A w0) (hS : va_S A H0 H locs) (hA : ∀ q : Nat, H0.size ≤ q → A q)
    (kk : ∀ (r : Int64) (u : S) (H1 : Heap) (locs1 : List Loc), post r u → va_P D vc (wf u) H1 → va_D A (wf u) → va_S A H0 H1 locs1 → W p l e R s m args below meth c H1 locs1 (cells + mc) (slots + ms) Q (F0 m (pc + 3) ls (.long r :: rest))) : W p l e R s m args below meth c H locs cells slots Q (F0 m pc ls st0) :=
  va_calll hr hS (fun q _ h => g_free hD hS hA q h) (g_free hD hS hA) (fun r u t H1 locs1 ht hvm hw hB hz hk hS1 => kk r u H1 locs1 hw (by rw [← ht]; exact hB.1) (hB.2.2.weaken (fun _ _ _ h => g_free hD hS hA _ h)) hS1)
/-- a method's ends -/
theorem g_vret {S : Type} {post : S → Prop} {wf : S → va_W} {cc : ByteArray} (hx : p.tables.exec = Jvm.exec) (hb : c.code = cc) (hr : meth.sig.returnType = none) (hlocks : meth.locks = false) (u : S) (hu : post u) (hK : va_K D vc (tyK cs) s) (hP : va_P D vc (wf u) H) (hD : va_D A (wf u)) (hS : va_S A s.heap H locs) (hdg : decode cc pc = .ok (.return_, 1)) :
    W p l e R s m args below meth c H locs cells slots (MQ below (va_Qv post (gB D cs A wf) A) args s cells slots A) (F0 m pc ls []) :=
  W.vret hx hb hr (fun t ht hW => ⟨⟨u, rfl, hu, by rw [ht]; exact hP, va_K.moved hW.alike hK, hD⟩, hS.F ht⟩) hS.2.2 hdg
theorem g_iret {S : Type} {post : Int32 → S → Prop} {wf : S → va_W} {cc : ByteArray} {v : Int32} (hx : p.tables.exec = Jvm.exec) (hb : c.code = cc) (hr : meth.sig.returnType = some .int) (hlocks : meth.locks = false) (u : S) (hu : post v u) (hK : va_K D vc (tyK cs) s) (hP : va_P D vc (wf u) H) (hD : va_D A (wf u)) (hS : va_S A s.heap H locs) (hdg : decode cc pc = .ok (.ireturn, 1)) :
    W p l e R s m args below meth c H locs cells slots (MQ below (va_Qi post (gB D cs A wf) A) args s cells slots A) (F0 m pc ls [.int v]) :=
  W.iret hx hb hr (fun t ht hW => ⟨⟨v, u, rfl, hu, by rw [ht]; exact hP, va_K.moved hW.alike hK, hD⟩, hS.F ht⟩) hS.2.2 hdg
theorem g_lret {S : Type} {post : Int64 → S → Prop} {wf : S → va_W} {cc : ByteArray} {v : Int64} (hx : p.tables.exec = Jvm.exec) (hb : c.code = cc) (hr : meth.sig.returnType = some .long) (hlocks : meth.locks = false) (u : S) (hu : post v u) (hK : va_K D vc (tyK cs) s) (hP : va_P D vc (wf u) H) (hD : va_D A (wf u)) (hS : va_S A s.heap H locs) (hdg : decode cc pc = .ok (.lreturn, 1)) :
    W p l e R s m args below meth c H locs cells slots (MQ below (va_Ql post (gB D cs A wf) A) args s cells slots A) (F0 m pc ls [.long v]) :=
  W.lret hx hb hr (fun t ht hW => ⟨⟨v, u, rfl, hu, by rw [ht]; exact hP, va_K.moved hW.alike hK, hD⟩, hS.F ht⟩) hS.2.2 hdg
theorem g_zret {S : Type} {post : Int32 → S → Prop} {wf : S → va_W} {cc : ByteArray} {v : Int32} (hx : p.tables.exec = Jvm.exec) (hb : c.code = cc) (hr : meth.sig.returnType = some .boolean) (hlocks : meth.locks = false) (hn : narrow .boolean (.int v) = .int v) (u : S) (hu : post v u) (hK : va_K D vc (tyK cs) s) (hP : va_P D vc (wf u) H) (hD : va_D A (wf u)) (hS : va_S A s.heap H locs) (hdg : decode cc pc = .ok (.ireturn, 1)) :
    W p l e R s m args below meth c H locs cells slots (MQ below (va_Qi post (gB D cs A wf) A) args s cells slots A) (F0 m pc ls [.int v]) :=
  W.zret hx hb hr hn (fun t ht hW => ⟨⟨v, u, rfl, hu, by rw [ht]; exact hP, va_K.moved hW.alike hK, hD⟩, hS.F ht⟩) hS.2.2 hdg
end G7
end
section
/-! Rows over natural numbers and over lcmp with the branch behind it; the context of a method's body. -/
/-- what a body has at hand all the way -/
def MC (p : Program) (s : State) (m : MethodId) (args : Array Value) (meth : Method) (c : Code) (own : String) (cc : ByteArray) (nL : Nat) (D : va_G) (cs : Nat → ClassId) : Prop :=
  p.tables.exec = Jvm.exec ∧ c.code = cc ∧ c.maxLocals = nL ∧ s.vm.findClass own = some m.cls ∧ (∀ w ∈ GW, w.before args s = true) ∧ meth.locks = false ∧ va_K D vc (tyK cs) s ∧ NW s
/-- n rounds of a loop that counts up from i -/
def fo {σ : Type} (f : Nat → σ → σ) : Nat → Nat → σ → σ
  | 0, _, x => x
  | n + 1, i, x => fo f n (i + 1) (f i x)
theorem fo_0 {σ : Type} (f : Nat → σ → σ) (i : Nat) (x : σ) : fo f 0 i x = x := rfl
theorem fo_s {σ : Type} (f : Nat → σ → σ) (n i : Nat) (x : σ) : fo f (n + 1) i x = fo f n (i + 1) (f i x) := rfl
theorem lc_eq {x y : Int64} : lg_cmp x y = 0 ↔ x = y := by
  unfold lg_cmp
  by_cases h1 : x > y
  · rw [if_pos h1]
    constructor
    · intro h
      exact absurd h (by decide)
    · intro h
      subst h
      exact absurd h1 (Int64.lt_irrefl)
  · rw [if_neg h1]
    by_cases h2 : x = y
    · rw [if_pos h2]
      exact ⟨fun _ => h2, fun _ => rfl⟩
    · rw [if_neg h2]
      exact ⟨fun h => absurd h (by decide), fun h => absurd h h2⟩
theorem lc_lt {x y : Int64} : lg_cmp x y < 0 ↔ x < y := by
  unfold lg_cmp
  by_cases h1 : x > y
  · rw [if_pos h1]
    exact ⟨fun h => absurd h (by decide), fun h => absurd (Int64.lt_trans h h1) Int64.lt_irrefl⟩
  · rw [if_neg h1]
    by_cases h2 : x = y
    · rw [if_pos h2]
      subst h2
      exact ⟨fun h => absurd h (by decide), fun h => absurd h Int64.lt_irrefl⟩
    · rw [if_neg h2]
      refine ⟨fun _ => ?_, fun _ => by decide⟩
      rw [Int64.lt_iff_toInt_lt]
      have h3 : ¬ y.toInt < x.toInt := fun q => h1 (Int64.lt_iff_toInt_lt.mpr q)
      have h4 : ¬ x.toInt = y.toInt := fun q => h2 (Int64.toInt_inj.mp q)
      omega
theorem lc_gt {x y : Int64} : 0 < lg_cmp x y ↔ y < x := by
  unfold lg_cmp
  by_cases h1 : x > y
  · rw [if_pos h1]
    exact ⟨fun _ => h1, fun _ => by decide⟩
  · rw [if_neg h1]
    by_cases h2 : x = y
    · rw [if_pos h2]
      exact ⟨fun h => absurd h (by decide), fun h => absurd h h1⟩
    · rw [if_neg h2]
      exact ⟨fun h => absurd h (by decide), fun h => absurd h h1⟩
theorem i32_nlt {x y : Int32} : ¬ x < y ↔ y ≤ x := by
  rw [Int32.lt_iff_toInt_lt, Int32.le_iff_toInt_le]; omega
theorem i32_nle {x y : Int32} : ¬ x ≤ y ↔ y < x := by
  rw [Int32.lt_iff_toInt_lt, Int32.le_iff_toInt_le]; omega
theorem lc_le {x y : Int64} : lg_cmp x y ≤ 0 ↔ ¬ y < x := by
  rw [← i32_nlt, lc_gt]
theorem lc_ge {x y : Int64} : 0 ≤ lg_cmp x y ↔ ¬ x < y := by
  rw [← i32_nlt, lc_lt]
section B8
variable {p : Program} {l : Launch} {e : Env} {R : Room} {s : State} {m : MethodId} {args : Array Value} {below : List Frame} {meth : Method} {c : Code} {H : Heap} {locs : List Loc} {cells slots : Nat} {Q : State → Prop}
variable {cc : ByteArray} {pc : Nat} {ls : Array Slot} {rest : List Value}
theorem b_lceq (hx : p.tables.exec = Jvm.exec) (hb : c.code = cc) {x y : Int64} {off : Int} {tgt : Nat} (hd0 : decode cc pc = .ok (.lcmp, 1)) (hdg : decode cc (pc + 1) = .ok (.ifCond .eq off, 3)) (ht : ((pc + 1 : Nat) : Int) + off = (tgt : Int))
    (kt : x = y → W p l e R s m args below meth c H locs cells slots Q (F0 m tgt ls rest)) (kf : ¬ x = y → W p l e R s m args below meth c H locs cells slots Q (F0 m (pc + 4) ls rest)) : W p l e R s m args below meth c H locs cells slots Q (F0 m pc ls (.long y :: .long x :: rest)) :=
  W.lcmp hx hb hd0 (lv_if_eq hx hb hdg ht (fun h => kt (lc_eq.mp h)) (fun h => kf (fun q => h (lc_eq.mpr q))))
theorem b_lcne (hx : p.tables.exec = Jvm.exec) (hb : c.code = cc) {x y : Int64} {off : Int} {tgt : Nat} (hd0 : decode cc pc = .ok (.lcmp, 1)) (hdg : decode cc (pc + 1) = .ok (.ifCond .ne off, 3)) (ht : ((pc + 1 : Nat) : Int) + off = (tgt : Int))
    (kt : ¬ x = y → W p l e R s m args below meth c H locs cells slots Q (F0 m tgt ls rest)) (kf : x = y → W p l e R s m args below meth c H locs cells slots Q (F0 m (pc + 4) ls rest)) : W p l e R s m args below meth c H locs cells slots Q (F0 m pc ls (.long y :: .long x :: rest)) :=
  W.lcmp hx hb hd0 (lv_if_ne hx hb hdg ht (fun h => kt (fun q => h (lc_eq.mpr q))) (fun h => kf (by first | exact lc_eq.mp h | exact lc_eq.mp (Decidable.not_not.mp h))))
theorem b_lclt (hx : p.tables.exec = Jvm.exec) (hb : c.code = cc) {x y : Int64} {off : Int} {tgt : Nat} (hd0 : decode cc pc = .ok (.lcmp, 1)) (hdg : decode cc (pc + 1) = .ok (.ifCond .lt off, 3)) (ht : ((pc + 1 : Nat) : Int) + off = (tgt : Int))
    (kt : x < y → W p l e R s m args below meth c H locs cells slots Q (F0 m tgt ls rest)) (kf : ¬ x < y → W p l e R s m args below meth c H locs cells slots Q (F0 m (pc + 4) ls rest)) : W p l e R s m args below meth c H locs cells slots Q (F0 m pc ls (.long y :: .long x :: rest)) :=
  W.lcmp hx hb hd0 (lv_if_lt hx hb hdg ht (fun h => kt (lc_lt.mp h)) (fun h => kf (fun q => h (lc_lt.mpr q))))
theorem b_lcge (hx : p.tables.exec = Jvm.exec) (hb : c.code = cc) {x y : Int64} {off : Int} {tgt : Nat} (hd0 : decode cc pc = .ok (.lcmp, 1)) (hdg : decode cc (pc + 1) = .ok (.ifCond .ge off, 3)) (ht : ((pc + 1 : Nat) : Int) + off = (tgt : Int))
    (kt : ¬ x < y → W p l e R s m args below meth c H locs cells slots Q (F0 m tgt ls rest)) (kf : x < y → W p l e R s m args below meth c H locs cells slots Q (F0 m (pc + 4) ls rest)) : W p l e R s m args below meth c H locs cells slots Q (F0 m pc ls (.long y :: .long x :: rest)) :=
  W.lcmp hx hb hd0 (lv_if_ge hx hb hdg ht (fun h => kt (lc_ge.mp h)) (fun h => kf (Decidable.not_not.mp (fun q => h (lc_ge.mpr q)))))
theorem b_lcle (hx : p.tables.exec = Jvm.exec) (hb : c.code = cc) {x y : Int64} {off : Int} {tgt : Nat} (hd0 : decode cc pc = .ok (.lcmp, 1)) (hdg : decode cc (pc + 1) = .ok (.ifCond .le off, 3)) (ht : ((pc + 1 : Nat) : Int) + off = (tgt : Int))
    (kt : ¬ y < x → W p l e R s m args below meth c H locs cells slots Q (F0 m tgt ls rest)) (kf : y < x → W p l e R s m args below meth c H locs cells slots Q (F0 m (pc + 4) ls rest)) : W p l e R s m args below meth c H locs cells slots Q (F0 m pc ls (.long y :: .long x :: rest)) :=
  W.lcmp hx hb hd0 (lv_if_le hx hb hdg ht (fun h => kt (lc_le.mp h)) (fun h => kf (Decidable.not_not.mp (fun q => h (lc_le.mpr q)))))
theorem b_lcgt (hx : p.tables.exec = Jvm.exec) (hb : c.code = cc) {x y : Int64} {off : Int} {tgt : Nat} (hd0 : decode cc pc = .ok (.lcmp, 1)) (hdg : decode cc (pc + 1) = .ok (.ifCond .gt off, 3)) (ht : ((pc + 1 : Nat) : Int) + off = (tgt : Int))
    (kt : y < x → W p l e R s m args below meth c H locs cells slots Q (F0 m tgt ls rest)) (kf : ¬ y < x → W p l e R s m args below meth c H locs cells slots Q (F0 m (pc + 4) ls rest)) : W p l e R s m args below meth c H locs cells slots Q (F0 m pc ls (.long y :: .long x :: rest)) :=
  W.lcmp hx hb hd0 (lv_if_gt hx hb hdg ht (fun h => kt (lc_gt.mp h)) (fun h => kf (fun q => h (lc_gt.mpr q))))
theorem b_addn (hx : p.tables.exec = Jvm.exec) (hb : c.code = cc) {a b : Nat} (hdg : decode cc pc = .ok (.iadd, 1)) (k : W p l e R s m args below meth c H locs cells slots Q (F0 m (pc + 1) ls (.int (nI (a + b)) :: rest))) : W p l e R s m args below meth c H locs cells slots Q (F0 m pc ls (.int (nI b) :: .int (nI a) :: rest)) := by
  refine lv_iadd hx hb hdg ?_
  rw [nI_add]
  exact k
theorem b_subn (hx : p.tables.exec = Jvm.exec) (hb : c.code = cc) {a b : Nat} (hdg : decode cc pc = .ok (.isub, 1)) (h : b ≤ a) (k : W p l e R s m args below meth c H locs cells slots Q (F0 m (pc + 1) ls (.int (nI (a - b)) :: rest))) : W p l e R s m args below meth c H locs cells slots Q (F0 m pc ls (.int (nI b) :: .int (nI a) :: rest)) := by
  refine lv_isub hx hb hdg ?_
  rw [pk_sub h]
  exact k
theorem b_muln (hx : p.tables.exec = Jvm.exec) (hb : c.code = cc) {a b : Nat} (hdg : decode cc pc = .ok (.imul, 1)) (k : W p l e R s m args below meth c H locs cells slots Q (F0 m (pc + 1) ls (.int (nI (a * b)) :: rest))) : W p l e R s m args below meth c H locs cells slots Q (F0 m pc ls (.int (nI b) :: .int (nI a) :: rest)) := by
  refine lv_imul hx hb hdg ?_
  rw [pk_mul]
  exact k
theorem b_iinc (hx : p.tables.exec = Jvm.exec) (hb : c.code = cc) {i nL k x : Nat} {lv lv' : List (Nat × Value)} (hdg : decode cc pc = .ok (.iinc i 1, 3)) (h : lv_has ls nL lv) (hk : lv[k]? = some (i, .int (nI x))) (hn : i < nL) (hl : (i, Value.int (nI (x + 1))) :: lv.filter (fun q => !(q.1 == i) && !(q.1 + 1 == i && q.2.category == 2)) = lv')
    (kk : ∀ ls' : Array Slot, lv_has ls' nL lv' → W p l e R s m args below meth c H locs cells slots Q (F0 m (pc + 3) ls' rest)) : W p l e R s m args below meth c H locs cells slots Q (F0 m pc ls rest) :=
  lv_iinc (v := nI (x + 1)) hx hb hdg h hk (nI_1 x) hn hl kk
theorem b_eq_t (hx : p.tables.exec = Jvm.exec) (hb : c.code = cc) {a b : Nat} {off : Int} {tgt : Nat} (hdg : decode cc pc = .ok (.if_icmp .eq off, 3)) (ht : (pc : Int) + off = (tgt : Int)) (h : a = b)
    (kk : W p l e R s m args below meth c H locs cells slots Q (F0 m tgt ls rest)) : W p l e R s m args below meth c H locs cells slots Q (F0 m pc ls (.int (nI b) :: .int (nI a) :: rest)) :=
  lv_icmp_eq hx hb hdg ht (fun _ => kk) (fun q => absurd (by rw [h]) q)
theorem b_eq_f (hx : p.tables.exec = Jvm.exec) (hb : c.code = cc) {a b : Nat} {off : Int} {tgt : Nat} (hdg : decode cc pc = .ok (.if_icmp .eq off, 3)) (ht : (pc : Int) + off = (tgt : Int)) (h : ¬ a = b) (ha : a < 2 ^ 31) (hb2 : b < 2 ^ 31)
    (kk : W p l e R s m args below meth c H locs cells slots Q (F0 m (pc + 3) ls rest)) : W p l e R s m args below meth c H locs cells slots Q (F0 m pc ls (.int (nI b) :: .int (nI a) :: rest)) :=
  lv_icmp_eq hx hb hdg ht (fun q => absurd ((nI_eq ha hb2).mp q) h) (fun _ => kk)
theorem b_ne_f (hx : p.tables.exec = Jvm.exec) (hb : c.code = cc) {a b : Nat} {off : Int} {tgt : Nat} (hdg : decode cc pc = .ok (.if_icmp .ne off, 3)) (ht : (pc : Int) + off = (tgt : Int)) (h : a = b)
    (kk : W p l e R s m args below meth c H locs cells slots Q (F0 m (pc + 3) ls rest)) : W p l e R s m args below meth c H locs cells slots Q (F0 m pc ls (.int (nI b) :: .int (nI a) :: rest)) :=
  lv_icmp_ne hx hb hdg ht (fun q => absurd (by rw [h]) q) (fun _ => kk)
theorem b_ne_t (hx : p.tables.exec = Jvm.exec) (hb : c.code = cc) {a b : Nat} {off : Int} {tgt : Nat} (hdg : decode cc pc = .ok (.if_icmp .ne off, 3)) (ht : (pc : Int) + off = (tgt : Int)) (h : ¬ a = b) (ha : a < 2 ^ 31) (hb2 : b < 2 ^ 31)
    (kk : W p l e R s m args below meth c H locs cells slots Q (F0 m tgt ls rest)) : W p l e R s m args below meth c H locs cells slots Q (F0 m pc ls (.int (nI b) :: .int (nI a) :: rest)) :=
  lv_icmp_ne hx hb hdg ht (fun _ => kk) (fun q => absurd ((nI_eq ha hb2).mp q) h)
end B8
theorem mn_r {a b : Nat} (h : a ≤ b) (hb : b < 2 ^ 31) : (if nI a < nI b then nI a else nI b) = nI a := by
  by_cases h1 : nI a < nI b
  · rw [if_pos h1]
  · rw [if_neg h1]
    have h2 : ¬ a < b := fun q => h1 ((nI_ltI (by omega) hb).mpr q)
    rw [show b = a by omega]
theorem mx_r {a : Nat} (ha : a < 2 ^ 31) : (if nI 0 < nI a then nI a else nI 0) = nI a := by
  by_cases h1 : nI 0 < nI a
  · rw [if_pos h1]
  · rw [if_neg h1]
    have h2 : ¬ 0 < a := fun q => h1 ((nI_ltI (by omega) ha).mpr q)
    rw [show a = 0 by omega]
end
section
/-! What the class's methods compute, as functions: searches, Euclid's way over longs, lowest terms. -/
/-- the first of n numbers from i on that f takes -/
def fnd (f : Nat → Prop) [DecidablePred f] : Nat → Nat → Option Nat
  | 0, _ => none
  | n + 1, i => if f i then some i else fnd f n (i + 1)
theorem fnd_t {f : Nat → Prop} [DecidablePred f] {n i : Nat} (h : f i) : fnd f (n + 1) i = some i := if_pos h
theorem fnd_f {f : Nat → Prop} [DecidablePred f] {n i : Nat} (h : ¬ f i) : fnd f (n + 1) i = fnd f n (i + 1) := if_neg h
theorem fnd_some {f : Nat → Prop} [DecidablePred f] : ∀ {n i k : Nat}, fnd f n i = some k → i ≤ k ∧ k < i + n ∧ f k ∧ ∀ j, i ≤ j → j < k → ¬ f j
  | 0, _, _, h => by cases h
  | n + 1, i, k, h => by
    by_cases hf : f i
    · rw [fnd_t hf] at h
      cases h
      exact ⟨Nat.le_refl _, by omega, hf, fun j h1 h2 => absurd h2 (by omega)⟩
    · rw [fnd_f hf] at h
      obtain ⟨h1, h2, h3, h4⟩ := fnd_some h
      refine ⟨by omega, by omega, h3, fun j g1 g2 => ?_⟩
      by_cases hj : j = i
      · subst hj
        exact hf
      · exact h4 j (by omega) g2
theorem fnd_none {f : Nat → Prop} [DecidablePred f] : ∀ {n i : Nat}, fnd f n i = none → ∀ j, i ≤ j → j < i + n → ¬ f j
  | 0, _, _ => fun j h1 h2 => absurd h2 (by omega)
  | n + 1, i, h => by
    by_cases hf : f i
    · rw [fnd_t hf] at h
      cases h
    · rw [fnd_f hf] at h
      intro j g1 g2
      by_cases hj : j = i
      · subst hj
        exact hf
      · exact fnd_none h j (by omega) (by omega)
/-- an answer that is a number, or -1 -/
def enc : Option Nat → Int32
  | none => -1
  | some k => nI k
def bz (b : Bool) : Int32 := if b then nI 1 else nI 0
def eu64 : Nat → Int64 → Int64 → Int64
  | 0, b, _ => b
  | n + 1, b, s => if s = 0 then b else eu64 n s (b - b / s * s)
def ab64 (x : Int64) : Int64 := if 0 < x then x else -x
def cd64 (a b : Int64) : Int64 := eu64 100 (ab64 a) (ab64 b)
def lp64 (a b : Int64) (part : Int32) : Int64 := if 1 < cd64 a b then (if part = 0 then a else b) / cd64 a b else (if part = 0 then a else b)
/-- the row that decides unknown u -/
def rdec (AN : Nat → Nat → Nat) (d u : Nat) : Option Nat := fnd (fun k => AN 5 k = u) d 0
/-- the k-th free unknown, p having been passed -/
def fre (AN : Nat → Nat → Nat) (d : Nat) (k : Int32) : Nat → Nat → Nat → Option Nat
  | 0, _, _ => none
  | n + 1, u, p => if rdec AN d u = none then (if nI p = k then some u else fre AN d k n (u + 1) (p + 1)) else fre AN d k n (u + 1) p
def ppart (AN : Nat → Nat → Nat) (AL : Nat → Nat → Int64) (d w u : Nat) (part : Int32) : Int64 := match rdec AN d u with
  | none => lp64 0 1 part
  | some k => lp64 (AL (k + 11) w) (AL (k + 11) u) part
def dpart (AN : Nat → Nat → Nat) (AL : Nat → Nat → Int64) (d ch u : Nat) (part : Int32) : Int64 := match rdec AN d u with
  | none => lp64 (if u = ch then 1 else 0) 1 part
  | some k => lp64 (-AL (k + 11) ch) (AL (k + 11) u) part
end
section
abbrev rmX2_commonDivisor : Room := { frames := 1, cells := 0, slots := 0, locals := 21 }
set_option maxHeartbeats 4000000 in
set_option maxRecDepth 100000 in
/-- commonDivisor -/
theorem ctX2_commonDivisor (l : Launch) (D : va_G) (cs : Nat → ClassId) (ad : Nat → Nat) (I : Nat → Nat) (AN : Nat → Nat → Nat) (AI : Nat → Nat → Int32) (AL : Nat → Nat → Int64) (sz : Nat) (x y : Int64)  : Met l yX2_commonDivisor (Cond.code yX2_commonDivisor cX2_commonDivisor 11 (some FieldType.long) :: GW) rmX2_commonDivisor (va_Pc [.long x, .long y] (gP D cs (wT cs ad I AN AI AL) sz)) (va_Ql (fun (r : Int64) (u : TS) => u = (I, AN, AI, AL) ∧ r = cd64 x y) (gB D cs (va_A (wT cs ad I AN AI AL) sz) (wTs cs ad)) (va_A (wT cs ad I AN AI AL) sz)) 0 0 (va_A (wT cs ad I AN AI AL) sz) := by
  refine Met.ofW (cc := cX2_commonDivisor) (maxL := 11) (ret := (some FieldType.long)) (by decide) rfl ?_
  intro p e s m args below meth c s₁ B hml hv
  obtain ⟨rfl, hsz, hP, hK, hD0, hN⟩ := hv
  have hx := B.exec
  have hb := B.bytes
  have hr := B.returns
  have hts : ∀ w ∈ GW, w.before _ s = true := fun w h => atoms_spec (ws := Cond.code yX2_commonDivisor cX2_commonDivisor 11 (some FieldType.long) :: GW) B.pre w (List.mem_cons_of_mem _ h)
  have hown : s.vm.findClass RX2 = some m.cls := findClass_of_methodNamed B.named
  have hlocks := B.notSynchronized
  subst hsz
  have hD := hD0.self (sz := s.heap.size)
  generalize hAe : va_A (wT cs ad I AN AI AL) s.heap.size = A at hD ⊢
  have hA : ∀ q : Nat, s.heap.size ≤ q → A q := fun q h => by rw [← hAe]; exact Or.inr h
  have hS : va_S A s.heap s.heap [] := va_S.rf
  have hl := lv_entry [.long x, .long y] (n := 11) (Nat.le_of_ble_eq_true rfl)
  rw [lg_entry_eq]
  generalize (lg_sl [.long x, .long y] ++ List.replicate (11 - (lg_sl [.long x, .long y]).length) Slot.unset).toArray = ls at hl ⊢
  have hl : lv_has ls 11 [(0, .long x), (2, .long y)] := hl
  generalize hargs : ([.long x, .long y] : List Value).toArray = args at *
  show W p l e rmX2_commonDivisor s m args below meth c s.heap [] 0 0 _ (F0 m 0 ls [])
  refine lv_lload_n hx hb dX2_commonDivisor_0 rfl (lv_at hl 0 rfl) ?_
  refine va_mabs_long hx hb (by rw [hml]; exact hl.1.symm) hown (hts _ gw_187) (hts _ gw_188) (hts _ gw_54) (hts _ gw_189) (Nat.le_of_ble_eq_true rfl) (Nat.le_of_ble_eq_true rfl) (Nat.zero_le _) (Nat.zero_le _) dX2_commonDivisor_1 ?_
  show W p l e rmX2_commonDivisor s m args below meth c s.heap [] 0 0 _ (F0 m 4 ls [.long (ab64 x)])
  refine lv_lstore (lv' := [(4, .long (ab64 x)), (0, .long x), (2, .long y)]) hx hb dX2_commonDivisor_4 hl (by decide) rfl (fun ls hl => ?_)
  refine lv_lload_n hx hb dX2_commonDivisor_6 rfl (lv_at hl 2 rfl) ?_
  refine va_mabs_long hx hb (by rw [hml]; exact hl.1.symm) hown (hts _ gw_187) (hts _ gw_188) (hts _ gw_54) (hts _ gw_189) (Nat.le_of_ble_eq_true rfl) (Nat.le_of_ble_eq_true rfl) (Nat.zero_le _) (Nat.zero_le _) dX2_commonDivisor_7 ?_
  show W p l e rmX2_commonDivisor s m args below meth c s.heap [] 0 0 _ (F0 m 10 ls [.long (ab64 y)])
  refine lv_lstore (lv' := [(6, .long (ab64 y)), (4, .long (ab64 x)), (0, .long x), (2, .long y)]) hx hb dX2_commonDivisor_10 hl (by decide) rfl (fun ls hl => ?_)
  refine lv_iconst (v := nI 0) hx hb dX2_commonDivisor_12 (by decide) ?_
  refine lv_istore (lv' := [(8, .int (nI 0)), (6, .long (ab64 y)), (4, .long (ab64 x)), (0, .long x), (2, .long y)]) hx hb dX2_commonDivisor_13 hl (by decide) rfl (fun ls hl => ?_)
  have lp15 : ∀ (n k : Nat) (bg sm : Int64) (H : Heap) (locs : List Loc) (ls : Array Slot), k + n = 100 → va_P D vc (wT cs ad I AN AI AL) H → va_D A (wT cs ad I AN AI AL) → va_S A s.heap H locs → lv_has ls 11 [(8, .int (nI k)), (6, .long sm), (4, .long bg), (0, .long x), (2, .long y)] → W p l e rmX2_commonDivisor s m args below meth c H locs 0 0 (MQ below (va_Ql (fun (r : Int64) (u : TS) => u = (I, AN, AI, AL) ∧ r = eu64 n bg sm) (gB D cs A (wTs cs ad)) A) args s 0 0 A) (F0 m 15 ls []) := by
    intro n
    induction n with
    | zero =>
      intro k bg sm H locs ls hn hP hD hS hl
      have hi : k = 100 := by omega
      refine lv_iload hx hb dX2_commonDivisor_15 (lv_at hl 0 rfl) ?_
      refine lv_bipush (v := nI 100) hx hb dX2_commonDivisor_17 (by decide) ?_
      refine b_ge_t (tgt := 50) hx hb dX2_commonDivisor_19 (by decide) (by omega) (by omega) ?_
      refine lv_lload hx hb dX2_commonDivisor_50 (lv_at hl 2 rfl) ?_
      exact g_lret hx hb hr hlocks (I, AN, AI, AL) (⟨rfl, rfl⟩) hK hP hD hS dX2_commonDivisor_52
    | succ n ih =>
      intro k bg sm H locs ls hn hP hD hS hl
      have hi : k < 100 := by omega
      refine lv_iload hx hb dX2_commonDivisor_15 (lv_at hl 0 rfl) ?_
      refine lv_bipush (v := nI 100) hx hb dX2_commonDivisor_17 (by decide) ?_
      refine b_ge_f (tgt := 50) hx hb dX2_commonDivisor_19 (by decide) (by omega) (by omega) ?_
      refine lv_lload hx hb dX2_commonDivisor_22 (lv_at hl 1 rfl) ?_
      refine lv_lconst (v := 0) hx hb dX2_commonDivisor_24 (by decide) ?_
      refine b_lceq (tgt := 50) hx hb dX2_commonDivisor_25 dX2_commonDivisor_26 (by decide) (fun h => ?_) (fun h => ?_)
      · refine lv_lload hx hb dX2_commonDivisor_50 (lv_at hl 2 rfl) ?_
        exact g_lret hx hb hr hlocks (I, AN, AI, AL) (⟨rfl, by rw [eu64, if_pos h]⟩) hK hP hD hS dX2_commonDivisor_52
      · refine lv_lload hx hb dX2_commonDivisor_29 (lv_at hl 2 rfl) ?_
        refine lv_lload hx hb dX2_commonDivisor_31 (lv_at hl 1 rfl) ?_
        refine lv_lrem hx hb dX2_commonDivisor_33 (h) ?_
        refine lv_lstore (lv' := [(9, .long (bg - bg / sm * sm)), (8, .int (nI k)), (6, .long sm), (4, .long bg), (0, .long x), (2, .long y)]) hx hb dX2_commonDivisor_34 hl (by decide) rfl (fun ls hl => ?_)
        refine lv_lload hx hb dX2_commonDivisor_36 (lv_at hl 2 rfl) ?_
        refine lv_lstore (lv' := [(4, .long sm), (9, .long (bg - bg / sm * sm)), (8, .int (nI k)), (6, .long sm), (0, .long x), (2, .long y)]) hx hb dX2_commonDivisor_38 hl (by decide) rfl (fun ls hl => ?_)
        refine lv_lload hx hb dX2_commonDivisor_40 (lv_at hl 1 rfl) ?_
        refine lv_lstore (lv' := [(6, .long (bg - bg / sm * sm)), (4, .long sm), (9, .long (bg - bg / sm * sm)), (8, .int (nI k)), (0, .long x), (2, .long y)]) hx hb dX2_commonDivisor_42 hl (by decide) rfl (fun ls hl => ?_)
        refine b_iinc (lv' := [(8, .int (nI (k + 1))), (6, .long (bg - bg / sm * sm)), (4, .long sm), (9, .long (bg - bg / sm * sm)), (0, .long x), (2, .long y)]) hx hb dX2_commonDivisor_44 hl (k := 3) rfl (by decide) rfl (fun ls hl => ?_)
        refine lv_goto (tgt := 15) hx hb dX2_commonDivisor_47 (by decide) ?_
        have ih2 := ih (k + 1) sm (bg - bg / sm * sm) H locs ls (by omega) hP hD hS (lv_sub hl [0, 1, 2, 4, 5] rfl)
        rw [show eu64 (n + 1) bg sm = eu64 n sm (bg - bg / sm * sm) from if_neg h]
        exact ih2
  exact lp15 (100 - 0) 0 (ab64 x) (ab64 y) _ _ ls (by omega) hP hD hS (lv_sub hl [0, 1, 2, 3, 4] rfl)

theorem ne_of_gt1 {x : Int64} (h : 1 < x) : ¬ x = 0 := by
  intro e
  subst e
  exact absurd h (by decide)
theorem zn {x : Int32} (h : x = 0) : x = 0 := h

abbrev rmX2_lowestPart : Room := { frames := 2, cells := 0, slots := 0, locals := 51 }
set_option maxHeartbeats 4000000 in
set_option maxRecDepth 100000 in
/-- lowestPart -/
theorem ctX2_lowestPart (l : Launch) (D : va_G) (cs : Nat → ClassId) (ad : Nat → Nat) (I : Nat → Nat) (AN : Nat → Nat → Nat) (AI : Nat → Nat → Int32) (AL : Nat → Nat → Int64) (sz : Nat) (x y : Int64) (q : Int32)  : Met l yX2_lowestPart (Cond.code yX2_lowestPart cX2_lowestPart 9 (some FieldType.long) :: GW) rmX2_lowestPart (va_Pc [.long x, .long y, .int q] (gP D cs (wT cs ad I AN AI AL) sz)) (va_Ql (fun (r : Int64) (u : TS) => u = (I, AN, AI, AL) ∧ r = lp64 x y q) (gB D cs (va_A (wT cs ad I AN AI AL) sz) (wTs cs ad)) (va_A (wT cs ad I AN AI AL) sz)) 0 0 (va_A (wT cs ad I AN AI AL) sz) := by
  refine Met.ofW (cc := cX2_lowestPart) (maxL := 9) (ret := (some FieldType.long)) (by decide) rfl ?_
  intro p e s m args below meth c s₁ B hml hv
  obtain ⟨rfl, hsz, hP, hK, hD0, hN⟩ := hv
  have hx := B.exec
  have hb := B.bytes
  have hr := B.returns
  have hts : ∀ w ∈ GW, w.before _ s = true := fun w h => atoms_spec (ws := Cond.code yX2_lowestPart cX2_lowestPart 9 (some FieldType.long) :: GW) B.pre w (List.mem_cons_of_mem _ h)
  have hown : s.vm.findClass RX2 = some m.cls := findClass_of_methodNamed B.named
  have hlocks := B.notSynchronized
  subst hsz
  have hD := hD0.self (sz := s.heap.size)
  generalize hAe : va_A (wT cs ad I AN AI AL) s.heap.size = A at hD ⊢
  have hA : ∀ q : Nat, s.heap.size ≤ q → A q := fun q h => by rw [← hAe]; exact Or.inr h
  have hS : va_S A s.heap s.heap [] := va_S.rf
  have hl := lv_entry [.long x, .long y, .int q] (n := 9) (Nat.le_of_ble_eq_true rfl)
  rw [lg_entry_eq]
  generalize (lg_sl [.long x, .long y, .int q] ++ List.replicate (9 - (lg_sl [.long x, .long y, .int q]).length) Slot.unset).toArray = ls at hl ⊢
  have hl : lv_has ls 9 [(0, .long x), (2, .long y), (4, .int q)] := hl
  generalize hargs : ([.long x, .long y, .int q] : List Value).toArray = args at *
  show W p l e rmX2_lowestPart s m args below meth c s.heap [] 0 0 _ (F0 m 0 ls [])
  refine lv_iload hx hb dX2_lowestPart_0 (lv_at hl 2 rfl) ?_
  refine lv_if_ne (tgt := 9) hx hb dX2_lowestPart_2 (by decide) (fun h => ?_) (fun h => ?_)
  · refine lv_lload_n hx hb dX2_lowestPart_9 rfl (lv_at hl 1 rfl) ?_
    refine lv_lstore (lv' := [(5, .long y), (0, .long x), (2, .long y), (4, .int q)]) hx hb dX2_lowestPart_10 hl (by decide) rfl (fun ls hl => ?_)
    refine lv_lload_n hx hb dX2_lowestPart_12 rfl (lv_at hl 1 rfl) ?_
    refine lv_lload_n hx hb dX2_lowestPart_13 rfl (lv_at hl 2 rfl) ?_
    refine g_calll (va_runS (As := [.long x, .long y]) (rest := []) ⟨hx, hb, hml, hown, hts⟩ (ctX2_commonDivisor l D cs ad I AN AI AL _ x y) (va_cwS 2 hts (gi_S gw_426 gw_185 gw_53 gw_186) rfl rfl rfl (by decide +kernel) ⟨Nat.le_of_ble_eq_true rfl, Nat.le_of_ble_eq_true rfl⟩) ⟨g_blind, g_pre hP hK hD hN⟩ rfl rfl hl.1 rfl (lv_room (Nat.le_of_ble_eq_true rfl)) dX2_lowestPart_14 ⟨Nat.zero_le _, Nat.zero_le _⟩) hD hS hA (fun r u H locs hw hP hD hS => ?_)
    obtain ⟨rfl, rfl⟩ := hw
    have hP : va_P D vc (wT cs ad I AN AI AL) H := hP
    have hD : va_D A (wT cs ad I AN AI AL) := hD
    refine lv_lstore (lv' := [(7, .long (cd64 x y)), (5, .long y), (0, .long x), (2, .long y), (4, .int q)]) hx hb dX2_lowestPart_17 hl (by decide) rfl (fun ls hl => ?_)
    refine lv_lload hx hb dX2_lowestPart_19 (lv_at hl 0 rfl) ?_
    refine lv_lconst (v := 1) hx hb dX2_lowestPart_21 (by decide) ?_
    refine b_lcle (tgt := 34) hx hb dX2_lowestPart_22 dX2_lowestPart_23 (by decide) (fun h2 => ?_) (fun h2 => ?_)
    · refine lv_lload hx hb dX2_lowestPart_34 (lv_at hl 1 rfl) ?_
      exact g_lret hx hb hr hlocks (I, AN, AI, AL) (⟨rfl, by rw [lp64, if_neg h2, if_neg h]⟩) hK hP hD hS dX2_lowestPart_36
    · refine lv_lload hx hb dX2_lowestPart_26 (lv_at hl 1 rfl) ?_
      refine lv_lload hx hb dX2_lowestPart_28 (lv_at hl 0 rfl) ?_
      refine lv_ldiv hx hb dX2_lowestPart_30 (ne_of_gt1 h2) ?_
      refine lv_goto (tgt := 36) hx hb dX2_lowestPart_31 (by decide) ?_
      exact g_lret hx hb hr hlocks (I, AN, AI, AL) (⟨rfl, by rw [lp64, if_pos h2, if_neg h]⟩) hK hP hD hS dX2_lowestPart_36
  · refine lv_lload_n hx hb dX2_lowestPart_5 rfl (lv_at hl 0 rfl) ?_
    refine lv_goto (tgt := 10) hx hb dX2_lowestPart_6 (by decide) ?_
    refine lv_lstore (lv' := [(5, .long x), (0, .long x), (2, .long y), (4, .int q)]) hx hb dX2_lowestPart_10 hl (by decide) rfl (fun ls hl => ?_)
    refine lv_lload_n hx hb dX2_lowestPart_12 rfl (lv_at hl 1 rfl) ?_
    refine lv_lload_n hx hb dX2_lowestPart_13 rfl (lv_at hl 2 rfl) ?_
    refine g_calll (va_runS (As := [.long x, .long y]) (rest := []) ⟨hx, hb, hml, hown, hts⟩ (ctX2_commonDivisor l D cs ad I AN AI AL _ x y) (va_cwS 2 hts (gi_S gw_426 gw_185 gw_53 gw_186) rfl rfl rfl (by decide +kernel) ⟨Nat.le_of_ble_eq_true rfl, Nat.le_of_ble_eq_true rfl⟩) ⟨g_blind, g_pre hP hK hD hN⟩ rfl rfl hl.1 rfl (lv_room (Nat.le_of_ble_eq_true rfl)) dX2_lowestPart_14 ⟨Nat.zero_le _, Nat.zero_le _⟩) hD hS hA (fun r u H locs hw hP hD hS => ?_)
    obtain ⟨rfl, rfl⟩ := hw
    have hP : va_P D vc (wT cs ad I AN AI AL) H := hP
    have hD : va_D A (wT cs ad I AN AI AL) := hD
    refine lv_lstore (lv' := [(7, .long (cd64 x y)), (5, .long x), (0, .long x), (2, .long y), (4, .int q)]) hx hb dX2_lowestPart_17 hl (by decide) rfl (fun ls hl => ?_)
    refine lv_lload hx hb dX2_lowestPart_19 (lv_at hl 0 rfl) ?_
    refine lv_lconst (v := 1) hx hb dX2_lowestPart_21 (by decide) ?_
    refine b_lcle (tgt := 34) hx hb dX2_lowestPart_22 dX2_lowestPart_23 (by decide) (fun h2 => ?_) (fun h2 => ?_)
    · refine lv_lload hx hb dX2_lowestPart_34 (lv_at hl 1 rfl) ?_
      exact g_lret hx hb hr hlocks (I, AN, AI, AL) (⟨rfl, by rw [lp64, if_neg h2, if_pos (zn h)]⟩) hK hP hD hS dX2_lowestPart_36
    · refine lv_lload hx hb dX2_lowestPart_26 (lv_at hl 1 rfl) ?_
      refine lv_lload hx hb dX2_lowestPart_28 (lv_at hl 0 rfl) ?_
      refine lv_ldiv hx hb dX2_lowestPart_30 (ne_of_gt1 h2) ?_
      refine lv_goto (tgt := 36) hx hb dX2_lowestPart_31 (by decide) ?_
      exact g_lret hx hb hr hlocks (I, AN, AI, AL) (⟨rfl, by rw [lp64, if_pos h2, if_pos (zn h)]⟩) hK hP hD hS dX2_lowestPart_36
end
section
abbrev rmX0_begin : Room := { frames := 1, cells := 0, slots := 0, locals := 21 }
set_option maxHeartbeats 4000000 in
set_option maxRecDepth 100000 in
/-- begin: the rows of so many unknowns and so many rows are 0 -/
theorem ctX0_begin (l : Launch) (D : va_G) (cs : Nat → ClassId) (ad : Nat → Nat) (I : Nat → Nat) (AN : Nat → Nat → Nat) (AI : Nat → Nat → Int32) (AL : Nat → Nat → Int64) (sz : Nat) (a b : Nat) (ha : a ≤ 4) (hb7 : b ≤ 7) : Met l yX0_begin (Cond.code yX0_begin cX0_begin 5 none :: GW) rmX0_begin (va_Pc [.ref (ad 2), .int (nI a), .int (nI b)] (gP D cs (wT cs ad I AN AI AL) sz)) (va_Qv (fun u : TS => u = (up1 (up1 (up1 I 2 a) 3 b) 4 0, AN, AI, fo (fun i X => fo (fun j X => up2 X (i + 11) j 0) (a + 1) 0 X) (b) 0 AL)) (gB D cs (va_A (wT cs ad I AN AI AL) sz) (wTs cs ad)) (va_A (wT cs ad I AN AI AL) sz)) 0 0 (va_A (wT cs ad I AN AI AL) sz) := by
  refine Met.ofW (cc := cX0_begin) (maxL := 5) (ret := none) (by decide) rfl ?_
  intro p e s m args below meth c s₁ B hml hv
  obtain ⟨rfl, hsz, hP, hK, hD0, hN⟩ := hv
  have hx := B.exec
  have hb := B.bytes
  have hr := B.returns
  have hts : ∀ w ∈ GW, w.before _ s = true := fun w h => atoms_spec (ws := Cond.code yX0_begin cX0_begin 5 none :: GW) B.pre w (List.mem_cons_of_mem _ h)
  have hown : s.vm.findClass RX0 = some m.cls := findClass_of_methodNamed B.named
  have hlocks := B.notSynchronized
  subst hsz
  have hD := hD0.self (sz := s.heap.size)
  generalize hAe : va_A (wT cs ad I AN AI AL) s.heap.size = A at hD ⊢
  have hA : ∀ q : Nat, s.heap.size ≤ q → A q := fun q h => by rw [← hAe]; exact Or.inr h
  have hS : va_S A s.heap s.heap [] := va_S.rf
  have hl := lv_entry [.ref (ad 2), .int (nI a), .int (nI b)] (n := 5) (Nat.le_of_ble_eq_true rfl)
  rw [lg_entry_eq]
  generalize (lg_sl [.ref (ad 2), .int (nI a), .int (nI b)] ++ List.replicate (5 - (lg_sl [.ref (ad 2), .int (nI a), .int (nI b)]).length) Slot.unset).toArray = ls at hl ⊢
  have hl : lv_has ls 5 [(0, .ref (ad 2)), (1, .int (nI a)), (2, .int (nI b))] := hl
  generalize hargs : ([.ref (ad 2), .int (nI a), .int (nI b)] : List Value).toArray = args at *
  show W p l e rmX0_begin s m args below meth c s.heap [] 0 0 _ (F0 m 0 ls [])
  refine lv_aload_n hx hb dX0_begin_0 rfl (lv_at hl 0 rfl) ?_
  refine lv_iconst (v := nI 0) hx hb dX0_begin_1 (by decide) ?_
  refine lv_iconst (v := nI 4) hx hb dX0_begin_2 (by decide) ?_
  refine lv_iload_n hx hb dX0_begin_3 rfl (lv_at hl 1 rfl) ?_
  refine va_mmin hx hb (by rw [hml]; exact hl.1.symm) hown (hts _ gw_158) (hts _ gw_73) (hts _ gw_54) (hts _ gw_74) (Nat.le_of_ble_eq_true rfl) (Nat.le_of_ble_eq_true rfl) (Nat.zero_le _) (Nat.zero_le _) dX0_begin_4 ?_
  rw [mn_r (by omega) (by decide)]
  refine va_mmax hx hb (by rw [hml]; exact hl.1.symm) hown (hts _ gw_159) (hts _ gw_76) (hts _ gw_54) (hts _ gw_77) (Nat.le_of_ble_eq_true rfl) (Nat.le_of_ble_eq_true rfl) (Nat.zero_le _) (Nat.zero_le _) dX0_begin_7 ?_
  rw [mx_r (by omega)]
  refine b_put (own := RX0) (C := RX0) (T := TX0) (N := 5) (ci := 0) (v := .int (nI a)) hx hb hts usX0 tyX0 tyX0_ok nmX0 hown hK hP hD hS 2 (by decide) rfl rfl 2 (by decide) (hts _ gw_91) rfl rfl rfl (Nat.le_of_ble_eq_true rfl) dX0_begin_10 sT_w (fun H locs hP hD hS => ?_)
  refine lv_aload_n hx hb dX0_begin_13 rfl (lv_at hl 0 rfl) ?_
  refine lv_iconst (v := nI 0) hx hb dX0_begin_14 (by decide) ?_
  refine lv_bipush (v := nI 7) hx hb dX0_begin_15 (by decide) ?_
  refine lv_iload_n hx hb dX0_begin_17 rfl (lv_at hl 2 rfl) ?_
  refine va_mmin hx hb (by rw [hml]; exact hl.1.symm) hown (hts _ gw_158) (hts _ gw_73) (hts _ gw_54) (hts _ gw_74) (Nat.le_of_ble_eq_true rfl) (Nat.le_of_ble_eq_true rfl) (Nat.zero_le _) (Nat.zero_le _) dX0_begin_18 ?_
  rw [mn_r (by omega) (by decide)]
  refine va_mmax hx hb (by rw [hml]; exact hl.1.symm) hown (hts _ gw_159) (hts _ gw_76) (hts _ gw_54) (hts _ gw_77) (Nat.le_of_ble_eq_true rfl) (Nat.le_of_ble_eq_true rfl) (Nat.zero_le _) (Nat.zero_le _) dX0_begin_21 ?_
  rw [mx_r (by omega)]
  refine b_put (own := RX0) (C := RX0) (T := TX0) (N := 5) (ci := 0) (v := .int (nI b)) hx hb hts usX0 tyX0 tyX0_ok nmX0 hown hK hP hD hS 2 (by decide) rfl rfl 3 (by decide) (hts _ gw_92) rfl rfl rfl (Nat.le_of_ble_eq_true rfl) dX0_begin_24 sT_h (fun H locs hP hD hS => ?_)
  refine lv_aload_n hx hb dX0_begin_27 rfl (lv_at hl 0 rfl) ?_
  refine lv_iconst (v := nI 0) hx hb dX0_begin_28 (by decide) ?_
  refine b_put (own := RX0) (C := RX0) (T := TX0) (N := 5) (ci := 0) (v := .int (nI 0)) hx hb hts usX0 tyX0 tyX0_ok nmX0 hown hK hP hD hS 2 (by decide) rfl rfl 4 (by decide) (hts _ gw_93) rfl rfl rfl (Nat.le_of_ble_eq_true rfl) dX0_begin_29 sT_d (fun H locs hP hD hS => ?_)
  refine lv_iconst (v := nI 0) hx hb dX0_begin_32 (by decide) ?_
  refine lv_istore_n (lv' := [(3, .int (nI 0)), (0, .ref (ad 2)), (1, .int (nI a)), (2, .int (nI b))]) hx hb dX0_begin_33 rfl hl (by decide) rfl (fun ls hl => ?_)
  have lp34 : ∀ (Q : State → Prop) (n i : Nat) (X : Nat → Nat → Int64) (H : Heap) (locs : List Loc) (ls : Array Slot), i + n = b → va_P D vc (wT cs ad (up1 (up1 (up1 I 2 a) 3 b) 4 0) AN AI X) H → va_D A (wT cs ad (up1 (up1 (up1 I 2 a) 3 b) 4 0) AN AI X) → va_S A s.heap H locs → lv_has ls 5 [(3, .int (nI i)), (0, .ref (ad 2)), (1, .int (nI a)), (2, .int (nI b))] → (∀ (H : Heap) (locs : List Loc) (ls : Array Slot), va_P D vc (wT cs ad (up1 (up1 (up1 I 2 a) 3 b) 4 0) AN AI (fo (fun i X => fo (fun j X => up2 X (i + 11) j 0) (a + 1) 0 X) n i X)) H → va_D A (wT cs ad (up1 (up1 (up1 I 2 a) 3 b) 4 0) AN AI (fo (fun i X => fo (fun j X => up2 X (i + 11) j 0) (a + 1) 0 X) n i X)) → va_S A s.heap H locs → lv_has ls 5 [(3, .int (nI b)), (0, .ref (ad 2)), (1, .int (nI a)), (2, .int (nI b))] → W p l e rmX0_begin s m args below meth c H locs 0 0 Q (F0 m 76 ls [])) → W p l e rmX0_begin s m args below meth c H locs 0 0 Q (F0 m 34 ls []) := by
    intro Q n
    induction n with
    | zero =>
      intro i X H locs ls hn hP hD hS hl kx
      have hi : i = b := by omega
      refine lv_iload_n hx hb dX0_begin_34 rfl (lv_at hl 0 rfl) ?_
      refine lv_aload_n hx hb dX0_begin_35 rfl (lv_at hl 1 rfl) ?_
      refine b_get (own := RX0) (C := RX0) (T := TX0) (N := 5) (ci := 0) (v := .int (nI b)) hx hb hts usX0 hown hK hP 2 (by decide) rfl rfl 3 (by decide) (hts _ gw_92) rfl dX0_begin_36 ?_
      refine b_ge_t (tgt := 76) hx hb dX0_begin_39 (by decide) (by show _ ≤ _; omega) (by omega) ?_
      rw [hi] at hl
      exact kx H locs ls hP hD hS (lv_sub hl [0, 1, 2, 3] rfl)
    | succ n ih =>
      intro i X H locs ls hn hP hD hS hl kx
      have hi : i < b := by omega
      refine lv_iload_n hx hb dX0_begin_34 rfl (lv_at hl 0 rfl) ?_
      refine lv_aload_n hx hb dX0_begin_35 rfl (lv_at hl 1 rfl) ?_
      refine b_get (own := RX0) (C := RX0) (T := TX0) (N := 5) (ci := 0) (v := .int (nI b)) hx hb hts usX0 hown hK hP 2 (by decide) rfl rfl 3 (by decide) (hts _ gw_92) rfl dX0_begin_36 ?_
      refine b_ge_f (tgt := 76) hx hb dX0_begin_39 (by decide) (by show _ < _; omega) (by omega) ?_
      refine lv_iconst (v := nI 0) hx hb dX0_begin_42 (by decide) ?_
      refine lv_istore (lv' := [(4, .int (nI 0)), (3, .int (nI i)), (0, .ref (ad 2)), (1, .int (nI a)), (2, .int (nI b))]) hx hb dX0_begin_43 hl (by decide) rfl (fun ls hl => ?_)
      have lp45 : ∀ (Q : State → Prop) (n j : Nat) (Y : Nat → Nat → Int64) (H : Heap) (locs : List Loc) (ls : Array Slot), j + n = a + 1 → va_P D vc (wT cs ad (up1 (up1 (up1 I 2 a) 3 b) 4 0) AN AI Y) H → va_D A (wT cs ad (up1 (up1 (up1 I 2 a) 3 b) 4 0) AN AI Y) → va_S A s.heap H locs → lv_has ls 5 [(4, .int (nI j)), (3, .int (nI i)), (0, .ref (ad 2)), (1, .int (nI a)), (2, .int (nI b))] → (∀ (H : Heap) (locs : List Loc) (ls : Array Slot), va_P D vc (wT cs ad (up1 (up1 (up1 I 2 a) 3 b) 4 0) AN AI (fo (fun j X => up2 X (i + 11) j 0) n j Y)) H → va_D A (wT cs ad (up1 (up1 (up1 I 2 a) 3 b) 4 0) AN AI (fo (fun j X => up2 X (i + 11) j 0) n j Y)) → va_S A s.heap H locs → lv_has ls 5 [(4, .int (nI (a + 1))), (3, .int (nI i)), (0, .ref (ad 2)), (1, .int (nI a)), (2, .int (nI b))] → W p l e rmX0_begin s m args below meth c H locs 0 0 Q (F0 m 70 ls [])) → W p l e rmX0_begin s m args below meth c H locs 0 0 Q (F0 m 45 ls []) := by
        intro Q n
        induction n with
        | zero =>
          intro j Y H locs ls hn hP hD hS hl kx
          have hi : j = a + 1 := by omega
          refine lv_iload hx hb dX0_begin_45 (lv_at hl 0 rfl) ?_
          refine lv_aload_n hx hb dX0_begin_47 rfl (lv_at hl 2 rfl) ?_
          refine b_get (own := RX0) (C := RX0) (T := TX0) (N := 5) (ci := 0) (v := .int (nI a)) hx hb hts usX0 hown hK hP 2 (by decide) rfl rfl 2 (by decide) (hts _ gw_91) rfl dX0_begin_48 ?_
          refine b_gt_t (tgt := 70) hx hb dX0_begin_51 (by decide) (by show _ < _; omega) (by omega) ?_
          rw [hi] at hl
          exact kx H locs ls hP hD hS (lv_sub hl [0, 1, 2, 3, 4] rfl)
        | succ n ih =>
          intro j Y H locs ls hn hP hD hS hl kx
          have hi : j < a + 1 := by omega
          refine lv_iload hx hb dX0_begin_45 (lv_at hl 0 rfl) ?_
          refine lv_aload_n hx hb dX0_begin_47 rfl (lv_at hl 2 rfl) ?_
          refine b_get (own := RX0) (C := RX0) (T := TX0) (N := 5) (ci := 0) (v := .int (nI a)) hx hb hts usX0 hown hK hP 2 (by decide) rfl rfl 2 (by decide) (hts _ gw_91) rfl dX0_begin_48 ?_
          refine b_gt_f (tgt := 70) hx hb dX0_begin_51 (by decide) (by show _ ≤ _; omega) (by omega) ?_
          refine lv_aload_n hx hb dX0_begin_54 rfl (lv_at hl 2 rfl) ?_
          refine b_get (own := RX0) (C := RX0) (T := TX0) (N := 5) (ci := 0) (v := .ref (ad 4)) hx hb hts usX0 hown hK hP 2 (by decide) rfl rfl 0 (by decide) (hts _ gw_88) rfl dX0_begin_55 ?_
          refine lv_iload_n hx hb dX0_begin_58 rfl (lv_at hl 1 rfl) ?_
          refine tE_r hx hb hK hP (by omega) dX0_begin_59 ?_
          refine lv_iload hx hb dX0_begin_60 (lv_at hl 0 rfl) ?_
          refine lv_lconst (v := 0) hx hb dX0_begin_62 (by decide) ?_
          refine tE_st (i := i) hx hb hK hP hD hS (by omega) (by omega) dX0_begin_63 (fun H locs hP hD hS => ?_)
          refine b_iinc (lv' := [(4, .int (nI (j + 1))), (3, .int (nI i)), (0, .ref (ad 2)), (1, .int (nI a)), (2, .int (nI b))]) hx hb dX0_begin_64 hl (k := 0) rfl (by decide) rfl (fun ls hl => ?_)
          refine lv_goto (tgt := 45) hx hb dX0_begin_67 (by decide) ?_
          exact ih (j + 1) _ H locs ls (by omega) hP hD hS (lv_sub hl [0, 1, 2, 3, 4] rfl) kx
      refine lp45 _ (a + 1) 0 X _ _ ls (by omega) hP hD hS (lv_sub hl [0, 1, 2, 3, 4] rfl) (fun H locs ls hP hD hS hl => ?_)
      refine b_iinc (lv' := [(3, .int (nI (i + 1))), (4, .int (nI (a + 1))), (0, .ref (ad 2)), (1, .int (nI a)), (2, .int (nI b))]) hx hb dX0_begin_70 hl (k := 1) rfl (by decide) rfl (fun ls hl => ?_)
      refine lv_goto (tgt := 34) hx hb dX0_begin_73 (by decide) ?_
      exact ih (i + 1) _ H locs ls (by omega) hP hD hS (lv_sub hl [0, 2, 3, 4] rfl) kx
  refine lp34 _ (b) 0 AL _ _ ls (by omega) hP hD hS (lv_sub hl [0, 1, 2, 3] rfl) (fun H locs ls hP hD hS hl => ?_)
  exact g_vret hx hb hr hlocks (up1 (up1 (up1 I 2 a) 3 b) 4 0, AN, AI, fo (fun i X => fo (fun j X => up2 X (i + 11) j 0) (a + 1) 0 X) (b) 0 AL) (rfl) hK hP hD hS dX0_begin_76

abbrev rmX0_firstRowWith : Room := { frames := 0, cells := 0, slots := 0, locals := 0 }
set_option maxHeartbeats 4000000 in
set_option maxRecDepth 100000 in
/-- firstRowWith -/
theorem ctX0_firstRowWith (l : Launch) (D : va_G) (cs : Nat → ClassId) (ad : Nat → Nat) (I : Nat → Nat) (AN : Nat → Nat → Nat) (AI : Nat → Nat → Int32) (AL : Nat → Nat → Int64) (sz : Nat) (q : Nat) (h3 : I 3 ≤ 7) (h43 : I 4 ≤ I 3) (hq : q < 5) : Met l yX0_firstRowWith (Cond.code yX0_firstRowWith cX0_firstRowWith 3 (some FieldType.int) :: GW) rmX0_firstRowWith (va_Pc [.ref (ad 2), .int (nI q)] (gP D cs (wT cs ad I AN AI AL) sz)) (va_Qi (fun (r : Int32) (u : TS) => u = (I, AN, AI, AL) ∧ r = enc (fnd (fun k => AL (k + 11) q ≠ 0) (I 3 - I 4) (I 4))) (gB D cs (va_A (wT cs ad I AN AI AL) sz) (wTs cs ad)) (va_A (wT cs ad I AN AI AL) sz)) 0 0 (va_A (wT cs ad I AN AI AL) sz) := by
  refine Met.ofW (cc := cX0_firstRowWith) (maxL := 3) (ret := (some FieldType.int)) (by decide) rfl ?_
  intro p e s m args below meth c s₁ B hml hv
  obtain ⟨rfl, hsz, hP, hK, hD0, hN⟩ := hv
  have hx := B.exec
  have hb := B.bytes
  have hr := B.returns
  have hts : ∀ w ∈ GW, w.before _ s = true := fun w h => atoms_spec (ws := Cond.code yX0_firstRowWith cX0_firstRowWith 3 (some FieldType.int) :: GW) B.pre w (List.mem_cons_of_mem _ h)
  have hown : s.vm.findClass RX0 = some m.cls := findClass_of_methodNamed B.named
  have hlocks := B.notSynchronized
  subst hsz
  have hD := hD0.self (sz := s.heap.size)
  generalize hAe : va_A (wT cs ad I AN AI AL) s.heap.size = A at hD ⊢
  have hA : ∀ q : Nat, s.heap.size ≤ q → A q := fun q h => by rw [← hAe]; exact Or.inr h
  have hS : va_S A s.heap s.heap [] := va_S.rf
  have hl := lv_entry [.ref (ad 2), .int (nI q)] (n := 3) (Nat.le_of_ble_eq_true rfl)
  rw [lg_entry_eq]
  generalize (lg_sl [.ref (ad 2), .int (nI q)] ++ List.replicate (3 - (lg_sl [.ref (ad 2), .int (nI q)]).length) Slot.unset).toArray = ls at hl ⊢
  have hl : lv_has ls 3 [(0, .ref (ad 2)), (1, .int (nI q))] := hl
  generalize hargs : ([.ref (ad 2), .int (nI q)] : List Value).toArray = args at *
  show W p l e rmX0_firstRowWith s m args below meth c s.heap [] 0 0 _ (F0 m 0 ls [])
  refine lv_aload_n hx hb dX0_firstRowWith_0 rfl (lv_at hl 0 rfl) ?_
  refine b_get (own := RX0) (C := RX0) (T := TX0) (N := 5) (ci := 0) (v := .int (nI (I 4))) hx hb hts usX0 hown hK hP 2 (by decide) rfl rfl 4 (by decide) (hts _ gw_93) rfl dX0_firstRowWith_1 ?_
  refine lv_istore_n (lv' := [(2, .int (nI (I 4))), (0, .ref (ad 2)), (1, .int (nI q))]) hx hb dX0_firstRowWith_4 rfl hl (by decide) rfl (fun ls hl => ?_)
  have lp5 : ∀ (n k : Nat) (H : Heap) (locs : List Loc) (ls : Array Slot), k + n = I 3 → va_P D vc (wT cs ad I AN AI AL) H → va_D A (wT cs ad I AN AI AL) → va_S A s.heap H locs → lv_has ls 3 [(2, .int (nI k)), (0, .ref (ad 2)), (1, .int (nI q))] → W p l e rmX0_firstRowWith s m args below meth c H locs 0 0 (MQ below (va_Qi (fun (r : Int32) (u : TS) => u = (I, AN, AI, AL) ∧ r = enc (fnd (fun k => AL (k + 11) q ≠ 0) n k)) (gB D cs A (wTs cs ad)) A) args s 0 0 A) (F0 m 5 ls []) := by
    intro n
    induction n with
    | zero =>
      intro k H locs ls hn hP hD hS hl
      have hi : k = I 3 := by omega
      refine lv_iload_n hx hb dX0_firstRowWith_5 rfl (lv_at hl 0 rfl) ?_
      refine lv_aload_n hx hb dX0_firstRowWith_6 rfl (lv_at hl 1 rfl) ?_
      refine b_get (own := RX0) (C := RX0) (T := TX0) (N := 5) (ci := 0) (v := .int (nI (I 3))) hx hb hts usX0 hown hK hP 2 (by decide) rfl rfl 3 (by decide) (hts _ gw_92) rfl dX0_firstRowWith_7 ?_
      refine b_ge_t (tgt := 34) hx hb dX0_firstRowWith_10 (by decide) (by omega) (by omega) ?_
      refine lv_iconst (v := -1) hx hb dX0_firstRowWith_34 (by decide) ?_
      exact g_iret hx hb hr hlocks (I, AN, AI, AL) (⟨rfl, rfl⟩) hK hP hD hS dX0_firstRowWith_35
    | succ n ih =>
      intro k H locs ls hn hP hD hS hl
      have hi : k < I 3 := by omega
      refine lv_iload_n hx hb dX0_firstRowWith_5 rfl (lv_at hl 0 rfl) ?_
      refine lv_aload_n hx hb dX0_firstRowWith_6 rfl (lv_at hl 1 rfl) ?_
      refine b_get (own := RX0) (C := RX0) (T := TX0) (N := 5) (ci := 0) (v := .int (nI (I 3))) hx hb hts usX0 hown hK hP 2 (by decide) rfl rfl 3 (by decide) (hts _ gw_92) rfl dX0_firstRowWith_7 ?_
      refine b_ge_f (tgt := 34) hx hb dX0_firstRowWith_10 (by decide) (by omega) (by omega) ?_
      refine lv_aload_n hx hb dX0_firstRowWith_13 rfl (lv_at hl 1 rfl) ?_
      refine b_get (own := RX0) (C := RX0) (T := TX0) (N := 5) (ci := 0) (v := .ref (ad 4)) hx hb hts usX0 hown hK hP 2 (by decide) rfl rfl 0 (by decide) (hts _ gw_88) rfl dX0_firstRowWith_14 ?_
      refine lv_iload_n hx hb dX0_firstRowWith_17 rfl (lv_at hl 0 rfl) ?_
      refine tE_r hx hb hK hP (by omega) dX0_firstRowWith_18 ?_
      refine lv_iload_n hx hb dX0_firstRowWith_19 rfl (lv_at hl 2 rfl) ?_
      refine tE_ld (i := k) hx hb hK hP (by omega) (by omega) dX0_firstRowWith_20 ?_
      refine lv_lconst (v := 0) hx hb dX0_firstRowWith_21 (by decide) ?_
      refine b_lceq (tgt := 28) hx hb dX0_firstRowWith_22 dX0_firstRowWith_23 (by decide) (fun h => ?_) (fun h => ?_)
      · refine b_iinc (lv' := [(2, .int (nI (k + 1))), (0, .ref (ad 2)), (1, .int (nI q))]) hx hb dX0_firstRowWith_28 hl (k := 0) rfl (by decide) rfl (fun ls hl => ?_)
        refine lv_goto (tgt := 5) hx hb dX0_firstRowWith_31 (by decide) ?_
        rw [fnd_f (f := fun k => AL (k + 11) q ≠ 0) (fun q => q h)]
        exact ih (k + 1) H locs ls (by omega) hP hD hS (lv_sub hl [0, 1, 2] rfl)
      · refine lv_iload_n hx hb dX0_firstRowWith_26 rfl (lv_at hl 0 rfl) ?_
        exact g_iret hx hb hr hlocks (I, AN, AI, AL) (⟨rfl, by rw [fnd_t (f := fun k => AL (k + 11) q ≠ 0) h]; rfl⟩) hK hP hD hS dX0_firstRowWith_27
  exact lp5 ((I 3) - (I 4)) (I 4) _ _ ls (by omega) hP hD hS (lv_sub hl [0, 1, 2] rfl)

abbrev rmX0_exchange : Room := { frames := 0, cells := 0, slots := 0, locals := 0 }
set_option maxHeartbeats 4000000 in
set_option maxRecDepth 100000 in
/-- exchange -/
theorem ctX0_exchange (l : Launch) (D : va_G) (cs : Nat → ClassId) (ad : Nat → Nat) (I : Nat → Nat) (AN : Nat → Nat → Nat) (AI : Nat → Nat → Int32) (AL : Nat → Nat → Int64) (sz : Nat) (a b : Nat) (h2 : I 2 ≤ 4) (ha : a < 7) (hb7 : b < 7) : Met l yX0_exchange (Cond.code yX0_exchange cX0_exchange 6 none :: GW) rmX0_exchange (va_Pc [.ref (ad 2), .int (nI a), .int (nI b)] (gP D cs (wT cs ad I AN AI AL) sz)) (va_Qv (fun u : TS => u = (I, AN, AI, fo (fun j X => up2 (up2 X (a + 11) j (X (b + 11) j)) (b + 11) j (X (a + 11) j)) (I 2 + 1) 0 AL)) (gB D cs (va_A (wT cs ad I AN AI AL) sz) (wTs cs ad)) (va_A (wT cs ad I AN AI AL) sz)) 0 0 (va_A (wT cs ad I AN AI AL) sz) := by
  refine Met.ofW (cc := cX0_exchange) (maxL := 6) (ret := none) (by decide) rfl ?_
  intro p e s m args below meth c s₁ B hml hv
  obtain ⟨rfl, hsz, hP, hK, hD0, hN⟩ := hv
  have hx := B.exec
  have hb := B.bytes
  have hr := B.returns
  have hts : ∀ w ∈ GW, w.before _ s = true := fun w h => atoms_spec (ws := Cond.code yX0_exchange cX0_exchange 6 none :: GW) B.pre w (List.mem_cons_of_mem _ h)
  have hown : s.vm.findClass RX0 = some m.cls := findClass_of_methodNamed B.named
  have hlocks := B.notSynchronized
  subst hsz
  have hD := hD0.self (sz := s.heap.size)
  generalize hAe : va_A (wT cs ad I AN AI AL) s.heap.size = A at hD ⊢
  have hA : ∀ q : Nat, s.heap.size ≤ q → A q := fun q h => by rw [← hAe]; exact Or.inr h
  have hS : va_S A s.heap s.heap [] := va_S.rf
  have hl := lv_entry [.ref (ad 2), .int (nI a), .int (nI b)] (n := 6) (Nat.le_of_ble_eq_true rfl)
  rw [lg_entry_eq]
  generalize (lg_sl [.ref (ad 2), .int (nI a), .int (nI b)] ++ List.replicate (6 - (lg_sl [.ref (ad 2), .int (nI a), .int (nI b)]).length) Slot.unset).toArray = ls at hl ⊢
  have hl : lv_has ls 6 [(0, .ref (ad 2)), (1, .int (nI a)), (2, .int (nI b))] := hl
  generalize hargs : ([.ref (ad 2), .int (nI a), .int (nI b)] : List Value).toArray = args at *
  show W p l e rmX0_exchange s m args below meth c s.heap [] 0 0 _ (F0 m 0 ls [])
  refine lv_iconst (v := nI 0) hx hb dX0_exchange_0 (by decide) ?_
  refine lv_istore_n (lv' := [(3, .int (nI 0)), (0, .ref (ad 2)), (1, .int (nI a)), (2, .int (nI b))]) hx hb dX0_exchange_1 rfl hl (by decide) rfl (fun ls hl => ?_)
  have lp2 : ∀ (Q : State → Prop) (n j : Nat) (X : Nat → Nat → Int64) (H : Heap) (locs : List Loc) (ls : Array Slot), j + n = I 2 + 1 → va_P D vc (wT cs ad I AN AI X) H → va_D A (wT cs ad I AN AI X) → va_S A s.heap H locs → lv_has ls 6 [(3, .int (nI j)), (0, .ref (ad 2)), (1, .int (nI a)), (2, .int (nI b))] → (∀ (H : Heap) (locs : List Loc) (ls : Array Slot), va_P D vc (wT cs ad I AN AI (fo (fun j X => up2 (up2 X (a + 11) j (X (b + 11) j)) (b + 11) j (X (a + 11) j)) n j X)) H → va_D A (wT cs ad I AN AI (fo (fun j X => up2 (up2 X (a + 11) j (X (b + 11) j)) (b + 11) j (X (a + 11) j)) n j X)) → va_S A s.heap H locs → lv_has ls 6 [(3, .int (nI (I 2 + 1))), (0, .ref (ad 2)), (1, .int (nI a)), (2, .int (nI b))] → W p l e rmX0_exchange s m args below meth c H locs 0 0 Q (F0 m 52 ls [])) → W p l e rmX0_exchange s m args below meth c H locs 0 0 Q (F0 m 2 ls []) := by
    intro Q n
    induction n with
    | zero =>
      intro j X H locs ls hn hP hD hS hl kx
      have hi : j = I 2 + 1 := by omega
      refine lv_iload_n hx hb dX0_exchange_2 rfl (lv_at hl 0 rfl) ?_
      refine lv_aload_n hx hb dX0_exchange_3 rfl (lv_at hl 1 rfl) ?_
      refine b_get (own := RX0) (C := RX0) (T := TX0) (N := 5) (ci := 0) (v := .int (nI (I 2))) hx hb hts usX0 hown hK hP 2 (by decide) rfl rfl 2 (by decide) (hts _ gw_91) rfl dX0_exchange_4 ?_
      refine b_gt_t (tgt := 52) hx hb dX0_exchange_7 (by decide) (by omega) (by omega) ?_
      rw [hi] at hl
      exact kx H locs ls hP hD hS (lv_sub hl [0, 1, 2, 3] rfl)
    | succ n ih =>
      intro j X H locs ls hn hP hD hS hl kx
      have hi : j < I 2 + 1 := by omega
      refine lv_iload_n hx hb dX0_exchange_2 rfl (lv_at hl 0 rfl) ?_
      refine lv_aload_n hx hb dX0_exchange_3 rfl (lv_at hl 1 rfl) ?_
      refine b_get (own := RX0) (C := RX0) (T := TX0) (N := 5) (ci := 0) (v := .int (nI (I 2))) hx hb hts usX0 hown hK hP 2 (by decide) rfl rfl 2 (by decide) (hts _ gw_91) rfl dX0_exchange_4 ?_
      refine b_gt_f (tgt := 52) hx hb dX0_exchange_7 (by decide) (by omega) (by omega) ?_
      refine lv_aload_n hx hb dX0_exchange_10 rfl (lv_at hl 1 rfl) ?_
      refine b_get (own := RX0) (C := RX0) (T := TX0) (N := 5) (ci := 0) (v := .ref (ad 4)) hx hb hts usX0 hown hK hP 2 (by decide) rfl rfl 0 (by decide) (hts _ gw_88) rfl dX0_exchange_11 ?_
      refine lv_iload_n hx hb dX0_exchange_14 rfl (lv_at hl 2 rfl) ?_
      refine tE_r hx hb hK hP (by omega) dX0_exchange_15 ?_
      refine lv_iload_n hx hb dX0_exchange_16 rfl (lv_at hl 0 rfl) ?_
      refine tE_ld (i := a) hx hb hK hP (by omega) (by omega) dX0_exchange_17 ?_
      refine lv_lstore (lv' := [(4, .long (X (a + 11) j)), (3, .int (nI j)), (0, .ref (ad 2)), (1, .int (nI a)), (2, .int (nI b))]) hx hb dX0_exchange_18 hl (by decide) rfl (fun ls hl => ?_)
      refine lv_aload_n hx hb dX0_exchange_20 rfl (lv_at hl 2 rfl) ?_
      refine b_get (own := RX0) (C := RX0) (T := TX0) (N := 5) (ci := 0) (v := .ref (ad 4)) hx hb hts usX0 hown hK hP 2 (by decide) rfl rfl 0 (by decide) (hts _ gw_88) rfl dX0_exchange_21 ?_
      refine lv_iload_n hx hb dX0_exchange_24 rfl (lv_at hl 3 rfl) ?_
      refine tE_r hx hb hK hP (by omega) dX0_exchange_25 ?_
      refine lv_iload_n hx hb dX0_exchange_26 rfl (lv_at hl 1 rfl) ?_
      refine lv_aload_n hx hb dX0_exchange_27 rfl (lv_at hl 2 rfl) ?_
      refine b_get (own := RX0) (C := RX0) (T := TX0) (N := 5) (ci := 0) (v := .ref (ad 4)) hx hb hts usX0 hown hK hP 2 (by decide) rfl rfl 0 (by decide) (hts _ gw_88) rfl dX0_exchange_28 ?_
      refine lv_iload_n hx hb dX0_exchange_31 rfl (lv_at hl 4 rfl) ?_
      refine tE_r hx hb hK hP (by omega) dX0_exchange_32 ?_
      refine lv_iload_n hx hb dX0_exchange_33 rfl (lv_at hl 1 rfl) ?_
      refine tE_ld (i := b) hx hb hK hP (by omega) (by omega) dX0_exchange_34 ?_
      refine tE_st (i := a) hx hb hK hP hD hS (by omega) (by omega) dX0_exchange_35 (fun H locs hP hD hS => ?_)
      refine lv_aload_n hx hb dX0_exchange_36 rfl (lv_at hl 2 rfl) ?_
      refine b_get (own := RX0) (C := RX0) (T := TX0) (N := 5) (ci := 0) (v := .ref (ad 4)) hx hb hts usX0 hown hK hP 2 (by decide) rfl rfl 0 (by decide) (hts _ gw_88) rfl dX0_exchange_37 ?_
      refine lv_iload_n hx hb dX0_exchange_40 rfl (lv_at hl 4 rfl) ?_
      refine tE_r hx hb hK hP (by omega) dX0_exchange_41 ?_
      refine lv_iload_n hx hb dX0_exchange_42 rfl (lv_at hl 1 rfl) ?_
      refine lv_lload hx hb dX0_exchange_43 (lv_at hl 0 rfl) ?_
      refine tE_st (i := b) hx hb hK hP hD hS (by omega) (by omega) dX0_exchange_45 (fun H locs hP hD hS => ?_)
      refine b_iinc (lv' := [(3, .int (nI (j + 1))), (4, .long (X (a + 11) j)), (0, .ref (ad 2)), (1, .int (nI a)), (2, .int (nI b))]) hx hb dX0_exchange_46 hl (k := 1) rfl (by decide) rfl (fun ls hl => ?_)
      refine lv_goto (tgt := 2) hx hb dX0_exchange_49 (by decide) ?_
      exact ih (j + 1) _ H locs ls (by omega) hP hD hS (lv_sub hl [0, 2, 3, 4] rfl) kx
  refine lp2 _ (I 2 + 1) 0 AL _ _ ls (by omega) hP hD hS (lv_sub hl [0, 1, 2, 3] rfl) (fun H locs ls hP hD hS hl => ?_)
  exact g_vret hx hb hr hlocks (I, AN, AI, fo (fun j X => up2 (up2 X (a + 11) j (X (b + 11) j)) (b + 11) j (X (a + 11) j)) (I 2 + 1) 0 AL) (rfl) hK hP hD hS dX0_exchange_52

abbrev rmX0_makeAboveZero : Room := { frames := 0, cells := 0, slots := 0, locals := 0 }
set_option maxHeartbeats 4000000 in
set_option maxRecDepth 100000 in
/-- makeAboveZero -/
theorem ctX0_makeAboveZero (l : Launch) (D : va_G) (cs : Nat → ClassId) (ad : Nat → Nat) (I : Nat → Nat) (AN : Nat → Nat → Nat) (AI : Nat → Nat → Int32) (AL : Nat → Nat → Int64) (sz : Nat) (a q : Nat) (h2 : I 2 ≤ 4) (ha : a < 7) (hq : q < 5) : Met l yX0_makeAboveZero (Cond.code yX0_makeAboveZero cX0_makeAboveZero 4 none :: GW) rmX0_makeAboveZero (va_Pc [.ref (ad 2), .int (nI a), .int (nI q)] (gP D cs (wT cs ad I AN AI AL) sz)) (va_Qv (fun u : TS => u = (I, AN, AI, if AL (a + 11) q < 0 then fo (fun j X => up2 X (a + 11) j (-X (a + 11) j)) (I 2 + 1) 0 AL else AL)) (gB D cs (va_A (wT cs ad I AN AI AL) sz) (wTs cs ad)) (va_A (wT cs ad I AN AI AL) sz)) 0 0 (va_A (wT cs ad I AN AI AL) sz) := by
  refine Met.ofW (cc := cX0_makeAboveZero) (maxL := 4) (ret := none) (by decide) rfl ?_
  intro p e s m args below meth c s₁ B hml hv
  obtain ⟨rfl, hsz, hP, hK, hD0, hN⟩ := hv
  have hx := B.exec
  have hb := B.bytes
  have hr := B.returns
  have hts : ∀ w ∈ GW, w.before _ s = true := fun w h => atoms_spec (ws := Cond.code yX0_makeAboveZero cX0_makeAboveZero 4 none :: GW) B.pre w (List.mem_cons_of_mem _ h)
  have hown : s.vm.findClass RX0 = some m.cls := findClass_of_methodNamed B.named
  have hlocks := B.notSynchronized
  subst hsz
  have hD := hD0.self (sz := s.heap.size)
  generalize hAe : va_A (wT cs ad I AN AI AL) s.heap.size = A at hD ⊢
  have hA : ∀ q : Nat, s.heap.size ≤ q → A q := fun q h => by rw [← hAe]; exact Or.inr h
  have hS : va_S A s.heap s.heap [] := va_S.rf
  have hl := lv_entry [.ref (ad 2), .int (nI a), .int (nI q)] (n := 4) (Nat.le_of_ble_eq_true rfl)
  rw [lg_entry_eq]
  generalize (lg_sl [.ref (ad 2), .int (nI a), .int (nI q)] ++ List.replicate (4 - (lg_sl [.ref (ad 2), .int (nI a), .int (nI q)]).length) Slot.unset).toArray = ls at hl ⊢
  have hl : lv_has ls 4 [(0, .ref (ad 2)), (1, .int (nI a)), (2, .int (nI q))] := hl
  generalize hargs : ([.ref (ad 2), .int (nI a), .int (nI q)] : List Value).toArray = args at *
  show W p l e rmX0_makeAboveZero s m args below meth c s.heap [] 0 0 _ (F0 m 0 ls [])
  refine lv_aload_n hx hb dX0_makeAboveZero_0 rfl (lv_at hl 0 rfl) ?_
  refine b_get (own := RX0) (C := RX0) (T := TX0) (N := 5) (ci := 0) (v := .ref (ad 4)) hx hb hts usX0 hown hK hP 2 (by decide) rfl rfl 0 (by decide) (hts _ gw_88) rfl dX0_makeAboveZero_1 ?_
  refine lv_iload_n hx hb dX0_makeAboveZero_4 rfl (lv_at hl 1 rfl) ?_
  refine tE_r hx hb hK hP (by omega) dX0_makeAboveZero_5 ?_
  refine lv_iload_n hx hb dX0_makeAboveZero_6 rfl (lv_at hl 2 rfl) ?_
  refine tE_ld (i := a) hx hb hK hP (by omega) (by omega) dX0_makeAboveZero_7 ?_
  refine lv_lconst (v := 0) hx hb dX0_makeAboveZero_8 (by decide) ?_
  refine b_lcge (tgt := 46) hx hb dX0_makeAboveZero_9 dX0_makeAboveZero_10 (by decide) (fun h => ?_) (fun h => ?_)
  · exact g_vret hx hb hr hlocks (I, AN, AI, AL) (by rw [if_neg h]) hK hP hD hS dX0_makeAboveZero_46
  · refine lv_iconst (v := nI 0) hx hb dX0_makeAboveZero_13 (by decide) ?_
    refine lv_istore_n (lv' := [(3, .int (nI 0)), (0, .ref (ad 2)), (1, .int (nI a)), (2, .int (nI q))]) hx hb dX0_makeAboveZero_14 rfl hl (by decide) rfl (fun ls hl => ?_)
    have lp15 : ∀ (Q : State → Prop) (n j : Nat) (X : Nat → Nat → Int64) (H : Heap) (locs : List Loc) (ls : Array Slot), j + n = I 2 + 1 → va_P D vc (wT cs ad I AN AI X) H → va_D A (wT cs ad I AN AI X) → va_S A s.heap H locs → lv_has ls 4 [(3, .int (nI j)), (0, .ref (ad 2)), (1, .int (nI a)), (2, .int (nI q))] → (∀ (H : Heap) (locs : List Loc) (ls : Array Slot), va_P D vc (wT cs ad I AN AI (fo (fun j X => up2 X (a + 11) j (-X (a + 11) j)) n j X)) H → va_D A (wT cs ad I AN AI (fo (fun j X => up2 X (a + 11) j (-X (a + 11) j)) n j X)) → va_S A s.heap H locs → lv_has ls 4 [(3, .int (nI (I 2 + 1))), (0, .ref (ad 2)), (1, .int (nI a)), (2, .int (nI q))] → W p l e rmX0_makeAboveZero s m args below meth c H locs 0 0 Q (F0 m 46 ls [])) → W p l e rmX0_makeAboveZero s m args below meth c H locs 0 0 Q (F0 m 15 ls []) := by
      intro Q n
      induction n with
      | zero =>
        intro j X H locs ls hn hP hD hS hl kx
        have hi : j = I 2 + 1 := by omega
        refine lv_iload_n hx hb dX0_makeAboveZero_15 rfl (lv_at hl 0 rfl) ?_
        refine lv_aload_n hx hb dX0_makeAboveZero_16 rfl (lv_at hl 1 rfl) ?_
        refine b_get (own := RX0) (C := RX0) (T := TX0) (N := 5) (ci := 0) (v := .int (nI (I 2))) hx hb hts usX0 hown hK hP 2 (by decide) rfl rfl 2 (by decide) (hts _ gw_91) rfl dX0_makeAboveZero_17 ?_
        refine b_gt_t (tgt := 46) hx hb dX0_makeAboveZero_20 (by decide) (by omega) (by omega) ?_
        rw [hi] at hl
        exact kx H locs ls hP hD hS (lv_sub hl [0, 1, 2, 3] rfl)
      | succ n ih =>
        intro j X H locs ls hn hP hD hS hl kx
        have hi : j < I 2 + 1 := by omega
        refine lv_iload_n hx hb dX0_makeAboveZero_15 rfl (lv_at hl 0 rfl) ?_
        refine lv_aload_n hx hb dX0_makeAboveZero_16 rfl (lv_at hl 1 rfl) ?_
        refine b_get (own := RX0) (C := RX0) (T := TX0) (N := 5) (ci := 0) (v := .int (nI (I 2))) hx hb hts usX0 hown hK hP 2 (by decide) rfl rfl 2 (by decide) (hts _ gw_91) rfl dX0_makeAboveZero_17 ?_
        refine b_gt_f (tgt := 46) hx hb dX0_makeAboveZero_20 (by decide) (by omega) (by omega) ?_
        refine lv_aload_n hx hb dX0_makeAboveZero_23 rfl (lv_at hl 1 rfl) ?_
        refine b_get (own := RX0) (C := RX0) (T := TX0) (N := 5) (ci := 0) (v := .ref (ad 4)) hx hb hts usX0 hown hK hP 2 (by decide) rfl rfl 0 (by decide) (hts _ gw_88) rfl dX0_makeAboveZero_24 ?_
        refine lv_iload_n hx hb dX0_makeAboveZero_27 rfl (lv_at hl 2 rfl) ?_
        refine tE_r hx hb hK hP (by omega) dX0_makeAboveZero_28 ?_
        refine lv_iload_n hx hb dX0_makeAboveZero_29 rfl (lv_at hl 0 rfl) ?_
        refine lv_aload_n hx hb dX0_makeAboveZero_30 rfl (lv_at hl 1 rfl) ?_
        refine b_get (own := RX0) (C := RX0) (T := TX0) (N := 5) (ci := 0) (v := .ref (ad 4)) hx hb hts usX0 hown hK hP 2 (by decide) rfl rfl 0 (by decide) (hts _ gw_88) rfl dX0_makeAboveZero_31 ?_
        refine lv_iload_n hx hb dX0_makeAboveZero_34 rfl (lv_at hl 2 rfl) ?_
        refine tE_r hx hb hK hP (by omega) dX0_makeAboveZero_35 ?_
        refine lv_iload_n hx hb dX0_makeAboveZero_36 rfl (lv_at hl 0 rfl) ?_
        refine tE_ld (i := a) hx hb hK hP (by omega) (by omega) dX0_makeAboveZero_37 ?_
        refine lv_lneg hx hb dX0_makeAboveZero_38 ?_
        refine tE_st (i := a) hx hb hK hP hD hS (by omega) (by omega) dX0_makeAboveZero_39 (fun H locs hP hD hS => ?_)
        refine b_iinc (lv' := [(3, .int (nI (j + 1))), (0, .ref (ad 2)), (1, .int (nI a)), (2, .int (nI q))]) hx hb dX0_makeAboveZero_40 hl (k := 0) rfl (by decide) rfl (fun ls hl => ?_)
        refine lv_goto (tgt := 15) hx hb dX0_makeAboveZero_43 (by decide) ?_
        exact ih (j + 1) _ H locs ls (by omega) hP hD hS (lv_sub hl [0, 1, 2, 3] rfl) kx
    refine lp15 _ (I 2 + 1) 0 AL _ _ ls (by omega) hP hD hS (lv_sub hl [0, 1, 2, 3] rfl) (fun H locs ls hP hD hS hl => ?_)
    exact g_vret hx hb hr hlocks (I, AN, AI, fo (fun j X => up2 X (a + 11) j (-X (a + 11) j)) (I 2 + 1) 0 AL) (by rw [if_pos h]) hK hP hD hS dX0_makeAboveZero_46

/-- the row's shared divisor, and the row without it -/
def shr (AL : Nat → Nat → Int64) (w a : Nat) : Int64 := fo (fun j z => cd64 z (AL (a + 11) j)) (w + 1) 0 0
def dvs (AL : Nat → Nat → Int64) (w a : Nat) : Nat → Nat → Int64 := if 1 < shr AL w a then fo (fun j X => up2 X (a + 11) j (X (a + 11) j / shr AL w a)) (w + 1) 0 AL else AL

abbrev rmX0_divideByShared : Room := { frames := 2, cells := 0, slots := 0, locals := 51 }
set_option maxHeartbeats 4000000 in
set_option maxRecDepth 100000 in
/-- divideByShared -/
theorem ctX0_divideByShared (l : Launch) (D : va_G) (cs : Nat → ClassId) (ad : Nat → Nat) (I : Nat → Nat) (AN : Nat → Nat → Nat) (AI : Nat → Nat → Int32) (AL : Nat → Nat → Int64) (sz : Nat) (a : Nat) (h2 : I 2 ≤ 4) (ha : a < 7) : Met l yX0_divideByShared (Cond.code yX0_divideByShared cX0_divideByShared 5 none :: GW) rmX0_divideByShared (va_Pc [.ref (ad 2), .int (nI a)] (gP D cs (wT cs ad I AN AI AL) sz)) (va_Qv (fun u : TS => u = (I, AN, AI, dvs AL (I 2) a)) (gB D cs (va_A (wT cs ad I AN AI AL) sz) (wTs cs ad)) (va_A (wT cs ad I AN AI AL) sz)) 0 0 (va_A (wT cs ad I AN AI AL) sz) := by
  refine Met.ofW (cc := cX0_divideByShared) (maxL := 5) (ret := none) (by decide) rfl ?_
  intro p e s m args below meth c s₁ B hml hv
  obtain ⟨rfl, hsz, hP, hK, hD0, hN⟩ := hv
  have hx := B.exec
  have hb := B.bytes
  have hr := B.returns
  have hts : ∀ w ∈ GW, w.before _ s = true := fun w h => atoms_spec (ws := Cond.code yX0_divideByShared cX0_divideByShared 5 none :: GW) B.pre w (List.mem_cons_of_mem _ h)
  have hown : s.vm.findClass RX0 = some m.cls := findClass_of_methodNamed B.named
  have hlocks := B.notSynchronized
  subst hsz
  have hD := hD0.self (sz := s.heap.size)
  generalize hAe : va_A (wT cs ad I AN AI AL) s.heap.size = A at hD ⊢
  have hA : ∀ q : Nat, s.heap.size ≤ q → A q := fun q h => by rw [← hAe]; exact Or.inr h
  have hS : va_S A s.heap s.heap [] := va_S.rf
  have hl := lv_entry [.ref (ad 2), .int (nI a)] (n := 5) (Nat.le_of_ble_eq_true rfl)
  rw [lg_entry_eq]
  generalize (lg_sl [.ref (ad 2), .int (nI a)] ++ List.replicate (5 - (lg_sl [.ref (ad 2), .int (nI a)]).length) Slot.unset).toArray = ls at hl ⊢
  have hl : lv_has ls 5 [(0, .ref (ad 2)), (1, .int (nI a))] := hl
  generalize hargs : ([.ref (ad 2), .int (nI a)] : List Value).toArray = args at *
  show W p l e rmX0_divideByShared s m args below meth c s.heap [] 0 0 _ (F0 m 0 ls [])
  refine lv_lconst (v := 0) hx hb dX0_divideByShared_0 (by decide) ?_
  refine lv_lstore_n (lv' := [(2, .long 0), (0, .ref (ad 2)), (1, .int (nI a))]) hx hb dX0_divideByShared_1 rfl hl (by decide) rfl (fun ls hl => ?_)
  refine lv_iconst (v := nI 0) hx hb dX0_divideByShared_2 (by decide) ?_
  refine lv_istore (lv' := [(4, .int (nI 0)), (2, .long 0), (0, .ref (ad 2)), (1, .int (nI a))]) hx hb dX0_divideByShared_3 hl (by decide) rfl (fun ls hl => ?_)
  have lp5 : ∀ (Q : State → Prop) (n j : Nat) (z : Int64) (H : Heap) (locs : List Loc) (ls : Array Slot), j + n = I 2 + 1 → va_P D vc (wT cs ad I AN AI AL) H → va_D A (wT cs ad I AN AI AL) → va_S A s.heap H locs → lv_has ls 5 [(4, .int (nI j)), (2, .long z), (0, .ref (ad 2)), (1, .int (nI a))] → (∀ (H : Heap) (locs : List Loc) (ls : Array Slot), va_P D vc (wT cs ad I AN AI AL) H → va_D A (wT cs ad I AN AI AL) → va_S A s.heap H locs → lv_has ls 5 [(4, .int (nI (I 2 + 1))), (2, .long (fo (fun j z => cd64 z (AL (a + 11) j)) n j z)), (0, .ref (ad 2)), (1, .int (nI a))] → W p l e rmX0_divideByShared s m args below meth c H locs 0 0 Q (F0 m 34 ls [])) → W p l e rmX0_divideByShared s m args below meth c H locs 0 0 Q (F0 m 5 ls []) := by
    intro Q n
    induction n with
    | zero =>
      intro j z H locs ls hn hP hD hS hl kx
      have hi : j = I 2 + 1 := by omega
      refine lv_iload hx hb dX0_divideByShared_5 (lv_at hl 0 rfl) ?_
      refine lv_aload_n hx hb dX0_divideByShared_7 rfl (lv_at hl 2 rfl) ?_
      refine b_get (own := RX0) (C := RX0) (T := TX0) (N := 5) (ci := 0) (v := .int (nI (I 2))) hx hb hts usX0 hown hK hP 2 (by decide) rfl rfl 2 (by decide) (hts _ gw_91) rfl dX0_divideByShared_8 ?_
      refine b_gt_t (tgt := 34) hx hb dX0_divideByShared_11 (by decide) (by omega) (by omega) ?_
      rw [hi] at hl
      exact kx H locs ls hP hD hS (lv_sub hl [0, 1, 2, 3] rfl)
    | succ n ih =>
      intro j z H locs ls hn hP hD hS hl kx
      have hi : j < I 2 + 1 := by omega
      refine lv_iload hx hb dX0_divideByShared_5 (lv_at hl 0 rfl) ?_
      refine lv_aload_n hx hb dX0_divideByShared_7 rfl (lv_at hl 2 rfl) ?_
      refine b_get (own := RX0) (C := RX0) (T := TX0) (N := 5) (ci := 0) (v := .int (nI (I 2))) hx hb hts usX0 hown hK hP 2 (by decide) rfl rfl 2 (by decide) (hts _ gw_91) rfl dX0_divideByShared_8 ?_
      refine b_gt_f (tgt := 34) hx hb dX0_divideByShared_11 (by decide) (by omega) (by omega) ?_
      refine lv_lload_n hx hb dX0_divideByShared_14 rfl (lv_at hl 1 rfl) ?_
      refine lv_aload_n hx hb dX0_divideByShared_15 rfl (lv_at hl 2 rfl) ?_
      refine b_get (own := RX0) (C := RX0) (T := TX0) (N := 5) (ci := 0) (v := .ref (ad 4)) hx hb hts usX0 hown hK hP 2 (by decide) rfl rfl 0 (by decide) (hts _ gw_88) rfl dX0_divideByShared_16 ?_
      refine lv_iload_n hx hb dX0_divideByShared_19 rfl (lv_at hl 3 rfl) ?_
      refine tE_r hx hb hK hP (by omega) dX0_divideByShared_20 ?_
      refine lv_iload hx hb dX0_divideByShared_21 (lv_at hl 0 rfl) ?_
      refine tE_ld (i := a) hx hb hK hP (by omega) (by omega) dX0_divideByShared_23 ?_
      refine g_calll (va_runSN (As := [.long z, .long (AL (a + 11) j)]) (rest := []) ⟨hx, hb, hml, hown, hts⟩ (ctX2_commonDivisor l D cs ad I AN AI AL _ z (AL (a + 11) j)) ⟨va_cnB 2 hts (gi_C gw_186) rfl rfl rfl (hN _ (by decide +kernel) : va_Nw (Cond.methodLinkNest "TriangularSystems$Elimination" 57 ⟨"TriangularSystems", "commonDivisor", "(JJ)J"⟩ "TriangularSystems") s) (hts _ gw_53) (by decide +kernel) ⟨Nat.le_of_ble_eq_true rfl, Nat.le_of_ble_eq_true rfl⟩, hts _ gw_185, trivial⟩ ⟨g_blind, g_pre hP hK hD hN⟩ rfl rfl hl.1 rfl (lv_room (Nat.le_of_ble_eq_true rfl)) dX0_divideByShared_24 ⟨Nat.zero_le _, Nat.zero_le _⟩) hD hS hA (fun r u H locs hw hP hD hS => ?_)
      obtain ⟨rfl, rfl⟩ := hw
      have hP : va_P D vc (wT cs ad I AN AI AL) H := hP
      have hD : va_D A (wT cs ad I AN AI AL) := hD
      refine lv_lstore_n (lv' := [(2, .long (cd64 z (AL (a + 11) j))), (4, .int (nI j)), (0, .ref (ad 2)), (1, .int (nI a))]) hx hb dX0_divideByShared_27 rfl hl (by decide) rfl (fun ls hl => ?_)
      refine b_iinc (lv' := [(4, .int (nI (j + 1))), (2, .long (cd64 z (AL (a + 11) j))), (0, .ref (ad 2)), (1, .int (nI a))]) hx hb dX0_divideByShared_28 hl (k := 1) rfl (by decide) rfl (fun ls hl => ?_)
      refine lv_goto (tgt := 5) hx hb dX0_divideByShared_31 (by decide) ?_
      exact ih (j + 1) _ H locs ls (by omega) hP hD hS (lv_sub hl [0, 1, 2, 3] rfl) kx
  refine lp5 _ (I 2 + 1) 0 0 _ _ ls (by omega) hP hD hS (lv_sub hl [0, 1, 2, 3] rfl) (fun H locs ls hP hD hS hl => ?_)
  generalize hsh : fo (fun j z => cd64 z (AL (a + 11) j)) (I 2 + 1) 0 0 = sh at hl
  refine lv_lload_n hx hb dX0_divideByShared_34 rfl (lv_at hl 1 rfl) ?_
  refine lv_lconst (v := 1) hx hb dX0_divideByShared_35 (by decide) ?_
  refine b_lcle (tgt := 71) hx hb dX0_divideByShared_36 dX0_divideByShared_37 (by decide) (fun h => ?_) (fun h => ?_)
  · exact g_vret hx hb hr hlocks (I, AN, AI, AL) (by rw [← hsh] at h; exact congrArg (fun z => (I, AN, AI, z)) (if_neg h).symm) hK hP hD hS dX0_divideByShared_71
  · refine lv_iconst (v := nI 0) hx hb dX0_divideByShared_40 (by decide) ?_
    refine lv_istore (lv' := [(4, .int (nI 0)), (2, .long sh), (0, .ref (ad 2)), (1, .int (nI a))]) hx hb dX0_divideByShared_41 hl (by decide) rfl (fun ls hl => ?_)
    have lp43 : ∀ (Q : State → Prop) (n j : Nat) (X : Nat → Nat → Int64) (H : Heap) (locs : List Loc) (ls : Array Slot), j + n = I 2 + 1 → va_P D vc (wT cs ad I AN AI X) H → va_D A (wT cs ad I AN AI X) → va_S A s.heap H locs → lv_has ls 5 [(4, .int (nI j)), (2, .long sh), (0, .ref (ad 2)), (1, .int (nI a))] → (∀ (H : Heap) (locs : List Loc) (ls : Array Slot), va_P D vc (wT cs ad I AN AI (fo (fun j X => up2 X (a + 11) j (X (a + 11) j / sh)) n j X)) H → va_D A (wT cs ad I AN AI (fo (fun j X => up2 X (a + 11) j (X (a + 11) j / sh)) n j X)) → va_S A s.heap H locs → lv_has ls 5 [(4, .int (nI (I 2 + 1))), (2, .long sh), (0, .ref (ad 2)), (1, .int (nI a))] → W p l e rmX0_divideByShared s m args below meth c H locs 0 0 Q (F0 m 71 ls [])) → W p l e rmX0_divideByShared s m args below meth c H locs 0 0 Q (F0 m 43 ls []) := by
      intro Q n
      induction n with
      | zero =>
        intro j X H locs ls hn hP hD hS hl kx
        have hi : j = I 2 + 1 := by omega
        refine lv_iload hx hb dX0_divideByShared_43 (lv_at hl 0 rfl) ?_
        refine lv_aload_n hx hb dX0_divideByShared_45 rfl (lv_at hl 2 rfl) ?_
        refine b_get (own := RX0) (C := RX0) (T := TX0) (N := 5) (ci := 0) (v := .int (nI (I 2))) hx hb hts usX0 hown hK hP 2 (by decide) rfl rfl 2 (by decide) (hts _ gw_91) rfl dX0_divideByShared_46 ?_
        refine b_gt_t (tgt := 71) hx hb dX0_divideByShared_49 (by decide) (by omega) (by omega) ?_
        rw [hi] at hl
        exact kx H locs ls hP hD hS (lv_sub hl [0, 1, 2, 3] rfl)
      | succ n ih =>
        intro j X H locs ls hn hP hD hS hl kx
        have hi : j < I 2 + 1 := by omega
        refine lv_iload hx hb dX0_divideByShared_43 (lv_at hl 0 rfl) ?_
        refine lv_aload_n hx hb dX0_divideByShared_45 rfl (lv_at hl 2 rfl) ?_
        refine b_get (own := RX0) (C := RX0) (T := TX0) (N := 5) (ci := 0) (v := .int (nI (I 2))) hx hb hts usX0 hown hK hP 2 (by decide) rfl rfl 2 (by decide) (hts _ gw_91) rfl dX0_divideByShared_46 ?_
        refine b_gt_f (tgt := 71) hx hb dX0_divideByShared_49 (by decide) (by omega) (by omega) ?_
        refine lv_aload_n hx hb dX0_divideByShared_52 rfl (lv_at hl 2 rfl) ?_
        refine b_get (own := RX0) (C := RX0) (T := TX0) (N := 5) (ci := 0) (v := .ref (ad 4)) hx hb hts usX0 hown hK hP 2 (by decide) rfl rfl 0 (by decide) (hts _ gw_88) rfl dX0_divideByShared_53 ?_
        refine lv_iload_n hx hb dX0_divideByShared_56 rfl (lv_at hl 3 rfl) ?_
        refine tE_r hx hb hK hP (by omega) dX0_divideByShared_57 ?_
        refine lv_iload hx hb dX0_divideByShared_58 (lv_at hl 0 rfl) ?_
        refine lv_dup2_11 hx hb dX0_divideByShared_60 rfl rfl ?_
        refine tE_ld (i := a) hx hb hK hP (by omega) (by omega) dX0_divideByShared_61 ?_
        refine lv_lload_n hx hb dX0_divideByShared_62 rfl (lv_at hl 1 rfl) ?_
        refine lv_ldiv hx hb dX0_divideByShared_63 (ne_of_gt1 h) ?_
        refine tE_st (i := a) hx hb hK hP hD hS (by omega) (by omega) dX0_divideByShared_64 (fun H locs hP hD hS => ?_)
        refine b_iinc (lv' := [(4, .int (nI (j + 1))), (2, .long sh), (0, .ref (ad 2)), (1, .int (nI a))]) hx hb dX0_divideByShared_65 hl (k := 0) rfl (by decide) rfl (fun ls hl => ?_)
        refine lv_goto (tgt := 43) hx hb dX0_divideByShared_68 (by decide) ?_
        exact ih (j + 1) _ H locs ls (by omega) hP hD hS (lv_sub hl [0, 1, 2, 3] rfl) kx
    refine lp43 _ (I 2 + 1) 0 AL _ _ ls (by omega) hP hD hS (lv_sub hl [0, 1, 2, 3] rfl) (fun H locs ls hP hD hS hl => ?_)
    exact g_vret hx hb hr hlocks (I, AN, AI, fo (fun j X => up2 X (a + 11) j (X (a + 11) j / sh)) (I 2 + 1) 0 AL) (by subst hsh; exact congrArg (fun z => (I, AN, AI, z)) (if_pos h).symm) hK hP hD hS dX0_divideByShared_71

/-- one row of clearColumn -/
def clr1 (w a q : Nat) (fac : Int64) (i : Nat) (X : Nat → Nat → Int64) : Nat → Nat → Int64 := if i ≠ a ∧ X (i + 11) q ≠ 0 then dvs (fo (fun j Y => up2 Y (i + 11) j (Y (i + 11) j * fac - Y (a + 11) j * X (i + 11) q)) (w + 1) 0 X) w i else X

abbrev rmX0_clearColumn : Room := { frames := 3, cells := 0, slots := 0, locals := 75 }
set_option maxHeartbeats 4000000 in
set_option maxRecDepth 100000 in
/-- clearColumn -/
theorem ctX0_clearColumn (l : Launch) (D : va_G) (cs : Nat → ClassId) (ad : Nat → Nat) (I : Nat → Nat) (AN : Nat → Nat → Nat) (AI : Nat → Nat → Int32) (AL : Nat → Nat → Int64) (sz : Nat) (a q : Nat) (h2 : I 2 ≤ 4) (h3 : I 3 ≤ 7) (ha : a < 7) (hq : q < 5) : Met l yX0_clearColumn (Cond.code yX0_clearColumn cX0_clearColumn 9 none :: GW) rmX0_clearColumn (va_Pc [.ref (ad 2), .int (nI a), .int (nI q)] (gP D cs (wT cs ad I AN AI AL) sz)) (va_Qv (fun u : TS => u = (I, AN, AI, fo (fun i X => clr1 (I 2) a q (AL (a + 11) q) i X) (I 3) 0 AL)) (gB D cs (va_A (wT cs ad I AN AI AL) sz) (wTs cs ad)) (va_A (wT cs ad I AN AI AL) sz)) 0 0 (va_A (wT cs ad I AN AI AL) sz) := by
  refine Met.ofW (cc := cX0_clearColumn) (maxL := 9) (ret := none) (by decide) rfl ?_
  intro p e s m args below meth c s₁ B hml hv
  obtain ⟨rfl, hsz, hP, hK, hD0, hN⟩ := hv
  have hx := B.exec
  have hb := B.bytes
  have hr := B.returns
  have hts : ∀ w ∈ GW, w.before _ s = true := fun w h => atoms_spec (ws := Cond.code yX0_clearColumn cX0_clearColumn 9 none :: GW) B.pre w (List.mem_cons_of_mem _ h)
  have hown : s.vm.findClass RX0 = some m.cls := findClass_of_methodNamed B.named
  have hlocks := B.notSynchronized
  subst hsz
  have hD := hD0.self (sz := s.heap.size)
  generalize hAe : va_A (wT cs ad I AN AI AL) s.heap.size = A at hD ⊢
  have hA : ∀ q : Nat, s.heap.size ≤ q → A q := fun q h => by rw [← hAe]; exact Or.inr h
  have hS : va_S A s.heap s.heap [] := va_S.rf
  have hl := lv_entry [.ref (ad 2), .int (nI a), .int (nI q)] (n := 9) (Nat.le_of_ble_eq_true rfl)
  rw [lg_entry_eq]
  generalize (lg_sl [.ref (ad 2), .int (nI a), .int (nI q)] ++ List.replicate (9 - (lg_sl [.ref (ad 2), .int (nI a), .int (nI q)]).length) Slot.unset).toArray = ls at hl ⊢
  have hl : lv_has ls 9 [(0, .ref (ad 2)), (1, .int (nI a)), (2, .int (nI q))] := hl
  generalize hargs : ([.ref (ad 2), .int (nI a), .int (nI q)] : List Value).toArray = args at *
  show W p l e rmX0_clearColumn s m args below meth c s.heap [] 0 0 _ (F0 m 0 ls [])
  refine lv_aload_n hx hb dX0_clearColumn_0 rfl (lv_at hl 0 rfl) ?_
  refine b_get (own := RX0) (C := RX0) (T := TX0) (N := 5) (ci := 0) (v := .ref (ad 4)) hx hb hts usX0 hown hK hP 2 (by decide) rfl rfl 0 (by decide) (hts _ gw_88) rfl dX0_clearColumn_1 ?_
  refine lv_iload_n hx hb dX0_clearColumn_4 rfl (lv_at hl 1 rfl) ?_
  refine tE_r hx hb hK hP (by omega) dX0_clearColumn_5 ?_
  refine lv_iload_n hx hb dX0_clearColumn_6 rfl (lv_at hl 2 rfl) ?_
  refine tE_ld (i := a) hx hb hK hP (by omega) (by omega) dX0_clearColumn_7 ?_
  refine lv_lstore_n (lv' := [(3, .long (AL (a + 11) q)), (0, .ref (ad 2)), (1, .int (nI a)), (2, .int (nI q))]) hx hb dX0_clearColumn_8 rfl hl (by decide) rfl (fun ls hl => ?_)
  refine lv_iconst (v := nI 0) hx hb dX0_clearColumn_9 (by decide) ?_
  refine lv_istore (lv' := [(5, .int (nI 0)), (3, .long (AL (a + 11) q)), (0, .ref (ad 2)), (1, .int (nI a)), (2, .int (nI q))]) hx hb dX0_clearColumn_10 hl (by decide) rfl (fun ls hl => ?_)
  generalize hfac : AL (a + 11) q = fac at hl
  have lp12 : ∀ (Q : State → Prop) (n i : Nat) (X : Nat → Nat → Int64) (H : Heap) (locs : List Loc) (ls : Array Slot), i + n = I 3 → va_P D vc (wT cs ad I AN AI X) H → va_D A (wT cs ad I AN AI X) → va_S A s.heap H locs → lv_has ls 9 [(5, .int (nI i)), (3, .long fac), (0, .ref (ad 2)), (1, .int (nI a)), (2, .int (nI q))] → (∀ (H : Heap) (locs : List Loc) (ls : Array Slot), va_P D vc (wT cs ad I AN AI (fo (fun i X => clr1 (I 2) a q fac i X) n i X)) H → va_D A (wT cs ad I AN AI (fo (fun i X => clr1 (I 2) a q fac i X) n i X)) → va_S A s.heap H locs → lv_has ls 9 [(5, .int (nI (I 3))), (3, .long fac), (0, .ref (ad 2)), (1, .int (nI a)), (2, .int (nI q))] → W p l e rmX0_clearColumn s m args below meth c H locs 0 0 Q (F0 m 110 ls [])) → W p l e rmX0_clearColumn s m args below meth c H locs 0 0 Q (F0 m 12 ls []) := by
    intro Q n
    induction n with
    | zero =>
      intro i X H locs ls hn hP hD hS hl kx
      have hi : i = I 3 := by omega
      refine lv_iload hx hb dX0_clearColumn_12 (lv_at hl 0 rfl) ?_
      refine lv_aload_n hx hb dX0_clearColumn_14 rfl (lv_at hl 2 rfl) ?_
      refine b_get (own := RX0) (C := RX0) (T := TX0) (N := 5) (ci := 0) (v := .int (nI (I 3))) hx hb hts usX0 hown hK hP 2 (by decide) rfl rfl 3 (by decide) (hts _ gw_92) rfl dX0_clearColumn_15 ?_
      refine b_ge_t (tgt := 110) hx hb dX0_clearColumn_18 (by decide) (by omega) (by omega) ?_
      rw [hi] at hl
      exact kx H locs ls hP hD hS (lv_sub hl [0, 1, 2, 3, 4] rfl)
    | succ n ih =>
      intro i X H locs ls hn hP hD hS hl kx
      have hi : i < I 3 := by omega
      refine lv_iload hx hb dX0_clearColumn_12 (lv_at hl 0 rfl) ?_
      refine lv_aload_n hx hb dX0_clearColumn_14 rfl (lv_at hl 2 rfl) ?_
      refine b_get (own := RX0) (C := RX0) (T := TX0) (N := 5) (ci := 0) (v := .int (nI (I 3))) hx hb hts usX0 hown hK hP 2 (by decide) rfl rfl 3 (by decide) (hts _ gw_92) rfl dX0_clearColumn_15 ?_
      refine b_ge_f (tgt := 110) hx hb dX0_clearColumn_18 (by decide) (by omega) (by omega) ?_
      refine lv_aload_n hx hb dX0_clearColumn_21 rfl (lv_at hl 2 rfl) ?_
      refine b_get (own := RX0) (C := RX0) (T := TX0) (N := 5) (ci := 0) (v := .ref (ad 4)) hx hb hts usX0 hown hK hP 2 (by decide) rfl rfl 0 (by decide) (hts _ gw_88) rfl dX0_clearColumn_22 ?_
      refine lv_iload hx hb dX0_clearColumn_25 (lv_at hl 0 rfl) ?_
      refine tE_r hx hb hK hP (by omega) dX0_clearColumn_27 ?_
      refine lv_iload_n hx hb dX0_clearColumn_28 rfl (lv_at hl 4 rfl) ?_
      refine tE_ld (i := i) hx hb hK hP (by omega) (by omega) dX0_clearColumn_29 ?_
      refine lv_lstore (lv' := [(6, .long (X (i + 11) q)), (5, .int (nI i)), (3, .long fac), (0, .ref (ad 2)), (1, .int (nI a)), (2, .int (nI q))]) hx hb dX0_clearColumn_30 hl (by decide) rfl (fun ls hl => ?_)
      refine lv_iload hx hb dX0_clearColumn_32 (lv_at hl 1 rfl) ?_
      refine lv_iload_n hx hb dX0_clearColumn_34 rfl (lv_at hl 4 rfl) ?_
      by_cases hia : i = a
      · refine b_eq_t (tgt := 104) hx hb dX0_clearColumn_35 (by decide) (hia)  ?_
        refine b_iinc (lv' := [(5, .int (nI (i + 1))), (6, .long (X (i + 11) q)), (3, .long fac), (0, .ref (ad 2)), (1, .int (nI a)), (2, .int (nI q))]) hx hb dX0_clearColumn_104 hl (k := 1) rfl (by decide) rfl (fun ls hl => ?_)
        refine lv_goto (tgt := 12) hx hb dX0_clearColumn_107 (by decide) ?_
        have e1 : clr1 (I 2) a q fac i X = X := if_neg (fun z => z.1 hia)
        rw [← e1] at hP hD
        exact ih (i + 1) _ H locs ls (by omega) hP hD hS (lv_sub hl [0, 2, 3, 4, 5] rfl) kx
      · refine b_eq_f (tgt := 104) hx hb dX0_clearColumn_35 (by decide) (hia) (by omega) (by omega) ?_
        refine lv_lload hx hb dX0_clearColumn_38 (lv_at hl 0 rfl) ?_
        refine lv_lconst (v := 0) hx hb dX0_clearColumn_40 (by decide) ?_
        refine b_lceq (tgt := 104) hx hb dX0_clearColumn_41 dX0_clearColumn_42 (by decide) (fun h => ?_) (fun h => ?_)
        · refine b_iinc (lv' := [(5, .int (nI (i + 1))), (6, .long (X (i + 11) q)), (3, .long fac), (0, .ref (ad 2)), (1, .int (nI a)), (2, .int (nI q))]) hx hb dX0_clearColumn_104 hl (k := 1) rfl (by decide) rfl (fun ls hl => ?_)
          refine lv_goto (tgt := 12) hx hb dX0_clearColumn_107 (by decide) ?_
          have e1 : clr1 (I 2) a q fac i X = X := if_neg (fun z => z.2 h)
          rw [← e1] at hP hD
          exact ih (i + 1) _ H locs ls (by omega) hP hD hS (lv_sub hl [0, 2, 3, 4, 5] rfl) kx
        · refine lv_iconst (v := nI 0) hx hb dX0_clearColumn_45 (by decide) ?_
          refine lv_istore (lv' := [(8, .int (nI 0)), (6, .long (X (i + 11) q)), (5, .int (nI i)), (3, .long fac), (0, .ref (ad 2)), (1, .int (nI a)), (2, .int (nI q))]) hx hb dX0_clearColumn_46 hl (by decide) rfl (fun ls hl => ?_)
          have lp48 : ∀ (Q : State → Prop) (n j : Nat) (Y : Nat → Nat → Int64) (H : Heap) (locs : List Loc) (ls : Array Slot), j + n = I 2 + 1 → va_P D vc (wT cs ad I AN AI Y) H → va_D A (wT cs ad I AN AI Y) → va_S A s.heap H locs → lv_has ls 9 [(8, .int (nI j)), (6, .long (X (i + 11) q)), (5, .int (nI i)), (3, .long fac), (0, .ref (ad 2)), (1, .int (nI a)), (2, .int (nI q))] → (∀ (H : Heap) (locs : List Loc) (ls : Array Slot), va_P D vc (wT cs ad I AN AI (fo (fun j Y => up2 Y (i + 11) j (Y (i + 11) j * fac - Y (a + 11) j * X (i + 11) q)) n j Y)) H → va_D A (wT cs ad I AN AI (fo (fun j Y => up2 Y (i + 11) j (Y (i + 11) j * fac - Y (a + 11) j * X (i + 11) q)) n j Y)) → va_S A s.heap H locs → lv_has ls 9 [(8, .int (nI (I 2 + 1))), (6, .long (X (i + 11) q)), (5, .int (nI i)), (3, .long fac), (0, .ref (ad 2)), (1, .int (nI a)), (2, .int (nI q))] → W p l e rmX0_clearColumn s m args below meth c H locs 0 0 Q (F0 m 98 ls [])) → W p l e rmX0_clearColumn s m args below meth c H locs 0 0 Q (F0 m 48 ls []) := by
            intro Q n
            induction n with
            | zero =>
              intro j Y H locs ls hn hP hD hS hl kx
              have hi : j = I 2 + 1 := by omega
              refine lv_iload hx hb dX0_clearColumn_48 (lv_at hl 0 rfl) ?_
              refine lv_aload_n hx hb dX0_clearColumn_50 rfl (lv_at hl 4 rfl) ?_
              refine b_get (own := RX0) (C := RX0) (T := TX0) (N := 5) (ci := 0) (v := .int (nI (I 2))) hx hb hts usX0 hown hK hP 2 (by decide) rfl rfl 2 (by decide) (hts _ gw_91) rfl dX0_clearColumn_51 ?_
              refine b_gt_t (tgt := 98) hx hb dX0_clearColumn_54 (by decide) (by omega) (by omega) ?_
              rw [hi] at hl
              exact kx H locs ls hP hD hS (lv_sub hl [0, 1, 2, 3, 4, 5, 6] rfl)
            | succ n ih =>
              intro j Y H locs ls hn hP hD hS hl kx
              have hi : j < I 2 + 1 := by omega
              refine lv_iload hx hb dX0_clearColumn_48 (lv_at hl 0 rfl) ?_
              refine lv_aload_n hx hb dX0_clearColumn_50 rfl (lv_at hl 4 rfl) ?_
              refine b_get (own := RX0) (C := RX0) (T := TX0) (N := 5) (ci := 0) (v := .int (nI (I 2))) hx hb hts usX0 hown hK hP 2 (by decide) rfl rfl 2 (by decide) (hts _ gw_91) rfl dX0_clearColumn_51 ?_
              refine b_gt_f (tgt := 98) hx hb dX0_clearColumn_54 (by decide) (by omega) (by omega) ?_
              refine lv_aload_n hx hb dX0_clearColumn_57 rfl (lv_at hl 4 rfl) ?_
              refine b_get (own := RX0) (C := RX0) (T := TX0) (N := 5) (ci := 0) (v := .ref (ad 4)) hx hb hts usX0 hown hK hP 2 (by decide) rfl rfl 0 (by decide) (hts _ gw_88) rfl dX0_clearColumn_58 ?_
              refine lv_iload hx hb dX0_clearColumn_61 (lv_at hl 2 rfl) ?_
              refine tE_r hx hb hK hP (by omega) dX0_clearColumn_63 ?_
              refine lv_iload hx hb dX0_clearColumn_64 (lv_at hl 0 rfl) ?_
              refine lv_aload_n hx hb dX0_clearColumn_66 rfl (lv_at hl 4 rfl) ?_
              refine b_get (own := RX0) (C := RX0) (T := TX0) (N := 5) (ci := 0) (v := .ref (ad 4)) hx hb hts usX0 hown hK hP 2 (by decide) rfl rfl 0 (by decide) (hts _ gw_88) rfl dX0_clearColumn_67 ?_
              refine lv_iload hx hb dX0_clearColumn_70 (lv_at hl 2 rfl) ?_
              refine tE_r hx hb hK hP (by omega) dX0_clearColumn_72 ?_
              refine lv_iload hx hb dX0_clearColumn_73 (lv_at hl 0 rfl) ?_
              refine tE_ld (i := i) hx hb hK hP (by omega) (by omega) dX0_clearColumn_75 ?_
              refine lv_lload_n hx hb dX0_clearColumn_76 rfl (lv_at hl 3 rfl) ?_
              refine lv_lmul hx hb dX0_clearColumn_77 ?_
              refine lv_aload_n hx hb dX0_clearColumn_78 rfl (lv_at hl 4 rfl) ?_
              refine b_get (own := RX0) (C := RX0) (T := TX0) (N := 5) (ci := 0) (v := .ref (ad 4)) hx hb hts usX0 hown hK hP 2 (by decide) rfl rfl 0 (by decide) (hts _ gw_88) rfl dX0_clearColumn_79 ?_
              refine lv_iload_n hx hb dX0_clearColumn_82 rfl (lv_at hl 5 rfl) ?_
              refine tE_r hx hb hK hP (by omega) dX0_clearColumn_83 ?_
              refine lv_iload hx hb dX0_clearColumn_84 (lv_at hl 0 rfl) ?_
              refine tE_ld (i := a) hx hb hK hP (by omega) (by omega) dX0_clearColumn_86 ?_
              refine lv_lload hx hb dX0_clearColumn_87 (lv_at hl 1 rfl) ?_
              refine lv_lmul hx hb dX0_clearColumn_89 ?_
              refine lv_lsub hx hb dX0_clearColumn_90 ?_
              refine tE_st (i := i) hx hb hK hP hD hS (by omega) (by omega) dX0_clearColumn_91 (fun H locs hP hD hS => ?_)
              refine b_iinc (lv' := [(8, .int (nI (j + 1))), (6, .long (X (i + 11) q)), (5, .int (nI i)), (3, .long fac), (0, .ref (ad 2)), (1, .int (nI a)), (2, .int (nI q))]) hx hb dX0_clearColumn_92 hl (k := 0) rfl (by decide) rfl (fun ls hl => ?_)
              refine lv_goto (tgt := 48) hx hb dX0_clearColumn_95 (by decide) ?_
              exact ih (j + 1) _ H locs ls (by omega) hP hD hS (lv_sub hl [0, 1, 2, 3, 4, 5, 6] rfl) kx
          refine lp48 _ (I 2 + 1) 0 X _ _ ls (by omega) hP hD hS (lv_sub hl [0, 1, 2, 3, 4, 5, 6] rfl) (fun H locs ls hP hD hS hl => ?_)
          refine lv_aload_n hx hb dX0_clearColumn_98 rfl (lv_at hl 4 rfl) ?_
          refine lv_iload hx hb dX0_clearColumn_99 (lv_at hl 2 rfl) ?_
          refine g_callv (va_runV (As := [.int (nI i)]) (rest := []) ⟨hx, hb, hml, hown, hts⟩ (ctX0_divideByShared l D cs ad I AN AI (fo (fun j Y => up2 Y (i + 11) j (Y (i + 11) j * fac - Y (a + 11) j * X (i + 11) q)) (I 2 + 1) 0 X) _ i h2 (by omega)) (cwV 1 hts (gi_V gw_180 gw_182 gw_7 gw_55 gw_183) rfl rfl rfl (by decide +kernel) ⟨Nat.le_of_ble_eq_true rfl, Nat.le_of_ble_eq_true rfl⟩) ⟨g_blind, va_recv hK hP (ci := 0) (q0 := 2) rfl (wm_at (by decide) rfl), g_pre hP hK hD hN⟩ rfl rfl hl.1 rfl (lv_room (Nat.le_of_ble_eq_true rfl)) dX0_clearColumn_101 ⟨Nat.zero_le _, Nat.zero_le _⟩) hD hS hA (fun u H locs hw hP hD hS => ?_)
          obtain rfl := hw
          have hP : va_P D vc (wT cs ad I AN AI (dvs (fo (fun j Y => up2 Y (i + 11) j (Y (i + 11) j * fac - Y (a + 11) j * X (i + 11) q)) (I 2 + 1) 0 X) (I 2) i)) H := hP
          have hD : va_D A (wT cs ad I AN AI (dvs (fo (fun j Y => up2 Y (i + 11) j (Y (i + 11) j * fac - Y (a + 11) j * X (i + 11) q)) (I 2 + 1) 0 X) (I 2) i)) := hD
          refine b_iinc (lv' := [(5, .int (nI (i + 1))), (8, .int (nI (I 2 + 1))), (6, .long (X (i + 11) q)), (3, .long fac), (0, .ref (ad 2)), (1, .int (nI a)), (2, .int (nI q))]) hx hb dX0_clearColumn_104 hl (k := 2) rfl (by decide) rfl (fun ls hl => ?_)
          refine lv_goto (tgt := 12) hx hb dX0_clearColumn_107 (by decide) ?_
          have e1 : clr1 (I 2) a q fac i X = dvs (fo (fun j Y => up2 Y (i + 11) j (Y (i + 11) j * fac - Y (a + 11) j * X (i + 11) q)) (I 2 + 1) 0 X) (I 2) i := if_pos ⟨hia, h⟩
          rw [← e1] at hP hD
          exact ih (i + 1) _ H locs ls (by omega) hP hD hS (lv_sub hl [0, 3, 4, 5, 6] rfl) kx
  refine lp12 _ (I 3) 0 AL _ _ ls (by omega) hP hD hS (lv_sub hl [0, 1, 2, 3, 4] rfl) (fun H locs ls hP hD hS hl => ?_)
  subst hfac
  exact g_vret hx hb hr hlocks (I, AN, AI, fo (fun i X => clr1 (I 2) a q (AL (a + 11) q) i X) (I 3) 0 AL) (rfl) hK hP hD hS dX0_clearColumn_110

abbrev rmX0_agrees : Room := { frames := 0, cells := 0, slots := 0, locals := 0 }
set_option maxHeartbeats 4000000 in
set_option maxRecDepth 100000 in
/-- agrees -/
theorem ctX0_agrees (l : Launch) (D : va_G) (cs : Nat → ClassId) (ad : Nat → Nat) (I : Nat → Nat) (AN : Nat → Nat → Nat) (AI : Nat → Nat → Int32) (AL : Nat → Nat → Int64) (sz : Nat)  (h2 : I 2 ≤ 4) (h3 : I 3 ≤ 7) (h43 : I 4 ≤ I 3) : Met l yX0_agrees (Cond.code yX0_agrees cX0_agrees 2 (some FieldType.boolean) :: GW) rmX0_agrees (va_Pc [.ref (ad 2)] (gP D cs (wT cs ad I AN AI AL) sz)) (va_Qi (fun (r : Int32) (u : TS) => u = (I, AN, AI, AL) ∧ r = bz (fnd (fun k => AL (k + 11) (I 2) ≠ 0) (I 3 - I 4) (I 4)).isNone) (gB D cs (va_A (wT cs ad I AN AI AL) sz) (wTs cs ad)) (va_A (wT cs ad I AN AI AL) sz)) 0 0 (va_A (wT cs ad I AN AI AL) sz) := by
  refine Met.ofW (cc := cX0_agrees) (maxL := 2) (ret := (some FieldType.boolean)) (by decide) rfl ?_
  intro p e s m args below meth c s₁ B hml hv
  obtain ⟨rfl, hsz, hP, hK, hD0, hN⟩ := hv
  have hx := B.exec
  have hb := B.bytes
  have hr := B.returns
  have hts : ∀ w ∈ GW, w.before _ s = true := fun w h => atoms_spec (ws := Cond.code yX0_agrees cX0_agrees 2 (some FieldType.boolean) :: GW) B.pre w (List.mem_cons_of_mem _ h)
  have hown : s.vm.findClass RX0 = some m.cls := findClass_of_methodNamed B.named
  have hlocks := B.notSynchronized
  subst hsz
  have hD := hD0.self (sz := s.heap.size)
  generalize hAe : va_A (wT cs ad I AN AI AL) s.heap.size = A at hD ⊢
  have hA : ∀ q : Nat, s.heap.size ≤ q → A q := fun q h => by rw [← hAe]; exact Or.inr h
  have hS : va_S A s.heap s.heap [] := va_S.rf
  have hl := lv_entry [.ref (ad 2)] (n := 2) (Nat.le_of_ble_eq_true rfl)
  rw [lg_entry_eq]
  generalize (lg_sl [.ref (ad 2)] ++ List.replicate (2 - (lg_sl [.ref (ad 2)]).length) Slot.unset).toArray = ls at hl ⊢
  have hl : lv_has ls 2 [(0, .ref (ad 2))] := hl
  generalize hargs : ([.ref (ad 2)] : List Value).toArray = args at *
  show W p l e rmX0_agrees s m args below meth c s.heap [] 0 0 _ (F0 m 0 ls [])
  refine lv_aload_n hx hb dX0_agrees_0 rfl (lv_at hl 0 rfl) ?_
  refine b_get (own := RX0) (C := RX0) (T := TX0) (N := 5) (ci := 0) (v := .int (nI (I 4))) hx hb hts usX0 hown hK hP 2 (by decide) rfl rfl 4 (by decide) (hts _ gw_93) rfl dX0_agrees_1 ?_
  refine lv_istore_n (lv' := [(1, .int (nI (I 4))), (0, .ref (ad 2))]) hx hb dX0_agrees_4 rfl hl (by decide) rfl (fun ls hl => ?_)
  have lp5 : ∀ (n k : Nat) (H : Heap) (locs : List Loc) (ls : Array Slot), k + n = I 3 → va_P D vc (wT cs ad I AN AI AL) H → va_D A (wT cs ad I AN AI AL) → va_S A s.heap H locs → lv_has ls 2 [(1, .int (nI k)), (0, .ref (ad 2))] → W p l e rmX0_agrees s m args below meth c H locs 0 0 (MQ below (va_Qi (fun (r : Int32) (u : TS) => u = (I, AN, AI, AL) ∧ r = bz (fnd (fun k => AL (k + 11) (I 2) ≠ 0) n k).isNone) (gB D cs A (wTs cs ad)) A) args s 0 0 A) (F0 m 5 ls []) := by
    intro n
    induction n with
    | zero =>
      intro k H locs ls hn hP hD hS hl
      have hi : k = I 3 := by omega
      refine lv_iload_n hx hb dX0_agrees_5 rfl (lv_at hl 0 rfl) ?_
      refine lv_aload_n hx hb dX0_agrees_6 rfl (lv_at hl 1 rfl) ?_
      refine b_get (own := RX0) (C := RX0) (T := TX0) (N := 5) (ci := 0) (v := .int (nI (I 3))) hx hb hts usX0 hown hK hP 2 (by decide) rfl rfl 3 (by decide) (hts _ gw_92) rfl dX0_agrees_7 ?_
      refine b_ge_t (tgt := 37) hx hb dX0_agrees_10 (by decide) (by omega) (by omega) ?_
      refine lv_iconst (v := nI 1) hx hb dX0_agrees_37 (by decide) ?_
      exact g_zret hx hb hr hlocks rfl (I, AN, AI, AL) (⟨rfl, rfl⟩) hK hP hD hS dX0_agrees_38
    | succ n ih =>
      intro k H locs ls hn hP hD hS hl
      have hi : k < I 3 := by omega
      refine lv_iload_n hx hb dX0_agrees_5 rfl (lv_at hl 0 rfl) ?_
      refine lv_aload_n hx hb dX0_agrees_6 rfl (lv_at hl 1 rfl) ?_
      refine b_get (own := RX0) (C := RX0) (T := TX0) (N := 5) (ci := 0) (v := .int (nI (I 3))) hx hb hts usX0 hown hK hP 2 (by decide) rfl rfl 3 (by decide) (hts _ gw_92) rfl dX0_agrees_7 ?_
      refine b_ge_f (tgt := 37) hx hb dX0_agrees_10 (by decide) (by omega) (by omega) ?_
      refine lv_aload_n hx hb dX0_agrees_13 rfl (lv_at hl 1 rfl) ?_
      refine b_get (own := RX0) (C := RX0) (T := TX0) (N := 5) (ci := 0) (v := .ref (ad 4)) hx hb hts usX0 hown hK hP 2 (by decide) rfl rfl 0 (by decide) (hts _ gw_88) rfl dX0_agrees_14 ?_
      refine lv_iload_n hx hb dX0_agrees_17 rfl (lv_at hl 0 rfl) ?_
      refine tE_r hx hb hK hP (by omega) dX0_agrees_18 ?_
      refine lv_aload_n hx hb dX0_agrees_19 rfl (lv_at hl 1 rfl) ?_
      refine b_get (own := RX0) (C := RX0) (T := TX0) (N := 5) (ci := 0) (v := .int (nI (I 2))) hx hb hts usX0 hown hK hP 2 (by decide) rfl rfl 2 (by decide) (hts _ gw_91) rfl dX0_agrees_20 ?_
      refine tE_ld (i := k) hx hb hK hP (by omega) (by omega) dX0_agrees_23 ?_
      refine lv_lconst (v := 0) hx hb dX0_agrees_24 (by decide) ?_
      refine b_lceq (tgt := 31) hx hb dX0_agrees_25 dX0_agrees_26 (by decide) (fun h => ?_) (fun h => ?_)
      · refine b_iinc (lv' := [(1, .int (nI (k + 1))), (0, .ref (ad 2))]) hx hb dX0_agrees_31 hl (k := 0) rfl (by decide) rfl (fun ls hl => ?_)
        refine lv_goto (tgt := 5) hx hb dX0_agrees_34 (by decide) ?_
        rw [fnd_f (f := fun k => AL (k + 11) (I 2) ≠ 0) (fun q => q h)]
        exact ih (k + 1) H locs ls (by omega) hP hD hS (lv_sub hl [0, 1] rfl)
      · refine lv_iconst (v := nI 0) hx hb dX0_agrees_29 (by decide) ?_
        exact g_zret hx hb hr hlocks rfl (I, AN, AI, AL) (⟨rfl, by rw [fnd_t (f := fun k => AL (k + 11) (I 2) ≠ 0) h]; rfl⟩) hK hP hD hS dX0_agrees_30
  exact lp5 ((I 3) - (I 4)) (I 4) _ _ ls (by omega) hP hD hS (lv_sub hl [0, 1] rfl)

abbrev rmX0_rowDeciding : Room := { frames := 0, cells := 0, slots := 0, locals := 0 }
set_option maxHeartbeats 4000000 in
set_option maxRecDepth 100000 in
/-- rowDeciding -/
theorem ctX0_rowDeciding (l : Launch) (D : va_G) (cs : Nat → ClassId) (ad : Nat → Nat) (I : Nat → Nat) (AN : Nat → Nat → Nat) (AI : Nat → Nat → Int32) (AL : Nat → Nat → Int64) (sz : Nat) (q : Nat) (h4 : I 4 ≤ 7) (hdc : ∀ k, k < 7 → AN 5 k < 2 ^ 31) (hq : q < 2 ^ 31) : Met l yX0_rowDeciding (Cond.code yX0_rowDeciding cX0_rowDeciding 3 (some FieldType.int) :: GW) rmX0_rowDeciding (va_Pc [.ref (ad 2), .int (nI q)] (gP D cs (wT cs ad I AN AI AL) sz)) (va_Qi (fun (r : Int32) (u : TS) => u = (I, AN, AI, AL) ∧ r = enc (rdec AN (I 4) q)) (gB D cs (va_A (wT cs ad I AN AI AL) sz) (wTs cs ad)) (va_A (wT cs ad I AN AI AL) sz)) 0 0 (va_A (wT cs ad I AN AI AL) sz) := by
  refine Met.ofW (cc := cX0_rowDeciding) (maxL := 3) (ret := (some FieldType.int)) (by decide) rfl ?_
  intro p e s m args below meth c s₁ B hml hv
  obtain ⟨rfl, hsz, hP, hK, hD0, hN⟩ := hv
  have hx := B.exec
  have hb := B.bytes
  have hr := B.returns
  have hts : ∀ w ∈ GW, w.before _ s = true := fun w h => atoms_spec (ws := Cond.code yX0_rowDeciding cX0_rowDeciding 3 (some FieldType.int) :: GW) B.pre w (List.mem_cons_of_mem _ h)
  have hown : s.vm.findClass RX0 = some m.cls := findClass_of_methodNamed B.named
  have hlocks := B.notSynchronized
  subst hsz
  have hD := hD0.self (sz := s.heap.size)
  generalize hAe : va_A (wT cs ad I AN AI AL) s.heap.size = A at hD ⊢
  have hA : ∀ q : Nat, s.heap.size ≤ q → A q := fun q h => by rw [← hAe]; exact Or.inr h
  have hS : va_S A s.heap s.heap [] := va_S.rf
  have hl := lv_entry [.ref (ad 2), .int (nI q)] (n := 3) (Nat.le_of_ble_eq_true rfl)
  rw [lg_entry_eq]
  generalize (lg_sl [.ref (ad 2), .int (nI q)] ++ List.replicate (3 - (lg_sl [.ref (ad 2), .int (nI q)]).length) Slot.unset).toArray = ls at hl ⊢
  have hl : lv_has ls 3 [(0, .ref (ad 2)), (1, .int (nI q))] := hl
  generalize hargs : ([.ref (ad 2), .int (nI q)] : List Value).toArray = args at *
  show W p l e rmX0_rowDeciding s m args below meth c s.heap [] 0 0 _ (F0 m 0 ls [])
  refine lv_iconst (v := nI 0) hx hb dX0_rowDeciding_0 (by decide) ?_
  refine lv_istore_n (lv' := [(2, .int (nI 0)), (0, .ref (ad 2)), (1, .int (nI q))]) hx hb dX0_rowDeciding_1 rfl hl (by decide) rfl (fun ls hl => ?_)
  have lp2 : ∀ (n k : Nat) (H : Heap) (locs : List Loc) (ls : Array Slot), k + n = I 4 → va_P D vc (wT cs ad I AN AI AL) H → va_D A (wT cs ad I AN AI AL) → va_S A s.heap H locs → lv_has ls 3 [(2, .int (nI k)), (0, .ref (ad 2)), (1, .int (nI q))] → W p l e rmX0_rowDeciding s m args below meth c H locs 0 0 (MQ below (va_Qi (fun (r : Int32) (u : TS) => u = (I, AN, AI, AL) ∧ r = enc (fnd (fun k => AN 5 k = q) n k)) (gB D cs A (wTs cs ad)) A) args s 0 0 A) (F0 m 2 ls []) := by
    intro n
    induction n with
    | zero =>
      intro k H locs ls hn hP hD hS hl
      have hi : k = I 4 := by omega
      refine lv_iload_n hx hb dX0_rowDeciding_2 rfl (lv_at hl 0 rfl) ?_
      refine lv_aload_n hx hb dX0_rowDeciding_3 rfl (lv_at hl 1 rfl) ?_
      refine b_get (own := RX0) (C := RX0) (T := TX0) (N := 5) (ci := 0) (v := .int (nI (I 4))) hx hb hts usX0 hown hK hP 2 (by decide) rfl rfl 4 (by decide) (hts _ gw_93) rfl dX0_rowDeciding_4 ?_
      refine b_ge_t (tgt := 28) hx hb dX0_rowDeciding_7 (by decide) (by omega) (by omega) ?_
      refine lv_iconst (v := -1) hx hb dX0_rowDeciding_28 (by decide) ?_
      exact g_iret hx hb hr hlocks (I, AN, AI, AL) (⟨rfl, rfl⟩) hK hP hD hS dX0_rowDeciding_29
    | succ n ih =>
      intro k H locs ls hn hP hD hS hl
      have hi : k < I 4 := by omega
      refine lv_iload_n hx hb dX0_rowDeciding_2 rfl (lv_at hl 0 rfl) ?_
      refine lv_aload_n hx hb dX0_rowDeciding_3 rfl (lv_at hl 1 rfl) ?_
      refine b_get (own := RX0) (C := RX0) (T := TX0) (N := 5) (ci := 0) (v := .int (nI (I 4))) hx hb hts usX0 hown hK hP 2 (by decide) rfl rfl 4 (by decide) (hts _ gw_93) rfl dX0_rowDeciding_4 ?_
      refine b_ge_f (tgt := 28) hx hb dX0_rowDeciding_7 (by decide) (by omega) (by omega) ?_
      refine lv_aload_n hx hb dX0_rowDeciding_10 rfl (lv_at hl 1 rfl) ?_
      refine b_get (own := RX0) (C := RX0) (T := TX0) (N := 5) (ci := 0) (v := .ref (ad 5)) hx hb hts usX0 hown hK hP 2 (by decide) rfl rfl 1 (by decide) (hts _ gw_90) rfl dX0_rowDeciding_11 ?_
      refine lv_iload_n hx hb dX0_rowDeciding_14 rfl (lv_at hl 0 rfl) ?_
      refine tD_ld hx hb hK hP (by omega) dX0_rowDeciding_15 ?_
      refine lv_iload_n hx hb dX0_rowDeciding_16 rfl (lv_at hl 2 rfl) ?_
      have hv := hdc k (by omega)
      by_cases h : AN 5 k = q
      · refine b_ne_f (tgt := 22) hx hb dX0_rowDeciding_17 (by decide) (h)  ?_
        refine lv_iload_n hx hb dX0_rowDeciding_20 rfl (lv_at hl 0 rfl) ?_
        exact g_iret hx hb hr hlocks (I, AN, AI, AL) (⟨rfl, by rw [fnd_t (f := fun k => AN 5 k = q) h]; rfl⟩) hK hP hD hS dX0_rowDeciding_21
      · refine b_ne_t (tgt := 22) hx hb dX0_rowDeciding_17 (by decide) (h) (by omega) (by omega) ?_
        refine b_iinc (lv' := [(2, .int (nI (k + 1))), (0, .ref (ad 2)), (1, .int (nI q))]) hx hb dX0_rowDeciding_22 hl (k := 0) rfl (by decide) rfl (fun ls hl => ?_)
        refine lv_goto (tgt := 2) hx hb dX0_rowDeciding_25 (by decide) ?_
        rw [fnd_f (f := fun k => AN 5 k = q) h]
        exact ih (k + 1) H locs ls (by omega) hP hD hS (lv_sub hl [0, 1, 2] rfl)
  exact lp2 ((I 4) - 0) 0 _ _ ls (by omega) hP hD hS (lv_sub hl [0, 1, 2] rfl)
end
section
theorem up1_1 {α : Type} {f : Nat → α} {k : Nat} {a b : α} : up1 (up1 f k a) k b = up1 f k b := by
  funext x
  by_cases h : x = k
  · simp [up1, h]
  · simp [up1, h]
theorem up1_id {α : Type} {f : Nat → α} {k : Nat} : up1 f k (f k) = f := by
  funext x
  by_cases h : x = k
  · simp [up1, h]
  · simp [up1, h]
def exch (w a b : Nat) (AL : Nat → Nat → Int64) : Nat → Nat → Int64 := fo (fun j X => up2 (up2 X (a + 11) j (X (b + 11) j)) (b + 11) j (X (a + 11) j)) (w + 1) 0 AL
def mabz (w a q : Nat) (AL : Nat → Nat → Int64) : Nat → Nat → Int64 := if AL (a + 11) q < 0 then fo (fun j X => up2 X (a + 11) j (-X (a + 11) j)) (w + 1) 0 AL else AL
def clrc (w h a q : Nat) (AL : Nat → Nat → Int64) : Nat → Nat → Int64 := fo (fun i X => clr1 w a q (AL (a + 11) q) i X) h 0 AL
/-- one column of the elimination: decided, decides, rows -/
def estep (w h q : Nat) (x : Nat × (Nat → Nat → Nat) × (Nat → Nat → Int64)) : Nat × (Nat → Nat → Nat) × (Nat → Nat → Int64) :=
  if x.1 < h then
    match fnd (fun k => x.2.2 (k + 11) q ≠ 0) (h - x.1) x.1 with
    | none => x
    | some k => (x.1 + 1, up2 x.2.1 5 x.1 q, clrc w h x.1 q (mabz w x.1 q (exch w x.1 k x.2.2)))
  else x
theorem estep_out {w h q : Nat} {x : Nat × (Nat → Nat → Nat) × (Nat → Nat → Int64)} (hx : ¬ x.1 < h) : estep w h q x = x := if_neg hx
theorem estep_none {w h q : Nat} {x : Nat × (Nat → Nat → Nat) × (Nat → Nat → Int64)} (hx : x.1 < h) (hf : fnd (fun k => x.2.2 (k + 11) q ≠ 0) (h - x.1) x.1 = none) : estep w h q x = x := by
  unfold estep
  rw [if_pos hx, hf]
theorem estep_some {w h q k : Nat} {x : Nat × (Nat → Nat → Nat) × (Nat → Nat → Int64)} (hx : x.1 < h) (hf : fnd (fun k => x.2.2 (k + 11) q ≠ 0) (h - x.1) x.1 = some k) : estep w h q x = (x.1 + 1, up2 x.2.1 5 x.1 q, clrc w h x.1 q (mabz w x.1 q (exch w x.1 k x.2.2))) := by
  unfold estep
  rw [if_pos hx, hf]
theorem fo_id {σ : Type} {f : Nat → σ → σ} {x : σ} (h : ∀ q, f q x = x) : ∀ n i, fo f n i x = x
  | 0, _ => rfl
  | n + 1, i => by rw [fo_s, h, fo_id h n]
theorem neg1_lt : (-1 : Int32) < 0 := by decide

abbrev rmX0_eliminate : Room := { frames := 4, cells := 0, slots := 0, locals := 103 }
set_option maxHeartbeats 4000000 in
set_option maxRecDepth 100000 in
/-- eliminate -/
theorem ctX0_eliminate (l : Launch) (D : va_G) (cs : Nat → ClassId) (ad : Nat → Nat) (I : Nat → Nat) (AN : Nat → Nat → Nat) (AI : Nat → Nat → Int32) (AL : Nat → Nat → Int64) (sz : Nat)  (h2 : I 2 ≤ 4) (h3 : I 3 ≤ 7) (h43 : I 4 ≤ I 3) : Met l yX0_eliminate (Cond.code yX0_eliminate cX0_eliminate 3 none :: GW) rmX0_eliminate (va_Pc [.ref (ad 2)] (gP D cs (wT cs ad I AN AI AL) sz)) (va_Qv (fun u : TS => u = (up1 I 4 (fo (estep (I 2) (I 3)) (I 2) 0 (I 4, AN, AL)).1, (fo (estep (I 2) (I 3)) (I 2) 0 (I 4, AN, AL)).2.1, AI, (fo (estep (I 2) (I 3)) (I 2) 0 (I 4, AN, AL)).2.2)) (gB D cs (va_A (wT cs ad I AN AI AL) sz) (wTs cs ad)) (va_A (wT cs ad I AN AI AL) sz)) 0 0 (va_A (wT cs ad I AN AI AL) sz) := by
  refine Met.ofW (cc := cX0_eliminate) (maxL := 3) (ret := none) (by decide) rfl ?_
  intro p e s m args below meth c s₁ B hml hv
  obtain ⟨rfl, hsz, hP, hK, hD0, hN⟩ := hv
  have hx := B.exec
  have hb := B.bytes
  have hr := B.returns
  have hts : ∀ w ∈ GW, w.before _ s = true := fun w h => atoms_spec (ws := Cond.code yX0_eliminate cX0_eliminate 3 none :: GW) B.pre w (List.mem_cons_of_mem _ h)
  have hown : s.vm.findClass RX0 = some m.cls := findClass_of_methodNamed B.named
  have hlocks := B.notSynchronized
  subst hsz
  have hD := hD0.self (sz := s.heap.size)
  generalize hAe : va_A (wT cs ad I AN AI AL) s.heap.size = A at hD ⊢
  have hA : ∀ q : Nat, s.heap.size ≤ q → A q := fun q h => by rw [← hAe]; exact Or.inr h
  have hS : va_S A s.heap s.heap [] := va_S.rf
  have hl := lv_entry [.ref (ad 2)] (n := 3) (Nat.le_of_ble_eq_true rfl)
  rw [lg_entry_eq]
  generalize (lg_sl [.ref (ad 2)] ++ List.replicate (3 - (lg_sl [.ref (ad 2)]).length) Slot.unset).toArray = ls at hl ⊢
  have hl : lv_has ls 3 [(0, .ref (ad 2))] := hl
  generalize hargs : ([.ref (ad 2)] : List Value).toArray = args at *
  show W p l e rmX0_eliminate s m args below meth c s.heap [] 0 0 _ (F0 m 0 ls [])
  refine lv_iconst (v := nI 0) hx hb dX0_eliminate_0 (by decide) ?_
  refine lv_istore_n (lv' := [(1, .int (nI 0)), (0, .ref (ad 2))]) hx hb dX0_eliminate_1 rfl hl (by decide) rfl (fun ls hl => ?_)
  have lp2 : ∀ (Q : State → Prop) (n q d : Nat) (AN : Nat → Nat → Nat) (AL : Nat → Nat → Int64) (H : Heap) (locs : List Loc) (ls : Array Slot), q + n = I 2 → d ≤ I 3 → va_P D vc (wT cs ad (up1 I 4 d) AN AI AL) H → va_D A (wT cs ad (up1 I 4 d) AN AI AL) → va_S A s.heap H locs → lv_has ls 3 [(1, .int (nI q)), (0, .ref (ad 2))] → (∀ (H : Heap) (locs : List Loc) (ls : Array Slot) (d' : Nat) (AN' : Nat → Nat → Nat) (AL' : Nat → Nat → Int64), (d', AN', AL') = fo (estep (I 2) (I 3)) n q (d, AN, AL) → va_P D vc (wT cs ad (up1 I 4 d') AN' AI AL') H → va_D A (wT cs ad (up1 I 4 d') AN' AI AL') → va_S A s.heap H locs → W p l e rmX0_eliminate s m args below meth c H locs 0 0 Q (F0 m 84 ls [])) → W p l e rmX0_eliminate s m args below meth c H locs 0 0 Q (F0 m 2 ls []) := by
    intro Q n
    induction n with
    | zero =>
      intro q d AN AL H locs ls hn hd hP hD hS hl kx
      refine lv_iload_n hx hb dX0_eliminate_2 rfl (lv_at hl 0 rfl) ?_
      refine lv_aload_n hx hb dX0_eliminate_3 rfl (lv_at hl 1 rfl) ?_
      refine b_get (own := RX0) (C := RX0) (T := TX0) (N := 5) (ci := 0) (v := .int (nI (I 2))) hx hb hts usX0 hown hK hP 2 (by decide) rfl rfl 2 (by decide) (hts _ gw_91) rfl dX0_eliminate_4 ?_
      refine b_ge_t (tgt := 84) hx hb dX0_eliminate_7 (by decide) (by omega) (by omega) ?_
      exact kx H locs ls d AN AL rfl hP hD hS
    | succ n ih =>
      intro q d AN AL H locs ls hn hd hP hD hS hl kx
      refine lv_iload_n hx hb dX0_eliminate_2 rfl (lv_at hl 0 rfl) ?_
      refine lv_aload_n hx hb dX0_eliminate_3 rfl (lv_at hl 1 rfl) ?_
      refine b_get (own := RX0) (C := RX0) (T := TX0) (N := 5) (ci := 0) (v := .int (nI (I 2))) hx hb hts usX0 hown hK hP 2 (by decide) rfl rfl 2 (by decide) (hts _ gw_91) rfl dX0_eliminate_4 ?_
      refine b_ge_f (tgt := 84) hx hb dX0_eliminate_7 (by decide) (by omega) (by omega) ?_
      refine lv_aload_n hx hb dX0_eliminate_10 rfl (lv_at hl 1 rfl) ?_
      refine b_get (own := RX0) (C := RX0) (T := TX0) (N := 5) (ci := 0) (v := .int (nI d)) hx hb hts usX0 hown hK hP 2 (by decide) rfl rfl 4 (by decide) (hts _ gw_93) rfl dX0_eliminate_11 ?_
      refine lv_aload_n hx hb dX0_eliminate_14 rfl (lv_at hl 1 rfl) ?_
      refine b_get (own := RX0) (C := RX0) (T := TX0) (N := 5) (ci := 0) (v := .int (nI (I 3))) hx hb hts usX0 hown hK hP 2 (by decide) rfl rfl 3 (by decide) (hts _ gw_92) rfl dX0_eliminate_15 ?_
      by_cases hdh : d < I 3
      · refine b_ge_f (tgt := 84) hx hb dX0_eliminate_18 (by decide) (hdh) (by omega) ?_
        refine lv_aload_n hx hb dX0_eliminate_21 rfl (lv_at hl 1 rfl) ?_
        refine lv_iload_n hx hb dX0_eliminate_22 rfl (lv_at hl 0 rfl) ?_
        refine g_calli (va_runV (As := [.int (nI q)]) (rest := []) ⟨hx, hb, hml, hown, hts⟩ (ctX0_firstRowWith l D cs ad (up1 I 4 d) AN AI AL _ q h3 hd (by omega)) (cwV 1 hts (gi_V gw_164 gw_166 gw_3 gw_55 gw_167) rfl rfl rfl (by decide +kernel) ⟨Nat.le_of_ble_eq_true rfl, Nat.le_of_ble_eq_true rfl⟩) ⟨g_blind, va_recv hK hP (ci := 0) (q0 := 2) rfl (wm_at (by decide) rfl), g_pre hP hK hD hN⟩ rfl rfl hl.1 rfl (lv_room (Nat.le_of_ble_eq_true rfl)) dX0_eliminate_23 ⟨Nat.zero_le _, Nat.zero_le _⟩) hD hS hA (fun r u H locs hw hP hD hS => ?_)
        obtain ⟨rfl, hw2⟩ := hw
        have hP : va_P D vc (wT cs ad (up1 I 4 d) AN AI AL) H := hP
        have hD : va_D A (wT cs ad (up1 I 4 d) AN AI AL) := hD
        have hw2 : r = enc (fnd (fun k => AL (k + 11) q ≠ 0) (I 3 - d) d) := hw2
        cases hf : fnd (fun k => AL (k + 11) q ≠ 0) (I 3 - d) d with
        | none =>
          rw [hf] at hw2
          subst hw2
          refine lv_istore_n (lv' := [(2, .int (enc none)), (1, .int (nI q)), (0, .ref (ad 2))]) hx hb dX0_eliminate_26 rfl hl (by decide) rfl (fun ls hl => ?_)
          refine lv_iload_n hx hb dX0_eliminate_27 rfl (lv_at hl 0 rfl) ?_
          refine lv_if_lt (tgt := 78) hx hb dX0_eliminate_28 (by decide) (fun h => ?_) (fun h => ?_)
          · refine b_iinc (lv' := [(1, .int (nI (q + 1))), (2, .int (enc none)), (0, .ref (ad 2))]) hx hb dX0_eliminate_78 hl (k := 1) rfl (by decide) rfl (fun ls hl => ?_)
            refine lv_goto (tgt := 2) hx hb dX0_eliminate_81 (by decide) ?_
            rw [fo_s, estep_none (x := (d, AN, AL)) hdh hf] at kx
            exact ih (q + 1) d AN AL H locs ls (by omega) hd hP hD hS (lv_sub hl [0, 2] rfl) kx
          · exact absurd neg1_lt h
        | some k =>
          rw [hf] at hw2
          have hw2 : r = nI k := hw2
          subst hw2
          obtain ⟨g1, g2, g3, g4⟩ := fnd_some hf
          refine lv_istore_n (lv' := [(2, .int (nI k)), (1, .int (nI q)), (0, .ref (ad 2))]) hx hb dX0_eliminate_26 rfl hl (by decide) rfl (fun ls hl => ?_)
          refine lv_iload_n hx hb dX0_eliminate_27 rfl (lv_at hl 0 rfl) ?_
          refine lv_if_lt (tgt := 78) hx hb dX0_eliminate_28 (by decide) (fun h => ?_) (fun h => ?_)
          · exact absurd h (nI_pos (by omega))
          · refine lv_aload_n hx hb dX0_eliminate_31 rfl (lv_at hl 2 rfl) ?_
            refine lv_aload_n hx hb dX0_eliminate_32 rfl (lv_at hl 2 rfl) ?_
            refine b_get (own := RX0) (C := RX0) (T := TX0) (N := 5) (ci := 0) (v := .int (nI d)) hx hb hts usX0 hown hK hP 2 (by decide) rfl rfl 4 (by decide) (hts _ gw_93) rfl dX0_eliminate_33 ?_
            refine lv_iload_n hx hb dX0_eliminate_36 rfl (lv_at hl 0 rfl) ?_
            refine g_callv (va_runV (As := [.int (nI d), .int (nI k)]) (rest := []) ⟨hx, hb, hml, hown, hts⟩ (ctX0_exchange l D cs ad (up1 I 4 d) AN AI AL _ d k h2 (by omega) (by omega)) (cwV 2 hts (gi_V gw_168 gw_170 gw_4 gw_55 gw_171) rfl rfl rfl (by decide +kernel) ⟨Nat.le_of_ble_eq_true rfl, Nat.le_of_ble_eq_true rfl⟩) ⟨g_blind, va_recv hK hP (ci := 0) (q0 := 2) rfl (wm_at (by decide) rfl), g_pre hP hK hD hN⟩ rfl rfl hl.1 rfl (lv_room (Nat.le_of_ble_eq_true rfl)) dX0_eliminate_37 ⟨Nat.zero_le _, Nat.zero_le _⟩) hD hS hA (fun u H locs hw hP hD hS => ?_)
            obtain rfl := hw
            have hP : va_P D vc (wT cs ad (up1 I 4 d) AN AI (exch (I 2) d k AL)) H := hP
            have hD : va_D A (wT cs ad (up1 I 4 d) AN AI (exch (I 2) d k AL)) := hD
            refine lv_aload_n hx hb dX0_eliminate_40 rfl (lv_at hl 2 rfl) ?_
            refine lv_aload_n hx hb dX0_eliminate_41 rfl (lv_at hl 2 rfl) ?_
            refine b_get (own := RX0) (C := RX0) (T := TX0) (N := 5) (ci := 0) (v := .int (nI d)) hx hb hts usX0 hown hK hP 2 (by decide) rfl rfl 4 (by decide) (hts _ gw_93) rfl dX0_eliminate_42 ?_
            refine lv_iload_n hx hb dX0_eliminate_45 rfl (lv_at hl 1 rfl) ?_
            refine g_callv (va_runV (As := [.int (nI d), .int (nI q)]) (rest := []) ⟨hx, hb, hml, hown, hts⟩ (ctX0_makeAboveZero l D cs ad (up1 I 4 d) AN AI (exch (I 2) d k AL) _ d q h2 (by omega) (by omega)) (cwV 2 hts (gi_V gw_172 gw_174 gw_5 gw_55 gw_175) rfl rfl rfl (by decide +kernel) ⟨Nat.le_of_ble_eq_true rfl, Nat.le_of_ble_eq_true rfl⟩) ⟨g_blind, va_recv hK hP (ci := 0) (q0 := 2) rfl (wm_at (by decide) rfl), g_pre hP hK hD hN⟩ rfl rfl hl.1 rfl (lv_room (Nat.le_of_ble_eq_true rfl)) dX0_eliminate_46 ⟨Nat.zero_le _, Nat.zero_le _⟩) hD hS hA (fun u H locs hw hP hD hS => ?_)
            obtain rfl := hw
            have hP : va_P D vc (wT cs ad (up1 I 4 d) AN AI (mabz (I 2) d q (exch (I 2) d k AL))) H := hP
            have hD : va_D A (wT cs ad (up1 I 4 d) AN AI (mabz (I 2) d q (exch (I 2) d k AL))) := hD
            refine lv_aload_n hx hb dX0_eliminate_49 rfl (lv_at hl 2 rfl) ?_
            refine lv_aload_n hx hb dX0_eliminate_50 rfl (lv_at hl 2 rfl) ?_
            refine b_get (own := RX0) (C := RX0) (T := TX0) (N := 5) (ci := 0) (v := .int (nI d)) hx hb hts usX0 hown hK hP 2 (by decide) rfl rfl 4 (by decide) (hts _ gw_93) rfl dX0_eliminate_51 ?_
            refine lv_iload_n hx hb dX0_eliminate_54 rfl (lv_at hl 1 rfl) ?_
            refine g_callv (va_runV (As := [.int (nI d), .int (nI q)]) (rest := []) ⟨hx, hb, hml, hown, hts⟩ (ctX0_clearColumn l D cs ad (up1 I 4 d) AN AI (mabz (I 2) d q (exch (I 2) d k AL)) _ d q h2 h3 (by omega) (by omega)) (cwV 2 hts (gi_V gw_176 gw_178 gw_6 gw_55 gw_179) rfl rfl rfl (by decide +kernel) ⟨Nat.le_of_ble_eq_true rfl, Nat.le_of_ble_eq_true rfl⟩) ⟨g_blind, va_recv hK hP (ci := 0) (q0 := 2) rfl (wm_at (by decide) rfl), g_pre hP hK hD hN⟩ rfl rfl hl.1 rfl (lv_room (Nat.le_of_ble_eq_true rfl)) dX0_eliminate_55 ⟨Nat.zero_le _, Nat.zero_le _⟩) hD hS hA (fun u H locs hw hP hD hS => ?_)
            obtain rfl := hw
            have hP : va_P D vc (wT cs ad (up1 I 4 d) AN AI (clrc (I 2) (I 3) d q (mabz (I 2) d q (exch (I 2) d k AL)))) H := hP
            have hD : va_D A (wT cs ad (up1 I 4 d) AN AI (clrc (I 2) (I 3) d q (mabz (I 2) d q (exch (I 2) d k AL)))) := hD
            refine lv_aload_n hx hb dX0_eliminate_58 rfl (lv_at hl 2 rfl) ?_
            refine b_get (own := RX0) (C := RX0) (T := TX0) (N := 5) (ci := 0) (v := .ref (ad 5)) hx hb hts usX0 hown hK hP 2 (by decide) rfl rfl 1 (by decide) (hts _ gw_90) rfl dX0_eliminate_59 ?_
            refine lv_aload_n hx hb dX0_eliminate_62 rfl (lv_at hl 2 rfl) ?_
            refine b_get (own := RX0) (C := RX0) (T := TX0) (N := 5) (ci := 0) (v := .int (nI d)) hx hb hts usX0 hown hK hP 2 (by decide) rfl rfl 4 (by decide) (hts _ gw_93) rfl dX0_eliminate_63 ?_
            refine lv_iload_n hx hb dX0_eliminate_66 rfl (lv_at hl 1 rfl) ?_
            refine tD_st hx hb hK hP hD hS (by omega) dX0_eliminate_67 (fun H locs hP hD hS => ?_)
            refine lv_aload_n hx hb dX0_eliminate_68 rfl (lv_at hl 2 rfl) ?_
            refine lv_dup hx hb dX0_eliminate_69 rfl ?_
            refine b_get (own := RX0) (C := RX0) (T := TX0) (N := 5) (ci := 0) (v := .int (nI d)) hx hb hts usX0 hown hK hP 2 (by decide) rfl rfl 4 (by decide) (hts _ gw_93) rfl dX0_eliminate_70 ?_
            refine lv_iconst (v := nI 1) hx hb dX0_eliminate_73 (by decide) ?_
            refine b_addn hx hb dX0_eliminate_74 ?_
            refine b_put (own := RX0) (C := RX0) (T := TX0) (N := 5) (ci := 0) (v := .int (nI (d + 1))) hx hb hts usX0 tyX0 tyX0_ok nmX0 hown hK hP hD hS 2 (by decide) rfl rfl 4 (by decide) (hts _ gw_93) rfl rfl rfl (Nat.le_of_ble_eq_true rfl) dX0_eliminate_75 sT_d (fun H locs hP hD hS => ?_)
            rw [up1_1] at hP hD
            refine b_iinc (lv' := [(1, .int (nI (q + 1))), (2, .int (nI k)), (0, .ref (ad 2))]) hx hb dX0_eliminate_78 hl (k := 1) rfl (by decide) rfl (fun ls hl => ?_)
            refine lv_goto (tgt := 2) hx hb dX0_eliminate_81 (by decide) ?_
            rw [fo_s, estep_some (x := (d, AN, AL)) hdh hf] at kx
            exact ih (q + 1) (d + 1) _ _ H locs ls (by omega) (by omega) hP hD hS (lv_sub hl [0, 2] rfl) kx
      · refine b_ge_t (tgt := 84) hx hb dX0_eliminate_18 (by decide) (by omega) (by omega) ?_
        refine kx H locs ls d AN AL ?_ hP hD hS
        exact (fo_id (f := estep (I 2) (I 3)) (fun q => estep_out (x := (d, AN, AL)) hdh) (n + 1) q).symm
  rw [← up1_id (f := I) (k := 4)] at hP hD
  refine lp2 _ (I 2) 0 (I 4) AN AL _ _ ls (by omega) h43 hP hD hS (lv_sub hl [0, 1] rfl) (fun H locs ls d' AN' AL' he hP hD hS => ?_)
  exact g_vret hx hb hr hlocks (up1 I 4 d', AN', AI, AL') (by rw [← he]) hK hP hD hS dX0_eliminate_84

abbrev rmX0_freeUnknown : Room := { frames := 1, cells := 0, slots := 0, locals := 22 }
set_option maxHeartbeats 4000000 in
set_option maxRecDepth 100000 in
/-- freeUnknown -/
theorem ctX0_freeUnknown (l : Launch) (D : va_G) (cs : Nat → ClassId) (ad : Nat → Nat) (I : Nat → Nat) (AN : Nat → Nat → Nat) (AI : Nat → Nat → Int32) (AL : Nat → Nat → Int64) (sz : Nat) (k : Int32) (h2 : I 2 ≤ 4) (h4 : I 4 ≤ 7) (hdc : ∀ k, k < 7 → AN 5 k < 2 ^ 31) : Met l yX0_freeUnknown (Cond.code yX0_freeUnknown cX0_freeUnknown 4 (some FieldType.int) :: GW) rmX0_freeUnknown (va_Pc [.ref (ad 2), .int k] (gP D cs (wT cs ad I AN AI AL) sz)) (va_Qi (fun (r : Int32) (u : TS) => u = (I, AN, AI, AL) ∧ r = enc (fre AN (I 4) k (I 2) 0 0)) (gB D cs (va_A (wT cs ad I AN AI AL) sz) (wTs cs ad)) (va_A (wT cs ad I AN AI AL) sz)) 0 0 (va_A (wT cs ad I AN AI AL) sz) := by
  refine Met.ofW (cc := cX0_freeUnknown) (maxL := 4) (ret := (some FieldType.int)) (by decide) rfl ?_
  intro p e s m args below meth c s₁ B hml hv
  obtain ⟨rfl, hsz, hP, hK, hD0, hN⟩ := hv
  have hx := B.exec
  have hb := B.bytes
  have hr := B.returns
  have hts : ∀ w ∈ GW, w.before _ s = true := fun w h => atoms_spec (ws := Cond.code yX0_freeUnknown cX0_freeUnknown 4 (some FieldType.int) :: GW) B.pre w (List.mem_cons_of_mem _ h)
  have hown : s.vm.findClass RX0 = some m.cls := findClass_of_methodNamed B.named
  have hlocks := B.notSynchronized
  subst hsz
  have hD := hD0.self (sz := s.heap.size)
  generalize hAe : va_A (wT cs ad I AN AI AL) s.heap.size = A at hD ⊢
  have hA : ∀ q : Nat, s.heap.size ≤ q → A q := fun q h => by rw [← hAe]; exact Or.inr h
  have hS : va_S A s.heap s.heap [] := va_S.rf
  have hl := lv_entry [.ref (ad 2), .int k] (n := 4) (Nat.le_of_ble_eq_true rfl)
  rw [lg_entry_eq]
  generalize (lg_sl [.ref (ad 2), .int k] ++ List.replicate (4 - (lg_sl [.ref (ad 2), .int k]).length) Slot.unset).toArray = ls at hl ⊢
  have hl : lv_has ls 4 [(0, .ref (ad 2)), (1, .int k)] := hl
  generalize hargs : ([.ref (ad 2), .int k] : List Value).toArray = args at *
  show W p l e rmX0_freeUnknown s m args below meth c s.heap [] 0 0 _ (F0 m 0 ls [])
  refine lv_iconst (v := nI 0) hx hb dX0_freeUnknown_0 (by decide) ?_
  refine lv_istore_n (lv' := [(2, .int (nI 0)), (0, .ref (ad 2)), (1, .int k)]) hx hb dX0_freeUnknown_1 rfl hl (by decide) rfl (fun ls hl => ?_)
  refine lv_iconst (v := nI 0) hx hb dX0_freeUnknown_2 (by decide) ?_
  refine lv_istore_n (lv' := [(3, .int (nI 0)), (2, .int (nI 0)), (0, .ref (ad 2)), (1, .int k)]) hx hb dX0_freeUnknown_3 rfl hl (by decide) rfl (fun ls hl => ?_)
  have lp4 : ∀ (n u : Nat) (z : Nat) (H : Heap) (locs : List Loc) (ls : Array Slot), u + n = I 2 → va_P D vc (wT cs ad I AN AI AL) H → va_D A (wT cs ad I AN AI AL) → va_S A s.heap H locs → lv_has ls 4 [(3, .int (nI u)), (2, .int (nI z)), (0, .ref (ad 2)), (1, .int k)] → W p l e rmX0_freeUnknown s m args below meth c H locs 0 0 (MQ below (va_Qi (fun (r : Int32) (v9 : TS) => v9 = (I, AN, AI, AL) ∧ r = enc (fre AN (I 4) k n u z)) (gB D cs A (wTs cs ad)) A) args s 0 0 A) (F0 m 4 ls []) := by
    intro n
    induction n with
    | zero =>
      intro u z H locs ls hn hP hD hS hl
      have hi : u = I 2 := by omega
      refine lv_iload_n hx hb dX0_freeUnknown_4 rfl (lv_at hl 0 rfl) ?_
      refine lv_aload_n hx hb dX0_freeUnknown_5 rfl (lv_at hl 2 rfl) ?_
      refine b_get (own := RX0) (C := RX0) (T := TX0) (N := 5) (ci := 0) (v := .int (nI (I 2))) hx hb hts usX0 hown hK hP 2 (by decide) rfl rfl 2 (by decide) (hts _ gw_91) rfl dX0_freeUnknown_6 ?_
      refine b_ge_t (tgt := 36) hx hb dX0_freeUnknown_9 (by decide) (by omega) (by omega) ?_
      refine lv_iconst (v := -1) hx hb dX0_freeUnknown_36 (by decide) ?_
      exact g_iret hx hb hr hlocks (I, AN, AI, AL) (⟨rfl, rfl⟩) hK hP hD hS dX0_freeUnknown_37
    | succ n ih =>
      intro u z H locs ls hn hP hD hS hl
      have hi : u < I 2 := by omega
      refine lv_iload_n hx hb dX0_freeUnknown_4 rfl (lv_at hl 0 rfl) ?_
      refine lv_aload_n hx hb dX0_freeUnknown_5 rfl (lv_at hl 2 rfl) ?_
      refine b_get (own := RX0) (C := RX0) (T := TX0) (N := 5) (ci := 0) (v := .int (nI (I 2))) hx hb hts usX0 hown hK hP 2 (by decide) rfl rfl 2 (by decide) (hts _ gw_91) rfl dX0_freeUnknown_6 ?_
      refine b_ge_f (tgt := 36) hx hb dX0_freeUnknown_9 (by decide) (by omega) (by omega) ?_
      refine lv_aload_n hx hb dX0_freeUnknown_12 rfl (lv_at hl 2 rfl) ?_
      refine lv_iload_n hx hb dX0_freeUnknown_13 rfl (lv_at hl 0 rfl) ?_
      refine g_calli (va_runV (As := [.int (nI u)]) (rest := []) ⟨hx, hb, hml, hown, hts⟩ (ctX0_rowDeciding l D cs ad I AN AI AL _ u h4 hdc (by omega)) (cwV 1 hts (gi_V gw_206 gw_208 gw_10 gw_55 gw_209) rfl rfl rfl (by decide +kernel) ⟨Nat.le_of_ble_eq_true rfl, Nat.le_of_ble_eq_true rfl⟩) ⟨g_blind, va_recv hK hP (ci := 0) (q0 := 2) rfl (wm_at (by decide) rfl), g_pre hP hK hD hN⟩ rfl rfl hl.1 rfl (lv_room (Nat.le_of_ble_eq_true rfl)) dX0_freeUnknown_14 ⟨Nat.zero_le _, Nat.zero_le _⟩) hD hS hA (fun r u H locs hw hP hD hS => ?_)
      obtain ⟨rfl, rfl⟩ := hw
      have hP : va_P D vc (wT cs ad I AN AI AL) H := hP
      have hD : va_D A (wT cs ad I AN AI AL) := hD
      refine lv_if_ge (tgt := 30) hx hb dX0_freeUnknown_17 (by decide) (fun h => ?_) (fun h => ?_)
      · refine b_iinc (lv' := [(3, .int (nI (u + 1))), (2, .int (nI z)), (0, .ref (ad 2)), (1, .int k)]) hx hb dX0_freeUnknown_30 hl (k := 0) rfl (by decide) rfl (fun ls hl => ?_)
        refine lv_goto (tgt := 4) hx hb dX0_freeUnknown_33 (by decide) ?_
        have e1 : fre AN (I 4) k (n + 1) u z = fre AN (I 4) k n (u + 1) z := if_neg (fun q => by rw [q] at h; exact absurd h (by decide))
        rw [e1]
        exact ih (u + 1) z H locs ls (by omega) hP hD hS (lv_sub hl [0, 1, 2, 3] rfl)
      · have hno : rdec AN (I 4) u = none := by
          cases hq : rdec AN (I 4) u with
          | none => rfl
          | some j => exact absurd (by rw [hq]; exact nI_pos' (by have := (fnd_some hq).2.1; omega)) h
        refine lv_iload_n hx hb dX0_freeUnknown_20 rfl (lv_at hl 1 rfl) ?_
        refine lv_iload_n hx hb dX0_freeUnknown_21 rfl (lv_at hl 3 rfl) ?_
        refine lv_icmp_ne (tgt := 27) hx hb dX0_freeUnknown_22 (by decide) (fun h2 => ?_) (fun h2 => ?_)
        · refine b_iinc (lv' := [(2, .int (nI (z + 1))), (3, .int (nI u)), (0, .ref (ad 2)), (1, .int k)]) hx hb dX0_freeUnknown_27 hl (k := 1) rfl (by decide) rfl (fun ls hl => ?_)
          refine b_iinc (lv' := [(3, .int (nI (u + 1))), (2, .int (nI (z + 1))), (0, .ref (ad 2)), (1, .int k)]) hx hb dX0_freeUnknown_30 hl (k := 1) rfl (by decide) rfl (fun ls hl => ?_)
          refine lv_goto (tgt := 4) hx hb dX0_freeUnknown_33 (by decide) ?_
          have e1 : fre AN (I 4) k (n + 1) u z = fre AN (I 4) k n (u + 1) (z + 1) := (if_pos hno).trans (if_neg h2)
          rw [e1]
          exact ih (u + 1) (z + 1) H locs ls (by omega) hP hD hS (lv_sub hl [0, 1, 2, 3] rfl)
        · refine lv_iload_n hx hb dX0_freeUnknown_25 rfl (lv_at hl 0 rfl) ?_
          exact g_iret hx hb hr hlocks (I, AN, AI, AL) (⟨rfl, by rw [show fre AN (I 4) k (n + 1) u z = some u from (if_pos hno).trans (if_pos h2)]; rfl⟩) hK hP hD hS dX0_freeUnknown_26
  exact lp4 ((I 2) - 0) 0 0 _ _ ls (by omega) hP hD hS (lv_sub hl [0, 1, 2, 3] rfl)

abbrev rmX0_plainPart : Room := { frames := 3, cells := 0, slots := 0, locals := 79 }
set_option maxHeartbeats 4000000 in
set_option maxRecDepth 100000 in
/-- plainPart -/
theorem ctX0_plainPart (l : Launch) (D : va_G) (cs : Nat → ClassId) (ad : Nat → Nat) (I : Nat → Nat) (AN : Nat → Nat → Nat) (AI : Nat → Nat → Int32) (AL : Nat → Nat → Int64) (sz : Nat) (u : Nat) (q : Int32) (h2 : I 2 ≤ 4) (h4 : I 4 ≤ 7) (hdc : ∀ k, k < 7 → AN 5 k < 2 ^ 31) (hu : u < 5) : Met l yX0_plainPart (Cond.code yX0_plainPart cX0_plainPart 4 (some FieldType.long) :: GW) rmX0_plainPart (va_Pc [.ref (ad 2), .int (nI u), .int q] (gP D cs (wT cs ad I AN AI AL) sz)) (va_Ql (fun (r : Int64) (v : TS) => v = (I, AN, AI, AL) ∧ r = ppart AN AL (I 4) (I 2) u q) (gB D cs (va_A (wT cs ad I AN AI AL) sz) (wTs cs ad)) (va_A (wT cs ad I AN AI AL) sz)) 0 0 (va_A (wT cs ad I AN AI AL) sz) := by
  refine Met.ofW (cc := cX0_plainPart) (maxL := 4) (ret := (some FieldType.long)) (by decide) rfl ?_
  intro p e s m args below meth c s₁ B hml hv
  obtain ⟨rfl, hsz, hP, hK, hD0, hN⟩ := hv
  have hx := B.exec
  have hb := B.bytes
  have hr := B.returns
  have hts : ∀ w ∈ GW, w.before _ s = true := fun w h => atoms_spec (ws := Cond.code yX0_plainPart cX0_plainPart 4 (some FieldType.long) :: GW) B.pre w (List.mem_cons_of_mem _ h)
  have hown : s.vm.findClass RX0 = some m.cls := findClass_of_methodNamed B.named
  have hlocks := B.notSynchronized
  subst hsz
  have hD := hD0.self (sz := s.heap.size)
  generalize hAe : va_A (wT cs ad I AN AI AL) s.heap.size = A at hD ⊢
  have hA : ∀ q : Nat, s.heap.size ≤ q → A q := fun q h => by rw [← hAe]; exact Or.inr h
  have hS : va_S A s.heap s.heap [] := va_S.rf
  have hl := lv_entry [.ref (ad 2), .int (nI u), .int q] (n := 4) (Nat.le_of_ble_eq_true rfl)
  rw [lg_entry_eq]
  generalize (lg_sl [.ref (ad 2), .int (nI u), .int q] ++ List.replicate (4 - (lg_sl [.ref (ad 2), .int (nI u), .int q]).length) Slot.unset).toArray = ls at hl ⊢
  have hl : lv_has ls 4 [(0, .ref (ad 2)), (1, .int (nI u)), (2, .int q)] := hl
  generalize hargs : ([.ref (ad 2), .int (nI u), .int q] : List Value).toArray = args at *
  show W p l e rmX0_plainPart s m args below meth c s.heap [] 0 0 _ (F0 m 0 ls [])
  refine lv_aload_n hx hb dX0_plainPart_0 rfl (lv_at hl 0 rfl) ?_
  refine lv_iload_n hx hb dX0_plainPart_1 rfl (lv_at hl 1 rfl) ?_
  refine g_calli (va_runV (As := [.int (nI u)]) (rest := []) ⟨hx, hb, hml, hown, hts⟩ (ctX0_rowDeciding l D cs ad I AN AI AL _ u h4 hdc (by omega)) (cwV 1 hts (gi_V gw_206 gw_208 gw_10 gw_55 gw_209) rfl rfl rfl (by decide +kernel) ⟨Nat.le_of_ble_eq_true rfl, Nat.le_of_ble_eq_true rfl⟩) ⟨g_blind, va_recv hK hP (ci := 0) (q0 := 2) rfl (wm_at (by decide) rfl), g_pre hP hK hD hN⟩ rfl rfl hl.1 rfl (lv_room (Nat.le_of_ble_eq_true rfl)) dX0_plainPart_2 ⟨Nat.zero_le _, Nat.zero_le _⟩) hD hS hA (fun r u H locs hw hP hD hS => ?_)
  obtain ⟨rfl, hw2⟩ := hw
  have hP : va_P D vc (wT cs ad I AN AI AL) H := hP
  have hD : va_D A (wT cs ad I AN AI AL) := hD
  cases hf : rdec AN (I 4) u with
  | none =>
    rw [hf] at hw2
    subst hw2
    refine lv_istore_n (lv' := [(3, .int (enc none)), (0, .ref (ad 2)), (1, .int (nI u)), (2, .int q)]) hx hb dX0_plainPart_5 rfl hl (by decide) rfl (fun ls hl => ?_)
    refine lv_iload_n hx hb dX0_plainPart_6 rfl (lv_at hl 0 rfl) ?_
    refine lv_if_ge (tgt := 17) hx hb dX0_plainPart_7 (by decide) (fun h => ?_) (fun h => ?_)
    · exact absurd h (by decide)
    · refine lv_lconst (v := 0) hx hb dX0_plainPart_10 (by decide) ?_
      refine lv_lconst (v := 1) hx hb dX0_plainPart_11 (by decide) ?_
      refine lv_iload_n hx hb dX0_plainPart_12 rfl (lv_at hl 3 rfl) ?_
      refine g_calll (va_runSN (As := [.long 0, .long 1, .int q]) (rest := []) ⟨hx, hb, hml, hown, hts⟩ (ctX2_lowestPart l D cs ad I AN AI AL _ 0 1 q) ⟨va_cnB 3 hts (gi_C gw_425) rfl rfl rfl (hN _ (by decide +kernel) : va_Nw (Cond.methodLinkNest "TriangularSystems$Elimination" 64 ⟨"TriangularSystems", "lowestPart", "(JJI)J"⟩ "TriangularSystems") s) (hts _ gw_53) (by decide +kernel) ⟨Nat.le_of_ble_eq_true rfl, Nat.le_of_ble_eq_true rfl⟩, hts _ gw_424, trivial⟩ ⟨g_blind, g_pre hP hK hD hN⟩ rfl rfl hl.1 rfl (lv_room (Nat.le_of_ble_eq_true rfl)) dX0_plainPart_13 ⟨Nat.zero_le _, Nat.zero_le _⟩) hD hS hA (fun r u H locs hw hP hD hS => ?_)
      obtain ⟨rfl, rfl⟩ := hw
      have hP : va_P D vc (wT cs ad I AN AI AL) H := hP
      have hD : va_D A (wT cs ad I AN AI AL) := hD
      exact g_lret hx hb hr hlocks (I, AN, AI, AL) (⟨rfl, by unfold ppart; rw [hf]⟩) hK hP hD hS dX0_plainPart_16
  | some k =>
    rw [hf] at hw2
    have hw2 : r = nI k := hw2
    subst hw2
    obtain ⟨g1, g2, g3, g4⟩ := fnd_some hf
    refine lv_istore_n (lv' := [(3, .int (nI k)), (0, .ref (ad 2)), (1, .int (nI u)), (2, .int q)]) hx hb dX0_plainPart_5 rfl hl (by decide) rfl (fun ls hl => ?_)
    refine lv_iload_n hx hb dX0_plainPart_6 rfl (lv_at hl 0 rfl) ?_
    refine lv_if_ge (tgt := 17) hx hb dX0_plainPart_7 (by decide) (fun h => ?_) (fun h => ?_)
    · refine lv_aload_n hx hb dX0_plainPart_17 rfl (lv_at hl 1 rfl) ?_
      refine b_get (own := RX0) (C := RX0) (T := TX0) (N := 5) (ci := 0) (v := .ref (ad 4)) hx hb hts usX0 hown hK hP 2 (by decide) rfl rfl 0 (by decide) (hts _ gw_88) rfl dX0_plainPart_18 ?_
      refine lv_iload_n hx hb dX0_plainPart_21 rfl (lv_at hl 0 rfl) ?_
      refine tE_r hx hb hK hP (by omega) dX0_plainPart_22 ?_
      refine lv_aload_n hx hb dX0_plainPart_23 rfl (lv_at hl 1 rfl) ?_
      refine b_get (own := RX0) (C := RX0) (T := TX0) (N := 5) (ci := 0) (v := .int (nI (I 2))) hx hb hts usX0 hown hK hP 2 (by decide) rfl rfl 2 (by decide) (hts _ gw_91) rfl dX0_plainPart_24 ?_
      refine tE_ld (i := k) hx hb hK hP (by omega) (by omega) dX0_plainPart_27 ?_
      refine lv_aload_n hx hb dX0_plainPart_28 rfl (lv_at hl 1 rfl) ?_
      refine b_get (own := RX0) (C := RX0) (T := TX0) (N := 5) (ci := 0) (v := .ref (ad 4)) hx hb hts usX0 hown hK hP 2 (by decide) rfl rfl 0 (by decide) (hts _ gw_88) rfl dX0_plainPart_29 ?_
      refine lv_iload_n hx hb dX0_plainPart_32 rfl (lv_at hl 0 rfl) ?_
      refine tE_r hx hb hK hP (by omega) dX0_plainPart_33 ?_
      refine lv_iload_n hx hb dX0_plainPart_34 rfl (lv_at hl 2 rfl) ?_
      refine tE_ld (i := k) hx hb hK hP (by omega) (by omega) dX0_plainPart_35 ?_
      refine lv_iload_n hx hb dX0_plainPart_36 rfl (lv_at hl 3 rfl) ?_
      refine g_calll (va_runSN (As := [.long (AL (k + 11) (I 2)), .long (AL (k + 11) u), .int q]) (rest := []) ⟨hx, hb, hml, hown, hts⟩ (ctX2_lowestPart l D cs ad I AN AI AL _ (AL (k + 11) (I 2)) (AL (k + 11) u) q) ⟨va_cnB 3 hts (gi_C gw_425) rfl rfl rfl (hN _ (by decide +kernel) : va_Nw (Cond.methodLinkNest "TriangularSystems$Elimination" 64 ⟨"TriangularSystems", "lowestPart", "(JJI)J"⟩ "TriangularSystems") s) (hts _ gw_53) (by decide +kernel) ⟨Nat.le_of_ble_eq_true rfl, Nat.le_of_ble_eq_true rfl⟩, hts _ gw_424, trivial⟩ ⟨g_blind, g_pre hP hK hD hN⟩ rfl rfl hl.1 rfl (lv_room (Nat.le_of_ble_eq_true rfl)) dX0_plainPart_37 ⟨Nat.zero_le _, Nat.zero_le _⟩) hD hS hA (fun r u H locs hw hP hD hS => ?_)
      obtain ⟨rfl, rfl⟩ := hw
      have hP : va_P D vc (wT cs ad I AN AI AL) H := hP
      have hD : va_D A (wT cs ad I AN AI AL) := hD
      exact g_lret hx hb hr hlocks (I, AN, AI, AL) (⟨rfl, by unfold ppart; rw [hf]⟩) hK hP hD hS dX0_plainPart_40
    · exact absurd (nI_pos' (by omega)) h

abbrev rmX0_directionPart : Room := { frames := 3, cells := 0, slots := 0, locals := 79 }
set_option maxHeartbeats 4000000 in
set_option maxRecDepth 100000 in
/-- directionPart -/
theorem ctX0_directionPart (l : Launch) (D : va_G) (cs : Nat → ClassId) (ad : Nat → Nat) (I : Nat → Nat) (AN : Nat → Nat → Nat) (AI : Nat → Nat → Int32) (AL : Nat → Nat → Int64) (sz : Nat) (g u : Nat) (q : Int32) (h4 : I 4 ≤ 7) (hdc : ∀ k, k < 7 → AN 5 k < 2 ^ 31) (hu : u < 5) (hg : g < 5) : Met l yX0_directionPart (Cond.code yX0_directionPart cX0_directionPart 5 (some FieldType.long) :: GW) rmX0_directionPart (va_Pc [.ref (ad 2), .int (nI g), .int (nI u), .int q] (gP D cs (wT cs ad I AN AI AL) sz)) (va_Ql (fun (r : Int64) (v : TS) => v = (I, AN, AI, AL) ∧ r = dpart AN AL (I 4) g u q) (gB D cs (va_A (wT cs ad I AN AI AL) sz) (wTs cs ad)) (va_A (wT cs ad I AN AI AL) sz)) 0 0 (va_A (wT cs ad I AN AI AL) sz) := by
  refine Met.ofW (cc := cX0_directionPart) (maxL := 5) (ret := (some FieldType.long)) (by decide) rfl ?_
  intro p e s m args below meth c s₁ B hml hv
  obtain ⟨rfl, hsz, hP, hK, hD0, hN⟩ := hv
  have hx := B.exec
  have hb := B.bytes
  have hr := B.returns
  have hts : ∀ w ∈ GW, w.before _ s = true := fun w h => atoms_spec (ws := Cond.code yX0_directionPart cX0_directionPart 5 (some FieldType.long) :: GW) B.pre w (List.mem_cons_of_mem _ h)
  have hown : s.vm.findClass RX0 = some m.cls := findClass_of_methodNamed B.named
  have hlocks := B.notSynchronized
  subst hsz
  have hD := hD0.self (sz := s.heap.size)
  generalize hAe : va_A (wT cs ad I AN AI AL) s.heap.size = A at hD ⊢
  have hA : ∀ q : Nat, s.heap.size ≤ q → A q := fun q h => by rw [← hAe]; exact Or.inr h
  have hS : va_S A s.heap s.heap [] := va_S.rf
  have hl := lv_entry [.ref (ad 2), .int (nI g), .int (nI u), .int q] (n := 5) (Nat.le_of_ble_eq_true rfl)
  rw [lg_entry_eq]
  generalize (lg_sl [.ref (ad 2), .int (nI g), .int (nI u), .int q] ++ List.replicate (5 - (lg_sl [.ref (ad 2), .int (nI g), .int (nI u), .int q]).length) Slot.unset).toArray = ls at hl ⊢
  have hl : lv_has ls 5 [(0, .ref (ad 2)), (1, .int (nI g)), (2, .int (nI u)), (3, .int q)] := hl
  generalize hargs : ([.ref (ad 2), .int (nI g), .int (nI u), .int q] : List Value).toArray = args at *
  show W p l e rmX0_directionPart s m args below meth c s.heap [] 0 0 _ (F0 m 0 ls [])
  refine lv_aload_n hx hb dX0_directionPart_0 rfl (lv_at hl 0 rfl) ?_
  refine lv_iload_n hx hb dX0_directionPart_1 rfl (lv_at hl 2 rfl) ?_
  refine g_calli (va_runV (As := [.int (nI u)]) (rest := []) ⟨hx, hb, hml, hown, hts⟩ (ctX0_rowDeciding l D cs ad I AN AI AL _ u h4 hdc (by omega)) (cwV 1 hts (gi_V gw_206 gw_208 gw_10 gw_55 gw_209) rfl rfl rfl (by decide +kernel) ⟨Nat.le_of_ble_eq_true rfl, Nat.le_of_ble_eq_true rfl⟩) ⟨g_blind, va_recv hK hP (ci := 0) (q0 := 2) rfl (wm_at (by decide) rfl), g_pre hP hK hD hN⟩ rfl rfl hl.1 rfl (lv_room (Nat.le_of_ble_eq_true rfl)) dX0_directionPart_2 ⟨Nat.zero_le _, Nat.zero_le _⟩) hD hS hA (fun r u H locs hw hP hD hS => ?_)
  obtain ⟨rfl, hw2⟩ := hw
  have hP : va_P D vc (wT cs ad I AN AI AL) H := hP
  have hD : va_D A (wT cs ad I AN AI AL) := hD
  cases hf : rdec AN (I 4) u with
  | none =>
    rw [hf] at hw2
    subst hw2
    refine lv_istore (lv' := [(4, .int (enc none)), (0, .ref (ad 2)), (1, .int (nI g)), (2, .int (nI u)), (3, .int q)]) hx hb dX0_directionPart_5 hl (by decide) rfl (fun ls hl => ?_)
    refine lv_iload hx hb dX0_directionPart_7 (lv_at hl 0 rfl) ?_
    refine lv_if_ge (tgt := 28) hx hb dX0_directionPart_9 (by decide) (fun h => ?_) (fun h => ?_)
    · exact absurd h (by decide)
    · refine lv_iload_n hx hb dX0_directionPart_12 rfl (lv_at hl 3 rfl) ?_
      refine lv_iload_n hx hb dX0_directionPart_13 rfl (lv_at hl 2 rfl) ?_
      by_cases hug : u = g
      · refine b_ne_f (tgt := 21) hx hb dX0_directionPart_14 (by decide) (hug)  ?_
        refine lv_lconst (v := 1) hx hb dX0_directionPart_17 (by decide) ?_
        refine lv_goto (tgt := 22) hx hb dX0_directionPart_18 (by decide) ?_
        refine lv_lconst (v := 1) hx hb dX0_directionPart_22 (by decide) ?_
        refine lv_iload_n hx hb dX0_directionPart_23 rfl (lv_at hl 4 rfl) ?_
        refine g_calll (va_runSN (As := [.long 1, .long 1, .int q]) (rest := []) ⟨hx, hb, hml, hown, hts⟩ (ctX2_lowestPart l D cs ad I AN AI AL _ 1 1 q) ⟨va_cnB 3 hts (gi_C gw_425) rfl rfl rfl (hN _ (by decide +kernel) : va_Nw (Cond.methodLinkNest "TriangularSystems$Elimination" 64 ⟨"TriangularSystems", "lowestPart", "(JJI)J"⟩ "TriangularSystems") s) (hts _ gw_53) (by decide +kernel) ⟨Nat.le_of_ble_eq_true rfl, Nat.le_of_ble_eq_true rfl⟩, hts _ gw_424, trivial⟩ ⟨g_blind, g_pre hP hK hD hN⟩ rfl rfl hl.1 rfl (lv_room (Nat.le_of_ble_eq_true rfl)) dX0_directionPart_24 ⟨Nat.zero_le _, Nat.zero_le _⟩) hD hS hA (fun r u H locs hw hP hD hS => ?_)
        obtain ⟨rfl, rfl⟩ := hw
        have hP : va_P D vc (wT cs ad I AN AI AL) H := hP
        have hD : va_D A (wT cs ad I AN AI AL) := hD
        exact g_lret hx hb hr hlocks (I, AN, AI, AL) (⟨rfl, by unfold dpart; rw [hf]; show _ = lp64 (if u = g then 1 else 0) 1 q; rw [if_pos hug]⟩) hK hP hD hS dX0_directionPart_27
      · refine b_ne_t (tgt := 21) hx hb dX0_directionPart_14 (by decide) (hug) (by omega) (by omega) ?_
        refine lv_lconst (v := 0) hx hb dX0_directionPart_21 (by decide) ?_
        refine lv_lconst (v := 1) hx hb dX0_directionPart_22 (by decide) ?_
        refine lv_iload_n hx hb dX0_directionPart_23 rfl (lv_at hl 4 rfl) ?_
        refine g_calll (va_runSN (As := [.long 0, .long 1, .int q]) (rest := []) ⟨hx, hb, hml, hown, hts⟩ (ctX2_lowestPart l D cs ad I AN AI AL _ 0 1 q) ⟨va_cnB 3 hts (gi_C gw_425) rfl rfl rfl (hN _ (by decide +kernel) : va_Nw (Cond.methodLinkNest "TriangularSystems$Elimination" 64 ⟨"TriangularSystems", "lowestPart", "(JJI)J"⟩ "TriangularSystems") s) (hts _ gw_53) (by decide +kernel) ⟨Nat.le_of_ble_eq_true rfl, Nat.le_of_ble_eq_true rfl⟩, hts _ gw_424, trivial⟩ ⟨g_blind, g_pre hP hK hD hN⟩ rfl rfl hl.1 rfl (lv_room (Nat.le_of_ble_eq_true rfl)) dX0_directionPart_24 ⟨Nat.zero_le _, Nat.zero_le _⟩) hD hS hA (fun r u H locs hw hP hD hS => ?_)
        obtain ⟨rfl, rfl⟩ := hw
        have hP : va_P D vc (wT cs ad I AN AI AL) H := hP
        have hD : va_D A (wT cs ad I AN AI AL) := hD
        exact g_lret hx hb hr hlocks (I, AN, AI, AL) (⟨rfl, by unfold dpart; rw [hf]; show _ = lp64 (if u = g then 1 else 0) 1 q; rw [if_neg hug]⟩) hK hP hD hS dX0_directionPart_27
  | some k =>
    rw [hf] at hw2
    have hw2 : r = nI k := hw2
    subst hw2
    obtain ⟨g1, g2, g3, g4⟩ := fnd_some hf
    refine lv_istore (lv' := [(4, .int (nI k)), (0, .ref (ad 2)), (1, .int (nI g)), (2, .int (nI u)), (3, .int q)]) hx hb dX0_directionPart_5 hl (by decide) rfl (fun ls hl => ?_)
    refine lv_iload hx hb dX0_directionPart_7 (lv_at hl 0 rfl) ?_
    refine lv_if_ge (tgt := 28) hx hb dX0_directionPart_9 (by decide) (fun h => ?_) (fun h => ?_)
    · refine lv_aload_n hx hb dX0_directionPart_28 rfl (lv_at hl 1 rfl) ?_
      refine b_get (own := RX0) (C := RX0) (T := TX0) (N := 5) (ci := 0) (v := .ref (ad 4)) hx hb hts usX0 hown hK hP 2 (by decide) rfl rfl 0 (by decide) (hts _ gw_88) rfl dX0_directionPart_29 ?_
      refine lv_iload hx hb dX0_directionPart_32 (lv_at hl 0 rfl) ?_
      refine tE_r hx hb hK hP (by omega) dX0_directionPart_34 ?_
      refine lv_iload_n hx hb dX0_directionPart_35 rfl (lv_at hl 2 rfl) ?_
      refine tE_ld (i := k) hx hb hK hP (by omega) (by omega) dX0_directionPart_36 ?_
      refine lv_lneg hx hb dX0_directionPart_37 ?_
      refine lv_aload_n hx hb dX0_directionPart_38 rfl (lv_at hl 1 rfl) ?_
      refine b_get (own := RX0) (C := RX0) (T := TX0) (N := 5) (ci := 0) (v := .ref (ad 4)) hx hb hts usX0 hown hK hP 2 (by decide) rfl rfl 0 (by decide) (hts _ gw_88) rfl dX0_directionPart_39 ?_
      refine lv_iload hx hb dX0_directionPart_42 (lv_at hl 0 rfl) ?_
      refine tE_r hx hb hK hP (by omega) dX0_directionPart_44 ?_
      refine lv_iload_n hx hb dX0_directionPart_45 rfl (lv_at hl 3 rfl) ?_
      refine tE_ld (i := k) hx hb hK hP (by omega) (by omega) dX0_directionPart_46 ?_
      refine lv_iload_n hx hb dX0_directionPart_47 rfl (lv_at hl 4 rfl) ?_
      refine g_calll (va_runSN (As := [.long (-(AL (k + 11) g)), .long (AL (k + 11) u), .int q]) (rest := []) ⟨hx, hb, hml, hown, hts⟩ (ctX2_lowestPart l D cs ad I AN AI AL _ (-(AL (k + 11) g)) (AL (k + 11) u) q) ⟨va_cnB 3 hts (gi_C gw_425) rfl rfl rfl (hN _ (by decide +kernel) : va_Nw (Cond.methodLinkNest "TriangularSystems$Elimination" 64 ⟨"TriangularSystems", "lowestPart", "(JJI)J"⟩ "TriangularSystems") s) (hts _ gw_53) (by decide +kernel) ⟨Nat.le_of_ble_eq_true rfl, Nat.le_of_ble_eq_true rfl⟩, hts _ gw_424, trivial⟩ ⟨g_blind, g_pre hP hK hD hN⟩ rfl rfl hl.1 rfl (lv_room (Nat.le_of_ble_eq_true rfl)) dX0_directionPart_48 ⟨Nat.zero_le _, Nat.zero_le _⟩) hD hS hA (fun r u H locs hw hP hD hS => ?_)
      obtain ⟨rfl, rfl⟩ := hw
      have hP : va_P D vc (wT cs ad I AN AI AL) H := hP
      have hD : va_D A (wT cs ad I AN AI AL) := hD
      exact g_lret hx hb hr hlocks (I, AN, AI, AL) (⟨rfl, by unfold dpart; rw [hf]⟩) hK hP hD hS dX0_directionPart_51
    · exact absurd (nI_pos' (by omega)) h
end
section
/-- Math.floorDiv -/
def fdiv64 (x y : Int64) : Int64 := if (x ^^^ y) < 0 ∧ ¬ x / y * y = x then x / y - 1 else x / y

abbrev rmJ9_floorDiv : Room := { frames := 0, cells := 0, slots := 0, locals := 0 }
set_option maxHeartbeats 4000000 in
set_option maxRecDepth 100000 in
/-- floorDiv -/
theorem ctJ9_floorDiv (l : Launch) (D : va_G) (cs : Nat → ClassId) (ad : Nat → Nat) (I : Nat → Nat) (AN : Nat → Nat → Nat) (AI : Nat → Nat → Int32) (AL : Nat → Nat → Int64) (sz : Nat) (x y : Int64) (hy : ¬ y = 0) : Met l yJ9_floorDiv (Cond.code yJ9_floorDiv cJ9_floorDiv 6 (some FieldType.long) :: GW) rmJ9_floorDiv (va_Pc [.long x, .long y] (gP D cs (wT cs ad I AN AI AL) sz)) (va_Ql (fun (r : Int64) (u : TS) => u = (I, AN, AI, AL) ∧ r = fdiv64 x y) (gB D cs (va_A (wT cs ad I AN AI AL) sz) (wTs cs ad)) (va_A (wT cs ad I AN AI AL) sz)) 0 0 (va_A (wT cs ad I AN AI AL) sz) := by
  refine va_MetF (cc := cJ9_floorDiv) (maxL := 6) (ret := (some FieldType.long)) (by decide +kernel) rfl ?_
  intro p e s m args below meth c s₁ B hml hv
  obtain ⟨rfl, hsz, hP, hK, hD0, hN⟩ := hv
  have hx := B.exec
  have hb := B.bytes
  have hr := B.returns
  have hts : ∀ w ∈ GW, w.before _ s = true := fun w h => atoms_spec (ws := Cond.code yJ9_floorDiv cJ9_floorDiv 6 (some FieldType.long) :: GW) B.pre w (List.mem_cons_of_mem _ h)
  have hown : s.vm.findClass RJ9 = some m.cls := findClass_of_methodNamed B.named
  have hlocks := B.notSynchronized
  subst hsz
  have hD := hD0.self (sz := s.heap.size)
  generalize hAe : va_A (wT cs ad I AN AI AL) s.heap.size = A at hD ⊢
  have hA : ∀ q : Nat, s.heap.size ≤ q → A q := fun q h => by rw [← hAe]; exact Or.inr h
  have hS : va_S A s.heap s.heap [] := va_S.rf
  have hl := lv_entry [.long x, .long y] (n := 6) (Nat.le_of_ble_eq_true rfl)
  rw [lg_entry_eq]
  generalize (lg_sl [.long x, .long y] ++ List.replicate (6 - (lg_sl [.long x, .long y]).length) Slot.unset).toArray = ls at hl ⊢
  have hl : lv_has ls 6 [(0, .long x), (2, .long y)] := hl
  generalize hargs : ([.long x, .long y] : List Value).toArray = args at *
  show W p l e rmJ9_floorDiv s m args below meth c s.heap [] 0 0 _ (F0 m 0 ls [])
  refine lv_lload_n hx hb dJ9_floorDiv_0 rfl (lv_at hl 0 rfl) ?_
  refine lv_lload_n hx hb dJ9_floorDiv_1 rfl (lv_at hl 1 rfl) ?_
  refine lv_ldiv hx hb dJ9_floorDiv_2 (hy) ?_
  refine lv_lstore (lv' := [(4, .long (x / y)), (0, .long x), (2, .long y)]) hx hb dJ9_floorDiv_3 hl (by decide) rfl (fun ls hl => ?_)
  refine lv_lload_n hx hb dJ9_floorDiv_5 rfl (lv_at hl 1 rfl) ?_
  refine lv_lload_n hx hb dJ9_floorDiv_6 rfl (lv_at hl 2 rfl) ?_
  refine lv_lxor hx hb dJ9_floorDiv_7 ?_
  refine lv_lconst (v := 0) hx hb dJ9_floorDiv_8 (by decide) ?_
  refine b_lcge (tgt := 27) hx hb dJ9_floorDiv_9 dJ9_floorDiv_10 (by decide) (fun h1 => ?_) (fun h1 => ?_)
  · refine lv_lload hx hb dJ9_floorDiv_27 (lv_at hl 0 rfl) ?_
    exact g_lret hx hb hr hlocks (I, AN, AI, AL) (⟨rfl, by unfold fdiv64; rw [if_neg (fun z => h1 z.1)]⟩) hK hP hD hS dJ9_floorDiv_29
  · refine lv_lload hx hb dJ9_floorDiv_13 (lv_at hl 0 rfl) ?_
    refine lv_lload_n hx hb dJ9_floorDiv_15 rfl (lv_at hl 2 rfl) ?_
    refine lv_lmul hx hb dJ9_floorDiv_16 ?_
    refine lv_lload_n hx hb dJ9_floorDiv_17 rfl (lv_at hl 1 rfl) ?_
    refine b_lceq (tgt := 27) hx hb dJ9_floorDiv_18 dJ9_floorDiv_19 (by decide) (fun h2 => ?_) (fun h2 => ?_)
    · refine lv_lload hx hb dJ9_floorDiv_27 (lv_at hl 0 rfl) ?_
      exact g_lret hx hb hr hlocks (I, AN, AI, AL) (⟨rfl, by unfold fdiv64; rw [if_neg (fun z => z.2 h2)]⟩) hK hP hD hS dJ9_floorDiv_29
    · refine lv_lload hx hb dJ9_floorDiv_22 (lv_at hl 0 rfl) ?_
      refine lv_lconst (v := 1) hx hb dJ9_floorDiv_24 (by decide) ?_
      refine lv_lsub hx hb dJ9_floorDiv_25 ?_
      exact g_lret hx hb hr hlocks (I, AN, AI, AL) (⟨rfl, by unfold fdiv64; rw [if_pos ⟨h1, h2⟩]⟩) hK hP hD hS dJ9_floorDiv_26

def lneg (t : Nat) (AL : Nat → Nat → Int64) : Nat → Nat → Int64 := fo (fun p X => up2 X (t + 18) p (-X (t + 18) p)) 6 0 AL
def lexc (a b : Nat) (AL : Nat → Nat → Int64) : Nat → Nat → Int64 := fo (fun p X => up2 (up2 X (a + 18) p (X (b + 18) p)) (b + 18) p (X (a + 18) p)) 6 0 AL
def lsbt (a b : Nat) (z : Int64) (AL : Nat → Nat → Int64) : Nat → Nat → Int64 := fo (fun p X => up2 X (a + 18) p (X (a + 18) p - z * X (b + 18) p)) 6 0 AL
/-- Euclid's way over two lines, by their numbers at q -/
def ldit (a b q : Nat) : Nat → (Nat → Nat → Int64) → Nat → Nat → Int64
  | 0, AL => AL
  | n + 1, AL => if AL (b + 18) q = 0 then AL else ldit a b q n (lexc a b (lsbt a b (AL (a + 18) q / AL (b + 18) q) AL))
def lgat (h f q : Nat) (AL : Nat → Nat → Int64) : Nat → Nat → Int64 := (fun X => if X (f + 18) q < 0 then lneg f X else X) (fo (fun r X => ldit f r q 100 X) (h - (f + 1)) (f + 1) AL)
def lles (AN : Nat → Nat → Nat) (t r : Nat) (AL : Nat → Nat → Int64) : Nat → Nat → Int64 := if 0 < AL (r + 18) (AN 7 r) then lsbt t r (fdiv64 (AL (t + 18) (AN 7 r)) (AL (r + 18) (AN 7 r))) AL else AL

abbrev rmX1_negate : Room := { frames := 0, cells := 0, slots := 0, locals := 0 }
set_option maxHeartbeats 4000000 in
set_option maxRecDepth 100000 in
/-- X1_negate -/
theorem ctX1_negate (l : Launch) (D : va_G) (cs : Nat → ClassId) (ad : Nat → Nat) (I : Nat → Nat) (AN : Nat → Nat → Nat) (AI : Nat → Nat → Int32) (AL : Nat → Nat → Int64) (sz : Nat) (t : Nat) (ht : t < 4) : Met l yX1_negate (Cond.code yX1_negate cX1_negate 2 none :: GW) rmX1_negate (va_Pc [.ref (ad (t + 18))] (gP D cs (wT cs ad I AN AI AL) sz)) (va_Qv (fun u : TS => u = (I, AN, AI, lneg t AL)) (gB D cs (va_A (wT cs ad I AN AI AL) sz) (wTs cs ad)) (va_A (wT cs ad I AN AI AL) sz)) 0 0 (va_A (wT cs ad I AN AI AL) sz) := by
  refine Met.ofW (cc := cX1_negate) (maxL := 2) (ret := none) (by decide) rfl ?_
  intro p e s m args below meth c s₁ B hml hv
  obtain ⟨rfl, hsz, hP, hK, hD0, hN⟩ := hv
  have hx := B.exec
  have hb := B.bytes
  have hr := B.returns
  have hts : ∀ w ∈ GW, w.before _ s = true := fun w h => atoms_spec (ws := Cond.code yX1_negate cX1_negate 2 none :: GW) B.pre w (List.mem_cons_of_mem _ h)
  have hown : s.vm.findClass RX1 = some m.cls := findClass_of_methodNamed B.named
  have hlocks := B.notSynchronized
  subst hsz
  have hD := hD0.self (sz := s.heap.size)
  generalize hAe : va_A (wT cs ad I AN AI AL) s.heap.size = A at hD ⊢
  have hA : ∀ q : Nat, s.heap.size ≤ q → A q := fun q h => by rw [← hAe]; exact Or.inr h
  have hS : va_S A s.heap s.heap [] := va_S.rf
  have hl := lv_entry [.ref (ad (t + 18))] (n := 2) (Nat.le_of_ble_eq_true rfl)
  rw [lg_entry_eq]
  generalize (lg_sl [.ref (ad (t + 18))] ++ List.replicate (2 - (lg_sl [.ref (ad (t + 18))]).length) Slot.unset).toArray = ls at hl ⊢
  have hl : lv_has ls 2 [(0, .ref (ad (t + 18)))] := hl
  generalize hargs : ([.ref (ad (t + 18))] : List Value).toArray = args at *
  show W p l e rmX1_negate s m args below meth c s.heap [] 0 0 _ (F0 m 0 ls [])
  refine lv_iconst (v := nI 0) hx hb dX1_negate_0 (by decide) ?_
  refine lv_istore_n (lv' := [(1, .int (nI 0)), (0, .ref (ad (t + 18)))]) hx hb dX1_negate_1 rfl hl (by decide) rfl (fun ls hl => ?_)
  have lp2 : ∀ (Q : State → Prop) (n p9 : Nat) (X : Nat → Nat → Int64) (H : Heap) (locs : List Loc) (ls : Array Slot), p9 + n = 6 → va_P D vc (wT cs ad I AN AI X) H → va_D A (wT cs ad I AN AI X) → va_S A s.heap H locs → lv_has ls 2 [(1, .int (nI p9)), (0, .ref (ad (t + 18)))] → (∀ (H : Heap) (locs : List Loc) (ls : Array Slot), va_P D vc (wT cs ad I AN AI (fo (fun p X => up2 X (t + 18) p (-X (t + 18) p)) n p9 X)) H → va_D A (wT cs ad I AN AI (fo (fun p X => up2 X (t + 18) p (-X (t + 18) p)) n p9 X)) → va_S A s.heap H locs → lv_has ls 2 [(1, .int (nI 6)), (0, .ref (ad (t + 18)))] → W p l e rmX1_negate s m args below meth c H locs 0 0 Q (F0 m 21 ls [])) → W p l e rmX1_negate s m args below meth c H locs 0 0 Q (F0 m 2 ls []) := by
    intro Q n
    induction n with
    | zero =>
      intro p9 X H locs ls hn hP hD hS hl kx
      have hi : p9 = 6 := by omega
      refine lv_iload_n hx hb dX1_negate_2 rfl (lv_at hl 0 rfl) ?_
      refine lv_bipush (v := nI 6) hx hb dX1_negate_3 (by decide) ?_
      refine b_ge_t (tgt := 21) hx hb dX1_negate_5 (by decide) (by omega) (by omega) ?_
      rw [hi] at hl
      exact kx H locs ls hP hD hS (lv_sub hl [0, 1] rfl)
    | succ n ih =>
      intro p9 X H locs ls hn hP hD hS hl kx
      have hi : p9 < 6 := by omega
      refine lv_iload_n hx hb dX1_negate_2 rfl (lv_at hl 0 rfl) ?_
      refine lv_bipush (v := nI 6) hx hb dX1_negate_3 (by decide) ?_
      refine b_ge_f (tgt := 21) hx hb dX1_negate_5 (by decide) (by omega) (by omega) ?_
      refine lv_aload_n hx hb dX1_negate_8 rfl (lv_at hl 1 rfl) ?_
      refine lv_iload_n hx hb dX1_negate_9 rfl (lv_at hl 0 rfl) ?_
      refine lv_aload_n hx hb dX1_negate_10 rfl (lv_at hl 1 rfl) ?_
      refine lv_iload_n hx hb dX1_negate_11 rfl (lv_at hl 0 rfl) ?_
      refine tL_ld (i := t) hx hb hK hP (by omega) (by omega) dX1_negate_12 ?_
      refine lv_lneg hx hb dX1_negate_13 ?_
      refine tL_st (i := t) hx hb hK hP hD hS (by omega) (by omega) dX1_negate_14 (fun H locs hP hD hS => ?_)
      refine b_iinc (lv' := [(1, .int (nI (p9 + 1))), (0, .ref (ad (t + 18)))]) hx hb dX1_negate_15 hl (k := 0) rfl (by decide) rfl (fun ls hl => ?_)
      refine lv_goto (tgt := 2) hx hb dX1_negate_18 (by decide) ?_
      exact ih (p9 + 1) _ H locs ls (by omega) hP hD hS (lv_sub hl [0, 1] rfl) kx
  refine lp2 _ (6) 0 AL _ _ ls (by omega) hP hD hS (lv_sub hl [0, 1] rfl) (fun H locs ls hP hD hS hl => ?_)
  exact g_vret hx hb hr hlocks (I, AN, AI, fo (fun p X => up2 X (t + 18) p (-X (t + 18) p)) (6) 0 AL) (rfl) hK hP hD hS dX1_negate_21

abbrev rmX1_exchange : Room := { frames := 0, cells := 0, slots := 0, locals := 0 }
set_option maxHeartbeats 4000000 in
set_option maxRecDepth 100000 in
/-- X1_exchange -/
theorem ctX1_exchange (l : Launch) (D : va_G) (cs : Nat → ClassId) (ad : Nat → Nat) (I : Nat → Nat) (AN : Nat → Nat → Nat) (AI : Nat → Nat → Int32) (AL : Nat → Nat → Int64) (sz : Nat) (a b : Nat) (ha : a < 4) (hb4 : b < 4) : Met l yX1_exchange (Cond.code yX1_exchange cX1_exchange 5 none :: GW) rmX1_exchange (va_Pc [.ref (ad (a + 18)), .ref (ad (b + 18))] (gP D cs (wT cs ad I AN AI AL) sz)) (va_Qv (fun u : TS => u = (I, AN, AI, lexc a b AL)) (gB D cs (va_A (wT cs ad I AN AI AL) sz) (wTs cs ad)) (va_A (wT cs ad I AN AI AL) sz)) 0 0 (va_A (wT cs ad I AN AI AL) sz) := by
  refine Met.ofW (cc := cX1_exchange) (maxL := 5) (ret := none) (by decide) rfl ?_
  intro p e s m args below meth c s₁ B hml hv
  obtain ⟨rfl, hsz, hP, hK, hD0, hN⟩ := hv
  have hx := B.exec
  have hb := B.bytes
  have hr := B.returns
  have hts : ∀ w ∈ GW, w.before _ s = true := fun w h => atoms_spec (ws := Cond.code yX1_exchange cX1_exchange 5 none :: GW) B.pre w (List.mem_cons_of_mem _ h)
  have hown : s.vm.findClass RX1 = some m.cls := findClass_of_methodNamed B.named
  have hlocks := B.notSynchronized
  subst hsz
  have hD := hD0.self (sz := s.heap.size)
  generalize hAe : va_A (wT cs ad I AN AI AL) s.heap.size = A at hD ⊢
  have hA : ∀ q : Nat, s.heap.size ≤ q → A q := fun q h => by rw [← hAe]; exact Or.inr h
  have hS : va_S A s.heap s.heap [] := va_S.rf
  have hl := lv_entry [.ref (ad (a + 18)), .ref (ad (b + 18))] (n := 5) (Nat.le_of_ble_eq_true rfl)
  rw [lg_entry_eq]
  generalize (lg_sl [.ref (ad (a + 18)), .ref (ad (b + 18))] ++ List.replicate (5 - (lg_sl [.ref (ad (a + 18)), .ref (ad (b + 18))]).length) Slot.unset).toArray = ls at hl ⊢
  have hl : lv_has ls 5 [(0, .ref (ad (a + 18))), (1, .ref (ad (b + 18)))] := hl
  generalize hargs : ([.ref (ad (a + 18)), .ref (ad (b + 18))] : List Value).toArray = args at *
  show W p l e rmX1_exchange s m args below meth c s.heap [] 0 0 _ (F0 m 0 ls [])
  refine lv_iconst (v := nI 0) hx hb dX1_exchange_0 (by decide) ?_
  refine lv_istore_n (lv' := [(2, .int (nI 0)), (0, .ref (ad (a + 18))), (1, .ref (ad (b + 18)))]) hx hb dX1_exchange_1 rfl hl (by decide) rfl (fun ls hl => ?_)
  have lp2 : ∀ (Q : State → Prop) (n p9 : Nat) (X : Nat → Nat → Int64) (H : Heap) (locs : List Loc) (ls : Array Slot), p9 + n = 6 → va_P D vc (wT cs ad I AN AI X) H → va_D A (wT cs ad I AN AI X) → va_S A s.heap H locs → lv_has ls 5 [(2, .int (nI p9)), (0, .ref (ad (a + 18))), (1, .ref (ad (b + 18)))] → (∀ (H : Heap) (locs : List Loc) (ls : Array Slot), va_P D vc (wT cs ad I AN AI (fo (fun p X => up2 (up2 X (a + 18) p (X (b + 18) p)) (b + 18) p (X (a + 18) p)) n p9 X)) H → va_D A (wT cs ad I AN AI (fo (fun p X => up2 (up2 X (a + 18) p (X (b + 18) p)) (b + 18) p (X (a + 18) p)) n p9 X)) → va_S A s.heap H locs → lv_has ls 5 [(2, .int (nI 6)), (0, .ref (ad (a + 18))), (1, .ref (ad (b + 18)))] → W p l e rmX1_exchange s m args below meth c H locs 0 0 Q (F0 m 28 ls [])) → W p l e rmX1_exchange s m args below meth c H locs 0 0 Q (F0 m 2 ls []) := by
    intro Q n
    induction n with
    | zero =>
      intro p9 X H locs ls hn hP hD hS hl kx
      have hi : p9 = 6 := by omega
      refine lv_iload_n hx hb dX1_exchange_2 rfl (lv_at hl 0 rfl) ?_
      refine lv_bipush (v := nI 6) hx hb dX1_exchange_3 (by decide) ?_
      refine b_ge_t (tgt := 28) hx hb dX1_exchange_5 (by decide) (by omega) (by omega) ?_
      rw [hi] at hl
      exact kx H locs ls hP hD hS (lv_sub hl [0, 1, 2] rfl)
    | succ n ih =>
      intro p9 X H locs ls hn hP hD hS hl kx
      have hi : p9 < 6 := by omega
      refine lv_iload_n hx hb dX1_exchange_2 rfl (lv_at hl 0 rfl) ?_
      refine lv_bipush (v := nI 6) hx hb dX1_exchange_3 (by decide) ?_
      refine b_ge_f (tgt := 28) hx hb dX1_exchange_5 (by decide) (by omega) (by omega) ?_
      refine lv_aload_n hx hb dX1_exchange_8 rfl (lv_at hl 1 rfl) ?_
      refine lv_iload_n hx hb dX1_exchange_9 rfl (lv_at hl 0 rfl) ?_
      refine tL_ld (i := a) hx hb hK hP (by omega) (by omega) dX1_exchange_10 ?_
      refine lv_lstore_n (lv' := [(3, .long (X (a + 18) p9)), (2, .int (nI p9)), (0, .ref (ad (a + 18))), (1, .ref (ad (b + 18)))]) hx hb dX1_exchange_11 rfl hl (by decide) rfl (fun ls hl => ?_)
      refine lv_aload_n hx hb dX1_exchange_12 rfl (lv_at hl 2 rfl) ?_
      refine lv_iload_n hx hb dX1_exchange_13 rfl (lv_at hl 1 rfl) ?_
      refine lv_aload_n hx hb dX1_exchange_14 rfl (lv_at hl 3 rfl) ?_
      refine lv_iload_n hx hb dX1_exchange_15 rfl (lv_at hl 1 rfl) ?_
      refine tL_ld (i := b) hx hb hK hP (by omega) (by omega) dX1_exchange_16 ?_
      refine tL_st (i := a) hx hb hK hP hD hS (by omega) (by omega) dX1_exchange_17 (fun H locs hP hD hS => ?_)
      refine lv_aload_n hx hb dX1_exchange_18 rfl (lv_at hl 3 rfl) ?_
      refine lv_iload_n hx hb dX1_exchange_19 rfl (lv_at hl 1 rfl) ?_
      refine lv_lload_n hx hb dX1_exchange_20 rfl (lv_at hl 0 rfl) ?_
      refine tL_st (i := b) hx hb hK hP hD hS (by omega) (by omega) dX1_exchange_21 (fun H locs hP hD hS => ?_)
      refine b_iinc (lv' := [(2, .int (nI (p9 + 1))), (3, .long (X (a + 18) p9)), (0, .ref (ad (a + 18))), (1, .ref (ad (b + 18)))]) hx hb dX1_exchange_22 hl (k := 1) rfl (by decide) rfl (fun ls hl => ?_)
      refine lv_goto (tgt := 2) hx hb dX1_exchange_25 (by decide) ?_
      exact ih (p9 + 1) _ H locs ls (by omega) hP hD hS (lv_sub hl [0, 2, 3] rfl) kx
  refine lp2 _ (6) 0 AL _ _ ls (by omega) hP hD hS (lv_sub hl [0, 1, 2] rfl) (fun H locs ls hP hD hS hl => ?_)
  exact g_vret hx hb hr hlocks (I, AN, AI, fo (fun p X => up2 (up2 X (a + 18) p (X (b + 18) p)) (b + 18) p (X (a + 18) p)) (6) 0 AL) (rfl) hK hP hD hS dX1_exchange_28

abbrev rmX1_subtract : Room := { frames := 0, cells := 0, slots := 0, locals := 0 }
set_option maxHeartbeats 4000000 in
set_option maxRecDepth 100000 in
/-- X1_subtract -/
theorem ctX1_subtract (l : Launch) (D : va_G) (cs : Nat → ClassId) (ad : Nat → Nat) (I : Nat → Nat) (AN : Nat → Nat → Nat) (AI : Nat → Nat → Int32) (AL : Nat → Nat → Int64) (sz : Nat) (a b : Nat) (z : Int64) (ha : a < 4) (hb4 : b < 4) : Met l yX1_subtract (Cond.code yX1_subtract cX1_subtract 5 none :: GW) rmX1_subtract (va_Pc [.ref (ad (a + 18)), .ref (ad (b + 18)), .long z] (gP D cs (wT cs ad I AN AI AL) sz)) (va_Qv (fun u : TS => u = (I, AN, AI, lsbt a b z AL)) (gB D cs (va_A (wT cs ad I AN AI AL) sz) (wTs cs ad)) (va_A (wT cs ad I AN AI AL) sz)) 0 0 (va_A (wT cs ad I AN AI AL) sz) := by
  refine Met.ofW (cc := cX1_subtract) (maxL := 5) (ret := none) (by decide) rfl ?_
  intro p e s m args below meth c s₁ B hml hv
  obtain ⟨rfl, hsz, hP, hK, hD0, hN⟩ := hv
  have hx := B.exec
  have hb := B.bytes
  have hr := B.returns
  have hts : ∀ w ∈ GW, w.before _ s = true := fun w h => atoms_spec (ws := Cond.code yX1_subtract cX1_subtract 5 none :: GW) B.pre w (List.mem_cons_of_mem _ h)
  have hown : s.vm.findClass RX1 = some m.cls := findClass_of_methodNamed B.named
  have hlocks := B.notSynchronized
  subst hsz
  have hD := hD0.self (sz := s.heap.size)
  generalize hAe : va_A (wT cs ad I AN AI AL) s.heap.size = A at hD ⊢
  have hA : ∀ q : Nat, s.heap.size ≤ q → A q := fun q h => by rw [← hAe]; exact Or.inr h
  have hS : va_S A s.heap s.heap [] := va_S.rf
  have hl := lv_entry [.ref (ad (a + 18)), .ref (ad (b + 18)), .long z] (n := 5) (Nat.le_of_ble_eq_true rfl)
  rw [lg_entry_eq]
  generalize (lg_sl [.ref (ad (a + 18)), .ref (ad (b + 18)), .long z] ++ List.replicate (5 - (lg_sl [.ref (ad (a + 18)), .ref (ad (b + 18)), .long z]).length) Slot.unset).toArray = ls at hl ⊢
  have hl : lv_has ls 5 [(0, .ref (ad (a + 18))), (1, .ref (ad (b + 18))), (2, .long z)] := hl
  generalize hargs : ([.ref (ad (a + 18)), .ref (ad (b + 18)), .long z] : List Value).toArray = args at *
  show W p l e rmX1_subtract s m args below meth c s.heap [] 0 0 _ (F0 m 0 ls [])
  refine lv_iconst (v := nI 0) hx hb dX1_subtract_0 (by decide) ?_
  refine lv_istore (lv' := [(4, .int (nI 0)), (0, .ref (ad (a + 18))), (1, .ref (ad (b + 18))), (2, .long z)]) hx hb dX1_subtract_1 hl (by decide) rfl (fun ls hl => ?_)
  have lp3 : ∀ (Q : State → Prop) (n p9 : Nat) (X : Nat → Nat → Int64) (H : Heap) (locs : List Loc) (ls : Array Slot), p9 + n = 6 → va_P D vc (wT cs ad I AN AI X) H → va_D A (wT cs ad I AN AI X) → va_S A s.heap H locs → lv_has ls 5 [(4, .int (nI p9)), (0, .ref (ad (a + 18))), (1, .ref (ad (b + 18))), (2, .long z)] → (∀ (H : Heap) (locs : List Loc) (ls : Array Slot), va_P D vc (wT cs ad I AN AI (fo (fun p X => up2 X (a + 18) p (X (a + 18) p - z * X (b + 18) p)) n p9 X)) H → va_D A (wT cs ad I AN AI (fo (fun p X => up2 X (a + 18) p (X (a + 18) p - z * X (b + 18) p)) n p9 X)) → va_S A s.heap H locs → lv_has ls 5 [(4, .int (nI 6)), (0, .ref (ad (a + 18))), (1, .ref (ad (b + 18))), (2, .long z)] → W p l e rmX1_subtract s m args below meth c H locs 0 0 Q (F0 m 29 ls [])) → W p l e rmX1_subtract s m args below meth c H locs 0 0 Q (F0 m 3 ls []) := by
    intro Q n
    induction n with
    | zero =>
      intro p9 X H locs ls hn hP hD hS hl kx
      have hi : p9 = 6 := by omega
      refine lv_iload hx hb dX1_subtract_3 (lv_at hl 0 rfl) ?_
      refine lv_bipush (v := nI 6) hx hb dX1_subtract_5 (by decide) ?_
      refine b_ge_t (tgt := 29) hx hb dX1_subtract_7 (by decide) (by omega) (by omega) ?_
      rw [hi] at hl
      exact kx H locs ls hP hD hS (lv_sub hl [0, 1, 2, 3] rfl)
    | succ n ih =>
      intro p9 X H locs ls hn hP hD hS hl kx
      have hi : p9 < 6 := by omega
      refine lv_iload hx hb dX1_subtract_3 (lv_at hl 0 rfl) ?_
      refine lv_bipush (v := nI 6) hx hb dX1_subtract_5 (by decide) ?_
      refine b_ge_f (tgt := 29) hx hb dX1_subtract_7 (by decide) (by omega) (by omega) ?_
      refine lv_aload_n hx hb dX1_subtract_10 rfl (lv_at hl 1 rfl) ?_
      refine lv_iload hx hb dX1_subtract_11 (lv_at hl 0 rfl) ?_
      refine lv_dup2_11 hx hb dX1_subtract_13 rfl rfl ?_
      refine tL_ld (i := a) hx hb hK hP (by omega) (by omega) dX1_subtract_14 ?_
      refine lv_lload_n hx hb dX1_subtract_15 rfl (lv_at hl 3 rfl) ?_
      refine lv_aload_n hx hb dX1_subtract_16 rfl (lv_at hl 2 rfl) ?_
      refine lv_iload hx hb dX1_subtract_17 (lv_at hl 0 rfl) ?_
      refine tL_ld (i := b) hx hb hK hP (by omega) (by omega) dX1_subtract_19 ?_
      refine lv_lmul hx hb dX1_subtract_20 ?_
      refine lv_lsub hx hb dX1_subtract_21 ?_
      refine tL_st (i := a) hx hb hK hP hD hS (by omega) (by omega) dX1_subtract_22 (fun H locs hP hD hS => ?_)
      refine b_iinc (lv' := [(4, .int (nI (p9 + 1))), (0, .ref (ad (a + 18))), (1, .ref (ad (b + 18))), (2, .long z)]) hx hb dX1_subtract_23 hl (k := 0) rfl (by decide) rfl (fun ls hl => ?_)
      refine lv_goto (tgt := 3) hx hb dX1_subtract_26 (by decide) ?_
      exact ih (p9 + 1) _ H locs ls (by omega) hP hD hS (lv_sub hl [0, 1, 2, 3] rfl) kx
  refine lp3 _ (6) 0 AL _ _ ls (by omega) hP hD hS (lv_sub hl [0, 1, 2, 3] rfl) (fun H locs ls hP hD hS hl => ?_)
  exact g_vret hx hb hr hlocks (I, AN, AI, fo (fun p X => up2 X (a + 18) p (X (a + 18) p - z * X (b + 18) p)) (6) 0 AL) (rfl) hK hP hD hS dX1_subtract_29

abbrev rmX1_divideInTurn : Room := { frames := 1, cells := 0, slots := 0, locals := 24 }
set_option maxHeartbeats 4000000 in
set_option maxRecDepth 100000 in
/-- divideInTurn -/
theorem ctX1_divideInTurn (l : Launch) (D : va_G) (cs : Nat → ClassId) (ad : Nat → Nat) (I : Nat → Nat) (AN : Nat → Nat → Nat) (AI : Nat → Nat → Int32) (AL : Nat → Nat → Int64) (sz : Nat) (a b q : Nat) (ha : a < 4) (hb4 : b < 4) (hq : q < 6) : Met l yX1_divideInTurn (Cond.code yX1_divideInTurn cX1_divideInTurn 4 none :: GW) rmX1_divideInTurn (va_Pc [.ref (ad (a + 18)), .ref (ad (b + 18)), .int (nI q)] (gP D cs (wT cs ad I AN AI AL) sz)) (va_Qv (fun u : TS => u = (I, AN, AI, ldit a b q 100 AL)) (gB D cs (va_A (wT cs ad I AN AI AL) sz) (wTs cs ad)) (va_A (wT cs ad I AN AI AL) sz)) 0 0 (va_A (wT cs ad I AN AI AL) sz) := by
  refine Met.ofW (cc := cX1_divideInTurn) (maxL := 4) (ret := none) (by decide) rfl ?_
  intro p e s m args below meth c s₁ B hml hv
  obtain ⟨rfl, hsz, hP, hK, hD0, hN⟩ := hv
  have hx := B.exec
  have hb := B.bytes
  have hr := B.returns
  have hts : ∀ w ∈ GW, w.before _ s = true := fun w h => atoms_spec (ws := Cond.code yX1_divideInTurn cX1_divideInTurn 4 none :: GW) B.pre w (List.mem_cons_of_mem _ h)
  have hown : s.vm.findClass RX1 = some m.cls := findClass_of_methodNamed B.named
  have hlocks := B.notSynchronized
  subst hsz
  have hD := hD0.self (sz := s.heap.size)
  generalize hAe : va_A (wT cs ad I AN AI AL) s.heap.size = A at hD ⊢
  have hA : ∀ q : Nat, s.heap.size ≤ q → A q := fun q h => by rw [← hAe]; exact Or.inr h
  have hS : va_S A s.heap s.heap [] := va_S.rf
  have hl := lv_entry [.ref (ad (a + 18)), .ref (ad (b + 18)), .int (nI q)] (n := 4) (Nat.le_of_ble_eq_true rfl)
  rw [lg_entry_eq]
  generalize (lg_sl [.ref (ad (a + 18)), .ref (ad (b + 18)), .int (nI q)] ++ List.replicate (4 - (lg_sl [.ref (ad (a + 18)), .ref (ad (b + 18)), .int (nI q)]).length) Slot.unset).toArray = ls at hl ⊢
  have hl : lv_has ls 4 [(0, .ref (ad (a + 18))), (1, .ref (ad (b + 18))), (2, .int (nI q))] := hl
  generalize hargs : ([.ref (ad (a + 18)), .ref (ad (b + 18)), .int (nI q)] : List Value).toArray = args at *
  show W p l e rmX1_divideInTurn s m args below meth c s.heap [] 0 0 _ (F0 m 0 ls [])
  refine lv_iconst (v := nI 0) hx hb dX1_divideInTurn_0 (by decide) ?_
  refine lv_istore_n (lv' := [(3, .int (nI 0)), (0, .ref (ad (a + 18))), (1, .ref (ad (b + 18))), (2, .int (nI q))]) hx hb dX1_divideInTurn_1 rfl hl (by decide) rfl (fun ls hl => ?_)
  have lp2 : ∀ (n k : Nat) (X : Nat → Nat → Int64) (H : Heap) (locs : List Loc) (ls : Array Slot), k + n = 100 → va_P D vc (wT cs ad I AN AI X) H → va_D A (wT cs ad I AN AI X) → va_S A s.heap H locs → lv_has ls 4 [(3, .int (nI k)), (0, .ref (ad (a + 18))), (1, .ref (ad (b + 18))), (2, .int (nI q))] → W p l e rmX1_divideInTurn s m args below meth c H locs 0 0 (MQ below (va_Qv (fun u : TS => u = (I, AN, AI, ldit a b q n X)) (gB D cs A (wTs cs ad)) A) args s 0 0 A) (F0 m 2 ls []) := by
    intro n
    induction n with
    | zero =>
      intro k X H locs ls hn hP hD hS hl
      refine lv_iload_n hx hb dX1_divideInTurn_2 rfl (lv_at hl 0 rfl) ?_
      refine lv_bipush (v := nI 100) hx hb dX1_divideInTurn_3 (by decide) ?_
      refine b_ge_t (tgt := 39) hx hb dX1_divideInTurn_5 (by decide) (by omega) (by omega) ?_
      exact g_vret hx hb hr hlocks (I, AN, AI, X) (rfl) hK hP hD hS dX1_divideInTurn_39
    | succ n ih =>
      intro k X H locs ls hn hP hD hS hl
      refine lv_iload_n hx hb dX1_divideInTurn_2 rfl (lv_at hl 0 rfl) ?_
      refine lv_bipush (v := nI 100) hx hb dX1_divideInTurn_3 (by decide) ?_
      refine b_ge_f (tgt := 39) hx hb dX1_divideInTurn_5 (by decide) (by omega) (by omega) ?_
      refine lv_aload_n hx hb dX1_divideInTurn_8 rfl (lv_at hl 2 rfl) ?_
      refine lv_iload_n hx hb dX1_divideInTurn_9 rfl (lv_at hl 3 rfl) ?_
      refine tL_ld (i := b) hx hb hK hP (by omega) (by omega) dX1_divideInTurn_10 ?_
      refine lv_lconst (v := 0) hx hb dX1_divideInTurn_11 (by decide) ?_
      refine b_lceq (tgt := 39) hx hb dX1_divideInTurn_12 dX1_divideInTurn_13 (by decide) (fun h => ?_) (fun h => ?_)
      · exact g_vret hx hb hr hlocks (I, AN, AI, X) (by rw [ldit, if_pos h]) hK hP hD hS dX1_divideInTurn_39
      · refine lv_aload_n hx hb dX1_divideInTurn_16 rfl (lv_at hl 1 rfl) ?_
        refine lv_aload_n hx hb dX1_divideInTurn_17 rfl (lv_at hl 2 rfl) ?_
        refine lv_aload_n hx hb dX1_divideInTurn_18 rfl (lv_at hl 1 rfl) ?_
        refine lv_iload_n hx hb dX1_divideInTurn_19 rfl (lv_at hl 3 rfl) ?_
        refine tL_ld (i := a) hx hb hK hP (by omega) (by omega) dX1_divideInTurn_20 ?_
        refine lv_aload_n hx hb dX1_divideInTurn_21 rfl (lv_at hl 2 rfl) ?_
        refine lv_iload_n hx hb dX1_divideInTurn_22 rfl (lv_at hl 3 rfl) ?_
        refine tL_ld (i := b) hx hb hK hP (by omega) (by omega) dX1_divideInTurn_23 ?_
        refine lv_ldiv hx hb dX1_divideInTurn_24 (h) ?_
        refine g_callv (va_runS (As := [.ref (ad (a + 18)), .ref (ad (b + 18)), .long ((X (a + 18) q) / (X (b + 18) q))]) (rest := []) ⟨hx, hb, hml, hown, hts⟩ (ctX1_subtract l D cs ad I AN AI X _ a b ((X (a + 18) q) / (X (b + 18) q)) ha hb4) (va_cwS 3 hts (gi_S gw_235 gw_236 gw_56 gw_237) rfl rfl rfl (by decide +kernel) ⟨Nat.le_of_ble_eq_true rfl, Nat.le_of_ble_eq_true rfl⟩) ⟨g_blind, g_pre hP hK hD hN⟩ rfl rfl hl.1 rfl (lv_room (Nat.le_of_ble_eq_true rfl)) dX1_divideInTurn_25 ⟨Nat.zero_le _, Nat.zero_le _⟩) hD hS hA (fun u H locs hw hP hD hS => ?_)
        obtain rfl := hw
        have hP : va_P D vc (wT cs ad I AN AI (lsbt a b ((X (a + 18) q) / (X (b + 18) q)) X)) H := hP
        have hD : va_D A (wT cs ad I AN AI (lsbt a b ((X (a + 18) q) / (X (b + 18) q)) X)) := hD
        refine lv_aload_n hx hb dX1_divideInTurn_28 rfl (lv_at hl 1 rfl) ?_
        refine lv_aload_n hx hb dX1_divideInTurn_29 rfl (lv_at hl 2 rfl) ?_
        refine g_callv (va_runS (As := [.ref (ad (a + 18)), .ref (ad (b + 18))]) (rest := []) ⟨hx, hb, hml, hown, hts⟩ (ctX1_exchange l D cs ad I AN AI (lsbt a b ((X (a + 18) q) / (X (b + 18) q)) X) _ a b ha hb4) (va_cwS 2 hts (gi_S gw_238 gw_239 gw_56 gw_240) rfl rfl rfl (by decide +kernel) ⟨Nat.le_of_ble_eq_true rfl, Nat.le_of_ble_eq_true rfl⟩) ⟨g_blind, g_pre hP hK hD hN⟩ rfl rfl hl.1 rfl (lv_room (Nat.le_of_ble_eq_true rfl)) dX1_divideInTurn_30 ⟨Nat.zero_le _, Nat.zero_le _⟩) hD hS hA (fun u H locs hw hP hD hS => ?_)
        obtain rfl := hw
        have hP : va_P D vc (wT cs ad I AN AI (lexc a b (lsbt a b ((X (a + 18) q) / (X (b + 18) q)) X))) H := hP
        have hD : va_D A (wT cs ad I AN AI (lexc a b (lsbt a b ((X (a + 18) q) / (X (b + 18) q)) X))) := hD
        refine b_iinc (lv' := [(3, .int (nI (k + 1))), (0, .ref (ad (a + 18))), (1, .ref (ad (b + 18))), (2, .int (nI q))]) hx hb dX1_divideInTurn_33 hl (k := 0) rfl (by decide) rfl (fun ls hl => ?_)
        refine lv_goto (tgt := 2) hx hb dX1_divideInTurn_36 (by decide) ?_
        rw [show ldit a b q (n + 1) X = ldit a b q n (lexc a b (lsbt a b (X (a + 18) q / X (b + 18) q) X)) from if_neg h]
        exact ih (k + 1) _ H locs ls (by omega) hP hD hS (lv_sub hl [0, 1, 2, 3] rfl)
  exact lp2 100 0 AL _ _ ls (by omega) hP hD hS (lv_sub hl [0, 1, 2, 3] rfl)

/-- the rows of the lattice at the start -/
def lbeg (h : Nat) (AL : Nat → Nat → Int64) : Nat → Nat → Int64 := fo (fun p X => fo (fun r Y => up2 Y (r + 18) p (if p = 3 + r then 1 else 0)) h 0 (up2 X 21 p 0)) 6 0 AL

abbrev rmX1_begin : Room := { frames := 1, cells := 0, slots := 0, locals := 21 }
set_option maxHeartbeats 4000000 in
set_option maxRecDepth 100000 in
/-- begin -/
theorem ctX1_begin (l : Launch) (D : va_G) (cs : Nat → ClassId) (ad : Nat → Nat) (I : Nat → Nat) (AN : Nat → Nat → Nat) (AI : Nat → Nat → Int32) (AL : Nat → Nat → Int64) (sz : Nat) (a : Nat) (ha : a ≤ 3) : Met l yX1_begin (Cond.code yX1_begin cX1_begin 4 none :: GW) rmX1_begin (va_Pc [.ref (ad 3), .int (nI a)] (gP D cs (wT cs ad I AN AI AL) sz)) (va_Qv (fun u : TS => u = (up1 I 5 a, AN, AI, lbeg a AL)) (gB D cs (va_A (wT cs ad I AN AI AL) sz) (wTs cs ad)) (va_A (wT cs ad I AN AI AL) sz)) 0 0 (va_A (wT cs ad I AN AI AL) sz) := by
  refine Met.ofW (cc := cX1_begin) (maxL := 4) (ret := none) (by decide) rfl ?_
  intro p e s m args below meth c s₁ B hml hv
  obtain ⟨rfl, hsz, hP, hK, hD0, hN⟩ := hv
  have hx := B.exec
  have hb := B.bytes
  have hr := B.returns
  have hts : ∀ w ∈ GW, w.before _ s = true := fun w h => atoms_spec (ws := Cond.code yX1_begin cX1_begin 4 none :: GW) B.pre w (List.mem_cons_of_mem _ h)
  have hown : s.vm.findClass RX1 = some m.cls := findClass_of_methodNamed B.named
  have hlocks := B.notSynchronized
  subst hsz
  have hD := hD0.self (sz := s.heap.size)
  generalize hAe : va_A (wT cs ad I AN AI AL) s.heap.size = A at hD ⊢
  have hA : ∀ q : Nat, s.heap.size ≤ q → A q := fun q h => by rw [← hAe]; exact Or.inr h
  have hS : va_S A s.heap s.heap [] := va_S.rf
  have hl := lv_entry [.ref (ad 3), .int (nI a)] (n := 4) (Nat.le_of_ble_eq_true rfl)
  rw [lg_entry_eq]
  generalize (lg_sl [.ref (ad 3), .int (nI a)] ++ List.replicate (4 - (lg_sl [.ref (ad 3), .int (nI a)]).length) Slot.unset).toArray = ls at hl ⊢
  have hl : lv_has ls 4 [(0, .ref (ad 3)), (1, .int (nI a))] := hl
  generalize hargs : ([.ref (ad 3), .int (nI a)] : List Value).toArray = args at *
  show W p l e rmX1_begin s m args below meth c s.heap [] 0 0 _ (F0 m 0 ls [])
  refine lv_aload_n hx hb dX1_begin_0 rfl (lv_at hl 0 rfl) ?_
  refine lv_iconst (v := nI 0) hx hb dX1_begin_1 (by decide) ?_
  refine lv_iconst (v := nI 3) hx hb dX1_begin_2 (by decide) ?_
  refine lv_iload_n hx hb dX1_begin_3 rfl (lv_at hl 1 rfl) ?_
  refine va_mmin hx hb (by rw [hml]; exact hl.1.symm) hown (hts _ gw_222) (hts _ gw_73) (hts _ gw_54) (hts _ gw_74) (Nat.le_of_ble_eq_true rfl) (Nat.le_of_ble_eq_true rfl) (Nat.zero_le _) (Nat.zero_le _) dX1_begin_4 ?_
  rw [mn_r (by omega) (by decide)]
  refine va_mmax hx hb (by rw [hml]; exact hl.1.symm) hown (hts _ gw_223) (hts _ gw_76) (hts _ gw_54) (hts _ gw_77) (Nat.le_of_ble_eq_true rfl) (Nat.le_of_ble_eq_true rfl) (Nat.zero_le _) (Nat.zero_le _) dX1_begin_7 ?_
  rw [mx_r (by omega)]
  refine b_put (own := RX1) (C := RX1) (T := TX1) (N := 4) (ci := 1) (v := .int (nI a)) hx hb hts usX1 tyX1 tyX1_ok nmX1 hown hK hP hD hS 3 (by decide) rfl rfl 3 (by decide) (hts _ gw_120) rfl rfl rfl (Nat.le_of_ble_eq_true rfl) dX1_begin_10 sT_lh (fun H locs hP hD hS => ?_)
  refine lv_iconst (v := nI 0) hx hb dX1_begin_13 (by decide) ?_
  refine lv_istore_n (lv' := [(2, .int (nI 0)), (0, .ref (ad 3)), (1, .int (nI a))]) hx hb dX1_begin_14 rfl hl (by decide) rfl (fun ls hl => ?_)
  have lp15 : ∀ (Q : State → Prop) (n p9 : Nat) (X : Nat → Nat → Int64) (H : Heap) (locs : List Loc) (ls : Array Slot), p9 + n = 6 → va_P D vc (wT cs ad (up1 I 5 a) AN AI X) H → va_D A (wT cs ad (up1 I 5 a) AN AI X) → va_S A s.heap H locs → lv_has ls 4 [(2, .int (nI p9)), (0, .ref (ad 3)), (1, .int (nI a))] → (∀ (H : Heap) (locs : List Loc) (ls : Array Slot), va_P D vc (wT cs ad (up1 I 5 a) AN AI (fo (fun p X => fo (fun r Y => up2 Y (r + 18) p (if p = 3 + r then 1 else 0)) a 0 (up2 X (3 + 18) p 0)) n p9 X)) H → va_D A (wT cs ad (up1 I 5 a) AN AI (fo (fun p X => fo (fun r Y => up2 Y (r + 18) p (if p = 3 + r then 1 else 0)) a 0 (up2 X (3 + 18) p 0)) n p9 X)) → va_S A s.heap H locs → lv_has ls 4 [(2, .int (nI 6)), (0, .ref (ad 3)), (1, .int (nI a))] → W p l e rmX1_begin s m args below meth c H locs 0 0 Q (F0 m 70 ls [])) → W p l e rmX1_begin s m args below meth c H locs 0 0 Q (F0 m 15 ls []) := by
    intro Q n
    induction n with
    | zero =>
      intro p9 X H locs ls hn hP hD hS hl kx
      have hi : p9 = 6 := by omega
      refine lv_iload_n hx hb dX1_begin_15 rfl (lv_at hl 0 rfl) ?_
      refine lv_bipush (v := nI 6) hx hb dX1_begin_16 (by decide) ?_
      refine b_ge_t (tgt := 70) hx hb dX1_begin_18 (by decide) (by omega) (by omega) ?_
      rw [hi] at hl
      exact kx H locs ls hP hD hS (lv_sub hl [0, 1, 2] rfl)
    | succ n ih =>
      intro p9 X H locs ls hn hP hD hS hl kx
      have hi : p9 < 6 := by omega
      refine lv_iload_n hx hb dX1_begin_15 rfl (lv_at hl 0 rfl) ?_
      refine lv_bipush (v := nI 6) hx hb dX1_begin_16 (by decide) ?_
      refine b_ge_f (tgt := 70) hx hb dX1_begin_18 (by decide) (by omega) (by omega) ?_
      refine lv_aload_n hx hb dX1_begin_21 rfl (lv_at hl 1 rfl) ?_
      refine b_get (own := RX1) (C := RX1) (T := TX1) (N := 4) (ci := 1) (v := .ref (ad 21)) hx hb hts usX1 hown hK hP 3 (by decide) rfl rfl 2 (by decide) (hts _ gw_118) rfl dX1_begin_22 ?_
      refine lv_iload_n hx hb dX1_begin_25 rfl (lv_at hl 0 rfl) ?_
      refine lv_lconst (v := 0) hx hb dX1_begin_26 (by decide) ?_
      refine tL_st (i := 3) hx hb hK hP hD hS (by omega) (by omega) dX1_begin_27 (fun H locs hP hD hS => ?_)
      refine lv_iconst (v := nI 0) hx hb dX1_begin_28 (by decide) ?_
      refine lv_istore_n (lv' := [(3, .int (nI 0)), (2, .int (nI p9)), (0, .ref (ad 3)), (1, .int (nI a))]) hx hb dX1_begin_29 rfl hl (by decide) rfl (fun ls hl => ?_)
      have lp30 : ∀ (Q : State → Prop) (n r9 : Nat) (Y : Nat → Nat → Int64) (H : Heap) (locs : List Loc) (ls : Array Slot), r9 + n = a → va_P D vc (wT cs ad (up1 I 5 a) AN AI Y) H → va_D A (wT cs ad (up1 I 5 a) AN AI Y) → va_S A s.heap H locs → lv_has ls 4 [(3, .int (nI r9)), (2, .int (nI p9)), (0, .ref (ad 3)), (1, .int (nI a))] → (∀ (H : Heap) (locs : List Loc) (ls : Array Slot), va_P D vc (wT cs ad (up1 I 5 a) AN AI (fo (fun r Y => up2 Y (r + 18) p9 (if p9 = 3 + r then 1 else 0)) n r9 Y)) H → va_D A (wT cs ad (up1 I 5 a) AN AI (fo (fun r Y => up2 Y (r + 18) p9 (if p9 = 3 + r then 1 else 0)) n r9 Y)) → va_S A s.heap H locs → lv_has ls 4 [(3, .int (nI a)), (2, .int (nI p9)), (0, .ref (ad 3)), (1, .int (nI a))] → W p l e rmX1_begin s m args below meth c H locs 0 0 Q (F0 m 64 ls [])) → W p l e rmX1_begin s m args below meth c H locs 0 0 Q (F0 m 30 ls []) := by
        intro Q n
        induction n with
        | zero =>
          intro r9 Y H locs ls hn hP hD hS hl kx
          have hi : r9 = a := by omega
          refine lv_iload_n hx hb dX1_begin_30 rfl (lv_at hl 0 rfl) ?_
          refine lv_aload_n hx hb dX1_begin_31 rfl (lv_at hl 2 rfl) ?_
          refine b_get (own := RX1) (C := RX1) (T := TX1) (N := 4) (ci := 1) (v := .int (nI a)) hx hb hts usX1 hown hK hP 3 (by decide) rfl rfl 3 (by decide) (hts _ gw_120) rfl dX1_begin_32 ?_
          refine b_ge_t (tgt := 64) hx hb dX1_begin_35 (by decide) (by omega) (by omega) ?_
          rw [hi] at hl
          exact kx H locs ls hP hD hS (lv_sub hl [0, 1, 2, 3] rfl)
        | succ n ih =>
          intro r9 Y H locs ls hn hP hD hS hl kx
          have hi : r9 < a := by omega
          refine lv_iload_n hx hb dX1_begin_30 rfl (lv_at hl 0 rfl) ?_
          refine lv_aload_n hx hb dX1_begin_31 rfl (lv_at hl 2 rfl) ?_
          refine b_get (own := RX1) (C := RX1) (T := TX1) (N := 4) (ci := 1) (v := .int (nI a)) hx hb hts usX1 hown hK hP 3 (by decide) rfl rfl 3 (by decide) (hts _ gw_120) rfl dX1_begin_32 ?_
          refine b_ge_f (tgt := 64) hx hb dX1_begin_35 (by decide) (by omega) (by omega) ?_
          refine lv_aload_n hx hb dX1_begin_38 rfl (lv_at hl 2 rfl) ?_
          refine b_get (own := RX1) (C := RX1) (T := TX1) (N := 4) (ci := 1) (v := .ref (ad 6)) hx hb hts usX1 hown hK hP 3 (by decide) rfl rfl 0 (by decide) (hts _ gw_115) rfl dX1_begin_39 ?_
          refine lv_iload_n hx hb dX1_begin_42 rfl (lv_at hl 0 rfl) ?_
          refine tL_r hx hb hK hP (by omega) dX1_begin_43 ?_
          refine lv_iload_n hx hb dX1_begin_44 rfl (lv_at hl 1 rfl) ?_
          refine lv_iload_n hx hb dX1_begin_45 rfl (lv_at hl 1 rfl) ?_
          refine lv_iconst (v := nI 3) hx hb dX1_begin_46 (by decide) ?_
          refine lv_iload_n hx hb dX1_begin_47 rfl (lv_at hl 0 rfl) ?_
          refine b_addn hx hb dX1_begin_48 ?_
          by_cases hpr : p9 = 3 + r9
          · refine b_ne_f (tgt := 56) hx hb dX1_begin_49 (by decide) (hpr)  ?_
            refine lv_lconst (v := 1) hx hb dX1_begin_52 (by decide) ?_
            refine lv_goto (tgt := 57) hx hb dX1_begin_53 (by decide) ?_
            refine tL_st (i := r9) hx hb hK hP hD hS (by omega) (by omega) dX1_begin_57 (fun H locs hP hD hS => ?_)
            refine b_iinc (lv' := [(3, .int (nI (r9 + 1))), (2, .int (nI p9)), (0, .ref (ad 3)), (1, .int (nI a))]) hx hb dX1_begin_58 hl (k := 0) rfl (by decide) rfl (fun ls hl => ?_)
            refine lv_goto (tgt := 30) hx hb dX1_begin_61 (by decide) ?_
            rw [show (1 : Int64) = (if p9 = 3 + r9 then 1 else 0) from (if_pos hpr).symm] at hP hD
            exact ih (r9 + 1) _ H locs ls (by omega) hP hD hS (lv_sub hl [0, 1, 2, 3] rfl) kx
          · refine b_ne_t (tgt := 56) hx hb dX1_begin_49 (by decide) (hpr) (by omega) (by omega) ?_
            refine lv_lconst (v := 0) hx hb dX1_begin_56 (by decide) ?_
            refine tL_st (i := r9) hx hb hK hP hD hS (by omega) (by omega) dX1_begin_57 (fun H locs hP hD hS => ?_)
            refine b_iinc (lv' := [(3, .int (nI (r9 + 1))), (2, .int (nI p9)), (0, .ref (ad 3)), (1, .int (nI a))]) hx hb dX1_begin_58 hl (k := 0) rfl (by decide) rfl (fun ls hl => ?_)
            refine lv_goto (tgt := 30) hx hb dX1_begin_61 (by decide) ?_
            rw [show up2 Y (r9 + 18) p9 0 = up2 Y (r9 + 18) p9 (if p9 = 3 + r9 then 1 else 0) by rw [if_neg hpr]] at hP hD
            exact ih (r9 + 1) _ H locs ls (by omega) hP hD hS (lv_sub hl [0, 1, 2, 3] rfl) kx
      refine lp30 _ (a) 0 (up2 X (3 + 18) p9 0) _ _ ls (by omega) hP hD hS (lv_sub hl [0, 1, 2, 3] rfl) (fun H locs ls hP hD hS hl => ?_)
      refine b_iinc (lv' := [(2, .int (nI (p9 + 1))), (3, .int (nI a)), (0, .ref (ad 3)), (1, .int (nI a))]) hx hb dX1_begin_64 hl (k := 1) rfl (by decide) rfl (fun ls hl => ?_)
      refine lv_goto (tgt := 15) hx hb dX1_begin_67 (by decide) ?_
      exact ih (p9 + 1) _ H locs ls (by omega) hP hD hS (lv_sub hl [0, 2, 3] rfl) kx
  refine lp15 _ (6) 0 AL _ _ ls (by omega) hP hD hS (lv_sub hl [0, 1, 2] rfl) (fun H locs ls hP hD hS hl => ?_)
  exact g_vret hx hb hr hlocks (up1 I 5 a, AN, AI, fo (fun p X => fo (fun r Y => up2 Y (r + 18) p (if p = 3 + r then 1 else 0)) a 0 (up2 X (3 + 18) p 0)) (6) 0 AL) (rfl) hK hP hD hS dX1_begin_70

abbrev rmX1_gather : Room := { frames := 2, cells := 0, slots := 0, locals := 47 }
set_option maxHeartbeats 4000000 in
set_option maxRecDepth 100000 in
/-- gather -/
theorem ctX1_gather (l : Launch) (D : va_G) (cs : Nat → ClassId) (ad : Nat → Nat) (I : Nat → Nat) (AN : Nat → Nat → Nat) (AI : Nat → Nat → Int32) (AL : Nat → Nat → Int64) (sz : Nat) (f q : Nat) (h5 : I 5 ≤ 3) (hf : f < I 5) (hq : q < 6) : Met l yX1_gather (Cond.code yX1_gather cX1_gather 4 none :: GW) rmX1_gather (va_Pc [.ref (ad 3), .int (nI f), .int (nI q)] (gP D cs (wT cs ad I AN AI AL) sz)) (va_Qv (fun u : TS => u = (I, AN, AI, lgat (I 5) f q AL)) (gB D cs (va_A (wT cs ad I AN AI AL) sz) (wTs cs ad)) (va_A (wT cs ad I AN AI AL) sz)) 0 0 (va_A (wT cs ad I AN AI AL) sz) := by
  refine Met.ofW (cc := cX1_gather) (maxL := 4) (ret := none) (by decide) rfl ?_
  intro p e s m args below meth c s₁ B hml hv
  obtain ⟨rfl, hsz, hP, hK, hD0, hN⟩ := hv
  have hx := B.exec
  have hb := B.bytes
  have hr := B.returns
  have hts : ∀ w ∈ GW, w.before _ s = true := fun w h => atoms_spec (ws := Cond.code yX1_gather cX1_gather 4 none :: GW) B.pre w (List.mem_cons_of_mem _ h)
  have hown : s.vm.findClass RX1 = some m.cls := findClass_of_methodNamed B.named
  have hlocks := B.notSynchronized
  subst hsz
  have hD := hD0.self (sz := s.heap.size)
  generalize hAe : va_A (wT cs ad I AN AI AL) s.heap.size = A at hD ⊢
  have hA : ∀ q : Nat, s.heap.size ≤ q → A q := fun q h => by rw [← hAe]; exact Or.inr h
  have hS : va_S A s.heap s.heap [] := va_S.rf
  have hl := lv_entry [.ref (ad 3), .int (nI f), .int (nI q)] (n := 4) (Nat.le_of_ble_eq_true rfl)
  rw [lg_entry_eq]
  generalize (lg_sl [.ref (ad 3), .int (nI f), .int (nI q)] ++ List.replicate (4 - (lg_sl [.ref (ad 3), .int (nI f), .int (nI q)]).length) Slot.unset).toArray = ls at hl ⊢
  have hl : lv_has ls 4 [(0, .ref (ad 3)), (1, .int (nI f)), (2, .int (nI q))] := hl
  generalize hargs : ([.ref (ad 3), .int (nI f), .int (nI q)] : List Value).toArray = args at *
  show W p l e rmX1_gather s m args below meth c s.heap [] 0 0 _ (F0 m 0 ls [])
  refine lv_iload_n hx hb dX1_gather_0 rfl (lv_at hl 1 rfl) ?_
  refine lv_iconst (v := nI 1) hx hb dX1_gather_1 (by decide) ?_
  refine b_addn hx hb dX1_gather_2 ?_
  refine lv_istore_n (lv' := [(3, .int (nI (f + 1))), (0, .ref (ad 3)), (1, .int (nI f)), (2, .int (nI q))]) hx hb dX1_gather_3 rfl hl (by decide) rfl (fun ls hl => ?_)
  have lp4 : ∀ (Q : State → Prop) (n r9 : Nat) (X : Nat → Nat → Int64) (H : Heap) (locs : List Loc) (ls : Array Slot), r9 + n = I 5 → va_P D vc (wT cs ad I AN AI X) H → va_D A (wT cs ad I AN AI X) → va_S A s.heap H locs → lv_has ls 4 [(3, .int (nI r9)), (0, .ref (ad 3)), (1, .int (nI f)), (2, .int (nI q))] → (∀ (H : Heap) (locs : List Loc) (ls : Array Slot), va_P D vc (wT cs ad I AN AI (fo (fun r X => ldit f r q 100 X) n r9 X)) H → va_D A (wT cs ad I AN AI (fo (fun r X => ldit f r q 100 X) n r9 X)) → va_S A s.heap H locs → lv_has ls 4 [(3, .int (nI (I 5))), (0, .ref (ad 3)), (1, .int (nI f)), (2, .int (nI q))] → W p l e rmX1_gather s m args below meth c H locs 0 0 Q (F0 m 34 ls [])) → W p l e rmX1_gather s m args below meth c H locs 0 0 Q (F0 m 4 ls []) := by
    intro Q n
    induction n with
    | zero =>
      intro r9 X H locs ls hn hP hD hS hl kx
      have hi : r9 = I 5 := by omega
      refine lv_iload_n hx hb dX1_gather_4 rfl (lv_at hl 0 rfl) ?_
      refine lv_aload_n hx hb dX1_gather_5 rfl (lv_at hl 1 rfl) ?_
      refine b_get (own := RX1) (C := RX1) (T := TX1) (N := 4) (ci := 1) (v := .int (nI (I 5))) hx hb hts usX1 hown hK hP 3 (by decide) rfl rfl 3 (by decide) (hts _ gw_120) rfl dX1_gather_6 ?_
      refine b_ge_t (tgt := 34) hx hb dX1_gather_9 (by decide) (by omega) (by omega) ?_
      rw [hi] at hl
      exact kx H locs ls hP hD hS (lv_sub hl [0, 1, 2, 3] rfl)
    | succ n ih =>
      intro r9 X H locs ls hn hP hD hS hl kx
      have hi : r9 < I 5 := by omega
      refine lv_iload_n hx hb dX1_gather_4 rfl (lv_at hl 0 rfl) ?_
      refine lv_aload_n hx hb dX1_gather_5 rfl (lv_at hl 1 rfl) ?_
      refine b_get (own := RX1) (C := RX1) (T := TX1) (N := 4) (ci := 1) (v := .int (nI (I 5))) hx hb hts usX1 hown hK hP 3 (by decide) rfl rfl 3 (by decide) (hts _ gw_120) rfl dX1_gather_6 ?_
      refine b_ge_f (tgt := 34) hx hb dX1_gather_9 (by decide) (by omega) (by omega) ?_
      refine lv_aload_n hx hb dX1_gather_12 rfl (lv_at hl 1 rfl) ?_
      refine b_get (own := RX1) (C := RX1) (T := TX1) (N := 4) (ci := 1) (v := .ref (ad 6)) hx hb hts usX1 hown hK hP 3 (by decide) rfl rfl 0 (by decide) (hts _ gw_115) rfl dX1_gather_13 ?_
      refine lv_iload_n hx hb dX1_gather_16 rfl (lv_at hl 2 rfl) ?_
      refine tL_r hx hb hK hP (by omega) dX1_gather_17 ?_
      refine lv_aload_n hx hb dX1_gather_18 rfl (lv_at hl 1 rfl) ?_
      refine b_get (own := RX1) (C := RX1) (T := TX1) (N := 4) (ci := 1) (v := .ref (ad 6)) hx hb hts usX1 hown hK hP 3 (by decide) rfl rfl 0 (by decide) (hts _ gw_115) rfl dX1_gather_19 ?_
      refine lv_iload_n hx hb dX1_gather_22 rfl (lv_at hl 0 rfl) ?_
      refine tL_r hx hb hK hP (by omega) dX1_gather_23 ?_
      refine lv_iload_n hx hb dX1_gather_24 rfl (lv_at hl 3 rfl) ?_
      refine g_callv (va_runS (As := [.ref (ad (f + 18)), .ref (ad (r9 + 18)), .int (nI q)]) (rest := []) ⟨hx, hb, hml, hown, hts⟩ (ctX1_divideInTurn l D cs ad I AN AI X _ f r9 q (by omega) (by omega) hq) (va_cwS 3 hts (gi_S gw_232 gw_233 gw_56 gw_234) rfl rfl rfl (by decide +kernel) ⟨Nat.le_of_ble_eq_true rfl, Nat.le_of_ble_eq_true rfl⟩) ⟨g_blind, g_pre hP hK hD hN⟩ rfl rfl hl.1 rfl (lv_room (Nat.le_of_ble_eq_true rfl)) dX1_gather_25 ⟨Nat.zero_le _, Nat.zero_le _⟩) hD hS hA (fun u H locs hw hP hD hS => ?_)
      obtain rfl := hw
      have hP : va_P D vc (wT cs ad I AN AI (ldit f r9 q 100 X)) H := hP
      have hD : va_D A (wT cs ad I AN AI (ldit f r9 q 100 X)) := hD
      refine b_iinc (lv' := [(3, .int (nI (r9 + 1))), (0, .ref (ad 3)), (1, .int (nI f)), (2, .int (nI q))]) hx hb dX1_gather_28 hl (k := 0) rfl (by decide) rfl (fun ls hl => ?_)
      refine lv_goto (tgt := 4) hx hb dX1_gather_31 (by decide) ?_
      exact ih (r9 + 1) _ H locs ls (by omega) hP hD hS (lv_sub hl [0, 1, 2, 3] rfl) kx
  refine lp4 _ ((I 5) - (f + 1)) (f + 1) AL _ _ ls (by omega) hP hD hS (lv_sub hl [0, 1, 2, 3] rfl) (fun H locs ls hP hD hS hl => ?_)
  generalize hX : fo (fun r X => ldit f r q 100 X) ((I 5) - (f + 1)) (f + 1) AL = X at hP hD
  refine lv_aload_n hx hb dX1_gather_34 rfl (lv_at hl 1 rfl) ?_
  refine b_get (own := RX1) (C := RX1) (T := TX1) (N := 4) (ci := 1) (v := .ref (ad 6)) hx hb hts usX1 hown hK hP 3 (by decide) rfl rfl 0 (by decide) (hts _ gw_115) rfl dX1_gather_35 ?_
  refine lv_iload_n hx hb dX1_gather_38 rfl (lv_at hl 2 rfl) ?_
  refine tL_r hx hb hK hP (by omega) dX1_gather_39 ?_
  refine lv_iload_n hx hb dX1_gather_40 rfl (lv_at hl 3 rfl) ?_
  refine tL_ld (i := f) hx hb hK hP (by omega) (by omega) dX1_gather_41 ?_
  refine lv_lconst (v := 0) hx hb dX1_gather_42 (by decide) ?_
  refine b_lcge (tgt := 56) hx hb dX1_gather_43 dX1_gather_44 (by decide) (fun h => ?_) (fun h => ?_)
  · exact g_vret hx hb hr hlocks (I, AN, AI, X) (by subst hX; exact congrArg (fun z => (I, AN, AI, z)) (if_neg h).symm) hK hP hD hS dX1_gather_56
  · refine lv_aload_n hx hb dX1_gather_47 rfl (lv_at hl 1 rfl) ?_
    refine b_get (own := RX1) (C := RX1) (T := TX1) (N := 4) (ci := 1) (v := .ref (ad 6)) hx hb hts usX1 hown hK hP 3 (by decide) rfl rfl 0 (by decide) (hts _ gw_115) rfl dX1_gather_48 ?_
    refine lv_iload_n hx hb dX1_gather_51 rfl (lv_at hl 2 rfl) ?_
    refine tL_r hx hb hK hP (by omega) dX1_gather_52 ?_
    refine g_callv (va_runS (As := [.ref (ad (f + 18))]) (rest := []) ⟨hx, hb, hml, hown, hts⟩ (ctX1_negate l D cs ad I AN AI X _ f (by omega)) (va_cwS 1 hts (gi_S gw_241 gw_242 gw_56 gw_243) rfl rfl rfl (by decide +kernel) ⟨Nat.le_of_ble_eq_true rfl, Nat.le_of_ble_eq_true rfl⟩) ⟨g_blind, g_pre hP hK hD hN⟩ rfl rfl hl.1 rfl (lv_room (Nat.le_of_ble_eq_true rfl)) dX1_gather_53 ⟨Nat.zero_le _, Nat.zero_le _⟩) hD hS hA (fun u H locs hw hP hD hS => ?_)
    obtain rfl := hw
    have hP : va_P D vc (wT cs ad I AN AI (lneg f X)) H := hP
    have hD : va_D A (wT cs ad I AN AI (lneg f X)) := hD
    exact g_vret hx hb hr hlocks (I, AN, AI, lneg f X) (by subst hX; exact congrArg (fun z => (I, AN, AI, z)) (if_pos h).symm) hK hP hD hS dX1_gather_56

theorem ne_of_gt0 {x : Int64} (h : 0 < x) : ¬ x = 0 := by
  intro e
  subst e
  exact absurd h (by decide)

abbrev rmX1_lessen : Room := { frames := 1, cells := 0, slots := 0, locals := 25 }
set_option maxHeartbeats 4000000 in
set_option maxRecDepth 100000 in
/-- lessen -/
theorem ctX1_lessen (l : Launch) (D : va_G) (cs : Nat → ClassId) (ad : Nat → Nat) (I : Nat → Nat) (AN : Nat → Nat → Nat) (AI : Nat → Nat → Int32) (AL : Nat → Nat → Int64) (sz : Nat) (t r0 : Nat) (ht : t < 4) (hr0 : r0 < 3) (hbg : ∀ r, r < 3 → AN 7 r < 6) : Met l yX1_lessen (Cond.code yX1_lessen cX1_lessen 5 none :: GW) rmX1_lessen (va_Pc [.ref (ad 3), .ref (ad (t + 18)), .int (nI r0)] (gP D cs (wT cs ad I AN AI AL) sz)) (va_Qv (fun u : TS => u = (I, AN, AI, lles AN t r0 AL)) (gB D cs (va_A (wT cs ad I AN AI AL) sz) (wTs cs ad)) (va_A (wT cs ad I AN AI AL) sz)) 0 0 (va_A (wT cs ad I AN AI AL) sz) := by
  refine Met.ofW (cc := cX1_lessen) (maxL := 5) (ret := none) (by decide) rfl ?_
  intro p e s m args below meth c s₁ B hml hv
  obtain ⟨rfl, hsz, hP, hK, hD0, hN⟩ := hv
  have hx := B.exec
  have hb := B.bytes
  have hr := B.returns
  have hts : ∀ w ∈ GW, w.before _ s = true := fun w h => atoms_spec (ws := Cond.code yX1_lessen cX1_lessen 5 none :: GW) B.pre w (List.mem_cons_of_mem _ h)
  have hown : s.vm.findClass RX1 = some m.cls := findClass_of_methodNamed B.named
  have hlocks := B.notSynchronized
  subst hsz
  have hD := hD0.self (sz := s.heap.size)
  generalize hAe : va_A (wT cs ad I AN AI AL) s.heap.size = A at hD ⊢
  have hA : ∀ q : Nat, s.heap.size ≤ q → A q := fun q h => by rw [← hAe]; exact Or.inr h
  have hS : va_S A s.heap s.heap [] := va_S.rf
  have hl := lv_entry [.ref (ad 3), .ref (ad (t + 18)), .int (nI r0)] (n := 5) (Nat.le_of_ble_eq_true rfl)
  rw [lg_entry_eq]
  generalize (lg_sl [.ref (ad 3), .ref (ad (t + 18)), .int (nI r0)] ++ List.replicate (5 - (lg_sl [.ref (ad 3), .ref (ad (t + 18)), .int (nI r0)]).length) Slot.unset).toArray = ls at hl ⊢
  have hl : lv_has ls 5 [(0, .ref (ad 3)), (1, .ref (ad (t + 18))), (2, .int (nI r0))] := hl
  generalize hargs : ([.ref (ad 3), .ref (ad (t + 18)), .int (nI r0)] : List Value).toArray = args at *
  show W p l e rmX1_lessen s m args below meth c s.heap [] 0 0 _ (F0 m 0 ls [])
  have hbr := hbg r0 hr0
  refine lv_aload_n hx hb dX1_lessen_0 rfl (lv_at hl 0 rfl) ?_
  refine b_get (own := RX1) (C := RX1) (T := TX1) (N := 4) (ci := 1) (v := .ref (ad 6)) hx hb hts usX1 hown hK hP 3 (by decide) rfl rfl 0 (by decide) (hts _ gw_115) rfl dX1_lessen_1 ?_
  refine lv_iload_n hx hb dX1_lessen_4 rfl (lv_at hl 2 rfl) ?_
  refine tL_r hx hb hK hP (by omega) dX1_lessen_5 ?_
  refine lv_aload_n hx hb dX1_lessen_6 rfl (lv_at hl 0 rfl) ?_
  refine b_get (own := RX1) (C := RX1) (T := TX1) (N := 4) (ci := 1) (v := .ref (ad 7)) hx hb hts usX1 hown hK hP 3 (by decide) rfl rfl 1 (by decide) (hts _ gw_117) rfl dX1_lessen_7 ?_
  refine lv_iload_n hx hb dX1_lessen_10 rfl (lv_at hl 2 rfl) ?_
  refine tB_ld hx hb hK hP (by omega) dX1_lessen_11 ?_
  refine tL_ld (i := r0) hx hb hK hP (by omega) (by omega) dX1_lessen_12 ?_
  refine lv_lstore_n (lv' := [(3, .long (AL (r0 + 18) (AN 7 r0))), (0, .ref (ad 3)), (1, .ref (ad (t + 18))), (2, .int (nI r0))]) hx hb dX1_lessen_13 rfl hl (by decide) rfl (fun ls hl => ?_)
  generalize hbe : AL (r0 + 18) (AN 7 r0) = be at hl
  refine lv_lload_n hx hb dX1_lessen_14 rfl (lv_at hl 0 rfl) ?_
  refine lv_lconst (v := 0) hx hb dX1_lessen_15 (by decide) ?_
  refine b_lcle (tgt := 42) hx hb dX1_lessen_16 dX1_lessen_17 (by decide) (fun h => ?_) (fun h => ?_)
  · exact g_vret hx hb hr hlocks (I, AN, AI, AL) (by subst hbe; exact congrArg (fun z => (I, AN, AI, z)) (if_neg h).symm) hK hP hD hS dX1_lessen_42
  · refine lv_aload_n hx hb dX1_lessen_20 rfl (lv_at hl 2 rfl) ?_
    refine lv_aload_n hx hb dX1_lessen_21 rfl (lv_at hl 1 rfl) ?_
    refine b_get (own := RX1) (C := RX1) (T := TX1) (N := 4) (ci := 1) (v := .ref (ad 6)) hx hb hts usX1 hown hK hP 3 (by decide) rfl rfl 0 (by decide) (hts _ gw_115) rfl dX1_lessen_22 ?_
    refine lv_iload_n hx hb dX1_lessen_25 rfl (lv_at hl 3 rfl) ?_
    refine tL_r hx hb hK hP (by omega) dX1_lessen_26 ?_
    refine lv_aload_n hx hb dX1_lessen_27 rfl (lv_at hl 2 rfl) ?_
    refine lv_aload_n hx hb dX1_lessen_28 rfl (lv_at hl 1 rfl) ?_
    refine b_get (own := RX1) (C := RX1) (T := TX1) (N := 4) (ci := 1) (v := .ref (ad 7)) hx hb hts usX1 hown hK hP 3 (by decide) rfl rfl 1 (by decide) (hts _ gw_117) rfl dX1_lessen_29 ?_
    refine lv_iload_n hx hb dX1_lessen_32 rfl (lv_at hl 3 rfl) ?_
    refine tB_ld hx hb hK hP (by omega) dX1_lessen_33 ?_
    refine tL_ld (i := t) hx hb hK hP (by omega) (by omega) dX1_lessen_34 ?_
    refine lv_lload_n hx hb dX1_lessen_35 rfl (lv_at hl 0 rfl) ?_
    refine g_calll (va_runS (As := [.long (AL (t + 18) (AN 7 r0)), .long be]) (rest := [.ref (ad (r0 + 18)), .ref (ad (t + 18))]) ⟨hx, hb, hml, hown, hts⟩ (ctJ9_floorDiv l D cs ad I AN AI AL _ (AL (t + 18) (AN 7 r0)) be (ne_of_gt0 h)) (va_cwS 2 hts (gi_S gw_248 gw_249 gw_54 gw_250) rfl rfl rfl (by decide +kernel) ⟨Nat.le_of_ble_eq_true rfl, Nat.le_of_ble_eq_true rfl⟩) ⟨g_blind, g_pre hP hK hD hN⟩ rfl rfl hl.1 rfl (lv_room (Nat.le_of_ble_eq_true rfl)) dX1_lessen_36 ⟨Nat.zero_le _, Nat.zero_le _⟩) hD hS hA (fun r u H locs hw hP hD hS => ?_)
    obtain ⟨rfl, rfl⟩ := hw
    have hP : va_P D vc (wT cs ad I AN AI AL) H := hP
    have hD : va_D A (wT cs ad I AN AI AL) := hD
    refine g_callv (va_runS (As := [.ref (ad (t + 18)), .ref (ad (r0 + 18)), .long (fdiv64 (AL (t + 18) (AN 7 r0)) be)]) (rest := []) ⟨hx, hb, hml, hown, hts⟩ (ctX1_subtract l D cs ad I AN AI AL _ t r0 (fdiv64 (AL (t + 18) (AN 7 r0)) be) ht (by omega)) (va_cwS 3 hts (gi_S gw_235 gw_236 gw_56 gw_237) rfl rfl rfl (by decide +kernel) ⟨Nat.le_of_ble_eq_true rfl, Nat.le_of_ble_eq_true rfl⟩) ⟨g_blind, g_pre hP hK hD hN⟩ rfl rfl hl.1 rfl (lv_room (Nat.le_of_ble_eq_true rfl)) dX1_lessen_39 ⟨Nat.zero_le _, Nat.zero_le _⟩) hD hS hA (fun u H locs hw hP hD hS => ?_)
    obtain rfl := hw
    have hP : va_P D vc (wT cs ad I AN AI (lsbt t r0 (fdiv64 (AL (t + 18) (AN 7 r0)) be) AL)) H := hP
    have hD : va_D A (wT cs ad I AN AI (lsbt t r0 (fdiv64 (AL (t + 18) (AN 7 r0)) be) AL)) := hD
    exact g_vret hx hb hr hlocks (I, AN, AI, lsbt t r0 (fdiv64 (AL (t + 18) (AN 7 r0)) be) AL) (by subst hbe; exact congrArg (fun z => (I, AN, AI, z)) (if_pos h).symm) hK hP hD hS dX1_lessen_42
end
section
/-- one place of span: next, beginnings, rows -/
def sstep (h q : Nat) (x : Nat × (Nat → Nat → Nat) × (Nat → Nat → Int64)) : Nat × (Nat → Nat → Nat) × (Nat → Nat → Int64) :=
  if x.1 < h then
    if lgat h x.1 q x.2.2 (x.1 + 18) q = 0 then (x.1, x.2.1, lgat h x.1 q x.2.2)
    else (x.1 + 1, up2 x.2.1 7 x.1 q, fo (fun a X => lles (up2 x.2.1 7 x.1 q) a x.1 X) x.1 0 (lgat h x.1 q x.2.2))
  else x
theorem sstep_out {h q : Nat} {x : Nat × (Nat → Nat → Nat) × (Nat → Nat → Int64)} (hx : ¬ x.1 < h) : sstep h q x = x := if_neg hx
theorem sstep_z {h q : Nat} {x : Nat × (Nat → Nat → Nat) × (Nat → Nat → Int64)} (hx : x.1 < h) (hz : lgat h x.1 q x.2.2 (x.1 + 18) q = 0) : sstep h q x = (x.1, x.2.1, lgat h x.1 q x.2.2) := by
  unfold sstep
  rw [if_pos hx, if_pos hz]
theorem sstep_s {h q : Nat} {x : Nat × (Nat → Nat → Nat) × (Nat → Nat → Int64)} (hx : x.1 < h) (hz : ¬ lgat h x.1 q x.2.2 (x.1 + 18) q = 0) : sstep h q x = (x.1 + 1, up2 x.2.1 7 x.1 q, fo (fun a X => lles (up2 x.2.1 7 x.1 q) a x.1 X) x.1 0 (lgat h x.1 q x.2.2)) := by
  unfold sstep
  rw [if_pos hx, if_neg hz]
def spn (h : Nat) (AN : Nat → Nat → Nat) (AL : Nat → Nat → Int64) : (Nat → Nat → Nat) × (Nat → Nat → Int64) :=
  ((fo (sstep h) 6 0 (0, AN, AL)).2.1, fo (fun r X => lles (fo (sstep h) 6 0 (0, AN, AL)).2.1 3 r X) h 0 (fo (sstep h) 6 0 (0, AN, AL)).2.2)

abbrev rmX1_span : Room := { frames := 3, cells := 0, slots := 0, locals := 70 }
set_option maxHeartbeats 4000000 in
set_option maxRecDepth 100000 in
/-- span -/
theorem ctX1_span (l : Launch) (D : va_G) (cs : Nat → ClassId) (ad : Nat → Nat) (I : Nat → Nat) (AN : Nat → Nat → Nat) (AI : Nat → Nat → Int32) (AL : Nat → Nat → Int64) (sz : Nat)  (h5 : I 5 ≤ 3) (hbg : ∀ r, r < 3 → AN 7 r < 6) : Met l yX1_span (Cond.code yX1_span cX1_span 4 none :: GW) rmX1_span (va_Pc [.ref (ad 3)] (gP D cs (wT cs ad I AN AI AL) sz)) (va_Qv (fun u : TS => u = (I, (spn (I 5) AN AL).1, AI, (spn (I 5) AN AL).2)) (gB D cs (va_A (wT cs ad I AN AI AL) sz) (wTs cs ad)) (va_A (wT cs ad I AN AI AL) sz)) 0 0 (va_A (wT cs ad I AN AI AL) sz) := by
  refine Met.ofW (cc := cX1_span) (maxL := 4) (ret := none) (by decide) rfl ?_
  intro p e s m args below meth c s₁ B hml hv
  obtain ⟨rfl, hsz, hP, hK, hD0, hN⟩ := hv
  have hx := B.exec
  have hb := B.bytes
  have hr := B.returns
  have hts : ∀ w ∈ GW, w.before _ s = true := fun w h => atoms_spec (ws := Cond.code yX1_span cX1_span 4 none :: GW) B.pre w (List.mem_cons_of_mem _ h)
  have hown : s.vm.findClass RX1 = some m.cls := findClass_of_methodNamed B.named
  have hlocks := B.notSynchronized
  subst hsz
  have hD := hD0.self (sz := s.heap.size)
  generalize hAe : va_A (wT cs ad I AN AI AL) s.heap.size = A at hD ⊢
  have hA : ∀ q : Nat, s.heap.size ≤ q → A q := fun q h => by rw [← hAe]; exact Or.inr h
  have hS : va_S A s.heap s.heap [] := va_S.rf
  have hl := lv_entry [.ref (ad 3)] (n := 4) (Nat.le_of_ble_eq_true rfl)
  rw [lg_entry_eq]
  generalize (lg_sl [.ref (ad 3)] ++ List.replicate (4 - (lg_sl [.ref (ad 3)]).length) Slot.unset).toArray = ls at hl ⊢
  have hl : lv_has ls 4 [(0, .ref (ad 3))] := hl
  generalize hargs : ([.ref (ad 3)] : List Value).toArray = args at *
  show W p l e rmX1_span s m args below meth c s.heap [] 0 0 _ (F0 m 0 ls [])
  refine lv_iconst (v := nI 0) hx hb dX1_span_0 (by decide) ?_
  refine lv_istore_n (lv' := [(1, .int (nI 0)), (0, .ref (ad 3))]) hx hb dX1_span_1 rfl hl (by decide) rfl (fun ls hl => ?_)
  refine lv_iconst (v := nI 0) hx hb dX1_span_2 (by decide) ?_
  refine lv_istore_n (lv' := [(2, .int (nI 0)), (1, .int (nI 0)), (0, .ref (ad 3))]) hx hb dX1_span_3 rfl hl (by decide) rfl (fun ls hl => ?_)
  have lp4 : ∀ (Q : State → Prop) (n q x : Nat) (AN : Nat → Nat → Nat) (AL : Nat → Nat → Int64) (H : Heap) (locs : List Loc) (ls : Array Slot), q + n = 6 → x ≤ I 5 → (∀ r, r < 3 → AN 7 r < 6) → va_P D vc (wT cs ad I AN AI AL) H → va_D A (wT cs ad I AN AI AL) → va_S A s.heap H locs → lv_has ls 4 [(2, .int (nI q)), (1, .int (nI x)), (0, .ref (ad 3))] → (∀ (H : Heap) (locs : List Loc) (ls : Array Slot) (x' : Nat) (AN' : Nat → Nat → Nat) (AL' : Nat → Nat → Int64), (x', AN', AL') = fo (sstep (I 5)) n q (x, AN, AL) → (∀ r, r < 3 → AN' 7 r < 6) → va_P D vc (wT cs ad I AN' AI AL') H → va_D A (wT cs ad I AN' AI AL') → va_S A s.heap H locs → lv_has ls 4 [(0, .ref (ad 3))] → W p l e rmX1_span s m args below meth c H locs 0 0 Q (F0 m 77 ls [])) → W p l e rmX1_span s m args below meth c H locs 0 0 Q (F0 m 4 ls []) := by
    intro Q n
    induction n with
    | zero =>
      intro q x AN AL H locs ls hn hxh hbg hP hD hS hl kx
      refine lv_iload_n hx hb dX1_span_4 rfl (lv_at hl 0 rfl) ?_
      refine lv_bipush (v := nI 6) hx hb dX1_span_5 (by decide) ?_
      refine b_ge_t (tgt := 77) hx hb dX1_span_7 (by decide) (by omega) (by omega) ?_
      exact kx H locs ls x AN AL rfl hbg hP hD hS (lv_sub hl [2] rfl)
    | succ n ih =>
      intro q x AN AL H locs ls hn hxh hbg hP hD hS hl kx
      refine lv_iload_n hx hb dX1_span_4 rfl (lv_at hl 0 rfl) ?_
      refine lv_bipush (v := nI 6) hx hb dX1_span_5 (by decide) ?_
      refine b_ge_f (tgt := 77) hx hb dX1_span_7 (by decide) (by omega) (by omega) ?_
      refine lv_iload_n hx hb dX1_span_10 rfl (lv_at hl 1 rfl) ?_
      refine lv_aload_n hx hb dX1_span_11 rfl (lv_at hl 2 rfl) ?_
      refine b_get (own := RX1) (C := RX1) (T := TX1) (N := 4) (ci := 1) (v := .int (nI (I 5))) hx hb hts usX1 hown hK hP 3 (by decide) rfl rfl 3 (by decide) (hts _ gw_120) rfl dX1_span_12 ?_
      by_cases hxl : x < I 5
      · refine b_ge_f (tgt := 77) hx hb dX1_span_15 (by decide) (hxl) (by omega) ?_
        refine lv_aload_n hx hb dX1_span_18 rfl (lv_at hl 2 rfl) ?_
        refine lv_iload_n hx hb dX1_span_19 rfl (lv_at hl 1 rfl) ?_
        refine lv_iload_n hx hb dX1_span_20 rfl (lv_at hl 0 rfl) ?_
        refine g_callv (va_runV (As := [.int (nI x), .int (nI q)]) (rest := []) ⟨hx, hb, hml, hown, hts⟩ (ctX1_gather l D cs ad I AN AI AL _ x q h5 hxl (by omega)) (cwV 2 hts (gi_V gw_228 gw_230 gw_14 gw_56 gw_231) rfl rfl rfl (by decide +kernel) ⟨Nat.le_of_ble_eq_true rfl, Nat.le_of_ble_eq_true rfl⟩) ⟨g_blind, va_recv hK hP (ci := 1) (q0 := 3) rfl (wm_at (by decide) rfl), g_pre hP hK hD hN⟩ rfl rfl hl.1 rfl (lv_room (Nat.le_of_ble_eq_true rfl)) dX1_span_21 ⟨Nat.zero_le _, Nat.zero_le _⟩) hD hS hA (fun u H locs hw hP hD hS => ?_)
        obtain rfl := hw
        have hP : va_P D vc (wT cs ad I AN AI (lgat (I 5) x q AL)) H := hP
        have hD : va_D A (wT cs ad I AN AI (lgat (I 5) x q AL)) := hD
        refine lv_aload_n hx hb dX1_span_24 rfl (lv_at hl 2 rfl) ?_
        refine b_get (own := RX1) (C := RX1) (T := TX1) (N := 4) (ci := 1) (v := .ref (ad 6)) hx hb hts usX1 hown hK hP 3 (by decide) rfl rfl 0 (by decide) (hts _ gw_115) rfl dX1_span_25 ?_
        refine lv_iload_n hx hb dX1_span_28 rfl (lv_at hl 1 rfl) ?_
        refine tL_r hx hb hK hP (by omega) dX1_span_29 ?_
        refine lv_iload_n hx hb dX1_span_30 rfl (lv_at hl 0 rfl) ?_
        refine tL_ld (i := x) hx hb hK hP (by omega) (by omega) dX1_span_31 ?_
        refine lv_lconst (v := 0) hx hb dX1_span_32 (by decide) ?_
        refine b_lceq (tgt := 71) hx hb dX1_span_33 dX1_span_34 (by decide) (fun h => ?_) (fun h => ?_)
        · refine b_iinc (lv' := [(2, .int (nI (q + 1))), (1, .int (nI x)), (0, .ref (ad 3))]) hx hb dX1_span_71 hl (k := 0) rfl (by decide) rfl (fun ls hl => ?_)
          refine lv_goto (tgt := 4) hx hb dX1_span_74 (by decide) ?_
          rw [fo_s, sstep_z (x := (x, AN, AL)) hxl h] at kx
          exact ih (q + 1) x AN _ H locs ls (by omega) hxh hbg hP hD hS (lv_sub hl [0, 1, 2] rfl) kx
        · refine lv_aload_n hx hb dX1_span_37 rfl (lv_at hl 2 rfl) ?_
          refine b_get (own := RX1) (C := RX1) (T := TX1) (N := 4) (ci := 1) (v := .ref (ad 7)) hx hb hts usX1 hown hK hP 3 (by decide) rfl rfl 1 (by decide) (hts _ gw_117) rfl dX1_span_38 ?_
          refine lv_iload_n hx hb dX1_span_41 rfl (lv_at hl 1 rfl) ?_
          refine lv_iload_n hx hb dX1_span_42 rfl (lv_at hl 0 rfl) ?_
          refine tB_st hx hb hK hP hD hS (by omega) dX1_span_43 (fun H locs hP hD hS => ?_)
          refine lv_iconst (v := nI 0) hx hb dX1_span_44 (by decide) ?_
          refine lv_istore_n (lv' := [(3, .int (nI 0)), (2, .int (nI q)), (1, .int (nI x)), (0, .ref (ad 3))]) hx hb dX1_span_45 rfl hl (by decide) rfl (fun ls hl => ?_)
          have hbg2 : ∀ r, r < 3 → (up2 AN 7 x q) 7 r < 6 := fun r hr => by
            by_cases hrx : r = x
            · rw [hrx, up2_s]; omega
            · rw [up2_n (fun z => hrx z.2)]; exact hbg r hr
          generalize hAN2 : up2 AN 7 x q = AN2 at hP hD hbg2
          generalize hAL2 : lgat (I 5) x q AL = AL2 at hP hD
          have lp46 : ∀ (Q : State → Prop) (n g9 : Nat) (X : Nat → Nat → Int64) (H : Heap) (locs : List Loc) (ls : Array Slot), g9 + n = x → va_P D vc (wT cs ad I AN2 AI X) H → va_D A (wT cs ad I AN2 AI X) → va_S A s.heap H locs → lv_has ls 4 [(3, .int (nI g9)), (2, .int (nI q)), (1, .int (nI x)), (0, .ref (ad 3))] → (∀ (H : Heap) (locs : List Loc) (ls : Array Slot), va_P D vc (wT cs ad I AN2 AI (fo (fun a X => lles AN2 a x X) n g9 X)) H → va_D A (wT cs ad I AN2 AI (fo (fun a X => lles AN2 a x X) n g9 X)) → va_S A s.heap H locs → lv_has ls 4 [(3, .int (nI x)), (2, .int (nI q)), (1, .int (nI x)), (0, .ref (ad 3))] → W p l e rmX1_span s m args below meth c H locs 0 0 Q (F0 m 68 ls [])) → W p l e rmX1_span s m args below meth c H locs 0 0 Q (F0 m 46 ls []) := by
            intro Q n
            induction n with
            | zero =>
              intro g9 X H locs ls hn hP hD hS hl kx
              have hi : g9 = x := by omega
              refine lv_iload_n hx hb dX1_span_46 rfl (lv_at hl 0 rfl) ?_
              refine lv_iload_n hx hb dX1_span_47 rfl (lv_at hl 2 rfl) ?_
              refine b_ge_t (tgt := 68) hx hb dX1_span_48 (by decide) (by omega) (by omega) ?_
              rw [hi] at hl
              exact kx H locs ls hP hD hS (lv_sub hl [0, 1, 2, 3] rfl)
            | succ n ih =>
              intro g9 X H locs ls hn hP hD hS hl kx
              have hi : g9 < x := by omega
              refine lv_iload_n hx hb dX1_span_46 rfl (lv_at hl 0 rfl) ?_
              refine lv_iload_n hx hb dX1_span_47 rfl (lv_at hl 2 rfl) ?_
              refine b_ge_f (tgt := 68) hx hb dX1_span_48 (by decide) (by omega) (by omega) ?_
              refine lv_aload_n hx hb dX1_span_51 rfl (lv_at hl 3 rfl) ?_
              refine lv_aload_n hx hb dX1_span_52 rfl (lv_at hl 3 rfl) ?_
              refine b_get (own := RX1) (C := RX1) (T := TX1) (N := 4) (ci := 1) (v := .ref (ad 6)) hx hb hts usX1 hown hK hP 3 (by decide) rfl rfl 0 (by decide) (hts _ gw_115) rfl dX1_span_53 ?_
              refine lv_iload_n hx hb dX1_span_56 rfl (lv_at hl 0 rfl) ?_
              refine tL_r hx hb hK hP (by omega) dX1_span_57 ?_
              refine lv_iload_n hx hb dX1_span_58 rfl (lv_at hl 2 rfl) ?_
              refine g_callv (va_runV (As := [.ref (ad (g9 + 18)), .int (nI x)]) (rest := []) ⟨hx, hb, hml, hown, hts⟩ (ctX1_lessen l D cs ad I AN2 AI X _ g9 x (by omega) (by omega) hbg2) (cwV 2 hts (gi_V gw_244 gw_246 gw_15 gw_56 gw_247) rfl rfl rfl (by decide +kernel) ⟨Nat.le_of_ble_eq_true rfl, Nat.le_of_ble_eq_true rfl⟩) ⟨g_blind, va_recv hK hP (ci := 1) (q0 := 3) rfl (wm_at (by decide) rfl), g_pre hP hK hD hN⟩ rfl rfl hl.1 rfl (lv_room (Nat.le_of_ble_eq_true rfl)) dX1_span_59 ⟨Nat.zero_le _, Nat.zero_le _⟩) hD hS hA (fun u H locs hw hP hD hS => ?_)
              obtain rfl := hw
              have hP : va_P D vc (wT cs ad I AN2 AI (lles AN2 g9 x X)) H := hP
              have hD : va_D A (wT cs ad I AN2 AI (lles AN2 g9 x X)) := hD
              refine b_iinc (lv' := [(3, .int (nI (g9 + 1))), (2, .int (nI q)), (1, .int (nI x)), (0, .ref (ad 3))]) hx hb dX1_span_62 hl (k := 0) rfl (by decide) rfl (fun ls hl => ?_)
              refine lv_goto (tgt := 46) hx hb dX1_span_65 (by decide) ?_
              exact ih (g9 + 1) _ H locs ls (by omega) hP hD hS (lv_sub hl [0, 1, 2, 3] rfl) kx
          refine lp46 _ (x) 0 AL2 _ _ ls (by omega) hP hD hS (lv_sub hl [0, 1, 2, 3] rfl) (fun H locs ls hP hD hS hl => ?_)
          refine b_iinc (lv' := [(1, .int (nI (x + 1))), (3, .int (nI x)), (2, .int (nI q)), (0, .ref (ad 3))]) hx hb dX1_span_68 hl (k := 2) rfl (by decide) rfl (fun ls hl => ?_)
          refine b_iinc (lv' := [(2, .int (nI (q + 1))), (1, .int (nI (x + 1))), (3, .int (nI x)), (0, .ref (ad 3))]) hx hb dX1_span_71 hl (k := 2) rfl (by decide) rfl (fun ls hl => ?_)
          refine lv_goto (tgt := 4) hx hb dX1_span_74 (by decide) ?_
          subst hAN2
          subst hAL2
          rw [fo_s, sstep_s (x := (x, AN, AL)) hxl h] at kx
          exact ih (q + 1) (x + 1) _ _ H locs ls (by omega) (by omega) hbg2 hP hD hS (lv_sub hl [0, 1, 3] rfl) kx
      · refine b_ge_t (tgt := 77) hx hb dX1_span_15 (by decide) (by omega) (by omega) ?_
        refine kx H locs ls x AN AL ?_ hbg hP hD hS (lv_sub hl [2] rfl)
        exact (fo_id (f := sstep (I 5)) (fun q => sstep_out (x := (x, AN, AL)) hxl) (n + 1) q).symm
  refine lp4 _ 6 0 0 AN AL _ _ ls (by omega) (by omega) hbg hP hD hS (lv_sub hl [0, 1, 2] rfl) (fun H locs ls x' AN' AL' he hbg hP hD hS hl => ?_)
  refine lv_iconst (v := nI 0) hx hb dX1_span_77 (by decide) ?_
  refine lv_istore_n (lv' := [(2, .int (nI 0)), (0, .ref (ad 3))]) hx hb dX1_span_78 rfl hl (by decide) rfl (fun ls hl => ?_)
  have lp79 : ∀ (Q : State → Prop) (n g9 : Nat) (X : Nat → Nat → Int64) (H : Heap) (locs : List Loc) (ls : Array Slot), g9 + n = I 5 → va_P D vc (wT cs ad I AN' AI X) H → va_D A (wT cs ad I AN' AI X) → va_S A s.heap H locs → lv_has ls 4 [(2, .int (nI g9)), (0, .ref (ad 3))] → (∀ (H : Heap) (locs : List Loc) (ls : Array Slot), va_P D vc (wT cs ad I AN' AI (fo (fun r X => lles AN' 3 r X) n g9 X)) H → va_D A (wT cs ad I AN' AI (fo (fun r X => lles AN' 3 r X) n g9 X)) → va_S A s.heap H locs → lv_has ls 4 [(2, .int (nI (I 5))), (0, .ref (ad 3))] → W p l e rmX1_span s m args below meth c H locs 0 0 Q (F0 m 102 ls [])) → W p l e rmX1_span s m args below meth c H locs 0 0 Q (F0 m 79 ls []) := by
    intro Q n
    induction n with
    | zero =>
      intro g9 X H locs ls hn hP hD hS hl kx
      have hi : g9 = I 5 := by omega
      refine lv_iload_n hx hb dX1_span_79 rfl (lv_at hl 0 rfl) ?_
      refine lv_aload_n hx hb dX1_span_80 rfl (lv_at hl 1 rfl) ?_
      refine b_get (own := RX1) (C := RX1) (T := TX1) (N := 4) (ci := 1) (v := .int (nI (I 5))) hx hb hts usX1 hown hK hP 3 (by decide) rfl rfl 3 (by decide) (hts _ gw_120) rfl dX1_span_81 ?_
      refine b_ge_t (tgt := 102) hx hb dX1_span_84 (by decide) (by omega) (by omega) ?_
      rw [hi] at hl
      exact kx H locs ls hP hD hS (lv_sub hl [0, 1] rfl)
    | succ n ih =>
      intro g9 X H locs ls hn hP hD hS hl kx
      have hi : g9 < I 5 := by omega
      refine lv_iload_n hx hb dX1_span_79 rfl (lv_at hl 0 rfl) ?_
      refine lv_aload_n hx hb dX1_span_80 rfl (lv_at hl 1 rfl) ?_
      refine b_get (own := RX1) (C := RX1) (T := TX1) (N := 4) (ci := 1) (v := .int (nI (I 5))) hx hb hts usX1 hown hK hP 3 (by decide) rfl rfl 3 (by decide) (hts _ gw_120) rfl dX1_span_81 ?_
      refine b_ge_f (tgt := 102) hx hb dX1_span_84 (by decide) (by omega) (by omega) ?_
      refine lv_aload_n hx hb dX1_span_87 rfl (lv_at hl 1 rfl) ?_
      refine lv_aload_n hx hb dX1_span_88 rfl (lv_at hl 1 rfl) ?_
      refine b_get (own := RX1) (C := RX1) (T := TX1) (N := 4) (ci := 1) (v := .ref (ad 21)) hx hb hts usX1 hown hK hP 3 (by decide) rfl rfl 2 (by decide) (hts _ gw_118) rfl dX1_span_89 ?_
      refine lv_iload_n hx hb dX1_span_92 rfl (lv_at hl 0 rfl) ?_
      refine g_callv (va_runV (As := [.ref (ad 21), .int (nI g9)]) (rest := []) ⟨hx, hb, hml, hown, hts⟩ (ctX1_lessen l D cs ad I AN' AI X _ 3 g9 (by omega) (by omega) hbg) (cwV 2 hts (gi_V gw_244 gw_246 gw_15 gw_56 gw_247) rfl rfl rfl (by decide +kernel) ⟨Nat.le_of_ble_eq_true rfl, Nat.le_of_ble_eq_true rfl⟩) ⟨g_blind, va_recv hK hP (ci := 1) (q0 := 3) rfl (wm_at (by decide) rfl), g_pre hP hK hD hN⟩ rfl rfl hl.1 rfl (lv_room (Nat.le_of_ble_eq_true rfl)) dX1_span_93 ⟨Nat.zero_le _, Nat.zero_le _⟩) hD hS hA (fun u H locs hw hP hD hS => ?_)
      obtain rfl := hw
      have hP : va_P D vc (wT cs ad I AN' AI (lles AN' 3 g9 X)) H := hP
      have hD : va_D A (wT cs ad I AN' AI (lles AN' 3 g9 X)) := hD
      refine b_iinc (lv' := [(2, .int (nI (g9 + 1))), (0, .ref (ad 3))]) hx hb dX1_span_96 hl (k := 0) rfl (by decide) rfl (fun ls hl => ?_)
      refine lv_goto (tgt := 79) hx hb dX1_span_99 (by decide) ?_
      exact ih (g9 + 1) _ H locs ls (by omega) hP hD hS (lv_sub hl [0, 1] rfl) kx
  refine lp79 _ (I 5) 0 AL' _ _ ls (by omega) hP hD hS (lv_sub hl [0, 1] rfl) (fun H locs ls hP hD hS hl => ?_)
  exact g_vret hx hb hr hlocks (I, AN', AI, fo (fun r X => lles AN' 3 r X) (I 5) 0 AL') (by unfold spn; rw [← he]) hK hP hD hS dX1_span_102

abbrev rmX1_isReached : Room := { frames := 0, cells := 0, slots := 0, locals := 0 }
set_option maxHeartbeats 4000000 in
set_option maxRecDepth 100000 in
/-- isReached -/
theorem ctX1_isReached (l : Launch) (D : va_G) (cs : Nat → ClassId) (ad : Nat → Nat) (I : Nat → Nat) (AN : Nat → Nat → Nat) (AI : Nat → Nat → Int32) (AL : Nat → Nat → Int64) (sz : Nat)   : Met l yX1_isReached (Cond.code yX1_isReached cX1_isReached 2 (some FieldType.boolean) :: GW) rmX1_isReached (va_Pc [.ref (ad 3)] (gP D cs (wT cs ad I AN AI AL) sz)) (va_Qi (fun (r : Int32) (u : TS) => u = (I, AN, AI, AL) ∧ r = bz (fnd (fun k => AL 21 k ≠ 0) 3 0).isNone) (gB D cs (va_A (wT cs ad I AN AI AL) sz) (wTs cs ad)) (va_A (wT cs ad I AN AI AL) sz)) 0 0 (va_A (wT cs ad I AN AI AL) sz) := by
  refine Met.ofW (cc := cX1_isReached) (maxL := 2) (ret := (some FieldType.boolean)) (by decide) rfl ?_
  intro p e s m args below meth c s₁ B hml hv
  obtain ⟨rfl, hsz, hP, hK, hD0, hN⟩ := hv
  have hx := B.exec
  have hb := B.bytes
  have hr := B.returns
  have hts : ∀ w ∈ GW, w.before _ s = true := fun w h => atoms_spec (ws := Cond.code yX1_isReached cX1_isReached 2 (some FieldType.boolean) :: GW) B.pre w (List.mem_cons_of_mem _ h)
  have hown : s.vm.findClass RX1 = some m.cls := findClass_of_methodNamed B.named
  have hlocks := B.notSynchronized
  subst hsz
  have hD := hD0.self (sz := s.heap.size)
  generalize hAe : va_A (wT cs ad I AN AI AL) s.heap.size = A at hD ⊢
  have hA : ∀ q : Nat, s.heap.size ≤ q → A q := fun q h => by rw [← hAe]; exact Or.inr h
  have hS : va_S A s.heap s.heap [] := va_S.rf
  have hl := lv_entry [.ref (ad 3)] (n := 2) (Nat.le_of_ble_eq_true rfl)
  rw [lg_entry_eq]
  generalize (lg_sl [.ref (ad 3)] ++ List.replicate (2 - (lg_sl [.ref (ad 3)]).length) Slot.unset).toArray = ls at hl ⊢
  have hl : lv_has ls 2 [(0, .ref (ad 3))] := hl
  generalize hargs : ([.ref (ad 3)] : List Value).toArray = args at *
  show W p l e rmX1_isReached s m args below meth c s.heap [] 0 0 _ (F0 m 0 ls [])
  refine lv_iconst (v := nI 0) hx hb dX1_isReached_0 (by decide) ?_
  refine lv_istore_n (lv' := [(1, .int (nI 0)), (0, .ref (ad 3))]) hx hb dX1_isReached_1 rfl hl (by decide) rfl (fun ls hl => ?_)
  have lp2 : ∀ (n k : Nat) (H : Heap) (locs : List Loc) (ls : Array Slot), k + n = 3 → va_P D vc (wT cs ad I AN AI AL) H → va_D A (wT cs ad I AN AI AL) → va_S A s.heap H locs → lv_has ls 2 [(1, .int (nI k)), (0, .ref (ad 3))] → W p l e rmX1_isReached s m args below meth c H locs 0 0 (MQ below (va_Qi (fun (r : Int32) (u : TS) => u = (I, AN, AI, AL) ∧ r = bz (fnd (fun k => AL 21 k ≠ 0) n k).isNone) (gB D cs A (wTs cs ad)) A) args s 0 0 A) (F0 m 2 ls []) := by
    intro n
    induction n with
    | zero =>
      intro k H locs ls hn hP hD hS hl
      have hi : k = 3 := by omega
      refine lv_iload_n hx hb dX1_isReached_2 rfl (lv_at hl 0 rfl) ?_
      refine lv_iconst (v := nI 3) hx hb dX1_isReached_3 (by decide) ?_
      refine b_ge_t (tgt := 26) hx hb dX1_isReached_4 (by decide) (by omega) (by omega) ?_
      refine lv_iconst (v := nI 1) hx hb dX1_isReached_26 (by decide) ?_
      exact g_zret hx hb hr hlocks rfl (I, AN, AI, AL) (⟨rfl, rfl⟩) hK hP hD hS dX1_isReached_27
    | succ n ih =>
      intro k H locs ls hn hP hD hS hl
      have hi : k < 3 := by omega
      refine lv_iload_n hx hb dX1_isReached_2 rfl (lv_at hl 0 rfl) ?_
      refine lv_iconst (v := nI 3) hx hb dX1_isReached_3 (by decide) ?_
      refine b_ge_f (tgt := 26) hx hb dX1_isReached_4 (by decide) (by omega) (by omega) ?_
      refine lv_aload_n hx hb dX1_isReached_7 rfl (lv_at hl 1 rfl) ?_
      refine b_get (own := RX1) (C := RX1) (T := TX1) (N := 4) (ci := 1) (v := .ref (ad 21)) hx hb hts usX1 hown hK hP 3 (by decide) rfl rfl 2 (by decide) (hts _ gw_118) rfl dX1_isReached_8 ?_
      refine lv_iload_n hx hb dX1_isReached_11 rfl (lv_at hl 0 rfl) ?_
      refine tL_ld (i := 3) hx hb hK hP (by omega) (by omega) dX1_isReached_12 ?_
      refine lv_lconst (v := 0) hx hb dX1_isReached_13 (by decide) ?_
      refine b_lceq (tgt := 20) hx hb dX1_isReached_14 dX1_isReached_15 (by decide) (fun h => ?_) (fun h => ?_)
      · refine b_iinc (lv' := [(1, .int (nI (k + 1))), (0, .ref (ad 3))]) hx hb dX1_isReached_20 hl (k := 0) rfl (by decide) rfl (fun ls hl => ?_)
        refine lv_goto (tgt := 2) hx hb dX1_isReached_23 (by decide) ?_
        rw [fnd_f (f := fun k => AL 21 k ≠ 0) (fun q => q h)]
        exact ih (k + 1) H locs ls (by omega) hP hD hS (lv_sub hl [0, 1] rfl)
      · refine lv_iconst (v := nI 0) hx hb dX1_isReached_18 (by decide) ?_
        exact g_zret hx hb hr hlocks rfl (I, AN, AI, AL) (⟨rfl, by rw [fnd_t (f := fun k => AL 21 k ≠ 0) h]; rfl⟩) hK hP hD hS dX1_isReached_19
  exact lp2 (3 - 0) 0 _ _ ls (by omega) hP hD hS (lv_sub hl [0, 1] rfl)

/-- how many of the lattice's rows are members of the base -/
def mbs (AN : Nat → Nat → Nat) (h : Nat) : Nat := fo (fun r z => if AN 7 r < 3 then z else z + 1) h 0 0
theorem mbs_le {AN : Nat → Nat → Nat} : ∀ (n r z : Nat), fo (fun r z => if AN 7 r < 3 then z else z + 1) n r z ≤ z + n
  | 0, _, z => Nat.le_refl z
  | n + 1, r, z => by
    rw [fo_s]
    have h1 := mbs_le (AN := AN) n (r + 1) (if AN 7 r < 3 then z else z + 1)
    by_cases h : AN 7 r < 3
    · rw [if_pos h] at h1 ⊢
      omega
    · rw [if_neg h] at h1 ⊢
      omega

abbrev rmX1_members : Room := { frames := 0, cells := 0, slots := 0, locals := 0 }
set_option maxHeartbeats 4000000 in
set_option maxRecDepth 100000 in
/-- members -/
theorem ctX1_members (l : Launch) (D : va_G) (cs : Nat → ClassId) (ad : Nat → Nat) (I : Nat → Nat) (AN : Nat → Nat → Nat) (AI : Nat → Nat → Int32) (AL : Nat → Nat → Int64) (sz : Nat)  (h5 : I 5 ≤ 3) (hbg : ∀ r, r < 3 → AN 7 r < 6) : Met l yX1_members (Cond.code yX1_members cX1_members 3 (some FieldType.int) :: GW) rmX1_members (va_Pc [.ref (ad 3)] (gP D cs (wT cs ad I AN AI AL) sz)) (va_Qi (fun (r : Int32) (u : TS) => u = (I, AN, AI, AL) ∧ r = nI (mbs AN (I 5))) (gB D cs (va_A (wT cs ad I AN AI AL) sz) (wTs cs ad)) (va_A (wT cs ad I AN AI AL) sz)) 0 0 (va_A (wT cs ad I AN AI AL) sz) := by
  refine Met.ofW (cc := cX1_members) (maxL := 3) (ret := (some FieldType.int)) (by decide) rfl ?_
  intro p e s m args below meth c s₁ B hml hv
  obtain ⟨rfl, hsz, hP, hK, hD0, hN⟩ := hv
  have hx := B.exec
  have hb := B.bytes
  have hr := B.returns
  have hts : ∀ w ∈ GW, w.before _ s = true := fun w h => atoms_spec (ws := Cond.code yX1_members cX1_members 3 (some FieldType.int) :: GW) B.pre w (List.mem_cons_of_mem _ h)
  have hown : s.vm.findClass RX1 = some m.cls := findClass_of_methodNamed B.named
  have hlocks := B.notSynchronized
  subst hsz
  have hD := hD0.self (sz := s.heap.size)
  generalize hAe : va_A (wT cs ad I AN AI AL) s.heap.size = A at hD ⊢
  have hA : ∀ q : Nat, s.heap.size ≤ q → A q := fun q h => by rw [← hAe]; exact Or.inr h
  have hS : va_S A s.heap s.heap [] := va_S.rf
  have hl := lv_entry [.ref (ad 3)] (n := 3) (Nat.le_of_ble_eq_true rfl)
  rw [lg_entry_eq]
  generalize (lg_sl [.ref (ad 3)] ++ List.replicate (3 - (lg_sl [.ref (ad 3)]).length) Slot.unset).toArray = ls at hl ⊢
  have hl : lv_has ls 3 [(0, .ref (ad 3))] := hl
  generalize hargs : ([.ref (ad 3)] : List Value).toArray = args at *
  show W p l e rmX1_members s m args below meth c s.heap [] 0 0 _ (F0 m 0 ls [])
  refine lv_iconst (v := nI 0) hx hb dX1_members_0 (by decide) ?_
  refine lv_istore_n (lv' := [(1, .int (nI 0)), (0, .ref (ad 3))]) hx hb dX1_members_1 rfl hl (by decide) rfl (fun ls hl => ?_)
  refine lv_iconst (v := nI 0) hx hb dX1_members_2 (by decide) ?_
  refine lv_istore_n (lv' := [(2, .int (nI 0)), (1, .int (nI 0)), (0, .ref (ad 3))]) hx hb dX1_members_3 rfl hl (by decide) rfl (fun ls hl => ?_)
  have lp4 : ∀ (Q : State → Prop) (n r9 : Nat) (z : Nat) (H : Heap) (locs : List Loc) (ls : Array Slot), r9 + n = I 5 → va_P D vc (wT cs ad I AN AI AL) H → va_D A (wT cs ad I AN AI AL) → va_S A s.heap H locs → lv_has ls 3 [(2, .int (nI r9)), (1, .int (nI z)), (0, .ref (ad 3))] → (∀ (H : Heap) (locs : List Loc) (ls : Array Slot), va_P D vc (wT cs ad I AN AI AL) H → va_D A (wT cs ad I AN AI AL) → va_S A s.heap H locs → lv_has ls 3 [(2, .int (nI (I 5))), (1, .int (nI (fo (fun r z => if AN 7 r < 3 then z else z + 1) n r9 z))), (0, .ref (ad 3))] → W p l e rmX1_members s m args below meth c H locs 0 0 Q (F0 m 31 ls [])) → W p l e rmX1_members s m args below meth c H locs 0 0 Q (F0 m 4 ls []) := by
    intro Q n
    induction n with
    | zero =>
      intro r9 z H locs ls hn hP hD hS hl kx
      have hi : r9 = I 5 := by omega
      refine lv_iload_n hx hb dX1_members_4 rfl (lv_at hl 0 rfl) ?_
      refine lv_aload_n hx hb dX1_members_5 rfl (lv_at hl 2 rfl) ?_
      refine b_get (own := RX1) (C := RX1) (T := TX1) (N := 4) (ci := 1) (v := .int (nI (I 5))) hx hb hts usX1 hown hK hP 3 (by decide) rfl rfl 3 (by decide) (hts _ gw_120) rfl dX1_members_6 ?_
      refine b_ge_t (tgt := 31) hx hb dX1_members_9 (by decide) (by omega) (by omega) ?_
      rw [hi] at hl
      exact kx H locs ls hP hD hS (lv_sub hl [0, 1, 2] rfl)
    | succ n ih =>
      intro r9 z H locs ls hn hP hD hS hl kx
      have hi : r9 < I 5 := by omega
      refine lv_iload_n hx hb dX1_members_4 rfl (lv_at hl 0 rfl) ?_
      refine lv_aload_n hx hb dX1_members_5 rfl (lv_at hl 2 rfl) ?_
      refine b_get (own := RX1) (C := RX1) (T := TX1) (N := 4) (ci := 1) (v := .int (nI (I 5))) hx hb hts usX1 hown hK hP 3 (by decide) rfl rfl 3 (by decide) (hts _ gw_120) rfl dX1_members_6 ?_
      refine b_ge_f (tgt := 31) hx hb dX1_members_9 (by decide) (by omega) (by omega) ?_
      refine lv_aload_n hx hb dX1_members_12 rfl (lv_at hl 2 rfl) ?_
      refine b_get (own := RX1) (C := RX1) (T := TX1) (N := 4) (ci := 1) (v := .ref (ad 7)) hx hb hts usX1 hown hK hP 3 (by decide) rfl rfl 1 (by decide) (hts _ gw_117) rfl dX1_members_13 ?_
      refine lv_iload_n hx hb dX1_members_16 rfl (lv_at hl 0 rfl) ?_
      refine tB_ld hx hb hK hP (by omega) dX1_members_17 ?_
      refine lv_iconst (v := nI 3) hx hb dX1_members_18 (by decide) ?_
      have hb6 := hbg r9 (by omega)
      by_cases h : AN 7 r9 < 3
      · refine lv_icmp_lt (tgt := 25) hx hb dX1_members_19 (by decide) (fun _ => ?_) (fun q => absurd (nI_lt h (by omega)) q)
        refine b_iinc (lv' := [(2, .int (nI (r9 + 1))), (1, .int (nI z)), (0, .ref (ad 3))]) hx hb dX1_members_25 hl (k := 0) rfl (by decide) rfl (fun ls hl => ?_)
        refine lv_goto (tgt := 4) hx hb dX1_members_28 (by decide) ?_
        rw [show z = (if AN 7 r9 < 3 then z else z + 1) from (if_pos h).symm] at hl
        exact ih (r9 + 1) _ H locs ls (by omega) hP hD hS (lv_sub hl [0, 1, 2] rfl) kx
      · refine lv_icmp_lt (tgt := 25) hx hb dX1_members_19 (by decide) (fun q => absurd q (nI_nlt (by omega) (by omega))) (fun _ => ?_)
        refine b_iinc (lv' := [(1, .int (nI (z + 1))), (2, .int (nI r9)), (0, .ref (ad 3))]) hx hb dX1_members_22 hl (k := 1) rfl (by decide) rfl (fun ls hl => ?_)
        refine b_iinc (lv' := [(2, .int (nI (r9 + 1))), (1, .int (nI (z + 1))), (0, .ref (ad 3))]) hx hb dX1_members_25 hl (k := 1) rfl (by decide) rfl (fun ls hl => ?_)
        refine lv_goto (tgt := 4) hx hb dX1_members_28 (by decide) ?_
        rw [show z + 1 = (if AN 7 r9 < 3 then z else z + 1) from (if_neg h).symm] at hl
        exact ih (r9 + 1) _ H locs ls (by omega) hP hD hS (lv_sub hl [0, 1, 2] rfl) kx
  refine lp4 _ (I 5) 0 0 _ _ ls (by omega) hP hD hS (lv_sub hl [0, 1, 2] rfl) (fun H locs ls hP hD hS hl => ?_)
  refine lv_iload_n hx hb dX1_members_31 rfl (lv_at hl 1 rfl) ?_
  exact g_iret hx hb hr hlocks (I, AN, AI, AL) (⟨rfl, rfl⟩) hK hP hD hS dX1_members_32

abbrev rmX1_member : Room := { frames := 1, cells := 0, slots := 0, locals := 22 }
set_option maxHeartbeats 4000000 in
set_option maxRecDepth 100000 in
/-- member -/
theorem ctX1_member (l : Launch) (D : va_G) (cs : Nat → ClassId) (ad : Nat → Nat) (I : Nat → Nat) (AN : Nat → Nat → Nat) (AI : Nat → Nat → Int32) (AL : Nat → Nat → Int64) (sz : Nat) (k v : Nat) (h5 : I 5 ≤ 3) (hbg : ∀ r, r < 3 → AN 7 r < 6) (hk : k < mbs AN (I 5)) (hv : v < 3) : Met l yX1_member (Cond.code yX1_member cX1_member 3 (some FieldType.long) :: GW) rmX1_member (va_Pc [.ref (ad 3), .int (nI k), .int (nI v)] (gP D cs (wT cs ad I AN AI AL) sz)) (va_Ql (fun (r : Int64) (u : TS) => u = (I, AN, AI, AL) ∧ r = AL (I 5 - mbs AN (I 5) + k + 18) (3 + v)) (gB D cs (va_A (wT cs ad I AN AI AL) sz) (wTs cs ad)) (va_A (wT cs ad I AN AI AL) sz)) 0 0 (va_A (wT cs ad I AN AI AL) sz) := by
  refine Met.ofW (cc := cX1_member) (maxL := 3) (ret := (some FieldType.long)) (by decide) rfl ?_
  intro p e s m args below meth c s₁ B hml hv
  obtain ⟨rfl, hsz, hP, hK, hD0, hN⟩ := hv
  have hx := B.exec
  have hb := B.bytes
  have hr := B.returns
  have hts : ∀ w ∈ GW, w.before _ s = true := fun w h => atoms_spec (ws := Cond.code yX1_member cX1_member 3 (some FieldType.long) :: GW) B.pre w (List.mem_cons_of_mem _ h)
  have hown : s.vm.findClass RX1 = some m.cls := findClass_of_methodNamed B.named
  have hlocks := B.notSynchronized
  subst hsz
  have hD := hD0.self (sz := s.heap.size)
  generalize hAe : va_A (wT cs ad I AN AI AL) s.heap.size = A at hD ⊢
  have hA : ∀ q : Nat, s.heap.size ≤ q → A q := fun q h => by rw [← hAe]; exact Or.inr h
  have hS : va_S A s.heap s.heap [] := va_S.rf
  have hl := lv_entry [.ref (ad 3), .int (nI k), .int (nI v)] (n := 3) (Nat.le_of_ble_eq_true rfl)
  rw [lg_entry_eq]
  generalize (lg_sl [.ref (ad 3), .int (nI k), .int (nI v)] ++ List.replicate (3 - (lg_sl [.ref (ad 3), .int (nI k), .int (nI v)]).length) Slot.unset).toArray = ls at hl ⊢
  have hl : lv_has ls 3 [(0, .ref (ad 3)), (1, .int (nI k)), (2, .int (nI v))] := hl
  generalize hargs : ([.ref (ad 3), .int (nI k), .int (nI v)] : List Value).toArray = args at *
  show W p l e rmX1_member s m args below meth c s.heap [] 0 0 _ (F0 m 0 ls [])
  have hml9 : mbs AN (I 5) ≤ 0 + I 5 := mbs_le (AN := AN) (I 5) 0 0
  refine lv_aload_n hx hb dX1_member_0 rfl (lv_at hl 0 rfl) ?_
  refine b_get (own := RX1) (C := RX1) (T := TX1) (N := 4) (ci := 1) (v := .ref (ad 6)) hx hb hts usX1 hown hK hP 3 (by decide) rfl rfl 0 (by decide) (hts _ gw_115) rfl dX1_member_1 ?_
  refine lv_aload_n hx hb dX1_member_4 rfl (lv_at hl 0 rfl) ?_
  refine b_get (own := RX1) (C := RX1) (T := TX1) (N := 4) (ci := 1) (v := .int (nI (I 5))) hx hb hts usX1 hown hK hP 3 (by decide) rfl rfl 3 (by decide) (hts _ gw_120) rfl dX1_member_5 ?_
  refine lv_aload_n hx hb dX1_member_8 rfl (lv_at hl 0 rfl) ?_
  refine g_calli (va_runV (As := []) (rest := [.int (nI (I 5)), .ref (ad 6)]) ⟨hx, hb, hml, hown, hts⟩ (ctX1_members l D cs ad I AN AI AL _ h5 hbg) (cwV 0 hts (gi_V gw_455 gw_448 gw_23 gw_56 gw_449) rfl rfl rfl (by decide +kernel) ⟨Nat.le_of_ble_eq_true rfl, Nat.le_of_ble_eq_true rfl⟩) ⟨g_blind, va_recv hK hP (ci := 1) (q0 := 3) rfl (wm_at (by decide) rfl), g_pre hP hK hD hN⟩ rfl rfl hl.1 rfl (lv_room (Nat.le_of_ble_eq_true rfl)) dX1_member_9 ⟨Nat.zero_le _, Nat.zero_le _⟩) hD hS hA (fun r u H locs hw hP hD hS => ?_)
  obtain ⟨rfl, rfl⟩ := hw
  have hP : va_P D vc (wT cs ad I AN AI AL) H := hP
  have hD : va_D A (wT cs ad I AN AI AL) := hD
  refine b_subn hx hb dX1_member_12 (by omega) ?_
  refine lv_iload_n hx hb dX1_member_13 rfl (lv_at hl 1 rfl) ?_
  refine b_addn hx hb dX1_member_14 ?_
  refine tL_r hx hb hK hP (by omega) dX1_member_15 ?_
  refine lv_iconst (v := nI 3) hx hb dX1_member_16 (by decide) ?_
  refine lv_iload_n hx hb dX1_member_17 rfl (lv_at hl 2 rfl) ?_
  refine b_addn hx hb dX1_member_18 ?_
  refine tL_ld (i := ((I 5) - (mbs AN (I 5))) + k) hx hb hK hP (by omega) (by omega) dX1_member_19 ?_
  exact g_lret hx hb hr hlocks (I, AN, AI, AL) (⟨rfl, rfl⟩) hK hP hD hS dX1_member_20
end
section
/-- invariants of the two machines -/
theorem el_le {w h : Nat} : ∀ (n q : Nat) (x : Nat × (Nat → Nat → Nat) × (Nat → Nat → Int64)), x.1 ≤ h → (fo (estep w h) n q x).1 ≤ h
  | 0, _, _, hx => hx
  | n + 1, q, x, hx => by
    rw [fo_s]
    refine el_le n (q + 1) _ ?_
    by_cases hd : x.1 < h
    · cases hf : fnd (fun k => x.2.2 (k + 11) q ≠ 0) (h - x.1) x.1 with
      | none => rw [estep_none hd hf]; exact hx
      | some k => rw [estep_some hd hf]; exact hd
    · rw [estep_out hd]; exact hx
theorem el_dc {w h : Nat} : ∀ (n q : Nat) (x : Nat × (Nat → Nat → Nat) × (Nat → Nat → Int64)), q + n < 2 ^ 31 → (∀ k, k < 7 → x.2.1 5 k < 2 ^ 31) → ∀ k, k < 7 → (fo (estep w h) n q x).2.1 5 k < 2 ^ 31
  | 0, _, _, _, hx => hx
  | n + 1, q, x, hq, hx => by
    rw [fo_s]
    refine el_dc n (q + 1) _ (by omega) ?_
    by_cases hd : x.1 < h
    · cases hf : fnd (fun k => x.2.2 (k + 11) q ≠ 0) (h - x.1) x.1 with
      | none => rw [estep_none hd hf]; exact hx
      | some k =>
        rw [estep_some hd hf]
        intro j hj
        show up2 x.2.1 5 x.1 q 5 j < 2 ^ 31
        by_cases hjx : j = x.1
        · rw [hjx, up2_s]; omega
        · rw [up2_n (fun z => hjx z.2)]; exact hx j hj
    · rw [estep_out hd]; exact hx
theorem sp_bg0 {h : Nat} : ∀ (n q : Nat) (x : Nat × (Nat → Nat → Nat) × (Nat → Nat → Int64)), q + n ≤ 6 → (∀ k, k < 3 → x.2.1 7 k < 6) → ∀ k, k < 3 → (fo (sstep h) n q x).2.1 7 k < 6
  | 0, _, _, _, hx => hx
  | n + 1, q, x, hq, hx => by
    rw [fo_s]
    refine sp_bg0 n (q + 1) _ (by omega) ?_
    by_cases hd : x.1 < h
    · by_cases hz : lgat h x.1 q x.2.2 (x.1 + 18) q = 0
      · rw [sstep_z hd hz]; exact hx
      · rw [sstep_s hd hz]
        intro j hj
        show up2 x.2.1 7 x.1 q 7 j < 6
        by_cases hjx : j = x.1
        · rw [hjx, up2_s]; omega
        · rw [up2_n (fun z => hjx z.2)]; exact hx j hj
    · rw [sstep_out hd]; exact hx
theorem sp_bg {h : Nat} {AN : Nat → Nat → Nat} {AL : Nat → Nat → Int64} (hx : ∀ k, k < 3 → AN 7 k < 6) : ∀ k, k < 3 → (spn h AN AL).1 7 k < 6 := sp_bg0 6 0 (0, AN, AL) (by decide) hx
theorem el_ot {w h : Nat} {k9 : Nat} (hk : k9 ≠ 5) : ∀ (n q : Nat) (x : Nat × (Nat → Nat → Nat) × (Nat → Nat → Int64)), (fo (estep w h) n q x).2.1 k9 = x.2.1 k9
  | 0, _, _ => rfl
  | n + 1, q, x => by
    rw [fo_s, el_ot hk n]
    by_cases hd : x.1 < h
    · cases hf : fnd (fun k => x.2.2 (k + 11) q ≠ 0) (h - x.1) x.1 with
      | none => rw [estep_none hd hf]
      | some k => rw [estep_some hd hf]; exact up2_row hk
    · rw [estep_out hd]
theorem sp_ot {h : Nat} {k9 : Nat} (hk : k9 ≠ 7) : ∀ (n q : Nat) (x : Nat × (Nat → Nat → Nat) × (Nat → Nat → Int64)), (fo (sstep h) n q x).2.1 k9 = x.2.1 k9
  | 0, _, _ => rfl
  | n + 1, q, x => by
    rw [fo_s, sp_ot hk n]
    by_cases hd : x.1 < h
    · by_cases hz : lgat h x.1 q x.2.2 (x.1 + 18) q = 0
      · rw [sstep_z hd hz]
      · rw [sstep_s hd hz]; exact up2_row hk
    · rw [sstep_out hd]
def zer (a b : Nat) (AL : Nat → Nat → Int64) : Nat → Nat → Int64 := fo (fun i X => fo (fun j X => up2 X (i + 11) j 0) (a + 1) 0 X) b 0 AL
def eqfill (n e : Nat) (AI : Nat → Nat → Int32) (AL : Nat → Nat → Int64) : Nat → Nat → Int64 := fo (fun i X => fo (fun j Y => up2 Y (i + 11) j (Int32.toInt64 (AI (i + 8) j))) (n + 1) 0 X) e 0 AL
/-- the elimination of the equations: decided, decides, rows -/
def eqE (n e : Nat) (AN : Nat → Nat → Nat) (AI : Nat → Nat → Int32) (AL : Nat → Nat → Int64) : Nat × (Nat → Nat → Nat) × (Nat → Nat → Int64) := fo (estep n e) n 0 (0, AN, eqfill n e AI (zer n e AL))
def Ieq (I : Nat → Nat) (w h d : Nat) : Nat → Nat := up1 (up1 (up1 I 2 w) 3 h) 4 d
def spfill (n e : Nat) (AI : Nat → Nat → Int32) (AL : Nat → Nat → Int64) : Nat → Nat → Int64 := fo (fun i X => up2 (fo (fun j Y => up2 Y (j + 18) i (Int32.toInt64 (AI (i + 8) j))) n 0 X) 21 i (Int32.toInt64 (-AI (i + 8) n))) e 0 AL
/-- the lattice of the equations: beginnings, rows -/
def spL (n e : Nat) (AN : Nat → Nat → Nat) (AI : Nat → Nat → Int32) (AL : Nat → Nat → Int64) : (Nat → Nat → Nat) × (Nat → Nat → Int64) := spn n AN (spfill n e AI (lbeg n AL))
def cpr (e : Nat) (AI : Nat → Nat → Int32) (a b : Nat) : Int64 := fo (fun i z => z + Int32.toInt64 (AI (i + 8) a * AI (i + 8) b)) e 0 0
def exc (n : Nat) (AI : Nat → Nat → Int32) (i : Nat) (x y z : Int64) : Int64 :=
  if 2 < n then (Int32.toInt64 (AI (i + 8) 0) * x - Int32.toInt64 (AI (i + 8) n)) + Int32.toInt64 (AI (i + 8) 1) * y + Int32.toInt64 (AI (i + 8) 2) * z
  else if 1 < n then (Int32.toInt64 (AI (i + 8) 0) * x - Int32.toInt64 (AI (i + 8) n)) + Int32.toInt64 (AI (i + 8) 1) * y
  else Int32.toInt64 (AI (i + 8) 0) * x - Int32.toInt64 (AI (i + 8) n)

abbrev rmX2_isUnknown : Room := { frames := 0, cells := 0, slots := 0, locals := 0 }
set_option maxHeartbeats 4000000 in
set_option maxRecDepth 100000 in
/-- isUnknown -/
theorem ctX2_isUnknown (l : Launch) (D : va_G) (cs : Nat → ClassId) (ad : Nat → Nat) (I : Nat → Nat) (AN : Nat → Nat → Nat) (AI : Nat → Nat → Int32) (AL : Nat → Nat → Int64) (sz : Nat) (u : Int32)  : Met l yX2_isUnknown (Cond.code yX2_isUnknown cX2_isUnknown 2 (some FieldType.boolean) :: GW) rmX2_isUnknown (va_Pc [.ref (ad 0), .int u] (gP D cs (wT cs ad I AN AI AL) sz)) (va_Qi (fun (r : Int32) (v : TS) => v = (I, AN, AI, AL) ∧ r = bz (decide (¬ u < 0 ∧ u < nI (I 0)))) (gB D cs (va_A (wT cs ad I AN AI AL) sz) (wTs cs ad)) (va_A (wT cs ad I AN AI AL) sz)) 0 0 (va_A (wT cs ad I AN AI AL) sz) := by
  refine Met.ofW (cc := cX2_isUnknown) (maxL := 2) (ret := (some FieldType.boolean)) (by decide) rfl ?_
  intro p e s m args below meth c s₁ B hml hv
  obtain ⟨rfl, hsz, hP, hK, hD0, hN⟩ := hv
  have hx := B.exec
  have hb := B.bytes
  have hr := B.returns
  have hts : ∀ w ∈ GW, w.before _ s = true := fun w h => atoms_spec (ws := Cond.code yX2_isUnknown cX2_isUnknown 2 (some FieldType.boolean) :: GW) B.pre w (List.mem_cons_of_mem _ h)
  have hown : s.vm.findClass RX2 = some m.cls := findClass_of_methodNamed B.named
  have hlocks := B.notSynchronized
  subst hsz
  have hD := hD0.self (sz := s.heap.size)
  generalize hAe : va_A (wT cs ad I AN AI AL) s.heap.size = A at hD ⊢
  have hA : ∀ q : Nat, s.heap.size ≤ q → A q := fun q h => by rw [← hAe]; exact Or.inr h
  have hS : va_S A s.heap s.heap [] := va_S.rf
  have hl := lv_entry [.ref (ad 0), .int u] (n := 2) (Nat.le_of_ble_eq_true rfl)
  rw [lg_entry_eq]
  generalize (lg_sl [.ref (ad 0), .int u] ++ List.replicate (2 - (lg_sl [.ref (ad 0), .int u]).length) Slot.unset).toArray = ls at hl ⊢
  have hl : lv_has ls 2 [(0, .ref (ad 0)), (1, .int u)] := hl
  generalize hargs : ([.ref (ad 0), .int u] : List Value).toArray = args at *
  show W p l e rmX2_isUnknown s m args below meth c s.heap [] 0 0 _ (F0 m 0 ls [])
  refine lv_iload_n hx hb dX2_isUnknown_0 rfl (lv_at hl 1 rfl) ?_
  refine lv_if_lt (tgt := 16) hx hb dX2_isUnknown_1 (by decide) (fun h1 => ?_) (fun h1 => ?_)
  · refine lv_iconst (v := nI 0) hx hb dX2_isUnknown_16 (by decide) ?_
    exact g_zret hx hb hr hlocks rfl (I, AN, AI, AL) (⟨rfl, by rw [decide_eq_false (fun z => z.1 h1)]; rfl⟩) hK hP hD hS dX2_isUnknown_17
  · refine lv_iload_n hx hb dX2_isUnknown_4 rfl (lv_at hl 1 rfl) ?_
    refine lv_aload_n hx hb dX2_isUnknown_5 rfl (lv_at hl 0 rfl) ?_
    refine b_get (own := RX2) (C := RX2) (T := TX2) (N := 5) (ci := 2) (v := .int (nI (I 0))) hx hb hts usX2 hown hK hP 0 (by decide) rfl rfl 0 (by decide) (hts _ gw_130) rfl dX2_isUnknown_6 ?_
    refine lv_icmp_ge (tgt := 16) hx hb dX2_isUnknown_9 (by decide) (fun h2 => ?_) (fun h2 => ?_)
    · refine lv_iconst (v := nI 0) hx hb dX2_isUnknown_16 (by decide) ?_
      exact g_zret hx hb hr hlocks rfl (I, AN, AI, AL) (⟨rfl, by rw [decide_eq_false (fun z => i32_nlt.mpr h2 z.2)]; rfl⟩) hK hP hD hS dX2_isUnknown_17
    · refine lv_iconst (v := nI 1) hx hb dX2_isUnknown_12 (by decide) ?_
      refine lv_goto (tgt := 17) hx hb dX2_isUnknown_13 (by decide) ?_
      exact g_zret hx hb hr hlocks rfl (I, AN, AI, AL) (⟨rfl, by rw [decide_eq_true ⟨h1, i32_nle.mp h2⟩]; rfl⟩) hK hP hD hS dX2_isUnknown_17

abbrev rmX2_isPlace : Room := { frames := 0, cells := 0, slots := 0, locals := 0 }
set_option maxHeartbeats 4000000 in
set_option maxRecDepth 100000 in
/-- isPlace -/
theorem ctX2_isPlace (l : Launch) (D : va_G) (cs : Nat → ClassId) (ad : Nat → Nat) (I : Nat → Nat) (AN : Nat → Nat → Nat) (AI : Nat → Nat → Int32) (AL : Nat → Nat → Int64) (sz : Nat) (g u : Int32)  : Met l yX2_isPlace (Cond.code yX2_isPlace cX2_isPlace 3 (some FieldType.boolean) :: GW) rmX2_isPlace (va_Pc [.ref (ad 0), .int g, .int u] (gP D cs (wT cs ad I AN AI AL) sz)) (va_Qi (fun (r : Int32) (v : TS) => v = (I, AN, AI, AL) ∧ r = bz (decide (¬ g < 0 ∧ g < nI (I 1) ∧ ¬ u < 0 ∧ u ≤ nI (I 0)))) (gB D cs (va_A (wT cs ad I AN AI AL) sz) (wTs cs ad)) (va_A (wT cs ad I AN AI AL) sz)) 0 0 (va_A (wT cs ad I AN AI AL) sz) := by
  refine Met.ofW (cc := cX2_isPlace) (maxL := 3) (ret := (some FieldType.boolean)) (by decide) rfl ?_
  intro p e s m args below meth c s₁ B hml hv
  obtain ⟨rfl, hsz, hP, hK, hD0, hN⟩ := hv
  have hx := B.exec
  have hb := B.bytes
  have hr := B.returns
  have hts : ∀ w ∈ GW, w.before _ s = true := fun w h => atoms_spec (ws := Cond.code yX2_isPlace cX2_isPlace 3 (some FieldType.boolean) :: GW) B.pre w (List.mem_cons_of_mem _ h)
  have hown : s.vm.findClass RX2 = some m.cls := findClass_of_methodNamed B.named
  have hlocks := B.notSynchronized
  subst hsz
  have hD := hD0.self (sz := s.heap.size)
  generalize hAe : va_A (wT cs ad I AN AI AL) s.heap.size = A at hD ⊢
  have hA : ∀ q : Nat, s.heap.size ≤ q → A q := fun q h => by rw [← hAe]; exact Or.inr h
  have hS : va_S A s.heap s.heap [] := va_S.rf
  have hl := lv_entry [.ref (ad 0), .int g, .int u] (n := 3) (Nat.le_of_ble_eq_true rfl)
  rw [lg_entry_eq]
  generalize (lg_sl [.ref (ad 0), .int g, .int u] ++ List.replicate (3 - (lg_sl [.ref (ad 0), .int g, .int u]).length) Slot.unset).toArray = ls at hl ⊢
  have hl : lv_has ls 3 [(0, .ref (ad 0)), (1, .int g), (2, .int u)] := hl
  generalize hargs : ([.ref (ad 0), .int g, .int u] : List Value).toArray = args at *
  show W p l e rmX2_isPlace s m args below meth c s.heap [] 0 0 _ (F0 m 0 ls [])
  refine lv_iload_n hx hb dX2_isPlace_0 rfl (lv_at hl 1 rfl) ?_
  refine lv_if_lt (tgt := 28) hx hb dX2_isPlace_1 (by decide) (fun h1 => ?_) (fun h1 => ?_)
  · refine lv_iconst (v := nI 0) hx hb dX2_isPlace_28 (by decide) ?_
    exact g_zret hx hb hr hlocks rfl (I, AN, AI, AL) (⟨rfl, by rw [decide_eq_false (fun z => z.1 h1)]; rfl⟩) hK hP hD hS dX2_isPlace_29
  · refine lv_iload_n hx hb dX2_isPlace_4 rfl (lv_at hl 1 rfl) ?_
    refine lv_aload_n hx hb dX2_isPlace_5 rfl (lv_at hl 0 rfl) ?_
    refine b_get (own := RX2) (C := RX2) (T := TX2) (N := 5) (ci := 2) (v := .int (nI (I 1))) hx hb hts usX2 hown hK hP 0 (by decide) rfl rfl 4 (by decide) (hts _ gw_134) rfl dX2_isPlace_6 ?_
    refine lv_icmp_ge (tgt := 28) hx hb dX2_isPlace_9 (by decide) (fun h2 => ?_) (fun h2 => ?_)
    · refine lv_iconst (v := nI 0) hx hb dX2_isPlace_28 (by decide) ?_
      exact g_zret hx hb hr hlocks rfl (I, AN, AI, AL) (⟨rfl, by rw [decide_eq_false (fun z => i32_nlt.mpr h2 z.2.1)]; rfl⟩) hK hP hD hS dX2_isPlace_29
    · refine lv_iload_n hx hb dX2_isPlace_12 rfl (lv_at hl 2 rfl) ?_
      refine lv_if_lt (tgt := 28) hx hb dX2_isPlace_13 (by decide) (fun h3 => ?_) (fun h3 => ?_)
      · refine lv_iconst (v := nI 0) hx hb dX2_isPlace_28 (by decide) ?_
        exact g_zret hx hb hr hlocks rfl (I, AN, AI, AL) (⟨rfl, by rw [decide_eq_false (fun z => z.2.2.1 h3)]; rfl⟩) hK hP hD hS dX2_isPlace_29
      · refine lv_iload_n hx hb dX2_isPlace_16 rfl (lv_at hl 2 rfl) ?_
        refine lv_aload_n hx hb dX2_isPlace_17 rfl (lv_at hl 0 rfl) ?_
        refine b_get (own := RX2) (C := RX2) (T := TX2) (N := 5) (ci := 2) (v := .int (nI (I 0))) hx hb hts usX2 hown hK hP 0 (by decide) rfl rfl 0 (by decide) (hts _ gw_130) rfl dX2_isPlace_18 ?_
        refine lv_icmp_gt (tgt := 28) hx hb dX2_isPlace_21 (by decide) (fun h4 => ?_) (fun h4 => ?_)
        · refine lv_iconst (v := nI 0) hx hb dX2_isPlace_28 (by decide) ?_
          exact g_zret hx hb hr hlocks rfl (I, AN, AI, AL) (⟨rfl, by rw [decide_eq_false (fun z => i32_nlt.mpr z.2.2.2 h4)]; rfl⟩) hK hP hD hS dX2_isPlace_29
        · refine lv_iconst (v := nI 1) hx hb dX2_isPlace_24 (by decide) ?_
          refine lv_goto (tgt := 29) hx hb dX2_isPlace_25 (by decide) ?_
          exact g_zret hx hb hr hlocks rfl (I, AN, AI, AL) (⟨rfl, by rw [decide_eq_true ⟨h1, i32_nle.mp h2, h3, i32_nlt.mp h4⟩]; rfl⟩) hK hP hD hS dX2_isPlace_29

abbrev rmX2_isPart : Room := { frames := 0, cells := 0, slots := 0, locals := 0 }
set_option maxHeartbeats 4000000 in
set_option maxRecDepth 100000 in
/-- isPart -/
theorem ctX2_isPart (l : Launch) (D : va_G) (cs : Nat → ClassId) (ad : Nat → Nat) (I : Nat → Nat) (AN : Nat → Nat → Nat) (AI : Nat → Nat → Int32) (AL : Nat → Nat → Int64) (sz : Nat) (q : Int32)  : Met l yX2_isPart (Cond.code yX2_isPart cX2_isPart 1 (some FieldType.boolean) :: GW) rmX2_isPart (va_Pc [.int q] (gP D cs (wT cs ad I AN AI AL) sz)) (va_Qi (fun (r : Int32) (v : TS) => v = (I, AN, AI, AL) ∧ r = bz (decide (q = 0 ∨ q = nI 1))) (gB D cs (va_A (wT cs ad I AN AI AL) sz) (wTs cs ad)) (va_A (wT cs ad I AN AI AL) sz)) 0 0 (va_A (wT cs ad I AN AI AL) sz) := by
  refine Met.ofW (cc := cX2_isPart) (maxL := 1) (ret := (some FieldType.boolean)) (by decide) rfl ?_
  intro p e s m args below meth c s₁ B hml hv
  obtain ⟨rfl, hsz, hP, hK, hD0, hN⟩ := hv
  have hx := B.exec
  have hb := B.bytes
  have hr := B.returns
  have hts : ∀ w ∈ GW, w.before _ s = true := fun w h => atoms_spec (ws := Cond.code yX2_isPart cX2_isPart 1 (some FieldType.boolean) :: GW) B.pre w (List.mem_cons_of_mem _ h)
  have hown : s.vm.findClass RX2 = some m.cls := findClass_of_methodNamed B.named
  have hlocks := B.notSynchronized
  subst hsz
  have hD := hD0.self (sz := s.heap.size)
  generalize hAe : va_A (wT cs ad I AN AI AL) s.heap.size = A at hD ⊢
  have hA : ∀ q : Nat, s.heap.size ≤ q → A q := fun q h => by rw [← hAe]; exact Or.inr h
  have hS : va_S A s.heap s.heap [] := va_S.rf
  have hl := lv_entry [.int q] (n := 1) (Nat.le_of_ble_eq_true rfl)
  rw [lg_entry_eq]
  generalize (lg_sl [.int q] ++ List.replicate (1 - (lg_sl [.int q]).length) Slot.unset).toArray = ls at hl ⊢
  have hl : lv_has ls 1 [(0, .int q)] := hl
  generalize hargs : ([.int q] : List Value).toArray = args at *
  show W p l e rmX2_isPart s m args below meth c s.heap [] 0 0 _ (F0 m 0 ls [])
  refine lv_iload_n hx hb dX2_isPart_0 rfl (lv_at hl 0 rfl) ?_
  refine lv_if_eq (tgt := 9) hx hb dX2_isPart_1 (by decide) (fun h1 => ?_) (fun h1 => ?_)
  · refine lv_iconst (v := nI 1) hx hb dX2_isPart_9 (by decide) ?_
    refine lv_goto (tgt := 14) hx hb dX2_isPart_10 (by decide) ?_
    exact g_zret hx hb hr hlocks rfl (I, AN, AI, AL) (⟨rfl, by rw [decide_eq_true (Or.inl h1)]; rfl⟩) hK hP hD hS dX2_isPart_14
  · refine lv_iload_n hx hb dX2_isPart_4 rfl (lv_at hl 0 rfl) ?_
    refine lv_iconst (v := nI 1) hx hb dX2_isPart_5 (by decide) ?_
    refine lv_icmp_ne (tgt := 13) hx hb dX2_isPart_6 (by decide) (fun h2 => ?_) (fun h2 => ?_)
    · refine lv_iconst (v := nI 0) hx hb dX2_isPart_13 (by decide) ?_
      exact g_zret hx hb hr hlocks rfl (I, AN, AI, AL) (⟨rfl, by rw [decide_eq_false (fun z => z.elim h1 h2)]; rfl⟩) hK hP hD hS dX2_isPart_14
    · refine lv_iconst (v := nI 1) hx hb dX2_isPart_9 (by decide) ?_
      refine lv_goto (tgt := 14) hx hb dX2_isPart_10 (by decide) ?_
      exact g_zret hx hb hr hlocks rfl (I, AN, AI, AL) (⟨rfl, by rw [decide_eq_true (Or.inr h2)]; rfl⟩) hK hP hD hS dX2_isPart_14

abbrev rmX2_count : Room := { frames := 0, cells := 0, slots := 0, locals := 0 }
set_option maxHeartbeats 4000000 in
set_option maxRecDepth 100000 in
/-- count -/
theorem ctX2_count (l : Launch) (D : va_G) (cs : Nat → ClassId) (ad : Nat → Nat) (I : Nat → Nat) (AN : Nat → Nat → Nat) (AI : Nat → Nat → Int32) (AL : Nat → Nat → Int64) (sz : Nat) (q : Int32)  : Met l yX2_count (Cond.code yX2_count cX2_count 2 (some FieldType.int) :: GW) rmX2_count (va_Pc [.ref (ad 0), .int q] (gP D cs (wT cs ad I AN AI AL) sz)) (va_Qi (fun (r : Int32) (v : TS) => v = (I, AN, AI, AL) ∧ r = if q = 0 then nI (I 1) else if q = nI 1 then nI (I 0) else -1) (gB D cs (va_A (wT cs ad I AN AI AL) sz) (wTs cs ad)) (va_A (wT cs ad I AN AI AL) sz)) 0 0 (va_A (wT cs ad I AN AI AL) sz) := by
  refine Met.ofW (cc := cX2_count) (maxL := 2) (ret := (some FieldType.int)) (by decide) rfl ?_
  intro p e s m args below meth c s₁ B hml hv
  obtain ⟨rfl, hsz, hP, hK, hD0, hN⟩ := hv
  have hx := B.exec
  have hb := B.bytes
  have hr := B.returns
  have hts : ∀ w ∈ GW, w.before _ s = true := fun w h => atoms_spec (ws := Cond.code yX2_count cX2_count 2 (some FieldType.int) :: GW) B.pre w (List.mem_cons_of_mem _ h)
  have hown : s.vm.findClass RX2 = some m.cls := findClass_of_methodNamed B.named
  have hlocks := B.notSynchronized
  subst hsz
  have hD := hD0.self (sz := s.heap.size)
  generalize hAe : va_A (wT cs ad I AN AI AL) s.heap.size = A at hD ⊢
  have hA : ∀ q : Nat, s.heap.size ≤ q → A q := fun q h => by rw [← hAe]; exact Or.inr h
  have hS : va_S A s.heap s.heap [] := va_S.rf
  have hl := lv_entry [.ref (ad 0), .int q] (n := 2) (Nat.le_of_ble_eq_true rfl)
  rw [lg_entry_eq]
  generalize (lg_sl [.ref (ad 0), .int q] ++ List.replicate (2 - (lg_sl [.ref (ad 0), .int q]).length) Slot.unset).toArray = ls at hl ⊢
  have hl : lv_has ls 2 [(0, .ref (ad 0)), (1, .int q)] := hl
  generalize hargs : ([.ref (ad 0), .int q] : List Value).toArray = args at *
  show W p l e rmX2_count s m args below meth c s.heap [] 0 0 _ (F0 m 0 ls [])
  refine lv_iload_n hx hb dX2_count_0 rfl (lv_at hl 1 rfl) ?_
  refine lv_if_ne (tgt := 9) hx hb dX2_count_1 (by decide) (fun h1 => ?_) (fun h1 => ?_)
  · refine lv_iload_n hx hb dX2_count_9 rfl (lv_at hl 1 rfl) ?_
    refine lv_iconst (v := nI 1) hx hb dX2_count_10 (by decide) ?_
    refine lv_icmp_ne (tgt := 21) hx hb dX2_count_11 (by decide) (fun h2 => ?_) (fun h2 => ?_)
    · refine lv_iconst (v := -1) hx hb dX2_count_21 (by decide) ?_
      exact g_iret hx hb hr hlocks (I, AN, AI, AL) (⟨rfl, by rw [if_neg h1, if_neg h2]⟩) hK hP hD hS dX2_count_22
    · refine lv_aload_n hx hb dX2_count_14 rfl (lv_at hl 0 rfl) ?_
      refine b_get (own := RX2) (C := RX2) (T := TX2) (N := 5) (ci := 2) (v := .int (nI (I 0))) hx hb hts usX2 hown hK hP 0 (by decide) rfl rfl 0 (by decide) (hts _ gw_130) rfl dX2_count_15 ?_
      refine lv_goto (tgt := 22) hx hb dX2_count_18 (by decide) ?_
      exact g_iret hx hb hr hlocks (I, AN, AI, AL) (⟨rfl, by rw [if_neg h1, if_pos h2]⟩) hK hP hD hS dX2_count_22
  · refine lv_aload_n hx hb dX2_count_4 rfl (lv_at hl 0 rfl) ?_
    refine b_get (own := RX2) (C := RX2) (T := TX2) (N := 5) (ci := 2) (v := .int (nI (I 1))) hx hb hts usX2 hown hK hP 0 (by decide) rfl rfl 4 (by decide) (hts _ gw_134) rfl dX2_count_5 ?_
    exact g_iret hx hb hr hlocks (I, AN, AI, AL) (⟨rfl, by rw [if_pos h1]⟩) hK hP hD hS dX2_count_8

abbrev rmX2_clear : Room := { frames := 0, cells := 0, slots := 0, locals := 0 }
set_option maxHeartbeats 4000000 in
set_option maxRecDepth 100000 in
/-- clear -/
theorem ctX2_clear (l : Launch) (D : va_G) (cs : Nat → ClassId) (ad : Nat → Nat) (I : Nat → Nat) (AN : Nat → Nat → Nat) (AI : Nat → Nat → Int32) (AL : Nat → Nat → Int64) (sz : Nat)   : Met l yX2_clear (Cond.code yX2_clear cX2_clear 1 none :: GW) rmX2_clear (va_Pc [.ref (ad 0)] (gP D cs (wT cs ad I AN AI AL) sz)) (va_Qv (fun u : TS => u = (up1 I 1 0, AN, AI, AL)) (gB D cs (va_A (wT cs ad I AN AI AL) sz) (wTs cs ad)) (va_A (wT cs ad I AN AI AL) sz)) 0 0 (va_A (wT cs ad I AN AI AL) sz) := by
  refine Met.ofW (cc := cX2_clear) (maxL := 1) (ret := none) (by decide) rfl ?_
  intro p e s m args below meth c s₁ B hml hv
  obtain ⟨rfl, hsz, hP, hK, hD0, hN⟩ := hv
  have hx := B.exec
  have hb := B.bytes
  have hr := B.returns
  have hts : ∀ w ∈ GW, w.before _ s = true := fun w h => atoms_spec (ws := Cond.code yX2_clear cX2_clear 1 none :: GW) B.pre w (List.mem_cons_of_mem _ h)
  have hown : s.vm.findClass RX2 = some m.cls := findClass_of_methodNamed B.named
  have hlocks := B.notSynchronized
  subst hsz
  have hD := hD0.self (sz := s.heap.size)
  generalize hAe : va_A (wT cs ad I AN AI AL) s.heap.size = A at hD ⊢
  have hA : ∀ q : Nat, s.heap.size ≤ q → A q := fun q h => by rw [← hAe]; exact Or.inr h
  have hS : va_S A s.heap s.heap [] := va_S.rf
  have hl := lv_entry [.ref (ad 0)] (n := 1) (Nat.le_of_ble_eq_true rfl)
  rw [lg_entry_eq]
  generalize (lg_sl [.ref (ad 0)] ++ List.replicate (1 - (lg_sl [.ref (ad 0)]).length) Slot.unset).toArray = ls at hl ⊢
  have hl : lv_has ls 1 [(0, .ref (ad 0))] := hl
  generalize hargs : ([.ref (ad 0)] : List Value).toArray = args at *
  show W p l e rmX2_clear s m args below meth c s.heap [] 0 0 _ (F0 m 0 ls [])
  refine lv_aload_n hx hb dX2_clear_0 rfl (lv_at hl 0 rfl) ?_
  refine lv_iconst (v := nI 0) hx hb dX2_clear_1 (by decide) ?_
  refine b_put (own := RX2) (C := RX2) (T := TX2) (N := 5) (ci := 2) (v := .int (nI 0)) hx hb hts usX2 tyX2 tyX2_ok nmX2 hown hK hP hD hS 0 (by decide) rfl rfl 4 (by decide) (hts _ gw_134) rfl rfl rfl (Nat.le_of_ble_eq_true rfl) dX2_clear_2 sT_eq (fun H locs hP hD hS => ?_)
  exact g_vret hx hb hr hlocks (up1 I 1 0, AN, AI, AL) (rfl) hK hP hD hS dX2_clear_5

abbrev rmX2_excess : Room := { frames := 0, cells := 0, slots := 0, locals := 0 }
set_option maxHeartbeats 4000000 in
set_option maxRecDepth 100000 in
/-- excess -/
theorem ctX2_excess (l : Launch) (D : va_G) (cs : Nat → ClassId) (ad : Nat → Nat) (I : Nat → Nat) (AN : Nat → Nat → Nat) (AI : Nat → Nat → Int32) (AL : Nat → Nat → Int64) (sz : Nat) (g : Nat) (x y z : Int64) (hg : g < 3) (hn3 : I 0 ≤ 3) : Met l yX2_excess (Cond.code yX2_excess cX2_excess 11 (some FieldType.long) :: GW) rmX2_excess (va_Pc [.ref (ad 0), .int (nI g), .long x, .long y, .long z] (gP D cs (wT cs ad I AN AI AL) sz)) (va_Ql (fun (r : Int64) (v : TS) => v = (I, AN, AI, AL) ∧ r = exc (I 0) AI g x y z) (gB D cs (va_A (wT cs ad I AN AI AL) sz) (wTs cs ad)) (va_A (wT cs ad I AN AI AL) sz)) 0 0 (va_A (wT cs ad I AN AI AL) sz) := by
  refine Met.ofW (cc := cX2_excess) (maxL := 11) (ret := (some FieldType.long)) (by decide) rfl ?_
  intro p e s m args below meth c s₁ B hml hv
  obtain ⟨rfl, hsz, hP, hK, hD0, hN⟩ := hv
  have hx := B.exec
  have hb := B.bytes
  have hr := B.returns
  have hts : ∀ w ∈ GW, w.before _ s = true := fun w h => atoms_spec (ws := Cond.code yX2_excess cX2_excess 11 (some FieldType.long) :: GW) B.pre w (List.mem_cons_of_mem _ h)
  have hown : s.vm.findClass RX2 = some m.cls := findClass_of_methodNamed B.named
  have hlocks := B.notSynchronized
  subst hsz
  have hD := hD0.self (sz := s.heap.size)
  generalize hAe : va_A (wT cs ad I AN AI AL) s.heap.size = A at hD ⊢
  have hA : ∀ q : Nat, s.heap.size ≤ q → A q := fun q h => by rw [← hAe]; exact Or.inr h
  have hS : va_S A s.heap s.heap [] := va_S.rf
  have hl := lv_entry [.ref (ad 0), .int (nI g), .long x, .long y, .long z] (n := 11) (Nat.le_of_ble_eq_true rfl)
  rw [lg_entry_eq]
  generalize (lg_sl [.ref (ad 0), .int (nI g), .long x, .long y, .long z] ++ List.replicate (11 - (lg_sl [.ref (ad 0), .int (nI g), .long x, .long y, .long z]).length) Slot.unset).toArray = ls at hl ⊢
  have hl : lv_has ls 11 [(0, .ref (ad 0)), (1, .int (nI g)), (2, .long x), (4, .long y), (6, .long z)] := hl
  generalize hargs : ([.ref (ad 0), .int (nI g), .long x, .long y, .long z] : List Value).toArray = args at *
  show W p l e rmX2_excess s m args below meth c s.heap [] 0 0 _ (F0 m 0 ls [])
  refine lv_aload_n hx hb dX2_excess_0 rfl (lv_at hl 0 rfl) ?_
  refine b_get (own := RX2) (C := RX2) (T := TX2) (N := 5) (ci := 2) (v := .ref (ad 1)) hx hb hts usX2 hown hK hP 0 (by decide) rfl rfl 1 (by decide) (hts _ gw_131) rfl dX2_excess_1 ?_
  refine lv_iload_n hx hb dX2_excess_4 rfl (lv_at hl 1 rfl) ?_
  refine tN_r hx hb hK hP (by omega) dX2_excess_5 ?_
  refine lv_astore (lv' := [(8, .ref (ad (g + 8))), (0, .ref (ad 0)), (1, .int (nI g)), (2, .long x), (4, .long y), (6, .long z)]) hx hb dX2_excess_6 hl (by decide) rfl (fun ls hl => ?_)
  refine lv_aload hx hb dX2_excess_8 (lv_at hl 0 rfl) ?_
  refine lv_iconst (v := nI 0) hx hb dX2_excess_10 (by decide) ?_
  refine tN_ld (i := g) hx hb hK hP (by omega) (by omega) dX2_excess_11 ?_
  refine lv_i2l (v := Int32.toInt64 (AI (g + 8) 0)) hx hb dX2_excess_12 rfl ?_
  refine lv_lload_n hx hb dX2_excess_13 rfl (lv_at hl 3 rfl) ?_
  refine lv_lmul hx hb dX2_excess_14 ?_
  refine lv_aload hx hb dX2_excess_15 (lv_at hl 0 rfl) ?_
  refine lv_aload_n hx hb dX2_excess_17 rfl (lv_at hl 1 rfl) ?_
  refine b_get (own := RX2) (C := RX2) (T := TX2) (N := 5) (ci := 2) (v := .int (nI (I 0))) hx hb hts usX2 hown hK hP 0 (by decide) rfl rfl 0 (by decide) (hts _ gw_130) rfl dX2_excess_18 ?_
  refine tN_ld (i := g) hx hb hK hP (by omega) (by omega) dX2_excess_21 ?_
  refine lv_i2l (v := Int32.toInt64 (AI (g + 8) (I 0))) hx hb dX2_excess_22 rfl ?_
  refine lv_lsub hx hb dX2_excess_23 ?_
  refine lv_lstore (lv' := [(9, .long (((Int32.toInt64 (AI (g + 8) 0)) * x) - (Int32.toInt64 (AI (g + 8) (I 0))))), (8, .ref (ad (g + 8))), (0, .ref (ad 0)), (1, .int (nI g)), (2, .long x), (4, .long y), (6, .long z)]) hx hb dX2_excess_24 hl (by decide) rfl (fun ls hl => ?_)
  refine lv_aload_n hx hb dX2_excess_26 rfl (lv_at hl 2 rfl) ?_
  refine b_get (own := RX2) (C := RX2) (T := TX2) (N := 5) (ci := 2) (v := .int (nI (I 0))) hx hb hts usX2 hown hK hP 0 (by decide) rfl rfl 0 (by decide) (hts _ gw_130) rfl dX2_excess_27 ?_
  refine lv_iconst (v := nI 1) hx hb dX2_excess_30 (by decide) ?_
  by_cases h1 : 1 < I 0
  · refine lv_icmp_le (tgt := 47) hx hb dX2_excess_31 (by decide) (fun q => absurd q (nI_ge h1 (by omega))) (fun _ => ?_)
    refine lv_lload hx hb dX2_excess_34 (lv_at hl 0 rfl) ?_
    refine lv_aload hx hb dX2_excess_36 (lv_at hl 1 rfl) ?_
    refine lv_iconst (v := nI 1) hx hb dX2_excess_38 (by decide) ?_
    refine tN_ld (i := g) hx hb hK hP (by omega) (by omega) dX2_excess_39 ?_
    refine lv_i2l (v := Int32.toInt64 (AI (g + 8) 1)) hx hb dX2_excess_40 rfl ?_
    refine lv_lload hx hb dX2_excess_41 (lv_at hl 5 rfl) ?_
    refine lv_lmul hx hb dX2_excess_43 ?_
    refine lv_ladd hx hb dX2_excess_44 ?_
    refine lv_lstore (lv' := [(9, .long ((((Int32.toInt64 (AI (g + 8) 0)) * x) - (Int32.toInt64 (AI (g + 8) (I 0)))) + ((Int32.toInt64 (AI (g + 8) 1)) * y))), (8, .ref (ad (g + 8))), (0, .ref (ad 0)), (1, .int (nI g)), (2, .long x), (4, .long y), (6, .long z)]) hx hb dX2_excess_45 hl (by decide) rfl (fun ls hl => ?_)
    refine lv_aload_n hx hb dX2_excess_47 rfl (lv_at hl 2 rfl) ?_
    refine b_get (own := RX2) (C := RX2) (T := TX2) (N := 5) (ci := 2) (v := .int (nI (I 0))) hx hb hts usX2 hown hK hP 0 (by decide) rfl rfl 0 (by decide) (hts _ gw_130) rfl dX2_excess_48 ?_
    refine lv_iconst (v := nI 2) hx hb dX2_excess_51 (by decide) ?_
    by_cases h2 : 2 < I 0
    · refine lv_icmp_le (tgt := 68) hx hb dX2_excess_52 (by decide) (fun q => absurd q (nI_ge h2 (by omega))) (fun _ => ?_)
      refine lv_lload hx hb dX2_excess_55 (lv_at hl 0 rfl) ?_
      refine lv_aload hx hb dX2_excess_57 (lv_at hl 1 rfl) ?_
      refine lv_iconst (v := nI 2) hx hb dX2_excess_59 (by decide) ?_
      refine tN_ld (i := g) hx hb hK hP (by omega) (by omega) dX2_excess_60 ?_
      refine lv_i2l (v := Int32.toInt64 (AI (g + 8) 2)) hx hb dX2_excess_61 rfl ?_
      refine lv_lload hx hb dX2_excess_62 (lv_at hl 6 rfl) ?_
      refine lv_lmul hx hb dX2_excess_64 ?_
      refine lv_ladd hx hb dX2_excess_65 ?_
      refine lv_lstore (lv' := [(9, .long (((((Int32.toInt64 (AI (g + 8) 0)) * x) - (Int32.toInt64 (AI (g + 8) (I 0)))) + ((Int32.toInt64 (AI (g + 8) 1)) * y)) + ((Int32.toInt64 (AI (g + 8) 2)) * z))), (8, .ref (ad (g + 8))), (0, .ref (ad 0)), (1, .int (nI g)), (2, .long x), (4, .long y), (6, .long z)]) hx hb dX2_excess_66 hl (by decide) rfl (fun ls hl => ?_)
      refine lv_lload hx hb dX2_excess_68 (lv_at hl 0 rfl) ?_
      exact g_lret hx hb hr hlocks (I, AN, AI, AL) (⟨rfl, by unfold exc; rw [if_pos h2]⟩) hK hP hD hS dX2_excess_70
    · refine lv_icmp_le (tgt := 68) hx hb dX2_excess_52 (by decide) (fun _ => ?_) (fun q => absurd (nI_le (by omega) (by omega)) q)
      refine lv_lload hx hb dX2_excess_68 (lv_at hl 0 rfl) ?_
      exact g_lret hx hb hr hlocks (I, AN, AI, AL) (⟨rfl, by unfold exc; rw [if_neg h2, if_pos h1]⟩) hK hP hD hS dX2_excess_70
  · refine lv_icmp_le (tgt := 47) hx hb dX2_excess_31 (by decide) (fun _ => ?_) (fun q => absurd (nI_le (by omega) (by omega)) q)
    refine lv_aload_n hx hb dX2_excess_47 rfl (lv_at hl 2 rfl) ?_
    refine b_get (own := RX2) (C := RX2) (T := TX2) (N := 5) (ci := 2) (v := .int (nI (I 0))) hx hb hts usX2 hown hK hP 0 (by decide) rfl rfl 0 (by decide) (hts _ gw_130) rfl dX2_excess_48 ?_
    refine lv_iconst (v := nI 2) hx hb dX2_excess_51 (by decide) ?_
    refine lv_icmp_le (tgt := 68) hx hb dX2_excess_52 (by decide) (fun _ => ?_) (fun q => absurd (nI_le (by omega) (by omega)) q)
    refine lv_lload hx hb dX2_excess_68 (lv_at hl 0 rfl) ?_
    exact g_lret hx hb hr hlocks (I, AN, AI, AL) (⟨rfl, by unfold exc; rw [if_neg (by omega), if_neg h1]⟩) hK hP hD hS dX2_excess_70

abbrev rmX2_solves : Room := { frames := 1, cells := 0, slots := 0, locals := 30 }
set_option maxHeartbeats 4000000 in
set_option maxRecDepth 100000 in
/-- solves -/
theorem ctX2_solves (l : Launch) (D : va_G) (cs : Nat → ClassId) (ad : Nat → Nat) (I : Nat → Nat) (AN : Nat → Nat → Nat) (AI : Nat → Nat → Int32) (AL : Nat → Nat → Int64) (sz : Nat) (x y z : Int32) (hn3 : I 0 ≤ 3) (he3 : I 1 ≤ 3) : Met l yX2_solves (Cond.code yX2_solves cX2_solves 5 (some FieldType.boolean) :: GW) rmX2_solves (va_Pc [.ref (ad 0), .int x, .int y, .int z] (gP D cs (wT cs ad I AN AI AL) sz)) (va_Qi (fun (r : Int32) (u : TS) => u = (I, AN, AI, AL) ∧ r = bz (fnd (fun k => exc (I 0) AI k (Int32.toInt64 x) (Int32.toInt64 y) (Int32.toInt64 z) ≠ 0) (I 1) 0).isNone) (gB D cs (va_A (wT cs ad I AN AI AL) sz) (wTs cs ad)) (va_A (wT cs ad I AN AI AL) sz)) 0 0 (va_A (wT cs ad I AN AI AL) sz) := by
  refine Met.ofW (cc := cX2_solves) (maxL := 5) (ret := (some FieldType.boolean)) (by decide) rfl ?_
  intro p e s m args below meth c s₁ B hml hv
  obtain ⟨rfl, hsz, hP, hK, hD0, hN⟩ := hv
  have hx := B.exec
  have hb := B.bytes
  have hr := B.returns
  have hts : ∀ w ∈ GW, w.before _ s = true := fun w h => atoms_spec (ws := Cond.code yX2_solves cX2_solves 5 (some FieldType.boolean) :: GW) B.pre w (List.mem_cons_of_mem _ h)
  have hown : s.vm.findClass RX2 = some m.cls := findClass_of_methodNamed B.named
  have hlocks := B.notSynchronized
  subst hsz
  have hD := hD0.self (sz := s.heap.size)
  generalize hAe : va_A (wT cs ad I AN AI AL) s.heap.size = A at hD ⊢
  have hA : ∀ q : Nat, s.heap.size ≤ q → A q := fun q h => by rw [← hAe]; exact Or.inr h
  have hS : va_S A s.heap s.heap [] := va_S.rf
  have hl := lv_entry [.ref (ad 0), .int x, .int y, .int z] (n := 5) (Nat.le_of_ble_eq_true rfl)
  rw [lg_entry_eq]
  generalize (lg_sl [.ref (ad 0), .int x, .int y, .int z] ++ List.replicate (5 - (lg_sl [.ref (ad 0), .int x, .int y, .int z]).length) Slot.unset).toArray = ls at hl ⊢
  have hl : lv_has ls 5 [(0, .ref (ad 0)), (1, .int x), (2, .int y), (3, .int z)] := hl
  generalize hargs : ([.ref (ad 0), .int x, .int y, .int z] : List Value).toArray = args at *
  show W p l e rmX2_solves s m args below meth c s.heap [] 0 0 _ (F0 m 0 ls [])
  refine lv_iconst (v := nI 0) hx hb dX2_solves_0 (by decide) ?_
  refine lv_istore (lv' := [(4, .int (nI 0)), (0, .ref (ad 0)), (1, .int x), (2, .int y), (3, .int z)]) hx hb dX2_solves_1 hl (by decide) rfl (fun ls hl => ?_)
  have lp3 : ∀ (n k : Nat) (H : Heap) (locs : List Loc) (ls : Array Slot), k + n = I 1 → va_P D vc (wT cs ad I AN AI AL) H → va_D A (wT cs ad I AN AI AL) → va_S A s.heap H locs → lv_has ls 5 [(4, .int (nI k)), (0, .ref (ad 0)), (1, .int x), (2, .int y), (3, .int z)] → W p l e rmX2_solves s m args below meth c H locs 0 0 (MQ below (va_Qi (fun (r : Int32) (u : TS) => u = (I, AN, AI, AL) ∧ r = bz (fnd (fun k => exc (I 0) AI k (Int32.toInt64 x) (Int32.toInt64 y) (Int32.toInt64 z) ≠ 0) n k).isNone) (gB D cs A (wTs cs ad)) A) args s 0 0 A) (F0 m 3 ls []) := by
    intro n
    induction n with
    | zero =>
      intro k H locs ls hn hP hD hS hl
      have hi : k = I 1 := by omega
      refine lv_iload hx hb dX2_solves_3 (lv_at hl 0 rfl) ?_
      refine lv_aload_n hx hb dX2_solves_5 rfl (lv_at hl 1 rfl) ?_
      refine b_get (own := RX2) (C := RX2) (T := TX2) (N := 5) (ci := 2) (v := .int (nI (I 1))) hx hb hts usX2 hown hK hP 0 (by decide) rfl rfl 4 (by decide) (hts _ gw_134) rfl dX2_solves_6 ?_
      refine b_ge_t (tgt := 37) hx hb dX2_solves_9 (by decide) (by omega) (by omega) ?_
      refine lv_iconst (v := nI 1) hx hb dX2_solves_37 (by decide) ?_
      exact g_zret hx hb hr hlocks rfl (I, AN, AI, AL) (⟨rfl, rfl⟩) hK hP hD hS dX2_solves_38
    | succ n ih =>
      intro k H locs ls hn hP hD hS hl
      have hi : k < I 1 := by omega
      refine lv_iload hx hb dX2_solves_3 (lv_at hl 0 rfl) ?_
      refine lv_aload_n hx hb dX2_solves_5 rfl (lv_at hl 1 rfl) ?_
      refine b_get (own := RX2) (C := RX2) (T := TX2) (N := 5) (ci := 2) (v := .int (nI (I 1))) hx hb hts usX2 hown hK hP 0 (by decide) rfl rfl 4 (by decide) (hts _ gw_134) rfl dX2_solves_6 ?_
      refine b_ge_f (tgt := 37) hx hb dX2_solves_9 (by decide) (by omega) (by omega) ?_
      refine lv_aload_n hx hb dX2_solves_12 rfl (lv_at hl 1 rfl) ?_
      refine lv_iload hx hb dX2_solves_13 (lv_at hl 0 rfl) ?_
      refine lv_iload_n hx hb dX2_solves_15 rfl (lv_at hl 2 rfl) ?_
      refine lv_i2l (v := Int32.toInt64 x) hx hb dX2_solves_16 rfl ?_
      refine lv_iload_n hx hb dX2_solves_17 rfl (lv_at hl 3 rfl) ?_
      refine lv_i2l (v := Int32.toInt64 y) hx hb dX2_solves_18 rfl ?_
      refine lv_iload_n hx hb dX2_solves_19 rfl (lv_at hl 4 rfl) ?_
      refine lv_i2l (v := Int32.toInt64 z) hx hb dX2_solves_20 rfl ?_
      refine g_calll (va_runV (As := [.int (nI k), .long (Int32.toInt64 x), .long (Int32.toInt64 y), .long (Int32.toInt64 z)]) (rest := []) ⟨hx, hb, hml, hown, hts⟩ (ctX2_excess l D cs ad I AN AI AL _ k (Int32.toInt64 x) (Int32.toInt64 y) (Int32.toInt64 z) (by omega) hn3) (cwV 4 hts (gi_V gw_259 gw_261 gw_17 gw_53 gw_262) rfl rfl rfl (by decide +kernel) ⟨Nat.le_of_ble_eq_true rfl, Nat.le_of_ble_eq_true rfl⟩) ⟨g_blind, va_recv hK hP (ci := 2) (q0 := 0) rfl (wm_at (by decide) rfl), g_pre hP hK hD hN⟩ rfl rfl hl.1 rfl (lv_room (Nat.le_of_ble_eq_true rfl)) dX2_solves_21 ⟨Nat.zero_le _, Nat.zero_le _⟩) hD hS hA (fun r u H locs hw hP hD hS => ?_)
      obtain ⟨rfl, rfl⟩ := hw
      have hP : va_P D vc (wT cs ad I AN AI AL) H := hP
      have hD : va_D A (wT cs ad I AN AI AL) := hD
      refine lv_lconst (v := 0) hx hb dX2_solves_24 (by decide) ?_
      refine b_lceq (tgt := 31) hx hb dX2_solves_25 dX2_solves_26 (by decide) (fun h => ?_) (fun h => ?_)
      · refine b_iinc (lv' := [(4, .int (nI (k + 1))), (0, .ref (ad 0)), (1, .int x), (2, .int y), (3, .int z)]) hx hb dX2_solves_31 hl (k := 0) rfl (by decide) rfl (fun ls hl => ?_)
        refine lv_goto (tgt := 3) hx hb dX2_solves_34 (by decide) ?_
        rw [fnd_f (f := fun k => exc (I 0) AI k (Int32.toInt64 x) (Int32.toInt64 y) (Int32.toInt64 z) ≠ 0) (fun q => q h)]
        exact ih (k + 1) H locs ls (by omega) hP hD hS (lv_sub hl [0, 1, 2, 3, 4] rfl)
      · refine lv_iconst (v := nI 0) hx hb dX2_solves_29 (by decide) ?_
        exact g_zret hx hb hr hlocks rfl (I, AN, AI, AL) (⟨rfl, by rw [fnd_t (f := fun k => exc (I 0) AI k (Int32.toInt64 x) (Int32.toInt64 y) (Int32.toInt64 z) ≠ 0) h]; rfl⟩) hK hP hD hS dX2_solves_30
  exact lp3 ((I 1) - 0) 0 _ _ ls (by omega) hP hD hS (lv_sub hl [0, 1, 2, 3, 4] rfl)

abbrev rmX2_columnProduct : Room := { frames := 0, cells := 0, slots := 0, locals := 0 }
set_option maxHeartbeats 4000000 in
set_option maxRecDepth 100000 in
/-- columnProduct -/
theorem ctX2_columnProduct (l : Launch) (D : va_G) (cs : Nat → ClassId) (ad : Nat → Nat) (I : Nat → Nat) (AN : Nat → Nat → Nat) (AI : Nat → Nat → Int32) (AL : Nat → Nat → Int64) (sz : Nat) (a b : Nat) (he3 : I 1 ≤ 3) (ha : a < 4) (hb4 : b < 4) : Met l yX2_columnProduct (Cond.code yX2_columnProduct cX2_columnProduct 6 (some FieldType.long) :: GW) rmX2_columnProduct (va_Pc [.ref (ad 0), .int (nI a), .int (nI b)] (gP D cs (wT cs ad I AN AI AL) sz)) (va_Ql (fun (r : Int64) (u : TS) => u = (I, AN, AI, AL) ∧ r = cpr (I 1) AI a b) (gB D cs (va_A (wT cs ad I AN AI AL) sz) (wTs cs ad)) (va_A (wT cs ad I AN AI AL) sz)) 0 0 (va_A (wT cs ad I AN AI AL) sz) := by
  refine Met.ofW (cc := cX2_columnProduct) (maxL := 6) (ret := (some FieldType.long)) (by decide) rfl ?_
  intro p e s m args below meth c s₁ B hml hv
  obtain ⟨rfl, hsz, hP, hK, hD0, hN⟩ := hv
  have hx := B.exec
  have hb := B.bytes
  have hr := B.returns
  have hts : ∀ w ∈ GW, w.before _ s = true := fun w h => atoms_spec (ws := Cond.code yX2_columnProduct cX2_columnProduct 6 (some FieldType.long) :: GW) B.pre w (List.mem_cons_of_mem _ h)
  have hown : s.vm.findClass RX2 = some m.cls := findClass_of_methodNamed B.named
  have hlocks := B.notSynchronized
  subst hsz
  have hD := hD0.self (sz := s.heap.size)
  generalize hAe : va_A (wT cs ad I AN AI AL) s.heap.size = A at hD ⊢
  have hA : ∀ q : Nat, s.heap.size ≤ q → A q := fun q h => by rw [← hAe]; exact Or.inr h
  have hS : va_S A s.heap s.heap [] := va_S.rf
  have hl := lv_entry [.ref (ad 0), .int (nI a), .int (nI b)] (n := 6) (Nat.le_of_ble_eq_true rfl)
  rw [lg_entry_eq]
  generalize (lg_sl [.ref (ad 0), .int (nI a), .int (nI b)] ++ List.replicate (6 - (lg_sl [.ref (ad 0), .int (nI a), .int (nI b)]).length) Slot.unset).toArray = ls at hl ⊢
  have hl : lv_has ls 6 [(0, .ref (ad 0)), (1, .int (nI a)), (2, .int (nI b))] := hl
  generalize hargs : ([.ref (ad 0), .int (nI a), .int (nI b)] : List Value).toArray = args at *
  show W p l e rmX2_columnProduct s m args below meth c s.heap [] 0 0 _ (F0 m 0 ls [])
  refine lv_lconst (v := 0) hx hb dX2_columnProduct_0 (by decide) ?_
  refine lv_lstore_n (lv' := [(3, .long 0), (0, .ref (ad 0)), (1, .int (nI a)), (2, .int (nI b))]) hx hb dX2_columnProduct_1 rfl hl (by decide) rfl (fun ls hl => ?_)
  refine lv_iconst (v := nI 0) hx hb dX2_columnProduct_2 (by decide) ?_
  refine lv_istore (lv' := [(5, .int (nI 0)), (3, .long 0), (0, .ref (ad 0)), (1, .int (nI a)), (2, .int (nI b))]) hx hb dX2_columnProduct_3 hl (by decide) rfl (fun ls hl => ?_)
  have lp5 : ∀ (Q : State → Prop) (n i : Nat) (z : Int64) (H : Heap) (locs : List Loc) (ls : Array Slot), i + n = I 1 → va_P D vc (wT cs ad I AN AI AL) H → va_D A (wT cs ad I AN AI AL) → va_S A s.heap H locs → lv_has ls 6 [(5, .int (nI i)), (3, .long z), (0, .ref (ad 0)), (1, .int (nI a)), (2, .int (nI b))] → (∀ (H : Heap) (locs : List Loc) (ls : Array Slot), va_P D vc (wT cs ad I AN AI AL) H → va_D A (wT cs ad I AN AI AL) → va_S A s.heap H locs → lv_has ls 6 [(5, .int (nI (I 1))), (3, .long (fo (fun i z => z + Int32.toInt64 (AI (i + 8) a * AI (i + 8) b)) n i z)), (0, .ref (ad 0)), (1, .int (nI a)), (2, .int (nI b))] → W p l e rmX2_columnProduct s m args below meth c H locs 0 0 Q (F0 m 43 ls [])) → W p l e rmX2_columnProduct s m args below meth c H locs 0 0 Q (F0 m 5 ls []) := by
    intro Q n
    induction n with
    | zero =>
      intro i z H locs ls hn hP hD hS hl kx
      have hi : i = I 1 := by omega
      refine lv_iload hx hb dX2_columnProduct_5 (lv_at hl 0 rfl) ?_
      refine lv_aload_n hx hb dX2_columnProduct_7 rfl (lv_at hl 2 rfl) ?_
      refine b_get (own := RX2) (C := RX2) (T := TX2) (N := 5) (ci := 2) (v := .int (nI (I 1))) hx hb hts usX2 hown hK hP 0 (by decide) rfl rfl 4 (by decide) (hts _ gw_134) rfl dX2_columnProduct_8 ?_
      refine b_ge_t (tgt := 43) hx hb dX2_columnProduct_11 (by decide) (by omega) (by omega) ?_
      rw [hi] at hl
      exact kx H locs ls hP hD hS (lv_sub hl [0, 1, 2, 3, 4] rfl)
    | succ n ih =>
      intro i z H locs ls hn hP hD hS hl kx
      have hi : i < I 1 := by omega
      refine lv_iload hx hb dX2_columnProduct_5 (lv_at hl 0 rfl) ?_
      refine lv_aload_n hx hb dX2_columnProduct_7 rfl (lv_at hl 2 rfl) ?_
      refine b_get (own := RX2) (C := RX2) (T := TX2) (N := 5) (ci := 2) (v := .int (nI (I 1))) hx hb hts usX2 hown hK hP 0 (by decide) rfl rfl 4 (by decide) (hts _ gw_134) rfl dX2_columnProduct_8 ?_
      refine b_ge_f (tgt := 43) hx hb dX2_columnProduct_11 (by decide) (by omega) (by omega) ?_
      refine lv_lload_n hx hb dX2_columnProduct_14 rfl (lv_at hl 1 rfl) ?_
      refine lv_aload_n hx hb dX2_columnProduct_15 rfl (lv_at hl 2 rfl) ?_
      refine b_get (own := RX2) (C := RX2) (T := TX2) (N := 5) (ci := 2) (v := .ref (ad 1)) hx hb hts usX2 hown hK hP 0 (by decide) rfl rfl 1 (by decide) (hts _ gw_131) rfl dX2_columnProduct_16 ?_
      refine lv_iload hx hb dX2_columnProduct_19 (lv_at hl 0 rfl) ?_
      refine tN_r hx hb hK hP (by omega) dX2_columnProduct_21 ?_
      refine lv_iload_n hx hb dX2_columnProduct_22 rfl (lv_at hl 3 rfl) ?_
      refine tN_ld (i := i) hx hb hK hP (by omega) (by omega) dX2_columnProduct_23 ?_
      refine lv_aload_n hx hb dX2_columnProduct_24 rfl (lv_at hl 2 rfl) ?_
      refine b_get (own := RX2) (C := RX2) (T := TX2) (N := 5) (ci := 2) (v := .ref (ad 1)) hx hb hts usX2 hown hK hP 0 (by decide) rfl rfl 1 (by decide) (hts _ gw_131) rfl dX2_columnProduct_25 ?_
      refine lv_iload hx hb dX2_columnProduct_28 (lv_at hl 0 rfl) ?_
      refine tN_r hx hb hK hP (by omega) dX2_columnProduct_30 ?_
      refine lv_iload_n hx hb dX2_columnProduct_31 rfl (lv_at hl 4 rfl) ?_
      refine tN_ld (i := i) hx hb hK hP (by omega) (by omega) dX2_columnProduct_32 ?_
      refine lv_imul hx hb dX2_columnProduct_33 ?_
      refine lv_i2l (v := Int32.toInt64 ((AI (i + 8) a) * (AI (i + 8) b))) hx hb dX2_columnProduct_34 rfl ?_
      refine lv_ladd hx hb dX2_columnProduct_35 ?_
      refine lv_lstore_n (lv' := [(3, .long (z + (Int32.toInt64 ((AI (i + 8) a) * (AI (i + 8) b))))), (5, .int (nI i)), (0, .ref (ad 0)), (1, .int (nI a)), (2, .int (nI b))]) hx hb dX2_columnProduct_36 rfl hl (by decide) rfl (fun ls hl => ?_)
      refine b_iinc (lv' := [(5, .int (nI (i + 1))), (3, .long (z + (Int32.toInt64 ((AI (i + 8) a) * (AI (i + 8) b))))), (0, .ref (ad 0)), (1, .int (nI a)), (2, .int (nI b))]) hx hb dX2_columnProduct_37 hl (k := 1) rfl (by decide) rfl (fun ls hl => ?_)
      refine lv_goto (tgt := 5) hx hb dX2_columnProduct_40 (by decide) ?_
      exact ih (i + 1) _ H locs ls (by omega) hP hD hS (lv_sub hl [0, 1, 2, 3, 4] rfl) kx
  refine lp5 _ (I 1) 0 0 _ _ ls (by omega) hP hD hS (lv_sub hl [0, 1, 2, 3, 4] rfl) (fun H locs ls hP hD hS hl => ?_)
  refine lv_lload_n hx hb dX2_columnProduct_43 rfl (lv_at hl 1 rfl) ?_
  exact g_lret hx hb hr hlocks (I, AN, AI, AL) (⟨rfl, rfl⟩) hK hP hD hS dX2_columnProduct_44

abbrev rmX2_eliminateEquations : Room := { frames := 5, cells := 0, slots := 0, locals := 125 }
set_option maxHeartbeats 4000000 in
set_option maxRecDepth 100000 in
/-- eliminateEquations -/
theorem ctX2_eliminateEquations (l : Launch) (D : va_G) (cs : Nat → ClassId) (ad : Nat → Nat) (I : Nat → Nat) (AN : Nat → Nat → Nat) (AI : Nat → Nat → Int32) (AL : Nat → Nat → Int64) (sz : Nat)  (hn3 : I 0 ≤ 3) (he3 : I 1 ≤ 3) : Met l yX2_eliminateEquations (Cond.code yX2_eliminateEquations cX2_eliminateEquations 3 none :: GW) rmX2_eliminateEquations (va_Pc [.ref (ad 0)] (gP D cs (wT cs ad I AN AI AL) sz)) (va_Qv (fun u : TS => u = (Ieq I (I 0) (I 1) (eqE (I 0) (I 1) AN AI AL).1, (eqE (I 0) (I 1) AN AI AL).2.1, AI, (eqE (I 0) (I 1) AN AI AL).2.2)) (gB D cs (va_A (wT cs ad I AN AI AL) sz) (wTs cs ad)) (va_A (wT cs ad I AN AI AL) sz)) 0 0 (va_A (wT cs ad I AN AI AL) sz) := by
  refine Met.ofW (cc := cX2_eliminateEquations) (maxL := 3) (ret := none) (by decide) rfl ?_
  intro p e s m args below meth c s₁ B hml hv
  obtain ⟨rfl, hsz, hP, hK, hD0, hN⟩ := hv
  have hx := B.exec
  have hb := B.bytes
  have hr := B.returns
  have hts : ∀ w ∈ GW, w.before _ s = true := fun w h => atoms_spec (ws := Cond.code yX2_eliminateEquations cX2_eliminateEquations 3 none :: GW) B.pre w (List.mem_cons_of_mem _ h)
  have hown : s.vm.findClass RX2 = some m.cls := findClass_of_methodNamed B.named
  have hlocks := B.notSynchronized
  subst hsz
  have hD := hD0.self (sz := s.heap.size)
  generalize hAe : va_A (wT cs ad I AN AI AL) s.heap.size = A at hD ⊢
  have hA : ∀ q : Nat, s.heap.size ≤ q → A q := fun q h => by rw [← hAe]; exact Or.inr h
  have hS : va_S A s.heap s.heap [] := va_S.rf
  have hl := lv_entry [.ref (ad 0)] (n := 3) (Nat.le_of_ble_eq_true rfl)
  rw [lg_entry_eq]
  generalize (lg_sl [.ref (ad 0)] ++ List.replicate (3 - (lg_sl [.ref (ad 0)]).length) Slot.unset).toArray = ls at hl ⊢
  have hl : lv_has ls 3 [(0, .ref (ad 0))] := hl
  generalize hargs : ([.ref (ad 0)] : List Value).toArray = args at *
  show W p l e rmX2_eliminateEquations s m args below meth c s.heap [] 0 0 _ (F0 m 0 ls [])
  refine lv_aload_n hx hb dX2_eliminateEquations_0 rfl (lv_at hl 0 rfl) ?_
  refine b_get (own := RX2) (C := RX2) (T := TX2) (N := 5) (ci := 2) (v := .ref (ad 2)) hx hb hts usX2 hown hK hP 0 (by decide) rfl rfl 2 (by decide) (hts _ gw_132) rfl dX2_eliminateEquations_1 ?_
  refine lv_aload_n hx hb dX2_eliminateEquations_4 rfl (lv_at hl 0 rfl) ?_
  refine b_get (own := RX2) (C := RX2) (T := TX2) (N := 5) (ci := 2) (v := .int (nI (I 0))) hx hb hts usX2 hown hK hP 0 (by decide) rfl rfl 0 (by decide) (hts _ gw_130) rfl dX2_eliminateEquations_5 ?_
  refine lv_aload_n hx hb dX2_eliminateEquations_8 rfl (lv_at hl 0 rfl) ?_
  refine b_get (own := RX2) (C := RX2) (T := TX2) (N := 5) (ci := 2) (v := .int (nI (I 1))) hx hb hts usX2 hown hK hP 0 (by decide) rfl rfl 4 (by decide) (hts _ gw_134) rfl dX2_eliminateEquations_9 ?_
  refine g_callv (va_runVN (C := RX0) (As := [.int (nI (I 0)), .int (nI (I 1))]) (rest := []) ⟨hx, hb, hml, hown, hts⟩ (ctX0_begin l D cs ad I AN AI AL _ (I 0) (I 1) (by omega) (by omega)) ⟨va_cnB 2 hts (gi_C gw_157) rfl rfl rfl (hN _ (by decide +kernel) : va_Nw (Cond.methodLinkNest "TriangularSystems" 136 ⟨"TriangularSystems$Elimination", "begin", "(II)V"⟩ "TriangularSystems") s) (hts _ gw_55) (by decide +kernel) ⟨Nat.le_of_ble_eq_true rfl, Nat.le_of_ble_eq_true rfl⟩, hts _ gw_156, hts _ gw_1⟩ ⟨g_blind, va_recv hK hP (ci := 0) (q0 := 2) rfl (wm_at (by decide) rfl), g_pre hP hK hD hN⟩ rfl rfl hl.1 rfl (lv_room (Nat.le_of_ble_eq_true rfl)) dX2_eliminateEquations_12 ⟨Nat.zero_le _, Nat.zero_le _⟩) hD hS hA (fun u H locs hw hP hD hS => ?_)
  obtain rfl := hw
  have hP : va_P D vc (wT cs ad (up1 (up1 (up1 I 2 (I 0)) 3 (I 1)) 4 0) AN AI (zer (I 0) (I 1) AL)) H := hP
  have hD : va_D A (wT cs ad (up1 (up1 (up1 I 2 (I 0)) 3 (I 1)) 4 0) AN AI (zer (I 0) (I 1) AL)) := hD
  refine lv_iconst (v := nI 0) hx hb dX2_eliminateEquations_15 (by decide) ?_
  refine lv_istore_n (lv' := [(1, .int (nI 0)), (0, .ref (ad 0))]) hx hb dX2_eliminateEquations_16 rfl hl (by decide) rfl (fun ls hl => ?_)
  have lp17 : ∀ (Q : State → Prop) (n i : Nat) (X : Nat → Nat → Int64) (H : Heap) (locs : List Loc) (ls : Array Slot), i + n = I 1 → va_P D vc (wT cs ad (up1 (up1 (up1 I 2 (I 0)) 3 (I 1)) 4 0) AN AI X) H → va_D A (wT cs ad (up1 (up1 (up1 I 2 (I 0)) 3 (I 1)) 4 0) AN AI X) → va_S A s.heap H locs → lv_has ls 3 [(1, .int (nI i)), (0, .ref (ad 0))] → (∀ (H : Heap) (locs : List Loc) (ls : Array Slot), va_P D vc (wT cs ad (up1 (up1 (up1 I 2 (I 0)) 3 (I 1)) 4 0) AN AI (fo (fun i X => fo (fun j Y => up2 Y (i + 11) j (Int32.toInt64 (AI (i + 8) j))) (I 0 + 1) 0 X) n i X)) H → va_D A (wT cs ad (up1 (up1 (up1 I 2 (I 0)) 3 (I 1)) 4 0) AN AI (fo (fun i X => fo (fun j Y => up2 Y (i + 11) j (Int32.toInt64 (AI (i + 8) j))) (I 0 + 1) 0 X) n i X)) → va_S A s.heap H locs → lv_has ls 3 [(1, .int (nI (I 1))), (0, .ref (ad 0))] → W p l e rmX2_eliminateEquations s m args below meth c H locs 0 0 Q (F0 m 67 ls [])) → W p l e rmX2_eliminateEquations s m args below meth c H locs 0 0 Q (F0 m 17 ls []) := by
    intro Q n
    induction n with
    | zero =>
      intro i X H locs ls hn hP hD hS hl kx
      have hi : i = I 1 := by omega
      refine lv_iload_n hx hb dX2_eliminateEquations_17 rfl (lv_at hl 0 rfl) ?_
      refine lv_aload_n hx hb dX2_eliminateEquations_18 rfl (lv_at hl 1 rfl) ?_
      refine b_get (own := RX2) (C := RX2) (T := TX2) (N := 5) (ci := 2) (v := .int (nI (I 1))) hx hb hts usX2 hown hK hP 0 (by decide) rfl rfl 4 (by decide) (hts _ gw_134) rfl dX2_eliminateEquations_19 ?_
      refine b_ge_t (tgt := 67) hx hb dX2_eliminateEquations_22 (by decide) (by omega) (by omega) ?_
      rw [hi] at hl
      exact kx H locs ls hP hD hS (lv_sub hl [0, 1] rfl)
    | succ n ih =>
      intro i X H locs ls hn hP hD hS hl kx
      have hi : i < I 1 := by omega
      refine lv_iload_n hx hb dX2_eliminateEquations_17 rfl (lv_at hl 0 rfl) ?_
      refine lv_aload_n hx hb dX2_eliminateEquations_18 rfl (lv_at hl 1 rfl) ?_
      refine b_get (own := RX2) (C := RX2) (T := TX2) (N := 5) (ci := 2) (v := .int (nI (I 1))) hx hb hts usX2 hown hK hP 0 (by decide) rfl rfl 4 (by decide) (hts _ gw_134) rfl dX2_eliminateEquations_19 ?_
      refine b_ge_f (tgt := 67) hx hb dX2_eliminateEquations_22 (by decide) (by omega) (by omega) ?_
      refine lv_iconst (v := nI 0) hx hb dX2_eliminateEquations_25 (by decide) ?_
      refine lv_istore_n (lv' := [(2, .int (nI 0)), (1, .int (nI i)), (0, .ref (ad 0))]) hx hb dX2_eliminateEquations_26 rfl hl (by decide) rfl (fun ls hl => ?_)
      have lp27 : ∀ (Q : State → Prop) (n j : Nat) (Y : Nat → Nat → Int64) (H : Heap) (locs : List Loc) (ls : Array Slot), j + n = I 0 + 1 → va_P D vc (wT cs ad (up1 (up1 (up1 I 2 (I 0)) 3 (I 1)) 4 0) AN AI Y) H → va_D A (wT cs ad (up1 (up1 (up1 I 2 (I 0)) 3 (I 1)) 4 0) AN AI Y) → va_S A s.heap H locs → lv_has ls 3 [(2, .int (nI j)), (1, .int (nI i)), (0, .ref (ad 0))] → (∀ (H : Heap) (locs : List Loc) (ls : Array Slot), va_P D vc (wT cs ad (up1 (up1 (up1 I 2 (I 0)) 3 (I 1)) 4 0) AN AI (fo (fun j Y => up2 Y (i + 11) j (Int32.toInt64 (AI (i + 8) j))) n j Y)) H → va_D A (wT cs ad (up1 (up1 (up1 I 2 (I 0)) 3 (I 1)) 4 0) AN AI (fo (fun j Y => up2 Y (i + 11) j (Int32.toInt64 (AI (i + 8) j))) n j Y)) → va_S A s.heap H locs → lv_has ls 3 [(2, .int (nI (I 0 + 1))), (1, .int (nI i)), (0, .ref (ad 0))] → W p l e rmX2_eliminateEquations s m args below meth c H locs 0 0 Q (F0 m 61 ls [])) → W p l e rmX2_eliminateEquations s m args below meth c H locs 0 0 Q (F0 m 27 ls []) := by
        intro Q n
        induction n with
        | zero =>
          intro j Y H locs ls hn hP hD hS hl kx
          have hi : j = I 0 + 1 := by omega
          refine lv_iload_n hx hb dX2_eliminateEquations_27 rfl (lv_at hl 0 rfl) ?_
          refine lv_aload_n hx hb dX2_eliminateEquations_28 rfl (lv_at hl 2 rfl) ?_
          refine b_get (own := RX2) (C := RX2) (T := TX2) (N := 5) (ci := 2) (v := .int (nI (I 0))) hx hb hts usX2 hown hK hP 0 (by decide) rfl rfl 0 (by decide) (hts _ gw_130) rfl dX2_eliminateEquations_29 ?_
          refine b_gt_t (tgt := 61) hx hb dX2_eliminateEquations_32 (by decide) (by omega) (by omega) ?_
          rw [hi] at hl
          exact kx H locs ls hP hD hS (lv_sub hl [0, 1, 2] rfl)
        | succ n ih =>
          intro j Y H locs ls hn hP hD hS hl kx
          have hi : j < I 0 + 1 := by omega
          refine lv_iload_n hx hb dX2_eliminateEquations_27 rfl (lv_at hl 0 rfl) ?_
          refine lv_aload_n hx hb dX2_eliminateEquations_28 rfl (lv_at hl 2 rfl) ?_
          refine b_get (own := RX2) (C := RX2) (T := TX2) (N := 5) (ci := 2) (v := .int (nI (I 0))) hx hb hts usX2 hown hK hP 0 (by decide) rfl rfl 0 (by decide) (hts _ gw_130) rfl dX2_eliminateEquations_29 ?_
          refine b_gt_f (tgt := 61) hx hb dX2_eliminateEquations_32 (by decide) (by omega) (by omega) ?_
          refine lv_aload_n hx hb dX2_eliminateEquations_35 rfl (lv_at hl 2 rfl) ?_
          refine b_get (own := RX2) (C := RX2) (T := TX2) (N := 5) (ci := 2) (v := .ref (ad 2)) hx hb hts usX2 hown hK hP 0 (by decide) rfl rfl 2 (by decide) (hts _ gw_132) rfl dX2_eliminateEquations_36 ?_
          refine b_getN (own := RX2) (C := RX0) (host := RX2) (T := TX0) (N := 5) (ci := 0) (v := .ref (ad 4)) hx hb hts usX0 hown hK hP 2 (by decide) rfl rfl 0 (by decide) (hN _ (by decide +kernel)) rfl dX2_eliminateEquations_39 ?_
          refine lv_iload_n hx hb dX2_eliminateEquations_42 rfl (lv_at hl 1 rfl) ?_
          refine tE_r hx hb hK hP (by omega) dX2_eliminateEquations_43 ?_
          refine lv_iload_n hx hb dX2_eliminateEquations_44 rfl (lv_at hl 0 rfl) ?_
          refine lv_aload_n hx hb dX2_eliminateEquations_45 rfl (lv_at hl 2 rfl) ?_
          refine b_get (own := RX2) (C := RX2) (T := TX2) (N := 5) (ci := 2) (v := .ref (ad 1)) hx hb hts usX2 hown hK hP 0 (by decide) rfl rfl 1 (by decide) (hts _ gw_131) rfl dX2_eliminateEquations_46 ?_
          refine lv_iload_n hx hb dX2_eliminateEquations_49 rfl (lv_at hl 1 rfl) ?_
          refine tN_r hx hb hK hP (by omega) dX2_eliminateEquations_50 ?_
          refine lv_iload_n hx hb dX2_eliminateEquations_51 rfl (lv_at hl 0 rfl) ?_
          refine tN_ld (i := i) hx hb hK hP (by omega) (by omega) dX2_eliminateEquations_52 ?_
          refine lv_i2l (v := Int32.toInt64 (AI (i + 8) j)) hx hb dX2_eliminateEquations_53 rfl ?_
          refine tE_st (i := i) hx hb hK hP hD hS (by omega) (by omega) dX2_eliminateEquations_54 (fun H locs hP hD hS => ?_)
          refine b_iinc (lv' := [(2, .int (nI (j + 1))), (1, .int (nI i)), (0, .ref (ad 0))]) hx hb dX2_eliminateEquations_55 hl (k := 0) rfl (by decide) rfl (fun ls hl => ?_)
          refine lv_goto (tgt := 27) hx hb dX2_eliminateEquations_58 (by decide) ?_
          exact ih (j + 1) _ H locs ls (by omega) hP hD hS (lv_sub hl [0, 1, 2] rfl) kx
      refine lp27 _ (I 0 + 1) 0 X _ _ ls (by omega) hP hD hS (lv_sub hl [0, 1, 2] rfl) (fun H locs ls hP hD hS hl => ?_)
      refine b_iinc (lv' := [(1, .int (nI (i + 1))), (2, .int (nI (I 0 + 1))), (0, .ref (ad 0))]) hx hb dX2_eliminateEquations_61 hl (k := 1) rfl (by decide) rfl (fun ls hl => ?_)
      refine lv_goto (tgt := 17) hx hb dX2_eliminateEquations_64 (by decide) ?_
      exact ih (i + 1) _ H locs ls (by omega) hP hD hS (lv_sub hl [0, 2] rfl) kx
  refine lp17 _ (I 1) 0 (zer (I 0) (I 1) AL) _ _ ls (by omega) hP hD hS (lv_sub hl [0, 1] rfl) (fun H locs ls hP hD hS hl => ?_)
  have hP : va_P D vc (wT cs ad (up1 (up1 (up1 I 2 (I 0)) 3 (I 1)) 4 0) AN AI (eqfill (I 0) (I 1) AI (zer (I 0) (I 1) AL))) H := hP
  have hD : va_D A (wT cs ad (up1 (up1 (up1 I 2 (I 0)) 3 (I 1)) 4 0) AN AI (eqfill (I 0) (I 1) AI (zer (I 0) (I 1) AL))) := hD
  refine lv_aload_n hx hb dX2_eliminateEquations_67 rfl (lv_at hl 1 rfl) ?_
  refine b_get (own := RX2) (C := RX2) (T := TX2) (N := 5) (ci := 2) (v := .ref (ad 2)) hx hb hts usX2 hown hK hP 0 (by decide) rfl rfl 2 (by decide) (hts _ gw_132) rfl dX2_eliminateEquations_68 ?_
  have k2 : (up1 (up1 (up1 I 2 (I 0)) 3 (I 1)) 4 0) 2 ≤ 4 := (show I 0 ≤ 4 by omega)
  have k3 : (up1 (up1 (up1 I 2 (I 0)) 3 (I 1)) 4 0) 3 ≤ 7 := (show I 1 ≤ 7 by omega)
  have k4 : (up1 (up1 (up1 I 2 (I 0)) 3 (I 1)) 4 0) 4 ≤ (up1 (up1 (up1 I 2 (I 0)) 3 (I 1)) 4 0) 3 := (show 0 ≤ I 1 by omega)
  refine g_callv (va_runVN (C := RX0) (As := []) (rest := []) ⟨hx, hb, hml, hown, hts⟩ (ctX0_eliminate l D cs ad (up1 (up1 (up1 I 2 (I 0)) 3 (I 1)) 4 0) AN AI (eqfill (I 0) (I 1) AI (zer (I 0) (I 1) AL)) _ k2 k3 k4) ⟨va_cnB 0 hts (gi_C gw_163) rfl rfl rfl (hN _ (by decide +kernel) : va_Nw (Cond.methodLinkNest "TriangularSystems" 144 ⟨"TriangularSystems$Elimination", "eliminate", "()V"⟩ "TriangularSystems") s) (hts _ gw_55) (by decide +kernel) ⟨Nat.le_of_ble_eq_true rfl, Nat.le_of_ble_eq_true rfl⟩, hts _ gw_162, hts _ gw_2⟩ ⟨g_blind, va_recv hK hP (ci := 0) (q0 := 2) rfl (wm_at (by decide) rfl), g_pre hP hK hD hN⟩ rfl rfl hl.1 rfl (lv_room (Nat.le_of_ble_eq_true rfl)) dX2_eliminateEquations_71 ⟨Nat.zero_le _, Nat.zero_le _⟩) hD hS hA (fun u H locs hw hP hD hS => ?_)
  obtain rfl := hw
  have hP : va_P D vc (wT cs ad (up1 (up1 (up1 (up1 I 2 (I 0)) 3 (I 1)) 4 0) 4 (eqE (I 0) (I 1) AN AI AL).1) ((eqE (I 0) (I 1) AN AI AL).2.1) AI ((eqE (I 0) (I 1) AN AI AL).2.2)) H := hP
  have hD : va_D A (wT cs ad (up1 (up1 (up1 (up1 I 2 (I 0)) 3 (I 1)) 4 0) 4 (eqE (I 0) (I 1) AN AI AL).1) ((eqE (I 0) (I 1) AN AI AL).2.1) AI ((eqE (I 0) (I 1) AN AI AL).2.2)) := hD
  rw [up1_1] at hP hD
  exact g_vret hx hb hr hlocks (Ieq I (I 0) (I 1) (eqE (I 0) (I 1) AN AI AL).1, (eqE (I 0) (I 1) AN AI AL).2.1, AI, (eqE (I 0) (I 1) AN AI AL).2.2) (rfl) hK hP hD hS dX2_eliminateEquations_74

abbrev rmX2_spanLattice : Room := { frames := 4, cells := 0, slots := 0, locals := 93 }
set_option maxHeartbeats 4000000 in
set_option maxRecDepth 100000 in
/-- spanLattice -/
theorem ctX2_spanLattice (l : Launch) (D : va_G) (cs : Nat → ClassId) (ad : Nat → Nat) (I : Nat → Nat) (AN : Nat → Nat → Nat) (AI : Nat → Nat → Int32) (AL : Nat → Nat → Int64) (sz : Nat)  (hn3 : I 0 ≤ 3) (he3 : I 1 ≤ 3) (hbg : ∀ r, r < 3 → AN 7 r < 6) : Met l yX2_spanLattice (Cond.code yX2_spanLattice cX2_spanLattice 3 none :: GW) rmX2_spanLattice (va_Pc [.ref (ad 0)] (gP D cs (wT cs ad I AN AI AL) sz)) (va_Qv (fun u : TS => u = (up1 I 5 (I 0), (spL (I 0) (I 1) AN AI AL).1, AI, (spL (I 0) (I 1) AN AI AL).2)) (gB D cs (va_A (wT cs ad I AN AI AL) sz) (wTs cs ad)) (va_A (wT cs ad I AN AI AL) sz)) 0 0 (va_A (wT cs ad I AN AI AL) sz) := by
  refine Met.ofW (cc := cX2_spanLattice) (maxL := 3) (ret := none) (by decide) rfl ?_
  intro p e s m args below meth c s₁ B hml hv
  obtain ⟨rfl, hsz, hP, hK, hD0, hN⟩ := hv
  have hx := B.exec
  have hb := B.bytes
  have hr := B.returns
  have hts : ∀ w ∈ GW, w.before _ s = true := fun w h => atoms_spec (ws := Cond.code yX2_spanLattice cX2_spanLattice 3 none :: GW) B.pre w (List.mem_cons_of_mem _ h)
  have hown : s.vm.findClass RX2 = some m.cls := findClass_of_methodNamed B.named
  have hlocks := B.notSynchronized
  subst hsz
  have hD := hD0.self (sz := s.heap.size)
  generalize hAe : va_A (wT cs ad I AN AI AL) s.heap.size = A at hD ⊢
  have hA : ∀ q : Nat, s.heap.size ≤ q → A q := fun q h => by rw [← hAe]; exact Or.inr h
  have hS : va_S A s.heap s.heap [] := va_S.rf
  have hl := lv_entry [.ref (ad 0)] (n := 3) (Nat.le_of_ble_eq_true rfl)
  rw [lg_entry_eq]
  generalize (lg_sl [.ref (ad 0)] ++ List.replicate (3 - (lg_sl [.ref (ad 0)]).length) Slot.unset).toArray = ls at hl ⊢
  have hl : lv_has ls 3 [(0, .ref (ad 0))] := hl
  generalize hargs : ([.ref (ad 0)] : List Value).toArray = args at *
  show W p l e rmX2_spanLattice s m args below meth c s.heap [] 0 0 _ (F0 m 0 ls [])
  refine lv_aload_n hx hb dX2_spanLattice_0 rfl (lv_at hl 0 rfl) ?_
  refine b_get (own := RX2) (C := RX2) (T := TX2) (N := 5) (ci := 2) (v := .ref (ad 3)) hx hb hts usX2 hown hK hP 0 (by decide) rfl rfl 3 (by decide) (hts _ gw_133) rfl dX2_spanLattice_1 ?_
  refine lv_aload_n hx hb dX2_spanLattice_4 rfl (lv_at hl 0 rfl) ?_
  refine b_get (own := RX2) (C := RX2) (T := TX2) (N := 5) (ci := 2) (v := .int (nI (I 0))) hx hb hts usX2 hown hK hP 0 (by decide) rfl rfl 0 (by decide) (hts _ gw_130) rfl dX2_spanLattice_5 ?_
  refine g_callv (va_runVN (C := RX1) (As := [.int (nI (I 0))]) (rest := []) ⟨hx, hb, hml, hown, hts⟩ (ctX1_begin l D cs ad I AN AI AL _ (I 0) hn3) ⟨va_cnB 1 hts (gi_C gw_221) rfl rfl rfl (hN _ (by decide +kernel) : va_Nw (Cond.methodLinkNest "TriangularSystems" 150 ⟨"TriangularSystems$Lattice", "begin", "(I)V"⟩ "TriangularSystems") s) (hts _ gw_56) (by decide +kernel) ⟨Nat.le_of_ble_eq_true rfl, Nat.le_of_ble_eq_true rfl⟩, hts _ gw_220, hts _ gw_12⟩ ⟨g_blind, va_recv hK hP (ci := 1) (q0 := 3) rfl (wm_at (by decide) rfl), g_pre hP hK hD hN⟩ rfl rfl hl.1 rfl (lv_room (Nat.le_of_ble_eq_true rfl)) dX2_spanLattice_8 ⟨Nat.zero_le _, Nat.zero_le _⟩) hD hS hA (fun u H locs hw hP hD hS => ?_)
  obtain rfl := hw
  have hP : va_P D vc (wT cs ad (up1 I 5 (I 0)) AN AI (lbeg (I 0) AL)) H := hP
  have hD : va_D A (wT cs ad (up1 I 5 (I 0)) AN AI (lbeg (I 0) AL)) := hD
  refine lv_iconst (v := nI 0) hx hb dX2_spanLattice_11 (by decide) ?_
  refine lv_istore_n (lv' := [(1, .int (nI 0)), (0, .ref (ad 0))]) hx hb dX2_spanLattice_12 rfl hl (by decide) rfl (fun ls hl => ?_)
  have lp13 : ∀ (Q : State → Prop) (n i : Nat) (X : Nat → Nat → Int64) (H : Heap) (locs : List Loc) (ls : Array Slot), i + n = I 1 → va_P D vc (wT cs ad (up1 I 5 (I 0)) AN AI X) H → va_D A (wT cs ad (up1 I 5 (I 0)) AN AI X) → va_S A s.heap H locs → lv_has ls 3 [(1, .int (nI i)), (0, .ref (ad 0))] → (∀ (H : Heap) (locs : List Loc) (ls : Array Slot), va_P D vc (wT cs ad (up1 I 5 (I 0)) AN AI (fo (fun i X => up2 (fo (fun j Y => up2 Y (j + 18) i (Int32.toInt64 (AI (i + 8) j))) (I 0) 0 X) (3 + 18) i (Int32.toInt64 (-(AI (i + 8) (I 0))))) n i X)) H → va_D A (wT cs ad (up1 I 5 (I 0)) AN AI (fo (fun i X => up2 (fo (fun j Y => up2 Y (j + 18) i (Int32.toInt64 (AI (i + 8) j))) (I 0) 0 X) (3 + 18) i (Int32.toInt64 (-(AI (i + 8) (I 0))))) n i X)) → va_S A s.heap H locs → lv_has ls 3 [(1, .int (nI (I 1))), (0, .ref (ad 0))] → W p l e rmX2_spanLattice s m args below meth c H locs 0 0 Q (F0 m 85 ls [])) → W p l e rmX2_spanLattice s m args below meth c H locs 0 0 Q (F0 m 13 ls []) := by
    intro Q n
    induction n with
    | zero =>
      intro i X H locs ls hn hP hD hS hl kx
      have hi : i = I 1 := by omega
      refine lv_iload_n hx hb dX2_spanLattice_13 rfl (lv_at hl 0 rfl) ?_
      refine lv_aload_n hx hb dX2_spanLattice_14 rfl (lv_at hl 1 rfl) ?_
      refine b_get (own := RX2) (C := RX2) (T := TX2) (N := 5) (ci := 2) (v := .int (nI (I 1))) hx hb hts usX2 hown hK hP 0 (by decide) rfl rfl 4 (by decide) (hts _ gw_134) rfl dX2_spanLattice_15 ?_
      refine b_ge_t (tgt := 85) hx hb dX2_spanLattice_18 (by decide) (by omega) (by omega) ?_
      rw [hi] at hl
      exact kx H locs ls hP hD hS (lv_sub hl [0, 1] rfl)
    | succ n ih =>
      intro i X H locs ls hn hP hD hS hl kx
      have hi : i < I 1 := by omega
      refine lv_iload_n hx hb dX2_spanLattice_13 rfl (lv_at hl 0 rfl) ?_
      refine lv_aload_n hx hb dX2_spanLattice_14 rfl (lv_at hl 1 rfl) ?_
      refine b_get (own := RX2) (C := RX2) (T := TX2) (N := 5) (ci := 2) (v := .int (nI (I 1))) hx hb hts usX2 hown hK hP 0 (by decide) rfl rfl 4 (by decide) (hts _ gw_134) rfl dX2_spanLattice_15 ?_
      refine b_ge_f (tgt := 85) hx hb dX2_spanLattice_18 (by decide) (by omega) (by omega) ?_
      refine lv_iconst (v := nI 0) hx hb dX2_spanLattice_21 (by decide) ?_
      refine lv_istore_n (lv' := [(2, .int (nI 0)), (1, .int (nI i)), (0, .ref (ad 0))]) hx hb dX2_spanLattice_22 rfl hl (by decide) rfl (fun ls hl => ?_)
      have lp23 : ∀ (Q : State → Prop) (n j : Nat) (Y : Nat → Nat → Int64) (H : Heap) (locs : List Loc) (ls : Array Slot), j + n = I 0 → va_P D vc (wT cs ad (up1 I 5 (I 0)) AN AI Y) H → va_D A (wT cs ad (up1 I 5 (I 0)) AN AI Y) → va_S A s.heap H locs → lv_has ls 3 [(2, .int (nI j)), (1, .int (nI i)), (0, .ref (ad 0))] → (∀ (H : Heap) (locs : List Loc) (ls : Array Slot), va_P D vc (wT cs ad (up1 I 5 (I 0)) AN AI (fo (fun j Y => up2 Y (j + 18) i (Int32.toInt64 (AI (i + 8) j))) n j Y)) H → va_D A (wT cs ad (up1 I 5 (I 0)) AN AI (fo (fun j Y => up2 Y (j + 18) i (Int32.toInt64 (AI (i + 8) j))) n j Y)) → va_S A s.heap H locs → lv_has ls 3 [(2, .int (nI (I 0))), (1, .int (nI i)), (0, .ref (ad 0))] → W p l e rmX2_spanLattice s m args below meth c H locs 0 0 Q (F0 m 57 ls [])) → W p l e rmX2_spanLattice s m args below meth c H locs 0 0 Q (F0 m 23 ls []) := by
        intro Q n
        induction n with
        | zero =>
          intro j Y H locs ls hn hP hD hS hl kx
          have hi : j = I 0 := by omega
          refine lv_iload_n hx hb dX2_spanLattice_23 rfl (lv_at hl 0 rfl) ?_
          refine lv_aload_n hx hb dX2_spanLattice_24 rfl (lv_at hl 2 rfl) ?_
          refine b_get (own := RX2) (C := RX2) (T := TX2) (N := 5) (ci := 2) (v := .int (nI (I 0))) hx hb hts usX2 hown hK hP 0 (by decide) rfl rfl 0 (by decide) (hts _ gw_130) rfl dX2_spanLattice_25 ?_
          refine b_ge_t (tgt := 57) hx hb dX2_spanLattice_28 (by decide) (by omega) (by omega) ?_
          rw [hi] at hl
          exact kx H locs ls hP hD hS (lv_sub hl [0, 1, 2] rfl)
        | succ n ih =>
          intro j Y H locs ls hn hP hD hS hl kx
          have hi : j < I 0 := by omega
          refine lv_iload_n hx hb dX2_spanLattice_23 rfl (lv_at hl 0 rfl) ?_
          refine lv_aload_n hx hb dX2_spanLattice_24 rfl (lv_at hl 2 rfl) ?_
          refine b_get (own := RX2) (C := RX2) (T := TX2) (N := 5) (ci := 2) (v := .int (nI (I 0))) hx hb hts usX2 hown hK hP 0 (by decide) rfl rfl 0 (by decide) (hts _ gw_130) rfl dX2_spanLattice_25 ?_
          refine b_ge_f (tgt := 57) hx hb dX2_spanLattice_28 (by decide) (by omega) (by omega) ?_
          refine lv_aload_n hx hb dX2_spanLattice_31 rfl (lv_at hl 2 rfl) ?_
          refine b_get (own := RX2) (C := RX2) (T := TX2) (N := 5) (ci := 2) (v := .ref (ad 3)) hx hb hts usX2 hown hK hP 0 (by decide) rfl rfl 3 (by decide) (hts _ gw_133) rfl dX2_spanLattice_32 ?_
          refine b_getN (own := RX2) (C := RX1) (host := RX2) (T := TX1) (N := 4) (ci := 1) (v := .ref (ad 6)) hx hb hts usX1 hown hK hP 3 (by decide) rfl rfl 0 (by decide) (hN _ (by decide +kernel)) rfl dX2_spanLattice_35 ?_
          refine lv_iload_n hx hb dX2_spanLattice_38 rfl (lv_at hl 0 rfl) ?_
          refine tL_r hx hb hK hP (by omega) dX2_spanLattice_39 ?_
          refine lv_iload_n hx hb dX2_spanLattice_40 rfl (lv_at hl 1 rfl) ?_
          refine lv_aload_n hx hb dX2_spanLattice_41 rfl (lv_at hl 2 rfl) ?_
          refine b_get (own := RX2) (C := RX2) (T := TX2) (N := 5) (ci := 2) (v := .ref (ad 1)) hx hb hts usX2 hown hK hP 0 (by decide) rfl rfl 1 (by decide) (hts _ gw_131) rfl dX2_spanLattice_42 ?_
          refine lv_iload_n hx hb dX2_spanLattice_45 rfl (lv_at hl 1 rfl) ?_
          refine tN_r hx hb hK hP (by omega) dX2_spanLattice_46 ?_
          refine lv_iload_n hx hb dX2_spanLattice_47 rfl (lv_at hl 0 rfl) ?_
          refine tN_ld (i := i) hx hb hK hP (by omega) (by omega) dX2_spanLattice_48 ?_
          refine lv_i2l (v := Int32.toInt64 (AI (i + 8) j)) hx hb dX2_spanLattice_49 rfl ?_
          refine tL_st (i := j) hx hb hK hP hD hS (by omega) (by omega) dX2_spanLattice_50 (fun H locs hP hD hS => ?_)
          refine b_iinc (lv' := [(2, .int (nI (j + 1))), (1, .int (nI i)), (0, .ref (ad 0))]) hx hb dX2_spanLattice_51 hl (k := 0) rfl (by decide) rfl (fun ls hl => ?_)
          refine lv_goto (tgt := 23) hx hb dX2_spanLattice_54 (by decide) ?_
          exact ih (j + 1) _ H locs ls (by omega) hP hD hS (lv_sub hl [0, 1, 2] rfl) kx
      refine lp23 _ (I 0) 0 X _ _ ls (by omega) hP hD hS (lv_sub hl [0, 1, 2] rfl) (fun H locs ls hP hD hS hl => ?_)
      refine lv_aload_n hx hb dX2_spanLattice_57 rfl (lv_at hl 2 rfl) ?_
      refine b_get (own := RX2) (C := RX2) (T := TX2) (N := 5) (ci := 2) (v := .ref (ad 3)) hx hb hts usX2 hown hK hP 0 (by decide) rfl rfl 3 (by decide) (hts _ gw_133) rfl dX2_spanLattice_58 ?_
      refine b_getN (own := RX2) (C := RX1) (host := RX2) (T := TX1) (N := 4) (ci := 1) (v := .ref (ad 21)) hx hb hts usX1 hown hK hP 3 (by decide) rfl rfl 2 (by decide) (hN _ (by decide +kernel)) rfl dX2_spanLattice_61 ?_
      refine lv_iload_n hx hb dX2_spanLattice_64 rfl (lv_at hl 1 rfl) ?_
      refine lv_aload_n hx hb dX2_spanLattice_65 rfl (lv_at hl 2 rfl) ?_
      refine b_get (own := RX2) (C := RX2) (T := TX2) (N := 5) (ci := 2) (v := .ref (ad 1)) hx hb hts usX2 hown hK hP 0 (by decide) rfl rfl 1 (by decide) (hts _ gw_131) rfl dX2_spanLattice_66 ?_
      refine lv_iload_n hx hb dX2_spanLattice_69 rfl (lv_at hl 1 rfl) ?_
      refine tN_r hx hb hK hP (by omega) dX2_spanLattice_70 ?_
      refine lv_aload_n hx hb dX2_spanLattice_71 rfl (lv_at hl 2 rfl) ?_
      refine b_get (own := RX2) (C := RX2) (T := TX2) (N := 5) (ci := 2) (v := .int (nI (I 0))) hx hb hts usX2 hown hK hP 0 (by decide) rfl rfl 0 (by decide) (hts _ gw_130) rfl dX2_spanLattice_72 ?_
      refine tN_ld (i := i) hx hb hK hP (by omega) (by omega) dX2_spanLattice_75 ?_
      refine lv_ineg hx hb dX2_spanLattice_76 ?_
      refine lv_i2l (v := Int32.toInt64 (-(AI (i + 8) (I 0)))) hx hb dX2_spanLattice_77 rfl ?_
      refine tL_st (i := 3) hx hb hK hP hD hS (by omega) (by omega) dX2_spanLattice_78 (fun H locs hP hD hS => ?_)
      refine b_iinc (lv' := [(1, .int (nI (i + 1))), (2, .int (nI (I 0))), (0, .ref (ad 0))]) hx hb dX2_spanLattice_79 hl (k := 1) rfl (by decide) rfl (fun ls hl => ?_)
      refine lv_goto (tgt := 13) hx hb dX2_spanLattice_82 (by decide) ?_
      exact ih (i + 1) _ H locs ls (by omega) hP hD hS (lv_sub hl [0, 2] rfl) kx
  refine lp13 _ (I 1) 0 (lbeg (I 0) AL) _ _ ls (by omega) hP hD hS (lv_sub hl [0, 1] rfl) (fun H locs ls hP hD hS hl => ?_)
  have hP : va_P D vc (wT cs ad (up1 I 5 (I 0)) AN AI (spfill (I 0) (I 1) AI (lbeg (I 0) AL))) H := hP
  have hD : va_D A (wT cs ad (up1 I 5 (I 0)) AN AI (spfill (I 0) (I 1) AI (lbeg (I 0) AL))) := hD
  refine lv_aload_n hx hb dX2_spanLattice_85 rfl (lv_at hl 1 rfl) ?_
  refine b_get (own := RX2) (C := RX2) (T := TX2) (N := 5) (ci := 2) (v := .ref (ad 3)) hx hb hts usX2 hown hK hP 0 (by decide) rfl rfl 3 (by decide) (hts _ gw_133) rfl dX2_spanLattice_86 ?_
  have k5 : (up1 I 5 (I 0)) 5 ≤ 3 := hn3
  refine g_callv (va_runVN (C := RX1) (As := []) (rest := []) ⟨hx, hb, hml, hown, hts⟩ (ctX1_span l D cs ad (up1 I 5 (I 0)) AN AI (spfill (I 0) (I 1) AI (lbeg (I 0) AL)) _ k5 hbg) ⟨va_cnB 0 hts (gi_C gw_227) rfl rfl rfl (hN _ (by decide +kernel) : va_Nw (Cond.methodLinkNest "TriangularSystems" 154 ⟨"TriangularSystems$Lattice", "span", "()V"⟩ "TriangularSystems") s) (hts _ gw_56) (by decide +kernel) ⟨Nat.le_of_ble_eq_true rfl, Nat.le_of_ble_eq_true rfl⟩, hts _ gw_226, hts _ gw_13⟩ ⟨g_blind, va_recv hK hP (ci := 1) (q0 := 3) rfl (wm_at (by decide) rfl), g_pre hP hK hD hN⟩ rfl rfl hl.1 rfl (lv_room (Nat.le_of_ble_eq_true rfl)) dX2_spanLattice_89 ⟨Nat.zero_le _, Nat.zero_le _⟩) hD hS hA (fun u H locs hw hP hD hS => ?_)
  obtain rfl := hw
  have hP : va_P D vc (wT cs ad (up1 I 5 (I 0)) ((spL (I 0) (I 1) AN AI AL).1) AI ((spL (I 0) (I 1) AN AI AL).2)) H := hP
  have hD : va_D A (wT cs ad (up1 I 5 (I 0)) ((spL (I 0) (I 1) AN AI AL).1) AI ((spL (I 0) (I 1) AN AI AL).2)) := hD
  exact g_vret hx hb hr hlocks (up1 I 5 (I 0), (spL (I 0) (I 1) AN AI AL).1, AI, (spL (I 0) (I 1) AN AI AL).2) (rfl) hK hP hD hS dX2_spanLattice_92
end
section
theorem el_le2 {w h : Nat} : ∀ (n q : Nat) (x : Nat × (Nat → Nat → Nat) × (Nat → Nat → Int64)), (fo (estep w h) n q x).1 ≤ x.1 + n
  | 0, _, x => Nat.le_refl x.1
  | n + 1, q, x => by
    rw [fo_s]
    have h1 := el_le2 (w := w) (h := h) n (q + 1) (estep w h q x)
    have h2 : (estep w h q x).1 ≤ x.1 + 1 := by
      by_cases hd : x.1 < h
      · cases hf : fnd (fun k => x.2.2 (k + 11) q ≠ 0) (h - x.1) x.1 with
        | none => rw [estep_none hd hf]; omega
        | some k => rw [estep_some hd hf]; exact Nat.le_refl _
      · rw [estep_out hd]; omega
    omega
/-- whether the rows behind the deciding ones come to 0 -/
def agr (w h : Nat) (x : Nat × (Nat → Nat → Nat) × (Nat → Nat → Int64)) : Bool := (fnd (fun k => x.2.2 (k + 11) w ≠ 0) (h - x.1) x.1).isNone
theorem eqE_le {n e : Nat} {AN : Nat → Nat → Nat} {AI : Nat → Nat → Int32} {AL : Nat → Nat → Int64} : (eqE n e AN AI AL).1 ≤ e := el_le n 0 _ (Nat.zero_le _)
theorem eqE_le2 {n e : Nat} {AN : Nat → Nat → Nat} {AI : Nat → Nat → Int32} {AL : Nat → Nat → Int64} : (eqE n e AN AI AL).1 ≤ n := by
  have h := el_le2 (w := n) (h := e) n 0 (0, AN, eqfill n e AI (zer n e AL))
  have h2 : (eqE n e AN AI AL).1 ≤ 0 + n := h
  omega
theorem eqE_dc {n e : Nat} {AN : Nat → Nat → Nat} {AI : Nat → Nat → Int32} {AL : Nat → Nat → Int64} (hn : n ≤ 3) (hx : ∀ k, k < 7 → AN 5 k < 2 ^ 31) : ∀ k, k < 7 → (eqE n e AN AI AL).2.1 5 k < 2 ^ 31 := el_dc n 0 (0, AN, eqfill n e AI (zer n e AL)) (by omega) hx
theorem bz_1 {b : Bool} : bz b = 0 ↔ b = false := by cases b <;> decide
def nefill1 (n e : Nat) (AI : Nat → Nat → Int32) (AL : Nat → Nat → Int64) : Nat → Nat → Int64 := fo (fun i X => up2 (up2 (fo (fun j Y => up2 Y (i + 11) j (cpr e AI i j)) n 0 X) (i + 11) n (if i = n then 1 else 0)) (i + 11) (n + 1) (cpr e AI i n)) (n + 1) 0 AL
def nefill2 (n mb : Nat) (AL : Nat → Nat → Int64) : Nat → Nat → Int64 := fo (fun k X => fo (fun j Y => up2 Y (n + 1 + k + 11) j (Y (n - mb + k + 18) (3 + j))) n 0 X) mb 0 AL
def neE (n e : Nat) (AN : Nat → Nat → Nat) (AI : Nat → Nat → Int32) (AL : Nat → Nat → Int64) : Nat × (Nat → Nat → Nat) × (Nat → Nat → Int64) :=
  fo (estep (n + 1) (n + 1 + mbs (spL n e AN AI AL).1 n)) (n + 1) 0 (0, (spL n e AN AI AL).1, nefill2 n (mbs (spL n e AN AI AL).1 n) (nefill1 n e AI (zer (n + 1) (n + 1 + mbs (spL n e AN AI AL).1 n) (spL n e AN AI AL).2)))
/-- how many first numbers fit -/
def fitf (n : Nat) (AI : Nat → Nat → Int32) (y z : Int32) : Nat → Nat → Int32 → Int32 → Int32
  | 0, _, fr, tt => if tt < fr then nI 0 else tt - fr + nI 1
  | c + 1, g, fr, tt =>
    if AI (g + 8) 0 = 0 then
      if Int64.toInt32 (-(exc n AI g 0 (Int32.toInt64 y) (Int32.toInt64 z))) = 0 then fitf n AI y z c (g + 1) fr tt else nI 0
    else if Int64.toInt32 (-(exc n AI g 0 (Int32.toInt64 y) (Int32.toInt64 z))) - Int64.toInt32 (-(exc n AI g 0 (Int32.toInt64 y) (Int32.toInt64 z))) / AI (g + 8) 0 * AI (g + 8) 0 = 0 then
      fitf n AI y z c (g + 1) (if fr < Int64.toInt32 (-(exc n AI g 0 (Int32.toInt64 y) (Int32.toInt64 z))) / AI (g + 8) 0 then Int64.toInt32 (-(exc n AI g 0 (Int32.toInt64 y) (Int32.toInt64 z))) / AI (g + 8) 0 else fr) (if Int64.toInt32 (-(exc n AI g 0 (Int32.toInt64 y) (Int32.toInt64 z))) / AI (g + 8) 0 < tt then Int64.toInt32 (-(exc n AI g 0 (Int32.toInt64 y) (Int32.toInt64 z))) / AI (g + 8) 0 else tt)
    else nI 0

abbrev rmX2_rank : Room := { frames := 6, cells := 0, slots := 0, locals := 147 }
set_option maxHeartbeats 4000000 in
set_option maxRecDepth 100000 in
/-- rank -/
theorem ctX2_rank (l : Launch) (D : va_G) (cs : Nat → ClassId) (ad : Nat → Nat) (I : Nat → Nat) (AN : Nat → Nat → Nat) (AI : Nat → Nat → Int32) (AL : Nat → Nat → Int64) (sz : Nat)  (hn3 : I 0 ≤ 3) (he3 : I 1 ≤ 3) : Met l yX2_rank (Cond.code yX2_rank cX2_rank 1 (some FieldType.int) :: GW) rmX2_rank (va_Pc [.ref (ad 0)] (gP D cs (wT cs ad I AN AI AL) sz)) (va_Qi (fun (r : Int32) (u : TS) => u = (Ieq I (I 0) (I 1) (eqE (I 0) (I 1) AN AI AL).1, (eqE (I 0) (I 1) AN AI AL).2.1, AI, (eqE (I 0) (I 1) AN AI AL).2.2) ∧ r = nI (eqE (I 0) (I 1) AN AI AL).1) (gB D cs (va_A (wT cs ad I AN AI AL) sz) (wTs cs ad)) (va_A (wT cs ad I AN AI AL) sz)) 0 0 (va_A (wT cs ad I AN AI AL) sz) := by
  refine Met.ofW (cc := cX2_rank) (maxL := 1) (ret := (some FieldType.int)) (by decide) rfl ?_
  intro p e s m args below meth c s₁ B hml hv
  obtain ⟨rfl, hsz, hP, hK, hD0, hN⟩ := hv
  have hx := B.exec
  have hb := B.bytes
  have hr := B.returns
  have hts : ∀ w ∈ GW, w.before _ s = true := fun w h => atoms_spec (ws := Cond.code yX2_rank cX2_rank 1 (some FieldType.int) :: GW) B.pre w (List.mem_cons_of_mem _ h)
  have hown : s.vm.findClass RX2 = some m.cls := findClass_of_methodNamed B.named
  have hlocks := B.notSynchronized
  subst hsz
  have hD := hD0.self (sz := s.heap.size)
  generalize hAe : va_A (wT cs ad I AN AI AL) s.heap.size = A at hD ⊢
  have hA : ∀ q : Nat, s.heap.size ≤ q → A q := fun q h => by rw [← hAe]; exact Or.inr h
  have hS : va_S A s.heap s.heap [] := va_S.rf
  have hl := lv_entry [.ref (ad 0)] (n := 1) (Nat.le_of_ble_eq_true rfl)
  rw [lg_entry_eq]
  generalize (lg_sl [.ref (ad 0)] ++ List.replicate (1 - (lg_sl [.ref (ad 0)]).length) Slot.unset).toArray = ls at hl ⊢
  have hl : lv_has ls 1 [(0, .ref (ad 0))] := hl
  generalize hargs : ([.ref (ad 0)] : List Value).toArray = args at *
  show W p l e rmX2_rank s m args below meth c s.heap [] 0 0 _ (F0 m 0 ls [])
  refine lv_aload_n hx hb dX2_rank_0 rfl (lv_at hl 0 rfl) ?_
  refine g_callv (va_runV (As := []) (rest := []) ⟨hx, hb, hml, hown, hts⟩ (ctX2_eliminateEquations l D cs ad I AN AI AL _ hn3 he3) (cwV 0 hts (gi_V gw_150 gw_152 gw_0 gw_53 gw_153) rfl rfl rfl (by decide +kernel) ⟨Nat.le_of_ble_eq_true rfl, Nat.le_of_ble_eq_true rfl⟩) ⟨g_blind, va_recv hK hP (ci := 2) (q0 := 0) rfl (wm_at (by decide) rfl), g_pre hP hK hD hN⟩ rfl rfl hl.1 rfl (lv_room (Nat.le_of_ble_eq_true rfl)) dX2_rank_1 ⟨Nat.zero_le _, Nat.zero_le _⟩) hD hS hA (fun u H locs hw hP hD hS => ?_)
  obtain rfl := hw
  have hP : va_P D vc (wT cs ad (Ieq I (I 0) (I 1) (eqE (I 0) (I 1) AN AI AL).1) ((eqE (I 0) (I 1) AN AI AL).2.1) AI ((eqE (I 0) (I 1) AN AI AL).2.2)) H := hP
  have hD : va_D A (wT cs ad (Ieq I (I 0) (I 1) (eqE (I 0) (I 1) AN AI AL).1) ((eqE (I 0) (I 1) AN AI AL).2.1) AI ((eqE (I 0) (I 1) AN AI AL).2.2)) := hD
  have hle : (eqE (I 0) (I 1) AN AI AL).1 ≤ I 1 := eqE_le
  have hle2 : (eqE (I 0) (I 1) AN AI AL).1 ≤ I 0 := eqE_le2
  refine lv_aload_n hx hb dX2_rank_4 rfl (lv_at hl 0 rfl) ?_
  refine b_get (own := RX2) (C := RX2) (T := TX2) (N := 5) (ci := 2) (v := .ref (ad 2)) hx hb hts usX2 hown hK hP 0 (by decide) rfl rfl 2 (by decide) (hts _ gw_132) rfl dX2_rank_5 ?_
  refine b_getN (own := RX2) (C := RX0) (host := RX2) (T := TX0) (N := 5) (ci := 0) (v := .int (nI ((eqE (I 0) (I 1) AN AI AL).1))) hx hb hts usX0 hown hK hP 2 (by decide) rfl rfl 4 (by decide) (hN _ (by decide +kernel)) rfl dX2_rank_8 ?_
  exact g_iret hx hb hr hlocks (Ieq I (I 0) (I 1) (eqE (I 0) (I 1) AN AI AL).1, (eqE (I 0) (I 1) AN AI AL).2.1, AI, (eqE (I 0) (I 1) AN AI AL).2.2) (⟨rfl, rfl⟩) hK hP hD hS dX2_rank_11

abbrev rmX2_solutions : Room := { frames := 6, cells := 0, slots := 0, locals := 147 }
set_option maxHeartbeats 4000000 in
set_option maxRecDepth 100000 in
/-- solutions -/
theorem ctX2_solutions (l : Launch) (D : va_G) (cs : Nat → ClassId) (ad : Nat → Nat) (I : Nat → Nat) (AN : Nat → Nat → Nat) (AI : Nat → Nat → Int32) (AL : Nat → Nat → Int64) (sz : Nat)  (hn3 : I 0 ≤ 3) (he3 : I 1 ≤ 3) : Met l yX2_solutions (Cond.code yX2_solutions cX2_solutions 1 (some FieldType.int) :: GW) rmX2_solutions (va_Pc [.ref (ad 0)] (gP D cs (wT cs ad I AN AI AL) sz)) (va_Qi (fun (r : Int32) (u : TS) => u = (Ieq I (I 0) (I 1) (eqE (I 0) (I 1) AN AI AL).1, (eqE (I 0) (I 1) AN AI AL).2.1, AI, (eqE (I 0) (I 1) AN AI AL).2.2) ∧ r = if agr (I 0) (I 1) (eqE (I 0) (I 1) AN AI AL) then nI (I 0 - (eqE (I 0) (I 1) AN AI AL).1) else -1) (gB D cs (va_A (wT cs ad I AN AI AL) sz) (wTs cs ad)) (va_A (wT cs ad I AN AI AL) sz)) 0 0 (va_A (wT cs ad I AN AI AL) sz) := by
  refine Met.ofW (cc := cX2_solutions) (maxL := 1) (ret := (some FieldType.int)) (by decide) rfl ?_
  intro p e s m args below meth c s₁ B hml hv
  obtain ⟨rfl, hsz, hP, hK, hD0, hN⟩ := hv
  have hx := B.exec
  have hb := B.bytes
  have hr := B.returns
  have hts : ∀ w ∈ GW, w.before _ s = true := fun w h => atoms_spec (ws := Cond.code yX2_solutions cX2_solutions 1 (some FieldType.int) :: GW) B.pre w (List.mem_cons_of_mem _ h)
  have hown : s.vm.findClass RX2 = some m.cls := findClass_of_methodNamed B.named
  have hlocks := B.notSynchronized
  subst hsz
  have hD := hD0.self (sz := s.heap.size)
  generalize hAe : va_A (wT cs ad I AN AI AL) s.heap.size = A at hD ⊢
  have hA : ∀ q : Nat, s.heap.size ≤ q → A q := fun q h => by rw [← hAe]; exact Or.inr h
  have hS : va_S A s.heap s.heap [] := va_S.rf
  have hl := lv_entry [.ref (ad 0)] (n := 1) (Nat.le_of_ble_eq_true rfl)
  rw [lg_entry_eq]
  generalize (lg_sl [.ref (ad 0)] ++ List.replicate (1 - (lg_sl [.ref (ad 0)]).length) Slot.unset).toArray = ls at hl ⊢
  have hl : lv_has ls 1 [(0, .ref (ad 0))] := hl
  generalize hargs : ([.ref (ad 0)] : List Value).toArray = args at *
  show W p l e rmX2_solutions s m args below meth c s.heap [] 0 0 _ (F0 m 0 ls [])
  refine lv_aload_n hx hb dX2_solutions_0 rfl (lv_at hl 0 rfl) ?_
  refine g_callv (va_runV (As := []) (rest := []) ⟨hx, hb, hml, hown, hts⟩ (ctX2_eliminateEquations l D cs ad I AN AI AL _ hn3 he3) (cwV 0 hts (gi_V gw_150 gw_152 gw_0 gw_53 gw_153) rfl rfl rfl (by decide +kernel) ⟨Nat.le_of_ble_eq_true rfl, Nat.le_of_ble_eq_true rfl⟩) ⟨g_blind, va_recv hK hP (ci := 2) (q0 := 0) rfl (wm_at (by decide) rfl), g_pre hP hK hD hN⟩ rfl rfl hl.1 rfl (lv_room (Nat.le_of_ble_eq_true rfl)) dX2_solutions_1 ⟨Nat.zero_le _, Nat.zero_le _⟩) hD hS hA (fun u H locs hw hP hD hS => ?_)
  obtain rfl := hw
  have hP : va_P D vc (wT cs ad (Ieq I (I 0) (I 1) (eqE (I 0) (I 1) AN AI AL).1) ((eqE (I 0) (I 1) AN AI AL).2.1) AI ((eqE (I 0) (I 1) AN AI AL).2.2)) H := hP
  have hD : va_D A (wT cs ad (Ieq I (I 0) (I 1) (eqE (I 0) (I 1) AN AI AL).1) ((eqE (I 0) (I 1) AN AI AL).2.1) AI ((eqE (I 0) (I 1) AN AI AL).2.2)) := hD
  have hle : (eqE (I 0) (I 1) AN AI AL).1 ≤ I 1 := eqE_le
  have hle2 : (eqE (I 0) (I 1) AN AI AL).1 ≤ I 0 := eqE_le2
  refine lv_aload_n hx hb dX2_solutions_4 rfl (lv_at hl 0 rfl) ?_
  refine b_get (own := RX2) (C := RX2) (T := TX2) (N := 5) (ci := 2) (v := .ref (ad 2)) hx hb hts usX2 hown hK hP 0 (by decide) rfl rfl 2 (by decide) (hts _ gw_132) rfl dX2_solutions_5 ?_
  refine g_calli (va_runVN (C := RX0) (As := []) (rest := []) ⟨hx, hb, hml, hown, hts⟩ (ctX0_agrees l D cs ad (Ieq I (I 0) (I 1) (eqE (I 0) (I 1) AN AI AL).1) ((eqE (I 0) (I 1) AN AI AL).2.1) AI ((eqE (I 0) (I 1) AN AI AL).2.2) _ (show I 0 ≤ 4 by omega) (show I 1 ≤ 7 by omega) hle) ⟨va_cnB 0 hts (gi_C gw_197) rfl rfl rfl (hN _ (by decide +kernel) : va_Nw (Cond.methodLinkNest "TriangularSystems" 71 ⟨"TriangularSystems$Elimination", "agrees", "()Z"⟩ "TriangularSystems") s) (hts _ gw_55) (by decide +kernel) ⟨Nat.le_of_ble_eq_true rfl, Nat.le_of_ble_eq_true rfl⟩, hts _ gw_196, hts _ gw_8⟩ ⟨g_blind, va_recv hK hP (ci := 0) (q0 := 2) rfl (wm_at (by decide) rfl), g_pre hP hK hD hN⟩ rfl rfl hl.1 rfl (lv_room (Nat.le_of_ble_eq_true rfl)) dX2_solutions_8 ⟨Nat.zero_le _, Nat.zero_le _⟩) hD hS hA (fun r u H locs hw hP hD hS => ?_)
  obtain ⟨rfl, hw2⟩ := hw
  have hP : va_P D vc (wT cs ad (Ieq I (I 0) (I 1) (eqE (I 0) (I 1) AN AI AL).1) ((eqE (I 0) (I 1) AN AI AL).2.1) AI ((eqE (I 0) (I 1) AN AI AL).2.2)) H := hP
  have hD : va_D A (wT cs ad (Ieq I (I 0) (I 1) (eqE (I 0) (I 1) AN AI AL).1) ((eqE (I 0) (I 1) AN AI AL).2.1) AI ((eqE (I 0) (I 1) AN AI AL).2.2)) := hD
  have hw2 : r = bz (agr (I 0) (I 1) (eqE (I 0) (I 1) AN AI AL)) := hw2
  subst hw2
  refine lv_if_eq (tgt := 29) hx hb dX2_solutions_11 (by decide) (fun h => ?_) (fun h => ?_)
  · refine lv_iconst (v := -1) hx hb dX2_solutions_29 (by decide) ?_
    exact g_iret hx hb hr hlocks (Ieq I (I 0) (I 1) (eqE (I 0) (I 1) AN AI AL).1, (eqE (I 0) (I 1) AN AI AL).2.1, AI, (eqE (I 0) (I 1) AN AI AL).2.2) (⟨rfl, by rw [bz_1.mp h]; rfl⟩) hK hP hD hS dX2_solutions_30
  · refine lv_aload_n hx hb dX2_solutions_14 rfl (lv_at hl 0 rfl) ?_
    refine b_get (own := RX2) (C := RX2) (T := TX2) (N := 5) (ci := 2) (v := .int (nI (I 0))) hx hb hts usX2 hown hK hP 0 (by decide) rfl rfl 0 (by decide) (hts _ gw_130) rfl dX2_solutions_15 ?_
    refine lv_aload_n hx hb dX2_solutions_18 rfl (lv_at hl 0 rfl) ?_
    refine b_get (own := RX2) (C := RX2) (T := TX2) (N := 5) (ci := 2) (v := .ref (ad 2)) hx hb hts usX2 hown hK hP 0 (by decide) rfl rfl 2 (by decide) (hts _ gw_132) rfl dX2_solutions_19 ?_
    refine b_getN (own := RX2) (C := RX0) (host := RX2) (T := TX0) (N := 5) (ci := 0) (v := .int (nI ((eqE (I 0) (I 1) AN AI AL).1))) hx hb hts usX0 hown hK hP 2 (by decide) rfl rfl 4 (by decide) (hN _ (by decide +kernel)) rfl dX2_solutions_22 ?_
    refine b_subn hx hb dX2_solutions_25 (by omega) ?_
    refine lv_goto (tgt := 30) hx hb dX2_solutions_26 (by decide) ?_
    exact g_iret hx hb hr hlocks (Ieq I (I 0) (I 1) (eqE (I 0) (I 1) AN AI AL).1, (eqE (I 0) (I 1) AN AI AL).2.1, AI, (eqE (I 0) (I 1) AN AI AL).2.2) (⟨rfl, by rw [if_pos (Bool.not_eq_false _ ▸ (fun z => h (bz_1.mpr z)))]⟩) hK hP hD hS dX2_solutions_30

abbrev rmX2_free : Room := { frames := 6, cells := 0, slots := 0, locals := 147 }
set_option maxHeartbeats 4000000 in
set_option maxRecDepth 100000 in
/-- free -/
theorem ctX2_free (l : Launch) (D : va_G) (cs : Nat → ClassId) (ad : Nat → Nat) (I : Nat → Nat) (AN : Nat → Nat → Nat) (AI : Nat → Nat → Int32) (AL : Nat → Nat → Int64) (sz : Nat) (k : Int32) (hn3 : I 0 ≤ 3) (he3 : I 1 ≤ 3) (hdc : ∀ k, k < 7 → AN 5 k < 2 ^ 31) : Met l yX2_free (Cond.code yX2_free cX2_free 2 (some FieldType.int) :: GW) rmX2_free (va_Pc [.ref (ad 0), .int k] (gP D cs (wT cs ad I AN AI AL) sz)) (va_Qi (fun (r : Int32) (u : TS) => u = (Ieq I (I 0) (I 1) (eqE (I 0) (I 1) AN AI AL).1, (eqE (I 0) (I 1) AN AI AL).2.1, AI, (eqE (I 0) (I 1) AN AI AL).2.2) ∧ r = enc (fre (eqE (I 0) (I 1) AN AI AL).2.1 (eqE (I 0) (I 1) AN AI AL).1 k (I 0) 0 0)) (gB D cs (va_A (wT cs ad I AN AI AL) sz) (wTs cs ad)) (va_A (wT cs ad I AN AI AL) sz)) 0 0 (va_A (wT cs ad I AN AI AL) sz) := by
  refine Met.ofW (cc := cX2_free) (maxL := 2) (ret := (some FieldType.int)) (by decide) rfl ?_
  intro p e s m args below meth c s₁ B hml hv
  obtain ⟨rfl, hsz, hP, hK, hD0, hN⟩ := hv
  have hx := B.exec
  have hb := B.bytes
  have hr := B.returns
  have hts : ∀ w ∈ GW, w.before _ s = true := fun w h => atoms_spec (ws := Cond.code yX2_free cX2_free 2 (some FieldType.int) :: GW) B.pre w (List.mem_cons_of_mem _ h)
  have hown : s.vm.findClass RX2 = some m.cls := findClass_of_methodNamed B.named
  have hlocks := B.notSynchronized
  subst hsz
  have hD := hD0.self (sz := s.heap.size)
  generalize hAe : va_A (wT cs ad I AN AI AL) s.heap.size = A at hD ⊢
  have hA : ∀ q : Nat, s.heap.size ≤ q → A q := fun q h => by rw [← hAe]; exact Or.inr h
  have hS : va_S A s.heap s.heap [] := va_S.rf
  have hl := lv_entry [.ref (ad 0), .int k] (n := 2) (Nat.le_of_ble_eq_true rfl)
  rw [lg_entry_eq]
  generalize (lg_sl [.ref (ad 0), .int k] ++ List.replicate (2 - (lg_sl [.ref (ad 0), .int k]).length) Slot.unset).toArray = ls at hl ⊢
  have hl : lv_has ls 2 [(0, .ref (ad 0)), (1, .int k)] := hl
  generalize hargs : ([.ref (ad 0), .int k] : List Value).toArray = args at *
  show W p l e rmX2_free s m args below meth c s.heap [] 0 0 _ (F0 m 0 ls [])
  refine lv_aload_n hx hb dX2_free_0 rfl (lv_at hl 0 rfl) ?_
  refine g_callv (va_runV (As := []) (rest := []) ⟨hx, hb, hml, hown, hts⟩ (ctX2_eliminateEquations l D cs ad I AN AI AL _ hn3 he3) (cwV 0 hts (gi_V gw_150 gw_152 gw_0 gw_53 gw_153) rfl rfl rfl (by decide +kernel) ⟨Nat.le_of_ble_eq_true rfl, Nat.le_of_ble_eq_true rfl⟩) ⟨g_blind, va_recv hK hP (ci := 2) (q0 := 0) rfl (wm_at (by decide) rfl), g_pre hP hK hD hN⟩ rfl rfl hl.1 rfl (lv_room (Nat.le_of_ble_eq_true rfl)) dX2_free_1 ⟨Nat.zero_le _, Nat.zero_le _⟩) hD hS hA (fun u H locs hw hP hD hS => ?_)
  obtain rfl := hw
  have hP : va_P D vc (wT cs ad (Ieq I (I 0) (I 1) (eqE (I 0) (I 1) AN AI AL).1) ((eqE (I 0) (I 1) AN AI AL).2.1) AI ((eqE (I 0) (I 1) AN AI AL).2.2)) H := hP
  have hD : va_D A (wT cs ad (Ieq I (I 0) (I 1) (eqE (I 0) (I 1) AN AI AL).1) ((eqE (I 0) (I 1) AN AI AL).2.1) AI ((eqE (I 0) (I 1) AN AI AL).2.2)) := hD
  have hle : (eqE (I 0) (I 1) AN AI AL).1 ≤ I 1 := eqE_le
  have hle2 : (eqE (I 0) (I 1) AN AI AL).1 ≤ I 0 := eqE_le2
  refine lv_aload_n hx hb dX2_free_4 rfl (lv_at hl 0 rfl) ?_
  refine b_get (own := RX2) (C := RX2) (T := TX2) (N := 5) (ci := 2) (v := .ref (ad 2)) hx hb hts usX2 hown hK hP 0 (by decide) rfl rfl 2 (by decide) (hts _ gw_132) rfl dX2_free_5 ?_
  refine lv_iload_n hx hb dX2_free_8 rfl (lv_at hl 1 rfl) ?_
  refine g_calli (va_runVN (C := RX0) (As := [.int k]) (rest := []) ⟨hx, hb, hml, hown, hts⟩ (ctX0_freeUnknown l D cs ad (Ieq I (I 0) (I 1) (eqE (I 0) (I 1) AN AI AL).1) ((eqE (I 0) (I 1) AN AI AL).2.1) AI ((eqE (I 0) (I 1) AN AI AL).2.2) _ k (show I 0 ≤ 4 by omega) (show (eqE (I 0) (I 1) AN AI AL).1 ≤ 7 by omega) (eqE_dc hn3 hdc)) ⟨va_cnB 1 hts (gi_C gw_205) rfl rfl rfl (hN _ (by decide +kernel) : va_Nw (Cond.methodLinkNest "TriangularSystems" 75 ⟨"TriangularSystems$Elimination", "freeUnknown", "(I)I"⟩ "TriangularSystems") s) (hts _ gw_55) (by decide +kernel) ⟨Nat.le_of_ble_eq_true rfl, Nat.le_of_ble_eq_true rfl⟩, hts _ gw_204, hts _ gw_9⟩ ⟨g_blind, va_recv hK hP (ci := 0) (q0 := 2) rfl (wm_at (by decide) rfl), g_pre hP hK hD hN⟩ rfl rfl hl.1 rfl (lv_room (Nat.le_of_ble_eq_true rfl)) dX2_free_9 ⟨Nat.zero_le _, Nat.zero_le _⟩) hD hS hA (fun r u H locs hw hP hD hS => ?_)
  obtain ⟨rfl, hw2⟩ := hw
  have hP : va_P D vc (wT cs ad (Ieq I (I 0) (I 1) (eqE (I 0) (I 1) AN AI AL).1) ((eqE (I 0) (I 1) AN AI AL).2.1) AI ((eqE (I 0) (I 1) AN AI AL).2.2)) H := hP
  have hD : va_D A (wT cs ad (Ieq I (I 0) (I 1) (eqE (I 0) (I 1) AN AI AL).1) ((eqE (I 0) (I 1) AN AI AL).2.1) AI ((eqE (I 0) (I 1) AN AI AL).2.2)) := hD
  exact g_iret hx hb hr hlocks (Ieq I (I 0) (I 1) (eqE (I 0) (I 1) AN AI AL).1, (eqE (I 0) (I 1) AN AI AL).2.1, AI, (eqE (I 0) (I 1) AN AI AL).2.2) (⟨rfl, hw2⟩) hK hP hD hS dX2_free_12

theorem bz_n (b : Bool) : narrow .boolean (.int (bz b)) = .int (bz b) := by cases b <;> rfl

abbrev rmX2_whole : Room := { frames := 5, cells := 0, slots := 0, locals := 115 }
set_option maxHeartbeats 4000000 in
set_option maxRecDepth 100000 in
/-- whole -/
theorem ctX2_whole (l : Launch) (D : va_G) (cs : Nat → ClassId) (ad : Nat → Nat) (I : Nat → Nat) (AN : Nat → Nat → Nat) (AI : Nat → Nat → Int32) (AL : Nat → Nat → Int64) (sz : Nat)  (hn3 : I 0 ≤ 3) (he3 : I 1 ≤ 3) (hbg : ∀ r, r < 3 → AN 7 r < 6) : Met l yX2_whole (Cond.code yX2_whole cX2_whole 1 (some FieldType.boolean) :: GW) rmX2_whole (va_Pc [.ref (ad 0)] (gP D cs (wT cs ad I AN AI AL) sz)) (va_Qi (fun (r : Int32) (u : TS) => u = (up1 I 5 (I 0), (spL (I 0) (I 1) AN AI AL).1, AI, (spL (I 0) (I 1) AN AI AL).2) ∧ r = bz (fnd (fun k => (spL (I 0) (I 1) AN AI AL).2 21 k ≠ 0) 3 0).isNone) (gB D cs (va_A (wT cs ad I AN AI AL) sz) (wTs cs ad)) (va_A (wT cs ad I AN AI AL) sz)) 0 0 (va_A (wT cs ad I AN AI AL) sz) := by
  refine Met.ofW (cc := cX2_whole) (maxL := 1) (ret := (some FieldType.boolean)) (by decide) rfl ?_
  intro p e s m args below meth c s₁ B hml hv
  obtain ⟨rfl, hsz, hP, hK, hD0, hN⟩ := hv
  have hx := B.exec
  have hb := B.bytes
  have hr := B.returns
  have hts : ∀ w ∈ GW, w.before _ s = true := fun w h => atoms_spec (ws := Cond.code yX2_whole cX2_whole 1 (some FieldType.boolean) :: GW) B.pre w (List.mem_cons_of_mem _ h)
  have hown : s.vm.findClass RX2 = some m.cls := findClass_of_methodNamed B.named
  have hlocks := B.notSynchronized
  subst hsz
  have hD := hD0.self (sz := s.heap.size)
  generalize hAe : va_A (wT cs ad I AN AI AL) s.heap.size = A at hD ⊢
  have hA : ∀ q : Nat, s.heap.size ≤ q → A q := fun q h => by rw [← hAe]; exact Or.inr h
  have hS : va_S A s.heap s.heap [] := va_S.rf
  have hl := lv_entry [.ref (ad 0)] (n := 1) (Nat.le_of_ble_eq_true rfl)
  rw [lg_entry_eq]
  generalize (lg_sl [.ref (ad 0)] ++ List.replicate (1 - (lg_sl [.ref (ad 0)]).length) Slot.unset).toArray = ls at hl ⊢
  have hl : lv_has ls 1 [(0, .ref (ad 0))] := hl
  generalize hargs : ([.ref (ad 0)] : List Value).toArray = args at *
  show W p l e rmX2_whole s m args below meth c s.heap [] 0 0 _ (F0 m 0 ls [])
  refine lv_aload_n hx hb dX2_whole_0 rfl (lv_at hl 0 rfl) ?_
  refine g_callv (va_runV (As := []) (rest := []) ⟨hx, hb, hml, hown, hts⟩ (ctX2_spanLattice l D cs ad I AN AI AL _ hn3 he3 hbg) (cwV 0 hts (gi_V gw_214 gw_216 gw_11 gw_53 gw_217) rfl rfl rfl (by decide +kernel) ⟨Nat.le_of_ble_eq_true rfl, Nat.le_of_ble_eq_true rfl⟩) ⟨g_blind, va_recv hK hP (ci := 2) (q0 := 0) rfl (wm_at (by decide) rfl), g_pre hP hK hD hN⟩ rfl rfl hl.1 rfl (lv_room (Nat.le_of_ble_eq_true rfl)) dX2_whole_1 ⟨Nat.zero_le _, Nat.zero_le _⟩) hD hS hA (fun u H locs hw hP hD hS => ?_)
  obtain rfl := hw
  have hP : va_P D vc (wT cs ad (up1 I 5 (I 0)) ((spL (I 0) (I 1) AN AI AL).1) AI ((spL (I 0) (I 1) AN AI AL).2)) H := hP
  have hD : va_D A (wT cs ad (up1 I 5 (I 0)) ((spL (I 0) (I 1) AN AI AL).1) AI ((spL (I 0) (I 1) AN AI AL).2)) := hD
  have hbg2 : ∀ r, r < 3 → (spL (I 0) (I 1) AN AI AL).1 7 r < 6 := sp_bg hbg
  refine lv_aload_n hx hb dX2_whole_4 rfl (lv_at hl 0 rfl) ?_
  refine b_get (own := RX2) (C := RX2) (T := TX2) (N := 5) (ci := 2) (v := .ref (ad 3)) hx hb hts usX2 hown hK hP 0 (by decide) rfl rfl 3 (by decide) (hts _ gw_133) rfl dX2_whole_5 ?_
  refine g_calli (va_runVN (C := RX1) (As := []) (rest := []) ⟨hx, hb, hml, hown, hts⟩ (ctX1_isReached l D cs ad (up1 I 5 (I 0)) ((spL (I 0) (I 1) AN AI AL).1) AI ((spL (I 0) (I 1) AN AI AL).2) _ ) ⟨va_cnB 0 hts (gi_C gw_254) rfl rfl rfl (hN _ (by decide +kernel) : va_Nw (Cond.methodLinkNest "TriangularSystems" 105 ⟨"TriangularSystems$Lattice", "isReached", "()Z"⟩ "TriangularSystems") s) (hts _ gw_56) (by decide +kernel) ⟨Nat.le_of_ble_eq_true rfl, Nat.le_of_ble_eq_true rfl⟩, hts _ gw_253, hts _ gw_16⟩ ⟨g_blind, va_recv hK hP (ci := 1) (q0 := 3) rfl (wm_at (by decide) rfl), g_pre hP hK hD hN⟩ rfl rfl hl.1 rfl (lv_room (Nat.le_of_ble_eq_true rfl)) dX2_whole_8 ⟨Nat.zero_le _, Nat.zero_le _⟩) hD hS hA (fun r u H locs hw hP hD hS => ?_)
  obtain ⟨rfl, hw2⟩ := hw
  have hP : va_P D vc (wT cs ad (up1 I 5 (I 0)) ((spL (I 0) (I 1) AN AI AL).1) AI ((spL (I 0) (I 1) AN AI AL).2)) H := hP
  have hD : va_D A (wT cs ad (up1 I 5 (I 0)) ((spL (I 0) (I 1) AN AI AL).1) AI ((spL (I 0) (I 1) AN AI AL).2)) := hD
  subst hw2
  exact g_zret hx hb hr hlocks (bz_n _) (up1 I 5 (I 0), (spL (I 0) (I 1) AN AI AL).1, AI, (spL (I 0) (I 1) AN AI AL).2) (⟨rfl, rfl⟩) hK hP hD hS dX2_whole_11

abbrev rmX2_fittingFirsts : Room := { frames := 1, cells := 0, slots := 0, locals := 30 }
set_option maxHeartbeats 4000000 in
set_option maxRecDepth 100000 in
/-- fittingFirsts -/
theorem ctX2_fittingFirsts (l : Launch) (D : va_G) (cs : Nat → ClassId) (ad : Nat → Nat) (I : Nat → Nat) (AN : Nat → Nat → Nat) (AI : Nat → Nat → Int32) (AL : Nat → Nat → Int64) (sz : Nat) (y z mo : Int32) (hn3 : I 0 ≤ 3) (he3 : I 1 ≤ 3) : Met l yX2_fittingFirsts (Cond.code yX2_fittingFirsts cX2_fittingFirsts 9 (some FieldType.int) :: GW) rmX2_fittingFirsts (va_Pc [.ref (ad 0), .int y, .int z, .int mo] (gP D cs (wT cs ad I AN AI AL) sz)) (va_Qi (fun (r : Int32) (u : TS) => u = (I, AN, AI, AL) ∧ r = fitf (I 0) AI y z (I 1) 0 (-mo) mo) (gB D cs (va_A (wT cs ad I AN AI AL) sz) (wTs cs ad)) (va_A (wT cs ad I AN AI AL) sz)) 0 0 (va_A (wT cs ad I AN AI AL) sz) := by
  refine Met.ofW (cc := cX2_fittingFirsts) (maxL := 9) (ret := (some FieldType.int)) (by decide) rfl ?_
  intro p e s m args below meth c s₁ B hml hv
  obtain ⟨rfl, hsz, hP, hK, hD0, hN⟩ := hv
  have hx := B.exec
  have hb := B.bytes
  have hr := B.returns
  have hts : ∀ w ∈ GW, w.before _ s = true := fun w h => atoms_spec (ws := Cond.code yX2_fittingFirsts cX2_fittingFirsts 9 (some FieldType.int) :: GW) B.pre w (List.mem_cons_of_mem _ h)
  have hown : s.vm.findClass RX2 = some m.cls := findClass_of_methodNamed B.named
  have hlocks := B.notSynchronized
  subst hsz
  have hD := hD0.self (sz := s.heap.size)
  generalize hAe : va_A (wT cs ad I AN AI AL) s.heap.size = A at hD ⊢
  have hA : ∀ q : Nat, s.heap.size ≤ q → A q := fun q h => by rw [← hAe]; exact Or.inr h
  have hS : va_S A s.heap s.heap [] := va_S.rf
  have hl := lv_entry [.ref (ad 0), .int y, .int z, .int mo] (n := 9) (Nat.le_of_ble_eq_true rfl)
  rw [lg_entry_eq]
  generalize (lg_sl [.ref (ad 0), .int y, .int z, .int mo] ++ List.replicate (9 - (lg_sl [.ref (ad 0), .int y, .int z, .int mo]).length) Slot.unset).toArray = ls at hl ⊢
  have hl : lv_has ls 9 [(0, .ref (ad 0)), (1, .int y), (2, .int z), (3, .int mo)] := hl
  generalize hargs : ([.ref (ad 0), .int y, .int z, .int mo] : List Value).toArray = args at *
  show W p l e rmX2_fittingFirsts s m args below meth c s.heap [] 0 0 _ (F0 m 0 ls [])
  refine lv_iload_n hx hb dX2_fittingFirsts_0 rfl (lv_at hl 3 rfl) ?_
  refine lv_ineg hx hb dX2_fittingFirsts_1 ?_
  refine lv_istore (lv' := [(4, .int (-mo)), (0, .ref (ad 0)), (1, .int y), (2, .int z), (3, .int mo)]) hx hb dX2_fittingFirsts_2 hl (by decide) rfl (fun ls hl => ?_)
  refine lv_iload_n hx hb dX2_fittingFirsts_4 rfl (lv_at hl 4 rfl) ?_
  refine lv_istore (lv' := [(5, .int mo), (4, .int (-mo)), (0, .ref (ad 0)), (1, .int y), (2, .int z), (3, .int mo)]) hx hb dX2_fittingFirsts_5 hl (by decide) rfl (fun ls hl => ?_)
  refine lv_iconst (v := nI 0) hx hb dX2_fittingFirsts_7 (by decide) ?_
  refine lv_istore (lv' := [(6, .int (nI 0)), (5, .int mo), (4, .int (-mo)), (0, .ref (ad 0)), (1, .int y), (2, .int z), (3, .int mo)]) hx hb dX2_fittingFirsts_8 hl (by decide) rfl (fun ls hl => ?_)
  have lp10 : ∀ (n g : Nat) (fr tt : Int32) (H : Heap) (locs : List Loc) (ls : Array Slot), g + n = I 1 → va_P D vc (wT cs ad I AN AI AL) H → va_D A (wT cs ad I AN AI AL) → va_S A s.heap H locs → lv_has ls 9 [(6, .int (nI g)), (5, .int tt), (4, .int fr), (0, .ref (ad 0)), (1, .int y), (2, .int z), (3, .int mo)] → W p l e rmX2_fittingFirsts s m args below meth c H locs 0 0 (MQ below (va_Qi (fun (r : Int32) (u : TS) => u = (I, AN, AI, AL) ∧ r = fitf (I 0) AI y z n g fr tt) (gB D cs A (wTs cs ad)) A) args s 0 0 A) (F0 m 10 ls []) := by
    intro n
    induction n with
    | zero =>
      intro g fr tt H locs ls hn hP hD hS hl
      have hi : g = I 1 := by omega
      refine lv_iload hx hb dX2_fittingFirsts_10 (lv_at hl 0 rfl) ?_
      refine lv_aload_n hx hb dX2_fittingFirsts_12 rfl (lv_at hl 3 rfl) ?_
      refine b_get (own := RX2) (C := RX2) (T := TX2) (N := 5) (ci := 2) (v := .int (nI (I 1))) hx hb hts usX2 hown hK hP 0 (by decide) rfl rfl 4 (by decide) (hts _ gw_134) rfl dX2_fittingFirsts_13 ?_
      refine b_ge_t (tgt := 97) hx hb dX2_fittingFirsts_16 (by decide) (by omega) (by omega) ?_
      refine lv_iload hx hb dX2_fittingFirsts_97 (lv_at hl 2 rfl) ?_
      refine lv_iload hx hb dX2_fittingFirsts_99 (lv_at hl 1 rfl) ?_
      refine lv_icmp_gt (tgt := 114) hx hb dX2_fittingFirsts_101 (by decide) (fun h => ?_) (fun h => ?_)
      · refine lv_iconst (v := nI 0) hx hb dX2_fittingFirsts_114 (by decide) ?_
        exact g_iret hx hb hr hlocks (I, AN, AI, AL) (⟨rfl, by rw [fitf, if_pos h]⟩) hK hP hD hS dX2_fittingFirsts_115
      · refine lv_iload hx hb dX2_fittingFirsts_104 (lv_at hl 1 rfl) ?_
        refine lv_iload hx hb dX2_fittingFirsts_106 (lv_at hl 2 rfl) ?_
        refine lv_isub hx hb dX2_fittingFirsts_108 ?_
        refine lv_iconst (v := nI 1) hx hb dX2_fittingFirsts_109 (by decide) ?_
        refine lv_iadd hx hb dX2_fittingFirsts_110 ?_
        refine lv_goto (tgt := 115) hx hb dX2_fittingFirsts_111 (by decide) ?_
        exact g_iret hx hb hr hlocks (I, AN, AI, AL) (⟨rfl, by rw [fitf, if_neg h]⟩) hK hP hD hS dX2_fittingFirsts_115
    | succ n ih =>
      intro g fr tt H locs ls hn hP hD hS hl
      have hi : g < I 1 := by omega
      refine lv_iload hx hb dX2_fittingFirsts_10 (lv_at hl 0 rfl) ?_
      refine lv_aload_n hx hb dX2_fittingFirsts_12 rfl (lv_at hl 3 rfl) ?_
      refine b_get (own := RX2) (C := RX2) (T := TX2) (N := 5) (ci := 2) (v := .int (nI (I 1))) hx hb hts usX2 hown hK hP 0 (by decide) rfl rfl 4 (by decide) (hts _ gw_134) rfl dX2_fittingFirsts_13 ?_
      refine b_ge_f (tgt := 97) hx hb dX2_fittingFirsts_16 (by decide) (by omega) (by omega) ?_
      refine lv_aload_n hx hb dX2_fittingFirsts_19 rfl (lv_at hl 3 rfl) ?_
      refine b_get (own := RX2) (C := RX2) (T := TX2) (N := 5) (ci := 2) (v := .ref (ad 1)) hx hb hts usX2 hown hK hP 0 (by decide) rfl rfl 1 (by decide) (hts _ gw_131) rfl dX2_fittingFirsts_20 ?_
      refine lv_iload hx hb dX2_fittingFirsts_23 (lv_at hl 0 rfl) ?_
      refine tN_r hx hb hK hP (by omega) dX2_fittingFirsts_25 ?_
      refine lv_iconst (v := nI 0) hx hb dX2_fittingFirsts_26 (by decide) ?_
      refine tN_ld (i := g) hx hb hK hP (by omega) (by omega) dX2_fittingFirsts_27 ?_
      refine lv_istore (lv' := [(7, .int (AI (g + 8) 0)), (6, .int (nI g)), (5, .int tt), (4, .int fr), (0, .ref (ad 0)), (1, .int y), (2, .int z), (3, .int mo)]) hx hb dX2_fittingFirsts_28 hl (by decide) rfl (fun ls hl => ?_)
      refine lv_aload_n hx hb dX2_fittingFirsts_30 rfl (lv_at hl 4 rfl) ?_
      refine lv_iload hx hb dX2_fittingFirsts_31 (lv_at hl 1 rfl) ?_
      refine lv_lconst (v := 0) hx hb dX2_fittingFirsts_33 (by decide) ?_
      refine lv_iload_n hx hb dX2_fittingFirsts_34 rfl (lv_at hl 5 rfl) ?_
      refine lv_i2l (v := Int32.toInt64 y) hx hb dX2_fittingFirsts_35 rfl ?_
      refine lv_iload_n hx hb dX2_fittingFirsts_36 rfl (lv_at hl 6 rfl) ?_
      refine lv_i2l (v := Int32.toInt64 z) hx hb dX2_fittingFirsts_37 rfl ?_
      refine g_calll (va_runV (As := [.int (nI g), .long 0, .long (Int32.toInt64 y), .long (Int32.toInt64 z)]) (rest := []) ⟨hx, hb, hml, hown, hts⟩ (ctX2_excess l D cs ad I AN AI AL _ g 0 (Int32.toInt64 y) (Int32.toInt64 z) (by omega) hn3) (cwV 4 hts (gi_V gw_259 gw_261 gw_17 gw_53 gw_262) rfl rfl rfl (by decide +kernel) ⟨Nat.le_of_ble_eq_true rfl, Nat.le_of_ble_eq_true rfl⟩) ⟨g_blind, va_recv hK hP (ci := 2) (q0 := 0) rfl (wm_at (by decide) rfl), g_pre hP hK hD hN⟩ rfl rfl hl.1 rfl (lv_room (Nat.le_of_ble_eq_true rfl)) dX2_fittingFirsts_38 ⟨Nat.zero_le _, Nat.zero_le _⟩) hD hS hA (fun r u H locs hw hP hD hS => ?_)
      obtain ⟨rfl, rfl⟩ := hw
      have hP : va_P D vc (wT cs ad I AN AI AL) H := hP
      have hD : va_D A (wT cs ad I AN AI AL) := hD
      refine lv_lneg hx hb dX2_fittingFirsts_41 ?_
      refine lv_l2i (v := Int64.toInt32 (-(exc (I 0) AI g 0 (Int32.toInt64 y) (Int32.toInt64 z)))) hx hb dX2_fittingFirsts_42 rfl ?_
      refine lv_istore (lv' := [(8, .int (Int64.toInt32 (-(exc (I 0) AI g 0 (Int32.toInt64 y) (Int32.toInt64 z))))), (7, .int (AI (g + 8) 0)), (6, .int (nI g)), (5, .int tt), (4, .int fr), (0, .ref (ad 0)), (1, .int y), (2, .int z), (3, .int mo)]) hx hb dX2_fittingFirsts_43 hl (by decide) rfl (fun ls hl => ?_)
      refine lv_iload hx hb dX2_fittingFirsts_45 (lv_at hl 1 rfl) ?_
      refine lv_if_ne (tgt := 57) hx hb dX2_fittingFirsts_47 (by decide) (fun h1 => ?_) (fun h1 => ?_)
      · refine lv_iload hx hb dX2_fittingFirsts_57 (lv_at hl 0 rfl) ?_
        refine lv_iload hx hb dX2_fittingFirsts_59 (lv_at hl 1 rfl) ?_
        refine lv_irem hx hb dX2_fittingFirsts_61 (h1) ?_
        refine lv_if_eq (tgt := 67) hx hb dX2_fittingFirsts_62 (by decide) (fun h2 => ?_) (fun h2 => ?_)
        · refine lv_iload hx hb dX2_fittingFirsts_67 (lv_at hl 4 rfl) ?_
          refine lv_iload hx hb dX2_fittingFirsts_69 (lv_at hl 0 rfl) ?_
          refine lv_iload hx hb dX2_fittingFirsts_71 (lv_at hl 1 rfl) ?_
          refine lv_idiv hx hb dX2_fittingFirsts_73 (h1) ?_
          refine va_mmax hx hb (by rw [hml]; exact hl.1.symm) hown (hts _ gw_75) (hts _ gw_76) (hts _ gw_54) (hts _ gw_77) (Nat.le_of_ble_eq_true rfl) (Nat.le_of_ble_eq_true rfl) (Nat.zero_le _) (Nat.zero_le _) dX2_fittingFirsts_74 ?_
          refine lv_istore (lv' := [(4, .int (if fr < ((Int64.toInt32 (-(exc (I 0) AI g 0 (Int32.toInt64 y) (Int32.toInt64 z)))) / (AI (g + 8) 0)) then ((Int64.toInt32 (-(exc (I 0) AI g 0 (Int32.toInt64 y) (Int32.toInt64 z)))) / (AI (g + 8) 0)) else fr)), (8, .int (Int64.toInt32 (-(exc (I 0) AI g 0 (Int32.toInt64 y) (Int32.toInt64 z))))), (7, .int (AI (g + 8) 0)), (6, .int (nI g)), (5, .int tt), (0, .ref (ad 0)), (1, .int y), (2, .int z), (3, .int mo)]) hx hb dX2_fittingFirsts_77 hl (by decide) rfl (fun ls hl => ?_)
          refine lv_iload hx hb dX2_fittingFirsts_79 (lv_at hl 4 rfl) ?_
          refine lv_iload hx hb dX2_fittingFirsts_81 (lv_at hl 1 rfl) ?_
          refine lv_iload hx hb dX2_fittingFirsts_83 (lv_at hl 2 rfl) ?_
          refine lv_idiv hx hb dX2_fittingFirsts_85 (h1) ?_
          refine va_mmin hx hb (by rw [hml]; exact hl.1.symm) hown (hts _ gw_72) (hts _ gw_73) (hts _ gw_54) (hts _ gw_74) (Nat.le_of_ble_eq_true rfl) (Nat.le_of_ble_eq_true rfl) (Nat.zero_le _) (Nat.zero_le _) dX2_fittingFirsts_86 ?_
          refine lv_istore (lv' := [(5, .int (if ((Int64.toInt32 (-(exc (I 0) AI g 0 (Int32.toInt64 y) (Int32.toInt64 z)))) / (AI (g + 8) 0)) < tt then ((Int64.toInt32 (-(exc (I 0) AI g 0 (Int32.toInt64 y) (Int32.toInt64 z)))) / (AI (g + 8) 0)) else tt)), (4, .int (if fr < ((Int64.toInt32 (-(exc (I 0) AI g 0 (Int32.toInt64 y) (Int32.toInt64 z)))) / (AI (g + 8) 0)) then ((Int64.toInt32 (-(exc (I 0) AI g 0 (Int32.toInt64 y) (Int32.toInt64 z)))) / (AI (g + 8) 0)) else fr)), (8, .int (Int64.toInt32 (-(exc (I 0) AI g 0 (Int32.toInt64 y) (Int32.toInt64 z))))), (7, .int (AI (g + 8) 0)), (6, .int (nI g)), (0, .ref (ad 0)), (1, .int y), (2, .int z), (3, .int mo)]) hx hb dX2_fittingFirsts_89 hl (by decide) rfl (fun ls hl => ?_)
          refine b_iinc (lv' := [(6, .int (nI (g + 1))), (5, .int (if ((Int64.toInt32 (-(exc (I 0) AI g 0 (Int32.toInt64 y) (Int32.toInt64 z)))) / (AI (g + 8) 0)) < tt then ((Int64.toInt32 (-(exc (I 0) AI g 0 (Int32.toInt64 y) (Int32.toInt64 z)))) / (AI (g + 8) 0)) else tt)), (4, .int (if fr < ((Int64.toInt32 (-(exc (I 0) AI g 0 (Int32.toInt64 y) (Int32.toInt64 z)))) / (AI (g + 8) 0)) then ((Int64.toInt32 (-(exc (I 0) AI g 0 (Int32.toInt64 y) (Int32.toInt64 z)))) / (AI (g + 8) 0)) else fr)), (8, .int (Int64.toInt32 (-(exc (I 0) AI g 0 (Int32.toInt64 y) (Int32.toInt64 z))))), (7, .int (AI (g + 8) 0)), (0, .ref (ad 0)), (1, .int y), (2, .int z), (3, .int mo)]) hx hb dX2_fittingFirsts_91 hl (k := 4) rfl (by decide) rfl (fun ls hl => ?_)
          refine lv_goto (tgt := 10) hx hb dX2_fittingFirsts_94 (by decide) ?_
          rw [show fitf (I 0) AI y z (n + 1) g fr tt = fitf (I 0) AI y z n (g + 1) (if fr < ((Int64.toInt32 (-(exc (I 0) AI g 0 (Int32.toInt64 y) (Int32.toInt64 z)))) / (AI (g + 8) 0)) then ((Int64.toInt32 (-(exc (I 0) AI g 0 (Int32.toInt64 y) (Int32.toInt64 z)))) / (AI (g + 8) 0)) else fr) (if ((Int64.toInt32 (-(exc (I 0) AI g 0 (Int32.toInt64 y) (Int32.toInt64 z)))) / (AI (g + 8) 0)) < tt then ((Int64.toInt32 (-(exc (I 0) AI g 0 (Int32.toInt64 y) (Int32.toInt64 z)))) / (AI (g + 8) 0)) else tt) from (if_neg h1).trans (if_pos h2)]
          exact ih (g + 1) _ _ H locs ls (by omega) hP hD hS (lv_sub hl [0, 1, 2, 5, 6, 7, 8] rfl)
        · refine lv_iconst (v := nI 0) hx hb dX2_fittingFirsts_65 (by decide) ?_
          exact g_iret hx hb hr hlocks (I, AN, AI, AL) (⟨rfl, ((if_neg h1).trans (if_neg h2)).symm⟩) hK hP hD hS dX2_fittingFirsts_66
      · refine lv_iload hx hb dX2_fittingFirsts_50 (lv_at hl 0 rfl) ?_
        refine lv_if_eq (tgt := 91) hx hb dX2_fittingFirsts_52 (by decide) (fun h2 => ?_) (fun h2 => ?_)
        · refine b_iinc (lv' := [(6, .int (nI (g + 1))), (8, .int (Int64.toInt32 (-(exc (I 0) AI g 0 (Int32.toInt64 y) (Int32.toInt64 z))))), (7, .int (AI (g + 8) 0)), (5, .int tt), (4, .int fr), (0, .ref (ad 0)), (1, .int y), (2, .int z), (3, .int mo)]) hx hb dX2_fittingFirsts_91 hl (k := 2) rfl (by decide) rfl (fun ls hl => ?_)
          refine lv_goto (tgt := 10) hx hb dX2_fittingFirsts_94 (by decide) ?_
          rw [show fitf (I 0) AI y z (n + 1) g fr tt = fitf (I 0) AI y z n (g + 1) fr tt from (if_pos h1).trans (if_pos h2)]
          exact ih (g + 1) _ _ H locs ls (by omega) hP hD hS (lv_sub hl [0, 3, 4, 5, 6, 7, 8] rfl)
        · refine lv_iconst (v := nI 0) hx hb dX2_fittingFirsts_55 (by decide) ?_
          exact g_iret hx hb hr hlocks (I, AN, AI, AL) (⟨rfl, ((if_pos h1).trans (if_neg h2)).symm⟩) hK hP hD hS dX2_fittingFirsts_56
  exact lp10 ((I 1) - 0) 0 (-mo) mo _ _ ls (by omega) hP hD hS (lv_sub hl [0, 1, 2, 3, 4, 5, 6] rfl)

abbrev rmX2_eliminateNearest : Room := { frames := 5, cells := 0, slots := 0, locals := 125 }
set_option maxHeartbeats 4000000 in
set_option maxRecDepth 100000 in
/-- eliminateNearest -/
theorem ctX2_eliminateNearest (l : Launch) (D : va_G) (cs : Nat → ClassId) (ad : Nat → Nat) (I : Nat → Nat) (AN : Nat → Nat → Nat) (AI : Nat → Nat → Int32) (AL : Nat → Nat → Int64) (sz : Nat)  (hn3 : I 0 ≤ 3) (he3 : I 1 ≤ 3) (hbg : ∀ r, r < 3 → AN 7 r < 6) : Met l yX2_eliminateNearest (Cond.code yX2_eliminateNearest cX2_eliminateNearest 4 none :: GW) rmX2_eliminateNearest (va_Pc [.ref (ad 0)] (gP D cs (wT cs ad I AN AI AL) sz)) (va_Qv (fun u : TS => u = (Ieq (up1 I 5 (I 0)) (I 0 + 1) (I 0 + 1 + mbs (spL (I 0) (I 1) AN AI AL).1 (I 0)) (neE (I 0) (I 1) AN AI AL).1, (neE (I 0) (I 1) AN AI AL).2.1, AI, (neE (I 0) (I 1) AN AI AL).2.2)) (gB D cs (va_A (wT cs ad I AN AI AL) sz) (wTs cs ad)) (va_A (wT cs ad I AN AI AL) sz)) 0 0 (va_A (wT cs ad I AN AI AL) sz) := by
  refine Met.ofW (cc := cX2_eliminateNearest) (maxL := 4) (ret := none) (by decide) rfl ?_
  intro p e s m args below meth c s₁ B hml hv
  obtain ⟨rfl, hsz, hP, hK, hD0, hN⟩ := hv
  have hx := B.exec
  have hb := B.bytes
  have hr := B.returns
  have hts : ∀ w ∈ GW, w.before _ s = true := fun w h => atoms_spec (ws := Cond.code yX2_eliminateNearest cX2_eliminateNearest 4 none :: GW) B.pre w (List.mem_cons_of_mem _ h)
  have hown : s.vm.findClass RX2 = some m.cls := findClass_of_methodNamed B.named
  have hlocks := B.notSynchronized
  subst hsz
  have hD := hD0.self (sz := s.heap.size)
  generalize hAe : va_A (wT cs ad I AN AI AL) s.heap.size = A at hD ⊢
  have hA : ∀ q : Nat, s.heap.size ≤ q → A q := fun q h => by rw [← hAe]; exact Or.inr h
  have hS : va_S A s.heap s.heap [] := va_S.rf
  have hl := lv_entry [.ref (ad 0)] (n := 4) (Nat.le_of_ble_eq_true rfl)
  rw [lg_entry_eq]
  generalize (lg_sl [.ref (ad 0)] ++ List.replicate (4 - (lg_sl [.ref (ad 0)]).length) Slot.unset).toArray = ls at hl ⊢
  have hl : lv_has ls 4 [(0, .ref (ad 0))] := hl
  generalize hargs : ([.ref (ad 0)] : List Value).toArray = args at *
  show W p l e rmX2_eliminateNearest s m args below meth c s.heap [] 0 0 _ (F0 m 0 ls [])
  refine lv_aload_n hx hb dX2_eliminateNearest_0 rfl (lv_at hl 0 rfl) ?_
  refine g_callv (va_runV (As := []) (rest := []) ⟨hx, hb, hml, hown, hts⟩ (ctX2_spanLattice l D cs ad I AN AI AL _ hn3 he3 hbg) (cwV 0 hts (gi_V gw_214 gw_216 gw_11 gw_53 gw_217) rfl rfl rfl (by decide +kernel) ⟨Nat.le_of_ble_eq_true rfl, Nat.le_of_ble_eq_true rfl⟩) ⟨g_blind, va_recv hK hP (ci := 2) (q0 := 0) rfl (wm_at (by decide) rfl), g_pre hP hK hD hN⟩ rfl rfl hl.1 rfl (lv_room (Nat.le_of_ble_eq_true rfl)) dX2_eliminateNearest_1 ⟨Nat.zero_le _, Nat.zero_le _⟩) hD hS hA (fun u H locs hw hP hD hS => ?_)
  obtain rfl := hw
  have hP : va_P D vc (wT cs ad (up1 I 5 (I 0)) ((spL (I 0) (I 1) AN AI AL).1) AI ((spL (I 0) (I 1) AN AI AL).2)) H := hP
  have hD : va_D A (wT cs ad (up1 I 5 (I 0)) ((spL (I 0) (I 1) AN AI AL).1) AI ((spL (I 0) (I 1) AN AI AL).2)) := hD
  have hbg2 : ∀ r, r < 3 → (spL (I 0) (I 1) AN AI AL).1 7 r < 6 := sp_bg hbg
  refine lv_aload_n hx hb dX2_eliminateNearest_4 rfl (lv_at hl 0 rfl) ?_
  refine b_get (own := RX2) (C := RX2) (T := TX2) (N := 5) (ci := 2) (v := .ref (ad 3)) hx hb hts usX2 hown hK hP 0 (by decide) rfl rfl 3 (by decide) (hts _ gw_133) rfl dX2_eliminateNearest_5 ?_
  refine g_calli (va_runVN (C := RX1) (As := []) (rest := []) ⟨hx, hb, hml, hown, hts⟩ (ctX1_members l D cs ad (up1 I 5 (I 0)) ((spL (I 0) (I 1) AN AI AL).1) AI ((spL (I 0) (I 1) AN AI AL).2) _ (show I 0 ≤ 3 from hn3) hbg2) ⟨va_cnB 0 hts (gi_C gw_449) rfl rfl rfl (hN _ (by decide +kernel) : va_Nw (Cond.methodLinkNest "TriangularSystems" 108 ⟨"TriangularSystems$Lattice", "members", "()I"⟩ "TriangularSystems") s) (hts _ gw_56) (by decide +kernel) ⟨Nat.le_of_ble_eq_true rfl, Nat.le_of_ble_eq_true rfl⟩, hts _ gw_448, hts _ gw_23⟩ ⟨g_blind, va_recv hK hP (ci := 1) (q0 := 3) rfl (wm_at (by decide) rfl), g_pre hP hK hD hN⟩ rfl rfl hl.1 rfl (lv_room (Nat.le_of_ble_eq_true rfl)) dX2_eliminateNearest_8 ⟨Nat.zero_le _, Nat.zero_le _⟩) hD hS hA (fun r u H locs hw hP hD hS => ?_)
  obtain ⟨rfl, hw2⟩ := hw
  have hP : va_P D vc (wT cs ad (up1 I 5 (I 0)) ((spL (I 0) (I 1) AN AI AL).1) AI ((spL (I 0) (I 1) AN AI AL).2)) H := hP
  have hD : va_D A (wT cs ad (up1 I 5 (I 0)) ((spL (I 0) (I 1) AN AI AL).1) AI ((spL (I 0) (I 1) AN AI AL).2)) := hD
  have hw2 : r = nI (mbs (spL (I 0) (I 1) AN AI AL).1 (I 0)) := hw2
  subst hw2
  have hmb : mbs (spL (I 0) (I 1) AN AI AL).1 (I 0) ≤ 0 + I 0 := mbs_le (AN := (spL (I 0) (I 1) AN AI AL).1) (I 0) 0 0
  obtain ⟨mb, hmbe⟩ : ∃ mb, mb = mbs (spL (I 0) (I 1) AN AI AL).1 (I 0) := ⟨_, rfl⟩
  rw [← hmbe] at hmb ⊢
  obtain ⟨AN9, AL9, hS9⟩ : ∃ AN9 AL9, (spL (I 0) (I 1) AN AI AL) = (AN9, AL9) := ⟨_, _, rfl⟩
  have hP : va_P D vc (wT cs ad (up1 I 5 (I 0)) AN9 AI AL9) H := by rw [hS9] at hP; exact hP
  have hD : va_D A (wT cs ad (up1 I 5 (I 0)) AN9 AI AL9) := by rw [hS9] at hD; exact hD
  rw [hS9] at hbg2 hmbe
  refine lv_istore_n (lv' := [(1, .int (nI mb)), (0, .ref (ad 0))]) hx hb dX2_eliminateNearest_11 rfl hl (by decide) rfl (fun ls hl => ?_)
  refine lv_aload_n hx hb dX2_eliminateNearest_12 rfl (lv_at hl 1 rfl) ?_
  refine b_get (own := RX2) (C := RX2) (T := TX2) (N := 5) (ci := 2) (v := .ref (ad 2)) hx hb hts usX2 hown hK hP 0 (by decide) rfl rfl 2 (by decide) (hts _ gw_132) rfl dX2_eliminateNearest_13 ?_
  refine lv_aload_n hx hb dX2_eliminateNearest_16 rfl (lv_at hl 1 rfl) ?_
  refine b_get (own := RX2) (C := RX2) (T := TX2) (N := 5) (ci := 2) (v := .int (nI (I 0))) hx hb hts usX2 hown hK hP 0 (by decide) rfl rfl 0 (by decide) (hts _ gw_130) rfl dX2_eliminateNearest_17 ?_
  refine lv_iconst (v := nI 1) hx hb dX2_eliminateNearest_20 (by decide) ?_
  refine b_addn hx hb dX2_eliminateNearest_21 ?_
  refine lv_aload_n hx hb dX2_eliminateNearest_22 rfl (lv_at hl 1 rfl) ?_
  refine b_get (own := RX2) (C := RX2) (T := TX2) (N := 5) (ci := 2) (v := .int (nI (I 0))) hx hb hts usX2 hown hK hP 0 (by decide) rfl rfl 0 (by decide) (hts _ gw_130) rfl dX2_eliminateNearest_23 ?_
  refine lv_iconst (v := nI 1) hx hb dX2_eliminateNearest_26 (by decide) ?_
  refine b_addn hx hb dX2_eliminateNearest_27 ?_
  refine lv_iload_n hx hb dX2_eliminateNearest_28 rfl (lv_at hl 0 rfl) ?_
  refine b_addn hx hb dX2_eliminateNearest_29 ?_
  refine g_callv (va_runVN (C := RX0) (As := [.int (nI ((I 0) + 1)), .int (nI (((I 0) + 1) + mb))]) (rest := []) ⟨hx, hb, hml, hown, hts⟩ (ctX0_begin l D cs ad (up1 I 5 (I 0)) AN9 AI AL9 _ (I 0 + 1) (I 0 + 1 + mb) (by omega) (by omega)) ⟨va_cnB 2 hts (gi_C gw_157) rfl rfl rfl (hN _ (by decide +kernel) : va_Nw (Cond.methodLinkNest "TriangularSystems" 136 ⟨"TriangularSystems$Elimination", "begin", "(II)V"⟩ "TriangularSystems") s) (hts _ gw_55) (by decide +kernel) ⟨Nat.le_of_ble_eq_true rfl, Nat.le_of_ble_eq_true rfl⟩, hts _ gw_156, hts _ gw_1⟩ ⟨g_blind, va_recv hK hP (ci := 0) (q0 := 2) rfl (wm_at (by decide) rfl), g_pre hP hK hD hN⟩ rfl rfl hl.1 rfl (lv_room (Nat.le_of_ble_eq_true rfl)) dX2_eliminateNearest_30 ⟨Nat.zero_le _, Nat.zero_le _⟩) hD hS hA (fun u H locs hw hP hD hS => ?_)
  obtain rfl := hw
  have hP : va_P D vc (wT cs ad (up1 (up1 (up1 (up1 I 5 (I 0)) 2 (I 0 + 1)) 3 (I 0 + 1 + mb)) 4 0) AN9 AI (zer (I 0 + 1) (I 0 + 1 + mb) AL9)) H := hP
  have hD : va_D A (wT cs ad (up1 (up1 (up1 (up1 I 5 (I 0)) 2 (I 0 + 1)) 3 (I 0 + 1 + mb)) 4 0) AN9 AI (zer (I 0 + 1) (I 0 + 1 + mb) AL9)) := hD
  refine lv_iconst (v := nI 0) hx hb dX2_eliminateNearest_33 (by decide) ?_
  refine lv_istore_n (lv' := [(2, .int (nI 0)), (1, .int (nI mb)), (0, .ref (ad 0))]) hx hb dX2_eliminateNearest_34 rfl hl (by decide) rfl (fun ls hl => ?_)
  have lp35 : ∀ (Q : State → Prop) (n i : Nat) (X : Nat → Nat → Int64) (H : Heap) (locs : List Loc) (ls : Array Slot), i + n = I 0 + 1 → va_P D vc (wT cs ad (up1 (up1 (up1 (up1 I 5 (I 0)) 2 (I 0 + 1)) 3 (I 0 + 1 + mb)) 4 0) AN9 AI X) H → va_D A (wT cs ad (up1 (up1 (up1 (up1 I 5 (I 0)) 2 (I 0 + 1)) 3 (I 0 + 1 + mb)) 4 0) AN9 AI X) → va_S A s.heap H locs → lv_has ls 4 [(2, .int (nI i)), (1, .int (nI mb)), (0, .ref (ad 0))] → (∀ (H : Heap) (locs : List Loc) (ls : Array Slot), va_P D vc (wT cs ad (up1 (up1 (up1 (up1 I 5 (I 0)) 2 (I 0 + 1)) 3 (I 0 + 1 + mb)) 4 0) AN9 AI (fo (fun i X => up2 (up2 (fo (fun j Y => up2 Y (i + 11) j (cpr (I 1) AI i j)) (I 0) 0 X) (i + 11) (I 0) (if i = I 0 then 1 else 0)) (i + 11) (I 0 + 1) (cpr (I 1) AI i (I 0))) n i X)) H → va_D A (wT cs ad (up1 (up1 (up1 (up1 I 5 (I 0)) 2 (I 0 + 1)) 3 (I 0 + 1 + mb)) 4 0) AN9 AI (fo (fun i X => up2 (up2 (fo (fun j Y => up2 Y (i + 11) j (cpr (I 1) AI i j)) (I 0) 0 X) (i + 11) (I 0) (if i = I 0 then 1 else 0)) (i + 11) (I 0 + 1) (cpr (I 1) AI i (I 0))) n i X)) → va_S A s.heap H locs → lv_has ls 4 [(2, .int (nI (I 0 + 1))), (1, .int (nI mb)), (0, .ref (ad 0))] → W p l e rmX2_eliminateNearest s m args below meth c H locs 0 0 Q (F0 m 134 ls [])) → W p l e rmX2_eliminateNearest s m args below meth c H locs 0 0 Q (F0 m 35 ls []) := by
    intro Q n
    induction n with
    | zero =>
      intro i X H locs ls hn hP hD hS hl kx
      have hi : i = I 0 + 1 := by omega
      refine lv_iload_n hx hb dX2_eliminateNearest_35 rfl (lv_at hl 0 rfl) ?_
      refine lv_aload_n hx hb dX2_eliminateNearest_36 rfl (lv_at hl 2 rfl) ?_
      refine b_get (own := RX2) (C := RX2) (T := TX2) (N := 5) (ci := 2) (v := .int (nI (I 0))) hx hb hts usX2 hown hK hP 0 (by decide) rfl rfl 0 (by decide) (hts _ gw_130) rfl dX2_eliminateNearest_37 ?_
      refine b_gt_t (tgt := 134) hx hb dX2_eliminateNearest_40 (by decide) (by omega) (by omega) ?_
      rw [hi] at hl
      exact kx H locs ls hP hD hS (lv_sub hl [0, 1, 2] rfl)
    | succ n ih =>
      intro i X H locs ls hn hP hD hS hl kx
      have hi : i < I 0 + 1 := by omega
      refine lv_iload_n hx hb dX2_eliminateNearest_35 rfl (lv_at hl 0 rfl) ?_
      refine lv_aload_n hx hb dX2_eliminateNearest_36 rfl (lv_at hl 2 rfl) ?_
      refine b_get (own := RX2) (C := RX2) (T := TX2) (N := 5) (ci := 2) (v := .int (nI (I 0))) hx hb hts usX2 hown hK hP 0 (by decide) rfl rfl 0 (by decide) (hts _ gw_130) rfl dX2_eliminateNearest_37 ?_
      refine b_gt_f (tgt := 134) hx hb dX2_eliminateNearest_40 (by decide) (by omega) (by omega) ?_
      refine lv_iconst (v := nI 0) hx hb dX2_eliminateNearest_43 (by decide) ?_
      refine lv_istore_n (lv' := [(3, .int (nI 0)), (2, .int (nI i)), (1, .int (nI mb)), (0, .ref (ad 0))]) hx hb dX2_eliminateNearest_44 rfl hl (by decide) rfl (fun ls hl => ?_)
      have lp45 : ∀ (Q : State → Prop) (n j : Nat) (Y : Nat → Nat → Int64) (H : Heap) (locs : List Loc) (ls : Array Slot), j + n = I 0 → va_P D vc (wT cs ad (up1 (up1 (up1 (up1 I 5 (I 0)) 2 (I 0 + 1)) 3 (I 0 + 1 + mb)) 4 0) AN9 AI Y) H → va_D A (wT cs ad (up1 (up1 (up1 (up1 I 5 (I 0)) 2 (I 0 + 1)) 3 (I 0 + 1 + mb)) 4 0) AN9 AI Y) → va_S A s.heap H locs → lv_has ls 4 [(3, .int (nI j)), (2, .int (nI i)), (1, .int (nI mb)), (0, .ref (ad 0))] → (∀ (H : Heap) (locs : List Loc) (ls : Array Slot), va_P D vc (wT cs ad (up1 (up1 (up1 (up1 I 5 (I 0)) 2 (I 0 + 1)) 3 (I 0 + 1 + mb)) 4 0) AN9 AI (fo (fun j Y => up2 Y (i + 11) j (cpr (I 1) AI i j)) n j Y)) H → va_D A (wT cs ad (up1 (up1 (up1 (up1 I 5 (I 0)) 2 (I 0 + 1)) 3 (I 0 + 1 + mb)) 4 0) AN9 AI (fo (fun j Y => up2 Y (i + 11) j (cpr (I 1) AI i j)) n j Y)) → va_S A s.heap H locs → lv_has ls 4 [(3, .int (nI (I 0))), (2, .int (nI i)), (1, .int (nI mb)), (0, .ref (ad 0))] → W p l e rmX2_eliminateNearest s m args below meth c H locs 0 0 Q (F0 m 76 ls [])) → W p l e rmX2_eliminateNearest s m args below meth c H locs 0 0 Q (F0 m 45 ls []) := by
        intro Q n
        induction n with
        | zero =>
          intro j Y H locs ls hn hP hD hS hl kx
          have hi : j = I 0 := by omega
          refine lv_iload_n hx hb dX2_eliminateNearest_45 rfl (lv_at hl 0 rfl) ?_
          refine lv_aload_n hx hb dX2_eliminateNearest_46 rfl (lv_at hl 3 rfl) ?_
          refine b_get (own := RX2) (C := RX2) (T := TX2) (N := 5) (ci := 2) (v := .int (nI (I 0))) hx hb hts usX2 hown hK hP 0 (by decide) rfl rfl 0 (by decide) (hts _ gw_130) rfl dX2_eliminateNearest_47 ?_
          refine b_ge_t (tgt := 76) hx hb dX2_eliminateNearest_50 (by decide) (by omega) (by omega) ?_
          rw [hi] at hl
          exact kx H locs ls hP hD hS (lv_sub hl [0, 1, 2, 3] rfl)
        | succ n ih =>
          intro j Y H locs ls hn hP hD hS hl kx
          have hi : j < I 0 := by omega
          refine lv_iload_n hx hb dX2_eliminateNearest_45 rfl (lv_at hl 0 rfl) ?_
          refine lv_aload_n hx hb dX2_eliminateNearest_46 rfl (lv_at hl 3 rfl) ?_
          refine b_get (own := RX2) (C := RX2) (T := TX2) (N := 5) (ci := 2) (v := .int (nI (I 0))) hx hb hts usX2 hown hK hP 0 (by decide) rfl rfl 0 (by decide) (hts _ gw_130) rfl dX2_eliminateNearest_47 ?_
          refine b_ge_f (tgt := 76) hx hb dX2_eliminateNearest_50 (by decide) (by omega) (by omega) ?_
          refine lv_aload_n hx hb dX2_eliminateNearest_53 rfl (lv_at hl 3 rfl) ?_
          refine b_get (own := RX2) (C := RX2) (T := TX2) (N := 5) (ci := 2) (v := .ref (ad 2)) hx hb hts usX2 hown hK hP 0 (by decide) rfl rfl 2 (by decide) (hts _ gw_132) rfl dX2_eliminateNearest_54 ?_
          refine b_getN (own := RX2) (C := RX0) (host := RX2) (T := TX0) (N := 5) (ci := 0) (v := .ref (ad 4)) hx hb hts usX0 hown hK hP 2 (by decide) rfl rfl 0 (by decide) (hN _ (by decide +kernel)) rfl dX2_eliminateNearest_57 ?_
          refine lv_iload_n hx hb dX2_eliminateNearest_60 rfl (lv_at hl 1 rfl) ?_
          refine tE_r hx hb hK hP (by omega) dX2_eliminateNearest_61 ?_
          refine lv_iload_n hx hb dX2_eliminateNearest_62 rfl (lv_at hl 0 rfl) ?_
          refine lv_aload_n hx hb dX2_eliminateNearest_63 rfl (lv_at hl 3 rfl) ?_
          refine lv_iload_n hx hb dX2_eliminateNearest_64 rfl (lv_at hl 1 rfl) ?_
          refine lv_iload_n hx hb dX2_eliminateNearest_65 rfl (lv_at hl 0 rfl) ?_
          refine g_calll (va_runV (As := [.int (nI i), .int (nI j)]) (rest := [.int (nI j), .ref (ad (i + 11))]) ⟨hx, hb, hml, hown, hts⟩ (ctX2_columnProduct l D cs ad (up1 (up1 (up1 (up1 I 5 (I 0)) 2 (I 0 + 1)) 3 (I 0 + 1 + mb)) 4 0) AN9 AI Y _ i j he3 (by omega) (by omega)) (cwV 2 hts (gi_V gw_475 gw_477 gw_26 gw_53 gw_478) rfl rfl rfl (by decide +kernel) ⟨Nat.le_of_ble_eq_true rfl, Nat.le_of_ble_eq_true rfl⟩) ⟨g_blind, va_recv hK hP (ci := 2) (q0 := 0) rfl (wm_at (by decide) rfl), g_pre hP hK hD hN⟩ rfl rfl hl.1 rfl (lv_room (Nat.le_of_ble_eq_true rfl)) dX2_eliminateNearest_66 ⟨Nat.zero_le _, Nat.zero_le _⟩) hD hS hA (fun r u H locs hw hP hD hS => ?_)
          obtain ⟨rfl, rfl⟩ := hw
          have hP : va_P D vc (wT cs ad (up1 (up1 (up1 (up1 I 5 (I 0)) 2 (I 0 + 1)) 3 (I 0 + 1 + mb)) 4 0) AN9 AI Y) H := hP
          have hD : va_D A (wT cs ad (up1 (up1 (up1 (up1 I 5 (I 0)) 2 (I 0 + 1)) 3 (I 0 + 1 + mb)) 4 0) AN9 AI Y) := hD
          refine tE_st (i := i) hx hb hK hP hD hS (by omega) (by omega) dX2_eliminateNearest_69 (fun H locs hP hD hS => ?_)
          refine b_iinc (lv' := [(3, .int (nI (j + 1))), (2, .int (nI i)), (1, .int (nI mb)), (0, .ref (ad 0))]) hx hb dX2_eliminateNearest_70 hl (k := 0) rfl (by decide) rfl (fun ls hl => ?_)
          refine lv_goto (tgt := 45) hx hb dX2_eliminateNearest_73 (by decide) ?_
          exact ih (j + 1) _ H locs ls (by omega) hP hD hS (lv_sub hl [0, 1, 2, 3] rfl) kx
      refine lp45 _ (I 0) 0 X _ _ ls (by omega) hP hD hS (lv_sub hl [0, 1, 2, 3] rfl) (fun H locs ls hP hD hS hl => ?_)
      refine lv_aload_n hx hb dX2_eliminateNearest_76 rfl (lv_at hl 3 rfl) ?_
      refine b_get (own := RX2) (C := RX2) (T := TX2) (N := 5) (ci := 2) (v := .ref (ad 2)) hx hb hts usX2 hown hK hP 0 (by decide) rfl rfl 2 (by decide) (hts _ gw_132) rfl dX2_eliminateNearest_77 ?_
      refine b_getN (own := RX2) (C := RX0) (host := RX2) (T := TX0) (N := 5) (ci := 0) (v := .ref (ad 4)) hx hb hts usX0 hown hK hP 2 (by decide) rfl rfl 0 (by decide) (hN _ (by decide +kernel)) rfl dX2_eliminateNearest_80 ?_
      refine lv_iload_n hx hb dX2_eliminateNearest_83 rfl (lv_at hl 1 rfl) ?_
      refine tE_r hx hb hK hP (by omega) dX2_eliminateNearest_84 ?_
      refine lv_aload_n hx hb dX2_eliminateNearest_85 rfl (lv_at hl 3 rfl) ?_
      refine b_get (own := RX2) (C := RX2) (T := TX2) (N := 5) (ci := 2) (v := .int (nI (I 0))) hx hb hts usX2 hown hK hP 0 (by decide) rfl rfl 0 (by decide) (hts _ gw_130) rfl dX2_eliminateNearest_86 ?_
      refine lv_iload_n hx hb dX2_eliminateNearest_89 rfl (lv_at hl 1 rfl) ?_
      refine lv_aload_n hx hb dX2_eliminateNearest_90 rfl (lv_at hl 3 rfl) ?_
      refine b_get (own := RX2) (C := RX2) (T := TX2) (N := 5) (ci := 2) (v := .int (nI (I 0))) hx hb hts usX2 hown hK hP 0 (by decide) rfl rfl 0 (by decide) (hts _ gw_130) rfl dX2_eliminateNearest_91 ?_
      by_cases hin : i = I 0
      · refine b_ne_f (tgt := 101) hx hb dX2_eliminateNearest_94 (by decide) (hin)  ?_
        refine lv_lconst (v := 1) hx hb dX2_eliminateNearest_97 (by decide) ?_
        refine lv_goto (tgt := 102) hx hb dX2_eliminateNearest_98 (by decide) ?_
        refine tE_st (i := i) hx hb hK hP hD hS (by omega) (by omega) dX2_eliminateNearest_102 (fun H locs hP hD hS => ?_)
        rw [show (1 : Int64) = (if i = I 0 then 1 else 0) from (if_pos hin).symm] at hP hD
        refine lv_aload_n hx hb dX2_eliminateNearest_103 rfl (lv_at hl 3 rfl) ?_
        refine b_get (own := RX2) (C := RX2) (T := TX2) (N := 5) (ci := 2) (v := .ref (ad 2)) hx hb hts usX2 hown hK hP 0 (by decide) rfl rfl 2 (by decide) (hts _ gw_132) rfl dX2_eliminateNearest_104 ?_
        refine b_getN (own := RX2) (C := RX0) (host := RX2) (T := TX0) (N := 5) (ci := 0) (v := .ref (ad 4)) hx hb hts usX0 hown hK hP 2 (by decide) rfl rfl 0 (by decide) (hN _ (by decide +kernel)) rfl dX2_eliminateNearest_107 ?_
        refine lv_iload_n hx hb dX2_eliminateNearest_110 rfl (lv_at hl 1 rfl) ?_
        refine tE_r hx hb hK hP (by omega) dX2_eliminateNearest_111 ?_
        refine lv_aload_n hx hb dX2_eliminateNearest_112 rfl (lv_at hl 3 rfl) ?_
        refine b_get (own := RX2) (C := RX2) (T := TX2) (N := 5) (ci := 2) (v := .int (nI (I 0))) hx hb hts usX2 hown hK hP 0 (by decide) rfl rfl 0 (by decide) (hts _ gw_130) rfl dX2_eliminateNearest_113 ?_
        refine lv_iconst (v := nI 1) hx hb dX2_eliminateNearest_116 (by decide) ?_
        refine b_addn hx hb dX2_eliminateNearest_117 ?_
        refine lv_aload_n hx hb dX2_eliminateNearest_118 rfl (lv_at hl 3 rfl) ?_
        refine lv_iload_n hx hb dX2_eliminateNearest_119 rfl (lv_at hl 1 rfl) ?_
        refine lv_aload_n hx hb dX2_eliminateNearest_120 rfl (lv_at hl 3 rfl) ?_
        refine b_get (own := RX2) (C := RX2) (T := TX2) (N := 5) (ci := 2) (v := .int (nI (I 0))) hx hb hts usX2 hown hK hP 0 (by decide) rfl rfl 0 (by decide) (hts _ gw_130) rfl dX2_eliminateNearest_121 ?_
        refine g_calll (va_runV (As := [.int (nI i), .int (nI (I 0))]) (rest := [.int (nI ((I 0) + 1)), .ref (ad (i + 11))]) ⟨hx, hb, hml, hown, hts⟩ (ctX2_columnProduct l D cs ad (up1 (up1 (up1 (up1 I 5 (I 0)) 2 (I 0 + 1)) 3 (I 0 + 1 + mb)) 4 0) AN9 AI (up2 (fo (fun j Y => up2 Y (i + 11) j (cpr (I 1) AI i j)) (I 0) 0 X) (i + 11) (I 0) (if i = I 0 then 1 else 0)) _ i (I 0) he3 (by omega) (by omega)) (cwV 2 hts (gi_V gw_475 gw_477 gw_26 gw_53 gw_478) rfl rfl rfl (by decide +kernel) ⟨Nat.le_of_ble_eq_true rfl, Nat.le_of_ble_eq_true rfl⟩) ⟨g_blind, va_recv hK hP (ci := 2) (q0 := 0) rfl (wm_at (by decide) rfl), g_pre hP hK hD hN⟩ rfl rfl hl.1 rfl (lv_room (Nat.le_of_ble_eq_true rfl)) dX2_eliminateNearest_124 ⟨Nat.zero_le _, Nat.zero_le _⟩) hD hS hA (fun r u H locs hw hP hD hS => ?_)
        obtain ⟨rfl, rfl⟩ := hw
        have hP : va_P D vc (wT cs ad (up1 (up1 (up1 (up1 I 5 (I 0)) 2 (I 0 + 1)) 3 (I 0 + 1 + mb)) 4 0) AN9 AI (up2 (fo (fun j Y => up2 Y (i + 11) j (cpr (I 1) AI i j)) (I 0) 0 X) (i + 11) (I 0) (if i = I 0 then 1 else 0))) H := hP
        have hD : va_D A (wT cs ad (up1 (up1 (up1 (up1 I 5 (I 0)) 2 (I 0 + 1)) 3 (I 0 + 1 + mb)) 4 0) AN9 AI (up2 (fo (fun j Y => up2 Y (i + 11) j (cpr (I 1) AI i j)) (I 0) 0 X) (i + 11) (I 0) (if i = I 0 then 1 else 0))) := hD
        refine tE_st (i := i) hx hb hK hP hD hS (by omega) (by omega) dX2_eliminateNearest_127 (fun H locs hP hD hS => ?_)
        refine b_iinc (lv' := [(2, .int (nI (i + 1))), (3, .int (nI (I 0))), (1, .int (nI mb)), (0, .ref (ad 0))]) hx hb dX2_eliminateNearest_128 hl (k := 1) rfl (by decide) rfl (fun ls hl => ?_)
        refine lv_goto (tgt := 35) hx hb dX2_eliminateNearest_131 (by decide) ?_
        exact ih (i + 1) _ H locs ls (by omega) hP hD hS (lv_sub hl [0, 2, 3] rfl) kx
      · refine b_ne_t (tgt := 101) hx hb dX2_eliminateNearest_94 (by decide) (hin) (by omega) (by omega) ?_
        refine lv_lconst (v := 0) hx hb dX2_eliminateNearest_101 (by decide) ?_
        refine tE_st (i := i) hx hb hK hP hD hS (by omega) (by omega) dX2_eliminateNearest_102 (fun H locs hP hD hS => ?_)
        rw [show up2 (fo (fun j Y => up2 Y (i + 11) j (cpr (I 1) AI i j)) (I 0) 0 X) (i + 11) (I 0) 0 = up2 (fo (fun j Y => up2 Y (i + 11) j (cpr (I 1) AI i j)) (I 0) 0 X) (i + 11) (I 0) (if i = I 0 then 1 else 0) by rw [if_neg hin]] at hP hD
        refine lv_aload_n hx hb dX2_eliminateNearest_103 rfl (lv_at hl 3 rfl) ?_
        refine b_get (own := RX2) (C := RX2) (T := TX2) (N := 5) (ci := 2) (v := .ref (ad 2)) hx hb hts usX2 hown hK hP 0 (by decide) rfl rfl 2 (by decide) (hts _ gw_132) rfl dX2_eliminateNearest_104 ?_
        refine b_getN (own := RX2) (C := RX0) (host := RX2) (T := TX0) (N := 5) (ci := 0) (v := .ref (ad 4)) hx hb hts usX0 hown hK hP 2 (by decide) rfl rfl 0 (by decide) (hN _ (by decide +kernel)) rfl dX2_eliminateNearest_107 ?_
        refine lv_iload_n hx hb dX2_eliminateNearest_110 rfl (lv_at hl 1 rfl) ?_
        refine tE_r hx hb hK hP (by omega) dX2_eliminateNearest_111 ?_
        refine lv_aload_n hx hb dX2_eliminateNearest_112 rfl (lv_at hl 3 rfl) ?_
        refine b_get (own := RX2) (C := RX2) (T := TX2) (N := 5) (ci := 2) (v := .int (nI (I 0))) hx hb hts usX2 hown hK hP 0 (by decide) rfl rfl 0 (by decide) (hts _ gw_130) rfl dX2_eliminateNearest_113 ?_
        refine lv_iconst (v := nI 1) hx hb dX2_eliminateNearest_116 (by decide) ?_
        refine b_addn hx hb dX2_eliminateNearest_117 ?_
        refine lv_aload_n hx hb dX2_eliminateNearest_118 rfl (lv_at hl 3 rfl) ?_
        refine lv_iload_n hx hb dX2_eliminateNearest_119 rfl (lv_at hl 1 rfl) ?_
        refine lv_aload_n hx hb dX2_eliminateNearest_120 rfl (lv_at hl 3 rfl) ?_
        refine b_get (own := RX2) (C := RX2) (T := TX2) (N := 5) (ci := 2) (v := .int (nI (I 0))) hx hb hts usX2 hown hK hP 0 (by decide) rfl rfl 0 (by decide) (hts _ gw_130) rfl dX2_eliminateNearest_121 ?_
        refine g_calll (va_runV (As := [.int (nI i), .int (nI (I 0))]) (rest := [.int (nI ((I 0) + 1)), .ref (ad (i + 11))]) ⟨hx, hb, hml, hown, hts⟩ (ctX2_columnProduct l D cs ad (up1 (up1 (up1 (up1 I 5 (I 0)) 2 (I 0 + 1)) 3 (I 0 + 1 + mb)) 4 0) AN9 AI (up2 (fo (fun j Y => up2 Y (i + 11) j (cpr (I 1) AI i j)) (I 0) 0 X) (i + 11) (I 0) (if i = I 0 then 1 else 0)) _ i (I 0) he3 (by omega) (by omega)) (cwV 2 hts (gi_V gw_475 gw_477 gw_26 gw_53 gw_478) rfl rfl rfl (by decide +kernel) ⟨Nat.le_of_ble_eq_true rfl, Nat.le_of_ble_eq_true rfl⟩) ⟨g_blind, va_recv hK hP (ci := 2) (q0 := 0) rfl (wm_at (by decide) rfl), g_pre hP hK hD hN⟩ rfl rfl hl.1 rfl (lv_room (Nat.le_of_ble_eq_true rfl)) dX2_eliminateNearest_124 ⟨Nat.zero_le _, Nat.zero_le _⟩) hD hS hA (fun r u H locs hw hP hD hS => ?_)
        obtain ⟨rfl, rfl⟩ := hw
        have hP : va_P D vc (wT cs ad (up1 (up1 (up1 (up1 I 5 (I 0)) 2 (I 0 + 1)) 3 (I 0 + 1 + mb)) 4 0) AN9 AI (up2 (fo (fun j Y => up2 Y (i + 11) j (cpr (I 1) AI i j)) (I 0) 0 X) (i + 11) (I 0) (if i = I 0 then 1 else 0))) H := hP
        have hD : va_D A (wT cs ad (up1 (up1 (up1 (up1 I 5 (I 0)) 2 (I 0 + 1)) 3 (I 0 + 1 + mb)) 4 0) AN9 AI (up2 (fo (fun j Y => up2 Y (i + 11) j (cpr (I 1) AI i j)) (I 0) 0 X) (i + 11) (I 0) (if i = I 0 then 1 else 0))) := hD
        refine tE_st (i := i) hx hb hK hP hD hS (by omega) (by omega) dX2_eliminateNearest_127 (fun H locs hP hD hS => ?_)
        refine b_iinc (lv' := [(2, .int (nI (i + 1))), (3, .int (nI (I 0))), (1, .int (nI mb)), (0, .ref (ad 0))]) hx hb dX2_eliminateNearest_128 hl (k := 1) rfl (by decide) rfl (fun ls hl => ?_)
        refine lv_goto (tgt := 35) hx hb dX2_eliminateNearest_131 (by decide) ?_
        exact ih (i + 1) _ H locs ls (by omega) hP hD hS (lv_sub hl [0, 2, 3] rfl) kx
  refine lp35 _ (I 0 + 1) 0 (zer (I 0 + 1) (I 0 + 1 + mb) AL9) _ _ ls (by omega) hP hD hS (lv_sub hl [0, 1, 2] rfl) (fun H locs ls hP hD hS hl => ?_)
  have hP : va_P D vc (wT cs ad (up1 (up1 (up1 (up1 I 5 (I 0)) 2 (I 0 + 1)) 3 (I 0 + 1 + mb)) 4 0) AN9 AI (nefill1 (I 0) (I 1) AI (zer (I 0 + 1) (I 0 + 1 + mb) AL9))) H := hP
  have hD : va_D A (wT cs ad (up1 (up1 (up1 (up1 I 5 (I 0)) 2 (I 0 + 1)) 3 (I 0 + 1 + mb)) 4 0) AN9 AI (nefill1 (I 0) (I 1) AI (zer (I 0 + 1) (I 0 + 1 + mb) AL9))) := hD
  refine lv_iconst (v := nI 0) hx hb dX2_eliminateNearest_134 (by decide) ?_
  refine lv_istore_n (lv' := [(2, .int (nI 0)), (1, .int (nI mb)), (0, .ref (ad 0))]) hx hb dX2_eliminateNearest_135 rfl hl (by decide) rfl (fun ls hl => ?_)
  have lp136 : ∀ (Q : State → Prop) (n k : Nat) (X : Nat → Nat → Int64) (H : Heap) (locs : List Loc) (ls : Array Slot), k + n = mb → va_P D vc (wT cs ad (up1 (up1 (up1 (up1 I 5 (I 0)) 2 (I 0 + 1)) 3 (I 0 + 1 + mb)) 4 0) AN9 AI X) H → va_D A (wT cs ad (up1 (up1 (up1 (up1 I 5 (I 0)) 2 (I 0 + 1)) 3 (I 0 + 1 + mb)) 4 0) AN9 AI X) → va_S A s.heap H locs → lv_has ls 4 [(2, .int (nI k)), (1, .int (nI mb)), (0, .ref (ad 0))] → (∀ (H : Heap) (locs : List Loc) (ls : Array Slot), va_P D vc (wT cs ad (up1 (up1 (up1 (up1 I 5 (I 0)) 2 (I 0 + 1)) 3 (I 0 + 1 + mb)) 4 0) AN9 AI (fo (fun k X => fo (fun j Y => up2 Y (I 0 + 1 + k + 11) j (Y (I 0 - mb + k + 18) (3 + j))) (I 0) 0 X) n k X)) H → va_D A (wT cs ad (up1 (up1 (up1 (up1 I 5 (I 0)) 2 (I 0 + 1)) 3 (I 0 + 1 + mb)) 4 0) AN9 AI (fo (fun k X => fo (fun j Y => up2 Y (I 0 + 1 + k + 11) j (Y (I 0 - mb + k + 18) (3 + j))) (I 0) 0 X) n k X)) → va_S A s.heap H locs → lv_has ls 4 [(2, .int (nI mb)), (1, .int (nI mb)), (0, .ref (ad 0))] → W p l e rmX2_eliminateNearest s m args below meth c H locs 0 0 Q (F0 m 190 ls [])) → W p l e rmX2_eliminateNearest s m args below meth c H locs 0 0 Q (F0 m 136 ls []) := by
    intro Q n
    induction n with
    | zero =>
      intro k X H locs ls hn hP hD hS hl kx
      have hi : k = mb := by omega
      refine lv_iload_n hx hb dX2_eliminateNearest_136 rfl (lv_at hl 0 rfl) ?_
      refine lv_iload_n hx hb dX2_eliminateNearest_137 rfl (lv_at hl 1 rfl) ?_
      refine b_ge_t (tgt := 190) hx hb dX2_eliminateNearest_138 (by decide) (by omega) (by omega) ?_
      rw [hi] at hl
      exact kx H locs ls hP hD hS (lv_sub hl [0, 1, 2] rfl)
    | succ n ih =>
      intro k X H locs ls hn hP hD hS hl kx
      have hi : k < mb := by omega
      refine lv_iload_n hx hb dX2_eliminateNearest_136 rfl (lv_at hl 0 rfl) ?_
      refine lv_iload_n hx hb dX2_eliminateNearest_137 rfl (lv_at hl 1 rfl) ?_
      refine b_ge_f (tgt := 190) hx hb dX2_eliminateNearest_138 (by decide) (by omega) (by omega) ?_
      refine lv_iconst (v := nI 0) hx hb dX2_eliminateNearest_141 (by decide) ?_
      refine lv_istore_n (lv' := [(3, .int (nI 0)), (2, .int (nI k)), (1, .int (nI mb)), (0, .ref (ad 0))]) hx hb dX2_eliminateNearest_142 rfl hl (by decide) rfl (fun ls hl => ?_)
      have lp143 : ∀ (Q : State → Prop) (n j : Nat) (Y : Nat → Nat → Int64) (H : Heap) (locs : List Loc) (ls : Array Slot), j + n = I 0 → va_P D vc (wT cs ad (up1 (up1 (up1 (up1 I 5 (I 0)) 2 (I 0 + 1)) 3 (I 0 + 1 + mb)) 4 0) AN9 AI Y) H → va_D A (wT cs ad (up1 (up1 (up1 (up1 I 5 (I 0)) 2 (I 0 + 1)) 3 (I 0 + 1 + mb)) 4 0) AN9 AI Y) → va_S A s.heap H locs → lv_has ls 4 [(3, .int (nI j)), (2, .int (nI k)), (1, .int (nI mb)), (0, .ref (ad 0))] → (∀ (H : Heap) (locs : List Loc) (ls : Array Slot), va_P D vc (wT cs ad (up1 (up1 (up1 (up1 I 5 (I 0)) 2 (I 0 + 1)) 3 (I 0 + 1 + mb)) 4 0) AN9 AI (fo (fun j Y => up2 Y (I 0 + 1 + k + 11) j (Y (I 0 - mb + k + 18) (3 + j))) n j Y)) H → va_D A (wT cs ad (up1 (up1 (up1 (up1 I 5 (I 0)) 2 (I 0 + 1)) 3 (I 0 + 1 + mb)) 4 0) AN9 AI (fo (fun j Y => up2 Y (I 0 + 1 + k + 11) j (Y (I 0 - mb + k + 18) (3 + j))) n j Y)) → va_S A s.heap H locs → lv_has ls 4 [(3, .int (nI (I 0))), (2, .int (nI k)), (1, .int (nI mb)), (0, .ref (ad 0))] → W p l e rmX2_eliminateNearest s m args below meth c H locs 0 0 Q (F0 m 184 ls [])) → W p l e rmX2_eliminateNearest s m args below meth c H locs 0 0 Q (F0 m 143 ls []) := by
        intro Q n
        induction n with
        | zero =>
          intro j Y H locs ls hn hP hD hS hl kx
          have hi : j = I 0 := by omega
          refine lv_iload_n hx hb dX2_eliminateNearest_143 rfl (lv_at hl 0 rfl) ?_
          refine lv_aload_n hx hb dX2_eliminateNearest_144 rfl (lv_at hl 3 rfl) ?_
          refine b_get (own := RX2) (C := RX2) (T := TX2) (N := 5) (ci := 2) (v := .int (nI (I 0))) hx hb hts usX2 hown hK hP 0 (by decide) rfl rfl 0 (by decide) (hts _ gw_130) rfl dX2_eliminateNearest_145 ?_
          refine b_ge_t (tgt := 184) hx hb dX2_eliminateNearest_148 (by decide) (by omega) (by omega) ?_
          rw [hi] at hl
          exact kx H locs ls hP hD hS (lv_sub hl [0, 1, 2, 3] rfl)
        | succ n ih =>
          intro j Y H locs ls hn hP hD hS hl kx
          have hi : j < I 0 := by omega
          refine lv_iload_n hx hb dX2_eliminateNearest_143 rfl (lv_at hl 0 rfl) ?_
          refine lv_aload_n hx hb dX2_eliminateNearest_144 rfl (lv_at hl 3 rfl) ?_
          refine b_get (own := RX2) (C := RX2) (T := TX2) (N := 5) (ci := 2) (v := .int (nI (I 0))) hx hb hts usX2 hown hK hP 0 (by decide) rfl rfl 0 (by decide) (hts _ gw_130) rfl dX2_eliminateNearest_145 ?_
          refine b_ge_f (tgt := 184) hx hb dX2_eliminateNearest_148 (by decide) (by omega) (by omega) ?_
          refine lv_aload_n hx hb dX2_eliminateNearest_151 rfl (lv_at hl 3 rfl) ?_
          refine b_get (own := RX2) (C := RX2) (T := TX2) (N := 5) (ci := 2) (v := .ref (ad 2)) hx hb hts usX2 hown hK hP 0 (by decide) rfl rfl 2 (by decide) (hts _ gw_132) rfl dX2_eliminateNearest_152 ?_
          refine b_getN (own := RX2) (C := RX0) (host := RX2) (T := TX0) (N := 5) (ci := 0) (v := .ref (ad 4)) hx hb hts usX0 hown hK hP 2 (by decide) rfl rfl 0 (by decide) (hN _ (by decide +kernel)) rfl dX2_eliminateNearest_155 ?_
          refine lv_aload_n hx hb dX2_eliminateNearest_158 rfl (lv_at hl 3 rfl) ?_
          refine b_get (own := RX2) (C := RX2) (T := TX2) (N := 5) (ci := 2) (v := .int (nI (I 0))) hx hb hts usX2 hown hK hP 0 (by decide) rfl rfl 0 (by decide) (hts _ gw_130) rfl dX2_eliminateNearest_159 ?_
          refine lv_iconst (v := nI 1) hx hb dX2_eliminateNearest_162 (by decide) ?_
          refine b_addn hx hb dX2_eliminateNearest_163 ?_
          refine lv_iload_n hx hb dX2_eliminateNearest_164 rfl (lv_at hl 1 rfl) ?_
          refine b_addn hx hb dX2_eliminateNearest_165 ?_
          refine tE_r hx hb hK hP (by omega) dX2_eliminateNearest_166 ?_
          refine lv_iload_n hx hb dX2_eliminateNearest_167 rfl (lv_at hl 0 rfl) ?_
          refine lv_aload_n hx hb dX2_eliminateNearest_168 rfl (lv_at hl 3 rfl) ?_
          refine b_get (own := RX2) (C := RX2) (T := TX2) (N := 5) (ci := 2) (v := .ref (ad 3)) hx hb hts usX2 hown hK hP 0 (by decide) rfl rfl 3 (by decide) (hts _ gw_133) rfl dX2_eliminateNearest_169 ?_
          refine lv_iload_n hx hb dX2_eliminateNearest_172 rfl (lv_at hl 1 rfl) ?_
          refine lv_iload_n hx hb dX2_eliminateNearest_173 rfl (lv_at hl 0 rfl) ?_
          refine g_calll (va_runVN (C := RX1) (As := [.int (nI k), .int (nI j)]) (rest := [.int (nI j), .ref (ad ((((I 0) + 1) + k) + 11))]) ⟨hx, hb, hml, hown, hts⟩ (ctX1_member l D cs ad (up1 (up1 (up1 (up1 I 5 (I 0)) 2 (I 0 + 1)) 3 (I 0 + 1 + mb)) 4 0) AN9 AI Y _ k j (show I 0 ≤ 3 from hn3) hbg2 (by have e8 : mb = mbs AN9 (I 0) := hmbe; show k < mbs AN9 (I 0); omega) (by omega)) ⟨va_cnB 2 hts (gi_C gw_454) rfl rfl rfl (hN _ (by decide +kernel) : va_Nw (Cond.methodLinkNest "TriangularSystems" 114 ⟨"TriangularSystems$Lattice", "member", "(II)J"⟩ "TriangularSystems") s) (hts _ gw_56) (by decide +kernel) ⟨Nat.le_of_ble_eq_true rfl, Nat.le_of_ble_eq_true rfl⟩, hts _ gw_453, hts _ gw_24⟩ ⟨g_blind, va_recv hK hP (ci := 1) (q0 := 3) rfl (wm_at (by decide) rfl), g_pre hP hK hD hN⟩ rfl rfl hl.1 rfl (lv_room (Nat.le_of_ble_eq_true rfl)) dX2_eliminateNearest_174 ⟨Nat.zero_le _, Nat.zero_le _⟩) hD hS hA (fun r u H locs hw hP hD hS => ?_)
          obtain ⟨rfl, hw2⟩ := hw
          have hP : va_P D vc (wT cs ad (up1 (up1 (up1 (up1 I 5 (I 0)) 2 (I 0 + 1)) 3 (I 0 + 1 + mb)) 4 0) AN9 AI Y) H := hP
          have hD : va_D A (wT cs ad (up1 (up1 (up1 (up1 I 5 (I 0)) 2 (I 0 + 1)) 3 (I 0 + 1 + mb)) 4 0) AN9 AI Y) := hD
          have hw2 : r = Y (I 0 - mb + k + 18) (3 + j) := by rw [hmbe]; exact hw2
          subst hw2
          refine tE_st (i := ((I 0) + 1) + k) hx hb hK hP hD hS (by omega) (by omega) dX2_eliminateNearest_177 (fun H locs hP hD hS => ?_)
          refine b_iinc (lv' := [(3, .int (nI (j + 1))), (2, .int (nI k)), (1, .int (nI mb)), (0, .ref (ad 0))]) hx hb dX2_eliminateNearest_178 hl (k := 0) rfl (by decide) rfl (fun ls hl => ?_)
          refine lv_goto (tgt := 143) hx hb dX2_eliminateNearest_181 (by decide) ?_
          exact ih (j + 1) _ H locs ls (by omega) hP hD hS (lv_sub hl [0, 1, 2, 3] rfl) kx
      refine lp143 _ (I 0) 0 X _ _ ls (by omega) hP hD hS (lv_sub hl [0, 1, 2, 3] rfl) (fun H locs ls hP hD hS hl => ?_)
      refine b_iinc (lv' := [(2, .int (nI (k + 1))), (3, .int (nI (I 0))), (1, .int (nI mb)), (0, .ref (ad 0))]) hx hb dX2_eliminateNearest_184 hl (k := 1) rfl (by decide) rfl (fun ls hl => ?_)
      refine lv_goto (tgt := 136) hx hb dX2_eliminateNearest_187 (by decide) ?_
      exact ih (k + 1) _ H locs ls (by omega) hP hD hS (lv_sub hl [0, 2, 3] rfl) kx
  refine lp136 _ (mb) 0 (nefill1 (I 0) (I 1) AI (zer (I 0 + 1) (I 0 + 1 + mb) AL9)) _ _ ls (by omega) hP hD hS (lv_sub hl [0, 1, 2] rfl) (fun H locs ls hP hD hS hl => ?_)
  have hP : va_P D vc (wT cs ad (up1 (up1 (up1 (up1 I 5 (I 0)) 2 (I 0 + 1)) 3 (I 0 + 1 + mb)) 4 0) AN9 AI (nefill2 (I 0) mb (nefill1 (I 0) (I 1) AI (zer (I 0 + 1) (I 0 + 1 + mb) AL9)))) H := hP
  have hD : va_D A (wT cs ad (up1 (up1 (up1 (up1 I 5 (I 0)) 2 (I 0 + 1)) 3 (I 0 + 1 + mb)) 4 0) AN9 AI (nefill2 (I 0) mb (nefill1 (I 0) (I 1) AI (zer (I 0 + 1) (I 0 + 1 + mb) AL9)))) := hD
  refine lv_aload_n hx hb dX2_eliminateNearest_190 rfl (lv_at hl 2 rfl) ?_
  refine b_get (own := RX2) (C := RX2) (T := TX2) (N := 5) (ci := 2) (v := .ref (ad 2)) hx hb hts usX2 hown hK hP 0 (by decide) rfl rfl 2 (by decide) (hts _ gw_132) rfl dX2_eliminateNearest_191 ?_
  refine g_callv (va_runVN (C := RX0) (As := []) (rest := []) ⟨hx, hb, hml, hown, hts⟩ (ctX0_eliminate l D cs ad (up1 (up1 (up1 (up1 I 5 (I 0)) 2 (I 0 + 1)) 3 (I 0 + 1 + mb)) 4 0) AN9 AI (nefill2 (I 0) mb (nefill1 (I 0) (I 1) AI (zer (I 0 + 1) (I 0 + 1 + mb) AL9))) _ (show I 0 + 1 ≤ 4 by omega) (show I 0 + 1 + mb ≤ 7 by omega) (Nat.zero_le _)) ⟨va_cnB 0 hts (gi_C gw_163) rfl rfl rfl (hN _ (by decide +kernel) : va_Nw (Cond.methodLinkNest "TriangularSystems" 144 ⟨"TriangularSystems$Elimination", "eliminate", "()V"⟩ "TriangularSystems") s) (hts _ gw_55) (by decide +kernel) ⟨Nat.le_of_ble_eq_true rfl, Nat.le_of_ble_eq_true rfl⟩, hts _ gw_162, hts _ gw_2⟩ ⟨g_blind, va_recv hK hP (ci := 0) (q0 := 2) rfl (wm_at (by decide) rfl), g_pre hP hK hD hN⟩ rfl rfl hl.1 rfl (lv_room (Nat.le_of_ble_eq_true rfl)) dX2_eliminateNearest_194 ⟨Nat.zero_le _, Nat.zero_le _⟩) hD hS hA (fun u H locs hw hP hD hS => ?_)
  obtain rfl := hw
  have hP : va_P D vc (wT cs ad (up1 (up1 (up1 (up1 (up1 I 5 (I 0)) 2 (I 0 + 1)) 3 (I 0 + 1 + mb)) 4 0) 4 (fo (estep (I 0 + 1) (I 0 + 1 + mb)) (I 0 + 1) 0 (0, AN9, nefill2 (I 0) mb (nefill1 (I 0) (I 1) AI (zer (I 0 + 1) (I 0 + 1 + mb) AL9)))).1) ((fo (estep (I 0 + 1) (I 0 + 1 + mb)) (I 0 + 1) 0 (0, AN9, nefill2 (I 0) mb (nefill1 (I 0) (I 1) AI (zer (I 0 + 1) (I 0 + 1 + mb) AL9)))).2.1) AI ((fo (estep (I 0 + 1) (I 0 + 1 + mb)) (I 0 + 1) 0 (0, AN9, nefill2 (I 0) mb (nefill1 (I 0) (I 1) AI (zer (I 0 + 1) (I 0 + 1 + mb) AL9)))).2.2)) H := hP
  have hD : va_D A (wT cs ad (up1 (up1 (up1 (up1 (up1 I 5 (I 0)) 2 (I 0 + 1)) 3 (I 0 + 1 + mb)) 4 0) 4 (fo (estep (I 0 + 1) (I 0 + 1 + mb)) (I 0 + 1) 0 (0, AN9, nefill2 (I 0) mb (nefill1 (I 0) (I 1) AI (zer (I 0 + 1) (I 0 + 1 + mb) AL9)))).1) ((fo (estep (I 0 + 1) (I 0 + 1 + mb)) (I 0 + 1) 0 (0, AN9, nefill2 (I 0) mb (nefill1 (I 0) (I 1) AI (zer (I 0 + 1) (I 0 + 1 + mb) AL9)))).2.1) AI ((fo (estep (I 0 + 1) (I 0 + 1 + mb)) (I 0 + 1) 0 (0, AN9, nefill2 (I 0) mb (nefill1 (I 0) (I 1) AI (zer (I 0 + 1) (I 0 + 1 + mb) AL9)))).2.2)) := hD
  rw [up1_1] at hP hD
  have e9 : fo (estep (I 0 + 1) (I 0 + 1 + mb)) (I 0 + 1) 0 (0, AN9, nefill2 (I 0) mb (nefill1 (I 0) (I 1) AI (zer (I 0 + 1) (I 0 + 1 + mb) AL9))) = neE (I 0) (I 1) AN AI AL := by unfold neE; rw [hS9]; dsimp only; rw [← hmbe]
  rw [e9] at hP hD
  exact g_vret hx hb hr hlocks (up1 (up1 (up1 (up1 I 5 (I 0)) 2 (I 0 + 1)) 3 (I 0 + 1 + mb)) 4 (neE (I 0) (I 1) AN AI AL).1, (neE (I 0) (I 1) AN AI AL).2.1, AI, (neE (I 0) (I 1) AN AI AL).2.2) rfl hK hP hD hS dX2_eliminateNearest_197
end
