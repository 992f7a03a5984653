section
-- ===== PART A: goes FIRST, ahead of the names: the tables' words, and 'selects' of the private methods out of them =====
/-- a private method of a class that the tables say can be made, by its rows of tables_1 -/
def lw_okq (q : MethodName × Nat) : Prop := (q.1.cls ≠ "java/lang/invoke/MethodHandle" ∧ q.1.cls ≠ "java/lang/invoke/VarHandle") ∧ Cond.instantiable q.1.cls q.2 ∈ tables_1 ∧ Cond.privateMethod q.1 ∈ tables_1 ∧ Cond.instanceMethod q.1 ∈ tables_1
theorem lw_p0 : lw_okq (⟨"WhiteKnights$Reader", "readLine", "()V"⟩, 4) := ⟨⟨by decide +kernel, by decide +kernel⟩, List.mem_of_getElem? (i := 105) (by decide +kernel), List.mem_of_getElem? (i := 303) (by decide +kernel), List.mem_of_getElem? (i := 304) (by decide +kernel)⟩
theorem lw_p1 : lw_okq (⟨"WhiteKnights$Reader", "readSize", "()V"⟩, 4) := ⟨⟨by decide +kernel, by decide +kernel⟩, List.mem_of_getElem? (i := 105) (by decide +kernel), List.mem_of_getElem? (i := 360) (by decide +kernel), List.mem_of_getElem? (i := 361) (by decide +kernel)⟩
theorem lw_p2 : lw_okq (⟨"WhiteKnights$Reader", "readNumber", "(II)I"⟩, 4) := ⟨⟨by decide +kernel, by decide +kernel⟩, List.mem_of_getElem? (i := 105) (by decide +kernel), List.mem_of_getElem? (i := 364) (by decide +kernel), List.mem_of_getElem? (i := 365) (by decide +kernel)⟩
theorem lw_p3 : lw_okq (⟨"WhiteKnights$Reader", "refuseIf", "(Z)V"⟩, 4) := ⟨⟨by decide +kernel, by decide +kernel⟩, List.mem_of_getElem? (i := 105) (by decide +kernel), List.mem_of_getElem? (i := 376) (by decide +kernel), List.mem_of_getElem? (i := 377) (by decide +kernel)⟩
theorem lw_p4 : lw_okq (⟨"WhiteKnights$Reader", "readHole", "()V"⟩, 4) := ⟨⟨by decide +kernel, by decide +kernel⟩, List.mem_of_getElem? (i := 105) (by decide +kernel), List.mem_of_getElem? (i := 389) (by decide +kernel), List.mem_of_getElem? (i := 390) (by decide +kernel)⟩
theorem lw_p5 : lw_okq (⟨"WhiteKnights$Reader", "isHole", "(I)Z"⟩, 4) := ⟨⟨by decide +kernel, by decide +kernel⟩, List.mem_of_getElem? (i := 105) (by decide +kernel), List.mem_of_getElem? (i := 397) (by decide +kernel), List.mem_of_getElem? (i := 398) (by decide +kernel)⟩
theorem lw_p6 : lw_okq (⟨"WhiteKnights$Reader", "readMan", "(I)V"⟩, 4) := ⟨⟨by decide +kernel, by decide +kernel⟩, List.mem_of_getElem? (i := 105) (by decide +kernel), List.mem_of_getElem? (i := 412) (by decide +kernel), List.mem_of_getElem? (i := 413) (by decide +kernel)⟩
theorem lw_p7 : lw_okq (⟨"WhiteKnights$Reader", "readBehindLine", "()Z"⟩, 4) := ⟨⟨by decide +kernel, by decide +kernel⟩, List.mem_of_getElem? (i := 105) (by decide +kernel), List.mem_of_getElem? (i := 431) (by decide +kernel), List.mem_of_getElem? (i := 432) (by decide +kernel)⟩
theorem lw_p8 : lw_okq (⟨"WhiteKnights", "beginAnew", "()V"⟩, 15) := ⟨⟨by decide +kernel, by decide +kernel⟩, List.mem_of_getElem? (i := 18) (by decide +kernel), List.mem_of_getElem? (i := 443) (by decide +kernel), List.mem_of_getElem? (i := 444) (by decide +kernel)⟩
theorem lw_p9 : lw_okq (⟨"WhiteKnights", "noSquare", "(I)Z"⟩, 15) := ⟨⟨by decide +kernel, by decide +kernel⟩, List.mem_of_getElem? (i := 18) (by decide +kernel), List.mem_of_getElem? (i := 455) (by decide +kernel), List.mem_of_getElem? (i := 456) (by decide +kernel)⟩
theorem lw_p10 : lw_okq (⟨"WhiteKnights", "noMan", "(I)Z"⟩, 15) := ⟨⟨by decide +kernel, by decide +kernel⟩, List.mem_of_getElem? (i := 18) (by decide +kernel), List.mem_of_getElem? (i := 466) (by decide +kernel), List.mem_of_getElem? (i := 467) (by decide +kernel)⟩
theorem lw_p11 : lw_okq (⟨"WhiteKnights$Net", "squaresWith", "(II)I"⟩, 3) := ⟨⟨by decide +kernel, by decide +kernel⟩, List.mem_of_getElem? (i := 152) (by decide +kernel), List.mem_of_getElem? (i := 576) (by decide +kernel), List.mem_of_getElem? (i := 577) (by decide +kernel)⟩
theorem lw_p12 : lw_okq (⟨"WhiteKnights$Net", "joinsOf", "(I)I"⟩, 3) := ⟨⟨by decide +kernel, by decide +kernel⟩, List.mem_of_getElem? (i := 152) (by decide +kernel), List.mem_of_getElem? (i := 580) (by decide +kernel), List.mem_of_getElem? (i := 581) (by decide +kernel)⟩
theorem lw_p13 : lw_okq (⟨"WhiteKnights", "allAre", "(I)Z"⟩, 15) := ⟨⟨by decide +kernel, by decide +kernel⟩, List.mem_of_getElem? (i := 18) (by decide +kernel), List.mem_of_getElem? (i := 601) (by decide +kernel), List.mem_of_getElem? (i := 602) (by decide +kernel)⟩
theorem lw_p14 : lw_okq (⟨"WhiteKnights", "orderIsKept", "(I)Z"⟩, 15) := ⟨⟨by decide +kernel, by decide +kernel⟩, List.mem_of_getElem? (i := 18) (by decide +kernel), List.mem_of_getElem? (i := 605) (by decide +kernel), List.mem_of_getElem? (i := 606) (by decide +kernel)⟩
theorem lw_p15 : lw_okq (⟨"WhiteKnights", "stepsAround", "(IIII)I"⟩, 15) := ⟨⟨by decide +kernel, by decide +kernel⟩, List.mem_of_getElem? (i := 18) (by decide +kernel), List.mem_of_getElem? (i := 609) (by decide +kernel), List.mem_of_getElem? (i := 610) (by decide +kernel)⟩
def lw_privs_1 : List (MethodName × Nat) := [(⟨"WhiteKnights$Reader", "readLine", "()V"⟩, 4), (⟨"WhiteKnights$Reader", "readSize", "()V"⟩, 4), (⟨"WhiteKnights$Reader", "readNumber", "(II)I"⟩, 4), (⟨"WhiteKnights$Reader", "refuseIf", "(Z)V"⟩, 4), (⟨"WhiteKnights$Reader", "readHole", "()V"⟩, 4), (⟨"WhiteKnights$Reader", "isHole", "(I)Z"⟩, 4), (⟨"WhiteKnights$Reader", "readMan", "(I)V"⟩, 4), (⟨"WhiteKnights$Reader", "readBehindLine", "()Z"⟩, 4), (⟨"WhiteKnights", "beginAnew", "()V"⟩, 15), (⟨"WhiteKnights", "noSquare", "(I)Z"⟩, 15), (⟨"WhiteKnights", "noMan", "(I)Z"⟩, 15), (⟨"WhiteKnights$Net", "squaresWith", "(II)I"⟩, 3), (⟨"WhiteKnights$Net", "joinsOf", "(I)I"⟩, 3), (⟨"WhiteKnights", "allAre", "(I)Z"⟩, 15), (⟨"WhiteKnights", "orderIsKept", "(I)Z"⟩, 15), (⟨"WhiteKnights", "stepsAround", "(IIII)I"⟩, 15)]
theorem lw_r1 : ∀ q ∈ lw_privs_1, lw_okq q := List.forall_mem_cons.mpr ⟨lw_p0, List.forall_mem_cons.mpr ⟨lw_p1, List.forall_mem_cons.mpr ⟨lw_p2, List.forall_mem_cons.mpr ⟨lw_p3, List.forall_mem_cons.mpr ⟨lw_p4, List.forall_mem_cons.mpr ⟨lw_p5, List.forall_mem_cons.mpr ⟨lw_p6, List.forall_mem_cons.mpr ⟨lw_p7, List.forall_mem_cons.mpr ⟨lw_p8, List.forall_mem_cons.mpr ⟨lw_p9, List.forall_mem_cons.mpr ⟨lw_p10, List.forall_mem_cons.mpr ⟨lw_p11, List.forall_mem_cons.mpr ⟨lw_p12, List.forall_mem_cons.mpr ⟨lw_p13, List.forall_mem_cons.mpr ⟨lw_p14, List.forall_mem_cons.mpr ⟨lw_p15, fun _ h => absurd h List.not_mem_nil⟩⟩⟩⟩⟩⟩⟩⟩⟩⟩⟩⟩⟩⟩⟩⟩
theorem lw_p16 : lw_okq (⟨"WhiteKnights$Search", "codeOf", "(II)I"⟩, 8) := ⟨⟨by decide +kernel, by decide +kernel⟩, List.mem_of_getElem? (i := 169) (by decide +kernel), List.mem_of_getElem? (i := 626) (by decide +kernel), List.mem_of_getElem? (i := 627) (by decide +kernel)⟩
theorem lw_p17 : lw_okq (⟨"WhiteKnights$Search", "isNew", "(I)Z"⟩, 8) := ⟨⟨by decide +kernel, by decide +kernel⟩, List.mem_of_getElem? (i := 169) (by decide +kernel), List.mem_of_getElem? (i := 631) (by decide +kernel), List.mem_of_getElem? (i := 632) (by decide +kernel)⟩
theorem lw_p18 : lw_okq (⟨"WhiteKnights$Search", "add", "(III)V"⟩, 8) := ⟨⟨by decide +kernel, by decide +kernel⟩, List.mem_of_getElem? (i := 169) (by decide +kernel), List.mem_of_getElem? (i := 636) (by decide +kernel), List.mem_of_getElem? (i := 637) (by decide +kernel)⟩
theorem lw_p19 : lw_okq (⟨"WhiteKnights$Search", "addHops", "(IIII)V"⟩, 8) := ⟨⟨by decide +kernel, by decide +kernel⟩, List.mem_of_getElem? (i := 169) (by decide +kernel), List.mem_of_getElem? (i := 642) (by decide +kernel), List.mem_of_getElem? (i := 643) (by decide +kernel)⟩
theorem lw_p20 : lw_okq (⟨"WhiteKnights$Search", "allHomeAlike", "(I)Z"⟩, 8) := ⟨⟨by decide +kernel, by decide +kernel⟩, List.mem_of_getElem? (i := 169) (by decide +kernel), List.mem_of_getElem? (i := 674) (by decide +kernel), List.mem_of_getElem? (i := 675) (by decide +kernel)⟩
theorem lw_p21 : lw_okq (⟨"WhiteKnights", "menAtHome", "()I"⟩, 15) := ⟨⟨by decide +kernel, by decide +kernel⟩, List.mem_of_getElem? (i := 18) (by decide +kernel), List.mem_of_getElem? (i := 719) (by decide +kernel), List.mem_of_getElem? (i := 720) (by decide +kernel)⟩
theorem lw_p22 : lw_okq (⟨"WhiteKnightsModel", "isRead", "()Z"⟩, 34) := ⟨⟨by decide +kernel, by decide +kernel⟩, List.mem_of_getElem? (i := 723) (by decide +kernel), List.mem_of_getElem? (i := 849) (by decide +kernel), List.mem_of_getElem? (i := 850) (by decide +kernel)⟩
theorem lw_p23 : lw_okq (⟨"WhiteKnightsModel", "isLine", "(I)Z"⟩, 34) := ⟨⟨by decide +kernel, by decide +kernel⟩, List.mem_of_getElem? (i := 723) (by decide +kernel), List.mem_of_getElem? (i := 853) (by decide +kernel), List.mem_of_getElem? (i := 854) (by decide +kernel)⟩
theorem lw_p24 : lw_okq (⟨"WhiteKnightsModel", "nextToken", "()V"⟩, 34) := ⟨⟨by decide +kernel, by decide +kernel⟩, List.mem_of_getElem? (i := 723) (by decide +kernel), List.mem_of_getElem? (i := 857) (by decide +kernel), List.mem_of_getElem? (i := 858) (by decide +kernel)⟩
theorem lw_p25 : lw_okq (⟨"WhiteKnightsModel", "isManLine", "(I)Z"⟩, 34) := ⟨⟨by decide +kernel, by decide +kernel⟩, List.mem_of_getElem? (i := 723) (by decide +kernel), List.mem_of_getElem? (i := 877) (by decide +kernel), List.mem_of_getElem? (i := 878) (by decide +kernel)⟩
theorem lw_p26 : lw_okq (⟨"WhiteKnightsModel", "fails", "()Z"⟩, 34) := ⟨⟨by decide +kernel, by decide +kernel⟩, List.mem_of_getElem? (i := 723) (by decide +kernel), List.mem_of_getElem? (i := 881) (by decide +kernel), List.mem_of_getElem? (i := 882) (by decide +kernel)⟩
theorem lw_p27 : lw_okq (⟨"WhiteKnightsModel", "isNumber", "(III)Z"⟩, 34) := ⟨⟨by decide +kernel, by decide +kernel⟩, List.mem_of_getElem? (i := 723) (by decide +kernel), List.mem_of_getElem? (i := 885) (by decide +kernel), List.mem_of_getElem? (i := 886) (by decide +kernel)⟩
theorem lw_p28 : lw_okq (⟨"WhiteKnightsModel", "isBoard", "(I)Z"⟩, 34) := ⟨⟨by decide +kernel, by decide +kernel⟩, List.mem_of_getElem? (i := 723) (by decide +kernel), List.mem_of_getElem? (i := 895) (by decide +kernel), List.mem_of_getElem? (i := 896) (by decide +kernel)⟩
theorem lw_p29 : lw_okq (⟨"WhiteKnightsModel", "isHole", "(I)Z"⟩, 34) := ⟨⟨by decide +kernel, by decide +kernel⟩, List.mem_of_getElem? (i := 723) (by decide +kernel), List.mem_of_getElem? (i := 899) (by decide +kernel), List.mem_of_getElem? (i := 900) (by decide +kernel)⟩
theorem lw_p30 : lw_okq (⟨"WhiteKnightsModel", "doLine", "(I)V"⟩, 34) := ⟨⟨by decide +kernel, by decide +kernel⟩, List.mem_of_getElem? (i := 723) (by decide +kernel), List.mem_of_getElem? (i := 907) (by decide +kernel), List.mem_of_getElem? (i := 908) (by decide +kernel)⟩
theorem lw_p31 : lw_okq (⟨"WhiteKnightsModel", "isSquare", "(I)Z"⟩, 34) := ⟨⟨by decide +kernel, by decide +kernel⟩, List.mem_of_getElem? (i := 723) (by decide +kernel), List.mem_of_getElem? (i := 915) (by decide +kernel), List.mem_of_getElem? (i := 916) (by decide +kernel)⟩
def lw_privs_2 : List (MethodName × Nat) := [(⟨"WhiteKnights$Search", "codeOf", "(II)I"⟩, 8), (⟨"WhiteKnights$Search", "isNew", "(I)Z"⟩, 8), (⟨"WhiteKnights$Search", "add", "(III)V"⟩, 8), (⟨"WhiteKnights$Search", "addHops", "(IIII)V"⟩, 8), (⟨"WhiteKnights$Search", "allHomeAlike", "(I)Z"⟩, 8), (⟨"WhiteKnights", "menAtHome", "()I"⟩, 15), (⟨"WhiteKnightsModel", "isRead", "()Z"⟩, 34), (⟨"WhiteKnightsModel", "isLine", "(I)Z"⟩, 34), (⟨"WhiteKnightsModel", "nextToken", "()V"⟩, 34), (⟨"WhiteKnightsModel", "isManLine", "(I)Z"⟩, 34), (⟨"WhiteKnightsModel", "fails", "()Z"⟩, 34), (⟨"WhiteKnightsModel", "isNumber", "(III)Z"⟩, 34), (⟨"WhiteKnightsModel", "isBoard", "(I)Z"⟩, 34), (⟨"WhiteKnightsModel", "isHole", "(I)Z"⟩, 34), (⟨"WhiteKnightsModel", "doLine", "(I)V"⟩, 34), (⟨"WhiteKnightsModel", "isSquare", "(I)Z"⟩, 34)]
theorem lw_r2 : ∀ q ∈ lw_privs_2, lw_okq q := List.forall_mem_cons.mpr ⟨lw_p16, List.forall_mem_cons.mpr ⟨lw_p17, List.forall_mem_cons.mpr ⟨lw_p18, List.forall_mem_cons.mpr ⟨lw_p19, List.forall_mem_cons.mpr ⟨lw_p20, List.forall_mem_cons.mpr ⟨lw_p21, List.forall_mem_cons.mpr ⟨lw_p22, List.forall_mem_cons.mpr ⟨lw_p23, List.forall_mem_cons.mpr ⟨lw_p24, List.forall_mem_cons.mpr ⟨lw_p25, List.forall_mem_cons.mpr ⟨lw_p26, List.forall_mem_cons.mpr ⟨lw_p27, List.forall_mem_cons.mpr ⟨lw_p28, List.forall_mem_cons.mpr ⟨lw_p29, List.forall_mem_cons.mpr ⟨lw_p30, List.forall_mem_cons.mpr ⟨lw_p31, fun _ h => absurd h List.not_mem_nil⟩⟩⟩⟩⟩⟩⟩⟩⟩⟩⟩⟩⟩⟩⟩⟩
theorem lw_p32 : lw_okq (⟨"WhiteKnightsModel", "isMan", "(I)Z"⟩, 34) := ⟨⟨by decide +kernel, by decide +kernel⟩, List.mem_of_getElem? (i := 723) (by decide +kernel), List.mem_of_getElem? (i := 923) (by decide +kernel), List.mem_of_getElem? (i := 924) (by decide +kernel)⟩
theorem lw_p33 : lw_okq (⟨"WhiteKnightsModel", "takenBy", "([I)I"⟩, 34) := ⟨⟨by decide +kernel, by decide +kernel⟩, List.mem_of_getElem? (i := 723) (by decide +kernel), List.mem_of_getElem? (i := 931) (by decide +kernel), List.mem_of_getElem? (i := 932) (by decide +kernel)⟩
theorem lw_p34 : lw_okq (⟨"WhiteKnightsModel", "reachOf", "(III)I"⟩, 34) := ⟨⟨by decide +kernel, by decide +kernel⟩, List.mem_of_getElem? (i := 723) (by decide +kernel), List.mem_of_getElem? (i := 935) (by decide +kernel), List.mem_of_getElem? (i := 936) (by decide +kernel)⟩
theorem lw_p35 : lw_okq (⟨"WhiteKnightsModel", "isOn", "(II)Z"⟩, 34) := ⟨⟨by decide +kernel, by decide +kernel⟩, List.mem_of_getElem? (i := 723) (by decide +kernel), List.mem_of_getElem? (i := 939) (by decide +kernel), List.mem_of_getElem? (i := 940) (by decide +kernel)⟩
theorem lw_p36 : lw_okq (⟨"WhiteKnightsModel", "slide", "(IIII)I"⟩, 34) := ⟨⟨by decide +kernel, by decide +kernel⟩, List.mem_of_getElem? (i := 723) (by decide +kernel), List.mem_of_getElem? (i := 943) (by decide +kernel), List.mem_of_getElem? (i := 944) (by decide +kernel)⟩
theorem lw_p37 : lw_okq (⟨"WhiteKnightsModel", "mayOf", "([III)I"⟩, 34) := ⟨⟨by decide +kernel, by decide +kernel⟩, List.mem_of_getElem? (i := 723) (by decide +kernel), List.mem_of_getElem? (i := 951) (by decide +kernel), List.mem_of_getElem? (i := 952) (by decide +kernel)⟩
theorem lw_p38 : lw_okq (⟨"WhiteKnightsModel", "attackedBy", "([I)I"⟩, 34) := ⟨⟨by decide +kernel, by decide +kernel⟩, List.mem_of_getElem? (i := 723) (by decide +kernel), List.mem_of_getElem? (i := 955) (by decide +kernel), List.mem_of_getElem? (i := 956) (by decide +kernel)⟩
theorem lw_p39 : lw_okq (⟨"WhiteKnightsModel", "joined", "(II)I"⟩, 34) := ⟨⟨by decide +kernel, by decide +kernel⟩, List.mem_of_getElem? (i := 723) (by decide +kernel), List.mem_of_getElem? (i := 979) (by decide +kernel), List.mem_of_getElem? (i := 980) (by decide +kernel)⟩
theorem lw_p40 : lw_okq (⟨"WhiteKnightsModel", "partOf", "(II)I"⟩, 34) := ⟨⟨by decide +kernel, by decide +kernel⟩, List.mem_of_getElem? (i := 723) (by decide +kernel), List.mem_of_getElem? (i := 987) (by decide +kernel), List.mem_of_getElem? (i := 988) (by decide +kernel)⟩
theorem lw_p41 : lw_okq (⟨"WhiteKnightsModel", "shapeOf", "(II)I"⟩, 34) := ⟨⟨by decide +kernel, by decide +kernel⟩, List.mem_of_getElem? (i := 723) (by decide +kernel), List.mem_of_getElem? (i := 995) (by decide +kernel), List.mem_of_getElem? (i := 996) (by decide +kernel)⟩
theorem lw_p42 : lw_okq (⟨"WhiteKnightsModel", "layRing", "(II)I"⟩, 34) := ⟨⟨by decide +kernel, by decide +kernel⟩, List.mem_of_getElem? (i := 723) (by decide +kernel), List.mem_of_getElem? (i := 1006) (by decide +kernel), List.mem_of_getElem? (i := 1007) (by decide +kernel)⟩
theorem lw_p43 : lw_okq (⟨"WhiteKnightsModel", "fewestBy", "(Z)I"⟩, 34) := ⟨⟨by decide +kernel, by decide +kernel⟩, List.mem_of_getElem? (i := 723) (by decide +kernel), List.mem_of_getElem? (i := 1021) (by decide +kernel), List.mem_of_getElem? (i := 1022) (by decide +kernel)⟩
theorem lw_p44 : lw_okq (⟨"WhiteKnightsModel", "firstHome", "(Z)I"⟩, 34) := ⟨⟨by decide +kernel, by decide +kernel⟩, List.mem_of_getElem? (i := 723) (by decide +kernel), List.mem_of_getElem? (i := 1025) (by decide +kernel), List.mem_of_getElem? (i := 1026) (by decide +kernel)⟩
theorem lw_p45 : lw_okq (⟨"WhiteKnightsModel", "layLine", "()V"⟩, 34) := ⟨⟨by decide +kernel, by decide +kernel⟩, List.mem_of_getElem? (i := 723) (by decide +kernel), List.mem_of_getElem? (i := 1029) (by decide +kernel), List.mem_of_getElem? (i := 1030) (by decide +kernel)⟩
theorem lw_p46 : lw_okq (⟨"WhiteKnightsModel", "codeOf", "([II)I"⟩, 34) := ⟨⟨by decide +kernel, by decide +kernel⟩, List.mem_of_getElem? (i := 723) (by decide +kernel), List.mem_of_getElem? (i := 1033) (by decide +kernel), List.mem_of_getElem? (i := 1034) (by decide +kernel)⟩
theorem lw_p47 : lw_okq (⟨"WhiteKnightsModel", "place", "(I)V"⟩, 34) := ⟨⟨by decide +kernel, by decide +kernel⟩, List.mem_of_getElem? (i := 723) (by decide +kernel), List.mem_of_getElem? (i := 1037) (by decide +kernel), List.mem_of_getElem? (i := 1038) (by decide +kernel)⟩
def lw_privs_3 : List (MethodName × Nat) := [(⟨"WhiteKnightsModel", "isMan", "(I)Z"⟩, 34), (⟨"WhiteKnightsModel", "takenBy", "([I)I"⟩, 34), (⟨"WhiteKnightsModel", "reachOf", "(III)I"⟩, 34), (⟨"WhiteKnightsModel", "isOn", "(II)Z"⟩, 34), (⟨"WhiteKnightsModel", "slide", "(IIII)I"⟩, 34), (⟨"WhiteKnightsModel", "mayOf", "([III)I"⟩, 34), (⟨"WhiteKnightsModel", "attackedBy", "([I)I"⟩, 34), (⟨"WhiteKnightsModel", "joined", "(II)I"⟩, 34), (⟨"WhiteKnightsModel", "partOf", "(II)I"⟩, 34), (⟨"WhiteKnightsModel", "shapeOf", "(II)I"⟩, 34), (⟨"WhiteKnightsModel", "layRing", "(II)I"⟩, 34), (⟨"WhiteKnightsModel", "fewestBy", "(Z)I"⟩, 34), (⟨"WhiteKnightsModel", "firstHome", "(Z)I"⟩, 34), (⟨"WhiteKnightsModel", "layLine", "()V"⟩, 34), (⟨"WhiteKnightsModel", "codeOf", "([II)I"⟩, 34), (⟨"WhiteKnightsModel", "place", "(I)V"⟩, 34)]
theorem lw_r3 : ∀ q ∈ lw_privs_3, lw_okq q := List.forall_mem_cons.mpr ⟨lw_p32, List.forall_mem_cons.mpr ⟨lw_p33, List.forall_mem_cons.mpr ⟨lw_p34, List.forall_mem_cons.mpr ⟨lw_p35, List.forall_mem_cons.mpr ⟨lw_p36, List.forall_mem_cons.mpr ⟨lw_p37, List.forall_mem_cons.mpr ⟨lw_p38, List.forall_mem_cons.mpr ⟨lw_p39, List.forall_mem_cons.mpr ⟨lw_p40, List.forall_mem_cons.mpr ⟨lw_p41, List.forall_mem_cons.mpr ⟨lw_p42, List.forall_mem_cons.mpr ⟨lw_p43, List.forall_mem_cons.mpr ⟨lw_p44, List.forall_mem_cons.mpr ⟨lw_p45, List.forall_mem_cons.mpr ⟨lw_p46, List.forall_mem_cons.mpr ⟨lw_p47, fun _ h => absurd h List.not_mem_nil⟩⟩⟩⟩⟩⟩⟩⟩⟩⟩⟩⟩⟩⟩⟩⟩
theorem lw_p48 : lw_okq (⟨"WhiteKnightsModel", "areHome", "(Z)Z"⟩, 34) := ⟨⟨by decide +kernel, by decide +kernel⟩, List.mem_of_getElem? (i := 723) (by decide +kernel), List.mem_of_getElem? (i := 1041) (by decide +kernel), List.mem_of_getElem? (i := 1042) (by decide +kernel)⟩
def lw_privs_4 : List (MethodName × Nat) := [(⟨"WhiteKnightsModel", "areHome", "(Z)Z"⟩, 34)]
theorem lw_r4 : ∀ q ∈ lw_privs_4, lw_okq q := List.forall_mem_cons.mpr ⟨lw_p48, fun _ h => absurd h List.not_mem_nil⟩
def lw_privs : List (MethodName × Nat) := lw_privs_1 ++ (lw_privs_2 ++ (lw_privs_3 ++ (lw_privs_4)))
def lw_tbl : List Cond := k2_sels lw_privs ++ tables_1
theorem lw_privs_ok : ∀ q ∈ lw_privs, lw_okq q := by
  show ∀ q ∈ lw_privs_1 ++ (lw_privs_2 ++ (lw_privs_3 ++ (lw_privs_4))), lw_okq q
  exact List.forall_mem_append.mpr ⟨lw_r1, List.forall_mem_append.mpr ⟨lw_r2, List.forall_mem_append.mpr ⟨lw_r3, lw_r4⟩⟩⟩
end
section
/-! ===== BEGIN words of one list among another's, by their places ===== -/
theorem goodIn_r {big : List Cond} (ws : List Cond) (ps : List Nat) (hp : ws = ps.filterMap (fun i => big[i]?)) (h : ws.all goodWord = true) : GoodIn big ws := by
  intro w hw
  have h1 := List.all_eq_true.mp h w hw
  rw [hp] at hw
  obtain ⟨i, -, hi⟩ := List.mem_filterMap.mp hw
  have hm : w ∈ big := by first | exact List.mem_of_getElem? hi | exact List.getElem?_mem hi
  exact ⟨hm, good_of_word h1⟩
theorem goodIn_app {big a b : List Cond} (ha : GoodIn big a) (hb : GoodIn big b) : GoodIn big (a ++ b) := fun w h => (List.mem_append.mp h).elim (ha w) (hb w)
theorem goodIn_ca {big a b : List Cond} {c : Cond} (ha : GoodIn big (c :: a)) (hb : GoodIn big b) : GoodIn big (c :: (a ++ b)) := fun w h => (List.mem_cons.mp h).elim (fun e => ha w (List.mem_cons.mpr (Or.inl e))) (fun h => (List.mem_append.mp h).elim (fun h => ha w (List.mem_cons.mpr (Or.inr h))) (hb w))
theorem goodIn_sub {big ws : List Cond} (hm : ∀ w ∈ ws, w ∈ big) (h : ws.all goodWord = true) : GoodIn big ws := fun w hw => ⟨hm w hw, good_of_word (List.all_eq_true.mp h w hw)⟩
/-! ===== END ===== -/

/-! ===== BEGIN printed: names, fields, word lists, decode rows ===== -/
def RX0 : String := "WhiteKnights$Grid"
def TX0 : u_T := fun k => match k with
  | _ => ("WhiteKnights$Grid", "steps", "[I", true)
def tyX0 : Nat → FieldType := fun k => match k with
  | _ => .array .int
abbrev wsX00 : List Cond := u_ws RX0 TX0 1
theorem nmX0 : ∀ a, a < 1 → ∀ b, b < 1 → a ≠ b → (TX0 a).2.1 ≠ (TX0 b).2.1 := by decide +kernel
theorem tyX0_ok : ∀ k, k < 1 → parseFieldDescriptor (TX0 k).2.2.1 = some (tyX0 k) := by decide +kernel
abbrev cX0_init : ByteArray := prog_2_method_1_code
def yX0_init : MethodName := ⟨RX0, "<init>", "()V"⟩
abbrev cX0_lay : ByteArray := prog_2_method_2_code
def yX0_lay : MethodName := ⟨RX0, "lay", "(II)V"⟩
abbrev cX0_reached : ByteArray := prog_2_method_3_code
def yX0_reached : MethodName := ⟨RX0, "reached", "(IIII)I"⟩
def RX1 : String := "WhiteKnights$Laws"
def TX1 : u_T := fun k => match k with
  | 0 => ("WhiteKnights$Laws", "told", "LWhiteKnights$Setup;", true)
  | _ => ("WhiteKnights$Laws", "grid", "LWhiteKnights$Grid;", true)
def tyX1 : Nat → FieldType := fun k => match k with
  | 0 => .object "WhiteKnights$Setup"
  | _ => .object "WhiteKnights$Grid"
abbrev wsX10 : List Cond := u_ws RX1 TX1 2
theorem nmX1 : ∀ a, a < 2 → ∀ b, b < 2 → a ≠ b → (TX1 a).2.1 ≠ (TX1 b).2.1 := by decide +kernel
theorem tyX1_ok : ∀ k, k < 2 → parseFieldDescriptor (TX1 k).2.2.1 = some (tyX1 k) := by decide +kernel
abbrev cX1_init : ByteArray := prog_3_method_1_code
def yX1_init : MethodName := ⟨RX1, "<init>", "(LWhiteKnights$Setup;LWhiteKnights$Grid;)V"⟩
abbrev cX1_allowed : ByteArray := prog_3_method_2_code
def yX1_allowed : MethodName := ⟨RX1, "allowed", "(IIII)I"⟩
abbrev cX1_openTo : ByteArray := prog_3_method_3_code
def yX1_openTo : MethodName := ⟨RX1, "openTo", "(IIII)I"⟩
abbrev cX1_mayStand : ByteArray := prog_3_method_4_code
def yX1_mayStand : MethodName := ⟨RX1, "mayStand", "(II)Z"⟩
abbrev cX1_attackedMen : ByteArray := prog_3_method_5_code
def yX1_attackedMen : MethodName := ⟨RX1, "attackedMen", "(II)I"⟩
def RX2 : String := "WhiteKnights$Net"
def TX2 : u_T := fun k => match k with
  | 0 => ("WhiteKnights$Net", "joined", "[I", true)
  | 1 => ("WhiteKnights$Net", "grid", "LWhiteKnights$Grid;", true)
  | _ => ("WhiteKnights$Net", "holes", "I", false)
def tyX2 : Nat → FieldType := fun k => match k with
  | 0 => .array .int
  | 1 => .object "WhiteKnights$Grid"
  | _ => .int
abbrev wsX20 : List Cond := u_ws RX2 TX2 3
theorem nmX2 : ∀ a, a < 3 → ∀ b, b < 3 → a ≠ b → (TX2 a).2.1 ≠ (TX2 b).2.1 := by decide +kernel
theorem tyX2_ok : ∀ k, k < 3 → parseFieldDescriptor (TX2 k).2.2.1 = some (tyX2 k) := by decide +kernel
abbrev cX2_init : ByteArray := prog_4_method_1_code
def yX2_init : MethodName := ⟨RX2, "<init>", "(LWhiteKnights$Grid;)V"⟩
abbrev cX2_knot : ByteArray := prog_4_method_2_code
def yX2_knot : MethodName := ⟨RX2, "knot", "(II)V"⟩
abbrev cX2_partAt : ByteArray := prog_4_method_3_code
def yX2_partAt : MethodName := ⟨RX2, "partAt", "(I)I"⟩
abbrev cX2_shapeOf : ByteArray := prog_4_method_4_code
def yX2_shapeOf : MethodName := ⟨RX2, "shapeOf", "(I)I"⟩
abbrev cX2_joinsOf : ByteArray := prog_4_method_5_code
def yX2_joinsOf : MethodName := ⟨RX2, "joinsOf", "(I)I"⟩
abbrev cX2_squaresWith : ByteArray := prog_4_method_6_code
def yX2_squaresWith : MethodName := ⟨RX2, "squaresWith", "(II)I"⟩
abbrev cX2_around : ByteArray := prog_4_method_7_code
def yX2_around : MethodName := ⟨RX2, "around", "(II)I"⟩
abbrev cX2_stepsTo : ByteArray := prog_4_method_8_code
def yX2_stepsTo : MethodName := ⟨RX2, "stepsTo", "(II)I"⟩
def RX3 : String := "WhiteKnights$Reader"
def TX3 : u_T := fun k => match k with
  | 0 => ("WhiteKnights$Reader", "draft", "LWhiteKnights$Setup;", true)
  | 1 => ("WhiteKnights$Reader", "faultAt", "I", false)
  | 2 => ("WhiteKnights$Reader", "lines", "I", false)
  | _ => ("WhiteKnights$Reader", "text", "LWhiteKnights$Text;", true)
def tyX3 : Nat → FieldType := fun k => match k with
  | 0 => .object "WhiteKnights$Setup"
  | 1 => .int
  | 2 => .int
  | _ => .object "WhiteKnights$Text"
abbrev wsX30 : List Cond := u_ws RX3 TX3 4
theorem nmX3 : ∀ a, a < 4 → ∀ b, b < 4 → a ≠ b → (TX3 a).2.1 ≠ (TX3 b).2.1 := by decide +kernel
theorem tyX3_ok : ∀ k, k < 4 → parseFieldDescriptor (TX3 k).2.2.1 = some (tyX3 k) := by decide +kernel
abbrev cX3_init : ByteArray := prog_5_method_1_code
def yX3_init : MethodName := ⟨RX3, "<init>", "(LWhiteKnights$Text;)V"⟩
abbrev cX3_read : ByteArray := prog_5_method_2_code
def yX3_read : MethodName := ⟨RX3, "read", "(LWhiteKnights$Setup;)V"⟩
abbrev cX3_readBehindLine : ByteArray := prog_5_method_3_code
def yX3_readBehindLine : MethodName := ⟨RX3, "readBehindLine", "()Z"⟩
abbrev cX3_readLine : ByteArray := prog_5_method_4_code
def yX3_readLine : MethodName := ⟨RX3, "readLine", "()V"⟩
abbrev cX3_readSize : ByteArray := prog_5_method_5_code
def yX3_readSize : MethodName := ⟨RX3, "readSize", "()V"⟩
abbrev cX3_readHole : ByteArray := prog_5_method_6_code
def yX3_readHole : MethodName := ⟨RX3, "readHole", "()V"⟩
abbrev cX3_readMan : ByteArray := prog_5_method_7_code
def yX3_readMan : MethodName := ⟨RX3, "readMan", "(I)V"⟩
abbrev cX3_isHole : ByteArray := prog_5_method_8_code
def yX3_isHole : MethodName := ⟨RX3, "isHole", "(I)Z"⟩
abbrev cX3_readNumber : ByteArray := prog_5_method_9_code
def yX3_readNumber : MethodName := ⟨RX3, "readNumber", "(II)I"⟩
abbrev cX3_refuseIf : ByteArray := prog_5_method_10_code
def yX3_refuseIf : MethodName := ⟨RX3, "refuseIf", "(Z)V"⟩
def RX4 : String := "WhiteKnights$Search"
def TX4 : u_T := fun k => match k with
  | 0 => ("WhiteKnights$Search", "told", "LWhiteKnights$Setup;", true)
  | 1 => ("WhiteKnights$Search", "laws", "LWhiteKnights$Laws;", true)
  | 2 => ("WhiteKnights$Search", "seen", "[I", true)
  | 3 => ("WhiteKnights$Search", "codes", "[I", true)
  | 4 => ("WhiteKnights$Search", "parents", "[I", true)
  | 5 => ("WhiteKnights$Search", "depths", "[I", true)
  | 6 => ("WhiteKnights$Search", "size", "I", false)
  | _ => ("WhiteKnights$Search", "exploredHoles", "I", false)
def tyX4 : Nat → FieldType := fun k => match k with
  | 0 => .object "WhiteKnights$Setup"
  | 1 => .object "WhiteKnights$Laws"
  | 2 => .array .int
  | 3 => .array .int
  | 4 => .array .int
  | 5 => .array .int
  | 6 => .int
  | _ => .int
abbrev wsX40 : List Cond := u_ws RX4 TX4 8
theorem nmX4 : ∀ a, a < 8 → ∀ b, b < 8 → a ≠ b → (TX4 a).2.1 ≠ (TX4 b).2.1 := by decide +kernel
theorem tyX4_ok : ∀ k, k < 8 → parseFieldDescriptor (TX4 k).2.2.1 = some (tyX4 k) := by decide +kernel
abbrev cX4_init : ByteArray := prog_6_method_1_code
def yX4_init : MethodName := ⟨RX4, "<init>", "(LWhiteKnights$Setup;LWhiteKnights$Laws;)V"⟩
abbrev cX4_forget : ByteArray := prog_6_method_2_code
def yX4_forget : MethodName := ⟨RX4, "forget", "()V"⟩
abbrev cX4_explore : ByteArray := prog_6_method_3_code
def yX4_explore : MethodName := ⟨RX4, "explore", "(III)V"⟩
abbrev cX4_codeOf : ByteArray := prog_6_method_4_code
def yX4_codeOf : MethodName := ⟨RX4, "codeOf", "(II)I"⟩
abbrev cX4_addHops : ByteArray := prog_6_method_5_code
def yX4_addHops : MethodName := ⟨RX4, "addHops", "(IIII)V"⟩
abbrev cX4_isNew : ByteArray := prog_6_method_6_code
def yX4_isNew : MethodName := ⟨RX4, "isNew", "(I)Z"⟩
abbrev cX4_add : ByteArray := prog_6_method_7_code
def yX4_add : MethodName := ⟨RX4, "add", "(III)V"⟩
abbrev cX4_firstHome : ByteArray := prog_6_method_8_code
def yX4_firstHome : MethodName := ⟨RX4, "firstHome", "()I"⟩
abbrev cX4_firstHomeAlike : ByteArray := prog_6_method_9_code
def yX4_firstHomeAlike : MethodName := ⟨RX4, "firstHomeAlike", "()I"⟩
abbrev cX4_allHomeAlike : ByteArray := prog_6_method_10_code
def yX4_allHomeAlike : MethodName := ⟨RX4, "allHomeAlike", "(I)Z"⟩
abbrev cX4_depthOf : ByteArray := prog_6_method_11_code
def yX4_depthOf : MethodName := ⟨RX4, "depthOf", "(I)I"⟩
abbrev cX4_howMany : ByteArray := prog_6_method_12_code
def yX4_howMany : MethodName := ⟨RX4, "howMany", "(I)I"⟩
abbrev cX4_greatestDepth : ByteArray := prog_6_method_13_code
def yX4_greatestDepth : MethodName := ⟨RX4, "greatestDepth", "()I"⟩
abbrev cX4_hopTowards : ByteArray := prog_6_method_14_code
def yX4_hopTowards : MethodName := ⟨RX4, "hopTowards", "(III)I"⟩
def RX5 : String := "WhiteKnights$Setup"
def TX5 : u_T := fun k => match k with
  | 0 => ("WhiteKnights$Setup", "columns", "I", false)
  | 1 => ("WhiteKnights$Setup", "rows", "I", false)
  | 2 => ("WhiteKnights$Setup", "holes", "I", false)
  | 3 => ("WhiteKnights$Setup", "law", "I", false)
  | 4 => ("WhiteKnights$Setup", "men", "I", false)
  | 5 => ("WhiteKnights$Setup", "starts", "I", false)
  | 6 => ("WhiteKnights$Setup", "goals", "I", false)
  | 7 => ("WhiteKnights$Setup", "kinds", "[I", true)
  | _ => ("WhiteKnights$Setup", "colours", "[I", true)
def tyX5 : Nat → FieldType := fun k => match k with
  | 0 => .int
  | 1 => .int
  | 2 => .int
  | 3 => .int
  | 4 => .int
  | 5 => .int
  | 6 => .int
  | 7 => .array .int
  | _ => .array .int
abbrev wsX50 : List Cond := u_ws RX5 TX5 9
theorem nmX5 : ∀ a, a < 9 → ∀ b, b < 9 → a ≠ b → (TX5 a).2.1 ≠ (TX5 b).2.1 := by decide +kernel
theorem tyX5_ok : ∀ k, k < 9 → parseFieldDescriptor (TX5 k).2.2.1 = some (tyX5 k) := by decide +kernel
abbrev cX5_init : ByteArray := prog_7_method_1_code
def yX5_init : MethodName := ⟨RX5, "<init>", "()V"⟩
abbrev cX5_lay : ByteArray := prog_7_method_2_code
def yX5_lay : MethodName := ⟨RX5, "lay", "(II)V"⟩
abbrev cX5_takeMenAway : ByteArray := prog_7_method_3_code
def yX5_takeMenAway : MethodName := ⟨RX5, "takeMenAway", "()V"⟩
abbrev cX5_addMan : ByteArray := prog_7_method_4_code
def yX5_addMan : MethodName := ⟨RX5, "addMan", "(IIII)V"⟩
abbrev cX5_copy : ByteArray := prog_7_method_5_code
def yX5_copy : MethodName := ⟨RX5, "copy", "(LWhiteKnights$Setup;)V"⟩
abbrev cX5_squares : ByteArray := prog_7_method_6_code
def yX5_squares : MethodName := ⟨RX5, "squares", "()I"⟩
abbrev cX5_manOf : ByteArray := prog_7_method_7_code
def yX5_manOf : MethodName := ⟨RX5, "manOf", "(II)I"⟩
abbrev cX5_taken : ByteArray := prog_7_method_8_code
def yX5_taken : MethodName := ⟨RX5, "taken", "(I)I"⟩
def RX6 : String := "WhiteKnights$Text"
def TX6 : u_T := fun k => match k with
  | 0 => ("WhiteKnights$Text", "bytes", "[I", true)
  | 1 => ("WhiteKnights$Text", "length", "I", false)
  | 2 => ("WhiteKnights$Text", "begin", "I", false)
  | _ => ("WhiteKnights$Text", "end", "I", false)
def tyX6 : Nat → FieldType := fun k => match k with
  | 0 => .array .int
  | 1 => .int
  | 2 => .int
  | _ => .int
abbrev wsX60 : List Cond := u_ws RX6 TX6 4
theorem nmX6 : ∀ a, a < 4 → ∀ b, b < 4 → a ≠ b → (TX6 a).2.1 ≠ (TX6 b).2.1 := by decide +kernel
theorem tyX6_ok : ∀ k, k < 4 → parseFieldDescriptor (TX6 k).2.2.1 = some (tyX6 k) := by decide +kernel
abbrev cX6_init : ByteArray := prog_8_method_1_code
def yX6_init : MethodName := ⟨RX6, "<init>", "()V"⟩
abbrev cX6_append : ByteArray := prog_8_method_2_code
def yX6_append : MethodName := ⟨RX6, "append", "(I)V"⟩
abbrev cX6_rewind : ByteArray := prog_8_method_3_code
def yX6_rewind : MethodName := ⟨RX6, "rewind", "()V"⟩
abbrev cX6_next : ByteArray := prog_8_method_4_code
def yX6_next : MethodName := ⟨RX6, "next", "()V"⟩
abbrev cX6_joins : ByteArray := prog_8_method_5_code
def yX6_joins : MethodName := ⟨RX6, "joins", "(II)Z"⟩
abbrev cX6_isLetter : ByteArray := prog_8_method_6_code
def yX6_isLetter : MethodName := ⟨RX6, "isLetter", "(I)Z"⟩
abbrev cX6_isDigit : ByteArray := prog_8_method_7_code
def yX6_isDigit : MethodName := ⟨RX6, "isDigit", "(I)Z"⟩
abbrev cX6_isOver : ByteArray := prog_8_method_8_code
def yX6_isOver : MethodName := ⟨RX6, "isOver", "()Z"⟩
abbrev cX6_spells : ByteArray := prog_8_method_9_code
def yX6_spells : MethodName := ⟨RX6, "spells", "(Ljava/lang/String;)Z"⟩
abbrev cX6_number : ByteArray := prog_8_method_10_code
def yX6_number : MethodName := ⟨RX6, "number", "()I"⟩
def RX7 : String := "WhiteKnights"
def TX7 : u_T := fun k => match k with
  | 0 => ("WhiteKnights", "told", "LWhiteKnights$Setup;", true)
  | 1 => ("WhiteKnights", "text", "LWhiteKnights$Text;", true)
  | 2 => ("WhiteKnights", "reader", "LWhiteKnights$Reader;", true)
  | 3 => ("WhiteKnights", "grid", "LWhiteKnights$Grid;", true)
  | 4 => ("WhiteKnights", "laws", "LWhiteKnights$Laws;", true)
  | 5 => ("WhiteKnights", "web", "LWhiteKnights$Net;", true)
  | 6 => ("WhiteKnights", "search", "LWhiteKnights$Search;", true)
  | 7 => ("WhiteKnights", "keptPositions", "[I", true)
  | 8 => ("WhiteKnights", "keptHops", "[I", true)
  | 9 => ("WhiteKnights", "kept", "[Z", true)
  | 10 => ("WhiteKnights", "rowMen", "[I", true)
  | 11 => ("WhiteKnights", "rowSquares", "[I", true)
  | 12 => ("WhiteKnights", "rowLength", "I", false)
  | 13 => ("WhiteKnights", "position", "I", false)
  | _ => ("WhiteKnights", "hops", "I", false)
def tyX7 : Nat → FieldType := fun k => match k with
  | 0 => .object "WhiteKnights$Setup"
  | 1 => .object "WhiteKnights$Text"
  | 2 => .object "WhiteKnights$Reader"
  | 3 => .object "WhiteKnights$Grid"
  | 4 => .object "WhiteKnights$Laws"
  | 5 => .object "WhiteKnights$Net"
  | 6 => .object "WhiteKnights$Search"
  | 7 => .array .int
  | 8 => .array .int
  | 9 => .array .boolean
  | 10 => .array .int
  | 11 => .array .int
  | 12 => .int
  | 13 => .int
  | _ => .int
abbrev wsX70 : List Cond := u_ws RX7 TX7 15
theorem nmX7 : ∀ a, a < 15 → ∀ b, b < 15 → a ≠ b → (TX7 a).2.1 ≠ (TX7 b).2.1 := by decide +kernel
theorem tyX7_ok : ∀ k, k < 15 → parseFieldDescriptor (TX7 k).2.2.1 = some (tyX7 k) := by decide +kernel
abbrev cX7_init : ByteArray := prog_1_method_1_code
def yX7_init : MethodName := ⟨RX7, "<init>", "()V"⟩
abbrev cX7_write : ByteArray := prog_1_method_2_code
def yX7_write : MethodName := ⟨RX7, "write", "(JI)I"⟩
abbrev cX7_erase : ByteArray := prog_1_method_3_code
def yX7_erase : MethodName := ⟨RX7, "erase", "()I"⟩
abbrev cX7_fault : ByteArray := prog_1_method_4_code
def yX7_fault : MethodName := ⟨RX7, "fault", "()I"⟩
abbrev cX7_board : ByteArray := prog_1_method_5_code
def yX7_board : MethodName := ⟨RX7, "board", "()I"⟩
abbrev cX7_square : ByteArray := prog_1_method_6_code
def yX7_square : MethodName := ⟨RX7, "square", "(II)I"⟩
abbrev cX7_man : ByteArray := prog_1_method_7_code
def yX7_man : MethodName := ⟨RX7, "man", "(II)I"⟩
abbrev cX7_as : ByteArray := prog_1_method_8_code
def yX7_as : MethodName := ⟨RX7, "as", "(II)I"⟩
abbrev cX7_may : ByteArray := prog_1_method_9_code
def yX7_may : MethodName := ⟨RX7, "may", "(I)I"⟩
abbrev cX7_hop : ByteArray := prog_1_method_10_code
def yX7_hop : MethodName := ⟨RX7, "hop", "(II)I"⟩
abbrev cX7_attacked : ByteArray := prog_1_method_11_code
def yX7_attacked : MethodName := ⟨RX7, "attacked", "()I"⟩
abbrev cX7_keep : ByteArray := prog_1_method_12_code
def yX7_keep : MethodName := ⟨RX7, "keep", "(I)I"⟩
abbrev cX7_back : ByteArray := prog_1_method_13_code
def yX7_back : MethodName := ⟨RX7, "back", "(I)I"⟩
abbrev cX7_net : ByteArray := prog_1_method_14_code
def yX7_net : MethodName := ⟨RX7, "net", "(II)I"⟩
abbrev cX7_part : ByteArray := prog_1_method_15_code
def yX7_part : MethodName := ⟨RX7, "part", "(II)I"⟩
abbrev cX7_shape : ByteArray := prog_1_method_16_code
def yX7_shape : MethodName := ⟨RX7, "shape", "(II)I"⟩
abbrev cX7_ring : ByteArray := prog_1_method_17_code
def yX7_ring : MethodName := ⟨RX7, "ring", "(III)I"⟩
abbrev cX7_turned : ByteArray := prog_1_method_18_code
def yX7_turned : MethodName := ⟨RX7, "turned", "(I)I"⟩
abbrev cX7_fewest : ByteArray := prog_1_method_19_code
def yX7_fewest : MethodName := ⟨RX7, "fewest", "()I"⟩
abbrev cX7_way : ByteArray := prog_1_method_20_code
def yX7_way : MethodName := ⟨RX7, "way", "(II)I"⟩
abbrev cX7_alike : ByteArray := prog_1_method_21_code
def yX7_alike : MethodName := ⟨RX7, "alike", "()I"⟩
abbrev cX7_many : ByteArray := prog_1_method_22_code
def yX7_many : MethodName := ⟨RX7, "many", "(I)I"⟩
abbrev cX7_farthest : ByteArray := prog_1_method_23_code
def yX7_farthest : MethodName := ⟨RX7, "farthest", "(I)I"⟩
abbrev cX7_left : ByteArray := prog_1_method_24_code
def yX7_left : MethodName := ⟨RX7, "left", "(I)I"⟩
abbrev cX7_added : ByteArray := prog_1_method_25_code
def yX7_added : MethodName := ⟨RX7, "added", "(I)I"⟩
abbrev cX7_row : ByteArray := prog_1_method_26_code
def yX7_row : MethodName := ⟨RX7, "row", "(II)I"⟩
abbrev cX7_burn : ByteArray := prog_1_method_27_code
def yX7_burn : MethodName := ⟨RX7, "burn", "()I"⟩
abbrev cX7_judge : ByteArray := prog_1_method_28_code
def yX7_judge : MethodName := ⟨RX7, "judge", "()I"⟩
abbrev cX7_count : ByteArray := prog_1_method_29_code
def yX7_count : MethodName := ⟨RX7, "count", "(I)I"⟩
abbrev cX7_noSquare : ByteArray := prog_1_method_30_code
def yX7_noSquare : MethodName := ⟨RX7, "noSquare", "(I)Z"⟩
abbrev cX7_noMan : ByteArray := prog_1_method_31_code
def yX7_noMan : MethodName := ⟨RX7, "noMan", "(I)Z"⟩
abbrev cX7_noKind : ByteArray := prog_1_method_32_code
def yX7_noKind : MethodName := ⟨RX7, "noKind", "(I)Z"⟩
abbrev cX7_bit : ByteArray := prog_1_method_33_code
def yX7_bit : MethodName := ⟨RX7, "bit", "(II)I"⟩
abbrev cX7_placeOf : ByteArray := prog_1_method_34_code
def yX7_placeOf : MethodName := ⟨RX7, "placeOf", "(II)I"⟩
abbrev cX7_moved : ByteArray := prog_1_method_35_code
def yX7_moved : MethodName := ⟨RX7, "moved", "(III)I"⟩
abbrev cX7_beginAnew : ByteArray := prog_1_method_36_code
def yX7_beginAnew : MethodName := ⟨RX7, "beginAnew", "()V"⟩
abbrev cX7_isSuch : ByteArray := prog_1_method_37_code
def yX7_isSuch : MethodName := ⟨RX7, "isSuch", "(II)Z"⟩
abbrev cX7_allAre : ByteArray := prog_1_method_38_code
def yX7_allAre : MethodName := ⟨RX7, "allAre", "(I)Z"⟩
abbrev cX7_orderIsKept : ByteArray := prog_1_method_39_code
def yX7_orderIsKept : MethodName := ⟨RX7, "orderIsKept", "(I)Z"⟩
abbrev cX7_stepsAround : ByteArray := prog_1_method_40_code
def yX7_stepsAround : MethodName := ⟨RX7, "stepsAround", "(IIII)I"⟩
abbrev cX7_menAtHome : ByteArray := prog_1_method_41_code
def yX7_menAtHome : MethodName := ⟨RX7, "menAtHome", "()I"⟩
def RX8 : String := "WhiteKnightsModel"
def TX8 : u_T := fun k => match k with
  | 0 => ("WhiteKnightsModel", "wide", "I", false)
  | 1 => ("WhiteKnightsModel", "high", "I", false)
  | 2 => ("WhiteKnightsModel", "holes", "I", false)
  | 3 => ("WhiteKnightsModel", "law", "I", false)
  | 4 => ("WhiteKnightsModel", "men", "I", false)
  | 5 => ("WhiteKnightsModel", "man", "[I", true)
  | 6 => ("WhiteKnightsModel", "bytes", "I", false)
  | 7 => ("WhiteKnightsModel", "text", "[I", true)
  | 8 => ("WhiteKnightsModel", "position", "I", false)
  | 9 => ("WhiteKnightsModel", "tokenAt", "I", false)
  | 10 => ("WhiteKnightsModel", "token", "J", false)
  | 11 => ("WhiteKnightsModel", "digits", "I", false)
  | 12 => ("WhiteKnightsModel", "number", "I", false)
  | 13 => ("WhiteKnightsModel", "faultAt", "I", false)
  | 14 => ("WhiteKnightsModel", "readMany", "I", false)
  | 15 => ("WhiteKnightsModel", "readSquares", "I", false)
  | 16 => ("WhiteKnightsModel", "readHoles", "I", false)
  | 17 => ("WhiteKnightsModel", "readMen", "I", false)
  | 18 => ("WhiteKnightsModel", "readPlace", "[I", true)
  | 19 => ("WhiteKnightsModel", "readGoal", "[I", true)
  | 20 => ("WhiteKnightsModel", "read", "[I", true)
  | 21 => ("WhiteKnightsModel", "at", "[I", true)
  | 22 => ("WhiteKnightsModel", "hops", "I", false)
  | 23 => ("WhiteKnightsModel", "image", "[I", true)
  | 24 => ("WhiteKnightsModel", "isKept", "[Z", true)
  | 25 => ("WhiteKnightsModel", "rows", "I", false)
  | 26 => ("WhiteKnightsModel", "row", "[I", true)
  | 27 => ("WhiteKnightsModel", "far", "[I", true)
  | 28 => ("WhiteKnightsModel", "line", "[I", true)
  | 29 => ("WhiteKnightsModel", "from", "[I", true)
  | 30 => ("WhiteKnightsModel", "by", "[I", true)
  | 31 => ("WhiteKnightsModel", "lined", "I", false)
  | 32 => ("WhiteKnightsModel", "tried", "[I", true)
  | _ => ("WhiteKnightsModel", "ring", "[I", true)
def tyX8 : Nat → FieldType := fun k => match k with
  | 0 => .int
  | 1 => .int
  | 2 => .int
  | 3 => .int
  | 4 => .int
  | 5 => .array .int
  | 6 => .int
  | 7 => .array .int
  | 8 => .int
  | 9 => .int
  | 10 => .long
  | 11 => .int
  | 12 => .int
  | 13 => .int
  | 14 => .int
  | 15 => .int
  | 16 => .int
  | 17 => .int
  | 18 => .array .int
  | 19 => .array .int
  | 20 => .array .int
  | 21 => .array .int
  | 22 => .int
  | 23 => .array .int
  | 24 => .array .boolean
  | 25 => .int
  | 26 => .array .int
  | 27 => .array .int
  | 28 => .array .int
  | 29 => .array .int
  | 30 => .array .int
  | 31 => .int
  | 32 => .array .int
  | _ => .array .int
abbrev wsX80 : List Cond := u_ws RX8 TX8 34
theorem nmX8 : ∀ a, a < 34 → ∀ b, b < 34 → a ≠ b → (TX8 a).2.1 ≠ (TX8 b).2.1 := by decide +kernel
theorem tyX8_ok : ∀ k, k < 34 → parseFieldDescriptor (TX8 k).2.2.1 = some (tyX8 k) := by decide +kernel
abbrev cX8_init : ByteArray := prog_10_method_1_code
def yX8_init : MethodName := ⟨RX8, "<init>", "()V"⟩
abbrev cX8_in : ByteArray := prog_10_method_2_code
def yX8_in : MethodName := ⟨RX8, "in", "(III)Z"⟩
abbrev cX8_has : ByteArray := prog_10_method_3_code
def yX8_has : MethodName := ⟨RX8, "has", "(II)Z"⟩
abbrev cX8_bits : ByteArray := prog_10_method_4_code
def yX8_bits : MethodName := ⟨RX8, "bits", "(I)I"⟩
abbrev cX8_isSquare : ByteArray := prog_10_method_5_code
def yX8_isSquare : MethodName := ⟨RX8, "isSquare", "(I)Z"⟩
abbrev cX8_isMan : ByteArray := prog_10_method_6_code
def yX8_isMan : MethodName := ⟨RX8, "isMan", "(I)Z"⟩
abbrev cX8_write : ByteArray := prog_10_method_7_code
def yX8_write : MethodName := ⟨RX8, "write", "(JI)I"⟩
abbrev cX8_erase : ByteArray := prog_10_method_8_code
def yX8_erase : MethodName := ⟨RX8, "erase", "()I"⟩
abbrev cX8_nextToken : ByteArray := prog_10_method_9_code
def yX8_nextToken : MethodName := ⟨RX8, "nextToken", "()V"⟩
abbrev cX8_fails : ByteArray := prog_10_method_10_code
def yX8_fails : MethodName := ⟨RX8, "fails", "()Z"⟩
abbrev cX8_isNumber : ByteArray := prog_10_method_11_code
def yX8_isNumber : MethodName := ⟨RX8, "isNumber", "(III)Z"⟩
abbrev cX8_isBoard : ByteArray := prog_10_method_12_code
def yX8_isBoard : MethodName := ⟨RX8, "isBoard", "(I)Z"⟩
abbrev cX8_isOf : ByteArray := prog_10_method_13_code
def yX8_isOf : MethodName := ⟨RX8, "isOf", "([III)Z"⟩
abbrev cX8_isHole : ByteArray := prog_10_method_14_code
def yX8_isHole : MethodName := ⟨RX8, "isHole", "(I)Z"⟩
abbrev cX8_isManLine : ByteArray := prog_10_method_15_code
def yX8_isManLine : MethodName := ⟨RX8, "isManLine", "(I)Z"⟩
abbrev cX8_isLine : ByteArray := prog_10_method_16_code
def yX8_isLine : MethodName := ⟨RX8, "isLine", "(I)Z"⟩
abbrev cX8_isRead : ByteArray := prog_10_method_17_code
def yX8_isRead : MethodName := ⟨RX8, "isRead", "()Z"⟩
abbrev cX8_fault : ByteArray := prog_10_method_18_code
def yX8_fault : MethodName := ⟨RX8, "fault", "()I"⟩
abbrev cX8_doLine : ByteArray := prog_10_method_19_code
def yX8_doLine : MethodName := ⟨RX8, "doLine", "(I)V"⟩
abbrev cX8_board : ByteArray := prog_10_method_20_code
def yX8_board : MethodName := ⟨RX8, "board", "()I"⟩
abbrev cX8_square : ByteArray := prog_10_method_21_code
def yX8_square : MethodName := ⟨RX8, "square", "(II)I"⟩
abbrev cX8_man : ByteArray := prog_10_method_22_code
def yX8_man : MethodName := ⟨RX8, "man", "(II)I"⟩
abbrev cX8_isOn : ByteArray := prog_10_method_23_code
def yX8_isOn : MethodName := ⟨RX8, "isOn", "(II)Z"⟩
abbrev cX8_slide : ByteArray := prog_10_method_24_code
def yX8_slide : MethodName := ⟨RX8, "slide", "(IIII)I"⟩
abbrev cX8_reachOf : ByteArray := prog_10_method_25_code
def yX8_reachOf : MethodName := ⟨RX8, "reachOf", "(III)I"⟩
abbrev cX8_takenBy : ByteArray := prog_10_method_26_code
def yX8_takenBy : MethodName := ⟨RX8, "takenBy", "([I)I"⟩
abbrev cX8_attackedBy : ByteArray := prog_10_method_27_code
def yX8_attackedBy : MethodName := ⟨RX8, "attackedBy", "([I)I"⟩
abbrev cX8_mayOf : ByteArray := prog_10_method_28_code
def yX8_mayOf : MethodName := ⟨RX8, "mayOf", "([III)I"⟩
abbrev cX8_as : ByteArray := prog_10_method_29_code
def yX8_as : MethodName := ⟨RX8, "as", "(II)I"⟩
abbrev cX8_may : ByteArray := prog_10_method_30_code
def yX8_may : MethodName := ⟨RX8, "may", "(I)I"⟩
abbrev cX8_hop : ByteArray := prog_10_method_31_code
def yX8_hop : MethodName := ⟨RX8, "hop", "(II)I"⟩
abbrev cX8_attacked : ByteArray := prog_10_method_32_code
def yX8_attacked : MethodName := ⟨RX8, "attacked", "()I"⟩
abbrev cX8_keep : ByteArray := prog_10_method_33_code
def yX8_keep : MethodName := ⟨RX8, "keep", "(I)I"⟩
abbrev cX8_back : ByteArray := prog_10_method_34_code
def yX8_back : MethodName := ⟨RX8, "back", "(I)I"⟩
abbrev cX8_joined : ByteArray := prog_10_method_35_code
def yX8_joined : MethodName := ⟨RX8, "joined", "(II)I"⟩
abbrev cX8_net : ByteArray := prog_10_method_36_code
def yX8_net : MethodName := ⟨RX8, "net", "(II)I"⟩
abbrev cX8_partOf : ByteArray := prog_10_method_37_code
def yX8_partOf : MethodName := ⟨RX8, "partOf", "(II)I"⟩
abbrev cX8_part : ByteArray := prog_10_method_38_code
def yX8_part : MethodName := ⟨RX8, "part", "(II)I"⟩
abbrev cX8_shapeOf : ByteArray := prog_10_method_39_code
def yX8_shapeOf : MethodName := ⟨RX8, "shapeOf", "(II)I"⟩
abbrev cX8_shape : ByteArray := prog_10_method_40_code
def yX8_shape : MethodName := ⟨RX8, "shape", "(II)I"⟩
abbrev cX8_lowest : ByteArray := prog_10_method_41_code
def yX8_lowest : MethodName := ⟨RX8, "lowest", "(I)I"⟩
abbrev cX8_layRing : ByteArray := prog_10_method_42_code
def yX8_layRing : MethodName := ⟨RX8, "layRing", "(II)I"⟩
abbrev cX8_ring : ByteArray := prog_10_method_43_code
def yX8_ring : MethodName := ⟨RX8, "ring", "(III)I"⟩
abbrev cX8_turned : ByteArray := prog_10_method_44_code
def yX8_turned : MethodName := ⟨RX8, "turned", "(I)I"⟩
abbrev cX8_codeOf : ByteArray := prog_10_method_45_code
def yX8_codeOf : MethodName := ⟨RX8, "codeOf", "([II)I"⟩
abbrev cX8_place : ByteArray := prog_10_method_46_code
def yX8_place : MethodName := ⟨RX8, "place", "(I)V"⟩
abbrev cX8_layLine : ByteArray := prog_10_method_47_code
def yX8_layLine : MethodName := ⟨RX8, "layLine", "()V"⟩
abbrev cX8_areHome : ByteArray := prog_10_method_48_code
def yX8_areHome : MethodName := ⟨RX8, "areHome", "(Z)Z"⟩
abbrev cX8_firstHome : ByteArray := prog_10_method_49_code
def yX8_firstHome : MethodName := ⟨RX8, "firstHome", "(Z)I"⟩
abbrev cX8_fewestBy : ByteArray := prog_10_method_50_code
def yX8_fewestBy : MethodName := ⟨RX8, "fewestBy", "(Z)I"⟩
abbrev cX8_fewest : ByteArray := prog_10_method_51_code
def yX8_fewest : MethodName := ⟨RX8, "fewest", "()I"⟩
abbrev cX8_way : ByteArray := prog_10_method_52_code
def yX8_way : MethodName := ⟨RX8, "way", "(II)I"⟩
abbrev cX8_alike : ByteArray := prog_10_method_53_code
def yX8_alike : MethodName := ⟨RX8, "alike", "()I"⟩
abbrev cX8_many : ByteArray := prog_10_method_54_code
def yX8_many : MethodName := ⟨RX8, "many", "(I)I"⟩
abbrev cX8_farthest : ByteArray := prog_10_method_55_code
def yX8_farthest : MethodName := ⟨RX8, "farthest", "(I)I"⟩
abbrev cX8_left : ByteArray := prog_10_method_56_code
def yX8_left : MethodName := ⟨RX8, "left", "(I)I"⟩
abbrev cX8_added : ByteArray := prog_10_method_57_code
def yX8_added : MethodName := ⟨RX8, "added", "(I)I"⟩
abbrev cX8_row : ByteArray := prog_10_method_58_code
def yX8_row : MethodName := ⟨RX8, "row", "(II)I"⟩
abbrev cX8_burn : ByteArray := prog_10_method_59_code
def yX8_burn : MethodName := ⟨RX8, "burn", "()I"⟩
abbrev cX8_judge : ByteArray := prog_10_method_60_code
def yX8_judge : MethodName := ⟨RX8, "judge", "()I"⟩
abbrev cX8_count : ByteArray := prog_10_method_61_code
def yX8_count : MethodName := ⟨RX8, "count", "(I)I"⟩
def RJx145de : String := "java/io/Serializable"
def TJx145de : u_T := fun k => match k with
  | _ => ("", "", "", false)
def tyJx145de : Nat → FieldType := fun k => match k with
  | _ => .int
abbrev wsJx145de0 : List Cond := u_ws RJx145de TJx145de 0
theorem nmJx145de : ∀ a, a < 0 → ∀ b, b < 0 → a ≠ b → (TJx145de a).2.1 ≠ (TJx145de b).2.1 := by decide +kernel
theorem tyJx145de_ok : ∀ k, k < 0 → parseFieldDescriptor (TJx145de k).2.2.1 = some (tyJx145de k) := by decide +kernel
def RJx9f9b0 : String := "java/lang/CharSequence"
def TJx9f9b0 : u_T := fun k => match k with
  | _ => ("", "", "", false)
def tyJx9f9b0 : Nat → FieldType := fun k => match k with
  | _ => .int
abbrev wsJx9f9b00 : List Cond := u_ws RJx9f9b0 TJx9f9b0 0
theorem nmJx9f9b0 : ∀ a, a < 0 → ∀ b, b < 0 → a ≠ b → (TJx9f9b0 a).2.1 ≠ (TJx9f9b0 b).2.1 := by decide +kernel
theorem tyJx9f9b0_ok : ∀ k, k < 0 → parseFieldDescriptor (TJx9f9b0 k).2.2.1 = some (tyJx9f9b0 k) := by decide +kernel
def RJxb160c : String := "java/lang/Comparable"
def TJxb160c : u_T := fun k => match k with
  | _ => ("", "", "", false)
def tyJxb160c : Nat → FieldType := fun k => match k with
  | _ => .int
abbrev wsJxb160c0 : List Cond := u_ws RJxb160c TJxb160c 0
theorem nmJxb160c : ∀ a, a < 0 → ∀ b, b < 0 → a ≠ b → (TJxb160c a).2.1 ≠ (TJxb160c b).2.1 := by decide +kernel
theorem tyJxb160c_ok : ∀ k, k < 0 → parseFieldDescriptor (TJxb160c k).2.2.1 = some (tyJxb160c k) := by decide +kernel
def RJ6 : String := "java/lang/Integer"
def TJ6 : u_T := fun k => match k with
  | _ => ("", "", "", false)
def tyJ6 : Nat → FieldType := fun k => match k with
  | _ => .int
abbrev wsJ60 : List Cond := u_ws RJ6 TJ6 0
theorem nmJ6 : ∀ a, a < 0 → ∀ b, b < 0 → a ≠ b → (TJ6 a).2.1 ≠ (TJ6 b).2.1 := by decide +kernel
theorem tyJ6_ok : ∀ k, k < 0 → parseFieldDescriptor (TJ6 k).2.2.1 = some (tyJ6 k) := by decide +kernel
abbrev cJ6_numberOfTrailingZeros_0f7a4 : ByteArray := prog_11_method_48_code
def yJ6_numberOfTrailingZeros_0f7a4 : MethodName := ⟨RJ6, "numberOfTrailingZeros", "(I)I"⟩
abbrev cJ6_bitCount_0f7a4 : ByteArray := prog_11_method_49_code
def yJ6_bitCount_0f7a4 : MethodName := ⟨RJ6, "bitCount", "(I)I"⟩
def RJ0 : String := "java/lang/String"
def TJ0 : u_T := fun k => match k with
  | _ => ("", "", "", false)
def tyJ0 : Nat → FieldType := fun k => match k with
  | _ => .int
abbrev wsJ00 : List Cond := u_ws RJ0 TJ0 0
theorem nmJ0 : ∀ a, a < 0 → ∀ b, b < 0 → a ≠ b → (TJ0 a).2.1 ≠ (TJ0 b).2.1 := by decide +kernel
theorem tyJ0_ok : ∀ k, k < 0 → parseFieldDescriptor (TJ0 k).2.2.1 = some (tyJ0 k) := by decide +kernel
abbrev cJ0_length_8abf5 : ByteArray := prog_12_method_54_code
def yJ0_length_8abf5 : MethodName := ⟨RJ0, "length", "()I"⟩
abbrev cJ0_charAt_5068e : ByteArray := prog_12_method_56_code
def yJ0_charAt_5068e : MethodName := ⟨RJ0, "charAt", "(I)C"⟩
abbrev cJ0_coder_7d493 : ByteArray := prog_12_method_152_code
def yJ0_coder_7d493 : MethodName := ⟨RJ0, "coder", "()B"⟩
abbrev cJ0_isLatin1_aae02 : ByteArray := prog_12_method_154_code
def yJ0_isLatin1_aae02 : MethodName := ⟨RJ0, "isLatin1", "()Z"⟩
abbrev cJ0_checkIndex_df160 : ByteArray := prog_12_method_155_code
def yJ0_checkIndex_df160 : MethodName := ⟨RJ0, "checkIndex", "(II)V"⟩
def RJ1 : String := "java/lang/StringLatin1"
def TJ1 : u_T := fun k => match k with
  | _ => ("", "", "", false)
def tyJ1 : Nat → FieldType := fun k => match k with
  | _ => .int
abbrev wsJ10 : List Cond := u_ws RJ1 TJ1 0
theorem nmJ1 : ∀ a, a < 0 → ∀ b, b < 0 → a ≠ b → (TJ1 a).2.1 ≠ (TJ1 b).2.1 := by decide +kernel
theorem tyJ1_ok : ∀ k, k < 0 → parseFieldDescriptor (TJ1 k).2.2.1 = some (tyJ1 k) := by decide +kernel
abbrev cJ1_charAt_3b067 : ByteArray := prog_13_method_2_code
def yJ1_charAt_3b067 : MethodName := ⟨RJ1, "charAt", "([BI)C"⟩
def RJ2 : String := "java/lang/StringUTF16"
def TJ2 : u_T := fun k => match k with
  | _ => ("", "", "", false)
def tyJ2 : Nat → FieldType := fun k => match k with
  | _ => .int
abbrev wsJ20 : List Cond := u_ws RJ2 TJ2 0
theorem nmJ2 : ∀ a, a < 0 → ∀ b, b < 0 → a ≠ b → (TJ2 a).2.1 ≠ (TJ2 b).2.1 := by decide +kernel
theorem tyJ2_ok : ∀ k, k < 0 → parseFieldDescriptor (TJ2 k).2.2.1 = some (tyJ2 k) := by decide +kernel
abbrev cJ2_getChar_3b067 : ByteArray := prog_14_method_5_code
def yJ2_getChar_3b067 : MethodName := ⟨RJ2, "getChar", "([BI)C"⟩
abbrev cJ2_length_9d52b : ByteArray := prog_14_method_6_code
def yJ2_length_9d52b : MethodName := ⟨RJ2, "length", "([B)I"⟩
abbrev cJ2_charAt_3b067 : ByteArray := prog_14_method_83_code
def yJ2_charAt_3b067 : MethodName := ⟨RJ2, "charAt", "([BI)C"⟩
abbrev cJ2_checkIndex_2214a : ByteArray := prog_14_method_91_code
def yJ2_checkIndex_2214a : MethodName := ⟨RJ2, "checkIndex", "(I[B)V"⟩
def RJ10 : String := "java/lang/System"
def TJ10 : u_T := fun k => match k with
  | _ => ("", "", "", false)
def tyJ10 : Nat → FieldType := fun k => match k with
  | _ => .int
abbrev wsJ100 : List Cond := u_ws RJ10 TJ10 0
theorem nmJ10 : ∀ a, a < 0 → ∀ b, b < 0 → a ≠ b → (TJ10 a).2.1 ≠ (TJ10 b).2.1 := by decide +kernel
theorem tyJ10_ok : ∀ k, k < 0 → parseFieldDescriptor (TJ10 k).2.2.1 = some (tyJ10 k) := by decide +kernel
def RJxfd54e : String := "java/lang/constant/Constable"
def TJxfd54e : u_T := fun k => match k with
  | _ => ("", "", "", false)
def tyJxfd54e : Nat → FieldType := fun k => match k with
  | _ => .int
abbrev wsJxfd54e0 : List Cond := u_ws RJxfd54e TJxfd54e 0
theorem nmJxfd54e : ∀ a, a < 0 → ∀ b, b < 0 → a ≠ b → (TJxfd54e a).2.1 ≠ (TJxfd54e b).2.1 := by decide +kernel
theorem tyJxfd54e_ok : ∀ k, k < 0 → parseFieldDescriptor (TJxfd54e k).2.2.1 = some (tyJxfd54e k) := by decide +kernel
def RJx3cf43 : String := "java/lang/constant/ConstantDesc"
def TJx3cf43 : u_T := fun k => match k with
  | _ => ("", "", "", false)
def tyJx3cf43 : Nat → FieldType := fun k => match k with
  | _ => .int
abbrev wsJx3cf430 : List Cond := u_ws RJx3cf43 TJx3cf43 0
theorem nmJx3cf43 : ∀ a, a < 0 → ∀ b, b < 0 → a ≠ b → (TJx3cf43 a).2.1 ≠ (TJx3cf43 b).2.1 := by decide +kernel
theorem tyJx3cf43_ok : ∀ k, k < 0 → parseFieldDescriptor (TJx3cf43 k).2.2.1 = some (tyJx3cf43 k) := by decide +kernel
def RJ7 : String := "java/util/Arrays"
def TJ7 : u_T := fun k => match k with
  | _ => ("", "", "", false)
def tyJ7 : Nat → FieldType := fun k => match k with
  | _ => .int
abbrev wsJ70 : List Cond := u_ws RJ7 TJ7 0
theorem nmJ7 : ∀ a, a < 0 → ∀ b, b < 0 → a ≠ b → (TJ7 a).2.1 ≠ (TJ7 b).2.1 := by decide +kernel
theorem tyJ7_ok : ∀ k, k < 0 → parseFieldDescriptor (TJ7 k).2.2.1 = some (tyJ7 k) := by decide +kernel
abbrev cJ7_fill_53178 : ByteArray := prog_16_method_103_code
def yJ7_fill_53178 : MethodName := ⟨RJ7, "fill", "([II)V"⟩
def RJ3 : String := "jdk/internal/util/Preconditions"
def TJ3 : u_T := fun k => match k with
  | _ => ("", "", "", false)
def tyJ3 : Nat → FieldType := fun k => match k with
  | _ => .int
abbrev wsJ30 : List Cond := u_ws RJ3 TJ3 0
theorem nmJ3 : ∀ a, a < 0 → ∀ b, b < 0 → a ≠ b → (TJ3 a).2.1 ≠ (TJ3 b).2.1 := by decide +kernel
theorem tyJ3_ok : ∀ k, k < 0 → parseFieldDescriptor (TJ3 k).2.2.1 = some (tyJ3 k) := by decide +kernel
abbrev cJ3_checkIndex_8e157 : ByteArray := prog_17_method_11_code
def yJ3_checkIndex_8e157 : MethodName := ⟨RJ3, "checkIndex", "(IILjava/util/function/BiFunction;)I"⟩
def RL : String := "WhiteKnightsLaw"
abbrev cL_law : ByteArray := code
def yL_law : MethodName := ⟨RL, "law", "([I)Z"⟩
abbrev vwCl : List vw_C := [(RX0, TX0, 1), (RX1, TX1, 2), (RX2, TX2, 3), (RX3, TX3, 4), (RX4, TX4, 8), (RX5, TX5, 9), (RX6, TX6, 4), (RX7, TX7, 15), (RX8, TX8, 34)]
end
section
/-! the abstract heap: an int for each cell of ours and each slot; one long -/
abbrev Hp : Type := (Nat → Nat → Int32) × Int64
abbrev Rs : Type := Int32 × Hp
def rd (h : Hp) (o k : Nat) : Int32 := h.1 o k
def wrow (h : Hp) (o : Nat) (f : Nat → Int32) : Hp := (fun a => if a = o then f else h.1 a, h.2)
def wr (h : Hp) (o k : Nat) (v : Int32) : Hp := wrow h o (upd (h.1 o) k v)
def wrl (h : Hp) (v : Int64) : Hp := (h.1, v)
/-- a value is named; a call's answer and heap are named; a place is in its bounds -/
def lt {α β : Type} (x : α) (k : α → β) : β := k x
def cl (a : Option Rs) (k : Int32 → Hp → Option Rs) : Option Rs := match a with
  | none => none
  | some z => k z.1 z.2
def ib (i : Int32) (n : Nat) : Bool := decide (0 ≤ i.toInt) && decide (i.toInt < n)
abbrev ix (i : Int32) : Nat := i.toNatClampNeg
theorem ib_in {i : Int32} {n : Nat} (h : ib i n = true) : vp_in i n := by
  simp only [ib, Bool.and_eq_true, decide_eq_true_eq] at h
  exact vp_in_iff.mpr h
theorem cl_ok {a : Option Rs} {k : Int32 → Hp → Option Rs} {z : Rs} (e : cl a k = some z) : ∃ r h, a = some (r, h) ∧ k r h = some z := by
  cases a with
  | none => cases e
  | some q => exact ⟨q.1, q.2, rfl, e⟩
theorem if_ok {c : Prop} [Decidable c] {a : Option Rs} {z : Rs} (e : (if c then a else none) = some z) : c ∧ a = some z := by
  by_cases hc : c
  · rw [if_pos hc] at e; exact ⟨hc, e⟩
  · rw [if_neg hc] at e; cases e
/-! the places: where our cells are, the classes' numbers, the tables, the texts, the least address of ours -/
abbrev Gx : Type := (Nat → Nat) × va_G × ClassId × ClassId × (Nat → Nat) × (Nat → Nat) × (Nat → Nat) × Nat
abbrev gAd (G : Gx) : Nat → Nat := G.1
abbrev gD (G : Gx) : va_G := G.2.1
abbrev gI (G : Gx) : ClassId := G.2.2.1
abbrev gZ (G : Gx) : ClassId := G.2.2.2.1
abbrev gSa (G : Gx) : Nat → Nat := G.2.2.2.2.1
abbrev gK (G : Gx) : Nat → Nat := G.2.2.2.2.2.1
abbrev gV (G : Gx) : Nat → Nat := G.2.2.2.2.2.2.1
def gA (G : Gx) : Nat → Prop := fun q => G.2.2.2.2.2.2.2 ≤ q
def cel (G : Gx) (h : Hp) : Nat → va_E
  | 0 => .inr (7, [.ref (G.1 1), .ref (G.1 4), .ref (G.1 6), .ref (G.1 10), .ref (G.1 12), .ref (G.1 13), .ref (G.1 15), .ref (G.1 20), .ref (G.1 21), .ref (G.1 22), .ref (G.1 23), .ref (G.1 24), .int (h.1 0 12), .int (h.1 0 13), .int (h.1 0 14)])
  | 1 => .inr (5, [.int (h.1 1 0), .int (h.1 1 1), .int (h.1 1 2), .int (h.1 1 3), .int (h.1 1 4), .int (h.1 1 5), .int (h.1 1 6), .ref (G.1 2), .ref (G.1 3)])
  | 2 => .inl (gI G, 4, .inl (h.1 2))
  | 3 => .inl (gI G, 4, .inl (h.1 3))
  | 4 => .inr (6, [.ref (G.1 5), .int (h.1 4 1), .int (h.1 4 2), .int (h.1 4 3)])
  | 5 => .inl (gI G, 200, .inl (h.1 5))
  | 6 => .inr (3, [.ref (G.1 7), .int (h.1 6 1), .int (h.1 6 2), .ref (G.1 4)])
  | 7 => .inr (5, [.int (h.1 7 0), .int (h.1 7 1), .int (h.1 7 2), .int (h.1 7 3), .int (h.1 7 4), .int (h.1 7 5), .int (h.1 7 6), .ref (G.1 8), .ref (G.1 9)])
  | 8 => .inl (gI G, 4, .inl (h.1 8))
  | 9 => .inl (gI G, 4, .inl (h.1 9))
  | 10 => .inr (0, [.ref (G.1 11)])
  | 11 => .inl (gI G, 192, .inl (h.1 11))
  | 12 => .inr (1, [.ref (G.1 1), .ref (G.1 10)])
  | 13 => .inr (2, [.ref (G.1 14), .ref (G.1 10), .int (h.1 13 2)])
  | 14 => .inl (gI G, 12, .inl (h.1 14))
  | 15 => .inr (4, [.ref (G.1 1), .ref (G.1 12), .ref (G.1 16), .ref (G.1 17), .ref (G.1 18), .ref (G.1 19), .int (h.1 15 6), .int (h.1 15 7)])
  | 16 => .inl (gI G, 4096, .inl (h.1 16))
  | 17 => .inl (gI G, 23760, .inl (h.1 17))
  | 18 => .inl (gI G, 23760, .inl (h.1 18))
  | 19 => .inl (gI G, 23760, .inl (h.1 19))
  | 20 => .inl (gI G, 2, .inl (h.1 20))
  | 21 => .inl (gI G, 2, .inl (h.1 21))
  | 22 => .inl (gZ G, 2, .inl (h.1 22))
  | 23 => .inl (gI G, 12, .inl (h.1 23))
  | 24 => .inl (gI G, 12, .inl (h.1 24))
  | 25 => .inr (8, [.int (h.1 25 0), .int (h.1 25 1), .int (h.1 25 2), .int (h.1 25 3), .int (h.1 25 4), .ref (G.1 26), .int (h.1 25 6), .ref (G.1 27), .int (h.1 25 8), .int (h.1 25 9), .long h.2, .int (h.1 25 11), .int (h.1 25 12), .int (h.1 25 13), .int (h.1 25 14), .int (h.1 25 15), .int (h.1 25 16), .int (h.1 25 17), .ref (G.1 28), .ref (G.1 29), .ref (G.1 30), .ref (G.1 31), .int (h.1 25 22), .ref (G.1 32), .ref (G.1 33), .int (h.1 25 25), .ref (G.1 34), .ref (G.1 35), .ref (G.1 36), .ref (G.1 37), .ref (G.1 38), .int (h.1 25 31), .ref (G.1 39), .ref (G.1 40)])
  | 26 => .inl (gI G, 16, .inl (h.1 26))
  | 27 => .inl (gI G, 200, .inl (h.1 27))
  | 28 => .inl (gI G, 4, .inl (h.1 28))
  | 29 => .inl (gI G, 4, .inl (h.1 29))
  | 30 => .inl (gI G, 48, .inl (h.1 30))
  | 31 => .inl (gI G, 4, .inl (h.1 31))
  | 32 => .inl (gI G, 10, .inl (h.1 32))
  | 33 => .inl (gZ G, 2, .inl (h.1 33))
  | 34 => .inl (gI G, 24, .inl (h.1 34))
  | 35 => .inl (gI G, 41472, .inl (h.1 35))
  | 36 => .inl (gI G, 41472, .inl (h.1 36))
  | 37 => .inl (gI G, 41472, .inl (h.1 37))
  | 38 => .inl (gI G, 41472, .inl (h.1 38))
  | 39 => .inl (gI G, 4, .inl (h.1 39))
  | 40 => .inl (gI G, 12, .inl (h.1 40))
  | _ => .inl (gI G, 0, .inl (fun _ => 0))
def wld (G : Gx) (h : Hp) : va_W := (List.range 41).map (fun i => (G.1 i, cel G h i))
theorem wld_at {G : Gx} {h : Hp} {o : Nat} (ho : o < 41) : (wld G h)[o]? = some (G.1 o, cel G h o) := by
  simp [wld, ho]
theorem wld_set {G : Gx} {h h1 : Hp} {o : Nat} (ho : o < 41) {x : va_E} (hx : cel G h1 o = x) (hne : ∀ i, i < 41 → i ≠ o → cel G h1 i = cel G h i) : (wld G h).set o (G.1 o, x) = wld G h1 := by
  apply List.ext_getElem?
  intro i
  by_cases hi : i = o
  · subst hi
    rw [wld_at ho, List.getElem?_set_self (by simp [wld, ho]), hx]
  · rw [List.getElem?_set_ne (Ne.symm hi)]
    by_cases hl : i < 41
    · rw [wld_at hl, wld_at hl, hne i hl hi]
    · simp [wld, hl]
theorem cel_congr {G : Gx} {h h1 : Hp} {i : Nat} (e1 : h1.1 i = h.1 i) (e2 : h1.2 = h.2) : cel G h1 i = cel G h i := by
  unfold cel
  split <;> simp only [e1, e2]
theorem cel_row {G : Gx} {h : Hp} {o : Nat} {f : Nat → Int32} : ∀ i, i < 41 → i ≠ o → cel G (wrow h o f) i = cel G h i := fun i _ hi => cel_congr (by simp [wrow, hi]) rfl
theorem cel_long {G : Gx} {h : Hp} {v : Int64} : ∀ i, i < 41 → i ≠ 25 → cel G (wrl h v) i = cel G h i := by
  intro i _ hi
  unfold cel
  split <;> first | rfl | exact absurd rfl hi
def tabL : List (List Int32) := [[-1, 0, 1, 1, 0, 4, 4], [2, 3, 5, 6], [1, 2, 2, 1, -1, -2, -2, -1, 0, 1, 0, -1, 1, 1, -1, -1], [-2, -1, 1, 2, 2, 1, -1, -2, -1, 0, 1, 0, -1, 1, 1, -1], [0, 8, 8, 12], [8, 16, 12, 16], [1, 1, 3, 3]]
def tabN : List (String × String) := [("WhiteKnights", "OVER"), ("WhiteKnights", "AS_KIND"), ("WhiteKnights$Grid", "ACROSS"), ("WhiteKnights$Grid", "DOWN"), ("WhiteKnights$Grid", "FIRST_DIRECTION"), ("WhiteKnights$Grid", "BEHIND_DIRECTION"), ("WhiteKnights$Grid", "MOST_STEPS")]
def tb (k : Nat) (j : Nat) : Int32 := (tabL.getD k []).getD j 0
def tbC (k : Nat) : String := (tabN.getD k ("", "")).1
def tbM (k : Nat) : String := (tabN.getD k ("", "")).2
def tbLen (k : Nat) : Nat := (tabL.getD k []).length
def stL : List (Nat × String × Nat × List Int32) := [(61, "board", 5, [98, 111, 97, 114, 100]), (66, "hole", 4, [104, 111, 108, 101]), (71, "knight", 6, [107, 110, 105, 103, 104, 116]), (77, "king", 4, [107, 105, 110, 103]), (79, "rook", 4, [114, 111, 111, 107]), (81, "bishop", 6, [98, 105, 115, 104, 111, 112]), (83, "free", 4, [102, 114, 101, 101]), (88, "turns", 5, [116, 117, 114, 110, 115]), (90, "safe", 4, [115, 97, 102, 101]), (92, "bare", 4, [98, 97, 114, 101]), (51, ";", 1, [59])]
def stI (i : Nat) : Nat := (stL.getD i (0, "", 0, [])).1
def stX (i : Nat) : String := (stL.getD i (0, "", 0, [])).2.1
def stLen : List Nat := stL.map (fun q => q.2.2.1)
def stByt : List (List Int32) := stL.map (fun q => q.2.2.2)
def SA (G : Gx) (U : State) (H : Heap) : Prop := ∀ k, k < 7 → va_Z (tbC k) (tbM k) "[I" (.ref (gSa G k)) (gA G) U H ∧ va_T .int (gSa G k) (tbLen k) (fun j => .int (tb k j)) (gA G) U H
def nestT : List (String × Nat × MethodName × String) := [(RX0, 27, yX7_noKind, "WhiteKnights"), (RX0, 40, yX7_bit, "WhiteKnights"), (RX1, 23, yX7_bit, "WhiteKnights"), (RX1, 27, yX7_moved, "WhiteKnights"), (RX1, 52, yX7_placeOf, "WhiteKnights"), (RX2, 23, yX7_bit, "WhiteKnights"), (RX3, 132, yX7_bit, "WhiteKnights"), (RX4, 76, yX7_bit, "WhiteKnights"), (RX4, 79, yX7_moved, "WhiteKnights"), (RX4, 93, yX7_placeOf, "WhiteKnights"), (RX5, 43, yX7_moved, "WhiteKnights"), (RX5, 53, yX7_placeOf, "WhiteKnights")]
def Nst (U : State) : Prop := ∀ q ∈ nestT, va_Nw (.methodLinkNest q.1 q.2.1 q.2.2.1 q.2.2.2) U
def Str (G : Gx) (U : State) (H : Heap) : Prop := vk_S 11 stLen stByt (gK G) (gV G) (gA G) U H ∧ va_Z "java/lang/String" "COMPACT_STRINGS" "Z" (.int 1) (gA G) U H ∧ va_Zq "jdk/internal/util/Preconditions" "SIOOBE_FORMATTER" "Ljava/util/function/BiFunction;" (gA G) U H
def StR (G : Gx) (U : State) : Prop := ∀ i, i < 11 → vk_R RX3 (stI i) (stX i) (gK G i) U
def Rv (G : Gx) (U : State) : Prop := va_K (gD G) vwCl [(gI G, .int), (gZ G, .boolean)] U ∧ (∀ h, va_D (gA G) (wld G h)) ∧ SA G U U.heap ∧ Nst U ∧ Str G U U.heap ∧ StR G U
def Rh (G : Gx) (h : Hp) (H : Heap) : Prop := va_P (gD G) vwCl (wld G h) H
theorem SA.kept {G : Gx} {U : State} {H H1 : Heap} (h : SA G U H) (hq : ∀ a : Nat, a < H.size → ¬ gA G a → H1[a]? = H[a]?) : SA G U H1 := fun k hk => ⟨(h k hk).1.kept hq, (h k hk).2.kept hq⟩
theorem Str.kept {G : Gx} {U : State} {H H1 : Heap} (h : Str G U H) (hq : ∀ a : Nat, a < H.size → ¬ gA G a → H1[a]? = H[a]?) : Str G U H1 := ⟨h.1.kept hq, h.2.1.kept hq, h.2.2.kept hq⟩
/-- the static part moves to a callee's entry -/
theorem Rv.moves {G : Gx} {s U : State} {H : Heap} {locs : List Loc} (h : Rv G s) (hU : U.heap = H) (hW : s.WarmedH U.vm) (hS : va_S (gA G) s.heap H locs) : Rv G U := by
  obtain ⟨h1, h2, h3, h4, h5, h6⟩ := h
  have h3 := h3.kept hS.2.1
  have h5 := h5.kept hS.2.1
  rw [← hU] at h3 h5
  exact ⟨va_K.moved hW.alike h1, h2, fun k hk => ⟨va_Z.moved hW.alike (h3 k hk).1, va_T.moved hW.alike (h3 k hk).2⟩, fun q hq => va_Nw.warmM hW (h4 q hq), ⟨vk_S.moved hW.alike h5.1, va_Z.moved hW.alike h5.2.1, va_Zq.moved hW.alike h5.2.2⟩, fun i hi => vk_R.warm hW (h6 i hi)⟩
theorem Rv.calling {G : Gx} {U : State} (h : Rv G U) (g : JFrame) (mk : MethodId) (a : Array Value) : Rv G (U.calling g mk a) := by
  obtain ⟨h1, h2, h3, h4, h5, h6⟩ := h
  have al : U.vm.Alike (U.calling g mk a).vm := Vm.Alike.refl U.vm
  exact ⟨va_K.moved al h1, h2, fun k hk => ⟨va_Z.moved al (h3 k hk).1, va_T.moved al (h3 k hk).2⟩, fun q hq => va_Nw.same rfl rfl (h4 q hq), ⟨vk_S.moved al h5.1, va_Z.moved al h5.2.1, va_Zq.moved al h5.2.2⟩, fun i hi => vk_R.same rfl (h6 i hi)⟩
/-! the judgement -/
abbrev Cx : Type := Program × Launch × Env × Room × State × MethodId × Array Value × List Frame × Method × Code × Nat × Nat
def V (X : Cx) (G : Gx) (nL : Nat) (Q : State → Prop) (h : Hp) (pc : Nat) (lv : List (Nat × Value)) (st : List Value) : Prop :=
  ∀ (ls : Array Slot) (H : Heap) (locs : List Loc), lv_has ls nL lv → Rh G h H → va_S (gA G) X.2.2.2.2.1.heap H locs → W X.1 X.2.1 X.2.2.1 X.2.2.2.1 X.2.2.2.2.1 X.2.2.2.2.2.1 X.2.2.2.2.2.2.1 X.2.2.2.2.2.2.2.1 X.2.2.2.2.2.2.2.2.1 X.2.2.2.2.2.2.2.2.2.1 H locs X.2.2.2.2.2.2.2.2.2.2.1 X.2.2.2.2.2.2.2.2.2.2.2 Q (F0 X.2.2.2.2.2.1 pc ls st)
def Ok (X : Cx) (G : Gx) (cc : ByteArray) (own : String) (nL : Nat) (Ts : List Cond) (ret : Option FieldType) (R0 : Room) : Prop :=
  X.1.tables.exec = Jvm.exec ∧ X.2.2.2.2.2.2.2.2.2.1.code = cc ∧ X.2.2.2.2.2.2.2.2.2.1.maxLocals = nL ∧ X.2.2.2.2.1.vm.findClass own = some X.2.2.2.2.2.1.cls ∧ (∀ w ∈ Ts, w.before X.2.2.2.2.2.2.1 X.2.2.2.2.1 = true) ∧ Rv G X.2.2.2.2.1 ∧ X.2.2.2.2.2.2.2.2.1.locks = false ∧ X.2.2.2.2.2.2.2.2.1.sig.returnType = ret ∧ X.2.2.2.1 = R0 ∧ X.2.2.2.2.2.2.2.2.2.2.1 ≤ R0.cells ∧ X.2.2.2.2.2.2.2.2.2.2.2 ≤ R0.slots
/-- a method's end: its answer and heap are z -/
def qI (G : Gx) (z : Rs) : Array Value → State → Outcome → State → Prop := va_Qi (fun r u => r = z.1 ∧ u = z.2) (fun u t => Rh G u t.heap) (gA G)
def qV (G : Gx) (z : Rs) : Array Value → State → Outcome → State → Prop := va_Qv (fun u => u = z.2) (fun u t => Rh G u t.heap) (gA G)
def QI (X : Cx) (G : Gx) (z : Rs) : State → Prop := MQ X.2.2.2.2.2.2.2.1 (qI G z) X.2.2.2.2.2.2.1 X.2.2.2.2.1 X.2.2.2.2.2.2.2.2.2.2.1 X.2.2.2.2.2.2.2.2.2.2.2 (gA G)
def QV (X : Cx) (G : Gx) (z : Rs) : State → Prop := MQ X.2.2.2.2.2.2.2.1 (qV G z) X.2.2.2.2.2.2.1 X.2.2.2.2.1 X.2.2.2.2.2.2.2.2.2.2.1 X.2.2.2.2.2.2.2.2.2.2.2 (gA G)
def pre (G : Gx) (av : List Value) (h : Hp) : Array Value → State → Prop := va_Pc av (fun U => Rh G h U.heap ∧ Rv G U)
def CI (l : Launch) (G : Gx) (y : MethodName) (ws : List Cond) (rm : Room) (av : List Value) (h : Hp) (z : Rs) : Prop := Met l y ws rm (pre G av h) (qI G z) 0 0 (gA G)
def CV (l : Launch) (G : Gx) (y : MethodName) (ws : List Cond) (rm : Room) (av : List Value) (h : Hp) (z : Rs) : Prop := Met l y ws rm (pre G av h) (qV G z) 0 0 (gA G)
theorem pre_blind {G : Gx} {av : List Value} {h : Hp} : FrameBlind (pre G av h) := fun a U g mk q => ⟨q.1, q.2.1, q.2.2.calling g mk a⟩
/-- a field's words: its class's layout, its class's place, its link -/
def FdO (Ts : List Cond) (own : String) (index : Nat) (C : String) (T : u_T) (N ci k : Nat) : Prop := (∀ w ∈ u_ws C T N, w ∈ Ts) ∧ vwCl[ci]? = some (C, T, N) ∧ k < N ∧ Cond.fieldLink own index (T k).1 (T k).2.1 (T k).2.2.1 ∈ Ts
def FpO (T : u_T) (N k : Nat) (ty0 : Nat → FieldType) (ty : FieldType) : Prop := (∀ k, k < N → parseFieldDescriptor (T k).2.2.1 = some (ty0 k)) ∧ (∀ a, a < N → ∀ b, b < N → a ≠ b → (T a).2.1 ≠ (T b).2.1) ∧ (T k).2.2.2 = false ∧ parseFieldDescriptor (T k).2.2.1 = some ty
def zk (x : Int32) : Bool := x == 0 || x == 1
theorem zk_nar {x : Int32} (h : zk x = true) : narrow .boolean (.int x) = .int x := by
  simp only [zk, Bool.or_eq_true, beq_iff_eq] at h
  rcases h with rfl | rfl <;> rfl
section ROWS
variable {X : Cx} {G : Gx} {nL : Nat} {Q : State → Prop} {h : Hp} {pc : Nat} {lv : List (Nat × Value)} {st : List Value} {cc : ByteArray} {own : String} {Ts : List Cond} {ret : Option FieldType} {R0 : Room} {z : Rs}

theorem v_iconst (O : Ok X G cc own nL Ts ret R0) {n : Int} {v : Int32} (hdg : decode cc pc = .ok (.iconst n, 1)) (hv : Int32.ofInt n = v) (k : V X G nL Q h (pc + 1) lv (.int v :: st)) : V X G nL Q h pc lv (st) := fun ls H locs hl hR hS => lv_iconst O.1 O.2.1 hdg hv (k ls H locs hl hR hS)
theorem v_bipush (O : Ok X G cc own nL Ts ret R0) {n : Int} {v : Int32} (hdg : decode cc pc = .ok (.bipush n, 2)) (hv : (Int8.ofInt n).toInt32 = v) (k : V X G nL Q h (pc + 2) lv (.int v :: st)) : V X G nL Q h pc lv (st) := fun ls H locs hl hR hS => lv_bipush O.1 O.2.1 hdg hv (k ls H locs hl hR hS)
theorem v_sipush (O : Ok X G cc own nL Ts ret R0) {n : Int} {v : Int32} (hdg : decode cc pc = .ok (.sipush n, 3)) (hv : (Int16.ofInt n).toInt32 = v) (k : V X G nL Q h (pc + 3) lv (.int v :: st)) : V X G nL Q h pc lv (st) := fun ls H locs hl hR hS => lv_sipush O.1 O.2.1 hdg hv (k ls H locs hl hR hS)
theorem v_lconst (O : Ok X G cc own nL Ts ret R0) {n : Fin 2} {v : Int64} (hdg : decode cc pc = .ok (.lconst n, 1)) (hv : Int64.ofNat (n : Nat) = v) (k : V X G nL Q h (pc + 1) lv (.long v :: st)) : V X G nL Q h pc lv (st) := fun ls H locs hl hR hS => lv_lconst O.1 O.2.1 hdg hv (k ls H locs hl hR hS)
theorem v_ldc (O : Ok X G cc own nL Ts ret R0) {index : Nat} {v : Int32} (hdg : decode cc pc = .ok (.ldc index, 2)) (hw : Cond.constant own index v ∈ Ts) (k : V X G nL Q h (pc + 2) lv (.int v :: st)) : V X G nL Q h pc lv (st) := fun ls H locs hl hR hS => lv_ldc O.1 O.2.1 O.2.2.2.1 (O.2.2.2.2.1 _ hw) hdg (k ls H locs hl hR hS)
theorem v_ldcw (O : Ok X G cc own nL Ts ret R0) {index : Nat} {v : Int32} (hdg : decode cc pc = .ok (.ldc_w index, 3)) (hw : Cond.constant own index v ∈ Ts) (k : V X G nL Q h (pc + 3) lv (.int v :: st)) : V X G nL Q h pc lv (st) := fun ls H locs hl hR hS => lv_ldcw O.1 O.2.1 O.2.2.2.1 (O.2.2.2.2.1 _ hw) hdg (k ls H locs hl hR hS)
theorem v_ldc2 (O : Ok X G cc own nL Ts ret R0) {index : Nat} {v : Int64} (hdg : decode cc pc = .ok (.ldc2_w index, 3)) (hw : Cond.constantLong own index v ∈ Ts) (k : V X G nL Q h (pc + 3) lv (.long v :: st)) : V X G nL Q h pc lv (st) := fun ls H locs hl hR hS => lv_ldc2 O.1 O.2.1 O.2.2.2.1 (O.2.2.2.2.1 _ hw) hdg (k ls H locs hl hR hS)
theorem v_iload_n (O : Ok X G cc own nL Ts ret R0) {kk : Fin 4} {i : Nat} {x : Int32} (hdg : decode cc pc = .ok (.iload_n kk, 1)) (j : Nat) (hi : (kk : Nat) = i) (hj : lv[j]? = some (i, .int x)) (k : V X G nL Q h (pc + 1) lv (.int x :: st)) : V X G nL Q h pc lv (st) := fun ls H locs hl hR hS => lv_iload_n O.1 O.2.1 hdg hi (lv_at hl j hj) (k ls H locs hl hR hS)
theorem v_iload (O : Ok X G cc own nL Ts ret R0) {i : Nat} {x : Int32} (hdg : decode cc pc = .ok (.iload i, 2)) (j : Nat) (hj : lv[j]? = some (i, .int x)) (k : V X G nL Q h (pc + 2) lv (.int x :: st)) : V X G nL Q h pc lv (st) := fun ls H locs hl hR hS => lv_iload O.1 O.2.1 hdg (lv_at hl j hj) (k ls H locs hl hR hS)
theorem v_lload_n (O : Ok X G cc own nL Ts ret R0) {kk : Fin 4} {i : Nat} {x : Int64} (hdg : decode cc pc = .ok (.lload_n kk, 1)) (j : Nat) (hi : (kk : Nat) = i) (hj : lv[j]? = some (i, .long x)) (k : V X G nL Q h (pc + 1) lv (.long x :: st)) : V X G nL Q h pc lv (st) := fun ls H locs hl hR hS => lv_lload_n O.1 O.2.1 hdg hi (lv_at hl j hj) (k ls H locs hl hR hS)
theorem v_lload (O : Ok X G cc own nL Ts ret R0) {i : Nat} {x : Int64} (hdg : decode cc pc = .ok (.lload i, 2)) (j : Nat) (hj : lv[j]? = some (i, .long x)) (k : V X G nL Q h (pc + 2) lv (.long x :: st)) : V X G nL Q h pc lv (st) := fun ls H locs hl hR hS => lv_lload O.1 O.2.1 hdg (lv_at hl j hj) (k ls H locs hl hR hS)
theorem v_aload_n (O : Ok X G cc own nL Ts ret R0) {kk : Fin 4} {i : Nat} {x : Nat} (hdg : decode cc pc = .ok (.aload_n kk, 1)) (j : Nat) (hi : (kk : Nat) = i) (hj : lv[j]? = some (i, .ref x)) (k : V X G nL Q h (pc + 1) lv (.ref x :: st)) : V X G nL Q h pc lv (st) := fun ls H locs hl hR hS => lv_aload_n O.1 O.2.1 hdg hi (lv_at hl j hj) (k ls H locs hl hR hS)
theorem v_aload (O : Ok X G cc own nL Ts ret R0) {i : Nat} {x : Nat} (hdg : decode cc pc = .ok (.aload i, 2)) (j : Nat) (hj : lv[j]? = some (i, .ref x)) (k : V X G nL Q h (pc + 2) lv (.ref x :: st)) : V X G nL Q h pc lv (st) := fun ls H locs hl hR hS => lv_aload O.1 O.2.1 hdg (lv_at hl j hj) (k ls H locs hl hR hS)
theorem v_iadd (O : Ok X G cc own nL Ts ret R0) {x y : Int32} (hdg : decode cc pc = .ok (.iadd, 1))  (k : V X G nL Q h (pc + 1) lv (.int (x + y) :: st)) : V X G nL Q h pc lv (.int y :: .int x :: st) := fun ls H locs hl hR hS => lv_iadd O.1 O.2.1 hdg (k ls H locs hl hR hS)
theorem v_isub (O : Ok X G cc own nL Ts ret R0) {x y : Int32} (hdg : decode cc pc = .ok (.isub, 1))  (k : V X G nL Q h (pc + 1) lv (.int (x - y) :: st)) : V X G nL Q h pc lv (.int y :: .int x :: st) := fun ls H locs hl hR hS => lv_isub O.1 O.2.1 hdg (k ls H locs hl hR hS)
theorem v_imul (O : Ok X G cc own nL Ts ret R0) {x y : Int32} (hdg : decode cc pc = .ok (.imul, 1))  (k : V X G nL Q h (pc + 1) lv (.int (x * y) :: st)) : V X G nL Q h pc lv (.int y :: .int x :: st) := fun ls H locs hl hR hS => lv_imul O.1 O.2.1 hdg (k ls H locs hl hR hS)
theorem v_iand (O : Ok X G cc own nL Ts ret R0) {x y : Int32} (hdg : decode cc pc = .ok (.iand, 1))  (k : V X G nL Q h (pc + 1) lv (.int (x &&& y) :: st)) : V X G nL Q h pc lv (.int y :: .int x :: st) := fun ls H locs hl hR hS => lv_iand O.1 O.2.1 hdg (k ls H locs hl hR hS)
theorem v_ior (O : Ok X G cc own nL Ts ret R0) {x y : Int32} (hdg : decode cc pc = .ok (.ior, 1))  (k : V X G nL Q h (pc + 1) lv (.int (x ||| y) :: st)) : V X G nL Q h pc lv (.int y :: .int x :: st) := fun ls H locs hl hR hS => lv_ior O.1 O.2.1 hdg (k ls H locs hl hR hS)
theorem v_ixor (O : Ok X G cc own nL Ts ret R0) {x y : Int32} (hdg : decode cc pc = .ok (.ixor, 1))  (k : V X G nL Q h (pc + 1) lv (.int (x ^^^ y) :: st)) : V X G nL Q h pc lv (.int y :: .int x :: st) := fun ls H locs hl hR hS => lv_ixor O.1 O.2.1 hdg (k ls H locs hl hR hS)
theorem v_ishl (O : Ok X G cc own nL Ts ret R0) {x y : Int32} (hdg : decode cc pc = .ok (.ishl, 1))  (k : V X G nL Q h (pc + 1) lv (.int (x <<< (y &&& 31)) :: st)) : V X G nL Q h pc lv (.int y :: .int x :: st) := fun ls H locs hl hR hS => lv_ishl O.1 O.2.1 hdg (k ls H locs hl hR hS)
theorem v_ishr (O : Ok X G cc own nL Ts ret R0) {x y : Int32} (hdg : decode cc pc = .ok (.ishr, 1))  (k : V X G nL Q h (pc + 1) lv (.int (x >>> (y &&& 31)) :: st)) : V X G nL Q h pc lv (.int y :: .int x :: st) := fun ls H locs hl hR hS => lv_ishr O.1 O.2.1 hdg (k ls H locs hl hR hS)
theorem v_iushr (O : Ok X G cc own nL Ts ret R0) {x y : Int32} (hdg : decode cc pc = .ok (.iushr, 1))  (k : V X G nL Q h (pc + 1) lv (.int ((x.toUInt32 >>> (y.toUInt32 &&& Int32.toUInt32 31)).toInt32) :: st)) : V X G nL Q h pc lv (.int y :: .int x :: st) := fun ls H locs hl hR hS => lv_iushr O.1 O.2.1 hdg rfl (k ls H locs hl hR hS)
theorem v_ineg (O : Ok X G cc own nL Ts ret R0) {x : Int32} (hdg : decode cc pc = .ok (.ineg, 1))  (k : V X G nL Q h (pc + 1) lv (.int (-x) :: st)) : V X G nL Q h pc lv (.int x :: st) := fun ls H locs hl hR hS => lv_ineg O.1 O.2.1 hdg (k ls H locs hl hR hS)
theorem v_ladd (O : Ok X G cc own nL Ts ret R0) {x y : Int64} (hdg : decode cc pc = .ok (.ladd, 1))  (k : V X G nL Q h (pc + 1) lv (.long (x + y) :: st)) : V X G nL Q h pc lv (.long y :: .long x :: st) := fun ls H locs hl hR hS => lv_ladd O.1 O.2.1 hdg (k ls H locs hl hR hS)
theorem v_lsub (O : Ok X G cc own nL Ts ret R0) {x y : Int64} (hdg : decode cc pc = .ok (.lsub, 1))  (k : V X G nL Q h (pc + 1) lv (.long (x - y) :: st)) : V X G nL Q h pc lv (.long y :: .long x :: st) := fun ls H locs hl hR hS => lv_lsub O.1 O.2.1 hdg (k ls H locs hl hR hS)
theorem v_lmul (O : Ok X G cc own nL Ts ret R0) {x y : Int64} (hdg : decode cc pc = .ok (.lmul, 1))  (k : V X G nL Q h (pc + 1) lv (.long (x * y) :: st)) : V X G nL Q h pc lv (.long y :: .long x :: st) := fun ls H locs hl hR hS => lv_lmul O.1 O.2.1 hdg (k ls H locs hl hR hS)
theorem v_land (O : Ok X G cc own nL Ts ret R0) {x y : Int64} (hdg : decode cc pc = .ok (.land, 1))  (k : V X G nL Q h (pc + 1) lv (.long (x &&& y) :: st)) : V X G nL Q h pc lv (.long y :: .long x :: st) := fun ls H locs hl hR hS => lv_land O.1 O.2.1 hdg (k ls H locs hl hR hS)
theorem v_lor (O : Ok X G cc own nL Ts ret R0) {x y : Int64} (hdg : decode cc pc = .ok (.lor, 1))  (k : V X G nL Q h (pc + 1) lv (.long (x ||| y) :: st)) : V X G nL Q h pc lv (.long y :: .long x :: st) := fun ls H locs hl hR hS => lv_lor O.1 O.2.1 hdg (k ls H locs hl hR hS)
theorem v_lxor (O : Ok X G cc own nL Ts ret R0) {x y : Int64} (hdg : decode cc pc = .ok (.lxor, 1))  (k : V X G nL Q h (pc + 1) lv (.long (x ^^^ y) :: st)) : V X G nL Q h pc lv (.long y :: .long x :: st) := fun ls H locs hl hR hS => lv_lxor O.1 O.2.1 hdg (k ls H locs hl hR hS)
theorem v_lshl (O : Ok X G cc own nL Ts ret R0) {x : Int64} {y : Int32} (hdg : decode cc pc = .ok (.lshl, 1))  (k : V X G nL Q h (pc + 1) lv (.long (x <<< (y.toInt64 &&& 63)) :: st)) : V X G nL Q h pc lv (.int y :: .long x :: st) := fun ls H locs hl hR hS => lv_lshl O.1 O.2.1 hdg rfl (k ls H locs hl hR hS)
theorem v_lshr (O : Ok X G cc own nL Ts ret R0) {x : Int64} {y : Int32} (hdg : decode cc pc = .ok (.lshr, 1))  (k : V X G nL Q h (pc + 1) lv (.long (x >>> (y.toInt64 &&& 63)) :: st)) : V X G nL Q h pc lv (.int y :: .long x :: st) := fun ls H locs hl hR hS => lv_lshr O.1 O.2.1 hdg rfl (k ls H locs hl hR hS)
theorem v_i2l (O : Ok X G cc own nL Ts ret R0) {x : Int32} (hdg : decode cc pc = .ok (.i2l, 1))  (k : V X G nL Q h (pc + 1) lv (.long x.toInt64 :: st)) : V X G nL Q h pc lv (.int x :: st) := fun ls H locs hl hR hS => lv_i2l O.1 O.2.1 hdg rfl (k ls H locs hl hR hS)
theorem v_l2i (O : Ok X G cc own nL Ts ret R0) {x : Int64} (hdg : decode cc pc = .ok (.l2i, 1))  (k : V X G nL Q h (pc + 1) lv (.int x.toInt32 :: st)) : V X G nL Q h pc lv (.long x :: st) := fun ls H locs hl hR hS => lv_l2i O.1 O.2.1 hdg rfl (k ls H locs hl hR hS)
theorem v_i2c (O : Ok X G cc own nL Ts ret R0) {x : Int32} (hdg : decode cc pc = .ok (.i2c, 1))  (k : V X G nL Q h (pc + 1) lv (.int (x.toUInt32 % 65536).toInt32 :: st)) : V X G nL Q h pc lv (.int x :: st) := fun ls H locs hl hR hS => lv_i2c O.1 O.2.1 hdg rfl (k ls H locs hl hR hS)
theorem v_lcmp (O : Ok X G cc own nL Ts ret R0) {x y : Int64} (hdg : decode cc pc = .ok (.lcmp, 1))  (k : V X G nL Q h (pc + 1) lv (.int (lg_cmp x y) :: st)) : V X G nL Q h pc lv (.long y :: .long x :: st) := fun ls H locs hl hR hS => W.lcmp O.1 O.2.1 hdg (k ls H locs hl hR hS)
theorem v_dup (O : Ok X G cc own nL Ts ret R0) {a : Value} (hdg : decode cc pc = .ok (.dup, 1)) (ha : a.category = 1) (k : V X G nL Q h (pc + 1) lv (a :: a :: st)) : V X G nL Q h pc lv (a :: st) := fun ls H locs hl hR hS => lv_dup O.1 O.2.1 hdg ha (k ls H locs hl hR hS)
theorem v_pop (O : Ok X G cc own nL Ts ret R0) {a : Value} (hdg : decode cc pc = .ok (.pop, 1)) (ha : a.category = 1) (k : V X G nL Q h (pc + 1) lv (st)) : V X G nL Q h pc lv (a :: st) := fun ls H locs hl hR hS => lv_pop O.1 O.2.1 hdg ha (k ls H locs hl hR hS)
theorem v_dup2 (O : Ok X G cc own nL Ts ret R0) {a b : Value} (hdg : decode cc pc = .ok (.dup2, 1)) (ha : a.category = 1) (hb : b.category = 1) (k : V X G nL Q h (pc + 1) lv (a :: b :: a :: b :: st)) : V X G nL Q h pc lv (a :: b :: st) := fun ls H locs hl hR hS => lv_dup2_11 O.1 O.2.1 hdg ha hb (k ls H locs hl hR hS)
theorem v_goto (O : Ok X G cc own nL Ts ret R0) {off : Int} (hdg : decode cc pc = .ok (.goto off, 3)) (tgt : Nat) (ht : (pc : Int) + off = (tgt : Int)) (k : V X G nL Q h tgt lv st) : V X G nL Q h pc lv st := fun ls H locs hl hR hS => lv_goto O.1 O.2.1 hdg ht (k ls H locs hl hR hS)
theorem v_sub {lv' : List (Nat × Value)} (ks : List Nat) (hs : lv_pick lv ks = lv') (k : V X G nL Q h pc lv' st) : V X G nL Q h pc lv st := fun ls H locs hl hR hS => k ls H locs (lv_sub hl ks hs) hR hS
theorem v_idiv (O : Ok X G cc own nL Ts ret R0) {x y : Int32} {A : Option Rs} (hdg : decode cc pc = .ok (.idiv, 1)) (e : (if ¬ y = 0 then A else none) = some z) (k : A = some z → V X G nL Q h (pc + 1) lv (.int (x / y) :: st)) : V X G nL Q h pc lv (.int y :: .int x :: st) := fun ls H locs hl hR hS => lv_idiv O.1 O.2.1 hdg (if_ok e).1 (k (if_ok e).2 ls H locs hl hR hS)
theorem v_irem (O : Ok X G cc own nL Ts ret R0) {x y : Int32} {A : Option Rs} (hdg : decode cc pc = .ok (.irem, 1)) (e : (if ¬ y = 0 then A else none) = some z) (k : A = some z → V X G nL Q h (pc + 1) lv (.int (x - x / y * y) :: st)) : V X G nL Q h pc lv (.int y :: .int x :: st) := fun ls H locs hl hR hS => lv_irem O.1 O.2.1 hdg (if_ok e).1 (k (if_ok e).2 ls H locs hl hR hS)
theorem v_istore_n (O : Ok X G cc own nL Ts ret R0) {kk : Fin 4} {i : Nat} {x : Int32} {F : Int32 → Option Rs} (hdg : decode cc pc = .ok (.istore_n kk, 1)) (hi : (kk : Nat) = i) (hn : i < nL) (lv' : Int32 → List (Nat × Value)) (hlv : ∀ y, (i, Value.int y) :: lv.filter (fun q => !(q.1 == i) && !(q.1 + 1 == i && q.2.category == 2)) = lv' y) (e : lt x F = some z) (k : ∀ y, F y = some z → V X G nL Q h (pc + 1) (lv' y) st) : V X G nL Q h pc lv (.int x :: st) := fun _ H locs hl hR hS => lv_istore_n O.1 O.2.1 hdg hi hl hn (hlv x) (fun ls hl => k x e ls H locs hl hR hS)
theorem v_istore (O : Ok X G cc own nL Ts ret R0)  {i : Nat} {x : Int32} {F : Int32 → Option Rs} (hdg : decode cc pc = .ok (.istore i, 2)) (hn : i < nL) (lv' : Int32 → List (Nat × Value)) (hlv : ∀ y, (i, Value.int y) :: lv.filter (fun q => !(q.1 == i) && !(q.1 + 1 == i && q.2.category == 2)) = lv' y) (e : lt x F = some z) (k : ∀ y, F y = some z → V X G nL Q h (pc + 2) (lv' y) st) : V X G nL Q h pc lv (.int x :: st) := fun _ H locs hl hR hS => lv_istore O.1 O.2.1 hdg hl hn (hlv x) (fun ls hl => k x e ls H locs hl hR hS)
theorem v_lstore_n (O : Ok X G cc own nL Ts ret R0) {kk : Fin 4} {i : Nat} {x : Int64} {F : Int64 → Option Rs} (hdg : decode cc pc = .ok (.lstore_n kk, 1)) (hi : (kk : Nat) = i) (hn : i + 1 < nL) (lv' : Int64 → List (Nat × Value)) (hlv : ∀ y, (i, Value.long y) :: lv.filter (fun q => !(q.1 == i) && (!(q.1 == i + 1) && !(q.1 + 1 == i && q.2.category == 2))) = lv' y) (e : lt x F = some z) (k : ∀ y, F y = some z → V X G nL Q h (pc + 1) (lv' y) st) : V X G nL Q h pc lv (.long x :: st) := fun _ H locs hl hR hS => lv_lstore_n O.1 O.2.1 hdg hi hl hn (hlv x) (fun ls hl => k x e ls H locs hl hR hS)
theorem v_lstore (O : Ok X G cc own nL Ts ret R0)  {i : Nat} {x : Int64} {F : Int64 → Option Rs} (hdg : decode cc pc = .ok (.lstore i, 2)) (hn : i + 1 < nL) (lv' : Int64 → List (Nat × Value)) (hlv : ∀ y, (i, Value.long y) :: lv.filter (fun q => !(q.1 == i) && (!(q.1 == i + 1) && !(q.1 + 1 == i && q.2.category == 2))) = lv' y) (e : lt x F = some z) (k : ∀ y, F y = some z → V X G nL Q h (pc + 2) (lv' y) st) : V X G nL Q h pc lv (.long x :: st) := fun _ H locs hl hR hS => lv_lstore O.1 O.2.1 hdg hl hn (hlv x) (fun ls hl => k x e ls H locs hl hR hS)
theorem v_iinc (O : Ok X G cc own nL Ts ret R0) {i : Nat} {n : Int} {x v : Int32} {F : Int32 → Option Rs} (hdg : decode cc pc = .ok (.iinc i n, 3)) (j : Nat) (hj : lv[j]? = some (i, .int x)) (hv : Int32.ofInt n = v) (hn : i < nL) (lv' : Int32 → List (Nat × Value)) (hlv : ∀ y, (i, Value.int y) :: lv.filter (fun q => !(q.1 == i) && !(q.1 + 1 == i && q.2.category == 2)) = lv' y) (e : lt (x + v) F = some z) (k : ∀ y, F y = some z → V X G nL Q h (pc + 3) (lv' y) st) : V X G nL Q h pc lv st := fun _ H locs hl hR hS => lv_iinc O.1 O.2.1 hdg hl hj (by rw [hv]) hn (hlv (x + v)) (fun ls hl => k (x + v) e ls H locs hl hR hS)
theorem v_if_eq (O : Ok X G cc own nL Ts ret R0) {x : Int32} {off : Int} {A B : Option Rs} (hdg : decode cc pc = .ok (.ifCond .eq off, 3)) (tgt : Nat) (ht : (pc : Int) + off = (tgt : Int)) (e : (if x = 0 then A else B) = some z) (kt : A = some z → V X G nL Q h tgt lv st) (kf : B = some z → V X G nL Q h (pc + 3) lv st) : V X G nL Q h pc lv (.int x :: st) := fun ls H locs hl hR hS => lv_if_eq O.1 O.2.1 hdg ht (fun c => kt (by rw [if_pos c] at e; exact e) ls H locs hl hR hS) (fun c => kf (by rw [if_neg c] at e; exact e) ls H locs hl hR hS)
theorem v_icmp_eq (O : Ok X G cc own nL Ts ret R0) {x y : Int32} {off : Int} {A B : Option Rs} (hdg : decode cc pc = .ok (.if_icmp .eq off, 3)) (tgt : Nat) (ht : (pc : Int) + off = (tgt : Int)) (e : (if x = y then A else B) = some z) (kt : A = some z → V X G nL Q h tgt lv st) (kf : B = some z → V X G nL Q h (pc + 3) lv st) : V X G nL Q h pc lv (.int y :: .int x :: st) := fun ls H locs hl hR hS => lv_icmp_eq O.1 O.2.1 hdg ht (fun c => kt (by rw [if_pos c] at e; exact e) ls H locs hl hR hS) (fun c => kf (by rw [if_neg c] at e; exact e) ls H locs hl hR hS)
theorem v_if_ne (O : Ok X G cc own nL Ts ret R0) {x : Int32} {off : Int} {A B : Option Rs} (hdg : decode cc pc = .ok (.ifCond .ne off, 3)) (tgt : Nat) (ht : (pc : Int) + off = (tgt : Int)) (e : (if x = 0 then B else A) = some z) (kt : A = some z → V X G nL Q h tgt lv st) (kf : B = some z → V X G nL Q h (pc + 3) lv st) : V X G nL Q h pc lv (.int x :: st) := fun ls H locs hl hR hS => lv_if_ne O.1 O.2.1 hdg ht (fun c => kt (by rw [if_neg c] at e; exact e) ls H locs hl hR hS) (fun c => kf (by rw [if_pos c] at e; exact e) ls H locs hl hR hS)
theorem v_icmp_ne (O : Ok X G cc own nL Ts ret R0) {x y : Int32} {off : Int} {A B : Option Rs} (hdg : decode cc pc = .ok (.if_icmp .ne off, 3)) (tgt : Nat) (ht : (pc : Int) + off = (tgt : Int)) (e : (if x = y then B else A) = some z) (kt : A = some z → V X G nL Q h tgt lv st) (kf : B = some z → V X G nL Q h (pc + 3) lv st) : V X G nL Q h pc lv (.int y :: .int x :: st) := fun ls H locs hl hR hS => lv_icmp_ne O.1 O.2.1 hdg ht (fun c => kt (by rw [if_neg c] at e; exact e) ls H locs hl hR hS) (fun c => kf (by rw [if_pos c] at e; exact e) ls H locs hl hR hS)
theorem v_if_lt (O : Ok X G cc own nL Ts ret R0) {x : Int32} {off : Int} {A B : Option Rs} (hdg : decode cc pc = .ok (.ifCond .lt off, 3)) (tgt : Nat) (ht : (pc : Int) + off = (tgt : Int)) (e : (if x < 0 then A else B) = some z) (kt : A = some z → V X G nL Q h tgt lv st) (kf : B = some z → V X G nL Q h (pc + 3) lv st) : V X G nL Q h pc lv (.int x :: st) := fun ls H locs hl hR hS => lv_if_lt O.1 O.2.1 hdg ht (fun c => kt (by rw [if_pos c] at e; exact e) ls H locs hl hR hS) (fun c => kf (by rw [if_neg c] at e; exact e) ls H locs hl hR hS)
theorem v_icmp_lt (O : Ok X G cc own nL Ts ret R0) {x y : Int32} {off : Int} {A B : Option Rs} (hdg : decode cc pc = .ok (.if_icmp .lt off, 3)) (tgt : Nat) (ht : (pc : Int) + off = (tgt : Int)) (e : (if x < y then A else B) = some z) (kt : A = some z → V X G nL Q h tgt lv st) (kf : B = some z → V X G nL Q h (pc + 3) lv st) : V X G nL Q h pc lv (.int y :: .int x :: st) := fun ls H locs hl hR hS => lv_icmp_lt O.1 O.2.1 hdg ht (fun c => kt (by rw [if_pos c] at e; exact e) ls H locs hl hR hS) (fun c => kf (by rw [if_neg c] at e; exact e) ls H locs hl hR hS)
theorem v_if_ge (O : Ok X G cc own nL Ts ret R0) {x : Int32} {off : Int} {A B : Option Rs} (hdg : decode cc pc = .ok (.ifCond .ge off, 3)) (tgt : Nat) (ht : (pc : Int) + off = (tgt : Int)) (e : (if 0 ≤ x then A else B) = some z) (kt : A = some z → V X G nL Q h tgt lv st) (kf : B = some z → V X G nL Q h (pc + 3) lv st) : V X G nL Q h pc lv (.int x :: st) := fun ls H locs hl hR hS => lv_if_ge O.1 O.2.1 hdg ht (fun c => kt (by rw [if_pos c] at e; exact e) ls H locs hl hR hS) (fun c => kf (by rw [if_neg c] at e; exact e) ls H locs hl hR hS)
theorem v_icmp_ge (O : Ok X G cc own nL Ts ret R0) {x y : Int32} {off : Int} {A B : Option Rs} (hdg : decode cc pc = .ok (.if_icmp .ge off, 3)) (tgt : Nat) (ht : (pc : Int) + off = (tgt : Int)) (e : (if y ≤ x then A else B) = some z) (kt : A = some z → V X G nL Q h tgt lv st) (kf : B = some z → V X G nL Q h (pc + 3) lv st) : V X G nL Q h pc lv (.int y :: .int x :: st) := fun ls H locs hl hR hS => lv_icmp_ge O.1 O.2.1 hdg ht (fun c => kt (by rw [if_pos c] at e; exact e) ls H locs hl hR hS) (fun c => kf (by rw [if_neg c] at e; exact e) ls H locs hl hR hS)
theorem v_if_gt (O : Ok X G cc own nL Ts ret R0) {x : Int32} {off : Int} {A B : Option Rs} (hdg : decode cc pc = .ok (.ifCond .gt off, 3)) (tgt : Nat) (ht : (pc : Int) + off = (tgt : Int)) (e : (if 0 < x then A else B) = some z) (kt : A = some z → V X G nL Q h tgt lv st) (kf : B = some z → V X G nL Q h (pc + 3) lv st) : V X G nL Q h pc lv (.int x :: st) := fun ls H locs hl hR hS => lv_if_gt O.1 O.2.1 hdg ht (fun c => kt (by rw [if_pos c] at e; exact e) ls H locs hl hR hS) (fun c => kf (by rw [if_neg c] at e; exact e) ls H locs hl hR hS)
theorem v_icmp_gt (O : Ok X G cc own nL Ts ret R0) {x y : Int32} {off : Int} {A B : Option Rs} (hdg : decode cc pc = .ok (.if_icmp .gt off, 3)) (tgt : Nat) (ht : (pc : Int) + off = (tgt : Int)) (e : (if y < x then A else B) = some z) (kt : A = some z → V X G nL Q h tgt lv st) (kf : B = some z → V X G nL Q h (pc + 3) lv st) : V X G nL Q h pc lv (.int y :: .int x :: st) := fun ls H locs hl hR hS => lv_icmp_gt O.1 O.2.1 hdg ht (fun c => kt (by rw [if_pos c] at e; exact e) ls H locs hl hR hS) (fun c => kf (by rw [if_neg c] at e; exact e) ls H locs hl hR hS)
theorem v_if_le (O : Ok X G cc own nL Ts ret R0) {x : Int32} {off : Int} {A B : Option Rs} (hdg : decode cc pc = .ok (.ifCond .le off, 3)) (tgt : Nat) (ht : (pc : Int) + off = (tgt : Int)) (e : (if x ≤ 0 then A else B) = some z) (kt : A = some z → V X G nL Q h tgt lv st) (kf : B = some z → V X G nL Q h (pc + 3) lv st) : V X G nL Q h pc lv (.int x :: st) := fun ls H locs hl hR hS => lv_if_le O.1 O.2.1 hdg ht (fun c => kt (by rw [if_pos c] at e; exact e) ls H locs hl hR hS) (fun c => kf (by rw [if_neg c] at e; exact e) ls H locs hl hR hS)
theorem v_icmp_le (O : Ok X G cc own nL Ts ret R0) {x y : Int32} {off : Int} {A B : Option Rs} (hdg : decode cc pc = .ok (.if_icmp .le off, 3)) (tgt : Nat) (ht : (pc : Int) + off = (tgt : Int)) (e : (if x ≤ y then A else B) = some z) (kt : A = some z → V X G nL Q h tgt lv st) (kf : B = some z → V X G nL Q h (pc + 3) lv st) : V X G nL Q h pc lv (.int y :: .int x :: st) := fun ls H locs hl hR hS => lv_icmp_le O.1 O.2.1 hdg ht (fun c => kt (by rw [if_pos c] at e; exact e) ls H locs hl hR hS) (fun c => kf (by rw [if_neg c] at e; exact e) ls H locs hl hR hS)
theorem v_get (O : Ok X G cc own nL Ts ret R0) {C : String} {T : u_T} {N index ci o k : Nat} {fs : List Value} {v : Value} (hF : FdO Ts own index C T N ci k) (ho : o < 41) (he : cel G h o = .inr (ci, fs)) (hv : fs[k]? = some v) (hdg : decode cc pc = .ok (.getfield index, 3)) (kk : V X G nL Q h (pc + 3) lv (v :: st)) : V X G nL Q h pc lv (.ref (G.1 o) :: st) := fun ls H locs hl hR hS => va_get (ref := (T k).1) O.1 O.2.1 O.2.2.2.2.1 hF.1 O.2.2.2.1 O.2.2.2.2.2.1.1 hR o (by rw [wld_at ho, he]) hF.2.1 k hF.2.2.1 (O.2.2.2.2.1 _ hF.2.2.2) (fun _ q => q) hv hdg (kk ls H locs hl hR hS)
theorem v_put (O : Ok X G cc own nL Ts ret R0) {C : String} {T : u_T} {N index ci o k : Nat} {ty0 : Nat → FieldType} {fs : List Value} {v : Int32} {F : Hp → Option Rs} (hF : FdO Ts own index C T N ci k) (hp : FpO T N k ty0 .int) (ho : o < 41) (he : cel G h o = .inr (ci, fs)) (hlen : k < fs.length) (hset : cel G (wr h o k v) o = .inr (ci, fs.set k (.int v))) (hdg : decode cc pc = .ok (.putfield index, 3)) (e : lt (wr h o k v) F = some z) (kk : ∀ h', F h' = some z → V X G nL Q h' (pc + 3) lv st) : V X G nL Q h pc lv (.int v :: .ref (G.1 o) :: st) := fun ls H locs hl hR hS => va_put (ref := (T k).1) (H0 := X.2.2.2.2.1.heap) O.1 O.2.1 O.2.2.2.2.1 hF.1 ty0 hp.1 hp.2.1 O.2.2.2.1 O.2.2.2.2.2.1.1 hR (O.2.2.2.2.2.1.2.1 h) hS o (by rw [wld_at ho, he]) hF.2.1 k hF.2.2.1 (O.2.2.2.2.1 _ hF.2.2.2) (fun _ q => q) hp.2.2.1 hp.2.2.2 rfl rfl hlen hdg (fun H1 locs1 hP _ hS1 => kk _ e ls H1 locs1 hl (by rw [wld_set (h1 := wr h o k v) ho hset cel_row] at hP; exact hP) hS1)
theorem v_putl (O : Ok X G cc own nL Ts ret R0) {C : String} {T : u_T} {N index ci k : Nat} {ty0 : Nat → FieldType} {fs : List Value} {v : Int64} {F : Hp → Option Rs} (hF : FdO Ts own index C T N ci k) (hp : FpO T N k ty0 .long) (he : cel G h 25 = .inr (ci, fs)) (hlen : k < fs.length) (hset : cel G (wrl h v) 25 = .inr (ci, fs.set k (.long v))) (hdg : decode cc pc = .ok (.putfield index, 3)) (e : lt (wrl h v) F = some z) (kk : ∀ h', F h' = some z → V X G nL Q h' (pc + 3) lv st) : V X G nL Q h pc lv (.long v :: .ref (G.1 25) :: st) := fun ls H locs hl hR hS => va_put (ref := (T k).1) (H0 := X.2.2.2.2.1.heap) O.1 O.2.1 O.2.2.2.2.1 hF.1 ty0 hp.1 hp.2.1 O.2.2.2.1 O.2.2.2.2.2.1.1 hR (O.2.2.2.2.2.1.2.1 h) hS 25 (by rw [wld_at (by decide), he]) hF.2.1 k hF.2.2.1 (O.2.2.2.2.1 _ hF.2.2.2) (fun _ q => q) hp.2.2.1 hp.2.2.2 rfl rfl hlen hdg (fun H1 locs1 hP _ hS1 => kk _ e ls H1 locs1 hl (by rw [wld_set (h1 := wrl h v) (by decide) hset cel_long] at hP; exact hP) hS1)
theorem v_iald (O : Ok X G cc own nL Ts ret R0) {o : Nat} {n : Nat} {f : Nat → Int32} {i : Int32} {A : Option Rs} (ho : o < 41) (he : cel G h o = .inl (gI G, n, .inl f)) (hdg : decode cc pc = .ok (.iaload, 1)) (e : (if ib i n = true then A else none) = some z) (kk : A = some z → V X G nL Q h (pc + 1) lv (.int (f (ix i)) :: st)) : V X G nL Q h pc lv (.int i :: .ref (G.1 o) :: st) := fun ls H locs hl hR hS => va_iald O.1 O.2.1 O.2.2.2.2.2.1.1 hR o 0 (by rw [wld_at ho, he]) rfl (ib_in (if_ok e).1) hdg (kk (if_ok e).2 ls H locs hl hR hS)
theorem v_zald (O : Ok X G cc own nL Ts ret R0) {o : Nat} {n : Nat} {f : Nat → Int32} {i : Int32} {A : Option Rs} (ho : o < 41) (he : cel G h o = .inl (gZ G, n, .inl f)) (hdg : decode cc pc = .ok (.baload, 1)) (e : (if ib i n = true then A else none) = some z) (kk : A = some z → V X G nL Q h (pc + 1) lv (.int (f (ix i)) :: st)) : V X G nL Q h pc lv (.int i :: .ref (G.1 o) :: st) := fun ls H locs hl hR hS => va_zald O.1 O.2.1 O.2.2.2.2.2.1.1 hR o 1 (by rw [wld_at ho, he]) rfl (ib_in (if_ok e).1) hdg (kk (if_ok e).2 ls H locs hl hR hS)
theorem v_iast (O : Ok X G cc own nL Ts ret R0) {o : Nat} {n : Nat} {i x : Int32} {F : Hp → Option Rs} (ho : o < 41) (he : cel G h o = .inl (gI G, n, .inl (h.1 o))) (hset : cel G (wr h o (ix i) x) o = .inl (gI G, n, .inl (upd (h.1 o) (ix i) x))) (hdg : decode cc pc = .ok (.iastore, 1)) (e : (if ib i n = true then lt (wr h o (ix i) x) F else none) = some z) (kk : ∀ h', F h' = some z → V X G nL Q h' (pc + 1) lv st) : V X G nL Q h pc lv (.int x :: .int i :: .ref (G.1 o) :: st) := fun ls H locs hl hR hS => va_iast (H0 := X.2.2.2.2.1.heap) O.1 O.2.1 O.2.2.2.2.2.1.1 hR (O.2.2.2.2.2.1.2.1 h) hS o 0 (by rw [wld_at ho, he]) rfl (ib_in (if_ok e).1) hdg (fun H1 locs1 hP _ hS1 => kk _ (if_ok e).2 ls H1 locs1 hl (by rw [wld_set (h1 := wr h o (ix i) x) ho hset cel_row] at hP; exact hP) hS1)
theorem v_zast (O : Ok X G cc own nL Ts ret R0) {o : Nat} {n : Nat} {i x : Int32} {F : Hp → Option Rs} (ho : o < 41) (he : cel G h o = .inl (gZ G, n, .inl (h.1 o))) (hset : cel G (wr h o (ix i) (vp_nar .boolean x)) o = .inl (gZ G, n, .inl (upd (h.1 o) (ix i) (vp_nar .boolean x)))) (hdg : decode cc pc = .ok (.bastore, 1)) (e : (if ib i n = true then lt (wr h o (ix i) (vp_nar .boolean x)) F else none) = some z) (kk : ∀ h', F h' = some z → V X G nL Q h' (pc + 1) lv st) : V X G nL Q h pc lv (.int x :: .int i :: .ref (G.1 o) :: st) := fun ls H locs hl hR hS => va_zast (H0 := X.2.2.2.2.1.heap) O.1 O.2.1 O.2.2.2.2.2.1.1 hR (O.2.2.2.2.2.1.2.1 h) hS o 1 (by rw [wld_at ho, he]) rfl (ib_in (if_ok e).1) hdg (fun H1 locs1 hP _ hS1 => kk _ (if_ok e).2 ls H1 locs1 hl (by rw [wld_set (h1 := wr h o (ix i) (vp_nar .boolean x)) ho hset cel_row] at hP; exact hP) hS1)
theorem v_alen (O : Ok X G cc own nL Ts ret R0) {o : Nat} {n : Nat} {f : Nat → Int32} {v : Int32} (ho : o < 41) (he : cel G h o = .inl (gI G, n, .inl f)) (hv : Int32.ofNat n = v) (hdg : decode cc pc = .ok (.arraylength, 1)) (kk : V X G nL Q h (pc + 1) lv (.int v :: st)) : V X G nL Q h pc lv (.ref (G.1 o) :: st) := fun ls H locs hl hR hS => va_alen O.1 O.2.1 O.2.2.2.2.2.1.1 hR o 0 (by rw [wld_at ho, he]) (ty := .int) rfl hv hdg (kk ls H locs hl hR hS)
theorem v_gets (O : Ok X G cc own nL Ts ret R0) {index : Nat} (t : Nat) (ht : t < 7) (hlink : Cond.fieldLink own index (tbC t) (tbM t) "[I" ∈ Ts) (hdg : decode cc pc = .ok (.getstatic index, 3)) (kk : V X G nL Q h (pc + 3) lv (.ref (gSa G t) :: st)) : V X G nL Q h pc lv st := fun ls H locs hl hR hS => va_gets O.1 O.2.1 (O.2.2.2.2.2.1.2.2.1 t ht).1 hS O.2.2.2.1 (O.2.2.2.2.1 _ hlink) (fun _ q => q) hdg (kk ls H locs hl hR hS)
theorem v_ti (O : Ok X G cc own nL Ts ret R0) (t n : Nat) {i : Int32} {A : Option Rs} (ht : t < 7) (hn : tbLen t = n) (hdg : decode cc pc = .ok (.iaload, 1)) (e : (if ib i n = true then A else none) = some z) (kk : A = some z → V X G nL Q h (pc + 1) lv (.int (tb t (ix i)) :: st)) : V X G nL Q h pc lv (.int i :: .ref (gSa G t) :: st) := fun ls H locs hl hR hS => va_ti O.1 O.2.1 (O.2.2.2.2.2.1.2.2.1 t ht).2 hS (ib_in (by rw [hn]; exact (if_ok e).1)) rfl hdg (kk (if_ok e).2 ls H locs hl hR hS)
theorem v_iret (O : Ok X G cc own nL Ts (some .int) R0) {v : Int32} (hdg : decode cc pc = .ok (.ireturn, 1)) (e : some (v, h) = some z) : V X G nL (QI X G z) h pc lv [.int v] := by
  cases e
  intro ls H locs hl hR hS
  exact W.iret O.1 O.2.1 O.2.2.2.2.2.2.2.1 (fun t ht hW => ⟨⟨v, h, rfl, ⟨rfl, rfl⟩, by show Rh G h t.heap; rw [ht]; exact hR⟩, hS.F ht⟩) hS.2.2 hdg O.2.2.2.2.2.2.1
theorem v_zret (O : Ok X G cc own nL Ts (some .boolean) R0) {v : Int32} (hdg : decode cc pc = .ok (.ireturn, 1)) (e : (if zk v = true then some (v, h) else none) = some z) : V X G nL (QI X G z) h pc lv [.int v] := by
  obtain ⟨hz, e⟩ := if_ok e
  cases e
  intro ls H locs hl hR hS
  exact W.zret O.1 O.2.1 O.2.2.2.2.2.2.2.1 (zk_nar hz) (fun t ht hW => ⟨⟨v, h, rfl, ⟨rfl, rfl⟩, by show Rh G h t.heap; rw [ht]; exact hR⟩, hS.F ht⟩) hS.2.2 hdg O.2.2.2.2.2.2.1
theorem v_vret (O : Ok X G cc own nL Ts none R0) (hdg : decode cc pc = .ok (.return_, 1)) (e : some (0, h) = some z) : V X G nL (QV X G z) h pc lv [] := by
  cases e
  intro ls H locs hl hR hS
  exact W.vret O.1 O.2.1 O.2.2.2.2.2.2.2.1 (fun t ht hW => ⟨⟨h, rfl, rfl, by show Rh G h t.heap; rw [ht]; exact hR⟩, hS.F ht⟩) hS.2.2 hdg O.2.2.2.2.2.2.1
theorem v_if {c : Prop} [Decidable c] {A B : Option Rs} (e : (if c then A else B) = some z) (kt : c → A = some z → V X G nL Q h pc lv st) (kf : ¬ c → B = some z → V X G nL Q h pc lv st) : V X G nL Q h pc lv st := by
  by_cases hc : c
  · rw [if_pos hc] at e; exact kt hc e
  · rw [if_neg hc] at e; exact kf hc e
/-- the words of a call: the callee's own, its room in the caller's -/
def CwO (R0 : Room) (y : MethodName) (ws : List Cond) (bytes : ByteArray) (maxL : Nat) (rt : Option FieldType) (rm : Room) (n : Nat) : Prop := (∃ ws', ws = Cond.code y bytes maxL rt :: ws') ∧ rm.cells = 0 ∧ rm.slots = 0 ∧ (y.cls ≠ "java/lang/invoke/MethodHandle" ∧ y.cls ≠ "java/lang/invoke/VarHandle" ∧ (parseMethodDescriptor y.desc).map (fun d => d.parameters.length) = some n) ∧ rm.frames + 1 ≤ R0.frames ∧ 8 + (maxL + 11) + rm.locals ≤ R0.locals
theorem ok_fix (O : Ok X G cc own nL Ts ret R0) : CallFix X.1 X.2.2.2.2.2.1 X.2.2.2.2.2.2.2.2.2.1 cc nL X.2.2.2.2.1 X.2.2.2.2.2.2.1 Ts own := ⟨O.1, O.2.1, O.2.2.1, O.2.2.2.1, O.2.2.2.2.1⟩
theorem ok_preS (O : Ok X G cc own nL Ts ret R0) {H : Heap} {locs : List Loc} {As : List Value} (hR : Rh G h H) (hS : va_S (gA G) X.2.2.2.2.1.heap H locs) : PreS X.2.2.2.2.1 H (pre G As h) As := ⟨pre_blind, fun U hU hW => ⟨rfl, by rw [hU]; exact hR, O.2.2.2.2.2.1.moves hU hW hS⟩⟩
theorem ok_preV (O : Ok X G cc own nL Ts ret R0) {H : Heap} {locs : List Loc} {As : List Value} {o ci N : Nat} {C : String} {T : u_T} {fs : List Value} (ho : o < 41) (he : cel G h o = .inr (ci, fs)) (hc : vwCl[ci]? = some (C, T, N)) (hR : Rh G h H) (hS : va_S (gA G) X.2.2.2.2.1.heap H locs) : PreV X.2.2.2.2.1 H C (G.1 o) (pre G (.ref (G.1 o) :: As) h) As := ⟨pre_blind, va_recv (ci := ci) (q0 := o) (fs := fs) O.2.2.2.2.2.1.1 hR hc (by rw [wld_at ho, he]), fun U hU hW => ⟨rfl, by rw [hU]; exact hR, O.2.2.2.2.2.1.moves hU hW hS⟩⟩
theorem ok_room (O : Ok X G cc own nL Ts ret R0) : X.2.2.2.2.2.2.2.2.2.2.1 + 0 ≤ X.2.2.2.1.cells ∧ X.2.2.2.2.2.2.2.2.2.2.2 + 0 ≤ X.2.2.2.1.slots := by
  obtain ⟨-, -, -, -, -, -, -, -, e, h1, h2⟩ := O
  rw [e]; exact ⟨h1, h2⟩
theorem ok_R (O : Ok X G cc own nL Ts ret R0) : X.2.2.2.1 = R0 := O.2.2.2.2.2.2.2.2.1
theorem v_aft {H : Heap} {locs : List Loc} {ls : Array Slot} {a : Option Rs} {F : Int32 → Hp → Option Rs} {rest st0 : List Value} {aa : Array Value} (hl : lv_has ls nL lv) (hS : va_S (gA G) X.2.2.2.2.1.heap H locs) (e : cl a F = some z) (hr : ∀ z', a = some z' → va_Run X.1 X.2.1 X.2.2.1 X.2.2.2.1 X.2.2.2.2.1 X.2.2.2.2.2.1 X.2.2.2.2.2.2.1 X.2.2.2.2.2.2.2.1 X.2.2.2.2.2.2.2.2.1 X.2.2.2.2.2.2.2.2.2.1 H locs X.2.2.2.2.2.2.2.2.2.2.1 X.2.2.2.2.2.2.2.2.2.2.2 0 0 (F0 X.2.2.2.2.2.1 pc ls st0) rest (qI G z' aa) (gA G)) (kk : ∀ r h', F r h' = some z → V X G nL Q h' (pc + 3) lv (.int r :: rest)) : W X.1 X.2.1 X.2.2.1 X.2.2.2.1 X.2.2.2.2.1 X.2.2.2.2.2.1 X.2.2.2.2.2.2.1 X.2.2.2.2.2.2.2.1 X.2.2.2.2.2.2.2.2.1 X.2.2.2.2.2.2.2.2.2.1 H locs X.2.2.2.2.2.2.2.2.2.2.1 X.2.2.2.2.2.2.2.2.2.2.2 Q (F0 X.2.2.2.2.2.1 pc ls st0) := by
  obtain ⟨r, h', ha, e⟩ := cl_ok e
  refine va_calli (hr _ ha) hS (fun _ _ q => q) (fun _ q => q) (fun r1 u t H1 locs1 ht _ hp hB _ _ hS1 => ?_)
  obtain ⟨h1, h2⟩ := hp
  rw [h1]
  have hB : Rh G u t.heap := hB
  rw [h2, ht] at hB
  exact kk r h' e ls H1 locs1 hl hB hS1
theorem v_aftV {H : Heap} {locs : List Loc} {ls : Array Slot} {a : Option Rs} {F : Int32 → Hp → Option Rs} {rest st0 : List Value} {aa : Array Value} (hl : lv_has ls nL lv) (hS : va_S (gA G) X.2.2.2.2.1.heap H locs) (e : cl a F = some z) (hr : ∀ z', a = some z' → va_Run X.1 X.2.1 X.2.2.1 X.2.2.2.1 X.2.2.2.2.1 X.2.2.2.2.2.1 X.2.2.2.2.2.2.1 X.2.2.2.2.2.2.2.1 X.2.2.2.2.2.2.2.2.1 X.2.2.2.2.2.2.2.2.2.1 H locs X.2.2.2.2.2.2.2.2.2.2.1 X.2.2.2.2.2.2.2.2.2.2.2 0 0 (F0 X.2.2.2.2.2.1 pc ls st0) rest (qV G z' aa) (gA G)) (kk : ∀ r h', F r h' = some z → V X G nL Q h' (pc + 3) lv rest) : W X.1 X.2.1 X.2.2.1 X.2.2.2.1 X.2.2.2.2.1 X.2.2.2.2.2.1 X.2.2.2.2.2.2.1 X.2.2.2.2.2.2.2.1 X.2.2.2.2.2.2.2.2.1 X.2.2.2.2.2.2.2.2.2.1 H locs X.2.2.2.2.2.2.2.2.2.2.1 X.2.2.2.2.2.2.2.2.2.2.2 Q (F0 X.2.2.2.2.2.1 pc ls st0) := by
  obtain ⟨r, h', ha, e⟩ := cl_ok e
  refine va_callv (hr _ ha) hS (fun _ _ q => q) (fun _ q => q) (fun u t H1 locs1 ht _ hp hB _ _ hS1 => ?_)
  have hB : Rh G u t.heap := hB
  rw [hp, ht] at hB
  exact kk r h' e ls H1 locs1 hl hB hS1
theorem v_cVi (O : Ok X G cc own nL Ts ret R0) {y : MethodName} {bytes : ByteArray} {index maxL n : Nat} {rt : Option FieldType} {ws : List Cond} {rm : Room} {a : Option Rs} {F : Int32 → Hp → Option Rs} {C : String} {T : u_T} {N ci o : Nat} {fs st0 : List Value} (As rest : List Value) (hg : GoodIn Ts (wsV own index C y ws)) (hw : CwO R0 y ws bytes maxL rt rm n) (hC : y.cls = C) (hc : vwCl[ci]? = some (C, T, N)) (ho : o < 41) (he : cel G h o = .inr (ci, fs)) (hn : As.length = n) (hst : st0 = As.reverse ++ .ref (G.1 o) :: rest) (hrest : (rest.map fun v => v.category).sum ≤ 8) (hdg : decode cc pc = .ok (.invokevirtual index, 3)) (e : cl a F = some z) (hM : ∀ z', a = some z' → CI X.2.1 G y ws rm (.ref (G.1 o) :: As) h z') (kk : ∀ r h', F r h' = some z → V X G nL Q h' (pc + 3) lv (.int r :: rest)) : V X G nL Q h pc lv st0 := by
  intro ls H locs hl hR hS
  obtain ⟨⟨ws', hw1⟩, hw2, hw3, hw4, hw5⟩ := hw
  exact v_aft hl hS e (fun z' ha => va_runV (ok_fix O) (hM z' ha) (cwV n O.2.2.2.2.1 hg hw1 hw2 hw3 ⟨hC, hw4⟩ (by rw [ok_R O]; exact hw5)) (ok_preV O ho he hc hR hS) rfl hn hl.1 hst (lv_room hrest) hdg (ok_room O)) kk
theorem v_cSi (O : Ok X G cc own nL Ts ret R0) {y : MethodName} {bytes : ByteArray} {index maxL n : Nat} {rt : Option FieldType} {ws : List Cond} {rm : Room} {a : Option Rs} {F : Int32 → Hp → Option Rs} {st0 : List Value} (As rest : List Value) (hg : GoodIn Ts (va_wsS own index y ws)) (hw : CwO R0 y ws bytes maxL rt rm n) (hn : As.length = n) (hst : st0 = As.reverse ++ rest) (hrest : (rest.map fun v => v.category).sum ≤ 8) (hdg : decode cc pc = .ok (.invokestatic index, 3)) (e : cl a F = some z) (hM : ∀ z', a = some z' → CI X.2.1 G y ws rm As h z') (kk : ∀ r h', F r h' = some z → V X G nL Q h' (pc + 3) lv (.int r :: rest)) : V X G nL Q h pc lv st0 := by
  intro ls H locs hl hR hS
  obtain ⟨⟨ws', hw1⟩, hw2, hw3, hw4, hw5⟩ := hw
  exact v_aft hl hS e (fun z' ha => va_runS (ok_fix O) (hM z' ha) (va_cwS n O.2.2.2.2.1 hg hw1 hw2 hw3 hw4 (by rw [ok_R O]; exact hw5)) (ok_preS O hR hS) rfl hn hl.1 hst (lv_room hrest) hdg (ok_room O)) kk
theorem v_cNi (O : Ok X G cc own nL Ts ret R0) {y : MethodName} {bytes : ByteArray} {index maxL n : Nat} {rt : Option FieldType} {ws : List Cond} {rm : Room} {a : Option Rs} {F : Int32 → Hp → Option Rs} {st0 : List Value} (As rest : List Value) (j : Nat) {host : String} (hj : nestT[j]? = some (own, index, y, host)) (hg : GoodIn Ts ws) (hs : Cond.static y ∈ Ts) (hi : Cond.initialized y.cls ∈ Ts) (hw : CwO R0 y ws bytes maxL rt rm n) (hn : As.length = n) (hst : st0 = As.reverse ++ rest) (hrest : (rest.map fun v => v.category).sum ≤ 8) (hdg : decode cc pc = .ok (.invokestatic index, 3)) (e : cl a F = some z) (hM : ∀ z', a = some z' → CI X.2.1 G y ws rm As h z') (kk : ∀ r h', F r h' = some z → V X G nL Q h' (pc + 3) lv (.int r :: rest)) : V X G nL Q h pc lv st0 := by
  intro ls H locs hl hR hS
  obtain ⟨⟨ws', hw1⟩, hw2, hw3, hw4, hw5⟩ := hw
  exact v_aft hl hS e (fun z' ha => va_runSN (ok_fix O) (hM z' ha) ⟨va_cnB n O.2.2.2.2.1 hg hw1 hw2 hw3 (O.2.2.2.2.2.1.2.2.2.1 _ (List.mem_of_getElem? hj)) (O.2.2.2.2.1 _ hi) hw4 (by rw [ok_R O]; exact hw5), O.2.2.2.2.1 _ hs, trivial⟩ (ok_preS O hR hS) rfl hn hl.1 hst (lv_room hrest) hdg (ok_room O)) kk
theorem v_cVv (O : Ok X G cc own nL Ts ret R0) {y : MethodName} {bytes : ByteArray} {index maxL n : Nat} {rt : Option FieldType} {ws : List Cond} {rm : Room} {a : Option Rs} {F : Int32 → Hp → Option Rs} {C : String} {T : u_T} {N ci o : Nat} {fs st0 : List Value} (As rest : List Value) (hg : GoodIn Ts (wsV own index C y ws)) (hw : CwO R0 y ws bytes maxL rt rm n) (hC : y.cls = C) (hc : vwCl[ci]? = some (C, T, N)) (ho : o < 41) (he : cel G h o = .inr (ci, fs)) (hn : As.length = n) (hst : st0 = As.reverse ++ .ref (G.1 o) :: rest) (hrest : (rest.map fun v => v.category).sum ≤ 8) (hdg : decode cc pc = .ok (.invokevirtual index, 3)) (e : cl a F = some z) (hM : ∀ z', a = some z' → CV X.2.1 G y ws rm (.ref (G.1 o) :: As) h z') (kk : ∀ r h', F r h' = some z → V X G nL Q h' (pc + 3) lv (rest)) : V X G nL Q h pc lv st0 := by
  intro ls H locs hl hR hS
  obtain ⟨⟨ws', hw1⟩, hw2, hw3, hw4, hw5⟩ := hw
  exact v_aftV hl hS e (fun z' ha => va_runV (ok_fix O) (hM z' ha) (cwV n O.2.2.2.2.1 hg hw1 hw2 hw3 ⟨hC, hw4⟩ (by rw [ok_R O]; exact hw5)) (ok_preV O ho he hc hR hS) rfl hn hl.1 hst (lv_room hrest) hdg (ok_room O)) kk
theorem v_cSv (O : Ok X G cc own nL Ts ret R0) {y : MethodName} {bytes : ByteArray} {index maxL n : Nat} {rt : Option FieldType} {ws : List Cond} {rm : Room} {a : Option Rs} {F : Int32 → Hp → Option Rs} {st0 : List Value} (As rest : List Value) (hg : GoodIn Ts (va_wsS own index y ws)) (hw : CwO R0 y ws bytes maxL rt rm n) (hn : As.length = n) (hst : st0 = As.reverse ++ rest) (hrest : (rest.map fun v => v.category).sum ≤ 8) (hdg : decode cc pc = .ok (.invokestatic index, 3)) (e : cl a F = some z) (hM : ∀ z', a = some z' → CV X.2.1 G y ws rm As h z') (kk : ∀ r h', F r h' = some z → V X G nL Q h' (pc + 3) lv (rest)) : V X G nL Q h pc lv st0 := by
  intro ls H locs hl hR hS
  obtain ⟨⟨ws', hw1⟩, hw2, hw3, hw4, hw5⟩ := hw
  exact v_aftV hl hS e (fun z' ha => va_runS (ok_fix O) (hM z' ha) (va_cwS n O.2.2.2.2.1 hg hw1 hw2 hw3 hw4 (by rw [ok_R O]; exact hw5)) (ok_preS O hR hS) rfl hn hl.1 hst (lv_room hrest) hdg (ok_room O)) kk
theorem v_cNv (O : Ok X G cc own nL Ts ret R0) {y : MethodName} {bytes : ByteArray} {index maxL n : Nat} {rt : Option FieldType} {ws : List Cond} {rm : Room} {a : Option Rs} {F : Int32 → Hp → Option Rs} {st0 : List Value} (As rest : List Value) (j : Nat) {host : String} (hj : nestT[j]? = some (own, index, y, host)) (hg : GoodIn Ts ws) (hs : Cond.static y ∈ Ts) (hi : Cond.initialized y.cls ∈ Ts) (hw : CwO R0 y ws bytes maxL rt rm n) (hn : As.length = n) (hst : st0 = As.reverse ++ rest) (hrest : (rest.map fun v => v.category).sum ≤ 8) (hdg : decode cc pc = .ok (.invokestatic index, 3)) (e : cl a F = some z) (hM : ∀ z', a = some z' → CV X.2.1 G y ws rm As h z') (kk : ∀ r h', F r h' = some z → V X G nL Q h' (pc + 3) lv (rest)) : V X G nL Q h pc lv st0 := by
  intro ls H locs hl hR hS
  obtain ⟨⟨ws', hw1⟩, hw2, hw3, hw4, hw5⟩ := hw
  exact v_aftV hl hS e (fun z' ha => va_runSN (ok_fix O) (hM z' ha) ⟨va_cnB n O.2.2.2.2.1 hg hw1 hw2 hw3 (O.2.2.2.2.2.1.2.2.2.1 _ (List.mem_of_getElem? hj)) (O.2.2.2.2.1 _ hi) hw4 (by rw [ok_R O]; exact hw5), O.2.2.2.2.1 _ hs, trivial⟩ (ok_preS O hR hS) rfl hn hl.1 hst (lv_room hrest) hdg (ok_room O)) kk
theorem v_tabIn (O : Ok X G cc own nL Ts ret R0) {x v : Int32} {dflt lo hi off : Int} {offs : Array Int} {len : Nat} (hdg : decode cc pc = .ok (.tableswitch dflt lo hi offs, len)) (c : x = v) (h1 : ¬ v.toInt < lo) (h2 : ¬ hi < v.toInt) (ho : offs[(v.toInt - lo).toNat]? = some off) (tgt : Nat) (ht : (pc : Int) + off = (tgt : Int)) (k : V X G nL Q h tgt lv st) : V X G nL Q h pc lv (.int x :: st) := by
  subst c
  exact fun ls H locs hl hR hS => lv_tableIn O.1 O.2.1 hdg h1 h2 ho ht (k ls H locs hl hR hS)
theorem v_tabOut (O : Ok X G cc own nL Ts ret R0) {x : Int32} {dflt lo hi : Int} {offs : Array Int} {len : Nat} (hdg : decode cc pc = .ok (.tableswitch dflt lo hi offs, len)) (hx : x.toInt < lo ∨ hi < x.toInt) (tgt : Nat) (ht : (pc : Int) + dflt = (tgt : Int)) (k : V X G nL Q h tgt lv st) : V X G nL Q h pc lv (.int x :: st) := fun ls H locs hl hR hS => lv_tableOut O.1 O.2.1 hdg hx ht (k ls H locs hl hR hS)
/-- arraycopy of ints, between two of our rows -/
theorem v_copy (O : Ok X G cc own nL Ts ret R0) {index o o1 n0 n1 : Nat} {sp dp n : Int32} {F : Hp → Option Rs} (hw : Cond.methodLink own index arraycopyName ∈ Ts ∧ Cond.native arraycopyName ∈ Ts ∧ Cond.static arraycopyName ∈ Ts ∧ Cond.initialized "java/lang/System" ∈ Ts) (ho : o < 41) (he : cel G h o = .inl (gI G, n0, .inl (h.1 o))) (ho1 : o1 < 41) (he1 : cel G h o1 = .inl (gI G, n1, .inl (h.1 o1))) (hset : ∀ f, cel G (wrow h o1 f) o1 = .inl (gI G, n1, .inl f)) (hb : ¬ sp < 0 ∧ ¬ dp < 0 ∧ ¬ n < 0 ∧ ix sp + ix n ≤ n0 ∧ ix dp + ix n ≤ n1) (hr : 1 ≤ R0.frames ∧ (st.map fun v => v.category).sum + (nativeFrameWords "java/lang/System" "arraycopy" 5 + 11) ≤ R0.locals) (hdg : decode cc pc = .ok (.invokestatic index, 3)) (e : lt (wrow h o1 (va_cpy (h.1 o) (h.1 o1) (ix sp) (ix dp) (ix n))) F = some z) (kk : ∀ h', F h' = some z → V X G nL Q h' (pc + 3) lv st) : V X G nL Q h pc lv (.int n :: .int dp :: .ref (G.1 o1) :: .int sp :: .ref (G.1 o) :: st) := by
  intro ls H locs hl hR hS
  refine va_copyi (H0 := X.2.2.2.2.1.heap) (ty := .int) O.1 O.2.1 (O.2.2.1.trans hl.1.symm) O.2.2.2.1 (O.2.2.2.2.1 _ hw.1) (O.2.2.2.2.1 _ hw.2.1) (O.2.2.2.2.1 _ hw.2.2.1) (O.2.2.2.2.1 _ hw.2.2.2) O.2.2.2.2.2.1.1 hR (O.2.2.2.2.2.1.2.1 h) hS o o1 0 0 (by rw [wld_at ho, he]) (by rw [wld_at ho1, he1]) rfl rfl rfl hb.1 hb.2.1 hb.2.2.1 hb.2.2.2.1 hb.2.2.2.2 (fun _ _ => rfl) (by rw [ok_R O]; exact hr.1) (by rw [ok_R O]; exact hr.2) hdg (fun H1 locs1 hP _ hS1 => kk _ e ls H1 locs1 hl ?_ hS1)
  rw [wld_set (h1 := wrow h o1 (va_cpy (h.1 o) (h.1 o1) (ix sp) (ix dp) (ix n))) ho1 (hset _) cel_row] at hP
  exact hP
end ROWS
theorem m_int {l : Launch} {G : Gx} {y : MethodName} {ws : List Cond} {rm : Room} {av : List Value} {h : Hp} {z : Rs} {cc : ByteArray} {maxL : Nat} (ws' : List Cond) (hy : plainName y.cls = true) (hw : ws = Cond.code y cc maxL (some .int) :: ws') (lv0 : List (Nat × Value)) (hlv : lv_args 0 av = lv0) (hav : (lg_sl av).length ≤ maxL) (K : ∀ X : Cx, Ok X G cc y.cls maxL ws (some .int) rm → V X G maxL (QI X G z) h 0 lv0 []) : CI l G y ws rm av h z := by
  refine Met.ofW hy hw ?_
  intro p e s m args below meth c s₁ B hml hv
  obtain ⟨rfl, hR, hV⟩ := hv
  rw [lg_entry_eq]
  exact K (p, l, e, (headSpec ws rm).room, s, m, av.toArray, below, meth, c, 0, 0) ⟨B.exec, B.bytes, hml, findClass_of_methodNamed B.named, atoms_spec (ws := ws) B.pre, hV, B.notSynchronized, B.returns, rfl, Nat.zero_le _, Nat.zero_le _⟩ _ _ _ (hlv ▸ lv_entry av hav) hR va_S.rf
theorem m_bool {l : Launch} {G : Gx} {y : MethodName} {ws : List Cond} {rm : Room} {av : List Value} {h : Hp} {z : Rs} {cc : ByteArray} {maxL : Nat} (ws' : List Cond) (hy : plainName y.cls = true) (hw : ws = Cond.code y cc maxL (some .boolean) :: ws') (lv0 : List (Nat × Value)) (hlv : lv_args 0 av = lv0) (hav : (lg_sl av).length ≤ maxL) (K : ∀ X : Cx, Ok X G cc y.cls maxL ws (some .boolean) rm → V X G maxL (QI X G z) h 0 lv0 []) : CI l G y ws rm av h z := by
  refine Met.ofW hy hw ?_
  intro p e s m args below meth c s₁ B hml hv
  obtain ⟨rfl, hR, hV⟩ := hv
  rw [lg_entry_eq]
  exact K (p, l, e, (headSpec ws rm).room, s, m, av.toArray, below, meth, c, 0, 0) ⟨B.exec, B.bytes, hml, findClass_of_methodNamed B.named, atoms_spec (ws := ws) B.pre, hV, B.notSynchronized, B.returns, rfl, Nat.zero_le _, Nat.zero_le _⟩ _ _ _ (hlv ▸ lv_entry av hav) hR va_S.rf
theorem m_void {l : Launch} {G : Gx} {y : MethodName} {ws : List Cond} {rm : Room} {av : List Value} {h : Hp} {z : Rs} {cc : ByteArray} {maxL : Nat} (ws' : List Cond) (hy : plainName y.cls = true) (hw : ws = Cond.code y cc maxL none :: ws') (lv0 : List (Nat × Value)) (hlv : lv_args 0 av = lv0) (hav : (lg_sl av).length ≤ maxL) (K : ∀ X : Cx, Ok X G cc y.cls maxL ws none rm → V X G maxL (QV X G z) h 0 lv0 []) : CV l G y ws rm av h z := by
  refine Met.ofW hy hw ?_
  intro p e s m args below meth c s₁ B hml hv
  obtain ⟨rfl, hR, hV⟩ := hv
  rw [lg_entry_eq]
  exact K (p, l, e, (headSpec ws rm).room, s, m, av.toArray, below, meth, c, 0, 0) ⟨B.exec, B.bytes, hml, findClass_of_methodNamed B.named, atoms_spec (ws := ws) B.pre, hV, B.notSynchronized, B.returns, rfl, Nat.zero_le _, Nat.zero_le _⟩ _ _ _ (hlv ▸ lv_entry av hav) hR va_S.rf
/-! each cell: as it is read; as it is when a slot of it is written -/
theorem cg_0 (G : Gx) (h : Hp) : cel G h 0 = .inr (7, [.ref (G.1 1), .ref (G.1 4), .ref (G.1 6), .ref (G.1 10), .ref (G.1 12), .ref (G.1 13), .ref (G.1 15), .ref (G.1 20), .ref (G.1 21), .ref (G.1 22), .ref (G.1 23), .ref (G.1 24), .int (h.1 0 12), .int (h.1 0 13), .int (h.1 0 14)]) := rfl
theorem cs_0_12 (G : Gx) (h : Hp) (v : Int32) : cel G (wr h 0 12 v) 0 = .inr (7, ([.ref (G.1 1), .ref (G.1 4), .ref (G.1 6), .ref (G.1 10), .ref (G.1 12), .ref (G.1 13), .ref (G.1 15), .ref (G.1 20), .ref (G.1 21), .ref (G.1 22), .ref (G.1 23), .ref (G.1 24), .int (h.1 0 12), .int (h.1 0 13), .int (h.1 0 14)] : List Value).set 12 (.int v)) := rfl
theorem cs_0_13 (G : Gx) (h : Hp) (v : Int32) : cel G (wr h 0 13 v) 0 = .inr (7, ([.ref (G.1 1), .ref (G.1 4), .ref (G.1 6), .ref (G.1 10), .ref (G.1 12), .ref (G.1 13), .ref (G.1 15), .ref (G.1 20), .ref (G.1 21), .ref (G.1 22), .ref (G.1 23), .ref (G.1 24), .int (h.1 0 12), .int (h.1 0 13), .int (h.1 0 14)] : List Value).set 13 (.int v)) := rfl
theorem cs_0_14 (G : Gx) (h : Hp) (v : Int32) : cel G (wr h 0 14 v) 0 = .inr (7, ([.ref (G.1 1), .ref (G.1 4), .ref (G.1 6), .ref (G.1 10), .ref (G.1 12), .ref (G.1 13), .ref (G.1 15), .ref (G.1 20), .ref (G.1 21), .ref (G.1 22), .ref (G.1 23), .ref (G.1 24), .int (h.1 0 12), .int (h.1 0 13), .int (h.1 0 14)] : List Value).set 14 (.int v)) := rfl
theorem cg_1 (G : Gx) (h : Hp) : cel G h 1 = .inr (5, [.int (h.1 1 0), .int (h.1 1 1), .int (h.1 1 2), .int (h.1 1 3), .int (h.1 1 4), .int (h.1 1 5), .int (h.1 1 6), .ref (G.1 2), .ref (G.1 3)]) := rfl
theorem cs_1_0 (G : Gx) (h : Hp) (v : Int32) : cel G (wr h 1 0 v) 1 = .inr (5, ([.int (h.1 1 0), .int (h.1 1 1), .int (h.1 1 2), .int (h.1 1 3), .int (h.1 1 4), .int (h.1 1 5), .int (h.1 1 6), .ref (G.1 2), .ref (G.1 3)] : List Value).set 0 (.int v)) := rfl
theorem cs_1_1 (G : Gx) (h : Hp) (v : Int32) : cel G (wr h 1 1 v) 1 = .inr (5, ([.int (h.1 1 0), .int (h.1 1 1), .int (h.1 1 2), .int (h.1 1 3), .int (h.1 1 4), .int (h.1 1 5), .int (h.1 1 6), .ref (G.1 2), .ref (G.1 3)] : List Value).set 1 (.int v)) := rfl
theorem cs_1_2 (G : Gx) (h : Hp) (v : Int32) : cel G (wr h 1 2 v) 1 = .inr (5, ([.int (h.1 1 0), .int (h.1 1 1), .int (h.1 1 2), .int (h.1 1 3), .int (h.1 1 4), .int (h.1 1 5), .int (h.1 1 6), .ref (G.1 2), .ref (G.1 3)] : List Value).set 2 (.int v)) := rfl
theorem cs_1_3 (G : Gx) (h : Hp) (v : Int32) : cel G (wr h 1 3 v) 1 = .inr (5, ([.int (h.1 1 0), .int (h.1 1 1), .int (h.1 1 2), .int (h.1 1 3), .int (h.1 1 4), .int (h.1 1 5), .int (h.1 1 6), .ref (G.1 2), .ref (G.1 3)] : List Value).set 3 (.int v)) := rfl
theorem cs_1_4 (G : Gx) (h : Hp) (v : Int32) : cel G (wr h 1 4 v) 1 = .inr (5, ([.int (h.1 1 0), .int (h.1 1 1), .int (h.1 1 2), .int (h.1 1 3), .int (h.1 1 4), .int (h.1 1 5), .int (h.1 1 6), .ref (G.1 2), .ref (G.1 3)] : List Value).set 4 (.int v)) := rfl
theorem cs_1_5 (G : Gx) (h : Hp) (v : Int32) : cel G (wr h 1 5 v) 1 = .inr (5, ([.int (h.1 1 0), .int (h.1 1 1), .int (h.1 1 2), .int (h.1 1 3), .int (h.1 1 4), .int (h.1 1 5), .int (h.1 1 6), .ref (G.1 2), .ref (G.1 3)] : List Value).set 5 (.int v)) := rfl
theorem cs_1_6 (G : Gx) (h : Hp) (v : Int32) : cel G (wr h 1 6 v) 1 = .inr (5, ([.int (h.1 1 0), .int (h.1 1 1), .int (h.1 1 2), .int (h.1 1 3), .int (h.1 1 4), .int (h.1 1 5), .int (h.1 1 6), .ref (G.1 2), .ref (G.1 3)] : List Value).set 6 (.int v)) := rfl
theorem cg_2 (G : Gx) (h : Hp) : cel G h 2 = .inl (gI G, 4, .inl (h.1 2)) := rfl
theorem cr_2 (G : Gx) (h : Hp) (f : Nat → Int32) : cel G (wrow h 2 f) 2 = .inl (gI G, 4, .inl f) := rfl
theorem cw_2 (G : Gx) (h : Hp) (i : Nat) (x : Int32) : cel G (wr h 2 i x) 2 = .inl (gI G, 4, .inl (upd (h.1 2) i x)) := rfl
theorem cg_3 (G : Gx) (h : Hp) : cel G h 3 = .inl (gI G, 4, .inl (h.1 3)) := rfl
theorem cr_3 (G : Gx) (h : Hp) (f : Nat → Int32) : cel G (wrow h 3 f) 3 = .inl (gI G, 4, .inl f) := rfl
theorem cw_3 (G : Gx) (h : Hp) (i : Nat) (x : Int32) : cel G (wr h 3 i x) 3 = .inl (gI G, 4, .inl (upd (h.1 3) i x)) := rfl
theorem cg_4 (G : Gx) (h : Hp) : cel G h 4 = .inr (6, [.ref (G.1 5), .int (h.1 4 1), .int (h.1 4 2), .int (h.1 4 3)]) := rfl
theorem cs_4_1 (G : Gx) (h : Hp) (v : Int32) : cel G (wr h 4 1 v) 4 = .inr (6, ([.ref (G.1 5), .int (h.1 4 1), .int (h.1 4 2), .int (h.1 4 3)] : List Value).set 1 (.int v)) := rfl
theorem cs_4_2 (G : Gx) (h : Hp) (v : Int32) : cel G (wr h 4 2 v) 4 = .inr (6, ([.ref (G.1 5), .int (h.1 4 1), .int (h.1 4 2), .int (h.1 4 3)] : List Value).set 2 (.int v)) := rfl
theorem cs_4_3 (G : Gx) (h : Hp) (v : Int32) : cel G (wr h 4 3 v) 4 = .inr (6, ([.ref (G.1 5), .int (h.1 4 1), .int (h.1 4 2), .int (h.1 4 3)] : List Value).set 3 (.int v)) := rfl
theorem cg_5 (G : Gx) (h : Hp) : cel G h 5 = .inl (gI G, 200, .inl (h.1 5)) := rfl
theorem cr_5 (G : Gx) (h : Hp) (f : Nat → Int32) : cel G (wrow h 5 f) 5 = .inl (gI G, 200, .inl f) := rfl
theorem cw_5 (G : Gx) (h : Hp) (i : Nat) (x : Int32) : cel G (wr h 5 i x) 5 = .inl (gI G, 200, .inl (upd (h.1 5) i x)) := rfl
theorem cg_6 (G : Gx) (h : Hp) : cel G h 6 = .inr (3, [.ref (G.1 7), .int (h.1 6 1), .int (h.1 6 2), .ref (G.1 4)]) := rfl
theorem cs_6_1 (G : Gx) (h : Hp) (v : Int32) : cel G (wr h 6 1 v) 6 = .inr (3, ([.ref (G.1 7), .int (h.1 6 1), .int (h.1 6 2), .ref (G.1 4)] : List Value).set 1 (.int v)) := rfl
theorem cs_6_2 (G : Gx) (h : Hp) (v : Int32) : cel G (wr h 6 2 v) 6 = .inr (3, ([.ref (G.1 7), .int (h.1 6 1), .int (h.1 6 2), .ref (G.1 4)] : List Value).set 2 (.int v)) := rfl
theorem cg_7 (G : Gx) (h : Hp) : cel G h 7 = .inr (5, [.int (h.1 7 0), .int (h.1 7 1), .int (h.1 7 2), .int (h.1 7 3), .int (h.1 7 4), .int (h.1 7 5), .int (h.1 7 6), .ref (G.1 8), .ref (G.1 9)]) := rfl
theorem cs_7_0 (G : Gx) (h : Hp) (v : Int32) : cel G (wr h 7 0 v) 7 = .inr (5, ([.int (h.1 7 0), .int (h.1 7 1), .int (h.1 7 2), .int (h.1 7 3), .int (h.1 7 4), .int (h.1 7 5), .int (h.1 7 6), .ref (G.1 8), .ref (G.1 9)] : List Value).set 0 (.int v)) := rfl
theorem cs_7_1 (G : Gx) (h : Hp) (v : Int32) : cel G (wr h 7 1 v) 7 = .inr (5, ([.int (h.1 7 0), .int (h.1 7 1), .int (h.1 7 2), .int (h.1 7 3), .int (h.1 7 4), .int (h.1 7 5), .int (h.1 7 6), .ref (G.1 8), .ref (G.1 9)] : List Value).set 1 (.int v)) := rfl
theorem cs_7_2 (G : Gx) (h : Hp) (v : Int32) : cel G (wr h 7 2 v) 7 = .inr (5, ([.int (h.1 7 0), .int (h.1 7 1), .int (h.1 7 2), .int (h.1 7 3), .int (h.1 7 4), .int (h.1 7 5), .int (h.1 7 6), .ref (G.1 8), .ref (G.1 9)] : List Value).set 2 (.int v)) := rfl
theorem cs_7_3 (G : Gx) (h : Hp) (v : Int32) : cel G (wr h 7 3 v) 7 = .inr (5, ([.int (h.1 7 0), .int (h.1 7 1), .int (h.1 7 2), .int (h.1 7 3), .int (h.1 7 4), .int (h.1 7 5), .int (h.1 7 6), .ref (G.1 8), .ref (G.1 9)] : List Value).set 3 (.int v)) := rfl
theorem cs_7_4 (G : Gx) (h : Hp) (v : Int32) : cel G (wr h 7 4 v) 7 = .inr (5, ([.int (h.1 7 0), .int (h.1 7 1), .int (h.1 7 2), .int (h.1 7 3), .int (h.1 7 4), .int (h.1 7 5), .int (h.1 7 6), .ref (G.1 8), .ref (G.1 9)] : List Value).set 4 (.int v)) := rfl
theorem cs_7_5 (G : Gx) (h : Hp) (v : Int32) : cel G (wr h 7 5 v) 7 = .inr (5, ([.int (h.1 7 0), .int (h.1 7 1), .int (h.1 7 2), .int (h.1 7 3), .int (h.1 7 4), .int (h.1 7 5), .int (h.1 7 6), .ref (G.1 8), .ref (G.1 9)] : List Value).set 5 (.int v)) := rfl
theorem cs_7_6 (G : Gx) (h : Hp) (v : Int32) : cel G (wr h 7 6 v) 7 = .inr (5, ([.int (h.1 7 0), .int (h.1 7 1), .int (h.1 7 2), .int (h.1 7 3), .int (h.1 7 4), .int (h.1 7 5), .int (h.1 7 6), .ref (G.1 8), .ref (G.1 9)] : List Value).set 6 (.int v)) := rfl
theorem cg_8 (G : Gx) (h : Hp) : cel G h 8 = .inl (gI G, 4, .inl (h.1 8)) := rfl
theorem cr_8 (G : Gx) (h : Hp) (f : Nat → Int32) : cel G (wrow h 8 f) 8 = .inl (gI G, 4, .inl f) := rfl
theorem cw_8 (G : Gx) (h : Hp) (i : Nat) (x : Int32) : cel G (wr h 8 i x) 8 = .inl (gI G, 4, .inl (upd (h.1 8) i x)) := rfl
theorem cg_9 (G : Gx) (h : Hp) : cel G h 9 = .inl (gI G, 4, .inl (h.1 9)) := rfl
theorem cr_9 (G : Gx) (h : Hp) (f : Nat → Int32) : cel G (wrow h 9 f) 9 = .inl (gI G, 4, .inl f) := rfl
theorem cw_9 (G : Gx) (h : Hp) (i : Nat) (x : Int32) : cel G (wr h 9 i x) 9 = .inl (gI G, 4, .inl (upd (h.1 9) i x)) := rfl
theorem cg_10 (G : Gx) (h : Hp) : cel G h 10 = .inr (0, [.ref (G.1 11)]) := rfl
theorem cg_11 (G : Gx) (h : Hp) : cel G h 11 = .inl (gI G, 192, .inl (h.1 11)) := rfl
theorem cr_11 (G : Gx) (h : Hp) (f : Nat → Int32) : cel G (wrow h 11 f) 11 = .inl (gI G, 192, .inl f) := rfl
theorem cw_11 (G : Gx) (h : Hp) (i : Nat) (x : Int32) : cel G (wr h 11 i x) 11 = .inl (gI G, 192, .inl (upd (h.1 11) i x)) := rfl
theorem cg_12 (G : Gx) (h : Hp) : cel G h 12 = .inr (1, [.ref (G.1 1), .ref (G.1 10)]) := rfl
theorem cg_13 (G : Gx) (h : Hp) : cel G h 13 = .inr (2, [.ref (G.1 14), .ref (G.1 10), .int (h.1 13 2)]) := rfl
theorem cs_13_2 (G : Gx) (h : Hp) (v : Int32) : cel G (wr h 13 2 v) 13 = .inr (2, ([.ref (G.1 14), .ref (G.1 10), .int (h.1 13 2)] : List Value).set 2 (.int v)) := rfl
theorem cg_14 (G : Gx) (h : Hp) : cel G h 14 = .inl (gI G, 12, .inl (h.1 14)) := rfl
theorem cr_14 (G : Gx) (h : Hp) (f : Nat → Int32) : cel G (wrow h 14 f) 14 = .inl (gI G, 12, .inl f) := rfl
theorem cw_14 (G : Gx) (h : Hp) (i : Nat) (x : Int32) : cel G (wr h 14 i x) 14 = .inl (gI G, 12, .inl (upd (h.1 14) i x)) := rfl
theorem cg_15 (G : Gx) (h : Hp) : cel G h 15 = .inr (4, [.ref (G.1 1), .ref (G.1 12), .ref (G.1 16), .ref (G.1 17), .ref (G.1 18), .ref (G.1 19), .int (h.1 15 6), .int (h.1 15 7)]) := rfl
theorem cs_15_6 (G : Gx) (h : Hp) (v : Int32) : cel G (wr h 15 6 v) 15 = .inr (4, ([.ref (G.1 1), .ref (G.1 12), .ref (G.1 16), .ref (G.1 17), .ref (G.1 18), .ref (G.1 19), .int (h.1 15 6), .int (h.1 15 7)] : List Value).set 6 (.int v)) := rfl
theorem cs_15_7 (G : Gx) (h : Hp) (v : Int32) : cel G (wr h 15 7 v) 15 = .inr (4, ([.ref (G.1 1), .ref (G.1 12), .ref (G.1 16), .ref (G.1 17), .ref (G.1 18), .ref (G.1 19), .int (h.1 15 6), .int (h.1 15 7)] : List Value).set 7 (.int v)) := rfl
theorem cg_16 (G : Gx) (h : Hp) : cel G h 16 = .inl (gI G, 4096, .inl (h.1 16)) := rfl
theorem cr_16 (G : Gx) (h : Hp) (f : Nat → Int32) : cel G (wrow h 16 f) 16 = .inl (gI G, 4096, .inl f) := rfl
theorem cw_16 (G : Gx) (h : Hp) (i : Nat) (x : Int32) : cel G (wr h 16 i x) 16 = .inl (gI G, 4096, .inl (upd (h.1 16) i x)) := rfl
theorem cg_17 (G : Gx) (h : Hp) : cel G h 17 = .inl (gI G, 23760, .inl (h.1 17)) := rfl
theorem cr_17 (G : Gx) (h : Hp) (f : Nat → Int32) : cel G (wrow h 17 f) 17 = .inl (gI G, 23760, .inl f) := rfl
theorem cw_17 (G : Gx) (h : Hp) (i : Nat) (x : Int32) : cel G (wr h 17 i x) 17 = .inl (gI G, 23760, .inl (upd (h.1 17) i x)) := rfl
theorem cg_18 (G : Gx) (h : Hp) : cel G h 18 = .inl (gI G, 23760, .inl (h.1 18)) := rfl
theorem cr_18 (G : Gx) (h : Hp) (f : Nat → Int32) : cel G (wrow h 18 f) 18 = .inl (gI G, 23760, .inl f) := rfl
theorem cw_18 (G : Gx) (h : Hp) (i : Nat) (x : Int32) : cel G (wr h 18 i x) 18 = .inl (gI G, 23760, .inl (upd (h.1 18) i x)) := rfl
theorem cg_19 (G : Gx) (h : Hp) : cel G h 19 = .inl (gI G, 23760, .inl (h.1 19)) := rfl
theorem cr_19 (G : Gx) (h : Hp) (f : Nat → Int32) : cel G (wrow h 19 f) 19 = .inl (gI G, 23760, .inl f) := rfl
theorem cw_19 (G : Gx) (h : Hp) (i : Nat) (x : Int32) : cel G (wr h 19 i x) 19 = .inl (gI G, 23760, .inl (upd (h.1 19) i x)) := rfl
theorem cg_20 (G : Gx) (h : Hp) : cel G h 20 = .inl (gI G, 2, .inl (h.1 20)) := rfl
theorem cr_20 (G : Gx) (h : Hp) (f : Nat → Int32) : cel G (wrow h 20 f) 20 = .inl (gI G, 2, .inl f) := rfl
theorem cw_20 (G : Gx) (h : Hp) (i : Nat) (x : Int32) : cel G (wr h 20 i x) 20 = .inl (gI G, 2, .inl (upd (h.1 20) i x)) := rfl
theorem cg_21 (G : Gx) (h : Hp) : cel G h 21 = .inl (gI G, 2, .inl (h.1 21)) := rfl
theorem cr_21 (G : Gx) (h : Hp) (f : Nat → Int32) : cel G (wrow h 21 f) 21 = .inl (gI G, 2, .inl f) := rfl
theorem cw_21 (G : Gx) (h : Hp) (i : Nat) (x : Int32) : cel G (wr h 21 i x) 21 = .inl (gI G, 2, .inl (upd (h.1 21) i x)) := rfl
theorem cg_22 (G : Gx) (h : Hp) : cel G h 22 = .inl (gZ G, 2, .inl (h.1 22)) := rfl
theorem cr_22 (G : Gx) (h : Hp) (f : Nat → Int32) : cel G (wrow h 22 f) 22 = .inl (gZ G, 2, .inl f) := rfl
theorem cw_22 (G : Gx) (h : Hp) (i : Nat) (x : Int32) : cel G (wr h 22 i x) 22 = .inl (gZ G, 2, .inl (upd (h.1 22) i x)) := rfl
theorem cg_23 (G : Gx) (h : Hp) : cel G h 23 = .inl (gI G, 12, .inl (h.1 23)) := rfl
theorem cr_23 (G : Gx) (h : Hp) (f : Nat → Int32) : cel G (wrow h 23 f) 23 = .inl (gI G, 12, .inl f) := rfl
theorem cw_23 (G : Gx) (h : Hp) (i : Nat) (x : Int32) : cel G (wr h 23 i x) 23 = .inl (gI G, 12, .inl (upd (h.1 23) i x)) := rfl
theorem cg_24 (G : Gx) (h : Hp) : cel G h 24 = .inl (gI G, 12, .inl (h.1 24)) := rfl
theorem cr_24 (G : Gx) (h : Hp) (f : Nat → Int32) : cel G (wrow h 24 f) 24 = .inl (gI G, 12, .inl f) := rfl
theorem cw_24 (G : Gx) (h : Hp) (i : Nat) (x : Int32) : cel G (wr h 24 i x) 24 = .inl (gI G, 12, .inl (upd (h.1 24) i x)) := rfl
theorem cg_25 (G : Gx) (h : Hp) : cel G h 25 = .inr (8, [.int (h.1 25 0), .int (h.1 25 1), .int (h.1 25 2), .int (h.1 25 3), .int (h.1 25 4), .ref (G.1 26), .int (h.1 25 6), .ref (G.1 27), .int (h.1 25 8), .int (h.1 25 9), .long h.2, .int (h.1 25 11), .int (h.1 25 12), .int (h.1 25 13), .int (h.1 25 14), .int (h.1 25 15), .int (h.1 25 16), .int (h.1 25 17), .ref (G.1 28), .ref (G.1 29), .ref (G.1 30), .ref (G.1 31), .int (h.1 25 22), .ref (G.1 32), .ref (G.1 33), .int (h.1 25 25), .ref (G.1 34), .ref (G.1 35), .ref (G.1 36), .ref (G.1 37), .ref (G.1 38), .int (h.1 25 31), .ref (G.1 39), .ref (G.1 40)]) := rfl
theorem cs_25_0 (G : Gx) (h : Hp) (v : Int32) : cel G (wr h 25 0 v) 25 = .inr (8, ([.int (h.1 25 0), .int (h.1 25 1), .int (h.1 25 2), .int (h.1 25 3), .int (h.1 25 4), .ref (G.1 26), .int (h.1 25 6), .ref (G.1 27), .int (h.1 25 8), .int (h.1 25 9), .long h.2, .int (h.1 25 11), .int (h.1 25 12), .int (h.1 25 13), .int (h.1 25 14), .int (h.1 25 15), .int (h.1 25 16), .int (h.1 25 17), .ref (G.1 28), .ref (G.1 29), .ref (G.1 30), .ref (G.1 31), .int (h.1 25 22), .ref (G.1 32), .ref (G.1 33), .int (h.1 25 25), .ref (G.1 34), .ref (G.1 35), .ref (G.1 36), .ref (G.1 37), .ref (G.1 38), .int (h.1 25 31), .ref (G.1 39), .ref (G.1 40)] : List Value).set 0 (.int v)) := rfl
theorem cs_25_1 (G : Gx) (h : Hp) (v : Int32) : cel G (wr h 25 1 v) 25 = .inr (8, ([.int (h.1 25 0), .int (h.1 25 1), .int (h.1 25 2), .int (h.1 25 3), .int (h.1 25 4), .ref (G.1 26), .int (h.1 25 6), .ref (G.1 27), .int (h.1 25 8), .int (h.1 25 9), .long h.2, .int (h.1 25 11), .int (h.1 25 12), .int (h.1 25 13), .int (h.1 25 14), .int (h.1 25 15), .int (h.1 25 16), .int (h.1 25 17), .ref (G.1 28), .ref (G.1 29), .ref (G.1 30), .ref (G.1 31), .int (h.1 25 22), .ref (G.1 32), .ref (G.1 33), .int (h.1 25 25), .ref (G.1 34), .ref (G.1 35), .ref (G.1 36), .ref (G.1 37), .ref (G.1 38), .int (h.1 25 31), .ref (G.1 39), .ref (G.1 40)] : List Value).set 1 (.int v)) := rfl
theorem cs_25_2 (G : Gx) (h : Hp) (v : Int32) : cel G (wr h 25 2 v) 25 = .inr (8, ([.int (h.1 25 0), .int (h.1 25 1), .int (h.1 25 2), .int (h.1 25 3), .int (h.1 25 4), .ref (G.1 26), .int (h.1 25 6), .ref (G.1 27), .int (h.1 25 8), .int (h.1 25 9), .long h.2, .int (h.1 25 11), .int (h.1 25 12), .int (h.1 25 13), .int (h.1 25 14), .int (h.1 25 15), .int (h.1 25 16), .int (h.1 25 17), .ref (G.1 28), .ref (G.1 29), .ref (G.1 30), .ref (G.1 31), .int (h.1 25 22), .ref (G.1 32), .ref (G.1 33), .int (h.1 25 25), .ref (G.1 34), .ref (G.1 35), .ref (G.1 36), .ref (G.1 37), .ref (G.1 38), .int (h.1 25 31), .ref (G.1 39), .ref (G.1 40)] : List Value).set 2 (.int v)) := rfl
theorem cs_25_3 (G : Gx) (h : Hp) (v : Int32) : cel G (wr h 25 3 v) 25 = .inr (8, ([.int (h.1 25 0), .int (h.1 25 1), .int (h.1 25 2), .int (h.1 25 3), .int (h.1 25 4), .ref (G.1 26), .int (h.1 25 6), .ref (G.1 27), .int (h.1 25 8), .int (h.1 25 9), .long h.2, .int (h.1 25 11), .int (h.1 25 12), .int (h.1 25 13), .int (h.1 25 14), .int (h.1 25 15), .int (h.1 25 16), .int (h.1 25 17), .ref (G.1 28), .ref (G.1 29), .ref (G.1 30), .ref (G.1 31), .int (h.1 25 22), .ref (G.1 32), .ref (G.1 33), .int (h.1 25 25), .ref (G.1 34), .ref (G.1 35), .ref (G.1 36), .ref (G.1 37), .ref (G.1 38), .int (h.1 25 31), .ref (G.1 39), .ref (G.1 40)] : List Value).set 3 (.int v)) := rfl
theorem cs_25_4 (G : Gx) (h : Hp) (v : Int32) : cel G (wr h 25 4 v) 25 = .inr (8, ([.int (h.1 25 0), .int (h.1 25 1), .int (h.1 25 2), .int (h.1 25 3), .int (h.1 25 4), .ref (G.1 26), .int (h.1 25 6), .ref (G.1 27), .int (h.1 25 8), .int (h.1 25 9), .long h.2, .int (h.1 25 11), .int (h.1 25 12), .int (h.1 25 13), .int (h.1 25 14), .int (h.1 25 15), .int (h.1 25 16), .int (h.1 25 17), .ref (G.1 28), .ref (G.1 29), .ref (G.1 30), .ref (G.1 31), .int (h.1 25 22), .ref (G.1 32), .ref (G.1 33), .int (h.1 25 25), .ref (G.1 34), .ref (G.1 35), .ref (G.1 36), .ref (G.1 37), .ref (G.1 38), .int (h.1 25 31), .ref (G.1 39), .ref (G.1 40)] : List Value).set 4 (.int v)) := rfl
theorem cs_25_6 (G : Gx) (h : Hp) (v : Int32) : cel G (wr h 25 6 v) 25 = .inr (8, ([.int (h.1 25 0), .int (h.1 25 1), .int (h.1 25 2), .int (h.1 25 3), .int (h.1 25 4), .ref (G.1 26), .int (h.1 25 6), .ref (G.1 27), .int (h.1 25 8), .int (h.1 25 9), .long h.2, .int (h.1 25 11), .int (h.1 25 12), .int (h.1 25 13), .int (h.1 25 14), .int (h.1 25 15), .int (h.1 25 16), .int (h.1 25 17), .ref (G.1 28), .ref (G.1 29), .ref (G.1 30), .ref (G.1 31), .int (h.1 25 22), .ref (G.1 32), .ref (G.1 33), .int (h.1 25 25), .ref (G.1 34), .ref (G.1 35), .ref (G.1 36), .ref (G.1 37), .ref (G.1 38), .int (h.1 25 31), .ref (G.1 39), .ref (G.1 40)] : List Value).set 6 (.int v)) := rfl
theorem cs_25_8 (G : Gx) (h : Hp) (v : Int32) : cel G (wr h 25 8 v) 25 = .inr (8, ([.int (h.1 25 0), .int (h.1 25 1), .int (h.1 25 2), .int (h.1 25 3), .int (h.1 25 4), .ref (G.1 26), .int (h.1 25 6), .ref (G.1 27), .int (h.1 25 8), .int (h.1 25 9), .long h.2, .int (h.1 25 11), .int (h.1 25 12), .int (h.1 25 13), .int (h.1 25 14), .int (h.1 25 15), .int (h.1 25 16), .int (h.1 25 17), .ref (G.1 28), .ref (G.1 29), .ref (G.1 30), .ref (G.1 31), .int (h.1 25 22), .ref (G.1 32), .ref (G.1 33), .int (h.1 25 25), .ref (G.1 34), .ref (G.1 35), .ref (G.1 36), .ref (G.1 37), .ref (G.1 38), .int (h.1 25 31), .ref (G.1 39), .ref (G.1 40)] : List Value).set 8 (.int v)) := rfl
theorem cs_25_9 (G : Gx) (h : Hp) (v : Int32) : cel G (wr h 25 9 v) 25 = .inr (8, ([.int (h.1 25 0), .int (h.1 25 1), .int (h.1 25 2), .int (h.1 25 3), .int (h.1 25 4), .ref (G.1 26), .int (h.1 25 6), .ref (G.1 27), .int (h.1 25 8), .int (h.1 25 9), .long h.2, .int (h.1 25 11), .int (h.1 25 12), .int (h.1 25 13), .int (h.1 25 14), .int (h.1 25 15), .int (h.1 25 16), .int (h.1 25 17), .ref (G.1 28), .ref (G.1 29), .ref (G.1 30), .ref (G.1 31), .int (h.1 25 22), .ref (G.1 32), .ref (G.1 33), .int (h.1 25 25), .ref (G.1 34), .ref (G.1 35), .ref (G.1 36), .ref (G.1 37), .ref (G.1 38), .int (h.1 25 31), .ref (G.1 39), .ref (G.1 40)] : List Value).set 9 (.int v)) := rfl
theorem cs_25_11 (G : Gx) (h : Hp) (v : Int32) : cel G (wr h 25 11 v) 25 = .inr (8, ([.int (h.1 25 0), .int (h.1 25 1), .int (h.1 25 2), .int (h.1 25 3), .int (h.1 25 4), .ref (G.1 26), .int (h.1 25 6), .ref (G.1 27), .int (h.1 25 8), .int (h.1 25 9), .long h.2, .int (h.1 25 11), .int (h.1 25 12), .int (h.1 25 13), .int (h.1 25 14), .int (h.1 25 15), .int (h.1 25 16), .int (h.1 25 17), .ref (G.1 28), .ref (G.1 29), .ref (G.1 30), .ref (G.1 31), .int (h.1 25 22), .ref (G.1 32), .ref (G.1 33), .int (h.1 25 25), .ref (G.1 34), .ref (G.1 35), .ref (G.1 36), .ref (G.1 37), .ref (G.1 38), .int (h.1 25 31), .ref (G.1 39), .ref (G.1 40)] : List Value).set 11 (.int v)) := rfl
theorem cs_25_12 (G : Gx) (h : Hp) (v : Int32) : cel G (wr h 25 12 v) 25 = .inr (8, ([.int (h.1 25 0), .int (h.1 25 1), .int (h.1 25 2), .int (h.1 25 3), .int (h.1 25 4), .ref (G.1 26), .int (h.1 25 6), .ref (G.1 27), .int (h.1 25 8), .int (h.1 25 9), .long h.2, .int (h.1 25 11), .int (h.1 25 12), .int (h.1 25 13), .int (h.1 25 14), .int (h.1 25 15), .int (h.1 25 16), .int (h.1 25 17), .ref (G.1 28), .ref (G.1 29), .ref (G.1 30), .ref (G.1 31), .int (h.1 25 22), .ref (G.1 32), .ref (G.1 33), .int (h.1 25 25), .ref (G.1 34), .ref (G.1 35), .ref (G.1 36), .ref (G.1 37), .ref (G.1 38), .int (h.1 25 31), .ref (G.1 39), .ref (G.1 40)] : List Value).set 12 (.int v)) := rfl
theorem cs_25_13 (G : Gx) (h : Hp) (v : Int32) : cel G (wr h 25 13 v) 25 = .inr (8, ([.int (h.1 25 0), .int (h.1 25 1), .int (h.1 25 2), .int (h.1 25 3), .int (h.1 25 4), .ref (G.1 26), .int (h.1 25 6), .ref (G.1 27), .int (h.1 25 8), .int (h.1 25 9), .long h.2, .int (h.1 25 11), .int (h.1 25 12), .int (h.1 25 13), .int (h.1 25 14), .int (h.1 25 15), .int (h.1 25 16), .int (h.1 25 17), .ref (G.1 28), .ref (G.1 29), .ref (G.1 30), .ref (G.1 31), .int (h.1 25 22), .ref (G.1 32), .ref (G.1 33), .int (h.1 25 25), .ref (G.1 34), .ref (G.1 35), .ref (G.1 36), .ref (G.1 37), .ref (G.1 38), .int (h.1 25 31), .ref (G.1 39), .ref (G.1 40)] : List Value).set 13 (.int v)) := rfl
theorem cs_25_14 (G : Gx) (h : Hp) (v : Int32) : cel G (wr h 25 14 v) 25 = .inr (8, ([.int (h.1 25 0), .int (h.1 25 1), .int (h.1 25 2), .int (h.1 25 3), .int (h.1 25 4), .ref (G.1 26), .int (h.1 25 6), .ref (G.1 27), .int (h.1 25 8), .int (h.1 25 9), .long h.2, .int (h.1 25 11), .int (h.1 25 12), .int (h.1 25 13), .int (h.1 25 14), .int (h.1 25 15), .int (h.1 25 16), .int (h.1 25 17), .ref (G.1 28), .ref (G.1 29), .ref (G.1 30), .ref (G.1 31), .int (h.1 25 22), .ref (G.1 32), .ref (G.1 33), .int (h.1 25 25), .ref (G.1 34), .ref (G.1 35), .ref (G.1 36), .ref (G.1 37), .ref (G.1 38), .int (h.1 25 31), .ref (G.1 39), .ref (G.1 40)] : List Value).set 14 (.int v)) := rfl
theorem cs_25_15 (G : Gx) (h : Hp) (v : Int32) : cel G (wr h 25 15 v) 25 = .inr (8, ([.int (h.1 25 0), .int (h.1 25 1), .int (h.1 25 2), .int (h.1 25 3), .int (h.1 25 4), .ref (G.1 26), .int (h.1 25 6), .ref (G.1 27), .int (h.1 25 8), .int (h.1 25 9), .long h.2, .int (h.1 25 11), .int (h.1 25 12), .int (h.1 25 13), .int (h.1 25 14), .int (h.1 25 15), .int (h.1 25 16), .int (h.1 25 17), .ref (G.1 28), .ref (G.1 29), .ref (G.1 30), .ref (G.1 31), .int (h.1 25 22), .ref (G.1 32), .ref (G.1 33), .int (h.1 25 25), .ref (G.1 34), .ref (G.1 35), .ref (G.1 36), .ref (G.1 37), .ref (G.1 38), .int (h.1 25 31), .ref (G.1 39), .ref (G.1 40)] : List Value).set 15 (.int v)) := rfl
theorem cs_25_16 (G : Gx) (h : Hp) (v : Int32) : cel G (wr h 25 16 v) 25 = .inr (8, ([.int (h.1 25 0), .int (h.1 25 1), .int (h.1 25 2), .int (h.1 25 3), .int (h.1 25 4), .ref (G.1 26), .int (h.1 25 6), .ref (G.1 27), .int (h.1 25 8), .int (h.1 25 9), .long h.2, .int (h.1 25 11), .int (h.1 25 12), .int (h.1 25 13), .int (h.1 25 14), .int (h.1 25 15), .int (h.1 25 16), .int (h.1 25 17), .ref (G.1 28), .ref (G.1 29), .ref (G.1 30), .ref (G.1 31), .int (h.1 25 22), .ref (G.1 32), .ref (G.1 33), .int (h.1 25 25), .ref (G.1 34), .ref (G.1 35), .ref (G.1 36), .ref (G.1 37), .ref (G.1 38), .int (h.1 25 31), .ref (G.1 39), .ref (G.1 40)] : List Value).set 16 (.int v)) := rfl
theorem cs_25_17 (G : Gx) (h : Hp) (v : Int32) : cel G (wr h 25 17 v) 25 = .inr (8, ([.int (h.1 25 0), .int (h.1 25 1), .int (h.1 25 2), .int (h.1 25 3), .int (h.1 25 4), .ref (G.1 26), .int (h.1 25 6), .ref (G.1 27), .int (h.1 25 8), .int (h.1 25 9), .long h.2, .int (h.1 25 11), .int (h.1 25 12), .int (h.1 25 13), .int (h.1 25 14), .int (h.1 25 15), .int (h.1 25 16), .int (h.1 25 17), .ref (G.1 28), .ref (G.1 29), .ref (G.1 30), .ref (G.1 31), .int (h.1 25 22), .ref (G.1 32), .ref (G.1 33), .int (h.1 25 25), .ref (G.1 34), .ref (G.1 35), .ref (G.1 36), .ref (G.1 37), .ref (G.1 38), .int (h.1 25 31), .ref (G.1 39), .ref (G.1 40)] : List Value).set 17 (.int v)) := rfl
theorem cs_25_22 (G : Gx) (h : Hp) (v : Int32) : cel G (wr h 25 22 v) 25 = .inr (8, ([.int (h.1 25 0), .int (h.1 25 1), .int (h.1 25 2), .int (h.1 25 3), .int (h.1 25 4), .ref (G.1 26), .int (h.1 25 6), .ref (G.1 27), .int (h.1 25 8), .int (h.1 25 9), .long h.2, .int (h.1 25 11), .int (h.1 25 12), .int (h.1 25 13), .int (h.1 25 14), .int (h.1 25 15), .int (h.1 25 16), .int (h.1 25 17), .ref (G.1 28), .ref (G.1 29), .ref (G.1 30), .ref (G.1 31), .int (h.1 25 22), .ref (G.1 32), .ref (G.1 33), .int (h.1 25 25), .ref (G.1 34), .ref (G.1 35), .ref (G.1 36), .ref (G.1 37), .ref (G.1 38), .int (h.1 25 31), .ref (G.1 39), .ref (G.1 40)] : List Value).set 22 (.int v)) := rfl
theorem cs_25_25 (G : Gx) (h : Hp) (v : Int32) : cel G (wr h 25 25 v) 25 = .inr (8, ([.int (h.1 25 0), .int (h.1 25 1), .int (h.1 25 2), .int (h.1 25 3), .int (h.1 25 4), .ref (G.1 26), .int (h.1 25 6), .ref (G.1 27), .int (h.1 25 8), .int (h.1 25 9), .long h.2, .int (h.1 25 11), .int (h.1 25 12), .int (h.1 25 13), .int (h.1 25 14), .int (h.1 25 15), .int (h.1 25 16), .int (h.1 25 17), .ref (G.1 28), .ref (G.1 29), .ref (G.1 30), .ref (G.1 31), .int (h.1 25 22), .ref (G.1 32), .ref (G.1 33), .int (h.1 25 25), .ref (G.1 34), .ref (G.1 35), .ref (G.1 36), .ref (G.1 37), .ref (G.1 38), .int (h.1 25 31), .ref (G.1 39), .ref (G.1 40)] : List Value).set 25 (.int v)) := rfl
theorem cs_25_31 (G : Gx) (h : Hp) (v : Int32) : cel G (wr h 25 31 v) 25 = .inr (8, ([.int (h.1 25 0), .int (h.1 25 1), .int (h.1 25 2), .int (h.1 25 3), .int (h.1 25 4), .ref (G.1 26), .int (h.1 25 6), .ref (G.1 27), .int (h.1 25 8), .int (h.1 25 9), .long h.2, .int (h.1 25 11), .int (h.1 25 12), .int (h.1 25 13), .int (h.1 25 14), .int (h.1 25 15), .int (h.1 25 16), .int (h.1 25 17), .ref (G.1 28), .ref (G.1 29), .ref (G.1 30), .ref (G.1 31), .int (h.1 25 22), .ref (G.1 32), .ref (G.1 33), .int (h.1 25 25), .ref (G.1 34), .ref (G.1 35), .ref (G.1 36), .ref (G.1 37), .ref (G.1 38), .int (h.1 25 31), .ref (G.1 39), .ref (G.1 40)] : List Value).set 31 (.int v)) := rfl
theorem cg_26 (G : Gx) (h : Hp) : cel G h 26 = .inl (gI G, 16, .inl (h.1 26)) := rfl
theorem cr_26 (G : Gx) (h : Hp) (f : Nat → Int32) : cel G (wrow h 26 f) 26 = .inl (gI G, 16, .inl f) := rfl
theorem cw_26 (G : Gx) (h : Hp) (i : Nat) (x : Int32) : cel G (wr h 26 i x) 26 = .inl (gI G, 16, .inl (upd (h.1 26) i x)) := rfl
theorem cg_27 (G : Gx) (h : Hp) : cel G h 27 = .inl (gI G, 200, .inl (h.1 27)) := rfl
theorem cr_27 (G : Gx) (h : Hp) (f : Nat → Int32) : cel G (wrow h 27 f) 27 = .inl (gI G, 200, .inl f) := rfl
theorem cw_27 (G : Gx) (h : Hp) (i : Nat) (x : Int32) : cel G (wr h 27 i x) 27 = .inl (gI G, 200, .inl (upd (h.1 27) i x)) := rfl
theorem cg_28 (G : Gx) (h : Hp) : cel G h 28 = .inl (gI G, 4, .inl (h.1 28)) := rfl
theorem cr_28 (G : Gx) (h : Hp) (f : Nat → Int32) : cel G (wrow h 28 f) 28 = .inl (gI G, 4, .inl f) := rfl
theorem cw_28 (G : Gx) (h : Hp) (i : Nat) (x : Int32) : cel G (wr h 28 i x) 28 = .inl (gI G, 4, .inl (upd (h.1 28) i x)) := rfl
theorem cg_29 (G : Gx) (h : Hp) : cel G h 29 = .inl (gI G, 4, .inl (h.1 29)) := rfl
theorem cr_29 (G : Gx) (h : Hp) (f : Nat → Int32) : cel G (wrow h 29 f) 29 = .inl (gI G, 4, .inl f) := rfl
theorem cw_29 (G : Gx) (h : Hp) (i : Nat) (x : Int32) : cel G (wr h 29 i x) 29 = .inl (gI G, 4, .inl (upd (h.1 29) i x)) := rfl
theorem cg_30 (G : Gx) (h : Hp) : cel G h 30 = .inl (gI G, 48, .inl (h.1 30)) := rfl
theorem cr_30 (G : Gx) (h : Hp) (f : Nat → Int32) : cel G (wrow h 30 f) 30 = .inl (gI G, 48, .inl f) := rfl
theorem cw_30 (G : Gx) (h : Hp) (i : Nat) (x : Int32) : cel G (wr h 30 i x) 30 = .inl (gI G, 48, .inl (upd (h.1 30) i x)) := rfl
theorem cg_31 (G : Gx) (h : Hp) : cel G h 31 = .inl (gI G, 4, .inl (h.1 31)) := rfl
theorem cr_31 (G : Gx) (h : Hp) (f : Nat → Int32) : cel G (wrow h 31 f) 31 = .inl (gI G, 4, .inl f) := rfl
theorem cw_31 (G : Gx) (h : Hp) (i : Nat) (x : Int32) : cel G (wr h 31 i x) 31 = .inl (gI G, 4, .inl (upd (h.1 31) i x)) := rfl
theorem cg_32 (G : Gx) (h : Hp) : cel G h 32 = .inl (gI G, 10, .inl (h.1 32)) := rfl
theorem cr_32 (G : Gx) (h : Hp) (f : Nat → Int32) : cel G (wrow h 32 f) 32 = .inl (gI G, 10, .inl f) := rfl
theorem cw_32 (G : Gx) (h : Hp) (i : Nat) (x : Int32) : cel G (wr h 32 i x) 32 = .inl (gI G, 10, .inl (upd (h.1 32) i x)) := rfl
theorem cg_33 (G : Gx) (h : Hp) : cel G h 33 = .inl (gZ G, 2, .inl (h.1 33)) := rfl
theorem cr_33 (G : Gx) (h : Hp) (f : Nat → Int32) : cel G (wrow h 33 f) 33 = .inl (gZ G, 2, .inl f) := rfl
theorem cw_33 (G : Gx) (h : Hp) (i : Nat) (x : Int32) : cel G (wr h 33 i x) 33 = .inl (gZ G, 2, .inl (upd (h.1 33) i x)) := rfl
theorem cg_34 (G : Gx) (h : Hp) : cel G h 34 = .inl (gI G, 24, .inl (h.1 34)) := rfl
theorem cr_34 (G : Gx) (h : Hp) (f : Nat → Int32) : cel G (wrow h 34 f) 34 = .inl (gI G, 24, .inl f) := rfl
theorem cw_34 (G : Gx) (h : Hp) (i : Nat) (x : Int32) : cel G (wr h 34 i x) 34 = .inl (gI G, 24, .inl (upd (h.1 34) i x)) := rfl
theorem cg_35 (G : Gx) (h : Hp) : cel G h 35 = .inl (gI G, 41472, .inl (h.1 35)) := rfl
theorem cr_35 (G : Gx) (h : Hp) (f : Nat → Int32) : cel G (wrow h 35 f) 35 = .inl (gI G, 41472, .inl f) := rfl
theorem cw_35 (G : Gx) (h : Hp) (i : Nat) (x : Int32) : cel G (wr h 35 i x) 35 = .inl (gI G, 41472, .inl (upd (h.1 35) i x)) := rfl
theorem cg_36 (G : Gx) (h : Hp) : cel G h 36 = .inl (gI G, 41472, .inl (h.1 36)) := rfl
theorem cr_36 (G : Gx) (h : Hp) (f : Nat → Int32) : cel G (wrow h 36 f) 36 = .inl (gI G, 41472, .inl f) := rfl
theorem cw_36 (G : Gx) (h : Hp) (i : Nat) (x : Int32) : cel G (wr h 36 i x) 36 = .inl (gI G, 41472, .inl (upd (h.1 36) i x)) := rfl
theorem cg_37 (G : Gx) (h : Hp) : cel G h 37 = .inl (gI G, 41472, .inl (h.1 37)) := rfl
theorem cr_37 (G : Gx) (h : Hp) (f : Nat → Int32) : cel G (wrow h 37 f) 37 = .inl (gI G, 41472, .inl f) := rfl
theorem cw_37 (G : Gx) (h : Hp) (i : Nat) (x : Int32) : cel G (wr h 37 i x) 37 = .inl (gI G, 41472, .inl (upd (h.1 37) i x)) := rfl
theorem cg_38 (G : Gx) (h : Hp) : cel G h 38 = .inl (gI G, 41472, .inl (h.1 38)) := rfl
theorem cr_38 (G : Gx) (h : Hp) (f : Nat → Int32) : cel G (wrow h 38 f) 38 = .inl (gI G, 41472, .inl f) := rfl
theorem cw_38 (G : Gx) (h : Hp) (i : Nat) (x : Int32) : cel G (wr h 38 i x) 38 = .inl (gI G, 41472, .inl (upd (h.1 38) i x)) := rfl
theorem cg_39 (G : Gx) (h : Hp) : cel G h 39 = .inl (gI G, 4, .inl (h.1 39)) := rfl
theorem cr_39 (G : Gx) (h : Hp) (f : Nat → Int32) : cel G (wrow h 39 f) 39 = .inl (gI G, 4, .inl f) := rfl
theorem cw_39 (G : Gx) (h : Hp) (i : Nat) (x : Int32) : cel G (wr h 39 i x) 39 = .inl (gI G, 4, .inl (upd (h.1 39) i x)) := rfl
theorem cg_40 (G : Gx) (h : Hp) : cel G h 40 = .inl (gI G, 12, .inl (h.1 40)) := rfl
theorem cr_40 (G : Gx) (h : Hp) (f : Nat → Int32) : cel G (wrow h 40 f) 40 = .inl (gI G, 12, .inl f) := rfl
theorem cw_40 (G : Gx) (h : Hp) (i : Nat) (x : Int32) : cel G (wr h 40 i x) 40 = .inl (gI G, 12, .inl (upd (h.1 40) i x)) := rfl
theorem cs_25_10 (G : Gx) (h : Hp) (v : Int64) : cel G (wrl h v) 25 = .inr (8, ([.int (h.1 25 0), .int (h.1 25 1), .int (h.1 25 2), .int (h.1 25 3), .int (h.1 25 4), .ref (G.1 26), .int (h.1 25 6), .ref (G.1 27), .int (h.1 25 8), .int (h.1 25 9), .long h.2, .int (h.1 25 11), .int (h.1 25 12), .int (h.1 25 13), .int (h.1 25 14), .int (h.1 25 15), .int (h.1 25 16), .int (h.1 25 17), .ref (G.1 28), .ref (G.1 29), .ref (G.1 30), .ref (G.1 31), .int (h.1 25 22), .ref (G.1 32), .ref (G.1 33), .int (h.1 25 25), .ref (G.1 34), .ref (G.1 35), .ref (G.1 36), .ref (G.1 37), .ref (G.1 38), .int (h.1 25 31), .ref (G.1 39), .ref (G.1 40)] : List Value).set 10 (.long v)) := rfl
end
