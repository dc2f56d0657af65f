section
-- ===== PART A: goes FIRST, ahead of the names: the tables' words, and 'selects' of the private methods out of them =====
/-- a private method of a class that the tables say can be made, by its rows of tables_1 -/
def lw_okq (q : MethodName × Nat) : Prop := (q.1.cls ≠ "java/lang/invoke/MethodHandle" ∧ q.1.cls ≠ "java/lang/invoke/VarHandle") ∧ Cond.instantiable q.1.cls q.2 ∈ tables_1 ∧ Cond.privateMethod q.1 ∈ tables_1 ∧ Cond.instanceMethod q.1 ∈ tables_1
theorem lw_p0 : lw_okq (⟨"TrueOneWay$Land", "isMisfit", "(II)Z"⟩, 14) := ⟨⟨by decide +kernel, by decide +kernel⟩, List.mem_of_getElem? (i := 43) (by decide +kernel), List.mem_of_getElem? (i := 229) (by decide +kernel), List.mem_of_getElem? (i := 230) (by decide +kernel)⟩
theorem lw_p1 : lw_okq (⟨"TrueOneWay$Worlds", "isAsFound", "(I)Z"⟩, 7) := ⟨⟨by decide +kernel, by decide +kernel⟩, List.mem_of_getElem? (i := 133) (by decide +kernel), List.mem_of_getElem? (i := 260) (by decide +kernel), List.mem_of_getElem? (i := 261) (by decide +kernel)⟩
theorem lw_p2 : lw_okq (⟨"TrueOneWay", "refuse", "(I)I"⟩, 12) := ⟨⟨by decide +kernel, by decide +kernel⟩, List.mem_of_getElem? (i := 20) (by decide +kernel), List.mem_of_getElem? (i := 308) (by decide +kernel), List.mem_of_getElem? (i := 309) (by decide +kernel)⟩
theorem lw_p3 : lw_okq (⟨"TrueOneWay", "readText", "()I"⟩, 12) := ⟨⟨by decide +kernel, by decide +kernel⟩, List.mem_of_getElem? (i := 20) (by decide +kernel), List.mem_of_getElem? (i := 320) (by decide +kernel), List.mem_of_getElem? (i := 321) (by decide +kernel)⟩
theorem lw_p4 : lw_okq (⟨"TrueOneWay$Land", "takePlaces", "(I)Z"⟩, 14) := ⟨⟨by decide +kernel, by decide +kernel⟩, List.mem_of_getElem? (i := 43) (by decide +kernel), List.mem_of_getElem? (i := 472) (by decide +kernel), List.mem_of_getElem? (i := 473) (by decide +kernel)⟩
theorem lw_p5 : lw_okq (⟨"TrueOneWay$Land", "placesToldOf", "()I"⟩, 14) := ⟨⟨by decide +kernel, by decide +kernel⟩, List.mem_of_getElem? (i := 43) (by decide +kernel), List.mem_of_getElem? (i := 476) (by decide +kernel), List.mem_of_getElem? (i := 477) (by decide +kernel)⟩
theorem lw_p6 : lw_okq (⟨"TrueOneWay$Land", "takeRoad", "(II)Z"⟩, 14) := ⟨⟨by decide +kernel, by decide +kernel⟩, List.mem_of_getElem? (i := 43) (by decide +kernel), List.mem_of_getElem? (i := 481) (by decide +kernel), List.mem_of_getElem? (i := 482) (by decide +kernel)⟩
theorem lw_p7 : lw_okq (⟨"TrueOneWay$Land", "takeFact", "()Z"⟩, 14) := ⟨⟨by decide +kernel, by decide +kernel⟩, List.mem_of_getElem? (i := 43) (by decide +kernel), List.mem_of_getElem? (i := 489) (by decide +kernel), List.mem_of_getElem? (i := 490) (by decide +kernel)⟩
theorem lw_p8 : lw_okq (⟨"TrueOneWay$Land", "takeSign", "(IIII)Z"⟩, 14) := ⟨⟨by decide +kernel, by decide +kernel⟩, List.mem_of_getElem? (i := 43) (by decide +kernel), List.mem_of_getElem? (i := 497) (by decide +kernel), List.mem_of_getElem? (i := 498) (by decide +kernel)⟩
theorem lw_p9 : lw_okq (⟨"TrueOneWay$Land", "canSpeakOf", "(III)Z"⟩, 14) := ⟨⟨by decide +kernel, by decide +kernel⟩, List.mem_of_getElem? (i := 43) (by decide +kernel), List.mem_of_getElem? (i := 505) (by decide +kernel), List.mem_of_getElem? (i := 506) (by decide +kernel)⟩
theorem lw_p10 : lw_okq (⟨"TrueOneWay$Land", "takeShown", "(II)Z"⟩, 14) := ⟨⟨by decide +kernel, by decide +kernel⟩, List.mem_of_getElem? (i := 43) (by decide +kernel), List.mem_of_getElem? (i := 513) (by decide +kernel), List.mem_of_getElem? (i := 514) (by decide +kernel)⟩
theorem lw_p11 : lw_okq (⟨"TrueOneWay$Land", "takeInn", "(III)Z"⟩, 14) := ⟨⟨by decide +kernel, by decide +kernel⟩, List.mem_of_getElem? (i := 43) (by decide +kernel), List.mem_of_getElem? (i := 517) (by decide +kernel), List.mem_of_getElem? (i := 518) (by decide +kernel)⟩
theorem lw_p12 : lw_okq (⟨"TrueOneWay", "find", "(II)I"⟩, 12) := ⟨⟨by decide +kernel, by decide +kernel⟩, List.mem_of_getElem? (i := 20) (by decide +kernel), List.mem_of_getElem? (i := 575) (by decide +kernel), List.mem_of_getElem? (i := 576) (by decide +kernel)⟩
theorem lw_p13 : lw_okq (⟨"TrueOneWay$Clashes", "markSetsThatCanBe", "(LTrueOneWay$Worlds;LTrueOneWay$Finds;I)V"⟩, 1) := ⟨⟨by decide +kernel, by decide +kernel⟩, List.mem_of_getElem? (i := 169) (by decide +kernel), List.mem_of_getElem? (i := 615) (by decide +kernel), List.mem_of_getElem? (i := 616) (by decide +kernel)⟩
theorem lw_p14 : lw_okq (⟨"TrueOneWay$Wayfarer", "reckonAt", "(LTrueOneWay$Land;II)V"⟩, 2) := ⟨⟨by decide +kernel, by decide +kernel⟩, List.mem_of_getElem? (i := 179) (by decide +kernel), List.mem_of_getElem? (i := 701) (by decide +kernel), List.mem_of_getElem? (i := 702) (by decide +kernel)⟩
theorem lw_p15 : lw_okq (⟨"TrueOneWay$Wayfarer", "worstOf", "(LTrueOneWay$Land;III)I"⟩, 2) := ⟨⟨by decide +kernel, by decide +kernel⟩, List.mem_of_getElem? (i := 179) (by decide +kernel), List.mem_of_getElem? (i := 711) (by decide +kernel), List.mem_of_getElem? (i := 712) (by decide +kernel)⟩
def lw_privs_1 : List (MethodName × Nat) := [(⟨"TrueOneWay$Land", "isMisfit", "(II)Z"⟩, 14), (⟨"TrueOneWay$Worlds", "isAsFound", "(I)Z"⟩, 7), (⟨"TrueOneWay", "refuse", "(I)I"⟩, 12), (⟨"TrueOneWay", "readText", "()I"⟩, 12), (⟨"TrueOneWay$Land", "takePlaces", "(I)Z"⟩, 14), (⟨"TrueOneWay$Land", "placesToldOf", "()I"⟩, 14), (⟨"TrueOneWay$Land", "takeRoad", "(II)Z"⟩, 14), (⟨"TrueOneWay$Land", "takeFact", "()Z"⟩, 14), (⟨"TrueOneWay$Land", "takeSign", "(IIII)Z"⟩, 14), (⟨"TrueOneWay$Land", "canSpeakOf", "(III)Z"⟩, 14), (⟨"TrueOneWay$Land", "takeShown", "(II)Z"⟩, 14), (⟨"TrueOneWay$Land", "takeInn", "(III)Z"⟩, 14), (⟨"TrueOneWay", "find", "(II)I"⟩, 12), (⟨"TrueOneWay$Clashes", "markSetsThatCanBe", "(LTrueOneWay$Worlds;LTrueOneWay$Finds;I)V"⟩, 1), (⟨"TrueOneWay$Wayfarer", "reckonAt", "(LTrueOneWay$Land;II)V"⟩, 2), (⟨"TrueOneWay$Wayfarer", "worstOf", "(LTrueOneWay$Land;III)I"⟩, 2)]
theorem lw_r1 : ∀ q ∈ lw_privs_1, lw_okq q := List.forall_mem_cons.mpr ⟨lw_p0, List.forall_mem_cons.mpr ⟨lw_p1, List.forall_mem_cons.mpr ⟨lw_p2, List.forall_mem_cons.mpr ⟨lw_p3, List.forall_mem_cons.mpr ⟨lw_p4, List.forall_mem_cons.mpr ⟨lw_p5, List.forall_mem_cons.mpr ⟨lw_p6, List.forall_mem_cons.mpr ⟨lw_p7, List.forall_mem_cons.mpr ⟨lw_p8, List.forall_mem_cons.mpr ⟨lw_p9, List.forall_mem_cons.mpr ⟨lw_p10, List.forall_mem_cons.mpr ⟨lw_p11, List.forall_mem_cons.mpr ⟨lw_p12, List.forall_mem_cons.mpr ⟨lw_p13, List.forall_mem_cons.mpr ⟨lw_p14, List.forall_mem_cons.mpr ⟨lw_p15, fun _ h => absurd h List.not_mem_nil⟩⟩⟩⟩⟩⟩⟩⟩⟩⟩⟩⟩⟩⟩⟩⟩
theorem lw_p16 : lw_okq (⟨"TrueOneWay$Wayfarer", "isInnSurelyAt", "(LTrueOneWay$Land;III)Z"⟩, 2) := ⟨⟨by decide +kernel, by decide +kernel⟩, List.mem_of_getElem? (i := 179) (by decide +kernel), List.mem_of_getElem? (i := 716) (by decide +kernel), List.mem_of_getElem? (i := 717) (by decide +kernel)⟩
theorem lw_p17 : lw_okq (⟨"TrueOneWay$Wayfarer", "shorten", "(LTrueOneWay$Land;IIII)V"⟩, 2) := ⟨⟨by decide +kernel, by decide +kernel⟩, List.mem_of_getElem? (i := 179) (by decide +kernel), List.mem_of_getElem? (i := 724) (by decide +kernel), List.mem_of_getElem? (i := 725) (by decide +kernel)⟩
theorem lw_p18 : lw_okq (⟨"TrueOneWay$Reading", "walk", "(LTrueOneWay$Land;IZI)V"⟩, 3) := ⟨⟨by decide +kernel, by decide +kernel⟩, List.mem_of_getElem? (i := 192) (by decide +kernel), List.mem_of_getElem? (i := 758) (by decide +kernel), List.mem_of_getElem? (i := 759) (by decide +kernel)⟩
theorem lw_p19 : lw_okq (⟨"TrueOneWay$Reading", "isReadNext", "(LTrueOneWay$Land;IZI)Z"⟩, 3) := ⟨⟨by decide +kernel, by decide +kernel⟩, List.mem_of_getElem? (i := 192) (by decide +kernel), List.mem_of_getElem? (i := 764) (by decide +kernel), List.mem_of_getElem? (i := 765) (by decide +kernel)⟩
theorem lw_p20 : lw_okq (⟨"TrueOneWay", "leastGreaterPart", "(I)I"⟩, 12) := ⟨⟨by decide +kernel, by decide +kernel⟩, List.mem_of_getElem? (i := 20) (by decide +kernel), List.mem_of_getElem? (i := 784) (by decide +kernel), List.mem_of_getElem? (i := 785) (by decide +kernel)⟩
theorem lw_p21 : lw_okq (⟨"TrueOneWayModel", "no", "(I)I"⟩, 40) := ⟨⟨by decide +kernel, by decide +kernel⟩, List.mem_of_getElem? (i := 828) (by decide +kernel), List.mem_of_getElem? (i := 962) (by decide +kernel), List.mem_of_getElem? (i := 963) (by decide +kernel)⟩
theorem lw_p22 : lw_okq (⟨"TrueOneWayModel", "statement", "()Z"⟩, 40) := ⟨⟨by decide +kernel, by decide +kernel⟩, List.mem_of_getElem? (i := 828) (by decide +kernel), List.mem_of_getElem? (i := 970) (by decide +kernel), List.mem_of_getElem? (i := 971) (by decide +kernel)⟩
theorem lw_p23 : lw_okq (⟨"TrueOneWayModel", "nextLetter", "()I"⟩, 40) := ⟨⟨by decide +kernel, by decide +kernel⟩, List.mem_of_getElem? (i := 828) (by decide +kernel), List.mem_of_getElem? (i := 974) (by decide +kernel), List.mem_of_getElem? (i := 975) (by decide +kernel)⟩
theorem lw_p24 : lw_okq (⟨"TrueOneWayModel", "readsSign", "(I)Z"⟩, 40) := ⟨⟨by decide +kernel, by decide +kernel⟩, List.mem_of_getElem? (i := 828) (by decide +kernel), List.mem_of_getElem? (i := 981) (by decide +kernel), List.mem_of_getElem? (i := 982) (by decide +kernel)⟩
theorem lw_p25 : lw_okq (⟨"TrueOneWayModel", "digit", "()I"⟩, 40) := ⟨⟨by decide +kernel, by decide +kernel⟩, List.mem_of_getElem? (i := 828) (by decide +kernel), List.mem_of_getElem? (i := 985) (by decide +kernel), List.mem_of_getElem? (i := 986) (by decide +kernel)⟩
theorem lw_p26 : lw_okq (⟨"TrueOneWayModel", "readsDigits", "(II)Z"⟩, 40) := ⟨⟨by decide +kernel, by decide +kernel⟩, List.mem_of_getElem? (i := 828) (by decide +kernel), List.mem_of_getElem? (i := 995) (by decide +kernel), List.mem_of_getElem? (i := 996) (by decide +kernel)⟩
theorem lw_p27 : lw_okq (⟨"TrueOneWayModel", "passesAll", "(IZ)V"⟩, 40) := ⟨⟨by decide +kernel, by decide +kernel⟩, List.mem_of_getElem? (i := 828) (by decide +kernel), List.mem_of_getElem? (i := 999) (by decide +kernel), List.mem_of_getElem? (i := 1000) (by decide +kernel)⟩
theorem lw_p28 : lw_okq (⟨"TrueOneWayModel", "passes", "([I)V"⟩, 40) := ⟨⟨by decide +kernel, by decide +kernel⟩, List.mem_of_getElem? (i := 828) (by decide +kernel), List.mem_of_getElem? (i := 1003) (by decide +kernel), List.mem_of_getElem? (i := 1004) (by decide +kernel)⟩
theorem lw_p29 : lw_okq (⟨"TrueOneWayModel", "passOne", "(I)I"⟩, 40) := ⟨⟨by decide +kernel, by decide +kernel⟩, List.mem_of_getElem? (i := 828) (by decide +kernel), List.mem_of_getElem? (i := 1007) (by decide +kernel), List.mem_of_getElem? (i := 1008) (by decide +kernel)⟩
theorem lw_p30 : lw_okq (⟨"TrueOneWayModel", "comes", "(I)Z"⟩, 40) := ⟨⟨by decide +kernel, by decide +kernel⟩, List.mem_of_getElem? (i := 828) (by decide +kernel), List.mem_of_getElem? (i := 1011) (by decide +kernel), List.mem_of_getElem? (i := 1012) (by decide +kernel)⟩
theorem lw_p31 : lw_okq (⟨"TrueOneWayModel", "toldPlaces", "()I"⟩, 40) := ⟨⟨by decide +kernel, by decide +kernel⟩, List.mem_of_getElem? (i := 828) (by decide +kernel), List.mem_of_getElem? (i := 1015) (by decide +kernel), List.mem_of_getElem? (i := 1016) (by decide +kernel)⟩
def lw_privs_2 : List (MethodName × Nat) := [(⟨"TrueOneWay$Wayfarer", "isInnSurelyAt", "(LTrueOneWay$Land;III)Z"⟩, 2), (⟨"TrueOneWay$Wayfarer", "shorten", "(LTrueOneWay$Land;IIII)V"⟩, 2), (⟨"TrueOneWay$Reading", "walk", "(LTrueOneWay$Land;IZI)V"⟩, 3), (⟨"TrueOneWay$Reading", "isReadNext", "(LTrueOneWay$Land;IZI)Z"⟩, 3), (⟨"TrueOneWay", "leastGreaterPart", "(I)I"⟩, 12), (⟨"TrueOneWayModel", "no", "(I)I"⟩, 40), (⟨"TrueOneWayModel", "statement", "()Z"⟩, 40), (⟨"TrueOneWayModel", "nextLetter", "()I"⟩, 40), (⟨"TrueOneWayModel", "readsSign", "(I)Z"⟩, 40), (⟨"TrueOneWayModel", "digit", "()I"⟩, 40), (⟨"TrueOneWayModel", "readsDigits", "(II)Z"⟩, 40), (⟨"TrueOneWayModel", "passesAll", "(IZ)V"⟩, 40), (⟨"TrueOneWayModel", "passes", "([I)V"⟩, 40), (⟨"TrueOneWayModel", "passOne", "(I)I"⟩, 40), (⟨"TrueOneWayModel", "comes", "(I)Z"⟩, 40), (⟨"TrueOneWayModel", "toldPlaces", "()I"⟩, 40)]
theorem lw_r2 : ∀ q ∈ lw_privs_2, lw_okq q := List.forall_mem_cons.mpr ⟨lw_p16, List.forall_mem_cons.mpr ⟨lw_p17, List.forall_mem_cons.mpr ⟨lw_p18, List.forall_mem_cons.mpr ⟨lw_p19, List.forall_mem_cons.mpr ⟨lw_p20, List.forall_mem_cons.mpr ⟨lw_p21, List.forall_mem_cons.mpr ⟨lw_p22, List.forall_mem_cons.mpr ⟨lw_p23, List.forall_mem_cons.mpr ⟨lw_p24, List.forall_mem_cons.mpr ⟨lw_p25, List.forall_mem_cons.mpr ⟨lw_p26, List.forall_mem_cons.mpr ⟨lw_p27, List.forall_mem_cons.mpr ⟨lw_p28, List.forall_mem_cons.mpr ⟨lw_p29, List.forall_mem_cons.mpr ⟨lw_p30, List.forall_mem_cons.mpr ⟨lw_p31, fun _ h => absurd h List.not_mem_nil⟩⟩⟩⟩⟩⟩⟩⟩⟩⟩⟩⟩⟩⟩⟩⟩
theorem lw_p32 : lw_okq (⟨"TrueOneWayModel", "isPlace", "(I)Z"⟩, 40) := ⟨⟨by decide +kernel, by decide +kernel⟩, List.mem_of_getElem? (i := 828) (by decide +kernel), List.mem_of_getElem? (i := 1019) (by decide +kernel), List.mem_of_getElem? (i := 1020) (by decide +kernel)⟩
theorem lw_p33 : lw_okq (⟨"TrueOneWayModel", "comesSign", "(I)Z"⟩, 40) := ⟨⟨by decide +kernel, by decide +kernel⟩, List.mem_of_getElem? (i := 828) (by decide +kernel), List.mem_of_getElem? (i := 1023) (by decide +kernel), List.mem_of_getElem? (i := 1024) (by decide +kernel)⟩
theorem lw_p34 : lw_okq (⟨"TrueOneWayModel", "maySay", "(III)Z"⟩, 40) := ⟨⟨by decide +kernel, by decide +kernel⟩, List.mem_of_getElem? (i := 828) (by decide +kernel), List.mem_of_getElem? (i := 1027) (by decide +kernel), List.mem_of_getElem? (i := 1028) (by decide +kernel)⟩
theorem lw_p35 : lw_okq (⟨"TrueOneWayModel", "isFact", "(I)Z"⟩, 40) := ⟨⟨by decide +kernel, by decide +kernel⟩, List.mem_of_getElem? (i := 828) (by decide +kernel), List.mem_of_getElem? (i := 1031) (by decide +kernel), List.mem_of_getElem? (i := 1032) (by decide +kernel)⟩
theorem lw_p36 : lw_okq (⟨"TrueOneWayModel", "isSign", "(I)Z"⟩, 40) := ⟨⟨by decide +kernel, by decide +kernel⟩, List.mem_of_getElem? (i := 828) (by decide +kernel), List.mem_of_getElem? (i := 1051) (by decide +kernel), List.mem_of_getElem? (i := 1052) (by decide +kernel)⟩
theorem lw_p37 : lw_okq (⟨"TrueOneWayModel", "isWorld", "(I)Z"⟩, 40) := ⟨⟨by decide +kernel, by decide +kernel⟩, List.mem_of_getElem? (i := 828) (by decide +kernel), List.mem_of_getElem? (i := 1063) (by decide +kernel), List.mem_of_getElem? (i := 1064) (by decide +kernel)⟩
theorem lw_p38 : lw_okq (⟨"TrueOneWayModel", "allFacts", "()I"⟩, 40) := ⟨⟨by decide +kernel, by decide +kernel⟩, List.mem_of_getElem? (i := 828) (by decide +kernel), List.mem_of_getElem? (i := 1067) (by decide +kernel), List.mem_of_getElem? (i := 1068) (by decide +kernel)⟩
theorem lw_p39 : lw_okq (⟨"TrueOneWayModel", "allSigns", "()I"⟩, 40) := ⟨⟨by decide +kernel, by decide +kernel⟩, List.mem_of_getElem? (i := 828) (by decide +kernel), List.mem_of_getElem? (i := 1071) (by decide +kernel), List.mem_of_getElem? (i := 1072) (by decide +kernel)⟩
theorem lw_p40 : lw_okq (⟨"TrueOneWayModel", "wrongs", "(I)I"⟩, 40) := ⟨⟨by decide +kernel, by decide +kernel⟩, List.mem_of_getElem? (i := 828) (by decide +kernel), List.mem_of_getElem? (i := 1075) (by decide +kernel), List.mem_of_getElem? (i := 1076) (by decide +kernel)⟩
theorem lw_p41 : lw_okq (⟨"TrueOneWayModel", "isRight", "(II)Z"⟩, 40) := ⟨⟨by decide +kernel, by decide +kernel⟩, List.mem_of_getElem? (i := 828) (by decide +kernel), List.mem_of_getElem? (i := 1079) (by decide +kernel), List.mem_of_getElem? (i := 1080) (by decide +kernel)⟩
theorem lw_p42 : lw_okq (⟨"TrueOneWayModel", "saysIn", "(II)I"⟩, 40) := ⟨⟨by decide +kernel, by decide +kernel⟩, List.mem_of_getElem? (i := 828) (by decide +kernel), List.mem_of_getElem? (i := 1083) (by decide +kernel), List.mem_of_getElem? (i := 1084) (by decide +kernel)⟩
theorem lw_p43 : lw_okq (⟨"TrueOneWayModel", "isGood", "(I)Z"⟩, 40) := ⟨⟨by decide +kernel, by decide +kernel⟩, List.mem_of_getElem? (i := 828) (by decide +kernel), List.mem_of_getElem? (i := 1091) (by decide +kernel), List.mem_of_getElem? (i := 1092) (by decide +kernel)⟩
theorem lw_p44 : lw_okq (⟨"TrueOneWayModel", "allFound", "()I"⟩, 40) := ⟨⟨by decide +kernel, by decide +kernel⟩, List.mem_of_getElem? (i := 828) (by decide +kernel), List.mem_of_getElem? (i := 1095) (by decide +kernel), List.mem_of_getElem? (i := 1096) (by decide +kernel)⟩
theorem lw_p45 : lw_okq (⟨"TrueOneWayModel", "areFoundSo", "(II)Z"⟩, 40) := ⟨⟨by decide +kernel, by decide +kernel⟩, List.mem_of_getElem? (i := 828) (by decide +kernel), List.mem_of_getElem? (i := 1099) (by decide +kernel), List.mem_of_getElem? (i := 1100) (by decide +kernel)⟩
theorem lw_p46 : lw_okq (⟨"TrueOneWayModel", "isFoundSo", "(II)Z"⟩, 40) := ⟨⟨by decide +kernel, by decide +kernel⟩, List.mem_of_getElem? (i := 828) (by decide +kernel), List.mem_of_getElem? (i := 1103) (by decide +kernel), List.mem_of_getElem? (i := 1104) (by decide +kernel)⟩
theorem lw_p47 : lw_okq (⟨"TrueOneWayModel", "findWorlds", "(I)V"⟩, 40) := ⟨⟨by decide +kernel, by decide +kernel⟩, List.mem_of_getElem? (i := 828) (by decide +kernel), List.mem_of_getElem? (i := 1115) (by decide +kernel), List.mem_of_getElem? (i := 1116) (by decide +kernel)⟩
def lw_privs_3 : List (MethodName × Nat) := [(⟨"TrueOneWayModel", "isPlace", "(I)Z"⟩, 40), (⟨"TrueOneWayModel", "comesSign", "(I)Z"⟩, 40), (⟨"TrueOneWayModel", "maySay", "(III)Z"⟩, 40), (⟨"TrueOneWayModel", "isFact", "(I)Z"⟩, 40), (⟨"TrueOneWayModel", "isSign", "(I)Z"⟩, 40), (⟨"TrueOneWayModel", "isWorld", "(I)Z"⟩, 40), (⟨"TrueOneWayModel", "allFacts", "()I"⟩, 40), (⟨"TrueOneWayModel", "allSigns", "()I"⟩, 40), (⟨"TrueOneWayModel", "wrongs", "(I)I"⟩, 40), (⟨"TrueOneWayModel", "isRight", "(II)Z"⟩, 40), (⟨"TrueOneWayModel", "saysIn", "(II)I"⟩, 40), (⟨"TrueOneWayModel", "isGood", "(I)Z"⟩, 40), (⟨"TrueOneWayModel", "allFound", "()I"⟩, 40), (⟨"TrueOneWayModel", "areFoundSo", "(II)Z"⟩, 40), (⟨"TrueOneWayModel", "isFoundSo", "(II)Z"⟩, 40), (⟨"TrueOneWayModel", "findWorlds", "(I)V"⟩, 40)]
theorem lw_r3 : ∀ q ∈ lw_privs_3, lw_okq q := List.forall_mem_cons.mpr ⟨lw_p32, List.forall_mem_cons.mpr ⟨lw_p33, List.forall_mem_cons.mpr ⟨lw_p34, List.forall_mem_cons.mpr ⟨lw_p35, List.forall_mem_cons.mpr ⟨lw_p36, List.forall_mem_cons.mpr ⟨lw_p37, List.forall_mem_cons.mpr ⟨lw_p38, List.forall_mem_cons.mpr ⟨lw_p39, List.forall_mem_cons.mpr ⟨lw_p40, List.forall_mem_cons.mpr ⟨lw_p41, List.forall_mem_cons.mpr ⟨lw_p42, List.forall_mem_cons.mpr ⟨lw_p43, List.forall_mem_cons.mpr ⟨lw_p44, List.forall_mem_cons.mpr ⟨lw_p45, List.forall_mem_cons.mpr ⟨lw_p46, List.forall_mem_cons.mpr ⟨lw_p47, fun _ h => absurd h List.not_mem_nil⟩⟩⟩⟩⟩⟩⟩⟩⟩⟩⟩⟩⟩⟩⟩⟩
theorem lw_p48 : lw_okq (⟨"TrueOneWayModel", "finds", "(II)I"⟩, 40) := ⟨⟨by decide +kernel, by decide +kernel⟩, List.mem_of_getElem? (i := 828) (by decide +kernel), List.mem_of_getElem? (i := 1123) (by decide +kernel), List.mem_of_getElem? (i := 1124) (by decide +kernel)⟩
theorem lw_p49 : lw_okq (⟨"TrueOneWayModel", "inAll", "()I"⟩, 40) := ⟨⟨by decide +kernel, by decide +kernel⟩, List.mem_of_getElem? (i := 828) (by decide +kernel), List.mem_of_getElem? (i := 1139) (by decide +kernel), List.mem_of_getElem? (i := 1140) (by decide +kernel)⟩
theorem lw_p50 : lw_okq (⟨"TrueOneWayModel", "inNone", "()I"⟩, 40) := ⟨⟨by decide +kernel, by decide +kernel⟩, List.mem_of_getElem? (i := 828) (by decide +kernel), List.mem_of_getElem? (i := 1143) (by decide +kernel), List.mem_of_getElem? (i := 1144) (by decide +kernel)⟩
theorem lw_p51 : lw_okq (⟨"TrueOneWayModel", "canBe", "(I)Z"⟩, 40) := ⟨⟨by decide +kernel, by decide +kernel⟩, List.mem_of_getElem? (i := 828) (by decide +kernel), List.mem_of_getElem? (i := 1154) (by decide +kernel), List.mem_of_getElem? (i := 1155) (by decide +kernel)⟩
theorem lw_p52 : lw_okq (⟨"TrueOneWayModel", "openFacts", "()I"⟩, 40) := ⟨⟨by decide +kernel, by decide +kernel⟩, List.mem_of_getElem? (i := 828) (by decide +kernel), List.mem_of_getElem? (i := 1162) (by decide +kernel), List.mem_of_getElem? (i := 1163) (by decide +kernel)⟩
theorem lw_p53 : lw_okq (⟨"TrueOneWayModel", "fewestFor", "(I)I"⟩, 40) := ⟨⟨by decide +kernel, by decide +kernel⟩, List.mem_of_getElem? (i := 828) (by decide +kernel), List.mem_of_getElem? (i := 1182) (by decide +kernel), List.mem_of_getElem? (i := 1183) (by decide +kernel)⟩
theorem lw_p54 : lw_okq (⟨"TrueOneWayModel", "alikeBy", "(I)I"⟩, 40) := ⟨⟨by decide +kernel, by decide +kernel⟩, List.mem_of_getElem? (i := 828) (by decide +kernel), List.mem_of_getElem? (i := 1186) (by decide +kernel), List.mem_of_getElem? (i := 1187) (by decide +kernel)⟩
theorem lw_p55 : lw_okq (⟨"TrueOneWayModel", "findWorths", "()V"⟩, 40) := ⟨⟨by decide +kernel, by decide +kernel⟩, List.mem_of_getElem? (i := 828) (by decide +kernel), List.mem_of_getElem? (i := 1198) (by decide +kernel), List.mem_of_getElem? (i := 1199) (by decide +kernel)⟩
theorem lw_p56 : lw_okq (⟨"TrueOneWayModel", "findFactSets", "()V"⟩, 40) := ⟨⟨by decide +kernel, by decide +kernel⟩, List.mem_of_getElem? (i := 828) (by decide +kernel), List.mem_of_getElem? (i := 1202) (by decide +kernel), List.mem_of_getElem? (i := 1203) (by decide +kernel)⟩
theorem lw_p57 : lw_okq (⟨"TrueOneWayModel", "isDone", "(II)Z"⟩, 40) := ⟨⟨by decide +kernel, by decide +kernel⟩, List.mem_of_getElem? (i := 828) (by decide +kernel), List.mem_of_getElem? (i := 1206) (by decide +kernel), List.mem_of_getElem? (i := 1207) (by decide +kernel)⟩
theorem lw_p58 : lw_okq (⟨"TrueOneWayModel", "agrees", "(II)Z"⟩, 40) := ⟨⟨by decide +kernel, by decide +kernel⟩, List.mem_of_getElem? (i := 828) (by decide +kernel), List.mem_of_getElem? (i := 1210) (by decide +kernel), List.mem_of_getElem? (i := 1211) (by decide +kernel)⟩
theorem lw_p59 : lw_okq (⟨"TrueOneWayModel", "bestNext", "(II)I"⟩, 40) := ⟨⟨by decide +kernel, by decide +kernel⟩, List.mem_of_getElem? (i := 828) (by decide +kernel), List.mem_of_getElem? (i := 1217) (by decide +kernel), List.mem_of_getElem? (i := 1218) (by decide +kernel)⟩
theorem lw_p60 : lw_okq (⟨"TrueOneWayModel", "areNext", "(II)Z"⟩, 40) := ⟨⟨by decide +kernel, by decide +kernel⟩, List.mem_of_getElem? (i := 828) (by decide +kernel), List.mem_of_getElem? (i := 1221) (by decide +kernel), List.mem_of_getElem? (i := 1222) (by decide +kernel)⟩
theorem lw_p61 : lw_okq (⟨"TrueOneWayModel", "worstAt", "(II)I"⟩, 40) := ⟨⟨by decide +kernel, by decide +kernel⟩, List.mem_of_getElem? (i := 828) (by decide +kernel), List.mem_of_getElem? (i := 1225) (by decide +kernel), List.mem_of_getElem? (i := 1226) (by decide +kernel)⟩
theorem lw_p62 : lw_okq (⟨"TrueOneWayModel", "knownAt", "(III)I"⟩, 40) := ⟨⟨by decide +kernel, by decide +kernel⟩, List.mem_of_getElem? (i := 828) (by decide +kernel), List.mem_of_getElem? (i := 1229) (by decide +kernel), List.mem_of_getElem? (i := 1230) (by decide +kernel)⟩
theorem lw_p63 : lw_okq (⟨"TrueOneWayModel", "walksBy", "(IIZ)V"⟩, 40) := ⟨⟨by decide +kernel, by decide +kernel⟩, List.mem_of_getElem? (i := 828) (by decide +kernel), List.mem_of_getElem? (i := 1241) (by decide +kernel), List.mem_of_getElem? (i := 1242) (by decide +kernel)⟩
def lw_privs_4 : List (MethodName × Nat) := [(⟨"TrueOneWayModel", "finds", "(II)I"⟩, 40), (⟨"TrueOneWayModel", "inAll", "()I"⟩, 40), (⟨"TrueOneWayModel", "inNone", "()I"⟩, 40), (⟨"TrueOneWayModel", "canBe", "(I)Z"⟩, 40), (⟨"TrueOneWayModel", "openFacts", "()I"⟩, 40), (⟨"TrueOneWayModel", "fewestFor", "(I)I"⟩, 40), (⟨"TrueOneWayModel", "alikeBy", "(I)I"⟩, 40), (⟨"TrueOneWayModel", "findWorths", "()V"⟩, 40), (⟨"TrueOneWayModel", "findFactSets", "()V"⟩, 40), (⟨"TrueOneWayModel", "isDone", "(II)Z"⟩, 40), (⟨"TrueOneWayModel", "agrees", "(II)Z"⟩, 40), (⟨"TrueOneWayModel", "bestNext", "(II)I"⟩, 40), (⟨"TrueOneWayModel", "areNext", "(II)Z"⟩, 40), (⟨"TrueOneWayModel", "worstAt", "(II)I"⟩, 40), (⟨"TrueOneWayModel", "knownAt", "(III)I"⟩, 40), (⟨"TrueOneWayModel", "walksBy", "(IIZ)V"⟩, 40)]
theorem lw_r4 : ∀ q ∈ lw_privs_4, lw_okq q := List.forall_mem_cons.mpr ⟨lw_p48, List.forall_mem_cons.mpr ⟨lw_p49, List.forall_mem_cons.mpr ⟨lw_p50, List.forall_mem_cons.mpr ⟨lw_p51, List.forall_mem_cons.mpr ⟨lw_p52, List.forall_mem_cons.mpr ⟨lw_p53, List.forall_mem_cons.mpr ⟨lw_p54, List.forall_mem_cons.mpr ⟨lw_p55, List.forall_mem_cons.mpr ⟨lw_p56, List.forall_mem_cons.mpr ⟨lw_p57, List.forall_mem_cons.mpr ⟨lw_p58, List.forall_mem_cons.mpr ⟨lw_p59, List.forall_mem_cons.mpr ⟨lw_p60, List.forall_mem_cons.mpr ⟨lw_p61, List.forall_mem_cons.mpr ⟨lw_p62, List.forall_mem_cons.mpr ⟨lw_p63, fun _ h => absurd h List.not_mem_nil⟩⟩⟩⟩⟩⟩⟩⟩⟩⟩⟩⟩⟩⟩⟩⟩
theorem lw_p64 : lw_okq (⟨"TrueOneWayModel", "signsOn", "(I)I"⟩, 40) := ⟨⟨by decide +kernel, by decide +kernel⟩, List.mem_of_getElem? (i := 828) (by decide +kernel), List.mem_of_getElem? (i := 1245) (by decide +kernel), List.mem_of_getElem? (i := 1246) (by decide +kernel)⟩
theorem lw_p65 : lw_okq (⟨"TrueOneWayModel", "doStand", "(IZI)Z"⟩, 40) := ⟨⟨by decide +kernel, by decide +kernel⟩, List.mem_of_getElem? (i := 828) (by decide +kernel), List.mem_of_getElem? (i := 1249) (by decide +kernel), List.mem_of_getElem? (i := 1250) (by decide +kernel)⟩
theorem lw_p66 : lw_okq (⟨"TrueOneWayModel", "nthOn", "(II)I"⟩, 40) := ⟨⟨by decide +kernel, by decide +kernel⟩, List.mem_of_getElem? (i := 828) (by decide +kernel), List.mem_of_getElem? (i := 1253) (by decide +kernel), List.mem_of_getElem? (i := 1254) (by decide +kernel)⟩
theorem lw_p67 : lw_okq (⟨"TrueOneWayModel", "fitMany", "()I"⟩, 40) := ⟨⟨by decide +kernel, by decide +kernel⟩, List.mem_of_getElem? (i := 828) (by decide +kernel), List.mem_of_getElem? (i := 1276) (by decide +kernel), List.mem_of_getElem? (i := 1277) (by decide +kernel)⟩
def lw_privs_5 : List (MethodName × Nat) := [(⟨"TrueOneWayModel", "signsOn", "(I)I"⟩, 40), (⟨"TrueOneWayModel", "doStand", "(IZI)Z"⟩, 40), (⟨"TrueOneWayModel", "nthOn", "(II)I"⟩, 40), (⟨"TrueOneWayModel", "fitMany", "()I"⟩, 40)]
theorem lw_r5 : ∀ q ∈ lw_privs_5, lw_okq q := List.forall_mem_cons.mpr ⟨lw_p64, List.forall_mem_cons.mpr ⟨lw_p65, List.forall_mem_cons.mpr ⟨lw_p66, List.forall_mem_cons.mpr ⟨lw_p67, fun _ h => absurd h List.not_mem_nil⟩⟩⟩⟩
def lw_privs : List (MethodName × Nat) := lw_privs_1 ++ (lw_privs_2 ++ (lw_privs_3 ++ (lw_privs_4 ++ (lw_privs_5))))
def lw_tbl : List Cond := k2_sels lw_privs ++ tables_1
theorem lw_privs_ok : ∀ q ∈ lw_privs, lw_okq q := by
  show ∀ q ∈ lw_privs_1 ++ (lw_privs_2 ++ (lw_privs_3 ++ (lw_privs_4 ++ (lw_privs_5)))), lw_okq q
  exact List.forall_mem_append.mpr ⟨lw_r1, List.forall_mem_append.mpr ⟨lw_r2, List.forall_mem_append.mpr ⟨lw_r3, List.forall_mem_append.mpr ⟨lw_r4, lw_r5⟩⟩⟩⟩
-- ===== end of PART A; then your names; then what follows =====
-- the words that every method carries: those of the tables that a call keeps
def qv_w0 : List Cond := [Cond.selects "TrueOneWay$Land" (⟨"TrueOneWay$Land", "isMisfit", "(II)Z"⟩ : MethodName) (⟨"TrueOneWay$Land", "isMisfit", "(II)Z"⟩ : MethodName), Cond.selects "TrueOneWay$Worlds" (⟨"TrueOneWay$Worlds", "isAsFound", "(I)Z"⟩ : MethodName) (⟨"TrueOneWay$Worlds", "isAsFound", "(I)Z"⟩ : MethodName), Cond.selects "TrueOneWay" (⟨"TrueOneWay", "refuse", "(I)I"⟩ : MethodName) (⟨"TrueOneWay", "refuse", "(I)I"⟩ : MethodName), Cond.selects "TrueOneWay" (⟨"TrueOneWay", "readText", "()I"⟩ : MethodName) (⟨"TrueOneWay", "readText", "()I"⟩ : MethodName), Cond.selects "TrueOneWay$Land" (⟨"TrueOneWay$Land", "takePlaces", "(I)Z"⟩ : MethodName) (⟨"TrueOneWay$Land", "takePlaces", "(I)Z"⟩ : MethodName), Cond.selects "TrueOneWay$Land" (⟨"TrueOneWay$Land", "placesToldOf", "()I"⟩ : MethodName) (⟨"TrueOneWay$Land", "placesToldOf", "()I"⟩ : MethodName), Cond.selects "TrueOneWay$Land" (⟨"TrueOneWay$Land", "takeRoad", "(II)Z"⟩ : MethodName) (⟨"TrueOneWay$Land", "takeRoad", "(II)Z"⟩ : MethodName), Cond.selects "TrueOneWay$Land" (⟨"TrueOneWay$Land", "takeFact", "()Z"⟩ : MethodName) (⟨"TrueOneWay$Land", "takeFact", "()Z"⟩ : MethodName), Cond.selects "TrueOneWay$Land" (⟨"TrueOneWay$Land", "takeSign", "(IIII)Z"⟩ : MethodName) (⟨"TrueOneWay$Land", "takeSign", "(IIII)Z"⟩ : MethodName), Cond.selects "TrueOneWay$Land" (⟨"TrueOneWay$Land", "canSpeakOf", "(III)Z"⟩ : MethodName) (⟨"TrueOneWay$Land", "canSpeakOf", "(III)Z"⟩ : MethodName), Cond.selects "TrueOneWay$Land" (⟨"TrueOneWay$Land", "takeShown", "(II)Z"⟩ : MethodName) (⟨"TrueOneWay$Land", "takeShown", "(II)Z"⟩ : MethodName), Cond.selects "TrueOneWay$Land" (⟨"TrueOneWay$Land", "takeInn", "(III)Z"⟩ : MethodName) (⟨"TrueOneWay$Land", "takeInn", "(III)Z"⟩ : MethodName), Cond.selects "TrueOneWay" (⟨"TrueOneWay", "find", "(II)I"⟩ : MethodName) (⟨"TrueOneWay", "find", "(II)I"⟩ : MethodName), Cond.selects "TrueOneWay$Clashes" (⟨"TrueOneWay$Clashes", "markSetsThatCanBe", "(LTrueOneWay$Worlds;LTrueOneWay$Finds;I)V"⟩ : MethodName) (⟨"TrueOneWay$Clashes", "markSetsThatCanBe", "(LTrueOneWay$Worlds;LTrueOneWay$Finds;I)V"⟩ : MethodName), Cond.selects "TrueOneWay$Wayfarer" (⟨"TrueOneWay$Wayfarer", "reckonAt", "(LTrueOneWay$Land;II)V"⟩ : MethodName) (⟨"TrueOneWay$Wayfarer", "reckonAt", "(LTrueOneWay$Land;II)V"⟩ : MethodName), Cond.selects "TrueOneWay$Wayfarer" (⟨"TrueOneWay$Wayfarer", "worstOf", "(LTrueOneWay$Land;III)I"⟩ : MethodName) (⟨"TrueOneWay$Wayfarer", "worstOf", "(LTrueOneWay$Land;III)I"⟩ : MethodName), Cond.selects "TrueOneWay$Wayfarer" (⟨"TrueOneWay$Wayfarer", "isInnSurelyAt", "(LTrueOneWay$Land;III)Z"⟩ : MethodName) (⟨"TrueOneWay$Wayfarer", "isInnSurelyAt", "(LTrueOneWay$Land;III)Z"⟩ : MethodName), Cond.selects "TrueOneWay$Wayfarer" (⟨"TrueOneWay$Wayfarer", "shorten", "(LTrueOneWay$Land;IIII)V"⟩ : MethodName) (⟨"TrueOneWay$Wayfarer", "shorten", "(LTrueOneWay$Land;IIII)V"⟩ : MethodName), Cond.selects "TrueOneWay$Reading" (⟨"TrueOneWay$Reading", "walk", "(LTrueOneWay$Land;IZI)V"⟩ : MethodName) (⟨"TrueOneWay$Reading", "walk", "(LTrueOneWay$Land;IZI)V"⟩ : MethodName), Cond.selects "TrueOneWay$Reading" (⟨"TrueOneWay$Reading", "isReadNext", "(LTrueOneWay$Land;IZI)Z"⟩ : MethodName) (⟨"TrueOneWay$Reading", "isReadNext", "(LTrueOneWay$Land;IZI)Z"⟩ : MethodName), Cond.selects "TrueOneWay" (⟨"TrueOneWay", "leastGreaterPart", "(I)I"⟩ : MethodName) (⟨"TrueOneWay", "leastGreaterPart", "(I)I"⟩ : MethodName), Cond.selects "TrueOneWayModel" (⟨"TrueOneWayModel", "no", "(I)I"⟩ : MethodName) (⟨"TrueOneWayModel", "no", "(I)I"⟩ : MethodName), Cond.selects "TrueOneWayModel" (⟨"TrueOneWayModel", "statement", "()Z"⟩ : MethodName) (⟨"TrueOneWayModel", "statement", "()Z"⟩ : MethodName), Cond.selects "TrueOneWayModel" (⟨"TrueOneWayModel", "nextLetter", "()I"⟩ : MethodName) (⟨"TrueOneWayModel", "nextLetter", "()I"⟩ : MethodName), Cond.selects "TrueOneWayModel" (⟨"TrueOneWayModel", "readsSign", "(I)Z"⟩ : MethodName) (⟨"TrueOneWayModel", "readsSign", "(I)Z"⟩ : MethodName), Cond.selects "TrueOneWayModel" (⟨"TrueOneWayModel", "digit", "()I"⟩ : MethodName) (⟨"TrueOneWayModel", "digit", "()I"⟩ : MethodName), Cond.selects "TrueOneWayModel" (⟨"TrueOneWayModel", "readsDigits", "(II)Z"⟩ : MethodName) (⟨"TrueOneWayModel", "readsDigits", "(II)Z"⟩ : MethodName), Cond.selects "TrueOneWayModel" (⟨"TrueOneWayModel", "passesAll", "(IZ)V"⟩ : MethodName) (⟨"TrueOneWayModel", "passesAll", "(IZ)V"⟩ : MethodName), Cond.selects "TrueOneWayModel" (⟨"TrueOneWayModel", "passes", "([I)V"⟩ : MethodName) (⟨"TrueOneWayModel", "passes", "([I)V"⟩ : MethodName), Cond.selects "TrueOneWayModel" (⟨"TrueOneWayModel", "passOne", "(I)I"⟩ : MethodName) (⟨"TrueOneWayModel", "passOne", "(I)I"⟩ : MethodName), Cond.selects "TrueOneWayModel" (⟨"TrueOneWayModel", "comes", "(I)Z"⟩ : MethodName) (⟨"TrueOneWayModel", "comes", "(I)Z"⟩ : MethodName), Cond.selects "TrueOneWayModel" (⟨"TrueOneWayModel", "toldPlaces", "()I"⟩ : MethodName) (⟨"TrueOneWayModel", "toldPlaces", "()I"⟩ : MethodName), Cond.selects "TrueOneWayModel" (⟨"TrueOneWayModel", "isPlace", "(I)Z"⟩ : MethodName) (⟨"TrueOneWayModel", "isPlace", "(I)Z"⟩ : MethodName), Cond.selects "TrueOneWayModel" (⟨"TrueOneWayModel", "comesSign", "(I)Z"⟩ : MethodName) (⟨"TrueOneWayModel", "comesSign", "(I)Z"⟩ : MethodName), Cond.selects "TrueOneWayModel" (⟨"TrueOneWayModel", "maySay", "(III)Z"⟩ : MethodName) (⟨"TrueOneWayModel", "maySay", "(III)Z"⟩ : MethodName), Cond.selects "TrueOneWayModel" (⟨"TrueOneWayModel", "isFact", "(I)Z"⟩ : MethodName) (⟨"TrueOneWayModel", "isFact", "(I)Z"⟩ : MethodName), Cond.selects "TrueOneWayModel" (⟨"TrueOneWayModel", "isSign", "(I)Z"⟩ : MethodName) (⟨"TrueOneWayModel", "isSign", "(I)Z"⟩ : MethodName), Cond.selects "TrueOneWayModel" (⟨"TrueOneWayModel", "isWorld", "(I)Z"⟩ : MethodName) (⟨"TrueOneWayModel", "isWorld", "(I)Z"⟩ : MethodName), Cond.selects "TrueOneWayModel" (⟨"TrueOneWayModel", "allFacts", "()I"⟩ : MethodName) (⟨"TrueOneWayModel", "allFacts", "()I"⟩ : MethodName), Cond.selects "TrueOneWayModel" (⟨"TrueOneWayModel", "allSigns", "()I"⟩ : MethodName) (⟨"TrueOneWayModel", "allSigns", "()I"⟩ : MethodName), Cond.selects "TrueOneWayModel" (⟨"TrueOneWayModel", "wrongs", "(I)I"⟩ : MethodName) (⟨"TrueOneWayModel", "wrongs", "(I)I"⟩ : MethodName), Cond.selects "TrueOneWayModel" (⟨"TrueOneWayModel", "isRight", "(II)Z"⟩ : MethodName) (⟨"TrueOneWayModel", "isRight", "(II)Z"⟩ : MethodName), Cond.selects "TrueOneWayModel" (⟨"TrueOneWayModel", "saysIn", "(II)I"⟩ : MethodName) (⟨"TrueOneWayModel", "saysIn", "(II)I"⟩ : MethodName), Cond.selects "TrueOneWayModel" (⟨"TrueOneWayModel", "isGood", "(I)Z"⟩ : MethodName) (⟨"TrueOneWayModel", "isGood", "(I)Z"⟩ : MethodName), Cond.selects "TrueOneWayModel" (⟨"TrueOneWayModel", "allFound", "()I"⟩ : MethodName) (⟨"TrueOneWayModel", "allFound", "()I"⟩ : MethodName), Cond.selects "TrueOneWayModel" (⟨"TrueOneWayModel", "areFoundSo", "(II)Z"⟩ : MethodName) (⟨"TrueOneWayModel", "areFoundSo", "(II)Z"⟩ : MethodName), Cond.selects "TrueOneWayModel" (⟨"TrueOneWayModel", "isFoundSo", "(II)Z"⟩ : MethodName) (⟨"TrueOneWayModel", "isFoundSo", "(II)Z"⟩ : MethodName), Cond.selects "TrueOneWayModel" (⟨"TrueOneWayModel", "findWorlds", "(I)V"⟩ : MethodName) (⟨"TrueOneWayModel", "findWorlds", "(I)V"⟩ : MethodName), Cond.selects "TrueOneWayModel" (⟨"TrueOneWayModel", "finds", "(II)I"⟩ : MethodName) (⟨"TrueOneWayModel", "finds", "(II)I"⟩ : MethodName), Cond.selects "TrueOneWayModel" (⟨"TrueOneWayModel", "inAll", "()I"⟩ : MethodName) (⟨"TrueOneWayModel", "inAll", "()I"⟩ : MethodName), Cond.selects "TrueOneWayModel" (⟨"TrueOneWayModel", "inNone", "()I"⟩ : MethodName) (⟨"TrueOneWayModel", "inNone", "()I"⟩ : MethodName), Cond.selects "TrueOneWayModel" (⟨"TrueOneWayModel", "canBe", "(I)Z"⟩ : MethodName) (⟨"TrueOneWayModel", "canBe", "(I)Z"⟩ : MethodName), Cond.selects "TrueOneWayModel" (⟨"TrueOneWayModel", "openFacts", "()I"⟩ : MethodName) (⟨"TrueOneWayModel", "openFacts", "()I"⟩ : MethodName), Cond.selects "TrueOneWayModel" (⟨"TrueOneWayModel", "fewestFor", "(I)I"⟩ : MethodName) (⟨"TrueOneWayModel", "fewestFor", "(I)I"⟩ : MethodName), Cond.selects "TrueOneWayModel" (⟨"TrueOneWayModel", "alikeBy", "(I)I"⟩ : MethodName) (⟨"TrueOneWayModel", "alikeBy", "(I)I"⟩ : MethodName), Cond.selects "TrueOneWayModel" (⟨"TrueOneWayModel", "findWorths", "()V"⟩ : MethodName) (⟨"TrueOneWayModel", "findWorths", "()V"⟩ : MethodName), Cond.selects "TrueOneWayModel" (⟨"TrueOneWayModel", "findFactSets", "()V"⟩ : MethodName) (⟨"TrueOneWayModel", "findFactSets", "()V"⟩ : MethodName), Cond.selects "TrueOneWayModel" (⟨"TrueOneWayModel", "isDone", "(II)Z"⟩ : MethodName) (⟨"TrueOneWayModel", "isDone", "(II)Z"⟩ : MethodName), Cond.selects "TrueOneWayModel" (⟨"TrueOneWayModel", "agrees", "(II)Z"⟩ : MethodName) (⟨"TrueOneWayModel", "agrees", "(II)Z"⟩ : MethodName), Cond.selects "TrueOneWayModel" (⟨"TrueOneWayModel", "bestNext", "(II)I"⟩ : MethodName) (⟨"TrueOneWayModel", "bestNext", "(II)I"⟩ : MethodName), Cond.selects "TrueOneWayModel" (⟨"TrueOneWayModel", "areNext", "(II)Z"⟩ : MethodName) (⟨"TrueOneWayModel", "areNext", "(II)Z"⟩ : MethodName), Cond.selects "TrueOneWayModel" (⟨"TrueOneWayModel", "worstAt", "(II)I"⟩ : MethodName) (⟨"TrueOneWayModel", "worstAt", "(II)I"⟩ : MethodName), Cond.selects "TrueOneWayModel" (⟨"TrueOneWayModel", "knownAt", "(III)I"⟩ : MethodName) (⟨"TrueOneWayModel", "knownAt", "(III)I"⟩ : MethodName), Cond.selects "TrueOneWayModel" (⟨"TrueOneWayModel", "walksBy", "(IIZ)V"⟩ : MethodName) (⟨"TrueOneWayModel", "walksBy", "(IIZ)V"⟩ : MethodName)]
def qv_w1 : List Cond := [Cond.selects "TrueOneWayModel" (⟨"TrueOneWayModel", "signsOn", "(I)I"⟩ : MethodName) (⟨"TrueOneWayModel", "signsOn", "(I)I"⟩ : MethodName), Cond.selects "TrueOneWayModel" (⟨"TrueOneWayModel", "doStand", "(IZI)Z"⟩ : MethodName) (⟨"TrueOneWayModel", "doStand", "(IZI)Z"⟩ : MethodName), Cond.selects "TrueOneWayModel" (⟨"TrueOneWayModel", "nthOn", "(II)I"⟩ : MethodName) (⟨"TrueOneWayModel", "nthOn", "(II)I"⟩ : MethodName), Cond.selects "TrueOneWayModel" (⟨"TrueOneWayModel", "fitMany", "()I"⟩ : MethodName) (⟨"TrueOneWayModel", "fitMany", "()I"⟩ : MethodName), (Jvm.Cond.initialized "TrueOneWayLaw"), (Jvm.Cond.initialized "TrueOneWay"), (Jvm.Cond.initialized "TrueOneWay$Text"), (Jvm.Cond.initialized "TrueOneWay$Land"), (Jvm.Cond.initialized "TrueOneWay$Finds"), (Jvm.Cond.initialized "TrueOneWay$Worlds"), (Jvm.Cond.initialized "TrueOneWay$Clashes"), (Jvm.Cond.initialized "TrueOneWay$Wayfarer"), (Jvm.Cond.initialized "TrueOneWay$Reading"), (Jvm.Cond.initialized "TrueOneWay$Bits"), (Jvm.Cond.initialized "TrueOneWayModel"), (Jvm.Cond.initialized "java/lang/String"), (Jvm.Cond.initialized "java/lang/StringLatin1"), (Jvm.Cond.initialized "jdk/internal/util/Preconditions"), (Jvm.Cond.initialized "java/lang/StringUTF16"), (Jvm.Cond.initialized "java/lang/Math"), (Jvm.Cond.initialized "java/lang/Character"), (Jvm.Cond.initialized "java/lang/System"), (Jvm.Cond.initialized "java/lang/Integer"), (Jvm.Cond.classLink "TrueOneWayLaw" (7 : Nat) "TrueOneWay"), (Jvm.Cond.instantiable "TrueOneWay" (12 : Nat)), (Jvm.Cond.methodLink "TrueOneWayLaw" (9 : Nat) ({ cls := "TrueOneWay", name := "<init>", desc := "()V" } : Jvm.MethodName)), (Jvm.Cond.instanceMethod ({ cls := "TrueOneWay", name := "<init>", desc := "()V" } : Jvm.MethodName)), (Jvm.Cond.code ({ cls := "TrueOneWay", name := "<init>", desc := "()V" } : Jvm.MethodName) prog_1_method_1_code (1 : Nat) (Option.none : Option Jvm.ClassFile.FieldType)), (Jvm.Cond.methodLink "TrueOneWay" (1 : Nat) ({ cls := "java/lang/Object", name := "<init>", desc := "()V" } : Jvm.MethodName)), (Jvm.Cond.instanceMethod ({ cls := "java/lang/Object", name := "<init>", desc := "()V" } : Jvm.MethodName)), (Jvm.Cond.code ({ cls := "java/lang/Object", name := "<init>", desc := "()V" } : Jvm.MethodName) object_method_1_code (1 : Nat) (Option.none : Option Jvm.ClassFile.FieldType)), (Jvm.Cond.classLink "TrueOneWay" (7 : Nat) "TrueOneWay$Text"), (Jvm.Cond.instantiable "TrueOneWay$Text" (2 : Nat)), (Jvm.Cond.instanceMethod ({ cls := "TrueOneWay$Text", name := "<init>", desc := "()V" } : Jvm.MethodName)), (Jvm.Cond.code ({ cls := "TrueOneWay$Text", name := "<init>", desc := "()V" } : Jvm.MethodName) prog_7_method_1_code (1 : Nat) (Option.none : Option Jvm.ClassFile.FieldType)), (Jvm.Cond.methodLink "TrueOneWay$Text" (3 : Nat) ({ cls := "java/lang/Object", name := "<init>", desc := "()V" } : Jvm.MethodName)), (Jvm.Cond.fieldLink "TrueOneWay$Text" (9 : Nat) "TrueOneWay$Text" "size" "I"), (Jvm.Cond.fieldLink "TrueOneWay" (87 : Nat) "TrueOneWay$Text" "size" "I"), (Jvm.Cond.fieldLink "TrueOneWay$Text" (15 : Nat) "TrueOneWay$Text" "letters" "[I"), (Jvm.Cond.lays "TrueOneWay$Text" "TrueOneWay$Text" "size" "I"), (Jvm.Cond.laysFinal "TrueOneWay$Text" "TrueOneWay$Text" "letters" "[I"), (Jvm.Cond.arrayClass Jvm.ClassFile.FieldType.int), (Jvm.Cond.classLink "TrueOneWay" (16 : Nat) "TrueOneWay$Land"), (Jvm.Cond.instantiable "TrueOneWay$Land" (14 : Nat)), (Jvm.Cond.instanceMethod ({ cls := "TrueOneWay$Land", name := "<init>", desc := "()V" } : Jvm.MethodName)), (Jvm.Cond.code ({ cls := "TrueOneWay$Land", name := "<init>", desc := "()V" } : Jvm.MethodName) prog_5_method_1_code (1 : Nat) (Option.none : Option Jvm.ClassFile.FieldType)), (Jvm.Cond.methodLink "TrueOneWay$Land" (3 : Nat) ({ cls := "java/lang/Object", name := "<init>", desc := "()V" } : Jvm.MethodName)), (Jvm.Cond.fieldLink "TrueOneWay$Land" (9 : Nat) "TrueOneWay$Land" "placeCount" "I"), (Jvm.Cond.fieldLink "TrueOneWay$Reading" (22 : Nat) "TrueOneWay$Land" "placeCount" "I"), (Jvm.Cond.fieldLink "TrueOneWay$Wayfarer" (48 : Nat) "TrueOneWay$Land" "placeCount" "I"), (Jvm.Cond.fieldLink "TrueOneWay" (246 : Nat) "TrueOneWay$Land" "placeCount" "I"), (Jvm.Cond.fieldLink "TrueOneWay$Land" (15 : Nat) "TrueOneWay$Land" "roadCount" "I"), (Jvm.Cond.fieldLink "TrueOneWay$Reading" (27 : Nat) "TrueOneWay$Land" "roadCount" "I"), (Jvm.Cond.fieldLink "TrueOneWay$Wayfarer" (67 : Nat) "TrueOneWay$Land" "roadCount" "I"), (Jvm.Cond.fieldLink "TrueOneWay" (266 : Nat) "TrueOneWay$Land" "roadCount" "I"), (Jvm.Cond.fieldLink "TrueOneWay$Land" (18 : Nat) "TrueOneWay$Land" "factCount" "I"), (Jvm.Cond.fieldLink "TrueOneWay" (214 : Nat) "TrueOneWay$Land" "factCount" "I"), (Jvm.Cond.fieldLink "TrueOneWay$Land" (21 : Nat) "TrueOneWay$Land" "signCount" "I"), (Jvm.Cond.fieldLink "TrueOneWay$Reading" (53 : Nat) "TrueOneWay$Land" "signCount" "I"), (Jvm.Cond.fieldLink "TrueOneWay" (182 : Nat) "TrueOneWay$Land" "signCount" "I"), (Jvm.Cond.fieldLink "TrueOneWay$Land" (24 : Nat) "TrueOneWay$Land" "roadFirst" "[I"), (Jvm.Cond.fieldLink "TrueOneWay" (106 : Nat) "TrueOneWay$Land" "roadFirst" "[I"), (Jvm.Cond.fieldLink "TrueOneWay$Wayfarer" (70 : Nat) "TrueOneWay$Land" "roadFirst" "[I"), (Jvm.Cond.fieldLink "TrueOneWay$Reading" (47 : Nat) "TrueOneWay$Land" "roadFirst" "[I")]
def qv_w2 : List Cond := [(Jvm.Cond.fieldLink "TrueOneWay$Land" (28 : Nat) "TrueOneWay$Land" "roadSecond" "[I"), (Jvm.Cond.fieldLink "TrueOneWay" (109 : Nat) "TrueOneWay$Land" "roadSecond" "[I"), (Jvm.Cond.fieldLink "TrueOneWay$Wayfarer" (73 : Nat) "TrueOneWay$Land" "roadSecond" "[I"), (Jvm.Cond.fieldLink "TrueOneWay$Reading" (50 : Nat) "TrueOneWay$Land" "roadSecond" "[I"), (Jvm.Cond.fieldLink "TrueOneWay$Land" (31 : Nat) "TrueOneWay$Land" "kind" "[I"), (Jvm.Cond.fieldLink "TrueOneWay" (118 : Nat) "TrueOneWay$Land" "kind" "[I"), (Jvm.Cond.fieldLink "TrueOneWay$Land" (34 : Nat) "TrueOneWay$Land" "standsOn" "[I"), (Jvm.Cond.fieldLink "TrueOneWay" (121 : Nat) "TrueOneWay$Land" "standsOn" "[I"), (Jvm.Cond.fieldLink "TrueOneWay$Reading" (56 : Nat) "TrueOneWay$Land" "standsOn" "[I"), (Jvm.Cond.fieldLink "TrueOneWay$Land" (37 : Nat) "TrueOneWay$Land" "partA" "[I"), (Jvm.Cond.fieldLink "TrueOneWay" (124 : Nat) "TrueOneWay$Land" "partA" "[I"), (Jvm.Cond.fieldLink "TrueOneWay$Land" (40 : Nat) "TrueOneWay$Land" "partB" "[I"), (Jvm.Cond.fieldLink "TrueOneWay" (127 : Nat) "TrueOneWay$Land" "partB" "[I"), (Jvm.Cond.fieldLink "TrueOneWay$Land" (43 : Nat) "TrueOneWay$Land" "shownAt" "[I"), (Jvm.Cond.fieldLink "TrueOneWay$Wayfarer" (39 : Nat) "TrueOneWay$Land" "shownAt" "[I"), (Jvm.Cond.fieldLink "TrueOneWay" (133 : Nat) "TrueOneWay$Land" "shownAt" "[I"), (Jvm.Cond.fieldLink "TrueOneWay$Land" (46 : Nat) "TrueOneWay$Land" "innIfSo" "I"), (Jvm.Cond.fieldLink "TrueOneWay$Land" (49 : Nat) "TrueOneWay$Land" "innIfNot" "I"), (Jvm.Cond.fieldLink "TrueOneWay$Land" (52 : Nat) "TrueOneWay$Land" "innFact" "I"), (Jvm.Cond.lays "TrueOneWay$Land" "TrueOneWay$Land" "placeCount" "I"), (Jvm.Cond.lays "TrueOneWay$Land" "TrueOneWay$Land" "roadCount" "I"), (Jvm.Cond.lays "TrueOneWay$Land" "TrueOneWay$Land" "factCount" "I"), (Jvm.Cond.lays "TrueOneWay$Land" "TrueOneWay$Land" "signCount" "I"), (Jvm.Cond.laysFinal "TrueOneWay$Land" "TrueOneWay$Land" "roadFirst" "[I"), (Jvm.Cond.laysFinal "TrueOneWay$Land" "TrueOneWay$Land" "roadSecond" "[I"), (Jvm.Cond.laysFinal "TrueOneWay$Land" "TrueOneWay$Land" "kind" "[I"), (Jvm.Cond.laysFinal "TrueOneWay$Land" "TrueOneWay$Land" "standsOn" "[I"), (Jvm.Cond.laysFinal "TrueOneWay$Land" "TrueOneWay$Land" "partA" "[I"), (Jvm.Cond.laysFinal "TrueOneWay$Land" "TrueOneWay$Land" "partB" "[I"), (Jvm.Cond.laysFinal "TrueOneWay$Land" "TrueOneWay$Land" "shownAt" "[I"), (Jvm.Cond.lays "TrueOneWay$Land" "TrueOneWay$Land" "innIfSo" "I"), (Jvm.Cond.lays "TrueOneWay$Land" "TrueOneWay$Land" "innIfNot" "I"), (Jvm.Cond.lays "TrueOneWay$Land" "TrueOneWay$Land" "innFact" "I"), (Jvm.Cond.classLink "TrueOneWay" (29 : Nat) "TrueOneWay$Finds"), (Jvm.Cond.instantiable "TrueOneWay$Finds" (3 : Nat)), (Jvm.Cond.instanceMethod ({ cls := "TrueOneWay$Finds", name := "<init>", desc := "()V" } : Jvm.MethodName)), (Jvm.Cond.code ({ cls := "TrueOneWay$Finds", name := "<init>", desc := "()V" } : Jvm.MethodName) prog_4_method_1_code (1 : Nat) (Option.none : Option Jvm.ClassFile.FieldType)), (Jvm.Cond.methodLink "TrueOneWay$Finds" (3 : Nat) ({ cls := "java/lang/Object", name := "<init>", desc := "()V" } : Jvm.MethodName)), (Jvm.Cond.fieldLink "TrueOneWay$Finds" (9 : Nat) "TrueOneWay$Finds" "size" "I"), (Jvm.Cond.fieldLink "TrueOneWay$Clashes" (15 : Nat) "TrueOneWay$Finds" "size" "I"), (Jvm.Cond.fieldLink "TrueOneWay" (162 : Nat) "TrueOneWay$Finds" "size" "I"), (Jvm.Cond.fieldLink "TrueOneWay$Finds" (15 : Nat) "TrueOneWay$Finds" "bit" "[I"), (Jvm.Cond.fieldLink "TrueOneWay$Finds" (19 : Nat) "TrueOneWay$Finds" "isSo" "[Z"), (Jvm.Cond.lays "TrueOneWay$Finds" "TrueOneWay$Finds" "size" "I"), (Jvm.Cond.laysFinal "TrueOneWay$Finds" "TrueOneWay$Finds" "bit" "[I"), (Jvm.Cond.laysFinal "TrueOneWay$Finds" "TrueOneWay$Finds" "isSo" "[Z"), (Jvm.Cond.arrayClass Jvm.ClassFile.FieldType.boolean), (Jvm.Cond.classLink "TrueOneWay" (39 : Nat) "TrueOneWay$Worlds"), (Jvm.Cond.instantiable "TrueOneWay$Worlds" (7 : Nat)), (Jvm.Cond.instanceMethod ({ cls := "TrueOneWay$Worlds", name := "<init>", desc := "()V" } : Jvm.MethodName)), (Jvm.Cond.code ({ cls := "TrueOneWay$Worlds", name := "<init>", desc := "()V" } : Jvm.MethodName) prog_9_method_1_code (1 : Nat) (Option.none : Option Jvm.ClassFile.FieldType)), (Jvm.Cond.methodLink "TrueOneWay$Worlds" (3 : Nat) ({ cls := "java/lang/Object", name := "<init>", desc := "()V" } : Jvm.MethodName)), (Jvm.Cond.fieldLink "TrueOneWay$Worlds" (9 : Nat) "TrueOneWay$Worlds" "mask" "I"), (Jvm.Cond.fieldLink "TrueOneWay$Wayfarer" (28 : Nat) "TrueOneWay$Worlds" "mask" "I"), (Jvm.Cond.fieldLink "TrueOneWay$Clashes" (31 : Nat) "TrueOneWay$Worlds" "mask" "I"), (Jvm.Cond.fieldLink "TrueOneWay" (172 : Nat) "TrueOneWay$Worlds" "mask" "I"), (Jvm.Cond.fieldLink "TrueOneWay$Worlds" (15 : Nat) "TrueOneWay$Worlds" "fittingCount" "I"), (Jvm.Cond.fieldLink "TrueOneWay" (269 : Nat) "TrueOneWay$Worlds" "fittingCount" "I"), (Jvm.Cond.fieldLink "TrueOneWay$Worlds" (18 : Nat) "TrueOneWay$Worlds" "goodCount" "I"), (Jvm.Cond.fieldLink "TrueOneWay$Wayfarer" (19 : Nat) "TrueOneWay$Worlds" "goodCount" "I"), (Jvm.Cond.fieldLink "TrueOneWay" (149 : Nat) "TrueOneWay$Worlds" "goodCount" "I"), (Jvm.Cond.fieldLink "TrueOneWay$Worlds" (21 : Nat) "TrueOneWay$Worlds" "goodOnes" "[I"), (Jvm.Cond.fieldLink "TrueOneWay$Wayfarer" (25 : Nat) "TrueOneWay$Worlds" "goodOnes" "[I"), (Jvm.Cond.fieldLink "TrueOneWay" (152 : Nat) "TrueOneWay$Worlds" "goodOnes" "[I")]
def qv_w3 : List Cond := [(Jvm.Cond.fieldLink "TrueOneWay$Worlds" (25 : Nat) "TrueOneWay$Worlds" "foundSo" "I"), (Jvm.Cond.fieldLink "TrueOneWay$Worlds" (28 : Nat) "TrueOneWay$Worlds" "foundNot" "I"), (Jvm.Cond.fieldLink "TrueOneWay$Worlds" (31 : Nat) "TrueOneWay$Worlds" "misfits" "[I"), (Jvm.Cond.lays "TrueOneWay$Worlds" "TrueOneWay$Worlds" "mask" "I"), (Jvm.Cond.lays "TrueOneWay$Worlds" "TrueOneWay$Worlds" "fittingCount" "I"), (Jvm.Cond.lays "TrueOneWay$Worlds" "TrueOneWay$Worlds" "goodCount" "I"), (Jvm.Cond.laysFinal "TrueOneWay$Worlds" "TrueOneWay$Worlds" "goodOnes" "[I"), (Jvm.Cond.lays "TrueOneWay$Worlds" "TrueOneWay$Worlds" "foundSo" "I"), (Jvm.Cond.lays "TrueOneWay$Worlds" "TrueOneWay$Worlds" "foundNot" "I"), (Jvm.Cond.laysFinal "TrueOneWay$Worlds" "TrueOneWay$Worlds" "misfits" "[I"), (Jvm.Cond.classLink "TrueOneWay" (46 : Nat) "TrueOneWay$Clashes"), (Jvm.Cond.instantiable "TrueOneWay$Clashes" (1 : Nat)), (Jvm.Cond.instanceMethod ({ cls := "TrueOneWay$Clashes", name := "<init>", desc := "()V" } : Jvm.MethodName)), (Jvm.Cond.code ({ cls := "TrueOneWay$Clashes", name := "<init>", desc := "()V" } : Jvm.MethodName) prog_3_method_1_code (1 : Nat) (Option.none : Option Jvm.ClassFile.FieldType)), (Jvm.Cond.methodLink "TrueOneWay$Clashes" (3 : Nat) ({ cls := "java/lang/Object", name := "<init>", desc := "()V" } : Jvm.MethodName)), (Jvm.Cond.fieldLink "TrueOneWay$Clashes" (9 : Nat) "TrueOneWay$Clashes" "canBe" "[Z"), (Jvm.Cond.laysFinal "TrueOneWay$Clashes" "TrueOneWay$Clashes" "canBe" "[Z"), (Jvm.Cond.classLink "TrueOneWay" (53 : Nat) "TrueOneWay$Wayfarer"), (Jvm.Cond.instantiable "TrueOneWay$Wayfarer" (2 : Nat)), (Jvm.Cond.instanceMethod ({ cls := "TrueOneWay$Wayfarer", name := "<init>", desc := "()V" } : Jvm.MethodName)), (Jvm.Cond.code ({ cls := "TrueOneWay$Wayfarer", name := "<init>", desc := "()V" } : Jvm.MethodName) prog_8_method_1_code (1 : Nat) (Option.none : Option Jvm.ClassFile.FieldType)), (Jvm.Cond.methodLink "TrueOneWay$Wayfarer" (3 : Nat) ({ cls := "java/lang/Object", name := "<init>", desc := "()V" } : Jvm.MethodName)), (Jvm.Cond.fieldLink "TrueOneWay$Wayfarer" (9 : Nat) "TrueOneWay$Wayfarer" "least" "[I"), (Jvm.Cond.fieldLink "TrueOneWay$Wayfarer" (15 : Nat) "TrueOneWay$Wayfarer" "canBe" "[Z"), (Jvm.Cond.laysFinal "TrueOneWay$Wayfarer" "TrueOneWay$Wayfarer" "least" "[I"), (Jvm.Cond.laysFinal "TrueOneWay$Wayfarer" "TrueOneWay$Wayfarer" "canBe" "[Z"), (Jvm.Cond.classLink "TrueOneWay" (60 : Nat) "TrueOneWay$Reading"), (Jvm.Cond.instantiable "TrueOneWay$Reading" (3 : Nat)), (Jvm.Cond.instanceMethod ({ cls := "TrueOneWay$Reading", name := "<init>", desc := "()V" } : Jvm.MethodName)), (Jvm.Cond.code ({ cls := "TrueOneWay$Reading", name := "<init>", desc := "()V" } : Jvm.MethodName) prog_6_method_1_code (1 : Nat) (Option.none : Option Jvm.ClassFile.FieldType)), (Jvm.Cond.methodLink "TrueOneWay$Reading" (3 : Nat) ({ cls := "java/lang/Object", name := "<init>", desc := "()V" } : Jvm.MethodName)), (Jvm.Cond.fieldLink "TrueOneWay$Reading" (9 : Nat) "TrueOneWay$Reading" "size" "I"), (Jvm.Cond.fieldLink "TrueOneWay" (234 : Nat) "TrueOneWay$Reading" "size" "I"), (Jvm.Cond.fieldLink "TrueOneWay$Reading" (15 : Nat) "TrueOneWay$Reading" "signs" "[I"), (Jvm.Cond.fieldLink "TrueOneWay$Reading" (19 : Nat) "TrueOneWay$Reading" "walks" "[I"), (Jvm.Cond.lays "TrueOneWay$Reading" "TrueOneWay$Reading" "size" "I"), (Jvm.Cond.laysFinal "TrueOneWay$Reading" "TrueOneWay$Reading" "signs" "[I"), (Jvm.Cond.laysFinal "TrueOneWay$Reading" "TrueOneWay$Reading" "walks" "[I"), (Jvm.Cond.methodLink "TrueOneWay" (75 : Nat) ({ cls := "TrueOneWay$Worlds", name := "reckon", desc := "(LTrueOneWay$Land;)V" } : Jvm.MethodName)), (Jvm.Cond.instanceMethod ({ cls := "TrueOneWay$Worlds", name := "reckon", desc := "(LTrueOneWay$Land;)V" } : Jvm.MethodName)), (Jvm.Cond.selects "TrueOneWay$Worlds" ({ cls := "TrueOneWay$Worlds", name := "reckon", desc := "(LTrueOneWay$Land;)V" } : Jvm.MethodName) ({ cls := "TrueOneWay$Worlds", name := "reckon", desc := "(LTrueOneWay$Land;)V" } : Jvm.MethodName)), (Jvm.Cond.code ({ cls := "TrueOneWay$Worlds", name := "reckon", desc := "(LTrueOneWay$Land;)V" } : Jvm.MethodName) prog_9_method_2_code (3 : Nat) (Option.none : Option Jvm.ClassFile.FieldType)), (Jvm.Cond.methodLink "TrueOneWay$Worlds" (34 : Nat) ({ cls := "TrueOneWay$Land", name := "worldMask", desc := "()I" } : Jvm.MethodName)), (Jvm.Cond.instanceMethod ({ cls := "TrueOneWay$Land", name := "worldMask", desc := "()I" } : Jvm.MethodName)), (Jvm.Cond.selects "TrueOneWay$Land" ({ cls := "TrueOneWay$Land", name := "worldMask", desc := "()I" } : Jvm.MethodName) ({ cls := "TrueOneWay$Land", name := "worldMask", desc := "()I" } : Jvm.MethodName)), (Jvm.Cond.code ({ cls := "TrueOneWay$Land", name := "worldMask", desc := "()I" } : Jvm.MethodName) prog_5_method_9_code (1 : Nat) (Option.some Jvm.ClassFile.FieldType.int)), (Jvm.Cond.methodLink "TrueOneWay$Land" (61 : Nat) ({ cls := "TrueOneWay$Land", name := "signMask", desc := "()I" } : Jvm.MethodName)), (Jvm.Cond.instanceMethod ({ cls := "TrueOneWay$Land", name := "signMask", desc := "()I" } : Jvm.MethodName)), (Jvm.Cond.selects "TrueOneWay$Land" ({ cls := "TrueOneWay$Land", name := "signMask", desc := "()I" } : Jvm.MethodName) ({ cls := "TrueOneWay$Land", name := "signMask", desc := "()I" } : Jvm.MethodName)), (Jvm.Cond.code ({ cls := "TrueOneWay$Land", name := "signMask", desc := "()I" } : Jvm.MethodName) prog_5_method_8_code (1 : Nat) (Option.some Jvm.ClassFile.FieldType.int)), (Jvm.Cond.methodLink "TrueOneWay$Worlds" (40 : Nat) ({ cls := "TrueOneWay$Worlds", name := "has", desc := "(I)Z" } : Jvm.MethodName)), (Jvm.Cond.instanceMethod ({ cls := "TrueOneWay$Worlds", name := "has", desc := "(I)Z" } : Jvm.MethodName)), (Jvm.Cond.selects "TrueOneWay$Worlds" ({ cls := "TrueOneWay$Worlds", name := "has", desc := "(I)Z" } : Jvm.MethodName) ({ cls := "TrueOneWay$Worlds", name := "has", desc := "(I)Z" } : Jvm.MethodName)), (Jvm.Cond.code ({ cls := "TrueOneWay$Worlds", name := "has", desc := "(I)Z" } : Jvm.MethodName) prog_9_method_4_code (2 : Nat) (Option.some Jvm.ClassFile.FieldType.boolean)), (Jvm.Cond.methodLink "TrueOneWay$Worlds" (44 : Nat) ({ cls := "TrueOneWay$Land", name := "misfitsIn", desc := "(I)I" } : Jvm.MethodName)), (Jvm.Cond.instanceMethod ({ cls := "TrueOneWay$Land", name := "misfitsIn", desc := "(I)I" } : Jvm.MethodName)), (Jvm.Cond.selects "TrueOneWay$Land" ({ cls := "TrueOneWay$Land", name := "misfitsIn", desc := "(I)I" } : Jvm.MethodName) ({ cls := "TrueOneWay$Land", name := "misfitsIn", desc := "(I)I" } : Jvm.MethodName)), (Jvm.Cond.code ({ cls := "TrueOneWay$Land", name := "misfitsIn", desc := "(I)I" } : Jvm.MethodName) prog_5_method_24_code (4 : Nat) (Option.some Jvm.ClassFile.FieldType.int)), (Jvm.Cond.methodLink "TrueOneWay$Land" (132 : Nat) ({ cls := "TrueOneWay$Land", name := "isMisfit", desc := "(II)Z" } : Jvm.MethodName)), (Jvm.Cond.instanceMethod ({ cls := "TrueOneWay$Land", name := "isMisfit", desc := "(II)Z" } : Jvm.MethodName)), (Jvm.Cond.code ({ cls := "TrueOneWay$Land", name := "isMisfit", desc := "(II)Z" } : Jvm.MethodName) prog_5_method_23_code (3 : Nat) (Option.some Jvm.ClassFile.FieldType.boolean)), (Jvm.Cond.methodLink "TrueOneWay$Land" (65 : Nat) ({ cls := "TrueOneWay$Bits", name := "has", desc := "(II)Z" } : Jvm.MethodName)), (Jvm.Cond.static ({ cls := "TrueOneWay$Bits", name := "has", desc := "(II)Z" } : Jvm.MethodName)), (Jvm.Cond.code ({ cls := "TrueOneWay$Bits", name := "has", desc := "(II)Z" } : Jvm.MethodName) prog_2_method_2_code (2 : Nat) (Option.some Jvm.ClassFile.FieldType.boolean))]
def qv_w4 : List Cond := [(Jvm.Cond.methodLink "TrueOneWay$Land" (129 : Nat) ({ cls := "TrueOneWay$Land", name := "isSaidSo", desc := "(II)Z" } : Jvm.MethodName)), (Jvm.Cond.instanceMethod ({ cls := "TrueOneWay$Land", name := "isSaidSo", desc := "(II)Z" } : Jvm.MethodName)), (Jvm.Cond.selects "TrueOneWay$Land" ({ cls := "TrueOneWay$Land", name := "isSaidSo", desc := "(II)Z" } : Jvm.MethodName) ({ cls := "TrueOneWay$Land", name := "isSaidSo", desc := "(II)Z" } : Jvm.MethodName)), (Jvm.Cond.code ({ cls := "TrueOneWay$Land", name := "isSaidSo", desc := "(II)Z" } : Jvm.MethodName) prog_5_method_22_code (5 : Nat) (Option.some Jvm.ClassFile.FieldType.boolean)), (Jvm.Cond.methodLink "TrueOneWay$Land" (126 : Nat) ({ cls := "TrueOneWay$Land", name := "hasSign", desc := "(I)Z" } : Jvm.MethodName)), (Jvm.Cond.instanceMethod ({ cls := "TrueOneWay$Land", name := "hasSign", desc := "(I)Z" } : Jvm.MethodName)), (Jvm.Cond.selects "TrueOneWay$Land" ({ cls := "TrueOneWay$Land", name := "hasSign", desc := "(I)Z" } : Jvm.MethodName) ({ cls := "TrueOneWay$Land", name := "hasSign", desc := "(I)Z" } : Jvm.MethodName)), (Jvm.Cond.code ({ cls := "TrueOneWay$Land", name := "hasSign", desc := "(I)Z" } : Jvm.MethodName) prog_5_method_6_code (2 : Nat) (Option.some Jvm.ClassFile.FieldType.boolean)), (Jvm.Cond.methodLink "TrueOneWay" (79 : Nat) ({ cls := "TrueOneWay$Worlds", name := "sift", desc := "(LTrueOneWay$Finds;)V" } : Jvm.MethodName)), (Jvm.Cond.instanceMethod ({ cls := "TrueOneWay$Worlds", name := "sift", desc := "(LTrueOneWay$Finds;)V" } : Jvm.MethodName)), (Jvm.Cond.selects "TrueOneWay$Worlds" ({ cls := "TrueOneWay$Worlds", name := "sift", desc := "(LTrueOneWay$Finds;)V" } : Jvm.MethodName) ({ cls := "TrueOneWay$Worlds", name := "sift", desc := "(LTrueOneWay$Finds;)V" } : Jvm.MethodName)), (Jvm.Cond.code ({ cls := "TrueOneWay$Worlds", name := "sift", desc := "(LTrueOneWay$Finds;)V" } : Jvm.MethodName) prog_9_method_3_code (3 : Nat) (Option.none : Option Jvm.ClassFile.FieldType)), (Jvm.Cond.methodLink "TrueOneWay$Worlds" (48 : Nat) ({ cls := "TrueOneWay$Finds", name := "bitsFound", desc := "(Z)I" } : Jvm.MethodName)), (Jvm.Cond.instanceMethod ({ cls := "TrueOneWay$Finds", name := "bitsFound", desc := "(Z)I" } : Jvm.MethodName)), (Jvm.Cond.selects "TrueOneWay$Finds" ({ cls := "TrueOneWay$Finds", name := "bitsFound", desc := "(Z)I" } : Jvm.MethodName) ({ cls := "TrueOneWay$Finds", name := "bitsFound", desc := "(Z)I" } : Jvm.MethodName)), (Jvm.Cond.code ({ cls := "TrueOneWay$Finds", name := "bitsFound", desc := "(Z)I" } : Jvm.MethodName) prog_4_method_5_code (4 : Nat) (Option.some Jvm.ClassFile.FieldType.int)), (Jvm.Cond.methodLink "TrueOneWay$Worlds" (54 : Nat) ({ cls := "TrueOneWay$Worlds", name := "isGood", desc := "(I)Z" } : Jvm.MethodName)), (Jvm.Cond.instanceMethod ({ cls := "TrueOneWay$Worlds", name := "isGood", desc := "(I)Z" } : Jvm.MethodName)), (Jvm.Cond.selects "TrueOneWay$Worlds" ({ cls := "TrueOneWay$Worlds", name := "isGood", desc := "(I)Z" } : Jvm.MethodName) ({ cls := "TrueOneWay$Worlds", name := "isGood", desc := "(I)Z" } : Jvm.MethodName)), (Jvm.Cond.code ({ cls := "TrueOneWay$Worlds", name := "isGood", desc := "(I)Z" } : Jvm.MethodName) prog_9_method_6_code (2 : Nat) (Option.some Jvm.ClassFile.FieldType.boolean)), (Jvm.Cond.methodLink "TrueOneWay$Worlds" (57 : Nat) ({ cls := "TrueOneWay$Worlds", name := "isFitting", desc := "(I)Z" } : Jvm.MethodName)), (Jvm.Cond.instanceMethod ({ cls := "TrueOneWay$Worlds", name := "isFitting", desc := "(I)Z" } : Jvm.MethodName)), (Jvm.Cond.selects "TrueOneWay$Worlds" ({ cls := "TrueOneWay$Worlds", name := "isFitting", desc := "(I)Z" } : Jvm.MethodName) ({ cls := "TrueOneWay$Worlds", name := "isFitting", desc := "(I)Z" } : Jvm.MethodName)), (Jvm.Cond.code ({ cls := "TrueOneWay$Worlds", name := "isFitting", desc := "(I)Z" } : Jvm.MethodName) prog_9_method_5_code (2 : Nat) (Option.some Jvm.ClassFile.FieldType.boolean)), (Jvm.Cond.methodLink "TrueOneWay$Worlds" (60 : Nat) ({ cls := "TrueOneWay$Worlds", name := "isAsFound", desc := "(I)Z" } : Jvm.MethodName)), (Jvm.Cond.instanceMethod ({ cls := "TrueOneWay$Worlds", name := "isAsFound", desc := "(I)Z" } : Jvm.MethodName)), (Jvm.Cond.code ({ cls := "TrueOneWay$Worlds", name := "isAsFound", desc := "(I)Z" } : Jvm.MethodName) prog_9_method_7_code (2 : Nat) (Option.some Jvm.ClassFile.FieldType.boolean)), (Jvm.Cond.methodLink "TrueOneWay$Worlds" (63 : Nat) ({ cls := "TrueOneWay$Bits", name := "allow", desc := "(III)Z" } : Jvm.MethodName)), (Jvm.Cond.static ({ cls := "TrueOneWay$Bits", name := "allow", desc := "(III)Z" } : Jvm.MethodName)), (Jvm.Cond.code ({ cls := "TrueOneWay$Bits", name := "allow", desc := "(III)Z" } : Jvm.MethodName) prog_2_method_3_code (3 : Nat) (Option.some Jvm.ClassFile.FieldType.boolean)), (Jvm.Cond.fieldLink "TrueOneWay" (10 : Nat) "TrueOneWay" "text" "LTrueOneWay$Text;"), (Jvm.Cond.fieldLink "TrueOneWay" (19 : Nat) "TrueOneWay" "told" "LTrueOneWay$Land;"), (Jvm.Cond.fieldLink "TrueOneWay" (23 : Nat) "TrueOneWay" "draft" "LTrueOneWay$Land;"), (Jvm.Cond.fieldLink "TrueOneWay" (26 : Nat) "TrueOneWay" "keptLand" "LTrueOneWay$Land;"), (Jvm.Cond.fieldLink "TrueOneWay" (32 : Nat) "TrueOneWay" "found" "LTrueOneWay$Finds;"), (Jvm.Cond.fieldLink "TrueOneWay" (36 : Nat) "TrueOneWay" "keptFound" "LTrueOneWay$Finds;"), (Jvm.Cond.fieldLink "TrueOneWay" (42 : Nat) "TrueOneWay" "all" "LTrueOneWay$Worlds;"), (Jvm.Cond.fieldLink "TrueOneWay" (49 : Nat) "TrueOneWay" "clashes" "LTrueOneWay$Clashes;"), (Jvm.Cond.fieldLink "TrueOneWay" (56 : Nat) "TrueOneWay" "wayfarer" "LTrueOneWay$Wayfarer;"), (Jvm.Cond.fieldLink "TrueOneWay" (63 : Nat) "TrueOneWay" "reading" "LTrueOneWay$Reading;"), (Jvm.Cond.fieldLink "TrueOneWay" (67 : Nat) "TrueOneWay" "refusals" "[I"), (Jvm.Cond.fieldLink "TrueOneWay" (71 : Nat) "TrueOneWay" "imageTaken" "Z"), (Jvm.Cond.laysFinal "TrueOneWay" "TrueOneWay" "text" "LTrueOneWay$Text;"), (Jvm.Cond.laysFinal "TrueOneWay" "TrueOneWay" "told" "LTrueOneWay$Land;"), (Jvm.Cond.laysFinal "TrueOneWay" "TrueOneWay" "draft" "LTrueOneWay$Land;"), (Jvm.Cond.laysFinal "TrueOneWay" "TrueOneWay" "keptLand" "LTrueOneWay$Land;"), (Jvm.Cond.laysFinal "TrueOneWay" "TrueOneWay" "found" "LTrueOneWay$Finds;"), (Jvm.Cond.laysFinal "TrueOneWay" "TrueOneWay" "keptFound" "LTrueOneWay$Finds;"), (Jvm.Cond.laysFinal "TrueOneWay" "TrueOneWay" "all" "LTrueOneWay$Worlds;"), (Jvm.Cond.laysFinal "TrueOneWay" "TrueOneWay" "clashes" "LTrueOneWay$Clashes;"), (Jvm.Cond.laysFinal "TrueOneWay" "TrueOneWay" "wayfarer" "LTrueOneWay$Wayfarer;"), (Jvm.Cond.laysFinal "TrueOneWay" "TrueOneWay" "reading" "LTrueOneWay$Reading;"), (Jvm.Cond.laysFinal "TrueOneWay" "TrueOneWay" "refusals" "[I"), (Jvm.Cond.lays "TrueOneWay" "TrueOneWay" "imageTaken" "Z"), (Jvm.Cond.methodLink "TrueOneWayLaw" (13 : Nat) ({ cls := "TrueOneWay", name := "letter", desc := "(I)I" } : Jvm.MethodName)), (Jvm.Cond.instanceMethod ({ cls := "TrueOneWay", name := "letter", desc := "(I)I" } : Jvm.MethodName)), (Jvm.Cond.selects "TrueOneWay" ({ cls := "TrueOneWay", name := "letter", desc := "(I)I" } : Jvm.MethodName) ({ cls := "TrueOneWay", name := "letter", desc := "(I)I" } : Jvm.MethodName)), (Jvm.Cond.code ({ cls := "TrueOneWay", name := "letter", desc := "(I)I" } : Jvm.MethodName) prog_1_method_2_code (2 : Nat) (Option.some Jvm.ClassFile.FieldType.int)), (Jvm.Cond.methodLink "TrueOneWay" (83 : Nat) ({ cls := "TrueOneWay", name := "refuse", desc := "(I)I" } : Jvm.MethodName)), (Jvm.Cond.instanceMethod ({ cls := "TrueOneWay", name := "refuse", desc := "(I)I" } : Jvm.MethodName)), (Jvm.Cond.code ({ cls := "TrueOneWay", name := "refuse", desc := "(I)I" } : Jvm.MethodName) prog_1_method_31_code (3 : Nat) (Option.some Jvm.ClassFile.FieldType.int)), (Jvm.Cond.methodLink "TrueOneWay" (91 : Nat) ({ cls := "TrueOneWay$Text", name := "add", desc := "(I)V" } : Jvm.MethodName)), (Jvm.Cond.instanceMethod ({ cls := "TrueOneWay$Text", name := "add", desc := "(I)V" } : Jvm.MethodName)), (Jvm.Cond.selects "TrueOneWay$Text" ({ cls := "TrueOneWay$Text", name := "add", desc := "(I)V" } : Jvm.MethodName) ({ cls := "TrueOneWay$Text", name := "add", desc := "(I)V" } : Jvm.MethodName))]
def qv_w5 : List Cond := [(Jvm.Cond.code ({ cls := "TrueOneWay$Text", name := "add", desc := "(I)V" } : Jvm.MethodName) prog_7_method_2_code (2 : Nat) (Option.none : Option Jvm.ClassFile.FieldType)), (Jvm.Cond.methodLink "TrueOneWayLaw" (18 : Nat) ({ cls := "TrueOneWay", name := "land", desc := "()I" } : Jvm.MethodName)), (Jvm.Cond.instanceMethod ({ cls := "TrueOneWay", name := "land", desc := "()I" } : Jvm.MethodName)), (Jvm.Cond.selects "TrueOneWay" ({ cls := "TrueOneWay", name := "land", desc := "()I" } : Jvm.MethodName) ({ cls := "TrueOneWay", name := "land", desc := "()I" } : Jvm.MethodName)), (Jvm.Cond.code ({ cls := "TrueOneWay", name := "land", desc := "()I" } : Jvm.MethodName) prog_1_method_3_code (2 : Nat) (Option.some Jvm.ClassFile.FieldType.int)), (Jvm.Cond.methodLink "TrueOneWay" (95 : Nat) ({ cls := "TrueOneWay", name := "readText", desc := "()I" } : Jvm.MethodName)), (Jvm.Cond.instanceMethod ({ cls := "TrueOneWay", name := "readText", desc := "()I" } : Jvm.MethodName)), (Jvm.Cond.code ({ cls := "TrueOneWay", name := "readText", desc := "()I" } : Jvm.MethodName) prog_1_method_32_code (4 : Nat) (Option.some Jvm.ClassFile.FieldType.int)), (Jvm.Cond.methodLink "TrueOneWay" (272 : Nat) ({ cls := "TrueOneWay$Text", name := "firstOdd", desc := "()I" } : Jvm.MethodName)), (Jvm.Cond.instanceMethod ({ cls := "TrueOneWay$Text", name := "firstOdd", desc := "()I" } : Jvm.MethodName)), (Jvm.Cond.selects "TrueOneWay$Text" ({ cls := "TrueOneWay$Text", name := "firstOdd", desc := "()I" } : Jvm.MethodName) ({ cls := "TrueOneWay$Text", name := "firstOdd", desc := "()I" } : Jvm.MethodName)), (Jvm.Cond.code ({ cls := "TrueOneWay$Text", name := "firstOdd", desc := "()I" } : Jvm.MethodName) prog_7_method_8_code (4 : Nat) (Option.some Jvm.ClassFile.FieldType.int)), (Jvm.Cond.methodLink "TrueOneWay$Text" (38 : Nat) ({ cls := "java/lang/String", name := "length", desc := "()I" } : Jvm.MethodName)), (Jvm.Cond.instanceMethod ({ cls := "java/lang/String", name := "length", desc := "()I" } : Jvm.MethodName)), (Jvm.Cond.selects "java/lang/String" ({ cls := "java/lang/String", name := "length", desc := "()I" } : Jvm.MethodName) ({ cls := "java/lang/String", name := "length", desc := "()I" } : Jvm.MethodName)), (Jvm.Cond.code ({ cls := "java/lang/String", name := "length", desc := "()I" } : Jvm.MethodName) prog_15_method_54_code (1 : Nat) (Option.some Jvm.ClassFile.FieldType.int)), (Jvm.Cond.methodLink "java/lang/String" (335 : Nat) ({ cls := "java/lang/String", name := "coder", desc := "()B" } : Jvm.MethodName)), (Jvm.Cond.instanceMethod ({ cls := "java/lang/String", name := "coder", desc := "()B" } : Jvm.MethodName)), (Jvm.Cond.selects "java/lang/String" ({ cls := "java/lang/String", name := "coder", desc := "()B" } : Jvm.MethodName) ({ cls := "java/lang/String", name := "coder", desc := "()B" } : Jvm.MethodName)), (Jvm.Cond.code ({ cls := "java/lang/String", name := "coder", desc := "()B" } : Jvm.MethodName) prog_15_method_152_code (1 : Nat) (Option.some Jvm.ClassFile.FieldType.byte)), (Jvm.Cond.fieldLink "java/lang/String" (38 : Nat) "java/lang/String" "COMPACT_STRINGS" "Z"), (Jvm.Cond.methodLink "TrueOneWay$Text" (34 : Nat) ({ cls := "TrueOneWay$Text", name := "formOf", desc := "(I)Ljava/lang/String;" } : Jvm.MethodName)), (Jvm.Cond.static ({ cls := "TrueOneWay$Text", name := "formOf", desc := "(I)Ljava/lang/String;" } : Jvm.MethodName)), (Jvm.Cond.code ({ cls := "TrueOneWay$Text", name := "formOf", desc := "(I)Ljava/lang/String;" } : Jvm.MethodName) prog_7_method_9_code (1 : Nat) (Option.some (Jvm.ClassFile.FieldType.object "java/lang/String"))), (Jvm.Cond.methodLink "TrueOneWay$Text" (44 : Nat) ({ cls := "java/lang/String", name := "charAt", desc := "(I)C" } : Jvm.MethodName)), (Jvm.Cond.instanceMethod ({ cls := "java/lang/String", name := "charAt", desc := "(I)C" } : Jvm.MethodName)), (Jvm.Cond.selects "java/lang/String" ({ cls := "java/lang/String", name := "charAt", desc := "(I)C" } : Jvm.MethodName) ({ cls := "java/lang/String", name := "charAt", desc := "(I)C" } : Jvm.MethodName)), (Jvm.Cond.code ({ cls := "java/lang/String", name := "charAt", desc := "(I)C" } : Jvm.MethodName) prog_15_method_56_code (2 : Nat) (Option.some Jvm.ClassFile.FieldType.char)), (Jvm.Cond.methodLink "java/lang/String" (492 : Nat) ({ cls := "java/lang/String", name := "isLatin1", desc := "()Z" } : Jvm.MethodName)), (Jvm.Cond.instanceMethod ({ cls := "java/lang/String", name := "isLatin1", desc := "()Z" } : Jvm.MethodName)), (Jvm.Cond.selects "java/lang/String" ({ cls := "java/lang/String", name := "isLatin1", desc := "()Z" } : Jvm.MethodName) ({ cls := "java/lang/String", name := "isLatin1", desc := "()Z" } : Jvm.MethodName)), (Jvm.Cond.code ({ cls := "java/lang/String", name := "isLatin1", desc := "()Z" } : Jvm.MethodName) prog_15_method_154_code (1 : Nat) (Option.some Jvm.ClassFile.FieldType.boolean)), (Jvm.Cond.methodLink "java/lang/String" (495 : Nat) ({ cls := "java/lang/StringLatin1", name := "charAt", desc := "([BI)C" } : Jvm.MethodName)), (Jvm.Cond.static ({ cls := "java/lang/StringLatin1", name := "charAt", desc := "([BI)C" } : Jvm.MethodName)), (Jvm.Cond.code ({ cls := "java/lang/StringLatin1", name := "charAt", desc := "([BI)C" } : Jvm.MethodName) prog_16_method_2_code (2 : Nat) (Option.some Jvm.ClassFile.FieldType.char)), (Jvm.Cond.methodLink "java/lang/StringLatin1" (9 : Nat) ({ cls := "java/lang/String", name := "checkIndex", desc := "(II)V" } : Jvm.MethodName)), (Jvm.Cond.static ({ cls := "java/lang/String", name := "checkIndex", desc := "(II)V" } : Jvm.MethodName)), (Jvm.Cond.code ({ cls := "java/lang/String", name := "checkIndex", desc := "(II)V" } : Jvm.MethodName) prog_15_method_155_code (2 : Nat) (Option.none : Option Jvm.ClassFile.FieldType)), (Jvm.Cond.fieldLink "java/lang/String" (1053 : Nat) "jdk/internal/util/Preconditions" "SIOOBE_FORMATTER" "Ljava/util/function/BiFunction;"), (Jvm.Cond.methodLink "java/lang/String" (1059 : Nat) ({ cls := "jdk/internal/util/Preconditions", name := "checkIndex", desc := "(IILjava/util/function/BiFunction;)I" } : Jvm.MethodName)), (Jvm.Cond.static ({ cls := "jdk/internal/util/Preconditions", name := "checkIndex", desc := "(IILjava/util/function/BiFunction;)I" } : Jvm.MethodName)), (Jvm.Cond.code ({ cls := "jdk/internal/util/Preconditions", name := "checkIndex", desc := "(IILjava/util/function/BiFunction;)I" } : Jvm.MethodName) prog_19_method_11_code (3 : Nat) (Option.some Jvm.ClassFile.FieldType.int)), (Jvm.Cond.methodLink "java/lang/String" (498 : Nat) ({ cls := "java/lang/StringUTF16", name := "charAt", desc := "([BI)C" } : Jvm.MethodName)), (Jvm.Cond.static ({ cls := "java/lang/StringUTF16", name := "charAt", desc := "([BI)C" } : Jvm.MethodName)), (Jvm.Cond.code ({ cls := "java/lang/StringUTF16", name := "charAt", desc := "([BI)C" } : Jvm.MethodName) prog_17_method_83_code (2 : Nat) (Option.some Jvm.ClassFile.FieldType.char)), (Jvm.Cond.methodLink "java/lang/StringUTF16" (67 : Nat) ({ cls := "java/lang/StringUTF16", name := "checkIndex", desc := "(I[B)V" } : Jvm.MethodName)), (Jvm.Cond.static ({ cls := "java/lang/StringUTF16", name := "checkIndex", desc := "(I[B)V" } : Jvm.MethodName)), (Jvm.Cond.code ({ cls := "java/lang/StringUTF16", name := "checkIndex", desc := "(I[B)V" } : Jvm.MethodName) prog_17_method_91_code (2 : Nat) (Option.none : Option Jvm.ClassFile.FieldType)), (Jvm.Cond.methodLink "java/lang/StringUTF16" (48 : Nat) ({ cls := "java/lang/StringUTF16", name := "length", desc := "([B)I" } : Jvm.MethodName)), (Jvm.Cond.static ({ cls := "java/lang/StringUTF16", name := "length", desc := "([B)I" } : Jvm.MethodName)), (Jvm.Cond.code ({ cls := "java/lang/StringUTF16", name := "length", desc := "([B)I" } : Jvm.MethodName) prog_17_method_6_code (1 : Nat) (Option.some Jvm.ClassFile.FieldType.int)), (Jvm.Cond.methodLink "java/lang/StringUTF16" (414 : Nat) ({ cls := "java/lang/String", name := "checkIndex", desc := "(II)V" } : Jvm.MethodName)), (Jvm.Cond.methodLink "java/lang/StringUTF16" (71 : Nat) ({ cls := "java/lang/StringUTF16", name := "getChar", desc := "([BI)C" } : Jvm.MethodName)), (Jvm.Cond.static ({ cls := "java/lang/StringUTF16", name := "getChar", desc := "([BI)C" } : Jvm.MethodName)), (Jvm.Cond.code ({ cls := "java/lang/StringUTF16", name := "getChar", desc := "([BI)C" } : Jvm.MethodName) prog_17_method_5_code (2 : Nat) (Option.some Jvm.ClassFile.FieldType.char)), (Jvm.Cond.fieldLink "java/lang/StringUTF16" (44 : Nat) "java/lang/StringUTF16" "$assertionsDisabled" "Z"), (Jvm.Cond.fieldLink "java/lang/StringUTF16" (59 : Nat) "java/lang/StringUTF16" "HI_BYTE_SHIFT" "I"), (Jvm.Cond.fieldLink "java/lang/StringUTF16" (63 : Nat) "java/lang/StringUTF16" "LO_BYTE_SHIFT" "I"), (Jvm.Cond.methodLink "TrueOneWay$Text" (48 : Nat) ({ cls := "TrueOneWay$Text", name := "suits", desc := "(CI)Z" } : Jvm.MethodName)), (Jvm.Cond.static ({ cls := "TrueOneWay$Text", name := "suits", desc := "(CI)Z" } : Jvm.MethodName)), (Jvm.Cond.code ({ cls := "TrueOneWay$Text", name := "suits", desc := "(CI)Z" } : Jvm.MethodName) prog_7_method_10_code (2 : Nat) (Option.some Jvm.ClassFile.FieldType.boolean)), (Jvm.Cond.methodLink "TrueOneWay$Text" (23 : Nat) ({ cls := "TrueOneWay$Text", name := "isDigit", desc := "(I)Z" } : Jvm.MethodName)), (Jvm.Cond.static ({ cls := "TrueOneWay$Text", name := "isDigit", desc := "(I)Z" } : Jvm.MethodName)), (Jvm.Cond.code ({ cls := "TrueOneWay$Text", name := "isDigit", desc := "(I)Z" } : Jvm.MethodName) prog_7_method_11_code (1 : Nat) (Option.some Jvm.ClassFile.FieldType.boolean))]
def qv_w6 : List Cond := [(Jvm.Cond.methodLink "TrueOneWay$Text" (29 : Nat) ({ cls := "java/lang/String", name := "indexOf", desc := "(I)I" } : Jvm.MethodName)), (Jvm.Cond.instanceMethod ({ cls := "java/lang/String", name := "indexOf", desc := "(I)I" } : Jvm.MethodName)), (Jvm.Cond.selects "java/lang/String" ({ cls := "java/lang/String", name := "indexOf", desc := "(I)I" } : Jvm.MethodName) ({ cls := "java/lang/String", name := "indexOf", desc := "(I)I" } : Jvm.MethodName)), (Jvm.Cond.code ({ cls := "java/lang/String", name := "indexOf", desc := "(I)I" } : Jvm.MethodName) prog_15_method_79_code (2 : Nat) (Option.some Jvm.ClassFile.FieldType.int)), (Jvm.Cond.methodLink "java/lang/String" (633 : Nat) ({ cls := "java/lang/String", name := "indexOf", desc := "(II)I" } : Jvm.MethodName)), (Jvm.Cond.instanceMethod ({ cls := "java/lang/String", name := "indexOf", desc := "(II)I" } : Jvm.MethodName)), (Jvm.Cond.selects "java/lang/String" ({ cls := "java/lang/String", name := "indexOf", desc := "(II)I" } : Jvm.MethodName) ({ cls := "java/lang/String", name := "indexOf", desc := "(II)I" } : Jvm.MethodName)), (Jvm.Cond.code ({ cls := "java/lang/String", name := "indexOf", desc := "(II)I" } : Jvm.MethodName) prog_15_method_80_code (3 : Nat) (Option.some Jvm.ClassFile.FieldType.int)), (Jvm.Cond.methodLink "java/lang/String" (505 : Nat) ({ cls := "java/lang/String", name := "length", desc := "()I" } : Jvm.MethodName)), (Jvm.Cond.methodLink "java/lang/String" (637 : Nat) ({ cls := "java/lang/StringLatin1", name := "indexOf", desc := "([BIII)I" } : Jvm.MethodName)), (Jvm.Cond.static ({ cls := "java/lang/StringLatin1", name := "indexOf", desc := "([BIII)I" } : Jvm.MethodName)), (Jvm.Cond.code ({ cls := "java/lang/StringLatin1", name := "indexOf", desc := "([BIII)I" } : Jvm.MethodName) prog_16_method_22_code (4 : Nat) (Option.some Jvm.ClassFile.FieldType.int)), (Jvm.Cond.methodLink "java/lang/StringLatin1" (88 : Nat) ({ cls := "java/lang/StringLatin1", name := "canEncode", desc := "(I)Z" } : Jvm.MethodName)), (Jvm.Cond.static ({ cls := "java/lang/StringLatin1", name := "canEncode", desc := "(I)Z" } : Jvm.MethodName)), (Jvm.Cond.code ({ cls := "java/lang/StringLatin1", name := "canEncode", desc := "(I)Z" } : Jvm.MethodName) prog_16_method_4_code (1 : Nat) (Option.some Jvm.ClassFile.FieldType.boolean)), (Jvm.Cond.methodLink "java/lang/StringLatin1" (92 : Nat) ({ cls := "java/lang/Math", name := "max", desc := "(II)I" } : Jvm.MethodName)), (Jvm.Cond.static ({ cls := "java/lang/Math", name := "max", desc := "(II)I" } : Jvm.MethodName)), (Jvm.Cond.code ({ cls := "java/lang/Math", name := "max", desc := "(II)I" } : Jvm.MethodName) prog_14_method_65_code (2 : Nat) (Option.some Jvm.ClassFile.FieldType.int)), (Jvm.Cond.methodLink "java/lang/StringLatin1" (38 : Nat) ({ cls := "java/lang/Math", name := "min", desc := "(II)I" } : Jvm.MethodName)), (Jvm.Cond.static ({ cls := "java/lang/Math", name := "min", desc := "(II)I" } : Jvm.MethodName)), (Jvm.Cond.code ({ cls := "java/lang/Math", name := "min", desc := "(II)I" } : Jvm.MethodName) prog_14_method_69_code (2 : Nat) (Option.some Jvm.ClassFile.FieldType.int)), (Jvm.Cond.methodLink "java/lang/StringLatin1" (95 : Nat) ({ cls := "java/lang/StringLatin1", name := "indexOfChar", desc := "([BIII)I" } : Jvm.MethodName)), (Jvm.Cond.static ({ cls := "java/lang/StringLatin1", name := "indexOfChar", desc := "([BIII)I" } : Jvm.MethodName)), (Jvm.Cond.code ({ cls := "java/lang/StringLatin1", name := "indexOfChar", desc := "([BIII)I" } : Jvm.MethodName) prog_16_method_23_code (6 : Nat) (Option.some Jvm.ClassFile.FieldType.int)), (Jvm.Cond.methodLink "java/lang/String" (640 : Nat) ({ cls := "java/lang/StringUTF16", name := "indexOf", desc := "([BIII)I" } : Jvm.MethodName)), (Jvm.Cond.static ({ cls := "java/lang/StringUTF16", name := "indexOf", desc := "([BIII)I" } : Jvm.MethodName)), (Jvm.Cond.code ({ cls := "java/lang/StringUTF16", name := "indexOf", desc := "([BIII)I" } : Jvm.MethodName) prog_17_method_40_code (4 : Nat) (Option.some Jvm.ClassFile.FieldType.int)), (Jvm.Cond.methodLink "java/lang/StringUTF16" (224 : Nat) ({ cls := "java/lang/Math", name := "max", desc := "(II)I" } : Jvm.MethodName)), (Jvm.Cond.methodLink "java/lang/StringUTF16" (183 : Nat) ({ cls := "java/lang/Math", name := "min", desc := "(II)I" } : Jvm.MethodName)), (Jvm.Cond.constant "java/lang/StringUTF16" (227 : Nat) (65536 : Int32)), (Jvm.Cond.methodLink "java/lang/StringUTF16" (228 : Nat) ({ cls := "java/lang/StringUTF16", name := "indexOfChar", desc := "([BIII)I" } : Jvm.MethodName)), (Jvm.Cond.static ({ cls := "java/lang/StringUTF16", name := "indexOfChar", desc := "([BIII)I" } : Jvm.MethodName)), (Jvm.Cond.code ({ cls := "java/lang/StringUTF16", name := "indexOfChar", desc := "([BIII)I" } : Jvm.MethodName) prog_17_method_47_code (4 : Nat) (Option.some Jvm.ClassFile.FieldType.int)), (Jvm.Cond.methodLink "java/lang/StringUTF16" (96 : Nat) ({ cls := "java/lang/StringUTF16", name := "checkBoundsBeginEnd", desc := "(II[B)V" } : Jvm.MethodName)), (Jvm.Cond.static ({ cls := "java/lang/StringUTF16", name := "checkBoundsBeginEnd", desc := "(II[B)V" } : Jvm.MethodName)), (Jvm.Cond.code ({ cls := "java/lang/StringUTF16", name := "checkBoundsBeginEnd", desc := "(II[B)V" } : Jvm.MethodName) prog_17_method_93_code (3 : Nat) (Option.none : Option Jvm.ClassFile.FieldType)), (Jvm.Cond.methodLink "java/lang/StringUTF16" (241 : Nat) ({ cls := "java/lang/String", name := "checkBoundsBeginEnd", desc := "(III)V" } : Jvm.MethodName)), (Jvm.Cond.static ({ cls := "java/lang/String", name := "checkBoundsBeginEnd", desc := "(III)V" } : Jvm.MethodName)), (Jvm.Cond.code ({ cls := "java/lang/String", name := "checkBoundsBeginEnd", desc := "(III)V" } : Jvm.MethodName) prog_15_method_158_code (3 : Nat) (Option.none : Option Jvm.ClassFile.FieldType)), (Jvm.Cond.methodLink "java/lang/String" (1062 : Nat) ({ cls := "jdk/internal/util/Preconditions", name := "checkFromToIndex", desc := "(IIILjava/util/function/BiFunction;)I" } : Jvm.MethodName)), (Jvm.Cond.static ({ cls := "jdk/internal/util/Preconditions", name := "checkFromToIndex", desc := "(IIILjava/util/function/BiFunction;)I" } : Jvm.MethodName)), (Jvm.Cond.code ({ cls := "jdk/internal/util/Preconditions", name := "checkFromToIndex", desc := "(IIILjava/util/function/BiFunction;)I" } : Jvm.MethodName) prog_19_method_12_code (4 : Nat) (Option.some Jvm.ClassFile.FieldType.int)), (Jvm.Cond.methodLink "java/lang/StringUTF16" (244 : Nat) ({ cls := "java/lang/StringUTF16", name := "indexOfCharUnsafe", desc := "([BIII)I" } : Jvm.MethodName)), (Jvm.Cond.static ({ cls := "java/lang/StringUTF16", name := "indexOfCharUnsafe", desc := "([BIII)I" } : Jvm.MethodName)), (Jvm.Cond.code ({ cls := "java/lang/StringUTF16", name := "indexOfCharUnsafe", desc := "([BIII)I" } : Jvm.MethodName) prog_17_method_48_code (5 : Nat) (Option.some Jvm.ClassFile.FieldType.int)), (Jvm.Cond.methodLink "java/lang/StringUTF16" (232 : Nat) ({ cls := "java/lang/StringUTF16", name := "indexOfSupplementary", desc := "([BIII)I" } : Jvm.MethodName)), (Jvm.Cond.static ({ cls := "java/lang/StringUTF16", name := "indexOfSupplementary", desc := "([BIII)I" } : Jvm.MethodName)), (Jvm.Cond.code ({ cls := "java/lang/StringUTF16", name := "indexOfSupplementary", desc := "([BIII)I" } : Jvm.MethodName) prog_17_method_49_code (7 : Nat) (Option.some Jvm.ClassFile.FieldType.int)), (Jvm.Cond.methodLink "java/lang/StringUTF16" (164 : Nat) ({ cls := "java/lang/Character", name := "isValidCodePoint", desc := "(I)Z" } : Jvm.MethodName)), (Jvm.Cond.static ({ cls := "java/lang/Character", name := "isValidCodePoint", desc := "(I)Z" } : Jvm.MethodName)), (Jvm.Cond.code ({ cls := "java/lang/Character", name := "isValidCodePoint", desc := "(I)Z" } : Jvm.MethodName) prog_12_method_11_code (2 : Nat) (Option.some Jvm.ClassFile.FieldType.boolean)), (Jvm.Cond.methodLink "java/lang/StringUTF16" (157 : Nat) ({ cls := "java/lang/Character", name := "highSurrogate", desc := "(I)C" } : Jvm.MethodName)), (Jvm.Cond.static ({ cls := "java/lang/Character", name := "highSurrogate", desc := "(I)C" } : Jvm.MethodName)), (Jvm.Cond.code ({ cls := "java/lang/Character", name := "highSurrogate", desc := "(I)C" } : Jvm.MethodName) prog_12_method_28_code (1 : Nat) (Option.some Jvm.ClassFile.FieldType.char)), (Jvm.Cond.constant "java/lang/Character" (110 : Nat) (55232 : Int32)), (Jvm.Cond.methodLink "java/lang/StringUTF16" (161 : Nat) ({ cls := "java/lang/Character", name := "lowSurrogate", desc := "(I)C" } : Jvm.MethodName)), (Jvm.Cond.static ({ cls := "java/lang/Character", name := "lowSurrogate", desc := "(I)C" } : Jvm.MethodName)), (Jvm.Cond.code ({ cls := "java/lang/Character", name := "lowSurrogate", desc := "(I)C" } : Jvm.MethodName) prog_12_method_29_code (1 : Nat) (Option.some Jvm.ClassFile.FieldType.char)), (Jvm.Cond.constant "java/lang/Character" (76 : Nat) (56320 : Int32)), (Jvm.Cond.methodLink "TrueOneWay" (261 : Nat) ({ cls := "TrueOneWay$Land", name := "become", desc := "(LTrueOneWay$Land;)V" } : Jvm.MethodName)), (Jvm.Cond.instanceMethod ({ cls := "TrueOneWay$Land", name := "become", desc := "(LTrueOneWay$Land;)V" } : Jvm.MethodName)), (Jvm.Cond.selects "TrueOneWay$Land" ({ cls := "TrueOneWay$Land", name := "become", desc := "(LTrueOneWay$Land;)V" } : Jvm.MethodName) ({ cls := "TrueOneWay$Land", name := "become", desc := "(LTrueOneWay$Land;)V" } : Jvm.MethodName)), (Jvm.Cond.code ({ cls := "TrueOneWay$Land", name := "become", desc := "(LTrueOneWay$Land;)V" } : Jvm.MethodName) prog_5_method_2_code (2 : Nat) (Option.none : Option Jvm.ClassFile.FieldType)), (Jvm.Cond.methodLink "TrueOneWay$Land" (55 : Nat) ({ cls := "java/lang/System", name := "arraycopy", desc := "(Ljava/lang/Object;ILjava/lang/Object;II)V" } : Jvm.MethodName))]
def qv_w7 : List Cond := [(Jvm.Cond.static ({ cls := "java/lang/System", name := "arraycopy", desc := "(Ljava/lang/Object;ILjava/lang/Object;II)V" } : Jvm.MethodName)), (Jvm.Cond.native ({ cls := "java/lang/System", name := "arraycopy", desc := "(Ljava/lang/Object;ILjava/lang/Object;II)V" } : Jvm.MethodName)), (Jvm.Cond.methodLink "TrueOneWay" (275 : Nat) ({ cls := "TrueOneWay$Land", name := "take", desc := "(LTrueOneWay$Text;I)Z" } : Jvm.MethodName)), (Jvm.Cond.instanceMethod ({ cls := "TrueOneWay$Land", name := "take", desc := "(LTrueOneWay$Text;I)Z" } : Jvm.MethodName)), (Jvm.Cond.selects "TrueOneWay$Land" ({ cls := "TrueOneWay$Land", name := "take", desc := "(LTrueOneWay$Text;I)Z" } : Jvm.MethodName) ({ cls := "TrueOneWay$Land", name := "take", desc := "(LTrueOneWay$Text;I)Z" } : Jvm.MethodName)), (Jvm.Cond.code ({ cls := "TrueOneWay$Land", name := "take", desc := "(LTrueOneWay$Text;I)Z" } : Jvm.MethodName) prog_5_method_13_code (6 : Nat) (Option.some Jvm.ClassFile.FieldType.boolean)), (Jvm.Cond.methodLink "TrueOneWay$Land" (71 : Nat) ({ cls := "TrueOneWay$Text", name := "digitAt", desc := "(I)I" } : Jvm.MethodName)), (Jvm.Cond.instanceMethod ({ cls := "TrueOneWay$Text", name := "digitAt", desc := "(I)I" } : Jvm.MethodName)), (Jvm.Cond.selects "TrueOneWay$Text" ({ cls := "TrueOneWay$Text", name := "digitAt", desc := "(I)I" } : Jvm.MethodName) ({ cls := "TrueOneWay$Text", name := "digitAt", desc := "(I)I" } : Jvm.MethodName)), (Jvm.Cond.code ({ cls := "TrueOneWay$Text", name := "digitAt", desc := "(I)I" } : Jvm.MethodName) prog_7_method_5_code (2 : Nat) (Option.some Jvm.ClassFile.FieldType.int)), (Jvm.Cond.methodLink "TrueOneWay$Text" (19 : Nat) ({ cls := "TrueOneWay$Text", name := "at", desc := "(I)I" } : Jvm.MethodName)), (Jvm.Cond.instanceMethod ({ cls := "TrueOneWay$Text", name := "at", desc := "(I)I" } : Jvm.MethodName)), (Jvm.Cond.selects "TrueOneWay$Text" ({ cls := "TrueOneWay$Text", name := "at", desc := "(I)I" } : Jvm.MethodName) ({ cls := "TrueOneWay$Text", name := "at", desc := "(I)I" } : Jvm.MethodName)), (Jvm.Cond.code ({ cls := "TrueOneWay$Text", name := "at", desc := "(I)I" } : Jvm.MethodName) prog_7_method_4_code (2 : Nat) (Option.some Jvm.ClassFile.FieldType.int)), (Jvm.Cond.methodLink "TrueOneWay$Land" (77 : Nat) ({ cls := "TrueOneWay$Text", name := "at", desc := "(I)I" } : Jvm.MethodName)), (Jvm.Cond.methodLink "TrueOneWay$Land" (80 : Nat) ({ cls := "TrueOneWay$Land", name := "takePlaces", desc := "(I)Z" } : Jvm.MethodName)), (Jvm.Cond.instanceMethod ({ cls := "TrueOneWay$Land", name := "takePlaces", desc := "(I)Z" } : Jvm.MethodName)), (Jvm.Cond.code ({ cls := "TrueOneWay$Land", name := "takePlaces", desc := "(I)Z" } : Jvm.MethodName) prog_5_method_14_code (2 : Nat) (Option.some Jvm.ClassFile.FieldType.boolean)), (Jvm.Cond.methodLink "TrueOneWay$Land" (105 : Nat) ({ cls := "TrueOneWay$Land", name := "placesToldOf", desc := "()I" } : Jvm.MethodName)), (Jvm.Cond.instanceMethod ({ cls := "TrueOneWay$Land", name := "placesToldOf", desc := "()I" } : Jvm.MethodName)), (Jvm.Cond.code ({ cls := "TrueOneWay$Land", name := "placesToldOf", desc := "()I" } : Jvm.MethodName) prog_5_method_15_code (3 : Nat) (Option.some Jvm.ClassFile.FieldType.int)), (Jvm.Cond.methodLink "TrueOneWay$Land" (108 : Nat) ({ cls := "java/lang/Math", name := "max", desc := "(II)I" } : Jvm.MethodName)), (Jvm.Cond.methodLink "TrueOneWay$Land" (84 : Nat) ({ cls := "TrueOneWay$Land", name := "takeRoad", desc := "(II)Z" } : Jvm.MethodName)), (Jvm.Cond.instanceMethod ({ cls := "TrueOneWay$Land", name := "takeRoad", desc := "(II)Z" } : Jvm.MethodName)), (Jvm.Cond.code ({ cls := "TrueOneWay$Land", name := "takeRoad", desc := "(II)Z" } : Jvm.MethodName) prog_5_method_16_code (3 : Nat) (Option.some Jvm.ClassFile.FieldType.boolean)), (Jvm.Cond.methodLink "TrueOneWay$Land" (114 : Nat) ({ cls := "TrueOneWay$Land", name := "hasPlace", desc := "(I)Z" } : Jvm.MethodName)), (Jvm.Cond.instanceMethod ({ cls := "TrueOneWay$Land", name := "hasPlace", desc := "(I)Z" } : Jvm.MethodName)), (Jvm.Cond.selects "TrueOneWay$Land" ({ cls := "TrueOneWay$Land", name := "hasPlace", desc := "(I)Z" } : Jvm.MethodName) ({ cls := "TrueOneWay$Land", name := "hasPlace", desc := "(I)Z" } : Jvm.MethodName)), (Jvm.Cond.code ({ cls := "TrueOneWay$Land", name := "hasPlace", desc := "(I)Z" } : Jvm.MethodName) prog_5_method_3_code (2 : Nat) (Option.some Jvm.ClassFile.FieldType.boolean)), (Jvm.Cond.methodLink "TrueOneWay$Land" (87 : Nat) ({ cls := "TrueOneWay$Land", name := "takeFact", desc := "()Z" } : Jvm.MethodName)), (Jvm.Cond.instanceMethod ({ cls := "TrueOneWay$Land", name := "takeFact", desc := "()Z" } : Jvm.MethodName)), (Jvm.Cond.code ({ cls := "TrueOneWay$Land", name := "takeFact", desc := "()Z" } : Jvm.MethodName) prog_5_method_17_code (1 : Nat) (Option.some Jvm.ClassFile.FieldType.boolean)), (Jvm.Cond.methodLink "TrueOneWay$Land" (91 : Nat) ({ cls := "TrueOneWay$Text", name := "kindAt", desc := "(I)I" } : Jvm.MethodName)), (Jvm.Cond.instanceMethod ({ cls := "TrueOneWay$Text", name := "kindAt", desc := "(I)I" } : Jvm.MethodName)), (Jvm.Cond.selects "TrueOneWay$Text" ({ cls := "TrueOneWay$Text", name := "kindAt", desc := "(I)I" } : Jvm.MethodName) ({ cls := "TrueOneWay$Text", name := "kindAt", desc := "(I)I" } : Jvm.MethodName)), (Jvm.Cond.code ({ cls := "TrueOneWay$Text", name := "kindAt", desc := "(I)I" } : Jvm.MethodName) prog_7_method_6_code (2 : Nat) (Option.some Jvm.ClassFile.FieldType.int)), (Jvm.Cond.methodLink "TrueOneWay$Land" (94 : Nat) ({ cls := "TrueOneWay$Land", name := "takeSign", desc := "(IIII)Z" } : Jvm.MethodName)), (Jvm.Cond.instanceMethod ({ cls := "TrueOneWay$Land", name := "takeSign", desc := "(IIII)Z" } : Jvm.MethodName)), (Jvm.Cond.code ({ cls := "TrueOneWay$Land", name := "takeSign", desc := "(IIII)Z" } : Jvm.MethodName) prog_5_method_18_code (5 : Nat) (Option.some Jvm.ClassFile.FieldType.boolean)), (Jvm.Cond.methodLink "TrueOneWay$Land" (117 : Nat) ({ cls := "TrueOneWay$Land", name := "hasRoad", desc := "(I)Z" } : Jvm.MethodName)), (Jvm.Cond.instanceMethod ({ cls := "TrueOneWay$Land", name := "hasRoad", desc := "(I)Z" } : Jvm.MethodName)), (Jvm.Cond.selects "TrueOneWay$Land" ({ cls := "TrueOneWay$Land", name := "hasRoad", desc := "(I)Z" } : Jvm.MethodName) ({ cls := "TrueOneWay$Land", name := "hasRoad", desc := "(I)Z" } : Jvm.MethodName)), (Jvm.Cond.code ({ cls := "TrueOneWay$Land", name := "hasRoad", desc := "(I)Z" } : Jvm.MethodName) prog_5_method_4_code (2 : Nat) (Option.some Jvm.ClassFile.FieldType.boolean)), (Jvm.Cond.methodLink "TrueOneWay$Land" (120 : Nat) ({ cls := "TrueOneWay$Land", name := "canSpeakOf", desc := "(III)Z" } : Jvm.MethodName)), (Jvm.Cond.instanceMethod ({ cls := "TrueOneWay$Land", name := "canSpeakOf", desc := "(III)Z" } : Jvm.MethodName)), (Jvm.Cond.code ({ cls := "TrueOneWay$Land", name := "canSpeakOf", desc := "(III)Z" } : Jvm.MethodName) prog_5_method_19_code (4 : Nat) (Option.some Jvm.ClassFile.FieldType.boolean)), (Jvm.Cond.methodLink "TrueOneWay$Land" (123 : Nat) ({ cls := "TrueOneWay$Land", name := "hasFact", desc := "(I)Z" } : Jvm.MethodName)), (Jvm.Cond.instanceMethod ({ cls := "TrueOneWay$Land", name := "hasFact", desc := "(I)Z" } : Jvm.MethodName)), (Jvm.Cond.selects "TrueOneWay$Land" ({ cls := "TrueOneWay$Land", name := "hasFact", desc := "(I)Z" } : Jvm.MethodName) ({ cls := "TrueOneWay$Land", name := "hasFact", desc := "(I)Z" } : Jvm.MethodName)), (Jvm.Cond.code ({ cls := "TrueOneWay$Land", name := "hasFact", desc := "(I)Z" } : Jvm.MethodName) prog_5_method_5_code (2 : Nat) (Option.some Jvm.ClassFile.FieldType.boolean)), (Jvm.Cond.methodLink "TrueOneWay$Land" (98 : Nat) ({ cls := "TrueOneWay$Land", name := "takeShown", desc := "(II)Z" } : Jvm.MethodName)), (Jvm.Cond.instanceMethod ({ cls := "TrueOneWay$Land", name := "takeShown", desc := "(II)Z" } : Jvm.MethodName)), (Jvm.Cond.code ({ cls := "TrueOneWay$Land", name := "takeShown", desc := "(II)Z" } : Jvm.MethodName) prog_5_method_20_code (3 : Nat) (Option.some Jvm.ClassFile.FieldType.boolean)), (Jvm.Cond.methodLink "TrueOneWay$Land" (101 : Nat) ({ cls := "TrueOneWay$Land", name := "takeInn", desc := "(III)Z" } : Jvm.MethodName)), (Jvm.Cond.instanceMethod ({ cls := "TrueOneWay$Land", name := "takeInn", desc := "(III)Z" } : Jvm.MethodName)), (Jvm.Cond.code ({ cls := "TrueOneWay$Land", name := "takeInn", desc := "(III)Z" } : Jvm.MethodName) prog_5_method_21_code (4 : Nat) (Option.some Jvm.ClassFile.FieldType.boolean)), (Jvm.Cond.methodLink "TrueOneWay" (279 : Nat) ({ cls := "TrueOneWay$Text", name := "lengthAt", desc := "(I)I" } : Jvm.MethodName)), (Jvm.Cond.instanceMethod ({ cls := "TrueOneWay$Text", name := "lengthAt", desc := "(I)I" } : Jvm.MethodName)), (Jvm.Cond.selects "TrueOneWay$Text" ({ cls := "TrueOneWay$Text", name := "lengthAt", desc := "(I)I" } : Jvm.MethodName) ({ cls := "TrueOneWay$Text", name := "lengthAt", desc := "(I)I" } : Jvm.MethodName)), (Jvm.Cond.code ({ cls := "TrueOneWay$Text", name := "lengthAt", desc := "(I)I" } : Jvm.MethodName) prog_7_method_7_code (2 : Nat) (Option.some Jvm.ClassFile.FieldType.int)), (Jvm.Cond.methodLink "TrueOneWay" (195 : Nat) ({ cls := "java/lang/Math", name := "max", desc := "(II)I" } : Jvm.MethodName)), (Jvm.Cond.methodLink "TrueOneWay" (99 : Nat) ({ cls := "TrueOneWay$Text", name := "clear", desc := "()V" } : Jvm.MethodName)), (Jvm.Cond.instanceMethod ({ cls := "TrueOneWay$Text", name := "clear", desc := "()V" } : Jvm.MethodName)), (Jvm.Cond.selects "TrueOneWay$Text" ({ cls := "TrueOneWay$Text", name := "clear", desc := "()V" } : Jvm.MethodName) ({ cls := "TrueOneWay$Text", name := "clear", desc := "()V" } : Jvm.MethodName))]
def qv_w8 : List Cond := [(Jvm.Cond.code ({ cls := "TrueOneWay$Text", name := "clear", desc := "()V" } : Jvm.MethodName) prog_7_method_3_code (1 : Nat) (Option.none : Option Jvm.ClassFile.FieldType)), (Jvm.Cond.arrayClass Jvm.ClassFile.FieldType.byte), (Jvm.Cond.methodLink "TrueOneWayLaw" (23 : Nat) ({ cls := "TrueOneWay", name := "road", desc := "(II)I" } : Jvm.MethodName)), (Jvm.Cond.instanceMethod ({ cls := "TrueOneWay", name := "road", desc := "(II)I" } : Jvm.MethodName)), (Jvm.Cond.selects "TrueOneWay" ({ cls := "TrueOneWay", name := "road", desc := "(II)I" } : Jvm.MethodName) ({ cls := "TrueOneWay", name := "road", desc := "(II)I" } : Jvm.MethodName)), (Jvm.Cond.code ({ cls := "TrueOneWay", name := "road", desc := "(II)I" } : Jvm.MethodName) prog_1_method_4_code (3 : Nat) (Option.some Jvm.ClassFile.FieldType.int)), (Jvm.Cond.methodLink "TrueOneWay" (102 : Nat) ({ cls := "TrueOneWay$Land", name := "hasRoad", desc := "(I)Z" } : Jvm.MethodName)), (Jvm.Cond.methodLink "TrueOneWay" (112 : Nat) ({ cls := "TrueOneWay$Land", name := "signsOn", desc := "(I)I" } : Jvm.MethodName)), (Jvm.Cond.instanceMethod ({ cls := "TrueOneWay$Land", name := "signsOn", desc := "(I)I" } : Jvm.MethodName)), (Jvm.Cond.selects "TrueOneWay$Land" ({ cls := "TrueOneWay$Land", name := "signsOn", desc := "(I)I" } : Jvm.MethodName) ({ cls := "TrueOneWay$Land", name := "signsOn", desc := "(I)I" } : Jvm.MethodName)), (Jvm.Cond.code ({ cls := "TrueOneWay$Land", name := "signsOn", desc := "(I)I" } : Jvm.MethodName) prog_5_method_12_code (4 : Nat) (Option.some Jvm.ClassFile.FieldType.int)), (Jvm.Cond.methodLink "TrueOneWayLaw" (28 : Nat) ({ cls := "TrueOneWay", name := "sign", desc := "(II)I" } : Jvm.MethodName)), (Jvm.Cond.instanceMethod ({ cls := "TrueOneWay", name := "sign", desc := "(II)I" } : Jvm.MethodName)), (Jvm.Cond.selects "TrueOneWay" ({ cls := "TrueOneWay", name := "sign", desc := "(II)I" } : Jvm.MethodName) ({ cls := "TrueOneWay", name := "sign", desc := "(II)I" } : Jvm.MethodName)), (Jvm.Cond.code ({ cls := "TrueOneWay", name := "sign", desc := "(II)I" } : Jvm.MethodName) prog_1_method_5_code (3 : Nat) (Option.some Jvm.ClassFile.FieldType.int)), (Jvm.Cond.methodLink "TrueOneWay" (115 : Nat) ({ cls := "TrueOneWay$Land", name := "hasSign", desc := "(I)Z" } : Jvm.MethodName)), (Jvm.Cond.methodLink "TrueOneWayLaw" (32 : Nat) ({ cls := "TrueOneWay", name := "shown", desc := "(I)I" } : Jvm.MethodName)), (Jvm.Cond.instanceMethod ({ cls := "TrueOneWay", name := "shown", desc := "(I)I" } : Jvm.MethodName)), (Jvm.Cond.selects "TrueOneWay" ({ cls := "TrueOneWay", name := "shown", desc := "(I)I" } : Jvm.MethodName) ({ cls := "TrueOneWay", name := "shown", desc := "(I)I" } : Jvm.MethodName)), (Jvm.Cond.code ({ cls := "TrueOneWay", name := "shown", desc := "(I)I" } : Jvm.MethodName) prog_1_method_6_code (2 : Nat) (Option.some Jvm.ClassFile.FieldType.int)), (Jvm.Cond.methodLink "TrueOneWay" (130 : Nat) ({ cls := "TrueOneWay$Land", name := "hasPlace", desc := "(I)Z" } : Jvm.MethodName)), (Jvm.Cond.methodLink "TrueOneWayLaw" (36 : Nat) ({ cls := "TrueOneWay", name := "fits", desc := "(I)I" } : Jvm.MethodName)), (Jvm.Cond.instanceMethod ({ cls := "TrueOneWay", name := "fits", desc := "(I)I" } : Jvm.MethodName)), (Jvm.Cond.selects "TrueOneWay" ({ cls := "TrueOneWay", name := "fits", desc := "(I)I" } : Jvm.MethodName) ({ cls := "TrueOneWay", name := "fits", desc := "(I)I" } : Jvm.MethodName)), (Jvm.Cond.code ({ cls := "TrueOneWay", name := "fits", desc := "(I)I" } : Jvm.MethodName) prog_1_method_7_code (2 : Nat) (Option.some Jvm.ClassFile.FieldType.int)), (Jvm.Cond.methodLink "TrueOneWay" (136 : Nat) ({ cls := "TrueOneWay$Worlds", name := "has", desc := "(I)Z" } : Jvm.MethodName)), (Jvm.Cond.methodLink "TrueOneWay" (139 : Nat) ({ cls := "TrueOneWay$Worlds", name := "isFitting", desc := "(I)Z" } : Jvm.MethodName)), (Jvm.Cond.methodLink "TrueOneWayLaw" (40 : Nat) ({ cls := "TrueOneWay", name := "good", desc := "(I)I" } : Jvm.MethodName)), (Jvm.Cond.instanceMethod ({ cls := "TrueOneWay", name := "good", desc := "(I)I" } : Jvm.MethodName)), (Jvm.Cond.selects "TrueOneWay" ({ cls := "TrueOneWay", name := "good", desc := "(I)I" } : Jvm.MethodName) ({ cls := "TrueOneWay", name := "good", desc := "(I)I" } : Jvm.MethodName)), (Jvm.Cond.code ({ cls := "TrueOneWay", name := "good", desc := "(I)I" } : Jvm.MethodName) prog_1_method_8_code (2 : Nat) (Option.some Jvm.ClassFile.FieldType.int)), (Jvm.Cond.methodLink "TrueOneWay" (142 : Nat) ({ cls := "TrueOneWay$Worlds", name := "isGood", desc := "(I)Z" } : Jvm.MethodName)), (Jvm.Cond.methodLink "TrueOneWayLaw" (44 : Nat) ({ cls := "TrueOneWay", name := "says", desc := "(II)I" } : Jvm.MethodName)), (Jvm.Cond.instanceMethod ({ cls := "TrueOneWay", name := "says", desc := "(II)I" } : Jvm.MethodName)), (Jvm.Cond.selects "TrueOneWay" ({ cls := "TrueOneWay", name := "says", desc := "(II)I" } : Jvm.MethodName) ({ cls := "TrueOneWay", name := "says", desc := "(II)I" } : Jvm.MethodName)), (Jvm.Cond.code ({ cls := "TrueOneWay", name := "says", desc := "(II)I" } : Jvm.MethodName) prog_1_method_9_code (3 : Nat) (Option.some Jvm.ClassFile.FieldType.int)), (Jvm.Cond.methodLink "TrueOneWay" (145 : Nat) ({ cls := "TrueOneWay$Land", name := "isSaidSo", desc := "(II)Z" } : Jvm.MethodName)), (Jvm.Cond.methodLink "TrueOneWayLaw" (48 : Nat) ({ cls := "TrueOneWay", name := "worlds", desc := "(I)I" } : Jvm.MethodName)), (Jvm.Cond.instanceMethod ({ cls := "TrueOneWay", name := "worlds", desc := "(I)I" } : Jvm.MethodName)), (Jvm.Cond.selects "TrueOneWay" ({ cls := "TrueOneWay", name := "worlds", desc := "(I)I" } : Jvm.MethodName) ({ cls := "TrueOneWay", name := "worlds", desc := "(I)I" } : Jvm.MethodName)), (Jvm.Cond.code ({ cls := "TrueOneWay", name := "worlds", desc := "(I)I" } : Jvm.MethodName) prog_1_method_10_code (2 : Nat) (Option.some Jvm.ClassFile.FieldType.int)), (Jvm.Cond.methodLink "TrueOneWayLaw" (52 : Nat) ({ cls := "TrueOneWay", name := "fact", desc := "(II)I" } : Jvm.MethodName)), (Jvm.Cond.instanceMethod ({ cls := "TrueOneWay", name := "fact", desc := "(II)I" } : Jvm.MethodName)), (Jvm.Cond.selects "TrueOneWay" ({ cls := "TrueOneWay", name := "fact", desc := "(II)I" } : Jvm.MethodName) ({ cls := "TrueOneWay", name := "fact", desc := "(II)I" } : Jvm.MethodName)), (Jvm.Cond.code ({ cls := "TrueOneWay", name := "fact", desc := "(II)I" } : Jvm.MethodName) prog_1_method_11_code (3 : Nat) (Option.some Jvm.ClassFile.FieldType.int)), (Jvm.Cond.methodLink "TrueOneWay" (155 : Nat) ({ cls := "TrueOneWay$Land", name := "hasFact", desc := "(I)Z" } : Jvm.MethodName)), (Jvm.Cond.methodLink "TrueOneWay" (158 : Nat) ({ cls := "TrueOneWay", name := "find", desc := "(II)I" } : Jvm.MethodName)), (Jvm.Cond.instanceMethod ({ cls := "TrueOneWay", name := "find", desc := "(II)I" } : Jvm.MethodName)), (Jvm.Cond.code ({ cls := "TrueOneWay", name := "find", desc := "(II)I" } : Jvm.MethodName) prog_1_method_33_code (3 : Nat) (Option.some Jvm.ClassFile.FieldType.int)), (Jvm.Cond.methodLink "TrueOneWay" (282 : Nat) ({ cls := "TrueOneWay$Finds", name := "add", desc := "(IZ)V" } : Jvm.MethodName)), (Jvm.Cond.instanceMethod ({ cls := "TrueOneWay$Finds", name := "add", desc := "(IZ)V" } : Jvm.MethodName)), (Jvm.Cond.selects "TrueOneWay$Finds" ({ cls := "TrueOneWay$Finds", name := "add", desc := "(IZ)V" } : Jvm.MethodName) ({ cls := "TrueOneWay$Finds", name := "add", desc := "(IZ)V" } : Jvm.MethodName)), (Jvm.Cond.code ({ cls := "TrueOneWay$Finds", name := "add", desc := "(IZ)V" } : Jvm.MethodName) prog_4_method_3_code (3 : Nat) (Option.none : Option Jvm.ClassFile.FieldType)), (Jvm.Cond.methodLink "TrueOneWayLaw" (56 : Nat) ({ cls := "TrueOneWay", name := "way", desc := "(II)I" } : Jvm.MethodName)), (Jvm.Cond.instanceMethod ({ cls := "TrueOneWay", name := "way", desc := "(II)I" } : Jvm.MethodName)), (Jvm.Cond.selects "TrueOneWay" ({ cls := "TrueOneWay", name := "way", desc := "(II)I" } : Jvm.MethodName) ({ cls := "TrueOneWay", name := "way", desc := "(II)I" } : Jvm.MethodName)), (Jvm.Cond.code ({ cls := "TrueOneWay", name := "way", desc := "(II)I" } : Jvm.MethodName) prog_1_method_12_code (3 : Nat) (Option.some Jvm.ClassFile.FieldType.int)), (Jvm.Cond.methodLink "TrueOneWayLaw" (60 : Nat) ({ cls := "TrueOneWay", name := "forget", desc := "()I" } : Jvm.MethodName)), (Jvm.Cond.instanceMethod ({ cls := "TrueOneWay", name := "forget", desc := "()I" } : Jvm.MethodName)), (Jvm.Cond.selects "TrueOneWay" ({ cls := "TrueOneWay", name := "forget", desc := "()I" } : Jvm.MethodName) ({ cls := "TrueOneWay", name := "forget", desc := "()I" } : Jvm.MethodName)), (Jvm.Cond.code ({ cls := "TrueOneWay", name := "forget", desc := "()I" } : Jvm.MethodName) prog_1_method_13_code (1 : Nat) (Option.some Jvm.ClassFile.FieldType.int)), (Jvm.Cond.methodLink "TrueOneWay" (163 : Nat) ({ cls := "TrueOneWay$Finds", name := "dropLatest", desc := "()V" } : Jvm.MethodName)), (Jvm.Cond.instanceMethod ({ cls := "TrueOneWay$Finds", name := "dropLatest", desc := "()V" } : Jvm.MethodName)), (Jvm.Cond.selects "TrueOneWay$Finds" ({ cls := "TrueOneWay$Finds", name := "dropLatest", desc := "()V" } : Jvm.MethodName) ({ cls := "TrueOneWay$Finds", name := "dropLatest", desc := "()V" } : Jvm.MethodName))]
def qv_w9 : List Cond := [(Jvm.Cond.code ({ cls := "TrueOneWay$Finds", name := "dropLatest", desc := "()V" } : Jvm.MethodName) prog_4_method_4_code (1 : Nat) (Option.none : Option Jvm.ClassFile.FieldType)), (Jvm.Cond.methodLink "TrueOneWayLaw" (64 : Nat) ({ cls := "TrueOneWay", name := "sure", desc := "(I)I" } : Jvm.MethodName)), (Jvm.Cond.instanceMethod ({ cls := "TrueOneWay", name := "sure", desc := "(I)I" } : Jvm.MethodName)), (Jvm.Cond.selects "TrueOneWay" ({ cls := "TrueOneWay", name := "sure", desc := "(I)I" } : Jvm.MethodName) ({ cls := "TrueOneWay", name := "sure", desc := "(I)I" } : Jvm.MethodName)), (Jvm.Cond.code ({ cls := "TrueOneWay", name := "sure", desc := "(I)I" } : Jvm.MethodName) prog_1_method_14_code (6 : Nat) (Option.some Jvm.ClassFile.FieldType.int)), (Jvm.Cond.methodLink "TrueOneWay" (166 : Nat) ({ cls := "TrueOneWay$Worlds", name := "alwaysSo", desc := "(II)I" } : Jvm.MethodName)), (Jvm.Cond.instanceMethod ({ cls := "TrueOneWay$Worlds", name := "alwaysSo", desc := "(II)I" } : Jvm.MethodName)), (Jvm.Cond.selects "TrueOneWay$Worlds" ({ cls := "TrueOneWay$Worlds", name := "alwaysSo", desc := "(II)I" } : Jvm.MethodName) ({ cls := "TrueOneWay$Worlds", name := "alwaysSo", desc := "(II)I" } : Jvm.MethodName)), (Jvm.Cond.code ({ cls := "TrueOneWay$Worlds", name := "alwaysSo", desc := "(II)I" } : Jvm.MethodName) prog_9_method_8_code (5 : Nat) (Option.some Jvm.ClassFile.FieldType.int)), (Jvm.Cond.methodLink "TrueOneWay" (169 : Nat) ({ cls := "TrueOneWay$Worlds", name := "everSo", desc := "(II)I" } : Jvm.MethodName)), (Jvm.Cond.instanceMethod ({ cls := "TrueOneWay$Worlds", name := "everSo", desc := "(II)I" } : Jvm.MethodName)), (Jvm.Cond.selects "TrueOneWay$Worlds" ({ cls := "TrueOneWay$Worlds", name := "everSo", desc := "(II)I" } : Jvm.MethodName) ({ cls := "TrueOneWay$Worlds", name := "everSo", desc := "(II)I" } : Jvm.MethodName)), (Jvm.Cond.code ({ cls := "TrueOneWay$Worlds", name := "everSo", desc := "(II)I" } : Jvm.MethodName) prog_9_method_9_code (5 : Nat) (Option.some Jvm.ClassFile.FieldType.int)), (Jvm.Cond.methodLink "TrueOneWayLaw" (68 : Nat) ({ cls := "TrueOneWay", name := "proof", desc := "()I" } : Jvm.MethodName)), (Jvm.Cond.instanceMethod ({ cls := "TrueOneWay", name := "proof", desc := "()I" } : Jvm.MethodName)), (Jvm.Cond.selects "TrueOneWay" ({ cls := "TrueOneWay", name := "proof", desc := "()I" } : Jvm.MethodName) ({ cls := "TrueOneWay", name := "proof", desc := "()I" } : Jvm.MethodName)), (Jvm.Cond.code ({ cls := "TrueOneWay", name := "proof", desc := "()I" } : Jvm.MethodName) prog_1_method_15_code (1 : Nat) (Option.some Jvm.ClassFile.FieldType.int)), (Jvm.Cond.methodLink "TrueOneWay" (175 : Nat) ({ cls := "TrueOneWay$Clashes", name := "fewestClashing", desc := "(LTrueOneWay$Worlds;LTrueOneWay$Finds;)I" } : Jvm.MethodName)), (Jvm.Cond.instanceMethod ({ cls := "TrueOneWay$Clashes", name := "fewestClashing", desc := "(LTrueOneWay$Worlds;LTrueOneWay$Finds;)I" } : Jvm.MethodName)), (Jvm.Cond.selects "TrueOneWay$Clashes" ({ cls := "TrueOneWay$Clashes", name := "fewestClashing", desc := "(LTrueOneWay$Worlds;LTrueOneWay$Finds;)I" } : Jvm.MethodName) ({ cls := "TrueOneWay$Clashes", name := "fewestClashing", desc := "(LTrueOneWay$Worlds;LTrueOneWay$Finds;)I" } : Jvm.MethodName)), (Jvm.Cond.code ({ cls := "TrueOneWay$Clashes", name := "fewestClashing", desc := "(LTrueOneWay$Worlds;LTrueOneWay$Finds;)I" } : Jvm.MethodName) prog_3_method_2_code (7 : Nat) (Option.some Jvm.ClassFile.FieldType.int)), (Jvm.Cond.methodLink "TrueOneWay$Clashes" (21 : Nat) ({ cls := "TrueOneWay$Clashes", name := "markSetsThatCanBe", desc := "(LTrueOneWay$Worlds;LTrueOneWay$Finds;I)V" } : Jvm.MethodName)), (Jvm.Cond.instanceMethod ({ cls := "TrueOneWay$Clashes", name := "markSetsThatCanBe", desc := "(LTrueOneWay$Worlds;LTrueOneWay$Finds;I)V" } : Jvm.MethodName)), (Jvm.Cond.code ({ cls := "TrueOneWay$Clashes", name := "markSetsThatCanBe", desc := "(LTrueOneWay$Worlds;LTrueOneWay$Finds;I)V" } : Jvm.MethodName) prog_3_method_3_code (6 : Nat) (Option.none : Option Jvm.ClassFile.FieldType)), (Jvm.Cond.methodLink "TrueOneWay$Clashes" (36 : Nat) ({ cls := "TrueOneWay$Worlds", name := "isFitting", desc := "(I)Z" } : Jvm.MethodName)), (Jvm.Cond.methodLink "TrueOneWay$Clashes" (40 : Nat) ({ cls := "TrueOneWay$Finds", name := "keptIn", desc := "(I)I" } : Jvm.MethodName)), (Jvm.Cond.instanceMethod ({ cls := "TrueOneWay$Finds", name := "keptIn", desc := "(I)I" } : Jvm.MethodName)), (Jvm.Cond.selects "TrueOneWay$Finds" ({ cls := "TrueOneWay$Finds", name := "keptIn", desc := "(I)I" } : Jvm.MethodName) ({ cls := "TrueOneWay$Finds", name := "keptIn", desc := "(I)I" } : Jvm.MethodName)), (Jvm.Cond.code ({ cls := "TrueOneWay$Finds", name := "keptIn", desc := "(I)I" } : Jvm.MethodName) prog_4_method_7_code (4 : Nat) (Option.some Jvm.ClassFile.FieldType.int)), (Jvm.Cond.methodLink "TrueOneWay$Finds" (23 : Nat) ({ cls := "TrueOneWay$Bits", name := "has", desc := "(II)Z" } : Jvm.MethodName)), (Jvm.Cond.methodLink "TrueOneWay$Clashes" (43 : Nat) ({ cls := "TrueOneWay$Bits", name := "has", desc := "(II)Z" } : Jvm.MethodName)), (Jvm.Cond.methodLink "TrueOneWay$Clashes" (25 : Nat) ({ cls := "java/lang/Integer", name := "bitCount", desc := "(I)I" } : Jvm.MethodName)), (Jvm.Cond.static ({ cls := "java/lang/Integer", name := "bitCount", desc := "(I)I" } : Jvm.MethodName)), (Jvm.Cond.code ({ cls := "java/lang/Integer", name := "bitCount", desc := "(I)I" } : Jvm.MethodName) prog_13_method_49_code (1 : Nat) (Option.some Jvm.ClassFile.FieldType.int)), (Jvm.Cond.constant "java/lang/Integer" (265 : Nat) (1431655765 : Int32)), (Jvm.Cond.constant "java/lang/Integer" (266 : Nat) (858993459 : Int32)), (Jvm.Cond.constant "java/lang/Integer" (267 : Nat) (252645135 : Int32)), (Jvm.Cond.methodLink "TrueOneWayLaw" (72 : Nat) ({ cls := "TrueOneWay", name := "tells", desc := "(II)I" } : Jvm.MethodName)), (Jvm.Cond.instanceMethod ({ cls := "TrueOneWay", name := "tells", desc := "(II)I" } : Jvm.MethodName)), (Jvm.Cond.selects "TrueOneWay" ({ cls := "TrueOneWay", name := "tells", desc := "(II)I" } : Jvm.MethodName) ({ cls := "TrueOneWay", name := "tells", desc := "(II)I" } : Jvm.MethodName)), (Jvm.Cond.code ({ cls := "TrueOneWay", name := "tells", desc := "(II)I" } : Jvm.MethodName) prog_1_method_16_code (6 : Nat) (Option.some Jvm.ClassFile.FieldType.int)), (Jvm.Cond.methodLink "TrueOneWay" (179 : Nat) ({ cls := "TrueOneWay$Worlds", name := "openFacts", desc := "(II)I" } : Jvm.MethodName)), (Jvm.Cond.instanceMethod ({ cls := "TrueOneWay$Worlds", name := "openFacts", desc := "(II)I" } : Jvm.MethodName)), (Jvm.Cond.selects "TrueOneWay$Worlds" ({ cls := "TrueOneWay$Worlds", name := "openFacts", desc := "(II)I" } : Jvm.MethodName) ({ cls := "TrueOneWay$Worlds", name := "openFacts", desc := "(II)I" } : Jvm.MethodName)), (Jvm.Cond.code ({ cls := "TrueOneWay$Worlds", name := "openFacts", desc := "(II)I" } : Jvm.MethodName) prog_9_method_10_code (3 : Nat) (Option.some Jvm.ClassFile.FieldType.int)), (Jvm.Cond.methodLink "TrueOneWay$Worlds" (69 : Nat) ({ cls := "TrueOneWay$Worlds", name := "everSo", desc := "(II)I" } : Jvm.MethodName)), (Jvm.Cond.methodLink "TrueOneWay$Worlds" (73 : Nat) ({ cls := "TrueOneWay$Worlds", name := "alwaysSo", desc := "(II)I" } : Jvm.MethodName)), (Jvm.Cond.methodLink "TrueOneWayLaw" (76 : Nat) ({ cls := "TrueOneWay", name := "rings", desc := "()I" } : Jvm.MethodName)), (Jvm.Cond.instanceMethod ({ cls := "TrueOneWay", name := "rings", desc := "()I" } : Jvm.MethodName)), (Jvm.Cond.selects "TrueOneWay" ({ cls := "TrueOneWay", name := "rings", desc := "()I" } : Jvm.MethodName) ({ cls := "TrueOneWay", name := "rings", desc := "()I" } : Jvm.MethodName)), (Jvm.Cond.code ({ cls := "TrueOneWay", name := "rings", desc := "()I" } : Jvm.MethodName) prog_1_method_17_code (3 : Nat) (Option.some Jvm.ClassFile.FieldType.int)), (Jvm.Cond.methodLink "TrueOneWay" (185 : Nat) ({ cls := "TrueOneWay$Land", name := "comesBack", desc := "(I)Z" } : Jvm.MethodName)), (Jvm.Cond.instanceMethod ({ cls := "TrueOneWay$Land", name := "comesBack", desc := "(I)Z" } : Jvm.MethodName)), (Jvm.Cond.selects "TrueOneWay$Land" ({ cls := "TrueOneWay$Land", name := "comesBack", desc := "(I)Z" } : Jvm.MethodName) ({ cls := "TrueOneWay$Land", name := "comesBack", desc := "(I)Z" } : Jvm.MethodName)), (Jvm.Cond.code ({ cls := "TrueOneWay$Land", name := "comesBack", desc := "(I)Z" } : Jvm.MethodName) prog_5_method_26_code (4 : Nat) (Option.some Jvm.ClassFile.FieldType.boolean)), (Jvm.Cond.methodLink "TrueOneWayLaw" (80 : Nat) ({ cls := "TrueOneWay", name := "joking", desc := "(I)I" } : Jvm.MethodName)), (Jvm.Cond.instanceMethod ({ cls := "TrueOneWay", name := "joking", desc := "(I)I" } : Jvm.MethodName)), (Jvm.Cond.selects "TrueOneWay" ({ cls := "TrueOneWay", name := "joking", desc := "(I)I" } : Jvm.MethodName) ({ cls := "TrueOneWay", name := "joking", desc := "(I)I" } : Jvm.MethodName)), (Jvm.Cond.code ({ cls := "TrueOneWay", name := "joking", desc := "(I)I" } : Jvm.MethodName) prog_1_method_18_code (2 : Nat) (Option.some Jvm.ClassFile.FieldType.int)), (Jvm.Cond.methodLink "TrueOneWay" (188 : Nat) ({ cls := "TrueOneWay$Worlds", name := "sureWithJokers", desc := "(I)I" } : Jvm.MethodName)), (Jvm.Cond.instanceMethod ({ cls := "TrueOneWay$Worlds", name := "sureWithJokers", desc := "(I)I" } : Jvm.MethodName)), (Jvm.Cond.selects "TrueOneWay$Worlds" ({ cls := "TrueOneWay$Worlds", name := "sureWithJokers", desc := "(I)I" } : Jvm.MethodName) ({ cls := "TrueOneWay$Worlds", name := "sureWithJokers", desc := "(I)I" } : Jvm.MethodName)), (Jvm.Cond.code ({ cls := "TrueOneWay$Worlds", name := "sureWithJokers", desc := "(I)I" } : Jvm.MethodName) prog_9_method_12_code (4 : Nat) (Option.some Jvm.ClassFile.FieldType.int)), (Jvm.Cond.methodLink "TrueOneWayLaw" (84 : Nat) ({ cls := "TrueOneWay", name := "bears", desc := "(I)I" } : Jvm.MethodName))]
def qv_w10 : List Cond := [(Jvm.Cond.instanceMethod ({ cls := "TrueOneWay", name := "bears", desc := "(I)I" } : Jvm.MethodName)), (Jvm.Cond.selects "TrueOneWay" ({ cls := "TrueOneWay", name := "bears", desc := "(I)I" } : Jvm.MethodName) ({ cls := "TrueOneWay", name := "bears", desc := "(I)I" } : Jvm.MethodName)), (Jvm.Cond.code ({ cls := "TrueOneWay", name := "bears", desc := "(I)I" } : Jvm.MethodName) prog_1_method_19_code (5 : Nat) (Option.some Jvm.ClassFile.FieldType.int)), (Jvm.Cond.methodLink "TrueOneWay" (191 : Nat) ({ cls := "TrueOneWay$Worlds", name := "leastMisfits", desc := "(IZ)I" } : Jvm.MethodName)), (Jvm.Cond.instanceMethod ({ cls := "TrueOneWay$Worlds", name := "leastMisfits", desc := "(IZ)I" } : Jvm.MethodName)), (Jvm.Cond.selects "TrueOneWay$Worlds" ({ cls := "TrueOneWay$Worlds", name := "leastMisfits", desc := "(IZ)I" } : Jvm.MethodName) ({ cls := "TrueOneWay$Worlds", name := "leastMisfits", desc := "(IZ)I" } : Jvm.MethodName)), (Jvm.Cond.code ({ cls := "TrueOneWay$Worlds", name := "leastMisfits", desc := "(IZ)I" } : Jvm.MethodName) prog_9_method_13_code (5 : Nat) (Option.some Jvm.ClassFile.FieldType.int)), (Jvm.Cond.methodLink "TrueOneWay$Worlds" (76 : Nat) ({ cls := "TrueOneWay$Bits", name := "has", desc := "(II)Z" } : Jvm.MethodName)), (Jvm.Cond.methodLink "TrueOneWay$Worlds" (79 : Nat) ({ cls := "java/lang/Math", name := "min", desc := "(II)I" } : Jvm.MethodName)), (Jvm.Cond.methodLink "TrueOneWay" (200 : Nat) ({ cls := "java/lang/Math", name := "min", desc := "(II)I" } : Jvm.MethodName)), (Jvm.Cond.methodLink "TrueOneWayLaw" (88 : Nat) ({ cls := "TrueOneWay", name := "fewest", desc := "(II)I" } : Jvm.MethodName)), (Jvm.Cond.instanceMethod ({ cls := "TrueOneWay", name := "fewest", desc := "(II)I" } : Jvm.MethodName)), (Jvm.Cond.selects "TrueOneWay" ({ cls := "TrueOneWay", name := "fewest", desc := "(II)I" } : Jvm.MethodName) ({ cls := "TrueOneWay", name := "fewest", desc := "(II)I" } : Jvm.MethodName)), (Jvm.Cond.code ({ cls := "TrueOneWay", name := "fewest", desc := "(II)I" } : Jvm.MethodName) prog_1_method_20_code (4 : Nat) (Option.some Jvm.ClassFile.FieldType.int)), (Jvm.Cond.methodLink "TrueOneWay" (203 : Nat) ({ cls := "TrueOneWay$Land", name := "signMask", desc := "()I" } : Jvm.MethodName)), (Jvm.Cond.methodLink "TrueOneWay" (206 : Nat) ({ cls := "TrueOneWay$Worlds", name := "fewestTelling", desc := "(II)I" } : Jvm.MethodName)), (Jvm.Cond.instanceMethod ({ cls := "TrueOneWay$Worlds", name := "fewestTelling", desc := "(II)I" } : Jvm.MethodName)), (Jvm.Cond.selects "TrueOneWay$Worlds" ({ cls := "TrueOneWay$Worlds", name := "fewestTelling", desc := "(II)I" } : Jvm.MethodName) ({ cls := "TrueOneWay$Worlds", name := "fewestTelling", desc := "(II)I" } : Jvm.MethodName)), (Jvm.Cond.code ({ cls := "TrueOneWay$Worlds", name := "fewestTelling", desc := "(II)I" } : Jvm.MethodName) prog_9_method_15_code (5 : Nat) (Option.some Jvm.ClassFile.FieldType.int)), (Jvm.Cond.methodLink "TrueOneWay$Worlds" (84 : Nat) ({ cls := "java/lang/Integer", name := "bitCount", desc := "(I)I" } : Jvm.MethodName)), (Jvm.Cond.methodLink "TrueOneWay$Worlds" (89 : Nat) ({ cls := "TrueOneWay$Worlds", name := "isAlikeBy", desc := "(II)Z" } : Jvm.MethodName)), (Jvm.Cond.instanceMethod ({ cls := "TrueOneWay$Worlds", name := "isAlikeBy", desc := "(II)Z" } : Jvm.MethodName)), (Jvm.Cond.selects "TrueOneWay$Worlds" ({ cls := "TrueOneWay$Worlds", name := "isAlikeBy", desc := "(II)Z" } : Jvm.MethodName) ({ cls := "TrueOneWay$Worlds", name := "isAlikeBy", desc := "(II)Z" } : Jvm.MethodName)), (Jvm.Cond.code ({ cls := "TrueOneWay$Worlds", name := "isAlikeBy", desc := "(II)Z" } : Jvm.MethodName) prog_9_method_14_code (10 : Nat) (Option.some Jvm.ClassFile.FieldType.boolean)), (Jvm.Cond.methodLink "TrueOneWay" (209 : Nat) ({ cls := "java/lang/Integer", name := "bitCount", desc := "(I)I" } : Jvm.MethodName)), (Jvm.Cond.methodLink "TrueOneWayLaw" (92 : Nat) ({ cls := "TrueOneWay", name := "together", desc := "(I)I" } : Jvm.MethodName)), (Jvm.Cond.instanceMethod ({ cls := "TrueOneWay", name := "together", desc := "(I)I" } : Jvm.MethodName)), (Jvm.Cond.selects "TrueOneWay" ({ cls := "TrueOneWay", name := "together", desc := "(I)I" } : Jvm.MethodName) ({ cls := "TrueOneWay", name := "together", desc := "(I)I" } : Jvm.MethodName)), (Jvm.Cond.code ({ cls := "TrueOneWay", name := "together", desc := "(I)I" } : Jvm.MethodName) prog_1_method_21_code (4 : Nat) (Option.some Jvm.ClassFile.FieldType.int)), (Jvm.Cond.methodLink "TrueOneWay" (217 : Nat) ({ cls := "TrueOneWay$Worlds", name := "isAlikeBy", desc := "(II)Z" } : Jvm.MethodName)), (Jvm.Cond.methodLink "TrueOneWayLaw" (96 : Nat) ({ cls := "TrueOneWay", name := "go", desc := "(II)I" } : Jvm.MethodName)), (Jvm.Cond.instanceMethod ({ cls := "TrueOneWay", name := "go", desc := "(II)I" } : Jvm.MethodName)), (Jvm.Cond.selects "TrueOneWay" ({ cls := "TrueOneWay", name := "go", desc := "(II)I" } : Jvm.MethodName) ({ cls := "TrueOneWay", name := "go", desc := "(II)I" } : Jvm.MethodName)), (Jvm.Cond.code ({ cls := "TrueOneWay", name := "go", desc := "(II)I" } : Jvm.MethodName) prog_1_method_22_code (3 : Nat) (Option.some Jvm.ClassFile.FieldType.int)), (Jvm.Cond.methodLink "TrueOneWay" (220 : Nat) ({ cls := "TrueOneWay$Land", name := "hasInn", desc := "()Z" } : Jvm.MethodName)), (Jvm.Cond.instanceMethod ({ cls := "TrueOneWay$Land", name := "hasInn", desc := "()Z" } : Jvm.MethodName)), (Jvm.Cond.selects "TrueOneWay$Land" ({ cls := "TrueOneWay$Land", name := "hasInn", desc := "()Z" } : Jvm.MethodName) ({ cls := "TrueOneWay$Land", name := "hasInn", desc := "()Z" } : Jvm.MethodName)), (Jvm.Cond.code ({ cls := "TrueOneWay$Land", name := "hasInn", desc := "()Z" } : Jvm.MethodName) prog_5_method_7_code (1 : Nat) (Option.some Jvm.ClassFile.FieldType.boolean)), (Jvm.Cond.methodLink "TrueOneWay" (224 : Nat) ({ cls := "TrueOneWay$Wayfarer", name := "reckon", desc := "(LTrueOneWay$Land;LTrueOneWay$Worlds;)V" } : Jvm.MethodName)), (Jvm.Cond.instanceMethod ({ cls := "TrueOneWay$Wayfarer", name := "reckon", desc := "(LTrueOneWay$Land;LTrueOneWay$Worlds;)V" } : Jvm.MethodName)), (Jvm.Cond.selects "TrueOneWay$Wayfarer" ({ cls := "TrueOneWay$Wayfarer", name := "reckon", desc := "(LTrueOneWay$Land;LTrueOneWay$Worlds;)V" } : Jvm.MethodName) ({ cls := "TrueOneWay$Wayfarer", name := "reckon", desc := "(LTrueOneWay$Land;LTrueOneWay$Worlds;)V" } : Jvm.MethodName)), (Jvm.Cond.code ({ cls := "TrueOneWay$Wayfarer", name := "reckon", desc := "(LTrueOneWay$Land;LTrueOneWay$Worlds;)V" } : Jvm.MethodName) prog_8_method_2_code (5 : Nat) (Option.none : Option Jvm.ClassFile.FieldType)), (Jvm.Cond.methodLink "TrueOneWay$Wayfarer" (31 : Nat) ({ cls := "TrueOneWay$Wayfarer", name := "reckonAt", desc := "(LTrueOneWay$Land;II)V" } : Jvm.MethodName)), (Jvm.Cond.instanceMethod ({ cls := "TrueOneWay$Wayfarer", name := "reckonAt", desc := "(LTrueOneWay$Land;II)V" } : Jvm.MethodName)), (Jvm.Cond.code ({ cls := "TrueOneWay$Wayfarer", name := "reckonAt", desc := "(LTrueOneWay$Land;II)V" } : Jvm.MethodName) prog_8_method_6_code (6 : Nat) (Option.none : Option Jvm.ClassFile.FieldType)), (Jvm.Cond.methodLink "TrueOneWay$Wayfarer" (35 : Nat) ({ cls := "TrueOneWay$Wayfarer", name := "indexOf", desc := "(III)I" } : Jvm.MethodName)), (Jvm.Cond.static ({ cls := "TrueOneWay$Wayfarer", name := "indexOf", desc := "(III)I" } : Jvm.MethodName)), (Jvm.Cond.code ({ cls := "TrueOneWay$Wayfarer", name := "indexOf", desc := "(III)I" } : Jvm.MethodName) prog_8_method_5_code (3 : Nat) (Option.some Jvm.ClassFile.FieldType.int)), (Jvm.Cond.methodLink "TrueOneWay$Wayfarer" (55 : Nat) ({ cls := "TrueOneWay$Wayfarer", name := "showsMore", desc := "(LTrueOneWay$Land;II)Z" } : Jvm.MethodName)), (Jvm.Cond.static ({ cls := "TrueOneWay$Wayfarer", name := "showsMore", desc := "(LTrueOneWay$Land;II)Z" } : Jvm.MethodName)), (Jvm.Cond.code ({ cls := "TrueOneWay$Wayfarer", name := "showsMore", desc := "(LTrueOneWay$Land;II)Z" } : Jvm.MethodName) prog_8_method_7_code (3 : Nat) (Option.some Jvm.ClassFile.FieldType.boolean)), (Jvm.Cond.methodLink "TrueOneWay$Wayfarer" (59 : Nat) ({ cls := "TrueOneWay$Wayfarer", name := "worstOf", desc := "(LTrueOneWay$Land;III)I" } : Jvm.MethodName)), (Jvm.Cond.instanceMethod ({ cls := "TrueOneWay$Wayfarer", name := "worstOf", desc := "(LTrueOneWay$Land;III)I" } : Jvm.MethodName)), (Jvm.Cond.code ({ cls := "TrueOneWay$Wayfarer", name := "worstOf", desc := "(LTrueOneWay$Land;III)I" } : Jvm.MethodName) prog_8_method_8_code (8 : Nat) (Option.some Jvm.ClassFile.FieldType.int)), (Jvm.Cond.methodLink "TrueOneWay$Wayfarer" (80 : Nat) ({ cls := "java/lang/Math", name := "max", desc := "(II)I" } : Jvm.MethodName)), (Jvm.Cond.methodLink "TrueOneWay$Wayfarer" (63 : Nat) ({ cls := "TrueOneWay$Wayfarer", name := "isInnSurelyAt", desc := "(LTrueOneWay$Land;III)Z" } : Jvm.MethodName)), (Jvm.Cond.instanceMethod ({ cls := "TrueOneWay$Wayfarer", name := "isInnSurelyAt", desc := "(LTrueOneWay$Land;III)Z" } : Jvm.MethodName)), (Jvm.Cond.code ({ cls := "TrueOneWay$Wayfarer", name := "isInnSurelyAt", desc := "(LTrueOneWay$Land;III)Z" } : Jvm.MethodName) prog_8_method_9_code (6 : Nat) (Option.some Jvm.ClassFile.FieldType.boolean)), (Jvm.Cond.methodLink "TrueOneWay$Wayfarer" (86 : Nat) ({ cls := "TrueOneWay$Land", name := "innIn", desc := "(I)I" } : Jvm.MethodName)), (Jvm.Cond.instanceMethod ({ cls := "TrueOneWay$Land", name := "innIn", desc := "(I)I" } : Jvm.MethodName)), (Jvm.Cond.selects "TrueOneWay$Land" ({ cls := "TrueOneWay$Land", name := "innIn", desc := "(I)I" } : Jvm.MethodName) ({ cls := "TrueOneWay$Land", name := "innIn", desc := "(I)I" } : Jvm.MethodName)), (Jvm.Cond.code ({ cls := "TrueOneWay$Land", name := "innIn", desc := "(I)I" } : Jvm.MethodName) prog_5_method_10_code (2 : Nat) (Option.some Jvm.ClassFile.FieldType.int)), (Jvm.Cond.methodLink "TrueOneWay$Wayfarer" (76 : Nat) ({ cls := "TrueOneWay$Wayfarer", name := "shorten", desc := "(LTrueOneWay$Land;IIII)V" } : Jvm.MethodName)), (Jvm.Cond.instanceMethod ({ cls := "TrueOneWay$Wayfarer", name := "shorten", desc := "(LTrueOneWay$Land;IIII)V" } : Jvm.MethodName))]
def qv_w11 : List Cond := [(Jvm.Cond.code ({ cls := "TrueOneWay$Wayfarer", name := "shorten", desc := "(LTrueOneWay$Land;IIII)V" } : Jvm.MethodName) prog_8_method_10_code (7 : Nat) (Option.none : Option Jvm.ClassFile.FieldType)), (Jvm.Cond.methodLink "TrueOneWay$Wayfarer" (89 : Nat) ({ cls := "java/lang/Math", name := "min", desc := "(II)I" } : Jvm.MethodName)), (Jvm.Cond.methodLink "TrueOneWay" (227 : Nat) ({ cls := "TrueOneWay$Wayfarer", name := "leastRoads", desc := "(I)I" } : Jvm.MethodName)), (Jvm.Cond.instanceMethod ({ cls := "TrueOneWay$Wayfarer", name := "leastRoads", desc := "(I)I" } : Jvm.MethodName)), (Jvm.Cond.selects "TrueOneWay$Wayfarer" ({ cls := "TrueOneWay$Wayfarer", name := "leastRoads", desc := "(I)I" } : Jvm.MethodName) ({ cls := "TrueOneWay$Wayfarer", name := "leastRoads", desc := "(I)I" } : Jvm.MethodName)), (Jvm.Cond.code ({ cls := "TrueOneWay$Wayfarer", name := "leastRoads", desc := "(I)I" } : Jvm.MethodName) prog_8_method_3_code (3 : Nat) (Option.some Jvm.ClassFile.FieldType.int)), (Jvm.Cond.methodLink "TrueOneWay" (230 : Nat) ({ cls := "TrueOneWay$Wayfarer", name := "firstGoal", desc := "(LTrueOneWay$Land;II)I" } : Jvm.MethodName)), (Jvm.Cond.instanceMethod ({ cls := "TrueOneWay$Wayfarer", name := "firstGoal", desc := "(LTrueOneWay$Land;II)I" } : Jvm.MethodName)), (Jvm.Cond.selects "TrueOneWay$Wayfarer" ({ cls := "TrueOneWay$Wayfarer", name := "firstGoal", desc := "(LTrueOneWay$Land;II)I" } : Jvm.MethodName) ({ cls := "TrueOneWay$Wayfarer", name := "firstGoal", desc := "(LTrueOneWay$Land;II)I" } : Jvm.MethodName)), (Jvm.Cond.code ({ cls := "TrueOneWay$Wayfarer", name := "firstGoal", desc := "(LTrueOneWay$Land;II)I" } : Jvm.MethodName) prog_8_method_4_code (8 : Nat) (Option.some Jvm.ClassFile.FieldType.int)), (Jvm.Cond.methodLink "TrueOneWay$Wayfarer" (44 : Nat) ({ cls := "TrueOneWay$Wayfarer", name := "leastRoads", desc := "(I)I" } : Jvm.MethodName)), (Jvm.Cond.methodLink "TrueOneWay$Wayfarer" (51 : Nat) ({ cls := "TrueOneWay$Land", name := "isRoadBetween", desc := "(II)Z" } : Jvm.MethodName)), (Jvm.Cond.instanceMethod ({ cls := "TrueOneWay$Land", name := "isRoadBetween", desc := "(II)Z" } : Jvm.MethodName)), (Jvm.Cond.selects "TrueOneWay$Land" ({ cls := "TrueOneWay$Land", name := "isRoadBetween", desc := "(II)Z" } : Jvm.MethodName) ({ cls := "TrueOneWay$Land", name := "isRoadBetween", desc := "(II)Z" } : Jvm.MethodName)), (Jvm.Cond.code ({ cls := "TrueOneWay$Land", name := "isRoadBetween", desc := "(II)Z" } : Jvm.MethodName) prog_5_method_11_code (4 : Nat) (Option.some Jvm.ClassFile.FieldType.boolean)), (Jvm.Cond.methodLink "TrueOneWayLaw" (100 : Nat) ({ cls := "TrueOneWay", name := "row", desc := "(I)I" } : Jvm.MethodName)), (Jvm.Cond.instanceMethod ({ cls := "TrueOneWay", name := "row", desc := "(I)I" } : Jvm.MethodName)), (Jvm.Cond.selects "TrueOneWay" ({ cls := "TrueOneWay", name := "row", desc := "(I)I" } : Jvm.MethodName) ({ cls := "TrueOneWay", name := "row", desc := "(I)I" } : Jvm.MethodName)), (Jvm.Cond.code ({ cls := "TrueOneWay", name := "row", desc := "(I)I" } : Jvm.MethodName) prog_1_method_23_code (2 : Nat) (Option.some Jvm.ClassFile.FieldType.int)), (Jvm.Cond.methodLink "TrueOneWay" (235 : Nat) ({ cls := "TrueOneWay$Reading", name := "add", desc := "(I)V" } : Jvm.MethodName)), (Jvm.Cond.instanceMethod ({ cls := "TrueOneWay$Reading", name := "add", desc := "(I)V" } : Jvm.MethodName)), (Jvm.Cond.selects "TrueOneWay$Reading" ({ cls := "TrueOneWay$Reading", name := "add", desc := "(I)V" } : Jvm.MethodName) ({ cls := "TrueOneWay$Reading", name := "add", desc := "(I)V" } : Jvm.MethodName)), (Jvm.Cond.code ({ cls := "TrueOneWay$Reading", name := "add", desc := "(I)V" } : Jvm.MethodName) prog_6_method_2_code (2 : Nat) (Option.none : Option Jvm.ClassFile.FieldType)), (Jvm.Cond.methodLink "TrueOneWayLaw" (104 : Nat) ({ cls := "TrueOneWay", name := "book", desc := "(I)I" } : Jvm.MethodName)), (Jvm.Cond.instanceMethod ({ cls := "TrueOneWay", name := "book", desc := "(I)I" } : Jvm.MethodName)), (Jvm.Cond.selects "TrueOneWay" ({ cls := "TrueOneWay", name := "book", desc := "(I)I" } : Jvm.MethodName) ({ cls := "TrueOneWay", name := "book", desc := "(I)I" } : Jvm.MethodName)), (Jvm.Cond.code ({ cls := "TrueOneWay", name := "book", desc := "(I)I" } : Jvm.MethodName) prog_1_method_24_code (3 : Nat) (Option.some Jvm.ClassFile.FieldType.int)), (Jvm.Cond.methodLink "TrueOneWay" (236 : Nat) ({ cls := "TrueOneWay$Reading", name := "trace", desc := "(LTrueOneWay$Land;)V" } : Jvm.MethodName)), (Jvm.Cond.instanceMethod ({ cls := "TrueOneWay$Reading", name := "trace", desc := "(LTrueOneWay$Land;)V" } : Jvm.MethodName)), (Jvm.Cond.selects "TrueOneWay$Reading" ({ cls := "TrueOneWay$Reading", name := "trace", desc := "(LTrueOneWay$Land;)V" } : Jvm.MethodName) ({ cls := "TrueOneWay$Reading", name := "trace", desc := "(LTrueOneWay$Land;)V" } : Jvm.MethodName)), (Jvm.Cond.code ({ cls := "TrueOneWay$Reading", name := "trace", desc := "(LTrueOneWay$Land;)V" } : Jvm.MethodName) prog_6_method_4_code (4 : Nat) (Option.none : Option Jvm.ClassFile.FieldType)), (Jvm.Cond.methodLink "TrueOneWay$Reading" (30 : Nat) ({ cls := "TrueOneWay$Reading", name := "walk", desc := "(LTrueOneWay$Land;IZI)V" } : Jvm.MethodName)), (Jvm.Cond.instanceMethod ({ cls := "TrueOneWay$Reading", name := "walk", desc := "(LTrueOneWay$Land;IZI)V" } : Jvm.MethodName)), (Jvm.Cond.code ({ cls := "TrueOneWay$Reading", name := "walk", desc := "(LTrueOneWay$Land;IZI)V" } : Jvm.MethodName) prog_6_method_7_code (8 : Nat) (Option.none : Option Jvm.ClassFile.FieldType)), (Jvm.Cond.methodLink "TrueOneWay$Reading" (34 : Nat) ({ cls := "TrueOneWay$Land", name := "signsOn", desc := "(I)I" } : Jvm.MethodName)), (Jvm.Cond.methodLink "TrueOneWay$Reading" (38 : Nat) ({ cls := "java/lang/Integer", name := "bitCount", desc := "(I)I" } : Jvm.MethodName)), (Jvm.Cond.methodLink "TrueOneWay$Reading" (43 : Nat) ({ cls := "TrueOneWay$Reading", name := "isReadNext", desc := "(LTrueOneWay$Land;IZI)Z" } : Jvm.MethodName)), (Jvm.Cond.instanceMethod ({ cls := "TrueOneWay$Reading", name := "isReadNext", desc := "(LTrueOneWay$Land;IZI)Z" } : Jvm.MethodName)), (Jvm.Cond.code ({ cls := "TrueOneWay$Reading", name := "isReadNext", desc := "(LTrueOneWay$Land;IZI)Z" } : Jvm.MethodName) prog_6_method_8_code (8 : Nat) (Option.some Jvm.ClassFile.FieldType.boolean)), (Jvm.Cond.methodLink "TrueOneWay" (239 : Nat) ({ cls := "TrueOneWay$Reading", name := "walkCount", desc := "()I" } : Jvm.MethodName)), (Jvm.Cond.instanceMethod ({ cls := "TrueOneWay$Reading", name := "walkCount", desc := "()I" } : Jvm.MethodName)), (Jvm.Cond.selects "TrueOneWay$Reading" ({ cls := "TrueOneWay$Reading", name := "walkCount", desc := "()I" } : Jvm.MethodName) ({ cls := "TrueOneWay$Reading", name := "walkCount", desc := "()I" } : Jvm.MethodName)), (Jvm.Cond.code ({ cls := "TrueOneWay$Reading", name := "walkCount", desc := "()I" } : Jvm.MethodName) prog_6_method_5_code (3 : Nat) (Option.some Jvm.ClassFile.FieldType.int)), (Jvm.Cond.methodLink "TrueOneWay" (242 : Nat) ({ cls := "TrueOneWay$Reading", name := "endPlaces", desc := "()I" } : Jvm.MethodName)), (Jvm.Cond.instanceMethod ({ cls := "TrueOneWay$Reading", name := "endPlaces", desc := "()I" } : Jvm.MethodName)), (Jvm.Cond.selects "TrueOneWay$Reading" ({ cls := "TrueOneWay$Reading", name := "endPlaces", desc := "()I" } : Jvm.MethodName) ({ cls := "TrueOneWay$Reading", name := "endPlaces", desc := "()I" } : Jvm.MethodName)), (Jvm.Cond.code ({ cls := "TrueOneWay$Reading", name := "endPlaces", desc := "()I" } : Jvm.MethodName) prog_6_method_6_code (3 : Nat) (Option.some Jvm.ClassFile.FieldType.int)), (Jvm.Cond.methodLink "TrueOneWay" (245 : Nat) ({ cls := "TrueOneWay$Reading", name := "clear", desc := "()V" } : Jvm.MethodName)), (Jvm.Cond.instanceMethod ({ cls := "TrueOneWay$Reading", name := "clear", desc := "()V" } : Jvm.MethodName)), (Jvm.Cond.selects "TrueOneWay$Reading" ({ cls := "TrueOneWay$Reading", name := "clear", desc := "()V" } : Jvm.MethodName) ({ cls := "TrueOneWay$Reading", name := "clear", desc := "()V" } : Jvm.MethodName)), (Jvm.Cond.code ({ cls := "TrueOneWay$Reading", name := "clear", desc := "()V" } : Jvm.MethodName) prog_6_method_3_code (1 : Nat) (Option.none : Option Jvm.ClassFile.FieldType)), (Jvm.Cond.methodLink "TrueOneWayLaw" (108 : Nat) ({ cls := "TrueOneWay", name := "next", desc := "()I" } : Jvm.MethodName)), (Jvm.Cond.instanceMethod ({ cls := "TrueOneWay", name := "next", desc := "()I" } : Jvm.MethodName)), (Jvm.Cond.selects "TrueOneWay" ({ cls := "TrueOneWay", name := "next", desc := "()I" } : Jvm.MethodName) ({ cls := "TrueOneWay", name := "next", desc := "()I" } : Jvm.MethodName)), (Jvm.Cond.code ({ cls := "TrueOneWay", name := "next", desc := "()I" } : Jvm.MethodName) prog_1_method_25_code (6 : Nat) (Option.some Jvm.ClassFile.FieldType.int)), (Jvm.Cond.methodLink "TrueOneWay" (249 : Nat) ({ cls := "TrueOneWay", name := "leastGreaterPart", desc := "(I)I" } : Jvm.MethodName)), (Jvm.Cond.instanceMethod ({ cls := "TrueOneWay", name := "leastGreaterPart", desc := "(I)I" } : Jvm.MethodName)), (Jvm.Cond.code ({ cls := "TrueOneWay", name := "leastGreaterPart", desc := "(I)I" } : Jvm.MethodName) prog_1_method_34_code (5 : Nat) (Option.some Jvm.ClassFile.FieldType.int)), (Jvm.Cond.methodLink "TrueOneWay" (285 : Nat) ({ cls := "TrueOneWay$Bits", name := "has", desc := "(II)Z" } : Jvm.MethodName)), (Jvm.Cond.methodLink "TrueOneWay" (289 : Nat) ({ cls := "TrueOneWay$Worlds", name := "goodWith", desc := "(I)I" } : Jvm.MethodName)), (Jvm.Cond.instanceMethod ({ cls := "TrueOneWay$Worlds", name := "goodWith", desc := "(I)I" } : Jvm.MethodName)), (Jvm.Cond.selects "TrueOneWay$Worlds" ({ cls := "TrueOneWay$Worlds", name := "goodWith", desc := "(I)I" } : Jvm.MethodName) ({ cls := "TrueOneWay$Worlds", name := "goodWith", desc := "(I)I" } : Jvm.MethodName)), (Jvm.Cond.code ({ cls := "TrueOneWay$Worlds", name := "goodWith", desc := "(I)I" } : Jvm.MethodName) prog_9_method_11_code (4 : Nat) (Option.some Jvm.ClassFile.FieldType.int)), (Jvm.Cond.methodLink "TrueOneWayLaw" (112 : Nat) ({ cls := "TrueOneWay", name := "lands", desc := "(III)I" } : Jvm.MethodName))]
def qv_w12 : List Cond := [(Jvm.Cond.instanceMethod ({ cls := "TrueOneWay", name := "lands", desc := "(III)I" } : Jvm.MethodName)), (Jvm.Cond.selects "TrueOneWay" ({ cls := "TrueOneWay", name := "lands", desc := "(III)I" } : Jvm.MethodName) ({ cls := "TrueOneWay", name := "lands", desc := "(III)I" } : Jvm.MethodName)), (Jvm.Cond.code ({ cls := "TrueOneWay", name := "lands", desc := "(III)I" } : Jvm.MethodName) prog_1_method_26_code (8 : Nat) (Option.some Jvm.ClassFile.FieldType.int)), (Jvm.Cond.constant "TrueOneWay" (252 : Nat) (1664525 : Int32)), (Jvm.Cond.constant "TrueOneWay" (253 : Nat) (1013904223 : Int32)), (Jvm.Cond.constant "TrueOneWay" (254 : Nat) (2147483647 : Int32)), (Jvm.Cond.methodLink "TrueOneWayLaw" (117 : Nat) ({ cls := "TrueOneWay", name := "judge", desc := "(I)I" } : Jvm.MethodName)), (Jvm.Cond.instanceMethod ({ cls := "TrueOneWay", name := "judge", desc := "(I)I" } : Jvm.MethodName)), (Jvm.Cond.selects "TrueOneWay" ({ cls := "TrueOneWay", name := "judge", desc := "(I)I" } : Jvm.MethodName) ({ cls := "TrueOneWay", name := "judge", desc := "(I)I" } : Jvm.MethodName)), (Jvm.Cond.code ({ cls := "TrueOneWay", name := "judge", desc := "(I)I" } : Jvm.MethodName) prog_1_method_27_code (4 : Nat) (Option.some Jvm.ClassFile.FieldType.int)), (Jvm.Cond.methodLink "TrueOneWay" (255 : Nat) ({ cls := "TrueOneWay$Finds", name := "firstBroken", desc := "(I)I" } : Jvm.MethodName)), (Jvm.Cond.instanceMethod ({ cls := "TrueOneWay$Finds", name := "firstBroken", desc := "(I)I" } : Jvm.MethodName)), (Jvm.Cond.selects "TrueOneWay$Finds" ({ cls := "TrueOneWay$Finds", name := "firstBroken", desc := "(I)I" } : Jvm.MethodName) ({ cls := "TrueOneWay$Finds", name := "firstBroken", desc := "(I)I" } : Jvm.MethodName)), (Jvm.Cond.code ({ cls := "TrueOneWay$Finds", name := "firstBroken", desc := "(I)I" } : Jvm.MethodName) prog_4_method_6_code (3 : Nat) (Option.some Jvm.ClassFile.FieldType.int)), (Jvm.Cond.methodLink "TrueOneWay" (258 : Nat) ({ cls := "TrueOneWay$Land", name := "firstMisfit", desc := "(I)I" } : Jvm.MethodName)), (Jvm.Cond.instanceMethod ({ cls := "TrueOneWay$Land", name := "firstMisfit", desc := "(I)I" } : Jvm.MethodName)), (Jvm.Cond.selects "TrueOneWay$Land" ({ cls := "TrueOneWay$Land", name := "firstMisfit", desc := "(I)I" } : Jvm.MethodName) ({ cls := "TrueOneWay$Land", name := "firstMisfit", desc := "(I)I" } : Jvm.MethodName)), (Jvm.Cond.code ({ cls := "TrueOneWay$Land", name := "firstMisfit", desc := "(I)I" } : Jvm.MethodName) prog_5_method_25_code (3 : Nat) (Option.some Jvm.ClassFile.FieldType.int)), (Jvm.Cond.methodLink "TrueOneWayLaw" (121 : Nat) ({ cls := "TrueOneWay", name := "image", desc := "()I" } : Jvm.MethodName)), (Jvm.Cond.instanceMethod ({ cls := "TrueOneWay", name := "image", desc := "()I" } : Jvm.MethodName)), (Jvm.Cond.selects "TrueOneWay" ({ cls := "TrueOneWay", name := "image", desc := "()I" } : Jvm.MethodName) ({ cls := "TrueOneWay", name := "image", desc := "()I" } : Jvm.MethodName)), (Jvm.Cond.code ({ cls := "TrueOneWay", name := "image", desc := "()I" } : Jvm.MethodName) prog_1_method_28_code (1 : Nat) (Option.some Jvm.ClassFile.FieldType.int)), (Jvm.Cond.methodLink "TrueOneWay" (264 : Nat) ({ cls := "TrueOneWay$Finds", name := "become", desc := "(LTrueOneWay$Finds;)V" } : Jvm.MethodName)), (Jvm.Cond.instanceMethod ({ cls := "TrueOneWay$Finds", name := "become", desc := "(LTrueOneWay$Finds;)V" } : Jvm.MethodName)), (Jvm.Cond.selects "TrueOneWay$Finds" ({ cls := "TrueOneWay$Finds", name := "become", desc := "(LTrueOneWay$Finds;)V" } : Jvm.MethodName) ({ cls := "TrueOneWay$Finds", name := "become", desc := "(LTrueOneWay$Finds;)V" } : Jvm.MethodName)), (Jvm.Cond.code ({ cls := "TrueOneWay$Finds", name := "become", desc := "(LTrueOneWay$Finds;)V" } : Jvm.MethodName) prog_4_method_2_code (3 : Nat) (Option.none : Option Jvm.ClassFile.FieldType)), (Jvm.Cond.methodLink "TrueOneWayLaw" (125 : Nat) ({ cls := "TrueOneWay", name := "on", desc := "()I" } : Jvm.MethodName)), (Jvm.Cond.instanceMethod ({ cls := "TrueOneWay", name := "on", desc := "()I" } : Jvm.MethodName)), (Jvm.Cond.selects "TrueOneWay" ({ cls := "TrueOneWay", name := "on", desc := "()I" } : Jvm.MethodName) ({ cls := "TrueOneWay", name := "on", desc := "()I" } : Jvm.MethodName)), (Jvm.Cond.code ({ cls := "TrueOneWay", name := "on", desc := "()I" } : Jvm.MethodName) prog_1_method_29_code (1 : Nat) (Option.some Jvm.ClassFile.FieldType.int)), (Jvm.Cond.methodLink "TrueOneWayLaw" (129 : Nat) ({ cls := "TrueOneWay", name := "count", desc := "(I)I" } : Jvm.MethodName)), (Jvm.Cond.instanceMethod ({ cls := "TrueOneWay", name := "count", desc := "(I)I" } : Jvm.MethodName)), (Jvm.Cond.selects "TrueOneWay" ({ cls := "TrueOneWay", name := "count", desc := "(I)I" } : Jvm.MethodName) ({ cls := "TrueOneWay", name := "count", desc := "(I)I" } : Jvm.MethodName)), (Jvm.Cond.code ({ cls := "TrueOneWay", name := "count", desc := "(I)I" } : Jvm.MethodName) prog_1_method_30_code (2 : Nat) (Option.some Jvm.ClassFile.FieldType.int)), (Jvm.Cond.classLink "TrueOneWayLaw" (10 : Nat) "TrueOneWayModel"), (Jvm.Cond.instantiable "TrueOneWayModel" (40 : Nat)), (Jvm.Cond.methodLink "TrueOneWayLaw" (12 : Nat) ({ cls := "TrueOneWayModel", name := "<init>", desc := "()V" } : Jvm.MethodName)), (Jvm.Cond.instanceMethod ({ cls := "TrueOneWayModel", name := "<init>", desc := "()V" } : Jvm.MethodName)), (Jvm.Cond.code ({ cls := "TrueOneWayModel", name := "<init>", desc := "()V" } : Jvm.MethodName) prog_11_method_1_code (1 : Nat) (Option.none : Option Jvm.ClassFile.FieldType)), (Jvm.Cond.methodLink "TrueOneWayModel" (1 : Nat) ({ cls := "java/lang/Object", name := "<init>", desc := "()V" } : Jvm.MethodName)), (Jvm.Cond.fieldLink "TrueOneWayModel" (7 : Nat) "TrueOneWayModel" "refused" "[I"), (Jvm.Cond.fieldLink "TrueOneWayModel" (13 : Nat) "TrueOneWayModel" "roadA" "[I"), (Jvm.Cond.fieldLink "TrueOneWayModel" (16 : Nat) "TrueOneWayModel" "roadB" "[I"), (Jvm.Cond.fieldLink "TrueOneWayModel" (19 : Nat) "TrueOneWayModel" "kind" "[I"), (Jvm.Cond.fieldLink "TrueOneWayModel" (22 : Nat) "TrueOneWayModel" "signRoad" "[I"), (Jvm.Cond.fieldLink "TrueOneWayModel" (25 : Nat) "TrueOneWayModel" "signA" "[I"), (Jvm.Cond.fieldLink "TrueOneWayModel" (28 : Nat) "TrueOneWayModel" "signB" "[I"), (Jvm.Cond.fieldLink "TrueOneWayModel" (31 : Nat) "TrueOneWayModel" "shownAt" "[I"), (Jvm.Cond.fieldLink "TrueOneWayModel" (34 : Nat) "TrueOneWayModel" "places" "I"), (Jvm.Cond.fieldLink "TrueOneWayModel" (137 : Nat) "TrueOneWayModel" "roads" "I"), (Jvm.Cond.fieldLink "TrueOneWayModel" (89 : Nat) "TrueOneWayModel" "facts" "I"), (Jvm.Cond.fieldLink "TrueOneWayModel" (92 : Nat) "TrueOneWayModel" "signs" "I"), (Jvm.Cond.fieldLink "TrueOneWayModel" (140 : Nat) "TrueOneWayModel" "innA" "I"), (Jvm.Cond.fieldLink "TrueOneWayModel" (143 : Nat) "TrueOneWayModel" "innB" "I"), (Jvm.Cond.fieldLink "TrueOneWayModel" (38 : Nat) "TrueOneWayModel" "innFact" "I"), (Jvm.Cond.fieldLink "TrueOneWayModel" (41 : Nat) "TrueOneWayModel" "found" "[I"), (Jvm.Cond.fieldLink "TrueOneWayModel" (44 : Nat) "TrueOneWayModel" "foundIs" "[I"), (Jvm.Cond.fieldLink "TrueOneWayModel" (186 : Nat) "TrueOneWayModel" "foundMany" "I"), (Jvm.Cond.fieldLink "TrueOneWayModel" (47 : Nat) "TrueOneWayModel" "tape" "[I"), (Jvm.Cond.fieldLink "TrueOneWayModel" (50 : Nat) "TrueOneWayModel" "letter" "[I"), (Jvm.Cond.fieldLink "TrueOneWayModel" (53 : Nat) "TrueOneWayModel" "letterAt" "[I"), (Jvm.Cond.fieldLink "TrueOneWayModel" (56 : Nat) "TrueOneWayModel" "one" "[I"), (Jvm.Cond.fieldLink "TrueOneWayModel" (59 : Nat) "TrueOneWayModel" "two" "[I"), (Jvm.Cond.fieldLink "TrueOneWayModel" (62 : Nat) "TrueOneWayModel" "three" "[I")]
def qv_w13 : List Cond := [(Jvm.Cond.fieldLink "TrueOneWayModel" (65 : Nat) "TrueOneWayModel" "four" "[I"), (Jvm.Cond.fieldLink "TrueOneWayModel" (99 : Nat) "TrueOneWayModel" "taped" "I"), (Jvm.Cond.fieldLink "TrueOneWayModel" (106 : Nat) "TrueOneWayModel" "at" "I"), (Jvm.Cond.fieldLink "TrueOneWayModel" (123 : Nat) "TrueOneWayModel" "statements" "I"), (Jvm.Cond.fieldLink "TrueOneWayModel" (68 : Nat) "TrueOneWayModel" "kept" "[I"), (Jvm.Cond.fieldLink "TrueOneWayModel" (189 : Nat) "TrueOneWayModel" "hasImage" "Z"), (Jvm.Cond.fieldLink "TrueOneWayModel" (172 : Nat) "TrueOneWayModel" "isKeeping" "Z"), (Jvm.Cond.fieldLink "TrueOneWayModel" (176 : Nat) "TrueOneWayModel" "cursor" "I"), (Jvm.Cond.fieldLink "TrueOneWayModel" (71 : Nat) "TrueOneWayModel" "goods" "[I"), (Jvm.Cond.fieldLink "TrueOneWayModel" (223 : Nat) "TrueOneWayModel" "goodMany" "I"), (Jvm.Cond.fieldLink "TrueOneWayModel" (74 : Nat) "TrueOneWayModel" "factSet" "[I"), (Jvm.Cond.fieldLink "TrueOneWayModel" (77 : Nat) "TrueOneWayModel" "worth" "[I"), (Jvm.Cond.fieldLink "TrueOneWayModel" (80 : Nat) "TrueOneWayModel" "nextWorth" "[I"), (Jvm.Cond.fieldLink "TrueOneWayModel" (83 : Nat) "TrueOneWayModel" "row" "[I"), (Jvm.Cond.fieldLink "TrueOneWayModel" (86 : Nat) "TrueOneWayModel" "walks" "[I"), (Jvm.Cond.fieldLink "TrueOneWayModel" (192 : Nat) "TrueOneWayModel" "rowMany" "I"), (Jvm.Cond.laysFinal "TrueOneWayModel" "TrueOneWayModel" "refused" "[I"), (Jvm.Cond.laysFinal "TrueOneWayModel" "TrueOneWayModel" "roadA" "[I"), (Jvm.Cond.laysFinal "TrueOneWayModel" "TrueOneWayModel" "roadB" "[I"), (Jvm.Cond.laysFinal "TrueOneWayModel" "TrueOneWayModel" "kind" "[I"), (Jvm.Cond.laysFinal "TrueOneWayModel" "TrueOneWayModel" "signRoad" "[I"), (Jvm.Cond.laysFinal "TrueOneWayModel" "TrueOneWayModel" "signA" "[I"), (Jvm.Cond.laysFinal "TrueOneWayModel" "TrueOneWayModel" "signB" "[I"), (Jvm.Cond.laysFinal "TrueOneWayModel" "TrueOneWayModel" "shownAt" "[I"), (Jvm.Cond.lays "TrueOneWayModel" "TrueOneWayModel" "places" "I"), (Jvm.Cond.lays "TrueOneWayModel" "TrueOneWayModel" "roads" "I"), (Jvm.Cond.lays "TrueOneWayModel" "TrueOneWayModel" "facts" "I"), (Jvm.Cond.lays "TrueOneWayModel" "TrueOneWayModel" "signs" "I"), (Jvm.Cond.lays "TrueOneWayModel" "TrueOneWayModel" "innA" "I"), (Jvm.Cond.lays "TrueOneWayModel" "TrueOneWayModel" "innB" "I"), (Jvm.Cond.lays "TrueOneWayModel" "TrueOneWayModel" "innFact" "I"), (Jvm.Cond.laysFinal "TrueOneWayModel" "TrueOneWayModel" "found" "[I"), (Jvm.Cond.laysFinal "TrueOneWayModel" "TrueOneWayModel" "foundIs" "[I"), (Jvm.Cond.lays "TrueOneWayModel" "TrueOneWayModel" "foundMany" "I"), (Jvm.Cond.laysFinal "TrueOneWayModel" "TrueOneWayModel" "tape" "[I"), (Jvm.Cond.laysFinal "TrueOneWayModel" "TrueOneWayModel" "letter" "[I"), (Jvm.Cond.laysFinal "TrueOneWayModel" "TrueOneWayModel" "letterAt" "[I"), (Jvm.Cond.laysFinal "TrueOneWayModel" "TrueOneWayModel" "one" "[I"), (Jvm.Cond.laysFinal "TrueOneWayModel" "TrueOneWayModel" "two" "[I"), (Jvm.Cond.laysFinal "TrueOneWayModel" "TrueOneWayModel" "three" "[I"), (Jvm.Cond.laysFinal "TrueOneWayModel" "TrueOneWayModel" "four" "[I"), (Jvm.Cond.lays "TrueOneWayModel" "TrueOneWayModel" "taped" "I"), (Jvm.Cond.lays "TrueOneWayModel" "TrueOneWayModel" "at" "I"), (Jvm.Cond.lays "TrueOneWayModel" "TrueOneWayModel" "statements" "I"), (Jvm.Cond.laysFinal "TrueOneWayModel" "TrueOneWayModel" "kept" "[I"), (Jvm.Cond.lays "TrueOneWayModel" "TrueOneWayModel" "hasImage" "Z"), (Jvm.Cond.lays "TrueOneWayModel" "TrueOneWayModel" "isKeeping" "Z"), (Jvm.Cond.lays "TrueOneWayModel" "TrueOneWayModel" "cursor" "I"), (Jvm.Cond.laysFinal "TrueOneWayModel" "TrueOneWayModel" "goods" "[I"), (Jvm.Cond.lays "TrueOneWayModel" "TrueOneWayModel" "goodMany" "I"), (Jvm.Cond.laysFinal "TrueOneWayModel" "TrueOneWayModel" "factSet" "[I"), (Jvm.Cond.laysFinal "TrueOneWayModel" "TrueOneWayModel" "worth" "[I"), (Jvm.Cond.laysFinal "TrueOneWayModel" "TrueOneWayModel" "nextWorth" "[I"), (Jvm.Cond.laysFinal "TrueOneWayModel" "TrueOneWayModel" "row" "[I"), (Jvm.Cond.laysFinal "TrueOneWayModel" "TrueOneWayModel" "walks" "[I"), (Jvm.Cond.lays "TrueOneWayModel" "TrueOneWayModel" "rowMany" "I"), (Jvm.Cond.methodLink "TrueOneWayLaw" (17 : Nat) ({ cls := "TrueOneWayModel", name := "letter", desc := "(I)I" } : Jvm.MethodName)), (Jvm.Cond.instanceMethod ({ cls := "TrueOneWayModel", name := "letter", desc := "(I)I" } : Jvm.MethodName)), (Jvm.Cond.selects "TrueOneWayModel" ({ cls := "TrueOneWayModel", name := "letter", desc := "(I)I" } : Jvm.MethodName) ({ cls := "TrueOneWayModel", name := "letter", desc := "(I)I" } : Jvm.MethodName)), (Jvm.Cond.code ({ cls := "TrueOneWayModel", name := "letter", desc := "(I)I" } : Jvm.MethodName) prog_11_method_8_code (3 : Nat) (Option.some Jvm.ClassFile.FieldType.int)), (Jvm.Cond.methodLink "TrueOneWayModel" (95 : Nat) ({ cls := "TrueOneWayModel", name := "bound", desc := "(III)I" } : Jvm.MethodName)), (Jvm.Cond.static ({ cls := "TrueOneWayModel", name := "bound", desc := "(III)I" } : Jvm.MethodName)), (Jvm.Cond.code ({ cls := "TrueOneWayModel", name := "bound", desc := "(III)I" } : Jvm.MethodName) prog_11_method_4_code (3 : Nat) (Option.some Jvm.ClassFile.FieldType.int)), (Jvm.Cond.methodLink "TrueOneWayModel" (102 : Nat) ({ cls := "TrueOneWayModel", name := "no", desc := "(I)I" } : Jvm.MethodName))]
def qv_w14 : List Cond := [(Jvm.Cond.instanceMethod ({ cls := "TrueOneWayModel", name := "no", desc := "(I)I" } : Jvm.MethodName)), (Jvm.Cond.code ({ cls := "TrueOneWayModel", name := "no", desc := "(I)I" } : Jvm.MethodName) prog_11_method_2_code (2 : Nat) (Option.some Jvm.ClassFile.FieldType.int)), (Jvm.Cond.methodLink "TrueOneWayLaw" (22 : Nat) ({ cls := "TrueOneWayModel", name := "land", desc := "()I" } : Jvm.MethodName)), (Jvm.Cond.instanceMethod ({ cls := "TrueOneWayModel", name := "land", desc := "()I" } : Jvm.MethodName)), (Jvm.Cond.selects "TrueOneWayModel" ({ cls := "TrueOneWayModel", name := "land", desc := "()I" } : Jvm.MethodName) ({ cls := "TrueOneWayModel", name := "land", desc := "()I" } : Jvm.MethodName)), (Jvm.Cond.code ({ cls := "TrueOneWayModel", name := "land", desc := "()I" } : Jvm.MethodName) prog_11_method_20_code (3 : Nat) (Option.some Jvm.ClassFile.FieldType.int)), (Jvm.Cond.methodLink "TrueOneWayModel" (161 : Nat) ({ cls := "TrueOneWayModel", name := "statement", desc := "()Z" } : Jvm.MethodName)), (Jvm.Cond.instanceMethod ({ cls := "TrueOneWayModel", name := "statement", desc := "()Z" } : Jvm.MethodName)), (Jvm.Cond.code ({ cls := "TrueOneWayModel", name := "statement", desc := "()Z" } : Jvm.MethodName) prog_11_method_15_code (3 : Nat) (Option.some Jvm.ClassFile.FieldType.boolean)), (Jvm.Cond.methodLink "TrueOneWayModel" (109 : Nat) ({ cls := "TrueOneWayModel", name := "nextLetter", desc := "()I" } : Jvm.MethodName)), (Jvm.Cond.instanceMethod ({ cls := "TrueOneWayModel", name := "nextLetter", desc := "()I" } : Jvm.MethodName)), (Jvm.Cond.code ({ cls := "TrueOneWayModel", name := "nextLetter", desc := "()I" } : Jvm.MethodName) prog_11_method_9_code (1 : Nat) (Option.some Jvm.ClassFile.FieldType.int)), (Jvm.Cond.methodLink "TrueOneWayModel" (126 : Nat) ({ cls := "TrueOneWayModel", name := "digitsOf", desc := "(I)I" } : Jvm.MethodName)), (Jvm.Cond.static ({ cls := "TrueOneWayModel", name := "digitsOf", desc := "(I)I" } : Jvm.MethodName)), (Jvm.Cond.code ({ cls := "TrueOneWayModel", name := "digitsOf", desc := "(I)I" } : Jvm.MethodName) prog_11_method_14_code (1 : Nat) (Option.some Jvm.ClassFile.FieldType.int)), (Jvm.Cond.methodLink "TrueOneWayModel" (129 : Nat) ({ cls := "TrueOneWayModel", name := "readsSign", desc := "(I)Z" } : Jvm.MethodName)), (Jvm.Cond.instanceMethod ({ cls := "TrueOneWayModel", name := "readsSign", desc := "(I)Z" } : Jvm.MethodName)), (Jvm.Cond.code ({ cls := "TrueOneWayModel", name := "readsSign", desc := "(I)Z" } : Jvm.MethodName) prog_11_method_12_code (2 : Nat) (Option.some Jvm.ClassFile.FieldType.boolean)), (Jvm.Cond.methodLink "TrueOneWayModel" (117 : Nat) ({ cls := "TrueOneWayModel", name := "digit", desc := "()I" } : Jvm.MethodName)), (Jvm.Cond.instanceMethod ({ cls := "TrueOneWayModel", name := "digit", desc := "()I" } : Jvm.MethodName)), (Jvm.Cond.code ({ cls := "TrueOneWayModel", name := "digit", desc := "()I" } : Jvm.MethodName) prog_11_method_10_code (1 : Nat) (Option.some Jvm.ClassFile.FieldType.int)), (Jvm.Cond.methodLink "TrueOneWayModel" (113 : Nat) ({ cls := "TrueOneWayModel", name := "isIn", desc := "(III)Z" } : Jvm.MethodName)), (Jvm.Cond.static ({ cls := "TrueOneWayModel", name := "isIn", desc := "(III)Z" } : Jvm.MethodName)), (Jvm.Cond.code ({ cls := "TrueOneWayModel", name := "isIn", desc := "(III)Z" } : Jvm.MethodName) prog_11_method_3_code (3 : Nat) (Option.some Jvm.ClassFile.FieldType.boolean)), (Jvm.Cond.methodLink "TrueOneWayModel" (120 : Nat) ({ cls := "TrueOneWayModel", name := "kindOf", desc := "(I)I" } : Jvm.MethodName)), (Jvm.Cond.static ({ cls := "TrueOneWayModel", name := "kindOf", desc := "(I)I" } : Jvm.MethodName)), (Jvm.Cond.code ({ cls := "TrueOneWayModel", name := "kindOf", desc := "(I)I" } : Jvm.MethodName) prog_11_method_11_code (1 : Nat) (Option.some Jvm.ClassFile.FieldType.int)), (Jvm.Cond.methodLink "TrueOneWayModel" (133 : Nat) ({ cls := "TrueOneWayModel", name := "readsDigits", desc := "(II)Z" } : Jvm.MethodName)), (Jvm.Cond.instanceMethod ({ cls := "TrueOneWayModel", name := "readsDigits", desc := "(II)Z" } : Jvm.MethodName)), (Jvm.Cond.code ({ cls := "TrueOneWayModel", name := "readsDigits", desc := "(II)Z" } : Jvm.MethodName) prog_11_method_13_code (3 : Nat) (Option.some Jvm.ClassFile.FieldType.boolean)), (Jvm.Cond.methodLink "TrueOneWayModel" (165 : Nat) ({ cls := "TrueOneWayModel", name := "passesAll", desc := "(IZ)V" } : Jvm.MethodName)), (Jvm.Cond.instanceMethod ({ cls := "TrueOneWayModel", name := "passesAll", desc := "(IZ)V" } : Jvm.MethodName)), (Jvm.Cond.code ({ cls := "TrueOneWayModel", name := "passesAll", desc := "(IZ)V" } : Jvm.MethodName) prog_11_method_23_code (3 : Nat) (Option.none : Option Jvm.ClassFile.FieldType)), (Jvm.Cond.methodLink "TrueOneWayModel" (179 : Nat) ({ cls := "TrueOneWayModel", name := "passes", desc := "([I)V" } : Jvm.MethodName)), (Jvm.Cond.instanceMethod ({ cls := "TrueOneWayModel", name := "passes", desc := "([I)V" } : Jvm.MethodName)), (Jvm.Cond.code ({ cls := "TrueOneWayModel", name := "passes", desc := "([I)V" } : Jvm.MethodName) prog_11_method_21_code (3 : Nat) (Option.none : Option Jvm.ClassFile.FieldType)), (Jvm.Cond.methodLink "TrueOneWayModel" (183 : Nat) ({ cls := "TrueOneWayModel", name := "passOne", desc := "(I)I" } : Jvm.MethodName)), (Jvm.Cond.instanceMethod ({ cls := "TrueOneWayModel", name := "passOne", desc := "(I)I" } : Jvm.MethodName)), (Jvm.Cond.code ({ cls := "TrueOneWayModel", name := "passOne", desc := "(I)I" } : Jvm.MethodName) prog_11_method_22_code (3 : Nat) (Option.some Jvm.ClassFile.FieldType.int)), (Jvm.Cond.methodLink "TrueOneWayModel" (169 : Nat) ({ cls := "TrueOneWayModel", name := "comes", desc := "(I)Z" } : Jvm.MethodName)), (Jvm.Cond.instanceMethod ({ cls := "TrueOneWayModel", name := "comes", desc := "(I)Z" } : Jvm.MethodName)), (Jvm.Cond.code ({ cls := "TrueOneWayModel", name := "comes", desc := "(I)Z" } : Jvm.MethodName) prog_11_method_19_code (2 : Nat) (Option.some Jvm.ClassFile.FieldType.boolean)), (Jvm.Cond.methodLink "TrueOneWayModel" (152 : Nat) ({ cls := "TrueOneWayModel", name := "toldPlaces", desc := "()I" } : Jvm.MethodName)), (Jvm.Cond.instanceMethod ({ cls := "TrueOneWayModel", name := "toldPlaces", desc := "()I" } : Jvm.MethodName)), (Jvm.Cond.code ({ cls := "TrueOneWayModel", name := "toldPlaces", desc := "()I" } : Jvm.MethodName) prog_11_method_16_code (3 : Nat) (Option.some Jvm.ClassFile.FieldType.int)), (Jvm.Cond.methodLink "TrueOneWayModel" (155 : Nat) ({ cls := "TrueOneWayModel", name := "isPlace", desc := "(I)Z" } : Jvm.MethodName)), (Jvm.Cond.instanceMethod ({ cls := "TrueOneWayModel", name := "isPlace", desc := "(I)Z" } : Jvm.MethodName)), (Jvm.Cond.code ({ cls := "TrueOneWayModel", name := "isPlace", desc := "(I)Z" } : Jvm.MethodName) prog_11_method_5_code (2 : Nat) (Option.some Jvm.ClassFile.FieldType.boolean)), (Jvm.Cond.methodLink "TrueOneWayModel" (158 : Nat) ({ cls := "TrueOneWayModel", name := "comesSign", desc := "(I)Z" } : Jvm.MethodName)), (Jvm.Cond.instanceMethod ({ cls := "TrueOneWayModel", name := "comesSign", desc := "(I)Z" } : Jvm.MethodName)), (Jvm.Cond.code ({ cls := "TrueOneWayModel", name := "comesSign", desc := "(I)Z" } : Jvm.MethodName) prog_11_method_18_code (2 : Nat) (Option.some Jvm.ClassFile.FieldType.boolean)), (Jvm.Cond.methodLink "TrueOneWayModel" (149 : Nat) ({ cls := "TrueOneWayModel", name := "maySay", desc := "(III)Z" } : Jvm.MethodName)), (Jvm.Cond.instanceMethod ({ cls := "TrueOneWayModel", name := "maySay", desc := "(III)Z" } : Jvm.MethodName)), (Jvm.Cond.code ({ cls := "TrueOneWayModel", name := "maySay", desc := "(III)Z" } : Jvm.MethodName) prog_11_method_17_code (4 : Nat) (Option.some Jvm.ClassFile.FieldType.boolean)), (Jvm.Cond.methodLink "TrueOneWayModel" (146 : Nat) ({ cls := "TrueOneWayModel", name := "isFact", desc := "(I)Z" } : Jvm.MethodName)), (Jvm.Cond.instanceMethod ({ cls := "TrueOneWayModel", name := "isFact", desc := "(I)Z" } : Jvm.MethodName)), (Jvm.Cond.code ({ cls := "TrueOneWayModel", name := "isFact", desc := "(I)Z" } : Jvm.MethodName) prog_11_method_6_code (2 : Nat) (Option.some Jvm.ClassFile.FieldType.boolean)), (Jvm.Cond.methodLink "TrueOneWayLaw" (124 : Nat) ({ cls := "TrueOneWayModel", name := "image", desc := "()I" } : Jvm.MethodName)), (Jvm.Cond.instanceMethod ({ cls := "TrueOneWayModel", name := "image", desc := "()I" } : Jvm.MethodName)), (Jvm.Cond.selects "TrueOneWayModel" ({ cls := "TrueOneWayModel", name := "image", desc := "()I" } : Jvm.MethodName) ({ cls := "TrueOneWayModel", name := "image", desc := "()I" } : Jvm.MethodName)), (Jvm.Cond.code ({ cls := "TrueOneWayModel", name := "image", desc := "()I" } : Jvm.MethodName) prog_11_method_24_code (1 : Nat) (Option.some Jvm.ClassFile.FieldType.int)), (Jvm.Cond.methodLink "TrueOneWayLaw" (128 : Nat) ({ cls := "TrueOneWayModel", name := "on", desc := "()I" } : Jvm.MethodName)), (Jvm.Cond.instanceMethod ({ cls := "TrueOneWayModel", name := "on", desc := "()I" } : Jvm.MethodName)), (Jvm.Cond.selects "TrueOneWayModel" ({ cls := "TrueOneWayModel", name := "on", desc := "()I" } : Jvm.MethodName) ({ cls := "TrueOneWayModel", name := "on", desc := "()I" } : Jvm.MethodName))]
def qv_w15 : List Cond := [(Jvm.Cond.code ({ cls := "TrueOneWayModel", name := "on", desc := "()I" } : Jvm.MethodName) prog_11_method_25_code (1 : Nat) (Option.some Jvm.ClassFile.FieldType.int)), (Jvm.Cond.methodLink "TrueOneWayLaw" (27 : Nat) ({ cls := "TrueOneWayModel", name := "road", desc := "(II)I" } : Jvm.MethodName)), (Jvm.Cond.instanceMethod ({ cls := "TrueOneWayModel", name := "road", desc := "(II)I" } : Jvm.MethodName)), (Jvm.Cond.selects "TrueOneWayModel" ({ cls := "TrueOneWayModel", name := "road", desc := "(II)I" } : Jvm.MethodName) ({ cls := "TrueOneWayModel", name := "road", desc := "(II)I" } : Jvm.MethodName)), (Jvm.Cond.code ({ cls := "TrueOneWayModel", name := "road", desc := "(II)I" } : Jvm.MethodName) prog_11_method_39_code (5 : Nat) (Option.some Jvm.ClassFile.FieldType.int)), (Jvm.Cond.methodLink "TrueOneWayLaw" (31 : Nat) ({ cls := "TrueOneWayModel", name := "sign", desc := "(II)I" } : Jvm.MethodName)), (Jvm.Cond.instanceMethod ({ cls := "TrueOneWayModel", name := "sign", desc := "(II)I" } : Jvm.MethodName)), (Jvm.Cond.selects "TrueOneWayModel" ({ cls := "TrueOneWayModel", name := "sign", desc := "(II)I" } : Jvm.MethodName) ({ cls := "TrueOneWayModel", name := "sign", desc := "(II)I" } : Jvm.MethodName)), (Jvm.Cond.code ({ cls := "TrueOneWayModel", name := "sign", desc := "(II)I" } : Jvm.MethodName) prog_11_method_40_code (3 : Nat) (Option.some Jvm.ClassFile.FieldType.int)), (Jvm.Cond.methodLink "TrueOneWayModel" (226 : Nat) ({ cls := "TrueOneWayModel", name := "isSign", desc := "(I)Z" } : Jvm.MethodName)), (Jvm.Cond.instanceMethod ({ cls := "TrueOneWayModel", name := "isSign", desc := "(I)Z" } : Jvm.MethodName)), (Jvm.Cond.code ({ cls := "TrueOneWayModel", name := "isSign", desc := "(I)Z" } : Jvm.MethodName) prog_11_method_7_code (2 : Nat) (Option.some Jvm.ClassFile.FieldType.boolean)), (Jvm.Cond.methodLink "TrueOneWayLaw" (35 : Nat) ({ cls := "TrueOneWayModel", name := "shown", desc := "(I)I" } : Jvm.MethodName)), (Jvm.Cond.instanceMethod ({ cls := "TrueOneWayModel", name := "shown", desc := "(I)I" } : Jvm.MethodName)), (Jvm.Cond.selects "TrueOneWayModel" ({ cls := "TrueOneWayModel", name := "shown", desc := "(I)I" } : Jvm.MethodName) ({ cls := "TrueOneWayModel", name := "shown", desc := "(I)I" } : Jvm.MethodName)), (Jvm.Cond.code ({ cls := "TrueOneWayModel", name := "shown", desc := "(I)I" } : Jvm.MethodName) prog_11_method_41_code (2 : Nat) (Option.some Jvm.ClassFile.FieldType.int)), (Jvm.Cond.methodLink "TrueOneWayLaw" (39 : Nat) ({ cls := "TrueOneWayModel", name := "fits", desc := "(I)I" } : Jvm.MethodName)), (Jvm.Cond.instanceMethod ({ cls := "TrueOneWayModel", name := "fits", desc := "(I)I" } : Jvm.MethodName)), (Jvm.Cond.selects "TrueOneWayModel" ({ cls := "TrueOneWayModel", name := "fits", desc := "(I)I" } : Jvm.MethodName) ({ cls := "TrueOneWayModel", name := "fits", desc := "(I)I" } : Jvm.MethodName)), (Jvm.Cond.code ({ cls := "TrueOneWayModel", name := "fits", desc := "(I)I" } : Jvm.MethodName) prog_11_method_42_code (2 : Nat) (Option.some Jvm.ClassFile.FieldType.int)), (Jvm.Cond.methodLink "TrueOneWayModel" (211 : Nat) ({ cls := "TrueOneWayModel", name := "isWorld", desc := "(I)Z" } : Jvm.MethodName)), (Jvm.Cond.instanceMethod ({ cls := "TrueOneWayModel", name := "isWorld", desc := "(I)Z" } : Jvm.MethodName)), (Jvm.Cond.code ({ cls := "TrueOneWayModel", name := "isWorld", desc := "(I)Z" } : Jvm.MethodName) prog_11_method_28_code (2 : Nat) (Option.some Jvm.ClassFile.FieldType.boolean)), (Jvm.Cond.methodLink "TrueOneWayModel" (195 : Nat) ({ cls := "TrueOneWayModel", name := "allFacts", desc := "()I" } : Jvm.MethodName)), (Jvm.Cond.instanceMethod ({ cls := "TrueOneWayModel", name := "allFacts", desc := "()I" } : Jvm.MethodName)), (Jvm.Cond.code ({ cls := "TrueOneWayModel", name := "allFacts", desc := "()I" } : Jvm.MethodName) prog_11_method_26_code (1 : Nat) (Option.some Jvm.ClassFile.FieldType.int)), (Jvm.Cond.methodLink "TrueOneWayModel" (198 : Nat) ({ cls := "TrueOneWayModel", name := "allSigns", desc := "()I" } : Jvm.MethodName)), (Jvm.Cond.instanceMethod ({ cls := "TrueOneWayModel", name := "allSigns", desc := "()I" } : Jvm.MethodName)), (Jvm.Cond.code ({ cls := "TrueOneWayModel", name := "allSigns", desc := "()I" } : Jvm.MethodName) prog_11_method_27_code (1 : Nat) (Option.some Jvm.ClassFile.FieldType.int)), (Jvm.Cond.methodLink "TrueOneWayModel" (214 : Nat) ({ cls := "TrueOneWayModel", name := "wrongs", desc := "(I)I" } : Jvm.MethodName)), (Jvm.Cond.instanceMethod ({ cls := "TrueOneWayModel", name := "wrongs", desc := "(I)I" } : Jvm.MethodName)), (Jvm.Cond.code ({ cls := "TrueOneWayModel", name := "wrongs", desc := "(I)I" } : Jvm.MethodName) prog_11_method_31_code (4 : Nat) (Option.some Jvm.ClassFile.FieldType.int)), (Jvm.Cond.methodLink "TrueOneWayModel" (205 : Nat) ({ cls := "TrueOneWayModel", name := "isRight", desc := "(II)Z" } : Jvm.MethodName)), (Jvm.Cond.instanceMethod ({ cls := "TrueOneWayModel", name := "isRight", desc := "(II)Z" } : Jvm.MethodName)), (Jvm.Cond.code ({ cls := "TrueOneWayModel", name := "isRight", desc := "(II)Z" } : Jvm.MethodName) prog_11_method_30_code (3 : Nat) (Option.some Jvm.ClassFile.FieldType.boolean)), (Jvm.Cond.methodLink "TrueOneWayModel" (201 : Nat) ({ cls := "TrueOneWayModel", name := "saysIn", desc := "(II)I" } : Jvm.MethodName)), (Jvm.Cond.instanceMethod ({ cls := "TrueOneWayModel", name := "saysIn", desc := "(II)I" } : Jvm.MethodName)), (Jvm.Cond.code ({ cls := "TrueOneWayModel", name := "saysIn", desc := "(II)I" } : Jvm.MethodName) prog_11_method_29_code (5 : Nat) (Option.some Jvm.ClassFile.FieldType.int)), (Jvm.Cond.methodLink "TrueOneWayLaw" (43 : Nat) ({ cls := "TrueOneWayModel", name := "good", desc := "(I)I" } : Jvm.MethodName)), (Jvm.Cond.instanceMethod ({ cls := "TrueOneWayModel", name := "good", desc := "(I)I" } : Jvm.MethodName)), (Jvm.Cond.selects "TrueOneWayModel" ({ cls := "TrueOneWayModel", name := "good", desc := "(I)I" } : Jvm.MethodName) ({ cls := "TrueOneWayModel", name := "good", desc := "(I)I" } : Jvm.MethodName)), (Jvm.Cond.code ({ cls := "TrueOneWayModel", name := "good", desc := "(I)I" } : Jvm.MethodName) prog_11_method_43_code (2 : Nat) (Option.some Jvm.ClassFile.FieldType.int)), (Jvm.Cond.methodLink "TrueOneWayModel" (229 : Nat) ({ cls := "TrueOneWayModel", name := "isGood", desc := "(I)Z" } : Jvm.MethodName)), (Jvm.Cond.instanceMethod ({ cls := "TrueOneWayModel", name := "isGood", desc := "(I)Z" } : Jvm.MethodName)), (Jvm.Cond.code ({ cls := "TrueOneWayModel", name := "isGood", desc := "(I)Z" } : Jvm.MethodName) prog_11_method_35_code (2 : Nat) (Option.some Jvm.ClassFile.FieldType.boolean)), (Jvm.Cond.methodLink "TrueOneWayModel" (217 : Nat) ({ cls := "TrueOneWayModel", name := "allFound", desc := "()I" } : Jvm.MethodName)), (Jvm.Cond.instanceMethod ({ cls := "TrueOneWayModel", name := "allFound", desc := "()I" } : Jvm.MethodName)), (Jvm.Cond.code ({ cls := "TrueOneWayModel", name := "allFound", desc := "()I" } : Jvm.MethodName) prog_11_method_34_code (1 : Nat) (Option.some Jvm.ClassFile.FieldType.int)), (Jvm.Cond.methodLink "TrueOneWayModel" (220 : Nat) ({ cls := "TrueOneWayModel", name := "areFoundSo", desc := "(II)Z" } : Jvm.MethodName)), (Jvm.Cond.instanceMethod ({ cls := "TrueOneWayModel", name := "areFoundSo", desc := "(II)Z" } : Jvm.MethodName)), (Jvm.Cond.code ({ cls := "TrueOneWayModel", name := "areFoundSo", desc := "(II)Z" } : Jvm.MethodName) prog_11_method_33_code (4 : Nat) (Option.some Jvm.ClassFile.FieldType.boolean)), (Jvm.Cond.methodLink "TrueOneWayModel" (208 : Nat) ({ cls := "TrueOneWayModel", name := "isFoundSo", desc := "(II)Z" } : Jvm.MethodName)), (Jvm.Cond.instanceMethod ({ cls := "TrueOneWayModel", name := "isFoundSo", desc := "(II)Z" } : Jvm.MethodName)), (Jvm.Cond.code ({ cls := "TrueOneWayModel", name := "isFoundSo", desc := "(II)Z" } : Jvm.MethodName) prog_11_method_32_code (3 : Nat) (Option.some Jvm.ClassFile.FieldType.boolean)), (Jvm.Cond.methodLink "TrueOneWayLaw" (47 : Nat) ({ cls := "TrueOneWayModel", name := "says", desc := "(II)I" } : Jvm.MethodName)), (Jvm.Cond.instanceMethod ({ cls := "TrueOneWayModel", name := "says", desc := "(II)I" } : Jvm.MethodName)), (Jvm.Cond.selects "TrueOneWayModel" ({ cls := "TrueOneWayModel", name := "says", desc := "(II)I" } : Jvm.MethodName) ({ cls := "TrueOneWayModel", name := "says", desc := "(II)I" } : Jvm.MethodName)), (Jvm.Cond.code ({ cls := "TrueOneWayModel", name := "says", desc := "(II)I" } : Jvm.MethodName) prog_11_method_44_code (3 : Nat) (Option.some Jvm.ClassFile.FieldType.int)), (Jvm.Cond.methodLink "TrueOneWayLaw" (51 : Nat) ({ cls := "TrueOneWayModel", name := "worlds", desc := "(I)I" } : Jvm.MethodName)), (Jvm.Cond.instanceMethod ({ cls := "TrueOneWayModel", name := "worlds", desc := "(I)I" } : Jvm.MethodName)), (Jvm.Cond.selects "TrueOneWayModel" ({ cls := "TrueOneWayModel", name := "worlds", desc := "(I)I" } : Jvm.MethodName) ({ cls := "TrueOneWayModel", name := "worlds", desc := "(I)I" } : Jvm.MethodName)), (Jvm.Cond.code ({ cls := "TrueOneWayModel", name := "worlds", desc := "(I)I" } : Jvm.MethodName) prog_11_method_45_code (2 : Nat) (Option.some Jvm.ClassFile.FieldType.int)), (Jvm.Cond.methodLink "TrueOneWayModel" (232 : Nat) ({ cls := "TrueOneWayModel", name := "findWorlds", desc := "(I)V" } : Jvm.MethodName)), (Jvm.Cond.instanceMethod ({ cls := "TrueOneWayModel", name := "findWorlds", desc := "(I)V" } : Jvm.MethodName))]
def qv_w16 : List Cond := [(Jvm.Cond.code ({ cls := "TrueOneWayModel", name := "findWorlds", desc := "(I)V" } : Jvm.MethodName) prog_11_method_36_code (3 : Nat) (Option.none : Option Jvm.ClassFile.FieldType)), (Jvm.Cond.methodLink "TrueOneWayLaw" (55 : Nat) ({ cls := "TrueOneWayModel", name := "fact", desc := "(II)I" } : Jvm.MethodName)), (Jvm.Cond.instanceMethod ({ cls := "TrueOneWayModel", name := "fact", desc := "(II)I" } : Jvm.MethodName)), (Jvm.Cond.selects "TrueOneWayModel" ({ cls := "TrueOneWayModel", name := "fact", desc := "(II)I" } : Jvm.MethodName) ({ cls := "TrueOneWayModel", name := "fact", desc := "(II)I" } : Jvm.MethodName)), (Jvm.Cond.code ({ cls := "TrueOneWayModel", name := "fact", desc := "(II)I" } : Jvm.MethodName) prog_11_method_47_code (3 : Nat) (Option.some Jvm.ClassFile.FieldType.int)), (Jvm.Cond.methodLink "TrueOneWayModel" (236 : Nat) ({ cls := "TrueOneWayModel", name := "finds", desc := "(II)I" } : Jvm.MethodName)), (Jvm.Cond.instanceMethod ({ cls := "TrueOneWayModel", name := "finds", desc := "(II)I" } : Jvm.MethodName)), (Jvm.Cond.code ({ cls := "TrueOneWayModel", name := "finds", desc := "(II)I" } : Jvm.MethodName) prog_11_method_46_code (3 : Nat) (Option.some Jvm.ClassFile.FieldType.int)), (Jvm.Cond.methodLink "TrueOneWayLaw" (59 : Nat) ({ cls := "TrueOneWayModel", name := "way", desc := "(II)I" } : Jvm.MethodName)), (Jvm.Cond.instanceMethod ({ cls := "TrueOneWayModel", name := "way", desc := "(II)I" } : Jvm.MethodName)), (Jvm.Cond.selects "TrueOneWayModel" ({ cls := "TrueOneWayModel", name := "way", desc := "(II)I" } : Jvm.MethodName) ({ cls := "TrueOneWayModel", name := "way", desc := "(II)I" } : Jvm.MethodName)), (Jvm.Cond.code ({ cls := "TrueOneWayModel", name := "way", desc := "(II)I" } : Jvm.MethodName) prog_11_method_48_code (3 : Nat) (Option.some Jvm.ClassFile.FieldType.int)), (Jvm.Cond.methodLink "TrueOneWayLaw" (63 : Nat) ({ cls := "TrueOneWayModel", name := "forget", desc := "()I" } : Jvm.MethodName)), (Jvm.Cond.instanceMethod ({ cls := "TrueOneWayModel", name := "forget", desc := "()I" } : Jvm.MethodName)), (Jvm.Cond.selects "TrueOneWayModel" ({ cls := "TrueOneWayModel", name := "forget", desc := "()I" } : Jvm.MethodName) ({ cls := "TrueOneWayModel", name := "forget", desc := "()I" } : Jvm.MethodName)), (Jvm.Cond.code ({ cls := "TrueOneWayModel", name := "forget", desc := "()I" } : Jvm.MethodName) prog_11_method_49_code (1 : Nat) (Option.some Jvm.ClassFile.FieldType.int)), (Jvm.Cond.methodLink "TrueOneWayLaw" (67 : Nat) ({ cls := "TrueOneWayModel", name := "sure", desc := "(I)I" } : Jvm.MethodName)), (Jvm.Cond.instanceMethod ({ cls := "TrueOneWayModel", name := "sure", desc := "(I)I" } : Jvm.MethodName)), (Jvm.Cond.selects "TrueOneWayModel" ({ cls := "TrueOneWayModel", name := "sure", desc := "(I)I" } : Jvm.MethodName) ({ cls := "TrueOneWayModel", name := "sure", desc := "(I)I" } : Jvm.MethodName)), (Jvm.Cond.code ({ cls := "TrueOneWayModel", name := "sure", desc := "(I)I" } : Jvm.MethodName) prog_11_method_51_code (3 : Nat) (Option.some Jvm.ClassFile.FieldType.int)), (Jvm.Cond.methodLink "TrueOneWayModel" (239 : Nat) ({ cls := "TrueOneWayModel", name := "inAll", desc := "()I" } : Jvm.MethodName)), (Jvm.Cond.instanceMethod ({ cls := "TrueOneWayModel", name := "inAll", desc := "()I" } : Jvm.MethodName)), (Jvm.Cond.code ({ cls := "TrueOneWayModel", name := "inAll", desc := "()I" } : Jvm.MethodName) prog_11_method_37_code (3 : Nat) (Option.some Jvm.ClassFile.FieldType.int)), (Jvm.Cond.methodLink "TrueOneWayModel" (242 : Nat) ({ cls := "TrueOneWayModel", name := "inNone", desc := "()I" } : Jvm.MethodName)), (Jvm.Cond.instanceMethod ({ cls := "TrueOneWayModel", name := "inNone", desc := "()I" } : Jvm.MethodName)), (Jvm.Cond.code ({ cls := "TrueOneWayModel", name := "inNone", desc := "()I" } : Jvm.MethodName) prog_11_method_38_code (3 : Nat) (Option.some Jvm.ClassFile.FieldType.int)), (Jvm.Cond.methodLink "TrueOneWayLaw" (71 : Nat) ({ cls := "TrueOneWayModel", name := "proof", desc := "()I" } : Jvm.MethodName)), (Jvm.Cond.instanceMethod ({ cls := "TrueOneWayModel", name := "proof", desc := "()I" } : Jvm.MethodName)), (Jvm.Cond.selects "TrueOneWayModel" ({ cls := "TrueOneWayModel", name := "proof", desc := "()I" } : Jvm.MethodName) ({ cls := "TrueOneWayModel", name := "proof", desc := "()I" } : Jvm.MethodName)), (Jvm.Cond.code ({ cls := "TrueOneWayModel", name := "proof", desc := "()I" } : Jvm.MethodName) prog_11_method_54_code (3 : Nat) (Option.some Jvm.ClassFile.FieldType.int)), (Jvm.Cond.methodLink "TrueOneWayModel" (245 : Nat) ({ cls := "TrueOneWayModel", name := "bits", desc := "(I)I" } : Jvm.MethodName)), (Jvm.Cond.static ({ cls := "TrueOneWayModel", name := "bits", desc := "(I)I" } : Jvm.MethodName)), (Jvm.Cond.code ({ cls := "TrueOneWayModel", name := "bits", desc := "(I)I" } : Jvm.MethodName) prog_11_method_52_code (3 : Nat) (Option.some Jvm.ClassFile.FieldType.int)), (Jvm.Cond.methodLink "TrueOneWayModel" (248 : Nat) ({ cls := "TrueOneWayModel", name := "canBe", desc := "(I)Z" } : Jvm.MethodName)), (Jvm.Cond.instanceMethod ({ cls := "TrueOneWayModel", name := "canBe", desc := "(I)Z" } : Jvm.MethodName)), (Jvm.Cond.code ({ cls := "TrueOneWayModel", name := "canBe", desc := "(I)Z" } : Jvm.MethodName) prog_11_method_53_code (3 : Nat) (Option.some Jvm.ClassFile.FieldType.boolean)), (Jvm.Cond.methodLink "TrueOneWayLaw" (75 : Nat) ({ cls := "TrueOneWayModel", name := "tells", desc := "(II)I" } : Jvm.MethodName)), (Jvm.Cond.instanceMethod ({ cls := "TrueOneWayModel", name := "tells", desc := "(II)I" } : Jvm.MethodName)), (Jvm.Cond.selects "TrueOneWayModel" ({ cls := "TrueOneWayModel", name := "tells", desc := "(II)I" } : Jvm.MethodName) ({ cls := "TrueOneWayModel", name := "tells", desc := "(II)I" } : Jvm.MethodName)), (Jvm.Cond.code ({ cls := "TrueOneWayModel", name := "tells", desc := "(II)I" } : Jvm.MethodName) prog_11_method_55_code (6 : Nat) (Option.some Jvm.ClassFile.FieldType.int)), (Jvm.Cond.methodLink "TrueOneWayModel" (251 : Nat) ({ cls := "TrueOneWayModel", name := "openFacts", desc := "()I" } : Jvm.MethodName)), (Jvm.Cond.instanceMethod ({ cls := "TrueOneWayModel", name := "openFacts", desc := "()I" } : Jvm.MethodName)), (Jvm.Cond.code ({ cls := "TrueOneWayModel", name := "openFacts", desc := "()I" } : Jvm.MethodName) prog_11_method_50_code (1 : Nat) (Option.some Jvm.ClassFile.FieldType.int)), (Jvm.Cond.methodLink "TrueOneWayLaw" (79 : Nat) ({ cls := "TrueOneWayModel", name := "rings", desc := "()I" } : Jvm.MethodName)), (Jvm.Cond.instanceMethod ({ cls := "TrueOneWayModel", name := "rings", desc := "()I" } : Jvm.MethodName)), (Jvm.Cond.selects "TrueOneWayModel" ({ cls := "TrueOneWayModel", name := "rings", desc := "()I" } : Jvm.MethodName) ({ cls := "TrueOneWayModel", name := "rings", desc := "()I" } : Jvm.MethodName)), (Jvm.Cond.code ({ cls := "TrueOneWayModel", name := "rings", desc := "()I" } : Jvm.MethodName) prog_11_method_56_code (5 : Nat) (Option.some Jvm.ClassFile.FieldType.int)), (Jvm.Cond.methodLink "TrueOneWayLaw" (83 : Nat) ({ cls := "TrueOneWayModel", name := "joking", desc := "(I)I" } : Jvm.MethodName)), (Jvm.Cond.instanceMethod ({ cls := "TrueOneWayModel", name := "joking", desc := "(I)I" } : Jvm.MethodName)), (Jvm.Cond.selects "TrueOneWayModel" ({ cls := "TrueOneWayModel", name := "joking", desc := "(I)I" } : Jvm.MethodName) ({ cls := "TrueOneWayModel", name := "joking", desc := "(I)I" } : Jvm.MethodName)), (Jvm.Cond.code ({ cls := "TrueOneWayModel", name := "joking", desc := "(I)I" } : Jvm.MethodName) prog_11_method_57_code (3 : Nat) (Option.some Jvm.ClassFile.FieldType.int)), (Jvm.Cond.methodLink "TrueOneWayLaw" (87 : Nat) ({ cls := "TrueOneWayModel", name := "bears", desc := "(I)I" } : Jvm.MethodName)), (Jvm.Cond.instanceMethod ({ cls := "TrueOneWayModel", name := "bears", desc := "(I)I" } : Jvm.MethodName)), (Jvm.Cond.selects "TrueOneWayModel" ({ cls := "TrueOneWayModel", name := "bears", desc := "(I)I" } : Jvm.MethodName) ({ cls := "TrueOneWayModel", name := "bears", desc := "(I)I" } : Jvm.MethodName)), (Jvm.Cond.code ({ cls := "TrueOneWayModel", name := "bears", desc := "(I)I" } : Jvm.MethodName) prog_11_method_58_code (3 : Nat) (Option.some Jvm.ClassFile.FieldType.int)), (Jvm.Cond.methodLink "TrueOneWayLaw" (91 : Nat) ({ cls := "TrueOneWayModel", name := "fewest", desc := "(II)I" } : Jvm.MethodName)), (Jvm.Cond.instanceMethod ({ cls := "TrueOneWayModel", name := "fewest", desc := "(II)I" } : Jvm.MethodName)), (Jvm.Cond.selects "TrueOneWayModel" ({ cls := "TrueOneWayModel", name := "fewest", desc := "(II)I" } : Jvm.MethodName) ({ cls := "TrueOneWayModel", name := "fewest", desc := "(II)I" } : Jvm.MethodName)), (Jvm.Cond.code ({ cls := "TrueOneWayModel", name := "fewest", desc := "(II)I" } : Jvm.MethodName) prog_11_method_61_code (4 : Nat) (Option.some Jvm.ClassFile.FieldType.int)), (Jvm.Cond.methodLink "TrueOneWayModel" (257 : Nat) ({ cls := "TrueOneWayModel", name := "fewestFor", desc := "(I)I" } : Jvm.MethodName)), (Jvm.Cond.instanceMethod ({ cls := "TrueOneWayModel", name := "fewestFor", desc := "(I)I" } : Jvm.MethodName)), (Jvm.Cond.code ({ cls := "TrueOneWayModel", name := "fewestFor", desc := "(I)I" } : Jvm.MethodName) prog_11_method_60_code (4 : Nat) (Option.some Jvm.ClassFile.FieldType.int)), (Jvm.Cond.methodLink "TrueOneWayModel" (254 : Nat) ({ cls := "TrueOneWayModel", name := "alikeBy", desc := "(I)I" } : Jvm.MethodName)), (Jvm.Cond.instanceMethod ({ cls := "TrueOneWayModel", name := "alikeBy", desc := "(I)I" } : Jvm.MethodName))]
def qv_w17 : List Cond := [(Jvm.Cond.code ({ cls := "TrueOneWayModel", name := "alikeBy", desc := "(I)I" } : Jvm.MethodName) prog_11_method_59_code (6 : Nat) (Option.some Jvm.ClassFile.FieldType.int)), (Jvm.Cond.methodLink "TrueOneWayLaw" (95 : Nat) ({ cls := "TrueOneWayModel", name := "together", desc := "(I)I" } : Jvm.MethodName)), (Jvm.Cond.instanceMethod ({ cls := "TrueOneWayModel", name := "together", desc := "(I)I" } : Jvm.MethodName)), (Jvm.Cond.selects "TrueOneWayModel" ({ cls := "TrueOneWayModel", name := "together", desc := "(I)I" } : Jvm.MethodName) ({ cls := "TrueOneWayModel", name := "together", desc := "(I)I" } : Jvm.MethodName)), (Jvm.Cond.code ({ cls := "TrueOneWayModel", name := "together", desc := "(I)I" } : Jvm.MethodName) prog_11_method_62_code (2 : Nat) (Option.some Jvm.ClassFile.FieldType.int)), (Jvm.Cond.methodLink "TrueOneWayLaw" (99 : Nat) ({ cls := "TrueOneWayModel", name := "go", desc := "(II)I" } : Jvm.MethodName)), (Jvm.Cond.instanceMethod ({ cls := "TrueOneWayModel", name := "go", desc := "(II)I" } : Jvm.MethodName)), (Jvm.Cond.selects "TrueOneWayModel" ({ cls := "TrueOneWayModel", name := "go", desc := "(II)I" } : Jvm.MethodName) ({ cls := "TrueOneWayModel", name := "go", desc := "(II)I" } : Jvm.MethodName)), (Jvm.Cond.code ({ cls := "TrueOneWayModel", name := "go", desc := "(II)I" } : Jvm.MethodName) prog_11_method_72_code (5 : Nat) (Option.some Jvm.ClassFile.FieldType.int)), (Jvm.Cond.methodLink "TrueOneWayModel" (284 : Nat) ({ cls := "TrueOneWayModel", name := "findWorths", desc := "()V" } : Jvm.MethodName)), (Jvm.Cond.instanceMethod ({ cls := "TrueOneWayModel", name := "findWorths", desc := "()V" } : Jvm.MethodName)), (Jvm.Cond.code ({ cls := "TrueOneWayModel", name := "findWorths", desc := "()V" } : Jvm.MethodName) prog_11_method_71_code (4 : Nat) (Option.none : Option Jvm.ClassFile.FieldType)), (Jvm.Cond.methodLink "TrueOneWayModel" (275 : Nat) ({ cls := "TrueOneWayModel", name := "findFactSets", desc := "()V" } : Jvm.MethodName)), (Jvm.Cond.instanceMethod ({ cls := "TrueOneWayModel", name := "findFactSets", desc := "()V" } : Jvm.MethodName)), (Jvm.Cond.code ({ cls := "TrueOneWayModel", name := "findFactSets", desc := "()V" } : Jvm.MethodName) prog_11_method_66_code (2 : Nat) (Option.none : Option Jvm.ClassFile.FieldType)), (Jvm.Cond.methodLink "TrueOneWayModel" (278 : Nat) ({ cls := "TrueOneWayModel", name := "isDone", desc := "(II)Z" } : Jvm.MethodName)), (Jvm.Cond.instanceMethod ({ cls := "TrueOneWayModel", name := "isDone", desc := "(II)Z" } : Jvm.MethodName)), (Jvm.Cond.code ({ cls := "TrueOneWayModel", name := "isDone", desc := "(II)Z" } : Jvm.MethodName) prog_11_method_67_code (4 : Nat) (Option.some Jvm.ClassFile.FieldType.boolean)), (Jvm.Cond.methodLink "TrueOneWayModel" (263 : Nat) ({ cls := "TrueOneWayModel", name := "agrees", desc := "(II)Z" } : Jvm.MethodName)), (Jvm.Cond.instanceMethod ({ cls := "TrueOneWayModel", name := "agrees", desc := "(II)Z" } : Jvm.MethodName)), (Jvm.Cond.code ({ cls := "TrueOneWayModel", name := "agrees", desc := "(II)Z" } : Jvm.MethodName) prog_11_method_64_code (5 : Nat) (Option.some Jvm.ClassFile.FieldType.boolean)), (Jvm.Cond.methodLink "TrueOneWayModel" (260 : Nat) ({ cls := "TrueOneWayModel", name := "partOf", desc := "(II)I" } : Jvm.MethodName)), (Jvm.Cond.static ({ cls := "TrueOneWayModel", name := "partOf", desc := "(II)I" } : Jvm.MethodName)), (Jvm.Cond.code ({ cls := "TrueOneWayModel", name := "partOf", desc := "(II)I" } : Jvm.MethodName) prog_11_method_63_code (4 : Nat) (Option.some Jvm.ClassFile.FieldType.int)), (Jvm.Cond.methodLink "TrueOneWayModel" (281 : Nat) ({ cls := "TrueOneWayModel", name := "bestNext", desc := "(II)I" } : Jvm.MethodName)), (Jvm.Cond.instanceMethod ({ cls := "TrueOneWayModel", name := "bestNext", desc := "(II)I" } : Jvm.MethodName)), (Jvm.Cond.code ({ cls := "TrueOneWayModel", name := "bestNext", desc := "(II)I" } : Jvm.MethodName) prog_11_method_70_code (7 : Nat) (Option.some Jvm.ClassFile.FieldType.int)), (Jvm.Cond.methodLink "TrueOneWayModel" (269 : Nat) ({ cls := "TrueOneWayModel", name := "areNext", desc := "(II)Z" } : Jvm.MethodName)), (Jvm.Cond.instanceMethod ({ cls := "TrueOneWayModel", name := "areNext", desc := "(II)Z" } : Jvm.MethodName)), (Jvm.Cond.code ({ cls := "TrueOneWayModel", name := "areNext", desc := "(II)Z" } : Jvm.MethodName) prog_11_method_68_code (4 : Nat) (Option.some Jvm.ClassFile.FieldType.boolean)), (Jvm.Cond.methodLink "TrueOneWayModel" (272 : Nat) ({ cls := "TrueOneWayModel", name := "worstAt", desc := "(II)I" } : Jvm.MethodName)), (Jvm.Cond.instanceMethod ({ cls := "TrueOneWayModel", name := "worstAt", desc := "(II)I" } : Jvm.MethodName)), (Jvm.Cond.code ({ cls := "TrueOneWayModel", name := "worstAt", desc := "(II)I" } : Jvm.MethodName) prog_11_method_69_code (6 : Nat) (Option.some Jvm.ClassFile.FieldType.int)), (Jvm.Cond.methodLink "TrueOneWayModel" (266 : Nat) ({ cls := "TrueOneWayModel", name := "knownAt", desc := "(III)I" } : Jvm.MethodName)), (Jvm.Cond.instanceMethod ({ cls := "TrueOneWayModel", name := "knownAt", desc := "(III)I" } : Jvm.MethodName)), (Jvm.Cond.code ({ cls := "TrueOneWayModel", name := "knownAt", desc := "(III)I" } : Jvm.MethodName) prog_11_method_65_code (7 : Nat) (Option.some Jvm.ClassFile.FieldType.int)), (Jvm.Cond.methodLink "TrueOneWayLaw" (103 : Nat) ({ cls := "TrueOneWayModel", name := "row", desc := "(I)I" } : Jvm.MethodName)), (Jvm.Cond.instanceMethod ({ cls := "TrueOneWayModel", name := "row", desc := "(I)I" } : Jvm.MethodName)), (Jvm.Cond.selects "TrueOneWayModel" ({ cls := "TrueOneWayModel", name := "row", desc := "(I)I" } : Jvm.MethodName) ({ cls := "TrueOneWayModel", name := "row", desc := "(I)I" } : Jvm.MethodName)), (Jvm.Cond.code ({ cls := "TrueOneWayModel", name := "row", desc := "(I)I" } : Jvm.MethodName) prog_11_method_73_code (2 : Nat) (Option.some Jvm.ClassFile.FieldType.int)), (Jvm.Cond.methodLink "TrueOneWayLaw" (107 : Nat) ({ cls := "TrueOneWayModel", name := "book", desc := "(I)I" } : Jvm.MethodName)), (Jvm.Cond.instanceMethod ({ cls := "TrueOneWayModel", name := "book", desc := "(I)I" } : Jvm.MethodName)), (Jvm.Cond.selects "TrueOneWayModel" ({ cls := "TrueOneWayModel", name := "book", desc := "(I)I" } : Jvm.MethodName) ({ cls := "TrueOneWayModel", name := "book", desc := "(I)I" } : Jvm.MethodName)), (Jvm.Cond.code ({ cls := "TrueOneWayModel", name := "book", desc := "(I)I" } : Jvm.MethodName) prog_11_method_78_code (6 : Nat) (Option.some Jvm.ClassFile.FieldType.int)), (Jvm.Cond.methodLink "TrueOneWayModel" (297 : Nat) ({ cls := "TrueOneWayModel", name := "walksBy", desc := "(IIZ)V" } : Jvm.MethodName)), (Jvm.Cond.instanceMethod ({ cls := "TrueOneWayModel", name := "walksBy", desc := "(IIZ)V" } : Jvm.MethodName)), (Jvm.Cond.code ({ cls := "TrueOneWayModel", name := "walksBy", desc := "(IIZ)V" } : Jvm.MethodName) prog_11_method_77_code (7 : Nat) (Option.none : Option Jvm.ClassFile.FieldType)), (Jvm.Cond.methodLink "TrueOneWayModel" (287 : Nat) ({ cls := "TrueOneWayModel", name := "signsOn", desc := "(I)I" } : Jvm.MethodName)), (Jvm.Cond.instanceMethod ({ cls := "TrueOneWayModel", name := "signsOn", desc := "(I)I" } : Jvm.MethodName)), (Jvm.Cond.code ({ cls := "TrueOneWayModel", name := "signsOn", desc := "(I)I" } : Jvm.MethodName) prog_11_method_74_code (4 : Nat) (Option.some Jvm.ClassFile.FieldType.int)), (Jvm.Cond.methodLink "TrueOneWayModel" (293 : Nat) ({ cls := "TrueOneWayModel", name := "doStand", desc := "(IZI)Z" } : Jvm.MethodName)), (Jvm.Cond.instanceMethod ({ cls := "TrueOneWayModel", name := "doStand", desc := "(IZI)Z" } : Jvm.MethodName)), (Jvm.Cond.code ({ cls := "TrueOneWayModel", name := "doStand", desc := "(IZI)Z" } : Jvm.MethodName) prog_11_method_76_code (6 : Nat) (Option.some Jvm.ClassFile.FieldType.boolean)), (Jvm.Cond.methodLink "TrueOneWayModel" (290 : Nat) ({ cls := "TrueOneWayModel", name := "nthOn", desc := "(II)I" } : Jvm.MethodName)), (Jvm.Cond.instanceMethod ({ cls := "TrueOneWayModel", name := "nthOn", desc := "(II)I" } : Jvm.MethodName)), (Jvm.Cond.code ({ cls := "TrueOneWayModel", name := "nthOn", desc := "(II)I" } : Jvm.MethodName) prog_11_method_75_code (5 : Nat) (Option.some Jvm.ClassFile.FieldType.int)), (Jvm.Cond.methodLink "TrueOneWayLaw" (111 : Nat) ({ cls := "TrueOneWayModel", name := "next", desc := "()I" } : Jvm.MethodName)), (Jvm.Cond.instanceMethod ({ cls := "TrueOneWayModel", name := "next", desc := "()I" } : Jvm.MethodName)), (Jvm.Cond.selects "TrueOneWayModel" ({ cls := "TrueOneWayModel", name := "next", desc := "()I" } : Jvm.MethodName) ({ cls := "TrueOneWayModel", name := "next", desc := "()I" } : Jvm.MethodName)), (Jvm.Cond.code ({ cls := "TrueOneWayModel", name := "next", desc := "()I" } : Jvm.MethodName) prog_11_method_79_code (8 : Nat) (Option.some Jvm.ClassFile.FieldType.int)), (Jvm.Cond.methodLink "TrueOneWayLaw" (116 : Nat) ({ cls := "TrueOneWayModel", name := "lands", desc := "(III)I" } : Jvm.MethodName)), (Jvm.Cond.instanceMethod ({ cls := "TrueOneWayModel", name := "lands", desc := "(III)I" } : Jvm.MethodName)), (Jvm.Cond.selects "TrueOneWayModel" ({ cls := "TrueOneWayModel", name := "lands", desc := "(III)I" } : Jvm.MethodName) ({ cls := "TrueOneWayModel", name := "lands", desc := "(III)I" } : Jvm.MethodName)), (Jvm.Cond.code ({ cls := "TrueOneWayModel", name := "lands", desc := "(III)I" } : Jvm.MethodName) prog_11_method_80_code (9 : Nat) (Option.some Jvm.ClassFile.FieldType.int))]
def qv_w18 : List Cond := [(Jvm.Cond.constant "TrueOneWayModel" (301 : Nat) (1664525 : Int32)), (Jvm.Cond.constant "TrueOneWayModel" (302 : Nat) (1013904223 : Int32)), (Jvm.Cond.constant "TrueOneWayModel" (303 : Nat) (2147483647 : Int32)), (Jvm.Cond.methodLink "TrueOneWayLaw" (120 : Nat) ({ cls := "TrueOneWayModel", name := "judge", desc := "(I)I" } : Jvm.MethodName)), (Jvm.Cond.instanceMethod ({ cls := "TrueOneWayModel", name := "judge", desc := "(I)I" } : Jvm.MethodName)), (Jvm.Cond.selects "TrueOneWayModel" ({ cls := "TrueOneWayModel", name := "judge", desc := "(I)I" } : Jvm.MethodName) ({ cls := "TrueOneWayModel", name := "judge", desc := "(I)I" } : Jvm.MethodName)), (Jvm.Cond.code ({ cls := "TrueOneWayModel", name := "judge", desc := "(I)I" } : Jvm.MethodName) prog_11_method_81_code (3 : Nat) (Option.some Jvm.ClassFile.FieldType.int)), (Jvm.Cond.methodLink "TrueOneWayLaw" (132 : Nat) ({ cls := "TrueOneWayModel", name := "count", desc := "(I)I" } : Jvm.MethodName)), (Jvm.Cond.instanceMethod ({ cls := "TrueOneWayModel", name := "count", desc := "(I)I" } : Jvm.MethodName)), (Jvm.Cond.selects "TrueOneWayModel" ({ cls := "TrueOneWayModel", name := "count", desc := "(I)I" } : Jvm.MethodName) ({ cls := "TrueOneWayModel", name := "count", desc := "(I)I" } : Jvm.MethodName)), (Jvm.Cond.code ({ cls := "TrueOneWayModel", name := "count", desc := "(I)I" } : Jvm.MethodName) prog_11_method_83_code (2 : Nat) (Option.some Jvm.ClassFile.FieldType.int)), (Jvm.Cond.methodLink "TrueOneWayModel" (304 : Nat) ({ cls := "TrueOneWayModel", name := "fitMany", desc := "()I" } : Jvm.MethodName)), (Jvm.Cond.instanceMethod ({ cls := "TrueOneWayModel", name := "fitMany", desc := "()I" } : Jvm.MethodName)), (Jvm.Cond.code ({ cls := "TrueOneWayModel", name := "fitMany", desc := "()I" } : Jvm.MethodName) prog_11_method_82_code (3 : Nat) (Option.some Jvm.ClassFile.FieldType.int)), (Jvm.Cond.fieldLink "java/lang/String" (9 : Nat) "java/lang/String" "value" "[B"), (Jvm.Cond.fieldLink "java/lang/String" (15 : Nat) "java/lang/String" "coder" "B")]
def qv_WS : List Cond := qv_w0 ++ (qv_w1 ++ (qv_w2 ++ (qv_w3 ++ (qv_w4 ++ (qv_w5 ++ (qv_w6 ++ (qv_w7 ++ (qv_w8 ++ (qv_w9 ++ (qv_w10 ++ (qv_w11 ++ (qv_w12 ++ (qv_w13 ++ (qv_w14 ++ (qv_w15 ++ (qv_w16 ++ (qv_w17 ++ (qv_w18))))))))))))))))))
set_option maxRecDepth 100000 in
theorem qv_t0 : qv_w0 = ([0, 1, 2, 3, 4, 5, 6, 7, 8, 9, 10, 11, 12, 13, 14, 15, 16, 17, 18, 19, 20, 21, 22, 23, 24, 25, 26, 27, 28, 29, 30, 31, 32, 33, 34, 35, 36, 37, 38, 39, 40, 41, 42, 43, 44, 45, 46, 47, 48, 49, 50, 51, 52, 53, 54, 55, 56, 57, 58, 59, 60, 61, 62, 63] : List Nat).filterMap (fun i => lw_tbl[i]?) := by decide +kernel
theorem qv_g0 : qv_w0.all goodWord = true := by decide +kernel
theorem qv_i0 {w : Cond} (h : w ∈ qv_w0) : w ∈ qv_WS := by unfold qv_WS; exact (List.mem_append_left _ h)
set_option maxRecDepth 100000 in
theorem qv_t1 : qv_w1 = ([64, 65, 66, 67, 68, 69, 70, 71, 72, 73, 74, 75, 76, 77, 78, 79, 80, 81, 82, 83, 84, 85, 86, 87, 88, 89, 90, 91, 92, 93, 94, 95, 96, 98, 99, 100, 101, 102, 103, 104, 106, 109, 110, 111, 113, 114, 115, 116, 117, 118, 119, 120, 121, 122, 123, 124, 125, 126, 127, 128, 129, 130, 131, 132] : List Nat).filterMap (fun i => lw_tbl[i]?) := by decide +kernel
theorem qv_g1 : qv_w1.all goodWord = true := by decide +kernel
theorem qv_i1 {w : Cond} (h : w ∈ qv_w1) : w ∈ qv_WS := by unfold qv_WS; exact (List.mem_append_right _ (List.mem_append_left _ h))
set_option maxRecDepth 100000 in
theorem qv_t2 : qv_w2 = ([133, 134, 135, 136, 137, 138, 139, 140, 141, 142, 143, 144, 145, 146, 147, 148, 149, 150, 151, 152, 154, 156, 158, 160, 162, 164, 166, 168, 170, 172, 174, 176, 178, 181, 182, 184, 185, 186, 187, 188, 189, 190, 191, 192, 194, 196, 199, 200, 201, 203, 204, 205, 206, 207, 208, 209, 210, 211, 212, 213, 214, 215, 216, 217] : List Nat).filterMap (fun i => lw_tbl[i]?) := by decide +kernel
theorem qv_g2 : qv_w2.all goodWord = true := by decide +kernel
theorem qv_i2 {w : Cond} (h : w ∈ qv_w2) : w ∈ qv_WS := by unfold qv_WS; exact (List.mem_append_right _ (List.mem_append_right _ (List.mem_append_left _ h)))
set_option maxRecDepth 100000 in
theorem qv_t3 : qv_w3 = ([218, 219, 220, 221, 223, 225, 227, 229, 231, 233, 236, 237, 239, 240, 241, 242, 243, 246, 247, 249, 250, 251, 252, 253, 254, 256, 259, 260, 262, 263, 264, 265, 266, 267, 268, 269, 271, 273, 276, 277, 278, 279, 280, 281, 282, 283, 284, 285, 286, 287, 288, 289, 290, 291, 292, 293, 294, 295, 296, 298, 299, 300, 301, 302] : List Nat).filterMap (fun i => lw_tbl[i]?) := by decide +kernel
theorem qv_g3 : qv_w3.all goodWord = true := by decide +kernel
theorem qv_i3 {w : Cond} (h : w ∈ qv_w3) : w ∈ qv_WS := by unfold qv_WS; exact (List.mem_append_right _ (List.mem_append_right _ (List.mem_append_right _ (List.mem_append_left _ h))))
set_option maxRecDepth 100000 in
theorem qv_t4 : qv_w4 = ([303, 304, 305, 306, 307, 308, 309, 310, 311, 312, 313, 314, 315, 316, 317, 318, 319, 320, 321, 322, 323, 324, 325, 326, 327, 329, 330, 331, 332, 333, 334, 335, 336, 337, 338, 339, 340, 341, 342, 343, 344, 345, 346, 348, 350, 352, 354, 356, 358, 360, 362, 364, 366, 368, 371, 372, 373, 374, 375, 377, 378, 379, 380, 381] : List Nat).filterMap (fun i => lw_tbl[i]?) := by decide +kernel
theorem qv_g4 : qv_w4.all goodWord = true := by decide +kernel
theorem qv_i4 {w : Cond} (h : w ∈ qv_w4) : w ∈ qv_WS := by unfold qv_WS; exact (List.mem_append_right _ (List.mem_append_right _ (List.mem_append_right _ (List.mem_append_right _ (List.mem_append_left _ h)))))
set_option maxRecDepth 100000 in
theorem qv_t5 : qv_w5 = ([382, 383, 384, 385, 386, 387, 389, 390, 391, 392, 393, 394, 396, 397, 398, 399, 400, 401, 402, 403, 404, 406, 407, 408, 415, 416, 417, 418, 419, 420, 421, 422, 423, 424, 425, 426, 427, 428, 429, 431, 432, 433, 434, 435, 436, 437, 438, 439, 440, 441, 442, 443, 444, 445, 446, 447, 449, 451, 453, 454, 455, 456, 457, 458] : List Nat).filterMap (fun i => lw_tbl[i]?) := by decide +kernel
theorem qv_g5 : qv_w5.all goodWord = true := by decide +kernel
theorem qv_i5 {w : Cond} (h : w ∈ qv_w5) : w ∈ qv_WS := by unfold qv_WS; exact (List.mem_append_right _ (List.mem_append_right _ (List.mem_append_right _ (List.mem_append_right _ (List.mem_append_right _ (List.mem_append_left _ h))))))
set_option maxRecDepth 100000 in
theorem qv_t6 : qv_w6 = ([460, 461, 462, 463, 464, 465, 466, 467, 468, 469, 470, 471, 472, 473, 474, 475, 476, 477, 478, 479, 480, 481, 482, 483, 484, 485, 486, 487, 488, 489, 490, 491, 492, 493, 494, 495, 496, 497, 498, 499, 500, 501, 502, 503, 504, 505, 506, 507, 508, 509, 510, 511, 512, 513, 514, 515, 516, 517, 518, 519, 520, 521, 522, 523] : List Nat).filterMap (fun i => lw_tbl[i]?) := by decide +kernel
theorem qv_g6 : qv_w6.all goodWord = true := by decide +kernel
theorem qv_i6 {w : Cond} (h : w ∈ qv_w6) : w ∈ qv_WS := by unfold qv_WS; exact (List.mem_append_right _ (List.mem_append_right _ (List.mem_append_right _ (List.mem_append_right _ (List.mem_append_right _ (List.mem_append_right _ (List.mem_append_left _ h)))))))
set_option maxRecDepth 100000 in
theorem qv_t7 : qv_w7 = ([524, 525, 526, 527, 528, 529, 530, 531, 532, 533, 534, 535, 536, 537, 538, 539, 541, 542, 543, 545, 546, 547, 548, 550, 551, 552, 553, 554, 555, 556, 558, 559, 560, 561, 562, 563, 564, 566, 567, 568, 569, 570, 571, 572, 574, 575, 576, 577, 578, 579, 580, 582, 583, 584, 586, 587, 588, 589, 590, 591, 592, 593, 594, 595] : List Nat).filterMap (fun i => lw_tbl[i]?) := by decide +kernel
theorem qv_g7 : qv_w7.all goodWord = true := by decide +kernel
theorem qv_i7 {w : Cond} (h : w ∈ qv_w7) : w ∈ qv_WS := by unfold qv_WS; exact (List.mem_append_right _ (List.mem_append_right _ (List.mem_append_right _ (List.mem_append_right _ (List.mem_append_right _ (List.mem_append_right _ (List.mem_append_right _ (List.mem_append_left _ h))))))))
set_option maxRecDepth 100000 in
theorem qv_t8 : qv_w8 = ([596, 597, 598, 599, 600, 601, 602, 603, 604, 605, 606, 607, 608, 609, 610, 611, 612, 613, 614, 615, 616, 617, 618, 619, 620, 621, 622, 623, 624, 625, 626, 627, 628, 629, 630, 631, 632, 633, 634, 635, 636, 637, 638, 639, 640, 641, 642, 644, 645, 646, 647, 648, 649, 650, 651, 652, 653, 654, 655, 656, 657, 658, 659, 660] : List Nat).filterMap (fun i => lw_tbl[i]?) := by decide +kernel
theorem qv_g8 : qv_w8.all goodWord = true := by decide +kernel
theorem qv_i8 {w : Cond} (h : w ∈ qv_w8) : w ∈ qv_WS := by unfold qv_WS; exact (List.mem_append_right _ (List.mem_append_right _ (List.mem_append_right _ (List.mem_append_right _ (List.mem_append_right _ (List.mem_append_right _ (List.mem_append_right _ (List.mem_append_right _ (List.mem_append_left _ h)))))))))
set_option maxRecDepth 100000 in
theorem qv_t9 : qv_w9 = ([661, 662, 663, 664, 665, 666, 667, 668, 669, 670, 671, 672, 673, 674, 675, 676, 677, 678, 679, 680, 681, 682, 684, 685, 686, 687, 688, 689, 690, 691, 692, 693, 694, 695, 696, 697, 698, 699, 700, 701, 702, 703, 704, 705, 706, 707, 708, 709, 710, 711, 712, 713, 714, 715, 716, 717, 718, 719, 720, 721, 722, 723, 724, 725] : List Nat).filterMap (fun i => lw_tbl[i]?) := by decide +kernel
theorem qv_g9 : qv_w9.all goodWord = true := by decide +kernel
theorem qv_i9 {w : Cond} (h : w ∈ qv_w9) : w ∈ qv_WS := by unfold qv_WS; exact (List.mem_append_right _ (List.mem_append_right _ (List.mem_append_right _ (List.mem_append_right _ (List.mem_append_right _ (List.mem_append_right _ (List.mem_append_right _ (List.mem_append_right _ (List.mem_append_right _ (List.mem_append_left _ h))))))))))
set_option maxRecDepth 100000 in
theorem qv_t10 : qv_w10 = ([726, 727, 728, 729, 730, 731, 732, 733, 734, 735, 736, 737, 738, 739, 740, 741, 742, 743, 744, 745, 746, 747, 748, 749, 750, 751, 752, 753, 754, 755, 756, 757, 758, 759, 760, 761, 762, 763, 764, 765, 766, 767, 768, 770, 771, 772, 773, 774, 775, 776, 777, 778, 780, 781, 782, 783, 785, 786, 787, 788, 789, 790, 791, 793] : List Nat).filterMap (fun i => lw_tbl[i]?) := by decide +kernel
theorem qv_g10 : qv_w10.all goodWord = true := by decide +kernel
theorem qv_i10 {w : Cond} (h : w ∈ qv_w10) : w ∈ qv_WS := by unfold qv_WS; exact (List.mem_append_right _ (List.mem_append_right _ (List.mem_append_right _ (List.mem_append_right _ (List.mem_append_right _ (List.mem_append_right _ (List.mem_append_right _ (List.mem_append_right _ (List.mem_append_right _ (List.mem_append_right _ (List.mem_append_left _ h)))))))))))
set_option maxRecDepth 100000 in
theorem qv_t11 : qv_w11 = ([794, 795, 796, 797, 798, 799, 800, 801, 802, 803, 804, 805, 806, 807, 808, 809, 810, 811, 812, 813, 814, 815, 816, 817, 818, 819, 820, 821, 822, 823, 824, 825, 827, 828, 829, 830, 831, 833, 834, 835, 836, 837, 838, 839, 840, 841, 842, 843, 844, 845, 846, 847, 848, 849, 850, 851, 853, 854, 855, 856, 857, 858, 859, 860] : List Nat).filterMap (fun i => lw_tbl[i]?) := by decide +kernel
theorem qv_g11 : qv_w11.all goodWord = true := by decide +kernel
theorem qv_i11 {w : Cond} (h : w ∈ qv_w11) : w ∈ qv_WS := by unfold qv_WS; exact (List.mem_append_right _ (List.mem_append_right _ (List.mem_append_right _ (List.mem_append_right _ (List.mem_append_right _ (List.mem_append_right _ (List.mem_append_right _ (List.mem_append_right _ (List.mem_append_right _ (List.mem_append_right _ (List.mem_append_right _ (List.mem_append_left _ h))))))))))))
set_option maxRecDepth 100000 in
theorem qv_t12 : qv_w12 = ([861, 862, 863, 864, 865, 866, 867, 868, 869, 870, 871, 872, 873, 874, 875, 876, 877, 878, 879, 880, 881, 882, 883, 884, 885, 886, 887, 888, 889, 890, 891, 892, 893, 894, 895, 896, 897, 898, 899, 900, 901, 902, 903, 904, 905, 906, 907, 908, 909, 910, 911, 912, 913, 914, 915, 916, 917, 918, 919, 920, 921, 922, 923, 924] : List Nat).filterMap (fun i => lw_tbl[i]?) := by decide +kernel
theorem qv_g12 : qv_w12.all goodWord = true := by decide +kernel
theorem qv_i12 {w : Cond} (h : w ∈ qv_w12) : w ∈ qv_WS := by unfold qv_WS; exact (List.mem_append_right _ (List.mem_append_right _ (List.mem_append_right _ (List.mem_append_right _ (List.mem_append_right _ (List.mem_append_right _ (List.mem_append_right _ (List.mem_append_right _ (List.mem_append_right _ (List.mem_append_right _ (List.mem_append_right _ (List.mem_append_right _ (List.mem_append_left _ h)))))))))))))
set_option maxRecDepth 100000 in
theorem qv_t13 : qv_w13 = ([925, 926, 927, 928, 929, 930, 931, 932, 933, 934, 935, 936, 937, 938, 939, 940, 941, 943, 945, 947, 949, 951, 953, 955, 957, 959, 961, 963, 965, 967, 969, 971, 973, 975, 977, 979, 981, 983, 985, 987, 989, 991, 993, 995, 997, 999, 1001, 1003, 1005, 1007, 1009, 1011, 1013, 1015, 1017, 1019, 1022, 1023, 1024, 1025, 1026, 1027, 1028, 1029] : List Nat).filterMap (fun i => lw_tbl[i]?) := by decide +kernel
theorem qv_g13 : qv_w13.all goodWord = true := by decide +kernel
theorem qv_i13 {w : Cond} (h : w ∈ qv_w13) : w ∈ qv_WS := by unfold qv_WS; exact (List.mem_append_right _ (List.mem_append_right _ (List.mem_append_right _ (List.mem_append_right _ (List.mem_append_right _ (List.mem_append_right _ (List.mem_append_right _ (List.mem_append_right _ (List.mem_append_right _ (List.mem_append_right _ (List.mem_append_right _ (List.mem_append_right _ (List.mem_append_right _ (List.mem_append_left _ h))))))))))))))
set_option maxRecDepth 100000 in
theorem qv_t14 : qv_w14 = ([1031, 1032, 1033, 1034, 1035, 1036, 1037, 1039, 1040, 1041, 1043, 1044, 1045, 1046, 1047, 1048, 1050, 1051, 1052, 1054, 1055, 1056, 1057, 1058, 1059, 1060, 1061, 1062, 1064, 1065, 1066, 1068, 1069, 1070, 1072, 1073, 1074, 1076, 1077, 1078, 1080, 1081, 1082, 1084, 1085, 1086, 1088, 1089, 1090, 1092, 1093, 1094, 1096, 1097, 1098, 1100, 1101, 1102, 1103, 1104, 1105, 1106, 1107, 1108] : List Nat).filterMap (fun i => lw_tbl[i]?) := by decide +kernel
theorem qv_g14 : qv_w14.all goodWord = true := by decide +kernel
theorem qv_i14 {w : Cond} (h : w ∈ qv_w14) : w ∈ qv_WS := by unfold qv_WS; exact (List.mem_append_right _ (List.mem_append_right _ (List.mem_append_right _ (List.mem_append_right _ (List.mem_append_right _ (List.mem_append_right _ (List.mem_append_right _ (List.mem_append_right _ (List.mem_append_right _ (List.mem_append_right _ (List.mem_append_right _ (List.mem_append_right _ (List.mem_append_right _ (List.mem_append_right _ (List.mem_append_left _ h)))))))))))))))
set_option maxRecDepth 100000 in
theorem qv_t15 : qv_w15 = ([1109, 1110, 1111, 1112, 1113, 1114, 1115, 1116, 1117, 1118, 1120, 1121, 1122, 1123, 1124, 1125, 1126, 1127, 1128, 1129, 1130, 1132, 1133, 1134, 1136, 1137, 1138, 1140, 1141, 1142, 1144, 1145, 1146, 1148, 1149, 1150, 1152, 1153, 1154, 1155, 1156, 1157, 1158, 1160, 1161, 1162, 1164, 1165, 1166, 1168, 1169, 1170, 1172, 1173, 1174, 1175, 1176, 1177, 1178, 1179, 1180, 1181, 1182, 1184] : List Nat).filterMap (fun i => lw_tbl[i]?) := by decide +kernel
theorem qv_g15 : qv_w15.all goodWord = true := by decide +kernel
theorem qv_i15 {w : Cond} (h : w ∈ qv_w15) : w ∈ qv_WS := by unfold qv_WS; exact (List.mem_append_right _ (List.mem_append_right _ (List.mem_append_right _ (List.mem_append_right _ (List.mem_append_right _ (List.mem_append_right _ (List.mem_append_right _ (List.mem_append_right _ (List.mem_append_right _ (List.mem_append_right _ (List.mem_append_right _ (List.mem_append_right _ (List.mem_append_right _ (List.mem_append_right _ (List.mem_append_right _ (List.mem_append_left _ h))))))))))))))))
set_option maxRecDepth 100000 in
theorem qv_t16 : qv_w16 = ([1185, 1186, 1187, 1188, 1189, 1190, 1192, 1193, 1194, 1195, 1196, 1197, 1198, 1199, 1200, 1201, 1202, 1203, 1204, 1205, 1206, 1208, 1209, 1210, 1212, 1213, 1214, 1215, 1216, 1217, 1218, 1219, 1220, 1221, 1223, 1224, 1225, 1226, 1227, 1228, 1229, 1231, 1232, 1233, 1234, 1235, 1236, 1237, 1238, 1239, 1240, 1241, 1242, 1243, 1244, 1245, 1246, 1247, 1248, 1249, 1251, 1252, 1253, 1255] : List Nat).filterMap (fun i => lw_tbl[i]?) := by decide +kernel
theorem qv_g16 : qv_w16.all goodWord = true := by decide +kernel
theorem qv_i16 {w : Cond} (h : w ∈ qv_w16) : w ∈ qv_WS := by unfold qv_WS; exact (List.mem_append_right _ (List.mem_append_right _ (List.mem_append_right _ (List.mem_append_right _ (List.mem_append_right _ (List.mem_append_right _ (List.mem_append_right _ (List.mem_append_right _ (List.mem_append_right _ (List.mem_append_right _ (List.mem_append_right _ (List.mem_append_right _ (List.mem_append_right _ (List.mem_append_right _ (List.mem_append_right _ (List.mem_append_right _ (List.mem_append_left _ h)))))))))))))))))
set_option maxRecDepth 100000 in
theorem qv_t17 : qv_w17 = ([1256, 1257, 1258, 1259, 1260, 1261, 1262, 1263, 1264, 1265, 1267, 1268, 1269, 1271, 1272, 1273, 1275, 1276, 1277, 1279, 1280, 1281, 1282, 1283, 1284, 1286, 1287, 1288, 1290, 1291, 1292, 1294, 1295, 1296, 1298, 1299, 1300, 1301, 1302, 1303, 1304, 1305, 1306, 1307, 1308, 1310, 1311, 1312, 1314, 1315, 1316, 1318, 1319, 1320, 1322, 1323, 1324, 1325, 1326, 1327, 1328, 1329, 1330, 1331] : List Nat).filterMap (fun i => lw_tbl[i]?) := by decide +kernel
theorem qv_g17 : qv_w17.all goodWord = true := by decide +kernel
theorem qv_i17 {w : Cond} (h : w ∈ qv_w17) : w ∈ qv_WS := by unfold qv_WS; exact (List.mem_append_right _ (List.mem_append_right _ (List.mem_append_right _ (List.mem_append_right _ (List.mem_append_right _ (List.mem_append_right _ (List.mem_append_right _ (List.mem_append_right _ (List.mem_append_right _ (List.mem_append_right _ (List.mem_append_right _ (List.mem_append_right _ (List.mem_append_right _ (List.mem_append_right _ (List.mem_append_right _ (List.mem_append_right _ (List.mem_append_right _ (List.mem_append_left _ h))))))))))))))))))
set_option maxRecDepth 100000 in
theorem qv_t18 : qv_w18 = ([1332, 1333, 1334, 1335, 1336, 1337, 1338, 1339, 1340, 1341, 1342, 1343, 1345, 1346, 1347, 1348] : List Nat).filterMap (fun i => lw_tbl[i]?) := by decide +kernel
theorem qv_g18 : qv_w18.all goodWord = true := by decide +kernel
theorem qv_i18 {w : Cond} (h : w ∈ qv_w18) : w ∈ qv_WS := by unfold qv_WS; exact (List.mem_append_right _ (List.mem_append_right _ (List.mem_append_right _ (List.mem_append_right _ (List.mem_append_right _ (List.mem_append_right _ (List.mem_append_right _ (List.mem_append_right _ (List.mem_append_right _ (List.mem_append_right _ (List.mem_append_right _ (List.mem_append_right _ (List.mem_append_right _ (List.mem_append_right _ (List.mem_append_right _ (List.mem_append_right _ (List.mem_append_right _ (List.mem_append_right _ h))))))))))))))))))
theorem qv_fm {ws big : List Cond} {ps : List Nat} (hp : ws = ps.filterMap (fun i => big[i]?)) : ∀ w ∈ ws, w ∈ big := by
  intro w hw
  rw [hp] at hw
  obtain ⟨i, -, hi⟩ := List.mem_filterMap.mp hw
  exact List.mem_of_getElem? hi
theorem qv_WS_tbl : ∀ w ∈ qv_WS, w ∈ lw_tbl := by
  intro w hw
  unfold qv_WS at hw
  rcases List.mem_append.mp hw with hw | hw
  · exact qv_fm qv_t0 w hw
  rcases List.mem_append.mp hw with hw | hw
  · exact qv_fm qv_t1 w hw
  rcases List.mem_append.mp hw with hw | hw
  · exact qv_fm qv_t2 w hw
  rcases List.mem_append.mp hw with hw | hw
  · exact qv_fm qv_t3 w hw
  rcases List.mem_append.mp hw with hw | hw
  · exact qv_fm qv_t4 w hw
  rcases List.mem_append.mp hw with hw | hw
  · exact qv_fm qv_t5 w hw
  rcases List.mem_append.mp hw with hw | hw
  · exact qv_fm qv_t6 w hw
  rcases List.mem_append.mp hw with hw | hw
  · exact qv_fm qv_t7 w hw
  rcases List.mem_append.mp hw with hw | hw
  · exact qv_fm qv_t8 w hw
  rcases List.mem_append.mp hw with hw | hw
  · exact qv_fm qv_t9 w hw
  rcases List.mem_append.mp hw with hw | hw
  · exact qv_fm qv_t10 w hw
  rcases List.mem_append.mp hw with hw | hw
  · exact qv_fm qv_t11 w hw
  rcases List.mem_append.mp hw with hw | hw
  · exact qv_fm qv_t12 w hw
  rcases List.mem_append.mp hw with hw | hw
  · exact qv_fm qv_t13 w hw
  rcases List.mem_append.mp hw with hw | hw
  · exact qv_fm qv_t14 w hw
  rcases List.mem_append.mp hw with hw | hw
  · exact qv_fm qv_t15 w hw
  rcases List.mem_append.mp hw with hw | hw
  · exact qv_fm qv_t16 w hw
  rcases List.mem_append.mp hw with hw | hw
  · exact qv_fm qv_t17 w hw
  exact qv_fm qv_t18 w hw
theorem qv_WS_good : ∀ w ∈ qv_WS, goodWord w = true := by
  intro w hw
  unfold qv_WS at hw
  rcases List.mem_append.mp hw with hw | hw
  · exact List.all_eq_true.mp qv_g0 w hw
  rcases List.mem_append.mp hw with hw | hw
  · exact List.all_eq_true.mp qv_g1 w hw
  rcases List.mem_append.mp hw with hw | hw
  · exact List.all_eq_true.mp qv_g2 w hw
  rcases List.mem_append.mp hw with hw | hw
  · exact List.all_eq_true.mp qv_g3 w hw
  rcases List.mem_append.mp hw with hw | hw
  · exact List.all_eq_true.mp qv_g4 w hw
  rcases List.mem_append.mp hw with hw | hw
  · exact List.all_eq_true.mp qv_g5 w hw
  rcases List.mem_append.mp hw with hw | hw
  · exact List.all_eq_true.mp qv_g6 w hw
  rcases List.mem_append.mp hw with hw | hw
  · exact List.all_eq_true.mp qv_g7 w hw
  rcases List.mem_append.mp hw with hw | hw
  · exact List.all_eq_true.mp qv_g8 w hw
  rcases List.mem_append.mp hw with hw | hw
  · exact List.all_eq_true.mp qv_g9 w hw
  rcases List.mem_append.mp hw with hw | hw
  · exact List.all_eq_true.mp qv_g10 w hw
  rcases List.mem_append.mp hw with hw | hw
  · exact List.all_eq_true.mp qv_g11 w hw
  rcases List.mem_append.mp hw with hw | hw
  · exact List.all_eq_true.mp qv_g12 w hw
  rcases List.mem_append.mp hw with hw | hw
  · exact List.all_eq_true.mp qv_g13 w hw
  rcases List.mem_append.mp hw with hw | hw
  · exact List.all_eq_true.mp qv_g14 w hw
  rcases List.mem_append.mp hw with hw | hw
  · exact List.all_eq_true.mp qv_g15 w hw
  rcases List.mem_append.mp hw with hw | hw
  · exact List.all_eq_true.mp qv_g16 w hw
  rcases List.mem_append.mp hw with hw | hw
  · exact List.all_eq_true.mp qv_g17 w hw
  exact List.all_eq_true.mp qv_g18 w hw
end
section
def RX0 : String := "TrueOneWay$Bits"
def TX0 : u_T := fun k => match k with
  | _ => ("", "", "", false)
def tyX0 : Nat → FieldType := fun k => match k with
  | _ => .int
abbrev wsX00 : List Cond := u_ws RX0 TX0 0
theorem nmX0 : ∀ a, a < 0 → ∀ b, b < 0 → a ≠ b → (TX0 a).2.1 ≠ (TX0 b).2.1 := by decide +kernel
theorem tyX0_ok : ∀ k, k < 0 → parseFieldDescriptor (TX0 k).2.2.1 = some (tyX0 k) := by decide +kernel
abbrev cX0_has : ByteArray := prog_2_method_2_code
def yX0_has : MethodName := ⟨RX0, "has", "(II)Z"⟩
abbrev cX0_allow : ByteArray := prog_2_method_3_code
def yX0_allow : MethodName := ⟨RX0, "allow", "(III)Z"⟩
def RX1 : String := "TrueOneWay$Clashes"
def TX1 : u_T := fun k => match k with
  | _ => ("TrueOneWay$Clashes", "canBe", "[Z", true)
def tyX1 : Nat → FieldType := fun k => match k with
  | _ => .array .boolean
abbrev wsX10 : List Cond := u_ws RX1 TX1 1
theorem nmX1 : ∀ a, a < 1 → ∀ b, b < 1 → a ≠ b → (TX1 a).2.1 ≠ (TX1 b).2.1 := by decide +kernel
theorem tyX1_ok : ∀ k, k < 1 → parseFieldDescriptor (TX1 k).2.2.1 = some (tyX1 k) := by decide +kernel
abbrev cX1_init : ByteArray := prog_3_method_1_code
def yX1_init : MethodName := ⟨RX1, "<init>", "()V"⟩
abbrev cX1_fewestClashing : ByteArray := prog_3_method_2_code
def yX1_fewestClashing : MethodName := ⟨RX1, "fewestClashing", "(LTrueOneWay$Worlds;LTrueOneWay$Finds;)I"⟩
abbrev cX1_markSetsThatCanBe : ByteArray := prog_3_method_3_code
def yX1_markSetsThatCanBe : MethodName := ⟨RX1, "markSetsThatCanBe", "(LTrueOneWay$Worlds;LTrueOneWay$Finds;I)V"⟩
def RX2 : String := "TrueOneWay$Finds"
def TX2 : u_T := fun k => match k with
  | 0 => ("TrueOneWay$Finds", "size", "I", false)
  | 1 => ("TrueOneWay$Finds", "bit", "[I", true)
  | _ => ("TrueOneWay$Finds", "isSo", "[Z", true)
def tyX2 : Nat → FieldType := fun k => match k with
  | 0 => .int
  | 1 => .array .int
  | _ => .array .boolean
abbrev wsX20 : List Cond := u_ws RX2 TX2 3
theorem nmX2 : ∀ a, a < 3 → ∀ b, b < 3 → a ≠ b → (TX2 a).2.1 ≠ (TX2 b).2.1 := by decide +kernel
theorem tyX2_ok : ∀ k, k < 3 → parseFieldDescriptor (TX2 k).2.2.1 = some (tyX2 k) := by decide +kernel
abbrev cX2_init : ByteArray := prog_4_method_1_code
def yX2_init : MethodName := ⟨RX2, "<init>", "()V"⟩
abbrev cX2_become : ByteArray := prog_4_method_2_code
def yX2_become : MethodName := ⟨RX2, "become", "(LTrueOneWay$Finds;)V"⟩
abbrev cX2_add : ByteArray := prog_4_method_3_code
def yX2_add : MethodName := ⟨RX2, "add", "(IZ)V"⟩
abbrev cX2_dropLatest : ByteArray := prog_4_method_4_code
def yX2_dropLatest : MethodName := ⟨RX2, "dropLatest", "()V"⟩
abbrev cX2_bitsFound : ByteArray := prog_4_method_5_code
def yX2_bitsFound : MethodName := ⟨RX2, "bitsFound", "(Z)I"⟩
abbrev cX2_firstBroken : ByteArray := prog_4_method_6_code
def yX2_firstBroken : MethodName := ⟨RX2, "firstBroken", "(I)I"⟩
abbrev cX2_keptIn : ByteArray := prog_4_method_7_code
def yX2_keptIn : MethodName := ⟨RX2, "keptIn", "(I)I"⟩
def RX3 : String := "TrueOneWay$Land"
def TX3 : u_T := fun k => match k with
  | 0 => ("TrueOneWay$Land", "placeCount", "I", false)
  | 1 => ("TrueOneWay$Land", "roadCount", "I", false)
  | 2 => ("TrueOneWay$Land", "factCount", "I", false)
  | 3 => ("TrueOneWay$Land", "signCount", "I", false)
  | 4 => ("TrueOneWay$Land", "roadFirst", "[I", true)
  | 5 => ("TrueOneWay$Land", "roadSecond", "[I", true)
  | 6 => ("TrueOneWay$Land", "kind", "[I", true)
  | 7 => ("TrueOneWay$Land", "standsOn", "[I", true)
  | 8 => ("TrueOneWay$Land", "partA", "[I", true)
  | 9 => ("TrueOneWay$Land", "partB", "[I", true)
  | 10 => ("TrueOneWay$Land", "shownAt", "[I", true)
  | 11 => ("TrueOneWay$Land", "innIfSo", "I", false)
  | 12 => ("TrueOneWay$Land", "innIfNot", "I", false)
  | _ => ("TrueOneWay$Land", "innFact", "I", false)
def tyX3 : Nat → FieldType := fun k => match k with
  | 0 => .int
  | 1 => .int
  | 2 => .int
  | 3 => .int
  | 4 => .array .int
  | 5 => .array .int
  | 6 => .array .int
  | 7 => .array .int
  | 8 => .array .int
  | 9 => .array .int
  | 10 => .array .int
  | 11 => .int
  | 12 => .int
  | _ => .int
abbrev wsX30 : List Cond := u_ws RX3 TX3 14
theorem nmX3 : ∀ a, a < 14 → ∀ b, b < 14 → a ≠ b → (TX3 a).2.1 ≠ (TX3 b).2.1 := by decide +kernel
theorem tyX3_ok : ∀ k, k < 14 → parseFieldDescriptor (TX3 k).2.2.1 = some (tyX3 k) := by decide +kernel
abbrev cX3_init : ByteArray := prog_5_method_1_code
def yX3_init : MethodName := ⟨RX3, "<init>", "()V"⟩
abbrev cX3_become : ByteArray := prog_5_method_2_code
def yX3_become : MethodName := ⟨RX3, "become", "(LTrueOneWay$Land;)V"⟩
abbrev cX3_hasPlace : ByteArray := prog_5_method_3_code
def yX3_hasPlace : MethodName := ⟨RX3, "hasPlace", "(I)Z"⟩
abbrev cX3_hasRoad : ByteArray := prog_5_method_4_code
def yX3_hasRoad : MethodName := ⟨RX3, "hasRoad", "(I)Z"⟩
abbrev cX3_hasFact : ByteArray := prog_5_method_5_code
def yX3_hasFact : MethodName := ⟨RX3, "hasFact", "(I)Z"⟩
abbrev cX3_hasSign : ByteArray := prog_5_method_6_code
def yX3_hasSign : MethodName := ⟨RX3, "hasSign", "(I)Z"⟩
abbrev cX3_hasInn : ByteArray := prog_5_method_7_code
def yX3_hasInn : MethodName := ⟨RX3, "hasInn", "()Z"⟩
abbrev cX3_signMask : ByteArray := prog_5_method_8_code
def yX3_signMask : MethodName := ⟨RX3, "signMask", "()I"⟩
abbrev cX3_worldMask : ByteArray := prog_5_method_9_code
def yX3_worldMask : MethodName := ⟨RX3, "worldMask", "()I"⟩
abbrev cX3_innIn : ByteArray := prog_5_method_10_code
def yX3_innIn : MethodName := ⟨RX3, "innIn", "(I)I"⟩
abbrev cX3_isRoadBetween : ByteArray := prog_5_method_11_code
def yX3_isRoadBetween : MethodName := ⟨RX3, "isRoadBetween", "(II)Z"⟩
abbrev cX3_signsOn : ByteArray := prog_5_method_12_code
def yX3_signsOn : MethodName := ⟨RX3, "signsOn", "(I)I"⟩
abbrev cX3_take : ByteArray := prog_5_method_13_code
def yX3_take : MethodName := ⟨RX3, "take", "(LTrueOneWay$Text;I)Z"⟩
abbrev cX3_takePlaces : ByteArray := prog_5_method_14_code
def yX3_takePlaces : MethodName := ⟨RX3, "takePlaces", "(I)Z"⟩
abbrev cX3_placesToldOf : ByteArray := prog_5_method_15_code
def yX3_placesToldOf : MethodName := ⟨RX3, "placesToldOf", "()I"⟩
abbrev cX3_takeRoad : ByteArray := prog_5_method_16_code
def yX3_takeRoad : MethodName := ⟨RX3, "takeRoad", "(II)Z"⟩
abbrev cX3_takeFact : ByteArray := prog_5_method_17_code
def yX3_takeFact : MethodName := ⟨RX3, "takeFact", "()Z"⟩
abbrev cX3_takeSign : ByteArray := prog_5_method_18_code
def yX3_takeSign : MethodName := ⟨RX3, "takeSign", "(IIII)Z"⟩
abbrev cX3_canSpeakOf : ByteArray := prog_5_method_19_code
def yX3_canSpeakOf : MethodName := ⟨RX3, "canSpeakOf", "(III)Z"⟩
abbrev cX3_takeShown : ByteArray := prog_5_method_20_code
def yX3_takeShown : MethodName := ⟨RX3, "takeShown", "(II)Z"⟩
abbrev cX3_takeInn : ByteArray := prog_5_method_21_code
def yX3_takeInn : MethodName := ⟨RX3, "takeInn", "(III)Z"⟩
abbrev cX3_isSaidSo : ByteArray := prog_5_method_22_code
def yX3_isSaidSo : MethodName := ⟨RX3, "isSaidSo", "(II)Z"⟩
abbrev cX3_isMisfit : ByteArray := prog_5_method_23_code
def yX3_isMisfit : MethodName := ⟨RX3, "isMisfit", "(II)Z"⟩
abbrev cX3_misfitsIn : ByteArray := prog_5_method_24_code
def yX3_misfitsIn : MethodName := ⟨RX3, "misfitsIn", "(I)I"⟩
abbrev cX3_firstMisfit : ByteArray := prog_5_method_25_code
def yX3_firstMisfit : MethodName := ⟨RX3, "firstMisfit", "(I)I"⟩
abbrev cX3_comesBack : ByteArray := prog_5_method_26_code
def yX3_comesBack : MethodName := ⟨RX3, "comesBack", "(I)Z"⟩
def RX4 : String := "TrueOneWay$Reading"
def TX4 : u_T := fun k => match k with
  | 0 => ("TrueOneWay$Reading", "size", "I", false)
  | 1 => ("TrueOneWay$Reading", "signs", "[I", true)
  | _ => ("TrueOneWay$Reading", "walks", "[I", true)
def tyX4 : Nat → FieldType := fun k => match k with
  | 0 => .int
  | 1 => .array .int
  | _ => .array .int
abbrev wsX40 : List Cond := u_ws RX4 TX4 3
theorem nmX4 : ∀ a, a < 3 → ∀ b, b < 3 → a ≠ b → (TX4 a).2.1 ≠ (TX4 b).2.1 := by decide +kernel
theorem tyX4_ok : ∀ k, k < 3 → parseFieldDescriptor (TX4 k).2.2.1 = some (tyX4 k) := by decide +kernel
abbrev cX4_init : ByteArray := prog_6_method_1_code
def yX4_init : MethodName := ⟨RX4, "<init>", "()V"⟩
abbrev cX4_add : ByteArray := prog_6_method_2_code
def yX4_add : MethodName := ⟨RX4, "add", "(I)V"⟩
abbrev cX4_clear : ByteArray := prog_6_method_3_code
def yX4_clear : MethodName := ⟨RX4, "clear", "()V"⟩
abbrev cX4_trace : ByteArray := prog_6_method_4_code
def yX4_trace : MethodName := ⟨RX4, "trace", "(LTrueOneWay$Land;)V"⟩
abbrev cX4_walkCount : ByteArray := prog_6_method_5_code
def yX4_walkCount : MethodName := ⟨RX4, "walkCount", "()I"⟩
abbrev cX4_endPlaces : ByteArray := prog_6_method_6_code
def yX4_endPlaces : MethodName := ⟨RX4, "endPlaces", "()I"⟩
abbrev cX4_walk : ByteArray := prog_6_method_7_code
def yX4_walk : MethodName := ⟨RX4, "walk", "(LTrueOneWay$Land;IZI)V"⟩
abbrev cX4_isReadNext : ByteArray := prog_6_method_8_code
def yX4_isReadNext : MethodName := ⟨RX4, "isReadNext", "(LTrueOneWay$Land;IZI)Z"⟩
def RX5 : String := "TrueOneWay$Text"
def TX5 : u_T := fun k => match k with
  | 0 => ("TrueOneWay$Text", "size", "I", false)
  | _ => ("TrueOneWay$Text", "letters", "[I", true)
def tyX5 : Nat → FieldType := fun k => match k with
  | 0 => .int
  | _ => .array .int
abbrev wsX50 : List Cond := u_ws RX5 TX5 2
theorem nmX5 : ∀ a, a < 2 → ∀ b, b < 2 → a ≠ b → (TX5 a).2.1 ≠ (TX5 b).2.1 := by decide +kernel
theorem tyX5_ok : ∀ k, k < 2 → parseFieldDescriptor (TX5 k).2.2.1 = some (tyX5 k) := by decide +kernel
abbrev cX5_init : ByteArray := prog_7_method_1_code
def yX5_init : MethodName := ⟨RX5, "<init>", "()V"⟩
abbrev cX5_add : ByteArray := prog_7_method_2_code
def yX5_add : MethodName := ⟨RX5, "add", "(I)V"⟩
abbrev cX5_clear : ByteArray := prog_7_method_3_code
def yX5_clear : MethodName := ⟨RX5, "clear", "()V"⟩
abbrev cX5_at : ByteArray := prog_7_method_4_code
def yX5_at : MethodName := ⟨RX5, "at", "(I)I"⟩
abbrev cX5_digitAt : ByteArray := prog_7_method_5_code
def yX5_digitAt : MethodName := ⟨RX5, "digitAt", "(I)I"⟩
abbrev cX5_kindAt : ByteArray := prog_7_method_6_code
def yX5_kindAt : MethodName := ⟨RX5, "kindAt", "(I)I"⟩
abbrev cX5_lengthAt : ByteArray := prog_7_method_7_code
def yX5_lengthAt : MethodName := ⟨RX5, "lengthAt", "(I)I"⟩
abbrev cX5_firstOdd : ByteArray := prog_7_method_8_code
def yX5_firstOdd : MethodName := ⟨RX5, "firstOdd", "()I"⟩
abbrev cX5_formOf : ByteArray := prog_7_method_9_code
def yX5_formOf : MethodName := ⟨RX5, "formOf", "(I)Ljava/lang/String;"⟩
abbrev cX5_suits : ByteArray := prog_7_method_10_code
def yX5_suits : MethodName := ⟨RX5, "suits", "(CI)Z"⟩
abbrev cX5_isDigit : ByteArray := prog_7_method_11_code
def yX5_isDigit : MethodName := ⟨RX5, "isDigit", "(I)Z"⟩
def RX6 : String := "TrueOneWay$Wayfarer"
def TX6 : u_T := fun k => match k with
  | 0 => ("TrueOneWay$Wayfarer", "least", "[I", true)
  | _ => ("TrueOneWay$Wayfarer", "canBe", "[Z", true)
def tyX6 : Nat → FieldType := fun k => match k with
  | 0 => .array .int
  | _ => .array .boolean
abbrev wsX60 : List Cond := u_ws RX6 TX6 2
theorem nmX6 : ∀ a, a < 2 → ∀ b, b < 2 → a ≠ b → (TX6 a).2.1 ≠ (TX6 b).2.1 := by decide +kernel
theorem tyX6_ok : ∀ k, k < 2 → parseFieldDescriptor (TX6 k).2.2.1 = some (tyX6 k) := by decide +kernel
abbrev cX6_init : ByteArray := prog_8_method_1_code
def yX6_init : MethodName := ⟨RX6, "<init>", "()V"⟩
abbrev cX6_reckon : ByteArray := prog_8_method_2_code
def yX6_reckon : MethodName := ⟨RX6, "reckon", "(LTrueOneWay$Land;LTrueOneWay$Worlds;)V"⟩
abbrev cX6_leastRoads : ByteArray := prog_8_method_3_code
def yX6_leastRoads : MethodName := ⟨RX6, "leastRoads", "(I)I"⟩
abbrev cX6_firstGoal : ByteArray := prog_8_method_4_code
def yX6_firstGoal : MethodName := ⟨RX6, "firstGoal", "(LTrueOneWay$Land;II)I"⟩
abbrev cX6_indexOf : ByteArray := prog_8_method_5_code
def yX6_indexOf : MethodName := ⟨RX6, "indexOf", "(III)I"⟩
abbrev cX6_reckonAt : ByteArray := prog_8_method_6_code
def yX6_reckonAt : MethodName := ⟨RX6, "reckonAt", "(LTrueOneWay$Land;II)V"⟩
abbrev cX6_showsMore : ByteArray := prog_8_method_7_code
def yX6_showsMore : MethodName := ⟨RX6, "showsMore", "(LTrueOneWay$Land;II)Z"⟩
abbrev cX6_worstOf : ByteArray := prog_8_method_8_code
def yX6_worstOf : MethodName := ⟨RX6, "worstOf", "(LTrueOneWay$Land;III)I"⟩
abbrev cX6_isInnSurelyAt : ByteArray := prog_8_method_9_code
def yX6_isInnSurelyAt : MethodName := ⟨RX6, "isInnSurelyAt", "(LTrueOneWay$Land;III)Z"⟩
abbrev cX6_shorten : ByteArray := prog_8_method_10_code
def yX6_shorten : MethodName := ⟨RX6, "shorten", "(LTrueOneWay$Land;IIII)V"⟩
def RX7 : String := "TrueOneWay$Worlds"
def TX7 : u_T := fun k => match k with
  | 0 => ("TrueOneWay$Worlds", "mask", "I", false)
  | 1 => ("TrueOneWay$Worlds", "fittingCount", "I", false)
  | 2 => ("TrueOneWay$Worlds", "goodCount", "I", false)
  | 3 => ("TrueOneWay$Worlds", "goodOnes", "[I", true)
  | 4 => ("TrueOneWay$Worlds", "foundSo", "I", false)
  | 5 => ("TrueOneWay$Worlds", "foundNot", "I", false)
  | _ => ("TrueOneWay$Worlds", "misfits", "[I", true)
def tyX7 : Nat → FieldType := fun k => match k with
  | 0 => .int
  | 1 => .int
  | 2 => .int
  | 3 => .array .int
  | 4 => .int
  | 5 => .int
  | _ => .array .int
abbrev wsX70 : List Cond := u_ws RX7 TX7 7
theorem nmX7 : ∀ a, a < 7 → ∀ b, b < 7 → a ≠ b → (TX7 a).2.1 ≠ (TX7 b).2.1 := by decide +kernel
theorem tyX7_ok : ∀ k, k < 7 → parseFieldDescriptor (TX7 k).2.2.1 = some (tyX7 k) := by decide +kernel
abbrev cX7_init : ByteArray := prog_9_method_1_code
def yX7_init : MethodName := ⟨RX7, "<init>", "()V"⟩
abbrev cX7_reckon : ByteArray := prog_9_method_2_code
def yX7_reckon : MethodName := ⟨RX7, "reckon", "(LTrueOneWay$Land;)V"⟩
abbrev cX7_sift : ByteArray := prog_9_method_3_code
def yX7_sift : MethodName := ⟨RX7, "sift", "(LTrueOneWay$Finds;)V"⟩
abbrev cX7_has : ByteArray := prog_9_method_4_code
def yX7_has : MethodName := ⟨RX7, "has", "(I)Z"⟩
abbrev cX7_isFitting : ByteArray := prog_9_method_5_code
def yX7_isFitting : MethodName := ⟨RX7, "isFitting", "(I)Z"⟩
abbrev cX7_isGood : ByteArray := prog_9_method_6_code
def yX7_isGood : MethodName := ⟨RX7, "isGood", "(I)Z"⟩
abbrev cX7_isAsFound : ByteArray := prog_9_method_7_code
def yX7_isAsFound : MethodName := ⟨RX7, "isAsFound", "(I)Z"⟩
abbrev cX7_alwaysSo : ByteArray := prog_9_method_8_code
def yX7_alwaysSo : MethodName := ⟨RX7, "alwaysSo", "(II)I"⟩
abbrev cX7_everSo : ByteArray := prog_9_method_9_code
def yX7_everSo : MethodName := ⟨RX7, "everSo", "(II)I"⟩
abbrev cX7_openFacts : ByteArray := prog_9_method_10_code
def yX7_openFacts : MethodName := ⟨RX7, "openFacts", "(II)I"⟩
abbrev cX7_goodWith : ByteArray := prog_9_method_11_code
def yX7_goodWith : MethodName := ⟨RX7, "goodWith", "(I)I"⟩
abbrev cX7_sureWithJokers : ByteArray := prog_9_method_12_code
def yX7_sureWithJokers : MethodName := ⟨RX7, "sureWithJokers", "(I)I"⟩
abbrev cX7_leastMisfits : ByteArray := prog_9_method_13_code
def yX7_leastMisfits : MethodName := ⟨RX7, "leastMisfits", "(IZ)I"⟩
abbrev cX7_isAlikeBy : ByteArray := prog_9_method_14_code
def yX7_isAlikeBy : MethodName := ⟨RX7, "isAlikeBy", "(II)Z"⟩
abbrev cX7_fewestTelling : ByteArray := prog_9_method_15_code
def yX7_fewestTelling : MethodName := ⟨RX7, "fewestTelling", "(II)I"⟩
def RX8 : String := "TrueOneWay"
def TX8 : u_T := fun k => match k with
  | 0 => ("TrueOneWay", "text", "LTrueOneWay$Text;", true)
  | 1 => ("TrueOneWay", "told", "LTrueOneWay$Land;", true)
  | 2 => ("TrueOneWay", "draft", "LTrueOneWay$Land;", true)
  | 3 => ("TrueOneWay", "keptLand", "LTrueOneWay$Land;", true)
  | 4 => ("TrueOneWay", "found", "LTrueOneWay$Finds;", true)
  | 5 => ("TrueOneWay", "keptFound", "LTrueOneWay$Finds;", true)
  | 6 => ("TrueOneWay", "all", "LTrueOneWay$Worlds;", true)
  | 7 => ("TrueOneWay", "clashes", "LTrueOneWay$Clashes;", true)
  | 8 => ("TrueOneWay", "wayfarer", "LTrueOneWay$Wayfarer;", true)
  | 9 => ("TrueOneWay", "reading", "LTrueOneWay$Reading;", true)
  | 10 => ("TrueOneWay", "refusals", "[I", true)
  | _ => ("TrueOneWay", "imageTaken", "Z", false)
def tyX8 : Nat → FieldType := fun k => match k with
  | 0 => .object "TrueOneWay$Text"
  | 1 => .object "TrueOneWay$Land"
  | 2 => .object "TrueOneWay$Land"
  | 3 => .object "TrueOneWay$Land"
  | 4 => .object "TrueOneWay$Finds"
  | 5 => .object "TrueOneWay$Finds"
  | 6 => .object "TrueOneWay$Worlds"
  | 7 => .object "TrueOneWay$Clashes"
  | 8 => .object "TrueOneWay$Wayfarer"
  | 9 => .object "TrueOneWay$Reading"
  | 10 => .array .int
  | _ => .boolean
abbrev wsX80 : List Cond := u_ws RX8 TX8 12
theorem nmX8 : ∀ a, a < 12 → ∀ b, b < 12 → a ≠ b → (TX8 a).2.1 ≠ (TX8 b).2.1 := by decide +kernel
theorem tyX8_ok : ∀ k, k < 12 → parseFieldDescriptor (TX8 k).2.2.1 = some (tyX8 k) := by decide +kernel
abbrev cX8_init : ByteArray := prog_1_method_1_code
def yX8_init : MethodName := ⟨RX8, "<init>", "()V"⟩
abbrev cX8_letter : ByteArray := prog_1_method_2_code
def yX8_letter : MethodName := ⟨RX8, "letter", "(I)I"⟩
abbrev cX8_land : ByteArray := prog_1_method_3_code
def yX8_land : MethodName := ⟨RX8, "land", "()I"⟩
abbrev cX8_road : ByteArray := prog_1_method_4_code
def yX8_road : MethodName := ⟨RX8, "road", "(II)I"⟩
abbrev cX8_sign : ByteArray := prog_1_method_5_code
def yX8_sign : MethodName := ⟨RX8, "sign", "(II)I"⟩
abbrev cX8_shown : ByteArray := prog_1_method_6_code
def yX8_shown : MethodName := ⟨RX8, "shown", "(I)I"⟩
abbrev cX8_fits : ByteArray := prog_1_method_7_code
def yX8_fits : MethodName := ⟨RX8, "fits", "(I)I"⟩
abbrev cX8_good : ByteArray := prog_1_method_8_code
def yX8_good : MethodName := ⟨RX8, "good", "(I)I"⟩
abbrev cX8_says : ByteArray := prog_1_method_9_code
def yX8_says : MethodName := ⟨RX8, "says", "(II)I"⟩
abbrev cX8_worlds : ByteArray := prog_1_method_10_code
def yX8_worlds : MethodName := ⟨RX8, "worlds", "(I)I"⟩
abbrev cX8_fact : ByteArray := prog_1_method_11_code
def yX8_fact : MethodName := ⟨RX8, "fact", "(II)I"⟩
abbrev cX8_way : ByteArray := prog_1_method_12_code
def yX8_way : MethodName := ⟨RX8, "way", "(II)I"⟩
abbrev cX8_forget : ByteArray := prog_1_method_13_code
def yX8_forget : MethodName := ⟨RX8, "forget", "()I"⟩
abbrev cX8_sure : ByteArray := prog_1_method_14_code
def yX8_sure : MethodName := ⟨RX8, "sure", "(I)I"⟩
abbrev cX8_proof : ByteArray := prog_1_method_15_code
def yX8_proof : MethodName := ⟨RX8, "proof", "()I"⟩
abbrev cX8_tells : ByteArray := prog_1_method_16_code
def yX8_tells : MethodName := ⟨RX8, "tells", "(II)I"⟩
abbrev cX8_rings : ByteArray := prog_1_method_17_code
def yX8_rings : MethodName := ⟨RX8, "rings", "()I"⟩
abbrev cX8_joking : ByteArray := prog_1_method_18_code
def yX8_joking : MethodName := ⟨RX8, "joking", "(I)I"⟩
abbrev cX8_bears : ByteArray := prog_1_method_19_code
def yX8_bears : MethodName := ⟨RX8, "bears", "(I)I"⟩
abbrev cX8_fewest : ByteArray := prog_1_method_20_code
def yX8_fewest : MethodName := ⟨RX8, "fewest", "(II)I"⟩
abbrev cX8_together : ByteArray := prog_1_method_21_code
def yX8_together : MethodName := ⟨RX8, "together", "(I)I"⟩
abbrev cX8_go : ByteArray := prog_1_method_22_code
def yX8_go : MethodName := ⟨RX8, "go", "(II)I"⟩
abbrev cX8_row : ByteArray := prog_1_method_23_code
def yX8_row : MethodName := ⟨RX8, "row", "(I)I"⟩
abbrev cX8_book : ByteArray := prog_1_method_24_code
def yX8_book : MethodName := ⟨RX8, "book", "(I)I"⟩
abbrev cX8_next : ByteArray := prog_1_method_25_code
def yX8_next : MethodName := ⟨RX8, "next", "()I"⟩
abbrev cX8_lands : ByteArray := prog_1_method_26_code
def yX8_lands : MethodName := ⟨RX8, "lands", "(III)I"⟩
abbrev cX8_judge : ByteArray := prog_1_method_27_code
def yX8_judge : MethodName := ⟨RX8, "judge", "(I)I"⟩
abbrev cX8_image : ByteArray := prog_1_method_28_code
def yX8_image : MethodName := ⟨RX8, "image", "()I"⟩
abbrev cX8_on : ByteArray := prog_1_method_29_code
def yX8_on : MethodName := ⟨RX8, "on", "()I"⟩
abbrev cX8_count : ByteArray := prog_1_method_30_code
def yX8_count : MethodName := ⟨RX8, "count", "(I)I"⟩
abbrev cX8_refuse : ByteArray := prog_1_method_31_code
def yX8_refuse : MethodName := ⟨RX8, "refuse", "(I)I"⟩
abbrev cX8_readText : ByteArray := prog_1_method_32_code
def yX8_readText : MethodName := ⟨RX8, "readText", "()I"⟩
abbrev cX8_find : ByteArray := prog_1_method_33_code
def yX8_find : MethodName := ⟨RX8, "find", "(II)I"⟩
abbrev cX8_leastGreaterPart : ByteArray := prog_1_method_34_code
def yX8_leastGreaterPart : MethodName := ⟨RX8, "leastGreaterPart", "(I)I"⟩
def RX9 : String := "TrueOneWayModel"
def TX9 : u_T := fun k => match k with
  | 0 => ("TrueOneWayModel", "refused", "[I", true)
  | 1 => ("TrueOneWayModel", "roadA", "[I", true)
  | 2 => ("TrueOneWayModel", "roadB", "[I", true)
  | 3 => ("TrueOneWayModel", "kind", "[I", true)
  | 4 => ("TrueOneWayModel", "signRoad", "[I", true)
  | 5 => ("TrueOneWayModel", "signA", "[I", true)
  | 6 => ("TrueOneWayModel", "signB", "[I", true)
  | 7 => ("TrueOneWayModel", "shownAt", "[I", true)
  | 8 => ("TrueOneWayModel", "places", "I", false)
  | 9 => ("TrueOneWayModel", "roads", "I", false)
  | 10 => ("TrueOneWayModel", "facts", "I", false)
  | 11 => ("TrueOneWayModel", "signs", "I", false)
  | 12 => ("TrueOneWayModel", "innA", "I", false)
  | 13 => ("TrueOneWayModel", "innB", "I", false)
  | 14 => ("TrueOneWayModel", "innFact", "I", false)
  | 15 => ("TrueOneWayModel", "found", "[I", true)
  | 16 => ("TrueOneWayModel", "foundIs", "[I", true)
  | 17 => ("TrueOneWayModel", "foundMany", "I", false)
  | 18 => ("TrueOneWayModel", "tape", "[I", true)
  | 19 => ("TrueOneWayModel", "letter", "[I", true)
  | 20 => ("TrueOneWayModel", "letterAt", "[I", true)
  | 21 => ("TrueOneWayModel", "one", "[I", true)
  | 22 => ("TrueOneWayModel", "two", "[I", true)
  | 23 => ("TrueOneWayModel", "three", "[I", true)
  | 24 => ("TrueOneWayModel", "four", "[I", true)
  | 25 => ("TrueOneWayModel", "taped", "I", false)
  | 26 => ("TrueOneWayModel", "at", "I", false)
  | 27 => ("TrueOneWayModel", "statements", "I", false)
  | 28 => ("TrueOneWayModel", "kept", "[I", true)
  | 29 => ("TrueOneWayModel", "hasImage", "Z", false)
  | 30 => ("TrueOneWayModel", "isKeeping", "Z", false)
  | 31 => ("TrueOneWayModel", "cursor", "I", false)
  | 32 => ("TrueOneWayModel", "goods", "[I", true)
  | 33 => ("TrueOneWayModel", "goodMany", "I", false)
  | 34 => ("TrueOneWayModel", "factSet", "[I", true)
  | 35 => ("TrueOneWayModel", "worth", "[I", true)
  | 36 => ("TrueOneWayModel", "nextWorth", "[I", true)
  | 37 => ("TrueOneWayModel", "row", "[I", true)
  | 38 => ("TrueOneWayModel", "walks", "[I", true)
  | _ => ("TrueOneWayModel", "rowMany", "I", false)
def tyX9 : Nat → FieldType := fun k => match k with
  | 0 => .array .int
  | 1 => .array .int
  | 2 => .array .int
  | 3 => .array .int
  | 4 => .array .int
  | 5 => .array .int
  | 6 => .array .int
  | 7 => .array .int
  | 8 => .int
  | 9 => .int
  | 10 => .int
  | 11 => .int
  | 12 => .int
  | 13 => .int
  | 14 => .int
  | 15 => .array .int
  | 16 => .array .int
  | 17 => .int
  | 18 => .array .int
  | 19 => .array .int
  | 20 => .array .int
  | 21 => .array .int
  | 22 => .array .int
  | 23 => .array .int
  | 24 => .array .int
  | 25 => .int
  | 26 => .int
  | 27 => .int
  | 28 => .array .int
  | 29 => .boolean
  | 30 => .boolean
  | 31 => .int
  | 32 => .array .int
  | 33 => .int
  | 34 => .array .int
  | 35 => .array .int
  | 36 => .array .int
  | 37 => .array .int
  | 38 => .array .int
  | _ => .int
abbrev wsX90 : List Cond := u_ws RX9 TX9 40
theorem nmX9 : ∀ a, a < 40 → ∀ b, b < 40 → a ≠ b → (TX9 a).2.1 ≠ (TX9 b).2.1 := by decide +kernel
theorem tyX9_ok : ∀ k, k < 40 → parseFieldDescriptor (TX9 k).2.2.1 = some (tyX9 k) := by decide +kernel
abbrev cX9_init : ByteArray := prog_11_method_1_code
def yX9_init : MethodName := ⟨RX9, "<init>", "()V"⟩
abbrev cX9_no : ByteArray := prog_11_method_2_code
def yX9_no : MethodName := ⟨RX9, "no", "(I)I"⟩
abbrev cX9_isIn : ByteArray := prog_11_method_3_code
def yX9_isIn : MethodName := ⟨RX9, "isIn", "(III)Z"⟩
abbrev cX9_bound : ByteArray := prog_11_method_4_code
def yX9_bound : MethodName := ⟨RX9, "bound", "(III)I"⟩
abbrev cX9_isPlace : ByteArray := prog_11_method_5_code
def yX9_isPlace : MethodName := ⟨RX9, "isPlace", "(I)Z"⟩
abbrev cX9_isFact : ByteArray := prog_11_method_6_code
def yX9_isFact : MethodName := ⟨RX9, "isFact", "(I)Z"⟩
abbrev cX9_isSign : ByteArray := prog_11_method_7_code
def yX9_isSign : MethodName := ⟨RX9, "isSign", "(I)Z"⟩
abbrev cX9_letter : ByteArray := prog_11_method_8_code
def yX9_letter : MethodName := ⟨RX9, "letter", "(I)I"⟩
abbrev cX9_nextLetter : ByteArray := prog_11_method_9_code
def yX9_nextLetter : MethodName := ⟨RX9, "nextLetter", "()I"⟩
abbrev cX9_digit : ByteArray := prog_11_method_10_code
def yX9_digit : MethodName := ⟨RX9, "digit", "()I"⟩
abbrev cX9_kindOf : ByteArray := prog_11_method_11_code
def yX9_kindOf : MethodName := ⟨RX9, "kindOf", "(I)I"⟩
abbrev cX9_readsSign : ByteArray := prog_11_method_12_code
def yX9_readsSign : MethodName := ⟨RX9, "readsSign", "(I)Z"⟩
abbrev cX9_readsDigits : ByteArray := prog_11_method_13_code
def yX9_readsDigits : MethodName := ⟨RX9, "readsDigits", "(II)Z"⟩
abbrev cX9_digitsOf : ByteArray := prog_11_method_14_code
def yX9_digitsOf : MethodName := ⟨RX9, "digitsOf", "(I)I"⟩
abbrev cX9_statement : ByteArray := prog_11_method_15_code
def yX9_statement : MethodName := ⟨RX9, "statement", "()Z"⟩
abbrev cX9_toldPlaces : ByteArray := prog_11_method_16_code
def yX9_toldPlaces : MethodName := ⟨RX9, "toldPlaces", "()I"⟩
abbrev cX9_maySay : ByteArray := prog_11_method_17_code
def yX9_maySay : MethodName := ⟨RX9, "maySay", "(III)Z"⟩
abbrev cX9_comesSign : ByteArray := prog_11_method_18_code
def yX9_comesSign : MethodName := ⟨RX9, "comesSign", "(I)Z"⟩
abbrev cX9_comes : ByteArray := prog_11_method_19_code
def yX9_comes : MethodName := ⟨RX9, "comes", "(I)Z"⟩
abbrev cX9_land : ByteArray := prog_11_method_20_code
def yX9_land : MethodName := ⟨RX9, "land", "()I"⟩
abbrev cX9_passes : ByteArray := prog_11_method_21_code
def yX9_passes : MethodName := ⟨RX9, "passes", "([I)V"⟩
abbrev cX9_passOne : ByteArray := prog_11_method_22_code
def yX9_passOne : MethodName := ⟨RX9, "passOne", "(I)I"⟩
abbrev cX9_passesAll : ByteArray := prog_11_method_23_code
def yX9_passesAll : MethodName := ⟨RX9, "passesAll", "(IZ)V"⟩
abbrev cX9_image : ByteArray := prog_11_method_24_code
def yX9_image : MethodName := ⟨RX9, "image", "()I"⟩
abbrev cX9_on : ByteArray := prog_11_method_25_code
def yX9_on : MethodName := ⟨RX9, "on", "()I"⟩
abbrev cX9_allFacts : ByteArray := prog_11_method_26_code
def yX9_allFacts : MethodName := ⟨RX9, "allFacts", "()I"⟩
abbrev cX9_allSigns : ByteArray := prog_11_method_27_code
def yX9_allSigns : MethodName := ⟨RX9, "allSigns", "()I"⟩
abbrev cX9_isWorld : ByteArray := prog_11_method_28_code
def yX9_isWorld : MethodName := ⟨RX9, "isWorld", "(I)Z"⟩
abbrev cX9_saysIn : ByteArray := prog_11_method_29_code
def yX9_saysIn : MethodName := ⟨RX9, "saysIn", "(II)I"⟩
abbrev cX9_isRight : ByteArray := prog_11_method_30_code
def yX9_isRight : MethodName := ⟨RX9, "isRight", "(II)Z"⟩
abbrev cX9_wrongs : ByteArray := prog_11_method_31_code
def yX9_wrongs : MethodName := ⟨RX9, "wrongs", "(I)I"⟩
abbrev cX9_isFoundSo : ByteArray := prog_11_method_32_code
def yX9_isFoundSo : MethodName := ⟨RX9, "isFoundSo", "(II)Z"⟩
abbrev cX9_areFoundSo : ByteArray := prog_11_method_33_code
def yX9_areFoundSo : MethodName := ⟨RX9, "areFoundSo", "(II)Z"⟩
abbrev cX9_allFound : ByteArray := prog_11_method_34_code
def yX9_allFound : MethodName := ⟨RX9, "allFound", "()I"⟩
abbrev cX9_isGood : ByteArray := prog_11_method_35_code
def yX9_isGood : MethodName := ⟨RX9, "isGood", "(I)Z"⟩
abbrev cX9_findWorlds : ByteArray := prog_11_method_36_code
def yX9_findWorlds : MethodName := ⟨RX9, "findWorlds", "(I)V"⟩
abbrev cX9_inAll : ByteArray := prog_11_method_37_code
def yX9_inAll : MethodName := ⟨RX9, "inAll", "()I"⟩
abbrev cX9_inNone : ByteArray := prog_11_method_38_code
def yX9_inNone : MethodName := ⟨RX9, "inNone", "()I"⟩
abbrev cX9_road : ByteArray := prog_11_method_39_code
def yX9_road : MethodName := ⟨RX9, "road", "(II)I"⟩
abbrev cX9_sign : ByteArray := prog_11_method_40_code
def yX9_sign : MethodName := ⟨RX9, "sign", "(II)I"⟩
abbrev cX9_shown : ByteArray := prog_11_method_41_code
def yX9_shown : MethodName := ⟨RX9, "shown", "(I)I"⟩
abbrev cX9_fits : ByteArray := prog_11_method_42_code
def yX9_fits : MethodName := ⟨RX9, "fits", "(I)I"⟩
abbrev cX9_good : ByteArray := prog_11_method_43_code
def yX9_good : MethodName := ⟨RX9, "good", "(I)I"⟩
abbrev cX9_says : ByteArray := prog_11_method_44_code
def yX9_says : MethodName := ⟨RX9, "says", "(II)I"⟩
abbrev cX9_worlds : ByteArray := prog_11_method_45_code
def yX9_worlds : MethodName := ⟨RX9, "worlds", "(I)I"⟩
abbrev cX9_finds : ByteArray := prog_11_method_46_code
def yX9_finds : MethodName := ⟨RX9, "finds", "(II)I"⟩
abbrev cX9_fact : ByteArray := prog_11_method_47_code
def yX9_fact : MethodName := ⟨RX9, "fact", "(II)I"⟩
abbrev cX9_way : ByteArray := prog_11_method_48_code
def yX9_way : MethodName := ⟨RX9, "way", "(II)I"⟩
abbrev cX9_forget : ByteArray := prog_11_method_49_code
def yX9_forget : MethodName := ⟨RX9, "forget", "()I"⟩
abbrev cX9_openFacts : ByteArray := prog_11_method_50_code
def yX9_openFacts : MethodName := ⟨RX9, "openFacts", "()I"⟩
abbrev cX9_sure : ByteArray := prog_11_method_51_code
def yX9_sure : MethodName := ⟨RX9, "sure", "(I)I"⟩
abbrev cX9_bits : ByteArray := prog_11_method_52_code
def yX9_bits : MethodName := ⟨RX9, "bits", "(I)I"⟩
abbrev cX9_canBe : ByteArray := prog_11_method_53_code
def yX9_canBe : MethodName := ⟨RX9, "canBe", "(I)Z"⟩
abbrev cX9_proof : ByteArray := prog_11_method_54_code
def yX9_proof : MethodName := ⟨RX9, "proof", "()I"⟩
abbrev cX9_tells : ByteArray := prog_11_method_55_code
def yX9_tells : MethodName := ⟨RX9, "tells", "(II)I"⟩
abbrev cX9_rings : ByteArray := prog_11_method_56_code
def yX9_rings : MethodName := ⟨RX9, "rings", "()I"⟩
abbrev cX9_joking : ByteArray := prog_11_method_57_code
def yX9_joking : MethodName := ⟨RX9, "joking", "(I)I"⟩
abbrev cX9_bears : ByteArray := prog_11_method_58_code
def yX9_bears : MethodName := ⟨RX9, "bears", "(I)I"⟩
abbrev cX9_alikeBy : ByteArray := prog_11_method_59_code
def yX9_alikeBy : MethodName := ⟨RX9, "alikeBy", "(I)I"⟩
abbrev cX9_fewestFor : ByteArray := prog_11_method_60_code
def yX9_fewestFor : MethodName := ⟨RX9, "fewestFor", "(I)I"⟩
abbrev cX9_fewest : ByteArray := prog_11_method_61_code
def yX9_fewest : MethodName := ⟨RX9, "fewest", "(II)I"⟩
abbrev cX9_together : ByteArray := prog_11_method_62_code
def yX9_together : MethodName := ⟨RX9, "together", "(I)I"⟩
abbrev cX9_partOf : ByteArray := prog_11_method_63_code
def yX9_partOf : MethodName := ⟨RX9, "partOf", "(II)I"⟩
abbrev cX9_agrees : ByteArray := prog_11_method_64_code
def yX9_agrees : MethodName := ⟨RX9, "agrees", "(II)Z"⟩
abbrev cX9_knownAt : ByteArray := prog_11_method_65_code
def yX9_knownAt : MethodName := ⟨RX9, "knownAt", "(III)I"⟩
abbrev cX9_findFactSets : ByteArray := prog_11_method_66_code
def yX9_findFactSets : MethodName := ⟨RX9, "findFactSets", "()V"⟩
abbrev cX9_isDone : ByteArray := prog_11_method_67_code
def yX9_isDone : MethodName := ⟨RX9, "isDone", "(II)Z"⟩
abbrev cX9_areNext : ByteArray := prog_11_method_68_code
def yX9_areNext : MethodName := ⟨RX9, "areNext", "(II)Z"⟩
abbrev cX9_worstAt : ByteArray := prog_11_method_69_code
def yX9_worstAt : MethodName := ⟨RX9, "worstAt", "(II)I"⟩
abbrev cX9_bestNext : ByteArray := prog_11_method_70_code
def yX9_bestNext : MethodName := ⟨RX9, "bestNext", "(II)I"⟩
abbrev cX9_findWorths : ByteArray := prog_11_method_71_code
def yX9_findWorths : MethodName := ⟨RX9, "findWorths", "()V"⟩
abbrev cX9_go : ByteArray := prog_11_method_72_code
def yX9_go : MethodName := ⟨RX9, "go", "(II)I"⟩
abbrev cX9_row : ByteArray := prog_11_method_73_code
def yX9_row : MethodName := ⟨RX9, "row", "(I)I"⟩
abbrev cX9_signsOn : ByteArray := prog_11_method_74_code
def yX9_signsOn : MethodName := ⟨RX9, "signsOn", "(I)I"⟩
abbrev cX9_nthOn : ByteArray := prog_11_method_75_code
def yX9_nthOn : MethodName := ⟨RX9, "nthOn", "(II)I"⟩
abbrev cX9_doStand : ByteArray := prog_11_method_76_code
def yX9_doStand : MethodName := ⟨RX9, "doStand", "(IZI)Z"⟩
abbrev cX9_walksBy : ByteArray := prog_11_method_77_code
def yX9_walksBy : MethodName := ⟨RX9, "walksBy", "(IIZ)V"⟩
abbrev cX9_book : ByteArray := prog_11_method_78_code
def yX9_book : MethodName := ⟨RX9, "book", "(I)I"⟩
abbrev cX9_next : ByteArray := prog_11_method_79_code
def yX9_next : MethodName := ⟨RX9, "next", "()I"⟩
abbrev cX9_lands : ByteArray := prog_11_method_80_code
def yX9_lands : MethodName := ⟨RX9, "lands", "(III)I"⟩
abbrev cX9_judge : ByteArray := prog_11_method_81_code
def yX9_judge : MethodName := ⟨RX9, "judge", "(I)I"⟩
abbrev cX9_fitMany : ByteArray := prog_11_method_82_code
def yX9_fitMany : MethodName := ⟨RX9, "fitMany", "()I"⟩
abbrev cX9_count : ByteArray := prog_11_method_83_code
def yX9_count : MethodName := ⟨RX9, "count", "(I)I"⟩
def RJ11 : String := "java/lang/Character"
def TJ11 : u_T := fun k => match k with
  | _ => ("", "", "", false)
def tyJ11 : Nat → FieldType := fun k => match k with
  | _ => .int
abbrev wsJ110 : List Cond := u_ws RJ11 TJ11 0
theorem nmJ11 : ∀ a, a < 0 → ∀ b, b < 0 → a ≠ b → (TJ11 a).2.1 ≠ (TJ11 b).2.1 := by decide +kernel
theorem tyJ11_ok : ∀ k, k < 0 → parseFieldDescriptor (TJ11 k).2.2.1 = some (tyJ11 k) := by decide +kernel
abbrev cJ11_isValidCodePoint_9a6ad : ByteArray := prog_12_method_11_code
def yJ11_isValidCodePoint_9a6ad : MethodName := ⟨RJ11, "isValidCodePoint", "(I)Z"⟩
abbrev cJ11_highSurrogate_5068e : ByteArray := prog_12_method_28_code
def yJ11_highSurrogate_5068e : MethodName := ⟨RJ11, "highSurrogate", "(I)C"⟩
abbrev cJ11_lowSurrogate_5068e : ByteArray := prog_12_method_29_code
def yJ11_lowSurrogate_5068e : MethodName := ⟨RJ11, "lowSurrogate", "(I)C"⟩
def RJ6 : String := "java/lang/Integer"
def TJ6 : u_T := fun k => match k with
  | _ => ("", "", "", false)
def tyJ6 : Nat → FieldType := fun k => match k with
  | _ => .int
abbrev wsJ60 : List Cond := u_ws RJ6 TJ6 0
theorem nmJ6 : ∀ a, a < 0 → ∀ b, b < 0 → a ≠ b → (TJ6 a).2.1 ≠ (TJ6 b).2.1 := by decide +kernel
theorem tyJ6_ok : ∀ k, k < 0 → parseFieldDescriptor (TJ6 k).2.2.1 = some (tyJ6 k) := by decide +kernel
abbrev cJ6_bitCount_0f7a4 : ByteArray := prog_13_method_49_code
def yJ6_bitCount_0f7a4 : MethodName := ⟨RJ6, "bitCount", "(I)I"⟩
def RJ9 : String := "java/lang/Math"
def TJ9 : u_T := fun k => match k with
  | _ => ("", "", "", false)
def tyJ9 : Nat → FieldType := fun k => match k with
  | _ => .int
abbrev wsJ90 : List Cond := u_ws RJ9 TJ9 0
theorem nmJ9 : ∀ a, a < 0 → ∀ b, b < 0 → a ≠ b → (TJ9 a).2.1 ≠ (TJ9 b).2.1 := by decide +kernel
theorem tyJ9_ok : ∀ k, k < 0 → parseFieldDescriptor (TJ9 k).2.2.1 = some (tyJ9 k) := by decide +kernel
abbrev cJ9_max_7cf53 : ByteArray := prog_14_method_65_code
def yJ9_max_7cf53 : MethodName := ⟨RJ9, "max", "(II)I"⟩
abbrev cJ9_min_7cf53 : ByteArray := prog_14_method_69_code
def yJ9_min_7cf53 : MethodName := ⟨RJ9, "min", "(II)I"⟩
def RJ0 : String := "java/lang/String"
def TJ0 : u_T := fun k => match k with
  | _ => ("", "", "", false)
def tyJ0 : Nat → FieldType := fun k => match k with
  | _ => .int
abbrev wsJ00 : List Cond := u_ws RJ0 TJ0 0
theorem nmJ0 : ∀ a, a < 0 → ∀ b, b < 0 → a ≠ b → (TJ0 a).2.1 ≠ (TJ0 b).2.1 := by decide +kernel
theorem tyJ0_ok : ∀ k, k < 0 → parseFieldDescriptor (TJ0 k).2.2.1 = some (tyJ0 k) := by decide +kernel
abbrev cJ0_length_8abf5 : ByteArray := prog_15_method_54_code
def yJ0_length_8abf5 : MethodName := ⟨RJ0, "length", "()I"⟩
abbrev cJ0_charAt_5068e : ByteArray := prog_15_method_56_code
def yJ0_charAt_5068e : MethodName := ⟨RJ0, "charAt", "(I)C"⟩
abbrev cJ0_indexOf_0f7a4 : ByteArray := prog_15_method_79_code
def yJ0_indexOf_0f7a4 : MethodName := ⟨RJ0, "indexOf", "(I)I"⟩
abbrev cJ0_indexOf_7cf53 : ByteArray := prog_15_method_80_code
def yJ0_indexOf_7cf53 : MethodName := ⟨RJ0, "indexOf", "(II)I"⟩
abbrev cJ0_coder_7d493 : ByteArray := prog_15_method_152_code
def yJ0_coder_7d493 : MethodName := ⟨RJ0, "coder", "()B"⟩
abbrev cJ0_isLatin1_aae02 : ByteArray := prog_15_method_154_code
def yJ0_isLatin1_aae02 : MethodName := ⟨RJ0, "isLatin1", "()Z"⟩
abbrev cJ0_checkIndex_df160 : ByteArray := prog_15_method_155_code
def yJ0_checkIndex_df160 : MethodName := ⟨RJ0, "checkIndex", "(II)V"⟩
abbrev cJ0_checkBoundsBeginEnd_23922 : ByteArray := prog_15_method_158_code
def yJ0_checkBoundsBeginEnd_23922 : MethodName := ⟨RJ0, "checkBoundsBeginEnd", "(III)V"⟩
def RJ1 : String := "java/lang/StringLatin1"
def TJ1 : u_T := fun k => match k with
  | _ => ("", "", "", false)
def tyJ1 : Nat → FieldType := fun k => match k with
  | _ => .int
abbrev wsJ10 : List Cond := u_ws RJ1 TJ1 0
theorem nmJ1 : ∀ a, a < 0 → ∀ b, b < 0 → a ≠ b → (TJ1 a).2.1 ≠ (TJ1 b).2.1 := by decide +kernel
theorem tyJ1_ok : ∀ k, k < 0 → parseFieldDescriptor (TJ1 k).2.2.1 = some (tyJ1 k) := by decide +kernel
abbrev cJ1_charAt_3b067 : ByteArray := prog_16_method_2_code
def yJ1_charAt_3b067 : MethodName := ⟨RJ1, "charAt", "([BI)C"⟩
abbrev cJ1_canEncode_9a6ad : ByteArray := prog_16_method_4_code
def yJ1_canEncode_9a6ad : MethodName := ⟨RJ1, "canEncode", "(I)Z"⟩
abbrev cJ1_indexOf_4cfef : ByteArray := prog_16_method_22_code
def yJ1_indexOf_4cfef : MethodName := ⟨RJ1, "indexOf", "([BIII)I"⟩
abbrev cJ1_indexOfChar_4cfef : ByteArray := prog_16_method_23_code
def yJ1_indexOfChar_4cfef : MethodName := ⟨RJ1, "indexOfChar", "([BIII)I"⟩
def RJ2 : String := "java/lang/StringUTF16"
def TJ2 : u_T := fun k => match k with
  | _ => ("", "", "", false)
def tyJ2 : Nat → FieldType := fun k => match k with
  | _ => .int
abbrev wsJ20 : List Cond := u_ws RJ2 TJ2 0
theorem nmJ2 : ∀ a, a < 0 → ∀ b, b < 0 → a ≠ b → (TJ2 a).2.1 ≠ (TJ2 b).2.1 := by decide +kernel
theorem tyJ2_ok : ∀ k, k < 0 → parseFieldDescriptor (TJ2 k).2.2.1 = some (tyJ2 k) := by decide +kernel
abbrev cJ2_getChar_3b067 : ByteArray := prog_17_method_5_code
def yJ2_getChar_3b067 : MethodName := ⟨RJ2, "getChar", "([BI)C"⟩
abbrev cJ2_length_9d52b : ByteArray := prog_17_method_6_code
def yJ2_length_9d52b : MethodName := ⟨RJ2, "length", "([B)I"⟩
abbrev cJ2_indexOf_4cfef : ByteArray := prog_17_method_40_code
def yJ2_indexOf_4cfef : MethodName := ⟨RJ2, "indexOf", "([BIII)I"⟩
abbrev cJ2_indexOfChar_4cfef : ByteArray := prog_17_method_47_code
def yJ2_indexOfChar_4cfef : MethodName := ⟨RJ2, "indexOfChar", "([BIII)I"⟩
abbrev cJ2_indexOfCharUnsafe_4cfef : ByteArray := prog_17_method_48_code
def yJ2_indexOfCharUnsafe_4cfef : MethodName := ⟨RJ2, "indexOfCharUnsafe", "([BIII)I"⟩
abbrev cJ2_indexOfSupplementary_4cfef : ByteArray := prog_17_method_49_code
def yJ2_indexOfSupplementary_4cfef : MethodName := ⟨RJ2, "indexOfSupplementary", "([BIII)I"⟩
abbrev cJ2_charAt_3b067 : ByteArray := prog_17_method_83_code
def yJ2_charAt_3b067 : MethodName := ⟨RJ2, "charAt", "([BI)C"⟩
abbrev cJ2_checkIndex_2214a : ByteArray := prog_17_method_91_code
def yJ2_checkIndex_2214a : MethodName := ⟨RJ2, "checkIndex", "(I[B)V"⟩
abbrev cJ2_checkBoundsBeginEnd_d044e : ByteArray := prog_17_method_93_code
def yJ2_checkBoundsBeginEnd_d044e : MethodName := ⟨RJ2, "checkBoundsBeginEnd", "(II[B)V"⟩
def RJ10 : String := "java/lang/System"
def TJ10 : u_T := fun k => match k with
  | _ => ("", "", "", false)
def tyJ10 : Nat → FieldType := fun k => match k with
  | _ => .int
abbrev wsJ100 : List Cond := u_ws RJ10 TJ10 0
theorem nmJ10 : ∀ a, a < 0 → ∀ b, b < 0 → a ≠ b → (TJ10 a).2.1 ≠ (TJ10 b).2.1 := by decide +kernel
theorem tyJ10_ok : ∀ k, k < 0 → parseFieldDescriptor (TJ10 k).2.2.1 = some (tyJ10 k) := by decide +kernel
def RJ3 : String := "jdk/internal/util/Preconditions"
def TJ3 : u_T := fun k => match k with
  | _ => ("", "", "", false)
def tyJ3 : Nat → FieldType := fun k => match k with
  | _ => .int
abbrev wsJ30 : List Cond := u_ws RJ3 TJ3 0
theorem nmJ3 : ∀ a, a < 0 → ∀ b, b < 0 → a ≠ b → (TJ3 a).2.1 ≠ (TJ3 b).2.1 := by decide +kernel
theorem tyJ3_ok : ∀ k, k < 0 → parseFieldDescriptor (TJ3 k).2.2.1 = some (tyJ3 k) := by decide +kernel
abbrev cJ3_checkIndex_8e157 : ByteArray := prog_19_method_11_code
def yJ3_checkIndex_8e157 : MethodName := ⟨RJ3, "checkIndex", "(IILjava/util/function/BiFunction;)I"⟩
abbrev cJ3_checkFromToIndex_8c36e : ByteArray := prog_19_method_12_code
def yJ3_checkFromToIndex_8c36e : MethodName := ⟨RJ3, "checkFromToIndex", "(IIILjava/util/function/BiFunction;)I"⟩
def RL : String := "TrueOneWayLaw"
abbrev cL_law : ByteArray := code
def yL_law : MethodName := ⟨RL, "law", "([I)Z"⟩
abbrev vwCl : List vw_C := [(RX1, TX1, 1), (RX2, TX2, 3), (RX3, TX3, 14), (RX4, TX4, 3), (RX5, TX5, 2), (RX6, TX6, 2), (RX7, TX7, 7), (RX8, TX8, 12), (RX9, TX9, 40)]
end
section
theorem dX0_has_0 : decode cX0_has 0 = .ok (.iload_n 0, 1) := by decide +kernel
theorem dX0_has_1 : decode cX0_has 1 = .ok (.iload_n 1, 1) := by decide +kernel
theorem dX0_has_2 : decode cX0_has 2 = .ok (.ishr, 1) := by decide +kernel
theorem dX0_has_3 : decode cX0_has 3 = .ok (.iconst 1, 1) := by decide +kernel
theorem dX0_has_4 : decode cX0_has 4 = .ok (.iand, 1) := by decide +kernel
theorem dX0_has_5 : decode cX0_has 5 = .ok (.iconst 1, 1) := by decide +kernel
theorem dX0_has_6 : decode cX0_has 6 = .ok (.if_icmp .ne 7, 3) := by decide +kernel
theorem dX0_has_9 : decode cX0_has 9 = .ok (.iconst 1, 1) := by decide +kernel
theorem dX0_has_10 : decode cX0_has 10 = .ok (.goto 4, 3) := by decide +kernel
theorem dX0_has_13 : decode cX0_has 13 = .ok (.iconst 0, 1) := by decide +kernel
theorem dX0_has_14 : decode cX0_has 14 = .ok (.ireturn, 1) := by decide +kernel
theorem dX0_allow_0 : decode cX0_allow 0 = .ok (.iload_n 0, 1) := by decide +kernel
theorem dX0_allow_1 : decode cX0_allow 1 = .ok (.iload_n 1, 1) := by decide +kernel
theorem dX0_allow_2 : decode cX0_allow 2 = .ok (.iand, 1) := by decide +kernel
theorem dX0_allow_3 : decode cX0_allow 3 = .ok (.iload_n 1, 1) := by decide +kernel
theorem dX0_allow_4 : decode cX0_allow 4 = .ok (.if_icmp .ne 13, 3) := by decide +kernel
theorem dX0_allow_7 : decode cX0_allow 7 = .ok (.iload_n 0, 1) := by decide +kernel
theorem dX0_allow_8 : decode cX0_allow 8 = .ok (.iload_n 2, 1) := by decide +kernel
theorem dX0_allow_9 : decode cX0_allow 9 = .ok (.iand, 1) := by decide +kernel
theorem dX0_allow_10 : decode cX0_allow 10 = .ok (.ifCond .ne 7, 3) := by decide +kernel
theorem dX0_allow_13 : decode cX0_allow 13 = .ok (.iconst 1, 1) := by decide +kernel
theorem dX0_allow_14 : decode cX0_allow 14 = .ok (.goto 4, 3) := by decide +kernel
theorem dX0_allow_17 : decode cX0_allow 17 = .ok (.iconst 0, 1) := by decide +kernel
theorem dX0_allow_18 : decode cX0_allow 18 = .ok (.ireturn, 1) := by decide +kernel
theorem dX1_init_0 : decode cX1_init 0 = .ok (.aload_n 0, 1) := by decide +kernel
theorem dX1_init_1 : decode cX1_init 1 = .ok (.invokespecial 3, 3) := by decide +kernel
theorem dX1_init_4 : decode cX1_init 4 = .ok (.aload_n 0, 1) := by decide +kernel
theorem dX1_init_5 : decode cX1_init 5 = .ok (.sipush 4096, 3) := by decide +kernel
theorem dX1_init_8 : decode cX1_init 8 = .ok (.newarray .boolean, 2) := by decide +kernel
theorem dX1_init_10 : decode cX1_init 10 = .ok (.putfield 9, 3) := by decide +kernel
theorem dX1_init_13 : decode cX1_init 13 = .ok (.return_, 1) := by decide +kernel
theorem dX1_fewestClashing_0 : decode cX1_fewestClashing 0 = .ok (.iconst 1, 1) := by decide +kernel
theorem dX1_fewestClashing_1 : decode cX1_fewestClashing 1 = .ok (.aload_n 2, 1) := by decide +kernel
theorem dX1_fewestClashing_2 : decode cX1_fewestClashing 2 = .ok (.getfield 15, 3) := by decide +kernel
theorem dX1_fewestClashing_5 : decode cX1_fewestClashing 5 = .ok (.ishl, 1) := by decide +kernel
theorem dX1_fewestClashing_6 : decode cX1_fewestClashing 6 = .ok (.iconst 1, 1) := by decide +kernel
theorem dX1_fewestClashing_7 : decode cX1_fewestClashing 7 = .ok (.isub, 1) := by decide +kernel
theorem dX1_fewestClashing_8 : decode cX1_fewestClashing 8 = .ok (.istore_n 3, 1) := by decide +kernel
theorem dX1_fewestClashing_9 : decode cX1_fewestClashing 9 = .ok (.aload_n 0, 1) := by decide +kernel
theorem dX1_fewestClashing_10 : decode cX1_fewestClashing 10 = .ok (.aload_n 1, 1) := by decide +kernel
theorem dX1_fewestClashing_11 : decode cX1_fewestClashing 11 = .ok (.aload_n 2, 1) := by decide +kernel
theorem dX1_fewestClashing_12 : decode cX1_fewestClashing 12 = .ok (.iload_n 3, 1) := by decide +kernel
theorem dX1_fewestClashing_13 : decode cX1_fewestClashing 13 = .ok (.invokevirtual 21, 3) := by decide +kernel
theorem dX1_fewestClashing_16 : decode cX1_fewestClashing 16 = .ok (.iconst 0, 1) := by decide +kernel
theorem dX1_fewestClashing_17 : decode cX1_fewestClashing 17 = .ok (.istore 4, 2) := by decide +kernel
theorem dX1_fewestClashing_19 : decode cX1_fewestClashing 19 = .ok (.bipush 13, 2) := by decide +kernel
theorem dX1_fewestClashing_21 : decode cX1_fewestClashing 21 = .ok (.istore 5, 2) := by decide +kernel
theorem dX1_fewestClashing_23 : decode cX1_fewestClashing 23 = .ok (.iconst 0, 1) := by decide +kernel
theorem dX1_fewestClashing_24 : decode cX1_fewestClashing 24 = .ok (.istore 6, 2) := by decide +kernel
theorem dX1_fewestClashing_26 : decode cX1_fewestClashing 26 = .ok (.iload 6, 2) := by decide +kernel
theorem dX1_fewestClashing_28 : decode cX1_fewestClashing 28 = .ok (.iload_n 3, 1) := by decide +kernel
theorem dX1_fewestClashing_29 : decode cX1_fewestClashing 29 = .ok (.if_icmp .gt 40, 3) := by decide +kernel
theorem dX1_fewestClashing_32 : decode cX1_fewestClashing 32 = .ok (.aload_n 0, 1) := by decide +kernel
theorem dX1_fewestClashing_33 : decode cX1_fewestClashing 33 = .ok (.getfield 9, 3) := by decide +kernel
theorem dX1_fewestClashing_36 : decode cX1_fewestClashing 36 = .ok (.iload 6, 2) := by decide +kernel
theorem dX1_fewestClashing_38 : decode cX1_fewestClashing 38 = .ok (.baload, 1) := by decide +kernel
theorem dX1_fewestClashing_39 : decode cX1_fewestClashing 39 = .ok (.ifCond .ne 24, 3) := by decide +kernel
theorem dX1_fewestClashing_42 : decode cX1_fewestClashing 42 = .ok (.iload 6, 2) := by decide +kernel
theorem dX1_fewestClashing_44 : decode cX1_fewestClashing 44 = .ok (.invokestatic 25, 3) := by decide +kernel
theorem dX1_fewestClashing_47 : decode cX1_fewestClashing 47 = .ok (.iload 5, 2) := by decide +kernel
theorem dX1_fewestClashing_49 : decode cX1_fewestClashing 49 = .ok (.if_icmp .ge 14, 3) := by decide +kernel
theorem dX1_fewestClashing_52 : decode cX1_fewestClashing 52 = .ok (.iload 6, 2) := by decide +kernel
theorem dX1_fewestClashing_54 : decode cX1_fewestClashing 54 = .ok (.istore 4, 2) := by decide +kernel
theorem dX1_fewestClashing_56 : decode cX1_fewestClashing 56 = .ok (.iload 6, 2) := by decide +kernel
theorem dX1_fewestClashing_58 : decode cX1_fewestClashing 58 = .ok (.invokestatic 25, 3) := by decide +kernel
theorem dX1_fewestClashing_61 : decode cX1_fewestClashing 61 = .ok (.istore 5, 2) := by decide +kernel
theorem dX1_fewestClashing_63 : decode cX1_fewestClashing 63 = .ok (.iinc 6 1, 3) := by decide +kernel
theorem dX1_fewestClashing_66 : decode cX1_fewestClashing 66 = .ok (.goto (-40), 3) := by decide +kernel
theorem dX1_fewestClashing_69 : decode cX1_fewestClashing 69 = .ok (.iload 4, 2) := by decide +kernel
theorem dX1_fewestClashing_71 : decode cX1_fewestClashing 71 = .ok (.ireturn, 1) := by decide +kernel
theorem dX1_markSetsThatCanBe_0 : decode cX1_markSetsThatCanBe 0 = .ok (.iconst 0, 1) := by decide +kernel
theorem dX1_markSetsThatCanBe_1 : decode cX1_markSetsThatCanBe 1 = .ok (.istore 4, 2) := by decide +kernel
theorem dX1_markSetsThatCanBe_3 : decode cX1_markSetsThatCanBe 3 = .ok (.iload 4, 2) := by decide +kernel
theorem dX1_markSetsThatCanBe_5 : decode cX1_markSetsThatCanBe 5 = .ok (.iload_n 3, 1) := by decide +kernel
theorem dX1_markSetsThatCanBe_6 : decode cX1_markSetsThatCanBe 6 = .ok (.if_icmp .gt 17, 3) := by decide +kernel
theorem dX1_markSetsThatCanBe_9 : decode cX1_markSetsThatCanBe 9 = .ok (.aload_n 0, 1) := by decide +kernel
theorem dX1_markSetsThatCanBe_10 : decode cX1_markSetsThatCanBe 10 = .ok (.getfield 9, 3) := by decide +kernel
theorem dX1_markSetsThatCanBe_13 : decode cX1_markSetsThatCanBe 13 = .ok (.iload 4, 2) := by decide +kernel
theorem dX1_markSetsThatCanBe_15 : decode cX1_markSetsThatCanBe 15 = .ok (.iconst 0, 1) := by decide +kernel
theorem dX1_markSetsThatCanBe_16 : decode cX1_markSetsThatCanBe 16 = .ok (.bastore, 1) := by decide +kernel
theorem dX1_markSetsThatCanBe_17 : decode cX1_markSetsThatCanBe 17 = .ok (.iinc 4 1, 3) := by decide +kernel
theorem dX1_markSetsThatCanBe_20 : decode cX1_markSetsThatCanBe 20 = .ok (.goto (-17), 3) := by decide +kernel
theorem dX1_markSetsThatCanBe_23 : decode cX1_markSetsThatCanBe 23 = .ok (.iconst 0, 1) := by decide +kernel
theorem dX1_markSetsThatCanBe_24 : decode cX1_markSetsThatCanBe 24 = .ok (.istore 4, 2) := by decide +kernel
theorem dX1_markSetsThatCanBe_26 : decode cX1_markSetsThatCanBe 26 = .ok (.iload 4, 2) := by decide +kernel
theorem dX1_markSetsThatCanBe_28 : decode cX1_markSetsThatCanBe 28 = .ok (.aload_n 1, 1) := by decide +kernel
theorem dX1_markSetsThatCanBe_29 : decode cX1_markSetsThatCanBe 29 = .ok (.getfield 31, 3) := by decide +kernel
theorem dX1_markSetsThatCanBe_32 : decode cX1_markSetsThatCanBe 32 = .ok (.if_icmp .gt 32, 3) := by decide +kernel
theorem dX1_markSetsThatCanBe_35 : decode cX1_markSetsThatCanBe 35 = .ok (.aload_n 1, 1) := by decide +kernel
theorem dX1_markSetsThatCanBe_36 : decode cX1_markSetsThatCanBe 36 = .ok (.iload 4, 2) := by decide +kernel
theorem dX1_markSetsThatCanBe_38 : decode cX1_markSetsThatCanBe 38 = .ok (.invokevirtual 36, 3) := by decide +kernel
theorem dX1_markSetsThatCanBe_41 : decode cX1_markSetsThatCanBe 41 = .ok (.ifCond .eq 17, 3) := by decide +kernel
theorem dX1_markSetsThatCanBe_44 : decode cX1_markSetsThatCanBe 44 = .ok (.aload_n 0, 1) := by decide +kernel
theorem dX1_markSetsThatCanBe_45 : decode cX1_markSetsThatCanBe 45 = .ok (.getfield 9, 3) := by decide +kernel
theorem dX1_markSetsThatCanBe_48 : decode cX1_markSetsThatCanBe 48 = .ok (.aload_n 2, 1) := by decide +kernel
theorem dX1_markSetsThatCanBe_49 : decode cX1_markSetsThatCanBe 49 = .ok (.iload 4, 2) := by decide +kernel
theorem dX1_markSetsThatCanBe_51 : decode cX1_markSetsThatCanBe 51 = .ok (.invokevirtual 40, 3) := by decide +kernel
theorem dX1_markSetsThatCanBe_54 : decode cX1_markSetsThatCanBe 54 = .ok (.iload_n 3, 1) := by decide +kernel
theorem dX1_markSetsThatCanBe_55 : decode cX1_markSetsThatCanBe 55 = .ok (.iand, 1) := by decide +kernel
theorem dX1_markSetsThatCanBe_56 : decode cX1_markSetsThatCanBe 56 = .ok (.iconst 1, 1) := by decide +kernel
theorem dX1_markSetsThatCanBe_57 : decode cX1_markSetsThatCanBe 57 = .ok (.bastore, 1) := by decide +kernel
theorem dX1_markSetsThatCanBe_58 : decode cX1_markSetsThatCanBe 58 = .ok (.iinc 4 1, 3) := by decide +kernel
theorem dX1_markSetsThatCanBe_61 : decode cX1_markSetsThatCanBe 61 = .ok (.goto (-35), 3) := by decide +kernel
theorem dX1_markSetsThatCanBe_64 : decode cX1_markSetsThatCanBe 64 = .ok (.iconst 0, 1) := by decide +kernel
theorem dX1_markSetsThatCanBe_65 : decode cX1_markSetsThatCanBe 65 = .ok (.istore 4, 2) := by decide +kernel
theorem dX1_markSetsThatCanBe_67 : decode cX1_markSetsThatCanBe 67 = .ok (.iload 4, 2) := by decide +kernel
theorem dX1_markSetsThatCanBe_69 : decode cX1_markSetsThatCanBe 69 = .ok (.aload_n 2, 1) := by decide +kernel
theorem dX1_markSetsThatCanBe_70 : decode cX1_markSetsThatCanBe 70 = .ok (.getfield 15, 3) := by decide +kernel
theorem dX1_markSetsThatCanBe_73 : decode cX1_markSetsThatCanBe 73 = .ok (.if_icmp .ge 57, 3) := by decide +kernel
theorem dX1_markSetsThatCanBe_76 : decode cX1_markSetsThatCanBe 76 = .ok (.iconst 0, 1) := by decide +kernel
theorem dX1_markSetsThatCanBe_77 : decode cX1_markSetsThatCanBe 77 = .ok (.istore 5, 2) := by decide +kernel
theorem dX1_markSetsThatCanBe_79 : decode cX1_markSetsThatCanBe 79 = .ok (.iload 5, 2) := by decide +kernel
theorem dX1_markSetsThatCanBe_81 : decode cX1_markSetsThatCanBe 81 = .ok (.iload_n 3, 1) := by decide +kernel
theorem dX1_markSetsThatCanBe_82 : decode cX1_markSetsThatCanBe 82 = .ok (.if_icmp .gt 42, 3) := by decide +kernel
theorem dX1_markSetsThatCanBe_85 : decode cX1_markSetsThatCanBe 85 = .ok (.iload 5, 2) := by decide +kernel
theorem dX1_markSetsThatCanBe_87 : decode cX1_markSetsThatCanBe 87 = .ok (.iload 4, 2) := by decide +kernel
theorem dX1_markSetsThatCanBe_89 : decode cX1_markSetsThatCanBe 89 = .ok (.invokestatic 43, 3) := by decide +kernel
theorem dX1_markSetsThatCanBe_92 : decode cX1_markSetsThatCanBe 92 = .ok (.ifCond .eq 26, 3) := by decide +kernel
theorem dX1_markSetsThatCanBe_95 : decode cX1_markSetsThatCanBe 95 = .ok (.aload_n 0, 1) := by decide +kernel
theorem dX1_markSetsThatCanBe_96 : decode cX1_markSetsThatCanBe 96 = .ok (.getfield 9, 3) := by decide +kernel
theorem dX1_markSetsThatCanBe_99 : decode cX1_markSetsThatCanBe 99 = .ok (.iload 5, 2) := by decide +kernel
theorem dX1_markSetsThatCanBe_101 : decode cX1_markSetsThatCanBe 101 = .ok (.baload, 1) := by decide +kernel
theorem dX1_markSetsThatCanBe_102 : decode cX1_markSetsThatCanBe 102 = .ok (.ifCond .eq 16, 3) := by decide +kernel
theorem dX1_markSetsThatCanBe_105 : decode cX1_markSetsThatCanBe 105 = .ok (.aload_n 0, 1) := by decide +kernel
theorem dX1_markSetsThatCanBe_106 : decode cX1_markSetsThatCanBe 106 = .ok (.getfield 9, 3) := by decide +kernel
theorem dX1_markSetsThatCanBe_109 : decode cX1_markSetsThatCanBe 109 = .ok (.iload 5, 2) := by decide +kernel
theorem dX1_markSetsThatCanBe_111 : decode cX1_markSetsThatCanBe 111 = .ok (.iconst 1, 1) := by decide +kernel
theorem dX1_markSetsThatCanBe_112 : decode cX1_markSetsThatCanBe 112 = .ok (.iload 4, 2) := by decide +kernel
theorem dX1_markSetsThatCanBe_114 : decode cX1_markSetsThatCanBe 114 = .ok (.ishl, 1) := by decide +kernel
theorem dX1_markSetsThatCanBe_115 : decode cX1_markSetsThatCanBe 115 = .ok (.ixor, 1) := by decide +kernel
theorem dX1_markSetsThatCanBe_116 : decode cX1_markSetsThatCanBe 116 = .ok (.iconst 1, 1) := by decide +kernel
theorem dX1_markSetsThatCanBe_117 : decode cX1_markSetsThatCanBe 117 = .ok (.bastore, 1) := by decide +kernel
theorem dX1_markSetsThatCanBe_118 : decode cX1_markSetsThatCanBe 118 = .ok (.iinc 5 1, 3) := by decide +kernel
theorem dX1_markSetsThatCanBe_121 : decode cX1_markSetsThatCanBe 121 = .ok (.goto (-42), 3) := by decide +kernel
theorem dX1_markSetsThatCanBe_124 : decode cX1_markSetsThatCanBe 124 = .ok (.iinc 4 1, 3) := by decide +kernel
theorem dX1_markSetsThatCanBe_127 : decode cX1_markSetsThatCanBe 127 = .ok (.goto (-60), 3) := by decide +kernel
theorem dX1_markSetsThatCanBe_130 : decode cX1_markSetsThatCanBe 130 = .ok (.return_, 1) := by decide +kernel
theorem dX2_init_0 : decode cX2_init 0 = .ok (.aload_n 0, 1) := by decide +kernel
theorem dX2_init_1 : decode cX2_init 1 = .ok (.invokespecial 3, 3) := by decide +kernel
theorem dX2_init_4 : decode cX2_init 4 = .ok (.aload_n 0, 1) := by decide +kernel
theorem dX2_init_5 : decode cX2_init 5 = .ok (.iconst 0, 1) := by decide +kernel
theorem dX2_init_6 : decode cX2_init 6 = .ok (.putfield 9, 3) := by decide +kernel
theorem dX2_init_9 : decode cX2_init 9 = .ok (.aload_n 0, 1) := by decide +kernel
theorem dX2_init_10 : decode cX2_init 10 = .ok (.bipush 12, 2) := by decide +kernel
theorem dX2_init_12 : decode cX2_init 12 = .ok (.newarray .int, 2) := by decide +kernel
theorem dX2_init_14 : decode cX2_init 14 = .ok (.putfield 15, 3) := by decide +kernel
theorem dX2_init_17 : decode cX2_init 17 = .ok (.aload_n 0, 1) := by decide +kernel
theorem dX2_init_18 : decode cX2_init 18 = .ok (.bipush 12, 2) := by decide +kernel
theorem dX2_init_20 : decode cX2_init 20 = .ok (.newarray .boolean, 2) := by decide +kernel
theorem dX2_init_22 : decode cX2_init 22 = .ok (.putfield 19, 3) := by decide +kernel
theorem dX2_init_25 : decode cX2_init 25 = .ok (.return_, 1) := by decide +kernel
theorem dX2_become_0 : decode cX2_become 0 = .ok (.aload_n 0, 1) := by decide +kernel
theorem dX2_become_1 : decode cX2_become 1 = .ok (.aload_n 1, 1) := by decide +kernel
theorem dX2_become_2 : decode cX2_become 2 = .ok (.getfield 9, 3) := by decide +kernel
theorem dX2_become_5 : decode cX2_become 5 = .ok (.putfield 9, 3) := by decide +kernel
theorem dX2_become_8 : decode cX2_become 8 = .ok (.iconst 0, 1) := by decide +kernel
theorem dX2_become_9 : decode cX2_become 9 = .ok (.istore_n 2, 1) := by decide +kernel
theorem dX2_become_10 : decode cX2_become 10 = .ok (.iload_n 2, 1) := by decide +kernel
theorem dX2_become_11 : decode cX2_become 11 = .ok (.aload_n 0, 1) := by decide +kernel
theorem dX2_become_12 : decode cX2_become 12 = .ok (.getfield 9, 3) := by decide +kernel
theorem dX2_become_15 : decode cX2_become 15 = .ok (.if_icmp .ge 33, 3) := by decide +kernel
theorem dX2_become_18 : decode cX2_become 18 = .ok (.aload_n 0, 1) := by decide +kernel
theorem dX2_become_19 : decode cX2_become 19 = .ok (.getfield 15, 3) := by decide +kernel
theorem dX2_become_22 : decode cX2_become 22 = .ok (.iload_n 2, 1) := by decide +kernel
theorem dX2_become_23 : decode cX2_become 23 = .ok (.aload_n 1, 1) := by decide +kernel
theorem dX2_become_24 : decode cX2_become 24 = .ok (.getfield 15, 3) := by decide +kernel
theorem dX2_become_27 : decode cX2_become 27 = .ok (.iload_n 2, 1) := by decide +kernel
theorem dX2_become_28 : decode cX2_become 28 = .ok (.iaload, 1) := by decide +kernel
theorem dX2_become_29 : decode cX2_become 29 = .ok (.iastore, 1) := by decide +kernel
theorem dX2_become_30 : decode cX2_become 30 = .ok (.aload_n 0, 1) := by decide +kernel
theorem dX2_become_31 : decode cX2_become 31 = .ok (.getfield 19, 3) := by decide +kernel
theorem dX2_become_34 : decode cX2_become 34 = .ok (.iload_n 2, 1) := by decide +kernel
theorem dX2_become_35 : decode cX2_become 35 = .ok (.aload_n 1, 1) := by decide +kernel
theorem dX2_become_36 : decode cX2_become 36 = .ok (.getfield 19, 3) := by decide +kernel
theorem dX2_become_39 : decode cX2_become 39 = .ok (.iload_n 2, 1) := by decide +kernel
theorem dX2_become_40 : decode cX2_become 40 = .ok (.baload, 1) := by decide +kernel
theorem dX2_become_41 : decode cX2_become 41 = .ok (.bastore, 1) := by decide +kernel
theorem dX2_become_42 : decode cX2_become 42 = .ok (.iinc 2 1, 3) := by decide +kernel
theorem dX2_become_45 : decode cX2_become 45 = .ok (.goto (-35), 3) := by decide +kernel
theorem dX2_become_48 : decode cX2_become 48 = .ok (.return_, 1) := by decide +kernel
theorem dX2_add_0 : decode cX2_add 0 = .ok (.aload_n 0, 1) := by decide +kernel
theorem dX2_add_1 : decode cX2_add 1 = .ok (.getfield 9, 3) := by decide +kernel
theorem dX2_add_4 : decode cX2_add 4 = .ok (.bipush 12, 2) := by decide +kernel
theorem dX2_add_6 : decode cX2_add 6 = .ok (.if_icmp .ge 33, 3) := by decide +kernel
theorem dX2_add_9 : decode cX2_add 9 = .ok (.aload_n 0, 1) := by decide +kernel
theorem dX2_add_10 : decode cX2_add 10 = .ok (.getfield 15, 3) := by decide +kernel
theorem dX2_add_13 : decode cX2_add 13 = .ok (.aload_n 0, 1) := by decide +kernel
theorem dX2_add_14 : decode cX2_add 14 = .ok (.getfield 9, 3) := by decide +kernel
theorem dX2_add_17 : decode cX2_add 17 = .ok (.iload_n 1, 1) := by decide +kernel
theorem dX2_add_18 : decode cX2_add 18 = .ok (.iastore, 1) := by decide +kernel
theorem dX2_add_19 : decode cX2_add 19 = .ok (.aload_n 0, 1) := by decide +kernel
theorem dX2_add_20 : decode cX2_add 20 = .ok (.getfield 19, 3) := by decide +kernel
theorem dX2_add_23 : decode cX2_add 23 = .ok (.aload_n 0, 1) := by decide +kernel
theorem dX2_add_24 : decode cX2_add 24 = .ok (.getfield 9, 3) := by decide +kernel
theorem dX2_add_27 : decode cX2_add 27 = .ok (.iload_n 2, 1) := by decide +kernel
theorem dX2_add_28 : decode cX2_add 28 = .ok (.bastore, 1) := by decide +kernel
theorem dX2_add_29 : decode cX2_add 29 = .ok (.aload_n 0, 1) := by decide +kernel
theorem dX2_add_30 : decode cX2_add 30 = .ok (.dup, 1) := by decide +kernel
theorem dX2_add_31 : decode cX2_add 31 = .ok (.getfield 9, 3) := by decide +kernel
theorem dX2_add_34 : decode cX2_add 34 = .ok (.iconst 1, 1) := by decide +kernel
theorem dX2_add_35 : decode cX2_add 35 = .ok (.iadd, 1) := by decide +kernel
theorem dX2_add_36 : decode cX2_add 36 = .ok (.putfield 9, 3) := by decide +kernel
theorem dX2_add_39 : decode cX2_add 39 = .ok (.return_, 1) := by decide +kernel
theorem dX2_dropLatest_0 : decode cX2_dropLatest 0 = .ok (.aload_n 0, 1) := by decide +kernel
theorem dX2_dropLatest_1 : decode cX2_dropLatest 1 = .ok (.getfield 9, 3) := by decide +kernel
theorem dX2_dropLatest_4 : decode cX2_dropLatest 4 = .ok (.ifCond .le 13, 3) := by decide +kernel
theorem dX2_dropLatest_7 : decode cX2_dropLatest 7 = .ok (.aload_n 0, 1) := by decide +kernel
theorem dX2_dropLatest_8 : decode cX2_dropLatest 8 = .ok (.dup, 1) := by decide +kernel
theorem dX2_dropLatest_9 : decode cX2_dropLatest 9 = .ok (.getfield 9, 3) := by decide +kernel
theorem dX2_dropLatest_12 : decode cX2_dropLatest 12 = .ok (.iconst 1, 1) := by decide +kernel
theorem dX2_dropLatest_13 : decode cX2_dropLatest 13 = .ok (.isub, 1) := by decide +kernel
theorem dX2_dropLatest_14 : decode cX2_dropLatest 14 = .ok (.putfield 9, 3) := by decide +kernel
theorem dX2_dropLatest_17 : decode cX2_dropLatest 17 = .ok (.return_, 1) := by decide +kernel
theorem dX2_bitsFound_0 : decode cX2_bitsFound 0 = .ok (.iconst 0, 1) := by decide +kernel
theorem dX2_bitsFound_1 : decode cX2_bitsFound 1 = .ok (.istore_n 2, 1) := by decide +kernel
theorem dX2_bitsFound_2 : decode cX2_bitsFound 2 = .ok (.iconst 0, 1) := by decide +kernel
theorem dX2_bitsFound_3 : decode cX2_bitsFound 3 = .ok (.istore_n 3, 1) := by decide +kernel
theorem dX2_bitsFound_4 : decode cX2_bitsFound 4 = .ok (.iload_n 3, 1) := by decide +kernel
theorem dX2_bitsFound_5 : decode cX2_bitsFound 5 = .ok (.aload_n 0, 1) := by decide +kernel
theorem dX2_bitsFound_6 : decode cX2_bitsFound 6 = .ok (.getfield 9, 3) := by decide +kernel
theorem dX2_bitsFound_9 : decode cX2_bitsFound 9 = .ok (.if_icmp .ge 30, 3) := by decide +kernel
theorem dX2_bitsFound_12 : decode cX2_bitsFound 12 = .ok (.aload_n 0, 1) := by decide +kernel
theorem dX2_bitsFound_13 : decode cX2_bitsFound 13 = .ok (.getfield 19, 3) := by decide +kernel
theorem dX2_bitsFound_16 : decode cX2_bitsFound 16 = .ok (.iload_n 3, 1) := by decide +kernel
theorem dX2_bitsFound_17 : decode cX2_bitsFound 17 = .ok (.baload, 1) := by decide +kernel
theorem dX2_bitsFound_18 : decode cX2_bitsFound 18 = .ok (.iload_n 1, 1) := by decide +kernel
theorem dX2_bitsFound_19 : decode cX2_bitsFound 19 = .ok (.if_icmp .ne 14, 3) := by decide +kernel
theorem dX2_bitsFound_22 : decode cX2_bitsFound 22 = .ok (.iload_n 2, 1) := by decide +kernel
theorem dX2_bitsFound_23 : decode cX2_bitsFound 23 = .ok (.iconst 1, 1) := by decide +kernel
theorem dX2_bitsFound_24 : decode cX2_bitsFound 24 = .ok (.aload_n 0, 1) := by decide +kernel
theorem dX2_bitsFound_25 : decode cX2_bitsFound 25 = .ok (.getfield 15, 3) := by decide +kernel
theorem dX2_bitsFound_28 : decode cX2_bitsFound 28 = .ok (.iload_n 3, 1) := by decide +kernel
theorem dX2_bitsFound_29 : decode cX2_bitsFound 29 = .ok (.iaload, 1) := by decide +kernel
theorem dX2_bitsFound_30 : decode cX2_bitsFound 30 = .ok (.ishl, 1) := by decide +kernel
theorem dX2_bitsFound_31 : decode cX2_bitsFound 31 = .ok (.ior, 1) := by decide +kernel
theorem dX2_bitsFound_32 : decode cX2_bitsFound 32 = .ok (.istore_n 2, 1) := by decide +kernel
theorem dX2_bitsFound_33 : decode cX2_bitsFound 33 = .ok (.iinc 3 1, 3) := by decide +kernel
theorem dX2_bitsFound_36 : decode cX2_bitsFound 36 = .ok (.goto (-32), 3) := by decide +kernel
theorem dX2_bitsFound_39 : decode cX2_bitsFound 39 = .ok (.iload_n 2, 1) := by decide +kernel
theorem dX2_bitsFound_40 : decode cX2_bitsFound 40 = .ok (.ireturn, 1) := by decide +kernel
theorem dX2_firstBroken_0 : decode cX2_firstBroken 0 = .ok (.iconst 0, 1) := by decide +kernel
theorem dX2_firstBroken_1 : decode cX2_firstBroken 1 = .ok (.istore_n 2, 1) := by decide +kernel
theorem dX2_firstBroken_2 : decode cX2_firstBroken 2 = .ok (.iload_n 2, 1) := by decide +kernel
theorem dX2_firstBroken_3 : decode cX2_firstBroken 3 = .ok (.aload_n 0, 1) := by decide +kernel
theorem dX2_firstBroken_4 : decode cX2_firstBroken 4 = .ok (.getfield 9, 3) := by decide +kernel
theorem dX2_firstBroken_7 : decode cX2_firstBroken 7 = .ok (.if_icmp .ge 30, 3) := by decide +kernel
theorem dX2_firstBroken_10 : decode cX2_firstBroken 10 = .ok (.iload_n 1, 1) := by decide +kernel
theorem dX2_firstBroken_11 : decode cX2_firstBroken 11 = .ok (.aload_n 0, 1) := by decide +kernel
theorem dX2_firstBroken_12 : decode cX2_firstBroken 12 = .ok (.getfield 15, 3) := by decide +kernel
theorem dX2_firstBroken_15 : decode cX2_firstBroken 15 = .ok (.iload_n 2, 1) := by decide +kernel
theorem dX2_firstBroken_16 : decode cX2_firstBroken 16 = .ok (.iaload, 1) := by decide +kernel
theorem dX2_firstBroken_17 : decode cX2_firstBroken 17 = .ok (.invokestatic 23, 3) := by decide +kernel
theorem dX2_firstBroken_20 : decode cX2_firstBroken 20 = .ok (.aload_n 0, 1) := by decide +kernel
theorem dX2_firstBroken_21 : decode cX2_firstBroken 21 = .ok (.getfield 19, 3) := by decide +kernel
theorem dX2_firstBroken_24 : decode cX2_firstBroken 24 = .ok (.iload_n 2, 1) := by decide +kernel
theorem dX2_firstBroken_25 : decode cX2_firstBroken 25 = .ok (.baload, 1) := by decide +kernel
theorem dX2_firstBroken_26 : decode cX2_firstBroken 26 = .ok (.if_icmp .eq 5, 3) := by decide +kernel
theorem dX2_firstBroken_29 : decode cX2_firstBroken 29 = .ok (.iload_n 2, 1) := by decide +kernel
theorem dX2_firstBroken_30 : decode cX2_firstBroken 30 = .ok (.ireturn, 1) := by decide +kernel
theorem dX2_firstBroken_31 : decode cX2_firstBroken 31 = .ok (.iinc 2 1, 3) := by decide +kernel
theorem dX2_firstBroken_34 : decode cX2_firstBroken 34 = .ok (.goto (-32), 3) := by decide +kernel
theorem dX2_firstBroken_37 : decode cX2_firstBroken 37 = .ok (.iconst (-1), 1) := by decide +kernel
theorem dX2_firstBroken_38 : decode cX2_firstBroken 38 = .ok (.ireturn, 1) := by decide +kernel
theorem dX2_keptIn_0 : decode cX2_keptIn 0 = .ok (.iconst 0, 1) := by decide +kernel
theorem dX2_keptIn_1 : decode cX2_keptIn 1 = .ok (.istore_n 2, 1) := by decide +kernel
theorem dX2_keptIn_2 : decode cX2_keptIn 2 = .ok (.iconst 0, 1) := by decide +kernel
theorem dX2_keptIn_3 : decode cX2_keptIn 3 = .ok (.istore_n 3, 1) := by decide +kernel
theorem dX2_keptIn_4 : decode cX2_keptIn 4 = .ok (.iload_n 3, 1) := by decide +kernel
theorem dX2_keptIn_5 : decode cX2_keptIn 5 = .ok (.aload_n 0, 1) := by decide +kernel
theorem dX2_keptIn_6 : decode cX2_keptIn 6 = .ok (.getfield 9, 3) := by decide +kernel
theorem dX2_keptIn_9 : decode cX2_keptIn 9 = .ok (.if_icmp .ge 34, 3) := by decide +kernel
theorem dX2_keptIn_12 : decode cX2_keptIn 12 = .ok (.iload_n 1, 1) := by decide +kernel
theorem dX2_keptIn_13 : decode cX2_keptIn 13 = .ok (.aload_n 0, 1) := by decide +kernel
theorem dX2_keptIn_14 : decode cX2_keptIn 14 = .ok (.getfield 15, 3) := by decide +kernel
theorem dX2_keptIn_17 : decode cX2_keptIn 17 = .ok (.iload_n 3, 1) := by decide +kernel
theorem dX2_keptIn_18 : decode cX2_keptIn 18 = .ok (.iaload, 1) := by decide +kernel
theorem dX2_keptIn_19 : decode cX2_keptIn 19 = .ok (.invokestatic 23, 3) := by decide +kernel
theorem dX2_keptIn_22 : decode cX2_keptIn 22 = .ok (.aload_n 0, 1) := by decide +kernel
theorem dX2_keptIn_23 : decode cX2_keptIn 23 = .ok (.getfield 19, 3) := by decide +kernel
theorem dX2_keptIn_26 : decode cX2_keptIn 26 = .ok (.iload_n 3, 1) := by decide +kernel
theorem dX2_keptIn_27 : decode cX2_keptIn 27 = .ok (.baload, 1) := by decide +kernel
theorem dX2_keptIn_28 : decode cX2_keptIn 28 = .ok (.if_icmp .ne 9, 3) := by decide +kernel
theorem dX2_keptIn_31 : decode cX2_keptIn 31 = .ok (.iload_n 2, 1) := by decide +kernel
theorem dX2_keptIn_32 : decode cX2_keptIn 32 = .ok (.iconst 1, 1) := by decide +kernel
theorem dX2_keptIn_33 : decode cX2_keptIn 33 = .ok (.iload_n 3, 1) := by decide +kernel
theorem dX2_keptIn_34 : decode cX2_keptIn 34 = .ok (.ishl, 1) := by decide +kernel
theorem dX2_keptIn_35 : decode cX2_keptIn 35 = .ok (.ior, 1) := by decide +kernel
theorem dX2_keptIn_36 : decode cX2_keptIn 36 = .ok (.istore_n 2, 1) := by decide +kernel
theorem dX2_keptIn_37 : decode cX2_keptIn 37 = .ok (.iinc 3 1, 3) := by decide +kernel
theorem dX2_keptIn_40 : decode cX2_keptIn 40 = .ok (.goto (-36), 3) := by decide +kernel
theorem dX2_keptIn_43 : decode cX2_keptIn 43 = .ok (.iload_n 2, 1) := by decide +kernel
theorem dX2_keptIn_44 : decode cX2_keptIn 44 = .ok (.ireturn, 1) := by decide +kernel
theorem dX3_init_0 : decode cX3_init 0 = .ok (.aload_n 0, 1) := by decide +kernel
theorem dX3_init_1 : decode cX3_init 1 = .ok (.invokespecial 3, 3) := by decide +kernel
theorem dX3_init_4 : decode cX3_init 4 = .ok (.aload_n 0, 1) := by decide +kernel
theorem dX3_init_5 : decode cX3_init 5 = .ok (.iconst 4, 1) := by decide +kernel
theorem dX3_init_6 : decode cX3_init 6 = .ok (.putfield 9, 3) := by decide +kernel
theorem dX3_init_9 : decode cX3_init 9 = .ok (.aload_n 0, 1) := by decide +kernel
theorem dX3_init_10 : decode cX3_init 10 = .ok (.iconst 0, 1) := by decide +kernel
theorem dX3_init_11 : decode cX3_init 11 = .ok (.putfield 15, 3) := by decide +kernel
theorem dX3_init_14 : decode cX3_init 14 = .ok (.aload_n 0, 1) := by decide +kernel
theorem dX3_init_15 : decode cX3_init 15 = .ok (.iconst 0, 1) := by decide +kernel
theorem dX3_init_16 : decode cX3_init 16 = .ok (.putfield 18, 3) := by decide +kernel
theorem dX3_init_19 : decode cX3_init 19 = .ok (.aload_n 0, 1) := by decide +kernel
theorem dX3_init_20 : decode cX3_init 20 = .ok (.iconst 0, 1) := by decide +kernel
theorem dX3_init_21 : decode cX3_init 21 = .ok (.putfield 21, 3) := by decide +kernel
theorem dX3_init_24 : decode cX3_init 24 = .ok (.aload_n 0, 1) := by decide +kernel
theorem dX3_init_25 : decode cX3_init 25 = .ok (.bipush 8, 2) := by decide +kernel
theorem dX3_init_27 : decode cX3_init 27 = .ok (.newarray .int, 2) := by decide +kernel
theorem dX3_init_29 : decode cX3_init 29 = .ok (.putfield 24, 3) := by decide +kernel
theorem dX3_init_32 : decode cX3_init 32 = .ok (.aload_n 0, 1) := by decide +kernel
theorem dX3_init_33 : decode cX3_init 33 = .ok (.bipush 8, 2) := by decide +kernel
theorem dX3_init_35 : decode cX3_init 35 = .ok (.newarray .int, 2) := by decide +kernel
theorem dX3_init_37 : decode cX3_init 37 = .ok (.putfield 28, 3) := by decide +kernel
theorem dX3_init_40 : decode cX3_init 40 = .ok (.aload_n 0, 1) := by decide +kernel
theorem dX3_init_41 : decode cX3_init 41 = .ok (.bipush 6, 2) := by decide +kernel
theorem dX3_init_43 : decode cX3_init 43 = .ok (.newarray .int, 2) := by decide +kernel
theorem dX3_init_45 : decode cX3_init 45 = .ok (.putfield 31, 3) := by decide +kernel
theorem dX3_init_48 : decode cX3_init 48 = .ok (.aload_n 0, 1) := by decide +kernel
theorem dX3_init_49 : decode cX3_init 49 = .ok (.bipush 6, 2) := by decide +kernel
theorem dX3_init_51 : decode cX3_init 51 = .ok (.newarray .int, 2) := by decide +kernel
theorem dX3_init_53 : decode cX3_init 53 = .ok (.putfield 34, 3) := by decide +kernel
theorem dX3_init_56 : decode cX3_init 56 = .ok (.aload_n 0, 1) := by decide +kernel
theorem dX3_init_57 : decode cX3_init 57 = .ok (.bipush 6, 2) := by decide +kernel
theorem dX3_init_59 : decode cX3_init 59 = .ok (.newarray .int, 2) := by decide +kernel
theorem dX3_init_61 : decode cX3_init 61 = .ok (.putfield 37, 3) := by decide +kernel
theorem dX3_init_64 : decode cX3_init 64 = .ok (.aload_n 0, 1) := by decide +kernel
theorem dX3_init_65 : decode cX3_init 65 = .ok (.bipush 6, 2) := by decide +kernel
theorem dX3_init_67 : decode cX3_init 67 = .ok (.newarray .int, 2) := by decide +kernel
theorem dX3_init_69 : decode cX3_init 69 = .ok (.putfield 40, 3) := by decide +kernel
theorem dX3_init_72 : decode cX3_init 72 = .ok (.aload_n 0, 1) := by decide +kernel
theorem dX3_init_73 : decode cX3_init 73 = .ok (.bipush 6, 2) := by decide +kernel
theorem dX3_init_75 : decode cX3_init 75 = .ok (.newarray .int, 2) := by decide +kernel
theorem dX3_init_77 : decode cX3_init 77 = .ok (.putfield 43, 3) := by decide +kernel
theorem dX3_init_80 : decode cX3_init 80 = .ok (.aload_n 0, 1) := by decide +kernel
theorem dX3_init_81 : decode cX3_init 81 = .ok (.iconst (-1), 1) := by decide +kernel
theorem dX3_init_82 : decode cX3_init 82 = .ok (.putfield 46, 3) := by decide +kernel
theorem dX3_init_85 : decode cX3_init 85 = .ok (.aload_n 0, 1) := by decide +kernel
theorem dX3_init_86 : decode cX3_init 86 = .ok (.iconst (-1), 1) := by decide +kernel
theorem dX3_init_87 : decode cX3_init 87 = .ok (.putfield 49, 3) := by decide +kernel
theorem dX3_init_90 : decode cX3_init 90 = .ok (.aload_n 0, 1) := by decide +kernel
theorem dX3_init_91 : decode cX3_init 91 = .ok (.iconst (-1), 1) := by decide +kernel
theorem dX3_init_92 : decode cX3_init 92 = .ok (.putfield 52, 3) := by decide +kernel
theorem dX3_init_95 : decode cX3_init 95 = .ok (.return_, 1) := by decide +kernel
theorem dX3_become_0 : decode cX3_become 0 = .ok (.aload_n 0, 1) := by decide +kernel
theorem dX3_become_1 : decode cX3_become 1 = .ok (.aload_n 1, 1) := by decide +kernel
theorem dX3_become_2 : decode cX3_become 2 = .ok (.getfield 9, 3) := by decide +kernel
theorem dX3_become_5 : decode cX3_become 5 = .ok (.putfield 9, 3) := by decide +kernel
theorem dX3_become_8 : decode cX3_become 8 = .ok (.aload_n 0, 1) := by decide +kernel
theorem dX3_become_9 : decode cX3_become 9 = .ok (.aload_n 1, 1) := by decide +kernel
theorem dX3_become_10 : decode cX3_become 10 = .ok (.getfield 15, 3) := by decide +kernel
theorem dX3_become_13 : decode cX3_become 13 = .ok (.putfield 15, 3) := by decide +kernel
theorem dX3_become_16 : decode cX3_become 16 = .ok (.aload_n 0, 1) := by decide +kernel
theorem dX3_become_17 : decode cX3_become 17 = .ok (.aload_n 1, 1) := by decide +kernel
theorem dX3_become_18 : decode cX3_become 18 = .ok (.getfield 18, 3) := by decide +kernel
theorem dX3_become_21 : decode cX3_become 21 = .ok (.putfield 18, 3) := by decide +kernel
theorem dX3_become_24 : decode cX3_become 24 = .ok (.aload_n 0, 1) := by decide +kernel
theorem dX3_become_25 : decode cX3_become 25 = .ok (.aload_n 1, 1) := by decide +kernel
theorem dX3_become_26 : decode cX3_become 26 = .ok (.getfield 21, 3) := by decide +kernel
theorem dX3_become_29 : decode cX3_become 29 = .ok (.putfield 21, 3) := by decide +kernel
theorem dX3_become_32 : decode cX3_become 32 = .ok (.aload_n 1, 1) := by decide +kernel
theorem dX3_become_33 : decode cX3_become 33 = .ok (.getfield 24, 3) := by decide +kernel
theorem dX3_become_36 : decode cX3_become 36 = .ok (.iconst 0, 1) := by decide +kernel
theorem dX3_become_37 : decode cX3_become 37 = .ok (.aload_n 0, 1) := by decide +kernel
theorem dX3_become_38 : decode cX3_become 38 = .ok (.getfield 24, 3) := by decide +kernel
theorem dX3_become_41 : decode cX3_become 41 = .ok (.iconst 0, 1) := by decide +kernel
theorem dX3_become_42 : decode cX3_become 42 = .ok (.bipush 8, 2) := by decide +kernel
theorem dX3_become_44 : decode cX3_become 44 = .ok (.invokestatic 55, 3) := by decide +kernel
theorem dX3_become_47 : decode cX3_become 47 = .ok (.aload_n 1, 1) := by decide +kernel
theorem dX3_become_48 : decode cX3_become 48 = .ok (.getfield 28, 3) := by decide +kernel
theorem dX3_become_51 : decode cX3_become 51 = .ok (.iconst 0, 1) := by decide +kernel
theorem dX3_become_52 : decode cX3_become 52 = .ok (.aload_n 0, 1) := by decide +kernel
theorem dX3_become_53 : decode cX3_become 53 = .ok (.getfield 28, 3) := by decide +kernel
theorem dX3_become_56 : decode cX3_become 56 = .ok (.iconst 0, 1) := by decide +kernel
theorem dX3_become_57 : decode cX3_become 57 = .ok (.bipush 8, 2) := by decide +kernel
theorem dX3_become_59 : decode cX3_become 59 = .ok (.invokestatic 55, 3) := by decide +kernel
theorem dX3_become_62 : decode cX3_become 62 = .ok (.aload_n 1, 1) := by decide +kernel
theorem dX3_become_63 : decode cX3_become 63 = .ok (.getfield 31, 3) := by decide +kernel
theorem dX3_become_66 : decode cX3_become 66 = .ok (.iconst 0, 1) := by decide +kernel
theorem dX3_become_67 : decode cX3_become 67 = .ok (.aload_n 0, 1) := by decide +kernel
theorem dX3_become_68 : decode cX3_become 68 = .ok (.getfield 31, 3) := by decide +kernel
theorem dX3_become_71 : decode cX3_become 71 = .ok (.iconst 0, 1) := by decide +kernel
theorem dX3_become_72 : decode cX3_become 72 = .ok (.bipush 6, 2) := by decide +kernel
theorem dX3_become_74 : decode cX3_become 74 = .ok (.invokestatic 55, 3) := by decide +kernel
theorem dX3_become_77 : decode cX3_become 77 = .ok (.aload_n 1, 1) := by decide +kernel
theorem dX3_become_78 : decode cX3_become 78 = .ok (.getfield 34, 3) := by decide +kernel
theorem dX3_become_81 : decode cX3_become 81 = .ok (.iconst 0, 1) := by decide +kernel
theorem dX3_become_82 : decode cX3_become 82 = .ok (.aload_n 0, 1) := by decide +kernel
theorem dX3_become_83 : decode cX3_become 83 = .ok (.getfield 34, 3) := by decide +kernel
theorem dX3_become_86 : decode cX3_become 86 = .ok (.iconst 0, 1) := by decide +kernel
theorem dX3_become_87 : decode cX3_become 87 = .ok (.bipush 6, 2) := by decide +kernel
theorem dX3_become_89 : decode cX3_become 89 = .ok (.invokestatic 55, 3) := by decide +kernel
theorem dX3_become_92 : decode cX3_become 92 = .ok (.aload_n 1, 1) := by decide +kernel
theorem dX3_become_93 : decode cX3_become 93 = .ok (.getfield 37, 3) := by decide +kernel
theorem dX3_become_96 : decode cX3_become 96 = .ok (.iconst 0, 1) := by decide +kernel
theorem dX3_become_97 : decode cX3_become 97 = .ok (.aload_n 0, 1) := by decide +kernel
theorem dX3_become_98 : decode cX3_become 98 = .ok (.getfield 37, 3) := by decide +kernel
theorem dX3_become_101 : decode cX3_become 101 = .ok (.iconst 0, 1) := by decide +kernel
theorem dX3_become_102 : decode cX3_become 102 = .ok (.bipush 6, 2) := by decide +kernel
theorem dX3_become_104 : decode cX3_become 104 = .ok (.invokestatic 55, 3) := by decide +kernel
theorem dX3_become_107 : decode cX3_become 107 = .ok (.aload_n 1, 1) := by decide +kernel
theorem dX3_become_108 : decode cX3_become 108 = .ok (.getfield 40, 3) := by decide +kernel
theorem dX3_become_111 : decode cX3_become 111 = .ok (.iconst 0, 1) := by decide +kernel
theorem dX3_become_112 : decode cX3_become 112 = .ok (.aload_n 0, 1) := by decide +kernel
theorem dX3_become_113 : decode cX3_become 113 = .ok (.getfield 40, 3) := by decide +kernel
theorem dX3_become_116 : decode cX3_become 116 = .ok (.iconst 0, 1) := by decide +kernel
theorem dX3_become_117 : decode cX3_become 117 = .ok (.bipush 6, 2) := by decide +kernel
theorem dX3_become_119 : decode cX3_become 119 = .ok (.invokestatic 55, 3) := by decide +kernel
theorem dX3_become_122 : decode cX3_become 122 = .ok (.aload_n 1, 1) := by decide +kernel
theorem dX3_become_123 : decode cX3_become 123 = .ok (.getfield 43, 3) := by decide +kernel
theorem dX3_become_126 : decode cX3_become 126 = .ok (.iconst 0, 1) := by decide +kernel
theorem dX3_become_127 : decode cX3_become 127 = .ok (.aload_n 0, 1) := by decide +kernel
theorem dX3_become_128 : decode cX3_become 128 = .ok (.getfield 43, 3) := by decide +kernel
theorem dX3_become_131 : decode cX3_become 131 = .ok (.iconst 0, 1) := by decide +kernel
theorem dX3_become_132 : decode cX3_become 132 = .ok (.bipush 6, 2) := by decide +kernel
theorem dX3_become_134 : decode cX3_become 134 = .ok (.invokestatic 55, 3) := by decide +kernel
theorem dX3_become_137 : decode cX3_become 137 = .ok (.aload_n 0, 1) := by decide +kernel
theorem dX3_become_138 : decode cX3_become 138 = .ok (.aload_n 1, 1) := by decide +kernel
theorem dX3_become_139 : decode cX3_become 139 = .ok (.getfield 46, 3) := by decide +kernel
theorem dX3_become_142 : decode cX3_become 142 = .ok (.putfield 46, 3) := by decide +kernel
theorem dX3_become_145 : decode cX3_become 145 = .ok (.aload_n 0, 1) := by decide +kernel
theorem dX3_become_146 : decode cX3_become 146 = .ok (.aload_n 1, 1) := by decide +kernel
theorem dX3_become_147 : decode cX3_become 147 = .ok (.getfield 49, 3) := by decide +kernel
theorem dX3_become_150 : decode cX3_become 150 = .ok (.putfield 49, 3) := by decide +kernel
theorem dX3_become_153 : decode cX3_become 153 = .ok (.aload_n 0, 1) := by decide +kernel
theorem dX3_become_154 : decode cX3_become 154 = .ok (.aload_n 1, 1) := by decide +kernel
theorem dX3_become_155 : decode cX3_become 155 = .ok (.getfield 52, 3) := by decide +kernel
theorem dX3_become_158 : decode cX3_become 158 = .ok (.putfield 52, 3) := by decide +kernel
theorem dX3_become_161 : decode cX3_become 161 = .ok (.return_, 1) := by decide +kernel
theorem dX3_hasPlace_0 : decode cX3_hasPlace 0 = .ok (.iload_n 1, 1) := by decide +kernel
theorem dX3_hasPlace_1 : decode cX3_hasPlace 1 = .ok (.ifCond .lt 15, 3) := by decide +kernel
theorem dX3_hasPlace_4 : decode cX3_hasPlace 4 = .ok (.iload_n 1, 1) := by decide +kernel
theorem dX3_hasPlace_5 : decode cX3_hasPlace 5 = .ok (.aload_n 0, 1) := by decide +kernel
theorem dX3_hasPlace_6 : decode cX3_hasPlace 6 = .ok (.getfield 9, 3) := by decide +kernel
theorem dX3_hasPlace_9 : decode cX3_hasPlace 9 = .ok (.if_icmp .ge 7, 3) := by decide +kernel
theorem dX3_hasPlace_12 : decode cX3_hasPlace 12 = .ok (.iconst 1, 1) := by decide +kernel
theorem dX3_hasPlace_13 : decode cX3_hasPlace 13 = .ok (.goto 4, 3) := by decide +kernel
theorem dX3_hasPlace_16 : decode cX3_hasPlace 16 = .ok (.iconst 0, 1) := by decide +kernel
theorem dX3_hasPlace_17 : decode cX3_hasPlace 17 = .ok (.ireturn, 1) := by decide +kernel
theorem dX3_hasRoad_0 : decode cX3_hasRoad 0 = .ok (.iload_n 1, 1) := by decide +kernel
theorem dX3_hasRoad_1 : decode cX3_hasRoad 1 = .ok (.ifCond .lt 15, 3) := by decide +kernel
theorem dX3_hasRoad_4 : decode cX3_hasRoad 4 = .ok (.iload_n 1, 1) := by decide +kernel
theorem dX3_hasRoad_5 : decode cX3_hasRoad 5 = .ok (.aload_n 0, 1) := by decide +kernel
theorem dX3_hasRoad_6 : decode cX3_hasRoad 6 = .ok (.getfield 15, 3) := by decide +kernel
theorem dX3_hasRoad_9 : decode cX3_hasRoad 9 = .ok (.if_icmp .ge 7, 3) := by decide +kernel
theorem dX3_hasRoad_12 : decode cX3_hasRoad 12 = .ok (.iconst 1, 1) := by decide +kernel
theorem dX3_hasRoad_13 : decode cX3_hasRoad 13 = .ok (.goto 4, 3) := by decide +kernel
theorem dX3_hasRoad_16 : decode cX3_hasRoad 16 = .ok (.iconst 0, 1) := by decide +kernel
theorem dX3_hasRoad_17 : decode cX3_hasRoad 17 = .ok (.ireturn, 1) := by decide +kernel
theorem dX3_hasFact_0 : decode cX3_hasFact 0 = .ok (.iload_n 1, 1) := by decide +kernel
theorem dX3_hasFact_1 : decode cX3_hasFact 1 = .ok (.ifCond .lt 15, 3) := by decide +kernel
theorem dX3_hasFact_4 : decode cX3_hasFact 4 = .ok (.iload_n 1, 1) := by decide +kernel
theorem dX3_hasFact_5 : decode cX3_hasFact 5 = .ok (.aload_n 0, 1) := by decide +kernel
theorem dX3_hasFact_6 : decode cX3_hasFact 6 = .ok (.getfield 18, 3) := by decide +kernel
theorem dX3_hasFact_9 : decode cX3_hasFact 9 = .ok (.if_icmp .ge 7, 3) := by decide +kernel
theorem dX3_hasFact_12 : decode cX3_hasFact 12 = .ok (.iconst 1, 1) := by decide +kernel
theorem dX3_hasFact_13 : decode cX3_hasFact 13 = .ok (.goto 4, 3) := by decide +kernel
theorem dX3_hasFact_16 : decode cX3_hasFact 16 = .ok (.iconst 0, 1) := by decide +kernel
theorem dX3_hasFact_17 : decode cX3_hasFact 17 = .ok (.ireturn, 1) := by decide +kernel
theorem dX3_hasSign_0 : decode cX3_hasSign 0 = .ok (.iload_n 1, 1) := by decide +kernel
theorem dX3_hasSign_1 : decode cX3_hasSign 1 = .ok (.ifCond .lt 15, 3) := by decide +kernel
theorem dX3_hasSign_4 : decode cX3_hasSign 4 = .ok (.iload_n 1, 1) := by decide +kernel
theorem dX3_hasSign_5 : decode cX3_hasSign 5 = .ok (.aload_n 0, 1) := by decide +kernel
theorem dX3_hasSign_6 : decode cX3_hasSign 6 = .ok (.getfield 21, 3) := by decide +kernel
theorem dX3_hasSign_9 : decode cX3_hasSign 9 = .ok (.if_icmp .ge 7, 3) := by decide +kernel
theorem dX3_hasSign_12 : decode cX3_hasSign 12 = .ok (.iconst 1, 1) := by decide +kernel
theorem dX3_hasSign_13 : decode cX3_hasSign 13 = .ok (.goto 4, 3) := by decide +kernel
theorem dX3_hasSign_16 : decode cX3_hasSign 16 = .ok (.iconst 0, 1) := by decide +kernel
theorem dX3_hasSign_17 : decode cX3_hasSign 17 = .ok (.ireturn, 1) := by decide +kernel
theorem dX3_hasInn_0 : decode cX3_hasInn 0 = .ok (.aload_n 0, 1) := by decide +kernel
theorem dX3_hasInn_1 : decode cX3_hasInn 1 = .ok (.getfield 52, 3) := by decide +kernel
theorem dX3_hasInn_4 : decode cX3_hasInn 4 = .ok (.ifCond .lt 7, 3) := by decide +kernel
theorem dX3_hasInn_7 : decode cX3_hasInn 7 = .ok (.iconst 1, 1) := by decide +kernel
theorem dX3_hasInn_8 : decode cX3_hasInn 8 = .ok (.goto 4, 3) := by decide +kernel
theorem dX3_hasInn_11 : decode cX3_hasInn 11 = .ok (.iconst 0, 1) := by decide +kernel
theorem dX3_hasInn_12 : decode cX3_hasInn 12 = .ok (.ireturn, 1) := by decide +kernel
theorem dX3_signMask_0 : decode cX3_signMask 0 = .ok (.iconst 1, 1) := by decide +kernel
theorem dX3_signMask_1 : decode cX3_signMask 1 = .ok (.aload_n 0, 1) := by decide +kernel
theorem dX3_signMask_2 : decode cX3_signMask 2 = .ok (.getfield 21, 3) := by decide +kernel
theorem dX3_signMask_5 : decode cX3_signMask 5 = .ok (.ishl, 1) := by decide +kernel
theorem dX3_signMask_6 : decode cX3_signMask 6 = .ok (.iconst 1, 1) := by decide +kernel
theorem dX3_signMask_7 : decode cX3_signMask 7 = .ok (.isub, 1) := by decide +kernel
theorem dX3_signMask_8 : decode cX3_signMask 8 = .ok (.ireturn, 1) := by decide +kernel
theorem dX3_worldMask_0 : decode cX3_worldMask 0 = .ok (.iconst 1, 1) := by decide +kernel
theorem dX3_worldMask_1 : decode cX3_worldMask 1 = .ok (.aload_n 0, 1) := by decide +kernel
theorem dX3_worldMask_2 : decode cX3_worldMask 2 = .ok (.getfield 18, 3) := by decide +kernel
theorem dX3_worldMask_5 : decode cX3_worldMask 5 = .ok (.ishl, 1) := by decide +kernel
theorem dX3_worldMask_6 : decode cX3_worldMask 6 = .ok (.iconst 1, 1) := by decide +kernel
theorem dX3_worldMask_7 : decode cX3_worldMask 7 = .ok (.isub, 1) := by decide +kernel
theorem dX3_worldMask_8 : decode cX3_worldMask 8 = .ok (.aload_n 0, 1) := by decide +kernel
theorem dX3_worldMask_9 : decode cX3_worldMask 9 = .ok (.invokevirtual 61, 3) := by decide +kernel
theorem dX3_worldMask_12 : decode cX3_worldMask 12 = .ok (.iconst 4, 1) := by decide +kernel
theorem dX3_worldMask_13 : decode cX3_worldMask 13 = .ok (.ishl, 1) := by decide +kernel
theorem dX3_worldMask_14 : decode cX3_worldMask 14 = .ok (.ior, 1) := by decide +kernel
theorem dX3_worldMask_15 : decode cX3_worldMask 15 = .ok (.ireturn, 1) := by decide +kernel
theorem dX3_innIn_0 : decode cX3_innIn 0 = .ok (.iload_n 1, 1) := by decide +kernel
theorem dX3_innIn_1 : decode cX3_innIn 1 = .ok (.aload_n 0, 1) := by decide +kernel
theorem dX3_innIn_2 : decode cX3_innIn 2 = .ok (.getfield 52, 3) := by decide +kernel
theorem dX3_innIn_5 : decode cX3_innIn 5 = .ok (.invokestatic 65, 3) := by decide +kernel
theorem dX3_innIn_8 : decode cX3_innIn 8 = .ok (.ifCond .eq 10, 3) := by decide +kernel
theorem dX3_innIn_11 : decode cX3_innIn 11 = .ok (.aload_n 0, 1) := by decide +kernel
theorem dX3_innIn_12 : decode cX3_innIn 12 = .ok (.getfield 46, 3) := by decide +kernel
theorem dX3_innIn_15 : decode cX3_innIn 15 = .ok (.goto 7, 3) := by decide +kernel
theorem dX3_innIn_18 : decode cX3_innIn 18 = .ok (.aload_n 0, 1) := by decide +kernel
theorem dX3_innIn_19 : decode cX3_innIn 19 = .ok (.getfield 49, 3) := by decide +kernel
theorem dX3_innIn_22 : decode cX3_innIn 22 = .ok (.ireturn, 1) := by decide +kernel
theorem dX3_isRoadBetween_0 : decode cX3_isRoadBetween 0 = .ok (.iconst 0, 1) := by decide +kernel
theorem dX3_isRoadBetween_1 : decode cX3_isRoadBetween 1 = .ok (.istore_n 3, 1) := by decide +kernel
theorem dX3_isRoadBetween_2 : decode cX3_isRoadBetween 2 = .ok (.iload_n 3, 1) := by decide +kernel
theorem dX3_isRoadBetween_3 : decode cX3_isRoadBetween 3 = .ok (.aload_n 0, 1) := by decide +kernel
theorem dX3_isRoadBetween_4 : decode cX3_isRoadBetween 4 = .ok (.getfield 15, 3) := by decide +kernel
theorem dX3_isRoadBetween_7 : decode cX3_isRoadBetween 7 = .ok (.if_icmp .ge 51, 3) := by decide +kernel
theorem dX3_isRoadBetween_10 : decode cX3_isRoadBetween 10 = .ok (.aload_n 0, 1) := by decide +kernel
theorem dX3_isRoadBetween_11 : decode cX3_isRoadBetween 11 = .ok (.getfield 24, 3) := by decide +kernel
theorem dX3_isRoadBetween_14 : decode cX3_isRoadBetween 14 = .ok (.iload_n 3, 1) := by decide +kernel
theorem dX3_isRoadBetween_15 : decode cX3_isRoadBetween 15 = .ok (.iaload, 1) := by decide +kernel
theorem dX3_isRoadBetween_16 : decode cX3_isRoadBetween 16 = .ok (.iload_n 1, 1) := by decide +kernel
theorem dX3_isRoadBetween_17 : decode cX3_isRoadBetween 17 = .ok (.if_icmp .ne 13, 3) := by decide +kernel
theorem dX3_isRoadBetween_20 : decode cX3_isRoadBetween 20 = .ok (.aload_n 0, 1) := by decide +kernel
theorem dX3_isRoadBetween_21 : decode cX3_isRoadBetween 21 = .ok (.getfield 28, 3) := by decide +kernel
theorem dX3_isRoadBetween_24 : decode cX3_isRoadBetween 24 = .ok (.iload_n 3, 1) := by decide +kernel
theorem dX3_isRoadBetween_25 : decode cX3_isRoadBetween 25 = .ok (.iaload, 1) := by decide +kernel
theorem dX3_isRoadBetween_26 : decode cX3_isRoadBetween 26 = .ok (.iload_n 2, 1) := by decide +kernel
theorem dX3_isRoadBetween_27 : decode cX3_isRoadBetween 27 = .ok (.if_icmp .eq 23, 3) := by decide +kernel
theorem dX3_isRoadBetween_30 : decode cX3_isRoadBetween 30 = .ok (.aload_n 0, 1) := by decide +kernel
theorem dX3_isRoadBetween_31 : decode cX3_isRoadBetween 31 = .ok (.getfield 24, 3) := by decide +kernel
theorem dX3_isRoadBetween_34 : decode cX3_isRoadBetween 34 = .ok (.iload_n 3, 1) := by decide +kernel
theorem dX3_isRoadBetween_35 : decode cX3_isRoadBetween 35 = .ok (.iaload, 1) := by decide +kernel
theorem dX3_isRoadBetween_36 : decode cX3_isRoadBetween 36 = .ok (.iload_n 2, 1) := by decide +kernel
theorem dX3_isRoadBetween_37 : decode cX3_isRoadBetween 37 = .ok (.if_icmp .ne 15, 3) := by decide +kernel
theorem dX3_isRoadBetween_40 : decode cX3_isRoadBetween 40 = .ok (.aload_n 0, 1) := by decide +kernel
theorem dX3_isRoadBetween_41 : decode cX3_isRoadBetween 41 = .ok (.getfield 28, 3) := by decide +kernel
theorem dX3_isRoadBetween_44 : decode cX3_isRoadBetween 44 = .ok (.iload_n 3, 1) := by decide +kernel
theorem dX3_isRoadBetween_45 : decode cX3_isRoadBetween 45 = .ok (.iaload, 1) := by decide +kernel
theorem dX3_isRoadBetween_46 : decode cX3_isRoadBetween 46 = .ok (.iload_n 1, 1) := by decide +kernel
theorem dX3_isRoadBetween_47 : decode cX3_isRoadBetween 47 = .ok (.if_icmp .ne 5, 3) := by decide +kernel
theorem dX3_isRoadBetween_50 : decode cX3_isRoadBetween 50 = .ok (.iconst 1, 1) := by decide +kernel
theorem dX3_isRoadBetween_51 : decode cX3_isRoadBetween 51 = .ok (.ireturn, 1) := by decide +kernel
theorem dX3_isRoadBetween_52 : decode cX3_isRoadBetween 52 = .ok (.iinc 3 1, 3) := by decide +kernel
theorem dX3_isRoadBetween_55 : decode cX3_isRoadBetween 55 = .ok (.goto (-53), 3) := by decide +kernel
theorem dX3_isRoadBetween_58 : decode cX3_isRoadBetween 58 = .ok (.iconst 0, 1) := by decide +kernel
theorem dX3_isRoadBetween_59 : decode cX3_isRoadBetween 59 = .ok (.ireturn, 1) := by decide +kernel
theorem dX3_signsOn_0 : decode cX3_signsOn 0 = .ok (.iconst 0, 1) := by decide +kernel
theorem dX3_signsOn_1 : decode cX3_signsOn 1 = .ok (.istore_n 2, 1) := by decide +kernel
theorem dX3_signsOn_2 : decode cX3_signsOn 2 = .ok (.iconst 0, 1) := by decide +kernel
theorem dX3_signsOn_3 : decode cX3_signsOn 3 = .ok (.istore_n 3, 1) := by decide +kernel
theorem dX3_signsOn_4 : decode cX3_signsOn 4 = .ok (.iload_n 3, 1) := by decide +kernel
theorem dX3_signsOn_5 : decode cX3_signsOn 5 = .ok (.aload_n 0, 1) := by decide +kernel
theorem dX3_signsOn_6 : decode cX3_signsOn 6 = .ok (.getfield 21, 3) := by decide +kernel
theorem dX3_signsOn_9 : decode cX3_signsOn 9 = .ok (.if_icmp .ge 25, 3) := by decide +kernel
theorem dX3_signsOn_12 : decode cX3_signsOn 12 = .ok (.aload_n 0, 1) := by decide +kernel
theorem dX3_signsOn_13 : decode cX3_signsOn 13 = .ok (.getfield 34, 3) := by decide +kernel
theorem dX3_signsOn_16 : decode cX3_signsOn 16 = .ok (.iload_n 3, 1) := by decide +kernel
theorem dX3_signsOn_17 : decode cX3_signsOn 17 = .ok (.iaload, 1) := by decide +kernel
theorem dX3_signsOn_18 : decode cX3_signsOn 18 = .ok (.iload_n 1, 1) := by decide +kernel
theorem dX3_signsOn_19 : decode cX3_signsOn 19 = .ok (.if_icmp .ne 9, 3) := by decide +kernel
theorem dX3_signsOn_22 : decode cX3_signsOn 22 = .ok (.iload_n 2, 1) := by decide +kernel
theorem dX3_signsOn_23 : decode cX3_signsOn 23 = .ok (.iconst 1, 1) := by decide +kernel
theorem dX3_signsOn_24 : decode cX3_signsOn 24 = .ok (.iload_n 3, 1) := by decide +kernel
theorem dX3_signsOn_25 : decode cX3_signsOn 25 = .ok (.ishl, 1) := by decide +kernel
theorem dX3_signsOn_26 : decode cX3_signsOn 26 = .ok (.ior, 1) := by decide +kernel
theorem dX3_signsOn_27 : decode cX3_signsOn 27 = .ok (.istore_n 2, 1) := by decide +kernel
theorem dX3_signsOn_28 : decode cX3_signsOn 28 = .ok (.iinc 3 1, 3) := by decide +kernel
theorem dX3_signsOn_31 : decode cX3_signsOn 31 = .ok (.goto (-27), 3) := by decide +kernel
theorem dX3_signsOn_34 : decode cX3_signsOn 34 = .ok (.iload_n 2, 1) := by decide +kernel
theorem dX3_signsOn_35 : decode cX3_signsOn 35 = .ok (.ireturn, 1) := by decide +kernel
theorem dX3_take_0 : decode cX3_take 0 = .ok (.aload_n 1, 1) := by decide +kernel
theorem dX3_take_1 : decode cX3_take 1 = .ok (.iload_n 2, 1) := by decide +kernel
theorem dX3_take_2 : decode cX3_take 2 = .ok (.iconst 1, 1) := by decide +kernel
theorem dX3_take_3 : decode cX3_take 3 = .ok (.iadd, 1) := by decide +kernel
theorem dX3_take_4 : decode cX3_take 4 = .ok (.invokevirtual 71, 3) := by decide +kernel
theorem dX3_take_7 : decode cX3_take 7 = .ok (.istore_n 3, 1) := by decide +kernel
theorem dX3_take_8 : decode cX3_take 8 = .ok (.aload_n 1, 1) := by decide +kernel
theorem dX3_take_9 : decode cX3_take 9 = .ok (.iload_n 2, 1) := by decide +kernel
theorem dX3_take_10 : decode cX3_take 10 = .ok (.iconst 2, 1) := by decide +kernel
theorem dX3_take_11 : decode cX3_take 11 = .ok (.iadd, 1) := by decide +kernel
theorem dX3_take_12 : decode cX3_take 12 = .ok (.invokevirtual 71, 3) := by decide +kernel
theorem dX3_take_15 : decode cX3_take 15 = .ok (.istore 4, 2) := by decide +kernel
theorem dX3_take_17 : decode cX3_take 17 = .ok (.aload_n 1, 1) := by decide +kernel
theorem dX3_take_18 : decode cX3_take 18 = .ok (.iload_n 2, 1) := by decide +kernel
theorem dX3_take_19 : decode cX3_take 19 = .ok (.iconst 3, 1) := by decide +kernel
theorem dX3_take_20 : decode cX3_take 20 = .ok (.iadd, 1) := by decide +kernel
theorem dX3_take_21 : decode cX3_take 21 = .ok (.invokevirtual 71, 3) := by decide +kernel
theorem dX3_take_24 : decode cX3_take 24 = .ok (.istore 5, 2) := by decide +kernel
theorem dX3_take_26 : decode cX3_take 26 = .ok (.aload_n 1, 1) := by decide +kernel
theorem dX3_take_27 : decode cX3_take 27 = .ok (.iload_n 2, 1) := by decide +kernel
theorem dX3_take_28 : decode cX3_take 28 = .ok (.invokevirtual 77, 3) := by decide +kernel
theorem dX3_take_31 : decode cX3_take 31 = .ok (.tableswitch 128 102 115 #[83, 128, 128, 118, 128, 128, 110, 128, 69, 128, 128, 128, 75, 88], 69) := by decide +kernel
theorem dX3_take_100 : decode cX3_take 100 = .ok (.aload_n 0, 1) := by decide +kernel
theorem dX3_take_101 : decode cX3_take 101 = .ok (.iload_n 3, 1) := by decide +kernel
theorem dX3_take_102 : decode cX3_take 102 = .ok (.invokevirtual 80, 3) := by decide +kernel
theorem dX3_take_105 : decode cX3_take 105 = .ok (.ireturn, 1) := by decide +kernel
theorem dX3_take_106 : decode cX3_take 106 = .ok (.aload_n 0, 1) := by decide +kernel
theorem dX3_take_107 : decode cX3_take 107 = .ok (.iload_n 3, 1) := by decide +kernel
theorem dX3_take_108 : decode cX3_take 108 = .ok (.iload 4, 2) := by decide +kernel
theorem dX3_take_110 : decode cX3_take 110 = .ok (.invokevirtual 84, 3) := by decide +kernel
theorem dX3_take_113 : decode cX3_take 113 = .ok (.ireturn, 1) := by decide +kernel
theorem dX3_take_114 : decode cX3_take 114 = .ok (.aload_n 0, 1) := by decide +kernel
theorem dX3_take_115 : decode cX3_take 115 = .ok (.invokevirtual 87, 3) := by decide +kernel
theorem dX3_take_118 : decode cX3_take 118 = .ok (.ireturn, 1) := by decide +kernel
theorem dX3_take_119 : decode cX3_take 119 = .ok (.aload_n 0, 1) := by decide +kernel
theorem dX3_take_120 : decode cX3_take 120 = .ok (.iload_n 3, 1) := by decide +kernel
theorem dX3_take_121 : decode cX3_take 121 = .ok (.aload_n 1, 1) := by decide +kernel
theorem dX3_take_122 : decode cX3_take 122 = .ok (.iload_n 2, 1) := by decide +kernel
theorem dX3_take_123 : decode cX3_take 123 = .ok (.iconst 2, 1) := by decide +kernel
theorem dX3_take_124 : decode cX3_take 124 = .ok (.iadd, 1) := by decide +kernel
theorem dX3_take_125 : decode cX3_take 125 = .ok (.invokevirtual 91, 3) := by decide +kernel
theorem dX3_take_128 : decode cX3_take 128 = .ok (.iload 5, 2) := by decide +kernel
theorem dX3_take_130 : decode cX3_take 130 = .ok (.aload_n 1, 1) := by decide +kernel
theorem dX3_take_131 : decode cX3_take 131 = .ok (.iload_n 2, 1) := by decide +kernel
theorem dX3_take_132 : decode cX3_take 132 = .ok (.iconst 4, 1) := by decide +kernel
theorem dX3_take_133 : decode cX3_take 133 = .ok (.iadd, 1) := by decide +kernel
theorem dX3_take_134 : decode cX3_take 134 = .ok (.invokevirtual 71, 3) := by decide +kernel
theorem dX3_take_137 : decode cX3_take 137 = .ok (.invokevirtual 94, 3) := by decide +kernel
theorem dX3_take_140 : decode cX3_take 140 = .ok (.ireturn, 1) := by decide +kernel
theorem dX3_take_141 : decode cX3_take 141 = .ok (.aload_n 0, 1) := by decide +kernel
theorem dX3_take_142 : decode cX3_take 142 = .ok (.iload_n 3, 1) := by decide +kernel
theorem dX3_take_143 : decode cX3_take 143 = .ok (.iload 4, 2) := by decide +kernel
theorem dX3_take_145 : decode cX3_take 145 = .ok (.invokevirtual 98, 3) := by decide +kernel
theorem dX3_take_148 : decode cX3_take 148 = .ok (.ireturn, 1) := by decide +kernel
theorem dX3_take_149 : decode cX3_take 149 = .ok (.aload_n 0, 1) := by decide +kernel
theorem dX3_take_150 : decode cX3_take 150 = .ok (.iload_n 3, 1) := by decide +kernel
theorem dX3_take_151 : decode cX3_take 151 = .ok (.iload 4, 2) := by decide +kernel
theorem dX3_take_153 : decode cX3_take 153 = .ok (.iload 5, 2) := by decide +kernel
theorem dX3_take_155 : decode cX3_take 155 = .ok (.invokevirtual 101, 3) := by decide +kernel
theorem dX3_take_158 : decode cX3_take 158 = .ok (.ireturn, 1) := by decide +kernel
theorem dX3_take_159 : decode cX3_take 159 = .ok (.iconst 0, 1) := by decide +kernel
theorem dX3_take_160 : decode cX3_take 160 = .ok (.ireturn, 1) := by decide +kernel
theorem dX3_takePlaces_0 : decode cX3_takePlaces 0 = .ok (.iload_n 1, 1) := by decide +kernel
theorem dX3_takePlaces_1 : decode cX3_takePlaces 1 = .ok (.iconst 2, 1) := by decide +kernel
theorem dX3_takePlaces_2 : decode cX3_takePlaces 2 = .ok (.if_icmp .lt 17, 3) := by decide +kernel
theorem dX3_takePlaces_5 : decode cX3_takePlaces 5 = .ok (.iload_n 1, 1) := by decide +kernel
theorem dX3_takePlaces_6 : decode cX3_takePlaces 6 = .ok (.bipush 6, 2) := by decide +kernel
theorem dX3_takePlaces_8 : decode cX3_takePlaces 8 = .ok (.if_icmp .gt 11, 3) := by decide +kernel
theorem dX3_takePlaces_11 : decode cX3_takePlaces 11 = .ok (.iload_n 1, 1) := by decide +kernel
theorem dX3_takePlaces_12 : decode cX3_takePlaces 12 = .ok (.aload_n 0, 1) := by decide +kernel
theorem dX3_takePlaces_13 : decode cX3_takePlaces 13 = .ok (.invokevirtual 105, 3) := by decide +kernel
theorem dX3_takePlaces_16 : decode cX3_takePlaces 16 = .ok (.if_icmp .ge 5, 3) := by decide +kernel
theorem dX3_takePlaces_19 : decode cX3_takePlaces 19 = .ok (.iconst 0, 1) := by decide +kernel
theorem dX3_takePlaces_20 : decode cX3_takePlaces 20 = .ok (.ireturn, 1) := by decide +kernel
theorem dX3_takePlaces_21 : decode cX3_takePlaces 21 = .ok (.aload_n 0, 1) := by decide +kernel
theorem dX3_takePlaces_22 : decode cX3_takePlaces 22 = .ok (.iload_n 1, 1) := by decide +kernel
theorem dX3_takePlaces_23 : decode cX3_takePlaces 23 = .ok (.putfield 9, 3) := by decide +kernel
theorem dX3_takePlaces_26 : decode cX3_takePlaces 26 = .ok (.iconst 1, 1) := by decide +kernel
theorem dX3_takePlaces_27 : decode cX3_takePlaces 27 = .ok (.ireturn, 1) := by decide +kernel
theorem dX3_placesToldOf_0 : decode cX3_placesToldOf 0 = .ok (.aload_n 0, 1) := by decide +kernel
theorem dX3_placesToldOf_1 : decode cX3_placesToldOf 1 = .ok (.getfield 46, 3) := by decide +kernel
theorem dX3_placesToldOf_4 : decode cX3_placesToldOf 4 = .ok (.aload_n 0, 1) := by decide +kernel
theorem dX3_placesToldOf_5 : decode cX3_placesToldOf 5 = .ok (.getfield 49, 3) := by decide +kernel
theorem dX3_placesToldOf_8 : decode cX3_placesToldOf 8 = .ok (.invokestatic 108, 3) := by decide +kernel
theorem dX3_placesToldOf_11 : decode cX3_placesToldOf 11 = .ok (.istore_n 1, 1) := by decide +kernel
theorem dX3_placesToldOf_12 : decode cX3_placesToldOf 12 = .ok (.iconst 0, 1) := by decide +kernel
theorem dX3_placesToldOf_13 : decode cX3_placesToldOf 13 = .ok (.istore_n 2, 1) := by decide +kernel
theorem dX3_placesToldOf_14 : decode cX3_placesToldOf 14 = .ok (.iload_n 2, 1) := by decide +kernel
theorem dX3_placesToldOf_15 : decode cX3_placesToldOf 15 = .ok (.aload_n 0, 1) := by decide +kernel
theorem dX3_placesToldOf_16 : decode cX3_placesToldOf 16 = .ok (.getfield 15, 3) := by decide +kernel
theorem dX3_placesToldOf_19 : decode cX3_placesToldOf 19 = .ok (.if_icmp .ge 29, 3) := by decide +kernel
theorem dX3_placesToldOf_22 : decode cX3_placesToldOf 22 = .ok (.iload_n 1, 1) := by decide +kernel
theorem dX3_placesToldOf_23 : decode cX3_placesToldOf 23 = .ok (.aload_n 0, 1) := by decide +kernel
theorem dX3_placesToldOf_24 : decode cX3_placesToldOf 24 = .ok (.getfield 24, 3) := by decide +kernel
theorem dX3_placesToldOf_27 : decode cX3_placesToldOf 27 = .ok (.iload_n 2, 1) := by decide +kernel
theorem dX3_placesToldOf_28 : decode cX3_placesToldOf 28 = .ok (.iaload, 1) := by decide +kernel
theorem dX3_placesToldOf_29 : decode cX3_placesToldOf 29 = .ok (.aload_n 0, 1) := by decide +kernel
theorem dX3_placesToldOf_30 : decode cX3_placesToldOf 30 = .ok (.getfield 28, 3) := by decide +kernel
theorem dX3_placesToldOf_33 : decode cX3_placesToldOf 33 = .ok (.iload_n 2, 1) := by decide +kernel
theorem dX3_placesToldOf_34 : decode cX3_placesToldOf 34 = .ok (.iaload, 1) := by decide +kernel
theorem dX3_placesToldOf_35 : decode cX3_placesToldOf 35 = .ok (.invokestatic 108, 3) := by decide +kernel
theorem dX3_placesToldOf_38 : decode cX3_placesToldOf 38 = .ok (.invokestatic 108, 3) := by decide +kernel
theorem dX3_placesToldOf_41 : decode cX3_placesToldOf 41 = .ok (.istore_n 1, 1) := by decide +kernel
theorem dX3_placesToldOf_42 : decode cX3_placesToldOf 42 = .ok (.iinc 2 1, 3) := by decide +kernel
theorem dX3_placesToldOf_45 : decode cX3_placesToldOf 45 = .ok (.goto (-31), 3) := by decide +kernel
theorem dX3_placesToldOf_48 : decode cX3_placesToldOf 48 = .ok (.iconst 0, 1) := by decide +kernel
theorem dX3_placesToldOf_49 : decode cX3_placesToldOf 49 = .ok (.istore_n 2, 1) := by decide +kernel
theorem dX3_placesToldOf_50 : decode cX3_placesToldOf 50 = .ok (.iload_n 2, 1) := by decide +kernel
theorem dX3_placesToldOf_51 : decode cX3_placesToldOf 51 = .ok (.bipush 6, 2) := by decide +kernel
theorem dX3_placesToldOf_53 : decode cX3_placesToldOf 53 = .ok (.if_icmp .ge 24, 3) := by decide +kernel
theorem dX3_placesToldOf_56 : decode cX3_placesToldOf 56 = .ok (.aload_n 0, 1) := by decide +kernel
theorem dX3_placesToldOf_57 : decode cX3_placesToldOf 57 = .ok (.getfield 43, 3) := by decide +kernel
theorem dX3_placesToldOf_60 : decode cX3_placesToldOf 60 = .ok (.iload_n 2, 1) := by decide +kernel
theorem dX3_placesToldOf_61 : decode cX3_placesToldOf 61 = .ok (.iaload, 1) := by decide +kernel
theorem dX3_placesToldOf_62 : decode cX3_placesToldOf 62 = .ok (.ifCond .eq 9, 3) := by decide +kernel
theorem dX3_placesToldOf_65 : decode cX3_placesToldOf 65 = .ok (.iload_n 1, 1) := by decide +kernel
theorem dX3_placesToldOf_66 : decode cX3_placesToldOf 66 = .ok (.iload_n 2, 1) := by decide +kernel
theorem dX3_placesToldOf_67 : decode cX3_placesToldOf 67 = .ok (.invokestatic 108, 3) := by decide +kernel
theorem dX3_placesToldOf_70 : decode cX3_placesToldOf 70 = .ok (.istore_n 1, 1) := by decide +kernel
theorem dX3_placesToldOf_71 : decode cX3_placesToldOf 71 = .ok (.iinc 2 1, 3) := by decide +kernel
theorem dX3_placesToldOf_74 : decode cX3_placesToldOf 74 = .ok (.goto (-24), 3) := by decide +kernel
theorem dX3_placesToldOf_77 : decode cX3_placesToldOf 77 = .ok (.iload_n 1, 1) := by decide +kernel
theorem dX3_placesToldOf_78 : decode cX3_placesToldOf 78 = .ok (.iconst 1, 1) := by decide +kernel
theorem dX3_placesToldOf_79 : decode cX3_placesToldOf 79 = .ok (.iadd, 1) := by decide +kernel
theorem dX3_placesToldOf_80 : decode cX3_placesToldOf 80 = .ok (.ireturn, 1) := by decide +kernel
theorem dX3_takeRoad_0 : decode cX3_takeRoad 0 = .ok (.aload_n 0, 1) := by decide +kernel
theorem dX3_takeRoad_1 : decode cX3_takeRoad 1 = .ok (.iload_n 1, 1) := by decide +kernel
theorem dX3_takeRoad_2 : decode cX3_takeRoad 2 = .ok (.invokevirtual 114, 3) := by decide +kernel
theorem dX3_takeRoad_5 : decode cX3_takeRoad 5 = .ok (.ifCond .eq 25, 3) := by decide +kernel
theorem dX3_takeRoad_8 : decode cX3_takeRoad 8 = .ok (.aload_n 0, 1) := by decide +kernel
theorem dX3_takeRoad_9 : decode cX3_takeRoad 9 = .ok (.iload_n 2, 1) := by decide +kernel
theorem dX3_takeRoad_10 : decode cX3_takeRoad 10 = .ok (.invokevirtual 114, 3) := by decide +kernel
theorem dX3_takeRoad_13 : decode cX3_takeRoad 13 = .ok (.ifCond .eq 17, 3) := by decide +kernel
theorem dX3_takeRoad_16 : decode cX3_takeRoad 16 = .ok (.iload_n 1, 1) := by decide +kernel
theorem dX3_takeRoad_17 : decode cX3_takeRoad 17 = .ok (.iload_n 2, 1) := by decide +kernel
theorem dX3_takeRoad_18 : decode cX3_takeRoad 18 = .ok (.if_icmp .eq 12, 3) := by decide +kernel
theorem dX3_takeRoad_21 : decode cX3_takeRoad 21 = .ok (.aload_n 0, 1) := by decide +kernel
theorem dX3_takeRoad_22 : decode cX3_takeRoad 22 = .ok (.getfield 15, 3) := by decide +kernel
theorem dX3_takeRoad_25 : decode cX3_takeRoad 25 = .ok (.bipush 8, 2) := by decide +kernel
theorem dX3_takeRoad_27 : decode cX3_takeRoad 27 = .ok (.if_icmp .lt 5, 3) := by decide +kernel
theorem dX3_takeRoad_30 : decode cX3_takeRoad 30 = .ok (.iconst 0, 1) := by decide +kernel
theorem dX3_takeRoad_31 : decode cX3_takeRoad 31 = .ok (.ireturn, 1) := by decide +kernel
theorem dX3_takeRoad_32 : decode cX3_takeRoad 32 = .ok (.aload_n 0, 1) := by decide +kernel
theorem dX3_takeRoad_33 : decode cX3_takeRoad 33 = .ok (.getfield 24, 3) := by decide +kernel
theorem dX3_takeRoad_36 : decode cX3_takeRoad 36 = .ok (.aload_n 0, 1) := by decide +kernel
theorem dX3_takeRoad_37 : decode cX3_takeRoad 37 = .ok (.getfield 15, 3) := by decide +kernel
theorem dX3_takeRoad_40 : decode cX3_takeRoad 40 = .ok (.iload_n 1, 1) := by decide +kernel
theorem dX3_takeRoad_41 : decode cX3_takeRoad 41 = .ok (.iastore, 1) := by decide +kernel
theorem dX3_takeRoad_42 : decode cX3_takeRoad 42 = .ok (.aload_n 0, 1) := by decide +kernel
theorem dX3_takeRoad_43 : decode cX3_takeRoad 43 = .ok (.getfield 28, 3) := by decide +kernel
theorem dX3_takeRoad_46 : decode cX3_takeRoad 46 = .ok (.aload_n 0, 1) := by decide +kernel
theorem dX3_takeRoad_47 : decode cX3_takeRoad 47 = .ok (.getfield 15, 3) := by decide +kernel
theorem dX3_takeRoad_50 : decode cX3_takeRoad 50 = .ok (.iload_n 2, 1) := by decide +kernel
theorem dX3_takeRoad_51 : decode cX3_takeRoad 51 = .ok (.iastore, 1) := by decide +kernel
theorem dX3_takeRoad_52 : decode cX3_takeRoad 52 = .ok (.aload_n 0, 1) := by decide +kernel
theorem dX3_takeRoad_53 : decode cX3_takeRoad 53 = .ok (.dup, 1) := by decide +kernel
theorem dX3_takeRoad_54 : decode cX3_takeRoad 54 = .ok (.getfield 15, 3) := by decide +kernel
theorem dX3_takeRoad_57 : decode cX3_takeRoad 57 = .ok (.iconst 1, 1) := by decide +kernel
theorem dX3_takeRoad_58 : decode cX3_takeRoad 58 = .ok (.iadd, 1) := by decide +kernel
theorem dX3_takeRoad_59 : decode cX3_takeRoad 59 = .ok (.putfield 15, 3) := by decide +kernel
theorem dX3_takeRoad_62 : decode cX3_takeRoad 62 = .ok (.iconst 1, 1) := by decide +kernel
theorem dX3_takeRoad_63 : decode cX3_takeRoad 63 = .ok (.ireturn, 1) := by decide +kernel
theorem dX3_takeFact_0 : decode cX3_takeFact 0 = .ok (.aload_n 0, 1) := by decide +kernel
theorem dX3_takeFact_1 : decode cX3_takeFact 1 = .ok (.getfield 18, 3) := by decide +kernel
theorem dX3_takeFact_4 : decode cX3_takeFact 4 = .ok (.iconst 4, 1) := by decide +kernel
theorem dX3_takeFact_5 : decode cX3_takeFact 5 = .ok (.if_icmp .lt 5, 3) := by decide +kernel
theorem dX3_takeFact_8 : decode cX3_takeFact 8 = .ok (.iconst 0, 1) := by decide +kernel
theorem dX3_takeFact_9 : decode cX3_takeFact 9 = .ok (.ireturn, 1) := by decide +kernel
theorem dX3_takeFact_10 : decode cX3_takeFact 10 = .ok (.aload_n 0, 1) := by decide +kernel
theorem dX3_takeFact_11 : decode cX3_takeFact 11 = .ok (.dup, 1) := by decide +kernel
theorem dX3_takeFact_12 : decode cX3_takeFact 12 = .ok (.getfield 18, 3) := by decide +kernel
theorem dX3_takeFact_15 : decode cX3_takeFact 15 = .ok (.iconst 1, 1) := by decide +kernel
theorem dX3_takeFact_16 : decode cX3_takeFact 16 = .ok (.iadd, 1) := by decide +kernel
theorem dX3_takeFact_17 : decode cX3_takeFact 17 = .ok (.putfield 18, 3) := by decide +kernel
theorem dX3_takeFact_20 : decode cX3_takeFact 20 = .ok (.iconst 1, 1) := by decide +kernel
theorem dX3_takeFact_21 : decode cX3_takeFact 21 = .ok (.ireturn, 1) := by decide +kernel
theorem dX3_takeSign_0 : decode cX3_takeSign 0 = .ok (.aload_n 0, 1) := by decide +kernel
theorem dX3_takeSign_1 : decode cX3_takeSign 1 = .ok (.iload_n 1, 1) := by decide +kernel
theorem dX3_takeSign_2 : decode cX3_takeSign 2 = .ok (.invokevirtual 117, 3) := by decide +kernel
theorem dX3_takeSign_5 : decode cX3_takeSign 5 = .ok (.ifCond .eq 23, 3) := by decide +kernel
theorem dX3_takeSign_8 : decode cX3_takeSign 8 = .ok (.aload_n 0, 1) := by decide +kernel
theorem dX3_takeSign_9 : decode cX3_takeSign 9 = .ok (.getfield 21, 3) := by decide +kernel
theorem dX3_takeSign_12 : decode cX3_takeSign 12 = .ok (.bipush 6, 2) := by decide +kernel
theorem dX3_takeSign_14 : decode cX3_takeSign 14 = .ok (.if_icmp .ge 14, 3) := by decide +kernel
theorem dX3_takeSign_17 : decode cX3_takeSign 17 = .ok (.aload_n 0, 1) := by decide +kernel
theorem dX3_takeSign_18 : decode cX3_takeSign 18 = .ok (.iload_n 2, 1) := by decide +kernel
theorem dX3_takeSign_19 : decode cX3_takeSign 19 = .ok (.iload_n 3, 1) := by decide +kernel
theorem dX3_takeSign_20 : decode cX3_takeSign 20 = .ok (.iload 4, 2) := by decide +kernel
theorem dX3_takeSign_22 : decode cX3_takeSign 22 = .ok (.invokevirtual 120, 3) := by decide +kernel
theorem dX3_takeSign_25 : decode cX3_takeSign 25 = .ok (.ifCond .ne 5, 3) := by decide +kernel
theorem dX3_takeSign_28 : decode cX3_takeSign 28 = .ok (.iconst 0, 1) := by decide +kernel
theorem dX3_takeSign_29 : decode cX3_takeSign 29 = .ok (.ireturn, 1) := by decide +kernel
theorem dX3_takeSign_30 : decode cX3_takeSign 30 = .ok (.aload_n 0, 1) := by decide +kernel
theorem dX3_takeSign_31 : decode cX3_takeSign 31 = .ok (.getfield 31, 3) := by decide +kernel
theorem dX3_takeSign_34 : decode cX3_takeSign 34 = .ok (.aload_n 0, 1) := by decide +kernel
theorem dX3_takeSign_35 : decode cX3_takeSign 35 = .ok (.getfield 21, 3) := by decide +kernel
theorem dX3_takeSign_38 : decode cX3_takeSign 38 = .ok (.iload_n 2, 1) := by decide +kernel
theorem dX3_takeSign_39 : decode cX3_takeSign 39 = .ok (.iastore, 1) := by decide +kernel
theorem dX3_takeSign_40 : decode cX3_takeSign 40 = .ok (.aload_n 0, 1) := by decide +kernel
theorem dX3_takeSign_41 : decode cX3_takeSign 41 = .ok (.getfield 34, 3) := by decide +kernel
theorem dX3_takeSign_44 : decode cX3_takeSign 44 = .ok (.aload_n 0, 1) := by decide +kernel
theorem dX3_takeSign_45 : decode cX3_takeSign 45 = .ok (.getfield 21, 3) := by decide +kernel
theorem dX3_takeSign_48 : decode cX3_takeSign 48 = .ok (.iload_n 1, 1) := by decide +kernel
theorem dX3_takeSign_49 : decode cX3_takeSign 49 = .ok (.iastore, 1) := by decide +kernel
theorem dX3_takeSign_50 : decode cX3_takeSign 50 = .ok (.aload_n 0, 1) := by decide +kernel
theorem dX3_takeSign_51 : decode cX3_takeSign 51 = .ok (.getfield 37, 3) := by decide +kernel
theorem dX3_takeSign_54 : decode cX3_takeSign 54 = .ok (.aload_n 0, 1) := by decide +kernel
theorem dX3_takeSign_55 : decode cX3_takeSign 55 = .ok (.getfield 21, 3) := by decide +kernel
theorem dX3_takeSign_58 : decode cX3_takeSign 58 = .ok (.iload_n 3, 1) := by decide +kernel
theorem dX3_takeSign_59 : decode cX3_takeSign 59 = .ok (.iastore, 1) := by decide +kernel
theorem dX3_takeSign_60 : decode cX3_takeSign 60 = .ok (.aload_n 0, 1) := by decide +kernel
theorem dX3_takeSign_61 : decode cX3_takeSign 61 = .ok (.getfield 40, 3) := by decide +kernel
theorem dX3_takeSign_64 : decode cX3_takeSign 64 = .ok (.aload_n 0, 1) := by decide +kernel
theorem dX3_takeSign_65 : decode cX3_takeSign 65 = .ok (.getfield 21, 3) := by decide +kernel
theorem dX3_takeSign_68 : decode cX3_takeSign 68 = .ok (.iload 4, 2) := by decide +kernel
theorem dX3_takeSign_70 : decode cX3_takeSign 70 = .ok (.iastore, 1) := by decide +kernel
theorem dX3_takeSign_71 : decode cX3_takeSign 71 = .ok (.aload_n 0, 1) := by decide +kernel
theorem dX3_takeSign_72 : decode cX3_takeSign 72 = .ok (.dup, 1) := by decide +kernel
theorem dX3_takeSign_73 : decode cX3_takeSign 73 = .ok (.getfield 21, 3) := by decide +kernel
theorem dX3_takeSign_76 : decode cX3_takeSign 76 = .ok (.iconst 1, 1) := by decide +kernel
theorem dX3_takeSign_77 : decode cX3_takeSign 77 = .ok (.iadd, 1) := by decide +kernel
theorem dX3_takeSign_78 : decode cX3_takeSign 78 = .ok (.putfield 21, 3) := by decide +kernel
theorem dX3_takeSign_81 : decode cX3_takeSign 81 = .ok (.iconst 1, 1) := by decide +kernel
theorem dX3_takeSign_82 : decode cX3_takeSign 82 = .ok (.ireturn, 1) := by decide +kernel
theorem dX3_canSpeakOf_0 : decode cX3_canSpeakOf 0 = .ok (.iload_n 1, 1) := by decide +kernel
theorem dX3_canSpeakOf_1 : decode cX3_canSpeakOf 1 = .ok (.tableswitch 91 0 6 #[43, 43, 49, 49, 49, 71, 89], 43) := by decide +kernel
theorem dX3_canSpeakOf_44 : decode cX3_canSpeakOf 44 = .ok (.aload_n 0, 1) := by decide +kernel
theorem dX3_canSpeakOf_45 : decode cX3_canSpeakOf 45 = .ok (.iload_n 2, 1) := by decide +kernel
theorem dX3_canSpeakOf_46 : decode cX3_canSpeakOf 46 = .ok (.invokevirtual 123, 3) := by decide +kernel
theorem dX3_canSpeakOf_49 : decode cX3_canSpeakOf 49 = .ok (.ireturn, 1) := by decide +kernel
theorem dX3_canSpeakOf_50 : decode cX3_canSpeakOf 50 = .ok (.aload_n 0, 1) := by decide +kernel
theorem dX3_canSpeakOf_51 : decode cX3_canSpeakOf 51 = .ok (.iload_n 2, 1) := by decide +kernel
theorem dX3_canSpeakOf_52 : decode cX3_canSpeakOf 52 = .ok (.invokevirtual 123, 3) := by decide +kernel
theorem dX3_canSpeakOf_55 : decode cX3_canSpeakOf 55 = .ok (.ifCond .eq 15, 3) := by decide +kernel
theorem dX3_canSpeakOf_58 : decode cX3_canSpeakOf 58 = .ok (.aload_n 0, 1) := by decide +kernel
theorem dX3_canSpeakOf_59 : decode cX3_canSpeakOf 59 = .ok (.iload_n 3, 1) := by decide +kernel
theorem dX3_canSpeakOf_60 : decode cX3_canSpeakOf 60 = .ok (.invokevirtual 123, 3) := by decide +kernel
theorem dX3_canSpeakOf_63 : decode cX3_canSpeakOf 63 = .ok (.ifCond .eq 7, 3) := by decide +kernel
theorem dX3_canSpeakOf_66 : decode cX3_canSpeakOf 66 = .ok (.iconst 1, 1) := by decide +kernel
theorem dX3_canSpeakOf_67 : decode cX3_canSpeakOf 67 = .ok (.goto 4, 3) := by decide +kernel
theorem dX3_canSpeakOf_70 : decode cX3_canSpeakOf 70 = .ok (.iconst 0, 1) := by decide +kernel
theorem dX3_canSpeakOf_71 : decode cX3_canSpeakOf 71 = .ok (.ireturn, 1) := by decide +kernel
theorem dX3_canSpeakOf_72 : decode cX3_canSpeakOf 72 = .ok (.iload_n 2, 1) := by decide +kernel
theorem dX3_canSpeakOf_73 : decode cX3_canSpeakOf 73 = .ok (.ifCond .lt 15, 3) := by decide +kernel
theorem dX3_canSpeakOf_76 : decode cX3_canSpeakOf 76 = .ok (.iload_n 2, 1) := by decide +kernel
theorem dX3_canSpeakOf_77 : decode cX3_canSpeakOf 77 = .ok (.aload_n 0, 1) := by decide +kernel
theorem dX3_canSpeakOf_78 : decode cX3_canSpeakOf 78 = .ok (.getfield 21, 3) := by decide +kernel
theorem dX3_canSpeakOf_81 : decode cX3_canSpeakOf 81 = .ok (.if_icmp .gt 7, 3) := by decide +kernel
theorem dX3_canSpeakOf_84 : decode cX3_canSpeakOf 84 = .ok (.iconst 1, 1) := by decide +kernel
theorem dX3_canSpeakOf_85 : decode cX3_canSpeakOf 85 = .ok (.goto 4, 3) := by decide +kernel
theorem dX3_canSpeakOf_88 : decode cX3_canSpeakOf 88 = .ok (.iconst 0, 1) := by decide +kernel
theorem dX3_canSpeakOf_89 : decode cX3_canSpeakOf 89 = .ok (.ireturn, 1) := by decide +kernel
theorem dX3_canSpeakOf_90 : decode cX3_canSpeakOf 90 = .ok (.iconst 1, 1) := by decide +kernel
theorem dX3_canSpeakOf_91 : decode cX3_canSpeakOf 91 = .ok (.ireturn, 1) := by decide +kernel
theorem dX3_canSpeakOf_92 : decode cX3_canSpeakOf 92 = .ok (.iconst 0, 1) := by decide +kernel
theorem dX3_canSpeakOf_93 : decode cX3_canSpeakOf 93 = .ok (.ireturn, 1) := by decide +kernel
theorem dX3_takeShown_0 : decode cX3_takeShown 0 = .ok (.aload_n 0, 1) := by decide +kernel
theorem dX3_takeShown_1 : decode cX3_takeShown 1 = .ok (.iload_n 1, 1) := by decide +kernel
theorem dX3_takeShown_2 : decode cX3_takeShown 2 = .ok (.invokevirtual 114, 3) := by decide +kernel
theorem dX3_takeShown_5 : decode cX3_takeShown 5 = .ok (.ifCond .eq 11, 3) := by decide +kernel
theorem dX3_takeShown_8 : decode cX3_takeShown 8 = .ok (.aload_n 0, 1) := by decide +kernel
theorem dX3_takeShown_9 : decode cX3_takeShown 9 = .ok (.iload_n 2, 1) := by decide +kernel
theorem dX3_takeShown_10 : decode cX3_takeShown 10 = .ok (.invokevirtual 123, 3) := by decide +kernel
theorem dX3_takeShown_13 : decode cX3_takeShown 13 = .ok (.ifCond .ne 5, 3) := by decide +kernel
theorem dX3_takeShown_16 : decode cX3_takeShown 16 = .ok (.iconst 0, 1) := by decide +kernel
theorem dX3_takeShown_17 : decode cX3_takeShown 17 = .ok (.ireturn, 1) := by decide +kernel
theorem dX3_takeShown_18 : decode cX3_takeShown 18 = .ok (.aload_n 0, 1) := by decide +kernel
theorem dX3_takeShown_19 : decode cX3_takeShown 19 = .ok (.getfield 43, 3) := by decide +kernel
theorem dX3_takeShown_22 : decode cX3_takeShown 22 = .ok (.iload_n 1, 1) := by decide +kernel
theorem dX3_takeShown_23 : decode cX3_takeShown 23 = .ok (.dup2, 1) := by decide +kernel
theorem dX3_takeShown_24 : decode cX3_takeShown 24 = .ok (.iaload, 1) := by decide +kernel
theorem dX3_takeShown_25 : decode cX3_takeShown 25 = .ok (.iconst 1, 1) := by decide +kernel
theorem dX3_takeShown_26 : decode cX3_takeShown 26 = .ok (.iload_n 2, 1) := by decide +kernel
theorem dX3_takeShown_27 : decode cX3_takeShown 27 = .ok (.ishl, 1) := by decide +kernel
theorem dX3_takeShown_28 : decode cX3_takeShown 28 = .ok (.ior, 1) := by decide +kernel
theorem dX3_takeShown_29 : decode cX3_takeShown 29 = .ok (.iastore, 1) := by decide +kernel
theorem dX3_takeShown_30 : decode cX3_takeShown 30 = .ok (.iconst 1, 1) := by decide +kernel
theorem dX3_takeShown_31 : decode cX3_takeShown 31 = .ok (.ireturn, 1) := by decide +kernel
theorem dX3_takeInn_0 : decode cX3_takeInn 0 = .ok (.aload_n 0, 1) := by decide +kernel
theorem dX3_takeInn_1 : decode cX3_takeInn 1 = .ok (.iload_n 1, 1) := by decide +kernel
theorem dX3_takeInn_2 : decode cX3_takeInn 2 = .ok (.invokevirtual 114, 3) := by decide +kernel
theorem dX3_takeInn_5 : decode cX3_takeInn 5 = .ok (.ifCond .eq 24, 3) := by decide +kernel
theorem dX3_takeInn_8 : decode cX3_takeInn 8 = .ok (.aload_n 0, 1) := by decide +kernel
theorem dX3_takeInn_9 : decode cX3_takeInn 9 = .ok (.iload_n 2, 1) := by decide +kernel
theorem dX3_takeInn_10 : decode cX3_takeInn 10 = .ok (.invokevirtual 114, 3) := by decide +kernel
theorem dX3_takeInn_13 : decode cX3_takeInn 13 = .ok (.ifCond .eq 16, 3) := by decide +kernel
theorem dX3_takeInn_16 : decode cX3_takeInn 16 = .ok (.iload_n 1, 1) := by decide +kernel
theorem dX3_takeInn_17 : decode cX3_takeInn 17 = .ok (.iload_n 2, 1) := by decide +kernel
theorem dX3_takeInn_18 : decode cX3_takeInn 18 = .ok (.if_icmp .eq 11, 3) := by decide +kernel
theorem dX3_takeInn_21 : decode cX3_takeInn 21 = .ok (.aload_n 0, 1) := by decide +kernel
theorem dX3_takeInn_22 : decode cX3_takeInn 22 = .ok (.iload_n 3, 1) := by decide +kernel
theorem dX3_takeInn_23 : decode cX3_takeInn 23 = .ok (.invokevirtual 123, 3) := by decide +kernel
theorem dX3_takeInn_26 : decode cX3_takeInn 26 = .ok (.ifCond .ne 5, 3) := by decide +kernel
theorem dX3_takeInn_29 : decode cX3_takeInn 29 = .ok (.iconst 0, 1) := by decide +kernel
theorem dX3_takeInn_30 : decode cX3_takeInn 30 = .ok (.ireturn, 1) := by decide +kernel
theorem dX3_takeInn_31 : decode cX3_takeInn 31 = .ok (.aload_n 0, 1) := by decide +kernel
theorem dX3_takeInn_32 : decode cX3_takeInn 32 = .ok (.iload_n 1, 1) := by decide +kernel
theorem dX3_takeInn_33 : decode cX3_takeInn 33 = .ok (.putfield 46, 3) := by decide +kernel
theorem dX3_takeInn_36 : decode cX3_takeInn 36 = .ok (.aload_n 0, 1) := by decide +kernel
theorem dX3_takeInn_37 : decode cX3_takeInn 37 = .ok (.iload_n 2, 1) := by decide +kernel
theorem dX3_takeInn_38 : decode cX3_takeInn 38 = .ok (.putfield 49, 3) := by decide +kernel
theorem dX3_takeInn_41 : decode cX3_takeInn 41 = .ok (.aload_n 0, 1) := by decide +kernel
theorem dX3_takeInn_42 : decode cX3_takeInn 42 = .ok (.iload_n 3, 1) := by decide +kernel
theorem dX3_takeInn_43 : decode cX3_takeInn 43 = .ok (.putfield 52, 3) := by decide +kernel
theorem dX3_takeInn_46 : decode cX3_takeInn 46 = .ok (.iconst 1, 1) := by decide +kernel
theorem dX3_takeInn_47 : decode cX3_takeInn 47 = .ok (.ireturn, 1) := by decide +kernel
theorem dX3_isSaidSo_0 : decode cX3_isSaidSo 0 = .ok (.aload_n 0, 1) := by decide +kernel
theorem dX3_isSaidSo_1 : decode cX3_isSaidSo 1 = .ok (.iload_n 1, 1) := by decide +kernel
theorem dX3_isSaidSo_2 : decode cX3_isSaidSo 2 = .ok (.invokevirtual 126, 3) := by decide +kernel
theorem dX3_isSaidSo_5 : decode cX3_isSaidSo 5 = .ok (.ifCond .ne 5, 3) := by decide +kernel
theorem dX3_isSaidSo_8 : decode cX3_isSaidSo 8 = .ok (.iconst 0, 1) := by decide +kernel
theorem dX3_isSaidSo_9 : decode cX3_isSaidSo 9 = .ok (.ireturn, 1) := by decide +kernel
theorem dX3_isSaidSo_10 : decode cX3_isSaidSo 10 = .ok (.iload_n 2, 1) := by decide +kernel
theorem dX3_isSaidSo_11 : decode cX3_isSaidSo 11 = .ok (.aload_n 0, 1) := by decide +kernel
theorem dX3_isSaidSo_12 : decode cX3_isSaidSo 12 = .ok (.getfield 37, 3) := by decide +kernel
theorem dX3_isSaidSo_15 : decode cX3_isSaidSo 15 = .ok (.iload_n 1, 1) := by decide +kernel
theorem dX3_isSaidSo_16 : decode cX3_isSaidSo 16 = .ok (.iaload, 1) := by decide +kernel
theorem dX3_isSaidSo_17 : decode cX3_isSaidSo 17 = .ok (.invokestatic 65, 3) := by decide +kernel
theorem dX3_isSaidSo_20 : decode cX3_isSaidSo 20 = .ok (.istore_n 3, 1) := by decide +kernel
theorem dX3_isSaidSo_21 : decode cX3_isSaidSo 21 = .ok (.iload_n 2, 1) := by decide +kernel
theorem dX3_isSaidSo_22 : decode cX3_isSaidSo 22 = .ok (.aload_n 0, 1) := by decide +kernel
theorem dX3_isSaidSo_23 : decode cX3_isSaidSo 23 = .ok (.getfield 40, 3) := by decide +kernel
theorem dX3_isSaidSo_26 : decode cX3_isSaidSo 26 = .ok (.iload_n 1, 1) := by decide +kernel
theorem dX3_isSaidSo_27 : decode cX3_isSaidSo 27 = .ok (.iaload, 1) := by decide +kernel
theorem dX3_isSaidSo_28 : decode cX3_isSaidSo 28 = .ok (.invokestatic 65, 3) := by decide +kernel
theorem dX3_isSaidSo_31 : decode cX3_isSaidSo 31 = .ok (.istore 4, 2) := by decide +kernel
theorem dX3_isSaidSo_33 : decode cX3_isSaidSo 33 = .ok (.aload_n 0, 1) := by decide +kernel
theorem dX3_isSaidSo_34 : decode cX3_isSaidSo 34 = .ok (.getfield 31, 3) := by decide +kernel
theorem dX3_isSaidSo_37 : decode cX3_isSaidSo 37 = .ok (.iload_n 1, 1) := by decide +kernel
theorem dX3_isSaidSo_38 : decode cX3_isSaidSo 38 = .ok (.iaload, 1) := by decide +kernel
theorem dX3_isSaidSo_39 : decode cX3_isSaidSo 39 = .ok (.tableswitch 104 0 5 #[37, 39, 49, 64, 79, 91], 37) := by decide +kernel
theorem dX3_isSaidSo_76 : decode cX3_isSaidSo 76 = .ok (.iload_n 3, 1) := by decide +kernel
theorem dX3_isSaidSo_77 : decode cX3_isSaidSo 77 = .ok (.ireturn, 1) := by decide +kernel
theorem dX3_isSaidSo_78 : decode cX3_isSaidSo 78 = .ok (.iload_n 3, 1) := by decide +kernel
theorem dX3_isSaidSo_79 : decode cX3_isSaidSo 79 = .ok (.ifCond .ne 7, 3) := by decide +kernel
theorem dX3_isSaidSo_82 : decode cX3_isSaidSo 82 = .ok (.iconst 1, 1) := by decide +kernel
theorem dX3_isSaidSo_83 : decode cX3_isSaidSo 83 = .ok (.goto 4, 3) := by decide +kernel
theorem dX3_isSaidSo_86 : decode cX3_isSaidSo 86 = .ok (.iconst 0, 1) := by decide +kernel
theorem dX3_isSaidSo_87 : decode cX3_isSaidSo 87 = .ok (.ireturn, 1) := by decide +kernel
theorem dX3_isSaidSo_88 : decode cX3_isSaidSo 88 = .ok (.iload_n 3, 1) := by decide +kernel
theorem dX3_isSaidSo_89 : decode cX3_isSaidSo 89 = .ok (.ifCond .eq 12, 3) := by decide +kernel
theorem dX3_isSaidSo_92 : decode cX3_isSaidSo 92 = .ok (.iload 4, 2) := by decide +kernel
theorem dX3_isSaidSo_94 : decode cX3_isSaidSo 94 = .ok (.ifCond .eq 7, 3) := by decide +kernel
theorem dX3_isSaidSo_97 : decode cX3_isSaidSo 97 = .ok (.iconst 1, 1) := by decide +kernel
theorem dX3_isSaidSo_98 : decode cX3_isSaidSo 98 = .ok (.goto 4, 3) := by decide +kernel
theorem dX3_isSaidSo_101 : decode cX3_isSaidSo 101 = .ok (.iconst 0, 1) := by decide +kernel
theorem dX3_isSaidSo_102 : decode cX3_isSaidSo 102 = .ok (.ireturn, 1) := by decide +kernel
theorem dX3_isSaidSo_103 : decode cX3_isSaidSo 103 = .ok (.iload_n 3, 1) := by decide +kernel
theorem dX3_isSaidSo_104 : decode cX3_isSaidSo 104 = .ok (.ifCond .ne 8, 3) := by decide +kernel
theorem dX3_isSaidSo_107 : decode cX3_isSaidSo 107 = .ok (.iload 4, 2) := by decide +kernel
theorem dX3_isSaidSo_109 : decode cX3_isSaidSo 109 = .ok (.ifCond .eq 7, 3) := by decide +kernel
theorem dX3_isSaidSo_112 : decode cX3_isSaidSo 112 = .ok (.iconst 1, 1) := by decide +kernel
theorem dX3_isSaidSo_113 : decode cX3_isSaidSo 113 = .ok (.goto 4, 3) := by decide +kernel
theorem dX3_isSaidSo_116 : decode cX3_isSaidSo 116 = .ok (.iconst 0, 1) := by decide +kernel
theorem dX3_isSaidSo_117 : decode cX3_isSaidSo 117 = .ok (.ireturn, 1) := by decide +kernel
theorem dX3_isSaidSo_118 : decode cX3_isSaidSo 118 = .ok (.iload_n 3, 1) := by decide +kernel
theorem dX3_isSaidSo_119 : decode cX3_isSaidSo 119 = .ok (.iload 4, 2) := by decide +kernel
theorem dX3_isSaidSo_121 : decode cX3_isSaidSo 121 = .ok (.if_icmp .eq 7, 3) := by decide +kernel
theorem dX3_isSaidSo_124 : decode cX3_isSaidSo 124 = .ok (.iconst 1, 1) := by decide +kernel
theorem dX3_isSaidSo_125 : decode cX3_isSaidSo 125 = .ok (.goto 4, 3) := by decide +kernel
theorem dX3_isSaidSo_128 : decode cX3_isSaidSo 128 = .ok (.iconst 0, 1) := by decide +kernel
theorem dX3_isSaidSo_129 : decode cX3_isSaidSo 129 = .ok (.ireturn, 1) := by decide +kernel
theorem dX3_isSaidSo_130 : decode cX3_isSaidSo 130 = .ok (.iload_n 2, 1) := by decide +kernel
theorem dX3_isSaidSo_131 : decode cX3_isSaidSo 131 = .ok (.iconst 4, 1) := by decide +kernel
theorem dX3_isSaidSo_132 : decode cX3_isSaidSo 132 = .ok (.aload_n 0, 1) := by decide +kernel
theorem dX3_isSaidSo_133 : decode cX3_isSaidSo 133 = .ok (.getfield 37, 3) := by decide +kernel
theorem dX3_isSaidSo_136 : decode cX3_isSaidSo 136 = .ok (.iload_n 1, 1) := by decide +kernel
theorem dX3_isSaidSo_137 : decode cX3_isSaidSo 137 = .ok (.iaload, 1) := by decide +kernel
theorem dX3_isSaidSo_138 : decode cX3_isSaidSo 138 = .ok (.iadd, 1) := by decide +kernel
theorem dX3_isSaidSo_139 : decode cX3_isSaidSo 139 = .ok (.invokestatic 65, 3) := by decide +kernel
theorem dX3_isSaidSo_142 : decode cX3_isSaidSo 142 = .ok (.ireturn, 1) := by decide +kernel
theorem dX3_isSaidSo_143 : decode cX3_isSaidSo 143 = .ok (.iconst 0, 1) := by decide +kernel
theorem dX3_isSaidSo_144 : decode cX3_isSaidSo 144 = .ok (.ireturn, 1) := by decide +kernel
theorem dX3_isMisfit_0 : decode cX3_isMisfit 0 = .ok (.aload_n 0, 1) := by decide +kernel
theorem dX3_isMisfit_1 : decode cX3_isMisfit 1 = .ok (.getfield 31, 3) := by decide +kernel
theorem dX3_isMisfit_4 : decode cX3_isMisfit 4 = .ok (.iload_n 1, 1) := by decide +kernel
theorem dX3_isMisfit_5 : decode cX3_isMisfit 5 = .ok (.iaload, 1) := by decide +kernel
theorem dX3_isMisfit_6 : decode cX3_isMisfit 6 = .ok (.bipush 6, 2) := by decide +kernel
theorem dX3_isMisfit_8 : decode cX3_isMisfit 8 = .ok (.if_icmp .eq 23, 3) := by decide +kernel
theorem dX3_isMisfit_11 : decode cX3_isMisfit 11 = .ok (.iload_n 2, 1) := by decide +kernel
theorem dX3_isMisfit_12 : decode cX3_isMisfit 12 = .ok (.iconst 4, 1) := by decide +kernel
theorem dX3_isMisfit_13 : decode cX3_isMisfit 13 = .ok (.iload_n 1, 1) := by decide +kernel
theorem dX3_isMisfit_14 : decode cX3_isMisfit 14 = .ok (.iadd, 1) := by decide +kernel
theorem dX3_isMisfit_15 : decode cX3_isMisfit 15 = .ok (.invokestatic 65, 3) := by decide +kernel
theorem dX3_isMisfit_18 : decode cX3_isMisfit 18 = .ok (.aload_n 0, 1) := by decide +kernel
theorem dX3_isMisfit_19 : decode cX3_isMisfit 19 = .ok (.iload_n 1, 1) := by decide +kernel
theorem dX3_isMisfit_20 : decode cX3_isMisfit 20 = .ok (.iload_n 2, 1) := by decide +kernel
theorem dX3_isMisfit_21 : decode cX3_isMisfit 21 = .ok (.invokevirtual 129, 3) := by decide +kernel
theorem dX3_isMisfit_24 : decode cX3_isMisfit 24 = .ok (.if_icmp .eq 7, 3) := by decide +kernel
theorem dX3_isMisfit_27 : decode cX3_isMisfit 27 = .ok (.iconst 1, 1) := by decide +kernel
theorem dX3_isMisfit_28 : decode cX3_isMisfit 28 = .ok (.goto 4, 3) := by decide +kernel
theorem dX3_isMisfit_31 : decode cX3_isMisfit 31 = .ok (.iconst 0, 1) := by decide +kernel
theorem dX3_isMisfit_32 : decode cX3_isMisfit 32 = .ok (.ireturn, 1) := by decide +kernel
theorem dX3_misfitsIn_0 : decode cX3_misfitsIn 0 = .ok (.iconst 0, 1) := by decide +kernel
theorem dX3_misfitsIn_1 : decode cX3_misfitsIn 1 = .ok (.istore_n 2, 1) := by decide +kernel
theorem dX3_misfitsIn_2 : decode cX3_misfitsIn 2 = .ok (.iconst 0, 1) := by decide +kernel
theorem dX3_misfitsIn_3 : decode cX3_misfitsIn 3 = .ok (.istore_n 3, 1) := by decide +kernel
theorem dX3_misfitsIn_4 : decode cX3_misfitsIn 4 = .ok (.iload_n 3, 1) := by decide +kernel
theorem dX3_misfitsIn_5 : decode cX3_misfitsIn 5 = .ok (.aload_n 0, 1) := by decide +kernel
theorem dX3_misfitsIn_6 : decode cX3_misfitsIn 6 = .ok (.getfield 21, 3) := by decide +kernel
theorem dX3_misfitsIn_9 : decode cX3_misfitsIn 9 = .ok (.if_icmp .ge 21, 3) := by decide +kernel
theorem dX3_misfitsIn_12 : decode cX3_misfitsIn 12 = .ok (.aload_n 0, 1) := by decide +kernel
theorem dX3_misfitsIn_13 : decode cX3_misfitsIn 13 = .ok (.iload_n 3, 1) := by decide +kernel
theorem dX3_misfitsIn_14 : decode cX3_misfitsIn 14 = .ok (.iload_n 1, 1) := by decide +kernel
theorem dX3_misfitsIn_15 : decode cX3_misfitsIn 15 = .ok (.invokevirtual 132, 3) := by decide +kernel
theorem dX3_misfitsIn_18 : decode cX3_misfitsIn 18 = .ok (.ifCond .eq 6, 3) := by decide +kernel
theorem dX3_misfitsIn_21 : decode cX3_misfitsIn 21 = .ok (.iinc 2 1, 3) := by decide +kernel
theorem dX3_misfitsIn_24 : decode cX3_misfitsIn 24 = .ok (.iinc 3 1, 3) := by decide +kernel
theorem dX3_misfitsIn_27 : decode cX3_misfitsIn 27 = .ok (.goto (-23), 3) := by decide +kernel
theorem dX3_misfitsIn_30 : decode cX3_misfitsIn 30 = .ok (.iload_n 2, 1) := by decide +kernel
theorem dX3_misfitsIn_31 : decode cX3_misfitsIn 31 = .ok (.ireturn, 1) := by decide +kernel
theorem dX3_firstMisfit_0 : decode cX3_firstMisfit 0 = .ok (.iconst 0, 1) := by decide +kernel
theorem dX3_firstMisfit_1 : decode cX3_firstMisfit 1 = .ok (.istore_n 2, 1) := by decide +kernel
theorem dX3_firstMisfit_2 : decode cX3_firstMisfit 2 = .ok (.iload_n 2, 1) := by decide +kernel
theorem dX3_firstMisfit_3 : decode cX3_firstMisfit 3 = .ok (.aload_n 0, 1) := by decide +kernel
theorem dX3_firstMisfit_4 : decode cX3_firstMisfit 4 = .ok (.getfield 21, 3) := by decide +kernel
theorem dX3_firstMisfit_7 : decode cX3_firstMisfit 7 = .ok (.if_icmp .ge 20, 3) := by decide +kernel
theorem dX3_firstMisfit_10 : decode cX3_firstMisfit 10 = .ok (.aload_n 0, 1) := by decide +kernel
theorem dX3_firstMisfit_11 : decode cX3_firstMisfit 11 = .ok (.iload_n 2, 1) := by decide +kernel
theorem dX3_firstMisfit_12 : decode cX3_firstMisfit 12 = .ok (.iload_n 1, 1) := by decide +kernel
theorem dX3_firstMisfit_13 : decode cX3_firstMisfit 13 = .ok (.invokevirtual 132, 3) := by decide +kernel
theorem dX3_firstMisfit_16 : decode cX3_firstMisfit 16 = .ok (.ifCond .eq 5, 3) := by decide +kernel
theorem dX3_firstMisfit_19 : decode cX3_firstMisfit 19 = .ok (.iload_n 2, 1) := by decide +kernel
theorem dX3_firstMisfit_20 : decode cX3_firstMisfit 20 = .ok (.ireturn, 1) := by decide +kernel
theorem dX3_firstMisfit_21 : decode cX3_firstMisfit 21 = .ok (.iinc 2 1, 3) := by decide +kernel
theorem dX3_firstMisfit_24 : decode cX3_firstMisfit 24 = .ok (.goto (-22), 3) := by decide +kernel
theorem dX3_firstMisfit_27 : decode cX3_firstMisfit 27 = .ok (.iconst (-1), 1) := by decide +kernel
theorem dX3_firstMisfit_28 : decode cX3_firstMisfit 28 = .ok (.ireturn, 1) := by decide +kernel
theorem dX3_comesBack_0 : decode cX3_comesBack 0 = .ok (.iload_n 1, 1) := by decide +kernel
theorem dX3_comesBack_1 : decode cX3_comesBack 1 = .ok (.istore_n 2, 1) := by decide +kernel
theorem dX3_comesBack_2 : decode cX3_comesBack 2 = .ok (.iconst 0, 1) := by decide +kernel
theorem dX3_comesBack_3 : decode cX3_comesBack 3 = .ok (.istore_n 3, 1) := by decide +kernel
theorem dX3_comesBack_4 : decode cX3_comesBack 4 = .ok (.iload_n 3, 1) := by decide +kernel
theorem dX3_comesBack_5 : decode cX3_comesBack 5 = .ok (.aload_n 0, 1) := by decide +kernel
theorem dX3_comesBack_6 : decode cX3_comesBack 6 = .ok (.getfield 21, 3) := by decide +kernel
theorem dX3_comesBack_9 : decode cX3_comesBack 9 = .ok (.if_icmp .ge 43, 3) := by decide +kernel
theorem dX3_comesBack_12 : decode cX3_comesBack 12 = .ok (.aload_n 0, 1) := by decide +kernel
theorem dX3_comesBack_13 : decode cX3_comesBack 13 = .ok (.iload_n 2, 1) := by decide +kernel
theorem dX3_comesBack_14 : decode cX3_comesBack 14 = .ok (.invokevirtual 126, 3) := by decide +kernel
theorem dX3_comesBack_17 : decode cX3_comesBack 17 = .ok (.ifCond .eq 13, 3) := by decide +kernel
theorem dX3_comesBack_20 : decode cX3_comesBack 20 = .ok (.aload_n 0, 1) := by decide +kernel
theorem dX3_comesBack_21 : decode cX3_comesBack 21 = .ok (.getfield 31, 3) := by decide +kernel
theorem dX3_comesBack_24 : decode cX3_comesBack 24 = .ok (.iload_n 2, 1) := by decide +kernel
theorem dX3_comesBack_25 : decode cX3_comesBack 25 = .ok (.iaload, 1) := by decide +kernel
theorem dX3_comesBack_26 : decode cX3_comesBack 26 = .ok (.iconst 5, 1) := by decide +kernel
theorem dX3_comesBack_27 : decode cX3_comesBack 27 = .ok (.if_icmp .eq 5, 3) := by decide +kernel
theorem dX3_comesBack_30 : decode cX3_comesBack 30 = .ok (.iconst 0, 1) := by decide +kernel
theorem dX3_comesBack_31 : decode cX3_comesBack 31 = .ok (.ireturn, 1) := by decide +kernel
theorem dX3_comesBack_32 : decode cX3_comesBack 32 = .ok (.aload_n 0, 1) := by decide +kernel
theorem dX3_comesBack_33 : decode cX3_comesBack 33 = .ok (.getfield 37, 3) := by decide +kernel
theorem dX3_comesBack_36 : decode cX3_comesBack 36 = .ok (.iload_n 2, 1) := by decide +kernel
theorem dX3_comesBack_37 : decode cX3_comesBack 37 = .ok (.iaload, 1) := by decide +kernel
theorem dX3_comesBack_38 : decode cX3_comesBack 38 = .ok (.istore_n 2, 1) := by decide +kernel
theorem dX3_comesBack_39 : decode cX3_comesBack 39 = .ok (.iload_n 2, 1) := by decide +kernel
theorem dX3_comesBack_40 : decode cX3_comesBack 40 = .ok (.iload_n 1, 1) := by decide +kernel
theorem dX3_comesBack_41 : decode cX3_comesBack 41 = .ok (.if_icmp .ne 5, 3) := by decide +kernel
theorem dX3_comesBack_44 : decode cX3_comesBack 44 = .ok (.iconst 1, 1) := by decide +kernel
theorem dX3_comesBack_45 : decode cX3_comesBack 45 = .ok (.ireturn, 1) := by decide +kernel
theorem dX3_comesBack_46 : decode cX3_comesBack 46 = .ok (.iinc 3 1, 3) := by decide +kernel
theorem dX3_comesBack_49 : decode cX3_comesBack 49 = .ok (.goto (-45), 3) := by decide +kernel
theorem dX3_comesBack_52 : decode cX3_comesBack 52 = .ok (.iconst 0, 1) := by decide +kernel
theorem dX3_comesBack_53 : decode cX3_comesBack 53 = .ok (.ireturn, 1) := by decide +kernel
theorem dX4_init_0 : decode cX4_init 0 = .ok (.aload_n 0, 1) := by decide +kernel
theorem dX4_init_1 : decode cX4_init 1 = .ok (.invokespecial 3, 3) := by decide +kernel
theorem dX4_init_4 : decode cX4_init 4 = .ok (.aload_n 0, 1) := by decide +kernel
theorem dX4_init_5 : decode cX4_init 5 = .ok (.iconst 0, 1) := by decide +kernel
theorem dX4_init_6 : decode cX4_init 6 = .ok (.putfield 9, 3) := by decide +kernel
theorem dX4_init_9 : decode cX4_init 9 = .ok (.aload_n 0, 1) := by decide +kernel
theorem dX4_init_10 : decode cX4_init 10 = .ok (.bipush 10, 2) := by decide +kernel
theorem dX4_init_12 : decode cX4_init 12 = .ok (.newarray .int, 2) := by decide +kernel
theorem dX4_init_14 : decode cX4_init 14 = .ok (.putfield 15, 3) := by decide +kernel
theorem dX4_init_17 : decode cX4_init 17 = .ok (.aload_n 0, 1) := by decide +kernel
theorem dX4_init_18 : decode cX4_init 18 = .ok (.bipush 66, 2) := by decide +kernel
theorem dX4_init_20 : decode cX4_init 20 = .ok (.newarray .int, 2) := by decide +kernel
theorem dX4_init_22 : decode cX4_init 22 = .ok (.putfield 19, 3) := by decide +kernel
theorem dX4_init_25 : decode cX4_init 25 = .ok (.return_, 1) := by decide +kernel
theorem dX4_add_0 : decode cX4_add 0 = .ok (.aload_n 0, 1) := by decide +kernel
theorem dX4_add_1 : decode cX4_add 1 = .ok (.getfield 9, 3) := by decide +kernel
theorem dX4_add_4 : decode cX4_add 4 = .ok (.bipush 10, 2) := by decide +kernel
theorem dX4_add_6 : decode cX4_add 6 = .ok (.if_icmp .ge 23, 3) := by decide +kernel
theorem dX4_add_9 : decode cX4_add 9 = .ok (.aload_n 0, 1) := by decide +kernel
theorem dX4_add_10 : decode cX4_add 10 = .ok (.getfield 15, 3) := by decide +kernel
theorem dX4_add_13 : decode cX4_add 13 = .ok (.aload_n 0, 1) := by decide +kernel
theorem dX4_add_14 : decode cX4_add 14 = .ok (.getfield 9, 3) := by decide +kernel
theorem dX4_add_17 : decode cX4_add 17 = .ok (.iload_n 1, 1) := by decide +kernel
theorem dX4_add_18 : decode cX4_add 18 = .ok (.iastore, 1) := by decide +kernel
theorem dX4_add_19 : decode cX4_add 19 = .ok (.aload_n 0, 1) := by decide +kernel
theorem dX4_add_20 : decode cX4_add 20 = .ok (.dup, 1) := by decide +kernel
theorem dX4_add_21 : decode cX4_add 21 = .ok (.getfield 9, 3) := by decide +kernel
theorem dX4_add_24 : decode cX4_add 24 = .ok (.iconst 1, 1) := by decide +kernel
theorem dX4_add_25 : decode cX4_add 25 = .ok (.iadd, 1) := by decide +kernel
theorem dX4_add_26 : decode cX4_add 26 = .ok (.putfield 9, 3) := by decide +kernel
theorem dX4_add_29 : decode cX4_add 29 = .ok (.return_, 1) := by decide +kernel
theorem dX4_clear_0 : decode cX4_clear 0 = .ok (.aload_n 0, 1) := by decide +kernel
theorem dX4_clear_1 : decode cX4_clear 1 = .ok (.iconst 0, 1) := by decide +kernel
theorem dX4_clear_2 : decode cX4_clear 2 = .ok (.putfield 9, 3) := by decide +kernel
theorem dX4_clear_5 : decode cX4_clear 5 = .ok (.return_, 1) := by decide +kernel
theorem dX4_trace_0 : decode cX4_trace 0 = .ok (.iconst 0, 1) := by decide +kernel
theorem dX4_trace_1 : decode cX4_trace 1 = .ok (.istore_n 2, 1) := by decide +kernel
theorem dX4_trace_2 : decode cX4_trace 2 = .ok (.iload_n 2, 1) := by decide +kernel
theorem dX4_trace_3 : decode cX4_trace 3 = .ok (.aload_n 0, 1) := by decide +kernel
theorem dX4_trace_4 : decode cX4_trace 4 = .ok (.getfield 19, 3) := by decide +kernel
theorem dX4_trace_7 : decode cX4_trace 7 = .ok (.arraylength, 1) := by decide +kernel
theorem dX4_trace_8 : decode cX4_trace 8 = .ok (.if_icmp .ge 28, 3) := by decide +kernel
theorem dX4_trace_11 : decode cX4_trace 11 = .ok (.aload_n 0, 1) := by decide +kernel
theorem dX4_trace_12 : decode cX4_trace 12 = .ok (.getfield 19, 3) := by decide +kernel
theorem dX4_trace_15 : decode cX4_trace 15 = .ok (.iload_n 2, 1) := by decide +kernel
theorem dX4_trace_16 : decode cX4_trace 16 = .ok (.iload_n 2, 1) := by decide +kernel
theorem dX4_trace_17 : decode cX4_trace 17 = .ok (.aload_n 1, 1) := by decide +kernel
theorem dX4_trace_18 : decode cX4_trace 18 = .ok (.getfield 22, 3) := by decide +kernel
theorem dX4_trace_21 : decode cX4_trace 21 = .ok (.if_icmp .ge 7, 3) := by decide +kernel
theorem dX4_trace_24 : decode cX4_trace 24 = .ok (.iconst 1, 1) := by decide +kernel
theorem dX4_trace_25 : decode cX4_trace 25 = .ok (.goto 4, 3) := by decide +kernel
theorem dX4_trace_28 : decode cX4_trace 28 = .ok (.iconst 0, 1) := by decide +kernel
theorem dX4_trace_29 : decode cX4_trace 29 = .ok (.iastore, 1) := by decide +kernel
theorem dX4_trace_30 : decode cX4_trace 30 = .ok (.iinc 2 1, 3) := by decide +kernel
theorem dX4_trace_33 : decode cX4_trace 33 = .ok (.goto (-31), 3) := by decide +kernel
theorem dX4_trace_36 : decode cX4_trace 36 = .ok (.iconst 0, 1) := by decide +kernel
theorem dX4_trace_37 : decode cX4_trace 37 = .ok (.istore_n 2, 1) := by decide +kernel
theorem dX4_trace_38 : decode cX4_trace 38 = .ok (.iload_n 2, 1) := by decide +kernel
theorem dX4_trace_39 : decode cX4_trace 39 = .ok (.aload_n 0, 1) := by decide +kernel
theorem dX4_trace_40 : decode cX4_trace 40 = .ok (.getfield 9, 3) := by decide +kernel
theorem dX4_trace_43 : decode cX4_trace 43 = .ok (.if_icmp .ge 41, 3) := by decide +kernel
theorem dX4_trace_46 : decode cX4_trace 46 = .ok (.iconst 0, 1) := by decide +kernel
theorem dX4_trace_47 : decode cX4_trace 47 = .ok (.istore_n 3, 1) := by decide +kernel
theorem dX4_trace_48 : decode cX4_trace 48 = .ok (.iload_n 3, 1) := by decide +kernel
theorem dX4_trace_49 : decode cX4_trace 49 = .ok (.aload_n 1, 1) := by decide +kernel
theorem dX4_trace_50 : decode cX4_trace 50 = .ok (.getfield 27, 3) := by decide +kernel
theorem dX4_trace_53 : decode cX4_trace 53 = .ok (.if_icmp .ge 25, 3) := by decide +kernel
theorem dX4_trace_56 : decode cX4_trace 56 = .ok (.aload_n 0, 1) := by decide +kernel
theorem dX4_trace_57 : decode cX4_trace 57 = .ok (.aload_n 1, 1) := by decide +kernel
theorem dX4_trace_58 : decode cX4_trace 58 = .ok (.iload_n 3, 1) := by decide +kernel
theorem dX4_trace_59 : decode cX4_trace 59 = .ok (.iconst 1, 1) := by decide +kernel
theorem dX4_trace_60 : decode cX4_trace 60 = .ok (.iload_n 2, 1) := by decide +kernel
theorem dX4_trace_61 : decode cX4_trace 61 = .ok (.invokevirtual 30, 3) := by decide +kernel
theorem dX4_trace_64 : decode cX4_trace 64 = .ok (.aload_n 0, 1) := by decide +kernel
theorem dX4_trace_65 : decode cX4_trace 65 = .ok (.aload_n 1, 1) := by decide +kernel
theorem dX4_trace_66 : decode cX4_trace 66 = .ok (.iload_n 3, 1) := by decide +kernel
theorem dX4_trace_67 : decode cX4_trace 67 = .ok (.iconst 0, 1) := by decide +kernel
theorem dX4_trace_68 : decode cX4_trace 68 = .ok (.iload_n 2, 1) := by decide +kernel
theorem dX4_trace_69 : decode cX4_trace 69 = .ok (.invokevirtual 30, 3) := by decide +kernel
theorem dX4_trace_72 : decode cX4_trace 72 = .ok (.iinc 3 1, 3) := by decide +kernel
theorem dX4_trace_75 : decode cX4_trace 75 = .ok (.goto (-27), 3) := by decide +kernel
theorem dX4_trace_78 : decode cX4_trace 78 = .ok (.iinc 2 1, 3) := by decide +kernel
theorem dX4_trace_81 : decode cX4_trace 81 = .ok (.goto (-43), 3) := by decide +kernel
theorem dX4_trace_84 : decode cX4_trace 84 = .ok (.return_, 1) := by decide +kernel
theorem dX4_walkCount_0 : decode cX4_walkCount 0 = .ok (.iconst 0, 1) := by decide +kernel
theorem dX4_walkCount_1 : decode cX4_walkCount 1 = .ok (.istore_n 1, 1) := by decide +kernel
theorem dX4_walkCount_2 : decode cX4_walkCount 2 = .ok (.iconst 0, 1) := by decide +kernel
theorem dX4_walkCount_3 : decode cX4_walkCount 3 = .ok (.istore_n 2, 1) := by decide +kernel
theorem dX4_walkCount_4 : decode cX4_walkCount 4 = .ok (.iload_n 2, 1) := by decide +kernel
theorem dX4_walkCount_5 : decode cX4_walkCount 5 = .ok (.bipush 6, 2) := by decide +kernel
theorem dX4_walkCount_7 : decode cX4_walkCount 7 = .ok (.if_icmp .ge 26, 3) := by decide +kernel
theorem dX4_walkCount_10 : decode cX4_walkCount 10 = .ok (.iload_n 1, 1) := by decide +kernel
theorem dX4_walkCount_11 : decode cX4_walkCount 11 = .ok (.aload_n 0, 1) := by decide +kernel
theorem dX4_walkCount_12 : decode cX4_walkCount 12 = .ok (.getfield 19, 3) := by decide +kernel
theorem dX4_walkCount_15 : decode cX4_walkCount 15 = .ok (.aload_n 0, 1) := by decide +kernel
theorem dX4_walkCount_16 : decode cX4_walkCount 16 = .ok (.getfield 9, 3) := by decide +kernel
theorem dX4_walkCount_19 : decode cX4_walkCount 19 = .ok (.bipush 6, 2) := by decide +kernel
theorem dX4_walkCount_21 : decode cX4_walkCount 21 = .ok (.imul, 1) := by decide +kernel
theorem dX4_walkCount_22 : decode cX4_walkCount 22 = .ok (.iload_n 2, 1) := by decide +kernel
theorem dX4_walkCount_23 : decode cX4_walkCount 23 = .ok (.iadd, 1) := by decide +kernel
theorem dX4_walkCount_24 : decode cX4_walkCount 24 = .ok (.iaload, 1) := by decide +kernel
theorem dX4_walkCount_25 : decode cX4_walkCount 25 = .ok (.iadd, 1) := by decide +kernel
theorem dX4_walkCount_26 : decode cX4_walkCount 26 = .ok (.istore_n 1, 1) := by decide +kernel
theorem dX4_walkCount_27 : decode cX4_walkCount 27 = .ok (.iinc 2 1, 3) := by decide +kernel
theorem dX4_walkCount_30 : decode cX4_walkCount 30 = .ok (.goto (-26), 3) := by decide +kernel
theorem dX4_walkCount_33 : decode cX4_walkCount 33 = .ok (.iload_n 1, 1) := by decide +kernel
theorem dX4_walkCount_34 : decode cX4_walkCount 34 = .ok (.ireturn, 1) := by decide +kernel
theorem dX4_endPlaces_0 : decode cX4_endPlaces 0 = .ok (.iconst 0, 1) := by decide +kernel
theorem dX4_endPlaces_1 : decode cX4_endPlaces 1 = .ok (.istore_n 1, 1) := by decide +kernel
theorem dX4_endPlaces_2 : decode cX4_endPlaces 2 = .ok (.iconst 0, 1) := by decide +kernel
theorem dX4_endPlaces_3 : decode cX4_endPlaces 3 = .ok (.istore_n 2, 1) := by decide +kernel
theorem dX4_endPlaces_4 : decode cX4_endPlaces 4 = .ok (.iload_n 2, 1) := by decide +kernel
theorem dX4_endPlaces_5 : decode cX4_endPlaces 5 = .ok (.bipush 6, 2) := by decide +kernel
theorem dX4_endPlaces_7 : decode cX4_endPlaces 7 = .ok (.if_icmp .ge 32, 3) := by decide +kernel
theorem dX4_endPlaces_10 : decode cX4_endPlaces 10 = .ok (.aload_n 0, 1) := by decide +kernel
theorem dX4_endPlaces_11 : decode cX4_endPlaces 11 = .ok (.getfield 19, 3) := by decide +kernel
theorem dX4_endPlaces_14 : decode cX4_endPlaces 14 = .ok (.aload_n 0, 1) := by decide +kernel
theorem dX4_endPlaces_15 : decode cX4_endPlaces 15 = .ok (.getfield 9, 3) := by decide +kernel
theorem dX4_endPlaces_18 : decode cX4_endPlaces 18 = .ok (.bipush 6, 2) := by decide +kernel
theorem dX4_endPlaces_20 : decode cX4_endPlaces 20 = .ok (.imul, 1) := by decide +kernel
theorem dX4_endPlaces_21 : decode cX4_endPlaces 21 = .ok (.iload_n 2, 1) := by decide +kernel
theorem dX4_endPlaces_22 : decode cX4_endPlaces 22 = .ok (.iadd, 1) := by decide +kernel
theorem dX4_endPlaces_23 : decode cX4_endPlaces 23 = .ok (.iaload, 1) := by decide +kernel
theorem dX4_endPlaces_24 : decode cX4_endPlaces 24 = .ok (.ifCond .le 9, 3) := by decide +kernel
theorem dX4_endPlaces_27 : decode cX4_endPlaces 27 = .ok (.iload_n 1, 1) := by decide +kernel
theorem dX4_endPlaces_28 : decode cX4_endPlaces 28 = .ok (.iconst 1, 1) := by decide +kernel
theorem dX4_endPlaces_29 : decode cX4_endPlaces 29 = .ok (.iload_n 2, 1) := by decide +kernel
theorem dX4_endPlaces_30 : decode cX4_endPlaces 30 = .ok (.ishl, 1) := by decide +kernel
theorem dX4_endPlaces_31 : decode cX4_endPlaces 31 = .ok (.ior, 1) := by decide +kernel
theorem dX4_endPlaces_32 : decode cX4_endPlaces 32 = .ok (.istore_n 1, 1) := by decide +kernel
theorem dX4_endPlaces_33 : decode cX4_endPlaces 33 = .ok (.iinc 2 1, 3) := by decide +kernel
theorem dX4_endPlaces_36 : decode cX4_endPlaces 36 = .ok (.goto (-32), 3) := by decide +kernel
theorem dX4_endPlaces_39 : decode cX4_endPlaces 39 = .ok (.iload_n 1, 1) := by decide +kernel
theorem dX4_endPlaces_40 : decode cX4_endPlaces 40 = .ok (.ireturn, 1) := by decide +kernel
theorem dX4_walk_0 : decode cX4_walk 0 = .ok (.aload_n 1, 1) := by decide +kernel
theorem dX4_walk_1 : decode cX4_walk 1 = .ok (.iload_n 2, 1) := by decide +kernel
theorem dX4_walk_2 : decode cX4_walk 2 = .ok (.invokevirtual 34, 3) := by decide +kernel
theorem dX4_walk_5 : decode cX4_walk 5 = .ok (.invokestatic 38, 3) := by decide +kernel
theorem dX4_walk_8 : decode cX4_walk 8 = .ok (.istore 5, 2) := by decide +kernel
theorem dX4_walk_10 : decode cX4_walk 10 = .ok (.iload 5, 2) := by decide +kernel
theorem dX4_walk_12 : decode cX4_walk 12 = .ok (.ifCond .eq 15, 3) := by decide +kernel
theorem dX4_walk_15 : decode cX4_walk 15 = .ok (.aload_n 0, 1) := by decide +kernel
theorem dX4_walk_16 : decode cX4_walk 16 = .ok (.aload_n 1, 1) := by decide +kernel
theorem dX4_walk_17 : decode cX4_walk 17 = .ok (.iload_n 2, 1) := by decide +kernel
theorem dX4_walk_18 : decode cX4_walk 18 = .ok (.iload_n 3, 1) := by decide +kernel
theorem dX4_walk_19 : decode cX4_walk 19 = .ok (.iload 4, 2) := by decide +kernel
theorem dX4_walk_21 : decode cX4_walk 21 = .ok (.invokevirtual 43, 3) := by decide +kernel
theorem dX4_walk_24 : decode cX4_walk 24 = .ok (.ifCond .ne 4, 3) := by decide +kernel
theorem dX4_walk_27 : decode cX4_walk 27 = .ok (.return_, 1) := by decide +kernel
theorem dX4_walk_28 : decode cX4_walk 28 = .ok (.iload_n 3, 1) := by decide +kernel
theorem dX4_walk_29 : decode cX4_walk 29 = .ok (.ifCond .eq 12, 3) := by decide +kernel
theorem dX4_walk_32 : decode cX4_walk 32 = .ok (.aload_n 1, 1) := by decide +kernel
theorem dX4_walk_33 : decode cX4_walk 33 = .ok (.getfield 47, 3) := by decide +kernel
theorem dX4_walk_36 : decode cX4_walk 36 = .ok (.iload_n 2, 1) := by decide +kernel
theorem dX4_walk_37 : decode cX4_walk 37 = .ok (.iaload, 1) := by decide +kernel
theorem dX4_walk_38 : decode cX4_walk 38 = .ok (.goto 9, 3) := by decide +kernel
theorem dX4_walk_41 : decode cX4_walk 41 = .ok (.aload_n 1, 1) := by decide +kernel
theorem dX4_walk_42 : decode cX4_walk 42 = .ok (.getfield 50, 3) := by decide +kernel
theorem dX4_walk_45 : decode cX4_walk 45 = .ok (.iload_n 2, 1) := by decide +kernel
theorem dX4_walk_46 : decode cX4_walk 46 = .ok (.iaload, 1) := by decide +kernel
theorem dX4_walk_47 : decode cX4_walk 47 = .ok (.istore 6, 2) := by decide +kernel
theorem dX4_walk_49 : decode cX4_walk 49 = .ok (.iload_n 3, 1) := by decide +kernel
theorem dX4_walk_50 : decode cX4_walk 50 = .ok (.ifCond .eq 12, 3) := by decide +kernel
theorem dX4_walk_53 : decode cX4_walk 53 = .ok (.aload_n 1, 1) := by decide +kernel
theorem dX4_walk_54 : decode cX4_walk 54 = .ok (.getfield 50, 3) := by decide +kernel
theorem dX4_walk_57 : decode cX4_walk 57 = .ok (.iload_n 2, 1) := by decide +kernel
theorem dX4_walk_58 : decode cX4_walk 58 = .ok (.iaload, 1) := by decide +kernel
theorem dX4_walk_59 : decode cX4_walk 59 = .ok (.goto 9, 3) := by decide +kernel
theorem dX4_walk_62 : decode cX4_walk 62 = .ok (.aload_n 1, 1) := by decide +kernel
theorem dX4_walk_63 : decode cX4_walk 63 = .ok (.getfield 47, 3) := by decide +kernel
theorem dX4_walk_66 : decode cX4_walk 66 = .ok (.iload_n 2, 1) := by decide +kernel
theorem dX4_walk_67 : decode cX4_walk 67 = .ok (.iaload, 1) := by decide +kernel
theorem dX4_walk_68 : decode cX4_walk 68 = .ok (.istore 7, 2) := by decide +kernel
theorem dX4_walk_70 : decode cX4_walk 70 = .ok (.aload_n 0, 1) := by decide +kernel
theorem dX4_walk_71 : decode cX4_walk 71 = .ok (.getfield 19, 3) := by decide +kernel
theorem dX4_walk_74 : decode cX4_walk 74 = .ok (.iload 4, 2) := by decide +kernel
theorem dX4_walk_76 : decode cX4_walk 76 = .ok (.iload 5, 2) := by decide +kernel
theorem dX4_walk_78 : decode cX4_walk 78 = .ok (.iadd, 1) := by decide +kernel
theorem dX4_walk_79 : decode cX4_walk 79 = .ok (.bipush 6, 2) := by decide +kernel
theorem dX4_walk_81 : decode cX4_walk 81 = .ok (.imul, 1) := by decide +kernel
theorem dX4_walk_82 : decode cX4_walk 82 = .ok (.iload 7, 2) := by decide +kernel
theorem dX4_walk_84 : decode cX4_walk 84 = .ok (.iadd, 1) := by decide +kernel
theorem dX4_walk_85 : decode cX4_walk 85 = .ok (.dup2, 1) := by decide +kernel
theorem dX4_walk_86 : decode cX4_walk 86 = .ok (.iaload, 1) := by decide +kernel
theorem dX4_walk_87 : decode cX4_walk 87 = .ok (.aload_n 0, 1) := by decide +kernel
theorem dX4_walk_88 : decode cX4_walk 88 = .ok (.getfield 19, 3) := by decide +kernel
theorem dX4_walk_91 : decode cX4_walk 91 = .ok (.iload 4, 2) := by decide +kernel
theorem dX4_walk_93 : decode cX4_walk 93 = .ok (.bipush 6, 2) := by decide +kernel
theorem dX4_walk_95 : decode cX4_walk 95 = .ok (.imul, 1) := by decide +kernel
theorem dX4_walk_96 : decode cX4_walk 96 = .ok (.iload 6, 2) := by decide +kernel
theorem dX4_walk_98 : decode cX4_walk 98 = .ok (.iadd, 1) := by decide +kernel
theorem dX4_walk_99 : decode cX4_walk 99 = .ok (.iaload, 1) := by decide +kernel
theorem dX4_walk_100 : decode cX4_walk 100 = .ok (.iadd, 1) := by decide +kernel
theorem dX4_walk_101 : decode cX4_walk 101 = .ok (.iastore, 1) := by decide +kernel
theorem dX4_walk_102 : decode cX4_walk 102 = .ok (.return_, 1) := by decide +kernel
theorem dX4_isReadNext_0 : decode cX4_isReadNext 0 = .ok (.iload 4, 2) := by decide +kernel
theorem dX4_isReadNext_2 : decode cX4_isReadNext 2 = .ok (.istore 5, 2) := by decide +kernel
theorem dX4_isReadNext_4 : decode cX4_isReadNext 4 = .ok (.iconst 0, 1) := by decide +kernel
theorem dX4_isReadNext_5 : decode cX4_isReadNext 5 = .ok (.istore 6, 2) := by decide +kernel
theorem dX4_isReadNext_7 : decode cX4_isReadNext 7 = .ok (.iload 6, 2) := by decide +kernel
theorem dX4_isReadNext_9 : decode cX4_isReadNext 9 = .ok (.aload_n 1, 1) := by decide +kernel
theorem dX4_isReadNext_10 : decode cX4_isReadNext 10 = .ok (.getfield 53, 3) := by decide +kernel
theorem dX4_isReadNext_13 : decode cX4_isReadNext 13 = .ok (.if_icmp .ge 66, 3) := by decide +kernel
theorem dX4_isReadNext_16 : decode cX4_isReadNext 16 = .ok (.iload_n 3, 1) := by decide +kernel
theorem dX4_isReadNext_17 : decode cX4_isReadNext 17 = .ok (.ifCond .eq 8, 3) := by decide +kernel
theorem dX4_isReadNext_20 : decode cX4_isReadNext 20 = .ok (.iload 6, 2) := by decide +kernel
theorem dX4_isReadNext_22 : decode cX4_isReadNext 22 = .ok (.goto 12, 3) := by decide +kernel
theorem dX4_isReadNext_25 : decode cX4_isReadNext 25 = .ok (.aload_n 1, 1) := by decide +kernel
theorem dX4_isReadNext_26 : decode cX4_isReadNext 26 = .ok (.getfield 53, 3) := by decide +kernel
theorem dX4_isReadNext_29 : decode cX4_isReadNext 29 = .ok (.iconst 1, 1) := by decide +kernel
theorem dX4_isReadNext_30 : decode cX4_isReadNext 30 = .ok (.isub, 1) := by decide +kernel
theorem dX4_isReadNext_31 : decode cX4_isReadNext 31 = .ok (.iload 6, 2) := by decide +kernel
theorem dX4_isReadNext_33 : decode cX4_isReadNext 33 = .ok (.isub, 1) := by decide +kernel
theorem dX4_isReadNext_34 : decode cX4_isReadNext 34 = .ok (.istore 7, 2) := by decide +kernel
theorem dX4_isReadNext_36 : decode cX4_isReadNext 36 = .ok (.aload_n 1, 1) := by decide +kernel
theorem dX4_isReadNext_37 : decode cX4_isReadNext 37 = .ok (.getfield 56, 3) := by decide +kernel
theorem dX4_isReadNext_40 : decode cX4_isReadNext 40 = .ok (.iload 7, 2) := by decide +kernel
theorem dX4_isReadNext_42 : decode cX4_isReadNext 42 = .ok (.iaload, 1) := by decide +kernel
theorem dX4_isReadNext_43 : decode cX4_isReadNext 43 = .ok (.iload_n 2, 1) := by decide +kernel
theorem dX4_isReadNext_44 : decode cX4_isReadNext 44 = .ok (.if_icmp .ne 29, 3) := by decide +kernel
theorem dX4_isReadNext_47 : decode cX4_isReadNext 47 = .ok (.iload 5, 2) := by decide +kernel
theorem dX4_isReadNext_49 : decode cX4_isReadNext 49 = .ok (.aload_n 0, 1) := by decide +kernel
theorem dX4_isReadNext_50 : decode cX4_isReadNext 50 = .ok (.getfield 9, 3) := by decide +kernel
theorem dX4_isReadNext_53 : decode cX4_isReadNext 53 = .ok (.if_icmp .ge 15, 3) := by decide +kernel
theorem dX4_isReadNext_56 : decode cX4_isReadNext 56 = .ok (.aload_n 0, 1) := by decide +kernel
theorem dX4_isReadNext_57 : decode cX4_isReadNext 57 = .ok (.getfield 15, 3) := by decide +kernel
theorem dX4_isReadNext_60 : decode cX4_isReadNext 60 = .ok (.iload 5, 2) := by decide +kernel
theorem dX4_isReadNext_62 : decode cX4_isReadNext 62 = .ok (.iaload, 1) := by decide +kernel
theorem dX4_isReadNext_63 : decode cX4_isReadNext 63 = .ok (.iload 7, 2) := by decide +kernel
theorem dX4_isReadNext_65 : decode cX4_isReadNext 65 = .ok (.if_icmp .eq 5, 3) := by decide +kernel
theorem dX4_isReadNext_68 : decode cX4_isReadNext 68 = .ok (.iconst 0, 1) := by decide +kernel
theorem dX4_isReadNext_69 : decode cX4_isReadNext 69 = .ok (.ireturn, 1) := by decide +kernel
theorem dX4_isReadNext_70 : decode cX4_isReadNext 70 = .ok (.iinc 5 1, 3) := by decide +kernel
theorem dX4_isReadNext_73 : decode cX4_isReadNext 73 = .ok (.iinc 6 1, 3) := by decide +kernel
theorem dX4_isReadNext_76 : decode cX4_isReadNext 76 = .ok (.goto (-69), 3) := by decide +kernel
theorem dX4_isReadNext_79 : decode cX4_isReadNext 79 = .ok (.iconst 1, 1) := by decide +kernel
theorem dX4_isReadNext_80 : decode cX4_isReadNext 80 = .ok (.ireturn, 1) := by decide +kernel
theorem dX5_init_0 : decode cX5_init 0 = .ok (.aload_n 0, 1) := by decide +kernel
theorem dX5_init_1 : decode cX5_init 1 = .ok (.invokespecial 3, 3) := by decide +kernel
theorem dX5_init_4 : decode cX5_init 4 = .ok (.aload_n 0, 1) := by decide +kernel
theorem dX5_init_5 : decode cX5_init 5 = .ok (.iconst 0, 1) := by decide +kernel
theorem dX5_init_6 : decode cX5_init 6 = .ok (.putfield 9, 3) := by decide +kernel
theorem dX5_init_9 : decode cX5_init 9 = .ok (.aload_n 0, 1) := by decide +kernel
theorem dX5_init_10 : decode cX5_init 10 = .ok (.bipush 80, 2) := by decide +kernel
theorem dX5_init_12 : decode cX5_init 12 = .ok (.newarray .int, 2) := by decide +kernel
theorem dX5_init_14 : decode cX5_init 14 = .ok (.putfield 15, 3) := by decide +kernel
theorem dX5_init_17 : decode cX5_init 17 = .ok (.return_, 1) := by decide +kernel
theorem dX5_add_0 : decode cX5_add 0 = .ok (.aload_n 0, 1) := by decide +kernel
theorem dX5_add_1 : decode cX5_add 1 = .ok (.getfield 9, 3) := by decide +kernel
theorem dX5_add_4 : decode cX5_add 4 = .ok (.aload_n 0, 1) := by decide +kernel
theorem dX5_add_5 : decode cX5_add 5 = .ok (.getfield 15, 3) := by decide +kernel
theorem dX5_add_8 : decode cX5_add 8 = .ok (.arraylength, 1) := by decide +kernel
theorem dX5_add_9 : decode cX5_add 9 = .ok (.if_icmp .ge 23, 3) := by decide +kernel
theorem dX5_add_12 : decode cX5_add 12 = .ok (.aload_n 0, 1) := by decide +kernel
theorem dX5_add_13 : decode cX5_add 13 = .ok (.getfield 15, 3) := by decide +kernel
theorem dX5_add_16 : decode cX5_add 16 = .ok (.aload_n 0, 1) := by decide +kernel
theorem dX5_add_17 : decode cX5_add 17 = .ok (.getfield 9, 3) := by decide +kernel
theorem dX5_add_20 : decode cX5_add 20 = .ok (.iload_n 1, 1) := by decide +kernel
theorem dX5_add_21 : decode cX5_add 21 = .ok (.iastore, 1) := by decide +kernel
theorem dX5_add_22 : decode cX5_add 22 = .ok (.aload_n 0, 1) := by decide +kernel
theorem dX5_add_23 : decode cX5_add 23 = .ok (.dup, 1) := by decide +kernel
theorem dX5_add_24 : decode cX5_add 24 = .ok (.getfield 9, 3) := by decide +kernel
theorem dX5_add_27 : decode cX5_add 27 = .ok (.iconst 1, 1) := by decide +kernel
theorem dX5_add_28 : decode cX5_add 28 = .ok (.iadd, 1) := by decide +kernel
theorem dX5_add_29 : decode cX5_add 29 = .ok (.putfield 9, 3) := by decide +kernel
theorem dX5_add_32 : decode cX5_add 32 = .ok (.return_, 1) := by decide +kernel
theorem dX5_clear_0 : decode cX5_clear 0 = .ok (.aload_n 0, 1) := by decide +kernel
theorem dX5_clear_1 : decode cX5_clear 1 = .ok (.iconst 0, 1) := by decide +kernel
theorem dX5_clear_2 : decode cX5_clear 2 = .ok (.putfield 9, 3) := by decide +kernel
theorem dX5_clear_5 : decode cX5_clear 5 = .ok (.return_, 1) := by decide +kernel
theorem dX5_at_0 : decode cX5_at 0 = .ok (.iload_n 1, 1) := by decide +kernel
theorem dX5_at_1 : decode cX5_at 1 = .ok (.ifCond .lt 20, 3) := by decide +kernel
theorem dX5_at_4 : decode cX5_at 4 = .ok (.iload_n 1, 1) := by decide +kernel
theorem dX5_at_5 : decode cX5_at 5 = .ok (.aload_n 0, 1) := by decide +kernel
theorem dX5_at_6 : decode cX5_at 6 = .ok (.getfield 9, 3) := by decide +kernel
theorem dX5_at_9 : decode cX5_at 9 = .ok (.if_icmp .ge 12, 3) := by decide +kernel
theorem dX5_at_12 : decode cX5_at 12 = .ok (.aload_n 0, 1) := by decide +kernel
theorem dX5_at_13 : decode cX5_at 13 = .ok (.getfield 15, 3) := by decide +kernel
theorem dX5_at_16 : decode cX5_at 16 = .ok (.iload_n 1, 1) := by decide +kernel
theorem dX5_at_17 : decode cX5_at 17 = .ok (.iaload, 1) := by decide +kernel
theorem dX5_at_18 : decode cX5_at 18 = .ok (.goto 4, 3) := by decide +kernel
theorem dX5_at_21 : decode cX5_at 21 = .ok (.iconst 0, 1) := by decide +kernel
theorem dX5_at_22 : decode cX5_at 22 = .ok (.ireturn, 1) := by decide +kernel
theorem dX5_digitAt_0 : decode cX5_digitAt 0 = .ok (.aload_n 0, 1) := by decide +kernel
theorem dX5_digitAt_1 : decode cX5_digitAt 1 = .ok (.iload_n 1, 1) := by decide +kernel
theorem dX5_digitAt_2 : decode cX5_digitAt 2 = .ok (.invokevirtual 19, 3) := by decide +kernel
theorem dX5_digitAt_5 : decode cX5_digitAt 5 = .ok (.invokestatic 23, 3) := by decide +kernel
theorem dX5_digitAt_8 : decode cX5_digitAt 8 = .ok (.ifCond .eq 14, 3) := by decide +kernel
theorem dX5_digitAt_11 : decode cX5_digitAt 11 = .ok (.aload_n 0, 1) := by decide +kernel
theorem dX5_digitAt_12 : decode cX5_digitAt 12 = .ok (.iload_n 1, 1) := by decide +kernel
theorem dX5_digitAt_13 : decode cX5_digitAt 13 = .ok (.invokevirtual 19, 3) := by decide +kernel
theorem dX5_digitAt_16 : decode cX5_digitAt 16 = .ok (.bipush 48, 2) := by decide +kernel
theorem dX5_digitAt_18 : decode cX5_digitAt 18 = .ok (.isub, 1) := by decide +kernel
theorem dX5_digitAt_19 : decode cX5_digitAt 19 = .ok (.goto 4, 3) := by decide +kernel
theorem dX5_digitAt_22 : decode cX5_digitAt 22 = .ok (.iconst (-1), 1) := by decide +kernel
theorem dX5_digitAt_23 : decode cX5_digitAt 23 = .ok (.ireturn, 1) := by decide +kernel
theorem dX5_kindAt_0 : decode cX5_kindAt 0 = .ok (.ldc 27, 2) := by decide +kernel
theorem dX5_kindAt_2 : decode cX5_kindAt 2 = .ok (.aload_n 0, 1) := by decide +kernel
theorem dX5_kindAt_3 : decode cX5_kindAt 3 = .ok (.iload_n 1, 1) := by decide +kernel
theorem dX5_kindAt_4 : decode cX5_kindAt 4 = .ok (.invokevirtual 19, 3) := by decide +kernel
theorem dX5_kindAt_7 : decode cX5_kindAt 7 = .ok (.i2c, 1) := by decide +kernel
theorem dX5_kindAt_8 : decode cX5_kindAt 8 = .ok (.invokevirtual 29, 3) := by decide +kernel
theorem dX5_kindAt_11 : decode cX5_kindAt 11 = .ok (.ireturn, 1) := by decide +kernel
theorem dX5_lengthAt_0 : decode cX5_lengthAt 0 = .ok (.aload_n 0, 1) := by decide +kernel
theorem dX5_lengthAt_1 : decode cX5_lengthAt 1 = .ok (.iload_n 1, 1) := by decide +kernel
theorem dX5_lengthAt_2 : decode cX5_lengthAt 2 = .ok (.invokevirtual 19, 3) := by decide +kernel
theorem dX5_lengthAt_5 : decode cX5_lengthAt 5 = .ok (.invokestatic 34, 3) := by decide +kernel
theorem dX5_lengthAt_8 : decode cX5_lengthAt 8 = .ok (.invokevirtual 38, 3) := by decide +kernel
theorem dX5_lengthAt_11 : decode cX5_lengthAt 11 = .ok (.ireturn, 1) := by decide +kernel
theorem dX5_firstOdd_0 : decode cX5_firstOdd 0 = .ok (.ldc 42, 2) := by decide +kernel
theorem dX5_firstOdd_2 : decode cX5_firstOdd 2 = .ok (.astore_n 1, 1) := by decide +kernel
theorem dX5_firstOdd_3 : decode cX5_firstOdd 3 = .ok (.iconst 0, 1) := by decide +kernel
theorem dX5_firstOdd_4 : decode cX5_firstOdd 4 = .ok (.istore_n 2, 1) := by decide +kernel
theorem dX5_firstOdd_5 : decode cX5_firstOdd 5 = .ok (.iconst 0, 1) := by decide +kernel
theorem dX5_firstOdd_6 : decode cX5_firstOdd 6 = .ok (.istore_n 3, 1) := by decide +kernel
theorem dX5_firstOdd_7 : decode cX5_firstOdd 7 = .ok (.iload_n 3, 1) := by decide +kernel
theorem dX5_firstOdd_8 : decode cX5_firstOdd 8 = .ok (.aload_n 0, 1) := by decide +kernel
theorem dX5_firstOdd_9 : decode cX5_firstOdd 9 = .ok (.getfield 9, 3) := by decide +kernel
theorem dX5_firstOdd_12 : decode cX5_firstOdd 12 = .ok (.if_icmp .ge 59, 3) := by decide +kernel
theorem dX5_firstOdd_15 : decode cX5_firstOdd 15 = .ok (.iload_n 2, 1) := by decide +kernel
theorem dX5_firstOdd_16 : decode cX5_firstOdd 16 = .ok (.aload_n 1, 1) := by decide +kernel
theorem dX5_firstOdd_17 : decode cX5_firstOdd 17 = .ok (.invokevirtual 38, 3) := by decide +kernel
theorem dX5_firstOdd_20 : decode cX5_firstOdd 20 = .ok (.if_icmp .ne 15, 3) := by decide +kernel
theorem dX5_firstOdd_23 : decode cX5_firstOdd 23 = .ok (.aload_n 0, 1) := by decide +kernel
theorem dX5_firstOdd_24 : decode cX5_firstOdd 24 = .ok (.getfield 15, 3) := by decide +kernel
theorem dX5_firstOdd_27 : decode cX5_firstOdd 27 = .ok (.iload_n 3, 1) := by decide +kernel
theorem dX5_firstOdd_28 : decode cX5_firstOdd 28 = .ok (.iaload, 1) := by decide +kernel
theorem dX5_firstOdd_29 : decode cX5_firstOdd 29 = .ok (.invokestatic 34, 3) := by decide +kernel
theorem dX5_firstOdd_32 : decode cX5_firstOdd 32 = .ok (.astore_n 1, 1) := by decide +kernel
theorem dX5_firstOdd_33 : decode cX5_firstOdd 33 = .ok (.iconst 0, 1) := by decide +kernel
theorem dX5_firstOdd_34 : decode cX5_firstOdd 34 = .ok (.istore_n 2, 1) := by decide +kernel
theorem dX5_firstOdd_35 : decode cX5_firstOdd 35 = .ok (.iload_n 2, 1) := by decide +kernel
theorem dX5_firstOdd_36 : decode cX5_firstOdd 36 = .ok (.aload_n 1, 1) := by decide +kernel
theorem dX5_firstOdd_37 : decode cX5_firstOdd 37 = .ok (.invokevirtual 38, 3) := by decide +kernel
theorem dX5_firstOdd_40 : decode cX5_firstOdd 40 = .ok (.if_icmp .ge 20, 3) := by decide +kernel
theorem dX5_firstOdd_43 : decode cX5_firstOdd 43 = .ok (.aload_n 1, 1) := by decide +kernel
theorem dX5_firstOdd_44 : decode cX5_firstOdd 44 = .ok (.iload_n 2, 1) := by decide +kernel
theorem dX5_firstOdd_45 : decode cX5_firstOdd 45 = .ok (.invokevirtual 44, 3) := by decide +kernel
theorem dX5_firstOdd_48 : decode cX5_firstOdd 48 = .ok (.aload_n 0, 1) := by decide +kernel
theorem dX5_firstOdd_49 : decode cX5_firstOdd 49 = .ok (.getfield 15, 3) := by decide +kernel
theorem dX5_firstOdd_52 : decode cX5_firstOdd 52 = .ok (.iload_n 3, 1) := by decide +kernel
theorem dX5_firstOdd_53 : decode cX5_firstOdd 53 = .ok (.iaload, 1) := by decide +kernel
theorem dX5_firstOdd_54 : decode cX5_firstOdd 54 = .ok (.invokestatic 48, 3) := by decide +kernel
theorem dX5_firstOdd_57 : decode cX5_firstOdd 57 = .ok (.ifCond .ne 5, 3) := by decide +kernel
theorem dX5_firstOdd_60 : decode cX5_firstOdd 60 = .ok (.iload_n 3, 1) := by decide +kernel
theorem dX5_firstOdd_61 : decode cX5_firstOdd 61 = .ok (.ireturn, 1) := by decide +kernel
theorem dX5_firstOdd_62 : decode cX5_firstOdd 62 = .ok (.iinc 2 1, 3) := by decide +kernel
theorem dX5_firstOdd_65 : decode cX5_firstOdd 65 = .ok (.iinc 3 1, 3) := by decide +kernel
theorem dX5_firstOdd_68 : decode cX5_firstOdd 68 = .ok (.goto (-61), 3) := by decide +kernel
theorem dX5_firstOdd_71 : decode cX5_firstOdd 71 = .ok (.aload_n 0, 1) := by decide +kernel
theorem dX5_firstOdd_72 : decode cX5_firstOdd 72 = .ok (.getfield 9, 3) := by decide +kernel
theorem dX5_firstOdd_75 : decode cX5_firstOdd 75 = .ok (.ifCond .eq 11, 3) := by decide +kernel
theorem dX5_firstOdd_78 : decode cX5_firstOdd 78 = .ok (.iload_n 2, 1) := by decide +kernel
theorem dX5_firstOdd_79 : decode cX5_firstOdd 79 = .ok (.aload_n 1, 1) := by decide +kernel
theorem dX5_firstOdd_80 : decode cX5_firstOdd 80 = .ok (.invokevirtual 38, 3) := by decide +kernel
theorem dX5_firstOdd_83 : decode cX5_firstOdd 83 = .ok (.if_icmp .ge 10, 3) := by decide +kernel
theorem dX5_firstOdd_86 : decode cX5_firstOdd 86 = .ok (.aload_n 0, 1) := by decide +kernel
theorem dX5_firstOdd_87 : decode cX5_firstOdd 87 = .ok (.getfield 9, 3) := by decide +kernel
theorem dX5_firstOdd_90 : decode cX5_firstOdd 90 = .ok (.goto 4, 3) := by decide +kernel
theorem dX5_firstOdd_93 : decode cX5_firstOdd 93 = .ok (.iconst (-1), 1) := by decide +kernel
theorem dX5_firstOdd_94 : decode cX5_firstOdd 94 = .ok (.ireturn, 1) := by decide +kernel
theorem dX5_formOf_0 : decode cX5_formOf 0 = .ok (.iload_n 0, 1) := by decide +kernel
theorem dX5_formOf_1 : decode cX5_formOf 1 = .ok (.tableswitch 89 102 115 #[77, 89, 89, 86, 89, 89, 83, 89, 71, 89, 89, 89, 74, 80], 71) := by decide +kernel
theorem dX5_formOf_72 : decode cX5_formOf 72 = .ok (.ldc 52, 2) := by decide +kernel
theorem dX5_formOf_74 : decode cX5_formOf 74 = .ok (.areturn, 1) := by decide +kernel
theorem dX5_formOf_75 : decode cX5_formOf 75 = .ok (.ldc 54, 2) := by decide +kernel
theorem dX5_formOf_77 : decode cX5_formOf 77 = .ok (.areturn, 1) := by decide +kernel
theorem dX5_formOf_78 : decode cX5_formOf 78 = .ok (.ldc 56, 2) := by decide +kernel
theorem dX5_formOf_80 : decode cX5_formOf 80 = .ok (.areturn, 1) := by decide +kernel
theorem dX5_formOf_81 : decode cX5_formOf 81 = .ok (.ldc 58, 2) := by decide +kernel
theorem dX5_formOf_83 : decode cX5_formOf 83 = .ok (.areturn, 1) := by decide +kernel
theorem dX5_formOf_84 : decode cX5_formOf 84 = .ok (.ldc 60, 2) := by decide +kernel
theorem dX5_formOf_86 : decode cX5_formOf 86 = .ok (.areturn, 1) := by decide +kernel
theorem dX5_formOf_87 : decode cX5_formOf 87 = .ok (.ldc 62, 2) := by decide +kernel
theorem dX5_formOf_89 : decode cX5_formOf 89 = .ok (.areturn, 1) := by decide +kernel
theorem dX5_formOf_90 : decode cX5_formOf 90 = .ok (.ldc 42, 2) := by decide +kernel
theorem dX5_formOf_92 : decode cX5_formOf 92 = .ok (.areturn, 1) := by decide +kernel
theorem dX5_suits_0 : decode cX5_suits 0 = .ok (.iload_n 0, 1) := by decide +kernel
theorem dX5_suits_1 : decode cX5_suits 1 = .ok (.bipush 100, 2) := by decide +kernel
theorem dX5_suits_3 : decode cX5_suits 3 = .ok (.if_icmp .ne 8, 3) := by decide +kernel
theorem dX5_suits_6 : decode cX5_suits 6 = .ok (.iload_n 1, 1) := by decide +kernel
theorem dX5_suits_7 : decode cX5_suits 7 = .ok (.invokestatic 23, 3) := by decide +kernel
theorem dX5_suits_10 : decode cX5_suits 10 = .ok (.ireturn, 1) := by decide +kernel
theorem dX5_suits_11 : decode cX5_suits 11 = .ok (.iload_n 0, 1) := by decide +kernel
theorem dX5_suits_12 : decode cX5_suits 12 = .ok (.bipush 107, 2) := by decide +kernel
theorem dX5_suits_14 : decode cX5_suits 14 = .ok (.if_icmp .ne 19, 3) := by decide +kernel
theorem dX5_suits_17 : decode cX5_suits 17 = .ok (.ldc 27, 2) := by decide +kernel
theorem dX5_suits_19 : decode cX5_suits 19 = .ok (.iload_n 1, 1) := by decide +kernel
theorem dX5_suits_20 : decode cX5_suits 20 = .ok (.i2c, 1) := by decide +kernel
theorem dX5_suits_21 : decode cX5_suits 21 = .ok (.invokevirtual 29, 3) := by decide +kernel
theorem dX5_suits_24 : decode cX5_suits 24 = .ok (.ifCond .lt 7, 3) := by decide +kernel
theorem dX5_suits_27 : decode cX5_suits 27 = .ok (.iconst 1, 1) := by decide +kernel
theorem dX5_suits_28 : decode cX5_suits 28 = .ok (.goto 4, 3) := by decide +kernel
theorem dX5_suits_31 : decode cX5_suits 31 = .ok (.iconst 0, 1) := by decide +kernel
theorem dX5_suits_32 : decode cX5_suits 32 = .ok (.ireturn, 1) := by decide +kernel
theorem dX5_suits_33 : decode cX5_suits 33 = .ok (.iload_n 0, 1) := by decide +kernel
theorem dX5_suits_34 : decode cX5_suits 34 = .ok (.iload_n 1, 1) := by decide +kernel
theorem dX5_suits_35 : decode cX5_suits 35 = .ok (.if_icmp .ne 7, 3) := by decide +kernel
theorem dX5_suits_38 : decode cX5_suits 38 = .ok (.iconst 1, 1) := by decide +kernel
theorem dX5_suits_39 : decode cX5_suits 39 = .ok (.goto 4, 3) := by decide +kernel
theorem dX5_suits_42 : decode cX5_suits 42 = .ok (.iconst 0, 1) := by decide +kernel
theorem dX5_suits_43 : decode cX5_suits 43 = .ok (.ireturn, 1) := by decide +kernel
theorem dX5_isDigit_0 : decode cX5_isDigit 0 = .ok (.iload_n 0, 1) := by decide +kernel
theorem dX5_isDigit_1 : decode cX5_isDigit 1 = .ok (.bipush 48, 2) := by decide +kernel
theorem dX5_isDigit_3 : decode cX5_isDigit 3 = .ok (.if_icmp .lt 13, 3) := by decide +kernel
theorem dX5_isDigit_6 : decode cX5_isDigit 6 = .ok (.iload_n 0, 1) := by decide +kernel
theorem dX5_isDigit_7 : decode cX5_isDigit 7 = .ok (.bipush 57, 2) := by decide +kernel
theorem dX5_isDigit_9 : decode cX5_isDigit 9 = .ok (.if_icmp .gt 7, 3) := by decide +kernel
theorem dX5_isDigit_12 : decode cX5_isDigit 12 = .ok (.iconst 1, 1) := by decide +kernel
theorem dX5_isDigit_13 : decode cX5_isDigit 13 = .ok (.goto 4, 3) := by decide +kernel
theorem dX5_isDigit_16 : decode cX5_isDigit 16 = .ok (.iconst 0, 1) := by decide +kernel
theorem dX5_isDigit_17 : decode cX5_isDigit 17 = .ok (.ireturn, 1) := by decide +kernel
theorem dX6_init_0 : decode cX6_init 0 = .ok (.aload_n 0, 1) := by decide +kernel
theorem dX6_init_1 : decode cX6_init 1 = .ok (.invokespecial 3, 3) := by decide +kernel
theorem dX6_init_4 : decode cX6_init 4 = .ok (.aload_n 0, 1) := by decide +kernel
theorem dX6_init_5 : decode cX6_init 5 = .ok (.sipush 1536, 3) := by decide +kernel
theorem dX6_init_8 : decode cX6_init 8 = .ok (.newarray .int, 2) := by decide +kernel
theorem dX6_init_10 : decode cX6_init 10 = .ok (.putfield 9, 3) := by decide +kernel
theorem dX6_init_13 : decode cX6_init 13 = .ok (.aload_n 0, 1) := by decide +kernel
theorem dX6_init_14 : decode cX6_init 14 = .ok (.bipush 16, 2) := by decide +kernel
theorem dX6_init_16 : decode cX6_init 16 = .ok (.newarray .boolean, 2) := by decide +kernel
theorem dX6_init_18 : decode cX6_init 18 = .ok (.putfield 15, 3) := by decide +kernel
theorem dX6_init_21 : decode cX6_init 21 = .ok (.return_, 1) := by decide +kernel
theorem dX6_reckon_0 : decode cX6_reckon 0 = .ok (.iconst 0, 1) := by decide +kernel
theorem dX6_reckon_1 : decode cX6_reckon 1 = .ok (.istore_n 3, 1) := by decide +kernel
theorem dX6_reckon_2 : decode cX6_reckon 2 = .ok (.iload_n 3, 1) := by decide +kernel
theorem dX6_reckon_3 : decode cX6_reckon 3 = .ok (.bipush 16, 2) := by decide +kernel
theorem dX6_reckon_5 : decode cX6_reckon 5 = .ok (.if_icmp .ge 16, 3) := by decide +kernel
theorem dX6_reckon_8 : decode cX6_reckon 8 = .ok (.aload_n 0, 1) := by decide +kernel
theorem dX6_reckon_9 : decode cX6_reckon 9 = .ok (.getfield 15, 3) := by decide +kernel
theorem dX6_reckon_12 : decode cX6_reckon 12 = .ok (.iload_n 3, 1) := by decide +kernel
theorem dX6_reckon_13 : decode cX6_reckon 13 = .ok (.iconst 0, 1) := by decide +kernel
theorem dX6_reckon_14 : decode cX6_reckon 14 = .ok (.bastore, 1) := by decide +kernel
theorem dX6_reckon_15 : decode cX6_reckon 15 = .ok (.iinc 3 1, 3) := by decide +kernel
theorem dX6_reckon_18 : decode cX6_reckon 18 = .ok (.goto (-16), 3) := by decide +kernel
theorem dX6_reckon_21 : decode cX6_reckon 21 = .ok (.iconst 0, 1) := by decide +kernel
theorem dX6_reckon_22 : decode cX6_reckon 22 = .ok (.istore_n 3, 1) := by decide +kernel
theorem dX6_reckon_23 : decode cX6_reckon 23 = .ok (.iload_n 3, 1) := by decide +kernel
theorem dX6_reckon_24 : decode cX6_reckon 24 = .ok (.aload_n 2, 1) := by decide +kernel
theorem dX6_reckon_25 : decode cX6_reckon 25 = .ok (.getfield 19, 3) := by decide +kernel
theorem dX6_reckon_28 : decode cX6_reckon 28 = .ok (.if_icmp .ge 24, 3) := by decide +kernel
theorem dX6_reckon_31 : decode cX6_reckon 31 = .ok (.aload_n 0, 1) := by decide +kernel
theorem dX6_reckon_32 : decode cX6_reckon 32 = .ok (.getfield 15, 3) := by decide +kernel
theorem dX6_reckon_35 : decode cX6_reckon 35 = .ok (.aload_n 2, 1) := by decide +kernel
theorem dX6_reckon_36 : decode cX6_reckon 36 = .ok (.getfield 25, 3) := by decide +kernel
theorem dX6_reckon_39 : decode cX6_reckon 39 = .ok (.iload_n 3, 1) := by decide +kernel
theorem dX6_reckon_40 : decode cX6_reckon 40 = .ok (.iaload, 1) := by decide +kernel
theorem dX6_reckon_41 : decode cX6_reckon 41 = .ok (.bipush 15, 2) := by decide +kernel
theorem dX6_reckon_43 : decode cX6_reckon 43 = .ok (.iand, 1) := by decide +kernel
theorem dX6_reckon_44 : decode cX6_reckon 44 = .ok (.iconst 1, 1) := by decide +kernel
theorem dX6_reckon_45 : decode cX6_reckon 45 = .ok (.bastore, 1) := by decide +kernel
theorem dX6_reckon_46 : decode cX6_reckon 46 = .ok (.iinc 3 1, 3) := by decide +kernel
theorem dX6_reckon_49 : decode cX6_reckon 49 = .ok (.goto (-26), 3) := by decide +kernel
theorem dX6_reckon_52 : decode cX6_reckon 52 = .ok (.aload_n 2, 1) := by decide +kernel
theorem dX6_reckon_53 : decode cX6_reckon 53 = .ok (.getfield 28, 3) := by decide +kernel
theorem dX6_reckon_56 : decode cX6_reckon 56 = .ok (.bipush 15, 2) := by decide +kernel
theorem dX6_reckon_58 : decode cX6_reckon 58 = .ok (.iand, 1) := by decide +kernel
theorem dX6_reckon_59 : decode cX6_reckon 59 = .ok (.istore_n 3, 1) := by decide +kernel
theorem dX6_reckon_60 : decode cX6_reckon 60 = .ok (.iload_n 3, 1) := by decide +kernel
theorem dX6_reckon_61 : decode cX6_reckon 61 = .ok (.ifCond .lt 41, 3) := by decide +kernel
theorem dX6_reckon_64 : decode cX6_reckon 64 = .ok (.iconst 0, 1) := by decide +kernel
theorem dX6_reckon_65 : decode cX6_reckon 65 = .ok (.istore 4, 2) := by decide +kernel
theorem dX6_reckon_67 : decode cX6_reckon 67 = .ok (.iload 4, 2) := by decide +kernel
theorem dX6_reckon_69 : decode cX6_reckon 69 = .ok (.iload_n 3, 1) := by decide +kernel
theorem dX6_reckon_70 : decode cX6_reckon 70 = .ok (.if_icmp .gt 26, 3) := by decide +kernel
theorem dX6_reckon_73 : decode cX6_reckon 73 = .ok (.iload 4, 2) := by decide +kernel
theorem dX6_reckon_75 : decode cX6_reckon 75 = .ok (.iload_n 3, 1) := by decide +kernel
theorem dX6_reckon_76 : decode cX6_reckon 76 = .ok (.iconst (-1), 1) := by decide +kernel
theorem dX6_reckon_77 : decode cX6_reckon 77 = .ok (.ixor, 1) := by decide +kernel
theorem dX6_reckon_78 : decode cX6_reckon 78 = .ok (.iand, 1) := by decide +kernel
theorem dX6_reckon_79 : decode cX6_reckon 79 = .ok (.ifCond .ne 11, 3) := by decide +kernel
theorem dX6_reckon_82 : decode cX6_reckon 82 = .ok (.aload_n 0, 1) := by decide +kernel
theorem dX6_reckon_83 : decode cX6_reckon 83 = .ok (.aload_n 1, 1) := by decide +kernel
theorem dX6_reckon_84 : decode cX6_reckon 84 = .ok (.iload_n 3, 1) := by decide +kernel
theorem dX6_reckon_85 : decode cX6_reckon 85 = .ok (.iload 4, 2) := by decide +kernel
theorem dX6_reckon_87 : decode cX6_reckon 87 = .ok (.invokevirtual 31, 3) := by decide +kernel
theorem dX6_reckon_90 : decode cX6_reckon 90 = .ok (.iinc 4 1, 3) := by decide +kernel
theorem dX6_reckon_93 : decode cX6_reckon 93 = .ok (.goto (-26), 3) := by decide +kernel
theorem dX6_reckon_96 : decode cX6_reckon 96 = .ok (.iinc 3 (-1), 3) := by decide +kernel
theorem dX6_reckon_99 : decode cX6_reckon 99 = .ok (.goto (-39), 3) := by decide +kernel
theorem dX6_reckon_102 : decode cX6_reckon 102 = .ok (.return_, 1) := by decide +kernel
theorem dX6_leastRoads_0 : decode cX6_leastRoads 0 = .ok (.aload_n 0, 1) := by decide +kernel
theorem dX6_leastRoads_1 : decode cX6_leastRoads 1 = .ok (.getfield 9, 3) := by decide +kernel
theorem dX6_leastRoads_4 : decode cX6_leastRoads 4 = .ok (.iload_n 1, 1) := by decide +kernel
theorem dX6_leastRoads_5 : decode cX6_leastRoads 5 = .ok (.iconst 0, 1) := by decide +kernel
theorem dX6_leastRoads_6 : decode cX6_leastRoads 6 = .ok (.iconst 0, 1) := by decide +kernel
theorem dX6_leastRoads_7 : decode cX6_leastRoads 7 = .ok (.invokestatic 35, 3) := by decide +kernel
theorem dX6_leastRoads_10 : decode cX6_leastRoads 10 = .ok (.iaload, 1) := by decide +kernel
theorem dX6_leastRoads_11 : decode cX6_leastRoads 11 = .ok (.istore_n 2, 1) := by decide +kernel
theorem dX6_leastRoads_12 : decode cX6_leastRoads 12 = .ok (.iload_n 2, 1) := by decide +kernel
theorem dX6_leastRoads_13 : decode cX6_leastRoads 13 = .ok (.bipush 20, 2) := by decide +kernel
theorem dX6_leastRoads_15 : decode cX6_leastRoads 15 = .ok (.if_icmp .gt 7, 3) := by decide +kernel
theorem dX6_leastRoads_18 : decode cX6_leastRoads 18 = .ok (.iload_n 2, 1) := by decide +kernel
theorem dX6_leastRoads_19 : decode cX6_leastRoads 19 = .ok (.goto 5, 3) := by decide +kernel
theorem dX6_leastRoads_22 : decode cX6_leastRoads 22 = .ok (.bipush (-9), 2) := by decide +kernel
theorem dX6_leastRoads_24 : decode cX6_leastRoads 24 = .ok (.ireturn, 1) := by decide +kernel
theorem dX6_firstGoal_0 : decode cX6_firstGoal 0 = .ok (.aload_n 1, 1) := by decide +kernel
theorem dX6_firstGoal_1 : decode cX6_firstGoal 1 = .ok (.getfield 39, 3) := by decide +kernel
theorem dX6_firstGoal_4 : decode cX6_firstGoal 4 = .ok (.iload_n 2, 1) := by decide +kernel
theorem dX6_firstGoal_5 : decode cX6_firstGoal 5 = .ok (.iaload, 1) := by decide +kernel
theorem dX6_firstGoal_6 : decode cX6_firstGoal 6 = .ok (.istore 4, 2) := by decide +kernel
theorem dX6_firstGoal_8 : decode cX6_firstGoal 8 = .ok (.iload_n 3, 1) := by decide +kernel
theorem dX6_firstGoal_9 : decode cX6_firstGoal 9 = .ok (.iload 4, 2) := by decide +kernel
theorem dX6_firstGoal_11 : decode cX6_firstGoal 11 = .ok (.iand, 1) := by decide +kernel
theorem dX6_firstGoal_12 : decode cX6_firstGoal 12 = .ok (.istore 5, 2) := by decide +kernel
theorem dX6_firstGoal_14 : decode cX6_firstGoal 14 = .ok (.aload_n 0, 1) := by decide +kernel
theorem dX6_firstGoal_15 : decode cX6_firstGoal 15 = .ok (.getfield 9, 3) := by decide +kernel
theorem dX6_firstGoal_18 : decode cX6_firstGoal 18 = .ok (.iload_n 2, 1) := by decide +kernel
theorem dX6_firstGoal_19 : decode cX6_firstGoal 19 = .ok (.iload 4, 2) := by decide +kernel
theorem dX6_firstGoal_21 : decode cX6_firstGoal 21 = .ok (.iload 5, 2) := by decide +kernel
theorem dX6_firstGoal_23 : decode cX6_firstGoal 23 = .ok (.invokestatic 35, 3) := by decide +kernel
theorem dX6_firstGoal_26 : decode cX6_firstGoal 26 = .ok (.iaload, 1) := by decide +kernel
theorem dX6_firstGoal_27 : decode cX6_firstGoal 27 = .ok (.istore 6, 2) := by decide +kernel
theorem dX6_firstGoal_29 : decode cX6_firstGoal 29 = .ok (.iload 6, 2) := by decide +kernel
theorem dX6_firstGoal_31 : decode cX6_firstGoal 31 = .ok (.ifCond .eq 13, 3) := by decide +kernel
theorem dX6_firstGoal_34 : decode cX6_firstGoal 34 = .ok (.aload_n 0, 1) := by decide +kernel
theorem dX6_firstGoal_35 : decode cX6_firstGoal 35 = .ok (.iload_n 2, 1) := by decide +kernel
theorem dX6_firstGoal_36 : decode cX6_firstGoal 36 = .ok (.invokevirtual 44, 3) := by decide +kernel
theorem dX6_firstGoal_39 : decode cX6_firstGoal 39 = .ok (.bipush (-9), 2) := by decide +kernel
theorem dX6_firstGoal_41 : decode cX6_firstGoal 41 = .ok (.if_icmp .ne 6, 3) := by decide +kernel
theorem dX6_firstGoal_44 : decode cX6_firstGoal 44 = .ok (.bipush (-9), 2) := by decide +kernel
theorem dX6_firstGoal_46 : decode cX6_firstGoal 46 = .ok (.ireturn, 1) := by decide +kernel
theorem dX6_firstGoal_47 : decode cX6_firstGoal 47 = .ok (.iconst 0, 1) := by decide +kernel
theorem dX6_firstGoal_48 : decode cX6_firstGoal 48 = .ok (.istore 7, 2) := by decide +kernel
theorem dX6_firstGoal_50 : decode cX6_firstGoal 50 = .ok (.iload 7, 2) := by decide +kernel
theorem dX6_firstGoal_52 : decode cX6_firstGoal 52 = .ok (.aload_n 1, 1) := by decide +kernel
theorem dX6_firstGoal_53 : decode cX6_firstGoal 53 = .ok (.getfield 48, 3) := by decide +kernel
theorem dX6_firstGoal_56 : decode cX6_firstGoal 56 = .ok (.if_icmp .ge 43, 3) := by decide +kernel
theorem dX6_firstGoal_59 : decode cX6_firstGoal 59 = .ok (.aload_n 1, 1) := by decide +kernel
theorem dX6_firstGoal_60 : decode cX6_firstGoal 60 = .ok (.iload_n 2, 1) := by decide +kernel
theorem dX6_firstGoal_61 : decode cX6_firstGoal 61 = .ok (.iload 7, 2) := by decide +kernel
theorem dX6_firstGoal_63 : decode cX6_firstGoal 63 = .ok (.invokevirtual 51, 3) := by decide +kernel
theorem dX6_firstGoal_66 : decode cX6_firstGoal 66 = .ok (.ifCond .eq 27, 3) := by decide +kernel
theorem dX6_firstGoal_69 : decode cX6_firstGoal 69 = .ok (.aload_n 0, 1) := by decide +kernel
theorem dX6_firstGoal_70 : decode cX6_firstGoal 70 = .ok (.getfield 9, 3) := by decide +kernel
theorem dX6_firstGoal_73 : decode cX6_firstGoal 73 = .ok (.iload 7, 2) := by decide +kernel
theorem dX6_firstGoal_75 : decode cX6_firstGoal 75 = .ok (.iload 4, 2) := by decide +kernel
theorem dX6_firstGoal_77 : decode cX6_firstGoal 77 = .ok (.iload 5, 2) := by decide +kernel
theorem dX6_firstGoal_79 : decode cX6_firstGoal 79 = .ok (.invokestatic 35, 3) := by decide +kernel
theorem dX6_firstGoal_82 : decode cX6_firstGoal 82 = .ok (.iaload, 1) := by decide +kernel
theorem dX6_firstGoal_83 : decode cX6_firstGoal 83 = .ok (.iconst 1, 1) := by decide +kernel
theorem dX6_firstGoal_84 : decode cX6_firstGoal 84 = .ok (.iadd, 1) := by decide +kernel
theorem dX6_firstGoal_85 : decode cX6_firstGoal 85 = .ok (.iload 6, 2) := by decide +kernel
theorem dX6_firstGoal_87 : decode cX6_firstGoal 87 = .ok (.if_icmp .ne 6, 3) := by decide +kernel
theorem dX6_firstGoal_90 : decode cX6_firstGoal 90 = .ok (.iload 7, 2) := by decide +kernel
theorem dX6_firstGoal_92 : decode cX6_firstGoal 92 = .ok (.ireturn, 1) := by decide +kernel
theorem dX6_firstGoal_93 : decode cX6_firstGoal 93 = .ok (.iinc 7 1, 3) := by decide +kernel
theorem dX6_firstGoal_96 : decode cX6_firstGoal 96 = .ok (.goto (-46), 3) := by decide +kernel
theorem dX6_firstGoal_99 : decode cX6_firstGoal 99 = .ok (.bipush (-9), 2) := by decide +kernel
theorem dX6_firstGoal_101 : decode cX6_firstGoal 101 = .ok (.ireturn, 1) := by decide +kernel
theorem dX6_indexOf_0 : decode cX6_indexOf 0 = .ok (.iload_n 0, 1) := by decide +kernel
theorem dX6_indexOf_1 : decode cX6_indexOf 1 = .ok (.bipush 16, 2) := by decide +kernel
theorem dX6_indexOf_3 : decode cX6_indexOf 3 = .ok (.imul, 1) := by decide +kernel
theorem dX6_indexOf_4 : decode cX6_indexOf 4 = .ok (.iload_n 1, 1) := by decide +kernel
theorem dX6_indexOf_5 : decode cX6_indexOf 5 = .ok (.iadd, 1) := by decide +kernel
theorem dX6_indexOf_6 : decode cX6_indexOf 6 = .ok (.bipush 16, 2) := by decide +kernel
theorem dX6_indexOf_8 : decode cX6_indexOf 8 = .ok (.imul, 1) := by decide +kernel
theorem dX6_indexOf_9 : decode cX6_indexOf 9 = .ok (.iload_n 2, 1) := by decide +kernel
theorem dX6_indexOf_10 : decode cX6_indexOf 10 = .ok (.iadd, 1) := by decide +kernel
theorem dX6_indexOf_11 : decode cX6_indexOf 11 = .ok (.ireturn, 1) := by decide +kernel
theorem dX6_reckonAt_0 : decode cX6_reckonAt 0 = .ok (.iconst 0, 1) := by decide +kernel
theorem dX6_reckonAt_1 : decode cX6_reckonAt 1 = .ok (.istore 4, 2) := by decide +kernel
theorem dX6_reckonAt_3 : decode cX6_reckonAt 3 = .ok (.iload 4, 2) := by decide +kernel
theorem dX6_reckonAt_5 : decode cX6_reckonAt 5 = .ok (.aload_n 1, 1) := by decide +kernel
theorem dX6_reckonAt_6 : decode cX6_reckonAt 6 = .ok (.getfield 48, 3) := by decide +kernel
theorem dX6_reckonAt_9 : decode cX6_reckonAt 9 = .ok (.if_icmp .ge 61, 3) := by decide +kernel
theorem dX6_reckonAt_12 : decode cX6_reckonAt 12 = .ok (.aload_n 0, 1) := by decide +kernel
theorem dX6_reckonAt_13 : decode cX6_reckonAt 13 = .ok (.getfield 9, 3) := by decide +kernel
theorem dX6_reckonAt_16 : decode cX6_reckonAt 16 = .ok (.iload 4, 2) := by decide +kernel
theorem dX6_reckonAt_18 : decode cX6_reckonAt 18 = .ok (.iload_n 2, 1) := by decide +kernel
theorem dX6_reckonAt_19 : decode cX6_reckonAt 19 = .ok (.iload_n 3, 1) := by decide +kernel
theorem dX6_reckonAt_20 : decode cX6_reckonAt 20 = .ok (.invokestatic 35, 3) := by decide +kernel
theorem dX6_reckonAt_23 : decode cX6_reckonAt 23 = .ok (.aload_n 1, 1) := by decide +kernel
theorem dX6_reckonAt_24 : decode cX6_reckonAt 24 = .ok (.iload 4, 2) := by decide +kernel
theorem dX6_reckonAt_26 : decode cX6_reckonAt 26 = .ok (.iload_n 2, 1) := by decide +kernel
theorem dX6_reckonAt_27 : decode cX6_reckonAt 27 = .ok (.invokestatic 55, 3) := by decide +kernel
theorem dX6_reckonAt_30 : decode cX6_reckonAt 30 = .ok (.ifCond .eq 15, 3) := by decide +kernel
theorem dX6_reckonAt_33 : decode cX6_reckonAt 33 = .ok (.aload_n 0, 1) := by decide +kernel
theorem dX6_reckonAt_34 : decode cX6_reckonAt 34 = .ok (.aload_n 1, 1) := by decide +kernel
theorem dX6_reckonAt_35 : decode cX6_reckonAt 35 = .ok (.iload 4, 2) := by decide +kernel
theorem dX6_reckonAt_37 : decode cX6_reckonAt 37 = .ok (.iload_n 2, 1) := by decide +kernel
theorem dX6_reckonAt_38 : decode cX6_reckonAt 38 = .ok (.iload_n 3, 1) := by decide +kernel
theorem dX6_reckonAt_39 : decode cX6_reckonAt 39 = .ok (.invokevirtual 59, 3) := by decide +kernel
theorem dX6_reckonAt_42 : decode cX6_reckonAt 42 = .ok (.goto 21, 3) := by decide +kernel
theorem dX6_reckonAt_45 : decode cX6_reckonAt 45 = .ok (.aload_n 0, 1) := by decide +kernel
theorem dX6_reckonAt_46 : decode cX6_reckonAt 46 = .ok (.aload_n 1, 1) := by decide +kernel
theorem dX6_reckonAt_47 : decode cX6_reckonAt 47 = .ok (.iload 4, 2) := by decide +kernel
theorem dX6_reckonAt_49 : decode cX6_reckonAt 49 = .ok (.iload_n 2, 1) := by decide +kernel
theorem dX6_reckonAt_50 : decode cX6_reckonAt 50 = .ok (.iload_n 3, 1) := by decide +kernel
theorem dX6_reckonAt_51 : decode cX6_reckonAt 51 = .ok (.invokevirtual 63, 3) := by decide +kernel
theorem dX6_reckonAt_54 : decode cX6_reckonAt 54 = .ok (.ifCond .eq 7, 3) := by decide +kernel
theorem dX6_reckonAt_57 : decode cX6_reckonAt 57 = .ok (.iconst 0, 1) := by decide +kernel
theorem dX6_reckonAt_58 : decode cX6_reckonAt 58 = .ok (.goto 5, 3) := by decide +kernel
theorem dX6_reckonAt_61 : decode cX6_reckonAt 61 = .ok (.bipush 99, 2) := by decide +kernel
theorem dX6_reckonAt_63 : decode cX6_reckonAt 63 = .ok (.iastore, 1) := by decide +kernel
theorem dX6_reckonAt_64 : decode cX6_reckonAt 64 = .ok (.iinc 4 1, 3) := by decide +kernel
theorem dX6_reckonAt_67 : decode cX6_reckonAt 67 = .ok (.goto (-64), 3) := by decide +kernel
theorem dX6_reckonAt_70 : decode cX6_reckonAt 70 = .ok (.iconst 1, 1) := by decide +kernel
theorem dX6_reckonAt_71 : decode cX6_reckonAt 71 = .ok (.istore 4, 2) := by decide +kernel
theorem dX6_reckonAt_73 : decode cX6_reckonAt 73 = .ok (.iload 4, 2) := by decide +kernel
theorem dX6_reckonAt_75 : decode cX6_reckonAt 75 = .ok (.aload_n 1, 1) := by decide +kernel
theorem dX6_reckonAt_76 : decode cX6_reckonAt 76 = .ok (.getfield 48, 3) := by decide +kernel
theorem dX6_reckonAt_79 : decode cX6_reckonAt 79 = .ok (.if_icmp .ge 69, 3) := by decide +kernel
theorem dX6_reckonAt_82 : decode cX6_reckonAt 82 = .ok (.iconst 0, 1) := by decide +kernel
theorem dX6_reckonAt_83 : decode cX6_reckonAt 83 = .ok (.istore 5, 2) := by decide +kernel
theorem dX6_reckonAt_85 : decode cX6_reckonAt 85 = .ok (.iload 5, 2) := by decide +kernel
theorem dX6_reckonAt_87 : decode cX6_reckonAt 87 = .ok (.aload_n 1, 1) := by decide +kernel
theorem dX6_reckonAt_88 : decode cX6_reckonAt 88 = .ok (.getfield 67, 3) := by decide +kernel
theorem dX6_reckonAt_91 : decode cX6_reckonAt 91 = .ok (.if_icmp .ge 51, 3) := by decide +kernel
theorem dX6_reckonAt_94 : decode cX6_reckonAt 94 = .ok (.aload_n 0, 1) := by decide +kernel
theorem dX6_reckonAt_95 : decode cX6_reckonAt 95 = .ok (.aload_n 1, 1) := by decide +kernel
theorem dX6_reckonAt_96 : decode cX6_reckonAt 96 = .ok (.aload_n 1, 1) := by decide +kernel
theorem dX6_reckonAt_97 : decode cX6_reckonAt 97 = .ok (.getfield 70, 3) := by decide +kernel
theorem dX6_reckonAt_100 : decode cX6_reckonAt 100 = .ok (.iload 5, 2) := by decide +kernel
theorem dX6_reckonAt_102 : decode cX6_reckonAt 102 = .ok (.iaload, 1) := by decide +kernel
theorem dX6_reckonAt_103 : decode cX6_reckonAt 103 = .ok (.aload_n 1, 1) := by decide +kernel
theorem dX6_reckonAt_104 : decode cX6_reckonAt 104 = .ok (.getfield 73, 3) := by decide +kernel
theorem dX6_reckonAt_107 : decode cX6_reckonAt 107 = .ok (.iload 5, 2) := by decide +kernel
theorem dX6_reckonAt_109 : decode cX6_reckonAt 109 = .ok (.iaload, 1) := by decide +kernel
theorem dX6_reckonAt_110 : decode cX6_reckonAt 110 = .ok (.iload_n 2, 1) := by decide +kernel
theorem dX6_reckonAt_111 : decode cX6_reckonAt 111 = .ok (.iload_n 3, 1) := by decide +kernel
theorem dX6_reckonAt_112 : decode cX6_reckonAt 112 = .ok (.invokevirtual 76, 3) := by decide +kernel
theorem dX6_reckonAt_115 : decode cX6_reckonAt 115 = .ok (.aload_n 0, 1) := by decide +kernel
theorem dX6_reckonAt_116 : decode cX6_reckonAt 116 = .ok (.aload_n 1, 1) := by decide +kernel
theorem dX6_reckonAt_117 : decode cX6_reckonAt 117 = .ok (.aload_n 1, 1) := by decide +kernel
theorem dX6_reckonAt_118 : decode cX6_reckonAt 118 = .ok (.getfield 73, 3) := by decide +kernel
theorem dX6_reckonAt_121 : decode cX6_reckonAt 121 = .ok (.iload 5, 2) := by decide +kernel
theorem dX6_reckonAt_123 : decode cX6_reckonAt 123 = .ok (.iaload, 1) := by decide +kernel
theorem dX6_reckonAt_124 : decode cX6_reckonAt 124 = .ok (.aload_n 1, 1) := by decide +kernel
theorem dX6_reckonAt_125 : decode cX6_reckonAt 125 = .ok (.getfield 70, 3) := by decide +kernel
theorem dX6_reckonAt_128 : decode cX6_reckonAt 128 = .ok (.iload 5, 2) := by decide +kernel
theorem dX6_reckonAt_130 : decode cX6_reckonAt 130 = .ok (.iaload, 1) := by decide +kernel
theorem dX6_reckonAt_131 : decode cX6_reckonAt 131 = .ok (.iload_n 2, 1) := by decide +kernel
theorem dX6_reckonAt_132 : decode cX6_reckonAt 132 = .ok (.iload_n 3, 1) := by decide +kernel
theorem dX6_reckonAt_133 : decode cX6_reckonAt 133 = .ok (.invokevirtual 76, 3) := by decide +kernel
theorem dX6_reckonAt_136 : decode cX6_reckonAt 136 = .ok (.iinc 5 1, 3) := by decide +kernel
theorem dX6_reckonAt_139 : decode cX6_reckonAt 139 = .ok (.goto (-54), 3) := by decide +kernel
theorem dX6_reckonAt_142 : decode cX6_reckonAt 142 = .ok (.iinc 4 1, 3) := by decide +kernel
theorem dX6_reckonAt_145 : decode cX6_reckonAt 145 = .ok (.goto (-72), 3) := by decide +kernel
theorem dX6_reckonAt_148 : decode cX6_reckonAt 148 = .ok (.return_, 1) := by decide +kernel
theorem dX6_showsMore_0 : decode cX6_showsMore 0 = .ok (.aload_n 0, 1) := by decide +kernel
theorem dX6_showsMore_1 : decode cX6_showsMore 1 = .ok (.getfield 39, 3) := by decide +kernel
theorem dX6_showsMore_4 : decode cX6_showsMore 4 = .ok (.iload_n 1, 1) := by decide +kernel
theorem dX6_showsMore_5 : decode cX6_showsMore 5 = .ok (.iaload, 1) := by decide +kernel
theorem dX6_showsMore_6 : decode cX6_showsMore 6 = .ok (.iload_n 2, 1) := by decide +kernel
theorem dX6_showsMore_7 : decode cX6_showsMore 7 = .ok (.iconst (-1), 1) := by decide +kernel
theorem dX6_showsMore_8 : decode cX6_showsMore 8 = .ok (.ixor, 1) := by decide +kernel
theorem dX6_showsMore_9 : decode cX6_showsMore 9 = .ok (.iand, 1) := by decide +kernel
theorem dX6_showsMore_10 : decode cX6_showsMore 10 = .ok (.ifCond .eq 7, 3) := by decide +kernel
theorem dX6_showsMore_13 : decode cX6_showsMore 13 = .ok (.iconst 1, 1) := by decide +kernel
theorem dX6_showsMore_14 : decode cX6_showsMore 14 = .ok (.goto 4, 3) := by decide +kernel
theorem dX6_showsMore_17 : decode cX6_showsMore 17 = .ok (.iconst 0, 1) := by decide +kernel
theorem dX6_showsMore_18 : decode cX6_showsMore 18 = .ok (.ireturn, 1) := by decide +kernel
theorem dX6_worstOf_0 : decode cX6_worstOf 0 = .ok (.iload_n 3, 1) := by decide +kernel
theorem dX6_worstOf_1 : decode cX6_worstOf 1 = .ok (.aload_n 1, 1) := by decide +kernel
theorem dX6_worstOf_2 : decode cX6_worstOf 2 = .ok (.getfield 39, 3) := by decide +kernel
theorem dX6_worstOf_5 : decode cX6_worstOf 5 = .ok (.iload_n 2, 1) := by decide +kernel
theorem dX6_worstOf_6 : decode cX6_worstOf 6 = .ok (.iaload, 1) := by decide +kernel
theorem dX6_worstOf_7 : decode cX6_worstOf 7 = .ok (.ior, 1) := by decide +kernel
theorem dX6_worstOf_8 : decode cX6_worstOf 8 = .ok (.istore 5, 2) := by decide +kernel
theorem dX6_worstOf_10 : decode cX6_worstOf 10 = .ok (.iconst 0, 1) := by decide +kernel
theorem dX6_worstOf_11 : decode cX6_worstOf 11 = .ok (.istore 6, 2) := by decide +kernel
theorem dX6_worstOf_13 : decode cX6_worstOf 13 = .ok (.iconst 0, 1) := by decide +kernel
theorem dX6_worstOf_14 : decode cX6_worstOf 14 = .ok (.istore 7, 2) := by decide +kernel
theorem dX6_worstOf_16 : decode cX6_worstOf 16 = .ok (.iload 7, 2) := by decide +kernel
theorem dX6_worstOf_18 : decode cX6_worstOf 18 = .ok (.bipush 16, 2) := by decide +kernel
theorem dX6_worstOf_20 : decode cX6_worstOf 20 = .ok (.if_icmp .ge 51, 3) := by decide +kernel
theorem dX6_worstOf_23 : decode cX6_worstOf 23 = .ok (.aload_n 0, 1) := by decide +kernel
theorem dX6_worstOf_24 : decode cX6_worstOf 24 = .ok (.getfield 15, 3) := by decide +kernel
theorem dX6_worstOf_27 : decode cX6_worstOf 27 = .ok (.iload 7, 2) := by decide +kernel
theorem dX6_worstOf_29 : decode cX6_worstOf 29 = .ok (.baload, 1) := by decide +kernel
theorem dX6_worstOf_30 : decode cX6_worstOf 30 = .ok (.ifCond .eq 35, 3) := by decide +kernel
theorem dX6_worstOf_33 : decode cX6_worstOf 33 = .ok (.iload 7, 2) := by decide +kernel
theorem dX6_worstOf_35 : decode cX6_worstOf 35 = .ok (.iload_n 3, 1) := by decide +kernel
theorem dX6_worstOf_36 : decode cX6_worstOf 36 = .ok (.iand, 1) := by decide +kernel
theorem dX6_worstOf_37 : decode cX6_worstOf 37 = .ok (.iload 4, 2) := by decide +kernel
theorem dX6_worstOf_39 : decode cX6_worstOf 39 = .ok (.if_icmp .ne 26, 3) := by decide +kernel
theorem dX6_worstOf_42 : decode cX6_worstOf 42 = .ok (.iload 6, 2) := by decide +kernel
theorem dX6_worstOf_44 : decode cX6_worstOf 44 = .ok (.aload_n 0, 1) := by decide +kernel
theorem dX6_worstOf_45 : decode cX6_worstOf 45 = .ok (.getfield 9, 3) := by decide +kernel
theorem dX6_worstOf_48 : decode cX6_worstOf 48 = .ok (.iload_n 2, 1) := by decide +kernel
theorem dX6_worstOf_49 : decode cX6_worstOf 49 = .ok (.iload 5, 2) := by decide +kernel
theorem dX6_worstOf_51 : decode cX6_worstOf 51 = .ok (.iload 7, 2) := by decide +kernel
theorem dX6_worstOf_53 : decode cX6_worstOf 53 = .ok (.iload 5, 2) := by decide +kernel
theorem dX6_worstOf_55 : decode cX6_worstOf 55 = .ok (.iand, 1) := by decide +kernel
theorem dX6_worstOf_56 : decode cX6_worstOf 56 = .ok (.invokestatic 35, 3) := by decide +kernel
theorem dX6_worstOf_59 : decode cX6_worstOf 59 = .ok (.iaload, 1) := by decide +kernel
theorem dX6_worstOf_60 : decode cX6_worstOf 60 = .ok (.invokestatic 80, 3) := by decide +kernel
theorem dX6_worstOf_63 : decode cX6_worstOf 63 = .ok (.istore 6, 2) := by decide +kernel
theorem dX6_worstOf_65 : decode cX6_worstOf 65 = .ok (.iinc 7 1, 3) := by decide +kernel
theorem dX6_worstOf_68 : decode cX6_worstOf 68 = .ok (.goto (-52), 3) := by decide +kernel
theorem dX6_worstOf_71 : decode cX6_worstOf 71 = .ok (.iload 6, 2) := by decide +kernel
theorem dX6_worstOf_73 : decode cX6_worstOf 73 = .ok (.ireturn, 1) := by decide +kernel
theorem dX6_isInnSurelyAt_0 : decode cX6_isInnSurelyAt 0 = .ok (.iconst 0, 1) := by decide +kernel
theorem dX6_isInnSurelyAt_1 : decode cX6_isInnSurelyAt 1 = .ok (.istore 5, 2) := by decide +kernel
theorem dX6_isInnSurelyAt_3 : decode cX6_isInnSurelyAt 3 = .ok (.iload 5, 2) := by decide +kernel
theorem dX6_isInnSurelyAt_5 : decode cX6_isInnSurelyAt 5 = .ok (.bipush 16, 2) := by decide +kernel
theorem dX6_isInnSurelyAt_7 : decode cX6_isInnSurelyAt 7 = .ok (.if_icmp .ge 40, 3) := by decide +kernel
theorem dX6_isInnSurelyAt_10 : decode cX6_isInnSurelyAt 10 = .ok (.aload_n 0, 1) := by decide +kernel
theorem dX6_isInnSurelyAt_11 : decode cX6_isInnSurelyAt 11 = .ok (.getfield 15, 3) := by decide +kernel
theorem dX6_isInnSurelyAt_14 : decode cX6_isInnSurelyAt 14 = .ok (.iload 5, 2) := by decide +kernel
theorem dX6_isInnSurelyAt_16 : decode cX6_isInnSurelyAt 16 = .ok (.baload, 1) := by decide +kernel
theorem dX6_isInnSurelyAt_17 : decode cX6_isInnSurelyAt 17 = .ok (.ifCond .eq 24, 3) := by decide +kernel
theorem dX6_isInnSurelyAt_20 : decode cX6_isInnSurelyAt 20 = .ok (.iload 5, 2) := by decide +kernel
theorem dX6_isInnSurelyAt_22 : decode cX6_isInnSurelyAt 22 = .ok (.iload_n 3, 1) := by decide +kernel
theorem dX6_isInnSurelyAt_23 : decode cX6_isInnSurelyAt 23 = .ok (.iand, 1) := by decide +kernel
theorem dX6_isInnSurelyAt_24 : decode cX6_isInnSurelyAt 24 = .ok (.iload 4, 2) := by decide +kernel
theorem dX6_isInnSurelyAt_26 : decode cX6_isInnSurelyAt 26 = .ok (.if_icmp .ne 15, 3) := by decide +kernel
theorem dX6_isInnSurelyAt_29 : decode cX6_isInnSurelyAt 29 = .ok (.aload_n 1, 1) := by decide +kernel
theorem dX6_isInnSurelyAt_30 : decode cX6_isInnSurelyAt 30 = .ok (.iload 5, 2) := by decide +kernel
theorem dX6_isInnSurelyAt_32 : decode cX6_isInnSurelyAt 32 = .ok (.invokevirtual 86, 3) := by decide +kernel
theorem dX6_isInnSurelyAt_35 : decode cX6_isInnSurelyAt 35 = .ok (.iload_n 2, 1) := by decide +kernel
theorem dX6_isInnSurelyAt_36 : decode cX6_isInnSurelyAt 36 = .ok (.if_icmp .eq 5, 3) := by decide +kernel
theorem dX6_isInnSurelyAt_39 : decode cX6_isInnSurelyAt 39 = .ok (.iconst 0, 1) := by decide +kernel
theorem dX6_isInnSurelyAt_40 : decode cX6_isInnSurelyAt 40 = .ok (.ireturn, 1) := by decide +kernel
theorem dX6_isInnSurelyAt_41 : decode cX6_isInnSurelyAt 41 = .ok (.iinc 5 1, 3) := by decide +kernel
theorem dX6_isInnSurelyAt_44 : decode cX6_isInnSurelyAt 44 = .ok (.goto (-41), 3) := by decide +kernel
theorem dX6_isInnSurelyAt_47 : decode cX6_isInnSurelyAt 47 = .ok (.iconst 1, 1) := by decide +kernel
theorem dX6_isInnSurelyAt_48 : decode cX6_isInnSurelyAt 48 = .ok (.ireturn, 1) := by decide +kernel
theorem dX6_shorten_0 : decode cX6_shorten 0 = .ok (.aload_n 1, 1) := by decide +kernel
theorem dX6_shorten_1 : decode cX6_shorten 1 = .ok (.iload_n 2, 1) := by decide +kernel
theorem dX6_shorten_2 : decode cX6_shorten 2 = .ok (.iload 4, 2) := by decide +kernel
theorem dX6_shorten_4 : decode cX6_shorten 4 = .ok (.invokestatic 55, 3) := by decide +kernel
theorem dX6_shorten_7 : decode cX6_shorten 7 = .ok (.ifCond .ne 45, 3) := by decide +kernel
theorem dX6_shorten_10 : decode cX6_shorten 10 = .ok (.iload_n 2, 1) := by decide +kernel
theorem dX6_shorten_11 : decode cX6_shorten 11 = .ok (.iload 4, 2) := by decide +kernel
theorem dX6_shorten_13 : decode cX6_shorten 13 = .ok (.iload 5, 2) := by decide +kernel
theorem dX6_shorten_15 : decode cX6_shorten 15 = .ok (.invokestatic 35, 3) := by decide +kernel
theorem dX6_shorten_18 : decode cX6_shorten 18 = .ok (.istore 6, 2) := by decide +kernel
theorem dX6_shorten_20 : decode cX6_shorten 20 = .ok (.aload_n 0, 1) := by decide +kernel
theorem dX6_shorten_21 : decode cX6_shorten 21 = .ok (.getfield 9, 3) := by decide +kernel
theorem dX6_shorten_24 : decode cX6_shorten 24 = .ok (.iload 6, 2) := by decide +kernel
theorem dX6_shorten_26 : decode cX6_shorten 26 = .ok (.aload_n 0, 1) := by decide +kernel
theorem dX6_shorten_27 : decode cX6_shorten 27 = .ok (.getfield 9, 3) := by decide +kernel
theorem dX6_shorten_30 : decode cX6_shorten 30 = .ok (.iload 6, 2) := by decide +kernel
theorem dX6_shorten_32 : decode cX6_shorten 32 = .ok (.iaload, 1) := by decide +kernel
theorem dX6_shorten_33 : decode cX6_shorten 33 = .ok (.aload_n 0, 1) := by decide +kernel
theorem dX6_shorten_34 : decode cX6_shorten 34 = .ok (.getfield 9, 3) := by decide +kernel
theorem dX6_shorten_37 : decode cX6_shorten 37 = .ok (.iload_n 3, 1) := by decide +kernel
theorem dX6_shorten_38 : decode cX6_shorten 38 = .ok (.iload 4, 2) := by decide +kernel
theorem dX6_shorten_40 : decode cX6_shorten 40 = .ok (.iload 5, 2) := by decide +kernel
theorem dX6_shorten_42 : decode cX6_shorten 42 = .ok (.invokestatic 35, 3) := by decide +kernel
theorem dX6_shorten_45 : decode cX6_shorten 45 = .ok (.iaload, 1) := by decide +kernel
theorem dX6_shorten_46 : decode cX6_shorten 46 = .ok (.iconst 1, 1) := by decide +kernel
theorem dX6_shorten_47 : decode cX6_shorten 47 = .ok (.iadd, 1) := by decide +kernel
theorem dX6_shorten_48 : decode cX6_shorten 48 = .ok (.invokestatic 89, 3) := by decide +kernel
theorem dX6_shorten_51 : decode cX6_shorten 51 = .ok (.iastore, 1) := by decide +kernel
theorem dX6_shorten_52 : decode cX6_shorten 52 = .ok (.return_, 1) := by decide +kernel
theorem dX7_init_0 : decode cX7_init 0 = .ok (.aload_n 0, 1) := by decide +kernel
theorem dX7_init_1 : decode cX7_init 1 = .ok (.invokespecial 3, 3) := by decide +kernel
theorem dX7_init_4 : decode cX7_init 4 = .ok (.aload_n 0, 1) := by decide +kernel
theorem dX7_init_5 : decode cX7_init 5 = .ok (.iconst 0, 1) := by decide +kernel
theorem dX7_init_6 : decode cX7_init 6 = .ok (.putfield 9, 3) := by decide +kernel
theorem dX7_init_9 : decode cX7_init 9 = .ok (.aload_n 0, 1) := by decide +kernel
theorem dX7_init_10 : decode cX7_init 10 = .ok (.iconst 0, 1) := by decide +kernel
theorem dX7_init_11 : decode cX7_init 11 = .ok (.putfield 15, 3) := by decide +kernel
theorem dX7_init_14 : decode cX7_init 14 = .ok (.aload_n 0, 1) := by decide +kernel
theorem dX7_init_15 : decode cX7_init 15 = .ok (.iconst 0, 1) := by decide +kernel
theorem dX7_init_16 : decode cX7_init 16 = .ok (.putfield 18, 3) := by decide +kernel
theorem dX7_init_19 : decode cX7_init 19 = .ok (.aload_n 0, 1) := by decide +kernel
theorem dX7_init_20 : decode cX7_init 20 = .ok (.sipush 1024, 3) := by decide +kernel
theorem dX7_init_23 : decode cX7_init 23 = .ok (.newarray .int, 2) := by decide +kernel
theorem dX7_init_25 : decode cX7_init 25 = .ok (.putfield 21, 3) := by decide +kernel
theorem dX7_init_28 : decode cX7_init 28 = .ok (.aload_n 0, 1) := by decide +kernel
theorem dX7_init_29 : decode cX7_init 29 = .ok (.iconst 0, 1) := by decide +kernel
theorem dX7_init_30 : decode cX7_init 30 = .ok (.putfield 25, 3) := by decide +kernel
theorem dX7_init_33 : decode cX7_init 33 = .ok (.aload_n 0, 1) := by decide +kernel
theorem dX7_init_34 : decode cX7_init 34 = .ok (.iconst 0, 1) := by decide +kernel
theorem dX7_init_35 : decode cX7_init 35 = .ok (.putfield 28, 3) := by decide +kernel
theorem dX7_init_38 : decode cX7_init 38 = .ok (.aload_n 0, 1) := by decide +kernel
theorem dX7_init_39 : decode cX7_init 39 = .ok (.sipush 1024, 3) := by decide +kernel
theorem dX7_init_42 : decode cX7_init 42 = .ok (.newarray .int, 2) := by decide +kernel
theorem dX7_init_44 : decode cX7_init 44 = .ok (.putfield 31, 3) := by decide +kernel
theorem dX7_init_47 : decode cX7_init 47 = .ok (.return_, 1) := by decide +kernel
theorem dX7_reckon_0 : decode cX7_reckon 0 = .ok (.aload_n 0, 1) := by decide +kernel
theorem dX7_reckon_1 : decode cX7_reckon 1 = .ok (.aload_n 1, 1) := by decide +kernel
theorem dX7_reckon_2 : decode cX7_reckon 2 = .ok (.invokevirtual 34, 3) := by decide +kernel
theorem dX7_reckon_5 : decode cX7_reckon 5 = .ok (.sipush 1023, 3) := by decide +kernel
theorem dX7_reckon_8 : decode cX7_reckon 8 = .ok (.iand, 1) := by decide +kernel
theorem dX7_reckon_9 : decode cX7_reckon 9 = .ok (.putfield 9, 3) := by decide +kernel
theorem dX7_reckon_12 : decode cX7_reckon 12 = .ok (.aload_n 0, 1) := by decide +kernel
theorem dX7_reckon_13 : decode cX7_reckon 13 = .ok (.iconst 0, 1) := by decide +kernel
theorem dX7_reckon_14 : decode cX7_reckon 14 = .ok (.putfield 15, 3) := by decide +kernel
theorem dX7_reckon_17 : decode cX7_reckon 17 = .ok (.iconst 0, 1) := by decide +kernel
theorem dX7_reckon_18 : decode cX7_reckon 18 = .ok (.istore_n 2, 1) := by decide +kernel
theorem dX7_reckon_19 : decode cX7_reckon 19 = .ok (.iload_n 2, 1) := by decide +kernel
theorem dX7_reckon_20 : decode cX7_reckon 20 = .ok (.aload_n 0, 1) := by decide +kernel
theorem dX7_reckon_21 : decode cX7_reckon 21 = .ok (.getfield 9, 3) := by decide +kernel
theorem dX7_reckon_24 : decode cX7_reckon 24 = .ok (.if_icmp .gt 52, 3) := by decide +kernel
theorem dX7_reckon_27 : decode cX7_reckon 27 = .ok (.aload_n 0, 1) := by decide +kernel
theorem dX7_reckon_28 : decode cX7_reckon 28 = .ok (.getfield 31, 3) := by decide +kernel
theorem dX7_reckon_31 : decode cX7_reckon 31 = .ok (.iload_n 2, 1) := by decide +kernel
theorem dX7_reckon_32 : decode cX7_reckon 32 = .ok (.aload_n 0, 1) := by decide +kernel
theorem dX7_reckon_33 : decode cX7_reckon 33 = .ok (.iload_n 2, 1) := by decide +kernel
theorem dX7_reckon_34 : decode cX7_reckon 34 = .ok (.invokevirtual 40, 3) := by decide +kernel
theorem dX7_reckon_37 : decode cX7_reckon 37 = .ok (.ifCond .eq 11, 3) := by decide +kernel
theorem dX7_reckon_40 : decode cX7_reckon 40 = .ok (.aload_n 1, 1) := by decide +kernel
theorem dX7_reckon_41 : decode cX7_reckon 41 = .ok (.iload_n 2, 1) := by decide +kernel
theorem dX7_reckon_42 : decode cX7_reckon 42 = .ok (.invokevirtual 44, 3) := by decide +kernel
theorem dX7_reckon_45 : decode cX7_reckon 45 = .ok (.goto 5, 3) := by decide +kernel
theorem dX7_reckon_48 : decode cX7_reckon 48 = .ok (.bipush 7, 2) := by decide +kernel
theorem dX7_reckon_50 : decode cX7_reckon 50 = .ok (.iastore, 1) := by decide +kernel
theorem dX7_reckon_51 : decode cX7_reckon 51 = .ok (.aload_n 0, 1) := by decide +kernel
theorem dX7_reckon_52 : decode cX7_reckon 52 = .ok (.getfield 31, 3) := by decide +kernel
theorem dX7_reckon_55 : decode cX7_reckon 55 = .ok (.iload_n 2, 1) := by decide +kernel
theorem dX7_reckon_56 : decode cX7_reckon 56 = .ok (.iaload, 1) := by decide +kernel
theorem dX7_reckon_57 : decode cX7_reckon 57 = .ok (.ifCond .ne 13, 3) := by decide +kernel
theorem dX7_reckon_60 : decode cX7_reckon 60 = .ok (.aload_n 0, 1) := by decide +kernel
theorem dX7_reckon_61 : decode cX7_reckon 61 = .ok (.dup, 1) := by decide +kernel
theorem dX7_reckon_62 : decode cX7_reckon 62 = .ok (.getfield 15, 3) := by decide +kernel
theorem dX7_reckon_65 : decode cX7_reckon 65 = .ok (.iconst 1, 1) := by decide +kernel
theorem dX7_reckon_66 : decode cX7_reckon 66 = .ok (.iadd, 1) := by decide +kernel
theorem dX7_reckon_67 : decode cX7_reckon 67 = .ok (.putfield 15, 3) := by decide +kernel
theorem dX7_reckon_70 : decode cX7_reckon 70 = .ok (.iinc 2 1, 3) := by decide +kernel
theorem dX7_reckon_73 : decode cX7_reckon 73 = .ok (.goto (-54), 3) := by decide +kernel
theorem dX7_reckon_76 : decode cX7_reckon 76 = .ok (.return_, 1) := by decide +kernel
theorem dX7_sift_0 : decode cX7_sift 0 = .ok (.aload_n 0, 1) := by decide +kernel
theorem dX7_sift_1 : decode cX7_sift 1 = .ok (.aload_n 1, 1) := by decide +kernel
theorem dX7_sift_2 : decode cX7_sift 2 = .ok (.iconst 1, 1) := by decide +kernel
theorem dX7_sift_3 : decode cX7_sift 3 = .ok (.invokevirtual 48, 3) := by decide +kernel
theorem dX7_sift_6 : decode cX7_sift 6 = .ok (.putfield 25, 3) := by decide +kernel
theorem dX7_sift_9 : decode cX7_sift 9 = .ok (.aload_n 0, 1) := by decide +kernel
theorem dX7_sift_10 : decode cX7_sift 10 = .ok (.aload_n 1, 1) := by decide +kernel
theorem dX7_sift_11 : decode cX7_sift 11 = .ok (.iconst 0, 1) := by decide +kernel
theorem dX7_sift_12 : decode cX7_sift 12 = .ok (.invokevirtual 48, 3) := by decide +kernel
theorem dX7_sift_15 : decode cX7_sift 15 = .ok (.putfield 28, 3) := by decide +kernel
theorem dX7_sift_18 : decode cX7_sift 18 = .ok (.aload_n 0, 1) := by decide +kernel
theorem dX7_sift_19 : decode cX7_sift 19 = .ok (.iconst 0, 1) := by decide +kernel
theorem dX7_sift_20 : decode cX7_sift 20 = .ok (.putfield 18, 3) := by decide +kernel
theorem dX7_sift_23 : decode cX7_sift 23 = .ok (.iconst 0, 1) := by decide +kernel
theorem dX7_sift_24 : decode cX7_sift 24 = .ok (.istore_n 2, 1) := by decide +kernel
theorem dX7_sift_25 : decode cX7_sift 25 = .ok (.iload_n 2, 1) := by decide +kernel
theorem dX7_sift_26 : decode cX7_sift 26 = .ok (.aload_n 0, 1) := by decide +kernel
theorem dX7_sift_27 : decode cX7_sift 27 = .ok (.getfield 9, 3) := by decide +kernel
theorem dX7_sift_30 : decode cX7_sift 30 = .ok (.if_icmp .gt 37, 3) := by decide +kernel
theorem dX7_sift_33 : decode cX7_sift 33 = .ok (.aload_n 0, 1) := by decide +kernel
theorem dX7_sift_34 : decode cX7_sift 34 = .ok (.iload_n 2, 1) := by decide +kernel
theorem dX7_sift_35 : decode cX7_sift 35 = .ok (.invokevirtual 54, 3) := by decide +kernel
theorem dX7_sift_38 : decode cX7_sift 38 = .ok (.ifCond .eq 23, 3) := by decide +kernel
theorem dX7_sift_41 : decode cX7_sift 41 = .ok (.aload_n 0, 1) := by decide +kernel
theorem dX7_sift_42 : decode cX7_sift 42 = .ok (.getfield 21, 3) := by decide +kernel
theorem dX7_sift_45 : decode cX7_sift 45 = .ok (.aload_n 0, 1) := by decide +kernel
theorem dX7_sift_46 : decode cX7_sift 46 = .ok (.getfield 18, 3) := by decide +kernel
theorem dX7_sift_49 : decode cX7_sift 49 = .ok (.iload_n 2, 1) := by decide +kernel
theorem dX7_sift_50 : decode cX7_sift 50 = .ok (.iastore, 1) := by decide +kernel
theorem dX7_sift_51 : decode cX7_sift 51 = .ok (.aload_n 0, 1) := by decide +kernel
theorem dX7_sift_52 : decode cX7_sift 52 = .ok (.dup, 1) := by decide +kernel
theorem dX7_sift_53 : decode cX7_sift 53 = .ok (.getfield 18, 3) := by decide +kernel
theorem dX7_sift_56 : decode cX7_sift 56 = .ok (.iconst 1, 1) := by decide +kernel
theorem dX7_sift_57 : decode cX7_sift 57 = .ok (.iadd, 1) := by decide +kernel
theorem dX7_sift_58 : decode cX7_sift 58 = .ok (.putfield 18, 3) := by decide +kernel
theorem dX7_sift_61 : decode cX7_sift 61 = .ok (.iinc 2 1, 3) := by decide +kernel
theorem dX7_sift_64 : decode cX7_sift 64 = .ok (.goto (-39), 3) := by decide +kernel
theorem dX7_sift_67 : decode cX7_sift 67 = .ok (.return_, 1) := by decide +kernel
theorem dX7_has_0 : decode cX7_has 0 = .ok (.iload_n 1, 1) := by decide +kernel
theorem dX7_has_1 : decode cX7_has 1 = .ok (.ifCond .lt 18, 3) := by decide +kernel
theorem dX7_has_4 : decode cX7_has 4 = .ok (.iload_n 1, 1) := by decide +kernel
theorem dX7_has_5 : decode cX7_has 5 = .ok (.aload_n 0, 1) := by decide +kernel
theorem dX7_has_6 : decode cX7_has 6 = .ok (.getfield 9, 3) := by decide +kernel
theorem dX7_has_9 : decode cX7_has 9 = .ok (.iconst (-1), 1) := by decide +kernel
theorem dX7_has_10 : decode cX7_has 10 = .ok (.ixor, 1) := by decide +kernel
theorem dX7_has_11 : decode cX7_has 11 = .ok (.iand, 1) := by decide +kernel
theorem dX7_has_12 : decode cX7_has 12 = .ok (.ifCond .ne 7, 3) := by decide +kernel
theorem dX7_has_15 : decode cX7_has 15 = .ok (.iconst 1, 1) := by decide +kernel
theorem dX7_has_16 : decode cX7_has 16 = .ok (.goto 4, 3) := by decide +kernel
theorem dX7_has_19 : decode cX7_has 19 = .ok (.iconst 0, 1) := by decide +kernel
theorem dX7_has_20 : decode cX7_has 20 = .ok (.ireturn, 1) := by decide +kernel
theorem dX7_isFitting_0 : decode cX7_isFitting 0 = .ok (.aload_n 0, 1) := by decide +kernel
theorem dX7_isFitting_1 : decode cX7_isFitting 1 = .ok (.iload_n 1, 1) := by decide +kernel
theorem dX7_isFitting_2 : decode cX7_isFitting 2 = .ok (.invokevirtual 40, 3) := by decide +kernel
theorem dX7_isFitting_5 : decode cX7_isFitting 5 = .ok (.ifCond .eq 16, 3) := by decide +kernel
theorem dX7_isFitting_8 : decode cX7_isFitting 8 = .ok (.aload_n 0, 1) := by decide +kernel
theorem dX7_isFitting_9 : decode cX7_isFitting 9 = .ok (.getfield 31, 3) := by decide +kernel
theorem dX7_isFitting_12 : decode cX7_isFitting 12 = .ok (.iload_n 1, 1) := by decide +kernel
theorem dX7_isFitting_13 : decode cX7_isFitting 13 = .ok (.iaload, 1) := by decide +kernel
theorem dX7_isFitting_14 : decode cX7_isFitting 14 = .ok (.ifCond .ne 7, 3) := by decide +kernel
theorem dX7_isFitting_17 : decode cX7_isFitting 17 = .ok (.iconst 1, 1) := by decide +kernel
theorem dX7_isFitting_18 : decode cX7_isFitting 18 = .ok (.goto 4, 3) := by decide +kernel
theorem dX7_isFitting_21 : decode cX7_isFitting 21 = .ok (.iconst 0, 1) := by decide +kernel
theorem dX7_isFitting_22 : decode cX7_isFitting 22 = .ok (.ireturn, 1) := by decide +kernel
theorem dX7_isGood_0 : decode cX7_isGood 0 = .ok (.aload_n 0, 1) := by decide +kernel
theorem dX7_isGood_1 : decode cX7_isGood 1 = .ok (.iload_n 1, 1) := by decide +kernel
theorem dX7_isGood_2 : decode cX7_isGood 2 = .ok (.invokevirtual 57, 3) := by decide +kernel
theorem dX7_isGood_5 : decode cX7_isGood 5 = .ok (.ifCond .eq 15, 3) := by decide +kernel
theorem dX7_isGood_8 : decode cX7_isGood 8 = .ok (.aload_n 0, 1) := by decide +kernel
theorem dX7_isGood_9 : decode cX7_isGood 9 = .ok (.iload_n 1, 1) := by decide +kernel
theorem dX7_isGood_10 : decode cX7_isGood 10 = .ok (.invokevirtual 60, 3) := by decide +kernel
theorem dX7_isGood_13 : decode cX7_isGood 13 = .ok (.ifCond .eq 7, 3) := by decide +kernel
theorem dX7_isGood_16 : decode cX7_isGood 16 = .ok (.iconst 1, 1) := by decide +kernel
theorem dX7_isGood_17 : decode cX7_isGood 17 = .ok (.goto 4, 3) := by decide +kernel
theorem dX7_isGood_20 : decode cX7_isGood 20 = .ok (.iconst 0, 1) := by decide +kernel
theorem dX7_isGood_21 : decode cX7_isGood 21 = .ok (.ireturn, 1) := by decide +kernel
theorem dX7_isAsFound_0 : decode cX7_isAsFound 0 = .ok (.iload_n 1, 1) := by decide +kernel
theorem dX7_isAsFound_1 : decode cX7_isAsFound 1 = .ok (.aload_n 0, 1) := by decide +kernel
theorem dX7_isAsFound_2 : decode cX7_isAsFound 2 = .ok (.getfield 25, 3) := by decide +kernel
theorem dX7_isAsFound_5 : decode cX7_isAsFound 5 = .ok (.aload_n 0, 1) := by decide +kernel
theorem dX7_isAsFound_6 : decode cX7_isAsFound 6 = .ok (.getfield 28, 3) := by decide +kernel
theorem dX7_isAsFound_9 : decode cX7_isAsFound 9 = .ok (.invokestatic 63, 3) := by decide +kernel
theorem dX7_isAsFound_12 : decode cX7_isAsFound 12 = .ok (.ireturn, 1) := by decide +kernel
theorem dX7_alwaysSo_0 : decode cX7_alwaysSo 0 = .ok (.aload_n 0, 1) := by decide +kernel
theorem dX7_alwaysSo_1 : decode cX7_alwaysSo 1 = .ok (.getfield 9, 3) := by decide +kernel
theorem dX7_alwaysSo_4 : decode cX7_alwaysSo 4 = .ok (.istore_n 3, 1) := by decide +kernel
theorem dX7_alwaysSo_5 : decode cX7_alwaysSo 5 = .ok (.iconst 0, 1) := by decide +kernel
theorem dX7_alwaysSo_6 : decode cX7_alwaysSo 6 = .ok (.istore 4, 2) := by decide +kernel
theorem dX7_alwaysSo_8 : decode cX7_alwaysSo 8 = .ok (.iload 4, 2) := by decide +kernel
theorem dX7_alwaysSo_10 : decode cX7_alwaysSo 10 = .ok (.aload_n 0, 1) := by decide +kernel
theorem dX7_alwaysSo_11 : decode cX7_alwaysSo 11 = .ok (.getfield 18, 3) := by decide +kernel
theorem dX7_alwaysSo_14 : decode cX7_alwaysSo 14 = .ok (.if_icmp .ge 34, 3) := by decide +kernel
theorem dX7_alwaysSo_17 : decode cX7_alwaysSo 17 = .ok (.aload_n 0, 1) := by decide +kernel
theorem dX7_alwaysSo_18 : decode cX7_alwaysSo 18 = .ok (.getfield 21, 3) := by decide +kernel
theorem dX7_alwaysSo_21 : decode cX7_alwaysSo 21 = .ok (.iload 4, 2) := by decide +kernel
theorem dX7_alwaysSo_23 : decode cX7_alwaysSo 23 = .ok (.iaload, 1) := by decide +kernel
theorem dX7_alwaysSo_24 : decode cX7_alwaysSo 24 = .ok (.iload_n 1, 1) := by decide +kernel
theorem dX7_alwaysSo_25 : decode cX7_alwaysSo 25 = .ok (.iload_n 2, 1) := by decide +kernel
theorem dX7_alwaysSo_26 : decode cX7_alwaysSo 26 = .ok (.invokestatic 63, 3) := by decide +kernel
theorem dX7_alwaysSo_29 : decode cX7_alwaysSo 29 = .ok (.ifCond .eq 13, 3) := by decide +kernel
theorem dX7_alwaysSo_32 : decode cX7_alwaysSo 32 = .ok (.iload_n 3, 1) := by decide +kernel
theorem dX7_alwaysSo_33 : decode cX7_alwaysSo 33 = .ok (.aload_n 0, 1) := by decide +kernel
theorem dX7_alwaysSo_34 : decode cX7_alwaysSo 34 = .ok (.getfield 21, 3) := by decide +kernel
theorem dX7_alwaysSo_37 : decode cX7_alwaysSo 37 = .ok (.iload 4, 2) := by decide +kernel
theorem dX7_alwaysSo_39 : decode cX7_alwaysSo 39 = .ok (.iaload, 1) := by decide +kernel
theorem dX7_alwaysSo_40 : decode cX7_alwaysSo 40 = .ok (.iand, 1) := by decide +kernel
theorem dX7_alwaysSo_41 : decode cX7_alwaysSo 41 = .ok (.istore_n 3, 1) := by decide +kernel
theorem dX7_alwaysSo_42 : decode cX7_alwaysSo 42 = .ok (.iinc 4 1, 3) := by decide +kernel
theorem dX7_alwaysSo_45 : decode cX7_alwaysSo 45 = .ok (.goto (-37), 3) := by decide +kernel
theorem dX7_alwaysSo_48 : decode cX7_alwaysSo 48 = .ok (.iload_n 3, 1) := by decide +kernel
theorem dX7_alwaysSo_49 : decode cX7_alwaysSo 49 = .ok (.ireturn, 1) := by decide +kernel
theorem dX7_everSo_0 : decode cX7_everSo 0 = .ok (.iconst 0, 1) := by decide +kernel
theorem dX7_everSo_1 : decode cX7_everSo 1 = .ok (.istore_n 3, 1) := by decide +kernel
theorem dX7_everSo_2 : decode cX7_everSo 2 = .ok (.iconst 0, 1) := by decide +kernel
theorem dX7_everSo_3 : decode cX7_everSo 3 = .ok (.istore 4, 2) := by decide +kernel
theorem dX7_everSo_5 : decode cX7_everSo 5 = .ok (.iload 4, 2) := by decide +kernel
theorem dX7_everSo_7 : decode cX7_everSo 7 = .ok (.aload_n 0, 1) := by decide +kernel
theorem dX7_everSo_8 : decode cX7_everSo 8 = .ok (.getfield 18, 3) := by decide +kernel
theorem dX7_everSo_11 : decode cX7_everSo 11 = .ok (.if_icmp .ge 34, 3) := by decide +kernel
theorem dX7_everSo_14 : decode cX7_everSo 14 = .ok (.aload_n 0, 1) := by decide +kernel
theorem dX7_everSo_15 : decode cX7_everSo 15 = .ok (.getfield 21, 3) := by decide +kernel
theorem dX7_everSo_18 : decode cX7_everSo 18 = .ok (.iload 4, 2) := by decide +kernel
theorem dX7_everSo_20 : decode cX7_everSo 20 = .ok (.iaload, 1) := by decide +kernel
theorem dX7_everSo_21 : decode cX7_everSo 21 = .ok (.iload_n 1, 1) := by decide +kernel
theorem dX7_everSo_22 : decode cX7_everSo 22 = .ok (.iload_n 2, 1) := by decide +kernel
theorem dX7_everSo_23 : decode cX7_everSo 23 = .ok (.invokestatic 63, 3) := by decide +kernel
theorem dX7_everSo_26 : decode cX7_everSo 26 = .ok (.ifCond .eq 13, 3) := by decide +kernel
theorem dX7_everSo_29 : decode cX7_everSo 29 = .ok (.iload_n 3, 1) := by decide +kernel
theorem dX7_everSo_30 : decode cX7_everSo 30 = .ok (.aload_n 0, 1) := by decide +kernel
theorem dX7_everSo_31 : decode cX7_everSo 31 = .ok (.getfield 21, 3) := by decide +kernel
theorem dX7_everSo_34 : decode cX7_everSo 34 = .ok (.iload 4, 2) := by decide +kernel
theorem dX7_everSo_36 : decode cX7_everSo 36 = .ok (.iaload, 1) := by decide +kernel
theorem dX7_everSo_37 : decode cX7_everSo 37 = .ok (.ior, 1) := by decide +kernel
theorem dX7_everSo_38 : decode cX7_everSo 38 = .ok (.istore_n 3, 1) := by decide +kernel
theorem dX7_everSo_39 : decode cX7_everSo 39 = .ok (.iinc 4 1, 3) := by decide +kernel
theorem dX7_everSo_42 : decode cX7_everSo 42 = .ok (.goto (-37), 3) := by decide +kernel
theorem dX7_everSo_45 : decode cX7_everSo 45 = .ok (.iload_n 3, 1) := by decide +kernel
theorem dX7_everSo_46 : decode cX7_everSo 46 = .ok (.ireturn, 1) := by decide +kernel
theorem dX7_openFacts_0 : decode cX7_openFacts 0 = .ok (.aload_n 0, 1) := by decide +kernel
theorem dX7_openFacts_1 : decode cX7_openFacts 1 = .ok (.iload_n 1, 1) := by decide +kernel
theorem dX7_openFacts_2 : decode cX7_openFacts 2 = .ok (.iload_n 2, 1) := by decide +kernel
theorem dX7_openFacts_3 : decode cX7_openFacts 3 = .ok (.invokevirtual 69, 3) := by decide +kernel
theorem dX7_openFacts_6 : decode cX7_openFacts 6 = .ok (.aload_n 0, 1) := by decide +kernel
theorem dX7_openFacts_7 : decode cX7_openFacts 7 = .ok (.iload_n 1, 1) := by decide +kernel
theorem dX7_openFacts_8 : decode cX7_openFacts 8 = .ok (.iload_n 2, 1) := by decide +kernel
theorem dX7_openFacts_9 : decode cX7_openFacts 9 = .ok (.invokevirtual 73, 3) := by decide +kernel
theorem dX7_openFacts_12 : decode cX7_openFacts 12 = .ok (.iconst (-1), 1) := by decide +kernel
theorem dX7_openFacts_13 : decode cX7_openFacts 13 = .ok (.ixor, 1) := by decide +kernel
theorem dX7_openFacts_14 : decode cX7_openFacts 14 = .ok (.iand, 1) := by decide +kernel
theorem dX7_openFacts_15 : decode cX7_openFacts 15 = .ok (.bipush 15, 2) := by decide +kernel
theorem dX7_openFacts_17 : decode cX7_openFacts 17 = .ok (.iand, 1) := by decide +kernel
theorem dX7_openFacts_18 : decode cX7_openFacts 18 = .ok (.ireturn, 1) := by decide +kernel
theorem dX7_goodWith_0 : decode cX7_goodWith 0 = .ok (.iconst 0, 1) := by decide +kernel
theorem dX7_goodWith_1 : decode cX7_goodWith 1 = .ok (.istore_n 2, 1) := by decide +kernel
theorem dX7_goodWith_2 : decode cX7_goodWith 2 = .ok (.iconst 0, 1) := by decide +kernel
theorem dX7_goodWith_3 : decode cX7_goodWith 3 = .ok (.istore_n 3, 1) := by decide +kernel
theorem dX7_goodWith_4 : decode cX7_goodWith 4 = .ok (.iload_n 3, 1) := by decide +kernel
theorem dX7_goodWith_5 : decode cX7_goodWith 5 = .ok (.aload_n 0, 1) := by decide +kernel
theorem dX7_goodWith_6 : decode cX7_goodWith 6 = .ok (.getfield 18, 3) := by decide +kernel
theorem dX7_goodWith_9 : decode cX7_goodWith 9 = .ok (.if_icmp .ge 25, 3) := by decide +kernel
theorem dX7_goodWith_12 : decode cX7_goodWith 12 = .ok (.aload_n 0, 1) := by decide +kernel
theorem dX7_goodWith_13 : decode cX7_goodWith 13 = .ok (.getfield 21, 3) := by decide +kernel
theorem dX7_goodWith_16 : decode cX7_goodWith 16 = .ok (.iload_n 3, 1) := by decide +kernel
theorem dX7_goodWith_17 : decode cX7_goodWith 17 = .ok (.iaload, 1) := by decide +kernel
theorem dX7_goodWith_18 : decode cX7_goodWith 18 = .ok (.iload_n 1, 1) := by decide +kernel
theorem dX7_goodWith_19 : decode cX7_goodWith 19 = .ok (.invokestatic 76, 3) := by decide +kernel
theorem dX7_goodWith_22 : decode cX7_goodWith 22 = .ok (.ifCond .eq 6, 3) := by decide +kernel
theorem dX7_goodWith_25 : decode cX7_goodWith 25 = .ok (.iinc 2 1, 3) := by decide +kernel
theorem dX7_goodWith_28 : decode cX7_goodWith 28 = .ok (.iinc 3 1, 3) := by decide +kernel
theorem dX7_goodWith_31 : decode cX7_goodWith 31 = .ok (.goto (-27), 3) := by decide +kernel
theorem dX7_goodWith_34 : decode cX7_goodWith 34 = .ok (.iload_n 2, 1) := by decide +kernel
theorem dX7_goodWith_35 : decode cX7_goodWith 35 = .ok (.ireturn, 1) := by decide +kernel
theorem dX7_sureWithJokers_0 : decode cX7_sureWithJokers 0 = .ok (.aload_n 0, 1) := by decide +kernel
theorem dX7_sureWithJokers_1 : decode cX7_sureWithJokers 1 = .ok (.getfield 9, 3) := by decide +kernel
theorem dX7_sureWithJokers_4 : decode cX7_sureWithJokers 4 = .ok (.bipush 15, 2) := by decide +kernel
theorem dX7_sureWithJokers_6 : decode cX7_sureWithJokers 6 = .ok (.iand, 1) := by decide +kernel
theorem dX7_sureWithJokers_7 : decode cX7_sureWithJokers 7 = .ok (.istore_n 2, 1) := by decide +kernel
theorem dX7_sureWithJokers_8 : decode cX7_sureWithJokers 8 = .ok (.iconst 0, 1) := by decide +kernel
theorem dX7_sureWithJokers_9 : decode cX7_sureWithJokers 9 = .ok (.istore_n 3, 1) := by decide +kernel
theorem dX7_sureWithJokers_10 : decode cX7_sureWithJokers 10 = .ok (.iload_n 3, 1) := by decide +kernel
theorem dX7_sureWithJokers_11 : decode cX7_sureWithJokers 11 = .ok (.aload_n 0, 1) := by decide +kernel
theorem dX7_sureWithJokers_12 : decode cX7_sureWithJokers 12 = .ok (.getfield 9, 3) := by decide +kernel
theorem dX7_sureWithJokers_15 : decode cX7_sureWithJokers 15 = .ok (.if_icmp .gt 31, 3) := by decide +kernel
theorem dX7_sureWithJokers_18 : decode cX7_sureWithJokers 18 = .ok (.aload_n 0, 1) := by decide +kernel
theorem dX7_sureWithJokers_19 : decode cX7_sureWithJokers 19 = .ok (.getfield 31, 3) := by decide +kernel
theorem dX7_sureWithJokers_22 : decode cX7_sureWithJokers 22 = .ok (.iload_n 3, 1) := by decide +kernel
theorem dX7_sureWithJokers_23 : decode cX7_sureWithJokers 23 = .ok (.iaload, 1) := by decide +kernel
theorem dX7_sureWithJokers_24 : decode cX7_sureWithJokers 24 = .ok (.iload_n 1, 1) := by decide +kernel
theorem dX7_sureWithJokers_25 : decode cX7_sureWithJokers 25 = .ok (.if_icmp .gt 15, 3) := by decide +kernel
theorem dX7_sureWithJokers_28 : decode cX7_sureWithJokers 28 = .ok (.aload_n 0, 1) := by decide +kernel
theorem dX7_sureWithJokers_29 : decode cX7_sureWithJokers 29 = .ok (.iload_n 3, 1) := by decide +kernel
theorem dX7_sureWithJokers_30 : decode cX7_sureWithJokers 30 = .ok (.invokevirtual 60, 3) := by decide +kernel
theorem dX7_sureWithJokers_33 : decode cX7_sureWithJokers 33 = .ok (.ifCond .eq 7, 3) := by decide +kernel
theorem dX7_sureWithJokers_36 : decode cX7_sureWithJokers 36 = .ok (.iload_n 2, 1) := by decide +kernel
theorem dX7_sureWithJokers_37 : decode cX7_sureWithJokers 37 = .ok (.iload_n 3, 1) := by decide +kernel
theorem dX7_sureWithJokers_38 : decode cX7_sureWithJokers 38 = .ok (.iand, 1) := by decide +kernel
theorem dX7_sureWithJokers_39 : decode cX7_sureWithJokers 39 = .ok (.istore_n 2, 1) := by decide +kernel
theorem dX7_sureWithJokers_40 : decode cX7_sureWithJokers 40 = .ok (.iinc 3 1, 3) := by decide +kernel
theorem dX7_sureWithJokers_43 : decode cX7_sureWithJokers 43 = .ok (.goto (-33), 3) := by decide +kernel
theorem dX7_sureWithJokers_46 : decode cX7_sureWithJokers 46 = .ok (.iload_n 2, 1) := by decide +kernel
theorem dX7_sureWithJokers_47 : decode cX7_sureWithJokers 47 = .ok (.ireturn, 1) := by decide +kernel
theorem dX7_leastMisfits_0 : decode cX7_leastMisfits 0 = .ok (.bipush 7, 2) := by decide +kernel
theorem dX7_leastMisfits_2 : decode cX7_leastMisfits 2 = .ok (.istore_n 3, 1) := by decide +kernel
theorem dX7_leastMisfits_3 : decode cX7_leastMisfits 3 = .ok (.iconst 0, 1) := by decide +kernel
theorem dX7_leastMisfits_4 : decode cX7_leastMisfits 4 = .ok (.istore 4, 2) := by decide +kernel
theorem dX7_leastMisfits_6 : decode cX7_leastMisfits 6 = .ok (.iload 4, 2) := by decide +kernel
theorem dX7_leastMisfits_8 : decode cX7_leastMisfits 8 = .ok (.aload_n 0, 1) := by decide +kernel
theorem dX7_leastMisfits_9 : decode cX7_leastMisfits 9 = .ok (.getfield 9, 3) := by decide +kernel
theorem dX7_leastMisfits_12 : decode cX7_leastMisfits 12 = .ok (.if_icmp .gt 40, 3) := by decide +kernel
theorem dX7_leastMisfits_15 : decode cX7_leastMisfits 15 = .ok (.iload 4, 2) := by decide +kernel
theorem dX7_leastMisfits_17 : decode cX7_leastMisfits 17 = .ok (.iload_n 1, 1) := by decide +kernel
theorem dX7_leastMisfits_18 : decode cX7_leastMisfits 18 = .ok (.invokestatic 76, 3) := by decide +kernel
theorem dX7_leastMisfits_21 : decode cX7_leastMisfits 21 = .ok (.iload_n 2, 1) := by decide +kernel
theorem dX7_leastMisfits_22 : decode cX7_leastMisfits 22 = .ok (.if_icmp .ne 24, 3) := by decide +kernel
theorem dX7_leastMisfits_25 : decode cX7_leastMisfits 25 = .ok (.aload_n 0, 1) := by decide +kernel
theorem dX7_leastMisfits_26 : decode cX7_leastMisfits 26 = .ok (.iload 4, 2) := by decide +kernel
theorem dX7_leastMisfits_28 : decode cX7_leastMisfits 28 = .ok (.invokevirtual 60, 3) := by decide +kernel
theorem dX7_leastMisfits_31 : decode cX7_leastMisfits 31 = .ok (.ifCond .eq 15, 3) := by decide +kernel
theorem dX7_leastMisfits_34 : decode cX7_leastMisfits 34 = .ok (.iload_n 3, 1) := by decide +kernel
theorem dX7_leastMisfits_35 : decode cX7_leastMisfits 35 = .ok (.aload_n 0, 1) := by decide +kernel
theorem dX7_leastMisfits_36 : decode cX7_leastMisfits 36 = .ok (.getfield 31, 3) := by decide +kernel
theorem dX7_leastMisfits_39 : decode cX7_leastMisfits 39 = .ok (.iload 4, 2) := by decide +kernel
theorem dX7_leastMisfits_41 : decode cX7_leastMisfits 41 = .ok (.iaload, 1) := by decide +kernel
theorem dX7_leastMisfits_42 : decode cX7_leastMisfits 42 = .ok (.invokestatic 79, 3) := by decide +kernel
theorem dX7_leastMisfits_45 : decode cX7_leastMisfits 45 = .ok (.istore_n 3, 1) := by decide +kernel
theorem dX7_leastMisfits_46 : decode cX7_leastMisfits 46 = .ok (.iinc 4 1, 3) := by decide +kernel
theorem dX7_leastMisfits_49 : decode cX7_leastMisfits 49 = .ok (.goto (-43), 3) := by decide +kernel
theorem dX7_leastMisfits_52 : decode cX7_leastMisfits 52 = .ok (.iload_n 3, 1) := by decide +kernel
theorem dX7_leastMisfits_53 : decode cX7_leastMisfits 53 = .ok (.ireturn, 1) := by decide +kernel
theorem dX7_isAlikeBy_0 : decode cX7_isAlikeBy 0 = .ok (.lconst 0, 1) := by decide +kernel
theorem dX7_isAlikeBy_1 : decode cX7_isAlikeBy 1 = .ok (.lstore_n 3, 1) := by decide +kernel
theorem dX7_isAlikeBy_2 : decode cX7_isAlikeBy 2 = .ok (.lconst 0, 1) := by decide +kernel
theorem dX7_isAlikeBy_3 : decode cX7_isAlikeBy 3 = .ok (.lstore 5, 2) := by decide +kernel
theorem dX7_isAlikeBy_5 : decode cX7_isAlikeBy 5 = .ok (.iconst 0, 1) := by decide +kernel
theorem dX7_isAlikeBy_6 : decode cX7_isAlikeBy 6 = .ok (.istore 7, 2) := by decide +kernel
theorem dX7_isAlikeBy_8 : decode cX7_isAlikeBy 8 = .ok (.iload 7, 2) := by decide +kernel
theorem dX7_isAlikeBy_10 : decode cX7_isAlikeBy 10 = .ok (.aload_n 0, 1) := by decide +kernel
theorem dX7_isAlikeBy_11 : decode cX7_isAlikeBy 11 = .ok (.getfield 18, 3) := by decide +kernel
theorem dX7_isAlikeBy_14 : decode cX7_isAlikeBy 14 = .ok (.if_icmp .ge 53, 3) := by decide +kernel
theorem dX7_isAlikeBy_17 : decode cX7_isAlikeBy 17 = .ok (.lconst 1, 1) := by decide +kernel
theorem dX7_isAlikeBy_18 : decode cX7_isAlikeBy 18 = .ok (.aload_n 0, 1) := by decide +kernel
theorem dX7_isAlikeBy_19 : decode cX7_isAlikeBy 19 = .ok (.getfield 21, 3) := by decide +kernel
theorem dX7_isAlikeBy_22 : decode cX7_isAlikeBy 22 = .ok (.iload 7, 2) := by decide +kernel
theorem dX7_isAlikeBy_24 : decode cX7_isAlikeBy 24 = .ok (.iaload, 1) := by decide +kernel
theorem dX7_isAlikeBy_25 : decode cX7_isAlikeBy 25 = .ok (.iconst 4, 1) := by decide +kernel
theorem dX7_isAlikeBy_26 : decode cX7_isAlikeBy 26 = .ok (.ishr, 1) := by decide +kernel
theorem dX7_isAlikeBy_27 : decode cX7_isAlikeBy 27 = .ok (.iload_n 2, 1) := by decide +kernel
theorem dX7_isAlikeBy_28 : decode cX7_isAlikeBy 28 = .ok (.iand, 1) := by decide +kernel
theorem dX7_isAlikeBy_29 : decode cX7_isAlikeBy 29 = .ok (.lshl, 1) := by decide +kernel
theorem dX7_isAlikeBy_30 : decode cX7_isAlikeBy 30 = .ok (.lstore 8, 2) := by decide +kernel
theorem dX7_isAlikeBy_32 : decode cX7_isAlikeBy 32 = .ok (.aload_n 0, 1) := by decide +kernel
theorem dX7_isAlikeBy_33 : decode cX7_isAlikeBy 33 = .ok (.getfield 21, 3) := by decide +kernel
theorem dX7_isAlikeBy_36 : decode cX7_isAlikeBy 36 = .ok (.iload 7, 2) := by decide +kernel
theorem dX7_isAlikeBy_38 : decode cX7_isAlikeBy 38 = .ok (.iaload, 1) := by decide +kernel
theorem dX7_isAlikeBy_39 : decode cX7_isAlikeBy 39 = .ok (.iload_n 1, 1) := by decide +kernel
theorem dX7_isAlikeBy_40 : decode cX7_isAlikeBy 40 = .ok (.invokestatic 76, 3) := by decide +kernel
theorem dX7_isAlikeBy_43 : decode cX7_isAlikeBy 43 = .ok (.ifCond .eq 11, 3) := by decide +kernel
theorem dX7_isAlikeBy_46 : decode cX7_isAlikeBy 46 = .ok (.lload_n 3, 1) := by decide +kernel
theorem dX7_isAlikeBy_47 : decode cX7_isAlikeBy 47 = .ok (.lload 8, 2) := by decide +kernel
theorem dX7_isAlikeBy_49 : decode cX7_isAlikeBy 49 = .ok (.lor, 1) := by decide +kernel
theorem dX7_isAlikeBy_50 : decode cX7_isAlikeBy 50 = .ok (.lstore_n 3, 1) := by decide +kernel
theorem dX7_isAlikeBy_51 : decode cX7_isAlikeBy 51 = .ok (.goto 10, 3) := by decide +kernel
theorem dX7_isAlikeBy_54 : decode cX7_isAlikeBy 54 = .ok (.lload 5, 2) := by decide +kernel
theorem dX7_isAlikeBy_56 : decode cX7_isAlikeBy 56 = .ok (.lload 8, 2) := by decide +kernel
theorem dX7_isAlikeBy_58 : decode cX7_isAlikeBy 58 = .ok (.lor, 1) := by decide +kernel
theorem dX7_isAlikeBy_59 : decode cX7_isAlikeBy 59 = .ok (.lstore 5, 2) := by decide +kernel
theorem dX7_isAlikeBy_61 : decode cX7_isAlikeBy 61 = .ok (.iinc 7 1, 3) := by decide +kernel
theorem dX7_isAlikeBy_64 : decode cX7_isAlikeBy 64 = .ok (.goto (-56), 3) := by decide +kernel
theorem dX7_isAlikeBy_67 : decode cX7_isAlikeBy 67 = .ok (.lload_n 3, 1) := by decide +kernel
theorem dX7_isAlikeBy_68 : decode cX7_isAlikeBy 68 = .ok (.lload 5, 2) := by decide +kernel
theorem dX7_isAlikeBy_70 : decode cX7_isAlikeBy 70 = .ok (.land, 1) := by decide +kernel
theorem dX7_isAlikeBy_71 : decode cX7_isAlikeBy 71 = .ok (.lconst 0, 1) := by decide +kernel
theorem dX7_isAlikeBy_72 : decode cX7_isAlikeBy 72 = .ok (.lcmp, 1) := by decide +kernel
theorem dX7_isAlikeBy_73 : decode cX7_isAlikeBy 73 = .ok (.ifCond .ne 7, 3) := by decide +kernel
theorem dX7_isAlikeBy_76 : decode cX7_isAlikeBy 76 = .ok (.iconst 1, 1) := by decide +kernel
theorem dX7_isAlikeBy_77 : decode cX7_isAlikeBy 77 = .ok (.goto 4, 3) := by decide +kernel
theorem dX7_isAlikeBy_80 : decode cX7_isAlikeBy 80 = .ok (.iconst 0, 1) := by decide +kernel
theorem dX7_isAlikeBy_81 : decode cX7_isAlikeBy 81 = .ok (.ireturn, 1) := by decide +kernel
theorem dX7_fewestTelling_0 : decode cX7_fewestTelling 0 = .ok (.iconst 0, 1) := by decide +kernel
theorem dX7_fewestTelling_1 : decode cX7_fewestTelling 1 = .ok (.istore_n 3, 1) := by decide +kernel
theorem dX7_fewestTelling_2 : decode cX7_fewestTelling 2 = .ok (.iload_n 3, 1) := by decide +kernel
theorem dX7_fewestTelling_3 : decode cX7_fewestTelling 3 = .ok (.iconst 3, 1) := by decide +kernel
theorem dX7_fewestTelling_4 : decode cX7_fewestTelling 4 = .ok (.if_icmp .gt 46, 3) := by decide +kernel
theorem dX7_fewestTelling_7 : decode cX7_fewestTelling 7 = .ok (.iconst 0, 1) := by decide +kernel
theorem dX7_fewestTelling_8 : decode cX7_fewestTelling 8 = .ok (.istore 4, 2) := by decide +kernel
theorem dX7_fewestTelling_10 : decode cX7_fewestTelling 10 = .ok (.iload 4, 2) := by decide +kernel
theorem dX7_fewestTelling_12 : decode cX7_fewestTelling 12 = .ok (.iload_n 2, 1) := by decide +kernel
theorem dX7_fewestTelling_13 : decode cX7_fewestTelling 13 = .ok (.if_icmp .gt 31, 3) := by decide +kernel
theorem dX7_fewestTelling_16 : decode cX7_fewestTelling 16 = .ok (.iload 4, 2) := by decide +kernel
theorem dX7_fewestTelling_18 : decode cX7_fewestTelling 18 = .ok (.invokestatic 84, 3) := by decide +kernel
theorem dX7_fewestTelling_21 : decode cX7_fewestTelling 21 = .ok (.iload_n 3, 1) := by decide +kernel
theorem dX7_fewestTelling_22 : decode cX7_fewestTelling 22 = .ok (.if_icmp .ne 16, 3) := by decide +kernel
theorem dX7_fewestTelling_25 : decode cX7_fewestTelling 25 = .ok (.aload_n 0, 1) := by decide +kernel
theorem dX7_fewestTelling_26 : decode cX7_fewestTelling 26 = .ok (.iload_n 1, 1) := by decide +kernel
theorem dX7_fewestTelling_27 : decode cX7_fewestTelling 27 = .ok (.iload 4, 2) := by decide +kernel
theorem dX7_fewestTelling_29 : decode cX7_fewestTelling 29 = .ok (.invokevirtual 89, 3) := by decide +kernel
theorem dX7_fewestTelling_32 : decode cX7_fewestTelling 32 = .ok (.ifCond .eq 6, 3) := by decide +kernel
theorem dX7_fewestTelling_35 : decode cX7_fewestTelling 35 = .ok (.iload 4, 2) := by decide +kernel
theorem dX7_fewestTelling_37 : decode cX7_fewestTelling 37 = .ok (.ireturn, 1) := by decide +kernel
theorem dX7_fewestTelling_38 : decode cX7_fewestTelling 38 = .ok (.iinc 4 1, 3) := by decide +kernel
theorem dX7_fewestTelling_41 : decode cX7_fewestTelling 41 = .ok (.goto (-31), 3) := by decide +kernel
theorem dX7_fewestTelling_44 : decode cX7_fewestTelling 44 = .ok (.iinc 3 1, 3) := by decide +kernel
theorem dX7_fewestTelling_47 : decode cX7_fewestTelling 47 = .ok (.goto (-45), 3) := by decide +kernel
theorem dX7_fewestTelling_50 : decode cX7_fewestTelling 50 = .ok (.bipush (-9), 2) := by decide +kernel
theorem dX7_fewestTelling_52 : decode cX7_fewestTelling 52 = .ok (.ireturn, 1) := by decide +kernel
theorem dX8_init_0 : decode cX8_init 0 = .ok (.aload_n 0, 1) := by decide +kernel
theorem dX8_init_1 : decode cX8_init 1 = .ok (.invokespecial 1, 3) := by decide +kernel
theorem dX8_init_4 : decode cX8_init 4 = .ok (.aload_n 0, 1) := by decide +kernel
theorem dX8_init_5 : decode cX8_init 5 = .ok (.new 7, 3) := by decide +kernel
theorem dX8_init_8 : decode cX8_init 8 = .ok (.dup, 1) := by decide +kernel
theorem dX8_init_9 : decode cX8_init 9 = .ok (.invokespecial 9, 3) := by decide +kernel
theorem dX8_init_12 : decode cX8_init 12 = .ok (.putfield 10, 3) := by decide +kernel
theorem dX8_init_15 : decode cX8_init 15 = .ok (.aload_n 0, 1) := by decide +kernel
theorem dX8_init_16 : decode cX8_init 16 = .ok (.new 16, 3) := by decide +kernel
theorem dX8_init_19 : decode cX8_init 19 = .ok (.dup, 1) := by decide +kernel
theorem dX8_init_20 : decode cX8_init 20 = .ok (.invokespecial 18, 3) := by decide +kernel
theorem dX8_init_23 : decode cX8_init 23 = .ok (.putfield 19, 3) := by decide +kernel
theorem dX8_init_26 : decode cX8_init 26 = .ok (.aload_n 0, 1) := by decide +kernel
theorem dX8_init_27 : decode cX8_init 27 = .ok (.new 16, 3) := by decide +kernel
theorem dX8_init_30 : decode cX8_init 30 = .ok (.dup, 1) := by decide +kernel
theorem dX8_init_31 : decode cX8_init 31 = .ok (.invokespecial 18, 3) := by decide +kernel
theorem dX8_init_34 : decode cX8_init 34 = .ok (.putfield 23, 3) := by decide +kernel
theorem dX8_init_37 : decode cX8_init 37 = .ok (.aload_n 0, 1) := by decide +kernel
theorem dX8_init_38 : decode cX8_init 38 = .ok (.new 16, 3) := by decide +kernel
theorem dX8_init_41 : decode cX8_init 41 = .ok (.dup, 1) := by decide +kernel
theorem dX8_init_42 : decode cX8_init 42 = .ok (.invokespecial 18, 3) := by decide +kernel
theorem dX8_init_45 : decode cX8_init 45 = .ok (.putfield 26, 3) := by decide +kernel
theorem dX8_init_48 : decode cX8_init 48 = .ok (.aload_n 0, 1) := by decide +kernel
theorem dX8_init_49 : decode cX8_init 49 = .ok (.new 29, 3) := by decide +kernel
theorem dX8_init_52 : decode cX8_init 52 = .ok (.dup, 1) := by decide +kernel
theorem dX8_init_53 : decode cX8_init 53 = .ok (.invokespecial 31, 3) := by decide +kernel
theorem dX8_init_56 : decode cX8_init 56 = .ok (.putfield 32, 3) := by decide +kernel
theorem dX8_init_59 : decode cX8_init 59 = .ok (.aload_n 0, 1) := by decide +kernel
theorem dX8_init_60 : decode cX8_init 60 = .ok (.new 29, 3) := by decide +kernel
theorem dX8_init_63 : decode cX8_init 63 = .ok (.dup, 1) := by decide +kernel
theorem dX8_init_64 : decode cX8_init 64 = .ok (.invokespecial 31, 3) := by decide +kernel
theorem dX8_init_67 : decode cX8_init 67 = .ok (.putfield 36, 3) := by decide +kernel
theorem dX8_init_70 : decode cX8_init 70 = .ok (.aload_n 0, 1) := by decide +kernel
theorem dX8_init_71 : decode cX8_init 71 = .ok (.new 39, 3) := by decide +kernel
theorem dX8_init_74 : decode cX8_init 74 = .ok (.dup, 1) := by decide +kernel
theorem dX8_init_75 : decode cX8_init 75 = .ok (.invokespecial 41, 3) := by decide +kernel
theorem dX8_init_78 : decode cX8_init 78 = .ok (.putfield 42, 3) := by decide +kernel
theorem dX8_init_81 : decode cX8_init 81 = .ok (.aload_n 0, 1) := by decide +kernel
theorem dX8_init_82 : decode cX8_init 82 = .ok (.new 46, 3) := by decide +kernel
theorem dX8_init_85 : decode cX8_init 85 = .ok (.dup, 1) := by decide +kernel
theorem dX8_init_86 : decode cX8_init 86 = .ok (.invokespecial 48, 3) := by decide +kernel
theorem dX8_init_89 : decode cX8_init 89 = .ok (.putfield 49, 3) := by decide +kernel
theorem dX8_init_92 : decode cX8_init 92 = .ok (.aload_n 0, 1) := by decide +kernel
theorem dX8_init_93 : decode cX8_init 93 = .ok (.new 53, 3) := by decide +kernel
theorem dX8_init_96 : decode cX8_init 96 = .ok (.dup, 1) := by decide +kernel
theorem dX8_init_97 : decode cX8_init 97 = .ok (.invokespecial 55, 3) := by decide +kernel
theorem dX8_init_100 : decode cX8_init 100 = .ok (.putfield 56, 3) := by decide +kernel
theorem dX8_init_103 : decode cX8_init 103 = .ok (.aload_n 0, 1) := by decide +kernel
theorem dX8_init_104 : decode cX8_init 104 = .ok (.new 60, 3) := by decide +kernel
theorem dX8_init_107 : decode cX8_init 107 = .ok (.dup, 1) := by decide +kernel
theorem dX8_init_108 : decode cX8_init 108 = .ok (.invokespecial 62, 3) := by decide +kernel
theorem dX8_init_111 : decode cX8_init 111 = .ok (.putfield 63, 3) := by decide +kernel
theorem dX8_init_114 : decode cX8_init 114 = .ok (.aload_n 0, 1) := by decide +kernel
theorem dX8_init_115 : decode cX8_init 115 = .ok (.bipush 7, 2) := by decide +kernel
theorem dX8_init_117 : decode cX8_init 117 = .ok (.newarray .int, 2) := by decide +kernel
theorem dX8_init_119 : decode cX8_init 119 = .ok (.putfield 67, 3) := by decide +kernel
theorem dX8_init_122 : decode cX8_init 122 = .ok (.aload_n 0, 1) := by decide +kernel
theorem dX8_init_123 : decode cX8_init 123 = .ok (.iconst 0, 1) := by decide +kernel
theorem dX8_init_124 : decode cX8_init 124 = .ok (.putfield 71, 3) := by decide +kernel
theorem dX8_init_127 : decode cX8_init 127 = .ok (.aload_n 0, 1) := by decide +kernel
theorem dX8_init_128 : decode cX8_init 128 = .ok (.getfield 42, 3) := by decide +kernel
theorem dX8_init_131 : decode cX8_init 131 = .ok (.aload_n 0, 1) := by decide +kernel
theorem dX8_init_132 : decode cX8_init 132 = .ok (.getfield 19, 3) := by decide +kernel
theorem dX8_init_135 : decode cX8_init 135 = .ok (.invokevirtual 75, 3) := by decide +kernel
theorem dX8_init_138 : decode cX8_init 138 = .ok (.aload_n 0, 1) := by decide +kernel
theorem dX8_init_139 : decode cX8_init 139 = .ok (.getfield 42, 3) := by decide +kernel
theorem dX8_init_142 : decode cX8_init 142 = .ok (.aload_n 0, 1) := by decide +kernel
theorem dX8_init_143 : decode cX8_init 143 = .ok (.getfield 32, 3) := by decide +kernel
theorem dX8_init_146 : decode cX8_init 146 = .ok (.invokevirtual 79, 3) := by decide +kernel
theorem dX8_init_149 : decode cX8_init 149 = .ok (.return_, 1) := by decide +kernel
theorem dX8_letter_0 : decode cX8_letter 0 = .ok (.iload_n 1, 1) := by decide +kernel
theorem dX8_letter_1 : decode cX8_letter 1 = .ok (.ifCond .ge 10, 3) := by decide +kernel
theorem dX8_letter_4 : decode cX8_letter 4 = .ok (.aload_n 0, 1) := by decide +kernel
theorem dX8_letter_5 : decode cX8_letter 5 = .ok (.bipush (-4), 2) := by decide +kernel
theorem dX8_letter_7 : decode cX8_letter 7 = .ok (.invokevirtual 83, 3) := by decide +kernel
theorem dX8_letter_10 : decode cX8_letter 10 = .ok (.ireturn, 1) := by decide +kernel
theorem dX8_letter_11 : decode cX8_letter 11 = .ok (.iload_n 1, 1) := by decide +kernel
theorem dX8_letter_12 : decode cX8_letter 12 = .ok (.sipush 255, 3) := by decide +kernel
theorem dX8_letter_15 : decode cX8_letter 15 = .ok (.if_icmp .gt 15, 3) := by decide +kernel
theorem dX8_letter_18 : decode cX8_letter 18 = .ok (.aload_n 0, 1) := by decide +kernel
theorem dX8_letter_19 : decode cX8_letter 19 = .ok (.getfield 10, 3) := by decide +kernel
theorem dX8_letter_22 : decode cX8_letter 22 = .ok (.getfield 87, 3) := by decide +kernel
theorem dX8_letter_25 : decode cX8_letter 25 = .ok (.bipush 80, 2) := by decide +kernel
theorem dX8_letter_27 : decode cX8_letter 27 = .ok (.if_icmp .lt 10, 3) := by decide +kernel
theorem dX8_letter_30 : decode cX8_letter 30 = .ok (.aload_n 0, 1) := by decide +kernel
theorem dX8_letter_31 : decode cX8_letter 31 = .ok (.bipush (-6), 2) := by decide +kernel
theorem dX8_letter_33 : decode cX8_letter 33 = .ok (.invokevirtual 83, 3) := by decide +kernel
theorem dX8_letter_36 : decode cX8_letter 36 = .ok (.ireturn, 1) := by decide +kernel
theorem dX8_letter_37 : decode cX8_letter 37 = .ok (.aload_n 0, 1) := by decide +kernel
theorem dX8_letter_38 : decode cX8_letter 38 = .ok (.getfield 10, 3) := by decide +kernel
theorem dX8_letter_41 : decode cX8_letter 41 = .ok (.iload_n 1, 1) := by decide +kernel
theorem dX8_letter_42 : decode cX8_letter 42 = .ok (.invokevirtual 91, 3) := by decide +kernel
theorem dX8_letter_45 : decode cX8_letter 45 = .ok (.aload_n 0, 1) := by decide +kernel
theorem dX8_letter_46 : decode cX8_letter 46 = .ok (.getfield 10, 3) := by decide +kernel
theorem dX8_letter_49 : decode cX8_letter 49 = .ok (.getfield 87, 3) := by decide +kernel
theorem dX8_letter_52 : decode cX8_letter 52 = .ok (.ireturn, 1) := by decide +kernel
theorem dX8_land_0 : decode cX8_land 0 = .ok (.aload_n 0, 1) := by decide +kernel
theorem dX8_land_1 : decode cX8_land 1 = .ok (.invokevirtual 95, 3) := by decide +kernel
theorem dX8_land_4 : decode cX8_land 4 = .ok (.istore_n 1, 1) := by decide +kernel
theorem dX8_land_5 : decode cX8_land 5 = .ok (.aload_n 0, 1) := by decide +kernel
theorem dX8_land_6 : decode cX8_land 6 = .ok (.getfield 10, 3) := by decide +kernel
theorem dX8_land_9 : decode cX8_land 9 = .ok (.invokevirtual 99, 3) := by decide +kernel
theorem dX8_land_12 : decode cX8_land 12 = .ok (.iload_n 1, 1) := by decide +kernel
theorem dX8_land_13 : decode cX8_land 13 = .ok (.ireturn, 1) := by decide +kernel
theorem dX8_road_0 : decode cX8_road 0 = .ok (.aload_n 0, 1) := by decide +kernel
theorem dX8_road_1 : decode cX8_road 1 = .ok (.getfield 19, 3) := by decide +kernel
theorem dX8_road_4 : decode cX8_road 4 = .ok (.iload_n 1, 1) := by decide +kernel
theorem dX8_road_5 : decode cX8_road 5 = .ok (.invokevirtual 102, 3) := by decide +kernel
theorem dX8_road_8 : decode cX8_road 8 = .ok (.ifCond .ne 9, 3) := by decide +kernel
theorem dX8_road_11 : decode cX8_road 11 = .ok (.aload_n 0, 1) := by decide +kernel
theorem dX8_road_12 : decode cX8_road 12 = .ok (.iconst (-1), 1) := by decide +kernel
theorem dX8_road_13 : decode cX8_road 13 = .ok (.invokevirtual 83, 3) := by decide +kernel
theorem dX8_road_16 : decode cX8_road 16 = .ok (.ireturn, 1) := by decide +kernel
theorem dX8_road_17 : decode cX8_road 17 = .ok (.iload_n 2, 1) := by decide +kernel
theorem dX8_road_18 : decode cX8_road 18 = .ok (.tableswitch 55 0 2 #[26, 36, 46], 26) := by decide +kernel
theorem dX8_road_44 : decode cX8_road 44 = .ok (.aload_n 0, 1) := by decide +kernel
theorem dX8_road_45 : decode cX8_road 45 = .ok (.getfield 19, 3) := by decide +kernel
theorem dX8_road_48 : decode cX8_road 48 = .ok (.getfield 106, 3) := by decide +kernel
theorem dX8_road_51 : decode cX8_road 51 = .ok (.iload_n 1, 1) := by decide +kernel
theorem dX8_road_52 : decode cX8_road 52 = .ok (.iaload, 1) := by decide +kernel
theorem dX8_road_53 : decode cX8_road 53 = .ok (.ireturn, 1) := by decide +kernel
theorem dX8_road_54 : decode cX8_road 54 = .ok (.aload_n 0, 1) := by decide +kernel
theorem dX8_road_55 : decode cX8_road 55 = .ok (.getfield 19, 3) := by decide +kernel
theorem dX8_road_58 : decode cX8_road 58 = .ok (.getfield 109, 3) := by decide +kernel
theorem dX8_road_61 : decode cX8_road 61 = .ok (.iload_n 1, 1) := by decide +kernel
theorem dX8_road_62 : decode cX8_road 62 = .ok (.iaload, 1) := by decide +kernel
theorem dX8_road_63 : decode cX8_road 63 = .ok (.ireturn, 1) := by decide +kernel
theorem dX8_road_64 : decode cX8_road 64 = .ok (.aload_n 0, 1) := by decide +kernel
theorem dX8_road_65 : decode cX8_road 65 = .ok (.getfield 19, 3) := by decide +kernel
theorem dX8_road_68 : decode cX8_road 68 = .ok (.iload_n 1, 1) := by decide +kernel
theorem dX8_road_69 : decode cX8_road 69 = .ok (.invokevirtual 112, 3) := by decide +kernel
theorem dX8_road_72 : decode cX8_road 72 = .ok (.ireturn, 1) := by decide +kernel
theorem dX8_road_73 : decode cX8_road 73 = .ok (.aload_n 0, 1) := by decide +kernel
theorem dX8_road_74 : decode cX8_road 74 = .ok (.bipush (-2), 2) := by decide +kernel
theorem dX8_road_76 : decode cX8_road 76 = .ok (.invokevirtual 83, 3) := by decide +kernel
theorem dX8_road_79 : decode cX8_road 79 = .ok (.ireturn, 1) := by decide +kernel
theorem dX8_sign_0 : decode cX8_sign 0 = .ok (.aload_n 0, 1) := by decide +kernel
theorem dX8_sign_1 : decode cX8_sign 1 = .ok (.getfield 19, 3) := by decide +kernel
theorem dX8_sign_4 : decode cX8_sign 4 = .ok (.iload_n 1, 1) := by decide +kernel
theorem dX8_sign_5 : decode cX8_sign 5 = .ok (.invokevirtual 115, 3) := by decide +kernel
theorem dX8_sign_8 : decode cX8_sign 8 = .ok (.ifCond .ne 9, 3) := by decide +kernel
theorem dX8_sign_11 : decode cX8_sign 11 = .ok (.aload_n 0, 1) := by decide +kernel
theorem dX8_sign_12 : decode cX8_sign 12 = .ok (.iconst (-1), 1) := by decide +kernel
theorem dX8_sign_13 : decode cX8_sign 13 = .ok (.invokevirtual 83, 3) := by decide +kernel
theorem dX8_sign_16 : decode cX8_sign 16 = .ok (.ireturn, 1) := by decide +kernel
theorem dX8_sign_17 : decode cX8_sign 17 = .ok (.iload_n 2, 1) := by decide +kernel
theorem dX8_sign_18 : decode cX8_sign 18 = .ok (.tableswitch 70 0 3 #[30, 40, 50, 60], 30) := by decide +kernel
theorem dX8_sign_48 : decode cX8_sign 48 = .ok (.aload_n 0, 1) := by decide +kernel
theorem dX8_sign_49 : decode cX8_sign 49 = .ok (.getfield 19, 3) := by decide +kernel
theorem dX8_sign_52 : decode cX8_sign 52 = .ok (.getfield 118, 3) := by decide +kernel
theorem dX8_sign_55 : decode cX8_sign 55 = .ok (.iload_n 1, 1) := by decide +kernel
theorem dX8_sign_56 : decode cX8_sign 56 = .ok (.iaload, 1) := by decide +kernel
theorem dX8_sign_57 : decode cX8_sign 57 = .ok (.ireturn, 1) := by decide +kernel
theorem dX8_sign_58 : decode cX8_sign 58 = .ok (.aload_n 0, 1) := by decide +kernel
theorem dX8_sign_59 : decode cX8_sign 59 = .ok (.getfield 19, 3) := by decide +kernel
theorem dX8_sign_62 : decode cX8_sign 62 = .ok (.getfield 121, 3) := by decide +kernel
theorem dX8_sign_65 : decode cX8_sign 65 = .ok (.iload_n 1, 1) := by decide +kernel
theorem dX8_sign_66 : decode cX8_sign 66 = .ok (.iaload, 1) := by decide +kernel
theorem dX8_sign_67 : decode cX8_sign 67 = .ok (.ireturn, 1) := by decide +kernel
theorem dX8_sign_68 : decode cX8_sign 68 = .ok (.aload_n 0, 1) := by decide +kernel
theorem dX8_sign_69 : decode cX8_sign 69 = .ok (.getfield 19, 3) := by decide +kernel
theorem dX8_sign_72 : decode cX8_sign 72 = .ok (.getfield 124, 3) := by decide +kernel
theorem dX8_sign_75 : decode cX8_sign 75 = .ok (.iload_n 1, 1) := by decide +kernel
theorem dX8_sign_76 : decode cX8_sign 76 = .ok (.iaload, 1) := by decide +kernel
theorem dX8_sign_77 : decode cX8_sign 77 = .ok (.ireturn, 1) := by decide +kernel
theorem dX8_sign_78 : decode cX8_sign 78 = .ok (.aload_n 0, 1) := by decide +kernel
theorem dX8_sign_79 : decode cX8_sign 79 = .ok (.getfield 19, 3) := by decide +kernel
theorem dX8_sign_82 : decode cX8_sign 82 = .ok (.getfield 127, 3) := by decide +kernel
theorem dX8_sign_85 : decode cX8_sign 85 = .ok (.iload_n 1, 1) := by decide +kernel
theorem dX8_sign_86 : decode cX8_sign 86 = .ok (.iaload, 1) := by decide +kernel
theorem dX8_sign_87 : decode cX8_sign 87 = .ok (.ireturn, 1) := by decide +kernel
theorem dX8_sign_88 : decode cX8_sign 88 = .ok (.aload_n 0, 1) := by decide +kernel
theorem dX8_sign_89 : decode cX8_sign 89 = .ok (.bipush (-2), 2) := by decide +kernel
theorem dX8_sign_91 : decode cX8_sign 91 = .ok (.invokevirtual 83, 3) := by decide +kernel
theorem dX8_sign_94 : decode cX8_sign 94 = .ok (.ireturn, 1) := by decide +kernel
theorem dX8_shown_0 : decode cX8_shown 0 = .ok (.aload_n 0, 1) := by decide +kernel
theorem dX8_shown_1 : decode cX8_shown 1 = .ok (.getfield 19, 3) := by decide +kernel
theorem dX8_shown_4 : decode cX8_shown 4 = .ok (.iload_n 1, 1) := by decide +kernel
theorem dX8_shown_5 : decode cX8_shown 5 = .ok (.invokevirtual 130, 3) := by decide +kernel
theorem dX8_shown_8 : decode cX8_shown 8 = .ok (.ifCond .ne 9, 3) := by decide +kernel
theorem dX8_shown_11 : decode cX8_shown 11 = .ok (.aload_n 0, 1) := by decide +kernel
theorem dX8_shown_12 : decode cX8_shown 12 = .ok (.iconst (-1), 1) := by decide +kernel
theorem dX8_shown_13 : decode cX8_shown 13 = .ok (.invokevirtual 83, 3) := by decide +kernel
theorem dX8_shown_16 : decode cX8_shown 16 = .ok (.ireturn, 1) := by decide +kernel
theorem dX8_shown_17 : decode cX8_shown 17 = .ok (.aload_n 0, 1) := by decide +kernel
theorem dX8_shown_18 : decode cX8_shown 18 = .ok (.getfield 19, 3) := by decide +kernel
theorem dX8_shown_21 : decode cX8_shown 21 = .ok (.getfield 133, 3) := by decide +kernel
theorem dX8_shown_24 : decode cX8_shown 24 = .ok (.iload_n 1, 1) := by decide +kernel
theorem dX8_shown_25 : decode cX8_shown 25 = .ok (.iaload, 1) := by decide +kernel
theorem dX8_shown_26 : decode cX8_shown 26 = .ok (.ireturn, 1) := by decide +kernel
theorem dX8_fits_0 : decode cX8_fits 0 = .ok (.aload_n 0, 1) := by decide +kernel
theorem dX8_fits_1 : decode cX8_fits 1 = .ok (.getfield 42, 3) := by decide +kernel
theorem dX8_fits_4 : decode cX8_fits 4 = .ok (.iload_n 1, 1) := by decide +kernel
theorem dX8_fits_5 : decode cX8_fits 5 = .ok (.invokevirtual 136, 3) := by decide +kernel
theorem dX8_fits_8 : decode cX8_fits 8 = .ok (.ifCond .ne 9, 3) := by decide +kernel
theorem dX8_fits_11 : decode cX8_fits 11 = .ok (.aload_n 0, 1) := by decide +kernel
theorem dX8_fits_12 : decode cX8_fits 12 = .ok (.iconst (-1), 1) := by decide +kernel
theorem dX8_fits_13 : decode cX8_fits 13 = .ok (.invokevirtual 83, 3) := by decide +kernel
theorem dX8_fits_16 : decode cX8_fits 16 = .ok (.ireturn, 1) := by decide +kernel
theorem dX8_fits_17 : decode cX8_fits 17 = .ok (.aload_n 0, 1) := by decide +kernel
theorem dX8_fits_18 : decode cX8_fits 18 = .ok (.getfield 42, 3) := by decide +kernel
theorem dX8_fits_21 : decode cX8_fits 21 = .ok (.iload_n 1, 1) := by decide +kernel
theorem dX8_fits_22 : decode cX8_fits 22 = .ok (.invokevirtual 139, 3) := by decide +kernel
theorem dX8_fits_25 : decode cX8_fits 25 = .ok (.ifCond .eq 7, 3) := by decide +kernel
theorem dX8_fits_28 : decode cX8_fits 28 = .ok (.iconst 1, 1) := by decide +kernel
theorem dX8_fits_29 : decode cX8_fits 29 = .ok (.goto 4, 3) := by decide +kernel
theorem dX8_fits_32 : decode cX8_fits 32 = .ok (.iconst 0, 1) := by decide +kernel
theorem dX8_fits_33 : decode cX8_fits 33 = .ok (.ireturn, 1) := by decide +kernel
theorem dX8_good_0 : decode cX8_good 0 = .ok (.aload_n 0, 1) := by decide +kernel
theorem dX8_good_1 : decode cX8_good 1 = .ok (.getfield 42, 3) := by decide +kernel
theorem dX8_good_4 : decode cX8_good 4 = .ok (.iload_n 1, 1) := by decide +kernel
theorem dX8_good_5 : decode cX8_good 5 = .ok (.invokevirtual 136, 3) := by decide +kernel
theorem dX8_good_8 : decode cX8_good 8 = .ok (.ifCond .ne 9, 3) := by decide +kernel
theorem dX8_good_11 : decode cX8_good 11 = .ok (.aload_n 0, 1) := by decide +kernel
theorem dX8_good_12 : decode cX8_good 12 = .ok (.iconst (-1), 1) := by decide +kernel
theorem dX8_good_13 : decode cX8_good 13 = .ok (.invokevirtual 83, 3) := by decide +kernel
theorem dX8_good_16 : decode cX8_good 16 = .ok (.ireturn, 1) := by decide +kernel
theorem dX8_good_17 : decode cX8_good 17 = .ok (.aload_n 0, 1) := by decide +kernel
theorem dX8_good_18 : decode cX8_good 18 = .ok (.getfield 42, 3) := by decide +kernel
theorem dX8_good_21 : decode cX8_good 21 = .ok (.iload_n 1, 1) := by decide +kernel
theorem dX8_good_22 : decode cX8_good 22 = .ok (.invokevirtual 142, 3) := by decide +kernel
theorem dX8_good_25 : decode cX8_good 25 = .ok (.ifCond .eq 7, 3) := by decide +kernel
theorem dX8_good_28 : decode cX8_good 28 = .ok (.iconst 1, 1) := by decide +kernel
theorem dX8_good_29 : decode cX8_good 29 = .ok (.goto 4, 3) := by decide +kernel
theorem dX8_good_32 : decode cX8_good 32 = .ok (.iconst 0, 1) := by decide +kernel
theorem dX8_good_33 : decode cX8_good 33 = .ok (.ireturn, 1) := by decide +kernel
theorem dX8_says_0 : decode cX8_says 0 = .ok (.aload_n 0, 1) := by decide +kernel
theorem dX8_says_1 : decode cX8_says 1 = .ok (.getfield 19, 3) := by decide +kernel
theorem dX8_says_4 : decode cX8_says 4 = .ok (.iload_n 1, 1) := by decide +kernel
theorem dX8_says_5 : decode cX8_says 5 = .ok (.invokevirtual 115, 3) := by decide +kernel
theorem dX8_says_8 : decode cX8_says 8 = .ok (.ifCond .eq 14, 3) := by decide +kernel
theorem dX8_says_11 : decode cX8_says 11 = .ok (.aload_n 0, 1) := by decide +kernel
theorem dX8_says_12 : decode cX8_says 12 = .ok (.getfield 42, 3) := by decide +kernel
theorem dX8_says_15 : decode cX8_says 15 = .ok (.iload_n 2, 1) := by decide +kernel
theorem dX8_says_16 : decode cX8_says 16 = .ok (.invokevirtual 136, 3) := by decide +kernel
theorem dX8_says_19 : decode cX8_says 19 = .ok (.ifCond .ne 9, 3) := by decide +kernel
theorem dX8_says_22 : decode cX8_says 22 = .ok (.aload_n 0, 1) := by decide +kernel
theorem dX8_says_23 : decode cX8_says 23 = .ok (.iconst (-1), 1) := by decide +kernel
theorem dX8_says_24 : decode cX8_says 24 = .ok (.invokevirtual 83, 3) := by decide +kernel
theorem dX8_says_27 : decode cX8_says 27 = .ok (.ireturn, 1) := by decide +kernel
theorem dX8_says_28 : decode cX8_says 28 = .ok (.aload_n 0, 1) := by decide +kernel
theorem dX8_says_29 : decode cX8_says 29 = .ok (.getfield 19, 3) := by decide +kernel
theorem dX8_says_32 : decode cX8_says 32 = .ok (.iload_n 1, 1) := by decide +kernel
theorem dX8_says_33 : decode cX8_says 33 = .ok (.iload_n 2, 1) := by decide +kernel
theorem dX8_says_34 : decode cX8_says 34 = .ok (.invokevirtual 145, 3) := by decide +kernel
theorem dX8_says_37 : decode cX8_says 37 = .ok (.ifCond .eq 7, 3) := by decide +kernel
theorem dX8_says_40 : decode cX8_says 40 = .ok (.iconst 1, 1) := by decide +kernel
theorem dX8_says_41 : decode cX8_says 41 = .ok (.goto 4, 3) := by decide +kernel
theorem dX8_says_44 : decode cX8_says 44 = .ok (.iconst 0, 1) := by decide +kernel
theorem dX8_says_45 : decode cX8_says 45 = .ok (.ireturn, 1) := by decide +kernel
theorem dX8_worlds_0 : decode cX8_worlds 0 = .ok (.iload_n 1, 1) := by decide +kernel
theorem dX8_worlds_1 : decode cX8_worlds 1 = .ok (.iconst (-1), 1) := by decide +kernel
theorem dX8_worlds_2 : decode cX8_worlds 2 = .ok (.if_icmp .ge 10, 3) := by decide +kernel
theorem dX8_worlds_5 : decode cX8_worlds 5 = .ok (.aload_n 0, 1) := by decide +kernel
theorem dX8_worlds_6 : decode cX8_worlds 6 = .ok (.bipush (-4), 2) := by decide +kernel
theorem dX8_worlds_8 : decode cX8_worlds 8 = .ok (.invokevirtual 83, 3) := by decide +kernel
theorem dX8_worlds_11 : decode cX8_worlds 11 = .ok (.ireturn, 1) := by decide +kernel
theorem dX8_worlds_12 : decode cX8_worlds 12 = .ok (.iload_n 1, 1) := by decide +kernel
theorem dX8_worlds_13 : decode cX8_worlds 13 = .ok (.iconst (-1), 1) := by decide +kernel
theorem dX8_worlds_14 : decode cX8_worlds 14 = .ok (.if_icmp .ne 11, 3) := by decide +kernel
theorem dX8_worlds_17 : decode cX8_worlds 17 = .ok (.aload_n 0, 1) := by decide +kernel
theorem dX8_worlds_18 : decode cX8_worlds 18 = .ok (.getfield 42, 3) := by decide +kernel
theorem dX8_worlds_21 : decode cX8_worlds 21 = .ok (.getfield 149, 3) := by decide +kernel
theorem dX8_worlds_24 : decode cX8_worlds 24 = .ok (.ireturn, 1) := by decide +kernel
theorem dX8_worlds_25 : decode cX8_worlds 25 = .ok (.iload_n 1, 1) := by decide +kernel
theorem dX8_worlds_26 : decode cX8_worlds 26 = .ok (.aload_n 0, 1) := by decide +kernel
theorem dX8_worlds_27 : decode cX8_worlds 27 = .ok (.getfield 42, 3) := by decide +kernel
theorem dX8_worlds_30 : decode cX8_worlds 30 = .ok (.getfield 149, 3) := by decide +kernel
theorem dX8_worlds_33 : decode cX8_worlds 33 = .ok (.if_icmp .ge 15, 3) := by decide +kernel
theorem dX8_worlds_36 : decode cX8_worlds 36 = .ok (.aload_n 0, 1) := by decide +kernel
theorem dX8_worlds_37 : decode cX8_worlds 37 = .ok (.getfield 42, 3) := by decide +kernel
theorem dX8_worlds_40 : decode cX8_worlds 40 = .ok (.getfield 152, 3) := by decide +kernel
theorem dX8_worlds_43 : decode cX8_worlds 43 = .ok (.iload_n 1, 1) := by decide +kernel
theorem dX8_worlds_44 : decode cX8_worlds 44 = .ok (.iaload, 1) := by decide +kernel
theorem dX8_worlds_45 : decode cX8_worlds 45 = .ok (.goto 5, 3) := by decide +kernel
theorem dX8_worlds_48 : decode cX8_worlds 48 = .ok (.bipush (-9), 2) := by decide +kernel
theorem dX8_worlds_50 : decode cX8_worlds 50 = .ok (.ireturn, 1) := by decide +kernel
theorem dX8_fact_0 : decode cX8_fact 0 = .ok (.aload_n 0, 1) := by decide +kernel
theorem dX8_fact_1 : decode cX8_fact 1 = .ok (.getfield 19, 3) := by decide +kernel
theorem dX8_fact_4 : decode cX8_fact 4 = .ok (.iload_n 1, 1) := by decide +kernel
theorem dX8_fact_5 : decode cX8_fact 5 = .ok (.invokevirtual 155, 3) := by decide +kernel
theorem dX8_fact_8 : decode cX8_fact 8 = .ok (.ifCond .ne 9, 3) := by decide +kernel
theorem dX8_fact_11 : decode cX8_fact 11 = .ok (.aload_n 0, 1) := by decide +kernel
theorem dX8_fact_12 : decode cX8_fact 12 = .ok (.iconst (-1), 1) := by decide +kernel
theorem dX8_fact_13 : decode cX8_fact 13 = .ok (.invokevirtual 83, 3) := by decide +kernel
theorem dX8_fact_16 : decode cX8_fact 16 = .ok (.ireturn, 1) := by decide +kernel
theorem dX8_fact_17 : decode cX8_fact 17 = .ok (.aload_n 0, 1) := by decide +kernel
theorem dX8_fact_18 : decode cX8_fact 18 = .ok (.iload_n 1, 1) := by decide +kernel
theorem dX8_fact_19 : decode cX8_fact 19 = .ok (.iload_n 2, 1) := by decide +kernel
theorem dX8_fact_20 : decode cX8_fact 20 = .ok (.invokevirtual 158, 3) := by decide +kernel
theorem dX8_fact_23 : decode cX8_fact 23 = .ok (.ireturn, 1) := by decide +kernel
theorem dX8_way_0 : decode cX8_way 0 = .ok (.aload_n 0, 1) := by decide +kernel
theorem dX8_way_1 : decode cX8_way 1 = .ok (.getfield 19, 3) := by decide +kernel
theorem dX8_way_4 : decode cX8_way 4 = .ok (.iload_n 1, 1) := by decide +kernel
theorem dX8_way_5 : decode cX8_way 5 = .ok (.invokevirtual 115, 3) := by decide +kernel
theorem dX8_way_8 : decode cX8_way 8 = .ok (.ifCond .ne 9, 3) := by decide +kernel
theorem dX8_way_11 : decode cX8_way 11 = .ok (.aload_n 0, 1) := by decide +kernel
theorem dX8_way_12 : decode cX8_way 12 = .ok (.iconst (-1), 1) := by decide +kernel
theorem dX8_way_13 : decode cX8_way 13 = .ok (.invokevirtual 83, 3) := by decide +kernel
theorem dX8_way_16 : decode cX8_way 16 = .ok (.ireturn, 1) := by decide +kernel
theorem dX8_way_17 : decode cX8_way 17 = .ok (.aload_n 0, 1) := by decide +kernel
theorem dX8_way_18 : decode cX8_way 18 = .ok (.iconst 4, 1) := by decide +kernel
theorem dX8_way_19 : decode cX8_way 19 = .ok (.iload_n 1, 1) := by decide +kernel
theorem dX8_way_20 : decode cX8_way 20 = .ok (.iadd, 1) := by decide +kernel
theorem dX8_way_21 : decode cX8_way 21 = .ok (.iload_n 2, 1) := by decide +kernel
theorem dX8_way_22 : decode cX8_way 22 = .ok (.invokevirtual 158, 3) := by decide +kernel
theorem dX8_way_25 : decode cX8_way 25 = .ok (.ireturn, 1) := by decide +kernel
theorem dX8_forget_0 : decode cX8_forget 0 = .ok (.aload_n 0, 1) := by decide +kernel
theorem dX8_forget_1 : decode cX8_forget 1 = .ok (.getfield 32, 3) := by decide +kernel
theorem dX8_forget_4 : decode cX8_forget 4 = .ok (.getfield 162, 3) := by decide +kernel
theorem dX8_forget_7 : decode cX8_forget 7 = .ok (.ifCond .ne 10, 3) := by decide +kernel
theorem dX8_forget_10 : decode cX8_forget 10 = .ok (.aload_n 0, 1) := by decide +kernel
theorem dX8_forget_11 : decode cX8_forget 11 = .ok (.bipush (-3), 2) := by decide +kernel
theorem dX8_forget_13 : decode cX8_forget 13 = .ok (.invokevirtual 83, 3) := by decide +kernel
theorem dX8_forget_16 : decode cX8_forget 16 = .ok (.ireturn, 1) := by decide +kernel
theorem dX8_forget_17 : decode cX8_forget 17 = .ok (.aload_n 0, 1) := by decide +kernel
theorem dX8_forget_18 : decode cX8_forget 18 = .ok (.getfield 32, 3) := by decide +kernel
theorem dX8_forget_21 : decode cX8_forget 21 = .ok (.invokevirtual 163, 3) := by decide +kernel
theorem dX8_forget_24 : decode cX8_forget 24 = .ok (.aload_n 0, 1) := by decide +kernel
theorem dX8_forget_25 : decode cX8_forget 25 = .ok (.getfield 42, 3) := by decide +kernel
theorem dX8_forget_28 : decode cX8_forget 28 = .ok (.aload_n 0, 1) := by decide +kernel
theorem dX8_forget_29 : decode cX8_forget 29 = .ok (.getfield 32, 3) := by decide +kernel
theorem dX8_forget_32 : decode cX8_forget 32 = .ok (.invokevirtual 79, 3) := by decide +kernel
theorem dX8_forget_35 : decode cX8_forget 35 = .ok (.aload_n 0, 1) := by decide +kernel
theorem dX8_forget_36 : decode cX8_forget 36 = .ok (.getfield 32, 3) := by decide +kernel
theorem dX8_forget_39 : decode cX8_forget 39 = .ok (.getfield 162, 3) := by decide +kernel
theorem dX8_forget_42 : decode cX8_forget 42 = .ok (.ireturn, 1) := by decide +kernel
theorem dX8_sure_0 : decode cX8_sure 0 = .ok (.aload_n 0, 1) := by decide +kernel
theorem dX8_sure_1 : decode cX8_sure 1 = .ok (.getfield 42, 3) := by decide +kernel
theorem dX8_sure_4 : decode cX8_sure 4 = .ok (.iconst 0, 1) := by decide +kernel
theorem dX8_sure_5 : decode cX8_sure 5 = .ok (.iconst 0, 1) := by decide +kernel
theorem dX8_sure_6 : decode cX8_sure 6 = .ok (.invokevirtual 166, 3) := by decide +kernel
theorem dX8_sure_9 : decode cX8_sure 9 = .ok (.istore_n 2, 1) := by decide +kernel
theorem dX8_sure_10 : decode cX8_sure 10 = .ok (.aload_n 0, 1) := by decide +kernel
theorem dX8_sure_11 : decode cX8_sure 11 = .ok (.getfield 42, 3) := by decide +kernel
theorem dX8_sure_14 : decode cX8_sure 14 = .ok (.iconst 0, 1) := by decide +kernel
theorem dX8_sure_15 : decode cX8_sure 15 = .ok (.iconst 0, 1) := by decide +kernel
theorem dX8_sure_16 : decode cX8_sure 16 = .ok (.invokevirtual 169, 3) := by decide +kernel
theorem dX8_sure_19 : decode cX8_sure 19 = .ok (.istore_n 3, 1) := by decide +kernel
theorem dX8_sure_20 : decode cX8_sure 20 = .ok (.aload_n 0, 1) := by decide +kernel
theorem dX8_sure_21 : decode cX8_sure 21 = .ok (.getfield 42, 3) := by decide +kernel
theorem dX8_sure_24 : decode cX8_sure 24 = .ok (.getfield 172, 3) := by decide +kernel
theorem dX8_sure_27 : decode cX8_sure 27 = .ok (.iload_n 3, 1) := by decide +kernel
theorem dX8_sure_28 : decode cX8_sure 28 = .ok (.iconst (-1), 1) := by decide +kernel
theorem dX8_sure_29 : decode cX8_sure 29 = .ok (.ixor, 1) := by decide +kernel
theorem dX8_sure_30 : decode cX8_sure 30 = .ok (.iand, 1) := by decide +kernel
theorem dX8_sure_31 : decode cX8_sure 31 = .ok (.istore 4, 2) := by decide +kernel
theorem dX8_sure_33 : decode cX8_sure 33 = .ok (.iload_n 3, 1) := by decide +kernel
theorem dX8_sure_34 : decode cX8_sure 34 = .ok (.iload_n 2, 1) := by decide +kernel
theorem dX8_sure_35 : decode cX8_sure 35 = .ok (.iconst (-1), 1) := by decide +kernel
theorem dX8_sure_36 : decode cX8_sure 36 = .ok (.ixor, 1) := by decide +kernel
theorem dX8_sure_37 : decode cX8_sure 37 = .ok (.iand, 1) := by decide +kernel
theorem dX8_sure_38 : decode cX8_sure 38 = .ok (.istore 5, 2) := by decide +kernel
theorem dX8_sure_40 : decode cX8_sure 40 = .ok (.iload_n 1, 1) := by decide +kernel
theorem dX8_sure_41 : decode cX8_sure 41 = .ok (.tableswitch 70 0 5 #[39, 44, 50, 56, 60, 65], 39) := by decide +kernel
theorem dX8_sure_80 : decode cX8_sure 80 = .ok (.iload_n 2, 1) := by decide +kernel
theorem dX8_sure_81 : decode cX8_sure 81 = .ok (.bipush 15, 2) := by decide +kernel
theorem dX8_sure_83 : decode cX8_sure 83 = .ok (.iand, 1) := by decide +kernel
theorem dX8_sure_84 : decode cX8_sure 84 = .ok (.ireturn, 1) := by decide +kernel
theorem dX8_sure_85 : decode cX8_sure 85 = .ok (.iload 4, 2) := by decide +kernel
theorem dX8_sure_87 : decode cX8_sure 87 = .ok (.bipush 15, 2) := by decide +kernel
theorem dX8_sure_89 : decode cX8_sure 89 = .ok (.iand, 1) := by decide +kernel
theorem dX8_sure_90 : decode cX8_sure 90 = .ok (.ireturn, 1) := by decide +kernel
theorem dX8_sure_91 : decode cX8_sure 91 = .ok (.iload 5, 2) := by decide +kernel
theorem dX8_sure_93 : decode cX8_sure 93 = .ok (.bipush 15, 2) := by decide +kernel
theorem dX8_sure_95 : decode cX8_sure 95 = .ok (.iand, 1) := by decide +kernel
theorem dX8_sure_96 : decode cX8_sure 96 = .ok (.ireturn, 1) := by decide +kernel
theorem dX8_sure_97 : decode cX8_sure 97 = .ok (.iload_n 2, 1) := by decide +kernel
theorem dX8_sure_98 : decode cX8_sure 98 = .ok (.iconst 4, 1) := by decide +kernel
theorem dX8_sure_99 : decode cX8_sure 99 = .ok (.ishr, 1) := by decide +kernel
theorem dX8_sure_100 : decode cX8_sure 100 = .ok (.ireturn, 1) := by decide +kernel
theorem dX8_sure_101 : decode cX8_sure 101 = .ok (.iload 4, 2) := by decide +kernel
theorem dX8_sure_103 : decode cX8_sure 103 = .ok (.iconst 4, 1) := by decide +kernel
theorem dX8_sure_104 : decode cX8_sure 104 = .ok (.ishr, 1) := by decide +kernel
theorem dX8_sure_105 : decode cX8_sure 105 = .ok (.ireturn, 1) := by decide +kernel
theorem dX8_sure_106 : decode cX8_sure 106 = .ok (.iload 5, 2) := by decide +kernel
theorem dX8_sure_108 : decode cX8_sure 108 = .ok (.iconst 4, 1) := by decide +kernel
theorem dX8_sure_109 : decode cX8_sure 109 = .ok (.ishr, 1) := by decide +kernel
theorem dX8_sure_110 : decode cX8_sure 110 = .ok (.ireturn, 1) := by decide +kernel
theorem dX8_sure_111 : decode cX8_sure 111 = .ok (.aload_n 0, 1) := by decide +kernel
theorem dX8_sure_112 : decode cX8_sure 112 = .ok (.bipush (-2), 2) := by decide +kernel
theorem dX8_sure_114 : decode cX8_sure 114 = .ok (.invokevirtual 83, 3) := by decide +kernel
theorem dX8_sure_117 : decode cX8_sure 117 = .ok (.ireturn, 1) := by decide +kernel
theorem dX8_proof_0 : decode cX8_proof 0 = .ok (.aload_n 0, 1) := by decide +kernel
theorem dX8_proof_1 : decode cX8_proof 1 = .ok (.getfield 42, 3) := by decide +kernel
theorem dX8_proof_4 : decode cX8_proof 4 = .ok (.getfield 149, 3) := by decide +kernel
theorem dX8_proof_7 : decode cX8_proof 7 = .ok (.ifCond .le 7, 3) := by decide +kernel
theorem dX8_proof_10 : decode cX8_proof 10 = .ok (.iconst 0, 1) := by decide +kernel
theorem dX8_proof_11 : decode cX8_proof 11 = .ok (.goto 18, 3) := by decide +kernel
theorem dX8_proof_14 : decode cX8_proof 14 = .ok (.aload_n 0, 1) := by decide +kernel
theorem dX8_proof_15 : decode cX8_proof 15 = .ok (.getfield 49, 3) := by decide +kernel
theorem dX8_proof_18 : decode cX8_proof 18 = .ok (.aload_n 0, 1) := by decide +kernel
theorem dX8_proof_19 : decode cX8_proof 19 = .ok (.getfield 42, 3) := by decide +kernel
theorem dX8_proof_22 : decode cX8_proof 22 = .ok (.aload_n 0, 1) := by decide +kernel
theorem dX8_proof_23 : decode cX8_proof 23 = .ok (.getfield 32, 3) := by decide +kernel
theorem dX8_proof_26 : decode cX8_proof 26 = .ok (.invokevirtual 175, 3) := by decide +kernel
theorem dX8_proof_29 : decode cX8_proof 29 = .ok (.ireturn, 1) := by decide +kernel
theorem dX8_tells_0 : decode cX8_tells 0 = .ok (.aload_n 0, 1) := by decide +kernel
theorem dX8_tells_1 : decode cX8_tells 1 = .ok (.getfield 19, 3) := by decide +kernel
theorem dX8_tells_4 : decode cX8_tells 4 = .ok (.iload_n 1, 1) := by decide +kernel
theorem dX8_tells_5 : decode cX8_tells 5 = .ok (.invokevirtual 115, 3) := by decide +kernel
theorem dX8_tells_8 : decode cX8_tells 8 = .ok (.ifCond .ne 9, 3) := by decide +kernel
theorem dX8_tells_11 : decode cX8_tells 11 = .ok (.aload_n 0, 1) := by decide +kernel
theorem dX8_tells_12 : decode cX8_tells 12 = .ok (.iconst (-1), 1) := by decide +kernel
theorem dX8_tells_13 : decode cX8_tells 13 = .ok (.invokevirtual 83, 3) := by decide +kernel
theorem dX8_tells_16 : decode cX8_tells 16 = .ok (.ireturn, 1) := by decide +kernel
theorem dX8_tells_17 : decode cX8_tells 17 = .ok (.iload_n 2, 1) := by decide +kernel
theorem dX8_tells_18 : decode cX8_tells 18 = .ok (.ifCond .eq 15, 3) := by decide +kernel
theorem dX8_tells_21 : decode cX8_tells 21 = .ok (.iload_n 2, 1) := by decide +kernel
theorem dX8_tells_22 : decode cX8_tells 22 = .ok (.iconst 1, 1) := by decide +kernel
theorem dX8_tells_23 : decode cX8_tells 23 = .ok (.if_icmp .eq 10, 3) := by decide +kernel
theorem dX8_tells_26 : decode cX8_tells 26 = .ok (.aload_n 0, 1) := by decide +kernel
theorem dX8_tells_27 : decode cX8_tells 27 = .ok (.bipush (-2), 2) := by decide +kernel
theorem dX8_tells_29 : decode cX8_tells 29 = .ok (.invokevirtual 83, 3) := by decide +kernel
theorem dX8_tells_32 : decode cX8_tells 32 = .ok (.ireturn, 1) := by decide +kernel
theorem dX8_tells_33 : decode cX8_tells 33 = .ok (.iconst 1, 1) := by decide +kernel
theorem dX8_tells_34 : decode cX8_tells 34 = .ok (.iconst 4, 1) := by decide +kernel
theorem dX8_tells_35 : decode cX8_tells 35 = .ok (.iload_n 1, 1) := by decide +kernel
theorem dX8_tells_36 : decode cX8_tells 36 = .ok (.iadd, 1) := by decide +kernel
theorem dX8_tells_37 : decode cX8_tells 37 = .ok (.ishl, 1) := by decide +kernel
theorem dX8_tells_38 : decode cX8_tells 38 = .ok (.istore_n 3, 1) := by decide +kernel
theorem dX8_tells_39 : decode cX8_tells 39 = .ok (.aload_n 0, 1) := by decide +kernel
theorem dX8_tells_40 : decode cX8_tells 40 = .ok (.getfield 42, 3) := by decide +kernel
theorem dX8_tells_43 : decode cX8_tells 43 = .ok (.iconst 0, 1) := by decide +kernel
theorem dX8_tells_44 : decode cX8_tells 44 = .ok (.iconst 0, 1) := by decide +kernel
theorem dX8_tells_45 : decode cX8_tells 45 = .ok (.invokevirtual 179, 3) := by decide +kernel
theorem dX8_tells_48 : decode cX8_tells 48 = .ok (.istore 4, 2) := by decide +kernel
theorem dX8_tells_50 : decode cX8_tells 50 = .ok (.iload_n 2, 1) := by decide +kernel
theorem dX8_tells_51 : decode cX8_tells 51 = .ok (.iconst 1, 1) := by decide +kernel
theorem dX8_tells_52 : decode cX8_tells 52 = .ok (.if_icmp .ne 15, 3) := by decide +kernel
theorem dX8_tells_55 : decode cX8_tells 55 = .ok (.aload_n 0, 1) := by decide +kernel
theorem dX8_tells_56 : decode cX8_tells 56 = .ok (.getfield 42, 3) := by decide +kernel
theorem dX8_tells_59 : decode cX8_tells 59 = .ok (.iload_n 3, 1) := by decide +kernel
theorem dX8_tells_60 : decode cX8_tells 60 = .ok (.iconst 0, 1) := by decide +kernel
theorem dX8_tells_61 : decode cX8_tells 61 = .ok (.invokevirtual 179, 3) := by decide +kernel
theorem dX8_tells_64 : decode cX8_tells 64 = .ok (.goto 12, 3) := by decide +kernel
theorem dX8_tells_67 : decode cX8_tells 67 = .ok (.aload_n 0, 1) := by decide +kernel
theorem dX8_tells_68 : decode cX8_tells 68 = .ok (.getfield 42, 3) := by decide +kernel
theorem dX8_tells_71 : decode cX8_tells 71 = .ok (.iconst 0, 1) := by decide +kernel
theorem dX8_tells_72 : decode cX8_tells 72 = .ok (.iload_n 3, 1) := by decide +kernel
theorem dX8_tells_73 : decode cX8_tells 73 = .ok (.invokevirtual 179, 3) := by decide +kernel
theorem dX8_tells_76 : decode cX8_tells 76 = .ok (.istore 5, 2) := by decide +kernel
theorem dX8_tells_78 : decode cX8_tells 78 = .ok (.iload 4, 2) := by decide +kernel
theorem dX8_tells_80 : decode cX8_tells 80 = .ok (.iload 5, 2) := by decide +kernel
theorem dX8_tells_82 : decode cX8_tells 82 = .ok (.iconst (-1), 1) := by decide +kernel
theorem dX8_tells_83 : decode cX8_tells 83 = .ok (.ixor, 1) := by decide +kernel
theorem dX8_tells_84 : decode cX8_tells 84 = .ok (.iand, 1) := by decide +kernel
theorem dX8_tells_85 : decode cX8_tells 85 = .ok (.ireturn, 1) := by decide +kernel
theorem dX8_rings_0 : decode cX8_rings 0 = .ok (.iconst 0, 1) := by decide +kernel
theorem dX8_rings_1 : decode cX8_rings 1 = .ok (.istore_n 1, 1) := by decide +kernel
theorem dX8_rings_2 : decode cX8_rings 2 = .ok (.iconst 0, 1) := by decide +kernel
theorem dX8_rings_3 : decode cX8_rings 3 = .ok (.istore_n 2, 1) := by decide +kernel
theorem dX8_rings_4 : decode cX8_rings 4 = .ok (.iload_n 2, 1) := by decide +kernel
theorem dX8_rings_5 : decode cX8_rings 5 = .ok (.aload_n 0, 1) := by decide +kernel
theorem dX8_rings_6 : decode cX8_rings 6 = .ok (.getfield 19, 3) := by decide +kernel
theorem dX8_rings_9 : decode cX8_rings 9 = .ok (.getfield 182, 3) := by decide +kernel
theorem dX8_rings_12 : decode cX8_rings 12 = .ok (.if_icmp .ge 26, 3) := by decide +kernel
theorem dX8_rings_15 : decode cX8_rings 15 = .ok (.aload_n 0, 1) := by decide +kernel
theorem dX8_rings_16 : decode cX8_rings 16 = .ok (.getfield 19, 3) := by decide +kernel
theorem dX8_rings_19 : decode cX8_rings 19 = .ok (.iload_n 2, 1) := by decide +kernel
theorem dX8_rings_20 : decode cX8_rings 20 = .ok (.invokevirtual 185, 3) := by decide +kernel
theorem dX8_rings_23 : decode cX8_rings 23 = .ok (.ifCond .eq 9, 3) := by decide +kernel
theorem dX8_rings_26 : decode cX8_rings 26 = .ok (.iload_n 1, 1) := by decide +kernel
theorem dX8_rings_27 : decode cX8_rings 27 = .ok (.iconst 1, 1) := by decide +kernel
theorem dX8_rings_28 : decode cX8_rings 28 = .ok (.iload_n 2, 1) := by decide +kernel
theorem dX8_rings_29 : decode cX8_rings 29 = .ok (.ishl, 1) := by decide +kernel
theorem dX8_rings_30 : decode cX8_rings 30 = .ok (.ior, 1) := by decide +kernel
theorem dX8_rings_31 : decode cX8_rings 31 = .ok (.istore_n 1, 1) := by decide +kernel
theorem dX8_rings_32 : decode cX8_rings 32 = .ok (.iinc 2 1, 3) := by decide +kernel
theorem dX8_rings_35 : decode cX8_rings 35 = .ok (.goto (-31), 3) := by decide +kernel
theorem dX8_rings_38 : decode cX8_rings 38 = .ok (.iload_n 1, 1) := by decide +kernel
theorem dX8_rings_39 : decode cX8_rings 39 = .ok (.ireturn, 1) := by decide +kernel
theorem dX8_joking_0 : decode cX8_joking 0 = .ok (.iload_n 1, 1) := by decide +kernel
theorem dX8_joking_1 : decode cX8_joking 1 = .ok (.ifCond .ge 10, 3) := by decide +kernel
theorem dX8_joking_4 : decode cX8_joking 4 = .ok (.aload_n 0, 1) := by decide +kernel
theorem dX8_joking_5 : decode cX8_joking 5 = .ok (.bipush (-4), 2) := by decide +kernel
theorem dX8_joking_7 : decode cX8_joking 7 = .ok (.invokevirtual 83, 3) := by decide +kernel
theorem dX8_joking_10 : decode cX8_joking 10 = .ok (.ireturn, 1) := by decide +kernel
theorem dX8_joking_11 : decode cX8_joking 11 = .ok (.iload_n 1, 1) := by decide +kernel
theorem dX8_joking_12 : decode cX8_joking 12 = .ok (.iconst 3, 1) := by decide +kernel
theorem dX8_joking_13 : decode cX8_joking 13 = .ok (.if_icmp .le 10, 3) := by decide +kernel
theorem dX8_joking_16 : decode cX8_joking 16 = .ok (.aload_n 0, 1) := by decide +kernel
theorem dX8_joking_17 : decode cX8_joking 17 = .ok (.bipush (-6), 2) := by decide +kernel
theorem dX8_joking_19 : decode cX8_joking 19 = .ok (.invokevirtual 83, 3) := by decide +kernel
theorem dX8_joking_22 : decode cX8_joking 22 = .ok (.ireturn, 1) := by decide +kernel
theorem dX8_joking_23 : decode cX8_joking 23 = .ok (.aload_n 0, 1) := by decide +kernel
theorem dX8_joking_24 : decode cX8_joking 24 = .ok (.getfield 42, 3) := by decide +kernel
theorem dX8_joking_27 : decode cX8_joking 27 = .ok (.iload_n 1, 1) := by decide +kernel
theorem dX8_joking_28 : decode cX8_joking 28 = .ok (.invokevirtual 188, 3) := by decide +kernel
theorem dX8_joking_31 : decode cX8_joking 31 = .ok (.ireturn, 1) := by decide +kernel
theorem dX8_bears_0 : decode cX8_bears 0 = .ok (.aload_n 0, 1) := by decide +kernel
theorem dX8_bears_1 : decode cX8_bears 1 = .ok (.getfield 19, 3) := by decide +kernel
theorem dX8_bears_4 : decode cX8_bears 4 = .ok (.iload_n 1, 1) := by decide +kernel
theorem dX8_bears_5 : decode cX8_bears 5 = .ok (.invokevirtual 155, 3) := by decide +kernel
theorem dX8_bears_8 : decode cX8_bears 8 = .ok (.ifCond .ne 9, 3) := by decide +kernel
theorem dX8_bears_11 : decode cX8_bears 11 = .ok (.aload_n 0, 1) := by decide +kernel
theorem dX8_bears_12 : decode cX8_bears 12 = .ok (.iconst (-1), 1) := by decide +kernel
theorem dX8_bears_13 : decode cX8_bears 13 = .ok (.invokevirtual 83, 3) := by decide +kernel
theorem dX8_bears_16 : decode cX8_bears 16 = .ok (.ireturn, 1) := by decide +kernel
theorem dX8_bears_17 : decode cX8_bears 17 = .ok (.aload_n 0, 1) := by decide +kernel
theorem dX8_bears_18 : decode cX8_bears 18 = .ok (.getfield 42, 3) := by decide +kernel
theorem dX8_bears_21 : decode cX8_bears 21 = .ok (.iload_n 1, 1) := by decide +kernel
theorem dX8_bears_22 : decode cX8_bears 22 = .ok (.iconst 1, 1) := by decide +kernel
theorem dX8_bears_23 : decode cX8_bears 23 = .ok (.invokevirtual 191, 3) := by decide +kernel
theorem dX8_bears_26 : decode cX8_bears 26 = .ok (.istore_n 2, 1) := by decide +kernel
theorem dX8_bears_27 : decode cX8_bears 27 = .ok (.aload_n 0, 1) := by decide +kernel
theorem dX8_bears_28 : decode cX8_bears 28 = .ok (.getfield 42, 3) := by decide +kernel
theorem dX8_bears_31 : decode cX8_bears 31 = .ok (.iload_n 1, 1) := by decide +kernel
theorem dX8_bears_32 : decode cX8_bears 32 = .ok (.iconst 0, 1) := by decide +kernel
theorem dX8_bears_33 : decode cX8_bears 33 = .ok (.invokevirtual 191, 3) := by decide +kernel
theorem dX8_bears_36 : decode cX8_bears 36 = .ok (.istore_n 3, 1) := by decide +kernel
theorem dX8_bears_37 : decode cX8_bears 37 = .ok (.iload_n 2, 1) := by decide +kernel
theorem dX8_bears_38 : decode cX8_bears 38 = .ok (.iload_n 3, 1) := by decide +kernel
theorem dX8_bears_39 : decode cX8_bears 39 = .ok (.invokestatic 195, 3) := by decide +kernel
theorem dX8_bears_42 : decode cX8_bears 42 = .ok (.istore 4, 2) := by decide +kernel
theorem dX8_bears_44 : decode cX8_bears 44 = .ok (.iload 4, 2) := by decide +kernel
theorem dX8_bears_46 : decode cX8_bears 46 = .ok (.ifCond .ne 8, 3) := by decide +kernel
theorem dX8_bears_49 : decode cX8_bears 49 = .ok (.bipush (-9), 2) := by decide +kernel
theorem dX8_bears_51 : decode cX8_bears 51 = .ok (.goto 12, 3) := by decide +kernel
theorem dX8_bears_54 : decode cX8_bears 54 = .ok (.iload 4, 2) := by decide +kernel
theorem dX8_bears_56 : decode cX8_bears 56 = .ok (.iconst 1, 1) := by decide +kernel
theorem dX8_bears_57 : decode cX8_bears 57 = .ok (.isub, 1) := by decide +kernel
theorem dX8_bears_58 : decode cX8_bears 58 = .ok (.bipush 6, 2) := by decide +kernel
theorem dX8_bears_60 : decode cX8_bears 60 = .ok (.invokestatic 200, 3) := by decide +kernel
theorem dX8_bears_63 : decode cX8_bears 63 = .ok (.ireturn, 1) := by decide +kernel
theorem dX8_fewest_0 : decode cX8_fewest 0 = .ok (.aload_n 0, 1) := by decide +kernel
theorem dX8_fewest_1 : decode cX8_fewest 1 = .ok (.getfield 19, 3) := by decide +kernel
theorem dX8_fewest_4 : decode cX8_fewest 4 = .ok (.iload_n 1, 1) := by decide +kernel
theorem dX8_fewest_5 : decode cX8_fewest 5 = .ok (.invokevirtual 155, 3) := by decide +kernel
theorem dX8_fewest_8 : decode cX8_fewest 8 = .ok (.ifCond .ne 9, 3) := by decide +kernel
theorem dX8_fewest_11 : decode cX8_fewest 11 = .ok (.aload_n 0, 1) := by decide +kernel
theorem dX8_fewest_12 : decode cX8_fewest 12 = .ok (.iconst (-1), 1) := by decide +kernel
theorem dX8_fewest_13 : decode cX8_fewest 13 = .ok (.invokevirtual 83, 3) := by decide +kernel
theorem dX8_fewest_16 : decode cX8_fewest 16 = .ok (.ireturn, 1) := by decide +kernel
theorem dX8_fewest_17 : decode cX8_fewest 17 = .ok (.iload_n 2, 1) := by decide +kernel
theorem dX8_fewest_18 : decode cX8_fewest 18 = .ok (.ifCond .eq 15, 3) := by decide +kernel
theorem dX8_fewest_21 : decode cX8_fewest 21 = .ok (.iload_n 2, 1) := by decide +kernel
theorem dX8_fewest_22 : decode cX8_fewest 22 = .ok (.iconst 1, 1) := by decide +kernel
theorem dX8_fewest_23 : decode cX8_fewest 23 = .ok (.if_icmp .eq 10, 3) := by decide +kernel
theorem dX8_fewest_26 : decode cX8_fewest 26 = .ok (.aload_n 0, 1) := by decide +kernel
theorem dX8_fewest_27 : decode cX8_fewest 27 = .ok (.bipush (-2), 2) := by decide +kernel
theorem dX8_fewest_29 : decode cX8_fewest 29 = .ok (.invokevirtual 83, 3) := by decide +kernel
theorem dX8_fewest_32 : decode cX8_fewest 32 = .ok (.ireturn, 1) := by decide +kernel
theorem dX8_fewest_33 : decode cX8_fewest 33 = .ok (.aload_n 0, 1) := by decide +kernel
theorem dX8_fewest_34 : decode cX8_fewest 34 = .ok (.getfield 42, 3) := by decide +kernel
theorem dX8_fewest_37 : decode cX8_fewest 37 = .ok (.iload_n 1, 1) := by decide +kernel
theorem dX8_fewest_38 : decode cX8_fewest 38 = .ok (.aload_n 0, 1) := by decide +kernel
theorem dX8_fewest_39 : decode cX8_fewest 39 = .ok (.getfield 19, 3) := by decide +kernel
theorem dX8_fewest_42 : decode cX8_fewest 42 = .ok (.invokevirtual 203, 3) := by decide +kernel
theorem dX8_fewest_45 : decode cX8_fewest 45 = .ok (.invokevirtual 206, 3) := by decide +kernel
theorem dX8_fewest_48 : decode cX8_fewest 48 = .ok (.istore_n 3, 1) := by decide +kernel
theorem dX8_fewest_49 : decode cX8_fewest 49 = .ok (.iload_n 3, 1) := by decide +kernel
theorem dX8_fewest_50 : decode cX8_fewest 50 = .ok (.bipush (-9), 2) := by decide +kernel
theorem dX8_fewest_52 : decode cX8_fewest 52 = .ok (.if_icmp .ne 6, 3) := by decide +kernel
theorem dX8_fewest_55 : decode cX8_fewest 55 = .ok (.bipush (-9), 2) := by decide +kernel
theorem dX8_fewest_57 : decode cX8_fewest 57 = .ok (.ireturn, 1) := by decide +kernel
theorem dX8_fewest_58 : decode cX8_fewest 58 = .ok (.iload_n 2, 1) := by decide +kernel
theorem dX8_fewest_59 : decode cX8_fewest 59 = .ok (.ifCond .ne 10, 3) := by decide +kernel
theorem dX8_fewest_62 : decode cX8_fewest 62 = .ok (.iload_n 3, 1) := by decide +kernel
theorem dX8_fewest_63 : decode cX8_fewest 63 = .ok (.invokestatic 209, 3) := by decide +kernel
theorem dX8_fewest_66 : decode cX8_fewest 66 = .ok (.goto 4, 3) := by decide +kernel
theorem dX8_fewest_69 : decode cX8_fewest 69 = .ok (.iload_n 3, 1) := by decide +kernel
theorem dX8_fewest_70 : decode cX8_fewest 70 = .ok (.ireturn, 1) := by decide +kernel
theorem dX8_together_0 : decode cX8_together 0 = .ok (.iload_n 1, 1) := by decide +kernel
theorem dX8_together_1 : decode cX8_together 1 = .ok (.ifCond .lt 17, 3) := by decide +kernel
theorem dX8_together_4 : decode cX8_together 4 = .ok (.iload_n 1, 1) := by decide +kernel
theorem dX8_together_5 : decode cX8_together 5 = .ok (.aload_n 0, 1) := by decide +kernel
theorem dX8_together_6 : decode cX8_together 6 = .ok (.getfield 19, 3) := by decide +kernel
theorem dX8_together_9 : decode cX8_together 9 = .ok (.invokevirtual 203, 3) := by decide +kernel
theorem dX8_together_12 : decode cX8_together 12 = .ok (.iconst (-1), 1) := by decide +kernel
theorem dX8_together_13 : decode cX8_together 13 = .ok (.ixor, 1) := by decide +kernel
theorem dX8_together_14 : decode cX8_together 14 = .ok (.iand, 1) := by decide +kernel
theorem dX8_together_15 : decode cX8_together 15 = .ok (.ifCond .eq 9, 3) := by decide +kernel
theorem dX8_together_18 : decode cX8_together 18 = .ok (.aload_n 0, 1) := by decide +kernel
theorem dX8_together_19 : decode cX8_together 19 = .ok (.iconst (-1), 1) := by decide +kernel
theorem dX8_together_20 : decode cX8_together 20 = .ok (.invokevirtual 83, 3) := by decide +kernel
theorem dX8_together_23 : decode cX8_together 23 = .ok (.ireturn, 1) := by decide +kernel
theorem dX8_together_24 : decode cX8_together 24 = .ok (.iconst 0, 1) := by decide +kernel
theorem dX8_together_25 : decode cX8_together 25 = .ok (.istore_n 2, 1) := by decide +kernel
theorem dX8_together_26 : decode cX8_together 26 = .ok (.iconst 0, 1) := by decide +kernel
theorem dX8_together_27 : decode cX8_together 27 = .ok (.istore_n 3, 1) := by decide +kernel
theorem dX8_together_28 : decode cX8_together 28 = .ok (.iload_n 3, 1) := by decide +kernel
theorem dX8_together_29 : decode cX8_together 29 = .ok (.aload_n 0, 1) := by decide +kernel
theorem dX8_together_30 : decode cX8_together 30 = .ok (.getfield 19, 3) := by decide +kernel
theorem dX8_together_33 : decode cX8_together 33 = .ok (.getfield 214, 3) := by decide +kernel
theorem dX8_together_36 : decode cX8_together 36 = .ok (.if_icmp .ge 27, 3) := by decide +kernel
theorem dX8_together_39 : decode cX8_together 39 = .ok (.aload_n 0, 1) := by decide +kernel
theorem dX8_together_40 : decode cX8_together 40 = .ok (.getfield 42, 3) := by decide +kernel
theorem dX8_together_43 : decode cX8_together 43 = .ok (.iload_n 3, 1) := by decide +kernel
theorem dX8_together_44 : decode cX8_together 44 = .ok (.iload_n 1, 1) := by decide +kernel
theorem dX8_together_45 : decode cX8_together 45 = .ok (.invokevirtual 217, 3) := by decide +kernel
theorem dX8_together_48 : decode cX8_together 48 = .ok (.ifCond .eq 9, 3) := by decide +kernel
theorem dX8_together_51 : decode cX8_together 51 = .ok (.iload_n 2, 1) := by decide +kernel
theorem dX8_together_52 : decode cX8_together 52 = .ok (.iconst 1, 1) := by decide +kernel
theorem dX8_together_53 : decode cX8_together 53 = .ok (.iload_n 3, 1) := by decide +kernel
theorem dX8_together_54 : decode cX8_together 54 = .ok (.ishl, 1) := by decide +kernel
theorem dX8_together_55 : decode cX8_together 55 = .ok (.ior, 1) := by decide +kernel
theorem dX8_together_56 : decode cX8_together 56 = .ok (.istore_n 2, 1) := by decide +kernel
theorem dX8_together_57 : decode cX8_together 57 = .ok (.iinc 3 1, 3) := by decide +kernel
theorem dX8_together_60 : decode cX8_together 60 = .ok (.goto (-32), 3) := by decide +kernel
theorem dX8_together_63 : decode cX8_together 63 = .ok (.iload_n 2, 1) := by decide +kernel
theorem dX8_together_64 : decode cX8_together 64 = .ok (.ireturn, 1) := by decide +kernel
theorem dX8_go_0 : decode cX8_go 0 = .ok (.aload_n 0, 1) := by decide +kernel
theorem dX8_go_1 : decode cX8_go 1 = .ok (.getfield 19, 3) := by decide +kernel
theorem dX8_go_4 : decode cX8_go 4 = .ok (.iload_n 1, 1) := by decide +kernel
theorem dX8_go_5 : decode cX8_go 5 = .ok (.invokevirtual 130, 3) := by decide +kernel
theorem dX8_go_8 : decode cX8_go 8 = .ok (.ifCond .ne 9, 3) := by decide +kernel
theorem dX8_go_11 : decode cX8_go 11 = .ok (.aload_n 0, 1) := by decide +kernel
theorem dX8_go_12 : decode cX8_go 12 = .ok (.iconst (-1), 1) := by decide +kernel
theorem dX8_go_13 : decode cX8_go 13 = .ok (.invokevirtual 83, 3) := by decide +kernel
theorem dX8_go_16 : decode cX8_go 16 = .ok (.ireturn, 1) := by decide +kernel
theorem dX8_go_17 : decode cX8_go 17 = .ok (.iload_n 2, 1) := by decide +kernel
theorem dX8_go_18 : decode cX8_go 18 = .ok (.ifCond .eq 15, 3) := by decide +kernel
theorem dX8_go_21 : decode cX8_go 21 = .ok (.iload_n 2, 1) := by decide +kernel
theorem dX8_go_22 : decode cX8_go 22 = .ok (.iconst 1, 1) := by decide +kernel
theorem dX8_go_23 : decode cX8_go 23 = .ok (.if_icmp .eq 10, 3) := by decide +kernel
theorem dX8_go_26 : decode cX8_go 26 = .ok (.aload_n 0, 1) := by decide +kernel
theorem dX8_go_27 : decode cX8_go 27 = .ok (.bipush (-2), 2) := by decide +kernel
theorem dX8_go_29 : decode cX8_go 29 = .ok (.invokevirtual 83, 3) := by decide +kernel
theorem dX8_go_32 : decode cX8_go 32 = .ok (.ireturn, 1) := by decide +kernel
theorem dX8_go_33 : decode cX8_go 33 = .ok (.aload_n 0, 1) := by decide +kernel
theorem dX8_go_34 : decode cX8_go 34 = .ok (.getfield 19, 3) := by decide +kernel
theorem dX8_go_37 : decode cX8_go 37 = .ok (.invokevirtual 220, 3) := by decide +kernel
theorem dX8_go_40 : decode cX8_go 40 = .ok (.ifCond .ne 10, 3) := by decide +kernel
theorem dX8_go_43 : decode cX8_go 43 = .ok (.aload_n 0, 1) := by decide +kernel
theorem dX8_go_44 : decode cX8_go 44 = .ok (.bipush (-3), 2) := by decide +kernel
theorem dX8_go_46 : decode cX8_go 46 = .ok (.invokevirtual 83, 3) := by decide +kernel
theorem dX8_go_49 : decode cX8_go 49 = .ok (.ireturn, 1) := by decide +kernel
theorem dX8_go_50 : decode cX8_go 50 = .ok (.aload_n 0, 1) := by decide +kernel
theorem dX8_go_51 : decode cX8_go 51 = .ok (.getfield 42, 3) := by decide +kernel
theorem dX8_go_54 : decode cX8_go 54 = .ok (.getfield 149, 3) := by decide +kernel
theorem dX8_go_57 : decode cX8_go 57 = .ok (.ifCond .ne 14, 3) := by decide +kernel
theorem dX8_go_60 : decode cX8_go 60 = .ok (.iload_n 2, 1) := by decide +kernel
theorem dX8_go_61 : decode cX8_go 61 = .ok (.ifCond .ne 7, 3) := by decide +kernel
theorem dX8_go_64 : decode cX8_go 64 = .ok (.iconst 0, 1) := by decide +kernel
theorem dX8_go_65 : decode cX8_go 65 = .ok (.goto 5, 3) := by decide +kernel
theorem dX8_go_68 : decode cX8_go 68 = .ok (.bipush (-9), 2) := by decide +kernel
theorem dX8_go_70 : decode cX8_go 70 = .ok (.ireturn, 1) := by decide +kernel
theorem dX8_go_71 : decode cX8_go 71 = .ok (.aload_n 0, 1) := by decide +kernel
theorem dX8_go_72 : decode cX8_go 72 = .ok (.getfield 56, 3) := by decide +kernel
theorem dX8_go_75 : decode cX8_go 75 = .ok (.aload_n 0, 1) := by decide +kernel
theorem dX8_go_76 : decode cX8_go 76 = .ok (.getfield 19, 3) := by decide +kernel
theorem dX8_go_79 : decode cX8_go 79 = .ok (.aload_n 0, 1) := by decide +kernel
theorem dX8_go_80 : decode cX8_go 80 = .ok (.getfield 42, 3) := by decide +kernel
theorem dX8_go_83 : decode cX8_go 83 = .ok (.invokevirtual 224, 3) := by decide +kernel
theorem dX8_go_86 : decode cX8_go 86 = .ok (.iload_n 2, 1) := by decide +kernel
theorem dX8_go_87 : decode cX8_go 87 = .ok (.ifCond .ne 14, 3) := by decide +kernel
theorem dX8_go_90 : decode cX8_go 90 = .ok (.aload_n 0, 1) := by decide +kernel
theorem dX8_go_91 : decode cX8_go 91 = .ok (.getfield 56, 3) := by decide +kernel
theorem dX8_go_94 : decode cX8_go 94 = .ok (.iload_n 1, 1) := by decide +kernel
theorem dX8_go_95 : decode cX8_go 95 = .ok (.invokevirtual 227, 3) := by decide +kernel
theorem dX8_go_98 : decode cX8_go 98 = .ok (.goto 24, 3) := by decide +kernel
theorem dX8_go_101 : decode cX8_go 101 = .ok (.aload_n 0, 1) := by decide +kernel
theorem dX8_go_102 : decode cX8_go 102 = .ok (.getfield 56, 3) := by decide +kernel
theorem dX8_go_105 : decode cX8_go 105 = .ok (.aload_n 0, 1) := by decide +kernel
theorem dX8_go_106 : decode cX8_go 106 = .ok (.getfield 19, 3) := by decide +kernel
theorem dX8_go_109 : decode cX8_go 109 = .ok (.iload_n 1, 1) := by decide +kernel
theorem dX8_go_110 : decode cX8_go 110 = .ok (.aload_n 0, 1) := by decide +kernel
theorem dX8_go_111 : decode cX8_go 111 = .ok (.getfield 42, 3) := by decide +kernel
theorem dX8_go_114 : decode cX8_go 114 = .ok (.getfield 152, 3) := by decide +kernel
theorem dX8_go_117 : decode cX8_go 117 = .ok (.iconst 0, 1) := by decide +kernel
theorem dX8_go_118 : decode cX8_go 118 = .ok (.iaload, 1) := by decide +kernel
theorem dX8_go_119 : decode cX8_go 119 = .ok (.invokevirtual 230, 3) := by decide +kernel
theorem dX8_go_122 : decode cX8_go 122 = .ok (.ireturn, 1) := by decide +kernel
theorem dX8_row_0 : decode cX8_row 0 = .ok (.aload_n 0, 1) := by decide +kernel
theorem dX8_row_1 : decode cX8_row 1 = .ok (.getfield 19, 3) := by decide +kernel
theorem dX8_row_4 : decode cX8_row 4 = .ok (.iload_n 1, 1) := by decide +kernel
theorem dX8_row_5 : decode cX8_row 5 = .ok (.invokevirtual 115, 3) := by decide +kernel
theorem dX8_row_8 : decode cX8_row 8 = .ok (.ifCond .ne 9, 3) := by decide +kernel
theorem dX8_row_11 : decode cX8_row 11 = .ok (.aload_n 0, 1) := by decide +kernel
theorem dX8_row_12 : decode cX8_row 12 = .ok (.iconst (-1), 1) := by decide +kernel
theorem dX8_row_13 : decode cX8_row 13 = .ok (.invokevirtual 83, 3) := by decide +kernel
theorem dX8_row_16 : decode cX8_row 16 = .ok (.ireturn, 1) := by decide +kernel
theorem dX8_row_17 : decode cX8_row 17 = .ok (.aload_n 0, 1) := by decide +kernel
theorem dX8_row_18 : decode cX8_row 18 = .ok (.getfield 63, 3) := by decide +kernel
theorem dX8_row_21 : decode cX8_row 21 = .ok (.getfield 234, 3) := by decide +kernel
theorem dX8_row_24 : decode cX8_row 24 = .ok (.bipush 10, 2) := by decide +kernel
theorem dX8_row_26 : decode cX8_row 26 = .ok (.if_icmp .lt 10, 3) := by decide +kernel
theorem dX8_row_29 : decode cX8_row 29 = .ok (.aload_n 0, 1) := by decide +kernel
theorem dX8_row_30 : decode cX8_row 30 = .ok (.bipush (-6), 2) := by decide +kernel
theorem dX8_row_32 : decode cX8_row 32 = .ok (.invokevirtual 83, 3) := by decide +kernel
theorem dX8_row_35 : decode cX8_row 35 = .ok (.ireturn, 1) := by decide +kernel
theorem dX8_row_36 : decode cX8_row 36 = .ok (.aload_n 0, 1) := by decide +kernel
theorem dX8_row_37 : decode cX8_row 37 = .ok (.getfield 63, 3) := by decide +kernel
theorem dX8_row_40 : decode cX8_row 40 = .ok (.iload_n 1, 1) := by decide +kernel
theorem dX8_row_41 : decode cX8_row 41 = .ok (.invokevirtual 235, 3) := by decide +kernel
theorem dX8_row_44 : decode cX8_row 44 = .ok (.aload_n 0, 1) := by decide +kernel
theorem dX8_row_45 : decode cX8_row 45 = .ok (.getfield 63, 3) := by decide +kernel
theorem dX8_row_48 : decode cX8_row 48 = .ok (.getfield 234, 3) := by decide +kernel
theorem dX8_row_51 : decode cX8_row 51 = .ok (.ireturn, 1) := by decide +kernel
theorem dX8_book_0 : decode cX8_book 0 = .ok (.iload_n 1, 1) := by decide +kernel
theorem dX8_book_1 : decode cX8_book 1 = .ok (.ifCond .eq 15, 3) := by decide +kernel
theorem dX8_book_4 : decode cX8_book 4 = .ok (.iload_n 1, 1) := by decide +kernel
theorem dX8_book_5 : decode cX8_book 5 = .ok (.iconst 1, 1) := by decide +kernel
theorem dX8_book_6 : decode cX8_book 6 = .ok (.if_icmp .eq 10, 3) := by decide +kernel
theorem dX8_book_9 : decode cX8_book 9 = .ok (.aload_n 0, 1) := by decide +kernel
theorem dX8_book_10 : decode cX8_book 10 = .ok (.bipush (-2), 2) := by decide +kernel
theorem dX8_book_12 : decode cX8_book 12 = .ok (.invokevirtual 83, 3) := by decide +kernel
theorem dX8_book_15 : decode cX8_book 15 = .ok (.ireturn, 1) := by decide +kernel
theorem dX8_book_16 : decode cX8_book 16 = .ok (.aload_n 0, 1) := by decide +kernel
theorem dX8_book_17 : decode cX8_book 17 = .ok (.getfield 63, 3) := by decide +kernel
theorem dX8_book_20 : decode cX8_book 20 = .ok (.getfield 234, 3) := by decide +kernel
theorem dX8_book_23 : decode cX8_book 23 = .ok (.ifCond .ne 10, 3) := by decide +kernel
theorem dX8_book_26 : decode cX8_book 26 = .ok (.aload_n 0, 1) := by decide +kernel
theorem dX8_book_27 : decode cX8_book 27 = .ok (.bipush (-3), 2) := by decide +kernel
theorem dX8_book_29 : decode cX8_book 29 = .ok (.invokevirtual 83, 3) := by decide +kernel
theorem dX8_book_32 : decode cX8_book 32 = .ok (.ireturn, 1) := by decide +kernel
theorem dX8_book_33 : decode cX8_book 33 = .ok (.aload_n 0, 1) := by decide +kernel
theorem dX8_book_34 : decode cX8_book 34 = .ok (.getfield 63, 3) := by decide +kernel
theorem dX8_book_37 : decode cX8_book 37 = .ok (.aload_n 0, 1) := by decide +kernel
theorem dX8_book_38 : decode cX8_book 38 = .ok (.getfield 19, 3) := by decide +kernel
theorem dX8_book_41 : decode cX8_book 41 = .ok (.invokevirtual 236, 3) := by decide +kernel
theorem dX8_book_44 : decode cX8_book 44 = .ok (.iload_n 1, 1) := by decide +kernel
theorem dX8_book_45 : decode cX8_book 45 = .ok (.ifCond .ne 13, 3) := by decide +kernel
theorem dX8_book_48 : decode cX8_book 48 = .ok (.aload_n 0, 1) := by decide +kernel
theorem dX8_book_49 : decode cX8_book 49 = .ok (.getfield 63, 3) := by decide +kernel
theorem dX8_book_52 : decode cX8_book 52 = .ok (.invokevirtual 239, 3) := by decide +kernel
theorem dX8_book_55 : decode cX8_book 55 = .ok (.goto 10, 3) := by decide +kernel
theorem dX8_book_58 : decode cX8_book 58 = .ok (.aload_n 0, 1) := by decide +kernel
theorem dX8_book_59 : decode cX8_book 59 = .ok (.getfield 63, 3) := by decide +kernel
theorem dX8_book_62 : decode cX8_book 62 = .ok (.invokevirtual 242, 3) := by decide +kernel
theorem dX8_book_65 : decode cX8_book 65 = .ok (.istore_n 2, 1) := by decide +kernel
theorem dX8_book_66 : decode cX8_book 66 = .ok (.aload_n 0, 1) := by decide +kernel
theorem dX8_book_67 : decode cX8_book 67 = .ok (.getfield 63, 3) := by decide +kernel
theorem dX8_book_70 : decode cX8_book 70 = .ok (.invokevirtual 245, 3) := by decide +kernel
theorem dX8_book_73 : decode cX8_book 73 = .ok (.iload_n 2, 1) := by decide +kernel
theorem dX8_book_74 : decode cX8_book 74 = .ok (.ireturn, 1) := by decide +kernel
theorem dX8_next_0 : decode cX8_next 0 = .ok (.aload_n 0, 1) := by decide +kernel
theorem dX8_next_1 : decode cX8_next 1 = .ok (.getfield 42, 3) := by decide +kernel
theorem dX8_next_4 : decode cX8_next 4 = .ok (.iconst 0, 1) := by decide +kernel
theorem dX8_next_5 : decode cX8_next 5 = .ok (.iconst 0, 1) := by decide +kernel
theorem dX8_next_6 : decode cX8_next 6 = .ok (.invokevirtual 179, 3) := by decide +kernel
theorem dX8_next_9 : decode cX8_next 9 = .ok (.istore_n 1, 1) := by decide +kernel
theorem dX8_next_10 : decode cX8_next 10 = .ok (.bipush (-9), 2) := by decide +kernel
theorem dX8_next_12 : decode cX8_next 12 = .ok (.istore_n 2, 1) := by decide +kernel
theorem dX8_next_13 : decode cX8_next 13 = .ok (.aload_n 0, 1) := by decide +kernel
theorem dX8_next_14 : decode cX8_next 14 = .ok (.getfield 42, 3) := by decide +kernel
theorem dX8_next_17 : decode cX8_next 17 = .ok (.getfield 149, 3) := by decide +kernel
theorem dX8_next_20 : decode cX8_next 20 = .ok (.istore_n 3, 1) := by decide +kernel
theorem dX8_next_21 : decode cX8_next 21 = .ok (.iconst 0, 1) := by decide +kernel
theorem dX8_next_22 : decode cX8_next 22 = .ok (.istore 4, 2) := by decide +kernel
theorem dX8_next_24 : decode cX8_next 24 = .ok (.iload 4, 2) := by decide +kernel
theorem dX8_next_26 : decode cX8_next 26 = .ok (.aload_n 0, 1) := by decide +kernel
theorem dX8_next_27 : decode cX8_next 27 = .ok (.getfield 19, 3) := by decide +kernel
theorem dX8_next_30 : decode cX8_next 30 = .ok (.getfield 246, 3) := by decide +kernel
theorem dX8_next_33 : decode cX8_next 33 = .ok (.if_icmp .ge 39, 3) := by decide +kernel
theorem dX8_next_36 : decode cX8_next 36 = .ok (.aload_n 0, 1) := by decide +kernel
theorem dX8_next_37 : decode cX8_next 37 = .ok (.aload_n 0, 1) := by decide +kernel
theorem dX8_next_38 : decode cX8_next 38 = .ok (.getfield 19, 3) := by decide +kernel
theorem dX8_next_41 : decode cX8_next 41 = .ok (.getfield 133, 3) := by decide +kernel
theorem dX8_next_44 : decode cX8_next 44 = .ok (.iload 4, 2) := by decide +kernel
theorem dX8_next_46 : decode cX8_next 46 = .ok (.iaload, 1) := by decide +kernel
theorem dX8_next_47 : decode cX8_next 47 = .ok (.iload_n 1, 1) := by decide +kernel
theorem dX8_next_48 : decode cX8_next 48 = .ok (.iand, 1) := by decide +kernel
theorem dX8_next_49 : decode cX8_next 49 = .ok (.invokevirtual 249, 3) := by decide +kernel
theorem dX8_next_52 : decode cX8_next 52 = .ok (.istore 5, 2) := by decide +kernel
theorem dX8_next_54 : decode cX8_next 54 = .ok (.iload 5, 2) := by decide +kernel
theorem dX8_next_56 : decode cX8_next 56 = .ok (.iload_n 3, 1) := by decide +kernel
theorem dX8_next_57 : decode cX8_next 57 = .ok (.if_icmp .ge 9, 3) := by decide +kernel
theorem dX8_next_60 : decode cX8_next 60 = .ok (.iload 4, 2) := by decide +kernel
theorem dX8_next_62 : decode cX8_next 62 = .ok (.istore_n 2, 1) := by decide +kernel
theorem dX8_next_63 : decode cX8_next 63 = .ok (.iload 5, 2) := by decide +kernel
theorem dX8_next_65 : decode cX8_next 65 = .ok (.istore_n 3, 1) := by decide +kernel
theorem dX8_next_66 : decode cX8_next 66 = .ok (.iinc 4 1, 3) := by decide +kernel
theorem dX8_next_69 : decode cX8_next 69 = .ok (.goto (-45), 3) := by decide +kernel
theorem dX8_next_72 : decode cX8_next 72 = .ok (.iload_n 2, 1) := by decide +kernel
theorem dX8_next_73 : decode cX8_next 73 = .ok (.ireturn, 1) := by decide +kernel
theorem dX8_lands_0 : decode cX8_lands 0 = .ok (.iload_n 1, 1) := by decide +kernel
theorem dX8_lands_1 : decode cX8_lands 1 = .ok (.iconst 1, 1) := by decide +kernel
theorem dX8_lands_2 : decode cX8_lands 2 = .ok (.if_icmp .ge 10, 3) := by decide +kernel
theorem dX8_lands_5 : decode cX8_lands 5 = .ok (.aload_n 0, 1) := by decide +kernel
theorem dX8_lands_6 : decode cX8_lands 6 = .ok (.bipush (-4), 2) := by decide +kernel
theorem dX8_lands_8 : decode cX8_lands 8 = .ok (.invokevirtual 83, 3) := by decide +kernel
theorem dX8_lands_11 : decode cX8_lands 11 = .ok (.ireturn, 1) := by decide +kernel
theorem dX8_lands_12 : decode cX8_lands 12 = .ok (.iload_n 1, 1) := by decide +kernel
theorem dX8_lands_13 : decode cX8_lands 13 = .ok (.bipush 30, 2) := by decide +kernel
theorem dX8_lands_15 : decode cX8_lands 15 = .ok (.if_icmp .le 10, 3) := by decide +kernel
theorem dX8_lands_18 : decode cX8_lands 18 = .ok (.aload_n 0, 1) := by decide +kernel
theorem dX8_lands_19 : decode cX8_lands 19 = .ok (.bipush (-6), 2) := by decide +kernel
theorem dX8_lands_21 : decode cX8_lands 21 = .ok (.invokevirtual 83, 3) := by decide +kernel
theorem dX8_lands_24 : decode cX8_lands 24 = .ok (.ireturn, 1) := by decide +kernel
theorem dX8_lands_25 : decode cX8_lands 25 = .ok (.iload_n 3, 1) := by decide +kernel
theorem dX8_lands_26 : decode cX8_lands 26 = .ok (.ifCond .eq 15, 3) := by decide +kernel
theorem dX8_lands_29 : decode cX8_lands 29 = .ok (.iload_n 3, 1) := by decide +kernel
theorem dX8_lands_30 : decode cX8_lands 30 = .ok (.iconst 1, 1) := by decide +kernel
theorem dX8_lands_31 : decode cX8_lands 31 = .ok (.if_icmp .eq 10, 3) := by decide +kernel
theorem dX8_lands_34 : decode cX8_lands 34 = .ok (.aload_n 0, 1) := by decide +kernel
theorem dX8_lands_35 : decode cX8_lands 35 = .ok (.bipush (-2), 2) := by decide +kernel
theorem dX8_lands_37 : decode cX8_lands 37 = .ok (.invokevirtual 83, 3) := by decide +kernel
theorem dX8_lands_40 : decode cX8_lands 40 = .ok (.ireturn, 1) := by decide +kernel
theorem dX8_lands_41 : decode cX8_lands 41 = .ok (.iload_n 2, 1) := by decide +kernel
theorem dX8_lands_42 : decode cX8_lands 42 = .ok (.istore 4, 2) := by decide +kernel
theorem dX8_lands_44 : decode cX8_lands 44 = .ok (.iconst 0, 1) := by decide +kernel
theorem dX8_lands_45 : decode cX8_lands 45 = .ok (.istore 5, 2) := by decide +kernel
theorem dX8_lands_47 : decode cX8_lands 47 = .ok (.iconst 0, 1) := by decide +kernel
theorem dX8_lands_48 : decode cX8_lands 48 = .ok (.istore 6, 2) := by decide +kernel
theorem dX8_lands_50 : decode cX8_lands 50 = .ok (.iload 6, 2) := by decide +kernel
theorem dX8_lands_52 : decode cX8_lands 52 = .ok (.iload_n 1, 1) := by decide +kernel
theorem dX8_lands_53 : decode cX8_lands 53 = .ok (.if_icmp .ge 76, 3) := by decide +kernel
theorem dX8_lands_56 : decode cX8_lands 56 = .ok (.iload 4, 2) := by decide +kernel
theorem dX8_lands_58 : decode cX8_lands 58 = .ok (.ldc 252, 2) := by decide +kernel
theorem dX8_lands_60 : decode cX8_lands 60 = .ok (.imul, 1) := by decide +kernel
theorem dX8_lands_61 : decode cX8_lands 61 = .ok (.ldc 253, 2) := by decide +kernel
theorem dX8_lands_63 : decode cX8_lands 63 = .ok (.iadd, 1) := by decide +kernel
theorem dX8_lands_64 : decode cX8_lands 64 = .ok (.istore 4, 2) := by decide +kernel
theorem dX8_lands_66 : decode cX8_lands 66 = .ok (.iload 4, 2) := by decide +kernel
theorem dX8_lands_68 : decode cX8_lands 68 = .ok (.ldc 254, 2) := by decide +kernel
theorem dX8_lands_70 : decode cX8_lands 70 = .ok (.iand, 1) := by decide +kernel
theorem dX8_lands_71 : decode cX8_lands 71 = .ok (.sipush 256, 3) := by decide +kernel
theorem dX8_lands_74 : decode cX8_lands 74 = .ok (.idiv, 1) := by decide +kernel
theorem dX8_lands_75 : decode cX8_lands 75 = .ok (.sipush 1024, 3) := by decide +kernel
theorem dX8_lands_78 : decode cX8_lands 78 = .ok (.irem, 1) := by decide +kernel
theorem dX8_lands_79 : decode cX8_lands 79 = .ok (.aload_n 0, 1) := by decide +kernel
theorem dX8_lands_80 : decode cX8_lands 80 = .ok (.getfield 42, 3) := by decide +kernel
theorem dX8_lands_83 : decode cX8_lands 83 = .ok (.getfield 172, 3) := by decide +kernel
theorem dX8_lands_86 : decode cX8_lands 86 = .ok (.iand, 1) := by decide +kernel
theorem dX8_lands_87 : decode cX8_lands 87 = .ok (.istore 7, 2) := by decide +kernel
theorem dX8_lands_89 : decode cX8_lands 89 = .ok (.iload_n 3, 1) := by decide +kernel
theorem dX8_lands_90 : decode cX8_lands 90 = .ok (.ifCond .ne 18, 3) := by decide +kernel
theorem dX8_lands_93 : decode cX8_lands 93 = .ok (.aload_n 0, 1) := by decide +kernel
theorem dX8_lands_94 : decode cX8_lands 94 = .ok (.getfield 42, 3) := by decide +kernel
theorem dX8_lands_97 : decode cX8_lands 97 = .ok (.iload 7, 2) := by decide +kernel
theorem dX8_lands_99 : decode cX8_lands 99 = .ok (.invokevirtual 139, 3) := by decide +kernel
theorem dX8_lands_102 : decode cX8_lands 102 = .ok (.ifCond .eq 21, 3) := by decide +kernel
theorem dX8_lands_105 : decode cX8_lands 105 = .ok (.goto 15, 3) := by decide +kernel
theorem dX8_lands_108 : decode cX8_lands 108 = .ok (.aload_n 0, 1) := by decide +kernel
theorem dX8_lands_109 : decode cX8_lands 109 = .ok (.getfield 42, 3) := by decide +kernel
theorem dX8_lands_112 : decode cX8_lands 112 = .ok (.iload 7, 2) := by decide +kernel
theorem dX8_lands_114 : decode cX8_lands 114 = .ok (.invokevirtual 142, 3) := by decide +kernel
theorem dX8_lands_117 : decode cX8_lands 117 = .ok (.ifCond .eq 6, 3) := by decide +kernel
theorem dX8_lands_120 : decode cX8_lands 120 = .ok (.iinc 5 1, 3) := by decide +kernel
theorem dX8_lands_123 : decode cX8_lands 123 = .ok (.iinc 6 1, 3) := by decide +kernel
theorem dX8_lands_126 : decode cX8_lands 126 = .ok (.goto (-76), 3) := by decide +kernel
theorem dX8_lands_129 : decode cX8_lands 129 = .ok (.iload 5, 2) := by decide +kernel
theorem dX8_lands_131 : decode cX8_lands 131 = .ok (.ireturn, 1) := by decide +kernel
theorem dX8_judge_0 : decode cX8_judge 0 = .ok (.aload_n 0, 1) := by decide +kernel
theorem dX8_judge_1 : decode cX8_judge 1 = .ok (.getfield 42, 3) := by decide +kernel
theorem dX8_judge_4 : decode cX8_judge 4 = .ok (.iload_n 1, 1) := by decide +kernel
theorem dX8_judge_5 : decode cX8_judge 5 = .ok (.invokevirtual 136, 3) := by decide +kernel
theorem dX8_judge_8 : decode cX8_judge 8 = .ok (.ifCond .ne 9, 3) := by decide +kernel
theorem dX8_judge_11 : decode cX8_judge 11 = .ok (.aload_n 0, 1) := by decide +kernel
theorem dX8_judge_12 : decode cX8_judge 12 = .ok (.iconst (-1), 1) := by decide +kernel
theorem dX8_judge_13 : decode cX8_judge 13 = .ok (.invokevirtual 83, 3) := by decide +kernel
theorem dX8_judge_16 : decode cX8_judge 16 = .ok (.ireturn, 1) := by decide +kernel
theorem dX8_judge_17 : decode cX8_judge 17 = .ok (.aload_n 0, 1) := by decide +kernel
theorem dX8_judge_18 : decode cX8_judge 18 = .ok (.getfield 32, 3) := by decide +kernel
theorem dX8_judge_21 : decode cX8_judge 21 = .ok (.iload_n 1, 1) := by decide +kernel
theorem dX8_judge_22 : decode cX8_judge 22 = .ok (.invokevirtual 255, 3) := by decide +kernel
theorem dX8_judge_25 : decode cX8_judge 25 = .ok (.istore_n 2, 1) := by decide +kernel
theorem dX8_judge_26 : decode cX8_judge 26 = .ok (.iload_n 2, 1) := by decide +kernel
theorem dX8_judge_27 : decode cX8_judge 27 = .ok (.ifCond .lt 5, 3) := by decide +kernel
theorem dX8_judge_30 : decode cX8_judge 30 = .ok (.iload_n 2, 1) := by decide +kernel
theorem dX8_judge_31 : decode cX8_judge 31 = .ok (.ireturn, 1) := by decide +kernel
theorem dX8_judge_32 : decode cX8_judge 32 = .ok (.aload_n 0, 1) := by decide +kernel
theorem dX8_judge_33 : decode cX8_judge 33 = .ok (.getfield 19, 3) := by decide +kernel
theorem dX8_judge_36 : decode cX8_judge 36 = .ok (.iload_n 1, 1) := by decide +kernel
theorem dX8_judge_37 : decode cX8_judge 37 = .ok (.invokevirtual 258, 3) := by decide +kernel
theorem dX8_judge_40 : decode cX8_judge 40 = .ok (.istore_n 3, 1) := by decide +kernel
theorem dX8_judge_41 : decode cX8_judge 41 = .ok (.iload_n 3, 1) := by decide +kernel
theorem dX8_judge_42 : decode cX8_judge 42 = .ok (.ifCond .lt 10, 3) := by decide +kernel
theorem dX8_judge_45 : decode cX8_judge 45 = .ok (.bipush 100, 2) := by decide +kernel
theorem dX8_judge_47 : decode cX8_judge 47 = .ok (.iload_n 3, 1) := by decide +kernel
theorem dX8_judge_48 : decode cX8_judge 48 = .ok (.iadd, 1) := by decide +kernel
theorem dX8_judge_49 : decode cX8_judge 49 = .ok (.goto 5, 3) := by decide +kernel
theorem dX8_judge_52 : decode cX8_judge 52 = .ok (.bipush (-9), 2) := by decide +kernel
theorem dX8_judge_54 : decode cX8_judge 54 = .ok (.ireturn, 1) := by decide +kernel
theorem dX8_image_0 : decode cX8_image 0 = .ok (.aload_n 0, 1) := by decide +kernel
theorem dX8_image_1 : decode cX8_image 1 = .ok (.getfield 26, 3) := by decide +kernel
theorem dX8_image_4 : decode cX8_image 4 = .ok (.aload_n 0, 1) := by decide +kernel
theorem dX8_image_5 : decode cX8_image 5 = .ok (.getfield 19, 3) := by decide +kernel
theorem dX8_image_8 : decode cX8_image 8 = .ok (.invokevirtual 261, 3) := by decide +kernel
theorem dX8_image_11 : decode cX8_image 11 = .ok (.aload_n 0, 1) := by decide +kernel
theorem dX8_image_12 : decode cX8_image 12 = .ok (.getfield 36, 3) := by decide +kernel
theorem dX8_image_15 : decode cX8_image 15 = .ok (.aload_n 0, 1) := by decide +kernel
theorem dX8_image_16 : decode cX8_image 16 = .ok (.getfield 32, 3) := by decide +kernel
theorem dX8_image_19 : decode cX8_image 19 = .ok (.invokevirtual 264, 3) := by decide +kernel
theorem dX8_image_22 : decode cX8_image 22 = .ok (.aload_n 0, 1) := by decide +kernel
theorem dX8_image_23 : decode cX8_image 23 = .ok (.iconst 1, 1) := by decide +kernel
theorem dX8_image_24 : decode cX8_image 24 = .ok (.putfield 71, 3) := by decide +kernel
theorem dX8_image_27 : decode cX8_image 27 = .ok (.aload_n 0, 1) := by decide +kernel
theorem dX8_image_28 : decode cX8_image 28 = .ok (.getfield 32, 3) := by decide +kernel
theorem dX8_image_31 : decode cX8_image 31 = .ok (.getfield 162, 3) := by decide +kernel
theorem dX8_image_34 : decode cX8_image 34 = .ok (.ireturn, 1) := by decide +kernel
theorem dX8_on_0 : decode cX8_on 0 = .ok (.aload_n 0, 1) := by decide +kernel
theorem dX8_on_1 : decode cX8_on 1 = .ok (.getfield 71, 3) := by decide +kernel
theorem dX8_on_4 : decode cX8_on 4 = .ok (.ifCond .ne 10, 3) := by decide +kernel
theorem dX8_on_7 : decode cX8_on 7 = .ok (.aload_n 0, 1) := by decide +kernel
theorem dX8_on_8 : decode cX8_on 8 = .ok (.bipush (-3), 2) := by decide +kernel
theorem dX8_on_10 : decode cX8_on 10 = .ok (.invokevirtual 83, 3) := by decide +kernel
theorem dX8_on_13 : decode cX8_on 13 = .ok (.ireturn, 1) := by decide +kernel
theorem dX8_on_14 : decode cX8_on 14 = .ok (.aload_n 0, 1) := by decide +kernel
theorem dX8_on_15 : decode cX8_on 15 = .ok (.getfield 19, 3) := by decide +kernel
theorem dX8_on_18 : decode cX8_on 18 = .ok (.aload_n 0, 1) := by decide +kernel
theorem dX8_on_19 : decode cX8_on 19 = .ok (.getfield 26, 3) := by decide +kernel
theorem dX8_on_22 : decode cX8_on 22 = .ok (.invokevirtual 261, 3) := by decide +kernel
theorem dX8_on_25 : decode cX8_on 25 = .ok (.aload_n 0, 1) := by decide +kernel
theorem dX8_on_26 : decode cX8_on 26 = .ok (.getfield 32, 3) := by decide +kernel
theorem dX8_on_29 : decode cX8_on 29 = .ok (.aload_n 0, 1) := by decide +kernel
theorem dX8_on_30 : decode cX8_on 30 = .ok (.getfield 36, 3) := by decide +kernel
theorem dX8_on_33 : decode cX8_on 33 = .ok (.invokevirtual 264, 3) := by decide +kernel
theorem dX8_on_36 : decode cX8_on 36 = .ok (.aload_n 0, 1) := by decide +kernel
theorem dX8_on_37 : decode cX8_on 37 = .ok (.getfield 63, 3) := by decide +kernel
theorem dX8_on_40 : decode cX8_on 40 = .ok (.invokevirtual 245, 3) := by decide +kernel
theorem dX8_on_43 : decode cX8_on 43 = .ok (.aload_n 0, 1) := by decide +kernel
theorem dX8_on_44 : decode cX8_on 44 = .ok (.getfield 42, 3) := by decide +kernel
theorem dX8_on_47 : decode cX8_on 47 = .ok (.aload_n 0, 1) := by decide +kernel
theorem dX8_on_48 : decode cX8_on 48 = .ok (.getfield 19, 3) := by decide +kernel
theorem dX8_on_51 : decode cX8_on 51 = .ok (.invokevirtual 75, 3) := by decide +kernel
theorem dX8_on_54 : decode cX8_on 54 = .ok (.aload_n 0, 1) := by decide +kernel
theorem dX8_on_55 : decode cX8_on 55 = .ok (.getfield 42, 3) := by decide +kernel
theorem dX8_on_58 : decode cX8_on 58 = .ok (.aload_n 0, 1) := by decide +kernel
theorem dX8_on_59 : decode cX8_on 59 = .ok (.getfield 32, 3) := by decide +kernel
theorem dX8_on_62 : decode cX8_on 62 = .ok (.invokevirtual 79, 3) := by decide +kernel
theorem dX8_on_65 : decode cX8_on 65 = .ok (.aload_n 0, 1) := by decide +kernel
theorem dX8_on_66 : decode cX8_on 66 = .ok (.getfield 32, 3) := by decide +kernel
theorem dX8_on_69 : decode cX8_on 69 = .ok (.getfield 162, 3) := by decide +kernel
theorem dX8_on_72 : decode cX8_on 72 = .ok (.ireturn, 1) := by decide +kernel
theorem dX8_count_0 : decode cX8_count 0 = .ok (.iload_n 1, 1) := by decide +kernel
theorem dX8_count_1 : decode cX8_count 1 = .ok (.bipush 11, 2) := by decide +kernel
theorem dX8_count_3 : decode cX8_count 3 = .ok (.if_icmp .lt 19, 3) := by decide +kernel
theorem dX8_count_6 : decode cX8_count 6 = .ok (.iload_n 1, 1) := by decide +kernel
theorem dX8_count_7 : decode cX8_count 7 = .ok (.bipush 16, 2) := by decide +kernel
theorem dX8_count_9 : decode cX8_count 9 = .ok (.if_icmp .gt 13, 3) := by decide +kernel
theorem dX8_count_12 : decode cX8_count 12 = .ok (.aload_n 0, 1) := by decide +kernel
theorem dX8_count_13 : decode cX8_count 13 = .ok (.getfield 67, 3) := by decide +kernel
theorem dX8_count_16 : decode cX8_count 16 = .ok (.iload_n 1, 1) := by decide +kernel
theorem dX8_count_17 : decode cX8_count 17 = .ok (.bipush 10, 2) := by decide +kernel
theorem dX8_count_19 : decode cX8_count 19 = .ok (.isub, 1) := by decide +kernel
theorem dX8_count_20 : decode cX8_count 20 = .ok (.iaload, 1) := by decide +kernel
theorem dX8_count_21 : decode cX8_count 21 = .ok (.ireturn, 1) := by decide +kernel
theorem dX8_count_22 : decode cX8_count 22 = .ok (.iload_n 1, 1) := by decide +kernel
theorem dX8_count_23 : decode cX8_count 23 = .ok (.tableswitch 141 0 9 #[53, 61, 69, 77, 85, 93, 101, 109, 117, 125], 53) := by decide +kernel
theorem dX8_count_76 : decode cX8_count 76 = .ok (.aload_n 0, 1) := by decide +kernel
theorem dX8_count_77 : decode cX8_count 77 = .ok (.getfield 19, 3) := by decide +kernel
theorem dX8_count_80 : decode cX8_count 80 = .ok (.getfield 246, 3) := by decide +kernel
theorem dX8_count_83 : decode cX8_count 83 = .ok (.ireturn, 1) := by decide +kernel
theorem dX8_count_84 : decode cX8_count 84 = .ok (.aload_n 0, 1) := by decide +kernel
theorem dX8_count_85 : decode cX8_count 85 = .ok (.getfield 19, 3) := by decide +kernel
theorem dX8_count_88 : decode cX8_count 88 = .ok (.getfield 266, 3) := by decide +kernel
theorem dX8_count_91 : decode cX8_count 91 = .ok (.ireturn, 1) := by decide +kernel
theorem dX8_count_92 : decode cX8_count 92 = .ok (.aload_n 0, 1) := by decide +kernel
theorem dX8_count_93 : decode cX8_count 93 = .ok (.getfield 19, 3) := by decide +kernel
theorem dX8_count_96 : decode cX8_count 96 = .ok (.getfield 214, 3) := by decide +kernel
theorem dX8_count_99 : decode cX8_count 99 = .ok (.ireturn, 1) := by decide +kernel
theorem dX8_count_100 : decode cX8_count 100 = .ok (.aload_n 0, 1) := by decide +kernel
theorem dX8_count_101 : decode cX8_count 101 = .ok (.getfield 19, 3) := by decide +kernel
theorem dX8_count_104 : decode cX8_count 104 = .ok (.getfield 182, 3) := by decide +kernel
theorem dX8_count_107 : decode cX8_count 107 = .ok (.ireturn, 1) := by decide +kernel
theorem dX8_count_108 : decode cX8_count 108 = .ok (.aload_n 0, 1) := by decide +kernel
theorem dX8_count_109 : decode cX8_count 109 = .ok (.getfield 32, 3) := by decide +kernel
theorem dX8_count_112 : decode cX8_count 112 = .ok (.getfield 162, 3) := by decide +kernel
theorem dX8_count_115 : decode cX8_count 115 = .ok (.ireturn, 1) := by decide +kernel
theorem dX8_count_116 : decode cX8_count 116 = .ok (.aload_n 0, 1) := by decide +kernel
theorem dX8_count_117 : decode cX8_count 117 = .ok (.getfield 42, 3) := by decide +kernel
theorem dX8_count_120 : decode cX8_count 120 = .ok (.getfield 269, 3) := by decide +kernel
theorem dX8_count_123 : decode cX8_count 123 = .ok (.ireturn, 1) := by decide +kernel
theorem dX8_count_124 : decode cX8_count 124 = .ok (.aload_n 0, 1) := by decide +kernel
theorem dX8_count_125 : decode cX8_count 125 = .ok (.getfield 42, 3) := by decide +kernel
theorem dX8_count_128 : decode cX8_count 128 = .ok (.getfield 149, 3) := by decide +kernel
theorem dX8_count_131 : decode cX8_count 131 = .ok (.ireturn, 1) := by decide +kernel
theorem dX8_count_132 : decode cX8_count 132 = .ok (.aload_n 0, 1) := by decide +kernel
theorem dX8_count_133 : decode cX8_count 133 = .ok (.getfield 63, 3) := by decide +kernel
theorem dX8_count_136 : decode cX8_count 136 = .ok (.getfield 234, 3) := by decide +kernel
theorem dX8_count_139 : decode cX8_count 139 = .ok (.ireturn, 1) := by decide +kernel
theorem dX8_count_140 : decode cX8_count 140 = .ok (.aload_n 0, 1) := by decide +kernel
theorem dX8_count_141 : decode cX8_count 141 = .ok (.getfield 10, 3) := by decide +kernel
theorem dX8_count_144 : decode cX8_count 144 = .ok (.getfield 87, 3) := by decide +kernel
theorem dX8_count_147 : decode cX8_count 147 = .ok (.ireturn, 1) := by decide +kernel
theorem dX8_count_148 : decode cX8_count 148 = .ok (.aload_n 0, 1) := by decide +kernel
theorem dX8_count_149 : decode cX8_count 149 = .ok (.getfield 19, 3) := by decide +kernel
theorem dX8_count_152 : decode cX8_count 152 = .ok (.invokevirtual 220, 3) := by decide +kernel
theorem dX8_count_155 : decode cX8_count 155 = .ok (.ifCond .eq 7, 3) := by decide +kernel
theorem dX8_count_158 : decode cX8_count 158 = .ok (.iconst 1, 1) := by decide +kernel
theorem dX8_count_159 : decode cX8_count 159 = .ok (.goto 4, 3) := by decide +kernel
theorem dX8_count_162 : decode cX8_count 162 = .ok (.iconst 0, 1) := by decide +kernel
theorem dX8_count_163 : decode cX8_count 163 = .ok (.ireturn, 1) := by decide +kernel
theorem dX8_count_164 : decode cX8_count 164 = .ok (.bipush (-9), 2) := by decide +kernel
theorem dX8_count_166 : decode cX8_count 166 = .ok (.ireturn, 1) := by decide +kernel
theorem dX8_refuse_0 : decode cX8_refuse 0 = .ok (.iload_n 1, 1) := by decide +kernel
theorem dX8_refuse_1 : decode cX8_refuse 1 = .ok (.ineg, 1) := by decide +kernel
theorem dX8_refuse_2 : decode cX8_refuse 2 = .ok (.istore_n 2, 1) := by decide +kernel
theorem dX8_refuse_3 : decode cX8_refuse 3 = .ok (.iload_n 2, 1) := by decide +kernel
theorem dX8_refuse_4 : decode cX8_refuse 4 = .ok (.iconst 1, 1) := by decide +kernel
theorem dX8_refuse_5 : decode cX8_refuse 5 = .ok (.if_icmp .lt 22, 3) := by decide +kernel
theorem dX8_refuse_8 : decode cX8_refuse 8 = .ok (.iload_n 2, 1) := by decide +kernel
theorem dX8_refuse_9 : decode cX8_refuse 9 = .ok (.aload_n 0, 1) := by decide +kernel
theorem dX8_refuse_10 : decode cX8_refuse 10 = .ok (.getfield 67, 3) := by decide +kernel
theorem dX8_refuse_13 : decode cX8_refuse 13 = .ok (.arraylength, 1) := by decide +kernel
theorem dX8_refuse_14 : decode cX8_refuse 14 = .ok (.if_icmp .ge 13, 3) := by decide +kernel
theorem dX8_refuse_17 : decode cX8_refuse 17 = .ok (.aload_n 0, 1) := by decide +kernel
theorem dX8_refuse_18 : decode cX8_refuse 18 = .ok (.getfield 67, 3) := by decide +kernel
theorem dX8_refuse_21 : decode cX8_refuse 21 = .ok (.iload_n 2, 1) := by decide +kernel
theorem dX8_refuse_22 : decode cX8_refuse 22 = .ok (.dup2, 1) := by decide +kernel
theorem dX8_refuse_23 : decode cX8_refuse 23 = .ok (.iaload, 1) := by decide +kernel
theorem dX8_refuse_24 : decode cX8_refuse 24 = .ok (.iconst 1, 1) := by decide +kernel
theorem dX8_refuse_25 : decode cX8_refuse 25 = .ok (.iadd, 1) := by decide +kernel
theorem dX8_refuse_26 : decode cX8_refuse 26 = .ok (.iastore, 1) := by decide +kernel
theorem dX8_refuse_27 : decode cX8_refuse 27 = .ok (.iload_n 1, 1) := by decide +kernel
theorem dX8_refuse_28 : decode cX8_refuse 28 = .ok (.ireturn, 1) := by decide +kernel
theorem dX8_readText_0 : decode cX8_readText 0 = .ok (.aload_n 0, 1) := by decide +kernel
theorem dX8_readText_1 : decode cX8_readText 1 = .ok (.getfield 10, 3) := by decide +kernel
theorem dX8_readText_4 : decode cX8_readText 4 = .ok (.invokevirtual 272, 3) := by decide +kernel
theorem dX8_readText_7 : decode cX8_readText 7 = .ok (.istore_n 1, 1) := by decide +kernel
theorem dX8_readText_8 : decode cX8_readText 8 = .ok (.iload_n 1, 1) := by decide +kernel
theorem dX8_readText_9 : decode cX8_readText 9 = .ok (.ifCond .lt 9, 3) := by decide +kernel
theorem dX8_readText_12 : decode cX8_readText 12 = .ok (.sipush (-1000), 3) := by decide +kernel
theorem dX8_readText_15 : decode cX8_readText 15 = .ok (.iload_n 1, 1) := by decide +kernel
theorem dX8_readText_16 : decode cX8_readText 16 = .ok (.isub, 1) := by decide +kernel
theorem dX8_readText_17 : decode cX8_readText 17 = .ok (.ireturn, 1) := by decide +kernel
theorem dX8_readText_18 : decode cX8_readText 18 = .ok (.aload_n 0, 1) := by decide +kernel
theorem dX8_readText_19 : decode cX8_readText 19 = .ok (.getfield 23, 3) := by decide +kernel
theorem dX8_readText_22 : decode cX8_readText 22 = .ok (.aload_n 0, 1) := by decide +kernel
theorem dX8_readText_23 : decode cX8_readText 23 = .ok (.getfield 19, 3) := by decide +kernel
theorem dX8_readText_26 : decode cX8_readText 26 = .ok (.invokevirtual 261, 3) := by decide +kernel
theorem dX8_readText_29 : decode cX8_readText 29 = .ok (.iconst 0, 1) := by decide +kernel
theorem dX8_readText_30 : decode cX8_readText 30 = .ok (.istore_n 2, 1) := by decide +kernel
theorem dX8_readText_31 : decode cX8_readText 31 = .ok (.iconst 0, 1) := by decide +kernel
theorem dX8_readText_32 : decode cX8_readText 32 = .ok (.istore_n 3, 1) := by decide +kernel
theorem dX8_readText_33 : decode cX8_readText 33 = .ok (.iload_n 3, 1) := by decide +kernel
theorem dX8_readText_34 : decode cX8_readText 34 = .ok (.aload_n 0, 1) := by decide +kernel
theorem dX8_readText_35 : decode cX8_readText 35 = .ok (.getfield 10, 3) := by decide +kernel
theorem dX8_readText_38 : decode cX8_readText 38 = .ok (.getfield 87, 3) := by decide +kernel
theorem dX8_readText_41 : decode cX8_readText 41 = .ok (.if_icmp .ge 45, 3) := by decide +kernel
theorem dX8_readText_44 : decode cX8_readText 44 = .ok (.aload_n 0, 1) := by decide +kernel
theorem dX8_readText_45 : decode cX8_readText 45 = .ok (.getfield 23, 3) := by decide +kernel
theorem dX8_readText_48 : decode cX8_readText 48 = .ok (.aload_n 0, 1) := by decide +kernel
theorem dX8_readText_49 : decode cX8_readText 49 = .ok (.getfield 10, 3) := by decide +kernel
theorem dX8_readText_52 : decode cX8_readText 52 = .ok (.iload_n 3, 1) := by decide +kernel
theorem dX8_readText_53 : decode cX8_readText 53 = .ok (.invokevirtual 275, 3) := by decide +kernel
theorem dX8_readText_56 : decode cX8_readText 56 = .ok (.ifCond .ne 9, 3) := by decide +kernel
theorem dX8_readText_59 : decode cX8_readText 59 = .ok (.sipush (-2000), 3) := by decide +kernel
theorem dX8_readText_62 : decode cX8_readText 62 = .ok (.iload_n 3, 1) := by decide +kernel
theorem dX8_readText_63 : decode cX8_readText 63 = .ok (.isub, 1) := by decide +kernel
theorem dX8_readText_64 : decode cX8_readText 64 = .ok (.ireturn, 1) := by decide +kernel
theorem dX8_readText_65 : decode cX8_readText 65 = .ok (.iinc 2 1, 3) := by decide +kernel
theorem dX8_readText_68 : decode cX8_readText 68 = .ok (.iload_n 3, 1) := by decide +kernel
theorem dX8_readText_69 : decode cX8_readText 69 = .ok (.iconst 1, 1) := by decide +kernel
theorem dX8_readText_70 : decode cX8_readText 70 = .ok (.aload_n 0, 1) := by decide +kernel
theorem dX8_readText_71 : decode cX8_readText 71 = .ok (.getfield 10, 3) := by decide +kernel
theorem dX8_readText_74 : decode cX8_readText 74 = .ok (.iload_n 3, 1) := by decide +kernel
theorem dX8_readText_75 : decode cX8_readText 75 = .ok (.invokevirtual 279, 3) := by decide +kernel
theorem dX8_readText_78 : decode cX8_readText 78 = .ok (.invokestatic 195, 3) := by decide +kernel
theorem dX8_readText_81 : decode cX8_readText 81 = .ok (.iadd, 1) := by decide +kernel
theorem dX8_readText_82 : decode cX8_readText 82 = .ok (.istore_n 3, 1) := by decide +kernel
theorem dX8_readText_83 : decode cX8_readText 83 = .ok (.goto (-50), 3) := by decide +kernel
theorem dX8_readText_86 : decode cX8_readText 86 = .ok (.aload_n 0, 1) := by decide +kernel
theorem dX8_readText_87 : decode cX8_readText 87 = .ok (.getfield 19, 3) := by decide +kernel
theorem dX8_readText_90 : decode cX8_readText 90 = .ok (.aload_n 0, 1) := by decide +kernel
theorem dX8_readText_91 : decode cX8_readText 91 = .ok (.getfield 23, 3) := by decide +kernel
theorem dX8_readText_94 : decode cX8_readText 94 = .ok (.invokevirtual 261, 3) := by decide +kernel
theorem dX8_readText_97 : decode cX8_readText 97 = .ok (.aload_n 0, 1) := by decide +kernel
theorem dX8_readText_98 : decode cX8_readText 98 = .ok (.getfield 42, 3) := by decide +kernel
theorem dX8_readText_101 : decode cX8_readText 101 = .ok (.aload_n 0, 1) := by decide +kernel
theorem dX8_readText_102 : decode cX8_readText 102 = .ok (.getfield 19, 3) := by decide +kernel
theorem dX8_readText_105 : decode cX8_readText 105 = .ok (.invokevirtual 75, 3) := by decide +kernel
theorem dX8_readText_108 : decode cX8_readText 108 = .ok (.aload_n 0, 1) := by decide +kernel
theorem dX8_readText_109 : decode cX8_readText 109 = .ok (.getfield 42, 3) := by decide +kernel
theorem dX8_readText_112 : decode cX8_readText 112 = .ok (.aload_n 0, 1) := by decide +kernel
theorem dX8_readText_113 : decode cX8_readText 113 = .ok (.getfield 32, 3) := by decide +kernel
theorem dX8_readText_116 : decode cX8_readText 116 = .ok (.invokevirtual 79, 3) := by decide +kernel
theorem dX8_readText_119 : decode cX8_readText 119 = .ok (.iload_n 2, 1) := by decide +kernel
theorem dX8_readText_120 : decode cX8_readText 120 = .ok (.ireturn, 1) := by decide +kernel
theorem dX8_find_0 : decode cX8_find 0 = .ok (.iload_n 2, 1) := by decide +kernel
theorem dX8_find_1 : decode cX8_find 1 = .ok (.ifCond .eq 15, 3) := by decide +kernel
theorem dX8_find_4 : decode cX8_find 4 = .ok (.iload_n 2, 1) := by decide +kernel
theorem dX8_find_5 : decode cX8_find 5 = .ok (.iconst 1, 1) := by decide +kernel
theorem dX8_find_6 : decode cX8_find 6 = .ok (.if_icmp .eq 10, 3) := by decide +kernel
theorem dX8_find_9 : decode cX8_find 9 = .ok (.aload_n 0, 1) := by decide +kernel
theorem dX8_find_10 : decode cX8_find 10 = .ok (.bipush (-2), 2) := by decide +kernel
theorem dX8_find_12 : decode cX8_find 12 = .ok (.invokevirtual 83, 3) := by decide +kernel
theorem dX8_find_15 : decode cX8_find 15 = .ok (.ireturn, 1) := by decide +kernel
theorem dX8_find_16 : decode cX8_find 16 = .ok (.aload_n 0, 1) := by decide +kernel
theorem dX8_find_17 : decode cX8_find 17 = .ok (.getfield 32, 3) := by decide +kernel
theorem dX8_find_20 : decode cX8_find 20 = .ok (.getfield 162, 3) := by decide +kernel
theorem dX8_find_23 : decode cX8_find 23 = .ok (.bipush 12, 2) := by decide +kernel
theorem dX8_find_25 : decode cX8_find 25 = .ok (.if_icmp .lt 10, 3) := by decide +kernel
theorem dX8_find_28 : decode cX8_find 28 = .ok (.aload_n 0, 1) := by decide +kernel
theorem dX8_find_29 : decode cX8_find 29 = .ok (.bipush (-6), 2) := by decide +kernel
theorem dX8_find_31 : decode cX8_find 31 = .ok (.invokevirtual 83, 3) := by decide +kernel
theorem dX8_find_34 : decode cX8_find 34 = .ok (.ireturn, 1) := by decide +kernel
theorem dX8_find_35 : decode cX8_find 35 = .ok (.aload_n 0, 1) := by decide +kernel
theorem dX8_find_36 : decode cX8_find 36 = .ok (.getfield 32, 3) := by decide +kernel
theorem dX8_find_39 : decode cX8_find 39 = .ok (.iload_n 1, 1) := by decide +kernel
theorem dX8_find_40 : decode cX8_find 40 = .ok (.iload_n 2, 1) := by decide +kernel
theorem dX8_find_41 : decode cX8_find 41 = .ok (.iconst 1, 1) := by decide +kernel
theorem dX8_find_42 : decode cX8_find 42 = .ok (.if_icmp .ne 7, 3) := by decide +kernel
theorem dX8_find_45 : decode cX8_find 45 = .ok (.iconst 1, 1) := by decide +kernel
theorem dX8_find_46 : decode cX8_find 46 = .ok (.goto 4, 3) := by decide +kernel
theorem dX8_find_49 : decode cX8_find 49 = .ok (.iconst 0, 1) := by decide +kernel
theorem dX8_find_50 : decode cX8_find 50 = .ok (.invokevirtual 282, 3) := by decide +kernel
theorem dX8_find_53 : decode cX8_find 53 = .ok (.aload_n 0, 1) := by decide +kernel
theorem dX8_find_54 : decode cX8_find 54 = .ok (.getfield 42, 3) := by decide +kernel
theorem dX8_find_57 : decode cX8_find 57 = .ok (.aload_n 0, 1) := by decide +kernel
theorem dX8_find_58 : decode cX8_find 58 = .ok (.getfield 32, 3) := by decide +kernel
theorem dX8_find_61 : decode cX8_find 61 = .ok (.invokevirtual 79, 3) := by decide +kernel
theorem dX8_find_64 : decode cX8_find 64 = .ok (.aload_n 0, 1) := by decide +kernel
theorem dX8_find_65 : decode cX8_find 65 = .ok (.getfield 32, 3) := by decide +kernel
theorem dX8_find_68 : decode cX8_find 68 = .ok (.getfield 162, 3) := by decide +kernel
theorem dX8_find_71 : decode cX8_find 71 = .ok (.ireturn, 1) := by decide +kernel
theorem dX8_leastGreaterPart_0 : decode cX8_leastGreaterPart 0 = .ok (.aload_n 0, 1) := by decide +kernel
theorem dX8_leastGreaterPart_1 : decode cX8_leastGreaterPart 1 = .ok (.getfield 42, 3) := by decide +kernel
theorem dX8_leastGreaterPart_4 : decode cX8_leastGreaterPart 4 = .ok (.getfield 149, 3) := by decide +kernel
theorem dX8_leastGreaterPart_7 : decode cX8_leastGreaterPart 7 = .ok (.istore_n 2, 1) := by decide +kernel
theorem dX8_leastGreaterPart_8 : decode cX8_leastGreaterPart 8 = .ok (.iconst 0, 1) := by decide +kernel
theorem dX8_leastGreaterPart_9 : decode cX8_leastGreaterPart 9 = .ok (.istore_n 3, 1) := by decide +kernel
theorem dX8_leastGreaterPart_10 : decode cX8_leastGreaterPart 10 = .ok (.iload_n 3, 1) := by decide +kernel
theorem dX8_leastGreaterPart_11 : decode cX8_leastGreaterPart 11 = .ok (.aload_n 0, 1) := by decide +kernel
theorem dX8_leastGreaterPart_12 : decode cX8_leastGreaterPart 12 = .ok (.getfield 19, 3) := by decide +kernel
theorem dX8_leastGreaterPart_15 : decode cX8_leastGreaterPart 15 = .ok (.getfield 214, 3) := by decide +kernel
theorem dX8_leastGreaterPart_18 : decode cX8_leastGreaterPart 18 = .ok (.if_icmp .ge 47, 3) := by decide +kernel
theorem dX8_leastGreaterPart_21 : decode cX8_leastGreaterPart 21 = .ok (.iload_n 1, 1) := by decide +kernel
theorem dX8_leastGreaterPart_22 : decode cX8_leastGreaterPart 22 = .ok (.iload_n 3, 1) := by decide +kernel
theorem dX8_leastGreaterPart_23 : decode cX8_leastGreaterPart 23 = .ok (.invokestatic 285, 3) := by decide +kernel
theorem dX8_leastGreaterPart_26 : decode cX8_leastGreaterPart 26 = .ok (.ifCond .eq 33, 3) := by decide +kernel
theorem dX8_leastGreaterPart_29 : decode cX8_leastGreaterPart 29 = .ok (.aload_n 0, 1) := by decide +kernel
theorem dX8_leastGreaterPart_30 : decode cX8_leastGreaterPart 30 = .ok (.getfield 42, 3) := by decide +kernel
theorem dX8_leastGreaterPart_33 : decode cX8_leastGreaterPart 33 = .ok (.iload_n 3, 1) := by decide +kernel
theorem dX8_leastGreaterPart_34 : decode cX8_leastGreaterPart 34 = .ok (.invokevirtual 289, 3) := by decide +kernel
theorem dX8_leastGreaterPart_37 : decode cX8_leastGreaterPart 37 = .ok (.istore 4, 2) := by decide +kernel
theorem dX8_leastGreaterPart_39 : decode cX8_leastGreaterPart 39 = .ok (.iload_n 2, 1) := by decide +kernel
theorem dX8_leastGreaterPart_40 : decode cX8_leastGreaterPart 40 = .ok (.iload 4, 2) := by decide +kernel
theorem dX8_leastGreaterPart_42 : decode cX8_leastGreaterPart 42 = .ok (.aload_n 0, 1) := by decide +kernel
theorem dX8_leastGreaterPart_43 : decode cX8_leastGreaterPart 43 = .ok (.getfield 42, 3) := by decide +kernel
theorem dX8_leastGreaterPart_46 : decode cX8_leastGreaterPart 46 = .ok (.getfield 149, 3) := by decide +kernel
theorem dX8_leastGreaterPart_49 : decode cX8_leastGreaterPart 49 = .ok (.iload 4, 2) := by decide +kernel
theorem dX8_leastGreaterPart_51 : decode cX8_leastGreaterPart 51 = .ok (.isub, 1) := by decide +kernel
theorem dX8_leastGreaterPart_52 : decode cX8_leastGreaterPart 52 = .ok (.invokestatic 195, 3) := by decide +kernel
theorem dX8_leastGreaterPart_55 : decode cX8_leastGreaterPart 55 = .ok (.invokestatic 200, 3) := by decide +kernel
theorem dX8_leastGreaterPart_58 : decode cX8_leastGreaterPart 58 = .ok (.istore_n 2, 1) := by decide +kernel
theorem dX8_leastGreaterPart_59 : decode cX8_leastGreaterPart 59 = .ok (.iinc 3 1, 3) := by decide +kernel
theorem dX8_leastGreaterPart_62 : decode cX8_leastGreaterPart 62 = .ok (.goto (-52), 3) := by decide +kernel
theorem dX8_leastGreaterPart_65 : decode cX8_leastGreaterPart 65 = .ok (.iload_n 2, 1) := by decide +kernel
theorem dX8_leastGreaterPart_66 : decode cX8_leastGreaterPart 66 = .ok (.ireturn, 1) := by decide +kernel
theorem dX9_init_0 : decode cX9_init 0 = .ok (.aload_n 0, 1) := by decide +kernel
theorem dX9_init_1 : decode cX9_init 1 = .ok (.invokespecial 1, 3) := by decide +kernel
theorem dX9_init_4 : decode cX9_init 4 = .ok (.aload_n 0, 1) := by decide +kernel
theorem dX9_init_5 : decode cX9_init 5 = .ok (.bipush 7, 2) := by decide +kernel
theorem dX9_init_7 : decode cX9_init 7 = .ok (.newarray .int, 2) := by decide +kernel
theorem dX9_init_9 : decode cX9_init 9 = .ok (.putfield 7, 3) := by decide +kernel
theorem dX9_init_12 : decode cX9_init 12 = .ok (.aload_n 0, 1) := by decide +kernel
theorem dX9_init_13 : decode cX9_init 13 = .ok (.bipush 8, 2) := by decide +kernel
theorem dX9_init_15 : decode cX9_init 15 = .ok (.newarray .int, 2) := by decide +kernel
theorem dX9_init_17 : decode cX9_init 17 = .ok (.putfield 13, 3) := by decide +kernel
theorem dX9_init_20 : decode cX9_init 20 = .ok (.aload_n 0, 1) := by decide +kernel
theorem dX9_init_21 : decode cX9_init 21 = .ok (.bipush 8, 2) := by decide +kernel
theorem dX9_init_23 : decode cX9_init 23 = .ok (.newarray .int, 2) := by decide +kernel
theorem dX9_init_25 : decode cX9_init 25 = .ok (.putfield 16, 3) := by decide +kernel
theorem dX9_init_28 : decode cX9_init 28 = .ok (.aload_n 0, 1) := by decide +kernel
theorem dX9_init_29 : decode cX9_init 29 = .ok (.bipush 6, 2) := by decide +kernel
theorem dX9_init_31 : decode cX9_init 31 = .ok (.newarray .int, 2) := by decide +kernel
theorem dX9_init_33 : decode cX9_init 33 = .ok (.putfield 19, 3) := by decide +kernel
theorem dX9_init_36 : decode cX9_init 36 = .ok (.aload_n 0, 1) := by decide +kernel
theorem dX9_init_37 : decode cX9_init 37 = .ok (.bipush 6, 2) := by decide +kernel
theorem dX9_init_39 : decode cX9_init 39 = .ok (.newarray .int, 2) := by decide +kernel
theorem dX9_init_41 : decode cX9_init 41 = .ok (.putfield 22, 3) := by decide +kernel
theorem dX9_init_44 : decode cX9_init 44 = .ok (.aload_n 0, 1) := by decide +kernel
theorem dX9_init_45 : decode cX9_init 45 = .ok (.bipush 6, 2) := by decide +kernel
theorem dX9_init_47 : decode cX9_init 47 = .ok (.newarray .int, 2) := by decide +kernel
theorem dX9_init_49 : decode cX9_init 49 = .ok (.putfield 25, 3) := by decide +kernel
theorem dX9_init_52 : decode cX9_init 52 = .ok (.aload_n 0, 1) := by decide +kernel
theorem dX9_init_53 : decode cX9_init 53 = .ok (.bipush 6, 2) := by decide +kernel
theorem dX9_init_55 : decode cX9_init 55 = .ok (.newarray .int, 2) := by decide +kernel
theorem dX9_init_57 : decode cX9_init 57 = .ok (.putfield 28, 3) := by decide +kernel
theorem dX9_init_60 : decode cX9_init 60 = .ok (.aload_n 0, 1) := by decide +kernel
theorem dX9_init_61 : decode cX9_init 61 = .ok (.bipush 6, 2) := by decide +kernel
theorem dX9_init_63 : decode cX9_init 63 = .ok (.newarray .int, 2) := by decide +kernel
theorem dX9_init_65 : decode cX9_init 65 = .ok (.putfield 31, 3) := by decide +kernel
theorem dX9_init_68 : decode cX9_init 68 = .ok (.aload_n 0, 1) := by decide +kernel
theorem dX9_init_69 : decode cX9_init 69 = .ok (.iconst 4, 1) := by decide +kernel
theorem dX9_init_70 : decode cX9_init 70 = .ok (.putfield 34, 3) := by decide +kernel
theorem dX9_init_73 : decode cX9_init 73 = .ok (.aload_n 0, 1) := by decide +kernel
theorem dX9_init_74 : decode cX9_init 74 = .ok (.bipush (-9), 2) := by decide +kernel
theorem dX9_init_76 : decode cX9_init 76 = .ok (.putfield 38, 3) := by decide +kernel
theorem dX9_init_79 : decode cX9_init 79 = .ok (.aload_n 0, 1) := by decide +kernel
theorem dX9_init_80 : decode cX9_init 80 = .ok (.bipush 12, 2) := by decide +kernel
theorem dX9_init_82 : decode cX9_init 82 = .ok (.newarray .int, 2) := by decide +kernel
theorem dX9_init_84 : decode cX9_init 84 = .ok (.putfield 41, 3) := by decide +kernel
theorem dX9_init_87 : decode cX9_init 87 = .ok (.aload_n 0, 1) := by decide +kernel
theorem dX9_init_88 : decode cX9_init 88 = .ok (.bipush 12, 2) := by decide +kernel
theorem dX9_init_90 : decode cX9_init 90 = .ok (.newarray .int, 2) := by decide +kernel
theorem dX9_init_92 : decode cX9_init 92 = .ok (.putfield 44, 3) := by decide +kernel
theorem dX9_init_95 : decode cX9_init 95 = .ok (.aload_n 0, 1) := by decide +kernel
theorem dX9_init_96 : decode cX9_init 96 = .ok (.bipush 80, 2) := by decide +kernel
theorem dX9_init_98 : decode cX9_init 98 = .ok (.newarray .int, 2) := by decide +kernel
theorem dX9_init_100 : decode cX9_init 100 = .ok (.putfield 47, 3) := by decide +kernel
theorem dX9_init_103 : decode cX9_init 103 = .ok (.aload_n 0, 1) := by decide +kernel
theorem dX9_init_104 : decode cX9_init 104 = .ok (.bipush 41, 2) := by decide +kernel
theorem dX9_init_106 : decode cX9_init 106 = .ok (.newarray .int, 2) := by decide +kernel
theorem dX9_init_108 : decode cX9_init 108 = .ok (.putfield 50, 3) := by decide +kernel
theorem dX9_init_111 : decode cX9_init 111 = .ok (.aload_n 0, 1) := by decide +kernel
theorem dX9_init_112 : decode cX9_init 112 = .ok (.bipush 41, 2) := by decide +kernel
theorem dX9_init_114 : decode cX9_init 114 = .ok (.newarray .int, 2) := by decide +kernel
theorem dX9_init_116 : decode cX9_init 116 = .ok (.putfield 53, 3) := by decide +kernel
theorem dX9_init_119 : decode cX9_init 119 = .ok (.aload_n 0, 1) := by decide +kernel
theorem dX9_init_120 : decode cX9_init 120 = .ok (.bipush 41, 2) := by decide +kernel
theorem dX9_init_122 : decode cX9_init 122 = .ok (.newarray .int, 2) := by decide +kernel
theorem dX9_init_124 : decode cX9_init 124 = .ok (.putfield 56, 3) := by decide +kernel
theorem dX9_init_127 : decode cX9_init 127 = .ok (.aload_n 0, 1) := by decide +kernel
theorem dX9_init_128 : decode cX9_init 128 = .ok (.bipush 41, 2) := by decide +kernel
theorem dX9_init_130 : decode cX9_init 130 = .ok (.newarray .int, 2) := by decide +kernel
theorem dX9_init_132 : decode cX9_init 132 = .ok (.putfield 59, 3) := by decide +kernel
theorem dX9_init_135 : decode cX9_init 135 = .ok (.aload_n 0, 1) := by decide +kernel
theorem dX9_init_136 : decode cX9_init 136 = .ok (.bipush 41, 2) := by decide +kernel
theorem dX9_init_138 : decode cX9_init 138 = .ok (.newarray .int, 2) := by decide +kernel
theorem dX9_init_140 : decode cX9_init 140 = .ok (.putfield 62, 3) := by decide +kernel
theorem dX9_init_143 : decode cX9_init 143 = .ok (.aload_n 0, 1) := by decide +kernel
theorem dX9_init_144 : decode cX9_init 144 = .ok (.bipush 41, 2) := by decide +kernel
theorem dX9_init_146 : decode cX9_init 146 = .ok (.newarray .int, 2) := by decide +kernel
theorem dX9_init_148 : decode cX9_init 148 = .ok (.putfield 65, 3) := by decide +kernel
theorem dX9_init_151 : decode cX9_init 151 = .ok (.aload_n 0, 1) := by decide +kernel
theorem dX9_init_152 : decode cX9_init 152 = .ok (.sipush 200, 3) := by decide +kernel
theorem dX9_init_155 : decode cX9_init 155 = .ok (.newarray .int, 2) := by decide +kernel
theorem dX9_init_157 : decode cX9_init 157 = .ok (.putfield 68, 3) := by decide +kernel
theorem dX9_init_160 : decode cX9_init 160 = .ok (.aload_n 0, 1) := by decide +kernel
theorem dX9_init_161 : decode cX9_init 161 = .ok (.sipush 1024, 3) := by decide +kernel
theorem dX9_init_164 : decode cX9_init 164 = .ok (.newarray .int, 2) := by decide +kernel
theorem dX9_init_166 : decode cX9_init 166 = .ok (.putfield 71, 3) := by decide +kernel
theorem dX9_init_169 : decode cX9_init 169 = .ok (.aload_n 0, 1) := by decide +kernel
theorem dX9_init_170 : decode cX9_init 170 = .ok (.bipush 16, 2) := by decide +kernel
theorem dX9_init_172 : decode cX9_init 172 = .ok (.newarray .int, 2) := by decide +kernel
theorem dX9_init_174 : decode cX9_init 174 = .ok (.putfield 74, 3) := by decide +kernel
theorem dX9_init_177 : decode cX9_init 177 = .ok (.aload_n 0, 1) := by decide +kernel
theorem dX9_init_178 : decode cX9_init 178 = .ok (.sipush 486, 3) := by decide +kernel
theorem dX9_init_181 : decode cX9_init 181 = .ok (.newarray .int, 2) := by decide +kernel
theorem dX9_init_183 : decode cX9_init 183 = .ok (.putfield 77, 3) := by decide +kernel
theorem dX9_init_186 : decode cX9_init 186 = .ok (.aload_n 0, 1) := by decide +kernel
theorem dX9_init_187 : decode cX9_init 187 = .ok (.sipush 486, 3) := by decide +kernel
theorem dX9_init_190 : decode cX9_init 190 = .ok (.newarray .int, 2) := by decide +kernel
theorem dX9_init_192 : decode cX9_init 192 = .ok (.putfield 80, 3) := by decide +kernel
theorem dX9_init_195 : decode cX9_init 195 = .ok (.aload_n 0, 1) := by decide +kernel
theorem dX9_init_196 : decode cX9_init 196 = .ok (.bipush 10, 2) := by decide +kernel
theorem dX9_init_198 : decode cX9_init 198 = .ok (.newarray .int, 2) := by decide +kernel
theorem dX9_init_200 : decode cX9_init 200 = .ok (.putfield 83, 3) := by decide +kernel
theorem dX9_init_203 : decode cX9_init 203 = .ok (.aload_n 0, 1) := by decide +kernel
theorem dX9_init_204 : decode cX9_init 204 = .ok (.bipush 66, 2) := by decide +kernel
theorem dX9_init_206 : decode cX9_init 206 = .ok (.newarray .int, 2) := by decide +kernel
theorem dX9_init_208 : decode cX9_init 208 = .ok (.putfield 86, 3) := by decide +kernel
theorem dX9_init_211 : decode cX9_init 211 = .ok (.return_, 1) := by decide +kernel
theorem dX9_no_0 : decode cX9_no 0 = .ok (.aload_n 0, 1) := by decide +kernel
theorem dX9_no_1 : decode cX9_no 1 = .ok (.getfield 7, 3) := by decide +kernel
theorem dX9_no_4 : decode cX9_no 4 = .ok (.iload_n 1, 1) := by decide +kernel
theorem dX9_no_5 : decode cX9_no 5 = .ok (.ineg, 1) := by decide +kernel
theorem dX9_no_6 : decode cX9_no 6 = .ok (.dup2, 1) := by decide +kernel
theorem dX9_no_7 : decode cX9_no 7 = .ok (.iaload, 1) := by decide +kernel
theorem dX9_no_8 : decode cX9_no 8 = .ok (.iconst 1, 1) := by decide +kernel
theorem dX9_no_9 : decode cX9_no 9 = .ok (.iadd, 1) := by decide +kernel
theorem dX9_no_10 : decode cX9_no 10 = .ok (.iastore, 1) := by decide +kernel
theorem dX9_no_11 : decode cX9_no 11 = .ok (.iload_n 1, 1) := by decide +kernel
theorem dX9_no_12 : decode cX9_no 12 = .ok (.ireturn, 1) := by decide +kernel
theorem dX9_isIn_0 : decode cX9_isIn 0 = .ok (.iload_n 0, 1) := by decide +kernel
theorem dX9_isIn_1 : decode cX9_isIn 1 = .ok (.iload_n 1, 1) := by decide +kernel
theorem dX9_isIn_2 : decode cX9_isIn 2 = .ok (.if_icmp .lt 12, 3) := by decide +kernel
theorem dX9_isIn_5 : decode cX9_isIn 5 = .ok (.iload_n 0, 1) := by decide +kernel
theorem dX9_isIn_6 : decode cX9_isIn 6 = .ok (.iload_n 2, 1) := by decide +kernel
theorem dX9_isIn_7 : decode cX9_isIn 7 = .ok (.if_icmp .gt 7, 3) := by decide +kernel
theorem dX9_isIn_10 : decode cX9_isIn 10 = .ok (.iconst 1, 1) := by decide +kernel
theorem dX9_isIn_11 : decode cX9_isIn 11 = .ok (.goto 4, 3) := by decide +kernel
theorem dX9_isIn_14 : decode cX9_isIn 14 = .ok (.iconst 0, 1) := by decide +kernel
theorem dX9_isIn_15 : decode cX9_isIn 15 = .ok (.ireturn, 1) := by decide +kernel
theorem dX9_bound_0 : decode cX9_bound 0 = .ok (.iload_n 0, 1) := by decide +kernel
theorem dX9_bound_1 : decode cX9_bound 1 = .ok (.iload_n 1, 1) := by decide +kernel
theorem dX9_bound_2 : decode cX9_bound 2 = .ok (.if_icmp .ge 8, 3) := by decide +kernel
theorem dX9_bound_5 : decode cX9_bound 5 = .ok (.bipush (-4), 2) := by decide +kernel
theorem dX9_bound_7 : decode cX9_bound 7 = .ok (.goto 14, 3) := by decide +kernel
theorem dX9_bound_10 : decode cX9_bound 10 = .ok (.iload_n 0, 1) := by decide +kernel
theorem dX9_bound_11 : decode cX9_bound 11 = .ok (.iload_n 2, 1) := by decide +kernel
theorem dX9_bound_12 : decode cX9_bound 12 = .ok (.if_icmp .le 8, 3) := by decide +kernel
theorem dX9_bound_15 : decode cX9_bound 15 = .ok (.bipush (-6), 2) := by decide +kernel
theorem dX9_bound_17 : decode cX9_bound 17 = .ok (.goto 4, 3) := by decide +kernel
theorem dX9_bound_20 : decode cX9_bound 20 = .ok (.iconst 0, 1) := by decide +kernel
theorem dX9_bound_21 : decode cX9_bound 21 = .ok (.ireturn, 1) := by decide +kernel
theorem dX9_isPlace_0 : decode cX9_isPlace 0 = .ok (.iload_n 1, 1) := by decide +kernel
theorem dX9_isPlace_1 : decode cX9_isPlace 1 = .ok (.ifCond .lt 15, 3) := by decide +kernel
theorem dX9_isPlace_4 : decode cX9_isPlace 4 = .ok (.iload_n 1, 1) := by decide +kernel
theorem dX9_isPlace_5 : decode cX9_isPlace 5 = .ok (.aload_n 0, 1) := by decide +kernel
theorem dX9_isPlace_6 : decode cX9_isPlace 6 = .ok (.getfield 34, 3) := by decide +kernel
theorem dX9_isPlace_9 : decode cX9_isPlace 9 = .ok (.if_icmp .ge 7, 3) := by decide +kernel
theorem dX9_isPlace_12 : decode cX9_isPlace 12 = .ok (.iconst 1, 1) := by decide +kernel
theorem dX9_isPlace_13 : decode cX9_isPlace 13 = .ok (.goto 4, 3) := by decide +kernel
theorem dX9_isPlace_16 : decode cX9_isPlace 16 = .ok (.iconst 0, 1) := by decide +kernel
theorem dX9_isPlace_17 : decode cX9_isPlace 17 = .ok (.ireturn, 1) := by decide +kernel
theorem dX9_isFact_0 : decode cX9_isFact 0 = .ok (.iload_n 1, 1) := by decide +kernel
theorem dX9_isFact_1 : decode cX9_isFact 1 = .ok (.ifCond .lt 15, 3) := by decide +kernel
theorem dX9_isFact_4 : decode cX9_isFact 4 = .ok (.iload_n 1, 1) := by decide +kernel
theorem dX9_isFact_5 : decode cX9_isFact 5 = .ok (.aload_n 0, 1) := by decide +kernel
theorem dX9_isFact_6 : decode cX9_isFact 6 = .ok (.getfield 89, 3) := by decide +kernel
theorem dX9_isFact_9 : decode cX9_isFact 9 = .ok (.if_icmp .ge 7, 3) := by decide +kernel
theorem dX9_isFact_12 : decode cX9_isFact 12 = .ok (.iconst 1, 1) := by decide +kernel
theorem dX9_isFact_13 : decode cX9_isFact 13 = .ok (.goto 4, 3) := by decide +kernel
theorem dX9_isFact_16 : decode cX9_isFact 16 = .ok (.iconst 0, 1) := by decide +kernel
theorem dX9_isFact_17 : decode cX9_isFact 17 = .ok (.ireturn, 1) := by decide +kernel
theorem dX9_isSign_0 : decode cX9_isSign 0 = .ok (.iload_n 1, 1) := by decide +kernel
theorem dX9_isSign_1 : decode cX9_isSign 1 = .ok (.ifCond .lt 15, 3) := by decide +kernel
theorem dX9_isSign_4 : decode cX9_isSign 4 = .ok (.iload_n 1, 1) := by decide +kernel
theorem dX9_isSign_5 : decode cX9_isSign 5 = .ok (.aload_n 0, 1) := by decide +kernel
theorem dX9_isSign_6 : decode cX9_isSign 6 = .ok (.getfield 92, 3) := by decide +kernel
theorem dX9_isSign_9 : decode cX9_isSign 9 = .ok (.if_icmp .ge 7, 3) := by decide +kernel
theorem dX9_isSign_12 : decode cX9_isSign 12 = .ok (.iconst 1, 1) := by decide +kernel
theorem dX9_isSign_13 : decode cX9_isSign 13 = .ok (.goto 4, 3) := by decide +kernel
theorem dX9_isSign_16 : decode cX9_isSign 16 = .ok (.iconst 0, 1) := by decide +kernel
theorem dX9_isSign_17 : decode cX9_isSign 17 = .ok (.ireturn, 1) := by decide +kernel
theorem dX9_letter_0 : decode cX9_letter 0 = .ok (.iload_n 1, 1) := by decide +kernel
theorem dX9_letter_1 : decode cX9_letter 1 = .ok (.iconst 0, 1) := by decide +kernel
theorem dX9_letter_2 : decode cX9_letter 2 = .ok (.sipush 255, 3) := by decide +kernel
theorem dX9_letter_5 : decode cX9_letter 5 = .ok (.invokestatic 95, 3) := by decide +kernel
theorem dX9_letter_8 : decode cX9_letter 8 = .ok (.istore_n 2, 1) := by decide +kernel
theorem dX9_letter_9 : decode cX9_letter 9 = .ok (.iload_n 2, 1) := by decide +kernel
theorem dX9_letter_10 : decode cX9_letter 10 = .ok (.ifCond .ne 15, 3) := by decide +kernel
theorem dX9_letter_13 : decode cX9_letter 13 = .ok (.aload_n 0, 1) := by decide +kernel
theorem dX9_letter_14 : decode cX9_letter 14 = .ok (.getfield 99, 3) := by decide +kernel
theorem dX9_letter_17 : decode cX9_letter 17 = .ok (.bipush 80, 2) := by decide +kernel
theorem dX9_letter_19 : decode cX9_letter 19 = .ok (.if_icmp .ne 6, 3) := by decide +kernel
theorem dX9_letter_22 : decode cX9_letter 22 = .ok (.bipush (-6), 2) := by decide +kernel
theorem dX9_letter_24 : decode cX9_letter 24 = .ok (.istore_n 2, 1) := by decide +kernel
theorem dX9_letter_25 : decode cX9_letter 25 = .ok (.iload_n 2, 1) := by decide +kernel
theorem dX9_letter_26 : decode cX9_letter 26 = .ok (.ifCond .eq 9, 3) := by decide +kernel
theorem dX9_letter_29 : decode cX9_letter 29 = .ok (.aload_n 0, 1) := by decide +kernel
theorem dX9_letter_30 : decode cX9_letter 30 = .ok (.iload_n 2, 1) := by decide +kernel
theorem dX9_letter_31 : decode cX9_letter 31 = .ok (.invokevirtual 102, 3) := by decide +kernel
theorem dX9_letter_34 : decode cX9_letter 34 = .ok (.ireturn, 1) := by decide +kernel
theorem dX9_letter_35 : decode cX9_letter 35 = .ok (.aload_n 0, 1) := by decide +kernel
theorem dX9_letter_36 : decode cX9_letter 36 = .ok (.getfield 47, 3) := by decide +kernel
theorem dX9_letter_39 : decode cX9_letter 39 = .ok (.aload_n 0, 1) := by decide +kernel
theorem dX9_letter_40 : decode cX9_letter 40 = .ok (.getfield 99, 3) := by decide +kernel
theorem dX9_letter_43 : decode cX9_letter 43 = .ok (.iload_n 1, 1) := by decide +kernel
theorem dX9_letter_44 : decode cX9_letter 44 = .ok (.iastore, 1) := by decide +kernel
theorem dX9_letter_45 : decode cX9_letter 45 = .ok (.aload_n 0, 1) := by decide +kernel
theorem dX9_letter_46 : decode cX9_letter 46 = .ok (.dup, 1) := by decide +kernel
theorem dX9_letter_47 : decode cX9_letter 47 = .ok (.getfield 99, 3) := by decide +kernel
theorem dX9_letter_50 : decode cX9_letter 50 = .ok (.iconst 1, 1) := by decide +kernel
theorem dX9_letter_51 : decode cX9_letter 51 = .ok (.iadd, 1) := by decide +kernel
theorem dX9_letter_52 : decode cX9_letter 52 = .ok (.putfield 99, 3) := by decide +kernel
theorem dX9_letter_55 : decode cX9_letter 55 = .ok (.aload_n 0, 1) := by decide +kernel
theorem dX9_letter_56 : decode cX9_letter 56 = .ok (.getfield 99, 3) := by decide +kernel
theorem dX9_letter_59 : decode cX9_letter 59 = .ok (.ireturn, 1) := by decide +kernel
theorem dX9_nextLetter_0 : decode cX9_nextLetter 0 = .ok (.aload_n 0, 1) := by decide +kernel
theorem dX9_nextLetter_1 : decode cX9_nextLetter 1 = .ok (.getfield 106, 3) := by decide +kernel
theorem dX9_nextLetter_4 : decode cX9_nextLetter 4 = .ok (.aload_n 0, 1) := by decide +kernel
theorem dX9_nextLetter_5 : decode cX9_nextLetter 5 = .ok (.getfield 99, 3) := by decide +kernel
theorem dX9_nextLetter_8 : decode cX9_nextLetter 8 = .ok (.if_icmp .ge 15, 3) := by decide +kernel
theorem dX9_nextLetter_11 : decode cX9_nextLetter 11 = .ok (.aload_n 0, 1) := by decide +kernel
theorem dX9_nextLetter_12 : decode cX9_nextLetter 12 = .ok (.getfield 47, 3) := by decide +kernel
theorem dX9_nextLetter_15 : decode cX9_nextLetter 15 = .ok (.aload_n 0, 1) := by decide +kernel
theorem dX9_nextLetter_16 : decode cX9_nextLetter 16 = .ok (.getfield 106, 3) := by decide +kernel
theorem dX9_nextLetter_19 : decode cX9_nextLetter 19 = .ok (.iaload, 1) := by decide +kernel
theorem dX9_nextLetter_20 : decode cX9_nextLetter 20 = .ok (.goto 4, 3) := by decide +kernel
theorem dX9_nextLetter_23 : decode cX9_nextLetter 23 = .ok (.iconst (-1), 1) := by decide +kernel
theorem dX9_nextLetter_24 : decode cX9_nextLetter 24 = .ok (.ireturn, 1) := by decide +kernel
theorem dX9_digit_0 : decode cX9_digit 0 = .ok (.aload_n 0, 1) := by decide +kernel
theorem dX9_digit_1 : decode cX9_digit 1 = .ok (.invokevirtual 109, 3) := by decide +kernel
theorem dX9_digit_4 : decode cX9_digit 4 = .ok (.bipush 48, 2) := by decide +kernel
theorem dX9_digit_6 : decode cX9_digit 6 = .ok (.bipush 57, 2) := by decide +kernel
theorem dX9_digit_8 : decode cX9_digit 8 = .ok (.invokestatic 113, 3) := by decide +kernel
theorem dX9_digit_11 : decode cX9_digit 11 = .ok (.ifCond .ne 5, 3) := by decide +kernel
theorem dX9_digit_14 : decode cX9_digit 14 = .ok (.iconst (-1), 1) := by decide +kernel
theorem dX9_digit_15 : decode cX9_digit 15 = .ok (.ireturn, 1) := by decide +kernel
theorem dX9_digit_16 : decode cX9_digit 16 = .ok (.aload_n 0, 1) := by decide +kernel
theorem dX9_digit_17 : decode cX9_digit 17 = .ok (.dup, 1) := by decide +kernel
theorem dX9_digit_18 : decode cX9_digit 18 = .ok (.getfield 106, 3) := by decide +kernel
theorem dX9_digit_21 : decode cX9_digit 21 = .ok (.iconst 1, 1) := by decide +kernel
theorem dX9_digit_22 : decode cX9_digit 22 = .ok (.iadd, 1) := by decide +kernel
theorem dX9_digit_23 : decode cX9_digit 23 = .ok (.putfield 106, 3) := by decide +kernel
theorem dX9_digit_26 : decode cX9_digit 26 = .ok (.aload_n 0, 1) := by decide +kernel
theorem dX9_digit_27 : decode cX9_digit 27 = .ok (.getfield 47, 3) := by decide +kernel
theorem dX9_digit_30 : decode cX9_digit 30 = .ok (.aload_n 0, 1) := by decide +kernel
theorem dX9_digit_31 : decode cX9_digit 31 = .ok (.getfield 106, 3) := by decide +kernel
theorem dX9_digit_34 : decode cX9_digit 34 = .ok (.iconst 1, 1) := by decide +kernel
theorem dX9_digit_35 : decode cX9_digit 35 = .ok (.isub, 1) := by decide +kernel
theorem dX9_digit_36 : decode cX9_digit 36 = .ok (.iaload, 1) := by decide +kernel
theorem dX9_digit_37 : decode cX9_digit 37 = .ok (.bipush 48, 2) := by decide +kernel
theorem dX9_digit_39 : decode cX9_digit 39 = .ok (.isub, 1) := by decide +kernel
theorem dX9_digit_40 : decode cX9_digit 40 = .ok (.ireturn, 1) := by decide +kernel
theorem dX9_kindOf_0 : decode cX9_kindOf 0 = .ok (.iload_n 0, 1) := by decide +kernel
theorem dX9_kindOf_1 : decode cX9_kindOf 1 = .ok (.tableswitch 126 97 120 #[115, 126, 126, 126, 126, 111, 126, 126, 126, 123, 126, 126, 126, 113, 117, 126, 126, 126, 126, 126, 126, 126, 121, 119], 111) := by decide +kernel
theorem dX9_kindOf_112 : decode cX9_kindOf 112 = .ok (.iconst 0, 1) := by decide +kernel
theorem dX9_kindOf_113 : decode cX9_kindOf 113 = .ok (.ireturn, 1) := by decide +kernel
theorem dX9_kindOf_114 : decode cX9_kindOf 114 = .ok (.iconst 1, 1) := by decide +kernel
theorem dX9_kindOf_115 : decode cX9_kindOf 115 = .ok (.ireturn, 1) := by decide +kernel
theorem dX9_kindOf_116 : decode cX9_kindOf 116 = .ok (.iconst 2, 1) := by decide +kernel
theorem dX9_kindOf_117 : decode cX9_kindOf 117 = .ok (.ireturn, 1) := by decide +kernel
theorem dX9_kindOf_118 : decode cX9_kindOf 118 = .ok (.iconst 3, 1) := by decide +kernel
theorem dX9_kindOf_119 : decode cX9_kindOf 119 = .ok (.ireturn, 1) := by decide +kernel
theorem dX9_kindOf_120 : decode cX9_kindOf 120 = .ok (.iconst 4, 1) := by decide +kernel
theorem dX9_kindOf_121 : decode cX9_kindOf 121 = .ok (.ireturn, 1) := by decide +kernel
theorem dX9_kindOf_122 : decode cX9_kindOf 122 = .ok (.iconst 5, 1) := by decide +kernel
theorem dX9_kindOf_123 : decode cX9_kindOf 123 = .ok (.ireturn, 1) := by decide +kernel
theorem dX9_kindOf_124 : decode cX9_kindOf 124 = .ok (.bipush 6, 2) := by decide +kernel
theorem dX9_kindOf_126 : decode cX9_kindOf 126 = .ok (.ireturn, 1) := by decide +kernel
theorem dX9_kindOf_127 : decode cX9_kindOf 127 = .ok (.iconst (-1), 1) := by decide +kernel
theorem dX9_kindOf_128 : decode cX9_kindOf 128 = .ok (.ireturn, 1) := by decide +kernel
theorem dX9_readsSign_0 : decode cX9_readsSign 0 = .ok (.aload_n 0, 1) := by decide +kernel
theorem dX9_readsSign_1 : decode cX9_readsSign 1 = .ok (.getfield 56, 3) := by decide +kernel
theorem dX9_readsSign_4 : decode cX9_readsSign 4 = .ok (.iload_n 1, 1) := by decide +kernel
theorem dX9_readsSign_5 : decode cX9_readsSign 5 = .ok (.aload_n 0, 1) := by decide +kernel
theorem dX9_readsSign_6 : decode cX9_readsSign 6 = .ok (.invokevirtual 117, 3) := by decide +kernel
theorem dX9_readsSign_9 : decode cX9_readsSign 9 = .ok (.iastore, 1) := by decide +kernel
theorem dX9_readsSign_10 : decode cX9_readsSign 10 = .ok (.aload_n 0, 1) := by decide +kernel
theorem dX9_readsSign_11 : decode cX9_readsSign 11 = .ok (.getfield 56, 3) := by decide +kernel
theorem dX9_readsSign_14 : decode cX9_readsSign 14 = .ok (.iload_n 1, 1) := by decide +kernel
theorem dX9_readsSign_15 : decode cX9_readsSign 15 = .ok (.iaload, 1) := by decide +kernel
theorem dX9_readsSign_16 : decode cX9_readsSign 16 = .ok (.ifCond .ge 5, 3) := by decide +kernel
theorem dX9_readsSign_19 : decode cX9_readsSign 19 = .ok (.iconst 0, 1) := by decide +kernel
theorem dX9_readsSign_20 : decode cX9_readsSign 20 = .ok (.ireturn, 1) := by decide +kernel
theorem dX9_readsSign_21 : decode cX9_readsSign 21 = .ok (.aload_n 0, 1) := by decide +kernel
theorem dX9_readsSign_22 : decode cX9_readsSign 22 = .ok (.getfield 59, 3) := by decide +kernel
theorem dX9_readsSign_25 : decode cX9_readsSign 25 = .ok (.iload_n 1, 1) := by decide +kernel
theorem dX9_readsSign_26 : decode cX9_readsSign 26 = .ok (.aload_n 0, 1) := by decide +kernel
theorem dX9_readsSign_27 : decode cX9_readsSign 27 = .ok (.invokevirtual 109, 3) := by decide +kernel
theorem dX9_readsSign_30 : decode cX9_readsSign 30 = .ok (.invokestatic 120, 3) := by decide +kernel
theorem dX9_readsSign_33 : decode cX9_readsSign 33 = .ok (.iastore, 1) := by decide +kernel
theorem dX9_readsSign_34 : decode cX9_readsSign 34 = .ok (.aload_n 0, 1) := by decide +kernel
theorem dX9_readsSign_35 : decode cX9_readsSign 35 = .ok (.getfield 59, 3) := by decide +kernel
theorem dX9_readsSign_38 : decode cX9_readsSign 38 = .ok (.iload_n 1, 1) := by decide +kernel
theorem dX9_readsSign_39 : decode cX9_readsSign 39 = .ok (.iaload, 1) := by decide +kernel
theorem dX9_readsSign_40 : decode cX9_readsSign 40 = .ok (.ifCond .ge 5, 3) := by decide +kernel
theorem dX9_readsSign_43 : decode cX9_readsSign 43 = .ok (.iconst 0, 1) := by decide +kernel
theorem dX9_readsSign_44 : decode cX9_readsSign 44 = .ok (.ireturn, 1) := by decide +kernel
theorem dX9_readsSign_45 : decode cX9_readsSign 45 = .ok (.aload_n 0, 1) := by decide +kernel
theorem dX9_readsSign_46 : decode cX9_readsSign 46 = .ok (.dup, 1) := by decide +kernel
theorem dX9_readsSign_47 : decode cX9_readsSign 47 = .ok (.getfield 106, 3) := by decide +kernel
theorem dX9_readsSign_50 : decode cX9_readsSign 50 = .ok (.iconst 1, 1) := by decide +kernel
theorem dX9_readsSign_51 : decode cX9_readsSign 51 = .ok (.iadd, 1) := by decide +kernel
theorem dX9_readsSign_52 : decode cX9_readsSign 52 = .ok (.putfield 106, 3) := by decide +kernel
theorem dX9_readsSign_55 : decode cX9_readsSign 55 = .ok (.aload_n 0, 1) := by decide +kernel
theorem dX9_readsSign_56 : decode cX9_readsSign 56 = .ok (.getfield 62, 3) := by decide +kernel
theorem dX9_readsSign_59 : decode cX9_readsSign 59 = .ok (.iload_n 1, 1) := by decide +kernel
theorem dX9_readsSign_60 : decode cX9_readsSign 60 = .ok (.aload_n 0, 1) := by decide +kernel
theorem dX9_readsSign_61 : decode cX9_readsSign 61 = .ok (.invokevirtual 117, 3) := by decide +kernel
theorem dX9_readsSign_64 : decode cX9_readsSign 64 = .ok (.iastore, 1) := by decide +kernel
theorem dX9_readsSign_65 : decode cX9_readsSign 65 = .ok (.aload_n 0, 1) := by decide +kernel
theorem dX9_readsSign_66 : decode cX9_readsSign 66 = .ok (.getfield 62, 3) := by decide +kernel
theorem dX9_readsSign_69 : decode cX9_readsSign 69 = .ok (.iload_n 1, 1) := by decide +kernel
theorem dX9_readsSign_70 : decode cX9_readsSign 70 = .ok (.iaload, 1) := by decide +kernel
theorem dX9_readsSign_71 : decode cX9_readsSign 71 = .ok (.ifCond .ge 5, 3) := by decide +kernel
theorem dX9_readsSign_74 : decode cX9_readsSign 74 = .ok (.iconst 0, 1) := by decide +kernel
theorem dX9_readsSign_75 : decode cX9_readsSign 75 = .ok (.ireturn, 1) := by decide +kernel
theorem dX9_readsSign_76 : decode cX9_readsSign 76 = .ok (.aload_n 0, 1) := by decide +kernel
theorem dX9_readsSign_77 : decode cX9_readsSign 77 = .ok (.getfield 65, 3) := by decide +kernel
theorem dX9_readsSign_80 : decode cX9_readsSign 80 = .ok (.iload_n 1, 1) := by decide +kernel
theorem dX9_readsSign_81 : decode cX9_readsSign 81 = .ok (.aload_n 0, 1) := by decide +kernel
theorem dX9_readsSign_82 : decode cX9_readsSign 82 = .ok (.invokevirtual 117, 3) := by decide +kernel
theorem dX9_readsSign_85 : decode cX9_readsSign 85 = .ok (.iastore, 1) := by decide +kernel
theorem dX9_readsSign_86 : decode cX9_readsSign 86 = .ok (.aload_n 0, 1) := by decide +kernel
theorem dX9_readsSign_87 : decode cX9_readsSign 87 = .ok (.getfield 65, 3) := by decide +kernel
theorem dX9_readsSign_90 : decode cX9_readsSign 90 = .ok (.iload_n 1, 1) := by decide +kernel
theorem dX9_readsSign_91 : decode cX9_readsSign 91 = .ok (.iaload, 1) := by decide +kernel
theorem dX9_readsSign_92 : decode cX9_readsSign 92 = .ok (.ifCond .lt 7, 3) := by decide +kernel
theorem dX9_readsSign_95 : decode cX9_readsSign 95 = .ok (.iconst 1, 1) := by decide +kernel
theorem dX9_readsSign_96 : decode cX9_readsSign 96 = .ok (.goto 4, 3) := by decide +kernel
theorem dX9_readsSign_99 : decode cX9_readsSign 99 = .ok (.iconst 0, 1) := by decide +kernel
theorem dX9_readsSign_100 : decode cX9_readsSign 100 = .ok (.ireturn, 1) := by decide +kernel
theorem dX9_readsDigits_0 : decode cX9_readsDigits 0 = .ok (.aload_n 0, 1) := by decide +kernel
theorem dX9_readsDigits_1 : decode cX9_readsDigits 1 = .ok (.getfield 56, 3) := by decide +kernel
theorem dX9_readsDigits_4 : decode cX9_readsDigits 4 = .ok (.iload_n 1, 1) := by decide +kernel
theorem dX9_readsDigits_5 : decode cX9_readsDigits 5 = .ok (.iload_n 2, 1) := by decide +kernel
theorem dX9_readsDigits_6 : decode cX9_readsDigits 6 = .ok (.ifCond .le 10, 3) := by decide +kernel
theorem dX9_readsDigits_9 : decode cX9_readsDigits 9 = .ok (.aload_n 0, 1) := by decide +kernel
theorem dX9_readsDigits_10 : decode cX9_readsDigits 10 = .ok (.invokevirtual 117, 3) := by decide +kernel
theorem dX9_readsDigits_13 : decode cX9_readsDigits 13 = .ok (.goto 4, 3) := by decide +kernel
theorem dX9_readsDigits_16 : decode cX9_readsDigits 16 = .ok (.iconst 0, 1) := by decide +kernel
theorem dX9_readsDigits_17 : decode cX9_readsDigits 17 = .ok (.iastore, 1) := by decide +kernel
theorem dX9_readsDigits_18 : decode cX9_readsDigits 18 = .ok (.aload_n 0, 1) := by decide +kernel
theorem dX9_readsDigits_19 : decode cX9_readsDigits 19 = .ok (.getfield 56, 3) := by decide +kernel
theorem dX9_readsDigits_22 : decode cX9_readsDigits 22 = .ok (.iload_n 1, 1) := by decide +kernel
theorem dX9_readsDigits_23 : decode cX9_readsDigits 23 = .ok (.iaload, 1) := by decide +kernel
theorem dX9_readsDigits_24 : decode cX9_readsDigits 24 = .ok (.ifCond .ge 5, 3) := by decide +kernel
theorem dX9_readsDigits_27 : decode cX9_readsDigits 27 = .ok (.iconst 0, 1) := by decide +kernel
theorem dX9_readsDigits_28 : decode cX9_readsDigits 28 = .ok (.ireturn, 1) := by decide +kernel
theorem dX9_readsDigits_29 : decode cX9_readsDigits 29 = .ok (.aload_n 0, 1) := by decide +kernel
theorem dX9_readsDigits_30 : decode cX9_readsDigits 30 = .ok (.getfield 59, 3) := by decide +kernel
theorem dX9_readsDigits_33 : decode cX9_readsDigits 33 = .ok (.iload_n 1, 1) := by decide +kernel
theorem dX9_readsDigits_34 : decode cX9_readsDigits 34 = .ok (.iload_n 2, 1) := by decide +kernel
theorem dX9_readsDigits_35 : decode cX9_readsDigits 35 = .ok (.iconst 1, 1) := by decide +kernel
theorem dX9_readsDigits_36 : decode cX9_readsDigits 36 = .ok (.if_icmp .le 10, 3) := by decide +kernel
theorem dX9_readsDigits_39 : decode cX9_readsDigits 39 = .ok (.aload_n 0, 1) := by decide +kernel
theorem dX9_readsDigits_40 : decode cX9_readsDigits 40 = .ok (.invokevirtual 117, 3) := by decide +kernel
theorem dX9_readsDigits_43 : decode cX9_readsDigits 43 = .ok (.goto 4, 3) := by decide +kernel
theorem dX9_readsDigits_46 : decode cX9_readsDigits 46 = .ok (.iconst 0, 1) := by decide +kernel
theorem dX9_readsDigits_47 : decode cX9_readsDigits 47 = .ok (.iastore, 1) := by decide +kernel
theorem dX9_readsDigits_48 : decode cX9_readsDigits 48 = .ok (.aload_n 0, 1) := by decide +kernel
theorem dX9_readsDigits_49 : decode cX9_readsDigits 49 = .ok (.getfield 59, 3) := by decide +kernel
theorem dX9_readsDigits_52 : decode cX9_readsDigits 52 = .ok (.iload_n 1, 1) := by decide +kernel
theorem dX9_readsDigits_53 : decode cX9_readsDigits 53 = .ok (.iaload, 1) := by decide +kernel
theorem dX9_readsDigits_54 : decode cX9_readsDigits 54 = .ok (.ifCond .ge 5, 3) := by decide +kernel
theorem dX9_readsDigits_57 : decode cX9_readsDigits 57 = .ok (.iconst 0, 1) := by decide +kernel
theorem dX9_readsDigits_58 : decode cX9_readsDigits 58 = .ok (.ireturn, 1) := by decide +kernel
theorem dX9_readsDigits_59 : decode cX9_readsDigits 59 = .ok (.aload_n 0, 1) := by decide +kernel
theorem dX9_readsDigits_60 : decode cX9_readsDigits 60 = .ok (.getfield 62, 3) := by decide +kernel
theorem dX9_readsDigits_63 : decode cX9_readsDigits 63 = .ok (.iload_n 1, 1) := by decide +kernel
theorem dX9_readsDigits_64 : decode cX9_readsDigits 64 = .ok (.iload_n 2, 1) := by decide +kernel
theorem dX9_readsDigits_65 : decode cX9_readsDigits 65 = .ok (.iconst 2, 1) := by decide +kernel
theorem dX9_readsDigits_66 : decode cX9_readsDigits 66 = .ok (.if_icmp .le 10, 3) := by decide +kernel
theorem dX9_readsDigits_69 : decode cX9_readsDigits 69 = .ok (.aload_n 0, 1) := by decide +kernel
theorem dX9_readsDigits_70 : decode cX9_readsDigits 70 = .ok (.invokevirtual 117, 3) := by decide +kernel
theorem dX9_readsDigits_73 : decode cX9_readsDigits 73 = .ok (.goto 4, 3) := by decide +kernel
theorem dX9_readsDigits_76 : decode cX9_readsDigits 76 = .ok (.iconst 0, 1) := by decide +kernel
theorem dX9_readsDigits_77 : decode cX9_readsDigits 77 = .ok (.iastore, 1) := by decide +kernel
theorem dX9_readsDigits_78 : decode cX9_readsDigits 78 = .ok (.aload_n 0, 1) := by decide +kernel
theorem dX9_readsDigits_79 : decode cX9_readsDigits 79 = .ok (.getfield 62, 3) := by decide +kernel
theorem dX9_readsDigits_82 : decode cX9_readsDigits 82 = .ok (.iload_n 1, 1) := by decide +kernel
theorem dX9_readsDigits_83 : decode cX9_readsDigits 83 = .ok (.iaload, 1) := by decide +kernel
theorem dX9_readsDigits_84 : decode cX9_readsDigits 84 = .ok (.ifCond .lt 7, 3) := by decide +kernel
theorem dX9_readsDigits_87 : decode cX9_readsDigits 87 = .ok (.iconst 1, 1) := by decide +kernel
theorem dX9_readsDigits_88 : decode cX9_readsDigits 88 = .ok (.goto 4, 3) := by decide +kernel
theorem dX9_readsDigits_91 : decode cX9_readsDigits 91 = .ok (.iconst 0, 1) := by decide +kernel
theorem dX9_readsDigits_92 : decode cX9_readsDigits 92 = .ok (.ireturn, 1) := by decide +kernel
theorem dX9_digitsOf_0 : decode cX9_digitsOf 0 = .ok (.iload_n 0, 1) := by decide +kernel
theorem dX9_digitsOf_1 : decode cX9_digitsOf 1 = .ok (.tableswitch 81 102 115 #[75, 81, 81, 77, 81, 81, 73, 81, 71, 81, 81, 81, 73, 79], 71) := by decide +kernel
theorem dX9_digitsOf_72 : decode cX9_digitsOf 72 = .ok (.iconst 1, 1) := by decide +kernel
theorem dX9_digitsOf_73 : decode cX9_digitsOf 73 = .ok (.ireturn, 1) := by decide +kernel
theorem dX9_digitsOf_74 : decode cX9_digitsOf 74 = .ok (.iconst 2, 1) := by decide +kernel
theorem dX9_digitsOf_75 : decode cX9_digitsOf 75 = .ok (.ireturn, 1) := by decide +kernel
theorem dX9_digitsOf_76 : decode cX9_digitsOf 76 = .ok (.iconst 0, 1) := by decide +kernel
theorem dX9_digitsOf_77 : decode cX9_digitsOf 77 = .ok (.ireturn, 1) := by decide +kernel
theorem dX9_digitsOf_78 : decode cX9_digitsOf 78 = .ok (.iconst 3, 1) := by decide +kernel
theorem dX9_digitsOf_79 : decode cX9_digitsOf 79 = .ok (.ireturn, 1) := by decide +kernel
theorem dX9_digitsOf_80 : decode cX9_digitsOf 80 = .ok (.iconst 4, 1) := by decide +kernel
theorem dX9_digitsOf_81 : decode cX9_digitsOf 81 = .ok (.ireturn, 1) := by decide +kernel
theorem dX9_digitsOf_82 : decode cX9_digitsOf 82 = .ok (.iconst (-1), 1) := by decide +kernel
theorem dX9_digitsOf_83 : decode cX9_digitsOf 83 = .ok (.ireturn, 1) := by decide +kernel
theorem dX9_statement_0 : decode cX9_statement 0 = .ok (.aload_n 0, 1) := by decide +kernel
theorem dX9_statement_1 : decode cX9_statement 1 = .ok (.getfield 123, 3) := by decide +kernel
theorem dX9_statement_4 : decode cX9_statement 4 = .ok (.istore_n 1, 1) := by decide +kernel
theorem dX9_statement_5 : decode cX9_statement 5 = .ok (.aload_n 0, 1) := by decide +kernel
theorem dX9_statement_6 : decode cX9_statement 6 = .ok (.invokevirtual 109, 3) := by decide +kernel
theorem dX9_statement_9 : decode cX9_statement 9 = .ok (.invokestatic 126, 3) := by decide +kernel
theorem dX9_statement_12 : decode cX9_statement 12 = .ok (.istore_n 2, 1) := by decide +kernel
theorem dX9_statement_13 : decode cX9_statement 13 = .ok (.iload_n 2, 1) := by decide +kernel
theorem dX9_statement_14 : decode cX9_statement 14 = .ok (.ifCond .ge 5, 3) := by decide +kernel
theorem dX9_statement_17 : decode cX9_statement 17 = .ok (.iconst 0, 1) := by decide +kernel
theorem dX9_statement_18 : decode cX9_statement 18 = .ok (.ireturn, 1) := by decide +kernel
theorem dX9_statement_19 : decode cX9_statement 19 = .ok (.aload_n 0, 1) := by decide +kernel
theorem dX9_statement_20 : decode cX9_statement 20 = .ok (.getfield 50, 3) := by decide +kernel
theorem dX9_statement_23 : decode cX9_statement 23 = .ok (.iload_n 1, 1) := by decide +kernel
theorem dX9_statement_24 : decode cX9_statement 24 = .ok (.aload_n 0, 1) := by decide +kernel
theorem dX9_statement_25 : decode cX9_statement 25 = .ok (.invokevirtual 109, 3) := by decide +kernel
theorem dX9_statement_28 : decode cX9_statement 28 = .ok (.iastore, 1) := by decide +kernel
theorem dX9_statement_29 : decode cX9_statement 29 = .ok (.aload_n 0, 1) := by decide +kernel
theorem dX9_statement_30 : decode cX9_statement 30 = .ok (.getfield 53, 3) := by decide +kernel
theorem dX9_statement_33 : decode cX9_statement 33 = .ok (.iload_n 1, 1) := by decide +kernel
theorem dX9_statement_34 : decode cX9_statement 34 = .ok (.aload_n 0, 1) := by decide +kernel
theorem dX9_statement_35 : decode cX9_statement 35 = .ok (.getfield 106, 3) := by decide +kernel
theorem dX9_statement_38 : decode cX9_statement 38 = .ok (.iastore, 1) := by decide +kernel
theorem dX9_statement_39 : decode cX9_statement 39 = .ok (.aload_n 0, 1) := by decide +kernel
theorem dX9_statement_40 : decode cX9_statement 40 = .ok (.dup, 1) := by decide +kernel
theorem dX9_statement_41 : decode cX9_statement 41 = .ok (.getfield 106, 3) := by decide +kernel
theorem dX9_statement_44 : decode cX9_statement 44 = .ok (.iconst 1, 1) := by decide +kernel
theorem dX9_statement_45 : decode cX9_statement 45 = .ok (.iadd, 1) := by decide +kernel
theorem dX9_statement_46 : decode cX9_statement 46 = .ok (.putfield 106, 3) := by decide +kernel
theorem dX9_statement_49 : decode cX9_statement 49 = .ok (.iload_n 2, 1) := by decide +kernel
theorem dX9_statement_50 : decode cX9_statement 50 = .ok (.iconst 4, 1) := by decide +kernel
theorem dX9_statement_51 : decode cX9_statement 51 = .ok (.if_icmp .ne 14, 3) := by decide +kernel
theorem dX9_statement_54 : decode cX9_statement 54 = .ok (.aload_n 0, 1) := by decide +kernel
theorem dX9_statement_55 : decode cX9_statement 55 = .ok (.iload_n 1, 1) := by decide +kernel
theorem dX9_statement_56 : decode cX9_statement 56 = .ok (.invokevirtual 129, 3) := by decide +kernel
theorem dX9_statement_59 : decode cX9_statement 59 = .ok (.ifCond .eq 24, 3) := by decide +kernel
theorem dX9_statement_62 : decode cX9_statement 62 = .ok (.goto 12, 3) := by decide +kernel
theorem dX9_statement_65 : decode cX9_statement 65 = .ok (.aload_n 0, 1) := by decide +kernel
theorem dX9_statement_66 : decode cX9_statement 66 = .ok (.iload_n 1, 1) := by decide +kernel
theorem dX9_statement_67 : decode cX9_statement 67 = .ok (.iload_n 2, 1) := by decide +kernel
theorem dX9_statement_68 : decode cX9_statement 68 = .ok (.invokevirtual 133, 3) := by decide +kernel
theorem dX9_statement_71 : decode cX9_statement 71 = .ok (.ifCond .eq 12, 3) := by decide +kernel
theorem dX9_statement_74 : decode cX9_statement 74 = .ok (.aload_n 0, 1) := by decide +kernel
theorem dX9_statement_75 : decode cX9_statement 75 = .ok (.invokevirtual 109, 3) := by decide +kernel
theorem dX9_statement_78 : decode cX9_statement 78 = .ok (.bipush 59, 2) := by decide +kernel
theorem dX9_statement_80 : decode cX9_statement 80 = .ok (.if_icmp .eq 5, 3) := by decide +kernel
theorem dX9_statement_83 : decode cX9_statement 83 = .ok (.iconst 0, 1) := by decide +kernel
theorem dX9_statement_84 : decode cX9_statement 84 = .ok (.ireturn, 1) := by decide +kernel
theorem dX9_statement_85 : decode cX9_statement 85 = .ok (.aload_n 0, 1) := by decide +kernel
theorem dX9_statement_86 : decode cX9_statement 86 = .ok (.dup, 1) := by decide +kernel
theorem dX9_statement_87 : decode cX9_statement 87 = .ok (.getfield 106, 3) := by decide +kernel
theorem dX9_statement_90 : decode cX9_statement 90 = .ok (.iconst 1, 1) := by decide +kernel
theorem dX9_statement_91 : decode cX9_statement 91 = .ok (.iadd, 1) := by decide +kernel
theorem dX9_statement_92 : decode cX9_statement 92 = .ok (.putfield 106, 3) := by decide +kernel
theorem dX9_statement_95 : decode cX9_statement 95 = .ok (.iconst 1, 1) := by decide +kernel
theorem dX9_statement_96 : decode cX9_statement 96 = .ok (.ireturn, 1) := by decide +kernel
theorem dX9_toldPlaces_0 : decode cX9_toldPlaces 0 = .ok (.iconst 0, 1) := by decide +kernel
theorem dX9_toldPlaces_1 : decode cX9_toldPlaces 1 = .ok (.istore_n 1, 1) := by decide +kernel
theorem dX9_toldPlaces_2 : decode cX9_toldPlaces 2 = .ok (.iconst 0, 1) := by decide +kernel
theorem dX9_toldPlaces_3 : decode cX9_toldPlaces 3 = .ok (.istore_n 2, 1) := by decide +kernel
theorem dX9_toldPlaces_4 : decode cX9_toldPlaces 4 = .ok (.iload_n 2, 1) := by decide +kernel
theorem dX9_toldPlaces_5 : decode cX9_toldPlaces 5 = .ok (.aload_n 0, 1) := by decide +kernel
theorem dX9_toldPlaces_6 : decode cX9_toldPlaces 6 = .ok (.getfield 137, 3) := by decide +kernel
theorem dX9_toldPlaces_9 : decode cX9_toldPlaces 9 = .ok (.if_icmp .ge 55, 3) := by decide +kernel
theorem dX9_toldPlaces_12 : decode cX9_toldPlaces 12 = .ok (.aload_n 0, 1) := by decide +kernel
theorem dX9_toldPlaces_13 : decode cX9_toldPlaces 13 = .ok (.getfield 13, 3) := by decide +kernel
theorem dX9_toldPlaces_16 : decode cX9_toldPlaces 16 = .ok (.iload_n 2, 1) := by decide +kernel
theorem dX9_toldPlaces_17 : decode cX9_toldPlaces 17 = .ok (.iaload, 1) := by decide +kernel
theorem dX9_toldPlaces_18 : decode cX9_toldPlaces 18 = .ok (.iload_n 1, 1) := by decide +kernel
theorem dX9_toldPlaces_19 : decode cX9_toldPlaces 19 = .ok (.if_icmp .lt 14, 3) := by decide +kernel
theorem dX9_toldPlaces_22 : decode cX9_toldPlaces 22 = .ok (.aload_n 0, 1) := by decide +kernel
theorem dX9_toldPlaces_23 : decode cX9_toldPlaces 23 = .ok (.getfield 13, 3) := by decide +kernel
theorem dX9_toldPlaces_26 : decode cX9_toldPlaces 26 = .ok (.iload_n 2, 1) := by decide +kernel
theorem dX9_toldPlaces_27 : decode cX9_toldPlaces 27 = .ok (.iaload, 1) := by decide +kernel
theorem dX9_toldPlaces_28 : decode cX9_toldPlaces 28 = .ok (.iconst 1, 1) := by decide +kernel
theorem dX9_toldPlaces_29 : decode cX9_toldPlaces 29 = .ok (.iadd, 1) := by decide +kernel
theorem dX9_toldPlaces_30 : decode cX9_toldPlaces 30 = .ok (.goto 4, 3) := by decide +kernel
theorem dX9_toldPlaces_33 : decode cX9_toldPlaces 33 = .ok (.iload_n 1, 1) := by decide +kernel
theorem dX9_toldPlaces_34 : decode cX9_toldPlaces 34 = .ok (.istore_n 1, 1) := by decide +kernel
theorem dX9_toldPlaces_35 : decode cX9_toldPlaces 35 = .ok (.aload_n 0, 1) := by decide +kernel
theorem dX9_toldPlaces_36 : decode cX9_toldPlaces 36 = .ok (.getfield 16, 3) := by decide +kernel
theorem dX9_toldPlaces_39 : decode cX9_toldPlaces 39 = .ok (.iload_n 2, 1) := by decide +kernel
theorem dX9_toldPlaces_40 : decode cX9_toldPlaces 40 = .ok (.iaload, 1) := by decide +kernel
theorem dX9_toldPlaces_41 : decode cX9_toldPlaces 41 = .ok (.iload_n 1, 1) := by decide +kernel
theorem dX9_toldPlaces_42 : decode cX9_toldPlaces 42 = .ok (.if_icmp .lt 14, 3) := by decide +kernel
theorem dX9_toldPlaces_45 : decode cX9_toldPlaces 45 = .ok (.aload_n 0, 1) := by decide +kernel
theorem dX9_toldPlaces_46 : decode cX9_toldPlaces 46 = .ok (.getfield 16, 3) := by decide +kernel
theorem dX9_toldPlaces_49 : decode cX9_toldPlaces 49 = .ok (.iload_n 2, 1) := by decide +kernel
theorem dX9_toldPlaces_50 : decode cX9_toldPlaces 50 = .ok (.iaload, 1) := by decide +kernel
theorem dX9_toldPlaces_51 : decode cX9_toldPlaces 51 = .ok (.iconst 1, 1) := by decide +kernel
theorem dX9_toldPlaces_52 : decode cX9_toldPlaces 52 = .ok (.iadd, 1) := by decide +kernel
theorem dX9_toldPlaces_53 : decode cX9_toldPlaces 53 = .ok (.goto 4, 3) := by decide +kernel
theorem dX9_toldPlaces_56 : decode cX9_toldPlaces 56 = .ok (.iload_n 1, 1) := by decide +kernel
theorem dX9_toldPlaces_57 : decode cX9_toldPlaces 57 = .ok (.istore_n 1, 1) := by decide +kernel
theorem dX9_toldPlaces_58 : decode cX9_toldPlaces 58 = .ok (.iinc 2 1, 3) := by decide +kernel
theorem dX9_toldPlaces_61 : decode cX9_toldPlaces 61 = .ok (.goto (-57), 3) := by decide +kernel
theorem dX9_toldPlaces_64 : decode cX9_toldPlaces 64 = .ok (.iconst 0, 1) := by decide +kernel
theorem dX9_toldPlaces_65 : decode cX9_toldPlaces 65 = .ok (.istore_n 2, 1) := by decide +kernel
theorem dX9_toldPlaces_66 : decode cX9_toldPlaces 66 = .ok (.iload_n 2, 1) := by decide +kernel
theorem dX9_toldPlaces_67 : decode cX9_toldPlaces 67 = .ok (.bipush 6, 2) := by decide +kernel
theorem dX9_toldPlaces_69 : decode cX9_toldPlaces 69 = .ok (.if_icmp .ge 31, 3) := by decide +kernel
theorem dX9_toldPlaces_72 : decode cX9_toldPlaces 72 = .ok (.aload_n 0, 1) := by decide +kernel
theorem dX9_toldPlaces_73 : decode cX9_toldPlaces 73 = .ok (.getfield 31, 3) := by decide +kernel
theorem dX9_toldPlaces_76 : decode cX9_toldPlaces 76 = .ok (.iload_n 2, 1) := by decide +kernel
theorem dX9_toldPlaces_77 : decode cX9_toldPlaces 77 = .ok (.iaload, 1) := by decide +kernel
theorem dX9_toldPlaces_78 : decode cX9_toldPlaces 78 = .ok (.ifCond .eq 14, 3) := by decide +kernel
theorem dX9_toldPlaces_81 : decode cX9_toldPlaces 81 = .ok (.iload_n 2, 1) := by decide +kernel
theorem dX9_toldPlaces_82 : decode cX9_toldPlaces 82 = .ok (.iload_n 1, 1) := by decide +kernel
theorem dX9_toldPlaces_83 : decode cX9_toldPlaces 83 = .ok (.if_icmp .lt 9, 3) := by decide +kernel
theorem dX9_toldPlaces_86 : decode cX9_toldPlaces 86 = .ok (.iload_n 2, 1) := by decide +kernel
theorem dX9_toldPlaces_87 : decode cX9_toldPlaces 87 = .ok (.iconst 1, 1) := by decide +kernel
theorem dX9_toldPlaces_88 : decode cX9_toldPlaces 88 = .ok (.iadd, 1) := by decide +kernel
theorem dX9_toldPlaces_89 : decode cX9_toldPlaces 89 = .ok (.goto 4, 3) := by decide +kernel
theorem dX9_toldPlaces_92 : decode cX9_toldPlaces 92 = .ok (.iload_n 1, 1) := by decide +kernel
theorem dX9_toldPlaces_93 : decode cX9_toldPlaces 93 = .ok (.istore_n 1, 1) := by decide +kernel
theorem dX9_toldPlaces_94 : decode cX9_toldPlaces 94 = .ok (.iinc 2 1, 3) := by decide +kernel
theorem dX9_toldPlaces_97 : decode cX9_toldPlaces 97 = .ok (.goto (-31), 3) := by decide +kernel
theorem dX9_toldPlaces_100 : decode cX9_toldPlaces 100 = .ok (.aload_n 0, 1) := by decide +kernel
theorem dX9_toldPlaces_101 : decode cX9_toldPlaces 101 = .ok (.getfield 38, 3) := by decide +kernel
theorem dX9_toldPlaces_104 : decode cX9_toldPlaces 104 = .ok (.ifCond .lt 41, 3) := by decide +kernel
theorem dX9_toldPlaces_107 : decode cX9_toldPlaces 107 = .ok (.aload_n 0, 1) := by decide +kernel
theorem dX9_toldPlaces_108 : decode cX9_toldPlaces 108 = .ok (.getfield 140, 3) := by decide +kernel
theorem dX9_toldPlaces_111 : decode cX9_toldPlaces 111 = .ok (.iload_n 1, 1) := by decide +kernel
theorem dX9_toldPlaces_112 : decode cX9_toldPlaces 112 = .ok (.if_icmp .lt 12, 3) := by decide +kernel
theorem dX9_toldPlaces_115 : decode cX9_toldPlaces 115 = .ok (.aload_n 0, 1) := by decide +kernel
theorem dX9_toldPlaces_116 : decode cX9_toldPlaces 116 = .ok (.getfield 140, 3) := by decide +kernel
theorem dX9_toldPlaces_119 : decode cX9_toldPlaces 119 = .ok (.iconst 1, 1) := by decide +kernel
theorem dX9_toldPlaces_120 : decode cX9_toldPlaces 120 = .ok (.iadd, 1) := by decide +kernel
theorem dX9_toldPlaces_121 : decode cX9_toldPlaces 121 = .ok (.goto 4, 3) := by decide +kernel
theorem dX9_toldPlaces_124 : decode cX9_toldPlaces 124 = .ok (.iload_n 1, 1) := by decide +kernel
theorem dX9_toldPlaces_125 : decode cX9_toldPlaces 125 = .ok (.istore_n 1, 1) := by decide +kernel
theorem dX9_toldPlaces_126 : decode cX9_toldPlaces 126 = .ok (.aload_n 0, 1) := by decide +kernel
theorem dX9_toldPlaces_127 : decode cX9_toldPlaces 127 = .ok (.getfield 143, 3) := by decide +kernel
theorem dX9_toldPlaces_130 : decode cX9_toldPlaces 130 = .ok (.iload_n 1, 1) := by decide +kernel
theorem dX9_toldPlaces_131 : decode cX9_toldPlaces 131 = .ok (.if_icmp .lt 12, 3) := by decide +kernel
theorem dX9_toldPlaces_134 : decode cX9_toldPlaces 134 = .ok (.aload_n 0, 1) := by decide +kernel
theorem dX9_toldPlaces_135 : decode cX9_toldPlaces 135 = .ok (.getfield 143, 3) := by decide +kernel
theorem dX9_toldPlaces_138 : decode cX9_toldPlaces 138 = .ok (.iconst 1, 1) := by decide +kernel
theorem dX9_toldPlaces_139 : decode cX9_toldPlaces 139 = .ok (.iadd, 1) := by decide +kernel
theorem dX9_toldPlaces_140 : decode cX9_toldPlaces 140 = .ok (.goto 4, 3) := by decide +kernel
theorem dX9_toldPlaces_143 : decode cX9_toldPlaces 143 = .ok (.iload_n 1, 1) := by decide +kernel
theorem dX9_toldPlaces_144 : decode cX9_toldPlaces 144 = .ok (.istore_n 1, 1) := by decide +kernel
theorem dX9_toldPlaces_145 : decode cX9_toldPlaces 145 = .ok (.iload_n 1, 1) := by decide +kernel
theorem dX9_toldPlaces_146 : decode cX9_toldPlaces 146 = .ok (.ireturn, 1) := by decide +kernel
theorem dX9_maySay_0 : decode cX9_maySay 0 = .ok (.iload_n 1, 1) := by decide +kernel
theorem dX9_maySay_1 : decode cX9_maySay 1 = .ok (.iconst 2, 1) := by decide +kernel
theorem dX9_maySay_2 : decode cX9_maySay 2 = .ok (.if_icmp .ge 9, 3) := by decide +kernel
theorem dX9_maySay_5 : decode cX9_maySay 5 = .ok (.aload_n 0, 1) := by decide +kernel
theorem dX9_maySay_6 : decode cX9_maySay 6 = .ok (.iload_n 2, 1) := by decide +kernel
theorem dX9_maySay_7 : decode cX9_maySay 7 = .ok (.invokevirtual 146, 3) := by decide +kernel
theorem dX9_maySay_10 : decode cX9_maySay 10 = .ok (.ireturn, 1) := by decide +kernel
theorem dX9_maySay_11 : decode cX9_maySay 11 = .ok (.iload_n 1, 1) := by decide +kernel
theorem dX9_maySay_12 : decode cX9_maySay 12 = .ok (.iconst 5, 1) := by decide +kernel
theorem dX9_maySay_13 : decode cX9_maySay 13 = .ok (.if_icmp .ge 25, 3) := by decide +kernel
theorem dX9_maySay_16 : decode cX9_maySay 16 = .ok (.aload_n 0, 1) := by decide +kernel
theorem dX9_maySay_17 : decode cX9_maySay 17 = .ok (.iload_n 2, 1) := by decide +kernel
theorem dX9_maySay_18 : decode cX9_maySay 18 = .ok (.invokevirtual 146, 3) := by decide +kernel
theorem dX9_maySay_21 : decode cX9_maySay 21 = .ok (.ifCond .eq 15, 3) := by decide +kernel
theorem dX9_maySay_24 : decode cX9_maySay 24 = .ok (.aload_n 0, 1) := by decide +kernel
theorem dX9_maySay_25 : decode cX9_maySay 25 = .ok (.iload_n 3, 1) := by decide +kernel
theorem dX9_maySay_26 : decode cX9_maySay 26 = .ok (.invokevirtual 146, 3) := by decide +kernel
theorem dX9_maySay_29 : decode cX9_maySay 29 = .ok (.ifCond .eq 7, 3) := by decide +kernel
theorem dX9_maySay_32 : decode cX9_maySay 32 = .ok (.iconst 1, 1) := by decide +kernel
theorem dX9_maySay_33 : decode cX9_maySay 33 = .ok (.goto 4, 3) := by decide +kernel
theorem dX9_maySay_36 : decode cX9_maySay 36 = .ok (.iconst 0, 1) := by decide +kernel
theorem dX9_maySay_37 : decode cX9_maySay 37 = .ok (.ireturn, 1) := by decide +kernel
theorem dX9_maySay_38 : decode cX9_maySay 38 = .ok (.iload_n 1, 1) := by decide +kernel
theorem dX9_maySay_39 : decode cX9_maySay 39 = .ok (.bipush 6, 2) := by decide +kernel
theorem dX9_maySay_41 : decode cX9_maySay 41 = .ok (.if_icmp .eq 11, 3) := by decide +kernel
theorem dX9_maySay_44 : decode cX9_maySay 44 = .ok (.iload_n 2, 1) := by decide +kernel
theorem dX9_maySay_45 : decode cX9_maySay 45 = .ok (.aload_n 0, 1) := by decide +kernel
theorem dX9_maySay_46 : decode cX9_maySay 46 = .ok (.getfield 92, 3) := by decide +kernel
theorem dX9_maySay_49 : decode cX9_maySay 49 = .ok (.if_icmp .gt 7, 3) := by decide +kernel
theorem dX9_maySay_52 : decode cX9_maySay 52 = .ok (.iconst 1, 1) := by decide +kernel
theorem dX9_maySay_53 : decode cX9_maySay 53 = .ok (.goto 4, 3) := by decide +kernel
theorem dX9_maySay_56 : decode cX9_maySay 56 = .ok (.iconst 0, 1) := by decide +kernel
theorem dX9_maySay_57 : decode cX9_maySay 57 = .ok (.ireturn, 1) := by decide +kernel
theorem dX9_comesSign_0 : decode cX9_comesSign 0 = .ok (.aload_n 0, 1) := by decide +kernel
theorem dX9_comesSign_1 : decode cX9_comesSign 1 = .ok (.getfield 56, 3) := by decide +kernel
theorem dX9_comesSign_4 : decode cX9_comesSign 4 = .ok (.iload_n 1, 1) := by decide +kernel
theorem dX9_comesSign_5 : decode cX9_comesSign 5 = .ok (.iaload, 1) := by decide +kernel
theorem dX9_comesSign_6 : decode cX9_comesSign 6 = .ok (.aload_n 0, 1) := by decide +kernel
theorem dX9_comesSign_7 : decode cX9_comesSign 7 = .ok (.getfield 137, 3) := by decide +kernel
theorem dX9_comesSign_10 : decode cX9_comesSign 10 = .ok (.if_icmp .ge 37, 3) := by decide +kernel
theorem dX9_comesSign_13 : decode cX9_comesSign 13 = .ok (.aload_n 0, 1) := by decide +kernel
theorem dX9_comesSign_14 : decode cX9_comesSign 14 = .ok (.getfield 92, 3) := by decide +kernel
theorem dX9_comesSign_17 : decode cX9_comesSign 17 = .ok (.bipush 6, 2) := by decide +kernel
theorem dX9_comesSign_19 : decode cX9_comesSign 19 = .ok (.if_icmp .eq 28, 3) := by decide +kernel
theorem dX9_comesSign_22 : decode cX9_comesSign 22 = .ok (.aload_n 0, 1) := by decide +kernel
theorem dX9_comesSign_23 : decode cX9_comesSign 23 = .ok (.aload_n 0, 1) := by decide +kernel
theorem dX9_comesSign_24 : decode cX9_comesSign 24 = .ok (.getfield 59, 3) := by decide +kernel
theorem dX9_comesSign_27 : decode cX9_comesSign 27 = .ok (.iload_n 1, 1) := by decide +kernel
theorem dX9_comesSign_28 : decode cX9_comesSign 28 = .ok (.iaload, 1) := by decide +kernel
theorem dX9_comesSign_29 : decode cX9_comesSign 29 = .ok (.aload_n 0, 1) := by decide +kernel
theorem dX9_comesSign_30 : decode cX9_comesSign 30 = .ok (.getfield 62, 3) := by decide +kernel
theorem dX9_comesSign_33 : decode cX9_comesSign 33 = .ok (.iload_n 1, 1) := by decide +kernel
theorem dX9_comesSign_34 : decode cX9_comesSign 34 = .ok (.iaload, 1) := by decide +kernel
theorem dX9_comesSign_35 : decode cX9_comesSign 35 = .ok (.aload_n 0, 1) := by decide +kernel
theorem dX9_comesSign_36 : decode cX9_comesSign 36 = .ok (.getfield 65, 3) := by decide +kernel
theorem dX9_comesSign_39 : decode cX9_comesSign 39 = .ok (.iload_n 1, 1) := by decide +kernel
theorem dX9_comesSign_40 : decode cX9_comesSign 40 = .ok (.iaload, 1) := by decide +kernel
theorem dX9_comesSign_41 : decode cX9_comesSign 41 = .ok (.invokevirtual 149, 3) := by decide +kernel
theorem dX9_comesSign_44 : decode cX9_comesSign 44 = .ok (.ifCond .ne 5, 3) := by decide +kernel
theorem dX9_comesSign_47 : decode cX9_comesSign 47 = .ok (.iconst 0, 1) := by decide +kernel
theorem dX9_comesSign_48 : decode cX9_comesSign 48 = .ok (.ireturn, 1) := by decide +kernel
theorem dX9_comesSign_49 : decode cX9_comesSign 49 = .ok (.aload_n 0, 1) := by decide +kernel
theorem dX9_comesSign_50 : decode cX9_comesSign 50 = .ok (.getfield 22, 3) := by decide +kernel
theorem dX9_comesSign_53 : decode cX9_comesSign 53 = .ok (.aload_n 0, 1) := by decide +kernel
theorem dX9_comesSign_54 : decode cX9_comesSign 54 = .ok (.getfield 92, 3) := by decide +kernel
theorem dX9_comesSign_57 : decode cX9_comesSign 57 = .ok (.aload_n 0, 1) := by decide +kernel
theorem dX9_comesSign_58 : decode cX9_comesSign 58 = .ok (.getfield 56, 3) := by decide +kernel
theorem dX9_comesSign_61 : decode cX9_comesSign 61 = .ok (.iload_n 1, 1) := by decide +kernel
theorem dX9_comesSign_62 : decode cX9_comesSign 62 = .ok (.iaload, 1) := by decide +kernel
theorem dX9_comesSign_63 : decode cX9_comesSign 63 = .ok (.iastore, 1) := by decide +kernel
theorem dX9_comesSign_64 : decode cX9_comesSign 64 = .ok (.aload_n 0, 1) := by decide +kernel
theorem dX9_comesSign_65 : decode cX9_comesSign 65 = .ok (.getfield 19, 3) := by decide +kernel
theorem dX9_comesSign_68 : decode cX9_comesSign 68 = .ok (.aload_n 0, 1) := by decide +kernel
theorem dX9_comesSign_69 : decode cX9_comesSign 69 = .ok (.getfield 92, 3) := by decide +kernel
theorem dX9_comesSign_72 : decode cX9_comesSign 72 = .ok (.aload_n 0, 1) := by decide +kernel
theorem dX9_comesSign_73 : decode cX9_comesSign 73 = .ok (.getfield 59, 3) := by decide +kernel
theorem dX9_comesSign_76 : decode cX9_comesSign 76 = .ok (.iload_n 1, 1) := by decide +kernel
theorem dX9_comesSign_77 : decode cX9_comesSign 77 = .ok (.iaload, 1) := by decide +kernel
theorem dX9_comesSign_78 : decode cX9_comesSign 78 = .ok (.iastore, 1) := by decide +kernel
theorem dX9_comesSign_79 : decode cX9_comesSign 79 = .ok (.aload_n 0, 1) := by decide +kernel
theorem dX9_comesSign_80 : decode cX9_comesSign 80 = .ok (.getfield 25, 3) := by decide +kernel
theorem dX9_comesSign_83 : decode cX9_comesSign 83 = .ok (.aload_n 0, 1) := by decide +kernel
theorem dX9_comesSign_84 : decode cX9_comesSign 84 = .ok (.getfield 92, 3) := by decide +kernel
theorem dX9_comesSign_87 : decode cX9_comesSign 87 = .ok (.aload_n 0, 1) := by decide +kernel
theorem dX9_comesSign_88 : decode cX9_comesSign 88 = .ok (.getfield 62, 3) := by decide +kernel
theorem dX9_comesSign_91 : decode cX9_comesSign 91 = .ok (.iload_n 1, 1) := by decide +kernel
theorem dX9_comesSign_92 : decode cX9_comesSign 92 = .ok (.iaload, 1) := by decide +kernel
theorem dX9_comesSign_93 : decode cX9_comesSign 93 = .ok (.iastore, 1) := by decide +kernel
theorem dX9_comesSign_94 : decode cX9_comesSign 94 = .ok (.aload_n 0, 1) := by decide +kernel
theorem dX9_comesSign_95 : decode cX9_comesSign 95 = .ok (.getfield 28, 3) := by decide +kernel
theorem dX9_comesSign_98 : decode cX9_comesSign 98 = .ok (.aload_n 0, 1) := by decide +kernel
theorem dX9_comesSign_99 : decode cX9_comesSign 99 = .ok (.getfield 92, 3) := by decide +kernel
theorem dX9_comesSign_102 : decode cX9_comesSign 102 = .ok (.aload_n 0, 1) := by decide +kernel
theorem dX9_comesSign_103 : decode cX9_comesSign 103 = .ok (.getfield 65, 3) := by decide +kernel
theorem dX9_comesSign_106 : decode cX9_comesSign 106 = .ok (.iload_n 1, 1) := by decide +kernel
theorem dX9_comesSign_107 : decode cX9_comesSign 107 = .ok (.iaload, 1) := by decide +kernel
theorem dX9_comesSign_108 : decode cX9_comesSign 108 = .ok (.iastore, 1) := by decide +kernel
theorem dX9_comesSign_109 : decode cX9_comesSign 109 = .ok (.aload_n 0, 1) := by decide +kernel
theorem dX9_comesSign_110 : decode cX9_comesSign 110 = .ok (.dup, 1) := by decide +kernel
theorem dX9_comesSign_111 : decode cX9_comesSign 111 = .ok (.getfield 92, 3) := by decide +kernel
theorem dX9_comesSign_114 : decode cX9_comesSign 114 = .ok (.iconst 1, 1) := by decide +kernel
theorem dX9_comesSign_115 : decode cX9_comesSign 115 = .ok (.iadd, 1) := by decide +kernel
theorem dX9_comesSign_116 : decode cX9_comesSign 116 = .ok (.putfield 92, 3) := by decide +kernel
theorem dX9_comesSign_119 : decode cX9_comesSign 119 = .ok (.iconst 1, 1) := by decide +kernel
theorem dX9_comesSign_120 : decode cX9_comesSign 120 = .ok (.ireturn, 1) := by decide +kernel
theorem dX9_comes_0 : decode cX9_comes 0 = .ok (.aload_n 0, 1) := by decide +kernel
theorem dX9_comes_1 : decode cX9_comes 1 = .ok (.getfield 50, 3) := by decide +kernel
theorem dX9_comes_4 : decode cX9_comes 4 = .ok (.iload_n 1, 1) := by decide +kernel
theorem dX9_comes_5 : decode cX9_comes 5 = .ok (.iaload, 1) := by decide +kernel
theorem dX9_comes_6 : decode cX9_comes 6 = .ok (.tableswitch 288 102 115 #[206, 288, 288, 288, 288, 288, 236, 288, 70, 288, 288, 288, 112, 230], 70) := by decide +kernel
theorem dX9_comes_76 : decode cX9_comes 76 = .ok (.aload_n 0, 1) := by decide +kernel
theorem dX9_comes_77 : decode cX9_comes 77 = .ok (.getfield 56, 3) := by decide +kernel
theorem dX9_comes_80 : decode cX9_comes 80 = .ok (.iload_n 1, 1) := by decide +kernel
theorem dX9_comes_81 : decode cX9_comes 81 = .ok (.iaload, 1) := by decide +kernel
theorem dX9_comes_82 : decode cX9_comes 82 = .ok (.iconst 2, 1) := by decide +kernel
theorem dX9_comes_83 : decode cX9_comes 83 = .ok (.bipush 6, 2) := by decide +kernel
theorem dX9_comes_85 : decode cX9_comes 85 = .ok (.invokestatic 113, 3) := by decide +kernel
theorem dX9_comes_88 : decode cX9_comes 88 = .ok (.ifCond .eq 16, 3) := by decide +kernel
theorem dX9_comes_91 : decode cX9_comes 91 = .ok (.aload_n 0, 1) := by decide +kernel
theorem dX9_comes_92 : decode cX9_comes 92 = .ok (.getfield 56, 3) := by decide +kernel
theorem dX9_comes_95 : decode cX9_comes 95 = .ok (.iload_n 1, 1) := by decide +kernel
theorem dX9_comes_96 : decode cX9_comes 96 = .ok (.iaload, 1) := by decide +kernel
theorem dX9_comes_97 : decode cX9_comes 97 = .ok (.aload_n 0, 1) := by decide +kernel
theorem dX9_comes_98 : decode cX9_comes 98 = .ok (.invokevirtual 152, 3) := by decide +kernel
theorem dX9_comes_101 : decode cX9_comes 101 = .ok (.if_icmp .ge 5, 3) := by decide +kernel
theorem dX9_comes_104 : decode cX9_comes 104 = .ok (.iconst 0, 1) := by decide +kernel
theorem dX9_comes_105 : decode cX9_comes 105 = .ok (.ireturn, 1) := by decide +kernel
theorem dX9_comes_106 : decode cX9_comes 106 = .ok (.aload_n 0, 1) := by decide +kernel
theorem dX9_comes_107 : decode cX9_comes 107 = .ok (.aload_n 0, 1) := by decide +kernel
theorem dX9_comes_108 : decode cX9_comes 108 = .ok (.getfield 56, 3) := by decide +kernel
theorem dX9_comes_111 : decode cX9_comes 111 = .ok (.iload_n 1, 1) := by decide +kernel
theorem dX9_comes_112 : decode cX9_comes 112 = .ok (.iaload, 1) := by decide +kernel
theorem dX9_comes_113 : decode cX9_comes 113 = .ok (.putfield 34, 3) := by decide +kernel
theorem dX9_comes_116 : decode cX9_comes 116 = .ok (.iconst 1, 1) := by decide +kernel
theorem dX9_comes_117 : decode cX9_comes 117 = .ok (.ireturn, 1) := by decide +kernel
theorem dX9_comes_118 : decode cX9_comes 118 = .ok (.aload_n 0, 1) := by decide +kernel
theorem dX9_comes_119 : decode cX9_comes 119 = .ok (.aload_n 0, 1) := by decide +kernel
theorem dX9_comes_120 : decode cX9_comes 120 = .ok (.getfield 56, 3) := by decide +kernel
theorem dX9_comes_123 : decode cX9_comes 123 = .ok (.iload_n 1, 1) := by decide +kernel
theorem dX9_comes_124 : decode cX9_comes 124 = .ok (.iaload, 1) := by decide +kernel
theorem dX9_comes_125 : decode cX9_comes 125 = .ok (.invokevirtual 155, 3) := by decide +kernel
theorem dX9_comes_128 : decode cX9_comes 128 = .ok (.ifCond .eq 40, 3) := by decide +kernel
theorem dX9_comes_131 : decode cX9_comes 131 = .ok (.aload_n 0, 1) := by decide +kernel
theorem dX9_comes_132 : decode cX9_comes 132 = .ok (.aload_n 0, 1) := by decide +kernel
theorem dX9_comes_133 : decode cX9_comes 133 = .ok (.getfield 59, 3) := by decide +kernel
theorem dX9_comes_136 : decode cX9_comes 136 = .ok (.iload_n 1, 1) := by decide +kernel
theorem dX9_comes_137 : decode cX9_comes 137 = .ok (.iaload, 1) := by decide +kernel
theorem dX9_comes_138 : decode cX9_comes 138 = .ok (.invokevirtual 155, 3) := by decide +kernel
theorem dX9_comes_141 : decode cX9_comes 141 = .ok (.ifCond .eq 27, 3) := by decide +kernel
theorem dX9_comes_144 : decode cX9_comes 144 = .ok (.aload_n 0, 1) := by decide +kernel
theorem dX9_comes_145 : decode cX9_comes 145 = .ok (.getfield 56, 3) := by decide +kernel
theorem dX9_comes_148 : decode cX9_comes 148 = .ok (.iload_n 1, 1) := by decide +kernel
theorem dX9_comes_149 : decode cX9_comes 149 = .ok (.iaload, 1) := by decide +kernel
theorem dX9_comes_150 : decode cX9_comes 150 = .ok (.aload_n 0, 1) := by decide +kernel
theorem dX9_comes_151 : decode cX9_comes 151 = .ok (.getfield 59, 3) := by decide +kernel
theorem dX9_comes_154 : decode cX9_comes 154 = .ok (.iload_n 1, 1) := by decide +kernel
theorem dX9_comes_155 : decode cX9_comes 155 = .ok (.iaload, 1) := by decide +kernel
theorem dX9_comes_156 : decode cX9_comes 156 = .ok (.if_icmp .eq 12, 3) := by decide +kernel
theorem dX9_comes_159 : decode cX9_comes 159 = .ok (.aload_n 0, 1) := by decide +kernel
theorem dX9_comes_160 : decode cX9_comes 160 = .ok (.getfield 137, 3) := by decide +kernel
theorem dX9_comes_163 : decode cX9_comes 163 = .ok (.bipush 8, 2) := by decide +kernel
theorem dX9_comes_165 : decode cX9_comes 165 = .ok (.if_icmp .ne 5, 3) := by decide +kernel
theorem dX9_comes_168 : decode cX9_comes 168 = .ok (.iconst 0, 1) := by decide +kernel
theorem dX9_comes_169 : decode cX9_comes 169 = .ok (.ireturn, 1) := by decide +kernel
theorem dX9_comes_170 : decode cX9_comes 170 = .ok (.aload_n 0, 1) := by decide +kernel
theorem dX9_comes_171 : decode cX9_comes 171 = .ok (.getfield 13, 3) := by decide +kernel
theorem dX9_comes_174 : decode cX9_comes 174 = .ok (.aload_n 0, 1) := by decide +kernel
theorem dX9_comes_175 : decode cX9_comes 175 = .ok (.getfield 137, 3) := by decide +kernel
theorem dX9_comes_178 : decode cX9_comes 178 = .ok (.aload_n 0, 1) := by decide +kernel
theorem dX9_comes_179 : decode cX9_comes 179 = .ok (.getfield 56, 3) := by decide +kernel
theorem dX9_comes_182 : decode cX9_comes 182 = .ok (.iload_n 1, 1) := by decide +kernel
theorem dX9_comes_183 : decode cX9_comes 183 = .ok (.iaload, 1) := by decide +kernel
theorem dX9_comes_184 : decode cX9_comes 184 = .ok (.iastore, 1) := by decide +kernel
theorem dX9_comes_185 : decode cX9_comes 185 = .ok (.aload_n 0, 1) := by decide +kernel
theorem dX9_comes_186 : decode cX9_comes 186 = .ok (.getfield 16, 3) := by decide +kernel
theorem dX9_comes_189 : decode cX9_comes 189 = .ok (.aload_n 0, 1) := by decide +kernel
theorem dX9_comes_190 : decode cX9_comes 190 = .ok (.getfield 137, 3) := by decide +kernel
theorem dX9_comes_193 : decode cX9_comes 193 = .ok (.aload_n 0, 1) := by decide +kernel
theorem dX9_comes_194 : decode cX9_comes 194 = .ok (.getfield 59, 3) := by decide +kernel
theorem dX9_comes_197 : decode cX9_comes 197 = .ok (.iload_n 1, 1) := by decide +kernel
theorem dX9_comes_198 : decode cX9_comes 198 = .ok (.iaload, 1) := by decide +kernel
theorem dX9_comes_199 : decode cX9_comes 199 = .ok (.iastore, 1) := by decide +kernel
theorem dX9_comes_200 : decode cX9_comes 200 = .ok (.aload_n 0, 1) := by decide +kernel
theorem dX9_comes_201 : decode cX9_comes 201 = .ok (.dup, 1) := by decide +kernel
theorem dX9_comes_202 : decode cX9_comes 202 = .ok (.getfield 137, 3) := by decide +kernel
theorem dX9_comes_205 : decode cX9_comes 205 = .ok (.iconst 1, 1) := by decide +kernel
theorem dX9_comes_206 : decode cX9_comes 206 = .ok (.iadd, 1) := by decide +kernel
theorem dX9_comes_207 : decode cX9_comes 207 = .ok (.putfield 137, 3) := by decide +kernel
theorem dX9_comes_210 : decode cX9_comes 210 = .ok (.iconst 1, 1) := by decide +kernel
theorem dX9_comes_211 : decode cX9_comes 211 = .ok (.ireturn, 1) := by decide +kernel
theorem dX9_comes_212 : decode cX9_comes 212 = .ok (.aload_n 0, 1) := by decide +kernel
theorem dX9_comes_213 : decode cX9_comes 213 = .ok (.dup, 1) := by decide +kernel
theorem dX9_comes_214 : decode cX9_comes 214 = .ok (.getfield 89, 3) := by decide +kernel
theorem dX9_comes_217 : decode cX9_comes 217 = .ok (.iconst 1, 1) := by decide +kernel
theorem dX9_comes_218 : decode cX9_comes 218 = .ok (.iadd, 1) := by decide +kernel
theorem dX9_comes_219 : decode cX9_comes 219 = .ok (.putfield 89, 3) := by decide +kernel
theorem dX9_comes_222 : decode cX9_comes 222 = .ok (.aload_n 0, 1) := by decide +kernel
theorem dX9_comes_223 : decode cX9_comes 223 = .ok (.getfield 89, 3) := by decide +kernel
theorem dX9_comes_226 : decode cX9_comes 226 = .ok (.iconst 4, 1) := by decide +kernel
theorem dX9_comes_227 : decode cX9_comes 227 = .ok (.if_icmp .gt 7, 3) := by decide +kernel
theorem dX9_comes_230 : decode cX9_comes 230 = .ok (.iconst 1, 1) := by decide +kernel
theorem dX9_comes_231 : decode cX9_comes 231 = .ok (.goto 4, 3) := by decide +kernel
theorem dX9_comes_234 : decode cX9_comes 234 = .ok (.iconst 0, 1) := by decide +kernel
theorem dX9_comes_235 : decode cX9_comes 235 = .ok (.ireturn, 1) := by decide +kernel
theorem dX9_comes_236 : decode cX9_comes 236 = .ok (.aload_n 0, 1) := by decide +kernel
theorem dX9_comes_237 : decode cX9_comes 237 = .ok (.iload_n 1, 1) := by decide +kernel
theorem dX9_comes_238 : decode cX9_comes 238 = .ok (.invokevirtual 158, 3) := by decide +kernel
theorem dX9_comes_241 : decode cX9_comes 241 = .ok (.ireturn, 1) := by decide +kernel
theorem dX9_comes_242 : decode cX9_comes 242 = .ok (.aload_n 0, 1) := by decide +kernel
theorem dX9_comes_243 : decode cX9_comes 243 = .ok (.aload_n 0, 1) := by decide +kernel
theorem dX9_comes_244 : decode cX9_comes 244 = .ok (.getfield 56, 3) := by decide +kernel
theorem dX9_comes_247 : decode cX9_comes 247 = .ok (.iload_n 1, 1) := by decide +kernel
theorem dX9_comes_248 : decode cX9_comes 248 = .ok (.iaload, 1) := by decide +kernel
theorem dX9_comes_249 : decode cX9_comes 249 = .ok (.invokevirtual 155, 3) := by decide +kernel
theorem dX9_comes_252 : decode cX9_comes 252 = .ok (.ifCond .eq 16, 3) := by decide +kernel
theorem dX9_comes_255 : decode cX9_comes 255 = .ok (.aload_n 0, 1) := by decide +kernel
theorem dX9_comes_256 : decode cX9_comes 256 = .ok (.aload_n 0, 1) := by decide +kernel
theorem dX9_comes_257 : decode cX9_comes 257 = .ok (.getfield 59, 3) := by decide +kernel
theorem dX9_comes_260 : decode cX9_comes 260 = .ok (.iload_n 1, 1) := by decide +kernel
theorem dX9_comes_261 : decode cX9_comes 261 = .ok (.iaload, 1) := by decide +kernel
theorem dX9_comes_262 : decode cX9_comes 262 = .ok (.invokevirtual 146, 3) := by decide +kernel
theorem dX9_comes_265 : decode cX9_comes 265 = .ok (.ifCond .ne 5, 3) := by decide +kernel
theorem dX9_comes_268 : decode cX9_comes 268 = .ok (.iconst 0, 1) := by decide +kernel
theorem dX9_comes_269 : decode cX9_comes 269 = .ok (.ireturn, 1) := by decide +kernel
theorem dX9_comes_270 : decode cX9_comes 270 = .ok (.aload_n 0, 1) := by decide +kernel
theorem dX9_comes_271 : decode cX9_comes 271 = .ok (.getfield 31, 3) := by decide +kernel
theorem dX9_comes_274 : decode cX9_comes 274 = .ok (.aload_n 0, 1) := by decide +kernel
theorem dX9_comes_275 : decode cX9_comes 275 = .ok (.getfield 56, 3) := by decide +kernel
theorem dX9_comes_278 : decode cX9_comes 278 = .ok (.iload_n 1, 1) := by decide +kernel
theorem dX9_comes_279 : decode cX9_comes 279 = .ok (.iaload, 1) := by decide +kernel
theorem dX9_comes_280 : decode cX9_comes 280 = .ok (.dup2, 1) := by decide +kernel
theorem dX9_comes_281 : decode cX9_comes 281 = .ok (.iaload, 1) := by decide +kernel
theorem dX9_comes_282 : decode cX9_comes 282 = .ok (.iconst 1, 1) := by decide +kernel
theorem dX9_comes_283 : decode cX9_comes 283 = .ok (.aload_n 0, 1) := by decide +kernel
theorem dX9_comes_284 : decode cX9_comes 284 = .ok (.getfield 59, 3) := by decide +kernel
theorem dX9_comes_287 : decode cX9_comes 287 = .ok (.iload_n 1, 1) := by decide +kernel
theorem dX9_comes_288 : decode cX9_comes 288 = .ok (.iaload, 1) := by decide +kernel
theorem dX9_comes_289 : decode cX9_comes 289 = .ok (.ishl, 1) := by decide +kernel
theorem dX9_comes_290 : decode cX9_comes 290 = .ok (.ior, 1) := by decide +kernel
theorem dX9_comes_291 : decode cX9_comes 291 = .ok (.iastore, 1) := by decide +kernel
theorem dX9_comes_292 : decode cX9_comes 292 = .ok (.iconst 1, 1) := by decide +kernel
theorem dX9_comes_293 : decode cX9_comes 293 = .ok (.ireturn, 1) := by decide +kernel
theorem dX9_comes_294 : decode cX9_comes 294 = .ok (.aload_n 0, 1) := by decide +kernel
theorem dX9_comes_295 : decode cX9_comes 295 = .ok (.aload_n 0, 1) := by decide +kernel
theorem dX9_comes_296 : decode cX9_comes 296 = .ok (.getfield 56, 3) := by decide +kernel
theorem dX9_comes_299 : decode cX9_comes 299 = .ok (.iload_n 1, 1) := by decide +kernel
theorem dX9_comes_300 : decode cX9_comes 300 = .ok (.iaload, 1) := by decide +kernel
theorem dX9_comes_301 : decode cX9_comes 301 = .ok (.invokevirtual 155, 3) := by decide +kernel
theorem dX9_comes_304 : decode cX9_comes 304 = .ok (.ifCond .eq 44, 3) := by decide +kernel
theorem dX9_comes_307 : decode cX9_comes 307 = .ok (.aload_n 0, 1) := by decide +kernel
theorem dX9_comes_308 : decode cX9_comes 308 = .ok (.aload_n 0, 1) := by decide +kernel
theorem dX9_comes_309 : decode cX9_comes 309 = .ok (.getfield 59, 3) := by decide +kernel
theorem dX9_comes_312 : decode cX9_comes 312 = .ok (.iload_n 1, 1) := by decide +kernel
theorem dX9_comes_313 : decode cX9_comes 313 = .ok (.iaload, 1) := by decide +kernel
theorem dX9_comes_314 : decode cX9_comes 314 = .ok (.invokevirtual 155, 3) := by decide +kernel
theorem dX9_comes_317 : decode cX9_comes 317 = .ok (.ifCond .eq 31, 3) := by decide +kernel
theorem dX9_comes_320 : decode cX9_comes 320 = .ok (.aload_n 0, 1) := by decide +kernel
theorem dX9_comes_321 : decode cX9_comes 321 = .ok (.getfield 56, 3) := by decide +kernel
theorem dX9_comes_324 : decode cX9_comes 324 = .ok (.iload_n 1, 1) := by decide +kernel
theorem dX9_comes_325 : decode cX9_comes 325 = .ok (.iaload, 1) := by decide +kernel
theorem dX9_comes_326 : decode cX9_comes 326 = .ok (.aload_n 0, 1) := by decide +kernel
theorem dX9_comes_327 : decode cX9_comes 327 = .ok (.getfield 59, 3) := by decide +kernel
theorem dX9_comes_330 : decode cX9_comes 330 = .ok (.iload_n 1, 1) := by decide +kernel
theorem dX9_comes_331 : decode cX9_comes 331 = .ok (.iaload, 1) := by decide +kernel
theorem dX9_comes_332 : decode cX9_comes 332 = .ok (.if_icmp .eq 16, 3) := by decide +kernel
theorem dX9_comes_335 : decode cX9_comes 335 = .ok (.aload_n 0, 1) := by decide +kernel
theorem dX9_comes_336 : decode cX9_comes 336 = .ok (.aload_n 0, 1) := by decide +kernel
theorem dX9_comes_337 : decode cX9_comes 337 = .ok (.getfield 62, 3) := by decide +kernel
theorem dX9_comes_340 : decode cX9_comes 340 = .ok (.iload_n 1, 1) := by decide +kernel
theorem dX9_comes_341 : decode cX9_comes 341 = .ok (.iaload, 1) := by decide +kernel
theorem dX9_comes_342 : decode cX9_comes 342 = .ok (.invokevirtual 146, 3) := by decide +kernel
theorem dX9_comes_345 : decode cX9_comes 345 = .ok (.ifCond .ne 5, 3) := by decide +kernel
theorem dX9_comes_348 : decode cX9_comes 348 = .ok (.iconst 0, 1) := by decide +kernel
theorem dX9_comes_349 : decode cX9_comes 349 = .ok (.ireturn, 1) := by decide +kernel
theorem dX9_comes_350 : decode cX9_comes 350 = .ok (.aload_n 0, 1) := by decide +kernel
theorem dX9_comes_351 : decode cX9_comes 351 = .ok (.aload_n 0, 1) := by decide +kernel
theorem dX9_comes_352 : decode cX9_comes 352 = .ok (.getfield 56, 3) := by decide +kernel
theorem dX9_comes_355 : decode cX9_comes 355 = .ok (.iload_n 1, 1) := by decide +kernel
theorem dX9_comes_356 : decode cX9_comes 356 = .ok (.iaload, 1) := by decide +kernel
theorem dX9_comes_357 : decode cX9_comes 357 = .ok (.putfield 140, 3) := by decide +kernel
theorem dX9_comes_360 : decode cX9_comes 360 = .ok (.aload_n 0, 1) := by decide +kernel
theorem dX9_comes_361 : decode cX9_comes 361 = .ok (.aload_n 0, 1) := by decide +kernel
theorem dX9_comes_362 : decode cX9_comes 362 = .ok (.getfield 59, 3) := by decide +kernel
theorem dX9_comes_365 : decode cX9_comes 365 = .ok (.iload_n 1, 1) := by decide +kernel
theorem dX9_comes_366 : decode cX9_comes 366 = .ok (.iaload, 1) := by decide +kernel
theorem dX9_comes_367 : decode cX9_comes 367 = .ok (.putfield 143, 3) := by decide +kernel
theorem dX9_comes_370 : decode cX9_comes 370 = .ok (.aload_n 0, 1) := by decide +kernel
theorem dX9_comes_371 : decode cX9_comes 371 = .ok (.aload_n 0, 1) := by decide +kernel
theorem dX9_comes_372 : decode cX9_comes 372 = .ok (.getfield 62, 3) := by decide +kernel
theorem dX9_comes_375 : decode cX9_comes 375 = .ok (.iload_n 1, 1) := by decide +kernel
theorem dX9_comes_376 : decode cX9_comes 376 = .ok (.iaload, 1) := by decide +kernel
theorem dX9_comes_377 : decode cX9_comes 377 = .ok (.putfield 38, 3) := by decide +kernel
theorem dX9_comes_380 : decode cX9_comes 380 = .ok (.iconst 1, 1) := by decide +kernel
theorem dX9_comes_381 : decode cX9_comes 381 = .ok (.ireturn, 1) := by decide +kernel
theorem dX9_land_0 : decode cX9_land 0 = .ok (.aload_n 0, 1) := by decide +kernel
theorem dX9_land_1 : decode cX9_land 1 = .ok (.iconst 0, 1) := by decide +kernel
theorem dX9_land_2 : decode cX9_land 2 = .ok (.putfield 106, 3) := by decide +kernel
theorem dX9_land_5 : decode cX9_land 5 = .ok (.aload_n 0, 1) := by decide +kernel
theorem dX9_land_6 : decode cX9_land 6 = .ok (.iconst 0, 1) := by decide +kernel
theorem dX9_land_7 : decode cX9_land 7 = .ok (.putfield 123, 3) := by decide +kernel
theorem dX9_land_10 : decode cX9_land 10 = .ok (.iconst 1, 1) := by decide +kernel
theorem dX9_land_11 : decode cX9_land 11 = .ok (.istore_n 1, 1) := by decide +kernel
theorem dX9_land_12 : decode cX9_land 12 = .ok (.iload_n 1, 1) := by decide +kernel
theorem dX9_land_13 : decode cX9_land 13 = .ok (.ifCond .eq 47, 3) := by decide +kernel
theorem dX9_land_16 : decode cX9_land 16 = .ok (.aload_n 0, 1) := by decide +kernel
theorem dX9_land_17 : decode cX9_land 17 = .ok (.getfield 106, 3) := by decide +kernel
theorem dX9_land_20 : decode cX9_land 20 = .ok (.aload_n 0, 1) := by decide +kernel
theorem dX9_land_21 : decode cX9_land 21 = .ok (.getfield 99, 3) := by decide +kernel
theorem dX9_land_24 : decode cX9_land 24 = .ok (.if_icmp .lt 10, 3) := by decide +kernel
theorem dX9_land_27 : decode cX9_land 27 = .ok (.aload_n 0, 1) := by decide +kernel
theorem dX9_land_28 : decode cX9_land 28 = .ok (.getfield 123, 3) := by decide +kernel
theorem dX9_land_31 : decode cX9_land 31 = .ok (.ifCond .ne 29, 3) := by decide +kernel
theorem dX9_land_34 : decode cX9_land 34 = .ok (.aload_n 0, 1) := by decide +kernel
theorem dX9_land_35 : decode cX9_land 35 = .ok (.invokevirtual 161, 3) := by decide +kernel
theorem dX9_land_38 : decode cX9_land 38 = .ok (.istore_n 1, 1) := by decide +kernel
theorem dX9_land_39 : decode cX9_land 39 = .ok (.aload_n 0, 1) := by decide +kernel
theorem dX9_land_40 : decode cX9_land 40 = .ok (.dup, 1) := by decide +kernel
theorem dX9_land_41 : decode cX9_land 41 = .ok (.getfield 123, 3) := by decide +kernel
theorem dX9_land_44 : decode cX9_land 44 = .ok (.iload_n 1, 1) := by decide +kernel
theorem dX9_land_45 : decode cX9_land 45 = .ok (.ifCond .eq 7, 3) := by decide +kernel
theorem dX9_land_48 : decode cX9_land 48 = .ok (.iconst 1, 1) := by decide +kernel
theorem dX9_land_49 : decode cX9_land 49 = .ok (.goto 4, 3) := by decide +kernel
theorem dX9_land_52 : decode cX9_land 52 = .ok (.iconst 0, 1) := by decide +kernel
theorem dX9_land_53 : decode cX9_land 53 = .ok (.iadd, 1) := by decide +kernel
theorem dX9_land_54 : decode cX9_land 54 = .ok (.putfield 123, 3) := by decide +kernel
theorem dX9_land_57 : decode cX9_land 57 = .ok (.goto (-45), 3) := by decide +kernel
theorem dX9_land_60 : decode cX9_land 60 = .ok (.aload_n 0, 1) := by decide +kernel
theorem dX9_land_61 : decode cX9_land 61 = .ok (.iconst 0, 1) := by decide +kernel
theorem dX9_land_62 : decode cX9_land 62 = .ok (.putfield 99, 3) := by decide +kernel
theorem dX9_land_65 : decode cX9_land 65 = .ok (.iload_n 1, 1) := by decide +kernel
theorem dX9_land_66 : decode cX9_land 66 = .ok (.ifCond .ne 12, 3) := by decide +kernel
theorem dX9_land_69 : decode cX9_land 69 = .ok (.sipush (-1000), 3) := by decide +kernel
theorem dX9_land_72 : decode cX9_land 72 = .ok (.aload_n 0, 1) := by decide +kernel
theorem dX9_land_73 : decode cX9_land 73 = .ok (.getfield 106, 3) := by decide +kernel
theorem dX9_land_76 : decode cX9_land 76 = .ok (.isub, 1) := by decide +kernel
theorem dX9_land_77 : decode cX9_land 77 = .ok (.ireturn, 1) := by decide +kernel
theorem dX9_land_78 : decode cX9_land 78 = .ok (.aload_n 0, 1) := by decide +kernel
theorem dX9_land_79 : decode cX9_land 79 = .ok (.iconst 1, 1) := by decide +kernel
theorem dX9_land_80 : decode cX9_land 80 = .ok (.iconst 1, 1) := by decide +kernel
theorem dX9_land_81 : decode cX9_land 81 = .ok (.invokevirtual 165, 3) := by decide +kernel
theorem dX9_land_84 : decode cX9_land 84 = .ok (.iconst 0, 1) := by decide +kernel
theorem dX9_land_85 : decode cX9_land 85 = .ok (.istore_n 2, 1) := by decide +kernel
theorem dX9_land_86 : decode cX9_land 86 = .ok (.iload_n 2, 1) := by decide +kernel
theorem dX9_land_87 : decode cX9_land 87 = .ok (.aload_n 0, 1) := by decide +kernel
theorem dX9_land_88 : decode cX9_land 88 = .ok (.getfield 123, 3) := by decide +kernel
theorem dX9_land_91 : decode cX9_land 91 = .ok (.if_icmp .ge 37, 3) := by decide +kernel
theorem dX9_land_94 : decode cX9_land 94 = .ok (.aload_n 0, 1) := by decide +kernel
theorem dX9_land_95 : decode cX9_land 95 = .ok (.iload_n 2, 1) := by decide +kernel
theorem dX9_land_96 : decode cX9_land 96 = .ok (.invokevirtual 169, 3) := by decide +kernel
theorem dX9_land_99 : decode cX9_land 99 = .ok (.ifCond .eq 6, 3) := by decide +kernel
theorem dX9_land_102 : decode cX9_land 102 = .ok (.goto 20, 3) := by decide +kernel
theorem dX9_land_105 : decode cX9_land 105 = .ok (.aload_n 0, 1) := by decide +kernel
theorem dX9_land_106 : decode cX9_land 106 = .ok (.iconst 1, 1) := by decide +kernel
theorem dX9_land_107 : decode cX9_land 107 = .ok (.iconst 0, 1) := by decide +kernel
theorem dX9_land_108 : decode cX9_land 108 = .ok (.invokevirtual 165, 3) := by decide +kernel
theorem dX9_land_111 : decode cX9_land 111 = .ok (.sipush (-2000), 3) := by decide +kernel
theorem dX9_land_114 : decode cX9_land 114 = .ok (.aload_n 0, 1) := by decide +kernel
theorem dX9_land_115 : decode cX9_land 115 = .ok (.getfield 53, 3) := by decide +kernel
theorem dX9_land_118 : decode cX9_land 118 = .ok (.iload_n 2, 1) := by decide +kernel
theorem dX9_land_119 : decode cX9_land 119 = .ok (.iaload, 1) := by decide +kernel
theorem dX9_land_120 : decode cX9_land 120 = .ok (.isub, 1) := by decide +kernel
theorem dX9_land_121 : decode cX9_land 121 = .ok (.ireturn, 1) := by decide +kernel
theorem dX9_land_122 : decode cX9_land 122 = .ok (.iinc 2 1, 3) := by decide +kernel
theorem dX9_land_125 : decode cX9_land 125 = .ok (.goto (-39), 3) := by decide +kernel
theorem dX9_land_128 : decode cX9_land 128 = .ok (.aload_n 0, 1) := by decide +kernel
theorem dX9_land_129 : decode cX9_land 129 = .ok (.getfield 123, 3) := by decide +kernel
theorem dX9_land_132 : decode cX9_land 132 = .ok (.ireturn, 1) := by decide +kernel
theorem dX9_passes_0 : decode cX9_passes 0 = .ok (.iconst 0, 1) := by decide +kernel
theorem dX9_passes_1 : decode cX9_passes 1 = .ok (.istore_n 2, 1) := by decide +kernel
theorem dX9_passes_2 : decode cX9_passes 2 = .ok (.iload_n 2, 1) := by decide +kernel
theorem dX9_passes_3 : decode cX9_passes 3 = .ok (.aload_n 1, 1) := by decide +kernel
theorem dX9_passes_4 : decode cX9_passes 4 = .ok (.arraylength, 1) := by decide +kernel
theorem dX9_passes_5 : decode cX9_passes 5 = .ok (.if_icmp .ge 53, 3) := by decide +kernel
theorem dX9_passes_8 : decode cX9_passes 8 = .ok (.aload_n 0, 1) := by decide +kernel
theorem dX9_passes_9 : decode cX9_passes 9 = .ok (.getfield 172, 3) := by decide +kernel
theorem dX9_passes_12 : decode cX9_passes 12 = .ok (.ifCond .eq 18, 3) := by decide +kernel
theorem dX9_passes_15 : decode cX9_passes 15 = .ok (.aload_n 0, 1) := by decide +kernel
theorem dX9_passes_16 : decode cX9_passes 16 = .ok (.getfield 68, 3) := by decide +kernel
theorem dX9_passes_19 : decode cX9_passes 19 = .ok (.aload_n 0, 1) := by decide +kernel
theorem dX9_passes_20 : decode cX9_passes 20 = .ok (.getfield 176, 3) := by decide +kernel
theorem dX9_passes_23 : decode cX9_passes 23 = .ok (.aload_n 1, 1) := by decide +kernel
theorem dX9_passes_24 : decode cX9_passes 24 = .ok (.iload_n 2, 1) := by decide +kernel
theorem dX9_passes_25 : decode cX9_passes 25 = .ok (.iaload, 1) := by decide +kernel
theorem dX9_passes_26 : decode cX9_passes 26 = .ok (.iastore, 1) := by decide +kernel
theorem dX9_passes_27 : decode cX9_passes 27 = .ok (.goto 15, 3) := by decide +kernel
theorem dX9_passes_30 : decode cX9_passes 30 = .ok (.aload_n 1, 1) := by decide +kernel
theorem dX9_passes_31 : decode cX9_passes 31 = .ok (.iload_n 2, 1) := by decide +kernel
theorem dX9_passes_32 : decode cX9_passes 32 = .ok (.aload_n 0, 1) := by decide +kernel
theorem dX9_passes_33 : decode cX9_passes 33 = .ok (.getfield 68, 3) := by decide +kernel
theorem dX9_passes_36 : decode cX9_passes 36 = .ok (.aload_n 0, 1) := by decide +kernel
theorem dX9_passes_37 : decode cX9_passes 37 = .ok (.getfield 176, 3) := by decide +kernel
theorem dX9_passes_40 : decode cX9_passes 40 = .ok (.iaload, 1) := by decide +kernel
theorem dX9_passes_41 : decode cX9_passes 41 = .ok (.iastore, 1) := by decide +kernel
theorem dX9_passes_42 : decode cX9_passes 42 = .ok (.aload_n 0, 1) := by decide +kernel
theorem dX9_passes_43 : decode cX9_passes 43 = .ok (.dup, 1) := by decide +kernel
theorem dX9_passes_44 : decode cX9_passes 44 = .ok (.getfield 176, 3) := by decide +kernel
theorem dX9_passes_47 : decode cX9_passes 47 = .ok (.iconst 1, 1) := by decide +kernel
theorem dX9_passes_48 : decode cX9_passes 48 = .ok (.iadd, 1) := by decide +kernel
theorem dX9_passes_49 : decode cX9_passes 49 = .ok (.putfield 176, 3) := by decide +kernel
theorem dX9_passes_52 : decode cX9_passes 52 = .ok (.iinc 2 1, 3) := by decide +kernel
theorem dX9_passes_55 : decode cX9_passes 55 = .ok (.goto (-53), 3) := by decide +kernel
theorem dX9_passes_58 : decode cX9_passes 58 = .ok (.return_, 1) := by decide +kernel
theorem dX9_passOne_0 : decode cX9_passOne 0 = .ok (.aload_n 0, 1) := by decide +kernel
theorem dX9_passOne_1 : decode cX9_passOne 1 = .ok (.getfield 172, 3) := by decide +kernel
theorem dX9_passOne_4 : decode cX9_passOne 4 = .ok (.ifCond .eq 7, 3) := by decide +kernel
theorem dX9_passOne_7 : decode cX9_passOne 7 = .ok (.iload_n 1, 1) := by decide +kernel
theorem dX9_passOne_8 : decode cX9_passOne 8 = .ok (.goto 12, 3) := by decide +kernel
theorem dX9_passOne_11 : decode cX9_passOne 11 = .ok (.aload_n 0, 1) := by decide +kernel
theorem dX9_passOne_12 : decode cX9_passOne 12 = .ok (.getfield 68, 3) := by decide +kernel
theorem dX9_passOne_15 : decode cX9_passOne 15 = .ok (.aload_n 0, 1) := by decide +kernel
theorem dX9_passOne_16 : decode cX9_passOne 16 = .ok (.getfield 176, 3) := by decide +kernel
theorem dX9_passOne_19 : decode cX9_passOne 19 = .ok (.iaload, 1) := by decide +kernel
theorem dX9_passOne_20 : decode cX9_passOne 20 = .ok (.istore_n 2, 1) := by decide +kernel
theorem dX9_passOne_21 : decode cX9_passOne 21 = .ok (.aload_n 0, 1) := by decide +kernel
theorem dX9_passOne_22 : decode cX9_passOne 22 = .ok (.getfield 172, 3) := by decide +kernel
theorem dX9_passOne_25 : decode cX9_passOne 25 = .ok (.ifCond .eq 13, 3) := by decide +kernel
theorem dX9_passOne_28 : decode cX9_passOne 28 = .ok (.aload_n 0, 1) := by decide +kernel
theorem dX9_passOne_29 : decode cX9_passOne 29 = .ok (.getfield 68, 3) := by decide +kernel
theorem dX9_passOne_32 : decode cX9_passOne 32 = .ok (.aload_n 0, 1) := by decide +kernel
theorem dX9_passOne_33 : decode cX9_passOne 33 = .ok (.getfield 176, 3) := by decide +kernel
theorem dX9_passOne_36 : decode cX9_passOne 36 = .ok (.iload_n 1, 1) := by decide +kernel
theorem dX9_passOne_37 : decode cX9_passOne 37 = .ok (.iastore, 1) := by decide +kernel
theorem dX9_passOne_38 : decode cX9_passOne 38 = .ok (.aload_n 0, 1) := by decide +kernel
theorem dX9_passOne_39 : decode cX9_passOne 39 = .ok (.dup, 1) := by decide +kernel
theorem dX9_passOne_40 : decode cX9_passOne 40 = .ok (.getfield 176, 3) := by decide +kernel
theorem dX9_passOne_43 : decode cX9_passOne 43 = .ok (.iconst 1, 1) := by decide +kernel
theorem dX9_passOne_44 : decode cX9_passOne 44 = .ok (.iadd, 1) := by decide +kernel
theorem dX9_passOne_45 : decode cX9_passOne 45 = .ok (.putfield 176, 3) := by decide +kernel
theorem dX9_passOne_48 : decode cX9_passOne 48 = .ok (.iload_n 2, 1) := by decide +kernel
theorem dX9_passOne_49 : decode cX9_passOne 49 = .ok (.ireturn, 1) := by decide +kernel
theorem dX9_passesAll_0 : decode cX9_passesAll 0 = .ok (.aload_n 0, 1) := by decide +kernel
theorem dX9_passesAll_1 : decode cX9_passesAll 1 = .ok (.bipush 100, 2) := by decide +kernel
theorem dX9_passesAll_3 : decode cX9_passesAll 3 = .ok (.iload_n 1, 1) := by decide +kernel
theorem dX9_passesAll_4 : decode cX9_passesAll 4 = .ok (.imul, 1) := by decide +kernel
theorem dX9_passesAll_5 : decode cX9_passesAll 5 = .ok (.putfield 176, 3) := by decide +kernel
theorem dX9_passesAll_8 : decode cX9_passesAll 8 = .ok (.aload_n 0, 1) := by decide +kernel
theorem dX9_passesAll_9 : decode cX9_passesAll 9 = .ok (.iload_n 2, 1) := by decide +kernel
theorem dX9_passesAll_10 : decode cX9_passesAll 10 = .ok (.putfield 172, 3) := by decide +kernel
theorem dX9_passesAll_13 : decode cX9_passesAll 13 = .ok (.aload_n 0, 1) := by decide +kernel
theorem dX9_passesAll_14 : decode cX9_passesAll 14 = .ok (.aload_n 0, 1) := by decide +kernel
theorem dX9_passesAll_15 : decode cX9_passesAll 15 = .ok (.getfield 13, 3) := by decide +kernel
theorem dX9_passesAll_18 : decode cX9_passesAll 18 = .ok (.invokevirtual 179, 3) := by decide +kernel
theorem dX9_passesAll_21 : decode cX9_passesAll 21 = .ok (.aload_n 0, 1) := by decide +kernel
theorem dX9_passesAll_22 : decode cX9_passesAll 22 = .ok (.aload_n 0, 1) := by decide +kernel
theorem dX9_passesAll_23 : decode cX9_passesAll 23 = .ok (.getfield 16, 3) := by decide +kernel
theorem dX9_passesAll_26 : decode cX9_passesAll 26 = .ok (.invokevirtual 179, 3) := by decide +kernel
theorem dX9_passesAll_29 : decode cX9_passesAll 29 = .ok (.aload_n 0, 1) := by decide +kernel
theorem dX9_passesAll_30 : decode cX9_passesAll 30 = .ok (.aload_n 0, 1) := by decide +kernel
theorem dX9_passesAll_31 : decode cX9_passesAll 31 = .ok (.getfield 19, 3) := by decide +kernel
theorem dX9_passesAll_34 : decode cX9_passesAll 34 = .ok (.invokevirtual 179, 3) := by decide +kernel
theorem dX9_passesAll_37 : decode cX9_passesAll 37 = .ok (.aload_n 0, 1) := by decide +kernel
theorem dX9_passesAll_38 : decode cX9_passesAll 38 = .ok (.aload_n 0, 1) := by decide +kernel
theorem dX9_passesAll_39 : decode cX9_passesAll 39 = .ok (.getfield 22, 3) := by decide +kernel
theorem dX9_passesAll_42 : decode cX9_passesAll 42 = .ok (.invokevirtual 179, 3) := by decide +kernel
theorem dX9_passesAll_45 : decode cX9_passesAll 45 = .ok (.aload_n 0, 1) := by decide +kernel
theorem dX9_passesAll_46 : decode cX9_passesAll 46 = .ok (.aload_n 0, 1) := by decide +kernel
theorem dX9_passesAll_47 : decode cX9_passesAll 47 = .ok (.getfield 25, 3) := by decide +kernel
theorem dX9_passesAll_50 : decode cX9_passesAll 50 = .ok (.invokevirtual 179, 3) := by decide +kernel
theorem dX9_passesAll_53 : decode cX9_passesAll 53 = .ok (.aload_n 0, 1) := by decide +kernel
theorem dX9_passesAll_54 : decode cX9_passesAll 54 = .ok (.aload_n 0, 1) := by decide +kernel
theorem dX9_passesAll_55 : decode cX9_passesAll 55 = .ok (.getfield 28, 3) := by decide +kernel
theorem dX9_passesAll_58 : decode cX9_passesAll 58 = .ok (.invokevirtual 179, 3) := by decide +kernel
theorem dX9_passesAll_61 : decode cX9_passesAll 61 = .ok (.aload_n 0, 1) := by decide +kernel
theorem dX9_passesAll_62 : decode cX9_passesAll 62 = .ok (.aload_n 0, 1) := by decide +kernel
theorem dX9_passesAll_63 : decode cX9_passesAll 63 = .ok (.getfield 31, 3) := by decide +kernel
theorem dX9_passesAll_66 : decode cX9_passesAll 66 = .ok (.invokevirtual 179, 3) := by decide +kernel
theorem dX9_passesAll_69 : decode cX9_passesAll 69 = .ok (.aload_n 0, 1) := by decide +kernel
theorem dX9_passesAll_70 : decode cX9_passesAll 70 = .ok (.aload_n 0, 1) := by decide +kernel
theorem dX9_passesAll_71 : decode cX9_passesAll 71 = .ok (.getfield 41, 3) := by decide +kernel
theorem dX9_passesAll_74 : decode cX9_passesAll 74 = .ok (.invokevirtual 179, 3) := by decide +kernel
theorem dX9_passesAll_77 : decode cX9_passesAll 77 = .ok (.aload_n 0, 1) := by decide +kernel
theorem dX9_passesAll_78 : decode cX9_passesAll 78 = .ok (.aload_n 0, 1) := by decide +kernel
theorem dX9_passesAll_79 : decode cX9_passesAll 79 = .ok (.getfield 44, 3) := by decide +kernel
theorem dX9_passesAll_82 : decode cX9_passesAll 82 = .ok (.invokevirtual 179, 3) := by decide +kernel
theorem dX9_passesAll_85 : decode cX9_passesAll 85 = .ok (.aload_n 0, 1) := by decide +kernel
theorem dX9_passesAll_86 : decode cX9_passesAll 86 = .ok (.aload_n 0, 1) := by decide +kernel
theorem dX9_passesAll_87 : decode cX9_passesAll 87 = .ok (.aload_n 0, 1) := by decide +kernel
theorem dX9_passesAll_88 : decode cX9_passesAll 88 = .ok (.getfield 34, 3) := by decide +kernel
theorem dX9_passesAll_91 : decode cX9_passesAll 91 = .ok (.invokevirtual 183, 3) := by decide +kernel
theorem dX9_passesAll_94 : decode cX9_passesAll 94 = .ok (.putfield 34, 3) := by decide +kernel
theorem dX9_passesAll_97 : decode cX9_passesAll 97 = .ok (.aload_n 0, 1) := by decide +kernel
theorem dX9_passesAll_98 : decode cX9_passesAll 98 = .ok (.aload_n 0, 1) := by decide +kernel
theorem dX9_passesAll_99 : decode cX9_passesAll 99 = .ok (.aload_n 0, 1) := by decide +kernel
theorem dX9_passesAll_100 : decode cX9_passesAll 100 = .ok (.getfield 137, 3) := by decide +kernel
theorem dX9_passesAll_103 : decode cX9_passesAll 103 = .ok (.invokevirtual 183, 3) := by decide +kernel
theorem dX9_passesAll_106 : decode cX9_passesAll 106 = .ok (.putfield 137, 3) := by decide +kernel
theorem dX9_passesAll_109 : decode cX9_passesAll 109 = .ok (.aload_n 0, 1) := by decide +kernel
theorem dX9_passesAll_110 : decode cX9_passesAll 110 = .ok (.aload_n 0, 1) := by decide +kernel
theorem dX9_passesAll_111 : decode cX9_passesAll 111 = .ok (.aload_n 0, 1) := by decide +kernel
theorem dX9_passesAll_112 : decode cX9_passesAll 112 = .ok (.getfield 89, 3) := by decide +kernel
theorem dX9_passesAll_115 : decode cX9_passesAll 115 = .ok (.invokevirtual 183, 3) := by decide +kernel
theorem dX9_passesAll_118 : decode cX9_passesAll 118 = .ok (.putfield 89, 3) := by decide +kernel
theorem dX9_passesAll_121 : decode cX9_passesAll 121 = .ok (.aload_n 0, 1) := by decide +kernel
theorem dX9_passesAll_122 : decode cX9_passesAll 122 = .ok (.aload_n 0, 1) := by decide +kernel
theorem dX9_passesAll_123 : decode cX9_passesAll 123 = .ok (.aload_n 0, 1) := by decide +kernel
theorem dX9_passesAll_124 : decode cX9_passesAll 124 = .ok (.getfield 92, 3) := by decide +kernel
theorem dX9_passesAll_127 : decode cX9_passesAll 127 = .ok (.invokevirtual 183, 3) := by decide +kernel
theorem dX9_passesAll_130 : decode cX9_passesAll 130 = .ok (.putfield 92, 3) := by decide +kernel
theorem dX9_passesAll_133 : decode cX9_passesAll 133 = .ok (.aload_n 0, 1) := by decide +kernel
theorem dX9_passesAll_134 : decode cX9_passesAll 134 = .ok (.aload_n 0, 1) := by decide +kernel
theorem dX9_passesAll_135 : decode cX9_passesAll 135 = .ok (.aload_n 0, 1) := by decide +kernel
theorem dX9_passesAll_136 : decode cX9_passesAll 136 = .ok (.getfield 140, 3) := by decide +kernel
theorem dX9_passesAll_139 : decode cX9_passesAll 139 = .ok (.invokevirtual 183, 3) := by decide +kernel
theorem dX9_passesAll_142 : decode cX9_passesAll 142 = .ok (.putfield 140, 3) := by decide +kernel
theorem dX9_passesAll_145 : decode cX9_passesAll 145 = .ok (.aload_n 0, 1) := by decide +kernel
theorem dX9_passesAll_146 : decode cX9_passesAll 146 = .ok (.aload_n 0, 1) := by decide +kernel
theorem dX9_passesAll_147 : decode cX9_passesAll 147 = .ok (.aload_n 0, 1) := by decide +kernel
theorem dX9_passesAll_148 : decode cX9_passesAll 148 = .ok (.getfield 143, 3) := by decide +kernel
theorem dX9_passesAll_151 : decode cX9_passesAll 151 = .ok (.invokevirtual 183, 3) := by decide +kernel
theorem dX9_passesAll_154 : decode cX9_passesAll 154 = .ok (.putfield 143, 3) := by decide +kernel
theorem dX9_passesAll_157 : decode cX9_passesAll 157 = .ok (.aload_n 0, 1) := by decide +kernel
theorem dX9_passesAll_158 : decode cX9_passesAll 158 = .ok (.aload_n 0, 1) := by decide +kernel
theorem dX9_passesAll_159 : decode cX9_passesAll 159 = .ok (.aload_n 0, 1) := by decide +kernel
theorem dX9_passesAll_160 : decode cX9_passesAll 160 = .ok (.getfield 38, 3) := by decide +kernel
theorem dX9_passesAll_163 : decode cX9_passesAll 163 = .ok (.invokevirtual 183, 3) := by decide +kernel
theorem dX9_passesAll_166 : decode cX9_passesAll 166 = .ok (.putfield 38, 3) := by decide +kernel
theorem dX9_passesAll_169 : decode cX9_passesAll 169 = .ok (.aload_n 0, 1) := by decide +kernel
theorem dX9_passesAll_170 : decode cX9_passesAll 170 = .ok (.aload_n 0, 1) := by decide +kernel
theorem dX9_passesAll_171 : decode cX9_passesAll 171 = .ok (.aload_n 0, 1) := by decide +kernel
theorem dX9_passesAll_172 : decode cX9_passesAll 172 = .ok (.getfield 186, 3) := by decide +kernel
theorem dX9_passesAll_175 : decode cX9_passesAll 175 = .ok (.invokevirtual 183, 3) := by decide +kernel
theorem dX9_passesAll_178 : decode cX9_passesAll 178 = .ok (.putfield 186, 3) := by decide +kernel
theorem dX9_passesAll_181 : decode cX9_passesAll 181 = .ok (.return_, 1) := by decide +kernel
theorem dX9_image_0 : decode cX9_image 0 = .ok (.aload_n 0, 1) := by decide +kernel
theorem dX9_image_1 : decode cX9_image 1 = .ok (.iconst 1, 1) := by decide +kernel
theorem dX9_image_2 : decode cX9_image 2 = .ok (.putfield 189, 3) := by decide +kernel
theorem dX9_image_5 : decode cX9_image 5 = .ok (.aload_n 0, 1) := by decide +kernel
theorem dX9_image_6 : decode cX9_image 6 = .ok (.iconst 0, 1) := by decide +kernel
theorem dX9_image_7 : decode cX9_image 7 = .ok (.iconst 1, 1) := by decide +kernel
theorem dX9_image_8 : decode cX9_image 8 = .ok (.invokevirtual 165, 3) := by decide +kernel
theorem dX9_image_11 : decode cX9_image 11 = .ok (.aload_n 0, 1) := by decide +kernel
theorem dX9_image_12 : decode cX9_image 12 = .ok (.getfield 186, 3) := by decide +kernel
theorem dX9_image_15 : decode cX9_image 15 = .ok (.ireturn, 1) := by decide +kernel
theorem dX9_on_0 : decode cX9_on 0 = .ok (.aload_n 0, 1) := by decide +kernel
theorem dX9_on_1 : decode cX9_on 1 = .ok (.getfield 189, 3) := by decide +kernel
theorem dX9_on_4 : decode cX9_on 4 = .ok (.ifCond .ne 10, 3) := by decide +kernel
theorem dX9_on_7 : decode cX9_on 7 = .ok (.aload_n 0, 1) := by decide +kernel
theorem dX9_on_8 : decode cX9_on 8 = .ok (.bipush (-3), 2) := by decide +kernel
theorem dX9_on_10 : decode cX9_on 10 = .ok (.invokevirtual 102, 3) := by decide +kernel
theorem dX9_on_13 : decode cX9_on 13 = .ok (.ireturn, 1) := by decide +kernel
theorem dX9_on_14 : decode cX9_on 14 = .ok (.aload_n 0, 1) := by decide +kernel
theorem dX9_on_15 : decode cX9_on 15 = .ok (.iconst 0, 1) := by decide +kernel
theorem dX9_on_16 : decode cX9_on 16 = .ok (.iconst 0, 1) := by decide +kernel
theorem dX9_on_17 : decode cX9_on 17 = .ok (.invokevirtual 165, 3) := by decide +kernel
theorem dX9_on_20 : decode cX9_on 20 = .ok (.aload_n 0, 1) := by decide +kernel
theorem dX9_on_21 : decode cX9_on 21 = .ok (.iconst 0, 1) := by decide +kernel
theorem dX9_on_22 : decode cX9_on 22 = .ok (.putfield 192, 3) := by decide +kernel
theorem dX9_on_25 : decode cX9_on 25 = .ok (.aload_n 0, 1) := by decide +kernel
theorem dX9_on_26 : decode cX9_on 26 = .ok (.getfield 186, 3) := by decide +kernel
theorem dX9_on_29 : decode cX9_on 29 = .ok (.ireturn, 1) := by decide +kernel
theorem dX9_allFacts_0 : decode cX9_allFacts 0 = .ok (.iconst 1, 1) := by decide +kernel
theorem dX9_allFacts_1 : decode cX9_allFacts 1 = .ok (.aload_n 0, 1) := by decide +kernel
theorem dX9_allFacts_2 : decode cX9_allFacts 2 = .ok (.getfield 89, 3) := by decide +kernel
theorem dX9_allFacts_5 : decode cX9_allFacts 5 = .ok (.ishl, 1) := by decide +kernel
theorem dX9_allFacts_6 : decode cX9_allFacts 6 = .ok (.iconst 1, 1) := by decide +kernel
theorem dX9_allFacts_7 : decode cX9_allFacts 7 = .ok (.isub, 1) := by decide +kernel
theorem dX9_allFacts_8 : decode cX9_allFacts 8 = .ok (.ireturn, 1) := by decide +kernel
theorem dX9_allSigns_0 : decode cX9_allSigns 0 = .ok (.iconst 1, 1) := by decide +kernel
theorem dX9_allSigns_1 : decode cX9_allSigns 1 = .ok (.aload_n 0, 1) := by decide +kernel
theorem dX9_allSigns_2 : decode cX9_allSigns 2 = .ok (.getfield 92, 3) := by decide +kernel
theorem dX9_allSigns_5 : decode cX9_allSigns 5 = .ok (.ishl, 1) := by decide +kernel
theorem dX9_allSigns_6 : decode cX9_allSigns 6 = .ok (.iconst 1, 1) := by decide +kernel
theorem dX9_allSigns_7 : decode cX9_allSigns 7 = .ok (.isub, 1) := by decide +kernel
theorem dX9_allSigns_8 : decode cX9_allSigns 8 = .ok (.ireturn, 1) := by decide +kernel
theorem dX9_isWorld_0 : decode cX9_isWorld 0 = .ok (.iload_n 1, 1) := by decide +kernel
theorem dX9_isWorld_1 : decode cX9_isWorld 1 = .ok (.ifCond .lt 41, 3) := by decide +kernel
theorem dX9_isWorld_4 : decode cX9_isWorld 4 = .ok (.iload_n 1, 1) := by decide +kernel
theorem dX9_isWorld_5 : decode cX9_isWorld 5 = .ok (.sipush 1024, 3) := by decide +kernel
theorem dX9_isWorld_8 : decode cX9_isWorld 8 = .ok (.if_icmp .ge 34, 3) := by decide +kernel
theorem dX9_isWorld_11 : decode cX9_isWorld 11 = .ok (.iload_n 1, 1) := by decide +kernel
theorem dX9_isWorld_12 : decode cX9_isWorld 12 = .ok (.bipush 15, 2) := by decide +kernel
theorem dX9_isWorld_14 : decode cX9_isWorld 14 = .ok (.iand, 1) := by decide +kernel
theorem dX9_isWorld_15 : decode cX9_isWorld 15 = .ok (.aload_n 0, 1) := by decide +kernel
theorem dX9_isWorld_16 : decode cX9_isWorld 16 = .ok (.invokevirtual 195, 3) := by decide +kernel
theorem dX9_isWorld_19 : decode cX9_isWorld 19 = .ok (.iconst (-1), 1) := by decide +kernel
theorem dX9_isWorld_20 : decode cX9_isWorld 20 = .ok (.ixor, 1) := by decide +kernel
theorem dX9_isWorld_21 : decode cX9_isWorld 21 = .ok (.iand, 1) := by decide +kernel
theorem dX9_isWorld_22 : decode cX9_isWorld 22 = .ok (.ifCond .ne 20, 3) := by decide +kernel
theorem dX9_isWorld_25 : decode cX9_isWorld 25 = .ok (.iload_n 1, 1) := by decide +kernel
theorem dX9_isWorld_26 : decode cX9_isWorld 26 = .ok (.iconst 4, 1) := by decide +kernel
theorem dX9_isWorld_27 : decode cX9_isWorld 27 = .ok (.ishr, 1) := by decide +kernel
theorem dX9_isWorld_28 : decode cX9_isWorld 28 = .ok (.aload_n 0, 1) := by decide +kernel
theorem dX9_isWorld_29 : decode cX9_isWorld 29 = .ok (.invokevirtual 198, 3) := by decide +kernel
theorem dX9_isWorld_32 : decode cX9_isWorld 32 = .ok (.iconst (-1), 1) := by decide +kernel
theorem dX9_isWorld_33 : decode cX9_isWorld 33 = .ok (.ixor, 1) := by decide +kernel
theorem dX9_isWorld_34 : decode cX9_isWorld 34 = .ok (.iand, 1) := by decide +kernel
theorem dX9_isWorld_35 : decode cX9_isWorld 35 = .ok (.ifCond .ne 7, 3) := by decide +kernel
theorem dX9_isWorld_38 : decode cX9_isWorld 38 = .ok (.iconst 1, 1) := by decide +kernel
theorem dX9_isWorld_39 : decode cX9_isWorld 39 = .ok (.goto 4, 3) := by decide +kernel
theorem dX9_isWorld_42 : decode cX9_isWorld 42 = .ok (.iconst 0, 1) := by decide +kernel
theorem dX9_isWorld_43 : decode cX9_isWorld 43 = .ok (.ireturn, 1) := by decide +kernel
theorem dX9_saysIn_0 : decode cX9_saysIn 0 = .ok (.iload_n 2, 1) := by decide +kernel
theorem dX9_saysIn_1 : decode cX9_saysIn 1 = .ok (.aload_n 0, 1) := by decide +kernel
theorem dX9_saysIn_2 : decode cX9_saysIn 2 = .ok (.getfield 25, 3) := by decide +kernel
theorem dX9_saysIn_5 : decode cX9_saysIn 5 = .ok (.iload_n 1, 1) := by decide +kernel
theorem dX9_saysIn_6 : decode cX9_saysIn 6 = .ok (.iaload, 1) := by decide +kernel
theorem dX9_saysIn_7 : decode cX9_saysIn 7 = .ok (.bipush 15, 2) := by decide +kernel
theorem dX9_saysIn_9 : decode cX9_saysIn 9 = .ok (.iand, 1) := by decide +kernel
theorem dX9_saysIn_10 : decode cX9_saysIn 10 = .ok (.ishr, 1) := by decide +kernel
theorem dX9_saysIn_11 : decode cX9_saysIn 11 = .ok (.iconst 1, 1) := by decide +kernel
theorem dX9_saysIn_12 : decode cX9_saysIn 12 = .ok (.iand, 1) := by decide +kernel
theorem dX9_saysIn_13 : decode cX9_saysIn 13 = .ok (.istore_n 3, 1) := by decide +kernel
theorem dX9_saysIn_14 : decode cX9_saysIn 14 = .ok (.iload_n 2, 1) := by decide +kernel
theorem dX9_saysIn_15 : decode cX9_saysIn 15 = .ok (.aload_n 0, 1) := by decide +kernel
theorem dX9_saysIn_16 : decode cX9_saysIn 16 = .ok (.getfield 28, 3) := by decide +kernel
theorem dX9_saysIn_19 : decode cX9_saysIn 19 = .ok (.iload_n 1, 1) := by decide +kernel
theorem dX9_saysIn_20 : decode cX9_saysIn 20 = .ok (.iaload, 1) := by decide +kernel
theorem dX9_saysIn_21 : decode cX9_saysIn 21 = .ok (.bipush 15, 2) := by decide +kernel
theorem dX9_saysIn_23 : decode cX9_saysIn 23 = .ok (.iand, 1) := by decide +kernel
theorem dX9_saysIn_24 : decode cX9_saysIn 24 = .ok (.ishr, 1) := by decide +kernel
theorem dX9_saysIn_25 : decode cX9_saysIn 25 = .ok (.iconst 1, 1) := by decide +kernel
theorem dX9_saysIn_26 : decode cX9_saysIn 26 = .ok (.iand, 1) := by decide +kernel
theorem dX9_saysIn_27 : decode cX9_saysIn 27 = .ok (.istore 4, 2) := by decide +kernel
theorem dX9_saysIn_29 : decode cX9_saysIn 29 = .ok (.aload_n 0, 1) := by decide +kernel
theorem dX9_saysIn_30 : decode cX9_saysIn 30 = .ok (.getfield 19, 3) := by decide +kernel
theorem dX9_saysIn_33 : decode cX9_saysIn 33 = .ok (.iload_n 1, 1) := by decide +kernel
theorem dX9_saysIn_34 : decode cX9_saysIn 34 = .ok (.iaload, 1) := by decide +kernel
theorem dX9_saysIn_35 : decode cX9_saysIn 35 = .ok (.tableswitch 71 0 5 #[37, 39, 43, 48, 53, 58], 37) := by decide +kernel
theorem dX9_saysIn_72 : decode cX9_saysIn 72 = .ok (.iload_n 3, 1) := by decide +kernel
theorem dX9_saysIn_73 : decode cX9_saysIn 73 = .ok (.ireturn, 1) := by decide +kernel
theorem dX9_saysIn_74 : decode cX9_saysIn 74 = .ok (.iconst 1, 1) := by decide +kernel
theorem dX9_saysIn_75 : decode cX9_saysIn 75 = .ok (.iload_n 3, 1) := by decide +kernel
theorem dX9_saysIn_76 : decode cX9_saysIn 76 = .ok (.isub, 1) := by decide +kernel
theorem dX9_saysIn_77 : decode cX9_saysIn 77 = .ok (.ireturn, 1) := by decide +kernel
theorem dX9_saysIn_78 : decode cX9_saysIn 78 = .ok (.iload_n 3, 1) := by decide +kernel
theorem dX9_saysIn_79 : decode cX9_saysIn 79 = .ok (.iload 4, 2) := by decide +kernel
theorem dX9_saysIn_81 : decode cX9_saysIn 81 = .ok (.iand, 1) := by decide +kernel
theorem dX9_saysIn_82 : decode cX9_saysIn 82 = .ok (.ireturn, 1) := by decide +kernel
theorem dX9_saysIn_83 : decode cX9_saysIn 83 = .ok (.iload_n 3, 1) := by decide +kernel
theorem dX9_saysIn_84 : decode cX9_saysIn 84 = .ok (.iload 4, 2) := by decide +kernel
theorem dX9_saysIn_86 : decode cX9_saysIn 86 = .ok (.ior, 1) := by decide +kernel
theorem dX9_saysIn_87 : decode cX9_saysIn 87 = .ok (.ireturn, 1) := by decide +kernel
theorem dX9_saysIn_88 : decode cX9_saysIn 88 = .ok (.iload_n 3, 1) := by decide +kernel
theorem dX9_saysIn_89 : decode cX9_saysIn 89 = .ok (.iload 4, 2) := by decide +kernel
theorem dX9_saysIn_91 : decode cX9_saysIn 91 = .ok (.ixor, 1) := by decide +kernel
theorem dX9_saysIn_92 : decode cX9_saysIn 92 = .ok (.ireturn, 1) := by decide +kernel
theorem dX9_saysIn_93 : decode cX9_saysIn 93 = .ok (.iload_n 2, 1) := by decide +kernel
theorem dX9_saysIn_94 : decode cX9_saysIn 94 = .ok (.iconst 4, 1) := by decide +kernel
theorem dX9_saysIn_95 : decode cX9_saysIn 95 = .ok (.aload_n 0, 1) := by decide +kernel
theorem dX9_saysIn_96 : decode cX9_saysIn 96 = .ok (.getfield 25, 3) := by decide +kernel
theorem dX9_saysIn_99 : decode cX9_saysIn 99 = .ok (.iload_n 1, 1) := by decide +kernel
theorem dX9_saysIn_100 : decode cX9_saysIn 100 = .ok (.iaload, 1) := by decide +kernel
theorem dX9_saysIn_101 : decode cX9_saysIn 101 = .ok (.iadd, 1) := by decide +kernel
theorem dX9_saysIn_102 : decode cX9_saysIn 102 = .ok (.ishr, 1) := by decide +kernel
theorem dX9_saysIn_103 : decode cX9_saysIn 103 = .ok (.iconst 1, 1) := by decide +kernel
theorem dX9_saysIn_104 : decode cX9_saysIn 104 = .ok (.iand, 1) := by decide +kernel
theorem dX9_saysIn_105 : decode cX9_saysIn 105 = .ok (.ireturn, 1) := by decide +kernel
theorem dX9_saysIn_106 : decode cX9_saysIn 106 = .ok (.iconst 0, 1) := by decide +kernel
theorem dX9_saysIn_107 : decode cX9_saysIn 107 = .ok (.ireturn, 1) := by decide +kernel
theorem dX9_isRight_0 : decode cX9_isRight 0 = .ok (.aload_n 0, 1) := by decide +kernel
theorem dX9_isRight_1 : decode cX9_isRight 1 = .ok (.getfield 19, 3) := by decide +kernel
theorem dX9_isRight_4 : decode cX9_isRight 4 = .ok (.iload_n 1, 1) := by decide +kernel
theorem dX9_isRight_5 : decode cX9_isRight 5 = .ok (.iaload, 1) := by decide +kernel
theorem dX9_isRight_6 : decode cX9_isRight 6 = .ok (.bipush 6, 2) := by decide +kernel
theorem dX9_isRight_8 : decode cX9_isRight 8 = .ok (.if_icmp .eq 19, 3) := by decide +kernel
theorem dX9_isRight_11 : decode cX9_isRight 11 = .ok (.aload_n 0, 1) := by decide +kernel
theorem dX9_isRight_12 : decode cX9_isRight 12 = .ok (.iload_n 1, 1) := by decide +kernel
theorem dX9_isRight_13 : decode cX9_isRight 13 = .ok (.iload_n 2, 1) := by decide +kernel
theorem dX9_isRight_14 : decode cX9_isRight 14 = .ok (.invokevirtual 201, 3) := by decide +kernel
theorem dX9_isRight_17 : decode cX9_isRight 17 = .ok (.iload_n 2, 1) := by decide +kernel
theorem dX9_isRight_18 : decode cX9_isRight 18 = .ok (.iconst 4, 1) := by decide +kernel
theorem dX9_isRight_19 : decode cX9_isRight 19 = .ok (.iload_n 1, 1) := by decide +kernel
theorem dX9_isRight_20 : decode cX9_isRight 20 = .ok (.iadd, 1) := by decide +kernel
theorem dX9_isRight_21 : decode cX9_isRight 21 = .ok (.ishr, 1) := by decide +kernel
theorem dX9_isRight_22 : decode cX9_isRight 22 = .ok (.iconst 1, 1) := by decide +kernel
theorem dX9_isRight_23 : decode cX9_isRight 23 = .ok (.iand, 1) := by decide +kernel
theorem dX9_isRight_24 : decode cX9_isRight 24 = .ok (.if_icmp .ne 7, 3) := by decide +kernel
theorem dX9_isRight_27 : decode cX9_isRight 27 = .ok (.iconst 1, 1) := by decide +kernel
theorem dX9_isRight_28 : decode cX9_isRight 28 = .ok (.goto 4, 3) := by decide +kernel
theorem dX9_isRight_31 : decode cX9_isRight 31 = .ok (.iconst 0, 1) := by decide +kernel
theorem dX9_isRight_32 : decode cX9_isRight 32 = .ok (.ireturn, 1) := by decide +kernel
theorem dX9_wrongs_0 : decode cX9_wrongs 0 = .ok (.iconst 0, 1) := by decide +kernel
theorem dX9_wrongs_1 : decode cX9_wrongs 1 = .ok (.istore_n 2, 1) := by decide +kernel
theorem dX9_wrongs_2 : decode cX9_wrongs 2 = .ok (.iconst 0, 1) := by decide +kernel
theorem dX9_wrongs_3 : decode cX9_wrongs 3 = .ok (.istore_n 3, 1) := by decide +kernel
theorem dX9_wrongs_4 : decode cX9_wrongs 4 = .ok (.iload_n 3, 1) := by decide +kernel
theorem dX9_wrongs_5 : decode cX9_wrongs 5 = .ok (.aload_n 0, 1) := by decide +kernel
theorem dX9_wrongs_6 : decode cX9_wrongs 6 = .ok (.getfield 92, 3) := by decide +kernel
theorem dX9_wrongs_9 : decode cX9_wrongs 9 = .ok (.if_icmp .ge 26, 3) := by decide +kernel
theorem dX9_wrongs_12 : decode cX9_wrongs 12 = .ok (.iload_n 2, 1) := by decide +kernel
theorem dX9_wrongs_13 : decode cX9_wrongs 13 = .ok (.aload_n 0, 1) := by decide +kernel
theorem dX9_wrongs_14 : decode cX9_wrongs 14 = .ok (.iload_n 3, 1) := by decide +kernel
theorem dX9_wrongs_15 : decode cX9_wrongs 15 = .ok (.iload_n 1, 1) := by decide +kernel
theorem dX9_wrongs_16 : decode cX9_wrongs 16 = .ok (.invokevirtual 205, 3) := by decide +kernel
theorem dX9_wrongs_19 : decode cX9_wrongs 19 = .ok (.ifCond .eq 7, 3) := by decide +kernel
theorem dX9_wrongs_22 : decode cX9_wrongs 22 = .ok (.iconst 0, 1) := by decide +kernel
theorem dX9_wrongs_23 : decode cX9_wrongs 23 = .ok (.goto 4, 3) := by decide +kernel
theorem dX9_wrongs_26 : decode cX9_wrongs 26 = .ok (.iconst 1, 1) := by decide +kernel
theorem dX9_wrongs_27 : decode cX9_wrongs 27 = .ok (.iadd, 1) := by decide +kernel
theorem dX9_wrongs_28 : decode cX9_wrongs 28 = .ok (.istore_n 2, 1) := by decide +kernel
theorem dX9_wrongs_29 : decode cX9_wrongs 29 = .ok (.iinc 3 1, 3) := by decide +kernel
theorem dX9_wrongs_32 : decode cX9_wrongs 32 = .ok (.goto (-28), 3) := by decide +kernel
theorem dX9_wrongs_35 : decode cX9_wrongs 35 = .ok (.iload_n 2, 1) := by decide +kernel
theorem dX9_wrongs_36 : decode cX9_wrongs 36 = .ok (.ireturn, 1) := by decide +kernel
theorem dX9_isFoundSo_0 : decode cX9_isFoundSo 0 = .ok (.iload_n 2, 1) := by decide +kernel
theorem dX9_isFoundSo_1 : decode cX9_isFoundSo 1 = .ok (.aload_n 0, 1) := by decide +kernel
theorem dX9_isFoundSo_2 : decode cX9_isFoundSo 2 = .ok (.getfield 41, 3) := by decide +kernel
theorem dX9_isFoundSo_5 : decode cX9_isFoundSo 5 = .ok (.iload_n 1, 1) := by decide +kernel
theorem dX9_isFoundSo_6 : decode cX9_isFoundSo 6 = .ok (.iaload, 1) := by decide +kernel
theorem dX9_isFoundSo_7 : decode cX9_isFoundSo 7 = .ok (.ishr, 1) := by decide +kernel
theorem dX9_isFoundSo_8 : decode cX9_isFoundSo 8 = .ok (.iconst 1, 1) := by decide +kernel
theorem dX9_isFoundSo_9 : decode cX9_isFoundSo 9 = .ok (.iand, 1) := by decide +kernel
theorem dX9_isFoundSo_10 : decode cX9_isFoundSo 10 = .ok (.aload_n 0, 1) := by decide +kernel
theorem dX9_isFoundSo_11 : decode cX9_isFoundSo 11 = .ok (.getfield 44, 3) := by decide +kernel
theorem dX9_isFoundSo_14 : decode cX9_isFoundSo 14 = .ok (.iload_n 1, 1) := by decide +kernel
theorem dX9_isFoundSo_15 : decode cX9_isFoundSo 15 = .ok (.iaload, 1) := by decide +kernel
theorem dX9_isFoundSo_16 : decode cX9_isFoundSo 16 = .ok (.if_icmp .ne 7, 3) := by decide +kernel
theorem dX9_isFoundSo_19 : decode cX9_isFoundSo 19 = .ok (.iconst 1, 1) := by decide +kernel
theorem dX9_isFoundSo_20 : decode cX9_isFoundSo 20 = .ok (.goto 4, 3) := by decide +kernel
theorem dX9_isFoundSo_23 : decode cX9_isFoundSo 23 = .ok (.iconst 0, 1) := by decide +kernel
theorem dX9_isFoundSo_24 : decode cX9_isFoundSo 24 = .ok (.ireturn, 1) := by decide +kernel
theorem dX9_areFoundSo_0 : decode cX9_areFoundSo 0 = .ok (.iconst 0, 1) := by decide +kernel
theorem dX9_areFoundSo_1 : decode cX9_areFoundSo 1 = .ok (.istore_n 3, 1) := by decide +kernel
theorem dX9_areFoundSo_2 : decode cX9_areFoundSo 2 = .ok (.iload_n 3, 1) := by decide +kernel
theorem dX9_areFoundSo_3 : decode cX9_areFoundSo 3 = .ok (.aload_n 0, 1) := by decide +kernel
theorem dX9_areFoundSo_4 : decode cX9_areFoundSo 4 = .ok (.getfield 186, 3) := by decide +kernel
theorem dX9_areFoundSo_7 : decode cX9_areFoundSo 7 = .ok (.if_icmp .ge 29, 3) := by decide +kernel
theorem dX9_areFoundSo_10 : decode cX9_areFoundSo 10 = .ok (.iload_n 1, 1) := by decide +kernel
theorem dX9_areFoundSo_11 : decode cX9_areFoundSo 11 = .ok (.iload_n 3, 1) := by decide +kernel
theorem dX9_areFoundSo_12 : decode cX9_areFoundSo 12 = .ok (.ishr, 1) := by decide +kernel
theorem dX9_areFoundSo_13 : decode cX9_areFoundSo 13 = .ok (.iconst 1, 1) := by decide +kernel
theorem dX9_areFoundSo_14 : decode cX9_areFoundSo 14 = .ok (.iand, 1) := by decide +kernel
theorem dX9_areFoundSo_15 : decode cX9_areFoundSo 15 = .ok (.iconst 1, 1) := by decide +kernel
theorem dX9_areFoundSo_16 : decode cX9_areFoundSo 16 = .ok (.if_icmp .ne 14, 3) := by decide +kernel
theorem dX9_areFoundSo_19 : decode cX9_areFoundSo 19 = .ok (.aload_n 0, 1) := by decide +kernel
theorem dX9_areFoundSo_20 : decode cX9_areFoundSo 20 = .ok (.iload_n 3, 1) := by decide +kernel
theorem dX9_areFoundSo_21 : decode cX9_areFoundSo 21 = .ok (.iload_n 2, 1) := by decide +kernel
theorem dX9_areFoundSo_22 : decode cX9_areFoundSo 22 = .ok (.invokevirtual 208, 3) := by decide +kernel
theorem dX9_areFoundSo_25 : decode cX9_areFoundSo 25 = .ok (.ifCond .ne 5, 3) := by decide +kernel
theorem dX9_areFoundSo_28 : decode cX9_areFoundSo 28 = .ok (.iconst 0, 1) := by decide +kernel
theorem dX9_areFoundSo_29 : decode cX9_areFoundSo 29 = .ok (.ireturn, 1) := by decide +kernel
theorem dX9_areFoundSo_30 : decode cX9_areFoundSo 30 = .ok (.iinc 3 1, 3) := by decide +kernel
theorem dX9_areFoundSo_33 : decode cX9_areFoundSo 33 = .ok (.goto (-31), 3) := by decide +kernel
theorem dX9_areFoundSo_36 : decode cX9_areFoundSo 36 = .ok (.iconst 1, 1) := by decide +kernel
theorem dX9_areFoundSo_37 : decode cX9_areFoundSo 37 = .ok (.ireturn, 1) := by decide +kernel
theorem dX9_allFound_0 : decode cX9_allFound 0 = .ok (.iconst 1, 1) := by decide +kernel
theorem dX9_allFound_1 : decode cX9_allFound 1 = .ok (.aload_n 0, 1) := by decide +kernel
theorem dX9_allFound_2 : decode cX9_allFound 2 = .ok (.getfield 186, 3) := by decide +kernel
theorem dX9_allFound_5 : decode cX9_allFound 5 = .ok (.ishl, 1) := by decide +kernel
theorem dX9_allFound_6 : decode cX9_allFound 6 = .ok (.iconst 1, 1) := by decide +kernel
theorem dX9_allFound_7 : decode cX9_allFound 7 = .ok (.isub, 1) := by decide +kernel
theorem dX9_allFound_8 : decode cX9_allFound 8 = .ok (.ireturn, 1) := by decide +kernel
theorem dX9_isGood_0 : decode cX9_isGood 0 = .ok (.aload_n 0, 1) := by decide +kernel
theorem dX9_isGood_1 : decode cX9_isGood 1 = .ok (.iload_n 1, 1) := by decide +kernel
theorem dX9_isGood_2 : decode cX9_isGood 2 = .ok (.invokevirtual 211, 3) := by decide +kernel
theorem dX9_isGood_5 : decode cX9_isGood 5 = .ok (.ifCond .eq 27, 3) := by decide +kernel
theorem dX9_isGood_8 : decode cX9_isGood 8 = .ok (.aload_n 0, 1) := by decide +kernel
theorem dX9_isGood_9 : decode cX9_isGood 9 = .ok (.iload_n 1, 1) := by decide +kernel
theorem dX9_isGood_10 : decode cX9_isGood 10 = .ok (.invokevirtual 214, 3) := by decide +kernel
theorem dX9_isGood_13 : decode cX9_isGood 13 = .ok (.ifCond .ne 19, 3) := by decide +kernel
theorem dX9_isGood_16 : decode cX9_isGood 16 = .ok (.aload_n 0, 1) := by decide +kernel
theorem dX9_isGood_17 : decode cX9_isGood 17 = .ok (.aload_n 0, 1) := by decide +kernel
theorem dX9_isGood_18 : decode cX9_isGood 18 = .ok (.invokevirtual 217, 3) := by decide +kernel
theorem dX9_isGood_21 : decode cX9_isGood 21 = .ok (.iload_n 1, 1) := by decide +kernel
theorem dX9_isGood_22 : decode cX9_isGood 22 = .ok (.invokevirtual 220, 3) := by decide +kernel
theorem dX9_isGood_25 : decode cX9_isGood 25 = .ok (.ifCond .eq 7, 3) := by decide +kernel
theorem dX9_isGood_28 : decode cX9_isGood 28 = .ok (.iconst 1, 1) := by decide +kernel
theorem dX9_isGood_29 : decode cX9_isGood 29 = .ok (.goto 4, 3) := by decide +kernel
theorem dX9_isGood_32 : decode cX9_isGood 32 = .ok (.iconst 0, 1) := by decide +kernel
theorem dX9_isGood_33 : decode cX9_isGood 33 = .ok (.ireturn, 1) := by decide +kernel
theorem dX9_findWorlds_0 : decode cX9_findWorlds 0 = .ok (.aload_n 0, 1) := by decide +kernel
theorem dX9_findWorlds_1 : decode cX9_findWorlds 1 = .ok (.iconst 0, 1) := by decide +kernel
theorem dX9_findWorlds_2 : decode cX9_findWorlds 2 = .ok (.putfield 223, 3) := by decide +kernel
theorem dX9_findWorlds_5 : decode cX9_findWorlds 5 = .ok (.iconst 0, 1) := by decide +kernel
theorem dX9_findWorlds_6 : decode cX9_findWorlds 6 = .ok (.istore_n 2, 1) := by decide +kernel
theorem dX9_findWorlds_7 : decode cX9_findWorlds 7 = .ok (.iload_n 2, 1) := by decide +kernel
theorem dX9_findWorlds_8 : decode cX9_findWorlds 8 = .ok (.sipush 1024, 3) := by decide +kernel
theorem dX9_findWorlds_11 : decode cX9_findWorlds 11 = .ok (.if_icmp .ge 61, 3) := by decide +kernel
theorem dX9_findWorlds_14 : decode cX9_findWorlds 14 = .ok (.aload_n 0, 1) := by decide +kernel
theorem dX9_findWorlds_15 : decode cX9_findWorlds 15 = .ok (.iload_n 2, 1) := by decide +kernel
theorem dX9_findWorlds_16 : decode cX9_findWorlds 16 = .ok (.invokevirtual 211, 3) := by decide +kernel
theorem dX9_findWorlds_19 : decode cX9_findWorlds 19 = .ok (.ifCond .eq 47, 3) := by decide +kernel
theorem dX9_findWorlds_22 : decode cX9_findWorlds 22 = .ok (.aload_n 0, 1) := by decide +kernel
theorem dX9_findWorlds_23 : decode cX9_findWorlds 23 = .ok (.iload_n 2, 1) := by decide +kernel
theorem dX9_findWorlds_24 : decode cX9_findWorlds 24 = .ok (.invokevirtual 214, 3) := by decide +kernel
theorem dX9_findWorlds_27 : decode cX9_findWorlds 27 = .ok (.iload_n 1, 1) := by decide +kernel
theorem dX9_findWorlds_28 : decode cX9_findWorlds 28 = .ok (.if_icmp .gt 38, 3) := by decide +kernel
theorem dX9_findWorlds_31 : decode cX9_findWorlds 31 = .ok (.aload_n 0, 1) := by decide +kernel
theorem dX9_findWorlds_32 : decode cX9_findWorlds 32 = .ok (.aload_n 0, 1) := by decide +kernel
theorem dX9_findWorlds_33 : decode cX9_findWorlds 33 = .ok (.invokevirtual 217, 3) := by decide +kernel
theorem dX9_findWorlds_36 : decode cX9_findWorlds 36 = .ok (.iload_n 2, 1) := by decide +kernel
theorem dX9_findWorlds_37 : decode cX9_findWorlds 37 = .ok (.invokevirtual 220, 3) := by decide +kernel
theorem dX9_findWorlds_40 : decode cX9_findWorlds 40 = .ok (.ifCond .ne 6, 3) := by decide +kernel
theorem dX9_findWorlds_43 : decode cX9_findWorlds 43 = .ok (.goto 23, 3) := by decide +kernel
theorem dX9_findWorlds_46 : decode cX9_findWorlds 46 = .ok (.aload_n 0, 1) := by decide +kernel
theorem dX9_findWorlds_47 : decode cX9_findWorlds 47 = .ok (.getfield 71, 3) := by decide +kernel
theorem dX9_findWorlds_50 : decode cX9_findWorlds 50 = .ok (.aload_n 0, 1) := by decide +kernel
theorem dX9_findWorlds_51 : decode cX9_findWorlds 51 = .ok (.getfield 223, 3) := by decide +kernel
theorem dX9_findWorlds_54 : decode cX9_findWorlds 54 = .ok (.iload_n 2, 1) := by decide +kernel
theorem dX9_findWorlds_55 : decode cX9_findWorlds 55 = .ok (.iastore, 1) := by decide +kernel
theorem dX9_findWorlds_56 : decode cX9_findWorlds 56 = .ok (.aload_n 0, 1) := by decide +kernel
theorem dX9_findWorlds_57 : decode cX9_findWorlds 57 = .ok (.dup, 1) := by decide +kernel
theorem dX9_findWorlds_58 : decode cX9_findWorlds 58 = .ok (.getfield 223, 3) := by decide +kernel
theorem dX9_findWorlds_61 : decode cX9_findWorlds 61 = .ok (.iconst 1, 1) := by decide +kernel
theorem dX9_findWorlds_62 : decode cX9_findWorlds 62 = .ok (.iadd, 1) := by decide +kernel
theorem dX9_findWorlds_63 : decode cX9_findWorlds 63 = .ok (.putfield 223, 3) := by decide +kernel
theorem dX9_findWorlds_66 : decode cX9_findWorlds 66 = .ok (.iinc 2 1, 3) := by decide +kernel
theorem dX9_findWorlds_69 : decode cX9_findWorlds 69 = .ok (.goto (-62), 3) := by decide +kernel
theorem dX9_findWorlds_72 : decode cX9_findWorlds 72 = .ok (.return_, 1) := by decide +kernel
theorem dX9_inAll_0 : decode cX9_inAll 0 = .ok (.sipush 1023, 3) := by decide +kernel
theorem dX9_inAll_3 : decode cX9_inAll 3 = .ok (.istore_n 1, 1) := by decide +kernel
theorem dX9_inAll_4 : decode cX9_inAll 4 = .ok (.iconst 0, 1) := by decide +kernel
theorem dX9_inAll_5 : decode cX9_inAll 5 = .ok (.istore_n 2, 1) := by decide +kernel
theorem dX9_inAll_6 : decode cX9_inAll 6 = .ok (.iload_n 2, 1) := by decide +kernel
theorem dX9_inAll_7 : decode cX9_inAll 7 = .ok (.aload_n 0, 1) := by decide +kernel
theorem dX9_inAll_8 : decode cX9_inAll 8 = .ok (.getfield 223, 3) := by decide +kernel
theorem dX9_inAll_11 : decode cX9_inAll 11 = .ok (.if_icmp .ge 18, 3) := by decide +kernel
theorem dX9_inAll_14 : decode cX9_inAll 14 = .ok (.iload_n 1, 1) := by decide +kernel
theorem dX9_inAll_15 : decode cX9_inAll 15 = .ok (.aload_n 0, 1) := by decide +kernel
theorem dX9_inAll_16 : decode cX9_inAll 16 = .ok (.getfield 71, 3) := by decide +kernel
theorem dX9_inAll_19 : decode cX9_inAll 19 = .ok (.iload_n 2, 1) := by decide +kernel
theorem dX9_inAll_20 : decode cX9_inAll 20 = .ok (.iaload, 1) := by decide +kernel
theorem dX9_inAll_21 : decode cX9_inAll 21 = .ok (.iand, 1) := by decide +kernel
theorem dX9_inAll_22 : decode cX9_inAll 22 = .ok (.istore_n 1, 1) := by decide +kernel
theorem dX9_inAll_23 : decode cX9_inAll 23 = .ok (.iinc 2 1, 3) := by decide +kernel
theorem dX9_inAll_26 : decode cX9_inAll 26 = .ok (.goto (-20), 3) := by decide +kernel
theorem dX9_inAll_29 : decode cX9_inAll 29 = .ok (.iload_n 1, 1) := by decide +kernel
theorem dX9_inAll_30 : decode cX9_inAll 30 = .ok (.ireturn, 1) := by decide +kernel
theorem dX9_inNone_0 : decode cX9_inNone 0 = .ok (.sipush 1023, 3) := by decide +kernel
theorem dX9_inNone_3 : decode cX9_inNone 3 = .ok (.istore_n 1, 1) := by decide +kernel
theorem dX9_inNone_4 : decode cX9_inNone 4 = .ok (.iconst 0, 1) := by decide +kernel
theorem dX9_inNone_5 : decode cX9_inNone 5 = .ok (.istore_n 2, 1) := by decide +kernel
theorem dX9_inNone_6 : decode cX9_inNone 6 = .ok (.iload_n 2, 1) := by decide +kernel
theorem dX9_inNone_7 : decode cX9_inNone 7 = .ok (.aload_n 0, 1) := by decide +kernel
theorem dX9_inNone_8 : decode cX9_inNone 8 = .ok (.getfield 223, 3) := by decide +kernel
theorem dX9_inNone_11 : decode cX9_inNone 11 = .ok (.if_icmp .ge 20, 3) := by decide +kernel
theorem dX9_inNone_14 : decode cX9_inNone 14 = .ok (.iload_n 1, 1) := by decide +kernel
theorem dX9_inNone_15 : decode cX9_inNone 15 = .ok (.aload_n 0, 1) := by decide +kernel
theorem dX9_inNone_16 : decode cX9_inNone 16 = .ok (.getfield 71, 3) := by decide +kernel
theorem dX9_inNone_19 : decode cX9_inNone 19 = .ok (.iload_n 2, 1) := by decide +kernel
theorem dX9_inNone_20 : decode cX9_inNone 20 = .ok (.iaload, 1) := by decide +kernel
theorem dX9_inNone_21 : decode cX9_inNone 21 = .ok (.iconst (-1), 1) := by decide +kernel
theorem dX9_inNone_22 : decode cX9_inNone 22 = .ok (.ixor, 1) := by decide +kernel
theorem dX9_inNone_23 : decode cX9_inNone 23 = .ok (.iand, 1) := by decide +kernel
theorem dX9_inNone_24 : decode cX9_inNone 24 = .ok (.istore_n 1, 1) := by decide +kernel
theorem dX9_inNone_25 : decode cX9_inNone 25 = .ok (.iinc 2 1, 3) := by decide +kernel
theorem dX9_inNone_28 : decode cX9_inNone 28 = .ok (.goto (-22), 3) := by decide +kernel
theorem dX9_inNone_31 : decode cX9_inNone 31 = .ok (.iload_n 1, 1) := by decide +kernel
theorem dX9_inNone_32 : decode cX9_inNone 32 = .ok (.ireturn, 1) := by decide +kernel
theorem dX9_road_0 : decode cX9_road 0 = .ok (.iload_n 1, 1) := by decide +kernel
theorem dX9_road_1 : decode cX9_road 1 = .ok (.iconst 0, 1) := by decide +kernel
theorem dX9_road_2 : decode cX9_road 2 = .ok (.aload_n 0, 1) := by decide +kernel
theorem dX9_road_3 : decode cX9_road 3 = .ok (.getfield 137, 3) := by decide +kernel
theorem dX9_road_6 : decode cX9_road 6 = .ok (.iconst 1, 1) := by decide +kernel
theorem dX9_road_7 : decode cX9_road 7 = .ok (.isub, 1) := by decide +kernel
theorem dX9_road_8 : decode cX9_road 8 = .ok (.invokestatic 113, 3) := by decide +kernel
theorem dX9_road_11 : decode cX9_road 11 = .ok (.ifCond .ne 9, 3) := by decide +kernel
theorem dX9_road_14 : decode cX9_road 14 = .ok (.aload_n 0, 1) := by decide +kernel
theorem dX9_road_15 : decode cX9_road 15 = .ok (.iconst (-1), 1) := by decide +kernel
theorem dX9_road_16 : decode cX9_road 16 = .ok (.invokevirtual 102, 3) := by decide +kernel
theorem dX9_road_19 : decode cX9_road 19 = .ok (.ireturn, 1) := by decide +kernel
theorem dX9_road_20 : decode cX9_road 20 = .ok (.iload_n 2, 1) := by decide +kernel
theorem dX9_road_21 : decode cX9_road 21 = .ok (.iconst 0, 1) := by decide +kernel
theorem dX9_road_22 : decode cX9_road 22 = .ok (.iconst 2, 1) := by decide +kernel
theorem dX9_road_23 : decode cX9_road 23 = .ok (.invokestatic 113, 3) := by decide +kernel
theorem dX9_road_26 : decode cX9_road 26 = .ok (.ifCond .ne 10, 3) := by decide +kernel
theorem dX9_road_29 : decode cX9_road 29 = .ok (.aload_n 0, 1) := by decide +kernel
theorem dX9_road_30 : decode cX9_road 30 = .ok (.bipush (-2), 2) := by decide +kernel
theorem dX9_road_32 : decode cX9_road 32 = .ok (.invokevirtual 102, 3) := by decide +kernel
theorem dX9_road_35 : decode cX9_road 35 = .ok (.ireturn, 1) := by decide +kernel
theorem dX9_road_36 : decode cX9_road 36 = .ok (.iload_n 2, 1) := by decide +kernel
theorem dX9_road_37 : decode cX9_road 37 = .ok (.iconst 2, 1) := by decide +kernel
theorem dX9_road_38 : decode cX9_road 38 = .ok (.if_icmp .ge 23, 3) := by decide +kernel
theorem dX9_road_41 : decode cX9_road 41 = .ok (.iload_n 2, 1) := by decide +kernel
theorem dX9_road_42 : decode cX9_road 42 = .ok (.ifCond .ne 12, 3) := by decide +kernel
theorem dX9_road_45 : decode cX9_road 45 = .ok (.aload_n 0, 1) := by decide +kernel
theorem dX9_road_46 : decode cX9_road 46 = .ok (.getfield 13, 3) := by decide +kernel
theorem dX9_road_49 : decode cX9_road 49 = .ok (.iload_n 1, 1) := by decide +kernel
theorem dX9_road_50 : decode cX9_road 50 = .ok (.iaload, 1) := by decide +kernel
theorem dX9_road_51 : decode cX9_road 51 = .ok (.goto 9, 3) := by decide +kernel
theorem dX9_road_54 : decode cX9_road 54 = .ok (.aload_n 0, 1) := by decide +kernel
theorem dX9_road_55 : decode cX9_road 55 = .ok (.getfield 16, 3) := by decide +kernel
theorem dX9_road_58 : decode cX9_road 58 = .ok (.iload_n 1, 1) := by decide +kernel
theorem dX9_road_59 : decode cX9_road 59 = .ok (.iaload, 1) := by decide +kernel
theorem dX9_road_60 : decode cX9_road 60 = .ok (.ireturn, 1) := by decide +kernel
theorem dX9_road_61 : decode cX9_road 61 = .ok (.iconst 0, 1) := by decide +kernel
theorem dX9_road_62 : decode cX9_road 62 = .ok (.istore_n 3, 1) := by decide +kernel
theorem dX9_road_63 : decode cX9_road 63 = .ok (.iconst 0, 1) := by decide +kernel
theorem dX9_road_64 : decode cX9_road 64 = .ok (.istore 4, 2) := by decide +kernel
theorem dX9_road_66 : decode cX9_road 66 = .ok (.iload 4, 2) := by decide +kernel
theorem dX9_road_68 : decode cX9_road 68 = .ok (.aload_n 0, 1) := by decide +kernel
theorem dX9_road_69 : decode cX9_road 69 = .ok (.getfield 92, 3) := by decide +kernel
theorem dX9_road_72 : decode cX9_road 72 = .ok (.if_icmp .ge 31, 3) := by decide +kernel
theorem dX9_road_75 : decode cX9_road 75 = .ok (.iload_n 3, 1) := by decide +kernel
theorem dX9_road_76 : decode cX9_road 76 = .ok (.aload_n 0, 1) := by decide +kernel
theorem dX9_road_77 : decode cX9_road 77 = .ok (.getfield 22, 3) := by decide +kernel
theorem dX9_road_80 : decode cX9_road 80 = .ok (.iload 4, 2) := by decide +kernel
theorem dX9_road_82 : decode cX9_road 82 = .ok (.iaload, 1) := by decide +kernel
theorem dX9_road_83 : decode cX9_road 83 = .ok (.iload_n 1, 1) := by decide +kernel
theorem dX9_road_84 : decode cX9_road 84 = .ok (.if_icmp .ne 10, 3) := by decide +kernel
theorem dX9_road_87 : decode cX9_road 87 = .ok (.iconst 1, 1) := by decide +kernel
theorem dX9_road_88 : decode cX9_road 88 = .ok (.iload 4, 2) := by decide +kernel
theorem dX9_road_90 : decode cX9_road 90 = .ok (.ishl, 1) := by decide +kernel
theorem dX9_road_91 : decode cX9_road 91 = .ok (.goto 4, 3) := by decide +kernel
theorem dX9_road_94 : decode cX9_road 94 = .ok (.iconst 0, 1) := by decide +kernel
theorem dX9_road_95 : decode cX9_road 95 = .ok (.ior, 1) := by decide +kernel
theorem dX9_road_96 : decode cX9_road 96 = .ok (.istore_n 3, 1) := by decide +kernel
theorem dX9_road_97 : decode cX9_road 97 = .ok (.iinc 4 1, 3) := by decide +kernel
theorem dX9_road_100 : decode cX9_road 100 = .ok (.goto (-34), 3) := by decide +kernel
theorem dX9_road_103 : decode cX9_road 103 = .ok (.iload_n 3, 1) := by decide +kernel
theorem dX9_road_104 : decode cX9_road 104 = .ok (.ireturn, 1) := by decide +kernel
theorem dX9_sign_0 : decode cX9_sign 0 = .ok (.aload_n 0, 1) := by decide +kernel
theorem dX9_sign_1 : decode cX9_sign 1 = .ok (.iload_n 1, 1) := by decide +kernel
theorem dX9_sign_2 : decode cX9_sign 2 = .ok (.invokevirtual 226, 3) := by decide +kernel
theorem dX9_sign_5 : decode cX9_sign 5 = .ok (.ifCond .ne 9, 3) := by decide +kernel
theorem dX9_sign_8 : decode cX9_sign 8 = .ok (.aload_n 0, 1) := by decide +kernel
theorem dX9_sign_9 : decode cX9_sign 9 = .ok (.iconst (-1), 1) := by decide +kernel
theorem dX9_sign_10 : decode cX9_sign 10 = .ok (.invokevirtual 102, 3) := by decide +kernel
theorem dX9_sign_13 : decode cX9_sign 13 = .ok (.ireturn, 1) := by decide +kernel
theorem dX9_sign_14 : decode cX9_sign 14 = .ok (.iload_n 2, 1) := by decide +kernel
theorem dX9_sign_15 : decode cX9_sign 15 = .ok (.iconst 0, 1) := by decide +kernel
theorem dX9_sign_16 : decode cX9_sign 16 = .ok (.iconst 3, 1) := by decide +kernel
theorem dX9_sign_17 : decode cX9_sign 17 = .ok (.invokestatic 113, 3) := by decide +kernel
theorem dX9_sign_20 : decode cX9_sign 20 = .ok (.ifCond .ne 10, 3) := by decide +kernel
theorem dX9_sign_23 : decode cX9_sign 23 = .ok (.aload_n 0, 1) := by decide +kernel
theorem dX9_sign_24 : decode cX9_sign 24 = .ok (.bipush (-2), 2) := by decide +kernel
theorem dX9_sign_26 : decode cX9_sign 26 = .ok (.invokevirtual 102, 3) := by decide +kernel
theorem dX9_sign_29 : decode cX9_sign 29 = .ok (.ireturn, 1) := by decide +kernel
theorem dX9_sign_30 : decode cX9_sign 30 = .ok (.iload_n 2, 1) := by decide +kernel
theorem dX9_sign_31 : decode cX9_sign 31 = .ok (.ifCond .ne 12, 3) := by decide +kernel
theorem dX9_sign_34 : decode cX9_sign 34 = .ok (.aload_n 0, 1) := by decide +kernel
theorem dX9_sign_35 : decode cX9_sign 35 = .ok (.getfield 19, 3) := by decide +kernel
theorem dX9_sign_38 : decode cX9_sign 38 = .ok (.iload_n 1, 1) := by decide +kernel
theorem dX9_sign_39 : decode cX9_sign 39 = .ok (.iaload, 1) := by decide +kernel
theorem dX9_sign_40 : decode cX9_sign 40 = .ok (.goto 37, 3) := by decide +kernel
theorem dX9_sign_43 : decode cX9_sign 43 = .ok (.iload_n 2, 1) := by decide +kernel
theorem dX9_sign_44 : decode cX9_sign 44 = .ok (.iconst 1, 1) := by decide +kernel
theorem dX9_sign_45 : decode cX9_sign 45 = .ok (.if_icmp .ne 12, 3) := by decide +kernel
theorem dX9_sign_48 : decode cX9_sign 48 = .ok (.aload_n 0, 1) := by decide +kernel
theorem dX9_sign_49 : decode cX9_sign 49 = .ok (.getfield 22, 3) := by decide +kernel
theorem dX9_sign_52 : decode cX9_sign 52 = .ok (.iload_n 1, 1) := by decide +kernel
theorem dX9_sign_53 : decode cX9_sign 53 = .ok (.iaload, 1) := by decide +kernel
theorem dX9_sign_54 : decode cX9_sign 54 = .ok (.goto 23, 3) := by decide +kernel
theorem dX9_sign_57 : decode cX9_sign 57 = .ok (.iload_n 2, 1) := by decide +kernel
theorem dX9_sign_58 : decode cX9_sign 58 = .ok (.iconst 2, 1) := by decide +kernel
theorem dX9_sign_59 : decode cX9_sign 59 = .ok (.if_icmp .ne 12, 3) := by decide +kernel
theorem dX9_sign_62 : decode cX9_sign 62 = .ok (.aload_n 0, 1) := by decide +kernel
theorem dX9_sign_63 : decode cX9_sign 63 = .ok (.getfield 25, 3) := by decide +kernel
theorem dX9_sign_66 : decode cX9_sign 66 = .ok (.iload_n 1, 1) := by decide +kernel
theorem dX9_sign_67 : decode cX9_sign 67 = .ok (.iaload, 1) := by decide +kernel
theorem dX9_sign_68 : decode cX9_sign 68 = .ok (.goto 9, 3) := by decide +kernel
theorem dX9_sign_71 : decode cX9_sign 71 = .ok (.aload_n 0, 1) := by decide +kernel
theorem dX9_sign_72 : decode cX9_sign 72 = .ok (.getfield 28, 3) := by decide +kernel
theorem dX9_sign_75 : decode cX9_sign 75 = .ok (.iload_n 1, 1) := by decide +kernel
theorem dX9_sign_76 : decode cX9_sign 76 = .ok (.iaload, 1) := by decide +kernel
theorem dX9_sign_77 : decode cX9_sign 77 = .ok (.ireturn, 1) := by decide +kernel
theorem dX9_shown_0 : decode cX9_shown 0 = .ok (.aload_n 0, 1) := by decide +kernel
theorem dX9_shown_1 : decode cX9_shown 1 = .ok (.iload_n 1, 1) := by decide +kernel
theorem dX9_shown_2 : decode cX9_shown 2 = .ok (.invokevirtual 155, 3) := by decide +kernel
theorem dX9_shown_5 : decode cX9_shown 5 = .ok (.ifCond .eq 12, 3) := by decide +kernel
theorem dX9_shown_8 : decode cX9_shown 8 = .ok (.aload_n 0, 1) := by decide +kernel
theorem dX9_shown_9 : decode cX9_shown 9 = .ok (.getfield 31, 3) := by decide +kernel
theorem dX9_shown_12 : decode cX9_shown 12 = .ok (.iload_n 1, 1) := by decide +kernel
theorem dX9_shown_13 : decode cX9_shown 13 = .ok (.iaload, 1) := by decide +kernel
theorem dX9_shown_14 : decode cX9_shown 14 = .ok (.goto 8, 3) := by decide +kernel
theorem dX9_shown_17 : decode cX9_shown 17 = .ok (.aload_n 0, 1) := by decide +kernel
theorem dX9_shown_18 : decode cX9_shown 18 = .ok (.iconst (-1), 1) := by decide +kernel
theorem dX9_shown_19 : decode cX9_shown 19 = .ok (.invokevirtual 102, 3) := by decide +kernel
theorem dX9_shown_22 : decode cX9_shown 22 = .ok (.ireturn, 1) := by decide +kernel
theorem dX9_fits_0 : decode cX9_fits 0 = .ok (.aload_n 0, 1) := by decide +kernel
theorem dX9_fits_1 : decode cX9_fits 1 = .ok (.iload_n 1, 1) := by decide +kernel
theorem dX9_fits_2 : decode cX9_fits 2 = .ok (.invokevirtual 211, 3) := by decide +kernel
theorem dX9_fits_5 : decode cX9_fits 5 = .ok (.ifCond .ne 11, 3) := by decide +kernel
theorem dX9_fits_8 : decode cX9_fits 8 = .ok (.aload_n 0, 1) := by decide +kernel
theorem dX9_fits_9 : decode cX9_fits 9 = .ok (.iconst (-1), 1) := by decide +kernel
theorem dX9_fits_10 : decode cX9_fits 10 = .ok (.invokevirtual 102, 3) := by decide +kernel
theorem dX9_fits_13 : decode cX9_fits 13 = .ok (.goto 16, 3) := by decide +kernel
theorem dX9_fits_16 : decode cX9_fits 16 = .ok (.aload_n 0, 1) := by decide +kernel
theorem dX9_fits_17 : decode cX9_fits 17 = .ok (.iload_n 1, 1) := by decide +kernel
theorem dX9_fits_18 : decode cX9_fits 18 = .ok (.invokevirtual 214, 3) := by decide +kernel
theorem dX9_fits_21 : decode cX9_fits 21 = .ok (.ifCond .ne 7, 3) := by decide +kernel
theorem dX9_fits_24 : decode cX9_fits 24 = .ok (.iconst 1, 1) := by decide +kernel
theorem dX9_fits_25 : decode cX9_fits 25 = .ok (.goto 4, 3) := by decide +kernel
theorem dX9_fits_28 : decode cX9_fits 28 = .ok (.iconst 0, 1) := by decide +kernel
theorem dX9_fits_29 : decode cX9_fits 29 = .ok (.ireturn, 1) := by decide +kernel
theorem dX9_good_0 : decode cX9_good 0 = .ok (.aload_n 0, 1) := by decide +kernel
theorem dX9_good_1 : decode cX9_good 1 = .ok (.iload_n 1, 1) := by decide +kernel
theorem dX9_good_2 : decode cX9_good 2 = .ok (.invokevirtual 211, 3) := by decide +kernel
theorem dX9_good_5 : decode cX9_good 5 = .ok (.ifCond .ne 11, 3) := by decide +kernel
theorem dX9_good_8 : decode cX9_good 8 = .ok (.aload_n 0, 1) := by decide +kernel
theorem dX9_good_9 : decode cX9_good 9 = .ok (.iconst (-1), 1) := by decide +kernel
theorem dX9_good_10 : decode cX9_good 10 = .ok (.invokevirtual 102, 3) := by decide +kernel
theorem dX9_good_13 : decode cX9_good 13 = .ok (.goto 16, 3) := by decide +kernel
theorem dX9_good_16 : decode cX9_good 16 = .ok (.aload_n 0, 1) := by decide +kernel
theorem dX9_good_17 : decode cX9_good 17 = .ok (.iload_n 1, 1) := by decide +kernel
theorem dX9_good_18 : decode cX9_good 18 = .ok (.invokevirtual 229, 3) := by decide +kernel
theorem dX9_good_21 : decode cX9_good 21 = .ok (.ifCond .eq 7, 3) := by decide +kernel
theorem dX9_good_24 : decode cX9_good 24 = .ok (.iconst 1, 1) := by decide +kernel
theorem dX9_good_25 : decode cX9_good 25 = .ok (.goto 4, 3) := by decide +kernel
theorem dX9_good_28 : decode cX9_good 28 = .ok (.iconst 0, 1) := by decide +kernel
theorem dX9_good_29 : decode cX9_good 29 = .ok (.ireturn, 1) := by decide +kernel
theorem dX9_says_0 : decode cX9_says 0 = .ok (.aload_n 0, 1) := by decide +kernel
theorem dX9_says_1 : decode cX9_says 1 = .ok (.iload_n 1, 1) := by decide +kernel
theorem dX9_says_2 : decode cX9_says 2 = .ok (.invokevirtual 226, 3) := by decide +kernel
theorem dX9_says_5 : decode cX9_says 5 = .ok (.ifCond .eq 20, 3) := by decide +kernel
theorem dX9_says_8 : decode cX9_says 8 = .ok (.aload_n 0, 1) := by decide +kernel
theorem dX9_says_9 : decode cX9_says 9 = .ok (.iload_n 2, 1) := by decide +kernel
theorem dX9_says_10 : decode cX9_says 10 = .ok (.invokevirtual 211, 3) := by decide +kernel
theorem dX9_says_13 : decode cX9_says 13 = .ok (.ifCond .eq 12, 3) := by decide +kernel
theorem dX9_says_16 : decode cX9_says 16 = .ok (.aload_n 0, 1) := by decide +kernel
theorem dX9_says_17 : decode cX9_says 17 = .ok (.iload_n 1, 1) := by decide +kernel
theorem dX9_says_18 : decode cX9_says 18 = .ok (.iload_n 2, 1) := by decide +kernel
theorem dX9_says_19 : decode cX9_says 19 = .ok (.invokevirtual 201, 3) := by decide +kernel
theorem dX9_says_22 : decode cX9_says 22 = .ok (.goto 8, 3) := by decide +kernel
theorem dX9_says_25 : decode cX9_says 25 = .ok (.aload_n 0, 1) := by decide +kernel
theorem dX9_says_26 : decode cX9_says 26 = .ok (.iconst (-1), 1) := by decide +kernel
theorem dX9_says_27 : decode cX9_says 27 = .ok (.invokevirtual 102, 3) := by decide +kernel
theorem dX9_says_30 : decode cX9_says 30 = .ok (.ireturn, 1) := by decide +kernel
theorem dX9_worlds_0 : decode cX9_worlds 0 = .ok (.iload_n 1, 1) := by decide +kernel
theorem dX9_worlds_1 : decode cX9_worlds 1 = .ok (.iconst (-1), 1) := by decide +kernel
theorem dX9_worlds_2 : decode cX9_worlds 2 = .ok (.if_icmp .ge 10, 3) := by decide +kernel
theorem dX9_worlds_5 : decode cX9_worlds 5 = .ok (.aload_n 0, 1) := by decide +kernel
theorem dX9_worlds_6 : decode cX9_worlds 6 = .ok (.bipush (-4), 2) := by decide +kernel
theorem dX9_worlds_8 : decode cX9_worlds 8 = .ok (.invokevirtual 102, 3) := by decide +kernel
theorem dX9_worlds_11 : decode cX9_worlds 11 = .ok (.ireturn, 1) := by decide +kernel
theorem dX9_worlds_12 : decode cX9_worlds 12 = .ok (.aload_n 0, 1) := by decide +kernel
theorem dX9_worlds_13 : decode cX9_worlds 13 = .ok (.iconst 0, 1) := by decide +kernel
theorem dX9_worlds_14 : decode cX9_worlds 14 = .ok (.invokevirtual 232, 3) := by decide +kernel
theorem dX9_worlds_17 : decode cX9_worlds 17 = .ok (.iload_n 1, 1) := by decide +kernel
theorem dX9_worlds_18 : decode cX9_worlds 18 = .ok (.iconst (-1), 1) := by decide +kernel
theorem dX9_worlds_19 : decode cX9_worlds 19 = .ok (.if_icmp .ne 10, 3) := by decide +kernel
theorem dX9_worlds_22 : decode cX9_worlds 22 = .ok (.aload_n 0, 1) := by decide +kernel
theorem dX9_worlds_23 : decode cX9_worlds 23 = .ok (.getfield 223, 3) := by decide +kernel
theorem dX9_worlds_26 : decode cX9_worlds 26 = .ok (.goto 22, 3) := by decide +kernel
theorem dX9_worlds_29 : decode cX9_worlds 29 = .ok (.iload_n 1, 1) := by decide +kernel
theorem dX9_worlds_30 : decode cX9_worlds 30 = .ok (.aload_n 0, 1) := by decide +kernel
theorem dX9_worlds_31 : decode cX9_worlds 31 = .ok (.getfield 223, 3) := by decide +kernel
theorem dX9_worlds_34 : decode cX9_worlds 34 = .ok (.if_icmp .ge 12, 3) := by decide +kernel
theorem dX9_worlds_37 : decode cX9_worlds 37 = .ok (.aload_n 0, 1) := by decide +kernel
theorem dX9_worlds_38 : decode cX9_worlds 38 = .ok (.getfield 71, 3) := by decide +kernel
theorem dX9_worlds_41 : decode cX9_worlds 41 = .ok (.iload_n 1, 1) := by decide +kernel
theorem dX9_worlds_42 : decode cX9_worlds 42 = .ok (.iaload, 1) := by decide +kernel
theorem dX9_worlds_43 : decode cX9_worlds 43 = .ok (.goto 5, 3) := by decide +kernel
theorem dX9_worlds_46 : decode cX9_worlds 46 = .ok (.bipush (-9), 2) := by decide +kernel
theorem dX9_worlds_48 : decode cX9_worlds 48 = .ok (.ireturn, 1) := by decide +kernel
theorem dX9_finds_0 : decode cX9_finds 0 = .ok (.iload_n 2, 1) := by decide +kernel
theorem dX9_finds_1 : decode cX9_finds 1 = .ok (.iconst 0, 1) := by decide +kernel
theorem dX9_finds_2 : decode cX9_finds 2 = .ok (.iconst 1, 1) := by decide +kernel
theorem dX9_finds_3 : decode cX9_finds 3 = .ok (.invokestatic 113, 3) := by decide +kernel
theorem dX9_finds_6 : decode cX9_finds 6 = .ok (.ifCond .ne 10, 3) := by decide +kernel
theorem dX9_finds_9 : decode cX9_finds 9 = .ok (.aload_n 0, 1) := by decide +kernel
theorem dX9_finds_10 : decode cX9_finds 10 = .ok (.bipush (-2), 2) := by decide +kernel
theorem dX9_finds_12 : decode cX9_finds 12 = .ok (.invokevirtual 102, 3) := by decide +kernel
theorem dX9_finds_15 : decode cX9_finds 15 = .ok (.ireturn, 1) := by decide +kernel
theorem dX9_finds_16 : decode cX9_finds 16 = .ok (.aload_n 0, 1) := by decide +kernel
theorem dX9_finds_17 : decode cX9_finds 17 = .ok (.getfield 186, 3) := by decide +kernel
theorem dX9_finds_20 : decode cX9_finds 20 = .ok (.bipush 12, 2) := by decide +kernel
theorem dX9_finds_22 : decode cX9_finds 22 = .ok (.if_icmp .ne 10, 3) := by decide +kernel
theorem dX9_finds_25 : decode cX9_finds 25 = .ok (.aload_n 0, 1) := by decide +kernel
theorem dX9_finds_26 : decode cX9_finds 26 = .ok (.bipush (-6), 2) := by decide +kernel
theorem dX9_finds_28 : decode cX9_finds 28 = .ok (.invokevirtual 102, 3) := by decide +kernel
theorem dX9_finds_31 : decode cX9_finds 31 = .ok (.ireturn, 1) := by decide +kernel
theorem dX9_finds_32 : decode cX9_finds 32 = .ok (.aload_n 0, 1) := by decide +kernel
theorem dX9_finds_33 : decode cX9_finds 33 = .ok (.getfield 41, 3) := by decide +kernel
theorem dX9_finds_36 : decode cX9_finds 36 = .ok (.aload_n 0, 1) := by decide +kernel
theorem dX9_finds_37 : decode cX9_finds 37 = .ok (.getfield 186, 3) := by decide +kernel
theorem dX9_finds_40 : decode cX9_finds 40 = .ok (.iload_n 1, 1) := by decide +kernel
theorem dX9_finds_41 : decode cX9_finds 41 = .ok (.iastore, 1) := by decide +kernel
theorem dX9_finds_42 : decode cX9_finds 42 = .ok (.aload_n 0, 1) := by decide +kernel
theorem dX9_finds_43 : decode cX9_finds 43 = .ok (.getfield 44, 3) := by decide +kernel
theorem dX9_finds_46 : decode cX9_finds 46 = .ok (.aload_n 0, 1) := by decide +kernel
theorem dX9_finds_47 : decode cX9_finds 47 = .ok (.getfield 186, 3) := by decide +kernel
theorem dX9_finds_50 : decode cX9_finds 50 = .ok (.iload_n 2, 1) := by decide +kernel
theorem dX9_finds_51 : decode cX9_finds 51 = .ok (.iastore, 1) := by decide +kernel
theorem dX9_finds_52 : decode cX9_finds 52 = .ok (.aload_n 0, 1) := by decide +kernel
theorem dX9_finds_53 : decode cX9_finds 53 = .ok (.dup, 1) := by decide +kernel
theorem dX9_finds_54 : decode cX9_finds 54 = .ok (.getfield 186, 3) := by decide +kernel
theorem dX9_finds_57 : decode cX9_finds 57 = .ok (.iconst 1, 1) := by decide +kernel
theorem dX9_finds_58 : decode cX9_finds 58 = .ok (.iadd, 1) := by decide +kernel
theorem dX9_finds_59 : decode cX9_finds 59 = .ok (.putfield 186, 3) := by decide +kernel
theorem dX9_finds_62 : decode cX9_finds 62 = .ok (.aload_n 0, 1) := by decide +kernel
theorem dX9_finds_63 : decode cX9_finds 63 = .ok (.getfield 186, 3) := by decide +kernel
theorem dX9_finds_66 : decode cX9_finds 66 = .ok (.ireturn, 1) := by decide +kernel
theorem dX9_fact_0 : decode cX9_fact 0 = .ok (.aload_n 0, 1) := by decide +kernel
theorem dX9_fact_1 : decode cX9_fact 1 = .ok (.iload_n 1, 1) := by decide +kernel
theorem dX9_fact_2 : decode cX9_fact 2 = .ok (.invokevirtual 146, 3) := by decide +kernel
theorem dX9_fact_5 : decode cX9_fact 5 = .ok (.ifCond .eq 12, 3) := by decide +kernel
theorem dX9_fact_8 : decode cX9_fact 8 = .ok (.aload_n 0, 1) := by decide +kernel
theorem dX9_fact_9 : decode cX9_fact 9 = .ok (.iload_n 1, 1) := by decide +kernel
theorem dX9_fact_10 : decode cX9_fact 10 = .ok (.iload_n 2, 1) := by decide +kernel
theorem dX9_fact_11 : decode cX9_fact 11 = .ok (.invokevirtual 236, 3) := by decide +kernel
theorem dX9_fact_14 : decode cX9_fact 14 = .ok (.goto 8, 3) := by decide +kernel
theorem dX9_fact_17 : decode cX9_fact 17 = .ok (.aload_n 0, 1) := by decide +kernel
theorem dX9_fact_18 : decode cX9_fact 18 = .ok (.iconst (-1), 1) := by decide +kernel
theorem dX9_fact_19 : decode cX9_fact 19 = .ok (.invokevirtual 102, 3) := by decide +kernel
theorem dX9_fact_22 : decode cX9_fact 22 = .ok (.ireturn, 1) := by decide +kernel
theorem dX9_way_0 : decode cX9_way 0 = .ok (.aload_n 0, 1) := by decide +kernel
theorem dX9_way_1 : decode cX9_way 1 = .ok (.iload_n 1, 1) := by decide +kernel
theorem dX9_way_2 : decode cX9_way 2 = .ok (.invokevirtual 226, 3) := by decide +kernel
theorem dX9_way_5 : decode cX9_way 5 = .ok (.ifCond .eq 14, 3) := by decide +kernel
theorem dX9_way_8 : decode cX9_way 8 = .ok (.aload_n 0, 1) := by decide +kernel
theorem dX9_way_9 : decode cX9_way 9 = .ok (.iconst 4, 1) := by decide +kernel
theorem dX9_way_10 : decode cX9_way 10 = .ok (.iload_n 1, 1) := by decide +kernel
theorem dX9_way_11 : decode cX9_way 11 = .ok (.iadd, 1) := by decide +kernel
theorem dX9_way_12 : decode cX9_way 12 = .ok (.iload_n 2, 1) := by decide +kernel
theorem dX9_way_13 : decode cX9_way 13 = .ok (.invokevirtual 236, 3) := by decide +kernel
theorem dX9_way_16 : decode cX9_way 16 = .ok (.goto 8, 3) := by decide +kernel
theorem dX9_way_19 : decode cX9_way 19 = .ok (.aload_n 0, 1) := by decide +kernel
theorem dX9_way_20 : decode cX9_way 20 = .ok (.iconst (-1), 1) := by decide +kernel
theorem dX9_way_21 : decode cX9_way 21 = .ok (.invokevirtual 102, 3) := by decide +kernel
theorem dX9_way_24 : decode cX9_way 24 = .ok (.ireturn, 1) := by decide +kernel
theorem dX9_forget_0 : decode cX9_forget 0 = .ok (.aload_n 0, 1) := by decide +kernel
theorem dX9_forget_1 : decode cX9_forget 1 = .ok (.getfield 186, 3) := by decide +kernel
theorem dX9_forget_4 : decode cX9_forget 4 = .ok (.ifCond .ne 10, 3) := by decide +kernel
theorem dX9_forget_7 : decode cX9_forget 7 = .ok (.aload_n 0, 1) := by decide +kernel
theorem dX9_forget_8 : decode cX9_forget 8 = .ok (.bipush (-3), 2) := by decide +kernel
theorem dX9_forget_10 : decode cX9_forget 10 = .ok (.invokevirtual 102, 3) := by decide +kernel
theorem dX9_forget_13 : decode cX9_forget 13 = .ok (.ireturn, 1) := by decide +kernel
theorem dX9_forget_14 : decode cX9_forget 14 = .ok (.aload_n 0, 1) := by decide +kernel
theorem dX9_forget_15 : decode cX9_forget 15 = .ok (.dup, 1) := by decide +kernel
theorem dX9_forget_16 : decode cX9_forget 16 = .ok (.getfield 186, 3) := by decide +kernel
theorem dX9_forget_19 : decode cX9_forget 19 = .ok (.iconst 1, 1) := by decide +kernel
theorem dX9_forget_20 : decode cX9_forget 20 = .ok (.isub, 1) := by decide +kernel
theorem dX9_forget_21 : decode cX9_forget 21 = .ok (.putfield 186, 3) := by decide +kernel
theorem dX9_forget_24 : decode cX9_forget 24 = .ok (.aload_n 0, 1) := by decide +kernel
theorem dX9_forget_25 : decode cX9_forget 25 = .ok (.getfield 186, 3) := by decide +kernel
theorem dX9_forget_28 : decode cX9_forget 28 = .ok (.ireturn, 1) := by decide +kernel
theorem dX9_openFacts_0 : decode cX9_openFacts 0 = .ok (.aload_n 0, 1) := by decide +kernel
theorem dX9_openFacts_1 : decode cX9_openFacts 1 = .ok (.invokevirtual 195, 3) := by decide +kernel
theorem dX9_openFacts_4 : decode cX9_openFacts 4 = .ok (.aload_n 0, 1) := by decide +kernel
theorem dX9_openFacts_5 : decode cX9_openFacts 5 = .ok (.invokevirtual 239, 3) := by decide +kernel
theorem dX9_openFacts_8 : decode cX9_openFacts 8 = .ok (.iconst (-1), 1) := by decide +kernel
theorem dX9_openFacts_9 : decode cX9_openFacts 9 = .ok (.ixor, 1) := by decide +kernel
theorem dX9_openFacts_10 : decode cX9_openFacts 10 = .ok (.iand, 1) := by decide +kernel
theorem dX9_openFacts_11 : decode cX9_openFacts 11 = .ok (.aload_n 0, 1) := by decide +kernel
theorem dX9_openFacts_12 : decode cX9_openFacts 12 = .ok (.invokevirtual 242, 3) := by decide +kernel
theorem dX9_openFacts_15 : decode cX9_openFacts 15 = .ok (.iconst (-1), 1) := by decide +kernel
theorem dX9_openFacts_16 : decode cX9_openFacts 16 = .ok (.ixor, 1) := by decide +kernel
theorem dX9_openFacts_17 : decode cX9_openFacts 17 = .ok (.iand, 1) := by decide +kernel
theorem dX9_openFacts_18 : decode cX9_openFacts 18 = .ok (.ireturn, 1) := by decide +kernel
theorem dX9_sure_0 : decode cX9_sure 0 = .ok (.iload_n 1, 1) := by decide +kernel
theorem dX9_sure_1 : decode cX9_sure 1 = .ok (.iconst 0, 1) := by decide +kernel
theorem dX9_sure_2 : decode cX9_sure 2 = .ok (.iconst 5, 1) := by decide +kernel
theorem dX9_sure_3 : decode cX9_sure 3 = .ok (.invokestatic 113, 3) := by decide +kernel
theorem dX9_sure_6 : decode cX9_sure 6 = .ok (.ifCond .ne 10, 3) := by decide +kernel
theorem dX9_sure_9 : decode cX9_sure 9 = .ok (.aload_n 0, 1) := by decide +kernel
theorem dX9_sure_10 : decode cX9_sure 10 = .ok (.bipush (-2), 2) := by decide +kernel
theorem dX9_sure_12 : decode cX9_sure 12 = .ok (.invokevirtual 102, 3) := by decide +kernel
theorem dX9_sure_15 : decode cX9_sure 15 = .ok (.ireturn, 1) := by decide +kernel
theorem dX9_sure_16 : decode cX9_sure 16 = .ok (.aload_n 0, 1) := by decide +kernel
theorem dX9_sure_17 : decode cX9_sure 17 = .ok (.iconst 0, 1) := by decide +kernel
theorem dX9_sure_18 : decode cX9_sure 18 = .ok (.invokevirtual 232, 3) := by decide +kernel
theorem dX9_sure_21 : decode cX9_sure 21 = .ok (.iload_n 1, 1) := by decide +kernel
theorem dX9_sure_22 : decode cX9_sure 22 = .ok (.iconst 3, 1) := by decide +kernel
theorem dX9_sure_23 : decode cX9_sure 23 = .ok (.irem, 1) := by decide +kernel
theorem dX9_sure_24 : decode cX9_sure 24 = .ok (.ifCond .ne 10, 3) := by decide +kernel
theorem dX9_sure_27 : decode cX9_sure 27 = .ok (.aload_n 0, 1) := by decide +kernel
theorem dX9_sure_28 : decode cX9_sure 28 = .ok (.invokevirtual 239, 3) := by decide +kernel
theorem dX9_sure_31 : decode cX9_sure 31 = .ok (.goto 30, 3) := by decide +kernel
theorem dX9_sure_34 : decode cX9_sure 34 = .ok (.iload_n 1, 1) := by decide +kernel
theorem dX9_sure_35 : decode cX9_sure 35 = .ok (.iconst 3, 1) := by decide +kernel
theorem dX9_sure_36 : decode cX9_sure 36 = .ok (.irem, 1) := by decide +kernel
theorem dX9_sure_37 : decode cX9_sure 37 = .ok (.iconst 1, 1) := by decide +kernel
theorem dX9_sure_38 : decode cX9_sure 38 = .ok (.if_icmp .ne 10, 3) := by decide +kernel
theorem dX9_sure_41 : decode cX9_sure 41 = .ok (.aload_n 0, 1) := by decide +kernel
theorem dX9_sure_42 : decode cX9_sure 42 = .ok (.invokevirtual 242, 3) := by decide +kernel
theorem dX9_sure_45 : decode cX9_sure 45 = .ok (.goto 16, 3) := by decide +kernel
theorem dX9_sure_48 : decode cX9_sure 48 = .ok (.aload_n 0, 1) := by decide +kernel
theorem dX9_sure_49 : decode cX9_sure 49 = .ok (.invokevirtual 239, 3) := by decide +kernel
theorem dX9_sure_52 : decode cX9_sure 52 = .ok (.iconst (-1), 1) := by decide +kernel
theorem dX9_sure_53 : decode cX9_sure 53 = .ok (.ixor, 1) := by decide +kernel
theorem dX9_sure_54 : decode cX9_sure 54 = .ok (.aload_n 0, 1) := by decide +kernel
theorem dX9_sure_55 : decode cX9_sure 55 = .ok (.invokevirtual 242, 3) := by decide +kernel
theorem dX9_sure_58 : decode cX9_sure 58 = .ok (.iconst (-1), 1) := by decide +kernel
theorem dX9_sure_59 : decode cX9_sure 59 = .ok (.ixor, 1) := by decide +kernel
theorem dX9_sure_60 : decode cX9_sure 60 = .ok (.iand, 1) := by decide +kernel
theorem dX9_sure_61 : decode cX9_sure 61 = .ok (.istore_n 2, 1) := by decide +kernel
theorem dX9_sure_62 : decode cX9_sure 62 = .ok (.iload_n 1, 1) := by decide +kernel
theorem dX9_sure_63 : decode cX9_sure 63 = .ok (.iconst 3, 1) := by decide +kernel
theorem dX9_sure_64 : decode cX9_sure 64 = .ok (.if_icmp .ge 12, 3) := by decide +kernel
theorem dX9_sure_67 : decode cX9_sure 67 = .ok (.iload_n 2, 1) := by decide +kernel
theorem dX9_sure_68 : decode cX9_sure 68 = .ok (.aload_n 0, 1) := by decide +kernel
theorem dX9_sure_69 : decode cX9_sure 69 = .ok (.invokevirtual 195, 3) := by decide +kernel
theorem dX9_sure_72 : decode cX9_sure 72 = .ok (.iand, 1) := by decide +kernel
theorem dX9_sure_73 : decode cX9_sure 73 = .ok (.goto 11, 3) := by decide +kernel
theorem dX9_sure_76 : decode cX9_sure 76 = .ok (.iload_n 2, 1) := by decide +kernel
theorem dX9_sure_77 : decode cX9_sure 77 = .ok (.iconst 4, 1) := by decide +kernel
theorem dX9_sure_78 : decode cX9_sure 78 = .ok (.ishr, 1) := by decide +kernel
theorem dX9_sure_79 : decode cX9_sure 79 = .ok (.aload_n 0, 1) := by decide +kernel
theorem dX9_sure_80 : decode cX9_sure 80 = .ok (.invokevirtual 198, 3) := by decide +kernel
theorem dX9_sure_83 : decode cX9_sure 83 = .ok (.iand, 1) := by decide +kernel
theorem dX9_sure_84 : decode cX9_sure 84 = .ok (.ireturn, 1) := by decide +kernel
theorem dX9_bits_0 : decode cX9_bits 0 = .ok (.iconst 0, 1) := by decide +kernel
theorem dX9_bits_1 : decode cX9_bits 1 = .ok (.istore_n 1, 1) := by decide +kernel
theorem dX9_bits_2 : decode cX9_bits 2 = .ok (.iconst 0, 1) := by decide +kernel
theorem dX9_bits_3 : decode cX9_bits 3 = .ok (.istore_n 2, 1) := by decide +kernel
theorem dX9_bits_4 : decode cX9_bits 4 = .ok (.iload_n 2, 1) := by decide +kernel
theorem dX9_bits_5 : decode cX9_bits 5 = .ok (.bipush 31, 2) := by decide +kernel
theorem dX9_bits_7 : decode cX9_bits 7 = .ok (.if_icmp .ge 17, 3) := by decide +kernel
theorem dX9_bits_10 : decode cX9_bits 10 = .ok (.iload_n 1, 1) := by decide +kernel
theorem dX9_bits_11 : decode cX9_bits 11 = .ok (.iload_n 0, 1) := by decide +kernel
theorem dX9_bits_12 : decode cX9_bits 12 = .ok (.iload_n 2, 1) := by decide +kernel
theorem dX9_bits_13 : decode cX9_bits 13 = .ok (.ishr, 1) := by decide +kernel
theorem dX9_bits_14 : decode cX9_bits 14 = .ok (.iconst 1, 1) := by decide +kernel
theorem dX9_bits_15 : decode cX9_bits 15 = .ok (.iand, 1) := by decide +kernel
theorem dX9_bits_16 : decode cX9_bits 16 = .ok (.iadd, 1) := by decide +kernel
theorem dX9_bits_17 : decode cX9_bits 17 = .ok (.istore_n 1, 1) := by decide +kernel
theorem dX9_bits_18 : decode cX9_bits 18 = .ok (.iinc 2 1, 3) := by decide +kernel
theorem dX9_bits_21 : decode cX9_bits 21 = .ok (.goto (-17), 3) := by decide +kernel
theorem dX9_bits_24 : decode cX9_bits 24 = .ok (.iload_n 1, 1) := by decide +kernel
theorem dX9_bits_25 : decode cX9_bits 25 = .ok (.ireturn, 1) := by decide +kernel
theorem dX9_canBe_0 : decode cX9_canBe 0 = .ok (.iconst 0, 1) := by decide +kernel
theorem dX9_canBe_1 : decode cX9_canBe 1 = .ok (.istore_n 2, 1) := by decide +kernel
theorem dX9_canBe_2 : decode cX9_canBe 2 = .ok (.iload_n 2, 1) := by decide +kernel
theorem dX9_canBe_3 : decode cX9_canBe 3 = .ok (.sipush 1024, 3) := by decide +kernel
theorem dX9_canBe_6 : decode cX9_canBe 6 = .ok (.if_icmp .ge 36, 3) := by decide +kernel
theorem dX9_canBe_9 : decode cX9_canBe 9 = .ok (.aload_n 0, 1) := by decide +kernel
theorem dX9_canBe_10 : decode cX9_canBe 10 = .ok (.iload_n 2, 1) := by decide +kernel
theorem dX9_canBe_11 : decode cX9_canBe 11 = .ok (.invokevirtual 211, 3) := by decide +kernel
theorem dX9_canBe_14 : decode cX9_canBe 14 = .ok (.ifCond .eq 22, 3) := by decide +kernel
theorem dX9_canBe_17 : decode cX9_canBe 17 = .ok (.aload_n 0, 1) := by decide +kernel
theorem dX9_canBe_18 : decode cX9_canBe 18 = .ok (.iload_n 2, 1) := by decide +kernel
theorem dX9_canBe_19 : decode cX9_canBe 19 = .ok (.invokevirtual 214, 3) := by decide +kernel
theorem dX9_canBe_22 : decode cX9_canBe 22 = .ok (.ifCond .ne 14, 3) := by decide +kernel
theorem dX9_canBe_25 : decode cX9_canBe 25 = .ok (.aload_n 0, 1) := by decide +kernel
theorem dX9_canBe_26 : decode cX9_canBe 26 = .ok (.iload_n 1, 1) := by decide +kernel
theorem dX9_canBe_27 : decode cX9_canBe 27 = .ok (.iload_n 2, 1) := by decide +kernel
theorem dX9_canBe_28 : decode cX9_canBe 28 = .ok (.invokevirtual 220, 3) := by decide +kernel
theorem dX9_canBe_31 : decode cX9_canBe 31 = .ok (.ifCond .eq 5, 3) := by decide +kernel
theorem dX9_canBe_34 : decode cX9_canBe 34 = .ok (.iconst 1, 1) := by decide +kernel
theorem dX9_canBe_35 : decode cX9_canBe 35 = .ok (.ireturn, 1) := by decide +kernel
theorem dX9_canBe_36 : decode cX9_canBe 36 = .ok (.iinc 2 1, 3) := by decide +kernel
theorem dX9_canBe_39 : decode cX9_canBe 39 = .ok (.goto (-37), 3) := by decide +kernel
theorem dX9_canBe_42 : decode cX9_canBe 42 = .ok (.iconst 0, 1) := by decide +kernel
theorem dX9_canBe_43 : decode cX9_canBe 43 = .ok (.ireturn, 1) := by decide +kernel
theorem dX9_proof_0 : decode cX9_proof 0 = .ok (.aload_n 0, 1) := by decide +kernel
theorem dX9_proof_1 : decode cX9_proof 1 = .ok (.iconst 0, 1) := by decide +kernel
theorem dX9_proof_2 : decode cX9_proof 2 = .ok (.invokevirtual 232, 3) := by decide +kernel
theorem dX9_proof_5 : decode cX9_proof 5 = .ok (.aload_n 0, 1) := by decide +kernel
theorem dX9_proof_6 : decode cX9_proof 6 = .ok (.getfield 223, 3) := by decide +kernel
theorem dX9_proof_9 : decode cX9_proof 9 = .ok (.ifCond .le 5, 3) := by decide +kernel
theorem dX9_proof_12 : decode cX9_proof 12 = .ok (.iconst 0, 1) := by decide +kernel
theorem dX9_proof_13 : decode cX9_proof 13 = .ok (.ireturn, 1) := by decide +kernel
theorem dX9_proof_14 : decode cX9_proof 14 = .ok (.aload_n 0, 1) := by decide +kernel
theorem dX9_proof_15 : decode cX9_proof 15 = .ok (.invokevirtual 217, 3) := by decide +kernel
theorem dX9_proof_18 : decode cX9_proof 18 = .ok (.istore_n 1, 1) := by decide +kernel
theorem dX9_proof_19 : decode cX9_proof 19 = .ok (.aload_n 0, 1) := by decide +kernel
theorem dX9_proof_20 : decode cX9_proof 20 = .ok (.invokevirtual 217, 3) := by decide +kernel
theorem dX9_proof_23 : decode cX9_proof 23 = .ok (.istore_n 2, 1) := by decide +kernel
theorem dX9_proof_24 : decode cX9_proof 24 = .ok (.iload_n 2, 1) := by decide +kernel
theorem dX9_proof_25 : decode cX9_proof 25 = .ok (.ifCond .lt 30, 3) := by decide +kernel
theorem dX9_proof_28 : decode cX9_proof 28 = .ok (.iload_n 2, 1) := by decide +kernel
theorem dX9_proof_29 : decode cX9_proof 29 = .ok (.invokestatic 245, 3) := by decide +kernel
theorem dX9_proof_32 : decode cX9_proof 32 = .ok (.iload_n 1, 1) := by decide +kernel
theorem dX9_proof_33 : decode cX9_proof 33 = .ok (.invokestatic 245, 3) := by decide +kernel
theorem dX9_proof_36 : decode cX9_proof 36 = .ok (.if_icmp .gt 13, 3) := by decide +kernel
theorem dX9_proof_39 : decode cX9_proof 39 = .ok (.aload_n 0, 1) := by decide +kernel
theorem dX9_proof_40 : decode cX9_proof 40 = .ok (.iload_n 2, 1) := by decide +kernel
theorem dX9_proof_41 : decode cX9_proof 41 = .ok (.invokevirtual 248, 3) := by decide +kernel
theorem dX9_proof_44 : decode cX9_proof 44 = .ok (.ifCond .ne 5, 3) := by decide +kernel
theorem dX9_proof_47 : decode cX9_proof 47 = .ok (.iload_n 2, 1) := by decide +kernel
theorem dX9_proof_48 : decode cX9_proof 48 = .ok (.istore_n 1, 1) := by decide +kernel
theorem dX9_proof_49 : decode cX9_proof 49 = .ok (.iinc 2 (-1), 3) := by decide +kernel
theorem dX9_proof_52 : decode cX9_proof 52 = .ok (.goto (-28), 3) := by decide +kernel
theorem dX9_proof_55 : decode cX9_proof 55 = .ok (.iload_n 1, 1) := by decide +kernel
theorem dX9_proof_56 : decode cX9_proof 56 = .ok (.ireturn, 1) := by decide +kernel
theorem dX9_tells_0 : decode cX9_tells 0 = .ok (.aload_n 0, 1) := by decide +kernel
theorem dX9_tells_1 : decode cX9_tells 1 = .ok (.iload_n 1, 1) := by decide +kernel
theorem dX9_tells_2 : decode cX9_tells 2 = .ok (.invokevirtual 226, 3) := by decide +kernel
theorem dX9_tells_5 : decode cX9_tells 5 = .ok (.ifCond .ne 9, 3) := by decide +kernel
theorem dX9_tells_8 : decode cX9_tells 8 = .ok (.aload_n 0, 1) := by decide +kernel
theorem dX9_tells_9 : decode cX9_tells 9 = .ok (.iconst (-1), 1) := by decide +kernel
theorem dX9_tells_10 : decode cX9_tells 10 = .ok (.invokevirtual 102, 3) := by decide +kernel
theorem dX9_tells_13 : decode cX9_tells 13 = .ok (.ireturn, 1) := by decide +kernel
theorem dX9_tells_14 : decode cX9_tells 14 = .ok (.iload_n 2, 1) := by decide +kernel
theorem dX9_tells_15 : decode cX9_tells 15 = .ok (.iconst 0, 1) := by decide +kernel
theorem dX9_tells_16 : decode cX9_tells 16 = .ok (.iconst 1, 1) := by decide +kernel
theorem dX9_tells_17 : decode cX9_tells 17 = .ok (.invokestatic 113, 3) := by decide +kernel
theorem dX9_tells_20 : decode cX9_tells 20 = .ok (.ifCond .ne 10, 3) := by decide +kernel
theorem dX9_tells_23 : decode cX9_tells 23 = .ok (.aload_n 0, 1) := by decide +kernel
theorem dX9_tells_24 : decode cX9_tells 24 = .ok (.bipush (-2), 2) := by decide +kernel
theorem dX9_tells_26 : decode cX9_tells 26 = .ok (.invokevirtual 102, 3) := by decide +kernel
theorem dX9_tells_29 : decode cX9_tells 29 = .ok (.ireturn, 1) := by decide +kernel
theorem dX9_tells_30 : decode cX9_tells 30 = .ok (.aload_n 0, 1) := by decide +kernel
theorem dX9_tells_31 : decode cX9_tells 31 = .ok (.iconst 0, 1) := by decide +kernel
theorem dX9_tells_32 : decode cX9_tells 32 = .ok (.invokevirtual 232, 3) := by decide +kernel
theorem dX9_tells_35 : decode cX9_tells 35 = .ok (.aload_n 0, 1) := by decide +kernel
theorem dX9_tells_36 : decode cX9_tells 36 = .ok (.invokevirtual 251, 3) := by decide +kernel
theorem dX9_tells_39 : decode cX9_tells 39 = .ok (.istore_n 3, 1) := by decide +kernel
theorem dX9_tells_40 : decode cX9_tells 40 = .ok (.iconst 0, 1) := by decide +kernel
theorem dX9_tells_41 : decode cX9_tells 41 = .ok (.istore 4, 2) := by decide +kernel
theorem dX9_tells_43 : decode cX9_tells 43 = .ok (.iconst 0, 1) := by decide +kernel
theorem dX9_tells_44 : decode cX9_tells 44 = .ok (.istore 5, 2) := by decide +kernel
theorem dX9_tells_46 : decode cX9_tells 46 = .ok (.iload 5, 2) := by decide +kernel
theorem dX9_tells_48 : decode cX9_tells 48 = .ok (.aload_n 0, 1) := by decide +kernel
theorem dX9_tells_49 : decode cX9_tells 49 = .ok (.getfield 223, 3) := by decide +kernel
theorem dX9_tells_52 : decode cX9_tells 52 = .ok (.if_icmp .ge 46, 3) := by decide +kernel
theorem dX9_tells_55 : decode cX9_tells 55 = .ok (.aload_n 0, 1) := by decide +kernel
theorem dX9_tells_56 : decode cX9_tells 56 = .ok (.getfield 71, 3) := by decide +kernel
theorem dX9_tells_59 : decode cX9_tells 59 = .ok (.iload 5, 2) := by decide +kernel
theorem dX9_tells_61 : decode cX9_tells 61 = .ok (.iaload, 1) := by decide +kernel
theorem dX9_tells_62 : decode cX9_tells 62 = .ok (.iconst 4, 1) := by decide +kernel
theorem dX9_tells_63 : decode cX9_tells 63 = .ok (.iload_n 1, 1) := by decide +kernel
theorem dX9_tells_64 : decode cX9_tells 64 = .ok (.iadd, 1) := by decide +kernel
theorem dX9_tells_65 : decode cX9_tells 65 = .ok (.ishr, 1) := by decide +kernel
theorem dX9_tells_66 : decode cX9_tells 66 = .ok (.iconst 1, 1) := by decide +kernel
theorem dX9_tells_67 : decode cX9_tells 67 = .ok (.iand, 1) := by decide +kernel
theorem dX9_tells_68 : decode cX9_tells 68 = .ok (.iload_n 2, 1) := by decide +kernel
theorem dX9_tells_69 : decode cX9_tells 69 = .ok (.if_icmp .eq 6, 3) := by decide +kernel
theorem dX9_tells_72 : decode cX9_tells 72 = .ok (.goto 20, 3) := by decide +kernel
theorem dX9_tells_75 : decode cX9_tells 75 = .ok (.aload_n 0, 1) := by decide +kernel
theorem dX9_tells_76 : decode cX9_tells 76 = .ok (.getfield 71, 3) := by decide +kernel
theorem dX9_tells_79 : decode cX9_tells 79 = .ok (.iload 4, 2) := by decide +kernel
theorem dX9_tells_81 : decode cX9_tells 81 = .ok (.aload_n 0, 1) := by decide +kernel
theorem dX9_tells_82 : decode cX9_tells 82 = .ok (.getfield 71, 3) := by decide +kernel
theorem dX9_tells_85 : decode cX9_tells 85 = .ok (.iload 5, 2) := by decide +kernel
theorem dX9_tells_87 : decode cX9_tells 87 = .ok (.iaload, 1) := by decide +kernel
theorem dX9_tells_88 : decode cX9_tells 88 = .ok (.iastore, 1) := by decide +kernel
theorem dX9_tells_89 : decode cX9_tells 89 = .ok (.iinc 4 1, 3) := by decide +kernel
theorem dX9_tells_92 : decode cX9_tells 92 = .ok (.iinc 5 1, 3) := by decide +kernel
theorem dX9_tells_95 : decode cX9_tells 95 = .ok (.goto (-49), 3) := by decide +kernel
theorem dX9_tells_98 : decode cX9_tells 98 = .ok (.aload_n 0, 1) := by decide +kernel
theorem dX9_tells_99 : decode cX9_tells 99 = .ok (.iload 4, 2) := by decide +kernel
theorem dX9_tells_101 : decode cX9_tells 101 = .ok (.putfield 223, 3) := by decide +kernel
theorem dX9_tells_104 : decode cX9_tells 104 = .ok (.iload_n 3, 1) := by decide +kernel
theorem dX9_tells_105 : decode cX9_tells 105 = .ok (.aload_n 0, 1) := by decide +kernel
theorem dX9_tells_106 : decode cX9_tells 106 = .ok (.invokevirtual 251, 3) := by decide +kernel
theorem dX9_tells_109 : decode cX9_tells 109 = .ok (.iconst (-1), 1) := by decide +kernel
theorem dX9_tells_110 : decode cX9_tells 110 = .ok (.ixor, 1) := by decide +kernel
theorem dX9_tells_111 : decode cX9_tells 111 = .ok (.iand, 1) := by decide +kernel
theorem dX9_tells_112 : decode cX9_tells 112 = .ok (.ireturn, 1) := by decide +kernel
theorem dX9_rings_0 : decode cX9_rings 0 = .ok (.iconst 0, 1) := by decide +kernel
theorem dX9_rings_1 : decode cX9_rings 1 = .ok (.istore_n 1, 1) := by decide +kernel
theorem dX9_rings_2 : decode cX9_rings 2 = .ok (.iconst 0, 1) := by decide +kernel
theorem dX9_rings_3 : decode cX9_rings 3 = .ok (.istore_n 2, 1) := by decide +kernel
theorem dX9_rings_4 : decode cX9_rings 4 = .ok (.iload_n 2, 1) := by decide +kernel
theorem dX9_rings_5 : decode cX9_rings 5 = .ok (.aload_n 0, 1) := by decide +kernel
theorem dX9_rings_6 : decode cX9_rings 6 = .ok (.getfield 92, 3) := by decide +kernel
theorem dX9_rings_9 : decode cX9_rings 9 = .ok (.if_icmp .ge 66, 3) := by decide +kernel
theorem dX9_rings_12 : decode cX9_rings 12 = .ok (.iload_n 2, 1) := by decide +kernel
theorem dX9_rings_13 : decode cX9_rings 13 = .ok (.istore_n 3, 1) := by decide +kernel
theorem dX9_rings_14 : decode cX9_rings 14 = .ok (.iconst 0, 1) := by decide +kernel
theorem dX9_rings_15 : decode cX9_rings 15 = .ok (.istore 4, 2) := by decide +kernel
theorem dX9_rings_17 : decode cX9_rings 17 = .ok (.iload 4, 2) := by decide +kernel
theorem dX9_rings_19 : decode cX9_rings 19 = .ok (.aload_n 0, 1) := by decide +kernel
theorem dX9_rings_20 : decode cX9_rings 20 = .ok (.getfield 92, 3) := by decide +kernel
theorem dX9_rings_23 : decode cX9_rings 23 = .ok (.if_icmp .ge 46, 3) := by decide +kernel
theorem dX9_rings_26 : decode cX9_rings 26 = .ok (.iload_n 3, 1) := by decide +kernel
theorem dX9_rings_27 : decode cX9_rings 27 = .ok (.ifCond .lt 42, 3) := by decide +kernel
theorem dX9_rings_30 : decode cX9_rings 30 = .ok (.aload_n 0, 1) := by decide +kernel
theorem dX9_rings_31 : decode cX9_rings 31 = .ok (.getfield 19, 3) := by decide +kernel
theorem dX9_rings_34 : decode cX9_rings 34 = .ok (.iload_n 3, 1) := by decide +kernel
theorem dX9_rings_35 : decode cX9_rings 35 = .ok (.iaload, 1) := by decide +kernel
theorem dX9_rings_36 : decode cX9_rings 36 = .ok (.iconst 5, 1) := by decide +kernel
theorem dX9_rings_37 : decode cX9_rings 37 = .ok (.if_icmp .ne 12, 3) := by decide +kernel
theorem dX9_rings_40 : decode cX9_rings 40 = .ok (.aload_n 0, 1) := by decide +kernel
theorem dX9_rings_41 : decode cX9_rings 41 = .ok (.getfield 25, 3) := by decide +kernel
theorem dX9_rings_44 : decode cX9_rings 44 = .ok (.iload_n 3, 1) := by decide +kernel
theorem dX9_rings_45 : decode cX9_rings 45 = .ok (.iaload, 1) := by decide +kernel
theorem dX9_rings_46 : decode cX9_rings 46 = .ok (.goto 5, 3) := by decide +kernel
theorem dX9_rings_49 : decode cX9_rings 49 = .ok (.bipush (-9), 2) := by decide +kernel
theorem dX9_rings_51 : decode cX9_rings 51 = .ok (.istore_n 3, 1) := by decide +kernel
theorem dX9_rings_52 : decode cX9_rings 52 = .ok (.iload_n 3, 1) := by decide +kernel
theorem dX9_rings_53 : decode cX9_rings 53 = .ok (.iload_n 2, 1) := by decide +kernel
theorem dX9_rings_54 : decode cX9_rings 54 = .ok (.if_icmp .ne 9, 3) := by decide +kernel
theorem dX9_rings_57 : decode cX9_rings 57 = .ok (.iload_n 1, 1) := by decide +kernel
theorem dX9_rings_58 : decode cX9_rings 58 = .ok (.iconst 1, 1) := by decide +kernel
theorem dX9_rings_59 : decode cX9_rings 59 = .ok (.iload_n 2, 1) := by decide +kernel
theorem dX9_rings_60 : decode cX9_rings 60 = .ok (.ishl, 1) := by decide +kernel
theorem dX9_rings_61 : decode cX9_rings 61 = .ok (.ior, 1) := by decide +kernel
theorem dX9_rings_62 : decode cX9_rings 62 = .ok (.istore_n 1, 1) := by decide +kernel
theorem dX9_rings_63 : decode cX9_rings 63 = .ok (.iinc 4 1, 3) := by decide +kernel
theorem dX9_rings_66 : decode cX9_rings 66 = .ok (.goto (-49), 3) := by decide +kernel
theorem dX9_rings_69 : decode cX9_rings 69 = .ok (.iinc 2 1, 3) := by decide +kernel
theorem dX9_rings_72 : decode cX9_rings 72 = .ok (.goto (-68), 3) := by decide +kernel
theorem dX9_rings_75 : decode cX9_rings 75 = .ok (.iload_n 1, 1) := by decide +kernel
theorem dX9_rings_76 : decode cX9_rings 76 = .ok (.ireturn, 1) := by decide +kernel
theorem dX9_joking_0 : decode cX9_joking 0 = .ok (.iload_n 1, 1) := by decide +kernel
theorem dX9_joking_1 : decode cX9_joking 1 = .ok (.iconst 0, 1) := by decide +kernel
theorem dX9_joking_2 : decode cX9_joking 2 = .ok (.iconst 3, 1) := by decide +kernel
theorem dX9_joking_3 : decode cX9_joking 3 = .ok (.invokestatic 95, 3) := by decide +kernel
theorem dX9_joking_6 : decode cX9_joking 6 = .ok (.istore_n 2, 1) := by decide +kernel
theorem dX9_joking_7 : decode cX9_joking 7 = .ok (.iload_n 2, 1) := by decide +kernel
theorem dX9_joking_8 : decode cX9_joking 8 = .ok (.ifCond .eq 9, 3) := by decide +kernel
theorem dX9_joking_11 : decode cX9_joking 11 = .ok (.aload_n 0, 1) := by decide +kernel
theorem dX9_joking_12 : decode cX9_joking 12 = .ok (.iload_n 2, 1) := by decide +kernel
theorem dX9_joking_13 : decode cX9_joking 13 = .ok (.invokevirtual 102, 3) := by decide +kernel
theorem dX9_joking_16 : decode cX9_joking 16 = .ok (.ireturn, 1) := by decide +kernel
theorem dX9_joking_17 : decode cX9_joking 17 = .ok (.aload_n 0, 1) := by decide +kernel
theorem dX9_joking_18 : decode cX9_joking 18 = .ok (.iload_n 1, 1) := by decide +kernel
theorem dX9_joking_19 : decode cX9_joking 19 = .ok (.invokevirtual 232, 3) := by decide +kernel
theorem dX9_joking_22 : decode cX9_joking 22 = .ok (.aload_n 0, 1) := by decide +kernel
theorem dX9_joking_23 : decode cX9_joking 23 = .ok (.invokevirtual 239, 3) := by decide +kernel
theorem dX9_joking_26 : decode cX9_joking 26 = .ok (.aload_n 0, 1) := by decide +kernel
theorem dX9_joking_27 : decode cX9_joking 27 = .ok (.invokevirtual 195, 3) := by decide +kernel
theorem dX9_joking_30 : decode cX9_joking 30 = .ok (.iand, 1) := by decide +kernel
theorem dX9_joking_31 : decode cX9_joking 31 = .ok (.ireturn, 1) := by decide +kernel
theorem dX9_bears_0 : decode cX9_bears 0 = .ok (.aload_n 0, 1) := by decide +kernel
theorem dX9_bears_1 : decode cX9_bears 1 = .ok (.iload_n 1, 1) := by decide +kernel
theorem dX9_bears_2 : decode cX9_bears 2 = .ok (.invokevirtual 146, 3) := by decide +kernel
theorem dX9_bears_5 : decode cX9_bears 5 = .ok (.ifCond .ne 9, 3) := by decide +kernel
theorem dX9_bears_8 : decode cX9_bears 8 = .ok (.aload_n 0, 1) := by decide +kernel
theorem dX9_bears_9 : decode cX9_bears 9 = .ok (.iconst (-1), 1) := by decide +kernel
theorem dX9_bears_10 : decode cX9_bears 10 = .ok (.invokevirtual 102, 3) := by decide +kernel
theorem dX9_bears_13 : decode cX9_bears 13 = .ok (.ireturn, 1) := by decide +kernel
theorem dX9_bears_14 : decode cX9_bears 14 = .ok (.bipush 6, 2) := by decide +kernel
theorem dX9_bears_16 : decode cX9_bears 16 = .ok (.istore_n 2, 1) := by decide +kernel
theorem dX9_bears_17 : decode cX9_bears 17 = .ok (.iload_n 2, 1) := by decide +kernel
theorem dX9_bears_18 : decode cX9_bears 18 = .ok (.ifCond .lt 33, 3) := by decide +kernel
theorem dX9_bears_21 : decode cX9_bears 21 = .ok (.aload_n 0, 1) := by decide +kernel
theorem dX9_bears_22 : decode cX9_bears 22 = .ok (.iload_n 2, 1) := by decide +kernel
theorem dX9_bears_23 : decode cX9_bears 23 = .ok (.invokevirtual 232, 3) := by decide +kernel
theorem dX9_bears_26 : decode cX9_bears 26 = .ok (.aload_n 0, 1) := by decide +kernel
theorem dX9_bears_27 : decode cX9_bears 27 = .ok (.invokevirtual 239, 3) := by decide +kernel
theorem dX9_bears_30 : decode cX9_bears 30 = .ok (.aload_n 0, 1) := by decide +kernel
theorem dX9_bears_31 : decode cX9_bears 31 = .ok (.invokevirtual 242, 3) := by decide +kernel
theorem dX9_bears_34 : decode cX9_bears 34 = .ok (.ior, 1) := by decide +kernel
theorem dX9_bears_35 : decode cX9_bears 35 = .ok (.iload_n 1, 1) := by decide +kernel
theorem dX9_bears_36 : decode cX9_bears 36 = .ok (.ishr, 1) := by decide +kernel
theorem dX9_bears_37 : decode cX9_bears 37 = .ok (.iconst 1, 1) := by decide +kernel
theorem dX9_bears_38 : decode cX9_bears 38 = .ok (.iand, 1) := by decide +kernel
theorem dX9_bears_39 : decode cX9_bears 39 = .ok (.iconst 1, 1) := by decide +kernel
theorem dX9_bears_40 : decode cX9_bears 40 = .ok (.if_icmp .ne 5, 3) := by decide +kernel
theorem dX9_bears_43 : decode cX9_bears 43 = .ok (.iload_n 2, 1) := by decide +kernel
theorem dX9_bears_44 : decode cX9_bears 44 = .ok (.ireturn, 1) := by decide +kernel
theorem dX9_bears_45 : decode cX9_bears 45 = .ok (.iinc 2 (-1), 3) := by decide +kernel
theorem dX9_bears_48 : decode cX9_bears 48 = .ok (.goto (-31), 3) := by decide +kernel
theorem dX9_bears_51 : decode cX9_bears 51 = .ok (.bipush (-9), 2) := by decide +kernel
theorem dX9_bears_53 : decode cX9_bears 53 = .ok (.ireturn, 1) := by decide +kernel
theorem dX9_alikeBy_0 : decode cX9_alikeBy 0 = .ok (.aload_n 0, 1) := by decide +kernel
theorem dX9_alikeBy_1 : decode cX9_alikeBy 1 = .ok (.invokevirtual 195, 3) := by decide +kernel
theorem dX9_alikeBy_4 : decode cX9_alikeBy 4 = .ok (.istore_n 2, 1) := by decide +kernel
theorem dX9_alikeBy_5 : decode cX9_alikeBy 5 = .ok (.iconst 0, 1) := by decide +kernel
theorem dX9_alikeBy_6 : decode cX9_alikeBy 6 = .ok (.istore_n 3, 1) := by decide +kernel
theorem dX9_alikeBy_7 : decode cX9_alikeBy 7 = .ok (.iload_n 3, 1) := by decide +kernel
theorem dX9_alikeBy_8 : decode cX9_alikeBy 8 = .ok (.aload_n 0, 1) := by decide +kernel
theorem dX9_alikeBy_9 : decode cX9_alikeBy 9 = .ok (.getfield 223, 3) := by decide +kernel
theorem dX9_alikeBy_12 : decode cX9_alikeBy 12 = .ok (.if_icmp .ge 56, 3) := by decide +kernel
theorem dX9_alikeBy_15 : decode cX9_alikeBy 15 = .ok (.iconst 0, 1) := by decide +kernel
theorem dX9_alikeBy_16 : decode cX9_alikeBy 16 = .ok (.istore 4, 2) := by decide +kernel
theorem dX9_alikeBy_18 : decode cX9_alikeBy 18 = .ok (.iload 4, 2) := by decide +kernel
theorem dX9_alikeBy_20 : decode cX9_alikeBy 20 = .ok (.iload_n 3, 1) := by decide +kernel
theorem dX9_alikeBy_21 : decode cX9_alikeBy 21 = .ok (.if_icmp .ge 41, 3) := by decide +kernel
theorem dX9_alikeBy_24 : decode cX9_alikeBy 24 = .ok (.aload_n 0, 1) := by decide +kernel
theorem dX9_alikeBy_25 : decode cX9_alikeBy 25 = .ok (.getfield 71, 3) := by decide +kernel
theorem dX9_alikeBy_28 : decode cX9_alikeBy 28 = .ok (.iload_n 3, 1) := by decide +kernel
theorem dX9_alikeBy_29 : decode cX9_alikeBy 29 = .ok (.iaload, 1) := by decide +kernel
theorem dX9_alikeBy_30 : decode cX9_alikeBy 30 = .ok (.aload_n 0, 1) := by decide +kernel
theorem dX9_alikeBy_31 : decode cX9_alikeBy 31 = .ok (.getfield 71, 3) := by decide +kernel
theorem dX9_alikeBy_34 : decode cX9_alikeBy 34 = .ok (.iload 4, 2) := by decide +kernel
theorem dX9_alikeBy_36 : decode cX9_alikeBy 36 = .ok (.iaload, 1) := by decide +kernel
theorem dX9_alikeBy_37 : decode cX9_alikeBy 37 = .ok (.ixor, 1) := by decide +kernel
theorem dX9_alikeBy_38 : decode cX9_alikeBy 38 = .ok (.istore 5, 2) := by decide +kernel
theorem dX9_alikeBy_40 : decode cX9_alikeBy 40 = .ok (.iload 5, 2) := by decide +kernel
theorem dX9_alikeBy_42 : decode cX9_alikeBy 42 = .ok (.iconst 4, 1) := by decide +kernel
theorem dX9_alikeBy_43 : decode cX9_alikeBy 43 = .ok (.ishr, 1) := by decide +kernel
theorem dX9_alikeBy_44 : decode cX9_alikeBy 44 = .ok (.iload_n 1, 1) := by decide +kernel
theorem dX9_alikeBy_45 : decode cX9_alikeBy 45 = .ok (.iand, 1) := by decide +kernel
theorem dX9_alikeBy_46 : decode cX9_alikeBy 46 = .ok (.ifCond .ne 10, 3) := by decide +kernel
theorem dX9_alikeBy_49 : decode cX9_alikeBy 49 = .ok (.iload_n 2, 1) := by decide +kernel
theorem dX9_alikeBy_50 : decode cX9_alikeBy 50 = .ok (.iload 5, 2) := by decide +kernel
theorem dX9_alikeBy_52 : decode cX9_alikeBy 52 = .ok (.iconst (-1), 1) := by decide +kernel
theorem dX9_alikeBy_53 : decode cX9_alikeBy 53 = .ok (.ixor, 1) := by decide +kernel
theorem dX9_alikeBy_54 : decode cX9_alikeBy 54 = .ok (.iand, 1) := by decide +kernel
theorem dX9_alikeBy_55 : decode cX9_alikeBy 55 = .ok (.istore_n 2, 1) := by decide +kernel
theorem dX9_alikeBy_56 : decode cX9_alikeBy 56 = .ok (.iinc 4 1, 3) := by decide +kernel
theorem dX9_alikeBy_59 : decode cX9_alikeBy 59 = .ok (.goto (-41), 3) := by decide +kernel
theorem dX9_alikeBy_62 : decode cX9_alikeBy 62 = .ok (.iinc 3 1, 3) := by decide +kernel
theorem dX9_alikeBy_65 : decode cX9_alikeBy 65 = .ok (.goto (-58), 3) := by decide +kernel
theorem dX9_alikeBy_68 : decode cX9_alikeBy 68 = .ok (.iload_n 2, 1) := by decide +kernel
theorem dX9_alikeBy_69 : decode cX9_alikeBy 69 = .ok (.ireturn, 1) := by decide +kernel
theorem dX9_fewestFor_0 : decode cX9_fewestFor 0 = .ok (.bipush (-9), 2) := by decide +kernel
theorem dX9_fewestFor_2 : decode cX9_fewestFor 2 = .ok (.istore_n 2, 1) := by decide +kernel
theorem dX9_fewestFor_3 : decode cX9_fewestFor 3 = .ok (.iconst 0, 1) := by decide +kernel
theorem dX9_fewestFor_4 : decode cX9_fewestFor 4 = .ok (.istore_n 3, 1) := by decide +kernel
theorem dX9_fewestFor_5 : decode cX9_fewestFor 5 = .ok (.iload_n 3, 1) := by decide +kernel
theorem dX9_fewestFor_6 : decode cX9_fewestFor 6 = .ok (.aload_n 0, 1) := by decide +kernel
theorem dX9_fewestFor_7 : decode cX9_fewestFor 7 = .ok (.invokevirtual 198, 3) := by decide +kernel
theorem dX9_fewestFor_10 : decode cX9_fewestFor 10 = .ok (.if_icmp .gt 50, 3) := by decide +kernel
theorem dX9_fewestFor_13 : decode cX9_fewestFor 13 = .ok (.iload_n 3, 1) := by decide +kernel
theorem dX9_fewestFor_14 : decode cX9_fewestFor 14 = .ok (.invokestatic 245, 3) := by decide +kernel
theorem dX9_fewestFor_17 : decode cX9_fewestFor 17 = .ok (.iconst 3, 1) := by decide +kernel
theorem dX9_fewestFor_18 : decode cX9_fewestFor 18 = .ok (.if_icmp .gt 36, 3) := by decide +kernel
theorem dX9_fewestFor_21 : decode cX9_fewestFor 21 = .ok (.iload_n 2, 1) := by decide +kernel
theorem dX9_fewestFor_22 : decode cX9_fewestFor 22 = .ok (.ifCond .lt 17, 3) := by decide +kernel
theorem dX9_fewestFor_25 : decode cX9_fewestFor 25 = .ok (.iload_n 3, 1) := by decide +kernel
theorem dX9_fewestFor_26 : decode cX9_fewestFor 26 = .ok (.invokestatic 245, 3) := by decide +kernel
theorem dX9_fewestFor_29 : decode cX9_fewestFor 29 = .ok (.iload_n 2, 1) := by decide +kernel
theorem dX9_fewestFor_30 : decode cX9_fewestFor 30 = .ok (.invokestatic 245, 3) := by decide +kernel
theorem dX9_fewestFor_33 : decode cX9_fewestFor 33 = .ok (.if_icmp .lt 6, 3) := by decide +kernel
theorem dX9_fewestFor_36 : decode cX9_fewestFor 36 = .ok (.goto 18, 3) := by decide +kernel
theorem dX9_fewestFor_39 : decode cX9_fewestFor 39 = .ok (.aload_n 0, 1) := by decide +kernel
theorem dX9_fewestFor_40 : decode cX9_fewestFor 40 = .ok (.iload_n 3, 1) := by decide +kernel
theorem dX9_fewestFor_41 : decode cX9_fewestFor 41 = .ok (.invokevirtual 254, 3) := by decide +kernel
theorem dX9_fewestFor_44 : decode cX9_fewestFor 44 = .ok (.iload_n 1, 1) := by decide +kernel
theorem dX9_fewestFor_45 : decode cX9_fewestFor 45 = .ok (.ishr, 1) := by decide +kernel
theorem dX9_fewestFor_46 : decode cX9_fewestFor 46 = .ok (.iconst 1, 1) := by decide +kernel
theorem dX9_fewestFor_47 : decode cX9_fewestFor 47 = .ok (.iand, 1) := by decide +kernel
theorem dX9_fewestFor_48 : decode cX9_fewestFor 48 = .ok (.iconst 1, 1) := by decide +kernel
theorem dX9_fewestFor_49 : decode cX9_fewestFor 49 = .ok (.if_icmp .ne 5, 3) := by decide +kernel
theorem dX9_fewestFor_52 : decode cX9_fewestFor 52 = .ok (.iload_n 3, 1) := by decide +kernel
theorem dX9_fewestFor_53 : decode cX9_fewestFor 53 = .ok (.istore_n 2, 1) := by decide +kernel
theorem dX9_fewestFor_54 : decode cX9_fewestFor 54 = .ok (.iinc 3 1, 3) := by decide +kernel
theorem dX9_fewestFor_57 : decode cX9_fewestFor 57 = .ok (.goto (-52), 3) := by decide +kernel
theorem dX9_fewestFor_60 : decode cX9_fewestFor 60 = .ok (.iload_n 2, 1) := by decide +kernel
theorem dX9_fewestFor_61 : decode cX9_fewestFor 61 = .ok (.ireturn, 1) := by decide +kernel
theorem dX9_fewest_0 : decode cX9_fewest 0 = .ok (.aload_n 0, 1) := by decide +kernel
theorem dX9_fewest_1 : decode cX9_fewest 1 = .ok (.iload_n 1, 1) := by decide +kernel
theorem dX9_fewest_2 : decode cX9_fewest 2 = .ok (.invokevirtual 146, 3) := by decide +kernel
theorem dX9_fewest_5 : decode cX9_fewest 5 = .ok (.ifCond .ne 9, 3) := by decide +kernel
theorem dX9_fewest_8 : decode cX9_fewest 8 = .ok (.aload_n 0, 1) := by decide +kernel
theorem dX9_fewest_9 : decode cX9_fewest 9 = .ok (.iconst (-1), 1) := by decide +kernel
theorem dX9_fewest_10 : decode cX9_fewest 10 = .ok (.invokevirtual 102, 3) := by decide +kernel
theorem dX9_fewest_13 : decode cX9_fewest 13 = .ok (.ireturn, 1) := by decide +kernel
theorem dX9_fewest_14 : decode cX9_fewest 14 = .ok (.iload_n 2, 1) := by decide +kernel
theorem dX9_fewest_15 : decode cX9_fewest 15 = .ok (.iconst 0, 1) := by decide +kernel
theorem dX9_fewest_16 : decode cX9_fewest 16 = .ok (.iconst 1, 1) := by decide +kernel
theorem dX9_fewest_17 : decode cX9_fewest 17 = .ok (.invokestatic 113, 3) := by decide +kernel
theorem dX9_fewest_20 : decode cX9_fewest 20 = .ok (.ifCond .ne 10, 3) := by decide +kernel
theorem dX9_fewest_23 : decode cX9_fewest 23 = .ok (.aload_n 0, 1) := by decide +kernel
theorem dX9_fewest_24 : decode cX9_fewest 24 = .ok (.bipush (-2), 2) := by decide +kernel
theorem dX9_fewest_26 : decode cX9_fewest 26 = .ok (.invokevirtual 102, 3) := by decide +kernel
theorem dX9_fewest_29 : decode cX9_fewest 29 = .ok (.ireturn, 1) := by decide +kernel
theorem dX9_fewest_30 : decode cX9_fewest 30 = .ok (.aload_n 0, 1) := by decide +kernel
theorem dX9_fewest_31 : decode cX9_fewest 31 = .ok (.iconst 0, 1) := by decide +kernel
theorem dX9_fewest_32 : decode cX9_fewest 32 = .ok (.invokevirtual 232, 3) := by decide +kernel
theorem dX9_fewest_35 : decode cX9_fewest 35 = .ok (.aload_n 0, 1) := by decide +kernel
theorem dX9_fewest_36 : decode cX9_fewest 36 = .ok (.iload_n 1, 1) := by decide +kernel
theorem dX9_fewest_37 : decode cX9_fewest 37 = .ok (.invokevirtual 257, 3) := by decide +kernel
theorem dX9_fewest_40 : decode cX9_fewest 40 = .ok (.istore_n 3, 1) := by decide +kernel
theorem dX9_fewest_41 : decode cX9_fewest 41 = .ok (.iload_n 3, 1) := by decide +kernel
theorem dX9_fewest_42 : decode cX9_fewest 42 = .ok (.ifCond .ge 8, 3) := by decide +kernel
theorem dX9_fewest_45 : decode cX9_fewest 45 = .ok (.bipush (-9), 2) := by decide +kernel
theorem dX9_fewest_47 : decode cX9_fewest 47 = .ok (.goto 15, 3) := by decide +kernel
theorem dX9_fewest_50 : decode cX9_fewest 50 = .ok (.iload_n 2, 1) := by decide +kernel
theorem dX9_fewest_51 : decode cX9_fewest 51 = .ok (.ifCond .ne 10, 3) := by decide +kernel
theorem dX9_fewest_54 : decode cX9_fewest 54 = .ok (.iload_n 3, 1) := by decide +kernel
theorem dX9_fewest_55 : decode cX9_fewest 55 = .ok (.invokestatic 245, 3) := by decide +kernel
theorem dX9_fewest_58 : decode cX9_fewest 58 = .ok (.goto 4, 3) := by decide +kernel
theorem dX9_fewest_61 : decode cX9_fewest 61 = .ok (.iload_n 3, 1) := by decide +kernel
theorem dX9_fewest_62 : decode cX9_fewest 62 = .ok (.ireturn, 1) := by decide +kernel
theorem dX9_together_0 : decode cX9_together 0 = .ok (.iload_n 1, 1) := by decide +kernel
theorem dX9_together_1 : decode cX9_together 1 = .ok (.ifCond .lt 14, 3) := by decide +kernel
theorem dX9_together_4 : decode cX9_together 4 = .ok (.iload_n 1, 1) := by decide +kernel
theorem dX9_together_5 : decode cX9_together 5 = .ok (.aload_n 0, 1) := by decide +kernel
theorem dX9_together_6 : decode cX9_together 6 = .ok (.invokevirtual 198, 3) := by decide +kernel
theorem dX9_together_9 : decode cX9_together 9 = .ok (.iconst (-1), 1) := by decide +kernel
theorem dX9_together_10 : decode cX9_together 10 = .ok (.ixor, 1) := by decide +kernel
theorem dX9_together_11 : decode cX9_together 11 = .ok (.iand, 1) := by decide +kernel
theorem dX9_together_12 : decode cX9_together 12 = .ok (.ifCond .eq 9, 3) := by decide +kernel
theorem dX9_together_15 : decode cX9_together 15 = .ok (.aload_n 0, 1) := by decide +kernel
theorem dX9_together_16 : decode cX9_together 16 = .ok (.iconst (-1), 1) := by decide +kernel
theorem dX9_together_17 : decode cX9_together 17 = .ok (.invokevirtual 102, 3) := by decide +kernel
theorem dX9_together_20 : decode cX9_together 20 = .ok (.ireturn, 1) := by decide +kernel
theorem dX9_together_21 : decode cX9_together 21 = .ok (.aload_n 0, 1) := by decide +kernel
theorem dX9_together_22 : decode cX9_together 22 = .ok (.iconst 0, 1) := by decide +kernel
theorem dX9_together_23 : decode cX9_together 23 = .ok (.invokevirtual 232, 3) := by decide +kernel
theorem dX9_together_26 : decode cX9_together 26 = .ok (.aload_n 0, 1) := by decide +kernel
theorem dX9_together_27 : decode cX9_together 27 = .ok (.iload_n 1, 1) := by decide +kernel
theorem dX9_together_28 : decode cX9_together 28 = .ok (.invokevirtual 254, 3) := by decide +kernel
theorem dX9_together_31 : decode cX9_together 31 = .ok (.ireturn, 1) := by decide +kernel
theorem dX9_partOf_0 : decode cX9_partOf 0 = .ok (.iload_n 0, 1) := by decide +kernel
theorem dX9_partOf_1 : decode cX9_partOf 1 = .ok (.istore_n 2, 1) := by decide +kernel
theorem dX9_partOf_2 : decode cX9_partOf 2 = .ok (.iconst 0, 1) := by decide +kernel
theorem dX9_partOf_3 : decode cX9_partOf 3 = .ok (.istore_n 3, 1) := by decide +kernel
theorem dX9_partOf_4 : decode cX9_partOf 4 = .ok (.iload_n 3, 1) := by decide +kernel
theorem dX9_partOf_5 : decode cX9_partOf 5 = .ok (.iload_n 1, 1) := by decide +kernel
theorem dX9_partOf_6 : decode cX9_partOf 6 = .ok (.if_icmp .ge 13, 3) := by decide +kernel
theorem dX9_partOf_9 : decode cX9_partOf 9 = .ok (.iload_n 2, 1) := by decide +kernel
theorem dX9_partOf_10 : decode cX9_partOf 10 = .ok (.iconst 3, 1) := by decide +kernel
theorem dX9_partOf_11 : decode cX9_partOf 11 = .ok (.idiv, 1) := by decide +kernel
theorem dX9_partOf_12 : decode cX9_partOf 12 = .ok (.istore_n 2, 1) := by decide +kernel
theorem dX9_partOf_13 : decode cX9_partOf 13 = .ok (.iinc 3 1, 3) := by decide +kernel
theorem dX9_partOf_16 : decode cX9_partOf 16 = .ok (.goto (-12), 3) := by decide +kernel
theorem dX9_partOf_19 : decode cX9_partOf 19 = .ok (.iload_n 2, 1) := by decide +kernel
theorem dX9_partOf_20 : decode cX9_partOf 20 = .ok (.iconst 3, 1) := by decide +kernel
theorem dX9_partOf_21 : decode cX9_partOf 21 = .ok (.irem, 1) := by decide +kernel
theorem dX9_partOf_22 : decode cX9_partOf 22 = .ok (.ireturn, 1) := by decide +kernel
theorem dX9_agrees_0 : decode cX9_agrees 0 = .ok (.iconst 0, 1) := by decide +kernel
theorem dX9_agrees_1 : decode cX9_agrees 1 = .ok (.istore_n 3, 1) := by decide +kernel
theorem dX9_agrees_2 : decode cX9_agrees 2 = .ok (.iload_n 3, 1) := by decide +kernel
theorem dX9_agrees_3 : decode cX9_agrees 3 = .ok (.iconst 4, 1) := by decide +kernel
theorem dX9_agrees_4 : decode cX9_agrees 4 = .ok (.if_icmp .ge 35, 3) := by decide +kernel
theorem dX9_agrees_7 : decode cX9_agrees 7 = .ok (.iload_n 1, 1) := by decide +kernel
theorem dX9_agrees_8 : decode cX9_agrees 8 = .ok (.iload_n 3, 1) := by decide +kernel
theorem dX9_agrees_9 : decode cX9_agrees 9 = .ok (.invokestatic 260, 3) := by decide +kernel
theorem dX9_agrees_12 : decode cX9_agrees 12 = .ok (.istore 4, 2) := by decide +kernel
theorem dX9_agrees_14 : decode cX9_agrees 14 = .ok (.iload 4, 2) := by decide +kernel
theorem dX9_agrees_16 : decode cX9_agrees 16 = .ok (.ifCond .le 17, 3) := by decide +kernel
theorem dX9_agrees_19 : decode cX9_agrees 19 = .ok (.iload 4, 2) := by decide +kernel
theorem dX9_agrees_21 : decode cX9_agrees 21 = .ok (.iconst 1, 1) := by decide +kernel
theorem dX9_agrees_22 : decode cX9_agrees 22 = .ok (.isub, 1) := by decide +kernel
theorem dX9_agrees_23 : decode cX9_agrees 23 = .ok (.iload_n 2, 1) := by decide +kernel
theorem dX9_agrees_24 : decode cX9_agrees 24 = .ok (.iload_n 3, 1) := by decide +kernel
theorem dX9_agrees_25 : decode cX9_agrees 25 = .ok (.ishr, 1) := by decide +kernel
theorem dX9_agrees_26 : decode cX9_agrees 26 = .ok (.iconst 1, 1) := by decide +kernel
theorem dX9_agrees_27 : decode cX9_agrees 27 = .ok (.iand, 1) := by decide +kernel
theorem dX9_agrees_28 : decode cX9_agrees 28 = .ok (.if_icmp .eq 5, 3) := by decide +kernel
theorem dX9_agrees_31 : decode cX9_agrees 31 = .ok (.iconst 0, 1) := by decide +kernel
theorem dX9_agrees_32 : decode cX9_agrees 32 = .ok (.ireturn, 1) := by decide +kernel
theorem dX9_agrees_33 : decode cX9_agrees 33 = .ok (.iinc 3 1, 3) := by decide +kernel
theorem dX9_agrees_36 : decode cX9_agrees 36 = .ok (.goto (-34), 3) := by decide +kernel
theorem dX9_agrees_39 : decode cX9_agrees 39 = .ok (.iconst 1, 1) := by decide +kernel
theorem dX9_agrees_40 : decode cX9_agrees 40 = .ok (.ireturn, 1) := by decide +kernel
theorem dX9_knownAt_0 : decode cX9_knownAt 0 = .ok (.iload_n 1, 1) := by decide +kernel
theorem dX9_knownAt_1 : decode cX9_knownAt 1 = .ok (.istore 4, 2) := by decide +kernel
theorem dX9_knownAt_3 : decode cX9_knownAt 3 = .ok (.iconst 1, 1) := by decide +kernel
theorem dX9_knownAt_4 : decode cX9_knownAt 4 = .ok (.istore 5, 2) := by decide +kernel
theorem dX9_knownAt_6 : decode cX9_knownAt 6 = .ok (.iconst 0, 1) := by decide +kernel
theorem dX9_knownAt_7 : decode cX9_knownAt 7 = .ok (.istore 6, 2) := by decide +kernel
theorem dX9_knownAt_9 : decode cX9_knownAt 9 = .ok (.iload 6, 2) := by decide +kernel
theorem dX9_knownAt_11 : decode cX9_knownAt 11 = .ok (.iconst 4, 1) := by decide +kernel
theorem dX9_knownAt_12 : decode cX9_knownAt 12 = .ok (.if_icmp .ge 55, 3) := by decide +kernel
theorem dX9_knownAt_15 : decode cX9_knownAt 15 = .ok (.aload_n 0, 1) := by decide +kernel
theorem dX9_knownAt_16 : decode cX9_knownAt 16 = .ok (.getfield 31, 3) := by decide +kernel
theorem dX9_knownAt_19 : decode cX9_knownAt 19 = .ok (.iload_n 2, 1) := by decide +kernel
theorem dX9_knownAt_20 : decode cX9_knownAt 20 = .ok (.iaload, 1) := by decide +kernel
theorem dX9_knownAt_21 : decode cX9_knownAt 21 = .ok (.iload 6, 2) := by decide +kernel
theorem dX9_knownAt_23 : decode cX9_knownAt 23 = .ok (.ishr, 1) := by decide +kernel
theorem dX9_knownAt_24 : decode cX9_knownAt 24 = .ok (.iconst 1, 1) := by decide +kernel
theorem dX9_knownAt_25 : decode cX9_knownAt 25 = .ok (.iand, 1) := by decide +kernel
theorem dX9_knownAt_26 : decode cX9_knownAt 26 = .ok (.iconst 1, 1) := by decide +kernel
theorem dX9_knownAt_27 : decode cX9_knownAt 27 = .ok (.if_icmp .ne 28, 3) := by decide +kernel
theorem dX9_knownAt_30 : decode cX9_knownAt 30 = .ok (.iload_n 1, 1) := by decide +kernel
theorem dX9_knownAt_31 : decode cX9_knownAt 31 = .ok (.iload 6, 2) := by decide +kernel
theorem dX9_knownAt_33 : decode cX9_knownAt 33 = .ok (.invokestatic 260, 3) := by decide +kernel
theorem dX9_knownAt_36 : decode cX9_knownAt 36 = .ok (.ifCond .ne 19, 3) := by decide +kernel
theorem dX9_knownAt_39 : decode cX9_knownAt 39 = .ok (.iload 4, 2) := by decide +kernel
theorem dX9_knownAt_41 : decode cX9_knownAt 41 = .ok (.iload 5, 2) := by decide +kernel
theorem dX9_knownAt_43 : decode cX9_knownAt 43 = .ok (.iconst 1, 1) := by decide +kernel
theorem dX9_knownAt_44 : decode cX9_knownAt 44 = .ok (.iload_n 3, 1) := by decide +kernel
theorem dX9_knownAt_45 : decode cX9_knownAt 45 = .ok (.iload 6, 2) := by decide +kernel
theorem dX9_knownAt_47 : decode cX9_knownAt 47 = .ok (.ishr, 1) := by decide +kernel
theorem dX9_knownAt_48 : decode cX9_knownAt 48 = .ok (.iconst 1, 1) := by decide +kernel
theorem dX9_knownAt_49 : decode cX9_knownAt 49 = .ok (.iand, 1) := by decide +kernel
theorem dX9_knownAt_50 : decode cX9_knownAt 50 = .ok (.iadd, 1) := by decide +kernel
theorem dX9_knownAt_51 : decode cX9_knownAt 51 = .ok (.imul, 1) := by decide +kernel
theorem dX9_knownAt_52 : decode cX9_knownAt 52 = .ok (.iadd, 1) := by decide +kernel
theorem dX9_knownAt_53 : decode cX9_knownAt 53 = .ok (.istore 4, 2) := by decide +kernel
theorem dX9_knownAt_55 : decode cX9_knownAt 55 = .ok (.iload 5, 2) := by decide +kernel
theorem dX9_knownAt_57 : decode cX9_knownAt 57 = .ok (.iconst 3, 1) := by decide +kernel
theorem dX9_knownAt_58 : decode cX9_knownAt 58 = .ok (.imul, 1) := by decide +kernel
theorem dX9_knownAt_59 : decode cX9_knownAt 59 = .ok (.istore 5, 2) := by decide +kernel
theorem dX9_knownAt_61 : decode cX9_knownAt 61 = .ok (.iinc 6 1, 3) := by decide +kernel
theorem dX9_knownAt_64 : decode cX9_knownAt 64 = .ok (.goto (-55), 3) := by decide +kernel
theorem dX9_knownAt_67 : decode cX9_knownAt 67 = .ok (.iload 4, 2) := by decide +kernel
theorem dX9_knownAt_69 : decode cX9_knownAt 69 = .ok (.ireturn, 1) := by decide +kernel
theorem dX9_findFactSets_0 : decode cX9_findFactSets 0 = .ok (.aload_n 0, 1) := by decide +kernel
theorem dX9_findFactSets_1 : decode cX9_findFactSets 1 = .ok (.iconst 0, 1) := by decide +kernel
theorem dX9_findFactSets_2 : decode cX9_findFactSets 2 = .ok (.invokevirtual 232, 3) := by decide +kernel
theorem dX9_findFactSets_5 : decode cX9_findFactSets 5 = .ok (.iconst 0, 1) := by decide +kernel
theorem dX9_findFactSets_6 : decode cX9_findFactSets 6 = .ok (.istore_n 1, 1) := by decide +kernel
theorem dX9_findFactSets_7 : decode cX9_findFactSets 7 = .ok (.iload_n 1, 1) := by decide +kernel
theorem dX9_findFactSets_8 : decode cX9_findFactSets 8 = .ok (.bipush 16, 2) := by decide +kernel
theorem dX9_findFactSets_10 : decode cX9_findFactSets 10 = .ok (.if_icmp .ge 16, 3) := by decide +kernel
theorem dX9_findFactSets_13 : decode cX9_findFactSets 13 = .ok (.aload_n 0, 1) := by decide +kernel
theorem dX9_findFactSets_14 : decode cX9_findFactSets 14 = .ok (.getfield 74, 3) := by decide +kernel
theorem dX9_findFactSets_17 : decode cX9_findFactSets 17 = .ok (.iload_n 1, 1) := by decide +kernel
theorem dX9_findFactSets_18 : decode cX9_findFactSets 18 = .ok (.iconst 0, 1) := by decide +kernel
theorem dX9_findFactSets_19 : decode cX9_findFactSets 19 = .ok (.iastore, 1) := by decide +kernel
theorem dX9_findFactSets_20 : decode cX9_findFactSets 20 = .ok (.iinc 1 1, 3) := by decide +kernel
theorem dX9_findFactSets_23 : decode cX9_findFactSets 23 = .ok (.goto (-16), 3) := by decide +kernel
theorem dX9_findFactSets_26 : decode cX9_findFactSets 26 = .ok (.iconst 0, 1) := by decide +kernel
theorem dX9_findFactSets_27 : decode cX9_findFactSets 27 = .ok (.istore_n 1, 1) := by decide +kernel
theorem dX9_findFactSets_28 : decode cX9_findFactSets 28 = .ok (.iload_n 1, 1) := by decide +kernel
theorem dX9_findFactSets_29 : decode cX9_findFactSets 29 = .ok (.aload_n 0, 1) := by decide +kernel
theorem dX9_findFactSets_30 : decode cX9_findFactSets 30 = .ok (.getfield 223, 3) := by decide +kernel
theorem dX9_findFactSets_33 : decode cX9_findFactSets 33 = .ok (.if_icmp .ge 24, 3) := by decide +kernel
theorem dX9_findFactSets_36 : decode cX9_findFactSets 36 = .ok (.aload_n 0, 1) := by decide +kernel
theorem dX9_findFactSets_37 : decode cX9_findFactSets 37 = .ok (.getfield 74, 3) := by decide +kernel
theorem dX9_findFactSets_40 : decode cX9_findFactSets 40 = .ok (.aload_n 0, 1) := by decide +kernel
theorem dX9_findFactSets_41 : decode cX9_findFactSets 41 = .ok (.getfield 71, 3) := by decide +kernel
theorem dX9_findFactSets_44 : decode cX9_findFactSets 44 = .ok (.iload_n 1, 1) := by decide +kernel
theorem dX9_findFactSets_45 : decode cX9_findFactSets 45 = .ok (.iaload, 1) := by decide +kernel
theorem dX9_findFactSets_46 : decode cX9_findFactSets 46 = .ok (.bipush 15, 2) := by decide +kernel
theorem dX9_findFactSets_48 : decode cX9_findFactSets 48 = .ok (.iand, 1) := by decide +kernel
theorem dX9_findFactSets_49 : decode cX9_findFactSets 49 = .ok (.iconst 1, 1) := by decide +kernel
theorem dX9_findFactSets_50 : decode cX9_findFactSets 50 = .ok (.iastore, 1) := by decide +kernel
theorem dX9_findFactSets_51 : decode cX9_findFactSets 51 = .ok (.iinc 1 1, 3) := by decide +kernel
theorem dX9_findFactSets_54 : decode cX9_findFactSets 54 = .ok (.goto (-26), 3) := by decide +kernel
theorem dX9_findFactSets_57 : decode cX9_findFactSets 57 = .ok (.return_, 1) := by decide +kernel
theorem dX9_isDone_0 : decode cX9_isDone 0 = .ok (.iconst 0, 1) := by decide +kernel
theorem dX9_isDone_1 : decode cX9_isDone 1 = .ok (.istore_n 3, 1) := by decide +kernel
theorem dX9_isDone_2 : decode cX9_isDone 2 = .ok (.iload_n 3, 1) := by decide +kernel
theorem dX9_isDone_3 : decode cX9_isDone 3 = .ok (.bipush 16, 2) := by decide +kernel
theorem dX9_isDone_5 : decode cX9_isDone 5 = .ok (.if_icmp .ge 57, 3) := by decide +kernel
theorem dX9_isDone_8 : decode cX9_isDone 8 = .ok (.aload_n 0, 1) := by decide +kernel
theorem dX9_isDone_9 : decode cX9_isDone 9 = .ok (.getfield 74, 3) := by decide +kernel
theorem dX9_isDone_12 : decode cX9_isDone 12 = .ok (.iload_n 3, 1) := by decide +kernel
theorem dX9_isDone_13 : decode cX9_isDone 13 = .ok (.iaload, 1) := by decide +kernel
theorem dX9_isDone_14 : decode cX9_isDone 14 = .ok (.iconst 1, 1) := by decide +kernel
theorem dX9_isDone_15 : decode cX9_isDone 15 = .ok (.if_icmp .ne 41, 3) := by decide +kernel
theorem dX9_isDone_18 : decode cX9_isDone 18 = .ok (.aload_n 0, 1) := by decide +kernel
theorem dX9_isDone_19 : decode cX9_isDone 19 = .ok (.iload_n 2, 1) := by decide +kernel
theorem dX9_isDone_20 : decode cX9_isDone 20 = .ok (.iload_n 3, 1) := by decide +kernel
theorem dX9_isDone_21 : decode cX9_isDone 21 = .ok (.invokevirtual 263, 3) := by decide +kernel
theorem dX9_isDone_24 : decode cX9_isDone 24 = .ok (.ifCond .eq 32, 3) := by decide +kernel
theorem dX9_isDone_27 : decode cX9_isDone 27 = .ok (.iload_n 3, 1) := by decide +kernel
theorem dX9_isDone_28 : decode cX9_isDone 28 = .ok (.aload_n 0, 1) := by decide +kernel
theorem dX9_isDone_29 : decode cX9_isDone 29 = .ok (.getfield 38, 3) := by decide +kernel
theorem dX9_isDone_32 : decode cX9_isDone 32 = .ok (.ishr, 1) := by decide +kernel
theorem dX9_isDone_33 : decode cX9_isDone 33 = .ok (.iconst 1, 1) := by decide +kernel
theorem dX9_isDone_34 : decode cX9_isDone 34 = .ok (.iand, 1) := by decide +kernel
theorem dX9_isDone_35 : decode cX9_isDone 35 = .ok (.iconst 1, 1) := by decide +kernel
theorem dX9_isDone_36 : decode cX9_isDone 36 = .ok (.if_icmp .ne 10, 3) := by decide +kernel
theorem dX9_isDone_39 : decode cX9_isDone 39 = .ok (.aload_n 0, 1) := by decide +kernel
theorem dX9_isDone_40 : decode cX9_isDone 40 = .ok (.getfield 140, 3) := by decide +kernel
theorem dX9_isDone_43 : decode cX9_isDone 43 = .ok (.goto 7, 3) := by decide +kernel
theorem dX9_isDone_46 : decode cX9_isDone 46 = .ok (.aload_n 0, 1) := by decide +kernel
theorem dX9_isDone_47 : decode cX9_isDone 47 = .ok (.getfield 143, 3) := by decide +kernel
theorem dX9_isDone_50 : decode cX9_isDone 50 = .ok (.iload_n 1, 1) := by decide +kernel
theorem dX9_isDone_51 : decode cX9_isDone 51 = .ok (.if_icmp .eq 5, 3) := by decide +kernel
theorem dX9_isDone_54 : decode cX9_isDone 54 = .ok (.iconst 0, 1) := by decide +kernel
theorem dX9_isDone_55 : decode cX9_isDone 55 = .ok (.ireturn, 1) := by decide +kernel
theorem dX9_isDone_56 : decode cX9_isDone 56 = .ok (.iinc 3 1, 3) := by decide +kernel
theorem dX9_isDone_59 : decode cX9_isDone 59 = .ok (.goto (-57), 3) := by decide +kernel
theorem dX9_isDone_62 : decode cX9_isDone 62 = .ok (.iconst 1, 1) := by decide +kernel
theorem dX9_isDone_63 : decode cX9_isDone 63 = .ok (.ireturn, 1) := by decide +kernel
theorem dX9_areNext_0 : decode cX9_areNext 0 = .ok (.iconst 0, 1) := by decide +kernel
theorem dX9_areNext_1 : decode cX9_areNext 1 = .ok (.istore_n 3, 1) := by decide +kernel
theorem dX9_areNext_2 : decode cX9_areNext 2 = .ok (.iload_n 3, 1) := by decide +kernel
theorem dX9_areNext_3 : decode cX9_areNext 3 = .ok (.aload_n 0, 1) := by decide +kernel
theorem dX9_areNext_4 : decode cX9_areNext 4 = .ok (.getfield 137, 3) := by decide +kernel
theorem dX9_areNext_7 : decode cX9_areNext 7 = .ok (.if_icmp .ge 51, 3) := by decide +kernel
theorem dX9_areNext_10 : decode cX9_areNext 10 = .ok (.aload_n 0, 1) := by decide +kernel
theorem dX9_areNext_11 : decode cX9_areNext 11 = .ok (.getfield 13, 3) := by decide +kernel
theorem dX9_areNext_14 : decode cX9_areNext 14 = .ok (.iload_n 3, 1) := by decide +kernel
theorem dX9_areNext_15 : decode cX9_areNext 15 = .ok (.iaload, 1) := by decide +kernel
theorem dX9_areNext_16 : decode cX9_areNext 16 = .ok (.iload_n 1, 1) := by decide +kernel
theorem dX9_areNext_17 : decode cX9_areNext 17 = .ok (.if_icmp .ne 13, 3) := by decide +kernel
theorem dX9_areNext_20 : decode cX9_areNext 20 = .ok (.aload_n 0, 1) := by decide +kernel
theorem dX9_areNext_21 : decode cX9_areNext 21 = .ok (.getfield 16, 3) := by decide +kernel
theorem dX9_areNext_24 : decode cX9_areNext 24 = .ok (.iload_n 3, 1) := by decide +kernel
theorem dX9_areNext_25 : decode cX9_areNext 25 = .ok (.iaload, 1) := by decide +kernel
theorem dX9_areNext_26 : decode cX9_areNext 26 = .ok (.iload_n 2, 1) := by decide +kernel
theorem dX9_areNext_27 : decode cX9_areNext 27 = .ok (.if_icmp .eq 23, 3) := by decide +kernel
theorem dX9_areNext_30 : decode cX9_areNext 30 = .ok (.aload_n 0, 1) := by decide +kernel
theorem dX9_areNext_31 : decode cX9_areNext 31 = .ok (.getfield 13, 3) := by decide +kernel
theorem dX9_areNext_34 : decode cX9_areNext 34 = .ok (.iload_n 3, 1) := by decide +kernel
theorem dX9_areNext_35 : decode cX9_areNext 35 = .ok (.iaload, 1) := by decide +kernel
theorem dX9_areNext_36 : decode cX9_areNext 36 = .ok (.iload_n 2, 1) := by decide +kernel
theorem dX9_areNext_37 : decode cX9_areNext 37 = .ok (.if_icmp .ne 15, 3) := by decide +kernel
theorem dX9_areNext_40 : decode cX9_areNext 40 = .ok (.aload_n 0, 1) := by decide +kernel
theorem dX9_areNext_41 : decode cX9_areNext 41 = .ok (.getfield 16, 3) := by decide +kernel
theorem dX9_areNext_44 : decode cX9_areNext 44 = .ok (.iload_n 3, 1) := by decide +kernel
theorem dX9_areNext_45 : decode cX9_areNext 45 = .ok (.iaload, 1) := by decide +kernel
theorem dX9_areNext_46 : decode cX9_areNext 46 = .ok (.iload_n 1, 1) := by decide +kernel
theorem dX9_areNext_47 : decode cX9_areNext 47 = .ok (.if_icmp .ne 5, 3) := by decide +kernel
theorem dX9_areNext_50 : decode cX9_areNext 50 = .ok (.iconst 1, 1) := by decide +kernel
theorem dX9_areNext_51 : decode cX9_areNext 51 = .ok (.ireturn, 1) := by decide +kernel
theorem dX9_areNext_52 : decode cX9_areNext 52 = .ok (.iinc 3 1, 3) := by decide +kernel
theorem dX9_areNext_55 : decode cX9_areNext 55 = .ok (.goto (-53), 3) := by decide +kernel
theorem dX9_areNext_58 : decode cX9_areNext 58 = .ok (.iconst 0, 1) := by decide +kernel
theorem dX9_areNext_59 : decode cX9_areNext 59 = .ok (.ireturn, 1) := by decide +kernel
theorem dX9_worstAt_0 : decode cX9_worstAt 0 = .ok (.iconst 0, 1) := by decide +kernel
theorem dX9_worstAt_1 : decode cX9_worstAt 1 = .ok (.istore_n 3, 1) := by decide +kernel
theorem dX9_worstAt_2 : decode cX9_worstAt 2 = .ok (.iconst 0, 1) := by decide +kernel
theorem dX9_worstAt_3 : decode cX9_worstAt 3 = .ok (.istore 4, 2) := by decide +kernel
theorem dX9_worstAt_5 : decode cX9_worstAt 5 = .ok (.iload 4, 2) := by decide +kernel
theorem dX9_worstAt_7 : decode cX9_worstAt 7 = .ok (.bipush 16, 2) := by decide +kernel
theorem dX9_worstAt_9 : decode cX9_worstAt 9 = .ok (.if_icmp .ge 65, 3) := by decide +kernel
theorem dX9_worstAt_12 : decode cX9_worstAt 12 = .ok (.aload_n 0, 1) := by decide +kernel
theorem dX9_worstAt_13 : decode cX9_worstAt 13 = .ok (.getfield 74, 3) := by decide +kernel
theorem dX9_worstAt_16 : decode cX9_worstAt 16 = .ok (.iload 4, 2) := by decide +kernel
theorem dX9_worstAt_18 : decode cX9_worstAt 18 = .ok (.iaload, 1) := by decide +kernel
theorem dX9_worstAt_19 : decode cX9_worstAt 19 = .ok (.ifCond .eq 49, 3) := by decide +kernel
theorem dX9_worstAt_22 : decode cX9_worstAt 22 = .ok (.aload_n 0, 1) := by decide +kernel
theorem dX9_worstAt_23 : decode cX9_worstAt 23 = .ok (.iload_n 2, 1) := by decide +kernel
theorem dX9_worstAt_24 : decode cX9_worstAt 24 = .ok (.iload 4, 2) := by decide +kernel
theorem dX9_worstAt_26 : decode cX9_worstAt 26 = .ok (.invokevirtual 263, 3) := by decide +kernel
theorem dX9_worstAt_29 : decode cX9_worstAt 29 = .ok (.ifCond .ne 6, 3) := by decide +kernel
theorem dX9_worstAt_32 : decode cX9_worstAt 32 = .ok (.goto 36, 3) := by decide +kernel
theorem dX9_worstAt_35 : decode cX9_worstAt 35 = .ok (.aload_n 0, 1) := by decide +kernel
theorem dX9_worstAt_36 : decode cX9_worstAt 36 = .ok (.getfield 77, 3) := by decide +kernel
theorem dX9_worstAt_39 : decode cX9_worstAt 39 = .ok (.bipush 81, 2) := by decide +kernel
theorem dX9_worstAt_41 : decode cX9_worstAt 41 = .ok (.iload_n 1, 1) := by decide +kernel
theorem dX9_worstAt_42 : decode cX9_worstAt 42 = .ok (.imul, 1) := by decide +kernel
theorem dX9_worstAt_43 : decode cX9_worstAt 43 = .ok (.aload_n 0, 1) := by decide +kernel
theorem dX9_worstAt_44 : decode cX9_worstAt 44 = .ok (.iload_n 2, 1) := by decide +kernel
theorem dX9_worstAt_45 : decode cX9_worstAt 45 = .ok (.iload_n 1, 1) := by decide +kernel
theorem dX9_worstAt_46 : decode cX9_worstAt 46 = .ok (.iload 4, 2) := by decide +kernel
theorem dX9_worstAt_48 : decode cX9_worstAt 48 = .ok (.invokevirtual 266, 3) := by decide +kernel
theorem dX9_worstAt_51 : decode cX9_worstAt 51 = .ok (.iadd, 1) := by decide +kernel
theorem dX9_worstAt_52 : decode cX9_worstAt 52 = .ok (.iaload, 1) := by decide +kernel
theorem dX9_worstAt_53 : decode cX9_worstAt 53 = .ok (.istore 5, 2) := by decide +kernel
theorem dX9_worstAt_55 : decode cX9_worstAt 55 = .ok (.iload 5, 2) := by decide +kernel
theorem dX9_worstAt_57 : decode cX9_worstAt 57 = .ok (.iload_n 3, 1) := by decide +kernel
theorem dX9_worstAt_58 : decode cX9_worstAt 58 = .ok (.if_icmp .le 8, 3) := by decide +kernel
theorem dX9_worstAt_61 : decode cX9_worstAt 61 = .ok (.iload 5, 2) := by decide +kernel
theorem dX9_worstAt_63 : decode cX9_worstAt 63 = .ok (.goto 4, 3) := by decide +kernel
theorem dX9_worstAt_66 : decode cX9_worstAt 66 = .ok (.iload_n 3, 1) := by decide +kernel
theorem dX9_worstAt_67 : decode cX9_worstAt 67 = .ok (.istore_n 3, 1) := by decide +kernel
theorem dX9_worstAt_68 : decode cX9_worstAt 68 = .ok (.iinc 4 1, 3) := by decide +kernel
theorem dX9_worstAt_71 : decode cX9_worstAt 71 = .ok (.goto (-66), 3) := by decide +kernel
theorem dX9_worstAt_74 : decode cX9_worstAt 74 = .ok (.iload_n 3, 1) := by decide +kernel
theorem dX9_worstAt_75 : decode cX9_worstAt 75 = .ok (.ireturn, 1) := by decide +kernel
theorem dX9_bestNext_0 : decode cX9_bestNext 0 = .ok (.bipush (-9), 2) := by decide +kernel
theorem dX9_bestNext_2 : decode cX9_bestNext 2 = .ok (.istore_n 3, 1) := by decide +kernel
theorem dX9_bestNext_3 : decode cX9_bestNext 3 = .ok (.sipush 1000, 3) := by decide +kernel
theorem dX9_bestNext_6 : decode cX9_bestNext 6 = .ok (.istore 4, 2) := by decide +kernel
theorem dX9_bestNext_8 : decode cX9_bestNext 8 = .ok (.iconst 0, 1) := by decide +kernel
theorem dX9_bestNext_9 : decode cX9_bestNext 9 = .ok (.istore 5, 2) := by decide +kernel
theorem dX9_bestNext_11 : decode cX9_bestNext 11 = .ok (.iload 5, 2) := by decide +kernel
theorem dX9_bestNext_13 : decode cX9_bestNext 13 = .ok (.aload_n 0, 1) := by decide +kernel
theorem dX9_bestNext_14 : decode cX9_bestNext 14 = .ok (.getfield 34, 3) := by decide +kernel
theorem dX9_bestNext_17 : decode cX9_bestNext 17 = .ok (.if_icmp .ge 48, 3) := by decide +kernel
theorem dX9_bestNext_20 : decode cX9_bestNext 20 = .ok (.aload_n 0, 1) := by decide +kernel
theorem dX9_bestNext_21 : decode cX9_bestNext 21 = .ok (.iload_n 1, 1) := by decide +kernel
theorem dX9_bestNext_22 : decode cX9_bestNext 22 = .ok (.iload 5, 2) := by decide +kernel
theorem dX9_bestNext_24 : decode cX9_bestNext 24 = .ok (.invokevirtual 269, 3) := by decide +kernel
theorem dX9_bestNext_27 : decode cX9_bestNext 27 = .ok (.ifCond .ne 6, 3) := by decide +kernel
theorem dX9_bestNext_30 : decode cX9_bestNext 30 = .ok (.goto 29, 3) := by decide +kernel
theorem dX9_bestNext_33 : decode cX9_bestNext 33 = .ok (.aload_n 0, 1) := by decide +kernel
theorem dX9_bestNext_34 : decode cX9_bestNext 34 = .ok (.iload 5, 2) := by decide +kernel
theorem dX9_bestNext_36 : decode cX9_bestNext 36 = .ok (.iload_n 2, 1) := by decide +kernel
theorem dX9_bestNext_37 : decode cX9_bestNext 37 = .ok (.invokevirtual 272, 3) := by decide +kernel
theorem dX9_bestNext_40 : decode cX9_bestNext 40 = .ok (.istore 6, 2) := by decide +kernel
theorem dX9_bestNext_42 : decode cX9_bestNext 42 = .ok (.iload 6, 2) := by decide +kernel
theorem dX9_bestNext_44 : decode cX9_bestNext 44 = .ok (.iload 4, 2) := by decide +kernel
theorem dX9_bestNext_46 : decode cX9_bestNext 46 = .ok (.if_icmp .lt 6, 3) := by decide +kernel
theorem dX9_bestNext_49 : decode cX9_bestNext 49 = .ok (.goto 10, 3) := by decide +kernel
theorem dX9_bestNext_52 : decode cX9_bestNext 52 = .ok (.iload 5, 2) := by decide +kernel
theorem dX9_bestNext_54 : decode cX9_bestNext 54 = .ok (.istore_n 3, 1) := by decide +kernel
theorem dX9_bestNext_55 : decode cX9_bestNext 55 = .ok (.iload 6, 2) := by decide +kernel
theorem dX9_bestNext_57 : decode cX9_bestNext 57 = .ok (.istore 4, 2) := by decide +kernel
theorem dX9_bestNext_59 : decode cX9_bestNext 59 = .ok (.iinc 5 1, 3) := by decide +kernel
theorem dX9_bestNext_62 : decode cX9_bestNext 62 = .ok (.goto (-51), 3) := by decide +kernel
theorem dX9_bestNext_65 : decode cX9_bestNext 65 = .ok (.iload_n 3, 1) := by decide +kernel
theorem dX9_bestNext_66 : decode cX9_bestNext 66 = .ok (.ireturn, 1) := by decide +kernel
theorem dX9_findWorths_0 : decode cX9_findWorths 0 = .ok (.aload_n 0, 1) := by decide +kernel
theorem dX9_findWorths_1 : decode cX9_findWorths 1 = .ok (.invokevirtual 275, 3) := by decide +kernel
theorem dX9_findWorths_4 : decode cX9_findWorths 4 = .ok (.iconst 0, 1) := by decide +kernel
theorem dX9_findWorths_5 : decode cX9_findWorths 5 = .ok (.istore_n 1, 1) := by decide +kernel
theorem dX9_findWorths_6 : decode cX9_findWorths 6 = .ok (.iload_n 1, 1) := by decide +kernel
theorem dX9_findWorths_7 : decode cX9_findWorths 7 = .ok (.sipush 486, 3) := by decide +kernel
theorem dX9_findWorths_10 : decode cX9_findWorths 10 = .ok (.if_icmp .ge 48, 3) := by decide +kernel
theorem dX9_findWorths_13 : decode cX9_findWorths 13 = .ok (.aload_n 0, 1) := by decide +kernel
theorem dX9_findWorths_14 : decode cX9_findWorths 14 = .ok (.getfield 77, 3) := by decide +kernel
theorem dX9_findWorths_17 : decode cX9_findWorths 17 = .ok (.iload_n 1, 1) := by decide +kernel
theorem dX9_findWorths_18 : decode cX9_findWorths 18 = .ok (.iload_n 1, 1) := by decide +kernel
theorem dX9_findWorths_19 : decode cX9_findWorths 19 = .ok (.bipush 81, 2) := by decide +kernel
theorem dX9_findWorths_21 : decode cX9_findWorths 21 = .ok (.idiv, 1) := by decide +kernel
theorem dX9_findWorths_22 : decode cX9_findWorths 22 = .ok (.aload_n 0, 1) := by decide +kernel
theorem dX9_findWorths_23 : decode cX9_findWorths 23 = .ok (.getfield 34, 3) := by decide +kernel
theorem dX9_findWorths_26 : decode cX9_findWorths 26 = .ok (.if_icmp .ge 22, 3) := by decide +kernel
theorem dX9_findWorths_29 : decode cX9_findWorths 29 = .ok (.aload_n 0, 1) := by decide +kernel
theorem dX9_findWorths_30 : decode cX9_findWorths 30 = .ok (.iload_n 1, 1) := by decide +kernel
theorem dX9_findWorths_31 : decode cX9_findWorths 31 = .ok (.bipush 81, 2) := by decide +kernel
theorem dX9_findWorths_33 : decode cX9_findWorths 33 = .ok (.idiv, 1) := by decide +kernel
theorem dX9_findWorths_34 : decode cX9_findWorths 34 = .ok (.iload_n 1, 1) := by decide +kernel
theorem dX9_findWorths_35 : decode cX9_findWorths 35 = .ok (.bipush 81, 2) := by decide +kernel
theorem dX9_findWorths_37 : decode cX9_findWorths 37 = .ok (.irem, 1) := by decide +kernel
theorem dX9_findWorths_38 : decode cX9_findWorths 38 = .ok (.invokevirtual 278, 3) := by decide +kernel
theorem dX9_findWorths_41 : decode cX9_findWorths 41 = .ok (.ifCond .eq 7, 3) := by decide +kernel
theorem dX9_findWorths_44 : decode cX9_findWorths 44 = .ok (.iconst 0, 1) := by decide +kernel
theorem dX9_findWorths_45 : decode cX9_findWorths 45 = .ok (.goto 6, 3) := by decide +kernel
theorem dX9_findWorths_48 : decode cX9_findWorths 48 = .ok (.sipush 1000, 3) := by decide +kernel
theorem dX9_findWorths_51 : decode cX9_findWorths 51 = .ok (.iastore, 1) := by decide +kernel
theorem dX9_findWorths_52 : decode cX9_findWorths 52 = .ok (.iinc 1 1, 3) := by decide +kernel
theorem dX9_findWorths_55 : decode cX9_findWorths 55 = .ok (.goto (-49), 3) := by decide +kernel
theorem dX9_findWorths_58 : decode cX9_findWorths 58 = .ok (.iconst 0, 1) := by decide +kernel
theorem dX9_findWorths_59 : decode cX9_findWorths 59 = .ok (.istore_n 1, 1) := by decide +kernel
theorem dX9_findWorths_60 : decode cX9_findWorths 60 = .ok (.iload_n 1, 1) := by decide +kernel
theorem dX9_findWorths_61 : decode cX9_findWorths 61 = .ok (.bipush 20, 2) := by decide +kernel
theorem dX9_findWorths_63 : decode cX9_findWorths 63 = .ok (.if_icmp .ge 126, 3) := by decide +kernel
theorem dX9_findWorths_66 : decode cX9_findWorths 66 = .ok (.iconst 0, 1) := by decide +kernel
theorem dX9_findWorths_67 : decode cX9_findWorths 67 = .ok (.istore_n 2, 1) := by decide +kernel
theorem dX9_findWorths_68 : decode cX9_findWorths 68 = .ok (.iload_n 2, 1) := by decide +kernel
theorem dX9_findWorths_69 : decode cX9_findWorths 69 = .ok (.bipush 81, 2) := by decide +kernel
theorem dX9_findWorths_71 : decode cX9_findWorths 71 = .ok (.aload_n 0, 1) := by decide +kernel
theorem dX9_findWorths_72 : decode cX9_findWorths 72 = .ok (.getfield 34, 3) := by decide +kernel
theorem dX9_findWorths_75 : decode cX9_findWorths 75 = .ok (.imul, 1) := by decide +kernel
theorem dX9_findWorths_76 : decode cX9_findWorths 76 = .ok (.if_icmp .ge 76, 3) := by decide +kernel
theorem dX9_findWorths_79 : decode cX9_findWorths 79 = .ok (.aload_n 0, 1) := by decide +kernel
theorem dX9_findWorths_80 : decode cX9_findWorths 80 = .ok (.getfield 77, 3) := by decide +kernel
theorem dX9_findWorths_83 : decode cX9_findWorths 83 = .ok (.iload_n 2, 1) := by decide +kernel
theorem dX9_findWorths_84 : decode cX9_findWorths 84 = .ok (.iaload, 1) := by decide +kernel
theorem dX9_findWorths_85 : decode cX9_findWorths 85 = .ok (.ifCond .ne 8, 3) := by decide +kernel
theorem dX9_findWorths_88 : decode cX9_findWorths 88 = .ok (.bipush (-9), 2) := by decide +kernel
theorem dX9_findWorths_90 : decode cX9_findWorths 90 = .ok (.goto 15, 3) := by decide +kernel
theorem dX9_findWorths_93 : decode cX9_findWorths 93 = .ok (.aload_n 0, 1) := by decide +kernel
theorem dX9_findWorths_94 : decode cX9_findWorths 94 = .ok (.iload_n 2, 1) := by decide +kernel
theorem dX9_findWorths_95 : decode cX9_findWorths 95 = .ok (.bipush 81, 2) := by decide +kernel
theorem dX9_findWorths_97 : decode cX9_findWorths 97 = .ok (.idiv, 1) := by decide +kernel
theorem dX9_findWorths_98 : decode cX9_findWorths 98 = .ok (.iload_n 2, 1) := by decide +kernel
theorem dX9_findWorths_99 : decode cX9_findWorths 99 = .ok (.bipush 81, 2) := by decide +kernel
theorem dX9_findWorths_101 : decode cX9_findWorths 101 = .ok (.irem, 1) := by decide +kernel
theorem dX9_findWorths_102 : decode cX9_findWorths 102 = .ok (.invokevirtual 281, 3) := by decide +kernel
theorem dX9_findWorths_105 : decode cX9_findWorths 105 = .ok (.istore_n 3, 1) := by decide +kernel
theorem dX9_findWorths_106 : decode cX9_findWorths 106 = .ok (.aload_n 0, 1) := by decide +kernel
theorem dX9_findWorths_107 : decode cX9_findWorths 107 = .ok (.getfield 80, 3) := by decide +kernel
theorem dX9_findWorths_110 : decode cX9_findWorths 110 = .ok (.iload_n 2, 1) := by decide +kernel
theorem dX9_findWorths_111 : decode cX9_findWorths 111 = .ok (.aload_n 0, 1) := by decide +kernel
theorem dX9_findWorths_112 : decode cX9_findWorths 112 = .ok (.getfield 77, 3) := by decide +kernel
theorem dX9_findWorths_115 : decode cX9_findWorths 115 = .ok (.iload_n 2, 1) := by decide +kernel
theorem dX9_findWorths_116 : decode cX9_findWorths 116 = .ok (.iaload, 1) := by decide +kernel
theorem dX9_findWorths_117 : decode cX9_findWorths 117 = .ok (.ifCond .ne 7, 3) := by decide +kernel
theorem dX9_findWorths_120 : decode cX9_findWorths 120 = .ok (.iconst 0, 1) := by decide +kernel
theorem dX9_findWorths_121 : decode cX9_findWorths 121 = .ok (.goto 24, 3) := by decide +kernel
theorem dX9_findWorths_124 : decode cX9_findWorths 124 = .ok (.iload_n 3, 1) := by decide +kernel
theorem dX9_findWorths_125 : decode cX9_findWorths 125 = .ok (.ifCond .ge 9, 3) := by decide +kernel
theorem dX9_findWorths_128 : decode cX9_findWorths 128 = .ok (.sipush 1000, 3) := by decide +kernel
theorem dX9_findWorths_131 : decode cX9_findWorths 131 = .ok (.goto 14, 3) := by decide +kernel
theorem dX9_findWorths_134 : decode cX9_findWorths 134 = .ok (.aload_n 0, 1) := by decide +kernel
theorem dX9_findWorths_135 : decode cX9_findWorths 135 = .ok (.iload_n 3, 1) := by decide +kernel
theorem dX9_findWorths_136 : decode cX9_findWorths 136 = .ok (.iload_n 2, 1) := by decide +kernel
theorem dX9_findWorths_137 : decode cX9_findWorths 137 = .ok (.bipush 81, 2) := by decide +kernel
theorem dX9_findWorths_139 : decode cX9_findWorths 139 = .ok (.irem, 1) := by decide +kernel
theorem dX9_findWorths_140 : decode cX9_findWorths 140 = .ok (.invokevirtual 272, 3) := by decide +kernel
theorem dX9_findWorths_143 : decode cX9_findWorths 143 = .ok (.iconst 1, 1) := by decide +kernel
theorem dX9_findWorths_144 : decode cX9_findWorths 144 = .ok (.iadd, 1) := by decide +kernel
theorem dX9_findWorths_145 : decode cX9_findWorths 145 = .ok (.iastore, 1) := by decide +kernel
theorem dX9_findWorths_146 : decode cX9_findWorths 146 = .ok (.iinc 2 1, 3) := by decide +kernel
theorem dX9_findWorths_149 : decode cX9_findWorths 149 = .ok (.goto (-81), 3) := by decide +kernel
theorem dX9_findWorths_152 : decode cX9_findWorths 152 = .ok (.iconst 0, 1) := by decide +kernel
theorem dX9_findWorths_153 : decode cX9_findWorths 153 = .ok (.istore_n 2, 1) := by decide +kernel
theorem dX9_findWorths_154 : decode cX9_findWorths 154 = .ok (.iload_n 2, 1) := by decide +kernel
theorem dX9_findWorths_155 : decode cX9_findWorths 155 = .ok (.bipush 81, 2) := by decide +kernel
theorem dX9_findWorths_157 : decode cX9_findWorths 157 = .ok (.aload_n 0, 1) := by decide +kernel
theorem dX9_findWorths_158 : decode cX9_findWorths 158 = .ok (.getfield 34, 3) := by decide +kernel
theorem dX9_findWorths_161 : decode cX9_findWorths 161 = .ok (.imul, 1) := by decide +kernel
theorem dX9_findWorths_162 : decode cX9_findWorths 162 = .ok (.if_icmp .ge 21, 3) := by decide +kernel
theorem dX9_findWorths_165 : decode cX9_findWorths 165 = .ok (.aload_n 0, 1) := by decide +kernel
theorem dX9_findWorths_166 : decode cX9_findWorths 166 = .ok (.getfield 77, 3) := by decide +kernel
theorem dX9_findWorths_169 : decode cX9_findWorths 169 = .ok (.iload_n 2, 1) := by decide +kernel
theorem dX9_findWorths_170 : decode cX9_findWorths 170 = .ok (.aload_n 0, 1) := by decide +kernel
theorem dX9_findWorths_171 : decode cX9_findWorths 171 = .ok (.getfield 80, 3) := by decide +kernel
theorem dX9_findWorths_174 : decode cX9_findWorths 174 = .ok (.iload_n 2, 1) := by decide +kernel
theorem dX9_findWorths_175 : decode cX9_findWorths 175 = .ok (.iaload, 1) := by decide +kernel
theorem dX9_findWorths_176 : decode cX9_findWorths 176 = .ok (.iastore, 1) := by decide +kernel
theorem dX9_findWorths_177 : decode cX9_findWorths 177 = .ok (.iinc 2 1, 3) := by decide +kernel
theorem dX9_findWorths_180 : decode cX9_findWorths 180 = .ok (.goto (-26), 3) := by decide +kernel
theorem dX9_findWorths_183 : decode cX9_findWorths 183 = .ok (.iinc 1 1, 3) := by decide +kernel
theorem dX9_findWorths_186 : decode cX9_findWorths 186 = .ok (.goto (-126), 3) := by decide +kernel
theorem dX9_findWorths_189 : decode cX9_findWorths 189 = .ok (.return_, 1) := by decide +kernel
theorem dX9_go_0 : decode cX9_go 0 = .ok (.aload_n 0, 1) := by decide +kernel
theorem dX9_go_1 : decode cX9_go 1 = .ok (.iload_n 1, 1) := by decide +kernel
theorem dX9_go_2 : decode cX9_go 2 = .ok (.invokevirtual 155, 3) := by decide +kernel
theorem dX9_go_5 : decode cX9_go 5 = .ok (.ifCond .ne 9, 3) := by decide +kernel
theorem dX9_go_8 : decode cX9_go 8 = .ok (.aload_n 0, 1) := by decide +kernel
theorem dX9_go_9 : decode cX9_go 9 = .ok (.iconst (-1), 1) := by decide +kernel
theorem dX9_go_10 : decode cX9_go 10 = .ok (.invokevirtual 102, 3) := by decide +kernel
theorem dX9_go_13 : decode cX9_go 13 = .ok (.ireturn, 1) := by decide +kernel
theorem dX9_go_14 : decode cX9_go 14 = .ok (.iload_n 2, 1) := by decide +kernel
theorem dX9_go_15 : decode cX9_go 15 = .ok (.iconst 0, 1) := by decide +kernel
theorem dX9_go_16 : decode cX9_go 16 = .ok (.iconst 1, 1) := by decide +kernel
theorem dX9_go_17 : decode cX9_go 17 = .ok (.invokestatic 113, 3) := by decide +kernel
theorem dX9_go_20 : decode cX9_go 20 = .ok (.ifCond .ne 10, 3) := by decide +kernel
theorem dX9_go_23 : decode cX9_go 23 = .ok (.aload_n 0, 1) := by decide +kernel
theorem dX9_go_24 : decode cX9_go 24 = .ok (.bipush (-2), 2) := by decide +kernel
theorem dX9_go_26 : decode cX9_go 26 = .ok (.invokevirtual 102, 3) := by decide +kernel
theorem dX9_go_29 : decode cX9_go 29 = .ok (.ireturn, 1) := by decide +kernel
theorem dX9_go_30 : decode cX9_go 30 = .ok (.aload_n 0, 1) := by decide +kernel
theorem dX9_go_31 : decode cX9_go 31 = .ok (.getfield 38, 3) := by decide +kernel
theorem dX9_go_34 : decode cX9_go 34 = .ok (.ifCond .ge 10, 3) := by decide +kernel
theorem dX9_go_37 : decode cX9_go 37 = .ok (.aload_n 0, 1) := by decide +kernel
theorem dX9_go_38 : decode cX9_go 38 = .ok (.bipush (-3), 2) := by decide +kernel
theorem dX9_go_40 : decode cX9_go 40 = .ok (.invokevirtual 102, 3) := by decide +kernel
theorem dX9_go_43 : decode cX9_go 43 = .ok (.ireturn, 1) := by decide +kernel
theorem dX9_go_44 : decode cX9_go 44 = .ok (.aload_n 0, 1) := by decide +kernel
theorem dX9_go_45 : decode cX9_go 45 = .ok (.invokevirtual 284, 3) := by decide +kernel
theorem dX9_go_48 : decode cX9_go 48 = .ok (.aload_n 0, 1) := by decide +kernel
theorem dX9_go_49 : decode cX9_go 49 = .ok (.iload_n 1, 1) := by decide +kernel
theorem dX9_go_50 : decode cX9_go 50 = .ok (.iconst 0, 1) := by decide +kernel
theorem dX9_go_51 : decode cX9_go 51 = .ok (.invokevirtual 272, 3) := by decide +kernel
theorem dX9_go_54 : decode cX9_go 54 = .ok (.istore_n 3, 1) := by decide +kernel
theorem dX9_go_55 : decode cX9_go 55 = .ok (.iload_n 2, 1) := by decide +kernel
theorem dX9_go_56 : decode cX9_go 56 = .ok (.ifCond .ne 17, 3) := by decide +kernel
theorem dX9_go_59 : decode cX9_go 59 = .ok (.iload_n 3, 1) := by decide +kernel
theorem dX9_go_60 : decode cX9_go 60 = .ok (.sipush 1000, 3) := by decide +kernel
theorem dX9_go_63 : decode cX9_go 63 = .ok (.if_icmp .lt 8, 3) := by decide +kernel
theorem dX9_go_66 : decode cX9_go 66 = .ok (.bipush (-9), 2) := by decide +kernel
theorem dX9_go_68 : decode cX9_go 68 = .ok (.goto 4, 3) := by decide +kernel
theorem dX9_go_71 : decode cX9_go 71 = .ok (.iload_n 3, 1) := by decide +kernel
theorem dX9_go_72 : decode cX9_go 72 = .ok (.ireturn, 1) := by decide +kernel
theorem dX9_go_73 : decode cX9_go 73 = .ok (.iload_n 3, 1) := by decide +kernel
theorem dX9_go_74 : decode cX9_go 74 = .ok (.sipush 1000, 3) := by decide +kernel
theorem dX9_go_77 : decode cX9_go 77 = .ok (.if_icmp .ge 10, 3) := by decide +kernel
theorem dX9_go_80 : decode cX9_go 80 = .ok (.aload_n 0, 1) := by decide +kernel
theorem dX9_go_81 : decode cX9_go 81 = .ok (.getfield 223, 3) := by decide +kernel
theorem dX9_go_84 : decode cX9_go 84 = .ok (.ifCond .ne 6, 3) := by decide +kernel
theorem dX9_go_87 : decode cX9_go 87 = .ok (.bipush (-9), 2) := by decide +kernel
theorem dX9_go_89 : decode cX9_go 89 = .ok (.ireturn, 1) := by decide +kernel
theorem dX9_go_90 : decode cX9_go 90 = .ok (.aload_n 0, 1) := by decide +kernel
theorem dX9_go_91 : decode cX9_go 91 = .ok (.iconst 0, 1) := by decide +kernel
theorem dX9_go_92 : decode cX9_go 92 = .ok (.iload_n 1, 1) := by decide +kernel
theorem dX9_go_93 : decode cX9_go 93 = .ok (.aload_n 0, 1) := by decide +kernel
theorem dX9_go_94 : decode cX9_go 94 = .ok (.getfield 71, 3) := by decide +kernel
theorem dX9_go_97 : decode cX9_go 97 = .ok (.iconst 0, 1) := by decide +kernel
theorem dX9_go_98 : decode cX9_go 98 = .ok (.iaload, 1) := by decide +kernel
theorem dX9_go_99 : decode cX9_go 99 = .ok (.bipush 15, 2) := by decide +kernel
theorem dX9_go_101 : decode cX9_go 101 = .ok (.iand, 1) := by decide +kernel
theorem dX9_go_102 : decode cX9_go 102 = .ok (.invokevirtual 266, 3) := by decide +kernel
theorem dX9_go_105 : decode cX9_go 105 = .ok (.istore 4, 2) := by decide +kernel
theorem dX9_go_107 : decode cX9_go 107 = .ok (.aload_n 0, 1) := by decide +kernel
theorem dX9_go_108 : decode cX9_go 108 = .ok (.getfield 77, 3) := by decide +kernel
theorem dX9_go_111 : decode cX9_go 111 = .ok (.bipush 81, 2) := by decide +kernel
theorem dX9_go_113 : decode cX9_go 113 = .ok (.iload_n 1, 1) := by decide +kernel
theorem dX9_go_114 : decode cX9_go 114 = .ok (.imul, 1) := by decide +kernel
theorem dX9_go_115 : decode cX9_go 115 = .ok (.iload 4, 2) := by decide +kernel
theorem dX9_go_117 : decode cX9_go 117 = .ok (.iadd, 1) := by decide +kernel
theorem dX9_go_118 : decode cX9_go 118 = .ok (.iaload, 1) := by decide +kernel
theorem dX9_go_119 : decode cX9_go 119 = .ok (.ifCond .ne 8, 3) := by decide +kernel
theorem dX9_go_122 : decode cX9_go 122 = .ok (.bipush (-9), 2) := by decide +kernel
theorem dX9_go_124 : decode cX9_go 124 = .ok (.goto 10, 3) := by decide +kernel
theorem dX9_go_127 : decode cX9_go 127 = .ok (.aload_n 0, 1) := by decide +kernel
theorem dX9_go_128 : decode cX9_go 128 = .ok (.iload_n 1, 1) := by decide +kernel
theorem dX9_go_129 : decode cX9_go 129 = .ok (.iload 4, 2) := by decide +kernel
theorem dX9_go_131 : decode cX9_go 131 = .ok (.invokevirtual 281, 3) := by decide +kernel
theorem dX9_go_134 : decode cX9_go 134 = .ok (.ireturn, 1) := by decide +kernel
theorem dX9_row_0 : decode cX9_row 0 = .ok (.aload_n 0, 1) := by decide +kernel
theorem dX9_row_1 : decode cX9_row 1 = .ok (.iload_n 1, 1) := by decide +kernel
theorem dX9_row_2 : decode cX9_row 2 = .ok (.invokevirtual 226, 3) := by decide +kernel
theorem dX9_row_5 : decode cX9_row 5 = .ok (.ifCond .ne 9, 3) := by decide +kernel
theorem dX9_row_8 : decode cX9_row 8 = .ok (.aload_n 0, 1) := by decide +kernel
theorem dX9_row_9 : decode cX9_row 9 = .ok (.iconst (-1), 1) := by decide +kernel
theorem dX9_row_10 : decode cX9_row 10 = .ok (.invokevirtual 102, 3) := by decide +kernel
theorem dX9_row_13 : decode cX9_row 13 = .ok (.ireturn, 1) := by decide +kernel
theorem dX9_row_14 : decode cX9_row 14 = .ok (.aload_n 0, 1) := by decide +kernel
theorem dX9_row_15 : decode cX9_row 15 = .ok (.getfield 192, 3) := by decide +kernel
theorem dX9_row_18 : decode cX9_row 18 = .ok (.bipush 10, 2) := by decide +kernel
theorem dX9_row_20 : decode cX9_row 20 = .ok (.if_icmp .ne 10, 3) := by decide +kernel
theorem dX9_row_23 : decode cX9_row 23 = .ok (.aload_n 0, 1) := by decide +kernel
theorem dX9_row_24 : decode cX9_row 24 = .ok (.bipush (-6), 2) := by decide +kernel
theorem dX9_row_26 : decode cX9_row 26 = .ok (.invokevirtual 102, 3) := by decide +kernel
theorem dX9_row_29 : decode cX9_row 29 = .ok (.ireturn, 1) := by decide +kernel
theorem dX9_row_30 : decode cX9_row 30 = .ok (.aload_n 0, 1) := by decide +kernel
theorem dX9_row_31 : decode cX9_row 31 = .ok (.getfield 83, 3) := by decide +kernel
theorem dX9_row_34 : decode cX9_row 34 = .ok (.aload_n 0, 1) := by decide +kernel
theorem dX9_row_35 : decode cX9_row 35 = .ok (.getfield 192, 3) := by decide +kernel
theorem dX9_row_38 : decode cX9_row 38 = .ok (.iload_n 1, 1) := by decide +kernel
theorem dX9_row_39 : decode cX9_row 39 = .ok (.iastore, 1) := by decide +kernel
theorem dX9_row_40 : decode cX9_row 40 = .ok (.aload_n 0, 1) := by decide +kernel
theorem dX9_row_41 : decode cX9_row 41 = .ok (.dup, 1) := by decide +kernel
theorem dX9_row_42 : decode cX9_row 42 = .ok (.getfield 192, 3) := by decide +kernel
theorem dX9_row_45 : decode cX9_row 45 = .ok (.iconst 1, 1) := by decide +kernel
theorem dX9_row_46 : decode cX9_row 46 = .ok (.iadd, 1) := by decide +kernel
theorem dX9_row_47 : decode cX9_row 47 = .ok (.putfield 192, 3) := by decide +kernel
theorem dX9_row_50 : decode cX9_row 50 = .ok (.aload_n 0, 1) := by decide +kernel
theorem dX9_row_51 : decode cX9_row 51 = .ok (.getfield 192, 3) := by decide +kernel
theorem dX9_row_54 : decode cX9_row 54 = .ok (.ireturn, 1) := by decide +kernel
theorem dX9_signsOn_0 : decode cX9_signsOn 0 = .ok (.iconst 0, 1) := by decide +kernel
theorem dX9_signsOn_1 : decode cX9_signsOn 1 = .ok (.istore_n 2, 1) := by decide +kernel
theorem dX9_signsOn_2 : decode cX9_signsOn 2 = .ok (.iconst 0, 1) := by decide +kernel
theorem dX9_signsOn_3 : decode cX9_signsOn 3 = .ok (.istore_n 3, 1) := by decide +kernel
theorem dX9_signsOn_4 : decode cX9_signsOn 4 = .ok (.iload_n 3, 1) := by decide +kernel
theorem dX9_signsOn_5 : decode cX9_signsOn 5 = .ok (.aload_n 0, 1) := by decide +kernel
theorem dX9_signsOn_6 : decode cX9_signsOn 6 = .ok (.getfield 92, 3) := by decide +kernel
theorem dX9_signsOn_9 : decode cX9_signsOn 9 = .ok (.if_icmp .ge 27, 3) := by decide +kernel
theorem dX9_signsOn_12 : decode cX9_signsOn 12 = .ok (.iload_n 2, 1) := by decide +kernel
theorem dX9_signsOn_13 : decode cX9_signsOn 13 = .ok (.aload_n 0, 1) := by decide +kernel
theorem dX9_signsOn_14 : decode cX9_signsOn 14 = .ok (.getfield 22, 3) := by decide +kernel
theorem dX9_signsOn_17 : decode cX9_signsOn 17 = .ok (.iload_n 3, 1) := by decide +kernel
theorem dX9_signsOn_18 : decode cX9_signsOn 18 = .ok (.iaload, 1) := by decide +kernel
theorem dX9_signsOn_19 : decode cX9_signsOn 19 = .ok (.iload_n 1, 1) := by decide +kernel
theorem dX9_signsOn_20 : decode cX9_signsOn 20 = .ok (.if_icmp .ne 7, 3) := by decide +kernel
theorem dX9_signsOn_23 : decode cX9_signsOn 23 = .ok (.iconst 1, 1) := by decide +kernel
theorem dX9_signsOn_24 : decode cX9_signsOn 24 = .ok (.goto 4, 3) := by decide +kernel
theorem dX9_signsOn_27 : decode cX9_signsOn 27 = .ok (.iconst 0, 1) := by decide +kernel
theorem dX9_signsOn_28 : decode cX9_signsOn 28 = .ok (.iadd, 1) := by decide +kernel
theorem dX9_signsOn_29 : decode cX9_signsOn 29 = .ok (.istore_n 2, 1) := by decide +kernel
theorem dX9_signsOn_30 : decode cX9_signsOn 30 = .ok (.iinc 3 1, 3) := by decide +kernel
theorem dX9_signsOn_33 : decode cX9_signsOn 33 = .ok (.goto (-29), 3) := by decide +kernel
theorem dX9_signsOn_36 : decode cX9_signsOn 36 = .ok (.iload_n 2, 1) := by decide +kernel
theorem dX9_signsOn_37 : decode cX9_signsOn 37 = .ok (.ireturn, 1) := by decide +kernel
theorem dX9_nthOn_0 : decode cX9_nthOn 0 = .ok (.iload_n 2, 1) := by decide +kernel
theorem dX9_nthOn_1 : decode cX9_nthOn 1 = .ok (.istore_n 3, 1) := by decide +kernel
theorem dX9_nthOn_2 : decode cX9_nthOn 2 = .ok (.iconst 0, 1) := by decide +kernel
theorem dX9_nthOn_3 : decode cX9_nthOn 3 = .ok (.istore 4, 2) := by decide +kernel
theorem dX9_nthOn_5 : decode cX9_nthOn 5 = .ok (.aload_n 0, 1) := by decide +kernel
theorem dX9_nthOn_6 : decode cX9_nthOn 6 = .ok (.getfield 22, 3) := by decide +kernel
theorem dX9_nthOn_9 : decode cX9_nthOn 9 = .ok (.iload 4, 2) := by decide +kernel
theorem dX9_nthOn_11 : decode cX9_nthOn 11 = .ok (.iaload, 1) := by decide +kernel
theorem dX9_nthOn_12 : decode cX9_nthOn 12 = .ok (.iload_n 1, 1) := by decide +kernel
theorem dX9_nthOn_13 : decode cX9_nthOn 13 = .ok (.if_icmp .ne 7, 3) := by decide +kernel
theorem dX9_nthOn_16 : decode cX9_nthOn 16 = .ok (.iload_n 3, 1) := by decide +kernel
theorem dX9_nthOn_17 : decode cX9_nthOn 17 = .ok (.ifCond .le 28, 3) := by decide +kernel
theorem dX9_nthOn_20 : decode cX9_nthOn 20 = .ok (.iload_n 3, 1) := by decide +kernel
theorem dX9_nthOn_21 : decode cX9_nthOn 21 = .ok (.aload_n 0, 1) := by decide +kernel
theorem dX9_nthOn_22 : decode cX9_nthOn 22 = .ok (.getfield 22, 3) := by decide +kernel
theorem dX9_nthOn_25 : decode cX9_nthOn 25 = .ok (.iload 4, 2) := by decide +kernel
theorem dX9_nthOn_27 : decode cX9_nthOn 27 = .ok (.iaload, 1) := by decide +kernel
theorem dX9_nthOn_28 : decode cX9_nthOn 28 = .ok (.iload_n 1, 1) := by decide +kernel
theorem dX9_nthOn_29 : decode cX9_nthOn 29 = .ok (.if_icmp .ne 7, 3) := by decide +kernel
theorem dX9_nthOn_32 : decode cX9_nthOn 32 = .ok (.iconst 1, 1) := by decide +kernel
theorem dX9_nthOn_33 : decode cX9_nthOn 33 = .ok (.goto 4, 3) := by decide +kernel
theorem dX9_nthOn_36 : decode cX9_nthOn 36 = .ok (.iconst 0, 1) := by decide +kernel
theorem dX9_nthOn_37 : decode cX9_nthOn 37 = .ok (.isub, 1) := by decide +kernel
theorem dX9_nthOn_38 : decode cX9_nthOn 38 = .ok (.istore_n 3, 1) := by decide +kernel
theorem dX9_nthOn_39 : decode cX9_nthOn 39 = .ok (.iinc 4 1, 3) := by decide +kernel
theorem dX9_nthOn_42 : decode cX9_nthOn 42 = .ok (.goto (-37), 3) := by decide +kernel
theorem dX9_nthOn_45 : decode cX9_nthOn 45 = .ok (.iload 4, 2) := by decide +kernel
theorem dX9_nthOn_47 : decode cX9_nthOn 47 = .ok (.ireturn, 1) := by decide +kernel
theorem dX9_doStand_0 : decode cX9_doStand 0 = .ok (.aload_n 0, 1) := by decide +kernel
theorem dX9_doStand_1 : decode cX9_doStand 1 = .ok (.iload_n 1, 1) := by decide +kernel
theorem dX9_doStand_2 : decode cX9_doStand 2 = .ok (.invokevirtual 287, 3) := by decide +kernel
theorem dX9_doStand_5 : decode cX9_doStand 5 = .ok (.istore 4, 2) := by decide +kernel
theorem dX9_doStand_7 : decode cX9_doStand 7 = .ok (.iload_n 3, 1) := by decide +kernel
theorem dX9_doStand_8 : decode cX9_doStand 8 = .ok (.iload 4, 2) := by decide +kernel
theorem dX9_doStand_10 : decode cX9_doStand 10 = .ok (.iadd, 1) := by decide +kernel
theorem dX9_doStand_11 : decode cX9_doStand 11 = .ok (.aload_n 0, 1) := by decide +kernel
theorem dX9_doStand_12 : decode cX9_doStand 12 = .ok (.getfield 192, 3) := by decide +kernel
theorem dX9_doStand_15 : decode cX9_doStand 15 = .ok (.if_icmp .le 5, 3) := by decide +kernel
theorem dX9_doStand_18 : decode cX9_doStand 18 = .ok (.iconst 0, 1) := by decide +kernel
theorem dX9_doStand_19 : decode cX9_doStand 19 = .ok (.ireturn, 1) := by decide +kernel
theorem dX9_doStand_20 : decode cX9_doStand 20 = .ok (.iconst 0, 1) := by decide +kernel
theorem dX9_doStand_21 : decode cX9_doStand 21 = .ok (.istore 5, 2) := by decide +kernel
theorem dX9_doStand_23 : decode cX9_doStand 23 = .ok (.iload 5, 2) := by decide +kernel
theorem dX9_doStand_25 : decode cX9_doStand 25 = .ok (.iload 4, 2) := by decide +kernel
theorem dX9_doStand_27 : decode cX9_doStand 27 = .ok (.if_icmp .ge 44, 3) := by decide +kernel
theorem dX9_doStand_30 : decode cX9_doStand 30 = .ok (.aload_n 0, 1) := by decide +kernel
theorem dX9_doStand_31 : decode cX9_doStand 31 = .ok (.getfield 83, 3) := by decide +kernel
theorem dX9_doStand_34 : decode cX9_doStand 34 = .ok (.iload_n 3, 1) := by decide +kernel
theorem dX9_doStand_35 : decode cX9_doStand 35 = .ok (.iload 5, 2) := by decide +kernel
theorem dX9_doStand_37 : decode cX9_doStand 37 = .ok (.iadd, 1) := by decide +kernel
theorem dX9_doStand_38 : decode cX9_doStand 38 = .ok (.iaload, 1) := by decide +kernel
theorem dX9_doStand_39 : decode cX9_doStand 39 = .ok (.aload_n 0, 1) := by decide +kernel
theorem dX9_doStand_40 : decode cX9_doStand 40 = .ok (.iload_n 1, 1) := by decide +kernel
theorem dX9_doStand_41 : decode cX9_doStand 41 = .ok (.iload_n 2, 1) := by decide +kernel
theorem dX9_doStand_42 : decode cX9_doStand 42 = .ok (.ifCond .eq 8, 3) := by decide +kernel
theorem dX9_doStand_45 : decode cX9_doStand 45 = .ok (.iload 5, 2) := by decide +kernel
theorem dX9_doStand_47 : decode cX9_doStand 47 = .ok (.goto 10, 3) := by decide +kernel
theorem dX9_doStand_50 : decode cX9_doStand 50 = .ok (.iload 4, 2) := by decide +kernel
theorem dX9_doStand_52 : decode cX9_doStand 52 = .ok (.iconst 1, 1) := by decide +kernel
theorem dX9_doStand_53 : decode cX9_doStand 53 = .ok (.isub, 1) := by decide +kernel
theorem dX9_doStand_54 : decode cX9_doStand 54 = .ok (.iload 5, 2) := by decide +kernel
theorem dX9_doStand_56 : decode cX9_doStand 56 = .ok (.isub, 1) := by decide +kernel
theorem dX9_doStand_57 : decode cX9_doStand 57 = .ok (.invokevirtual 290, 3) := by decide +kernel
theorem dX9_doStand_60 : decode cX9_doStand 60 = .ok (.if_icmp .eq 5, 3) := by decide +kernel
theorem dX9_doStand_63 : decode cX9_doStand 63 = .ok (.iconst 0, 1) := by decide +kernel
theorem dX9_doStand_64 : decode cX9_doStand 64 = .ok (.ireturn, 1) := by decide +kernel
theorem dX9_doStand_65 : decode cX9_doStand 65 = .ok (.iinc 5 1, 3) := by decide +kernel
theorem dX9_doStand_68 : decode cX9_doStand 68 = .ok (.goto (-45), 3) := by decide +kernel
theorem dX9_doStand_71 : decode cX9_doStand 71 = .ok (.iconst 1, 1) := by decide +kernel
theorem dX9_doStand_72 : decode cX9_doStand 72 = .ok (.ireturn, 1) := by decide +kernel
theorem dX9_walksBy_0 : decode cX9_walksBy 0 = .ok (.aload_n 0, 1) := by decide +kernel
theorem dX9_walksBy_1 : decode cX9_walksBy 1 = .ok (.iload_n 2, 1) := by decide +kernel
theorem dX9_walksBy_2 : decode cX9_walksBy 2 = .ok (.invokevirtual 287, 3) := by decide +kernel
theorem dX9_walksBy_5 : decode cX9_walksBy 5 = .ok (.istore 4, 2) := by decide +kernel
theorem dX9_walksBy_7 : decode cX9_walksBy 7 = .ok (.iload 4, 2) := by decide +kernel
theorem dX9_walksBy_9 : decode cX9_walksBy 9 = .ok (.ifCond .eq 13, 3) := by decide +kernel
theorem dX9_walksBy_12 : decode cX9_walksBy 12 = .ok (.aload_n 0, 1) := by decide +kernel
theorem dX9_walksBy_13 : decode cX9_walksBy 13 = .ok (.iload_n 2, 1) := by decide +kernel
theorem dX9_walksBy_14 : decode cX9_walksBy 14 = .ok (.iload_n 3, 1) := by decide +kernel
theorem dX9_walksBy_15 : decode cX9_walksBy 15 = .ok (.iload_n 1, 1) := by decide +kernel
theorem dX9_walksBy_16 : decode cX9_walksBy 16 = .ok (.invokevirtual 293, 3) := by decide +kernel
theorem dX9_walksBy_19 : decode cX9_walksBy 19 = .ok (.ifCond .ne 4, 3) := by decide +kernel
theorem dX9_walksBy_22 : decode cX9_walksBy 22 = .ok (.return_, 1) := by decide +kernel
theorem dX9_walksBy_23 : decode cX9_walksBy 23 = .ok (.iload_n 3, 1) := by decide +kernel
theorem dX9_walksBy_24 : decode cX9_walksBy 24 = .ok (.ifCond .eq 12, 3) := by decide +kernel
theorem dX9_walksBy_27 : decode cX9_walksBy 27 = .ok (.aload_n 0, 1) := by decide +kernel
theorem dX9_walksBy_28 : decode cX9_walksBy 28 = .ok (.getfield 13, 3) := by decide +kernel
theorem dX9_walksBy_31 : decode cX9_walksBy 31 = .ok (.iload_n 2, 1) := by decide +kernel
theorem dX9_walksBy_32 : decode cX9_walksBy 32 = .ok (.iaload, 1) := by decide +kernel
theorem dX9_walksBy_33 : decode cX9_walksBy 33 = .ok (.goto 9, 3) := by decide +kernel
theorem dX9_walksBy_36 : decode cX9_walksBy 36 = .ok (.aload_n 0, 1) := by decide +kernel
theorem dX9_walksBy_37 : decode cX9_walksBy 37 = .ok (.getfield 16, 3) := by decide +kernel
theorem dX9_walksBy_40 : decode cX9_walksBy 40 = .ok (.iload_n 2, 1) := by decide +kernel
theorem dX9_walksBy_41 : decode cX9_walksBy 41 = .ok (.iaload, 1) := by decide +kernel
theorem dX9_walksBy_42 : decode cX9_walksBy 42 = .ok (.istore 5, 2) := by decide +kernel
theorem dX9_walksBy_44 : decode cX9_walksBy 44 = .ok (.iload_n 3, 1) := by decide +kernel
theorem dX9_walksBy_45 : decode cX9_walksBy 45 = .ok (.ifCond .eq 12, 3) := by decide +kernel
theorem dX9_walksBy_48 : decode cX9_walksBy 48 = .ok (.aload_n 0, 1) := by decide +kernel
theorem dX9_walksBy_49 : decode cX9_walksBy 49 = .ok (.getfield 16, 3) := by decide +kernel
theorem dX9_walksBy_52 : decode cX9_walksBy 52 = .ok (.iload_n 2, 1) := by decide +kernel
theorem dX9_walksBy_53 : decode cX9_walksBy 53 = .ok (.iaload, 1) := by decide +kernel
theorem dX9_walksBy_54 : decode cX9_walksBy 54 = .ok (.goto 9, 3) := by decide +kernel
theorem dX9_walksBy_57 : decode cX9_walksBy 57 = .ok (.aload_n 0, 1) := by decide +kernel
theorem dX9_walksBy_58 : decode cX9_walksBy 58 = .ok (.getfield 13, 3) := by decide +kernel
theorem dX9_walksBy_61 : decode cX9_walksBy 61 = .ok (.iload_n 2, 1) := by decide +kernel
theorem dX9_walksBy_62 : decode cX9_walksBy 62 = .ok (.iaload, 1) := by decide +kernel
theorem dX9_walksBy_63 : decode cX9_walksBy 63 = .ok (.istore 6, 2) := by decide +kernel
theorem dX9_walksBy_65 : decode cX9_walksBy 65 = .ok (.aload_n 0, 1) := by decide +kernel
theorem dX9_walksBy_66 : decode cX9_walksBy 66 = .ok (.getfield 86, 3) := by decide +kernel
theorem dX9_walksBy_69 : decode cX9_walksBy 69 = .ok (.bipush 6, 2) := by decide +kernel
theorem dX9_walksBy_71 : decode cX9_walksBy 71 = .ok (.iload_n 1, 1) := by decide +kernel
theorem dX9_walksBy_72 : decode cX9_walksBy 72 = .ok (.iload 4, 2) := by decide +kernel
theorem dX9_walksBy_74 : decode cX9_walksBy 74 = .ok (.iadd, 1) := by decide +kernel
theorem dX9_walksBy_75 : decode cX9_walksBy 75 = .ok (.imul, 1) := by decide +kernel
theorem dX9_walksBy_76 : decode cX9_walksBy 76 = .ok (.iload 6, 2) := by decide +kernel
theorem dX9_walksBy_78 : decode cX9_walksBy 78 = .ok (.iadd, 1) := by decide +kernel
theorem dX9_walksBy_79 : decode cX9_walksBy 79 = .ok (.dup2, 1) := by decide +kernel
theorem dX9_walksBy_80 : decode cX9_walksBy 80 = .ok (.iaload, 1) := by decide +kernel
theorem dX9_walksBy_81 : decode cX9_walksBy 81 = .ok (.aload_n 0, 1) := by decide +kernel
theorem dX9_walksBy_82 : decode cX9_walksBy 82 = .ok (.getfield 86, 3) := by decide +kernel
theorem dX9_walksBy_85 : decode cX9_walksBy 85 = .ok (.bipush 6, 2) := by decide +kernel
theorem dX9_walksBy_87 : decode cX9_walksBy 87 = .ok (.iload_n 1, 1) := by decide +kernel
theorem dX9_walksBy_88 : decode cX9_walksBy 88 = .ok (.imul, 1) := by decide +kernel
theorem dX9_walksBy_89 : decode cX9_walksBy 89 = .ok (.iload 5, 2) := by decide +kernel
theorem dX9_walksBy_91 : decode cX9_walksBy 91 = .ok (.iadd, 1) := by decide +kernel
theorem dX9_walksBy_92 : decode cX9_walksBy 92 = .ok (.iaload, 1) := by decide +kernel
theorem dX9_walksBy_93 : decode cX9_walksBy 93 = .ok (.iadd, 1) := by decide +kernel
theorem dX9_walksBy_94 : decode cX9_walksBy 94 = .ok (.iastore, 1) := by decide +kernel
theorem dX9_walksBy_95 : decode cX9_walksBy 95 = .ok (.return_, 1) := by decide +kernel
theorem dX9_book_0 : decode cX9_book 0 = .ok (.iload_n 1, 1) := by decide +kernel
theorem dX9_book_1 : decode cX9_book 1 = .ok (.iconst 0, 1) := by decide +kernel
theorem dX9_book_2 : decode cX9_book 2 = .ok (.iconst 1, 1) := by decide +kernel
theorem dX9_book_3 : decode cX9_book 3 = .ok (.invokestatic 113, 3) := by decide +kernel
theorem dX9_book_6 : decode cX9_book 6 = .ok (.ifCond .ne 10, 3) := by decide +kernel
theorem dX9_book_9 : decode cX9_book 9 = .ok (.aload_n 0, 1) := by decide +kernel
theorem dX9_book_10 : decode cX9_book 10 = .ok (.bipush (-2), 2) := by decide +kernel
theorem dX9_book_12 : decode cX9_book 12 = .ok (.invokevirtual 102, 3) := by decide +kernel
theorem dX9_book_15 : decode cX9_book 15 = .ok (.ireturn, 1) := by decide +kernel
theorem dX9_book_16 : decode cX9_book 16 = .ok (.aload_n 0, 1) := by decide +kernel
theorem dX9_book_17 : decode cX9_book 17 = .ok (.getfield 192, 3) := by decide +kernel
theorem dX9_book_20 : decode cX9_book 20 = .ok (.ifCond .ne 10, 3) := by decide +kernel
theorem dX9_book_23 : decode cX9_book 23 = .ok (.aload_n 0, 1) := by decide +kernel
theorem dX9_book_24 : decode cX9_book 24 = .ok (.bipush (-3), 2) := by decide +kernel
theorem dX9_book_26 : decode cX9_book 26 = .ok (.invokevirtual 102, 3) := by decide +kernel
theorem dX9_book_29 : decode cX9_book 29 = .ok (.ireturn, 1) := by decide +kernel
theorem dX9_book_30 : decode cX9_book 30 = .ok (.iconst 0, 1) := by decide +kernel
theorem dX9_book_31 : decode cX9_book 31 = .ok (.istore_n 2, 1) := by decide +kernel
theorem dX9_book_32 : decode cX9_book 32 = .ok (.iload_n 2, 1) := by decide +kernel
theorem dX9_book_33 : decode cX9_book 33 = .ok (.bipush 66, 2) := by decide +kernel
theorem dX9_book_35 : decode cX9_book 35 = .ok (.if_icmp .ge 28, 3) := by decide +kernel
theorem dX9_book_38 : decode cX9_book 38 = .ok (.aload_n 0, 1) := by decide +kernel
theorem dX9_book_39 : decode cX9_book 39 = .ok (.getfield 86, 3) := by decide +kernel
theorem dX9_book_42 : decode cX9_book 42 = .ok (.iload_n 2, 1) := by decide +kernel
theorem dX9_book_43 : decode cX9_book 43 = .ok (.iload_n 2, 1) := by decide +kernel
theorem dX9_book_44 : decode cX9_book 44 = .ok (.aload_n 0, 1) := by decide +kernel
theorem dX9_book_45 : decode cX9_book 45 = .ok (.getfield 34, 3) := by decide +kernel
theorem dX9_book_48 : decode cX9_book 48 = .ok (.if_icmp .ge 7, 3) := by decide +kernel
theorem dX9_book_51 : decode cX9_book 51 = .ok (.iconst 1, 1) := by decide +kernel
theorem dX9_book_52 : decode cX9_book 52 = .ok (.goto 4, 3) := by decide +kernel
theorem dX9_book_55 : decode cX9_book 55 = .ok (.iconst 0, 1) := by decide +kernel
theorem dX9_book_56 : decode cX9_book 56 = .ok (.iastore, 1) := by decide +kernel
theorem dX9_book_57 : decode cX9_book 57 = .ok (.iinc 2 1, 3) := by decide +kernel
theorem dX9_book_60 : decode cX9_book 60 = .ok (.goto (-28), 3) := by decide +kernel
theorem dX9_book_63 : decode cX9_book 63 = .ok (.iconst 0, 1) := by decide +kernel
theorem dX9_book_64 : decode cX9_book 64 = .ok (.istore_n 2, 1) := by decide +kernel
theorem dX9_book_65 : decode cX9_book 65 = .ok (.iload_n 2, 1) := by decide +kernel
theorem dX9_book_66 : decode cX9_book 66 = .ok (.aload_n 0, 1) := by decide +kernel
theorem dX9_book_67 : decode cX9_book 67 = .ok (.getfield 192, 3) := by decide +kernel
theorem dX9_book_70 : decode cX9_book 70 = .ok (.if_icmp .ge 39, 3) := by decide +kernel
theorem dX9_book_73 : decode cX9_book 73 = .ok (.iconst 0, 1) := by decide +kernel
theorem dX9_book_74 : decode cX9_book 74 = .ok (.istore_n 3, 1) := by decide +kernel
theorem dX9_book_75 : decode cX9_book 75 = .ok (.iload_n 3, 1) := by decide +kernel
theorem dX9_book_76 : decode cX9_book 76 = .ok (.aload_n 0, 1) := by decide +kernel
theorem dX9_book_77 : decode cX9_book 77 = .ok (.getfield 137, 3) := by decide +kernel
theorem dX9_book_80 : decode cX9_book 80 = .ok (.if_icmp .ge 23, 3) := by decide +kernel
theorem dX9_book_83 : decode cX9_book 83 = .ok (.aload_n 0, 1) := by decide +kernel
theorem dX9_book_84 : decode cX9_book 84 = .ok (.iload_n 2, 1) := by decide +kernel
theorem dX9_book_85 : decode cX9_book 85 = .ok (.iload_n 3, 1) := by decide +kernel
theorem dX9_book_86 : decode cX9_book 86 = .ok (.iconst 1, 1) := by decide +kernel
theorem dX9_book_87 : decode cX9_book 87 = .ok (.invokevirtual 297, 3) := by decide +kernel
theorem dX9_book_90 : decode cX9_book 90 = .ok (.aload_n 0, 1) := by decide +kernel
theorem dX9_book_91 : decode cX9_book 91 = .ok (.iload_n 2, 1) := by decide +kernel
theorem dX9_book_92 : decode cX9_book 92 = .ok (.iload_n 3, 1) := by decide +kernel
theorem dX9_book_93 : decode cX9_book 93 = .ok (.iconst 0, 1) := by decide +kernel
theorem dX9_book_94 : decode cX9_book 94 = .ok (.invokevirtual 297, 3) := by decide +kernel
theorem dX9_book_97 : decode cX9_book 97 = .ok (.iinc 3 1, 3) := by decide +kernel
theorem dX9_book_100 : decode cX9_book 100 = .ok (.goto (-25), 3) := by decide +kernel
theorem dX9_book_103 : decode cX9_book 103 = .ok (.iinc 2 1, 3) := by decide +kernel
theorem dX9_book_106 : decode cX9_book 106 = .ok (.goto (-41), 3) := by decide +kernel
theorem dX9_book_109 : decode cX9_book 109 = .ok (.iconst 0, 1) := by decide +kernel
theorem dX9_book_110 : decode cX9_book 110 = .ok (.istore_n 2, 1) := by decide +kernel
theorem dX9_book_111 : decode cX9_book 111 = .ok (.iconst 0, 1) := by decide +kernel
theorem dX9_book_112 : decode cX9_book 112 = .ok (.istore_n 3, 1) := by decide +kernel
theorem dX9_book_113 : decode cX9_book 113 = .ok (.iconst 0, 1) := by decide +kernel
theorem dX9_book_114 : decode cX9_book 114 = .ok (.istore 4, 2) := by decide +kernel
theorem dX9_book_116 : decode cX9_book 116 = .ok (.iload 4, 2) := by decide +kernel
theorem dX9_book_118 : decode cX9_book 118 = .ok (.aload_n 0, 1) := by decide +kernel
theorem dX9_book_119 : decode cX9_book 119 = .ok (.getfield 34, 3) := by decide +kernel
theorem dX9_book_122 : decode cX9_book 122 = .ok (.if_icmp .ge 47, 3) := by decide +kernel
theorem dX9_book_125 : decode cX9_book 125 = .ok (.aload_n 0, 1) := by decide +kernel
theorem dX9_book_126 : decode cX9_book 126 = .ok (.getfield 86, 3) := by decide +kernel
theorem dX9_book_129 : decode cX9_book 129 = .ok (.bipush 6, 2) := by decide +kernel
theorem dX9_book_131 : decode cX9_book 131 = .ok (.aload_n 0, 1) := by decide +kernel
theorem dX9_book_132 : decode cX9_book 132 = .ok (.getfield 192, 3) := by decide +kernel
theorem dX9_book_135 : decode cX9_book 135 = .ok (.imul, 1) := by decide +kernel
theorem dX9_book_136 : decode cX9_book 136 = .ok (.iload 4, 2) := by decide +kernel
theorem dX9_book_138 : decode cX9_book 138 = .ok (.iadd, 1) := by decide +kernel
theorem dX9_book_139 : decode cX9_book 139 = .ok (.iaload, 1) := by decide +kernel
theorem dX9_book_140 : decode cX9_book 140 = .ok (.istore 5, 2) := by decide +kernel
theorem dX9_book_142 : decode cX9_book 142 = .ok (.iload_n 2, 1) := by decide +kernel
theorem dX9_book_143 : decode cX9_book 143 = .ok (.iload 5, 2) := by decide +kernel
theorem dX9_book_145 : decode cX9_book 145 = .ok (.iadd, 1) := by decide +kernel
theorem dX9_book_146 : decode cX9_book 146 = .ok (.istore_n 2, 1) := by decide +kernel
theorem dX9_book_147 : decode cX9_book 147 = .ok (.iload_n 3, 1) := by decide +kernel
theorem dX9_book_148 : decode cX9_book 148 = .ok (.iload 5, 2) := by decide +kernel
theorem dX9_book_150 : decode cX9_book 150 = .ok (.ifCond .le 10, 3) := by decide +kernel
theorem dX9_book_153 : decode cX9_book 153 = .ok (.iconst 1, 1) := by decide +kernel
theorem dX9_book_154 : decode cX9_book 154 = .ok (.iload 4, 2) := by decide +kernel
theorem dX9_book_156 : decode cX9_book 156 = .ok (.ishl, 1) := by decide +kernel
theorem dX9_book_157 : decode cX9_book 157 = .ok (.goto 4, 3) := by decide +kernel
theorem dX9_book_160 : decode cX9_book 160 = .ok (.iconst 0, 1) := by decide +kernel
theorem dX9_book_161 : decode cX9_book 161 = .ok (.ior, 1) := by decide +kernel
theorem dX9_book_162 : decode cX9_book 162 = .ok (.istore_n 3, 1) := by decide +kernel
theorem dX9_book_163 : decode cX9_book 163 = .ok (.iinc 4 1, 3) := by decide +kernel
theorem dX9_book_166 : decode cX9_book 166 = .ok (.goto (-50), 3) := by decide +kernel
theorem dX9_book_169 : decode cX9_book 169 = .ok (.aload_n 0, 1) := by decide +kernel
theorem dX9_book_170 : decode cX9_book 170 = .ok (.iconst 0, 1) := by decide +kernel
theorem dX9_book_171 : decode cX9_book 171 = .ok (.putfield 192, 3) := by decide +kernel
theorem dX9_book_174 : decode cX9_book 174 = .ok (.iload_n 1, 1) := by decide +kernel
theorem dX9_book_175 : decode cX9_book 175 = .ok (.ifCond .ne 7, 3) := by decide +kernel
theorem dX9_book_178 : decode cX9_book 178 = .ok (.iload_n 2, 1) := by decide +kernel
theorem dX9_book_179 : decode cX9_book 179 = .ok (.goto 4, 3) := by decide +kernel
theorem dX9_book_182 : decode cX9_book 182 = .ok (.iload_n 3, 1) := by decide +kernel
theorem dX9_book_183 : decode cX9_book 183 = .ok (.ireturn, 1) := by decide +kernel
theorem dX9_next_0 : decode cX9_next 0 = .ok (.aload_n 0, 1) := by decide +kernel
theorem dX9_next_1 : decode cX9_next 1 = .ok (.iconst 0, 1) := by decide +kernel
theorem dX9_next_2 : decode cX9_next 2 = .ok (.invokevirtual 232, 3) := by decide +kernel
theorem dX9_next_5 : decode cX9_next 5 = .ok (.aload_n 0, 1) := by decide +kernel
theorem dX9_next_6 : decode cX9_next 6 = .ok (.invokevirtual 251, 3) := by decide +kernel
theorem dX9_next_9 : decode cX9_next 9 = .ok (.istore_n 1, 1) := by decide +kernel
theorem dX9_next_10 : decode cX9_next 10 = .ok (.bipush (-9), 2) := by decide +kernel
theorem dX9_next_12 : decode cX9_next 12 = .ok (.istore_n 2, 1) := by decide +kernel
theorem dX9_next_13 : decode cX9_next 13 = .ok (.iconst 0, 1) := by decide +kernel
theorem dX9_next_14 : decode cX9_next 14 = .ok (.istore_n 3, 1) := by decide +kernel
theorem dX9_next_15 : decode cX9_next 15 = .ok (.iconst 0, 1) := by decide +kernel
theorem dX9_next_16 : decode cX9_next 16 = .ok (.istore 4, 2) := by decide +kernel
theorem dX9_next_18 : decode cX9_next 18 = .ok (.iload 4, 2) := by decide +kernel
theorem dX9_next_20 : decode cX9_next 20 = .ok (.aload_n 0, 1) := by decide +kernel
theorem dX9_next_21 : decode cX9_next 21 = .ok (.getfield 34, 3) := by decide +kernel
theorem dX9_next_24 : decode cX9_next 24 = .ok (.if_icmp .ge 129, 3) := by decide +kernel
theorem dX9_next_27 : decode cX9_next 27 = .ok (.iconst 0, 1) := by decide +kernel
theorem dX9_next_28 : decode cX9_next 28 = .ok (.istore 5, 2) := by decide +kernel
theorem dX9_next_30 : decode cX9_next 30 = .ok (.iload 5, 2) := by decide +kernel
theorem dX9_next_32 : decode cX9_next 32 = .ok (.aload_n 0, 1) := by decide +kernel
theorem dX9_next_33 : decode cX9_next 33 = .ok (.getfield 89, 3) := by decide +kernel
theorem dX9_next_36 : decode cX9_next 36 = .ok (.if_icmp .ge 111, 3) := by decide +kernel
theorem dX9_next_39 : decode cX9_next 39 = .ok (.aload_n 0, 1) := by decide +kernel
theorem dX9_next_40 : decode cX9_next 40 = .ok (.getfield 31, 3) := by decide +kernel
theorem dX9_next_43 : decode cX9_next 43 = .ok (.iload 4, 2) := by decide +kernel
theorem dX9_next_45 : decode cX9_next 45 = .ok (.iaload, 1) := by decide +kernel
theorem dX9_next_46 : decode cX9_next 46 = .ok (.iload_n 1, 1) := by decide +kernel
theorem dX9_next_47 : decode cX9_next 47 = .ok (.iand, 1) := by decide +kernel
theorem dX9_next_48 : decode cX9_next 48 = .ok (.iload 5, 2) := by decide +kernel
theorem dX9_next_50 : decode cX9_next 50 = .ok (.ishr, 1) := by decide +kernel
theorem dX9_next_51 : decode cX9_next 51 = .ok (.iconst 1, 1) := by decide +kernel
theorem dX9_next_52 : decode cX9_next 52 = .ok (.iand, 1) := by decide +kernel
theorem dX9_next_53 : decode cX9_next 53 = .ok (.ifCond .ne 6, 3) := by decide +kernel
theorem dX9_next_56 : decode cX9_next 56 = .ok (.goto 85, 3) := by decide +kernel
theorem dX9_next_59 : decode cX9_next 59 = .ok (.iconst 0, 1) := by decide +kernel
theorem dX9_next_60 : decode cX9_next 60 = .ok (.istore 6, 2) := by decide +kernel
theorem dX9_next_62 : decode cX9_next 62 = .ok (.iconst 0, 1) := by decide +kernel
theorem dX9_next_63 : decode cX9_next 63 = .ok (.istore 7, 2) := by decide +kernel
theorem dX9_next_65 : decode cX9_next 65 = .ok (.iload 7, 2) := by decide +kernel
theorem dX9_next_67 : decode cX9_next 67 = .ok (.aload_n 0, 1) := by decide +kernel
theorem dX9_next_68 : decode cX9_next 68 = .ok (.getfield 223, 3) := by decide +kernel
theorem dX9_next_71 : decode cX9_next 71 = .ok (.if_icmp .ge 26, 3) := by decide +kernel
theorem dX9_next_74 : decode cX9_next 74 = .ok (.iload 6, 2) := by decide +kernel
theorem dX9_next_76 : decode cX9_next 76 = .ok (.aload_n 0, 1) := by decide +kernel
theorem dX9_next_77 : decode cX9_next 77 = .ok (.getfield 71, 3) := by decide +kernel
theorem dX9_next_80 : decode cX9_next 80 = .ok (.iload 7, 2) := by decide +kernel
theorem dX9_next_82 : decode cX9_next 82 = .ok (.iaload, 1) := by decide +kernel
theorem dX9_next_83 : decode cX9_next 83 = .ok (.iload 5, 2) := by decide +kernel
theorem dX9_next_85 : decode cX9_next 85 = .ok (.ishr, 1) := by decide +kernel
theorem dX9_next_86 : decode cX9_next 86 = .ok (.iconst 1, 1) := by decide +kernel
theorem dX9_next_87 : decode cX9_next 87 = .ok (.iand, 1) := by decide +kernel
theorem dX9_next_88 : decode cX9_next 88 = .ok (.iadd, 1) := by decide +kernel
theorem dX9_next_89 : decode cX9_next 89 = .ok (.istore 6, 2) := by decide +kernel
theorem dX9_next_91 : decode cX9_next 91 = .ok (.iinc 7 1, 3) := by decide +kernel
theorem dX9_next_94 : decode cX9_next 94 = .ok (.goto (-29), 3) := by decide +kernel
theorem dX9_next_97 : decode cX9_next 97 = .ok (.iconst 2, 1) := by decide +kernel
theorem dX9_next_98 : decode cX9_next 98 = .ok (.iload 6, 2) := by decide +kernel
theorem dX9_next_100 : decode cX9_next 100 = .ok (.imul, 1) := by decide +kernel
theorem dX9_next_101 : decode cX9_next 101 = .ok (.aload_n 0, 1) := by decide +kernel
theorem dX9_next_102 : decode cX9_next 102 = .ok (.getfield 223, 3) := by decide +kernel
theorem dX9_next_105 : decode cX9_next 105 = .ok (.if_icmp .le 8, 3) := by decide +kernel
theorem dX9_next_108 : decode cX9_next 108 = .ok (.iload 6, 2) := by decide +kernel
theorem dX9_next_110 : decode cX9_next 110 = .ok (.goto 10, 3) := by decide +kernel
theorem dX9_next_113 : decode cX9_next 113 = .ok (.aload_n 0, 1) := by decide +kernel
theorem dX9_next_114 : decode cX9_next 114 = .ok (.getfield 223, 3) := by decide +kernel
theorem dX9_next_117 : decode cX9_next 117 = .ok (.iload 6, 2) := by decide +kernel
theorem dX9_next_119 : decode cX9_next 119 = .ok (.isub, 1) := by decide +kernel
theorem dX9_next_120 : decode cX9_next 120 = .ok (.istore 7, 2) := by decide +kernel
theorem dX9_next_122 : decode cX9_next 122 = .ok (.iload_n 2, 1) := by decide +kernel
theorem dX9_next_123 : decode cX9_next 123 = .ok (.ifCond .lt 12, 3) := by decide +kernel
theorem dX9_next_126 : decode cX9_next 126 = .ok (.iload 7, 2) := by decide +kernel
theorem dX9_next_128 : decode cX9_next 128 = .ok (.iload_n 3, 1) := by decide +kernel
theorem dX9_next_129 : decode cX9_next 129 = .ok (.if_icmp .lt 6, 3) := by decide +kernel
theorem dX9_next_132 : decode cX9_next 132 = .ok (.goto 9, 3) := by decide +kernel
theorem dX9_next_135 : decode cX9_next 135 = .ok (.iload 4, 2) := by decide +kernel
theorem dX9_next_137 : decode cX9_next 137 = .ok (.istore_n 2, 1) := by decide +kernel
theorem dX9_next_138 : decode cX9_next 138 = .ok (.iload 7, 2) := by decide +kernel
theorem dX9_next_140 : decode cX9_next 140 = .ok (.istore_n 3, 1) := by decide +kernel
theorem dX9_next_141 : decode cX9_next 141 = .ok (.iinc 5 1, 3) := by decide +kernel
theorem dX9_next_144 : decode cX9_next 144 = .ok (.goto (-114), 3) := by decide +kernel
theorem dX9_next_147 : decode cX9_next 147 = .ok (.iinc 4 1, 3) := by decide +kernel
theorem dX9_next_150 : decode cX9_next 150 = .ok (.goto (-132), 3) := by decide +kernel
theorem dX9_next_153 : decode cX9_next 153 = .ok (.iload_n 2, 1) := by decide +kernel
theorem dX9_next_154 : decode cX9_next 154 = .ok (.ireturn, 1) := by decide +kernel
theorem dX9_lands_0 : decode cX9_lands 0 = .ok (.iload_n 1, 1) := by decide +kernel
theorem dX9_lands_1 : decode cX9_lands 1 = .ok (.iconst 1, 1) := by decide +kernel
theorem dX9_lands_2 : decode cX9_lands 2 = .ok (.bipush 30, 2) := by decide +kernel
theorem dX9_lands_4 : decode cX9_lands 4 = .ok (.invokestatic 95, 3) := by decide +kernel
theorem dX9_lands_7 : decode cX9_lands 7 = .ok (.istore 4, 2) := by decide +kernel
theorem dX9_lands_9 : decode cX9_lands 9 = .ok (.iload 4, 2) := by decide +kernel
theorem dX9_lands_11 : decode cX9_lands 11 = .ok (.ifCond .ne 16, 3) := by decide +kernel
theorem dX9_lands_14 : decode cX9_lands 14 = .ok (.iload_n 3, 1) := by decide +kernel
theorem dX9_lands_15 : decode cX9_lands 15 = .ok (.iconst 0, 1) := by decide +kernel
theorem dX9_lands_16 : decode cX9_lands 16 = .ok (.iconst 1, 1) := by decide +kernel
theorem dX9_lands_17 : decode cX9_lands 17 = .ok (.invokestatic 113, 3) := by decide +kernel
theorem dX9_lands_20 : decode cX9_lands 20 = .ok (.ifCond .ne 7, 3) := by decide +kernel
theorem dX9_lands_23 : decode cX9_lands 23 = .ok (.bipush (-2), 2) := by decide +kernel
theorem dX9_lands_25 : decode cX9_lands 25 = .ok (.istore 4, 2) := by decide +kernel
theorem dX9_lands_27 : decode cX9_lands 27 = .ok (.iload 4, 2) := by decide +kernel
theorem dX9_lands_29 : decode cX9_lands 29 = .ok (.ifCond .eq 10, 3) := by decide +kernel
theorem dX9_lands_32 : decode cX9_lands 32 = .ok (.aload_n 0, 1) := by decide +kernel
theorem dX9_lands_33 : decode cX9_lands 33 = .ok (.iload 4, 2) := by decide +kernel
theorem dX9_lands_35 : decode cX9_lands 35 = .ok (.invokevirtual 102, 3) := by decide +kernel
theorem dX9_lands_38 : decode cX9_lands 38 = .ok (.ireturn, 1) := by decide +kernel
theorem dX9_lands_39 : decode cX9_lands 39 = .ok (.iload_n 2, 1) := by decide +kernel
theorem dX9_lands_40 : decode cX9_lands 40 = .ok (.istore 5, 2) := by decide +kernel
theorem dX9_lands_42 : decode cX9_lands 42 = .ok (.iconst 0, 1) := by decide +kernel
theorem dX9_lands_43 : decode cX9_lands 43 = .ok (.istore 6, 2) := by decide +kernel
theorem dX9_lands_45 : decode cX9_lands 45 = .ok (.iconst 0, 1) := by decide +kernel
theorem dX9_lands_46 : decode cX9_lands 46 = .ok (.istore 7, 2) := by decide +kernel
theorem dX9_lands_48 : decode cX9_lands 48 = .ok (.iload 7, 2) := by decide +kernel
theorem dX9_lands_50 : decode cX9_lands 50 = .ok (.iload_n 1, 1) := by decide +kernel
theorem dX9_lands_51 : decode cX9_lands 51 = .ok (.if_icmp .ge 81, 3) := by decide +kernel
theorem dX9_lands_54 : decode cX9_lands 54 = .ok (.iload 5, 2) := by decide +kernel
theorem dX9_lands_56 : decode cX9_lands 56 = .ok (.ldc_w 301, 3) := by decide +kernel
theorem dX9_lands_59 : decode cX9_lands 59 = .ok (.imul, 1) := by decide +kernel
theorem dX9_lands_60 : decode cX9_lands 60 = .ok (.ldc_w 302, 3) := by decide +kernel
theorem dX9_lands_63 : decode cX9_lands 63 = .ok (.iadd, 1) := by decide +kernel
theorem dX9_lands_64 : decode cX9_lands 64 = .ok (.istore 5, 2) := by decide +kernel
theorem dX9_lands_66 : decode cX9_lands 66 = .ok (.iload 5, 2) := by decide +kernel
theorem dX9_lands_68 : decode cX9_lands 68 = .ok (.ldc_w 303, 3) := by decide +kernel
theorem dX9_lands_71 : decode cX9_lands 71 = .ok (.iand, 1) := by decide +kernel
theorem dX9_lands_72 : decode cX9_lands 72 = .ok (.sipush 256, 3) := by decide +kernel
theorem dX9_lands_75 : decode cX9_lands 75 = .ok (.idiv, 1) := by decide +kernel
theorem dX9_lands_76 : decode cX9_lands 76 = .ok (.sipush 1024, 3) := by decide +kernel
theorem dX9_lands_79 : decode cX9_lands 79 = .ok (.irem, 1) := by decide +kernel
theorem dX9_lands_80 : decode cX9_lands 80 = .ok (.aload_n 0, 1) := by decide +kernel
theorem dX9_lands_81 : decode cX9_lands 81 = .ok (.invokevirtual 195, 3) := by decide +kernel
theorem dX9_lands_84 : decode cX9_lands 84 = .ok (.aload_n 0, 1) := by decide +kernel
theorem dX9_lands_85 : decode cX9_lands 85 = .ok (.invokevirtual 198, 3) := by decide +kernel
theorem dX9_lands_88 : decode cX9_lands 88 = .ok (.iconst 4, 1) := by decide +kernel
theorem dX9_lands_89 : decode cX9_lands 89 = .ok (.ishl, 1) := by decide +kernel
theorem dX9_lands_90 : decode cX9_lands 90 = .ok (.ior, 1) := by decide +kernel
theorem dX9_lands_91 : decode cX9_lands 91 = .ok (.iand, 1) := by decide +kernel
theorem dX9_lands_92 : decode cX9_lands 92 = .ok (.istore 8, 2) := by decide +kernel
theorem dX9_lands_94 : decode cX9_lands 94 = .ok (.iload 6, 2) := by decide +kernel
theorem dX9_lands_96 : decode cX9_lands 96 = .ok (.aload_n 0, 1) := by decide +kernel
theorem dX9_lands_97 : decode cX9_lands 97 = .ok (.iload 8, 2) := by decide +kernel
theorem dX9_lands_99 : decode cX9_lands 99 = .ok (.invokevirtual 214, 3) := by decide +kernel
theorem dX9_lands_102 : decode cX9_lands 102 = .ok (.ifCond .ne 20, 3) := by decide +kernel
theorem dX9_lands_105 : decode cX9_lands 105 = .ok (.iload_n 3, 1) := by decide +kernel
theorem dX9_lands_106 : decode cX9_lands 106 = .ok (.ifCond .eq 12, 3) := by decide +kernel
theorem dX9_lands_109 : decode cX9_lands 109 = .ok (.aload_n 0, 1) := by decide +kernel
theorem dX9_lands_110 : decode cX9_lands 110 = .ok (.iload 8, 2) := by decide +kernel
theorem dX9_lands_112 : decode cX9_lands 112 = .ok (.invokevirtual 229, 3) := by decide +kernel
theorem dX9_lands_115 : decode cX9_lands 115 = .ok (.ifCond .eq 7, 3) := by decide +kernel
theorem dX9_lands_118 : decode cX9_lands 118 = .ok (.iconst 1, 1) := by decide +kernel
theorem dX9_lands_119 : decode cX9_lands 119 = .ok (.goto 4, 3) := by decide +kernel
theorem dX9_lands_122 : decode cX9_lands 122 = .ok (.iconst 0, 1) := by decide +kernel
theorem dX9_lands_123 : decode cX9_lands 123 = .ok (.iadd, 1) := by decide +kernel
theorem dX9_lands_124 : decode cX9_lands 124 = .ok (.istore 6, 2) := by decide +kernel
theorem dX9_lands_126 : decode cX9_lands 126 = .ok (.iinc 7 1, 3) := by decide +kernel
theorem dX9_lands_129 : decode cX9_lands 129 = .ok (.goto (-81), 3) := by decide +kernel
theorem dX9_lands_132 : decode cX9_lands 132 = .ok (.iload 6, 2) := by decide +kernel
theorem dX9_lands_134 : decode cX9_lands 134 = .ok (.ireturn, 1) := by decide +kernel
theorem dX9_judge_0 : decode cX9_judge 0 = .ok (.aload_n 0, 1) := by decide +kernel
theorem dX9_judge_1 : decode cX9_judge 1 = .ok (.iload_n 1, 1) := by decide +kernel
theorem dX9_judge_2 : decode cX9_judge 2 = .ok (.invokevirtual 211, 3) := by decide +kernel
theorem dX9_judge_5 : decode cX9_judge 5 = .ok (.ifCond .ne 9, 3) := by decide +kernel
theorem dX9_judge_8 : decode cX9_judge 8 = .ok (.aload_n 0, 1) := by decide +kernel
theorem dX9_judge_9 : decode cX9_judge 9 = .ok (.iconst (-1), 1) := by decide +kernel
theorem dX9_judge_10 : decode cX9_judge 10 = .ok (.invokevirtual 102, 3) := by decide +kernel
theorem dX9_judge_13 : decode cX9_judge 13 = .ok (.ireturn, 1) := by decide +kernel
theorem dX9_judge_14 : decode cX9_judge 14 = .ok (.iconst 0, 1) := by decide +kernel
theorem dX9_judge_15 : decode cX9_judge 15 = .ok (.istore_n 2, 1) := by decide +kernel
theorem dX9_judge_16 : decode cX9_judge 16 = .ok (.iload_n 2, 1) := by decide +kernel
theorem dX9_judge_17 : decode cX9_judge 17 = .ok (.aload_n 0, 1) := by decide +kernel
theorem dX9_judge_18 : decode cX9_judge 18 = .ok (.getfield 186, 3) := by decide +kernel
theorem dX9_judge_21 : decode cX9_judge 21 = .ok (.if_icmp .ge 20, 3) := by decide +kernel
theorem dX9_judge_24 : decode cX9_judge 24 = .ok (.aload_n 0, 1) := by decide +kernel
theorem dX9_judge_25 : decode cX9_judge 25 = .ok (.iload_n 2, 1) := by decide +kernel
theorem dX9_judge_26 : decode cX9_judge 26 = .ok (.iload_n 1, 1) := by decide +kernel
theorem dX9_judge_27 : decode cX9_judge 27 = .ok (.invokevirtual 208, 3) := by decide +kernel
theorem dX9_judge_30 : decode cX9_judge 30 = .ok (.ifCond .ne 5, 3) := by decide +kernel
theorem dX9_judge_33 : decode cX9_judge 33 = .ok (.iload_n 2, 1) := by decide +kernel
theorem dX9_judge_34 : decode cX9_judge 34 = .ok (.ireturn, 1) := by decide +kernel
theorem dX9_judge_35 : decode cX9_judge 35 = .ok (.iinc 2 1, 3) := by decide +kernel
theorem dX9_judge_38 : decode cX9_judge 38 = .ok (.goto (-22), 3) := by decide +kernel
theorem dX9_judge_41 : decode cX9_judge 41 = .ok (.iconst 0, 1) := by decide +kernel
theorem dX9_judge_42 : decode cX9_judge 42 = .ok (.istore_n 2, 1) := by decide +kernel
theorem dX9_judge_43 : decode cX9_judge 43 = .ok (.iload_n 2, 1) := by decide +kernel
theorem dX9_judge_44 : decode cX9_judge 44 = .ok (.aload_n 0, 1) := by decide +kernel
theorem dX9_judge_45 : decode cX9_judge 45 = .ok (.getfield 92, 3) := by decide +kernel
theorem dX9_judge_48 : decode cX9_judge 48 = .ok (.if_icmp .ge 23, 3) := by decide +kernel
theorem dX9_judge_51 : decode cX9_judge 51 = .ok (.aload_n 0, 1) := by decide +kernel
theorem dX9_judge_52 : decode cX9_judge 52 = .ok (.iload_n 2, 1) := by decide +kernel
theorem dX9_judge_53 : decode cX9_judge 53 = .ok (.iload_n 1, 1) := by decide +kernel
theorem dX9_judge_54 : decode cX9_judge 54 = .ok (.invokevirtual 205, 3) := by decide +kernel
theorem dX9_judge_57 : decode cX9_judge 57 = .ok (.ifCond .ne 8, 3) := by decide +kernel
theorem dX9_judge_60 : decode cX9_judge 60 = .ok (.bipush 100, 2) := by decide +kernel
theorem dX9_judge_62 : decode cX9_judge 62 = .ok (.iload_n 2, 1) := by decide +kernel
theorem dX9_judge_63 : decode cX9_judge 63 = .ok (.iadd, 1) := by decide +kernel
theorem dX9_judge_64 : decode cX9_judge 64 = .ok (.ireturn, 1) := by decide +kernel
theorem dX9_judge_65 : decode cX9_judge 65 = .ok (.iinc 2 1, 3) := by decide +kernel
theorem dX9_judge_68 : decode cX9_judge 68 = .ok (.goto (-25), 3) := by decide +kernel
theorem dX9_judge_71 : decode cX9_judge 71 = .ok (.bipush (-9), 2) := by decide +kernel
theorem dX9_judge_73 : decode cX9_judge 73 = .ok (.ireturn, 1) := by decide +kernel
theorem dX9_fitMany_0 : decode cX9_fitMany 0 = .ok (.iconst 0, 1) := by decide +kernel
theorem dX9_fitMany_1 : decode cX9_fitMany 1 = .ok (.istore_n 1, 1) := by decide +kernel
theorem dX9_fitMany_2 : decode cX9_fitMany 2 = .ok (.iconst 0, 1) := by decide +kernel
theorem dX9_fitMany_3 : decode cX9_fitMany 3 = .ok (.istore_n 2, 1) := by decide +kernel
theorem dX9_fitMany_4 : decode cX9_fitMany 4 = .ok (.iload_n 2, 1) := by decide +kernel
theorem dX9_fitMany_5 : decode cX9_fitMany 5 = .ok (.sipush 1024, 3) := by decide +kernel
theorem dX9_fitMany_8 : decode cX9_fitMany 8 = .ok (.if_icmp .ge 33, 3) := by decide +kernel
theorem dX9_fitMany_11 : decode cX9_fitMany 11 = .ok (.iload_n 1, 1) := by decide +kernel
theorem dX9_fitMany_12 : decode cX9_fitMany 12 = .ok (.aload_n 0, 1) := by decide +kernel
theorem dX9_fitMany_13 : decode cX9_fitMany 13 = .ok (.iload_n 2, 1) := by decide +kernel
theorem dX9_fitMany_14 : decode cX9_fitMany 14 = .ok (.invokevirtual 211, 3) := by decide +kernel
theorem dX9_fitMany_17 : decode cX9_fitMany 17 = .ok (.ifCond .eq 15, 3) := by decide +kernel
theorem dX9_fitMany_20 : decode cX9_fitMany 20 = .ok (.aload_n 0, 1) := by decide +kernel
theorem dX9_fitMany_21 : decode cX9_fitMany 21 = .ok (.iload_n 2, 1) := by decide +kernel
theorem dX9_fitMany_22 : decode cX9_fitMany 22 = .ok (.invokevirtual 214, 3) := by decide +kernel
theorem dX9_fitMany_25 : decode cX9_fitMany 25 = .ok (.ifCond .ne 7, 3) := by decide +kernel
theorem dX9_fitMany_28 : decode cX9_fitMany 28 = .ok (.iconst 1, 1) := by decide +kernel
theorem dX9_fitMany_29 : decode cX9_fitMany 29 = .ok (.goto 4, 3) := by decide +kernel
theorem dX9_fitMany_32 : decode cX9_fitMany 32 = .ok (.iconst 0, 1) := by decide +kernel
theorem dX9_fitMany_33 : decode cX9_fitMany 33 = .ok (.iadd, 1) := by decide +kernel
theorem dX9_fitMany_34 : decode cX9_fitMany 34 = .ok (.istore_n 1, 1) := by decide +kernel
theorem dX9_fitMany_35 : decode cX9_fitMany 35 = .ok (.iinc 2 1, 3) := by decide +kernel
theorem dX9_fitMany_38 : decode cX9_fitMany 38 = .ok (.goto (-34), 3) := by decide +kernel
theorem dX9_fitMany_41 : decode cX9_fitMany 41 = .ok (.iload_n 1, 1) := by decide +kernel
theorem dX9_fitMany_42 : decode cX9_fitMany 42 = .ok (.ireturn, 1) := by decide +kernel
theorem dX9_count_0 : decode cX9_count 0 = .ok (.iload_n 1, 1) := by decide +kernel
theorem dX9_count_1 : decode cX9_count 1 = .ok (.bipush 11, 2) := by decide +kernel
theorem dX9_count_3 : decode cX9_count 3 = .ok (.bipush 16, 2) := by decide +kernel
theorem dX9_count_5 : decode cX9_count 5 = .ok (.invokestatic 113, 3) := by decide +kernel
theorem dX9_count_8 : decode cX9_count 8 = .ok (.ifCond .eq 13, 3) := by decide +kernel
theorem dX9_count_11 : decode cX9_count 11 = .ok (.aload_n 0, 1) := by decide +kernel
theorem dX9_count_12 : decode cX9_count 12 = .ok (.getfield 7, 3) := by decide +kernel
theorem dX9_count_15 : decode cX9_count 15 = .ok (.iload_n 1, 1) := by decide +kernel
theorem dX9_count_16 : decode cX9_count 16 = .ok (.bipush 10, 2) := by decide +kernel
theorem dX9_count_18 : decode cX9_count 18 = .ok (.isub, 1) := by decide +kernel
theorem dX9_count_19 : decode cX9_count 19 = .ok (.iaload, 1) := by decide +kernel
theorem dX9_count_20 : decode cX9_count 20 = .ok (.ireturn, 1) := by decide +kernel
theorem dX9_count_21 : decode cX9_count 21 = .ok (.iload_n 1, 1) := by decide +kernel
theorem dX9_count_22 : decode cX9_count 22 = .ok (.tableswitch 117 0 9 #[54, 59, 64, 69, 74, 79, 84, 94, 99, 104], 54) := by decide +kernel
theorem dX9_count_76 : decode cX9_count 76 = .ok (.aload_n 0, 1) := by decide +kernel
theorem dX9_count_77 : decode cX9_count 77 = .ok (.getfield 34, 3) := by decide +kernel
theorem dX9_count_80 : decode cX9_count 80 = .ok (.ireturn, 1) := by decide +kernel
theorem dX9_count_81 : decode cX9_count 81 = .ok (.aload_n 0, 1) := by decide +kernel
theorem dX9_count_82 : decode cX9_count 82 = .ok (.getfield 137, 3) := by decide +kernel
theorem dX9_count_85 : decode cX9_count 85 = .ok (.ireturn, 1) := by decide +kernel
theorem dX9_count_86 : decode cX9_count 86 = .ok (.aload_n 0, 1) := by decide +kernel
theorem dX9_count_87 : decode cX9_count 87 = .ok (.getfield 89, 3) := by decide +kernel
theorem dX9_count_90 : decode cX9_count 90 = .ok (.ireturn, 1) := by decide +kernel
theorem dX9_count_91 : decode cX9_count 91 = .ok (.aload_n 0, 1) := by decide +kernel
theorem dX9_count_92 : decode cX9_count 92 = .ok (.getfield 92, 3) := by decide +kernel
theorem dX9_count_95 : decode cX9_count 95 = .ok (.ireturn, 1) := by decide +kernel
theorem dX9_count_96 : decode cX9_count 96 = .ok (.aload_n 0, 1) := by decide +kernel
theorem dX9_count_97 : decode cX9_count 97 = .ok (.getfield 186, 3) := by decide +kernel
theorem dX9_count_100 : decode cX9_count 100 = .ok (.ireturn, 1) := by decide +kernel
theorem dX9_count_101 : decode cX9_count 101 = .ok (.aload_n 0, 1) := by decide +kernel
theorem dX9_count_102 : decode cX9_count 102 = .ok (.invokevirtual 304, 3) := by decide +kernel
theorem dX9_count_105 : decode cX9_count 105 = .ok (.ireturn, 1) := by decide +kernel
theorem dX9_count_106 : decode cX9_count 106 = .ok (.aload_n 0, 1) := by decide +kernel
theorem dX9_count_107 : decode cX9_count 107 = .ok (.iconst 0, 1) := by decide +kernel
theorem dX9_count_108 : decode cX9_count 108 = .ok (.invokevirtual 232, 3) := by decide +kernel
theorem dX9_count_111 : decode cX9_count 111 = .ok (.aload_n 0, 1) := by decide +kernel
theorem dX9_count_112 : decode cX9_count 112 = .ok (.getfield 223, 3) := by decide +kernel
theorem dX9_count_115 : decode cX9_count 115 = .ok (.ireturn, 1) := by decide +kernel
theorem dX9_count_116 : decode cX9_count 116 = .ok (.aload_n 0, 1) := by decide +kernel
theorem dX9_count_117 : decode cX9_count 117 = .ok (.getfield 192, 3) := by decide +kernel
theorem dX9_count_120 : decode cX9_count 120 = .ok (.ireturn, 1) := by decide +kernel
theorem dX9_count_121 : decode cX9_count 121 = .ok (.aload_n 0, 1) := by decide +kernel
theorem dX9_count_122 : decode cX9_count 122 = .ok (.getfield 99, 3) := by decide +kernel
theorem dX9_count_125 : decode cX9_count 125 = .ok (.ireturn, 1) := by decide +kernel
theorem dX9_count_126 : decode cX9_count 126 = .ok (.aload_n 0, 1) := by decide +kernel
theorem dX9_count_127 : decode cX9_count 127 = .ok (.getfield 38, 3) := by decide +kernel
theorem dX9_count_130 : decode cX9_count 130 = .ok (.ifCond .lt 7, 3) := by decide +kernel
theorem dX9_count_133 : decode cX9_count 133 = .ok (.iconst 1, 1) := by decide +kernel
theorem dX9_count_134 : decode cX9_count 134 = .ok (.goto 4, 3) := by decide +kernel
theorem dX9_count_137 : decode cX9_count 137 = .ok (.iconst 0, 1) := by decide +kernel
theorem dX9_count_138 : decode cX9_count 138 = .ok (.ireturn, 1) := by decide +kernel
theorem dX9_count_139 : decode cX9_count 139 = .ok (.bipush (-9), 2) := by decide +kernel
theorem dX9_count_141 : decode cX9_count 141 = .ok (.ireturn, 1) := by decide +kernel
theorem dJ6_bitCount_0f7a4_0 : decode cJ6_bitCount_0f7a4 0 = .ok (.iload_n 0, 1) := by decide +kernel
theorem dJ6_bitCount_0f7a4_1 : decode cJ6_bitCount_0f7a4 1 = .ok (.iload_n 0, 1) := by decide +kernel
theorem dJ6_bitCount_0f7a4_2 : decode cJ6_bitCount_0f7a4 2 = .ok (.iconst 1, 1) := by decide +kernel
theorem dJ6_bitCount_0f7a4_3 : decode cJ6_bitCount_0f7a4 3 = .ok (.iushr, 1) := by decide +kernel
theorem dJ6_bitCount_0f7a4_4 : decode cJ6_bitCount_0f7a4 4 = .ok (.ldc_w 265, 3) := by decide +kernel
theorem dJ6_bitCount_0f7a4_7 : decode cJ6_bitCount_0f7a4 7 = .ok (.iand, 1) := by decide +kernel
theorem dJ6_bitCount_0f7a4_8 : decode cJ6_bitCount_0f7a4 8 = .ok (.isub, 1) := by decide +kernel
theorem dJ6_bitCount_0f7a4_9 : decode cJ6_bitCount_0f7a4 9 = .ok (.istore_n 0, 1) := by decide +kernel
theorem dJ6_bitCount_0f7a4_10 : decode cJ6_bitCount_0f7a4 10 = .ok (.iload_n 0, 1) := by decide +kernel
theorem dJ6_bitCount_0f7a4_11 : decode cJ6_bitCount_0f7a4 11 = .ok (.ldc_w 266, 3) := by decide +kernel
theorem dJ6_bitCount_0f7a4_14 : decode cJ6_bitCount_0f7a4 14 = .ok (.iand, 1) := by decide +kernel
theorem dJ6_bitCount_0f7a4_15 : decode cJ6_bitCount_0f7a4 15 = .ok (.iload_n 0, 1) := by decide +kernel
theorem dJ6_bitCount_0f7a4_16 : decode cJ6_bitCount_0f7a4 16 = .ok (.iconst 2, 1) := by decide +kernel
theorem dJ6_bitCount_0f7a4_17 : decode cJ6_bitCount_0f7a4 17 = .ok (.iushr, 1) := by decide +kernel
theorem dJ6_bitCount_0f7a4_18 : decode cJ6_bitCount_0f7a4 18 = .ok (.ldc_w 266, 3) := by decide +kernel
theorem dJ6_bitCount_0f7a4_21 : decode cJ6_bitCount_0f7a4 21 = .ok (.iand, 1) := by decide +kernel
theorem dJ6_bitCount_0f7a4_22 : decode cJ6_bitCount_0f7a4 22 = .ok (.iadd, 1) := by decide +kernel
theorem dJ6_bitCount_0f7a4_23 : decode cJ6_bitCount_0f7a4 23 = .ok (.istore_n 0, 1) := by decide +kernel
theorem dJ6_bitCount_0f7a4_24 : decode cJ6_bitCount_0f7a4 24 = .ok (.iload_n 0, 1) := by decide +kernel
theorem dJ6_bitCount_0f7a4_25 : decode cJ6_bitCount_0f7a4 25 = .ok (.iload_n 0, 1) := by decide +kernel
theorem dJ6_bitCount_0f7a4_26 : decode cJ6_bitCount_0f7a4 26 = .ok (.iconst 4, 1) := by decide +kernel
theorem dJ6_bitCount_0f7a4_27 : decode cJ6_bitCount_0f7a4 27 = .ok (.iushr, 1) := by decide +kernel
theorem dJ6_bitCount_0f7a4_28 : decode cJ6_bitCount_0f7a4 28 = .ok (.iadd, 1) := by decide +kernel
theorem dJ6_bitCount_0f7a4_29 : decode cJ6_bitCount_0f7a4 29 = .ok (.ldc_w 267, 3) := by decide +kernel
theorem dJ6_bitCount_0f7a4_32 : decode cJ6_bitCount_0f7a4 32 = .ok (.iand, 1) := by decide +kernel
theorem dJ6_bitCount_0f7a4_33 : decode cJ6_bitCount_0f7a4 33 = .ok (.istore_n 0, 1) := by decide +kernel
theorem dJ6_bitCount_0f7a4_34 : decode cJ6_bitCount_0f7a4 34 = .ok (.iload_n 0, 1) := by decide +kernel
theorem dJ6_bitCount_0f7a4_35 : decode cJ6_bitCount_0f7a4 35 = .ok (.iload_n 0, 1) := by decide +kernel
theorem dJ6_bitCount_0f7a4_36 : decode cJ6_bitCount_0f7a4 36 = .ok (.bipush 8, 2) := by decide +kernel
theorem dJ6_bitCount_0f7a4_38 : decode cJ6_bitCount_0f7a4 38 = .ok (.iushr, 1) := by decide +kernel
theorem dJ6_bitCount_0f7a4_39 : decode cJ6_bitCount_0f7a4 39 = .ok (.iadd, 1) := by decide +kernel
theorem dJ6_bitCount_0f7a4_40 : decode cJ6_bitCount_0f7a4 40 = .ok (.istore_n 0, 1) := by decide +kernel
theorem dJ6_bitCount_0f7a4_41 : decode cJ6_bitCount_0f7a4 41 = .ok (.iload_n 0, 1) := by decide +kernel
theorem dJ6_bitCount_0f7a4_42 : decode cJ6_bitCount_0f7a4 42 = .ok (.iload_n 0, 1) := by decide +kernel
theorem dJ6_bitCount_0f7a4_43 : decode cJ6_bitCount_0f7a4 43 = .ok (.bipush 16, 2) := by decide +kernel
theorem dJ6_bitCount_0f7a4_45 : decode cJ6_bitCount_0f7a4 45 = .ok (.iushr, 1) := by decide +kernel
theorem dJ6_bitCount_0f7a4_46 : decode cJ6_bitCount_0f7a4 46 = .ok (.iadd, 1) := by decide +kernel
theorem dJ6_bitCount_0f7a4_47 : decode cJ6_bitCount_0f7a4 47 = .ok (.istore_n 0, 1) := by decide +kernel
theorem dJ6_bitCount_0f7a4_48 : decode cJ6_bitCount_0f7a4 48 = .ok (.iload_n 0, 1) := by decide +kernel
theorem dJ6_bitCount_0f7a4_49 : decode cJ6_bitCount_0f7a4 49 = .ok (.bipush 63, 2) := by decide +kernel
theorem dJ6_bitCount_0f7a4_51 : decode cJ6_bitCount_0f7a4 51 = .ok (.iand, 1) := by decide +kernel
theorem dJ6_bitCount_0f7a4_52 : decode cJ6_bitCount_0f7a4 52 = .ok (.ireturn, 1) := by decide +kernel
theorem dJ9_max_7cf53_0 : decode cJ9_max_7cf53 0 = .ok (.iload_n 0, 1) := by decide +kernel
theorem dJ9_max_7cf53_1 : decode cJ9_max_7cf53 1 = .ok (.iload_n 1, 1) := by decide +kernel
theorem dJ9_max_7cf53_2 : decode cJ9_max_7cf53 2 = .ok (.if_icmp .lt 7, 3) := by decide +kernel
theorem dJ9_max_7cf53_5 : decode cJ9_max_7cf53 5 = .ok (.iload_n 0, 1) := by decide +kernel
theorem dJ9_max_7cf53_6 : decode cJ9_max_7cf53 6 = .ok (.goto 4, 3) := by decide +kernel
theorem dJ9_max_7cf53_9 : decode cJ9_max_7cf53 9 = .ok (.iload_n 1, 1) := by decide +kernel
theorem dJ9_max_7cf53_10 : decode cJ9_max_7cf53 10 = .ok (.ireturn, 1) := by decide +kernel
theorem dJ9_min_7cf53_0 : decode cJ9_min_7cf53 0 = .ok (.iload_n 0, 1) := by decide +kernel
theorem dJ9_min_7cf53_1 : decode cJ9_min_7cf53 1 = .ok (.iload_n 1, 1) := by decide +kernel
theorem dJ9_min_7cf53_2 : decode cJ9_min_7cf53 2 = .ok (.if_icmp .gt 7, 3) := by decide +kernel
theorem dJ9_min_7cf53_5 : decode cJ9_min_7cf53 5 = .ok (.iload_n 0, 1) := by decide +kernel
theorem dJ9_min_7cf53_6 : decode cJ9_min_7cf53 6 = .ok (.goto 4, 3) := by decide +kernel
theorem dJ9_min_7cf53_9 : decode cJ9_min_7cf53 9 = .ok (.iload_n 1, 1) := by decide +kernel
theorem dJ9_min_7cf53_10 : decode cJ9_min_7cf53 10 = .ok (.ireturn, 1) := by decide +kernel
theorem dJ0_length_8abf5_0 : decode cJ0_length_8abf5 0 = .ok (.aload_n 0, 1) := by decide +kernel
theorem dJ0_length_8abf5_1 : decode cJ0_length_8abf5 1 = .ok (.getfield 9, 3) := by decide +kernel
theorem dJ0_length_8abf5_4 : decode cJ0_length_8abf5 4 = .ok (.arraylength, 1) := by decide +kernel
theorem dJ0_length_8abf5_5 : decode cJ0_length_8abf5 5 = .ok (.aload_n 0, 1) := by decide +kernel
theorem dJ0_length_8abf5_6 : decode cJ0_length_8abf5 6 = .ok (.invokevirtual 335, 3) := by decide +kernel
theorem dJ0_length_8abf5_9 : decode cJ0_length_8abf5 9 = .ok (.ishr, 1) := by decide +kernel
theorem dJ0_length_8abf5_10 : decode cJ0_length_8abf5 10 = .ok (.ireturn, 1) := by decide +kernel
theorem dJ0_charAt_5068e_0 : decode cJ0_charAt_5068e 0 = .ok (.aload_n 0, 1) := by decide +kernel
theorem dJ0_charAt_5068e_1 : decode cJ0_charAt_5068e 1 = .ok (.invokevirtual 492, 3) := by decide +kernel
theorem dJ0_charAt_5068e_4 : decode cJ0_charAt_5068e 4 = .ok (.ifCond .eq 12, 3) := by decide +kernel
theorem dJ0_charAt_5068e_7 : decode cJ0_charAt_5068e 7 = .ok (.aload_n 0, 1) := by decide +kernel
theorem dJ0_charAt_5068e_8 : decode cJ0_charAt_5068e 8 = .ok (.getfield 9, 3) := by decide +kernel
theorem dJ0_charAt_5068e_11 : decode cJ0_charAt_5068e 11 = .ok (.iload_n 1, 1) := by decide +kernel
theorem dJ0_charAt_5068e_12 : decode cJ0_charAt_5068e 12 = .ok (.invokestatic 495, 3) := by decide +kernel
theorem dJ0_charAt_5068e_15 : decode cJ0_charAt_5068e 15 = .ok (.ireturn, 1) := by decide +kernel
theorem dJ0_charAt_5068e_16 : decode cJ0_charAt_5068e 16 = .ok (.aload_n 0, 1) := by decide +kernel
theorem dJ0_charAt_5068e_17 : decode cJ0_charAt_5068e 17 = .ok (.getfield 9, 3) := by decide +kernel
theorem dJ0_charAt_5068e_20 : decode cJ0_charAt_5068e 20 = .ok (.iload_n 1, 1) := by decide +kernel
theorem dJ0_charAt_5068e_21 : decode cJ0_charAt_5068e 21 = .ok (.invokestatic 498, 3) := by decide +kernel
theorem dJ0_charAt_5068e_24 : decode cJ0_charAt_5068e 24 = .ok (.ireturn, 1) := by decide +kernel
theorem dJ0_indexOf_0f7a4_0 : decode cJ0_indexOf_0f7a4 0 = .ok (.aload_n 0, 1) := by decide +kernel
theorem dJ0_indexOf_0f7a4_1 : decode cJ0_indexOf_0f7a4 1 = .ok (.iload_n 1, 1) := by decide +kernel
theorem dJ0_indexOf_0f7a4_2 : decode cJ0_indexOf_0f7a4 2 = .ok (.iconst 0, 1) := by decide +kernel
theorem dJ0_indexOf_0f7a4_3 : decode cJ0_indexOf_0f7a4 3 = .ok (.invokevirtual 633, 3) := by decide +kernel
theorem dJ0_indexOf_0f7a4_6 : decode cJ0_indexOf_0f7a4 6 = .ok (.ireturn, 1) := by decide +kernel
theorem dJ0_indexOf_7cf53_0 : decode cJ0_indexOf_7cf53 0 = .ok (.aload_n 0, 1) := by decide +kernel
theorem dJ0_indexOf_7cf53_1 : decode cJ0_indexOf_7cf53 1 = .ok (.invokevirtual 492, 3) := by decide +kernel
theorem dJ0_indexOf_7cf53_4 : decode cJ0_indexOf_7cf53 4 = .ok (.ifCond .eq 19, 3) := by decide +kernel
theorem dJ0_indexOf_7cf53_7 : decode cJ0_indexOf_7cf53 7 = .ok (.aload_n 0, 1) := by decide +kernel
theorem dJ0_indexOf_7cf53_8 : decode cJ0_indexOf_7cf53 8 = .ok (.getfield 9, 3) := by decide +kernel
theorem dJ0_indexOf_7cf53_11 : decode cJ0_indexOf_7cf53 11 = .ok (.iload_n 1, 1) := by decide +kernel
theorem dJ0_indexOf_7cf53_12 : decode cJ0_indexOf_7cf53 12 = .ok (.iload_n 2, 1) := by decide +kernel
theorem dJ0_indexOf_7cf53_13 : decode cJ0_indexOf_7cf53 13 = .ok (.aload_n 0, 1) := by decide +kernel
theorem dJ0_indexOf_7cf53_14 : decode cJ0_indexOf_7cf53 14 = .ok (.invokevirtual 505, 3) := by decide +kernel
theorem dJ0_indexOf_7cf53_17 : decode cJ0_indexOf_7cf53 17 = .ok (.invokestatic 637, 3) := by decide +kernel
theorem dJ0_indexOf_7cf53_20 : decode cJ0_indexOf_7cf53 20 = .ok (.goto 16, 3) := by decide +kernel
theorem dJ0_indexOf_7cf53_23 : decode cJ0_indexOf_7cf53 23 = .ok (.aload_n 0, 1) := by decide +kernel
theorem dJ0_indexOf_7cf53_24 : decode cJ0_indexOf_7cf53 24 = .ok (.getfield 9, 3) := by decide +kernel
theorem dJ0_indexOf_7cf53_27 : decode cJ0_indexOf_7cf53 27 = .ok (.iload_n 1, 1) := by decide +kernel
theorem dJ0_indexOf_7cf53_28 : decode cJ0_indexOf_7cf53 28 = .ok (.iload_n 2, 1) := by decide +kernel
theorem dJ0_indexOf_7cf53_29 : decode cJ0_indexOf_7cf53 29 = .ok (.aload_n 0, 1) := by decide +kernel
theorem dJ0_indexOf_7cf53_30 : decode cJ0_indexOf_7cf53 30 = .ok (.invokevirtual 505, 3) := by decide +kernel
theorem dJ0_indexOf_7cf53_33 : decode cJ0_indexOf_7cf53 33 = .ok (.invokestatic 640, 3) := by decide +kernel
theorem dJ0_indexOf_7cf53_36 : decode cJ0_indexOf_7cf53 36 = .ok (.ireturn, 1) := by decide +kernel
theorem dJ0_coder_7d493_0 : decode cJ0_coder_7d493 0 = .ok (.getstatic 38, 3) := by decide +kernel
theorem dJ0_coder_7d493_3 : decode cJ0_coder_7d493 3 = .ok (.ifCond .eq 10, 3) := by decide +kernel
theorem dJ0_coder_7d493_6 : decode cJ0_coder_7d493 6 = .ok (.aload_n 0, 1) := by decide +kernel
theorem dJ0_coder_7d493_7 : decode cJ0_coder_7d493 7 = .ok (.getfield 15, 3) := by decide +kernel
theorem dJ0_coder_7d493_10 : decode cJ0_coder_7d493 10 = .ok (.goto 4, 3) := by decide +kernel
theorem dJ0_coder_7d493_13 : decode cJ0_coder_7d493 13 = .ok (.iconst 1, 1) := by decide +kernel
theorem dJ0_coder_7d493_14 : decode cJ0_coder_7d493 14 = .ok (.ireturn, 1) := by decide +kernel
theorem dJ0_isLatin1_aae02_0 : decode cJ0_isLatin1_aae02 0 = .ok (.getstatic 38, 3) := by decide +kernel
theorem dJ0_isLatin1_aae02_3 : decode cJ0_isLatin1_aae02 3 = .ok (.ifCond .eq 14, 3) := by decide +kernel
theorem dJ0_isLatin1_aae02_6 : decode cJ0_isLatin1_aae02 6 = .ok (.aload_n 0, 1) := by decide +kernel
theorem dJ0_isLatin1_aae02_7 : decode cJ0_isLatin1_aae02 7 = .ok (.getfield 15, 3) := by decide +kernel
theorem dJ0_isLatin1_aae02_10 : decode cJ0_isLatin1_aae02 10 = .ok (.ifCond .ne 7, 3) := by decide +kernel
theorem dJ0_isLatin1_aae02_13 : decode cJ0_isLatin1_aae02 13 = .ok (.iconst 1, 1) := by decide +kernel
theorem dJ0_isLatin1_aae02_14 : decode cJ0_isLatin1_aae02 14 = .ok (.goto 4, 3) := by decide +kernel
theorem dJ0_isLatin1_aae02_17 : decode cJ0_isLatin1_aae02 17 = .ok (.iconst 0, 1) := by decide +kernel
theorem dJ0_isLatin1_aae02_18 : decode cJ0_isLatin1_aae02 18 = .ok (.ireturn, 1) := by decide +kernel
theorem dJ0_checkIndex_df160_0 : decode cJ0_checkIndex_df160 0 = .ok (.iload_n 0, 1) := by decide +kernel
theorem dJ0_checkIndex_df160_1 : decode cJ0_checkIndex_df160 1 = .ok (.iload_n 1, 1) := by decide +kernel
theorem dJ0_checkIndex_df160_2 : decode cJ0_checkIndex_df160 2 = .ok (.getstatic 1053, 3) := by decide +kernel
theorem dJ0_checkIndex_df160_5 : decode cJ0_checkIndex_df160 5 = .ok (.invokestatic 1059, 3) := by decide +kernel
theorem dJ0_checkIndex_df160_8 : decode cJ0_checkIndex_df160 8 = .ok (.pop, 1) := by decide +kernel
theorem dJ0_checkIndex_df160_9 : decode cJ0_checkIndex_df160 9 = .ok (.return_, 1) := by decide +kernel
theorem dJ0_checkBoundsBeginEnd_23922_0 : decode cJ0_checkBoundsBeginEnd_23922 0 = .ok (.iload_n 0, 1) := by decide +kernel
theorem dJ0_checkBoundsBeginEnd_23922_1 : decode cJ0_checkBoundsBeginEnd_23922 1 = .ok (.iload_n 1, 1) := by decide +kernel
theorem dJ0_checkBoundsBeginEnd_23922_2 : decode cJ0_checkBoundsBeginEnd_23922 2 = .ok (.iload_n 2, 1) := by decide +kernel
theorem dJ0_checkBoundsBeginEnd_23922_3 : decode cJ0_checkBoundsBeginEnd_23922 3 = .ok (.getstatic 1053, 3) := by decide +kernel
theorem dJ0_checkBoundsBeginEnd_23922_6 : decode cJ0_checkBoundsBeginEnd_23922 6 = .ok (.invokestatic 1062, 3) := by decide +kernel
theorem dJ0_checkBoundsBeginEnd_23922_9 : decode cJ0_checkBoundsBeginEnd_23922 9 = .ok (.pop, 1) := by decide +kernel
theorem dJ0_checkBoundsBeginEnd_23922_10 : decode cJ0_checkBoundsBeginEnd_23922 10 = .ok (.return_, 1) := by decide +kernel
theorem dJ1_charAt_3b067_0 : decode cJ1_charAt_3b067 0 = .ok (.iload_n 1, 1) := by decide +kernel
theorem dJ1_charAt_3b067_1 : decode cJ1_charAt_3b067 1 = .ok (.aload_n 0, 1) := by decide +kernel
theorem dJ1_charAt_3b067_2 : decode cJ1_charAt_3b067 2 = .ok (.arraylength, 1) := by decide +kernel
theorem dJ1_charAt_3b067_3 : decode cJ1_charAt_3b067 3 = .ok (.invokestatic 9, 3) := by decide +kernel
theorem dJ1_charAt_3b067_6 : decode cJ1_charAt_3b067 6 = .ok (.aload_n 0, 1) := by decide +kernel
theorem dJ1_charAt_3b067_7 : decode cJ1_charAt_3b067 7 = .ok (.iload_n 1, 1) := by decide +kernel
theorem dJ1_charAt_3b067_8 : decode cJ1_charAt_3b067 8 = .ok (.baload, 1) := by decide +kernel
theorem dJ1_charAt_3b067_9 : decode cJ1_charAt_3b067 9 = .ok (.sipush 255, 3) := by decide +kernel
theorem dJ1_charAt_3b067_12 : decode cJ1_charAt_3b067 12 = .ok (.iand, 1) := by decide +kernel
theorem dJ1_charAt_3b067_13 : decode cJ1_charAt_3b067 13 = .ok (.i2c, 1) := by decide +kernel
theorem dJ1_charAt_3b067_14 : decode cJ1_charAt_3b067 14 = .ok (.ireturn, 1) := by decide +kernel
theorem dJ1_canEncode_9a6ad_0 : decode cJ1_canEncode_9a6ad 0 = .ok (.iload_n 0, 1) := by decide +kernel
theorem dJ1_canEncode_9a6ad_1 : decode cJ1_canEncode_9a6ad 1 = .ok (.ifCond .lt 14, 3) := by decide +kernel
theorem dJ1_canEncode_9a6ad_4 : decode cJ1_canEncode_9a6ad 4 = .ok (.iload_n 0, 1) := by decide +kernel
theorem dJ1_canEncode_9a6ad_5 : decode cJ1_canEncode_9a6ad 5 = .ok (.sipush 255, 3) := by decide +kernel
theorem dJ1_canEncode_9a6ad_8 : decode cJ1_canEncode_9a6ad 8 = .ok (.if_icmp .gt 7, 3) := by decide +kernel
theorem dJ1_canEncode_9a6ad_11 : decode cJ1_canEncode_9a6ad 11 = .ok (.iconst 1, 1) := by decide +kernel
theorem dJ1_canEncode_9a6ad_12 : decode cJ1_canEncode_9a6ad 12 = .ok (.goto 4, 3) := by decide +kernel
theorem dJ1_canEncode_9a6ad_15 : decode cJ1_canEncode_9a6ad 15 = .ok (.iconst 0, 1) := by decide +kernel
theorem dJ1_canEncode_9a6ad_16 : decode cJ1_canEncode_9a6ad 16 = .ok (.ireturn, 1) := by decide +kernel
theorem dJ1_indexOf_4cfef_0 : decode cJ1_indexOf_4cfef 0 = .ok (.iload_n 1, 1) := by decide +kernel
theorem dJ1_indexOf_4cfef_1 : decode cJ1_indexOf_4cfef 1 = .ok (.invokestatic 88, 3) := by decide +kernel
theorem dJ1_indexOf_4cfef_4 : decode cJ1_indexOf_4cfef 4 = .ok (.ifCond .ne 5, 3) := by decide +kernel
theorem dJ1_indexOf_4cfef_7 : decode cJ1_indexOf_4cfef 7 = .ok (.iconst (-1), 1) := by decide +kernel
theorem dJ1_indexOf_4cfef_8 : decode cJ1_indexOf_4cfef 8 = .ok (.ireturn, 1) := by decide +kernel
theorem dJ1_indexOf_4cfef_9 : decode cJ1_indexOf_4cfef 9 = .ok (.iload_n 2, 1) := by decide +kernel
theorem dJ1_indexOf_4cfef_10 : decode cJ1_indexOf_4cfef 10 = .ok (.iconst 0, 1) := by decide +kernel
theorem dJ1_indexOf_4cfef_11 : decode cJ1_indexOf_4cfef 11 = .ok (.invokestatic 92, 3) := by decide +kernel
theorem dJ1_indexOf_4cfef_14 : decode cJ1_indexOf_4cfef 14 = .ok (.istore_n 2, 1) := by decide +kernel
theorem dJ1_indexOf_4cfef_15 : decode cJ1_indexOf_4cfef 15 = .ok (.iload_n 3, 1) := by decide +kernel
theorem dJ1_indexOf_4cfef_16 : decode cJ1_indexOf_4cfef 16 = .ok (.aload_n 0, 1) := by decide +kernel
theorem dJ1_indexOf_4cfef_17 : decode cJ1_indexOf_4cfef 17 = .ok (.arraylength, 1) := by decide +kernel
theorem dJ1_indexOf_4cfef_18 : decode cJ1_indexOf_4cfef 18 = .ok (.invokestatic 38, 3) := by decide +kernel
theorem dJ1_indexOf_4cfef_21 : decode cJ1_indexOf_4cfef 21 = .ok (.istore_n 3, 1) := by decide +kernel
theorem dJ1_indexOf_4cfef_22 : decode cJ1_indexOf_4cfef 22 = .ok (.iload_n 2, 1) := by decide +kernel
theorem dJ1_indexOf_4cfef_23 : decode cJ1_indexOf_4cfef 23 = .ok (.iload_n 3, 1) := by decide +kernel
theorem dJ1_indexOf_4cfef_24 : decode cJ1_indexOf_4cfef 24 = .ok (.if_icmp .lt 5, 3) := by decide +kernel
theorem dJ1_indexOf_4cfef_27 : decode cJ1_indexOf_4cfef 27 = .ok (.iconst (-1), 1) := by decide +kernel
theorem dJ1_indexOf_4cfef_28 : decode cJ1_indexOf_4cfef 28 = .ok (.ireturn, 1) := by decide +kernel
theorem dJ1_indexOf_4cfef_29 : decode cJ1_indexOf_4cfef 29 = .ok (.aload_n 0, 1) := by decide +kernel
theorem dJ1_indexOf_4cfef_30 : decode cJ1_indexOf_4cfef 30 = .ok (.iload_n 1, 1) := by decide +kernel
theorem dJ1_indexOf_4cfef_31 : decode cJ1_indexOf_4cfef 31 = .ok (.iload_n 2, 1) := by decide +kernel
theorem dJ1_indexOf_4cfef_32 : decode cJ1_indexOf_4cfef 32 = .ok (.iload_n 3, 1) := by decide +kernel
theorem dJ1_indexOf_4cfef_33 : decode cJ1_indexOf_4cfef 33 = .ok (.invokestatic 95, 3) := by decide +kernel
theorem dJ1_indexOf_4cfef_36 : decode cJ1_indexOf_4cfef 36 = .ok (.ireturn, 1) := by decide +kernel
theorem dJ1_indexOfChar_4cfef_0 : decode cJ1_indexOfChar_4cfef 0 = .ok (.iload_n 1, 1) := by decide +kernel
theorem dJ1_indexOfChar_4cfef_1 : decode cJ1_indexOfChar_4cfef 1 = .ok (.i2b, 1) := by decide +kernel
theorem dJ1_indexOfChar_4cfef_2 : decode cJ1_indexOfChar_4cfef 2 = .ok (.istore 4, 2) := by decide +kernel
theorem dJ1_indexOfChar_4cfef_4 : decode cJ1_indexOfChar_4cfef 4 = .ok (.iload_n 2, 1) := by decide +kernel
theorem dJ1_indexOfChar_4cfef_5 : decode cJ1_indexOfChar_4cfef 5 = .ok (.istore 5, 2) := by decide +kernel
theorem dJ1_indexOfChar_4cfef_7 : decode cJ1_indexOfChar_4cfef 7 = .ok (.iload 5, 2) := by decide +kernel
theorem dJ1_indexOfChar_4cfef_9 : decode cJ1_indexOfChar_4cfef 9 = .ok (.iload_n 3, 1) := by decide +kernel
theorem dJ1_indexOfChar_4cfef_10 : decode cJ1_indexOfChar_4cfef 10 = .ok (.if_icmp .ge 21, 3) := by decide +kernel
theorem dJ1_indexOfChar_4cfef_13 : decode cJ1_indexOfChar_4cfef 13 = .ok (.aload_n 0, 1) := by decide +kernel
theorem dJ1_indexOfChar_4cfef_14 : decode cJ1_indexOfChar_4cfef 14 = .ok (.iload 5, 2) := by decide +kernel
theorem dJ1_indexOfChar_4cfef_16 : decode cJ1_indexOfChar_4cfef 16 = .ok (.baload, 1) := by decide +kernel
theorem dJ1_indexOfChar_4cfef_17 : decode cJ1_indexOfChar_4cfef 17 = .ok (.iload 4, 2) := by decide +kernel
theorem dJ1_indexOfChar_4cfef_19 : decode cJ1_indexOfChar_4cfef 19 = .ok (.if_icmp .ne 6, 3) := by decide +kernel
theorem dJ1_indexOfChar_4cfef_22 : decode cJ1_indexOfChar_4cfef 22 = .ok (.iload 5, 2) := by decide +kernel
theorem dJ1_indexOfChar_4cfef_24 : decode cJ1_indexOfChar_4cfef 24 = .ok (.ireturn, 1) := by decide +kernel
theorem dJ1_indexOfChar_4cfef_25 : decode cJ1_indexOfChar_4cfef 25 = .ok (.iinc 5 1, 3) := by decide +kernel
theorem dJ1_indexOfChar_4cfef_28 : decode cJ1_indexOfChar_4cfef 28 = .ok (.goto (-21), 3) := by decide +kernel
theorem dJ1_indexOfChar_4cfef_31 : decode cJ1_indexOfChar_4cfef 31 = .ok (.iconst (-1), 1) := by decide +kernel
theorem dJ1_indexOfChar_4cfef_32 : decode cJ1_indexOfChar_4cfef 32 = .ok (.ireturn, 1) := by decide +kernel
end
section
/-! ===== 04: the logic of one method's frame: qv_J l g d pc lo st h R: from pc, with locals lo, stack st and the heap's picture h, method d returns R.1 and leaves the picture R.2 ===== -/
/-- a cell: an array (boolean or int, length, contents) or an object (its class's place in vwCl, its fields); a ref in a picture is a place, not an address -/
abbrev qv_C : Type := (Bool × Nat × (Nat → Int32)) ⊕ (Nat × List Value)
abbrev qv_H : Type := Nat → qv_C
def qv_set (h : qv_H) (k : Nat) (c : qv_C) : qv_H := fun j => if j = k then c else h j
def qv_rv (ad : Nat → Nat) (v : Value) : Value := match v with
  | .ref k => .ref (ad k)
  | w => w
def qv_ce (cI cZ : ClassId) (ad : Nat → Nat) (c : qv_C) : va_E := match c with
  | .inl a => .inl (cond a.1 cZ cI, a.2.1, .inl a.2.2)
  | .inr q => .inr (q.1, q.2.map (qv_rv ad))
/-- classes and slots; the ids of the int and the boolean arrays' classes; addresses of places; how many places -/
abbrev qv_G : Type := va_G × ClassId × ClassId × (Nat → Nat) × Nat
abbrev qv_ad (g : qv_G) : Nat → Nat := g.2.2.2.1
abbrev qv_n (g : qv_G) : Nat := g.2.2.2.2
abbrev qv_ty (g : qv_G) : List (ClassId × FieldType) := [(g.2.1, .int), (g.2.2.1, .boolean)]
def qv_ws (g : qv_G) (h : qv_H) : va_W := (List.range (qv_n g)).map (fun k => (qv_ad g k, qv_ce g.2.1 g.2.2.1 (qv_ad g) (h k)))
theorem qv_ws_at {g : qv_G} {h : qv_H} {k : Nat} (hk : k < qv_n g) : (qv_ws g h)[k]? = some (qv_ad g k, qv_ce g.2.1 g.2.2.1 (qv_ad g) (h k)) := by
  simp [qv_ws, hk]
theorem qv_ws_set {g : qv_G} {h : qv_H} {k : Nat} (c : qv_C) (hk : k < qv_n g) : (qv_ws g h).set k (qv_ad g k, qv_ce g.2.1 g.2.2.1 (qv_ad g) c) = qv_ws g (qv_set h k c) := by
  apply List.ext_getElem?
  intro j
  by_cases hj : j = k
  · subst hj
    rw [List.getElem?_set_self (by simp [qv_ws]; exact hk), qv_ws_at hk]
    simp [qv_set]
  · rw [List.getElem?_set_ne (Ne.symm hj)]
    by_cases hn : j < qv_n g
    · rw [qv_ws_at hn, qv_ws_at hn]
      simp [qv_set, hj]
    · rw [List.getElem?_eq_none (by simp [qv_ws]; omega), List.getElem?_eq_none (by simp [qv_ws]; omega)]
/-- the picture holds; what is beyond is nothing -/
def qv_P (g : qv_G) (A : Nat → Prop) (h : qv_H) (H : Heap) : Prop := va_P g.1 vwCl (qv_ws g h) H ∧ va_D A (qv_ws g h) ∧ ∀ k, qv_n g ≤ k → h k = .inr (99, [])
theorem qv_lt {g : qv_G} {A : Nat → Prop} {h : qv_H} {H : Heap} (P : qv_P g A h H) {k : Nat} (hk : ¬ h k = .inr (99, [])) : k < qv_n g := Nat.lt_of_not_le (fun q => hk (P.2.2 k q))

def qv_tx : List String := ["", "nd;", "rdd;", "f;", "sdkdd;", "ldd;", "iddd;", "fnaoxwj"]
def qv_ix : List Nat := [42, 52, 54, 56, 58, 60, 62, 27]
def qv_sl : List Nat := [0, 3, 4, 2, 6, 4, 5, 7]
def qv_sb : List (List Int32) := [[], [110, 100, 59], [114, 100, 100, 59], [102, 59], [115, 100, 107, 100, 100, 59], [108, 100, 100, 59], [105, 100, 100, 100, 59], [102, 110, 97, 111, 120, 119, 106]]
/-- the texts that stand in the class file of TrueOneWay$Text: place i of the list is the cell of place 1000 + i -/
def qv_S (g : qv_G) (A : Nat → Prop) (U : State) : Prop := vk_S 8 qv_sl qv_sb (fun i => qv_ad g (1000 + i)) (fun i => qv_ad g (1100 + i)) A U U.heap ∧ (∀ i, i < 8 → vk_R "TrueOneWay$Text" (qv_ix.getD i 0) (qv_tx.getD i "") (qv_ad g (1000 + i)) U) ∧ va_Z "java/lang/String" "COMPACT_STRINGS" "Z" (.int 1) A U U.heap ∧ (va_Z "jdk/internal/util/Preconditions" "SIOOBE_FORMATTER" "Ljava/util/function/BiFunction;" .null A U U.heap ∨ va_Z "jdk/internal/util/Preconditions" "SIOOBE_FORMATTER" "Ljava/util/function/BiFunction;" (.ref (qv_ad g 1200)) A U U.heap)
theorem qv_S.go {g : qv_G} {A B : Nat → Prop} {s U : State} {locs : List Loc} {H : Heap} (h : qv_S g A s) (hS : va_S A s.heap H locs) (hU : U.heap = H) (hW : s.WarmedH U.vm) (hB : ∀ q, B q → A q) : qv_S g B U := by
  obtain ⟨h1, h2, h3, h4⟩ := h
  subst hU
  refine ⟨((h1.kept hS.2.1).moved hW.alike).narrow hB, fun i hi => (h2 i hi).warm hW, ((h3.kept hS.2.1).moved hW.alike).narrow hB, ?_⟩
  rcases h4 with h4 | h4
  · exact Or.inl (((h4.kept hS.2.1).moved hW.alike).narrow hB)
  · exact Or.inr (((h4.kept hS.2.1).moved hW.alike).narrow hB)
theorem qv_S.call {g : qv_G} {A : Nat → Prop} {U : State} {gg : JFrame} {mk : MethodId} {a : Array Value} (h : qv_S g A U) : qv_S g A (U.calling gg mk a) := by
  obtain ⟨h1, h2, h3, h4⟩ := h
  refine ⟨h1.moved (u := U) (U := U.calling gg mk a) (Vm.Alike.refl U.vm), fun i hi => vk_R.same (u := U) rfl (h2 i hi), h3.moved (u := U) (U := U.calling gg mk a) (Vm.Alike.refl U.vm), ?_⟩
  rcases h4 with h4 | h4
  · exact Or.inl (h4.moved (u := U) (U := U.calling gg mk a) (Vm.Alike.refl U.vm))
  · exact Or.inr (h4.moved (u := U) (U := U.calling gg mk a) (Vm.Alike.refl U.vm))
/-- a method: name, code, locals, what it returns; frames and locals of its calls -/
abbrev qv_M : Type := MethodName × ByteArray × Nat × Option FieldType × Nat × Nat
abbrev qv_rm (d : qv_M) : Room := { frames := d.2.2.2.2.1, cells := 0, slots := 0, locals := d.2.2.2.2.2 }
abbrev qv_wl (d : qv_M) : List Cond := Cond.code d.1 d.2.1 d.2.2.1 d.2.2.2.1 :: qv_WS
def qv_X (g : qv_G) (d : qv_M) (p : Program) (s : State) (m : MethodId) (args : Array Value) (meth : Method) (c : Code) (A : Nat → Prop) : Prop :=
  p.tables.exec = Jvm.exec ∧ c.code = d.2.1 ∧ c.maxLocals = d.2.2.1 ∧ s.vm.findClass d.1.cls = some m.cls ∧ (∀ w ∈ qv_wl d, w.before args s = true) ∧ meth.sig.returnType = d.2.2.2.1 ∧ meth.locks = false ∧ va_K g.1 vwCl (qv_ty g) s ∧ (∀ q, s.heap.size ≤ q → A q) ∧ qv_S g A s
/-- the locals: by their places; nothing is said where none stands -/
def qv_L (ls : Array Slot) (nL : Nat) (ad : Nat → Nat) (lo : List (Option Value)) : Prop := ls.size = nL ∧ lv_wf ls ∧ ∀ (i : Nat) (v : Value), lo[i]? = some (some v) → ls[i]? = some (.val (qv_rv ad v))
def qv_Q (g : qv_G) (A : Nat → Prop) (R : Option Value × qv_H) : Array Value → State → Outcome → State → Prop := fun _ st oc t => (oc = .returned (R.1.map (qv_rv (qv_ad g))) ∧ qv_P g A R.2 t.heap) ∧ va_F A st t
def qv_J (l : Launch) (g : qv_G) (d : qv_M) (pc : Nat) (lo : List (Option Value)) (st : List Value) (h : qv_H) (R : Option Value × qv_H) : Prop :=
  ∀ (p : Program) (e : Env) (s : State) (m : MethodId) (args : Array Value) (below : List Frame) (meth : Method) (c : Code) (A : Nat → Prop) (H : Heap) (locs : List Loc) (ls : Array Slot),
    qv_X g d p s m args meth c A → qv_P g A h H → va_S A s.heap H locs → qv_L ls d.2.2.1 (qv_ad g) lo →
    W p l e (qv_rm d) s m args below meth c H locs 0 0 (MQ below (qv_Q g A R) args s 0 0 A) (F0 m pc ls (st.map (qv_rv (qv_ad g))))

section QV
variable {l : Launch} {g : qv_G} {d : qv_M} {pc : Nat} {lo : List (Option Value)} {st : List Value} {h : qv_H} {R : Option Value × qv_H}
theorem qv_iconst {n : Int} {v : Int32} (hd : decode d.2.1 pc = .ok (.iconst n, 1)) (hv : Int32.ofInt n = v) (k : qv_J l g d (pc + 1) lo (.int v :: st) h R) : qv_J l g d pc lo (st) h R := by
  intro p e s m args below meth c A H locs ls X P S L
  exact lv_iconst X.1 X.2.1 hd hv (k p e s m args below meth c A H locs ls X P S L)
theorem qv_bipush {n : Int} {v : Int32} (hd : decode d.2.1 pc = .ok (.bipush n, 2)) (hv : (Int8.ofInt n).toInt32 = v) (k : qv_J l g d (pc + 2) lo (.int v :: st) h R) : qv_J l g d pc lo (st) h R := by
  intro p e s m args below meth c A H locs ls X P S L
  exact lv_bipush X.1 X.2.1 hd hv (k p e s m args below meth c A H locs ls X P S L)
theorem qv_sipush {n : Int} {v : Int32} (hd : decode d.2.1 pc = .ok (.sipush n, 3)) (hv : (Int16.ofInt n).toInt32 = v) (k : qv_J l g d (pc + 3) lo (.int v :: st) h R) : qv_J l g d pc lo (st) h R := by
  intro p e s m args below meth c A H locs ls X P S L
  exact lv_sipush X.1 X.2.1 hd hv (k p e s m args below meth c A H locs ls X P S L)
theorem qv_lconst {n : Fin 2} {v : Int64} (hd : decode d.2.1 pc = .ok (.lconst n, 1)) (hv : Int64.ofNat (n : Nat) = v) (k : qv_J l g d (pc + 1) lo (.long v :: st) h R) : qv_J l g d pc lo (st) h R := by
  intro p e s m args below meth c A H locs ls X P S L
  exact lv_lconst X.1 X.2.1 hd hv (k p e s m args below meth c A H locs ls X P S L)
theorem qv_iadd {x y : Int32} (hd : decode d.2.1 pc = .ok (.iadd, 1)) (k : qv_J l g d (pc + 1) lo (.int (x + y) :: st) h R) : qv_J l g d pc lo (.int y :: .int x :: st) h R := by
  intro p e s m args below meth c A H locs ls X P S L
  exact lv_iadd X.1 X.2.1 hd (k p e s m args below meth c A H locs ls X P S L)
theorem qv_isub {x y : Int32} (hd : decode d.2.1 pc = .ok (.isub, 1)) (k : qv_J l g d (pc + 1) lo (.int (x - y) :: st) h R) : qv_J l g d pc lo (.int y :: .int x :: st) h R := by
  intro p e s m args below meth c A H locs ls X P S L
  exact lv_isub X.1 X.2.1 hd (k p e s m args below meth c A H locs ls X P S L)
theorem qv_imul {x y : Int32} (hd : decode d.2.1 pc = .ok (.imul, 1)) (k : qv_J l g d (pc + 1) lo (.int (x * y) :: st) h R) : qv_J l g d pc lo (.int y :: .int x :: st) h R := by
  intro p e s m args below meth c A H locs ls X P S L
  exact lv_imul X.1 X.2.1 hd (k p e s m args below meth c A H locs ls X P S L)
theorem qv_iand {x y : Int32} (hd : decode d.2.1 pc = .ok (.iand, 1)) (k : qv_J l g d (pc + 1) lo (.int (x &&& y) :: st) h R) : qv_J l g d pc lo (.int y :: .int x :: st) h R := by
  intro p e s m args below meth c A H locs ls X P S L
  exact lv_iand X.1 X.2.1 hd (k p e s m args below meth c A H locs ls X P S L)
theorem qv_ior {x y : Int32} (hd : decode d.2.1 pc = .ok (.ior, 1)) (k : qv_J l g d (pc + 1) lo (.int (x ||| y) :: st) h R) : qv_J l g d pc lo (.int y :: .int x :: st) h R := by
  intro p e s m args below meth c A H locs ls X P S L
  exact lv_ior X.1 X.2.1 hd (k p e s m args below meth c A H locs ls X P S L)
theorem qv_ixor {x y : Int32} (hd : decode d.2.1 pc = .ok (.ixor, 1)) (k : qv_J l g d (pc + 1) lo (.int (x ^^^ y) :: st) h R) : qv_J l g d pc lo (.int y :: .int x :: st) h R := by
  intro p e s m args below meth c A H locs ls X P S L
  exact lv_ixor X.1 X.2.1 hd (k p e s m args below meth c A H locs ls X P S L)
theorem qv_ishl {x y : Int32} (hd : decode d.2.1 pc = .ok (.ishl, 1)) (k : qv_J l g d (pc + 1) lo (.int (x <<< (y &&& 31)) :: st) h R) : qv_J l g d pc lo (.int y :: .int x :: st) h R := by
  intro p e s m args below meth c A H locs ls X P S L
  exact lv_ishl X.1 X.2.1 hd (k p e s m args below meth c A H locs ls X P S L)
theorem qv_ishr {x y : Int32} (hd : decode d.2.1 pc = .ok (.ishr, 1)) (k : qv_J l g d (pc + 1) lo (.int (x >>> (y &&& 31)) :: st) h R) : qv_J l g d pc lo (.int y :: .int x :: st) h R := by
  intro p e s m args below meth c A H locs ls X P S L
  exact lv_ishr X.1 X.2.1 hd (k p e s m args below meth c A H locs ls X P S L)
theorem qv_iushr {x y : Int32} (hd : decode d.2.1 pc = .ok (.iushr, 1)) (k : qv_J l g d (pc + 1) lo (.int ((x.toUInt32 >>> (y.toUInt32 &&& Int32.toUInt32 31)).toInt32) :: st) h R) : qv_J l g d pc lo (.int y :: .int x :: st) h R := by
  intro p e s m args below meth c A H locs ls X P S L
  exact lv_iushr X.1 X.2.1 hd rfl (k p e s m args below meth c A H locs ls X P S L)
theorem qv_idiv {x y : Int32} (hd : decode d.2.1 pc = .ok (.idiv, 1)) (hne : ¬ y = 0) (k : qv_J l g d (pc + 1) lo (.int (x / y) :: st) h R) : qv_J l g d pc lo (.int y :: .int x :: st) h R := by
  intro p e s m args below meth c A H locs ls X P S L
  exact lv_idiv X.1 X.2.1 hd hne (k p e s m args below meth c A H locs ls X P S L)
theorem qv_irem {x y : Int32} (hd : decode d.2.1 pc = .ok (.irem, 1)) (hne : ¬ y = 0) (k : qv_J l g d (pc + 1) lo (.int (x - x / y * y) :: st) h R) : qv_J l g d pc lo (.int y :: .int x :: st) h R := by
  intro p e s m args below meth c A H locs ls X P S L
  exact lv_irem X.1 X.2.1 hd hne (k p e s m args below meth c A H locs ls X P S L)
theorem qv_ineg {x : Int32} (hd : decode d.2.1 pc = .ok (.ineg, 1)) (k : qv_J l g d (pc + 1) lo (.int (-x) :: st) h R) : qv_J l g d pc lo (.int x :: st) h R := by
  intro p e s m args below meth c A H locs ls X P S L
  exact lv_ineg X.1 X.2.1 hd (k p e s m args below meth c A H locs ls X P S L)
theorem qv_i2c {x : Int32} (hd : decode d.2.1 pc = .ok (.i2c, 1)) (k : qv_J l g d (pc + 1) lo (.int ((x.toUInt32 % 65536).toInt32) :: st) h R) : qv_J l g d pc lo (.int x :: st) h R := by
  intro p e s m args below meth c A H locs ls X P S L
  exact lv_i2c X.1 X.2.1 hd rfl (k p e s m args below meth c A H locs ls X P S L)
theorem qv_land {x y : Int64} (hd : decode d.2.1 pc = .ok (.land, 1)) (k : qv_J l g d (pc + 1) lo (.long (x &&& y) :: st) h R) : qv_J l g d pc lo (.long y :: .long x :: st) h R := by
  intro p e s m args below meth c A H locs ls X P S L
  exact lv_land X.1 X.2.1 hd (k p e s m args below meth c A H locs ls X P S L)
theorem qv_lor {x y : Int64} (hd : decode d.2.1 pc = .ok (.lor, 1)) (k : qv_J l g d (pc + 1) lo (.long (x ||| y) :: st) h R) : qv_J l g d pc lo (.long y :: .long x :: st) h R := by
  intro p e s m args below meth c A H locs ls X P S L
  exact lv_lor X.1 X.2.1 hd (k p e s m args below meth c A H locs ls X P S L)
theorem qv_lshl {x : Int64} {y : Int32} (hd : decode d.2.1 pc = .ok (.lshl, 1)) (k : qv_J l g d (pc + 1) lo (.long (x <<< (y.toInt64 &&& 63)) :: st) h R) : qv_J l g d pc lo (.int y :: .long x :: st) h R := by
  intro p e s m args below meth c A H locs ls X P S L
  exact lv_lshl X.1 X.2.1 hd rfl (k p e s m args below meth c A H locs ls X P S L)
theorem qv_lcmp {x y : Int64} (hd : decode d.2.1 pc = .ok (.lcmp, 1)) (k : qv_J l g d (pc + 1) lo (.int (lg_cmp x y) :: st) h R) : qv_J l g d pc lo (.long y :: .long x :: st) h R := by
  intro p e s m args below meth c A H locs ls X P S L
  exact W.lcmp X.1 X.2.1 hd (k p e s m args below meth c A H locs ls X P S L)
theorem qv_cat (ad : Nat → Nat) (v : Value) : (qv_rv ad v).category = v.category := by cases v <;> rfl
theorem qv_dup {v : Value} (hd : decode d.2.1 pc = .ok (.dup, 1)) (hv : v.category = 1) (k : qv_J l g d (pc + 1) lo (v :: v :: st) h R) : qv_J l g d pc lo (v :: st) h R := by
  intro p e s m args below meth c A H locs ls X P S L
  exact lv_dup X.1 X.2.1 hd ((qv_cat _ _).trans hv) (k p e s m args below meth c A H locs ls X P S L)
theorem qv_dup2 {v u : Value} (hd : decode d.2.1 pc = .ok (.dup2, 1)) (hv : v.category = 1) (hu : u.category = 1) (k : qv_J l g d (pc + 1) lo (v :: u :: v :: u :: st) h R) : qv_J l g d pc lo (v :: u :: st) h R := by
  intro p e s m args below meth c A H locs ls X P S L
  exact lv_dup2_11 X.1 X.2.1 hd ((qv_cat _ _).trans hv) ((qv_cat _ _).trans hu) (k p e s m args below meth c A H locs ls X P S L)
theorem qv_pop {v : Value} (hd : decode d.2.1 pc = .ok (.pop, 1)) (hv : v.category = 1) (k : qv_J l g d (pc + 1) lo (st) h R) : qv_J l g d pc lo (v :: st) h R := by
  intro p e s m args below meth c A H locs ls X P S L
  exact lv_pop X.1 X.2.1 hd ((qv_cat _ _).trans hv) (k p e s m args below meth c A H locs ls X P S L)
theorem qv_iload_n {kk : Fin 4} {x : Int32} {i : Nat} (hd : decode d.2.1 pc = .ok (.iload_n kk, 1)) (hi : (kk : Nat) = i) (hl : lo[i]? = some (some (.int x))) (k : qv_J l g d (pc + 1) lo (.int x :: st) h R) : qv_J l g d pc lo st h R := by
  intro p e s m args below meth c A H locs ls X P S L
  exact lv_iload_n X.1 X.2.1 hd hi (L.2.2 _ _ hl) (k p e s m args below meth c A H locs ls X P S L)
theorem qv_iload {x : Int32} {i : Nat} (hd : decode d.2.1 pc = .ok (.iload i, 2)) (hl : lo[i]? = some (some (.int x))) (k : qv_J l g d (pc + 2) lo (.int x :: st) h R) : qv_J l g d pc lo st h R := by
  intro p e s m args below meth c A H locs ls X P S L
  exact lv_iload X.1 X.2.1 hd (L.2.2 _ _ hl) (k p e s m args below meth c A H locs ls X P S L)
theorem qv_lload_n {kk : Fin 4} {x : Int64} {i : Nat} (hd : decode d.2.1 pc = .ok (.lload_n kk, 1)) (hi : (kk : Nat) = i) (hl : lo[i]? = some (some (.long x))) (k : qv_J l g d (pc + 1) lo (.long x :: st) h R) : qv_J l g d pc lo st h R := by
  intro p e s m args below meth c A H locs ls X P S L
  exact lv_lload_n X.1 X.2.1 hd hi (L.2.2 _ _ hl) (k p e s m args below meth c A H locs ls X P S L)
theorem qv_lload {x : Int64} {i : Nat} (hd : decode d.2.1 pc = .ok (.lload i, 2)) (hl : lo[i]? = some (some (.long x))) (k : qv_J l g d (pc + 2) lo (.long x :: st) h R) : qv_J l g d pc lo st h R := by
  intro p e s m args below meth c A H locs ls X P S L
  exact lv_lload X.1 X.2.1 hd (L.2.2 _ _ hl) (k p e s m args below meth c A H locs ls X P S L)
theorem qv_aload_n {kk : Fin 4} {x : Nat} {i : Nat} (hd : decode d.2.1 pc = .ok (.aload_n kk, 1)) (hi : (kk : Nat) = i) (hl : lo[i]? = some (some (.ref x))) (k : qv_J l g d (pc + 1) lo (.ref x :: st) h R) : qv_J l g d pc lo st h R := by
  intro p e s m args below meth c A H locs ls X P S L
  exact lv_aload_n X.1 X.2.1 hd hi (L.2.2 _ _ hl) (k p e s m args below meth c A H locs ls X P S L)
theorem qv_aload {x : Nat} {i : Nat} (hd : decode d.2.1 pc = .ok (.aload i, 2)) (hl : lo[i]? = some (some (.ref x))) (k : qv_J l g d (pc + 2) lo (.ref x :: st) h R) : qv_J l g d pc lo st h R := by
  intro p e s m args below meth c A H locs ls X P S L
  exact lv_aload X.1 X.2.1 hd (L.2.2 _ _ hl) (k p e s m args below meth c A H locs ls X P S L)
/-- the locals' facts as the kit's list -/
def qv_al (ad : Nat → Nat) (lo : List (Option Value)) : List (Nat × Value) := (List.range lo.length).filterMap (fun i => match lo[i]? with
  | some (some v) => some (i, qv_rv ad v)
  | _ => none)
theorem qv_al_mem {ad : Nat → Nat} {lo : List (Option Value)} {q : Nat × Value} : q ∈ qv_al ad lo ↔ ∃ v, lo[q.1]? = some (some v) ∧ q.2 = qv_rv ad v := by
  unfold qv_al
  rw [List.mem_filterMap]
  constructor
  · rintro ⟨i, -, hi⟩
    split at hi
    · rename_i v hv
      cases hi
      exact ⟨v, hv, rfl⟩
    · cases hi
  · rintro ⟨v, hv, e⟩
    refine ⟨q.1, List.mem_range.mpr ?_, ?_⟩
    · exact (List.getElem?_eq_some_iff.mp hv).1
    · rw [hv]
      show some (q.1, qv_rv ad v) = some q
      rw [← e]
theorem qv_al_has {ls : Array Slot} {nL : Nat} {ad : Nat → Nat} {lo : List (Option Value)} (L : qv_L ls nL ad lo) : lv_has ls nL (qv_al ad lo) := by
  refine ⟨L.1, L.2.1, fun q hq => ?_⟩
  obtain ⟨v, h1, h2⟩ := qv_al_mem.mp hq
  rw [h2]
  exact L.2.2 _ _ h1
/-- no long stands just ahead of place i -/
def qv_n2 (lo : List (Option Value)) (i : Nat) : Bool := match lo[i - 1]? with
  | some (some v) => i == 0 || v.category == 1
  | _ => true
theorem qv_st1 {ls : Array Slot} {nL : Nat} {ad : Nat → Nat} {lo : List (Option Value)} {i : Nat} {v : Value} (h2 : qv_n2 lo i = true) (hi : i < lo.length) (L : lv_has ls nL ((i, qv_rv ad v) :: (qv_al ad lo).filter (fun q => !(q.1 == i) && !(q.1 + 1 == i && q.2.category == 2)))) : qv_L ls nL ad (lo.set i (some v)) := by
  refine ⟨L.1, L.2.1, fun j u hj => ?_⟩
  by_cases hji : j = i
  · subst hji
    rw [List.getElem?_set_self hi] at hj
    cases hj
    exact L.2.2 _ List.mem_cons_self
  · rw [List.getElem?_set_ne (Ne.symm hji)] at hj
    refine L.2.2 (j, qv_rv ad u) (List.mem_cons_of_mem _ (List.mem_filter.mpr ⟨qv_al_mem.mpr ⟨u, hj, rfl⟩, ?_⟩))
    have h3 : ¬ (j + 1 = i ∧ u.category = 2) := by
      rintro ⟨rfl, hc⟩
      unfold qv_n2 at h2
      simp [hj, hc] at h2
    have h4 : (qv_rv ad u).category = u.category := qv_cat ad u
    simp [hji, h4]
    omega
theorem qv_st2 {ls : Array Slot} {nL : Nat} {ad : Nat → Nat} {lo : List (Option Value)} {i : Nat} {v : Value} (h2 : qv_n2 lo i = true) (hi : i < lo.length) (L : lv_has ls nL ((i, qv_rv ad v) :: (qv_al ad lo).filter (fun q => !(q.1 == i) && (!(q.1 == i + 1) && !(q.1 + 1 == i && q.2.category == 2))))) : qv_L ls nL ad ((lo.set i (some v)).set (i + 1) none) := by
  refine ⟨L.1, L.2.1, fun j u hj => ?_⟩
  by_cases hj1 : j = i + 1
  · subst hj1
    by_cases hl : i + 1 < (lo.set i (some v)).length
    · rw [List.getElem?_set_self hl] at hj
      cases hj
    · rw [List.getElem?_eq_none (by rw [List.length_set]; omega)] at hj
      cases hj
  · rw [List.getElem?_set_ne (Ne.symm hj1)] at hj
    by_cases hji : j = i
    · subst hji
      rw [List.getElem?_set_self hi] at hj
      cases hj
      exact L.2.2 _ List.mem_cons_self
    · rw [List.getElem?_set_ne (Ne.symm hji)] at hj
      refine L.2.2 (j, qv_rv ad u) (List.mem_cons_of_mem _ (List.mem_filter.mpr ⟨qv_al_mem.mpr ⟨u, hj, rfl⟩, ?_⟩))
      have h3 : ¬ (j + 1 = i ∧ u.category = 2) := by
        rintro ⟨rfl, hc⟩
        unfold qv_n2 at h2
        simp [hj, hc] at h2
      have h4 : (qv_rv ad u).category = u.category := qv_cat ad u
      simp [hji, hj1, h4]
      omega
theorem qv_istore_n {kk : Fin 4} {x : Int32} {i : Nat} {lo2 : List (Option Value)} (hd : decode d.2.1 pc = .ok (.istore_n kk, 1)) (hi : (kk : Nat) = i) (hn : i < d.2.2.1) (h2 : qv_n2 lo i = true) (hi2 : i < lo.length) (hlo : lo.set i (some (.int x)) = lo2) (k : qv_J l g d (pc + 1) lo2 st h R) : qv_J l g d pc lo (.int x :: st) h R := by
  intro p e s m args below meth c A H locs ls X P S L
  exact lv_istore_n X.1 X.2.1 hd hi (qv_al_has L) hn rfl (fun ls' hl => k p e s m args below meth c A H locs ls' X P S (hlo ▸ qv_st1 (v := .int x) h2 hi2 hl))
theorem qv_istore {x : Int32} {i : Nat} {lo2 : List (Option Value)} (hd : decode d.2.1 pc = .ok (.istore i, 2)) (hn : i < d.2.2.1) (h2 : qv_n2 lo i = true) (hi2 : i < lo.length) (hlo : lo.set i (some (.int x)) = lo2) (k : qv_J l g d (pc + 2) lo2 st h R) : qv_J l g d pc lo (.int x :: st) h R := by
  intro p e s m args below meth c A H locs ls X P S L
  exact lv_istore X.1 X.2.1 hd (qv_al_has L) hn rfl (fun ls' hl => k p e s m args below meth c A H locs ls' X P S (hlo ▸ qv_st1 (v := .int x) h2 hi2 hl))
theorem qv_astore_n {kk : Fin 4} {x : Nat} {i : Nat} {lo2 : List (Option Value)} (hd : decode d.2.1 pc = .ok (.astore_n kk, 1)) (hi : (kk : Nat) = i) (hn : i < d.2.2.1) (h2 : qv_n2 lo i = true) (hi2 : i < lo.length) (hlo : lo.set i (some (.ref x)) = lo2) (k : qv_J l g d (pc + 1) lo2 st h R) : qv_J l g d pc lo (.ref x :: st) h R := by
  intro p e s m args below meth c A H locs ls X P S L
  exact lv_astore_n X.1 X.2.1 hd hi (qv_al_has L) hn rfl (fun ls' hl => k p e s m args below meth c A H locs ls' X P S (hlo ▸ qv_st1 (v := .ref x) h2 hi2 hl))
theorem qv_astore {x : Nat} {i : Nat} {lo2 : List (Option Value)} (hd : decode d.2.1 pc = .ok (.astore i, 2)) (hn : i < d.2.2.1) (h2 : qv_n2 lo i = true) (hi2 : i < lo.length) (hlo : lo.set i (some (.ref x)) = lo2) (k : qv_J l g d (pc + 2) lo2 st h R) : qv_J l g d pc lo (.ref x :: st) h R := by
  intro p e s m args below meth c A H locs ls X P S L
  exact lv_astore X.1 X.2.1 hd (qv_al_has L) hn rfl (fun ls' hl => k p e s m args below meth c A H locs ls' X P S (hlo ▸ qv_st1 (v := .ref x) h2 hi2 hl))
theorem qv_lstore_n {kk : Fin 4} {x : Int64} {i : Nat} {lo2 : List (Option Value)} (hd : decode d.2.1 pc = .ok (.lstore_n kk, 1)) (hi : (kk : Nat) = i) (hn : i + 1 < d.2.2.1) (h2 : qv_n2 lo i = true) (hi2 : i < lo.length) (hlo : (lo.set i (some (.long x))).set (i + 1) none = lo2) (k : qv_J l g d (pc + 1) lo2 st h R) : qv_J l g d pc lo (.long x :: st) h R := by
  intro p e s m args below meth c A H locs ls X P S L
  exact lv_lstore_n X.1 X.2.1 hd hi (qv_al_has L) hn rfl (fun ls' hl => k p e s m args below meth c A H locs ls' X P S (hlo ▸ qv_st2 (v := .long x) h2 hi2 hl))
theorem qv_lstore {x : Int64} {i : Nat} {lo2 : List (Option Value)} (hd : decode d.2.1 pc = .ok (.lstore i, 2)) (hn : i + 1 < d.2.2.1) (h2 : qv_n2 lo i = true) (hi2 : i < lo.length) (hlo : (lo.set i (some (.long x))).set (i + 1) none = lo2) (k : qv_J l g d (pc + 2) lo2 st h R) : qv_J l g d pc lo (.long x :: st) h R := by
  intro p e s m args below meth c A H locs ls X P S L
  exact lv_lstore X.1 X.2.1 hd (qv_al_has L) hn rfl (fun ls' hl => k p e s m args below meth c A H locs ls' X P S (hlo ▸ qv_st2 (v := .long x) h2 hi2 hl))
theorem qv_iinc {i : Nat} {n : Int} {x v : Int32} {lo2 : List (Option Value)} (hd : decode d.2.1 pc = .ok (.iinc i n, 3)) (hl : lo[i]? = some (some (.int x))) (hv : x + Int32.ofInt n = v) (hn : i < d.2.2.1) (h2 : qv_n2 lo i = true) (hlo : lo.set i (some (.int v)) = lo2) (k : qv_J l g d (pc + 3) lo2 st h R) : qv_J l g d pc lo st h R := by
  intro p e s m args below meth c A H locs ls X P S L
  obtain ⟨j, hj⟩ := List.getElem?_of_mem (qv_al_mem (ad := qv_ad g) (q := (i, .int x)) |>.mpr ⟨_, hl, rfl⟩)
  exact lv_iinc X.1 X.2.1 hd (qv_al_has L) hj hv hn rfl (fun ls' hl2 => k p e s m args below meth c A H locs ls' X P S (hlo ▸ qv_st1 (v := .int v) h2 (List.getElem?_eq_some_iff.mp hl).1 hl2))
theorem qv_goto {off : Int} {tgt : Nat} (hd : decode d.2.1 pc = .ok (.goto off, 3)) (ht : (pc : Int) + off = (tgt : Int)) (k : qv_J l g d tgt lo st h R) : qv_J l g d pc lo st h R := by
  intro p e s m args below meth c A H locs ls X P S L
  exact lv_goto X.1 X.2.1 hd ht (k p e s m args below meth c A H locs ls X P S L)
theorem qv_to {pc2 : Nat} {lo2 : List (Option Value)} {st2 : List Value} {h2 : qv_H} (k : qv_J l g d pc2 lo2 st2 h2 R) (e1 : pc = pc2) (e2 : lo = lo2) (e3 : st = st2) (e4 : h = h2) : qv_J l g d pc lo st h R := by
  subst e1 e2 e3 e4
  exact k
theorem qv_if_eq {x : Int32} {off : Int} {tgt : Nat} (hd : decode d.2.1 pc = .ok (.ifCond .eq off, 3)) (ht : (pc : Int) + off = (tgt : Int)) (kt : x = 0 → qv_J l g d tgt lo st h R) (kf : ¬ (x = 0) → qv_J l g d (pc + 3) lo st h R) : qv_J l g d pc lo (.int x :: st) h R := by
  intro p e s m args below meth c A H locs ls X P S L
  exact lv_if_eq X.1 X.2.1 hd ht (fun q => kt q p e s m args below meth c A H locs ls X P S L) (fun q => kf q p e s m args below meth c A H locs ls X P S L)
theorem qv_if_ne {x : Int32} {off : Int} {tgt : Nat} (hd : decode d.2.1 pc = .ok (.ifCond .ne off, 3)) (ht : (pc : Int) + off = (tgt : Int)) (kt : ¬ x = 0 → qv_J l g d tgt lo st h R) (kf : x = 0 → qv_J l g d (pc + 3) lo st h R) : qv_J l g d pc lo (.int x :: st) h R := by
  intro p e s m args below meth c A H locs ls X P S L
  exact lv_if_ne X.1 X.2.1 hd ht (fun q => kt q p e s m args below meth c A H locs ls X P S L) (fun q => kf q p e s m args below meth c A H locs ls X P S L)
theorem qv_if_lt {x : Int32} {off : Int} {tgt : Nat} (hd : decode d.2.1 pc = .ok (.ifCond .lt off, 3)) (ht : (pc : Int) + off = (tgt : Int)) (kt : x < 0 → qv_J l g d tgt lo st h R) (kf : ¬ (x < 0) → qv_J l g d (pc + 3) lo st h R) : qv_J l g d pc lo (.int x :: st) h R := by
  intro p e s m args below meth c A H locs ls X P S L
  exact lv_if_lt X.1 X.2.1 hd ht (fun q => kt q p e s m args below meth c A H locs ls X P S L) (fun q => kf q p e s m args below meth c A H locs ls X P S L)
theorem qv_if_ge {x : Int32} {off : Int} {tgt : Nat} (hd : decode d.2.1 pc = .ok (.ifCond .ge off, 3)) (ht : (pc : Int) + off = (tgt : Int)) (kt : 0 ≤ x → qv_J l g d tgt lo st h R) (kf : ¬ (0 ≤ x) → qv_J l g d (pc + 3) lo st h R) : qv_J l g d pc lo (.int x :: st) h R := by
  intro p e s m args below meth c A H locs ls X P S L
  exact lv_if_ge X.1 X.2.1 hd ht (fun q => kt q p e s m args below meth c A H locs ls X P S L) (fun q => kf q p e s m args below meth c A H locs ls X P S L)
theorem qv_if_gt {x : Int32} {off : Int} {tgt : Nat} (hd : decode d.2.1 pc = .ok (.ifCond .gt off, 3)) (ht : (pc : Int) + off = (tgt : Int)) (kt : 0 < x → qv_J l g d tgt lo st h R) (kf : ¬ (0 < x) → qv_J l g d (pc + 3) lo st h R) : qv_J l g d pc lo (.int x :: st) h R := by
  intro p e s m args below meth c A H locs ls X P S L
  exact lv_if_gt X.1 X.2.1 hd ht (fun q => kt q p e s m args below meth c A H locs ls X P S L) (fun q => kf q p e s m args below meth c A H locs ls X P S L)
theorem qv_if_le {x : Int32} {off : Int} {tgt : Nat} (hd : decode d.2.1 pc = .ok (.ifCond .le off, 3)) (ht : (pc : Int) + off = (tgt : Int)) (kt : x ≤ 0 → qv_J l g d tgt lo st h R) (kf : ¬ (x ≤ 0) → qv_J l g d (pc + 3) lo st h R) : qv_J l g d pc lo (.int x :: st) h R := by
  intro p e s m args below meth c A H locs ls X P S L
  exact lv_if_le X.1 X.2.1 hd ht (fun q => kt q p e s m args below meth c A H locs ls X P S L) (fun q => kf q p e s m args below meth c A H locs ls X P S L)
theorem qv_icmp_eq {x y : Int32} {off : Int} {tgt : Nat} (hd : decode d.2.1 pc = .ok (.if_icmp .eq off, 3)) (ht : (pc : Int) + off = (tgt : Int)) (kt : x = y → qv_J l g d tgt lo st h R) (kf : ¬ (x = y) → qv_J l g d (pc + 3) lo st h R) : qv_J l g d pc lo (.int y :: .int x :: st) h R := by
  intro p e s m args below meth c A H locs ls X P S L
  exact lv_icmp_eq X.1 X.2.1 hd ht (fun q => kt q p e s m args below meth c A H locs ls X P S L) (fun q => kf q p e s m args below meth c A H locs ls X P S L)
theorem qv_icmp_ne {x y : Int32} {off : Int} {tgt : Nat} (hd : decode d.2.1 pc = .ok (.if_icmp .ne off, 3)) (ht : (pc : Int) + off = (tgt : Int)) (kt : ¬ x = y → qv_J l g d tgt lo st h R) (kf : x = y → qv_J l g d (pc + 3) lo st h R) : qv_J l g d pc lo (.int y :: .int x :: st) h R := by
  intro p e s m args below meth c A H locs ls X P S L
  exact lv_icmp_ne X.1 X.2.1 hd ht (fun q => kt q p e s m args below meth c A H locs ls X P S L) (fun q => kf q p e s m args below meth c A H locs ls X P S L)
theorem qv_icmp_lt {x y : Int32} {off : Int} {tgt : Nat} (hd : decode d.2.1 pc = .ok (.if_icmp .lt off, 3)) (ht : (pc : Int) + off = (tgt : Int)) (kt : x < y → qv_J l g d tgt lo st h R) (kf : ¬ (x < y) → qv_J l g d (pc + 3) lo st h R) : qv_J l g d pc lo (.int y :: .int x :: st) h R := by
  intro p e s m args below meth c A H locs ls X P S L
  exact lv_icmp_lt X.1 X.2.1 hd ht (fun q => kt q p e s m args below meth c A H locs ls X P S L) (fun q => kf q p e s m args below meth c A H locs ls X P S L)
theorem qv_icmp_ge {x y : Int32} {off : Int} {tgt : Nat} (hd : decode d.2.1 pc = .ok (.if_icmp .ge off, 3)) (ht : (pc : Int) + off = (tgt : Int)) (kt : y ≤ x → qv_J l g d tgt lo st h R) (kf : ¬ (y ≤ x) → qv_J l g d (pc + 3) lo st h R) : qv_J l g d pc lo (.int y :: .int x :: st) h R := by
  intro p e s m args below meth c A H locs ls X P S L
  exact lv_icmp_ge X.1 X.2.1 hd ht (fun q => kt q p e s m args below meth c A H locs ls X P S L) (fun q => kf q p e s m args below meth c A H locs ls X P S L)
theorem qv_icmp_gt {x y : Int32} {off : Int} {tgt : Nat} (hd : decode d.2.1 pc = .ok (.if_icmp .gt off, 3)) (ht : (pc : Int) + off = (tgt : Int)) (kt : y < x → qv_J l g d tgt lo st h R) (kf : ¬ (y < x) → qv_J l g d (pc + 3) lo st h R) : qv_J l g d pc lo (.int y :: .int x :: st) h R := by
  intro p e s m args below meth c A H locs ls X P S L
  exact lv_icmp_gt X.1 X.2.1 hd ht (fun q => kt q p e s m args below meth c A H locs ls X P S L) (fun q => kf q p e s m args below meth c A H locs ls X P S L)
theorem qv_icmp_le {x y : Int32} {off : Int} {tgt : Nat} (hd : decode d.2.1 pc = .ok (.if_icmp .le off, 3)) (ht : (pc : Int) + off = (tgt : Int)) (kt : x ≤ y → qv_J l g d tgt lo st h R) (kf : ¬ (x ≤ y) → qv_J l g d (pc + 3) lo st h R) : qv_J l g d pc lo (.int y :: .int x :: st) h R := by
  intro p e s m args below meth c A H locs ls X P S L
  exact lv_icmp_le X.1 X.2.1 hd ht (fun q => kt q p e s m args below meth c A H locs ls X P S L) (fun q => kf q p e s m args below meth c A H locs ls X P S L)
theorem qv_tsIn {dflt lw hi : Int} {offs : Array Int} {len : Nat} {x : Int32} {off : Int} {tgt : Nat} (k0 : Int32) (hx : x = k0) (hd : decode d.2.1 pc = .ok (.tableswitch dflt lw hi offs, len)) (h1 : ¬ k0.toInt < lw) (h2 : ¬ hi < k0.toInt) (ho : offs[(k0.toInt - lw).toNat]? = some off) (ht : (pc : Int) + off = (tgt : Int)) (k : qv_J l g d tgt lo st h R) : qv_J l g d pc lo (.int x :: st) h R := by
  subst hx
  intro p e s m args below meth c A H locs ls X P S L
  exact lv_tableIn X.1 X.2.1 hd h1 h2 ho ht (k p e s m args below meth c A H locs ls X P S L)
theorem qv_tsOut {dflt lw hi : Int} {offs : Array Int} {len : Nat} {x : Int32} {tgt : Nat} (hd : decode d.2.1 pc = .ok (.tableswitch dflt lw hi offs, len)) (hx : x.toInt < lw ∨ hi < x.toInt) (ht : (pc : Int) + dflt = (tgt : Int)) (k : qv_J l g d tgt lo st h R) : qv_J l g d pc lo (.int x :: st) h R := by
  intro p e s m args below meth c A H locs ls X P S L
  exact lv_tableOut X.1 X.2.1 hd hx ht (k p e s m args below meth c A H locs ls X P S L)
theorem qv_ldc {index : Nat} {v : Int32} (hc : Cond.constant d.1.cls index v ∈ qv_WS) (hd : decode d.2.1 pc = .ok (.ldc index, 2)) (k : qv_J l g d (pc + 2) lo (.int v :: st) h R) : qv_J l g d pc lo st h R := by
  intro p e s m args below meth c A H locs ls X P S L
  exact lv_ldc X.1 X.2.1 X.2.2.2.1 (X.2.2.2.2.1 _ (List.mem_cons_of_mem _ hc)) hd (k p e s m args below meth c A H locs ls X P S L)
theorem qv_ldcw {index : Nat} {v : Int32} (hc : Cond.constant d.1.cls index v ∈ qv_WS) (hd : decode d.2.1 pc = .ok (.ldc_w index, 3)) (k : qv_J l g d (pc + 3) lo (.int v :: st) h R) : qv_J l g d pc lo st h R := by
  intro p e s m args below meth c A H locs ls X P S L
  exact lv_ldcw X.1 X.2.1 X.2.2.2.1 (X.2.2.2.2.1 _ (List.mem_cons_of_mem _ hc)) hd (k p e s m args below meth c A H locs ls X P S L)
/-- a text's ldc: the ref of its place -/
theorem qv_ldcs (i : Nat) (hi : i < 8) {index : Nat} (hix : qv_ix.getD i 0 = index) (ho : d.1.cls = "TrueOneWay$Text") (hd : decode d.2.1 pc = .ok (.ldc index, 2)) (k : qv_J l g d (pc + 2) lo (.ref (1000 + i) :: st) h R) : qv_J l g d pc lo st h R := by
  intro p e s m args below meth c A H locs ls X P S L
  obtain ⟨h1, h2, h3, h4⟩ := X.2.2.2.2.2.2.2.2.2
  subst hix
  have h5 := h2 i hi
  rw [← ho] at h5
  exact va_ldcS X.1 X.2.1 X.2.2.2.1 h5 hd (k p e s m args below meth c A H locs ls X P S L)
end QV
end
section
/-! ===== 05: reads and writes of the picture, returns, calls ===== -/
def qv_gI (h : qv_H) (ci o k : Nat) : Option Int32 := match h o with
  | .inr (c, fs) => if c = ci then (match fs[k]? with
    | some (.int v) => some v
    | _ => none) else none
  | _ => none
def qv_gR (h : qv_H) (ci o k : Nat) : Option Nat := match h o with
  | .inr (c, fs) => if c = ci then (match fs[k]? with
    | some (.ref v) => some v
    | _ => none) else none
  | _ => none
def qv_pI (h : qv_H) (ci o k : Nat) (v : Int32) : Option qv_H := match h o with
  | .inr (c, fs) => if c = ci ∧ k < fs.length then some (qv_set h o (.inr (c, fs.set k (.int v)))) else none
  | _ => none
def qv_pZ (h : qv_H) (ci o k : Nat) (v : Int32) : Option qv_H := if v &&& 1 = v then qv_pI h ci o k v else none
def qv_ob (h : qv_H) (ci o : Nat) : Option Unit := match h o with
  | .inr (c, fs) => if c = ci ∧ ¬ fs.length = 0 then some () else none
  | _ => none
def qv_aI (h : qv_H) (z : Bool) (o : Nat) (i : Int32) : Option Int32 := match h o with
  | .inl (b, n, f) => if b = z ∧ ¬ (i < 0 ∨ n ≤ i.toNatClampNeg) then some (f i.toNatClampNeg) else none
  | _ => none
def qv_sI (h : qv_H) (z : Bool) (o : Nat) (i x : Int32) : Option qv_H := match h o with
  | .inl (b, n, f) => if b = z ∧ ¬ (i < 0 ∨ n ≤ i.toNatClampNeg) then some (qv_set h o (.inl (b, n, upd f i.toNatClampNeg (cond z (x &&& 1) x)))) else none
  | _ => none
def qv_ln (h : qv_H) (o : Nat) : Option Int32 := match h o with
  | .inl (_, n, _) => some (Int32.ofNat n)
  | _ => none
/-- what an answer of a boolean method must be -/
def qv_b1 (v : Int32) : Option Int32 := if v &&& 1 = v then some v else none
def qv_dv (x y : Int32) : Option Int32 := if y = 0 then none else some (x / y)
def qv_rem (x y : Int32) : Option Int32 := if y = 0 then none else some (x - x / y * y)
theorem qv_bind {α β : Type} {x : Option α} {f : α → Option β} {r : β} (h : x.bind f = some r) : ∃ a, x = some a ∧ f a = some r := by
  cases x with
  | none => cases h
  | some a => exact ⟨a, rfl, h⟩
theorem qv_pos {α : Type} {c : Prop} [Decidable c] {a b r : α} (hc : c) (h : (if c then a else b) = r) : a = r := by rw [if_pos hc] at h; exact h
theorem qv_neg {α : Type} {c : Prop} [Decidable c] {a b r : α} (hc : ¬ c) (h : (if c then a else b) = r) : b = r := by rw [if_neg hc] at h; exact h
theorem qv_b1_of {v r : Int32} (h : qv_b1 v = some r) : v &&& 1 = v ∧ v = r := by
  unfold qv_b1 at h
  split at h
  · cases h
    exact ⟨by assumption, rfl⟩
  · cases h
theorem qv_dv_of {x y r : Int32} (h : qv_dv x y = some r) : ¬ y = 0 ∧ x / y = r := by
  unfold qv_dv at h
  split at h
  · cases h
  · cases h
    exact ⟨by assumption, rfl⟩
theorem qv_rem_of {x y r : Int32} (h : qv_rem x y = some r) : ¬ y = 0 ∧ x - x / y * y = r := by
  unfold qv_rem at h
  split at h
  · cases h
  · cases h
    exact ⟨by assumption, rfl⟩
theorem qv_gI_of {h : qv_H} {ci o k : Nat} {v : Int32} (e : qv_gI h ci o k = some v) : ∃ fs, h o = .inr (ci, fs) ∧ fs[k]? = some (.int v) := by
  unfold qv_gI at e
  split at e
  · rename_i c fs hh
    split at e
    · rename_i hc
      subst hc
      split at e
      · rename_i w hw
        cases e
        exact ⟨fs, hh, hw⟩
      · cases e
    · cases e
  · cases e
theorem qv_gR_of {h : qv_H} {ci o k : Nat} {v : Nat} (e : qv_gR h ci o k = some v) : ∃ fs, h o = .inr (ci, fs) ∧ fs[k]? = some (.ref v) := by
  unfold qv_gR at e
  split at e
  · rename_i c fs hh
    split at e
    · rename_i hc
      subst hc
      split at e
      · rename_i w hw
        cases e
        exact ⟨fs, hh, hw⟩
      · cases e
    · cases e
  · cases e
theorem qv_pI_of {h h2 : qv_H} {ci o k : Nat} {v : Int32} (e : qv_pI h ci o k v = some h2) : ∃ fs, h o = .inr (ci, fs) ∧ k < fs.length ∧ h2 = qv_set h o (.inr (ci, fs.set k (.int v))) := by
  unfold qv_pI at e
  split at e
  · rename_i c fs hh
    split at e
    · rename_i hc
      obtain ⟨hc, hk⟩ := hc
      subst hc
      cases e
      exact ⟨fs, hh, hk, rfl⟩
    · cases e
  · cases e
theorem qv_ob_of {h : qv_H} {ci o : Nat} {u : Unit} (e : qv_ob h ci o = some u) : ∃ fs, h o = .inr (ci, fs) ∧ ¬ fs.length = 0 := by
  unfold qv_ob at e
  split at e
  · rename_i c fs hh
    split at e
    · rename_i hc
      obtain ⟨hc, hk⟩ := hc
      subst hc
      exact ⟨fs, hh, hk⟩
    · cases e
  · cases e
theorem qv_aI_of {h : qv_H} {z : Bool} {o : Nat} {i v : Int32} (e : qv_aI h z o i = some v) : ∃ n f, h o = .inl (z, n, f) ∧ vp_in i n ∧ f i.toNatClampNeg = v := by
  unfold qv_aI at e
  split at e
  · rename_i b n f hh
    split at e
    · rename_i hc
      obtain ⟨hc, hk⟩ := hc
      subst hc
      cases e
      exact ⟨n, f, hh, hk, rfl⟩
    · cases e
  · cases e
theorem qv_sI_of {h h2 : qv_H} {z : Bool} {o : Nat} {i x : Int32} (e : qv_sI h z o i x = some h2) : ∃ n f, h o = .inl (z, n, f) ∧ vp_in i n ∧ h2 = qv_set h o (.inl (z, n, upd f i.toNatClampNeg (cond z (x &&& 1) x))) := by
  unfold qv_sI at e
  split at e
  · rename_i b n f hh
    split at e
    · rename_i hc
      obtain ⟨hc, hk⟩ := hc
      subst hc
      cases e
      exact ⟨n, f, hh, hk, rfl⟩
    · cases e
  · cases e
theorem qv_ln_of {h : qv_H} {o : Nat} {v : Int32} (e : qv_ln h o = some v) : ∃ z n f, h o = .inl (z, n, f) ∧ Int32.ofNat n = v := by
  unfold qv_ln at e
  split at e
  · rename_i b n f hh
    cases e
    exact ⟨b, n, f, hh, rfl⟩
  · cases e
/-- a field as a class's code names it: place ci in vwCl, slot k, its type, whether it is final -/
def qv_F (own : String) (idx ci k : Nat) (ty : FieldType) (fin : Bool) : Prop := ∃ (C : String) (T : u_T) (N : Nat) (ty0 : Nat → FieldType), vwCl[ci]? = some (C, T, N) ∧ k < N ∧ Cond.fieldLink own idx (T k).1 (T k).2.1 (T k).2.2.1 ∈ qv_WS ∧ (∀ w ∈ u_ws C T N, w ∈ qv_WS) ∧ (∀ j, j < N → parseFieldDescriptor (T j).2.2.1 = some (ty0 j)) ∧ (∀ a, a < N → ∀ b, b < N → a ≠ b → (T a).2.1 ≠ (T b).2.1) ∧ ty0 k = ty ∧ (T k).2.2.2 = fin
section QW
variable {l : Launch} {g : qv_G} {d : qv_M} {pc : Nat} {lo : List (Option Value)} {st : List Value} {h : qv_H} {R : Option Value × qv_H}
theorem qv_obj {A : Nat → Prop} {H : Heap} {o ci : Nat} {fs : List Value} (P : qv_P g A h H) (hh : h o = .inr (ci, fs)) (hne : ¬ fs.length = 0) : o < qv_n g ∧ (qv_ws g h)[o]? = some (qv_ad g o, .inr (ci, fs.map (qv_rv (qv_ad g)))) := by
  have hn : o < qv_n g := qv_lt P (fun q => by
    rw [q] at hh
    cases hh
    exact hne rfl)
  exact ⟨hn, by rw [qv_ws_at hn, hh]; rfl⟩
theorem qv_arr {A : Nat → Prop} {H : Heap} {o n : Nat} {z : Bool} {f : Nat → Int32} (P : qv_P g A h H) (hh : h o = .inl (z, n, f)) : o < qv_n g ∧ (qv_ws g h)[o]? = some (qv_ad g o, .inl (cond z g.2.2.1 g.2.1, n, .inl f)) := by
  have hn : o < qv_n g := qv_lt P (fun q => by
    rw [q] at hh
    cases hh)
  exact ⟨hn, by rw [qv_ws_at hn, hh]; rfl⟩
theorem qv_get_v {idx ci k o : Nat} {ty : FieldType} {fin : Bool} {v : Value} {fs : List Value} (hd : decode d.2.1 pc = .ok (.getfield idx, 3)) (hf : qv_F d.1.cls idx ci k ty fin) (hh : h o = .inr (ci, fs)) (hv : fs[k]? = some v) (kk : qv_J l g d (pc + 3) lo (v :: st) h R) : qv_J l g d pc lo (.ref o :: st) h R := by
  intro p e s m args below meth c A H locs ls X P S L
  obtain ⟨C, T, N, ty0, f1, f2, f3, f4, f5, f6, f7, f8⟩ := hf
  obtain ⟨hn, hw⟩ := qv_obj P hh (fun q => by rw [List.length_eq_zero_iff] at q; subst q; cases hv)
  exact va_get X.1 X.2.1 X.2.2.2.2.1 (fun w hw => List.mem_cons_of_mem _ (f4 w hw)) X.2.2.2.1 X.2.2.2.2.2.2.2.1 P.1 o hw f1 k f2 (X.2.2.2.2.1 _ (List.mem_cons_of_mem _ f3)) (fun _ q => q) (by rw [List.getElem?_map, hv]; rfl) hd (kk p e s m args below meth c A H locs ls X P S L)
theorem qv_getI {idx ci k o : Nat} {ty : FieldType} {fin : Bool} {v : Int32} (hd : decode d.2.1 pc = .ok (.getfield idx, 3)) (hf : qv_F d.1.cls idx ci k ty fin) (e : qv_gI h ci o k = some v) (kk : qv_J l g d (pc + 3) lo (.int v :: st) h R) : qv_J l g d pc lo (.ref o :: st) h R := by
  obtain ⟨fs, h1, h2⟩ := qv_gI_of e
  exact qv_get_v hd hf h1 h2 kk
theorem qv_getR {idx ci k o : Nat} {ty : FieldType} {fin : Bool} {v : Nat} (hd : decode d.2.1 pc = .ok (.getfield idx, 3)) (hf : qv_F d.1.cls idx ci k ty fin) (e : qv_gR h ci o k = some v) (kk : qv_J l g d (pc + 3) lo (.ref v :: st) h R) : qv_J l g d pc lo (.ref o :: st) h R := by
  obtain ⟨fs, h1, h2⟩ := qv_gR_of e
  exact qv_get_v hd hf h1 h2 kk
theorem qv_put_v {idx ci k o : Nat} {ty : FieldType} {v : Int32} {fs : List Value} (hd : decode d.2.1 pc = .ok (.putfield idx, 3)) (hf : qv_F d.1.cls idx ci k ty false) (hh : h o = .inr (ci, fs)) (hk : k < fs.length) (hnar : narrow ty (.int v) = .int v) (hfit : fits ty (.int v) = true) (kk : qv_J l g d (pc + 3) lo st (qv_set h o (.inr (ci, fs.set k (.int v)))) R) : qv_J l g d pc lo (.int v :: .ref o :: st) h R := by
  intro p e s m args below meth c A H locs ls X P S L
  obtain ⟨C, T, N, ty0, f1, f2, f3, f4, f5, f6, f7, f8⟩ := hf
  obtain ⟨hn, hw⟩ := qv_obj P hh (fun q => by omega)
  refine va_put (ty := ty) (v := .int v) X.1 X.2.1 X.2.2.2.2.1 (fun w hw => List.mem_cons_of_mem _ (f4 w hw)) ty0 f5 f6 X.2.2.2.1 X.2.2.2.2.2.2.2.1 P.1 P.2.1 S o hw f1 k f2 (X.2.2.2.2.1 _ (List.mem_cons_of_mem _ f3)) (fun _ q => q) f8 (by rw [f5 k f2, f7]) hnar hfit (by rw [List.length_map]; exact hk) hd (fun H1 locs1 hP hD hS => ?_)
  have e1 : (fs.map (qv_rv (qv_ad g))).set k (.int v) = (fs.set k (.int v)).map (qv_rv (qv_ad g)) := by rw [List.map_set]; rfl
  rw [e1] at hP hD
  have e2 := qv_ws_set (h := h) (.inr (ci, fs.set k (.int v))) hn
  have hP2 : va_P g.1 vwCl (qv_ws g (qv_set h o (.inr (ci, fs.set k (.int v))))) H1 := by rw [← e2]; exact hP
  have hD2 : va_D A (qv_ws g (qv_set h o (.inr (ci, fs.set k (.int v))))) := by rw [← e2]; exact hD
  exact kk p e s m args below meth c A H1 locs1 ls X ⟨hP2, hD2, fun q hq => by unfold qv_set; rw [if_neg (by omega)]; exact P.2.2 q hq⟩ hS L
theorem qv_putI {idx ci k o : Nat} {v : Int32} {h2 : qv_H} (hd : decode d.2.1 pc = .ok (.putfield idx, 3)) (hf : qv_F d.1.cls idx ci k .int false) (e : qv_pI h ci o k v = some h2) (kk : qv_J l g d (pc + 3) lo st h2 R) : qv_J l g d pc lo (.int v :: .ref o :: st) h R := by
  obtain ⟨fs, h1, hk, rfl⟩ := qv_pI_of e
  exact qv_put_v hd hf h1 hk rfl rfl kk
theorem qv_putZ {idx ci k o : Nat} {v : Int32} {h2 : qv_H} (hd : decode d.2.1 pc = .ok (.putfield idx, 3)) (hf : qv_F d.1.cls idx ci k .boolean false) (e : qv_pZ h ci o k v = some h2) (kk : qv_J l g d (pc + 3) lo st h2 R) : qv_J l g d pc lo (.int v :: .ref o :: st) h R := by
  unfold qv_pZ at e
  split at e
  · rename_i hb
    obtain ⟨fs, h1, hk, rfl⟩ := qv_pI_of e
    have e1 : narrow .boolean (.int v) = .int v := by show Value.int (v &&& 1) = _; rw [hb]
    exact qv_put_v hd hf h1 hk e1 (by
      have : v = 0 ∨ v = 1 := by
        have h3 : v.toBitVec &&& 1#32 = v.toBitVec := congrArg Int32.toBitVec hb
        have h4 : v.toBitVec.toNat ≤ 1 := by
          have h5 := congrArg BitVec.toNat h3
          rw [BitVec.toNat_and] at h5
          rw [← h5]
          exact Nat.and_le_right
        rcases (show v.toBitVec.toNat = 0 ∨ v.toBitVec.toNat = 1 by omega) with q | q
        · left; exact Int32.toBitVec_inj.mp (BitVec.eq_of_toNat_eq (by rw [q]; rfl))
        · right; exact Int32.toBitVec_inj.mp (BitVec.eq_of_toNat_eq (by rw [q]; rfl))
      rcases this with rfl | rfl <;> decide) kk
  · cases e
theorem qv_iald {o : Nat} {i v : Int32} (hd : decode d.2.1 pc = .ok (.iaload, 1)) (e : qv_aI h false o i = some v) (kk : qv_J l g d (pc + 1) lo (.int v :: st) h R) : qv_J l g d pc lo (.int i :: .ref o :: st) h R := by
  obtain ⟨n, f, h1, h2, h3⟩ := qv_aI_of e
  subst h3
  intro p e s m args below meth c A H locs ls X P S L
  obtain ⟨hn, hw⟩ := qv_arr P h1
  exact va_iald X.1 X.2.1 X.2.2.2.2.2.2.2.1 P.1 o 0 hw rfl h2 hd (kk p e s m args below meth c A H locs ls X P S L)
theorem qv_zald {o : Nat} {i v : Int32} (hd : decode d.2.1 pc = .ok (.baload, 1)) (e : qv_aI h true o i = some v) (kk : qv_J l g d (pc + 1) lo (.int v :: st) h R) : qv_J l g d pc lo (.int i :: .ref o :: st) h R := by
  obtain ⟨n, f, h1, h2, h3⟩ := qv_aI_of e
  subst h3
  intro p e s m args below meth c A H locs ls X P S L
  obtain ⟨hn, hw⟩ := qv_arr P h1
  exact va_zald X.1 X.2.1 X.2.2.2.2.2.2.2.1 P.1 o 1 hw rfl h2 hd (kk p e s m args below meth c A H locs ls X P S L)
theorem qv_iast {o : Nat} {i x : Int32} {h2 : qv_H} (hd : decode d.2.1 pc = .ok (.iastore, 1)) (e : qv_sI h false o i x = some h2) (kk : qv_J l g d (pc + 1) lo st h2 R) : qv_J l g d pc lo (.int x :: .int i :: .ref o :: st) h R := by
  obtain ⟨n, f, h1, h3, rfl⟩ := qv_sI_of e
  intro p e s m args below meth c A H locs ls X P S L
  obtain ⟨hn, hw⟩ := qv_arr P h1
  refine va_iast X.1 X.2.1 X.2.2.2.2.2.2.2.1 P.1 P.2.1 S o 0 hw rfl h3 hd (fun H1 locs1 hP hD hS => ?_)
  have e2 := qv_ws_set (h := h) (.inl (false, n, upd f i.toNatClampNeg (cond false (x &&& 1) x))) hn
  exact kk p e s m args below meth c A H1 locs1 ls X ⟨by rw [← e2]; exact hP, by rw [← e2]; exact hD, fun q hq => by unfold qv_set; rw [if_neg (by omega)]; exact P.2.2 q hq⟩ hS L
theorem qv_zast {o : Nat} {i x : Int32} {h2 : qv_H} (hd : decode d.2.1 pc = .ok (.bastore, 1)) (e : qv_sI h true o i x = some h2) (kk : qv_J l g d (pc + 1) lo st h2 R) : qv_J l g d pc lo (.int x :: .int i :: .ref o :: st) h R := by
  obtain ⟨n, f, h1, h3, rfl⟩ := qv_sI_of e
  intro p e s m args below meth c A H locs ls X P S L
  obtain ⟨hn, hw⟩ := qv_arr P h1
  refine va_zast X.1 X.2.1 X.2.2.2.2.2.2.2.1 P.1 P.2.1 S o 1 hw rfl h3 hd (fun H1 locs1 hP hD hS => ?_)
  have e2 := qv_ws_set (h := h) (.inl (true, n, upd f i.toNatClampNeg (cond true (x &&& 1) x))) hn
  exact kk p e s m args below meth c A H1 locs1 ls X ⟨by rw [← e2]; exact hP, by rw [← e2]; exact hD, fun q hq => by unfold qv_set; rw [if_neg (by omega)]; exact P.2.2 q hq⟩ hS L
theorem qv_alen {o : Nat} {v : Int32} (hd : decode d.2.1 pc = .ok (.arraylength, 1)) (e : qv_ln h o = some v) (kk : qv_J l g d (pc + 1) lo (.int v :: st) h R) : qv_J l g d pc lo (.ref o :: st) h R := by
  obtain ⟨z, n, f, h1, h2⟩ := qv_ln_of e
  intro p e s m args below meth c A H locs ls X P S L
  obtain ⟨hn, hw⟩ := qv_arr P h1
  cases z with
  | false => exact va_alen (ty := .int) X.1 X.2.1 X.2.2.2.2.2.2.2.1 P.1 o 0 hw rfl h2 hd (kk p e s m args below meth c A H locs ls X P S L)
  | true => exact va_alen (ty := .boolean) X.1 X.2.1 X.2.2.2.2.2.2.2.1 P.1 o 1 hw rfl h2 hd (kk p e s m args below meth c A H locs ls X P S L)
theorem qv_iret {v : Int32} (hd : decode d.2.1 pc = .ok (.ireturn, 1)) (hr : d.2.2.2.1 = some .int) : qv_J l g d pc lo [.int v] h (some (.int v), h) := by
  intro p e s m args below meth c A H locs ls X P S L
  exact W.iret X.1 X.2.1 (X.2.2.2.2.2.1.trans hr) (fun t ht hW => ⟨⟨rfl, by rw [ht]; exact P⟩, S.F ht⟩) S.2.2 hd X.2.2.2.2.2.2.1
theorem qv_zret {v : Int32} (hd : decode d.2.1 pc = .ok (.ireturn, 1)) (hr : d.2.2.2.1 = some .boolean) (hv : v &&& 1 = v) : qv_J l g d pc lo [.int v] h (some (.int v), h) := by
  intro p e s m args below meth c A H locs ls X P S L
  exact W.zret X.1 X.2.1 (X.2.2.2.2.2.1.trans hr) (by show Value.int (v &&& 1) = _; rw [hv]) (fun t ht hW => ⟨⟨rfl, by rw [ht]; exact P⟩, S.F ht⟩) S.2.2 hd X.2.2.2.2.2.2.1
theorem qv_vret (hd : decode d.2.1 pc = .ok (.return_, 1)) (hr : d.2.2.2.1 = none) : qv_J l g d pc lo [] h (none, h) := by
  intro p e s m args below meth c A H locs ls X P S L
  exact W.vret X.1 X.2.1 (X.2.2.2.2.2.1.trans hr) (fun t ht hW => ⟨⟨rfl, by rw [ht]; exact P⟩, S.F ht⟩) S.2.2 hd X.2.2.2.2.2.2.1
theorem qv_aret {v : Nat} {n : String} (hd : decode d.2.1 pc = .ok (.areturn, 1)) (hr : d.2.2.2.1 = some (.object n)) : qv_J l g d pc lo [.ref v] h (some (.ref v), h) := by
  intro p e s m args below meth c A H locs ls X P S L
  exact W.aret X.1 X.2.1 (X.2.2.2.2.2.1.trans hr) (Or.inl ⟨n, rfl⟩) (Or.inr ⟨_, rfl⟩) (fun t ht hW => ⟨⟨rfl, by rw [ht]; exact P⟩, S.F ht⟩) S.2.2 hd X.2.2.2.2.2.2.1
end QW
/-- what a method begins with -/
def qv_B (g : qv_G) (h : qv_H) (sz : Nat) (U : State) : Prop := U.heap.size = sz ∧ va_P g.1 vwCl (qv_ws g h) U.heap ∧ va_K g.1 vwCl (qv_ty g) U ∧ va_D (fun _ => True) (qv_ws g h) ∧ (∀ k, qv_n g ≤ k → h k = .inr (99, [])) ∧ qv_S g (va_A (qv_ws g h) sz) U
def qv_lo0 (n : Nat) (av : List Value) : List (Option Value) := av.map some ++ List.replicate (n - av.length) none
theorem qv_sl1 {vs : List Value} (hc : ∀ v ∈ vs, v.category = 1) : (lg_sl vs).length = vs.length := by
  induction vs with
  | nil => rfl
  | cons v t ih =>
    have h1 : ¬ v.category = 2 := by rw [hc v List.mem_cons_self]; decide
    have h2 : lg_sl (v :: t) = .val v :: lg_sl t := by simp [lg_sl, h1]
    rw [h2, List.length_cons, List.length_cons, ih (fun u hu => hc u (List.mem_cons_of_mem _ hu))]
theorem qv_args {vs : List Value} (hc : ∀ v ∈ vs, v.category = 1) : ∀ (k i : Nat) (v : Value), vs[i]? = some v → (k + i, v) ∈ lv_args k vs := by
  induction vs with
  | nil => intro k i v h; simp at h
  | cons u t ih =>
    intro k i v h
    have h1 : ¬ u.category = 2 := by rw [hc u List.mem_cons_self]; decide
    show _ ∈ (k, u) :: lv_args (if u.category = 2 then k + 2 else k + 1) t
    rw [if_neg h1]
    cases i with
    | zero =>
      simp at h
      subst h
      exact List.mem_cons_self
    | succ i =>
      have h2 := ih (fun u hu => hc u (List.mem_cons_of_mem _ hu)) (k + 1) i v (by simpa using h)
      rw [show k + (i + 1) = k + 1 + i by omega]
      exact List.mem_cons_of_mem _ h2
theorem qv_L0 {ad : Nat → Nat} {av : List Value} {n : Nat} (hc : ∀ v ∈ av, v.category = 1) (hl : av.length ≤ n) : qv_L ((lg_sl (av.map (qv_rv ad)) ++ List.replicate (n - (lg_sl (av.map (qv_rv ad))).length) Slot.unset).toArray) n ad (qv_lo0 n av) := by
  have hc2 : ∀ v ∈ av.map (qv_rv ad), v.category = 1 := by
    intro v hv
    obtain ⟨u, hu, rfl⟩ := List.mem_map.mp hv
    rw [qv_cat]
    exact hc u hu
  have h1 := lv_entry (av.map (qv_rv ad)) (n := n) (by rw [qv_sl1 hc2, List.length_map]; exact hl)
  refine ⟨h1.1, h1.2.1, fun i v hi => ?_⟩
  have h2 : av[i]? = some v := by
    unfold qv_lo0 at hi
    by_cases hl2 : i < av.length
    · rw [List.getElem?_append_left (by rw [List.length_map]; exact hl2), List.getElem?_map] at hi
      cases hq : av[i]? with
      | none => rw [hq] at hi; cases hi
      | some u => rw [hq] at hi; cases hi; rfl
    · rw [List.getElem?_append_right (by rw [List.length_map]; omega), List.getElem?_replicate] at hi
      split at hi <;> cases hi
  have h3 := qv_args hc2 0 i (qv_rv ad v) (by rw [List.getElem?_map, h2]; rfl)
  rw [Nat.zero_add] at h3
  exact h1.2.2 _ h3
theorem qv_met {l : Launch} {g : qv_G} {d : qv_M} {av : List Value} {h : qv_H} {R : Option Value × qv_H} {sz : Nat} (hp : plainName d.1.cls = true) (hc : ∀ v ∈ av, v.category = 1) (hl : av.length ≤ d.2.2.1) (hJ : qv_J l g d 0 (qv_lo0 d.2.2.1 av) [] h R) : Met l d.1 (qv_wl d) (qv_rm d) (va_Pc (av.map (qv_rv (qv_ad g))) (qv_B g h sz)) (qv_Q g (va_A (qv_ws g h) sz) R) 0 0 (va_A (qv_ws g h) sz) := by
  refine Met.ofW (cc := d.2.1) (maxL := d.2.2.1) (ret := d.2.2.2.1) hp rfl ?_
  intro p e s m args below meth c s₁ B hml hv
  obtain ⟨rfl, hsz, hP, hK, hD0, hN, hSt⟩ := hv
  subst hsz
  have hts := atoms_spec (ws := qv_wl d) B.pre
  rw [lg_entry_eq]
  exact hJ p e s m _ below meth c (va_A (qv_ws g h) s.heap.size) s.heap [] _ ⟨B.exec, B.bytes, hml, findClass_of_methodNamed B.named, hts, B.returns, B.notSynchronized, hK, fun q hq => Or.inr hq, hSt⟩ ⟨hP, hD0.self, hN⟩ va_S.rf (qv_L0 hc hl)
/-- what the tables say of a method that is called -/
def qv_DV (d : qv_M) (n : Nat) : Prop := Cond.instanceMethod d.1 ∈ qv_WS ∧ Cond.selects d.1.cls d.1 d.1 ∈ qv_WS ∧ Cond.initialized d.1.cls ∈ qv_WS ∧ Cond.code d.1 d.2.1 d.2.2.1 d.2.2.2.1 ∈ qv_WS ∧ plainName d.1.cls = true ∧ (d.1.cls ≠ "java/lang/invoke/MethodHandle" ∧ d.1.cls ≠ "java/lang/invoke/VarHandle" ∧ (parseMethodDescriptor d.1.desc).map (fun q => q.parameters.length) = some n)
def qv_DS (d : qv_M) (n : Nat) : Prop := Cond.static d.1 ∈ qv_WS ∧ Cond.initialized d.1.cls ∈ qv_WS ∧ Cond.code d.1 d.2.1 d.2.2.1 d.2.2.2.1 ∈ qv_WS ∧ plainName d.1.cls = true ∧ (d.1.cls ≠ "java/lang/invoke/MethodHandle" ∧ d.1.cls ≠ "java/lang/invoke/VarHandle" ∧ (parseMethodDescriptor d.1.desc).map (fun q => q.parameters.length) = some n)
theorem qv_gd {w : Cond} {d : qv_M} (h : w ∈ qv_WS) : w ∈ qv_wl d ∧ ((w.onTables && w.keeps) = true ∨ ∃ ty, w = .arrayClass ty) := ⟨List.mem_cons_of_mem _ h, good_of_word (qv_WS_good w h)⟩
theorem qv_gdl {d d2 : qv_M} (h : Cond.code d2.1 d2.2.1 d2.2.2.1 d2.2.2.2.1 ∈ qv_WS) : GoodIn (qv_wl d) (qv_wl d2) := by
  intro w hw
  rcases List.mem_cons.mp hw with rfl | hw
  · exact qv_gd h
  · exact qv_gd hw
section QX
variable {l : Launch} {g : qv_G} {d d2 : qv_M} {pc idx n : Nat} {lo : List (Option Value)} {st : List Value} {h h2 : qv_H} {R : Option Value × qv_H} {r : Option Value} {av : List Value}
theorem qv_back {p : Program} {e : Env} {s : State} {m : MethodId} {args : Array Value} {below : List Frame} {meth : Method} {c : Code} {A : Nat → Prop} {H : Heap} {locs : List Loc} {ls : Array Slot} {st0 : List Value} {a : Array Value}
    (X : qv_X g d p s m args meth c A) (P : qv_P g A h H) (S : va_S A s.heap H locs) (L : qv_L ls d.2.2.1 (qv_ad g) lo)
    (hr : va_Run p l e (qv_rm d) s m args below meth c H locs 0 0 0 0 (F0 m pc ls st0) (st.map (qv_rv (qv_ad g))) (qv_Q g (va_A (qv_ws g h) H.size) (r, h2) a) (va_A (qv_ws g h) H.size))
    (k : qv_J l g d (pc + 3) lo (r.toList ++ st) h2 R) : W p l e (qv_rm d) s m args below meth c H locs 0 0 (MQ below (qv_Q g A R) args s 0 0 A) (F0 m pc ls st0) := by
  have hF : ∀ q, va_A (qv_ws g h) H.size q → A q := by
    intro q hq
    rcases hq with ⟨j, e, hj⟩ | hq
    · exact P.2.1.2 j _ hj
    · exact X.2.2.2.2.2.2.2.2.1 q (Nat.le_trans S.1 hq)
  intro T hT Y
  obtain ⟨v, st₀, t, T', L1, h0, X', hL, e1, e2, ⟨⟨hv, hP1⟩, hz, hk⟩, stp⟩ := hr T hT Y
  cases hv
  rw [h0] at hz hk
  have hS1 : va_S A s.heap T'.heap (locs ++ L1) := ⟨Nat.le_trans S.1 (by rw [e1]; exact hz), fun q h1 h2 => by rw [e1, hk q (Nat.lt_of_lt_of_le h1 S.1) (fun z => h2 (hF q z))]; exact S.2.1 q h1 h2, fun q hq => by
      rcases List.mem_append.mp hq with h | h
      · exact S.2.2 q h
      · exact hF _ (hL q h)⟩
  have hP2 : qv_P g A h2 T'.heap := ⟨by rw [e1]; exact hP1.1, hP1.2.1.weaken (fun _ q _ hq => hF q.1 hq), hP1.2.2⟩
  have e3 : (r.map (qv_rv (qv_ad g))).toList ++ st.map (qv_rv (qv_ad g)) = (r.toList ++ st).map (qv_rv (qv_ad g)) := by
    cases r <;> simp
  obtain ⟨t2, a1, b1⟩ := k p e s m args below meth c A T'.heap (locs ++ L1) ls X hP2 hS1 L T' rfl X'
  rw [← e3] at a1
  exact ⟨t2, stp t2 a1, b1⟩
theorem qv_pre {s : State} {A : Nat → Prop} {H : Heap} {locs : List Loc} {p : Program} {m : MethodId} {args : Array Value} {meth : Method} {c : Code} (X : qv_X g d p s m args meth c A) (P : qv_P g A h H) (S : va_S A s.heap H locs) : PreS s H (va_Pc (av.map (qv_rv (qv_ad g))) (qv_B g h H.size)) (av.map (qv_rv (qv_ad g))) := by
  have hF : ∀ q, va_A (qv_ws g h) H.size q → A q := by
    intro q hq
    rcases hq with ⟨j, e, hj⟩ | hq
    · exact P.2.1.2 j _ hj
    · exact X.2.2.2.2.2.2.2.2.1 q (Nat.le_trans S.1 hq)
  refine ⟨fun a U gg mk q => ?_, fun U hU hW => ?_⟩
  · obtain ⟨q0, q1, q2, q3, q4, q5, q6⟩ := q
    exact ⟨q0, q1, q2, va_K.moved (u := U) (U := U.calling gg mk a) (Vm.Alike.refl U.vm) q3, q4, q5, q6.call⟩
  · exact ⟨rfl, by rw [hU], by rw [hU]; exact P.1, va_K.moved hW.alike X.2.2.2.2.2.2.2.1, P.2.1.weaken (fun _ _ _ _ => trivial), P.2.2, X.2.2.2.2.2.2.2.2.2.go S hU hW hF⟩
/-- a static call -/
theorem qv_callS (hd : decode d.2.1 pc = .ok (.invokestatic idx, 3)) (hm : Cond.methodLink d.1.cls idx d2.1 ∈ qv_WS) (D : qv_DS d2 n) (hn : av.length = n) (hR : d2.2.2.2.2.1 + 1 ≤ d.2.2.2.2.1 ∧ 8 + (d2.2.2.1 + 11) + d2.2.2.2.2.2 ≤ d.2.2.2.2.2) (hc : ∀ v ∈ av, v.category = 1) (hl : av.length ≤ d2.2.2.1) (hst : (st.map fun v => v.category).sum ≤ 8)
    (hJ : qv_J l g d2 0 (qv_lo0 d2.2.2.1 av) [] h (r, h2)) {st0 : List Value} (hs0 : av.reverse ++ st = st0) (k : qv_J l g d (pc + 3) lo (r.toList ++ st) h2 R) : qv_J l g d pc lo st0 h R := by
  subst hs0
  intro p e s m args below meth c A H locs ls X P S L
  obtain ⟨D1, D2, D3, D4, D5⟩ := D
  have cw := va_cwS (R := qv_rm d) (s := s) (args := args) (own := d.1.cls) (index := idx) (y := d2.1) (bytes := d2.2.1) (maxL := d2.2.2.1) (ret := d2.2.2.2.1) (Ts := qv_wl d) (ws := qv_wl d2) (rm := qv_rm d2) (mc := 0) (ms := 0) n X.2.2.2.2.1 (by
    intro w hw
    unfold va_wsS at hw
    rcases List.mem_append.mp hw with hw | hw
    · simp only [List.mem_cons, List.not_mem_nil, or_false] at hw
      rcases hw with rfl | rfl | rfl
      · exact qv_gd hm
      · exact qv_gd D1
      · exact qv_gd D2
    · exact qv_gdl D3 w hw) rfl rfl rfl D5 hR
  have hrun := va_runS (H := H) (locs := locs) (cells := 0) (slots := 0) (below := below) (e := e) (meth := meth) (As := av.map (qv_rv (qv_ad g))) (rest := st.map (qv_rv (qv_ad g))) (g := F0 m pc ls ((av.reverse ++ st).map (qv_rv (qv_ad g)))) ⟨X.1, X.2.1, X.2.2.1, X.2.2.2.1, X.2.2.2.2.1⟩ (qv_met (sz := H.size) D4 hc hl hJ) cw (qv_pre X P S) rfl (by rw [List.length_map]; exact hn) L.1 (by simp) (by
      have e5 : ((st.map (qv_rv (qv_ad g))).map fun v => v.category) = st.map fun v => v.category := by
        rw [List.map_map]; apply List.map_congr_left; intro v _; exact qv_cat _ v
      rw [e5]
      exact lv_room hst) hd ⟨Nat.le_refl _, Nat.le_refl _⟩
  exact qv_back X P S L hrun k
/-- a call of an object's own method -/
theorem qv_callV {o ci : Nat} {u : Unit} (hd : decode d.2.1 pc = .ok (.invokevirtual idx, 3)) (hm : Cond.methodLink d.1.cls idx d2.1 ∈ qv_WS) (D : qv_DV d2 n) (ho : qv_ob h ci o = some u) (hcl : (vwCl[ci]?).map (fun q => q.1) = some d2.1.cls) (hn : av.length = n) (hR : d2.2.2.2.2.1 + 1 ≤ d.2.2.2.2.1 ∧ 8 + (d2.2.2.1 + 11) + d2.2.2.2.2.2 ≤ d.2.2.2.2.2) (hc : ∀ v ∈ av, v.category = 1) (hl : av.length + 1 ≤ d2.2.2.1) (hst : (st.map fun v => v.category).sum ≤ 8)
    (hJ : qv_J l g d2 0 (qv_lo0 d2.2.2.1 (.ref o :: av)) [] h (r, h2)) {st0 : List Value} (hs0 : av.reverse ++ .ref o :: st = st0) (k : qv_J l g d (pc + 3) lo (r.toList ++ st) h2 R) : qv_J l g d pc lo st0 h R := by
  subst hs0
  intro p e s m args below meth c A H locs ls X P S L
  obtain ⟨D1, D2, D3, D4, D5, D6⟩ := D
  have cw := cwV (R := qv_rm d) (s := s) (args := args) (own := d.1.cls) (C := d2.1.cls) (index := idx) (y := d2.1) (bytes := d2.2.1) (maxL := d2.2.2.1) (ret := d2.2.2.2.1) (Ts := qv_wl d) (ws := qv_wl d2) (rm := qv_rm d2) (mc := 0) (ms := 0) n X.2.2.2.2.1 (by
    intro w hw
    unfold wsV at hw
    rcases List.mem_append.mp hw with hw | hw
    · simp only [List.mem_cons, List.not_mem_nil, or_false] at hw
      rcases hw with rfl | rfl | rfl | rfl
      · exact qv_gd hm
      · exact qv_gd D1
      · exact qv_gd D2
      · exact qv_gd D3
    · exact qv_gdl D4 w hw) rfl rfl rfl ⟨rfl, D6⟩ hR
  obtain ⟨fs, o1, o2⟩ := qv_ob_of ho
  obtain ⟨hn0, hw0⟩ := qv_obj P o1 o2
  have hrecv : ∃ cellB : Cell, H[qv_ad g o]? = some cellB ∧ cellB.vm.isStatics = false ∧ s.vm.findClass d2.1.cls = some cellB.cls := by
    cases hq : vwCl[ci]? with
    | none => rw [hq] at hcl; cases hcl
    | some q =>
      rw [hq] at hcl
      have := va_recv X.2.2.2.2.2.2.2.1 P.1 hq hw0
      have e9 : q.1 = d2.1.cls := Option.some.inj hcl
      rw [e9] at this
      exact this
  have hpre := qv_pre (av := .ref o :: av) X P S
  have hrun := va_runV (H := H) (locs := locs) (cells := 0) (slots := 0) (below := below) (e := e) (meth := meth) (b := qv_ad g o) (As := av.map (qv_rv (qv_ad g))) (rest := st.map (qv_rv (qv_ad g))) (g := F0 m pc ls ((av.reverse ++ .ref o :: st).map (qv_rv (qv_ad g)))) ⟨X.1, X.2.1, X.2.2.1, X.2.2.2.1, X.2.2.2.2.1⟩ (qv_met (sz := H.size) D5 (av := .ref o :: av) (by
      intro v hv
      rcases List.mem_cons.mp hv with rfl | hv
      · rfl
      · exact hc v hv) hl hJ) cw ⟨hpre.1, hrecv, hpre.2⟩ rfl (by rw [List.length_map]; exact hn) L.1 (by simp [qv_rv]) (by
      have e5 : ((st.map (qv_rv (qv_ad g))).map fun v => v.category) = st.map fun v => v.category := by
        rw [List.map_map]; apply List.map_congr_left; intro v _; exact qv_cat _ v
      rw [e5]
      exact lv_room hst) hd ⟨Nat.le_refl _, Nat.le_refl _⟩
  exact qv_back X P S L hrun k
end QX
end
section
/-! ===== 06: loops, and the rows that the programs' text uses ===== -/
def qv_it {σ ρ : Type} (body : σ → Option (σ ⊕ ρ)) : Nat → σ → Option ρ
  | 0, _ => none
  | n + 1, s => (body s).bind fun x => match x with
    | .inl s' => qv_it body n s'
    | .inr r => some r
def qv_nx {σ ρ : Type} (body : σ → Option (σ ⊕ ρ)) (n : Nat) (x : σ ⊕ ρ) : Option ρ := match x with
  | .inl s' => qv_it body n s'
  | .inr r => some r
theorem qv_it_s {σ ρ : Type} {body : σ → Option (σ ⊕ ρ)} {n : Nat} {s : σ} {r : ρ} (h : qv_it body (n + 1) s = some r) : ∃ x, body s = some x ∧ qv_nx body n x = some r := qv_bind h
theorem qv_nx_l {σ ρ : Type} {body : σ → Option (σ ⊕ ρ)} {n : Nat} {s : σ} {r : ρ} (h : qv_nx body n (.inl s) = some r) : qv_it body n s = some r := h
theorem qv_nx_r {σ ρ : Type} {body : σ → Option (σ ⊕ ρ)} {n : Nat} {q r : ρ} (h : qv_nx body n (.inr q) = some r) : q = r := Option.some.inj h
theorem qv_it_mono {σ ρ : Type} {body : σ → Option (σ ⊕ ρ)} : ∀ {n m : Nat} {s : σ} {r : ρ}, n ≤ m → qv_it body n s = some r → qv_it body m s = some r := by
  intro n
  induction n with
  | zero => intro m s r _ h; cases h
  | succ n ih =>
    intro m s r hm h
    obtain ⟨x, h1, h2⟩ := qv_it_s h
    obtain ⟨m, rfl⟩ : ∃ k, m = k + 1 := ⟨m - 1, by omega⟩
    show (body s).bind _ = some r
    rw [h1]
    cases x with
    | inl s' => exact ih (by omega) (qv_nx_l h2)
    | inr q => exact h2
/-- a loop's value, whatever number of rounds it takes; none if it does not end -/
noncomputable def qv_loop {σ ρ : Type} (body : σ → Option (σ ⊕ ρ)) (s : σ) : Option ρ := @dite (Option ρ) (∃ r n, qv_it body n s = some r) (Classical.propDecidable _) (fun h => some h.choose) (fun _ => none)
theorem qv_loop_of {σ ρ : Type} {body : σ → Option (σ ⊕ ρ)} {s : σ} {r : ρ} (h : qv_loop body s = some r) : ∃ n, qv_it body n s = some r := by
  unfold qv_loop at h
  split at h
  · rename_i q
    have e := Option.some.inj h
    rw [← e]
    exact q.choose_spec
  · cases h
theorem qv_loop_to {σ ρ : Type} {body : σ → Option (σ ⊕ ρ)} {s : σ} {r : ρ} (n : Nat) (h : qv_it body n s = some r) : qv_loop body s = some r := by
  have q : ∃ r n, qv_it body n s = some r := ⟨r, n, h⟩
  unfold qv_loop
  rw [dif_pos q]
  obtain ⟨m, hm⟩ := q.choose_spec
  have h1 := qv_it_mono (Nat.le_max_left n m) h
  have h2 := qv_it_mono (Nat.le_max_right n m) hm
  rw [h1] at h2
  exact congrArg some (Option.some.inj h2).symm
theorem qv_loop_l {σ ρ : Type} {body : σ → Option (σ ⊕ ρ)} {s s' : σ} (h : body s = some (.inl s')) : qv_loop body s = qv_loop body s' := by
  cases e : qv_loop body s' with
  | some r =>
    obtain ⟨n, hn⟩ := qv_loop_of e
    refine qv_loop_to (n + 1) ?_
    show (body s).bind _ = some r
    rw [h]
    exact hn
  | none =>
    cases e2 : qv_loop body s with
    | none => rfl
    | some r =>
      obtain ⟨n, hn⟩ := qv_loop_of e2
      cases n with
      | zero => cases hn
      | succ n =>
        obtain ⟨x, h1, h2⟩ := qv_it_s hn
        rw [h] at h1
        cases h1
        rw [qv_loop_to n (qv_nx_l h2)] at e
        cases e
theorem qv_loop_r {σ ρ : Type} {body : σ → Option (σ ⊕ ρ)} {s : σ} {r : ρ} (h : body s = some (.inr r)) : qv_loop body s = some r := by
  refine qv_loop_to 1 ?_
  show (body s).bind _ = some r
  rw [h]
  rfl
/-- a loop by its states in order -/
theorem qv_loop_up {σ ρ : Type} {body : σ → Option (σ ⊕ ρ)} (f : Nat → σ) {r : ρ} : ∀ (n i : Nat), (∀ j, i ≤ j → j < i + n → body (f j) = some (.inl (f (j + 1)))) → body (f (i + n)) = some (.inr r) → qv_loop body (f i) = some r := by
  intro n
  induction n with
  | zero => intro i _ h; exact qv_loop_r h
  | succ n ih =>
    intro i hs h
    rw [qv_loop_l (hs i (Nat.le_refl _) (by omega))]
    exact ih (i + 1) (fun j h1 h2 => hs j (by omega) (by omega)) (by rw [show i + 1 + n = i + (n + 1) by omega]; exact h)
/-- fewer known locals -/
def qv_le (a b : List (Option Value)) : Prop := ∀ (i : Nat) (v : Value), a[i]? = some (some v) → b[i]? = some (some v)
theorem qv_le_0 {b : List (Option Value)} : qv_le [] b := fun i v h => by simp at h
theorem qv_le_n {o : Option Value} {a b : List (Option Value)} (h : qv_le a b) : qv_le (none :: a) (o :: b) := by
  intro i v hi
  cases i with
  | zero => simp at hi
  | succ i => simpa using h i v (by simpa using hi)
theorem qv_le_s {o : Option Value} {a b : List (Option Value)} (h : qv_le a b) : qv_le (o :: a) (o :: b) := by
  intro i v hi
  cases i with
  | zero => simpa using hi
  | succ i => simpa using h i v (by simpa using hi)
section QY
variable {l : Launch} {g : qv_G} {d d2 : qv_M} {pc idx n : Nat} {lo lo2 : List (Option Value)} {st : List Value} {h h2 : qv_H} {R : Option Value × qv_H} {r : Option Value} {av : List Value}
theorem qv_dp (hl : qv_le lo2 lo) (k : qv_J l g d pc lo2 st h R) : qv_J l g d pc lo st h R := by
  intro p e s m args below meth c A H locs ls X P S L
  exact k p e s m args below meth c A H locs ls X P S ⟨L.1, L.2.1, fun i v hi => L.2.2 i v (hl i v hi)⟩
theorem qv_allc {av : List Value} (h : (av.all fun v => v.category == 1) = true) : ∀ v ∈ av, v.category = 1 := fun v hv => by simpa using List.all_eq_true.mp h v hv
theorem qv_cS {st0 : List Value} (hd : decode d.2.1 pc = .ok (.invokestatic idx, 3)) (hm : Cond.methodLink d.1.cls idx d2.1 ∈ qv_WS) (D : qv_DS d2 n) (hn : av.length = n) (hR : d2.2.2.2.2.1 + 1 ≤ d.2.2.2.2.1 ∧ 8 + (d2.2.2.1 + 11) + d2.2.2.2.2.2 ≤ d.2.2.2.2.2) (hc : (av.all fun v => v.category == 1) = true) (hl : av.length ≤ d2.2.2.1) (hst : (st.map fun v => v.category).sum ≤ 8)
    (hJ : qv_J l g d2 0 (qv_lo0 d2.2.2.1 av) [] h (r, h2)) (hs0 : av.reverse ++ st = st0) (k : qv_J l g d (pc + 3) lo (r.toList ++ st) h2 R) : qv_J l g d pc lo st0 h R :=
  qv_callS hd hm D hn hR (qv_allc hc) hl hst hJ hs0 k
theorem qv_cV {o ci : Nat} {u : Unit} {st0 : List Value} (hd : decode d.2.1 pc = .ok (.invokevirtual idx, 3)) (hm : Cond.methodLink d.1.cls idx d2.1 ∈ qv_WS) (D : qv_DV d2 n) (ho : qv_ob h ci o = some u) (hcl : (vwCl[ci]?).map (fun q => q.1) = some d2.1.cls) (hn : av.length = n) (hR : d2.2.2.2.2.1 + 1 ≤ d.2.2.2.2.1 ∧ 8 + (d2.2.2.1 + 11) + d2.2.2.2.2.2 ≤ d.2.2.2.2.2) (hc : (av.all fun v => v.category == 1) = true) (hl : av.length + 1 ≤ d2.2.2.1) (hst : (st.map fun v => v.category).sum ≤ 8)
    (hJ : qv_J l g d2 0 (qv_lo0 d2.2.2.1 (.ref o :: av)) [] h (r, h2)) (hs0 : av.reverse ++ .ref o :: st = st0) (k : qv_J l g d (pc + 3) lo (r.toList ++ st) h2 R) : qv_J l g d pc lo st0 h R :=
  qv_callV hd hm D ho hcl hn hR (qv_allc hc) hl hst hJ hs0 k
theorem qv_tsDef {dflt lw hi : Int} {offs : Array Int} {len : Nat} {x : Int32} {tgt : Nat} (hd : decode d.2.1 pc = .ok (.tableswitch dflt lw hi offs, len)) (hx : ∀ j : Nat, lw + (j : Int) ≤ hi → x.toInt = lw + (j : Int) → offs[j]? = some dflt) (ht : (pc : Int) + dflt = (tgt : Int)) (k : qv_J l g d tgt lo st h R) : qv_J l g d pc lo (.int x :: st) h R := by
  by_cases h1 : x.toInt < lw ∨ hi < x.toInt
  · exact qv_tsOut hd h1 ht k
  · exact qv_tsIn x rfl hd (by omega) (by omega) (hx (x.toInt - lw).toNat (by omega) (by omega)) ht k
/-- System.arraycopy of ints -/
def qv_cp (h : qv_H) (src : Nat) (sp : Int32) (dst : Nat) (dp n : Int32) : Option qv_H := match h src, h dst with
  | .inl (b0, n0, f), .inl (b1, n1, f1) => if b0 = false ∧ b1 = false ∧ ¬ sp < 0 ∧ ¬ dp < 0 ∧ ¬ n < 0 ∧ sp.toNatClampNeg + n.toNatClampNeg ≤ n0 ∧ dp.toNatClampNeg + n.toNatClampNeg ≤ n1 then some (qv_set h dst (.inl (b1, n1, va_cpy f f1 sp.toNatClampNeg dp.toNatClampNeg n.toNatClampNeg))) else none
  | _, _ => none
theorem qv_ac1 : Cond.native arraycopyName ∈ qv_WS := (qv_i7 (List.mem_of_getElem? (i := 1) (by decide +kernel)))
theorem qv_ac2 : Cond.static arraycopyName ∈ qv_WS := (qv_i7 (List.mem_of_getElem? (i := 0) (by decide +kernel)))
theorem qv_ac3 : Cond.initialized "java/lang/System" ∈ qv_WS := (qv_i1 (List.mem_of_getElem? (i := 21) (by decide +kernel)))
theorem qv_acopy {src dst : Nat} {sp dp k : Int32} (hd : decode d.2.1 pc = .ok (.invokestatic idx, 3)) (hm : Cond.methodLink d.1.cls idx arraycopyName ∈ qv_WS) (hR : 1 ≤ d.2.2.2.2.1 ∧ 8 + (nativeFrameWords "java/lang/System" "arraycopy" 5 + 11) ≤ d.2.2.2.2.2) (hst : (st.map fun v => v.category).sum ≤ 8) (e : qv_cp h src sp dst dp k = some h2) (kk : qv_J l g d (pc + 3) lo st h2 R) : qv_J l g d pc lo (.int k :: .int dp :: .ref dst :: .int sp :: .ref src :: st) h R := by
  unfold qv_cp at e
  split at e
  · rename_i b0 n0 f b1 n1 f1 hsrc hdst
    split at e
    · rename_i hc
      obtain ⟨rfl, rfl, q1, q2, q3, q4, q5⟩ := hc
      cases e
      intro p e s m args below meth c A H locs ls X P S L
      obtain ⟨hn0, hw0⟩ := qv_arr P hsrc
      obtain ⟨hn1, hw1⟩ := qv_arr P hdst
      have hts : ∀ w ∈ qv_WS, w.before args s = true := fun w hw => X.2.2.2.2.1 w (List.mem_cons_of_mem _ hw)
      have e5 : ((st.map (qv_rv (qv_ad g))).map fun v => v.category) = st.map fun v => v.category := by
        rw [List.map_map]; apply List.map_congr_left; intro v _; exact qv_cat _ v
      refine va_copyi X.1 X.2.1 (X.2.2.1.trans L.1.symm) X.2.2.2.1 (hts _ hm) (hts _ qv_ac1) (hts _ qv_ac2) (hts _ qv_ac3) X.2.2.2.2.2.2.2.1 P.1 P.2.1 S src dst 0 0 hw0 hw1 rfl rfl rfl q1 q2 q3 q4 q5 (fun _ _ => rfl) hR.1 (by rw [e5]; exact Nat.le_trans (Nat.add_le_add_right hst _) hR.2) hd (fun H1 locs1 hP hD hS => ?_)
      have e2 := qv_ws_set (h := h) (.inl (false, n1, va_cpy f f1 sp.toNatClampNeg dp.toNatClampNeg k.toNatClampNeg)) hn1
      exact kk p e s m args below meth c A H1 locs1 ls X ⟨by rw [← e2]; exact hP, by rw [← e2]; exact hD, fun q hq => by unfold qv_set; rw [if_neg (by omega)]; exact P.2.2 q hq⟩ hS L
    · cases e
  · cases e
end QY
theorem qin_X1 : ∀ w ∈ u_ws RX1 TX1 1, w ∈ qv_WS := qv_fm (ps := [208]) (by decide +kernel)
theorem qin_X2 : ∀ w ∈ u_ws RX2 TX2 3, w ∈ qv_WS := qv_fm (ps := [171, 172, 173]) (by decide +kernel)
theorem qin_X3 : ∀ w ∈ u_ws RX3 TX3 14, w ∈ qv_WS := qv_fm (ps := [147, 148, 149, 150, 151, 152, 153, 154, 155, 156, 157, 158, 159, 160]) (by decide +kernel)
theorem qin_X4 : ∀ w ∈ u_ws RX4 TX4 3, w ∈ qv_WS := qv_fm (ps := [227, 228, 229]) (by decide +kernel)
theorem qin_X5 : ∀ w ∈ u_ws RX5 TX5 2, w ∈ qv_WS := qv_fm (ps := [103, 104]) (by decide +kernel)
theorem qin_X6 : ∀ w ∈ u_ws RX6 TX6 2, w ∈ qv_WS := qv_fm (ps := [216, 217]) (by decide +kernel)
theorem qin_X7 : ∀ w ∈ u_ws RX7 TX7 7, w ∈ qv_WS := qv_fm (ps := [195, 196, 197, 198, 199, 200, 201]) (by decide +kernel)
theorem qin_X8 : ∀ w ∈ u_ws RX8 TX8 12, w ∈ qv_WS := qv_fm (ps := [298, 299, 300, 301, 302, 303, 304, 305, 306, 307, 308, 309]) (by decide +kernel)
theorem qin_X9 : ∀ w ∈ u_ws RX9 TX9 40, w ∈ qv_WS := qv_fm (ps := [848, 849, 850, 851, 852, 853, 854, 855, 856, 857, 858, 859, 860, 861, 862, 863, 864, 865, 866, 867, 868, 869, 870, 871, 872, 873, 874, 875, 876, 877, 878, 879, 880, 881, 882, 883, 884, 885, 886, 887]) (by decide +kernel)
end
section
theorem qA_X3_55 : Cond.methodLink RX3 55 arraycopyName ∈ qv_WS := (qv_i6 (List.mem_of_getElem? (i := 63) (by decide +kernel)))
theorem qB_X8_195 : Cond.methodLink RX8 195 Lib.Math.max.name ∈ qv_WS := (qv_i7 (List.mem_of_getElem? (i := 60) (by decide +kernel)))
theorem qB_X8_200 : Cond.methodLink RX8 200 Lib.Math.min.name ∈ qv_WS := (qv_i10 (List.mem_of_getElem? (i := 9) (by decide +kernel)))
theorem qB_X3_108 : Cond.methodLink RX3 108 Lib.Math.max.name ∈ qv_WS := (qv_i7 (List.mem_of_getElem? (i := 21) (by decide +kernel)))
theorem qB_X6_80 : Cond.methodLink RX6 80 Lib.Math.max.name ∈ qv_WS := (qv_i10 (List.mem_of_getElem? (i := 54) (by decide +kernel)))
theorem qB_X6_89 : Cond.methodLink RX6 89 Lib.Math.min.name ∈ qv_WS := (qv_i11 (List.mem_of_getElem? (i := 1) (by decide +kernel)))
theorem qB_X7_79 : Cond.methodLink RX7 79 Lib.Math.min.name ∈ qv_WS := (qv_i10 (List.mem_of_getElem? (i := 8) (by decide +kernel)))
theorem qF_X8_10 : qv_F RX8 10 7 0 (.object "TrueOneWay$Text") true := ⟨RX8, TX8, 12, tyX8, rfl, by decide, (qv_i4 (List.mem_of_getElem? (i := 30) (by decide +kernel))), qin_X8, tyX8_ok, nmX8, rfl, rfl⟩
theorem qF_X8_19 : qv_F RX8 19 7 1 (.object "TrueOneWay$Land") true := ⟨RX8, TX8, 12, tyX8, rfl, by decide, (qv_i4 (List.mem_of_getElem? (i := 31) (by decide +kernel))), qin_X8, tyX8_ok, nmX8, rfl, rfl⟩
theorem qF_X8_23 : qv_F RX8 23 7 2 (.object "TrueOneWay$Land") true := ⟨RX8, TX8, 12, tyX8, rfl, by decide, (qv_i4 (List.mem_of_getElem? (i := 32) (by decide +kernel))), qin_X8, tyX8_ok, nmX8, rfl, rfl⟩
theorem qF_X8_26 : qv_F RX8 26 7 3 (.object "TrueOneWay$Land") true := ⟨RX8, TX8, 12, tyX8, rfl, by decide, (qv_i4 (List.mem_of_getElem? (i := 33) (by decide +kernel))), qin_X8, tyX8_ok, nmX8, rfl, rfl⟩
theorem qF_X8_32 : qv_F RX8 32 7 4 (.object "TrueOneWay$Finds") true := ⟨RX8, TX8, 12, tyX8, rfl, by decide, (qv_i4 (List.mem_of_getElem? (i := 34) (by decide +kernel))), qin_X8, tyX8_ok, nmX8, rfl, rfl⟩
theorem qF_X8_36 : qv_F RX8 36 7 5 (.object "TrueOneWay$Finds") true := ⟨RX8, TX8, 12, tyX8, rfl, by decide, (qv_i4 (List.mem_of_getElem? (i := 35) (by decide +kernel))), qin_X8, tyX8_ok, nmX8, rfl, rfl⟩
theorem qF_X8_42 : qv_F RX8 42 7 6 (.object "TrueOneWay$Worlds") true := ⟨RX8, TX8, 12, tyX8, rfl, by decide, (qv_i4 (List.mem_of_getElem? (i := 36) (by decide +kernel))), qin_X8, tyX8_ok, nmX8, rfl, rfl⟩
theorem qF_X8_49 : qv_F RX8 49 7 7 (.object "TrueOneWay$Clashes") true := ⟨RX8, TX8, 12, tyX8, rfl, by decide, (qv_i4 (List.mem_of_getElem? (i := 37) (by decide +kernel))), qin_X8, tyX8_ok, nmX8, rfl, rfl⟩
theorem qF_X8_56 : qv_F RX8 56 7 8 (.object "TrueOneWay$Wayfarer") true := ⟨RX8, TX8, 12, tyX8, rfl, by decide, (qv_i4 (List.mem_of_getElem? (i := 38) (by decide +kernel))), qin_X8, tyX8_ok, nmX8, rfl, rfl⟩
theorem qF_X8_63 : qv_F RX8 63 7 9 (.object "TrueOneWay$Reading") true := ⟨RX8, TX8, 12, tyX8, rfl, by decide, (qv_i4 (List.mem_of_getElem? (i := 39) (by decide +kernel))), qin_X8, tyX8_ok, nmX8, rfl, rfl⟩
theorem qF_X8_67 : qv_F RX8 67 7 10 (.array .int) true := ⟨RX8, TX8, 12, tyX8, rfl, by decide, (qv_i4 (List.mem_of_getElem? (i := 40) (by decide +kernel))), qin_X8, tyX8_ok, nmX8, rfl, rfl⟩
theorem qF_X8_71 : qv_F RX8 71 7 11 .boolean false := ⟨RX8, TX8, 12, tyX8, rfl, by decide, (qv_i4 (List.mem_of_getElem? (i := 41) (by decide +kernel))), qin_X8, tyX8_ok, nmX8, rfl, rfl⟩
theorem qF_X8_87 : qv_F RX8 87 4 0 .int false := ⟨RX5, TX5, 2, tyX5, rfl, by decide, (qv_i1 (List.mem_of_getElem? (i := 37) (by decide +kernel))), qin_X5, tyX5_ok, nmX5, rfl, rfl⟩
theorem qF_X8_106 : qv_F RX8 106 2 4 (.array .int) true := ⟨RX3, TX3, 14, tyX3, rfl, by decide, (qv_i1 (List.mem_of_getElem? (i := 61) (by decide +kernel))), qin_X3, tyX3_ok, nmX3, rfl, rfl⟩
theorem qF_X8_109 : qv_F RX8 109 2 5 (.array .int) true := ⟨RX3, TX3, 14, tyX3, rfl, by decide, (qv_i2 (List.mem_of_getElem? (i := 1) (by decide +kernel))), qin_X3, tyX3_ok, nmX3, rfl, rfl⟩
theorem qF_X8_118 : qv_F RX8 118 2 6 (.array .int) true := ⟨RX3, TX3, 14, tyX3, rfl, by decide, (qv_i2 (List.mem_of_getElem? (i := 5) (by decide +kernel))), qin_X3, tyX3_ok, nmX3, rfl, rfl⟩
theorem qF_X8_121 : qv_F RX8 121 2 7 (.array .int) true := ⟨RX3, TX3, 14, tyX3, rfl, by decide, (qv_i2 (List.mem_of_getElem? (i := 7) (by decide +kernel))), qin_X3, tyX3_ok, nmX3, rfl, rfl⟩
theorem qF_X8_124 : qv_F RX8 124 2 8 (.array .int) true := ⟨RX3, TX3, 14, tyX3, rfl, by decide, (qv_i2 (List.mem_of_getElem? (i := 10) (by decide +kernel))), qin_X3, tyX3_ok, nmX3, rfl, rfl⟩
theorem qF_X8_127 : qv_F RX8 127 2 9 (.array .int) true := ⟨RX3, TX3, 14, tyX3, rfl, by decide, (qv_i2 (List.mem_of_getElem? (i := 12) (by decide +kernel))), qin_X3, tyX3_ok, nmX3, rfl, rfl⟩
theorem qF_X8_133 : qv_F RX8 133 2 10 (.array .int) true := ⟨RX3, TX3, 14, tyX3, rfl, by decide, (qv_i2 (List.mem_of_getElem? (i := 15) (by decide +kernel))), qin_X3, tyX3_ok, nmX3, rfl, rfl⟩
theorem qF_X8_149 : qv_F RX8 149 6 2 .int false := ⟨RX7, TX7, 7, tyX7, rfl, by decide, (qv_i2 (List.mem_of_getElem? (i := 60) (by decide +kernel))), qin_X7, tyX7_ok, nmX7, rfl, rfl⟩
theorem qF_X8_152 : qv_F RX8 152 6 3 (.array .int) true := ⟨RX7, TX7, 7, tyX7, rfl, by decide, (qv_i2 (List.mem_of_getElem? (i := 63) (by decide +kernel))), qin_X7, tyX7_ok, nmX7, rfl, rfl⟩
theorem qF_X8_162 : qv_F RX8 162 1 0 .int false := ⟨RX2, TX2, 3, tyX2, rfl, by decide, (qv_i2 (List.mem_of_getElem? (i := 40) (by decide +kernel))), qin_X2, tyX2_ok, nmX2, rfl, rfl⟩
theorem qF_X8_172 : qv_F RX8 172 6 0 .int false := ⟨RX7, TX7, 7, tyX7, rfl, by decide, (qv_i2 (List.mem_of_getElem? (i := 55) (by decide +kernel))), qin_X7, tyX7_ok, nmX7, rfl, rfl⟩
theorem qF_X8_182 : qv_F RX8 182 2 3 .int false := ⟨RX3, TX3, 14, tyX3, rfl, by decide, (qv_i1 (List.mem_of_getElem? (i := 59) (by decide +kernel))), qin_X3, tyX3_ok, nmX3, rfl, rfl⟩
theorem qF_X8_214 : qv_F RX8 214 2 2 .int false := ⟨RX3, TX3, 14, tyX3, rfl, by decide, (qv_i1 (List.mem_of_getElem? (i := 56) (by decide +kernel))), qin_X3, tyX3_ok, nmX3, rfl, rfl⟩
theorem qF_X8_234 : qv_F RX8 234 3 0 .int false := ⟨RX4, TX4, 3, tyX4, rfl, by decide, (qv_i3 (List.mem_of_getElem? (i := 32) (by decide +kernel))), qin_X4, tyX4_ok, nmX4, rfl, rfl⟩
theorem qF_X8_246 : qv_F RX8 246 2 0 .int false := ⟨RX3, TX3, 14, tyX3, rfl, by decide, (qv_i1 (List.mem_of_getElem? (i := 50) (by decide +kernel))), qin_X3, tyX3_ok, nmX3, rfl, rfl⟩
theorem qF_X8_266 : qv_F RX8 266 2 1 .int false := ⟨RX3, TX3, 14, tyX3, rfl, by decide, (qv_i1 (List.mem_of_getElem? (i := 54) (by decide +kernel))), qin_X3, tyX3_ok, nmX3, rfl, rfl⟩
theorem qF_X8_269 : qv_F RX8 269 6 1 .int false := ⟨RX7, TX7, 7, tyX7, rfl, by decide, (qv_i2 (List.mem_of_getElem? (i := 57) (by decide +kernel))), qin_X7, tyX7_ok, nmX7, rfl, rfl⟩
theorem qF_X1_9 : qv_F RX1 9 0 0 (.array .boolean) true := ⟨RX1, TX1, 1, tyX1, rfl, by decide, (qv_i3 (List.mem_of_getElem? (i := 15) (by decide +kernel))), qin_X1, tyX1_ok, nmX1, rfl, rfl⟩
theorem qF_X1_15 : qv_F RX1 15 1 0 .int false := ⟨RX2, TX2, 3, tyX2, rfl, by decide, (qv_i2 (List.mem_of_getElem? (i := 39) (by decide +kernel))), qin_X2, tyX2_ok, nmX2, rfl, rfl⟩
theorem qF_X1_31 : qv_F RX1 31 6 0 .int false := ⟨RX7, TX7, 7, tyX7, rfl, by decide, (qv_i2 (List.mem_of_getElem? (i := 54) (by decide +kernel))), qin_X7, tyX7_ok, nmX7, rfl, rfl⟩
theorem qF_X2_9 : qv_F RX2 9 1 0 .int false := ⟨RX2, TX2, 3, tyX2, rfl, by decide, (qv_i2 (List.mem_of_getElem? (i := 38) (by decide +kernel))), qin_X2, tyX2_ok, nmX2, rfl, rfl⟩
theorem qF_X2_15 : qv_F RX2 15 1 1 (.array .int) true := ⟨RX2, TX2, 3, tyX2, rfl, by decide, (qv_i2 (List.mem_of_getElem? (i := 41) (by decide +kernel))), qin_X2, tyX2_ok, nmX2, rfl, rfl⟩
theorem qF_X2_19 : qv_F RX2 19 1 2 (.array .boolean) true := ⟨RX2, TX2, 3, tyX2, rfl, by decide, (qv_i2 (List.mem_of_getElem? (i := 42) (by decide +kernel))), qin_X2, tyX2_ok, nmX2, rfl, rfl⟩
theorem qF_X3_9 : qv_F RX3 9 2 0 .int false := ⟨RX3, TX3, 14, tyX3, rfl, by decide, (qv_i1 (List.mem_of_getElem? (i := 47) (by decide +kernel))), qin_X3, tyX3_ok, nmX3, rfl, rfl⟩
theorem qF_X3_15 : qv_F RX3 15 2 1 .int false := ⟨RX3, TX3, 14, tyX3, rfl, by decide, (qv_i1 (List.mem_of_getElem? (i := 51) (by decide +kernel))), qin_X3, tyX3_ok, nmX3, rfl, rfl⟩
theorem qF_X3_18 : qv_F RX3 18 2 2 .int false := ⟨RX3, TX3, 14, tyX3, rfl, by decide, (qv_i1 (List.mem_of_getElem? (i := 55) (by decide +kernel))), qin_X3, tyX3_ok, nmX3, rfl, rfl⟩
theorem qF_X3_21 : qv_F RX3 21 2 3 .int false := ⟨RX3, TX3, 14, tyX3, rfl, by decide, (qv_i1 (List.mem_of_getElem? (i := 57) (by decide +kernel))), qin_X3, tyX3_ok, nmX3, rfl, rfl⟩
theorem qF_X3_24 : qv_F RX3 24 2 4 (.array .int) true := ⟨RX3, TX3, 14, tyX3, rfl, by decide, (qv_i1 (List.mem_of_getElem? (i := 60) (by decide +kernel))), qin_X3, tyX3_ok, nmX3, rfl, rfl⟩
theorem qF_X3_28 : qv_F RX3 28 2 5 (.array .int) true := ⟨RX3, TX3, 14, tyX3, rfl, by decide, (qv_i2 (List.mem_of_getElem? (i := 0) (by decide +kernel))), qin_X3, tyX3_ok, nmX3, rfl, rfl⟩
theorem qF_X3_31 : qv_F RX3 31 2 6 (.array .int) true := ⟨RX3, TX3, 14, tyX3, rfl, by decide, (qv_i2 (List.mem_of_getElem? (i := 4) (by decide +kernel))), qin_X3, tyX3_ok, nmX3, rfl, rfl⟩
theorem qF_X3_34 : qv_F RX3 34 2 7 (.array .int) true := ⟨RX3, TX3, 14, tyX3, rfl, by decide, (qv_i2 (List.mem_of_getElem? (i := 6) (by decide +kernel))), qin_X3, tyX3_ok, nmX3, rfl, rfl⟩
theorem qF_X3_37 : qv_F RX3 37 2 8 (.array .int) true := ⟨RX3, TX3, 14, tyX3, rfl, by decide, (qv_i2 (List.mem_of_getElem? (i := 9) (by decide +kernel))), qin_X3, tyX3_ok, nmX3, rfl, rfl⟩
theorem qF_X3_40 : qv_F RX3 40 2 9 (.array .int) true := ⟨RX3, TX3, 14, tyX3, rfl, by decide, (qv_i2 (List.mem_of_getElem? (i := 11) (by decide +kernel))), qin_X3, tyX3_ok, nmX3, rfl, rfl⟩
theorem qF_X3_43 : qv_F RX3 43 2 10 (.array .int) true := ⟨RX3, TX3, 14, tyX3, rfl, by decide, (qv_i2 (List.mem_of_getElem? (i := 13) (by decide +kernel))), qin_X3, tyX3_ok, nmX3, rfl, rfl⟩
theorem qF_X3_46 : qv_F RX3 46 2 11 .int false := ⟨RX3, TX3, 14, tyX3, rfl, by decide, (qv_i2 (List.mem_of_getElem? (i := 16) (by decide +kernel))), qin_X3, tyX3_ok, nmX3, rfl, rfl⟩
theorem qF_X3_49 : qv_F RX3 49 2 12 .int false := ⟨RX3, TX3, 14, tyX3, rfl, by decide, (qv_i2 (List.mem_of_getElem? (i := 17) (by decide +kernel))), qin_X3, tyX3_ok, nmX3, rfl, rfl⟩
theorem qF_X3_52 : qv_F RX3 52 2 13 .int false := ⟨RX3, TX3, 14, tyX3, rfl, by decide, (qv_i2 (List.mem_of_getElem? (i := 18) (by decide +kernel))), qin_X3, tyX3_ok, nmX3, rfl, rfl⟩
theorem qF_X4_9 : qv_F RX4 9 3 0 .int false := ⟨RX4, TX4, 3, tyX4, rfl, by decide, (qv_i3 (List.mem_of_getElem? (i := 31) (by decide +kernel))), qin_X4, tyX4_ok, nmX4, rfl, rfl⟩
theorem qF_X4_15 : qv_F RX4 15 3 1 (.array .int) true := ⟨RX4, TX4, 3, tyX4, rfl, by decide, (qv_i3 (List.mem_of_getElem? (i := 33) (by decide +kernel))), qin_X4, tyX4_ok, nmX4, rfl, rfl⟩
theorem qF_X4_19 : qv_F RX4 19 3 2 (.array .int) true := ⟨RX4, TX4, 3, tyX4, rfl, by decide, (qv_i3 (List.mem_of_getElem? (i := 34) (by decide +kernel))), qin_X4, tyX4_ok, nmX4, rfl, rfl⟩
theorem qF_X4_22 : qv_F RX4 22 2 0 .int false := ⟨RX3, TX3, 14, tyX3, rfl, by decide, (qv_i1 (List.mem_of_getElem? (i := 48) (by decide +kernel))), qin_X3, tyX3_ok, nmX3, rfl, rfl⟩
theorem qF_X4_27 : qv_F RX4 27 2 1 .int false := ⟨RX3, TX3, 14, tyX3, rfl, by decide, (qv_i1 (List.mem_of_getElem? (i := 52) (by decide +kernel))), qin_X3, tyX3_ok, nmX3, rfl, rfl⟩
theorem qF_X4_47 : qv_F RX4 47 2 4 (.array .int) true := ⟨RX3, TX3, 14, tyX3, rfl, by decide, (qv_i1 (List.mem_of_getElem? (i := 63) (by decide +kernel))), qin_X3, tyX3_ok, nmX3, rfl, rfl⟩
theorem qF_X4_50 : qv_F RX4 50 2 5 (.array .int) true := ⟨RX3, TX3, 14, tyX3, rfl, by decide, (qv_i2 (List.mem_of_getElem? (i := 3) (by decide +kernel))), qin_X3, tyX3_ok, nmX3, rfl, rfl⟩
theorem qF_X4_53 : qv_F RX4 53 2 3 .int false := ⟨RX3, TX3, 14, tyX3, rfl, by decide, (qv_i1 (List.mem_of_getElem? (i := 58) (by decide +kernel))), qin_X3, tyX3_ok, nmX3, rfl, rfl⟩
theorem qF_X4_56 : qv_F RX4 56 2 7 (.array .int) true := ⟨RX3, TX3, 14, tyX3, rfl, by decide, (qv_i2 (List.mem_of_getElem? (i := 8) (by decide +kernel))), qin_X3, tyX3_ok, nmX3, rfl, rfl⟩
theorem qF_X5_9 : qv_F RX5 9 4 0 .int false := ⟨RX5, TX5, 2, tyX5, rfl, by decide, (qv_i1 (List.mem_of_getElem? (i := 36) (by decide +kernel))), qin_X5, tyX5_ok, nmX5, rfl, rfl⟩
theorem qF_X5_15 : qv_F RX5 15 4 1 (.array .int) true := ⟨RX5, TX5, 2, tyX5, rfl, by decide, (qv_i1 (List.mem_of_getElem? (i := 38) (by decide +kernel))), qin_X5, tyX5_ok, nmX5, rfl, rfl⟩
theorem qF_X6_9 : qv_F RX6 9 5 0 (.array .int) true := ⟨RX6, TX6, 2, tyX6, rfl, by decide, (qv_i3 (List.mem_of_getElem? (i := 22) (by decide +kernel))), qin_X6, tyX6_ok, nmX6, rfl, rfl⟩
theorem qF_X6_15 : qv_F RX6 15 5 1 (.array .boolean) true := ⟨RX6, TX6, 2, tyX6, rfl, by decide, (qv_i3 (List.mem_of_getElem? (i := 23) (by decide +kernel))), qin_X6, tyX6_ok, nmX6, rfl, rfl⟩
theorem qF_X6_19 : qv_F RX6 19 6 2 .int false := ⟨RX7, TX7, 7, tyX7, rfl, by decide, (qv_i2 (List.mem_of_getElem? (i := 59) (by decide +kernel))), qin_X7, tyX7_ok, nmX7, rfl, rfl⟩
theorem qF_X6_25 : qv_F RX6 25 6 3 (.array .int) true := ⟨RX7, TX7, 7, tyX7, rfl, by decide, (qv_i2 (List.mem_of_getElem? (i := 62) (by decide +kernel))), qin_X7, tyX7_ok, nmX7, rfl, rfl⟩
theorem qF_X6_28 : qv_F RX6 28 6 0 .int false := ⟨RX7, TX7, 7, tyX7, rfl, by decide, (qv_i2 (List.mem_of_getElem? (i := 53) (by decide +kernel))), qin_X7, tyX7_ok, nmX7, rfl, rfl⟩
theorem qF_X6_39 : qv_F RX6 39 2 10 (.array .int) true := ⟨RX3, TX3, 14, tyX3, rfl, by decide, (qv_i2 (List.mem_of_getElem? (i := 14) (by decide +kernel))), qin_X3, tyX3_ok, nmX3, rfl, rfl⟩
theorem qF_X6_48 : qv_F RX6 48 2 0 .int false := ⟨RX3, TX3, 14, tyX3, rfl, by decide, (qv_i1 (List.mem_of_getElem? (i := 49) (by decide +kernel))), qin_X3, tyX3_ok, nmX3, rfl, rfl⟩
theorem qF_X6_67 : qv_F RX6 67 2 1 .int false := ⟨RX3, TX3, 14, tyX3, rfl, by decide, (qv_i1 (List.mem_of_getElem? (i := 53) (by decide +kernel))), qin_X3, tyX3_ok, nmX3, rfl, rfl⟩
theorem qF_X6_70 : qv_F RX6 70 2 4 (.array .int) true := ⟨RX3, TX3, 14, tyX3, rfl, by decide, (qv_i1 (List.mem_of_getElem? (i := 62) (by decide +kernel))), qin_X3, tyX3_ok, nmX3, rfl, rfl⟩
theorem qF_X6_73 : qv_F RX6 73 2 5 (.array .int) true := ⟨RX3, TX3, 14, tyX3, rfl, by decide, (qv_i2 (List.mem_of_getElem? (i := 2) (by decide +kernel))), qin_X3, tyX3_ok, nmX3, rfl, rfl⟩
theorem qF_X7_9 : qv_F RX7 9 6 0 .int false := ⟨RX7, TX7, 7, tyX7, rfl, by decide, (qv_i2 (List.mem_of_getElem? (i := 52) (by decide +kernel))), qin_X7, tyX7_ok, nmX7, rfl, rfl⟩
theorem qF_X7_15 : qv_F RX7 15 6 1 .int false := ⟨RX7, TX7, 7, tyX7, rfl, by decide, (qv_i2 (List.mem_of_getElem? (i := 56) (by decide +kernel))), qin_X7, tyX7_ok, nmX7, rfl, rfl⟩
theorem qF_X7_18 : qv_F RX7 18 6 2 .int false := ⟨RX7, TX7, 7, tyX7, rfl, by decide, (qv_i2 (List.mem_of_getElem? (i := 58) (by decide +kernel))), qin_X7, tyX7_ok, nmX7, rfl, rfl⟩
theorem qF_X7_21 : qv_F RX7 21 6 3 (.array .int) true := ⟨RX7, TX7, 7, tyX7, rfl, by decide, (qv_i2 (List.mem_of_getElem? (i := 61) (by decide +kernel))), qin_X7, tyX7_ok, nmX7, rfl, rfl⟩
theorem qF_X7_25 : qv_F RX7 25 6 4 .int false := ⟨RX7, TX7, 7, tyX7, rfl, by decide, (qv_i3 (List.mem_of_getElem? (i := 0) (by decide +kernel))), qin_X7, tyX7_ok, nmX7, rfl, rfl⟩
theorem qF_X7_28 : qv_F RX7 28 6 5 .int false := ⟨RX7, TX7, 7, tyX7, rfl, by decide, (qv_i3 (List.mem_of_getElem? (i := 1) (by decide +kernel))), qin_X7, tyX7_ok, nmX7, rfl, rfl⟩
theorem qF_X7_31 : qv_F RX7 31 6 6 (.array .int) true := ⟨RX7, TX7, 7, tyX7, rfl, by decide, (qv_i3 (List.mem_of_getElem? (i := 2) (by decide +kernel))), qin_X7, tyX7_ok, nmX7, rfl, rfl⟩
theorem qF_X9_7 : qv_F RX9 7 8 0 (.array .int) true := ⟨RX9, TX9, 40, tyX9, rfl, by decide, (qv_i12 (List.mem_of_getElem? (i := 40) (by decide +kernel))), qin_X9, tyX9_ok, nmX9, rfl, rfl⟩
theorem qF_X9_13 : qv_F RX9 13 8 1 (.array .int) true := ⟨RX9, TX9, 40, tyX9, rfl, by decide, (qv_i12 (List.mem_of_getElem? (i := 41) (by decide +kernel))), qin_X9, tyX9_ok, nmX9, rfl, rfl⟩
theorem qF_X9_16 : qv_F RX9 16 8 2 (.array .int) true := ⟨RX9, TX9, 40, tyX9, rfl, by decide, (qv_i12 (List.mem_of_getElem? (i := 42) (by decide +kernel))), qin_X9, tyX9_ok, nmX9, rfl, rfl⟩
theorem qF_X9_19 : qv_F RX9 19 8 3 (.array .int) true := ⟨RX9, TX9, 40, tyX9, rfl, by decide, (qv_i12 (List.mem_of_getElem? (i := 43) (by decide +kernel))), qin_X9, tyX9_ok, nmX9, rfl, rfl⟩
theorem qF_X9_22 : qv_F RX9 22 8 4 (.array .int) true := ⟨RX9, TX9, 40, tyX9, rfl, by decide, (qv_i12 (List.mem_of_getElem? (i := 44) (by decide +kernel))), qin_X9, tyX9_ok, nmX9, rfl, rfl⟩
theorem qF_X9_25 : qv_F RX9 25 8 5 (.array .int) true := ⟨RX9, TX9, 40, tyX9, rfl, by decide, (qv_i12 (List.mem_of_getElem? (i := 45) (by decide +kernel))), qin_X9, tyX9_ok, nmX9, rfl, rfl⟩
theorem qF_X9_28 : qv_F RX9 28 8 6 (.array .int) true := ⟨RX9, TX9, 40, tyX9, rfl, by decide, (qv_i12 (List.mem_of_getElem? (i := 46) (by decide +kernel))), qin_X9, tyX9_ok, nmX9, rfl, rfl⟩
theorem qF_X9_31 : qv_F RX9 31 8 7 (.array .int) true := ⟨RX9, TX9, 40, tyX9, rfl, by decide, (qv_i12 (List.mem_of_getElem? (i := 47) (by decide +kernel))), qin_X9, tyX9_ok, nmX9, rfl, rfl⟩
theorem qF_X9_34 : qv_F RX9 34 8 8 .int false := ⟨RX9, TX9, 40, tyX9, rfl, by decide, (qv_i12 (List.mem_of_getElem? (i := 48) (by decide +kernel))), qin_X9, tyX9_ok, nmX9, rfl, rfl⟩
theorem qF_X9_38 : qv_F RX9 38 8 14 .int false := ⟨RX9, TX9, 40, tyX9, rfl, by decide, (qv_i12 (List.mem_of_getElem? (i := 54) (by decide +kernel))), qin_X9, tyX9_ok, nmX9, rfl, rfl⟩
theorem qF_X9_41 : qv_F RX9 41 8 15 (.array .int) true := ⟨RX9, TX9, 40, tyX9, rfl, by decide, (qv_i12 (List.mem_of_getElem? (i := 55) (by decide +kernel))), qin_X9, tyX9_ok, nmX9, rfl, rfl⟩
theorem qF_X9_44 : qv_F RX9 44 8 16 (.array .int) true := ⟨RX9, TX9, 40, tyX9, rfl, by decide, (qv_i12 (List.mem_of_getElem? (i := 56) (by decide +kernel))), qin_X9, tyX9_ok, nmX9, rfl, rfl⟩
theorem qF_X9_47 : qv_F RX9 47 8 18 (.array .int) true := ⟨RX9, TX9, 40, tyX9, rfl, by decide, (qv_i12 (List.mem_of_getElem? (i := 58) (by decide +kernel))), qin_X9, tyX9_ok, nmX9, rfl, rfl⟩
theorem qF_X9_50 : qv_F RX9 50 8 19 (.array .int) true := ⟨RX9, TX9, 40, tyX9, rfl, by decide, (qv_i12 (List.mem_of_getElem? (i := 59) (by decide +kernel))), qin_X9, tyX9_ok, nmX9, rfl, rfl⟩
theorem qF_X9_53 : qv_F RX9 53 8 20 (.array .int) true := ⟨RX9, TX9, 40, tyX9, rfl, by decide, (qv_i12 (List.mem_of_getElem? (i := 60) (by decide +kernel))), qin_X9, tyX9_ok, nmX9, rfl, rfl⟩
theorem qF_X9_56 : qv_F RX9 56 8 21 (.array .int) true := ⟨RX9, TX9, 40, tyX9, rfl, by decide, (qv_i12 (List.mem_of_getElem? (i := 61) (by decide +kernel))), qin_X9, tyX9_ok, nmX9, rfl, rfl⟩
theorem qF_X9_59 : qv_F RX9 59 8 22 (.array .int) true := ⟨RX9, TX9, 40, tyX9, rfl, by decide, (qv_i12 (List.mem_of_getElem? (i := 62) (by decide +kernel))), qin_X9, tyX9_ok, nmX9, rfl, rfl⟩
theorem qF_X9_62 : qv_F RX9 62 8 23 (.array .int) true := ⟨RX9, TX9, 40, tyX9, rfl, by decide, (qv_i12 (List.mem_of_getElem? (i := 63) (by decide +kernel))), qin_X9, tyX9_ok, nmX9, rfl, rfl⟩
theorem qF_X9_65 : qv_F RX9 65 8 24 (.array .int) true := ⟨RX9, TX9, 40, tyX9, rfl, by decide, (qv_i13 (List.mem_of_getElem? (i := 0) (by decide +kernel))), qin_X9, tyX9_ok, nmX9, rfl, rfl⟩
theorem qF_X9_68 : qv_F RX9 68 8 28 (.array .int) true := ⟨RX9, TX9, 40, tyX9, rfl, by decide, (qv_i13 (List.mem_of_getElem? (i := 4) (by decide +kernel))), qin_X9, tyX9_ok, nmX9, rfl, rfl⟩
theorem qF_X9_71 : qv_F RX9 71 8 32 (.array .int) true := ⟨RX9, TX9, 40, tyX9, rfl, by decide, (qv_i13 (List.mem_of_getElem? (i := 8) (by decide +kernel))), qin_X9, tyX9_ok, nmX9, rfl, rfl⟩
theorem qF_X9_74 : qv_F RX9 74 8 34 (.array .int) true := ⟨RX9, TX9, 40, tyX9, rfl, by decide, (qv_i13 (List.mem_of_getElem? (i := 10) (by decide +kernel))), qin_X9, tyX9_ok, nmX9, rfl, rfl⟩
theorem qF_X9_77 : qv_F RX9 77 8 35 (.array .int) true := ⟨RX9, TX9, 40, tyX9, rfl, by decide, (qv_i13 (List.mem_of_getElem? (i := 11) (by decide +kernel))), qin_X9, tyX9_ok, nmX9, rfl, rfl⟩
theorem qF_X9_80 : qv_F RX9 80 8 36 (.array .int) true := ⟨RX9, TX9, 40, tyX9, rfl, by decide, (qv_i13 (List.mem_of_getElem? (i := 12) (by decide +kernel))), qin_X9, tyX9_ok, nmX9, rfl, rfl⟩
theorem qF_X9_83 : qv_F RX9 83 8 37 (.array .int) true := ⟨RX9, TX9, 40, tyX9, rfl, by decide, (qv_i13 (List.mem_of_getElem? (i := 13) (by decide +kernel))), qin_X9, tyX9_ok, nmX9, rfl, rfl⟩
theorem qF_X9_86 : qv_F RX9 86 8 38 (.array .int) true := ⟨RX9, TX9, 40, tyX9, rfl, by decide, (qv_i13 (List.mem_of_getElem? (i := 14) (by decide +kernel))), qin_X9, tyX9_ok, nmX9, rfl, rfl⟩
theorem qF_X9_89 : qv_F RX9 89 8 10 .int false := ⟨RX9, TX9, 40, tyX9, rfl, by decide, (qv_i12 (List.mem_of_getElem? (i := 50) (by decide +kernel))), qin_X9, tyX9_ok, nmX9, rfl, rfl⟩
theorem qF_X9_92 : qv_F RX9 92 8 11 .int false := ⟨RX9, TX9, 40, tyX9, rfl, by decide, (qv_i12 (List.mem_of_getElem? (i := 51) (by decide +kernel))), qin_X9, tyX9_ok, nmX9, rfl, rfl⟩
theorem qF_X9_99 : qv_F RX9 99 8 25 .int false := ⟨RX9, TX9, 40, tyX9, rfl, by decide, (qv_i13 (List.mem_of_getElem? (i := 1) (by decide +kernel))), qin_X9, tyX9_ok, nmX9, rfl, rfl⟩
theorem qF_X9_106 : qv_F RX9 106 8 26 .int false := ⟨RX9, TX9, 40, tyX9, rfl, by decide, (qv_i13 (List.mem_of_getElem? (i := 2) (by decide +kernel))), qin_X9, tyX9_ok, nmX9, rfl, rfl⟩
theorem qF_X9_123 : qv_F RX9 123 8 27 .int false := ⟨RX9, TX9, 40, tyX9, rfl, by decide, (qv_i13 (List.mem_of_getElem? (i := 3) (by decide +kernel))), qin_X9, tyX9_ok, nmX9, rfl, rfl⟩
theorem qF_X9_137 : qv_F RX9 137 8 9 .int false := ⟨RX9, TX9, 40, tyX9, rfl, by decide, (qv_i12 (List.mem_of_getElem? (i := 49) (by decide +kernel))), qin_X9, tyX9_ok, nmX9, rfl, rfl⟩
theorem qF_X9_140 : qv_F RX9 140 8 12 .int false := ⟨RX9, TX9, 40, tyX9, rfl, by decide, (qv_i12 (List.mem_of_getElem? (i := 52) (by decide +kernel))), qin_X9, tyX9_ok, nmX9, rfl, rfl⟩
theorem qF_X9_143 : qv_F RX9 143 8 13 .int false := ⟨RX9, TX9, 40, tyX9, rfl, by decide, (qv_i12 (List.mem_of_getElem? (i := 53) (by decide +kernel))), qin_X9, tyX9_ok, nmX9, rfl, rfl⟩
theorem qF_X9_172 : qv_F RX9 172 8 30 .boolean false := ⟨RX9, TX9, 40, tyX9, rfl, by decide, (qv_i13 (List.mem_of_getElem? (i := 6) (by decide +kernel))), qin_X9, tyX9_ok, nmX9, rfl, rfl⟩
theorem qF_X9_176 : qv_F RX9 176 8 31 .int false := ⟨RX9, TX9, 40, tyX9, rfl, by decide, (qv_i13 (List.mem_of_getElem? (i := 7) (by decide +kernel))), qin_X9, tyX9_ok, nmX9, rfl, rfl⟩
theorem qF_X9_186 : qv_F RX9 186 8 17 .int false := ⟨RX9, TX9, 40, tyX9, rfl, by decide, (qv_i12 (List.mem_of_getElem? (i := 57) (by decide +kernel))), qin_X9, tyX9_ok, nmX9, rfl, rfl⟩
theorem qF_X9_189 : qv_F RX9 189 8 29 .boolean false := ⟨RX9, TX9, 40, tyX9, rfl, by decide, (qv_i13 (List.mem_of_getElem? (i := 5) (by decide +kernel))), qin_X9, tyX9_ok, nmX9, rfl, rfl⟩
theorem qF_X9_192 : qv_F RX9 192 8 39 .int false := ⟨RX9, TX9, 40, tyX9, rfl, by decide, (qv_i13 (List.mem_of_getElem? (i := 15) (by decide +kernel))), qin_X9, tyX9_ok, nmX9, rfl, rfl⟩
theorem qF_X9_223 : qv_F RX9 223 8 33 .int false := ⟨RX9, TX9, 40, tyX9, rfl, by decide, (qv_i13 (List.mem_of_getElem? (i := 9) (by decide +kernel))), qin_X9, tyX9_ok, nmX9, rfl, rfl⟩
theorem qK_X8_252 : Cond.constant RX8 252 (1664525 : Int32) ∈ qv_WS := (qv_i12 (List.mem_of_getElem? (i := 3) (by decide +kernel)))
theorem qK_X8_253 : Cond.constant RX8 253 (1013904223 : Int32) ∈ qv_WS := (qv_i12 (List.mem_of_getElem? (i := 4) (by decide +kernel)))
theorem qK_X8_254 : Cond.constant RX8 254 (2147483647 : Int32) ∈ qv_WS := (qv_i12 (List.mem_of_getElem? (i := 5) (by decide +kernel)))
theorem qK_X9_301 : Cond.constant RX9 301 (1664525 : Int32) ∈ qv_WS := (qv_i18 (List.mem_of_getElem? (i := 0) (by decide +kernel)))
theorem qK_X9_302 : Cond.constant RX9 302 (1013904223 : Int32) ∈ qv_WS := (qv_i18 (List.mem_of_getElem? (i := 1) (by decide +kernel)))
theorem qK_X9_303 : Cond.constant RX9 303 (2147483647 : Int32) ∈ qv_WS := (qv_i18 (List.mem_of_getElem? (i := 2) (by decide +kernel)))
theorem qK_J6_265 : Cond.constant RJ6 265 (1431655765 : Int32) ∈ qv_WS := (qv_i9 (List.mem_of_getElem? (i := 34) (by decide +kernel)))
theorem qK_J6_266 : Cond.constant RJ6 266 (858993459 : Int32) ∈ qv_WS := (qv_i9 (List.mem_of_getElem? (i := 35) (by decide +kernel)))
theorem qK_J6_267 : Cond.constant RJ6 267 (252645135 : Int32) ∈ qv_WS := (qv_i9 (List.mem_of_getElem? (i := 36) (by decide +kernel)))
theorem qM_X8_75 : Cond.methodLink RX8 75 yX7_reckon ∈ qv_WS := (qv_i3 (List.mem_of_getElem? (i := 38) (by decide +kernel)))
theorem qM_X8_79 : Cond.methodLink RX8 79 yX7_sift ∈ qv_WS := (qv_i4 (List.mem_of_getElem? (i := 8) (by decide +kernel)))
theorem qM_X8_83 : Cond.methodLink RX8 83 yX8_refuse ∈ qv_WS := (qv_i4 (List.mem_of_getElem? (i := 58) (by decide +kernel)))
theorem qM_X8_91 : Cond.methodLink RX8 91 yX5_add ∈ qv_WS := (qv_i4 (List.mem_of_getElem? (i := 61) (by decide +kernel)))
theorem qM_X8_95 : Cond.methodLink RX8 95 yX8_readText ∈ qv_WS := (qv_i5 (List.mem_of_getElem? (i := 5) (by decide +kernel)))
theorem qM_X8_99 : Cond.methodLink RX8 99 yX5_clear ∈ qv_WS := (qv_i7 (List.mem_of_getElem? (i := 61) (by decide +kernel)))
theorem qM_X8_102 : Cond.methodLink RX8 102 yX3_hasRoad ∈ qv_WS := (qv_i8 (List.mem_of_getElem? (i := 6) (by decide +kernel)))
theorem qM_X8_112 : Cond.methodLink RX8 112 yX3_signsOn ∈ qv_WS := (qv_i8 (List.mem_of_getElem? (i := 7) (by decide +kernel)))
theorem qM_X8_115 : Cond.methodLink RX8 115 yX3_hasSign ∈ qv_WS := (qv_i8 (List.mem_of_getElem? (i := 15) (by decide +kernel)))
theorem qM_X8_130 : Cond.methodLink RX8 130 yX3_hasPlace ∈ qv_WS := (qv_i8 (List.mem_of_getElem? (i := 20) (by decide +kernel)))
theorem qM_X8_136 : Cond.methodLink RX8 136 yX7_has ∈ qv_WS := (qv_i8 (List.mem_of_getElem? (i := 25) (by decide +kernel)))
theorem qM_X8_139 : Cond.methodLink RX8 139 yX7_isFitting ∈ qv_WS := (qv_i8 (List.mem_of_getElem? (i := 26) (by decide +kernel)))
theorem qM_X8_142 : Cond.methodLink RX8 142 yX7_isGood ∈ qv_WS := (qv_i8 (List.mem_of_getElem? (i := 31) (by decide +kernel)))
theorem qM_X8_145 : Cond.methodLink RX8 145 yX3_isSaidSo ∈ qv_WS := (qv_i8 (List.mem_of_getElem? (i := 36) (by decide +kernel)))
theorem qM_X8_155 : Cond.methodLink RX8 155 yX3_hasFact ∈ qv_WS := (qv_i8 (List.mem_of_getElem? (i := 45) (by decide +kernel)))
theorem qM_X8_158 : Cond.methodLink RX8 158 yX8_find ∈ qv_WS := (qv_i8 (List.mem_of_getElem? (i := 46) (by decide +kernel)))
theorem qM_X8_163 : Cond.methodLink RX8 163 yX2_dropLatest ∈ qv_WS := (qv_i8 (List.mem_of_getElem? (i := 61) (by decide +kernel)))
theorem qM_X8_166 : Cond.methodLink RX8 166 yX7_alwaysSo ∈ qv_WS := (qv_i9 (List.mem_of_getElem? (i := 5) (by decide +kernel)))
theorem qM_X8_169 : Cond.methodLink RX8 169 yX7_everSo ∈ qv_WS := (qv_i9 (List.mem_of_getElem? (i := 9) (by decide +kernel)))
theorem qM_X8_175 : Cond.methodLink RX8 175 yX1_fewestClashing ∈ qv_WS := (qv_i9 (List.mem_of_getElem? (i := 17) (by decide +kernel)))
theorem qM_X8_179 : Cond.methodLink RX8 179 yX7_openFacts ∈ qv_WS := (qv_i9 (List.mem_of_getElem? (i := 41) (by decide +kernel)))
theorem qM_X8_185 : Cond.methodLink RX8 185 yX3_comesBack ∈ qv_WS := (qv_i9 (List.mem_of_getElem? (i := 51) (by decide +kernel)))
theorem qM_X8_188 : Cond.methodLink RX8 188 yX7_sureWithJokers ∈ qv_WS := (qv_i9 (List.mem_of_getElem? (i := 59) (by decide +kernel)))
theorem qM_X8_191 : Cond.methodLink RX8 191 yX7_leastMisfits ∈ qv_WS := (qv_i10 (List.mem_of_getElem? (i := 3) (by decide +kernel)))
theorem qM_X8_203 : Cond.methodLink RX8 203 yX3_signMask ∈ qv_WS := (qv_i10 (List.mem_of_getElem? (i := 14) (by decide +kernel)))
theorem qM_X8_206 : Cond.methodLink RX8 206 yX7_fewestTelling ∈ qv_WS := (qv_i10 (List.mem_of_getElem? (i := 15) (by decide +kernel)))
theorem qM_X8_209 : Cond.methodLink RX8 209 yJ6_bitCount_0f7a4 ∈ qv_WS := (qv_i10 (List.mem_of_getElem? (i := 24) (by decide +kernel)))
theorem qM_X8_217 : Cond.methodLink RX8 217 yX7_isAlikeBy ∈ qv_WS := (qv_i10 (List.mem_of_getElem? (i := 29) (by decide +kernel)))
theorem qM_X8_220 : Cond.methodLink RX8 220 yX3_hasInn ∈ qv_WS := (qv_i10 (List.mem_of_getElem? (i := 34) (by decide +kernel)))
theorem qM_X8_224 : Cond.methodLink RX8 224 yX6_reckon ∈ qv_WS := (qv_i10 (List.mem_of_getElem? (i := 38) (by decide +kernel)))
theorem qM_X8_227 : Cond.methodLink RX8 227 yX6_leastRoads ∈ qv_WS := (qv_i11 (List.mem_of_getElem? (i := 2) (by decide +kernel)))
theorem qM_X8_230 : Cond.methodLink RX8 230 yX6_firstGoal ∈ qv_WS := (qv_i11 (List.mem_of_getElem? (i := 6) (by decide +kernel)))
theorem qM_X8_235 : Cond.methodLink RX8 235 yX4_add ∈ qv_WS := (qv_i11 (List.mem_of_getElem? (i := 19) (by decide +kernel)))
theorem qM_X8_236 : Cond.methodLink RX8 236 yX4_trace ∈ qv_WS := (qv_i11 (List.mem_of_getElem? (i := 27) (by decide +kernel)))
theorem qM_X8_239 : Cond.methodLink RX8 239 yX4_walkCount ∈ qv_WS := (qv_i11 (List.mem_of_getElem? (i := 39) (by decide +kernel)))
theorem qM_X8_242 : Cond.methodLink RX8 242 yX4_endPlaces ∈ qv_WS := (qv_i11 (List.mem_of_getElem? (i := 43) (by decide +kernel)))
theorem qM_X8_245 : Cond.methodLink RX8 245 yX4_clear ∈ qv_WS := (qv_i11 (List.mem_of_getElem? (i := 47) (by decide +kernel)))
theorem qM_X8_249 : Cond.methodLink RX8 249 yX8_leastGreaterPart ∈ qv_WS := (qv_i11 (List.mem_of_getElem? (i := 55) (by decide +kernel)))
theorem qM_X8_255 : Cond.methodLink RX8 255 yX2_firstBroken ∈ qv_WS := (qv_i12 (List.mem_of_getElem? (i := 10) (by decide +kernel)))
theorem qM_X8_258 : Cond.methodLink RX8 258 yX3_firstMisfit ∈ qv_WS := (qv_i12 (List.mem_of_getElem? (i := 14) (by decide +kernel)))
theorem qM_X8_261 : Cond.methodLink RX8 261 yX3_become ∈ qv_WS := (qv_i6 (List.mem_of_getElem? (i := 59) (by decide +kernel)))
theorem qM_X8_264 : Cond.methodLink RX8 264 yX2_become ∈ qv_WS := (qv_i12 (List.mem_of_getElem? (i := 22) (by decide +kernel)))
theorem qM_X8_272 : Cond.methodLink RX8 272 yX5_firstOdd ∈ qv_WS := (qv_i5 (List.mem_of_getElem? (i := 8) (by decide +kernel)))
theorem qM_X8_275 : Cond.methodLink RX8 275 yX3_take ∈ qv_WS := (qv_i7 (List.mem_of_getElem? (i := 2) (by decide +kernel)))
theorem qM_X8_279 : Cond.methodLink RX8 279 yX5_lengthAt ∈ qv_WS := (qv_i7 (List.mem_of_getElem? (i := 56) (by decide +kernel)))
theorem qM_X8_282 : Cond.methodLink RX8 282 yX2_add ∈ qv_WS := (qv_i8 (List.mem_of_getElem? (i := 49) (by decide +kernel)))
theorem qM_X8_285 : Cond.methodLink RX8 285 yX0_has ∈ qv_WS := (qv_i11 (List.mem_of_getElem? (i := 58) (by decide +kernel)))
theorem qM_X8_289 : Cond.methodLink RX8 289 yX7_goodWith ∈ qv_WS := (qv_i11 (List.mem_of_getElem? (i := 59) (by decide +kernel)))
theorem qM_X1_21 : Cond.methodLink RX1 21 yX1_markSetsThatCanBe ∈ qv_WS := (qv_i9 (List.mem_of_getElem? (i := 21) (by decide +kernel)))
theorem qM_X1_25 : Cond.methodLink RX1 25 yJ6_bitCount_0f7a4 ∈ qv_WS := (qv_i9 (List.mem_of_getElem? (i := 31) (by decide +kernel)))
theorem qM_X1_36 : Cond.methodLink RX1 36 yX7_isFitting ∈ qv_WS := (qv_i9 (List.mem_of_getElem? (i := 24) (by decide +kernel)))
theorem qM_X1_40 : Cond.methodLink RX1 40 yX2_keptIn ∈ qv_WS := (qv_i9 (List.mem_of_getElem? (i := 25) (by decide +kernel)))
theorem qM_X1_43 : Cond.methodLink RX1 43 yX0_has ∈ qv_WS := (qv_i9 (List.mem_of_getElem? (i := 30) (by decide +kernel)))
theorem qM_X2_23 : Cond.methodLink RX2 23 yX0_has ∈ qv_WS := (qv_i9 (List.mem_of_getElem? (i := 29) (by decide +kernel)))
theorem qM_X3_61 : Cond.methodLink RX3 61 yX3_signMask ∈ qv_WS := (qv_i3 (List.mem_of_getElem? (i := 46) (by decide +kernel)))
theorem qM_X3_65 : Cond.methodLink RX3 65 yX0_has ∈ qv_WS := (qv_i3 (List.mem_of_getElem? (i := 61) (by decide +kernel)))
theorem qM_X3_71 : Cond.methodLink RX3 71 yX5_digitAt ∈ qv_WS := (qv_i7 (List.mem_of_getElem? (i := 6) (by decide +kernel)))
theorem qM_X3_77 : Cond.methodLink RX3 77 yX5_at ∈ qv_WS := (qv_i7 (List.mem_of_getElem? (i := 14) (by decide +kernel)))
theorem qM_X3_80 : Cond.methodLink RX3 80 yX3_takePlaces ∈ qv_WS := (qv_i7 (List.mem_of_getElem? (i := 15) (by decide +kernel)))
theorem qM_X3_84 : Cond.methodLink RX3 84 yX3_takeRoad ∈ qv_WS := (qv_i7 (List.mem_of_getElem? (i := 22) (by decide +kernel)))
theorem qM_X3_87 : Cond.methodLink RX3 87 yX3_takeFact ∈ qv_WS := (qv_i7 (List.mem_of_getElem? (i := 29) (by decide +kernel)))
theorem qM_X3_91 : Cond.methodLink RX3 91 yX5_kindAt ∈ qv_WS := (qv_i7 (List.mem_of_getElem? (i := 32) (by decide +kernel)))
theorem qM_X3_94 : Cond.methodLink RX3 94 yX3_takeSign ∈ qv_WS := (qv_i7 (List.mem_of_getElem? (i := 36) (by decide +kernel)))
theorem qM_X3_98 : Cond.methodLink RX3 98 yX3_takeShown ∈ qv_WS := (qv_i7 (List.mem_of_getElem? (i := 50) (by decide +kernel)))
theorem qM_X3_101 : Cond.methodLink RX3 101 yX3_takeInn ∈ qv_WS := (qv_i7 (List.mem_of_getElem? (i := 53) (by decide +kernel)))
theorem qM_X3_105 : Cond.methodLink RX3 105 yX3_placesToldOf ∈ qv_WS := (qv_i7 (List.mem_of_getElem? (i := 18) (by decide +kernel)))
theorem qM_X3_114 : Cond.methodLink RX3 114 yX3_hasPlace ∈ qv_WS := (qv_i7 (List.mem_of_getElem? (i := 25) (by decide +kernel)))
theorem qM_X3_117 : Cond.methodLink RX3 117 yX3_hasRoad ∈ qv_WS := (qv_i7 (List.mem_of_getElem? (i := 39) (by decide +kernel)))
theorem qM_X3_120 : Cond.methodLink RX3 120 yX3_canSpeakOf ∈ qv_WS := (qv_i7 (List.mem_of_getElem? (i := 43) (by decide +kernel)))
theorem qM_X3_123 : Cond.methodLink RX3 123 yX3_hasFact ∈ qv_WS := (qv_i7 (List.mem_of_getElem? (i := 46) (by decide +kernel)))
theorem qM_X3_126 : Cond.methodLink RX3 126 yX3_hasSign ∈ qv_WS := (qv_i4 (List.mem_of_getElem? (i := 4) (by decide +kernel)))
theorem qM_X3_129 : Cond.methodLink RX3 129 yX3_isSaidSo ∈ qv_WS := (qv_i4 (List.mem_of_getElem? (i := 0) (by decide +kernel)))
theorem qM_X3_132 : Cond.methodLink RX3 132 yX3_isMisfit ∈ qv_WS := (qv_i3 (List.mem_of_getElem? (i := 58) (by decide +kernel)))
theorem qM_X4_30 : Cond.methodLink RX4 30 yX4_walk ∈ qv_WS := (qv_i11 (List.mem_of_getElem? (i := 31) (by decide +kernel)))
theorem qM_X4_34 : Cond.methodLink RX4 34 yX3_signsOn ∈ qv_WS := (qv_i11 (List.mem_of_getElem? (i := 34) (by decide +kernel)))
theorem qM_X4_38 : Cond.methodLink RX4 38 yJ6_bitCount_0f7a4 ∈ qv_WS := (qv_i11 (List.mem_of_getElem? (i := 35) (by decide +kernel)))
theorem qM_X4_43 : Cond.methodLink RX4 43 yX4_isReadNext ∈ qv_WS := (qv_i11 (List.mem_of_getElem? (i := 36) (by decide +kernel)))
theorem qM_X5_19 : Cond.methodLink RX5 19 yX5_at ∈ qv_WS := (qv_i7 (List.mem_of_getElem? (i := 10) (by decide +kernel)))
theorem qM_X5_23 : Cond.methodLink RX5 23 yX5_isDigit ∈ qv_WS := (qv_i5 (List.mem_of_getElem? (i := 61) (by decide +kernel)))
theorem qM_X5_34 : Cond.methodLink RX5 34 yX5_formOf ∈ qv_WS := (qv_i5 (List.mem_of_getElem? (i := 21) (by decide +kernel)))
theorem qM_X5_48 : Cond.methodLink RX5 48 yX5_suits ∈ qv_WS := (qv_i5 (List.mem_of_getElem? (i := 58) (by decide +kernel)))
theorem qM_X6_31 : Cond.methodLink RX6 31 yX6_reckonAt ∈ qv_WS := (qv_i10 (List.mem_of_getElem? (i := 42) (by decide +kernel)))
theorem qM_X6_35 : Cond.methodLink RX6 35 yX6_indexOf ∈ qv_WS := (qv_i10 (List.mem_of_getElem? (i := 45) (by decide +kernel)))
theorem qM_X6_44 : Cond.methodLink RX6 44 yX6_leastRoads ∈ qv_WS := (qv_i11 (List.mem_of_getElem? (i := 10) (by decide +kernel)))
theorem qM_X6_51 : Cond.methodLink RX6 51 yX3_isRoadBetween ∈ qv_WS := (qv_i11 (List.mem_of_getElem? (i := 11) (by decide +kernel)))
theorem qM_X6_55 : Cond.methodLink RX6 55 yX6_showsMore ∈ qv_WS := (qv_i10 (List.mem_of_getElem? (i := 48) (by decide +kernel)))
theorem qM_X6_59 : Cond.methodLink RX6 59 yX6_worstOf ∈ qv_WS := (qv_i10 (List.mem_of_getElem? (i := 51) (by decide +kernel)))
theorem qM_X6_63 : Cond.methodLink RX6 63 yX6_isInnSurelyAt ∈ qv_WS := (qv_i10 (List.mem_of_getElem? (i := 55) (by decide +kernel)))
theorem qM_X6_76 : Cond.methodLink RX6 76 yX6_shorten ∈ qv_WS := (qv_i10 (List.mem_of_getElem? (i := 62) (by decide +kernel)))
theorem qM_X6_86 : Cond.methodLink RX6 86 yX3_innIn ∈ qv_WS := (qv_i10 (List.mem_of_getElem? (i := 58) (by decide +kernel)))
theorem qM_X7_34 : Cond.methodLink RX7 34 yX3_worldMask ∈ qv_WS := (qv_i3 (List.mem_of_getElem? (i := 42) (by decide +kernel)))
theorem qM_X7_40 : Cond.methodLink RX7 40 yX7_has ∈ qv_WS := (qv_i3 (List.mem_of_getElem? (i := 50) (by decide +kernel)))
theorem qM_X7_44 : Cond.methodLink RX7 44 yX3_misfitsIn ∈ qv_WS := (qv_i3 (List.mem_of_getElem? (i := 54) (by decide +kernel)))
theorem qM_X7_48 : Cond.methodLink RX7 48 yX2_bitsFound ∈ qv_WS := (qv_i4 (List.mem_of_getElem? (i := 12) (by decide +kernel)))
theorem qM_X7_54 : Cond.methodLink RX7 54 yX7_isGood ∈ qv_WS := (qv_i4 (List.mem_of_getElem? (i := 16) (by decide +kernel)))
theorem qM_X7_57 : Cond.methodLink RX7 57 yX7_isFitting ∈ qv_WS := (qv_i4 (List.mem_of_getElem? (i := 20) (by decide +kernel)))
theorem qM_X7_60 : Cond.methodLink RX7 60 yX7_isAsFound ∈ qv_WS := (qv_i4 (List.mem_of_getElem? (i := 24) (by decide +kernel)))
theorem qM_X7_63 : Cond.methodLink RX7 63 yX0_allow ∈ qv_WS := (qv_i4 (List.mem_of_getElem? (i := 27) (by decide +kernel)))
theorem qM_X7_69 : Cond.methodLink RX7 69 yX7_everSo ∈ qv_WS := (qv_i9 (List.mem_of_getElem? (i := 45) (by decide +kernel)))
theorem qM_X7_73 : Cond.methodLink RX7 73 yX7_alwaysSo ∈ qv_WS := (qv_i9 (List.mem_of_getElem? (i := 46) (by decide +kernel)))
theorem qM_X7_76 : Cond.methodLink RX7 76 yX0_has ∈ qv_WS := (qv_i10 (List.mem_of_getElem? (i := 7) (by decide +kernel)))
theorem qM_X7_84 : Cond.methodLink RX7 84 yJ6_bitCount_0f7a4 ∈ qv_WS := (qv_i10 (List.mem_of_getElem? (i := 19) (by decide +kernel)))
theorem qM_X7_89 : Cond.methodLink RX7 89 yX7_isAlikeBy ∈ qv_WS := (qv_i10 (List.mem_of_getElem? (i := 20) (by decide +kernel)))
theorem qM_X9_95 : Cond.methodLink RX9 95 yX9_bound ∈ qv_WS := (qv_i13 (List.mem_of_getElem? (i := 60) (by decide +kernel)))
theorem qM_X9_102 : Cond.methodLink RX9 102 yX9_no ∈ qv_WS := (qv_i13 (List.mem_of_getElem? (i := 63) (by decide +kernel)))
theorem qM_X9_109 : Cond.methodLink RX9 109 yX9_nextLetter ∈ qv_WS := (qv_i14 (List.mem_of_getElem? (i := 9) (by decide +kernel)))
theorem qM_X9_113 : Cond.methodLink RX9 113 yX9_isIn ∈ qv_WS := (qv_i14 (List.mem_of_getElem? (i := 21) (by decide +kernel)))
theorem qM_X9_117 : Cond.methodLink RX9 117 yX9_digit ∈ qv_WS := (qv_i14 (List.mem_of_getElem? (i := 18) (by decide +kernel)))
theorem qM_X9_120 : Cond.methodLink RX9 120 yX9_kindOf ∈ qv_WS := (qv_i14 (List.mem_of_getElem? (i := 24) (by decide +kernel)))
theorem qM_X9_126 : Cond.methodLink RX9 126 yX9_digitsOf ∈ qv_WS := (qv_i14 (List.mem_of_getElem? (i := 12) (by decide +kernel)))
theorem qM_X9_129 : Cond.methodLink RX9 129 yX9_readsSign ∈ qv_WS := (qv_i14 (List.mem_of_getElem? (i := 15) (by decide +kernel)))
theorem qM_X9_133 : Cond.methodLink RX9 133 yX9_readsDigits ∈ qv_WS := (qv_i14 (List.mem_of_getElem? (i := 27) (by decide +kernel)))
theorem qM_X9_146 : Cond.methodLink RX9 146 yX9_isFact ∈ qv_WS := (qv_i14 (List.mem_of_getElem? (i := 54) (by decide +kernel)))
theorem qM_X9_149 : Cond.methodLink RX9 149 yX9_maySay ∈ qv_WS := (qv_i14 (List.mem_of_getElem? (i := 51) (by decide +kernel)))
theorem qM_X9_152 : Cond.methodLink RX9 152 yX9_toldPlaces ∈ qv_WS := (qv_i14 (List.mem_of_getElem? (i := 42) (by decide +kernel)))
theorem qM_X9_155 : Cond.methodLink RX9 155 yX9_isPlace ∈ qv_WS := (qv_i14 (List.mem_of_getElem? (i := 45) (by decide +kernel)))
theorem qM_X9_158 : Cond.methodLink RX9 158 yX9_comesSign ∈ qv_WS := (qv_i14 (List.mem_of_getElem? (i := 48) (by decide +kernel)))
theorem qM_X9_161 : Cond.methodLink RX9 161 yX9_statement ∈ qv_WS := (qv_i14 (List.mem_of_getElem? (i := 6) (by decide +kernel)))
theorem qM_X9_165 : Cond.methodLink RX9 165 yX9_passesAll ∈ qv_WS := (qv_i14 (List.mem_of_getElem? (i := 30) (by decide +kernel)))
theorem qM_X9_169 : Cond.methodLink RX9 169 yX9_comes ∈ qv_WS := (qv_i14 (List.mem_of_getElem? (i := 39) (by decide +kernel)))
theorem qM_X9_179 : Cond.methodLink RX9 179 yX9_passes ∈ qv_WS := (qv_i14 (List.mem_of_getElem? (i := 33) (by decide +kernel)))
theorem qM_X9_183 : Cond.methodLink RX9 183 yX9_passOne ∈ qv_WS := (qv_i14 (List.mem_of_getElem? (i := 36) (by decide +kernel)))
theorem qM_X9_195 : Cond.methodLink RX9 195 yX9_allFacts ∈ qv_WS := (qv_i15 (List.mem_of_getElem? (i := 23) (by decide +kernel)))
theorem qM_X9_198 : Cond.methodLink RX9 198 yX9_allSigns ∈ qv_WS := (qv_i15 (List.mem_of_getElem? (i := 26) (by decide +kernel)))
theorem qM_X9_201 : Cond.methodLink RX9 201 yX9_saysIn ∈ qv_WS := (qv_i15 (List.mem_of_getElem? (i := 35) (by decide +kernel)))
theorem qM_X9_205 : Cond.methodLink RX9 205 yX9_isRight ∈ qv_WS := (qv_i15 (List.mem_of_getElem? (i := 32) (by decide +kernel)))
theorem qM_X9_208 : Cond.methodLink RX9 208 yX9_isFoundSo ∈ qv_WS := (qv_i15 (List.mem_of_getElem? (i := 51) (by decide +kernel)))
theorem qM_X9_211 : Cond.methodLink RX9 211 yX9_isWorld ∈ qv_WS := (qv_i15 (List.mem_of_getElem? (i := 20) (by decide +kernel)))
theorem qM_X9_214 : Cond.methodLink RX9 214 yX9_wrongs ∈ qv_WS := (qv_i15 (List.mem_of_getElem? (i := 29) (by decide +kernel)))
theorem qM_X9_217 : Cond.methodLink RX9 217 yX9_allFound ∈ qv_WS := (qv_i15 (List.mem_of_getElem? (i := 45) (by decide +kernel)))
theorem qM_X9_220 : Cond.methodLink RX9 220 yX9_areFoundSo ∈ qv_WS := (qv_i15 (List.mem_of_getElem? (i := 48) (by decide +kernel)))
theorem qM_X9_226 : Cond.methodLink RX9 226 yX9_isSign ∈ qv_WS := (qv_i15 (List.mem_of_getElem? (i := 9) (by decide +kernel)))
theorem qM_X9_229 : Cond.methodLink RX9 229 yX9_isGood ∈ qv_WS := (qv_i15 (List.mem_of_getElem? (i := 42) (by decide +kernel)))
theorem qM_X9_232 : Cond.methodLink RX9 232 yX9_findWorlds ∈ qv_WS := (qv_i15 (List.mem_of_getElem? (i := 62) (by decide +kernel)))
theorem qM_X9_236 : Cond.methodLink RX9 236 yX9_finds ∈ qv_WS := (qv_i16 (List.mem_of_getElem? (i := 5) (by decide +kernel)))
theorem qM_X9_239 : Cond.methodLink RX9 239 yX9_inAll ∈ qv_WS := (qv_i16 (List.mem_of_getElem? (i := 20) (by decide +kernel)))
theorem qM_X9_242 : Cond.methodLink RX9 242 yX9_inNone ∈ qv_WS := (qv_i16 (List.mem_of_getElem? (i := 23) (by decide +kernel)))
theorem qM_X9_245 : Cond.methodLink RX9 245 yX9_bits ∈ qv_WS := (qv_i16 (List.mem_of_getElem? (i := 30) (by decide +kernel)))
theorem qM_X9_248 : Cond.methodLink RX9 248 yX9_canBe ∈ qv_WS := (qv_i16 (List.mem_of_getElem? (i := 33) (by decide +kernel)))
theorem qM_X9_251 : Cond.methodLink RX9 251 yX9_openFacts ∈ qv_WS := (qv_i16 (List.mem_of_getElem? (i := 40) (by decide +kernel)))
theorem qM_X9_254 : Cond.methodLink RX9 254 yX9_alikeBy ∈ qv_WS := (qv_i16 (List.mem_of_getElem? (i := 62) (by decide +kernel)))
theorem qM_X9_257 : Cond.methodLink RX9 257 yX9_fewestFor ∈ qv_WS := (qv_i16 (List.mem_of_getElem? (i := 59) (by decide +kernel)))
theorem qM_X9_260 : Cond.methodLink RX9 260 yX9_partOf ∈ qv_WS := (qv_i17 (List.mem_of_getElem? (i := 21) (by decide +kernel)))
theorem qM_X9_263 : Cond.methodLink RX9 263 yX9_agrees ∈ qv_WS := (qv_i17 (List.mem_of_getElem? (i := 18) (by decide +kernel)))
theorem qM_X9_266 : Cond.methodLink RX9 266 yX9_knownAt ∈ qv_WS := (qv_i17 (List.mem_of_getElem? (i := 33) (by decide +kernel)))
theorem qM_X9_269 : Cond.methodLink RX9 269 yX9_areNext ∈ qv_WS := (qv_i17 (List.mem_of_getElem? (i := 27) (by decide +kernel)))
theorem qM_X9_272 : Cond.methodLink RX9 272 yX9_worstAt ∈ qv_WS := (qv_i17 (List.mem_of_getElem? (i := 30) (by decide +kernel)))
theorem qM_X9_275 : Cond.methodLink RX9 275 yX9_findFactSets ∈ qv_WS := (qv_i17 (List.mem_of_getElem? (i := 12) (by decide +kernel)))
theorem qM_X9_278 : Cond.methodLink RX9 278 yX9_isDone ∈ qv_WS := (qv_i17 (List.mem_of_getElem? (i := 15) (by decide +kernel)))
theorem qM_X9_281 : Cond.methodLink RX9 281 yX9_bestNext ∈ qv_WS := (qv_i17 (List.mem_of_getElem? (i := 24) (by decide +kernel)))
theorem qM_X9_284 : Cond.methodLink RX9 284 yX9_findWorths ∈ qv_WS := (qv_i17 (List.mem_of_getElem? (i := 9) (by decide +kernel)))
theorem qM_X9_287 : Cond.methodLink RX9 287 yX9_signsOn ∈ qv_WS := (qv_i17 (List.mem_of_getElem? (i := 47) (by decide +kernel)))
theorem qM_X9_290 : Cond.methodLink RX9 290 yX9_nthOn ∈ qv_WS := (qv_i17 (List.mem_of_getElem? (i := 53) (by decide +kernel)))
theorem qM_X9_293 : Cond.methodLink RX9 293 yX9_doStand ∈ qv_WS := (qv_i17 (List.mem_of_getElem? (i := 50) (by decide +kernel)))
theorem qM_X9_297 : Cond.methodLink RX9 297 yX9_walksBy ∈ qv_WS := (qv_i17 (List.mem_of_getElem? (i := 44) (by decide +kernel)))
theorem qM_X9_304 : Cond.methodLink RX9 304 yX9_fitMany ∈ qv_WS := (qv_i18 (List.mem_of_getElem? (i := 11) (by decide +kernel)))
theorem qM_X5_29 : Cond.methodLink RX5 29 yJ0_indexOf_0f7a4 ∈ qv_WS := (qv_i6 (List.mem_of_getElem? (i := 0) (by decide +kernel)))
theorem qM_X5_38 : Cond.methodLink RX5 38 yJ0_length_8abf5 ∈ qv_WS := (qv_i5 (List.mem_of_getElem? (i := 12) (by decide +kernel)))
theorem qM_X5_44 : Cond.methodLink RX5 44 yJ0_charAt_5068e ∈ qv_WS := (qv_i5 (List.mem_of_getElem? (i := 24) (by decide +kernel)))
end
section
/-! ===== 08: Math.max, Math.min ===== -/
def qv_mx (x y : Int32) : Int32 := if x < y then y else x
def qv_mn (x y : Int32) : Int32 := if y < x then y else x
theorem qv_mx1 : Cond.static Lib.Math.max.name ∈ qv_WS := (qv_i6 (List.mem_of_getElem? (i := 16) (by decide +kernel)))
theorem qv_mx2 : Cond.initialized "java/lang/Math" ∈ qv_WS := (qv_i1 (List.mem_of_getElem? (i := 19) (by decide +kernel)))
theorem qv_mx3 : Cond.code Lib.Math.max.name Lib.Math.max.code 2 (some .int) ∈ qv_WS := (qv_i6 (List.mem_of_getElem? (i := 17) (by decide +kernel)))
theorem qv_cmx {l : Launch} {g : qv_G} {d : qv_M} {pc idx : Nat} {lo : List (Option Value)} {st : List Value} {h : qv_H} {R : Option Value × qv_H} {x y : Int32} (hd : decode d.2.1 pc = .ok (.invokestatic idx, 3)) (hm : Cond.methodLink d.1.cls idx Lib.Math.max.name ∈ qv_WS) (hR : 1 ≤ d.2.2.2.2.1 ∧ 21 ≤ d.2.2.2.2.2) (hst : (st.map fun v => v.category).sum ≤ 8) (k : qv_J l g d (pc + 3) lo (.int (qv_mx x y) :: st) h R) : qv_J l g d pc lo (.int y :: .int x :: st) h R := by
  intro p e s m args below meth c A H locs ls X P S L
  have hts : ∀ w ∈ qv_WS, w.before args s = true := fun w hw => X.2.2.2.2.1 w (List.mem_cons_of_mem _ hw)
  have e5 : ((st.map (qv_rv (qv_ad g))).map fun v => v.category) = st.map fun v => v.category := by
    rw [List.map_map]; apply List.map_congr_left; intro v _; exact qv_cat _ v
  exact va_mmax X.1 X.2.1 (X.2.2.1.trans L.1.symm) X.2.2.2.1 (hts _ hm) (hts _ qv_mx1) (hts _ qv_mx2) (hts _ qv_mx3) hR.1 (by rw [e5]; exact Nat.le_trans (Nat.add_le_add_right hst _) hR.2) (Nat.le_refl _) (Nat.le_refl _) hd (k p e s m args below meth c A H locs ls X P S L)
theorem qv_mn1 : Cond.static Lib.Math.min.name ∈ qv_WS := (qv_i6 (List.mem_of_getElem? (i := 19) (by decide +kernel)))
theorem qv_mn2 : Cond.initialized "java/lang/Math" ∈ qv_WS := (qv_i1 (List.mem_of_getElem? (i := 19) (by decide +kernel)))
theorem qv_mn3 : Cond.code Lib.Math.min.name Lib.Math.min.code 2 (some .int) ∈ qv_WS := (qv_i6 (List.mem_of_getElem? (i := 20) (by decide +kernel)))
theorem qv_cmn {l : Launch} {g : qv_G} {d : qv_M} {pc idx : Nat} {lo : List (Option Value)} {st : List Value} {h : qv_H} {R : Option Value × qv_H} {x y : Int32} (hd : decode d.2.1 pc = .ok (.invokestatic idx, 3)) (hm : Cond.methodLink d.1.cls idx Lib.Math.min.name ∈ qv_WS) (hR : 1 ≤ d.2.2.2.2.1 ∧ 21 ≤ d.2.2.2.2.2) (hst : (st.map fun v => v.category).sum ≤ 8) (k : qv_J l g d (pc + 3) lo (.int (qv_mn x y) :: st) h R) : qv_J l g d pc lo (.int y :: .int x :: st) h R := by
  intro p e s m args below meth c A H locs ls X P S L
  have hts : ∀ w ∈ qv_WS, w.before args s = true := fun w hw => X.2.2.2.2.1 w (List.mem_cons_of_mem _ hw)
  have e5 : ((st.map (qv_rv (qv_ad g))).map fun v => v.category) = st.map fun v => v.category := by
    rw [List.map_map]; apply List.map_congr_left; intro v _; exact qv_cat _ v
  exact va_mmin X.1 X.2.1 (X.2.2.1.trans L.1.symm) X.2.2.2.1 (hts _ hm) (hts _ qv_mn1) (hts _ qv_mn2) (hts _ qv_mn3) hR.1 (by rw [e5]; exact Nat.le_trans (Nat.add_le_add_right hst _) hR.2) (Nat.le_refl _) (Nat.le_refl _) hd (k p e s m args below meth c A H locs ls X P S L)
theorem qv_pr {α β : Type} {a c : α} {b d : β} (h : some (a, b) = some (c, d)) : a = c ∧ b = d := Prod.mk.inj (Option.some.inj h)
theorem qv_sm {α : Type} {a b : α} (h : some a = some b) : a = b := Option.some.inj h
end
section
/-! ===== 09: the texts: String.length, charAt, indexOf over the constants (place 1000 + i: the text; 1100 + i: its bytes) ===== -/
theorem dJ3_checkIndex_8e157_0 : decode cJ3_checkIndex_8e157 0 = .ok (.iload_n 0, 1) := by decide +kernel
theorem dJ3_checkIndex_8e157_1 : decode cJ3_checkIndex_8e157 1 = .ok (.ifCond .lt 8, 3) := by decide +kernel
theorem dJ3_checkIndex_8e157_4 : decode cJ3_checkIndex_8e157 4 = .ok (.iload_n 0, 1) := by decide +kernel
theorem dJ3_checkIndex_8e157_5 : decode cJ3_checkIndex_8e157 5 = .ok (.iload_n 1, 1) := by decide +kernel
theorem dJ3_checkIndex_8e157_6 : decode cJ3_checkIndex_8e157 6 = .ok (.if_icmp .lt 10, 3) := by decide +kernel
theorem dJ3_checkIndex_8e157_9 : decode cJ3_checkIndex_8e157 9 = .ok (.aload_n 2, 1) := by decide +kernel
theorem dJ3_checkIndex_8e157_10 : decode cJ3_checkIndex_8e157 10 = .ok (.iload_n 0, 1) := by decide +kernel
theorem dJ3_checkIndex_8e157_11 : decode cJ3_checkIndex_8e157 11 = .ok (.iload_n 1, 1) := by decide +kernel
theorem dJ3_checkIndex_8e157_12 : decode cJ3_checkIndex_8e157 12 = .ok (.invokestatic 95, 3) := by decide +kernel
theorem dJ3_checkIndex_8e157_15 : decode cJ3_checkIndex_8e157 15 = .ok (.athrow, 1) := by decide +kernel
theorem dJ3_checkIndex_8e157_16 : decode cJ3_checkIndex_8e157 16 = .ok (.iload_n 0, 1) := by decide +kernel
theorem dJ3_checkIndex_8e157_17 : decode cJ3_checkIndex_8e157 17 = .ok (.ireturn, 1) := by decide +kernel
theorem qF_J0_9 : Cond.fieldLink RJ0 9 "java/lang/String" "value" "[B" ∈ qv_WS := (qv_i18 (List.mem_of_getElem? (i := 14) (by decide +kernel)))
theorem qF_J0_15 : Cond.fieldLink RJ0 15 "java/lang/String" "coder" "B" ∈ qv_WS := (qv_i18 (List.mem_of_getElem? (i := 15) (by decide +kernel)))
theorem qF_J0_38 : Cond.fieldLink RJ0 38 "java/lang/String" "COMPACT_STRINGS" "Z" ∈ qv_WS := (qv_i5 (List.mem_of_getElem? (i := 20) (by decide +kernel)))
theorem qF_J0_1053 : Cond.fieldLink RJ0 1053 "jdk/internal/util/Preconditions" "SIOOBE_FORMATTER" "Ljava/util/function/BiFunction;" ∈ qv_WS := (qv_i5 (List.mem_of_getElem? (i := 38) (by decide +kernel)))
theorem qM_J0_335 : Cond.methodLink RJ0 335 yJ0_coder_7d493 ∈ qv_WS := (qv_i5 (List.mem_of_getElem? (i := 16) (by decide +kernel)))
theorem qM_J0_492 : Cond.methodLink RJ0 492 yJ0_isLatin1_aae02 ∈ qv_WS := (qv_i5 (List.mem_of_getElem? (i := 28) (by decide +kernel)))
theorem qM_J0_495 : Cond.methodLink RJ0 495 yJ1_charAt_3b067 ∈ qv_WS := (qv_i5 (List.mem_of_getElem? (i := 32) (by decide +kernel)))
theorem qM_J0_1059 : Cond.methodLink RJ0 1059 yJ3_checkIndex_8e157 ∈ qv_WS := (qv_i5 (List.mem_of_getElem? (i := 39) (by decide +kernel)))
theorem qM_J0_633 : Cond.methodLink RJ0 633 yJ0_indexOf_7cf53 ∈ qv_WS := (qv_i6 (List.mem_of_getElem? (i := 4) (by decide +kernel)))
theorem qM_J0_505 : Cond.methodLink RJ0 505 yJ0_length_8abf5 ∈ qv_WS := (qv_i6 (List.mem_of_getElem? (i := 8) (by decide +kernel)))
theorem qM_J0_637 : Cond.methodLink RJ0 637 yJ1_indexOf_4cfef ∈ qv_WS := (qv_i6 (List.mem_of_getElem? (i := 9) (by decide +kernel)))
theorem qM_J1_9 : Cond.methodLink RJ1 9 yJ0_checkIndex_df160 ∈ qv_WS := (qv_i5 (List.mem_of_getElem? (i := 35) (by decide +kernel)))
theorem qM_J1_88 : Cond.methodLink RJ1 88 yJ1_canEncode_9a6ad ∈ qv_WS := (qv_i6 (List.mem_of_getElem? (i := 12) (by decide +kernel)))
theorem qM_J1_95 : Cond.methodLink RJ1 95 yJ1_indexOfChar_4cfef ∈ qv_WS := (qv_i6 (List.mem_of_getElem? (i := 21) (by decide +kernel)))
theorem qB_J1_92 : Cond.methodLink RJ1 92 Lib.Math.max.name ∈ qv_WS := (qv_i6 (List.mem_of_getElem? (i := 15) (by decide +kernel)))
theorem qB_J1_38 : Cond.methodLink RJ1 38 Lib.Math.min.name ∈ qv_WS := (qv_i6 (List.mem_of_getElem? (i := 18) (by decide +kernel)))
abbrev mJ0_coder_7d493 : qv_M := (yJ0_coder_7d493, cJ0_coder_7d493, 1, (Option.some Jvm.ClassFile.FieldType.byte), 0, 0)
abbrev mJ0_isLatin1_aae02 : qv_M := (yJ0_isLatin1_aae02, cJ0_isLatin1_aae02, 1, (Option.some Jvm.ClassFile.FieldType.boolean), 0, 0)
abbrev mJ0_length_8abf5 : qv_M := (yJ0_length_8abf5, cJ0_length_8abf5, 1, (Option.some Jvm.ClassFile.FieldType.int), 1, 20)
abbrev mJ3_checkIndex_8e157 : qv_M := (yJ3_checkIndex_8e157, cJ3_checkIndex_8e157, 3, (Option.some Jvm.ClassFile.FieldType.int), 0, 0)
abbrev mJ0_checkIndex_df160 : qv_M := (yJ0_checkIndex_df160, cJ0_checkIndex_df160, 2, (Option.none : Option Jvm.ClassFile.FieldType), 1, 22)
abbrev mJ1_charAt_3b067 : qv_M := (yJ1_charAt_3b067, cJ1_charAt_3b067, 2, (Option.some Jvm.ClassFile.FieldType.char), 2, 43)
abbrev mJ0_charAt_5068e : qv_M := (yJ0_charAt_5068e, cJ0_charAt_5068e, 2, (Option.some Jvm.ClassFile.FieldType.char), 3, 64)
abbrev mJ1_canEncode_9a6ad : qv_M := (yJ1_canEncode_9a6ad, cJ1_canEncode_9a6ad, 1, (Option.some Jvm.ClassFile.FieldType.boolean), 0, 0)
abbrev mJ1_indexOfChar_4cfef : qv_M := (yJ1_indexOfChar_4cfef, cJ1_indexOfChar_4cfef, 6, (Option.some Jvm.ClassFile.FieldType.int), 0, 0)
abbrev mJ1_indexOf_4cfef : qv_M := (yJ1_indexOf_4cfef, cJ1_indexOf_4cfef, 4, (Option.some Jvm.ClassFile.FieldType.int), 1, 25)
abbrev mJ0_indexOf_7cf53 : qv_M := (yJ0_indexOf_7cf53, cJ0_indexOf_7cf53, 3, (Option.some Jvm.ClassFile.FieldType.int), 2, 48)
abbrev mJ0_indexOf_0f7a4 : qv_M := (yJ0_indexOf_0f7a4, cJ0_indexOf_0f7a4, 2, (Option.some Jvm.ClassFile.FieldType.int), 3, 70)
theorem qD_J0_coder_7d493 : qv_DV mJ0_coder_7d493 0 := ⟨(qv_i5 (List.mem_of_getElem? (i := 17) (by decide +kernel))), (qv_i5 (List.mem_of_getElem? (i := 18) (by decide +kernel))), (qv_i1 (List.mem_of_getElem? (i := 15) (by decide +kernel))), (qv_i5 (List.mem_of_getElem? (i := 19) (by decide +kernel))), by decide +kernel, by decide +kernel⟩
theorem qD_J0_isLatin1_aae02 : qv_DV mJ0_isLatin1_aae02 0 := ⟨(qv_i5 (List.mem_of_getElem? (i := 29) (by decide +kernel))), (qv_i5 (List.mem_of_getElem? (i := 30) (by decide +kernel))), (qv_i1 (List.mem_of_getElem? (i := 15) (by decide +kernel))), (qv_i5 (List.mem_of_getElem? (i := 31) (by decide +kernel))), by decide +kernel, by decide +kernel⟩
theorem qD_J0_length_8abf5 : qv_DV mJ0_length_8abf5 0 := ⟨(qv_i5 (List.mem_of_getElem? (i := 13) (by decide +kernel))), (qv_i5 (List.mem_of_getElem? (i := 14) (by decide +kernel))), (qv_i1 (List.mem_of_getElem? (i := 15) (by decide +kernel))), (qv_i5 (List.mem_of_getElem? (i := 15) (by decide +kernel))), by decide +kernel, by decide +kernel⟩
theorem qD_J3_checkIndex_8e157 : qv_DS mJ3_checkIndex_8e157 3 := ⟨(qv_i5 (List.mem_of_getElem? (i := 40) (by decide +kernel))), (qv_i1 (List.mem_of_getElem? (i := 17) (by decide +kernel))), (qv_i5 (List.mem_of_getElem? (i := 41) (by decide +kernel))), by decide +kernel, by decide +kernel⟩
theorem qD_J0_checkIndex_df160 : qv_DS mJ0_checkIndex_df160 2 := ⟨(qv_i5 (List.mem_of_getElem? (i := 36) (by decide +kernel))), (qv_i1 (List.mem_of_getElem? (i := 15) (by decide +kernel))), (qv_i5 (List.mem_of_getElem? (i := 37) (by decide +kernel))), by decide +kernel, by decide +kernel⟩
theorem qD_J1_charAt_3b067 : qv_DS mJ1_charAt_3b067 2 := ⟨(qv_i5 (List.mem_of_getElem? (i := 33) (by decide +kernel))), (qv_i1 (List.mem_of_getElem? (i := 16) (by decide +kernel))), (qv_i5 (List.mem_of_getElem? (i := 34) (by decide +kernel))), by decide +kernel, by decide +kernel⟩
theorem qD_J0_charAt_5068e : qv_DV mJ0_charAt_5068e 1 := ⟨(qv_i5 (List.mem_of_getElem? (i := 25) (by decide +kernel))), (qv_i5 (List.mem_of_getElem? (i := 26) (by decide +kernel))), (qv_i1 (List.mem_of_getElem? (i := 15) (by decide +kernel))), (qv_i5 (List.mem_of_getElem? (i := 27) (by decide +kernel))), by decide +kernel, by decide +kernel⟩
theorem qD_J1_canEncode_9a6ad : qv_DS mJ1_canEncode_9a6ad 1 := ⟨(qv_i6 (List.mem_of_getElem? (i := 13) (by decide +kernel))), (qv_i1 (List.mem_of_getElem? (i := 16) (by decide +kernel))), (qv_i6 (List.mem_of_getElem? (i := 14) (by decide +kernel))), by decide +kernel, by decide +kernel⟩
theorem qD_J1_indexOfChar_4cfef : qv_DS mJ1_indexOfChar_4cfef 4 := ⟨(qv_i6 (List.mem_of_getElem? (i := 22) (by decide +kernel))), (qv_i1 (List.mem_of_getElem? (i := 16) (by decide +kernel))), (qv_i6 (List.mem_of_getElem? (i := 23) (by decide +kernel))), by decide +kernel, by decide +kernel⟩
theorem qD_J1_indexOf_4cfef : qv_DS mJ1_indexOf_4cfef 4 := ⟨(qv_i6 (List.mem_of_getElem? (i := 10) (by decide +kernel))), (qv_i1 (List.mem_of_getElem? (i := 16) (by decide +kernel))), (qv_i6 (List.mem_of_getElem? (i := 11) (by decide +kernel))), by decide +kernel, by decide +kernel⟩
theorem qD_J0_indexOf_7cf53 : qv_DV mJ0_indexOf_7cf53 2 := ⟨(qv_i6 (List.mem_of_getElem? (i := 5) (by decide +kernel))), (qv_i6 (List.mem_of_getElem? (i := 6) (by decide +kernel))), (qv_i1 (List.mem_of_getElem? (i := 15) (by decide +kernel))), (qv_i6 (List.mem_of_getElem? (i := 7) (by decide +kernel))), by decide +kernel, by decide +kernel⟩
theorem qD_J0_indexOf_0f7a4 : qv_DV mJ0_indexOf_0f7a4 1 := ⟨(qv_i6 (List.mem_of_getElem? (i := 1) (by decide +kernel))), (qv_i6 (List.mem_of_getElem? (i := 2) (by decide +kernel))), (qv_i1 (List.mem_of_getElem? (i := 15) (by decide +kernel))), (qv_i6 (List.mem_of_getElem? (i := 3) (by decide +kernel))), by decide +kernel, by decide +kernel⟩
section QT
variable {l : Launch} {g : qv_G} {d : qv_M} {pc idx i : Nat} {lo : List (Option Value)} {st : List Value} {h : qv_H} {R : Option Value × qv_H}
theorem qv_sval (hi : i < 8) (hd : decode d.2.1 pc = .ok (.getfield idx, 3)) (hm : Cond.fieldLink d.1.cls idx "java/lang/String" "value" "[B" ∈ qv_WS) (k : qv_J l g d (pc + 3) lo (.ref (1100 + i) :: st) h R) : qv_J l g d pc lo (.ref (1000 + i) :: st) h R := by
  intro p e s m args below meth c A H locs ls X P S L
  have hE := (X.2.2.2.2.2.2.2.2.2.1.1 i hi).2.2.1
  exact vk_getf X.1 X.2.1 hE S X.2.2.2.1 (X.2.2.2.2.1 _ (List.mem_cons_of_mem _ hm)) (fun _ q => q) hd (k p e s m args below meth c A H locs ls X P S L)
theorem qv_scod (hi : i < 8) (hd : decode d.2.1 pc = .ok (.getfield idx, 3)) (hm : Cond.fieldLink d.1.cls idx "java/lang/String" "coder" "B" ∈ qv_WS) (k : qv_J l g d (pc + 3) lo (.int 0 :: st) h R) : qv_J l g d pc lo (.ref (1000 + i) :: st) h R := by
  intro p e s m args below meth c A H locs ls X P S L
  have hE := (X.2.2.2.2.2.2.2.2.2.1.1 i hi).2.1
  exact vk_getf X.1 X.2.1 hE S X.2.2.2.1 (X.2.2.2.2.1 _ (List.mem_cons_of_mem _ hm)) (fun _ q => q) hd (k p e s m args below meth c A H locs ls X P S L)
theorem qv_sbln (hi : i < 8) (hd : decode d.2.1 pc = .ok (.arraylength, 1)) (k : qv_J l g d (pc + 1) lo (.int (Int32.ofNat (qv_sl.getD i 0)) :: st) h R) : qv_J l g d pc lo (.ref (1100 + i) :: st) h R := by
  intro p e s m args below meth c A H locs ls X P S L
  have hE := (X.2.2.2.2.2.2.2.2.2.1.1 i hi).2.2.2
  exact va_tlen X.1 X.2.1 hE S rfl hd (k p e s m args below meth c A H locs ls X P S L)
theorem qv_sbal {j : Int32} (hi : i < 8) (hd : decode d.2.1 pc = .ok (.baload, 1)) (hj : vp_in j (qv_sl.getD i 0)) (k : qv_J l g d (pc + 1) lo (.int ((qv_sb.getD i []).getD j.toNatClampNeg 0) :: st) h R) : qv_J l g d pc lo (.int j :: .ref (1100 + i) :: st) h R := by
  intro p e s m args below meth c A H locs ls X P S L
  have hE := (X.2.2.2.2.2.2.2.2.2.1.1 i hi).2.2.2
  exact va_tb X.1 X.2.1 hE S hj rfl hd (k p e s m args below meth c A H locs ls X P S L)
theorem qv_gcs (hd : decode d.2.1 pc = .ok (.getstatic idx, 3)) (hm : Cond.fieldLink d.1.cls idx "java/lang/String" "COMPACT_STRINGS" "Z" ∈ qv_WS) (k : qv_J l g d (pc + 3) lo (.int 1 :: st) h R) : qv_J l g d pc lo st h R := by
  intro p e s m args below meth c A H locs ls X P S L
  exact va_gets X.1 X.2.1 X.2.2.2.2.2.2.2.2.2.2.2.1 S X.2.2.2.1 (X.2.2.2.2.1 _ (List.mem_cons_of_mem _ hm)) (fun _ q => q) hd (k p e s m args below meth c A H locs ls X P S L)
theorem qv_gsf (hd : decode d.2.1 pc = .ok (.getstatic idx, 3)) (hm : Cond.fieldLink d.1.cls idx "jdk/internal/util/Preconditions" "SIOOBE_FORMATTER" "Ljava/util/function/BiFunction;" ∈ qv_WS) (k1 : qv_J l g d (pc + 3) lo (.null :: st) h R) (k2 : qv_J l g d (pc + 3) lo (.ref 1200 :: st) h R) : qv_J l g d pc lo st h R := by
  intro p e s m args below meth c A H locs ls X P S L
  rcases X.2.2.2.2.2.2.2.2.2.2.2.2 with hz | hz
  · exact va_gets X.1 X.2.1 hz S X.2.2.2.1 (X.2.2.2.2.1 _ (List.mem_cons_of_mem _ hm)) (fun _ q => q) hd (k1 p e s m args below meth c A H locs ls X P S L)
  · exact va_gets X.1 X.2.1 hz S X.2.2.2.1 (X.2.2.2.2.1 _ (List.mem_cons_of_mem _ hm)) (fun _ q => q) hd (k2 p e s m args below meth c A H locs ls X P S L)
theorem qv_i2b {x : Int32} (hd : decode d.2.1 pc = .ok (.i2b, 1)) (k : qv_J l g d (pc + 1) lo (.int x.toInt8.toInt32 :: st) h R) : qv_J l g d pc lo (.int x :: st) h R := by
  intro p e s m args below meth c A H locs ls X P S L
  exact lv_i2b X.1 X.2.1 hd rfl (k p e s m args below meth c A H locs ls X P S L)
theorem qv_nret {v : Int32} {ty : FieldType} (hd : decode d.2.1 pc = .ok (.ireturn, 1)) (hr : d.2.2.2.1 = some ty) (hv : narrow ty (.int v) = .int v) : qv_J l g d pc lo [.int v] h (some (.int v), h) := by
  intro p e s m args below meth c A H locs ls X P S L
  exact W.zret X.1 X.2.1 (X.2.2.2.2.2.1.trans hr) hv (fun t ht hW => ⟨⟨rfl, by rw [ht]; exact P⟩, S.F ht⟩) S.2.2 hd X.2.2.2.2.2.2.1
theorem qv_cT {d2 : qv_M} {n : Nat} {h2 : qv_H} {r : Option Value} {av st0 : List Value} (hi : i < 8) (hd : decode d.2.1 pc = .ok (.invokevirtual idx, 3)) (hm : Cond.methodLink d.1.cls idx d2.1 ∈ qv_WS) (D : qv_DV d2 n) (hcl : d2.1.cls = "java/lang/String") (hn : av.length = n) (hR : d2.2.2.2.2.1 + 1 ≤ d.2.2.2.2.1 ∧ 8 + (d2.2.2.1 + 11) + d2.2.2.2.2.2 ≤ d.2.2.2.2.2) (hc : (av.all fun v => v.category == 1) = true) (hl : av.length + 1 ≤ d2.2.2.1) (hst : (st.map fun v => v.category).sum ≤ 8)
    (hJ : qv_J l g d2 0 (qv_lo0 d2.2.2.1 (.ref (1000 + i) :: av)) [] h (r, h2)) (hs0 : av.reverse ++ .ref (1000 + i) :: st = st0) (k : qv_J l g d (pc + 3) lo (r.toList ++ st) h2 R) : qv_J l g d pc lo st0 h R := by
  subst hs0
  intro p e s m args below meth c A H locs ls X P S L
  obtain ⟨D1, D2, D3, D4, D5, D6⟩ := D
  have cw := cwV (R := qv_rm d) (s := s) (args := args) (own := d.1.cls) (C := d2.1.cls) (index := idx) (y := d2.1) (bytes := d2.2.1) (maxL := d2.2.2.1) (ret := d2.2.2.2.1) (Ts := qv_wl d) (ws := qv_wl d2) (rm := qv_rm d2) (mc := 0) (ms := 0) n X.2.2.2.2.1 (by
    intro w hw
    unfold wsV at hw
    rcases List.mem_append.mp hw with hw | hw
    · simp only [List.mem_cons, List.not_mem_nil, or_false] at hw
      rcases hw with rfl | rfl | rfl | rfl
      · exact qv_gd hm
      · exact qv_gd D1
      · exact qv_gd D2
      · exact qv_gd D3
    · exact qv_gdl D4 w hw) rfl rfl rfl ⟨rfl, D6⟩ hR
  have hrecv : ∃ cellB : Cell, H[qv_ad g (1000 + i)]? = some cellB ∧ cellB.vm.isStatics = false ∧ s.vm.findClass d2.1.cls = some cellB.cls := by
    rw [hcl]
    exact vk_recv (i := i) (adK := fun i => qv_ad g (1000 + i)) X.2.2.2.2.2.2.2.2.2.1 hi S
  have hpre := qv_pre (av := .ref (1000 + i) :: av) X P S
  have hrun := va_runV (H := H) (locs := locs) (cells := 0) (slots := 0) (below := below) (e := e) (meth := meth) (b := qv_ad g (1000 + i)) (As := av.map (qv_rv (qv_ad g))) (rest := st.map (qv_rv (qv_ad g))) (g := F0 m pc ls ((av.reverse ++ .ref (1000 + i) :: st).map (qv_rv (qv_ad g)))) ⟨X.1, X.2.1, X.2.2.1, X.2.2.2.1, X.2.2.2.2.1⟩ (qv_met (sz := H.size) D5 (av := .ref (1000 + i) :: av) (by
      intro v hv
      rcases List.mem_cons.mp hv with rfl | hv
      · rfl
      · exact qv_allc hc v hv) hl hJ) cw ⟨hpre.1, hrecv, hpre.2⟩ rfl (by rw [List.length_map]; exact hn) L.1 (by simp [qv_rv]) (by
      have e5 : ((st.map (qv_rv (qv_ad g))).map fun v => v.category) = st.map fun v => v.category := by
        rw [List.map_map]; apply List.map_congr_left; intro v _; exact qv_cat _ v
      rw [e5]
      exact lv_room hst) hd ⟨Nat.le_refl _, Nat.le_refl _⟩
  exact qv_back X P S L hrun k
end QT
def qv_fnd (c : Int32) : List Int32 → Nat → Int32
  | [], _ => -1
  | b :: t, k => if b = c then nI k else qv_fnd c t (k + 1)
def qv_tlen (o : Nat) : Option Int32 := if 1000 ≤ o ∧ o < 1008 then some (Int32.ofNat (qv_sl.getD (o - 1000) 0)) else none
def qv_tchar (o : Nat) (k : Int32) : Option Int32 := if 1000 ≤ o ∧ o < 1008 ∧ ¬ k < 0 ∧ k < Int32.ofNat (qv_sl.getD (o - 1000) 0) then some ((qv_sb.getD (o - 1000) []).getD k.toNatClampNeg 0) else none
def qv_tidx (o : Nat) (c : Int32) : Option Int32 := if 1000 ≤ o ∧ o < 1008 ∧ (c < 0 ∨ c < 256) then some (if c < 0 then -1 else qv_fnd c (qv_sb.getD (o - 1000) []) 0) else none
theorem qv_sall : ∀ i, i < 8 → (qv_sl.getD i 0 = (qv_sb.getD i []).length ∧ (qv_sb.getD i []).length < 8 ∧ ∀ b ∈ qv_sb.getD i [], b.toInt8.toInt32 = b ∧ b &&& 255 = b ∧ (b.toUInt32 % 65536).toInt32 = b) := by decide +kernel
section QU
variable {l : Launch} {g : qv_G} {h : qv_H} {i : Nat}
theorem sJ0_coder (hi : i < 8) : qv_J l g mJ0_coder_7d493 0 [some (.ref (1000 + i))] [] h (some (.int 0), h) := by
  refine qv_gcs dJ0_coder_7d493_0 qF_J0_38 ?_
  refine qv_if_eq (tgt := 13) dJ0_coder_7d493_3 rfl (fun q => absurd q (by decide)) (fun _ => ?_)
  refine qv_aload_n dJ0_coder_7d493_6 (i := 0) rfl rfl ?_
  refine qv_scod hi dJ0_coder_7d493_7 qF_J0_15 ?_
  refine qv_goto (tgt := 14) dJ0_coder_7d493_10 rfl ?_
  exact qv_nret dJ0_coder_7d493_14 rfl rfl
theorem sJ0_latin (hi : i < 8) : qv_J l g mJ0_isLatin1_aae02 0 [some (.ref (1000 + i))] [] h (some (.int 1), h) := by
  refine qv_gcs dJ0_isLatin1_aae02_0 qF_J0_38 ?_
  refine qv_if_eq (tgt := 17) dJ0_isLatin1_aae02_3 rfl (fun q => absurd q (by decide)) (fun _ => ?_)
  refine qv_aload_n dJ0_isLatin1_aae02_6 (i := 0) rfl rfl ?_
  refine qv_scod hi dJ0_isLatin1_aae02_7 qF_J0_15 ?_
  refine qv_if_ne (tgt := 17) dJ0_isLatin1_aae02_10 rfl (fun q => absurd rfl q) (fun _ => ?_)
  refine qv_iconst (v := (1 : Int32)) dJ0_isLatin1_aae02_13 rfl ?_
  refine qv_goto (tgt := 18) dJ0_isLatin1_aae02_14 rfl ?_
  exact qv_nret dJ0_isLatin1_aae02_18 rfl rfl
theorem sJ0_length (hi : i < 8) : qv_J l g mJ0_length_8abf5 0 [some (.ref (1000 + i))] [] h (some (.int (Int32.ofNat (qv_sl.getD i 0))), h) := by
  refine qv_aload_n dJ0_length_8abf5_0 (i := 0) rfl rfl ?_
  refine qv_sval hi dJ0_length_8abf5_1 qF_J0_9 ?_
  refine qv_sbln hi dJ0_length_8abf5_4 ?_
  refine qv_aload_n dJ0_length_8abf5_5 (i := 0) rfl rfl ?_
  refine qv_cT (d2 := mJ0_coder_7d493) (r := some (.int 0)) (h2 := h) (av := []) (st := [.int (Int32.ofNat (qv_sl.getD i 0))]) hi dJ0_length_8abf5_6 qM_J0_335 qD_J0_coder_7d493 rfl rfl ⟨by decide, by decide⟩ rfl (by decide) (Nat.le_of_ble_eq_true rfl) (sJ0_coder hi) rfl ?_
  refine qv_ishr dJ0_length_8abf5_9 ?_
  rw [sb_shr0]
  exact qv_iret dJ0_length_8abf5_10 rfl
theorem sJ3_check {k n : Int32} {v : Value} (h1 : ¬ k < 0) (h2 : k < n) : qv_J l g mJ3_checkIndex_8e157 0 [some (.int k), some (.int n), some v] [] h (some (.int k), h) := by
  refine qv_iload_n dJ3_checkIndex_8e157_0 (i := 0) rfl rfl ?_
  refine qv_if_lt (tgt := 9) dJ3_checkIndex_8e157_1 rfl (fun q => absurd q h1) (fun _ => ?_)
  refine qv_iload_n dJ3_checkIndex_8e157_4 (i := 0) rfl rfl ?_
  refine qv_iload_n dJ3_checkIndex_8e157_5 (i := 1) rfl rfl ?_
  refine qv_icmp_lt (tgt := 16) dJ3_checkIndex_8e157_6 rfl (fun _ => ?_) (fun q => absurd h2 q)
  refine qv_iload_n dJ3_checkIndex_8e157_16 (i := 0) rfl rfl ?_
  exact qv_iret dJ3_checkIndex_8e157_17 rfl
theorem sJ0_check {k n : Int32} (h1 : ¬ k < 0) (h2 : k < n) : qv_J l g mJ0_checkIndex_df160 0 [some (.int k), some (.int n)] [] h (none, h) := by
  refine qv_iload_n dJ0_checkIndex_df160_0 (i := 0) rfl rfl ?_
  refine qv_iload_n dJ0_checkIndex_df160_1 (i := 1) rfl rfl ?_
  refine qv_gsf dJ0_checkIndex_df160_2 qF_J0_1053 ?_ ?_
  · refine qv_cS (d2 := mJ3_checkIndex_8e157) (r := some (.int k)) (h2 := h) (av := [.int k, .int n, .null]) (st := []) dJ0_checkIndex_df160_5 qM_J0_1059 qD_J3_checkIndex_8e157 rfl ⟨by decide, by decide⟩ rfl (Nat.le_of_ble_eq_true rfl) (Nat.le_of_ble_eq_true rfl) (sJ3_check h1 h2) rfl ?_
    refine qv_pop dJ0_checkIndex_df160_8 rfl ?_
    exact qv_vret dJ0_checkIndex_df160_9 rfl
  · refine qv_cS (d2 := mJ3_checkIndex_8e157) (r := some (.int k)) (h2 := h) (av := [.int k, .int n, .ref 1200]) (st := []) dJ0_checkIndex_df160_5 qM_J0_1059 qD_J3_checkIndex_8e157 rfl ⟨by decide, by decide⟩ rfl (Nat.le_of_ble_eq_true rfl) (Nat.le_of_ble_eq_true rfl) (sJ3_check h1 h2) rfl ?_
    refine qv_pop dJ0_checkIndex_df160_8 rfl ?_
    exact qv_vret dJ0_checkIndex_df160_9 rfl
theorem qv_inS {k : Int32} {n : Nat} (hn : n < 8) (h1 : ¬ k < 0) (h2 : k < Int32.ofNat n) : ∃ j, j < n ∧ k = nI j := by
  obtain ⟨j, h3, rfl⟩ := nI_of h1
  have h4 : nI j < nI n := h2
  exact ⟨j, (nI_ltI h3 (by omega)).mp h4, rfl⟩
theorem qv_sby {j : Nat} (hi : i < 8) (hj : j < qv_sl.getD i 0) : (qv_sb.getD i []).getD j 0 ∈ qv_sb.getD i [] := by
  obtain ⟨h1, h2, h3⟩ := qv_sall i hi
  rw [h1] at hj
  generalize qv_sb.getD i [] = t at hj ⊢
  rw [List.getD_eq_getElem?_getD, List.getElem?_eq_getElem hj]
  exact List.getElem_mem hj
theorem sJ1_charAt {k : Int32} (hi : i < 8) (h1 : ¬ k < 0) (h2 : k < Int32.ofNat (qv_sl.getD i 0)) : qv_J l g mJ1_charAt_3b067 0 [some (.ref (1100 + i)), some (.int k)] [] h (some (.int ((qv_sb.getD i []).getD k.toNatClampNeg 0)), h) := by
  obtain ⟨a1, a2, a3⟩ := qv_sall i hi
  obtain ⟨j, hj, rfl⟩ := qv_inS (by omega) h1 h2
  have e1 : (nI j).toNatClampNeg = j := nI_clamp (by omega)
  obtain ⟨b1, b2, b3⟩ := a3 _ (qv_sby hi hj)
  refine qv_iload_n dJ1_charAt_3b067_0 (i := 1) rfl rfl ?_
  refine qv_aload_n dJ1_charAt_3b067_1 (i := 0) rfl rfl ?_
  refine qv_sbln hi dJ1_charAt_3b067_2 ?_
  refine qv_cS (d2 := mJ0_checkIndex_df160) (r := none) (h2 := h) (av := [.int (nI j), .int (Int32.ofNat (qv_sl.getD i 0))]) (st := []) dJ1_charAt_3b067_3 qM_J1_9 qD_J0_checkIndex_df160 rfl ⟨by decide, by decide⟩ rfl (Nat.le_of_ble_eq_true rfl) (Nat.le_of_ble_eq_true rfl) (sJ0_check h1 h2) rfl ?_
  refine qv_aload_n dJ1_charAt_3b067_6 (i := 0) rfl rfl ?_
  refine qv_iload_n dJ1_charAt_3b067_7 (i := 1) rfl rfl ?_
  refine qv_sbal hi dJ1_charAt_3b067_8 (vp_in_nI hj (by omega)) ?_
  refine qv_sipush (v := (255 : Int32)) dJ1_charAt_3b067_9 rfl ?_
  refine qv_iand dJ1_charAt_3b067_12 ?_
  refine qv_i2c dJ1_charAt_3b067_13 ?_
  rw [e1, b2, b3]
  refine qv_nret dJ1_charAt_3b067_14 rfl ?_
  rw [← b2]
  exact sc_nar _
theorem sJ0_charAt {k : Int32} (hi : i < 8) (h1 : ¬ k < 0) (h2 : k < Int32.ofNat (qv_sl.getD i 0)) : qv_J l g mJ0_charAt_5068e 0 [some (.ref (1000 + i)), some (.int k)] [] h (some (.int ((qv_sb.getD i []).getD k.toNatClampNeg 0)), h) := by
  obtain ⟨a1, a2, a3⟩ := qv_sall i hi
  obtain ⟨j, hj, e0⟩ := qv_inS (by omega) h1 h2
  have e1 : k.toNatClampNeg = j := by rw [e0]; exact nI_clamp (by omega)
  obtain ⟨b1, b2, b3⟩ := a3 _ (qv_sby hi hj)
  refine qv_aload_n dJ0_charAt_5068e_0 (i := 0) rfl rfl ?_
  refine qv_cT (d2 := mJ0_isLatin1_aae02) (r := some (.int 1)) (h2 := h) (av := []) (st := []) hi dJ0_charAt_5068e_1 qM_J0_492 qD_J0_isLatin1_aae02 rfl rfl ⟨by decide, by decide⟩ rfl (by decide) (Nat.le_of_ble_eq_true rfl) (sJ0_latin hi) rfl ?_
  refine qv_if_eq (tgt := 16) dJ0_charAt_5068e_4 rfl (fun q => absurd q (by decide)) (fun _ => ?_)
  refine qv_aload_n dJ0_charAt_5068e_7 (i := 0) rfl rfl ?_
  refine qv_sval hi dJ0_charAt_5068e_8 qF_J0_9 ?_
  refine qv_iload_n dJ0_charAt_5068e_11 (i := 1) rfl rfl ?_
  refine qv_cS (d2 := mJ1_charAt_3b067) (r := some (.int ((qv_sb.getD i []).getD k.toNatClampNeg 0))) (h2 := h) (av := [.ref (1100 + i), .int k]) (st := []) dJ0_charAt_5068e_12 qM_J0_495 qD_J1_charAt_3b067 rfl ⟨by decide, by decide⟩ rfl (Nat.le_of_ble_eq_true rfl) (Nat.le_of_ble_eq_true rfl) (sJ1_charAt hi h1 h2) rfl ?_
  refine qv_nret dJ0_charAt_5068e_15 rfl ?_
  rw [e1, ← b2]
  exact sc_nar _
theorem sJ1_enc {c : Int32} (h1 : ¬ c < 0) (h2 : c < 256) : qv_J l g mJ1_canEncode_9a6ad 0 [some (.int c)] [] h (some (.int 1), h) := by
  refine qv_iload_n dJ1_canEncode_9a6ad_0 (i := 0) rfl rfl ?_
  refine qv_if_lt (tgt := 15) dJ1_canEncode_9a6ad_1 rfl (fun q => absurd q h1) (fun _ => ?_)
  refine qv_iload_n dJ1_canEncode_9a6ad_4 (i := 0) rfl rfl ?_
  refine qv_sipush (v := (255 : Int32)) dJ1_canEncode_9a6ad_5 rfl ?_
  refine qv_icmp_gt (tgt := 15) dJ1_canEncode_9a6ad_8 rfl (fun q => absurd q ?_) (fun _ => ?_)
  · rw [Int32.lt_iff_toInt_lt] at h2 ⊢
    have e1 : (256 : Int32).toInt = 256 := by decide
    have e2 : (255 : Int32).toInt = 255 := by decide
    omega
  · refine qv_iconst (v := (1 : Int32)) dJ1_canEncode_9a6ad_11 rfl ?_
    refine qv_goto (tgt := 16) dJ1_canEncode_9a6ad_12 rfl ?_
    exact qv_nret dJ1_canEncode_9a6ad_16 rfl rfl
theorem sJ1_encN {c : Int32} (h1 : c < 0) : qv_J l g mJ1_canEncode_9a6ad 0 [some (.int c)] [] h (some (.int 0), h) := by
  refine qv_iload_n dJ1_canEncode_9a6ad_0 (i := 0) rfl rfl ?_
  refine qv_if_lt (tgt := 15) dJ1_canEncode_9a6ad_1 rfl (fun _ => ?_) (fun q => absurd h1 q)
  refine qv_iconst (v := (0 : Int32)) dJ1_canEncode_9a6ad_15 rfl ?_
  exact qv_nret dJ1_canEncode_9a6ad_16 rfl rfl
theorem qv_fnd_loop {n : Nat} (hn : n < 256) (hi : i < 8) (f0 : Value) : ∀ (t : List Int32) (k : Nat), (qv_sb.getD i []).drop k = t → k ≤ qv_sl.getD i 0 → qv_J l g mJ1_indexOfChar_4cfef 7 [some (.ref (1100 + i)), none, none, some (.int (Int32.ofNat (qv_sl.getD i 0))), some (.int (nI n).toInt8.toInt32), some (.int (nI k))] [] h (some (.int (qv_fnd (nI n) t k)), h) := by
  obtain ⟨a1, a2, a3⟩ := qv_sall i hi
  intro t
  induction t with
  | nil =>
    intro k e hk
    have q : (qv_sb.getD i []).length ≤ k := List.drop_eq_nil_iff.mp e
    refine qv_iload dJ1_indexOfChar_4cfef_7 rfl ?_
    refine qv_iload_n dJ1_indexOfChar_4cfef_9 (i := 3) rfl rfl ?_
    refine qv_icmp_ge (tgt := 31) dJ1_indexOfChar_4cfef_10 rfl (fun _ => ?_) (fun q2 => absurd (nI_le (by omega) (by omega)) q2)
    refine qv_iconst (v := (-1 : Int32)) dJ1_indexOfChar_4cfef_31 rfl ?_
    exact qv_iret dJ1_indexOfChar_4cfef_32 rfl
  | cons b t ih =>
    intro k e hk
    obtain ⟨c1, c2, c3, c4⟩ := sc_dropC e
    obtain ⟨b1, b2, b3⟩ := a3 b c4
    have hkl : k < qv_sl.getD i 0 := by omega
    refine qv_iload dJ1_indexOfChar_4cfef_7 rfl ?_
    refine qv_iload_n dJ1_indexOfChar_4cfef_9 (i := 3) rfl rfl ?_
    refine qv_icmp_ge (tgt := 31) dJ1_indexOfChar_4cfef_10 rfl (fun q2 => absurd q2 (nI_ge hkl (by omega))) (fun _ => ?_)
    refine qv_aload_n dJ1_indexOfChar_4cfef_13 (i := 0) rfl rfl ?_
    refine qv_iload dJ1_indexOfChar_4cfef_14 rfl ?_
    refine qv_sbal hi dJ1_indexOfChar_4cfef_16 (vp_in_nI hkl (by omega)) ?_
    refine qv_iload dJ1_indexOfChar_4cfef_17 rfl ?_
    rw [nI_clamp (by omega), c2]
    have hiff : b = (nI n).toInt8.toInt32 ↔ b = nI n := by rw [sc_eq b1 hn, b2]
    refine qv_icmp_ne (tgt := 25) dJ1_indexOfChar_4cfef_19 rfl (fun q2 => ?_) (fun q2 => ?_)
    · refine qv_iinc (v := nI (k + 1)) (lo2 := [some (.ref (1100 + i)), none, none, some (.int (Int32.ofNat (qv_sl.getD i 0))), some (.int (nI n).toInt8.toInt32), some (.int (nI (k + 1)))]) dJ1_indexOfChar_4cfef_25 rfl (nI_1 k) (by decide) rfl rfl ?_
      refine qv_goto (tgt := 7) dJ1_indexOfChar_4cfef_28 rfl ?_
      have e2 : qv_fnd (nI n) (b :: t) k = qv_fnd (nI n) t (k + 1) := by
        show (if b = nI n then _ else _) = _
        rw [if_neg (fun z => q2 (hiff.mpr z))]
      rw [e2]
      exact ih (k + 1) c3 (by omega)
    · have e2 : qv_fnd (nI n) (b :: t) k = nI k := by
        show (if b = nI n then _ else _) = _
        rw [if_pos (hiff.mp q2)]
      rw [e2]
      refine qv_iload dJ1_indexOfChar_4cfef_22 rfl ?_
      exact qv_iret dJ1_indexOfChar_4cfef_24 rfl
theorem sJ1_ixc {n : Nat} (hn : n < 256) (hi : i < 8) : qv_J l g mJ1_indexOfChar_4cfef 0 [some (.ref (1100 + i)), some (.int (nI n)), some (.int 0), some (.int (Int32.ofNat (qv_sl.getD i 0))), none, none] [] h (some (.int (qv_fnd (nI n) (qv_sb.getD i []) 0)), h) := by
  refine qv_iload_n dJ1_indexOfChar_4cfef_0 (i := 1) rfl rfl ?_
  refine qv_i2b dJ1_indexOfChar_4cfef_1 ?_
  refine qv_istore (lo2 := [some (.ref (1100 + i)), some (.int (nI n)), some (.int 0), some (.int (Int32.ofNat (qv_sl.getD i 0))), some (.int (nI n).toInt8.toInt32), none]) dJ1_indexOfChar_4cfef_2 (by decide) rfl (Nat.le_of_ble_eq_true rfl) rfl ?_
  refine qv_iload_n dJ1_indexOfChar_4cfef_4 (i := 2) rfl rfl ?_
  refine qv_istore (lo2 := [some (.ref (1100 + i)), some (.int (nI n)), some (.int 0), some (.int (Int32.ofNat (qv_sl.getD i 0))), some (.int (nI n).toInt8.toInt32), some (.int 0)]) dJ1_indexOfChar_4cfef_5 (by decide) rfl (Nat.le_of_ble_eq_true rfl) rfl ?_
  exact qv_dp (qv_le_s (qv_le_n (qv_le_n (qv_le_s (qv_le_s (qv_le_s qv_le_0)))))) (qv_fnd_loop hn hi .null (qv_sb.getD i []) 0 rfl (Nat.zero_le _))
theorem sJ1_ix {c : Int32} (hc : c < 0 ∨ c < 256) (hi : i < 8) : qv_J l g mJ1_indexOf_4cfef 0 [some (.ref (1100 + i)), some (.int c), some (.int 0), some (.int (Int32.ofNat (qv_sl.getD i 0)))] [] h (some (.int (if c < 0 then -1 else qv_fnd c (qv_sb.getD i []) 0)), h) := by
  obtain ⟨a1, a2, a3⟩ := qv_sall i hi
  refine qv_iload_n dJ1_indexOf_4cfef_0 (i := 1) rfl rfl ?_
  by_cases h1 : c < 0
  · refine qv_cS (d2 := mJ1_canEncode_9a6ad) (r := some (.int 0)) (h2 := h) (av := [.int c]) (st := []) dJ1_indexOf_4cfef_1 qM_J1_88 qD_J1_canEncode_9a6ad rfl ⟨by decide, by decide⟩ rfl (Nat.le_of_ble_eq_true rfl) (Nat.le_of_ble_eq_true rfl) (sJ1_encN h1) rfl ?_
    refine qv_if_ne (tgt := 9) dJ1_indexOf_4cfef_4 rfl (fun q => absurd rfl q) (fun _ => ?_)
    refine qv_iconst (v := (-1 : Int32)) dJ1_indexOf_4cfef_7 rfl ?_
    rw [if_pos h1]
    exact qv_iret dJ1_indexOf_4cfef_8 rfl
  · have h2 : c < 256 := hc.resolve_left h1
    rw [if_neg h1]
    refine qv_cS (d2 := mJ1_canEncode_9a6ad) (r := some (.int 1)) (h2 := h) (av := [.int c]) (st := []) dJ1_indexOf_4cfef_1 qM_J1_88 qD_J1_canEncode_9a6ad rfl ⟨by decide, by decide⟩ rfl (Nat.le_of_ble_eq_true rfl) (Nat.le_of_ble_eq_true rfl) (sJ1_enc h1 h2) rfl ?_
    refine qv_if_ne (tgt := 9) dJ1_indexOf_4cfef_4 rfl (fun _ => ?_) (fun q => absurd q (by decide))
    refine qv_iload_n dJ1_indexOf_4cfef_9 (i := 2) rfl rfl ?_
    refine qv_iconst (v := (0 : Int32)) dJ1_indexOf_4cfef_10 rfl ?_
    refine qv_cmx dJ1_indexOf_4cfef_11 qB_J1_92 ⟨by decide, by decide⟩ (Nat.le_of_ble_eq_true rfl) ?_
    refine qv_istore_n (lo2 := [some (.ref (1100 + i)), some (.int c), some (.int 0), some (.int (Int32.ofNat (qv_sl.getD i 0)))]) dJ1_indexOf_4cfef_14 (i := 2) rfl (by decide) rfl (Nat.le_of_ble_eq_true rfl) rfl ?_
    refine qv_iload_n dJ1_indexOf_4cfef_15 (i := 3) rfl rfl ?_
    refine qv_aload_n dJ1_indexOf_4cfef_16 (i := 0) rfl rfl ?_
    refine qv_sbln hi dJ1_indexOf_4cfef_17 ?_
    refine qv_cmn dJ1_indexOf_4cfef_18 qB_J1_38 ⟨by decide, by decide⟩ (Nat.le_of_ble_eq_true rfl) ?_
    have e1 : qv_mn (Int32.ofNat (qv_sl.getD i 0)) (Int32.ofNat (qv_sl.getD i 0)) = Int32.ofNat (qv_sl.getD i 0) := by unfold qv_mn; split <;> rfl
    rw [e1]
    refine qv_istore_n (lo2 := [some (.ref (1100 + i)), some (.int c), some (.int 0), some (.int (Int32.ofNat (qv_sl.getD i 0)))]) dJ1_indexOf_4cfef_21 (i := 3) rfl (by decide) rfl (Nat.le_of_ble_eq_true rfl) rfl ?_
    refine qv_iload_n dJ1_indexOf_4cfef_22 (i := 2) rfl rfl ?_
    refine qv_iload_n dJ1_indexOf_4cfef_23 (i := 3) rfl rfl ?_
    obtain ⟨j, hj, rfl⟩ := nI_of h1
    have hj2 : j < 256 := (nI_ltI hj (by decide)).mp h2
    by_cases h0 : qv_sl.getD i 0 = 0
    · refine qv_icmp_lt (tgt := 29) dJ1_indexOf_4cfef_24 rfl (fun q => absurd q (by rw [h0]; decide)) (fun _ => ?_)
      refine qv_iconst (v := (-1 : Int32)) dJ1_indexOf_4cfef_27 rfl ?_
      have e2 : qv_sb.getD i [] = [] := List.length_eq_zero_iff.mp (by omega)
      rw [e2]
      exact qv_iret dJ1_indexOf_4cfef_28 rfl
    · refine qv_icmp_lt (tgt := 29) dJ1_indexOf_4cfef_24 rfl (fun _ => ?_) (fun q => absurd (nI_lt (a := 0) (b := qv_sl.getD i 0) (by omega) (by omega)) q)
      refine qv_aload_n dJ1_indexOf_4cfef_29 (i := 0) rfl rfl ?_
      refine qv_iload_n dJ1_indexOf_4cfef_30 (i := 1) rfl rfl ?_
      refine qv_iload_n dJ1_indexOf_4cfef_31 (i := 2) rfl rfl ?_
      refine qv_iload_n dJ1_indexOf_4cfef_32 (i := 3) rfl rfl ?_
      refine qv_cS (d2 := mJ1_indexOfChar_4cfef) (r := some (.int (qv_fnd (nI j) (qv_sb.getD i []) 0))) (h2 := h) (av := [.ref (1100 + i), .int (nI j), .int 0, .int (Int32.ofNat (qv_sl.getD i 0))]) (st := []) dJ1_indexOf_4cfef_33 qM_J1_95 qD_J1_indexOfChar_4cfef rfl ⟨by decide, by decide⟩ rfl (Nat.le_of_ble_eq_true rfl) (Nat.le_of_ble_eq_true rfl) (sJ1_ixc hj2 hi) rfl ?_
      exact qv_iret dJ1_indexOf_4cfef_36 rfl
theorem sJ0_ix2 {c : Int32} (hc : c < 0 ∨ c < 256) (hi : i < 8) : qv_J l g mJ0_indexOf_7cf53 0 [some (.ref (1000 + i)), some (.int c), some (.int 0)] [] h (some (.int (if c < 0 then -1 else qv_fnd c (qv_sb.getD i []) 0)), h) := by
  refine qv_aload_n dJ0_indexOf_7cf53_0 (i := 0) rfl rfl ?_
  refine qv_cT (d2 := mJ0_isLatin1_aae02) (r := some (.int 1)) (h2 := h) (av := []) (st := []) hi dJ0_indexOf_7cf53_1 qM_J0_492 qD_J0_isLatin1_aae02 rfl rfl ⟨by decide, by decide⟩ rfl (by decide) (Nat.le_of_ble_eq_true rfl) (sJ0_latin hi) rfl ?_
  refine qv_if_eq (tgt := 23) dJ0_indexOf_7cf53_4 rfl (fun q => absurd q (by decide)) (fun _ => ?_)
  refine qv_aload_n dJ0_indexOf_7cf53_7 (i := 0) rfl rfl ?_
  refine qv_sval hi dJ0_indexOf_7cf53_8 qF_J0_9 ?_
  refine qv_iload_n dJ0_indexOf_7cf53_11 (i := 1) rfl rfl ?_
  refine qv_iload_n dJ0_indexOf_7cf53_12 (i := 2) rfl rfl ?_
  refine qv_aload_n dJ0_indexOf_7cf53_13 (i := 0) rfl rfl ?_
  refine qv_cT (d2 := mJ0_length_8abf5) (r := some (.int (Int32.ofNat (qv_sl.getD i 0)))) (h2 := h) (av := []) (st := [.int 0, .int c, .ref (1100 + i)]) hi dJ0_indexOf_7cf53_14 qM_J0_505 qD_J0_length_8abf5 rfl rfl ⟨by decide, by decide⟩ rfl (by decide) (Nat.le_of_ble_eq_true rfl) (sJ0_length hi) rfl ?_
  refine qv_cS (d2 := mJ1_indexOf_4cfef) (r := some (.int (if c < 0 then -1 else qv_fnd c (qv_sb.getD i []) 0))) (h2 := h) (av := [.ref (1100 + i), .int c, .int 0, .int (Int32.ofNat (qv_sl.getD i 0))]) (st := []) dJ0_indexOf_7cf53_17 qM_J0_637 qD_J1_indexOf_4cfef rfl ⟨by decide, by decide⟩ rfl (Nat.le_of_ble_eq_true rfl) (Nat.le_of_ble_eq_true rfl) (sJ1_ix hc hi) rfl ?_
  refine qv_goto (tgt := 36) dJ0_indexOf_7cf53_20 rfl ?_
  exact qv_iret dJ0_indexOf_7cf53_36 rfl
theorem sJ0_ix1 {c : Int32} (hc : c < 0 ∨ c < 256) (hi : i < 8) : qv_J l g mJ0_indexOf_0f7a4 0 [some (.ref (1000 + i)), some (.int c)] [] h (some (.int (if c < 0 then -1 else qv_fnd c (qv_sb.getD i []) 0)), h) := by
  refine qv_aload_n dJ0_indexOf_0f7a4_0 (i := 0) rfl rfl ?_
  refine qv_iload_n dJ0_indexOf_0f7a4_1 (i := 1) rfl rfl ?_
  refine qv_iconst (v := (0 : Int32)) dJ0_indexOf_0f7a4_2 rfl ?_
  refine qv_cT (d2 := mJ0_indexOf_7cf53) (r := some (.int (if c < 0 then -1 else qv_fnd c (qv_sb.getD i []) 0))) (h2 := h) (av := [.int c, .int 0]) (st := []) hi dJ0_indexOf_0f7a4_3 qM_J0_633 qD_J0_indexOf_7cf53 rfl rfl ⟨by decide, by decide⟩ rfl (Nat.le_of_ble_eq_true rfl) (Nat.le_of_ble_eq_true rfl) (sJ0_ix2 hc hi) rfl ?_
  exact qv_iret dJ0_indexOf_0f7a4_6 rfl
end QU
section QZ
variable {l : Launch} {g : qv_G} {d : qv_M} {pc idx o : Nat} {lo : List (Option Value)} {st : List Value} {h : qv_H} {R : Option Value × qv_H}
theorem qv_stlen {v : Int32} (hd : decode d.2.1 pc = .ok (.invokevirtual idx, 3)) (hm : Cond.methodLink d.1.cls idx yJ0_length_8abf5 ∈ qv_WS) (hR : 2 ≤ d.2.2.2.2.1 ∧ 40 ≤ d.2.2.2.2.2) (hst : (st.map fun v => v.category).sum ≤ 8) (e : qv_tlen o = some v) (k : qv_J l g d (pc + 3) lo (.int v :: st) h R) : qv_J l g d pc lo (.ref o :: st) h R := by
  unfold qv_tlen at e
  split at e
  · rename_i ho
    obtain rfl := qv_sm e
    obtain ⟨i, rfl⟩ : ∃ i, o = 1000 + i := ⟨o - 1000, by omega⟩
    rw [show 1000 + i - 1000 = i by omega] at k
    exact qv_cT (d2 := mJ0_length_8abf5) (r := some (.int (Int32.ofNat (qv_sl.getD i 0)))) (h2 := h) (av := []) (st := st) (by omega) hd hm qD_J0_length_8abf5 rfl rfl hR rfl (by decide) hst (sJ0_length (by omega)) rfl k
  · cases e
theorem qv_stchar {c v : Int32} (hd : decode d.2.1 pc = .ok (.invokevirtual idx, 3)) (hm : Cond.methodLink d.1.cls idx yJ0_charAt_5068e ∈ qv_WS) (hR : 4 ≤ d.2.2.2.2.1 ∧ 85 ≤ d.2.2.2.2.2) (hst : (st.map fun v => v.category).sum ≤ 8) (e : qv_tchar o c = some v) (k : qv_J l g d (pc + 3) lo (.int v :: st) h R) : qv_J l g d pc lo (.int c :: .ref o :: st) h R := by
  unfold qv_tchar at e
  split at e
  · rename_i ho
    obtain rfl := qv_sm e
    obtain ⟨i, rfl⟩ : ∃ i, o = 1000 + i := ⟨o - 1000, by omega⟩
    rw [show 1000 + i - 1000 = i by omega] at k ho
    exact qv_cT (d2 := mJ0_charAt_5068e) (r := some (.int ((qv_sb.getD i []).getD c.toNatClampNeg 0))) (h2 := h) (av := [.int c]) (st := st) (by omega) hd hm qD_J0_charAt_5068e rfl rfl hR rfl (Nat.le_of_ble_eq_true rfl) hst (sJ0_charAt (by omega) ho.2.2.1 ho.2.2.2) rfl k
  · cases e
theorem qv_stidx {c v : Int32} (hd : decode d.2.1 pc = .ok (.invokevirtual idx, 3)) (hm : Cond.methodLink d.1.cls idx yJ0_indexOf_0f7a4 ∈ qv_WS) (hR : 4 ≤ d.2.2.2.2.1 ∧ 91 ≤ d.2.2.2.2.2) (hst : (st.map fun v => v.category).sum ≤ 8) (e : qv_tidx o c = some v) (k : qv_J l g d (pc + 3) lo (.int v :: st) h R) : qv_J l g d pc lo (.int c :: .ref o :: st) h R := by
  unfold qv_tidx at e
  split at e
  · rename_i ho
    obtain rfl := qv_sm e
    obtain ⟨i, rfl⟩ : ∃ i, o = 1000 + i := ⟨o - 1000, by omega⟩
    rw [show 1000 + i - 1000 = i by omega] at k
    exact qv_cT (d2 := mJ0_indexOf_0f7a4) (r := some (.int (if c < 0 then -1 else qv_fnd c (qv_sb.getD i []) 0))) (h2 := h) (av := [.int c]) (st := st) (by omega) hd hm qD_J0_indexOf_0f7a4 rfl rfl hR rfl (Nat.le_of_ble_eq_true rfl) hst (sJ0_ix1 ho.2.2 (by omega)) rfl k
  · cases e
end QZ
end
