-- ===== PART A: goes FIRST, ahead of the names: the tables' words, and 'selects' of the private methods out of them =====
/-- a private method of a class that the tables say can be made, by its rows of tables_1 -/
def lw_okq (q : MethodName × Nat) : Prop := (q.1.cls ≠ "java/lang/invoke/MethodHandle" ∧ q.1.cls ≠ "java/lang/invoke/VarHandle") ∧ Cond.instantiable q.1.cls q.2 ∈ tables_1 ∧ Cond.privateMethod q.1 ∈ tables_1 ∧ Cond.instanceMethod q.1 ∈ tables_1
theorem lw_p0 : lw_okq (⟨"AgesByMiles", "refuse", "(I)I"⟩, 13) := ⟨⟨by decide +kernel, by decide +kernel⟩, List.mem_of_getElem? (i := 24) (by decide +kernel), List.mem_of_getElem? (i := 292) (by decide +kernel), List.mem_of_getElem? (i := 293) (by decide +kernel)⟩
theorem lw_p1 : lw_okq (⟨"AgesByMiles$Reader", "readStatement", "()I"⟩, 8) := ⟨⟨by decide +kernel, by decide +kernel⟩, List.mem_of_getElem? (i := 189) (by decide +kernel), List.mem_of_getElem? (i := 323) (by decide +kernel), List.mem_of_getElem? (i := 324) (by decide +kernel)⟩
theorem lw_p2 : lw_okq (⟨"AgesByMiles$Reader", "readDigit", "()I"⟩, 8) := ⟨⟨by decide +kernel, by decide +kernel⟩, List.mem_of_getElem? (i := 189) (by decide +kernel), List.mem_of_getElem? (i := 327) (by decide +kernel), List.mem_of_getElem? (i := 328) (by decide +kernel)⟩
theorem lw_p3 : lw_okq (⟨"AgesByMiles$Reader", "isDigitNext", "()Z"⟩, 8) := ⟨⟨by decide +kernel, by decide +kernel⟩, List.mem_of_getElem? (i := 189) (by decide +kernel), List.mem_of_getElem? (i := 331) (by decide +kernel), List.mem_of_getElem? (i := 332) (by decide +kernel)⟩
theorem lw_p4 : lw_okq (⟨"AgesByMiles$Reader", "fail", "()V"⟩, 8) := ⟨⟨by decide +kernel, by decide +kernel⟩, List.mem_of_getElem? (i := 189) (by decide +kernel), List.mem_of_getElem? (i := 335) (by decide +kernel), List.mem_of_getElem? (i := 336) (by decide +kernel)⟩
theorem lw_p5 : lw_okq (⟨"AgesByMiles$Reader", "readSign", "(C)V"⟩, 8) := ⟨⟨by decide +kernel, by decide +kernel⟩, List.mem_of_getElem? (i := 189) (by decide +kernel), List.mem_of_getElem? (i := 339) (by decide +kernel), List.mem_of_getElem? (i := 340) (by decide +kernel)⟩
theorem lw_p6 : lw_okq (⟨"AgesByMiles$Reader", "readNumber", "(I)I"⟩, 8) := ⟨⟨by decide +kernel, by decide +kernel⟩, List.mem_of_getElem? (i := 189) (by decide +kernel), List.mem_of_getElem? (i := 343) (by decide +kernel), List.mem_of_getElem? (i := 344) (by decide +kernel)⟩
theorem lw_p7 : lw_okq (⟨"AgesByMiles$Reader", "readKind", "()I"⟩, 8) := ⟨⟨by decide +kernel, by decide +kernel⟩, List.mem_of_getElem? (i := 189) (by decide +kernel), List.mem_of_getElem? (i := 347) (by decide +kernel), List.mem_of_getElem? (i := 348) (by decide +kernel)⟩
theorem lw_p8 : lw_okq (⟨"AgesByMiles$Told", "placesNeeded", "()I"⟩, 15) := ⟨⟨by decide +kernel, by decide +kernel⟩, List.mem_of_getElem? (i := 32) (by decide +kernel), List.mem_of_getElem? (i := 538) (by decide +kernel), List.mem_of_getElem? (i := 539) (by decide +kernel)⟩
theorem lw_p9 : lw_okq (⟨"AgesByMiles$Told", "hasWay", "(I)Z"⟩, 15) := ⟨⟨by decide +kernel, by decide +kernel⟩, List.mem_of_getElem? (i := 32) (by decide +kernel), List.mem_of_getElem? (i := 543) (by decide +kernel), List.mem_of_getElem? (i := 544) (by decide +kernel)⟩
theorem lw_p10 : lw_okq (⟨"AgesByMiles", "areDigitsPlaces", "(IJ)Z"⟩, 13) := ⟨⟨by decide +kernel, by decide +kernel⟩, List.mem_of_getElem? (i := 24) (by decide +kernel), List.mem_of_getElem? (i := 657) (by decide +kernel), List.mem_of_getElem? (i := 658) (by decide +kernel)⟩
theorem lw_p11 : lw_okq (⟨"AgesByMiles$Lives", "takeWorthy", "(LAgesByMiles$Told;)V"⟩, 5) := ⟨⟨by decide +kernel, by decide +kernel⟩, List.mem_of_getElem? (i := 220) (by decide +kernel), List.mem_of_getElem? (i := 671) (by decide +kernel), List.mem_of_getElem? (i := 672) (by decide +kernel)⟩
theorem lw_p12 : lw_okq (⟨"AgesByMiles$Lives", "seekThings", "(LAgesByMiles$Told;I)V"⟩, 5) := ⟨⟨by decide +kernel, by decide +kernel⟩, List.mem_of_getElem? (i := 220) (by decide +kernel), List.mem_of_getElem? (i := 678) (by decide +kernel), List.mem_of_getElem? (i := 679) (by decide +kernel)⟩
theorem lw_p13 : lw_okq (⟨"AgesByMiles$Lives", "nextPlace", "(LAgesByMiles$Told;I)I"⟩, 5) := ⟨⟨by decide +kernel, by decide +kernel⟩, List.mem_of_getElem? (i := 220) (by decide +kernel), List.mem_of_getElem? (i := 682) (by decide +kernel), List.mem_of_getElem? (i := 683) (by decide +kernel)⟩
theorem lw_p14 : lw_okq (⟨"AgesByMiles$Lives", "isWorthGoing", "(LAgesByMiles$Told;II)Z"⟩, 5) := ⟨⟨by decide +kernel, by decide +kernel⟩, List.mem_of_getElem? (i := 220) (by decide +kernel), List.mem_of_getElem? (i := 688) (by decide +kernel), List.mem_of_getElem? (i := 689) (by decide +kernel)⟩
theorem lw_p15 : lw_okq (⟨"AgesByMiles$Lives", "walkOrder", "(LAgesByMiles$Told;)V"⟩, 5) := ⟨⟨by decide +kernel, by decide +kernel⟩, List.mem_of_getElem? (i := 220) (by decide +kernel), List.mem_of_getElem? (i := 694) (by decide +kernel), List.mem_of_getElem? (i := 695) (by decide +kernel)⟩
def lw_privs_1 : List (MethodName × Nat) := [(⟨"AgesByMiles", "refuse", "(I)I"⟩, 13), (⟨"AgesByMiles$Reader", "readStatement", "()I"⟩, 8), (⟨"AgesByMiles$Reader", "readDigit", "()I"⟩, 8), (⟨"AgesByMiles$Reader", "isDigitNext", "()Z"⟩, 8), (⟨"AgesByMiles$Reader", "fail", "()V"⟩, 8), (⟨"AgesByMiles$Reader", "readSign", "(C)V"⟩, 8), (⟨"AgesByMiles$Reader", "readNumber", "(I)I"⟩, 8), (⟨"AgesByMiles$Reader", "readKind", "()I"⟩, 8), (⟨"AgesByMiles$Told", "placesNeeded", "()I"⟩, 15), (⟨"AgesByMiles$Told", "hasWay", "(I)Z"⟩, 15), (⟨"AgesByMiles", "areDigitsPlaces", "(IJ)Z"⟩, 13), (⟨"AgesByMiles$Lives", "takeWorthy", "(LAgesByMiles$Told;)V"⟩, 5), (⟨"AgesByMiles$Lives", "seekThings", "(LAgesByMiles$Told;I)V"⟩, 5), (⟨"AgesByMiles$Lives", "nextPlace", "(LAgesByMiles$Told;I)I"⟩, 5), (⟨"AgesByMiles$Lives", "isWorthGoing", "(LAgesByMiles$Told;II)Z"⟩, 5), (⟨"AgesByMiles$Lives", "walkOrder", "(LAgesByMiles$Told;)V"⟩, 5)]
theorem lw_r1 : ∀ q ∈ lw_privs_1, lw_okq q := List.forall_mem_cons.mpr ⟨lw_p0, List.forall_mem_cons.mpr ⟨lw_p1, List.forall_mem_cons.mpr ⟨lw_p2, List.forall_mem_cons.mpr ⟨lw_p3, List.forall_mem_cons.mpr ⟨lw_p4, List.forall_mem_cons.mpr ⟨lw_p5, List.forall_mem_cons.mpr ⟨lw_p6, List.forall_mem_cons.mpr ⟨lw_p7, List.forall_mem_cons.mpr ⟨lw_p8, List.forall_mem_cons.mpr ⟨lw_p9, List.forall_mem_cons.mpr ⟨lw_p10, List.forall_mem_cons.mpr ⟨lw_p11, List.forall_mem_cons.mpr ⟨lw_p12, List.forall_mem_cons.mpr ⟨lw_p13, List.forall_mem_cons.mpr ⟨lw_p14, List.forall_mem_cons.mpr ⟨lw_p15, fun _ h => absurd h List.not_mem_nil⟩⟩⟩⟩⟩⟩⟩⟩⟩⟩⟩⟩⟩⟩⟩⟩
theorem lw_p16 : lw_okq (⟨"AgesByMiles$Lives", "seekOn", "(LAgesByMiles$Told;I)V"⟩, 5) := ⟨⟨by decide +kernel, by decide +kernel⟩, List.mem_of_getElem? (i := 220) (by decide +kernel), List.mem_of_getElem? (i := 706) (by decide +kernel), List.mem_of_getElem? (i := 707) (by decide +kernel)⟩
theorem lw_p17 : lw_okq (⟨"AgesByMiles$Lives", "mostToCome", "(LAgesByMiles$Told;)I"⟩, 5) := ⟨⟨by decide +kernel, by decide +kernel⟩, List.mem_of_getElem? (i := 220) (by decide +kernel), List.mem_of_getElem? (i := 711) (by decide +kernel), List.mem_of_getElem? (i := 712) (by decide +kernel)⟩
theorem lw_p18 : lw_okq (⟨"AgesByMiles$Lives", "seekWith", "(LAgesByMiles$Told;II)V"⟩, 5) := ⟨⟨by decide +kernel, by decide +kernel⟩, List.mem_of_getElem? (i := 220) (by decide +kernel), List.mem_of_getElem? (i := 716) (by decide +kernel), List.mem_of_getElem? (i := 717) (by decide +kernel)⟩
theorem lw_p19 : lw_okq (⟨"AgesByMiles", "refuseLong", "(I)J"⟩, 13) := ⟨⟨by decide +kernel, by decide +kernel⟩, List.mem_of_getElem? (i := 24) (by decide +kernel), List.mem_of_getElem? (i := 736) (by decide +kernel), List.mem_of_getElem? (i := 737) (by decide +kernel)⟩
theorem lw_p20 : lw_okq (⟨"AgesByMiles", "fillMeans", "(II)J"⟩, 13) := ⟨⟨by decide +kernel, by decide +kernel⟩, List.mem_of_getElem? (i := 24) (by decide +kernel), List.mem_of_getElem? (i := 741) (by decide +kernel), List.mem_of_getElem? (i := 742) (by decide +kernel)⟩
theorem lw_p21 : lw_okq (⟨"AgesByMiles", "oneCallMore", "(IJ)J"⟩, 13) := ⟨⟨by decide +kernel, by decide +kernel⟩, List.mem_of_getElem? (i := 24) (by decide +kernel), List.mem_of_getElem? (i := 752) (by decide +kernel), List.mem_of_getElem? (i := 753) (by decide +kernel)⟩
theorem lw_p22 : lw_okq (⟨"AgesByMiles", "costOfSending", "(II)I"⟩, 13) := ⟨⟨by decide +kernel, by decide +kernel⟩, List.mem_of_getElem? (i := 24) (by decide +kernel), List.mem_of_getElem? (i := 784) (by decide +kernel), List.mem_of_getElem? (i := 785) (by decide +kernel)⟩
theorem lw_p23 : lw_okq (⟨"AgesByMiles", "sumToWells", "(I)I"⟩, 13) := ⟨⟨by decide +kernel, by decide +kernel⟩, List.mem_of_getElem? (i := 24) (by decide +kernel), List.mem_of_getElem? (i := 798) (by decide +kernel), List.mem_of_getElem? (i := 799) (by decide +kernel)⟩
theorem lw_p24 : lw_okq (⟨"AgesByMiles$Lives", "takeOpen", "(LAgesByMiles$Told;)V"⟩, 5) := ⟨⟨by decide +kernel, by decide +kernel⟩, List.mem_of_getElem? (i := 220) (by decide +kernel), List.mem_of_getElem? (i := 814) (by decide +kernel), List.mem_of_getElem? (i := 815) (by decide +kernel)⟩
theorem lw_p25 : lw_okq (⟨"AgesByMilesModel", "no", "(I)I"⟩, 49) := ⟨⟨by decide +kernel, by decide +kernel⟩, List.mem_of_getElem? (i := 855) (by decide +kernel), List.mem_of_getElem? (i := 1016) (by decide +kernel), List.mem_of_getElem? (i := 1017) (by decide +kernel)⟩
theorem lw_p26 : lw_okq (⟨"AgesByMilesModel", "statement", "()Z"⟩, 49) := ⟨⟨by decide +kernel, by decide +kernel⟩, List.mem_of_getElem? (i := 855) (by decide +kernel), List.mem_of_getElem? (i := 1025) (by decide +kernel), List.mem_of_getElem? (i := 1026) (by decide +kernel)⟩
theorem lw_p27 : lw_okq (⟨"AgesByMilesModel", "nextByte", "()I"⟩, 49) := ⟨⟨by decide +kernel, by decide +kernel⟩, List.mem_of_getElem? (i := 855) (by decide +kernel), List.mem_of_getElem? (i := 1029) (by decide +kernel), List.mem_of_getElem? (i := 1030) (by decide +kernel)⟩
theorem lw_p28 : lw_okq (⟨"AgesByMilesModel", "readsWay", "(I)Z"⟩, 49) := ⟨⟨by decide +kernel, by decide +kernel⟩, List.mem_of_getElem? (i := 855) (by decide +kernel), List.mem_of_getElem? (i := 1033) (by decide +kernel), List.mem_of_getElem? (i := 1034) (by decide +kernel)⟩
theorem lw_p29 : lw_okq (⟨"AgesByMilesModel", "number", "(I)I"⟩, 49) := ⟨⟨by decide +kernel, by decide +kernel⟩, List.mem_of_getElem? (i := 855) (by decide +kernel), List.mem_of_getElem? (i := 1037) (by decide +kernel), List.mem_of_getElem? (i := 1038) (by decide +kernel)⟩
theorem lw_p30 : lw_okq (⟨"AgesByMilesModel", "isNext", "(I)Z"⟩, 49) := ⟨⟨by decide +kernel, by decide +kernel⟩, List.mem_of_getElem? (i := 855) (by decide +kernel), List.mem_of_getElem? (i := 1044) (by decide +kernel), List.mem_of_getElem? (i := 1045) (by decide +kernel)⟩
theorem lw_p31 : lw_okq (⟨"AgesByMilesModel", "readsThing", "(I)Z"⟩, 49) := ⟨⟨by decide +kernel, by decide +kernel⟩, List.mem_of_getElem? (i := 855) (by decide +kernel), List.mem_of_getElem? (i := 1048) (by decide +kernel), List.mem_of_getElem? (i := 1049) (by decide +kernel)⟩
def lw_privs_2 : List (MethodName × Nat) := [(⟨"AgesByMiles$Lives", "seekOn", "(LAgesByMiles$Told;I)V"⟩, 5), (⟨"AgesByMiles$Lives", "mostToCome", "(LAgesByMiles$Told;)I"⟩, 5), (⟨"AgesByMiles$Lives", "seekWith", "(LAgesByMiles$Told;II)V"⟩, 5), (⟨"AgesByMiles", "refuseLong", "(I)J"⟩, 13), (⟨"AgesByMiles", "fillMeans", "(II)J"⟩, 13), (⟨"AgesByMiles", "oneCallMore", "(IJ)J"⟩, 13), (⟨"AgesByMiles", "costOfSending", "(II)I"⟩, 13), (⟨"AgesByMiles", "sumToWells", "(I)I"⟩, 13), (⟨"AgesByMiles$Lives", "takeOpen", "(LAgesByMiles$Told;)V"⟩, 5), (⟨"AgesByMilesModel", "no", "(I)I"⟩, 49), (⟨"AgesByMilesModel", "statement", "()Z"⟩, 49), (⟨"AgesByMilesModel", "nextByte", "()I"⟩, 49), (⟨"AgesByMilesModel", "readsWay", "(I)Z"⟩, 49), (⟨"AgesByMilesModel", "number", "(I)I"⟩, 49), (⟨"AgesByMilesModel", "isNext", "(I)Z"⟩, 49), (⟨"AgesByMilesModel", "readsThing", "(I)Z"⟩, 49)]
theorem lw_r2 : ∀ q ∈ lw_privs_2, lw_okq q := List.forall_mem_cons.mpr ⟨lw_p16, List.forall_mem_cons.mpr ⟨lw_p17, List.forall_mem_cons.mpr ⟨lw_p18, List.forall_mem_cons.mpr ⟨lw_p19, List.forall_mem_cons.mpr ⟨lw_p20, List.forall_mem_cons.mpr ⟨lw_p21, List.forall_mem_cons.mpr ⟨lw_p22, List.forall_mem_cons.mpr ⟨lw_p23, List.forall_mem_cons.mpr ⟨lw_p24, List.forall_mem_cons.mpr ⟨lw_p25, List.forall_mem_cons.mpr ⟨lw_p26, List.forall_mem_cons.mpr ⟨lw_p27, List.forall_mem_cons.mpr ⟨lw_p28, List.forall_mem_cons.mpr ⟨lw_p29, List.forall_mem_cons.mpr ⟨lw_p30, List.forall_mem_cons.mpr ⟨lw_p31, fun _ h => absurd h List.not_mem_nil⟩⟩⟩⟩⟩⟩⟩⟩⟩⟩⟩⟩⟩⟩⟩⟩
theorem lw_p32 : lw_okq (⟨"AgesByMilesModel", "passesAll", "(IZ)V"⟩, 49) := ⟨⟨by decide +kernel, by decide +kernel⟩, List.mem_of_getElem? (i := 855) (by decide +kernel), List.mem_of_getElem? (i := 1055) (by decide +kernel), List.mem_of_getElem? (i := 1056) (by decide +kernel)⟩
theorem lw_p33 : lw_okq (⟨"AgesByMilesModel", "passes", "([I)V"⟩, 49) := ⟨⟨by decide +kernel, by decide +kernel⟩, List.mem_of_getElem? (i := 855) (by decide +kernel), List.mem_of_getElem? (i := 1059) (by decide +kernel), List.mem_of_getElem? (i := 1060) (by decide +kernel)⟩
theorem lw_p34 : lw_okq (⟨"AgesByMilesModel", "passOne", "(I)I"⟩, 49) := ⟨⟨by decide +kernel, by decide +kernel⟩, List.mem_of_getElem? (i := 855) (by decide +kernel), List.mem_of_getElem? (i := 1063) (by decide +kernel), List.mem_of_getElem? (i := 1064) (by decide +kernel)⟩
theorem lw_p35 : lw_okq (⟨"AgesByMilesModel", "comes", "(I)Z"⟩, 49) := ⟨⟨by decide +kernel, by decide +kernel⟩, List.mem_of_getElem? (i := 855) (by decide +kernel), List.mem_of_getElem? (i := 1067) (by decide +kernel), List.mem_of_getElem? (i := 1068) (by decide +kernel)⟩
theorem lw_p36 : lw_okq (⟨"AgesByMilesModel", "toldPlaces", "()I"⟩, 49) := ⟨⟨by decide +kernel, by decide +kernel⟩, List.mem_of_getElem? (i := 855) (by decide +kernel), List.mem_of_getElem? (i := 1071) (by decide +kernel), List.mem_of_getElem? (i := 1072) (by decide +kernel)⟩
theorem lw_p37 : lw_okq (⟨"AgesByMilesModel", "comesWay", "(III)Z"⟩, 49) := ⟨⟨by decide +kernel, by decide +kernel⟩, List.mem_of_getElem? (i := 855) (by decide +kernel), List.mem_of_getElem? (i := 1075) (by decide +kernel), List.mem_of_getElem? (i := 1076) (by decide +kernel)⟩
theorem lw_p38 : lw_okq (⟨"AgesByMilesModel", "isPlace", "(I)Z"⟩, 49) := ⟨⟨by decide +kernel, by decide +kernel⟩, List.mem_of_getElem? (i := 855) (by decide +kernel), List.mem_of_getElem? (i := 1079) (by decide +kernel), List.mem_of_getElem? (i := 1080) (by decide +kernel)⟩
theorem lw_p39 : lw_okq (⟨"AgesByMilesModel", "isThing", "(I)Z"⟩, 49) := ⟨⟨by decide +kernel, by decide +kernel⟩, List.mem_of_getElem? (i := 855) (by decide +kernel), List.mem_of_getElem? (i := 1083) (by decide +kernel), List.mem_of_getElem? (i := 1084) (by decide +kernel)⟩
theorem lw_p40 : lw_okq (⟨"AgesByMilesModel", "findFar", "()V"⟩, 49) := ⟨⟨by decide +kernel, by decide +kernel⟩, List.mem_of_getElem? (i := 855) (by decide +kernel), List.mem_of_getElem? (i := 1091) (by decide +kernel), List.mem_of_getElem? (i := 1092) (by decide +kernel)⟩
theorem lw_p41 : lw_okq (⟨"AgesByMilesModel", "farOf", "(II)I"⟩, 49) := ⟨⟨by decide +kernel, by decide +kernel⟩, List.mem_of_getElem? (i := 855) (by decide +kernel), List.mem_of_getElem? (i := 1096) (by decide +kernel), List.mem_of_getElem? (i := 1097) (by decide +kernel)⟩
theorem lw_p42 : lw_okq (⟨"AgesByMilesModel", "mayGo", "(I)Z"⟩, 49) := ⟨⟨by decide +kernel, by decide +kernel⟩, List.mem_of_getElem? (i := 855) (by decide +kernel), List.mem_of_getElem? (i := 1112) (by decide +kernel), List.mem_of_getElem? (i := 1113) (by decide +kernel)⟩
theorem lw_p43 : lw_okq (⟨"AgesByMilesModel", "goesTo", "(I)V"⟩, 49) := ⟨⟨by decide +kernel, by decide +kernel⟩, List.mem_of_getElem? (i := 855) (by decide +kernel), List.mem_of_getElem? (i := 1116) (by decide +kernel), List.mem_of_getElem? (i := 1117) (by decide +kernel)⟩
theorem lw_p44 : lw_okq (⟨"AgesByMilesModel", "mayHave", "(I)Z"⟩, 49) := ⟨⟨by decide +kernel, by decide +kernel⟩, List.mem_of_getElem? (i := 855) (by decide +kernel), List.mem_of_getElem? (i := 1124) (by decide +kernel), List.mem_of_getElem? (i := 1125) (by decide +kernel)⟩
theorem lw_p45 : lw_okq (⟨"AgesByMilesModel", "mayBe", "(II)Z"⟩, 49) := ⟨⟨by decide +kernel, by decide +kernel⟩, List.mem_of_getElem? (i := 855) (by decide +kernel), List.mem_of_getElem? (i := 1128) (by decide +kernel), List.mem_of_getElem? (i := 1129) (by decide +kernel)⟩
theorem lw_p46 : lw_okq (⟨"AgesByMilesModel", "worthOf", "(III)I"⟩, 49) := ⟨⟨by decide +kernel, by decide +kernel⟩, List.mem_of_getElem? (i := 855) (by decide +kernel), List.mem_of_getElem? (i := 1132) (by decide +kernel), List.mem_of_getElem? (i := 1133) (by decide +kernel)⟩
theorem lw_p47 : lw_okq (⟨"AgesByMilesModel", "hasIt", "(I)I"⟩, 49) := ⟨⟨by decide +kernel, by decide +kernel⟩, List.mem_of_getElem? (i := 855) (by decide +kernel), List.mem_of_getElem? (i := 1136) (by decide +kernel), List.mem_of_getElem? (i := 1137) (by decide +kernel)⟩
def lw_privs_3 : List (MethodName × Nat) := [(⟨"AgesByMilesModel", "passesAll", "(IZ)V"⟩, 49), (⟨"AgesByMilesModel", "passes", "([I)V"⟩, 49), (⟨"AgesByMilesModel", "passOne", "(I)I"⟩, 49), (⟨"AgesByMilesModel", "comes", "(I)Z"⟩, 49), (⟨"AgesByMilesModel", "toldPlaces", "()I"⟩, 49), (⟨"AgesByMilesModel", "comesWay", "(III)Z"⟩, 49), (⟨"AgesByMilesModel", "isPlace", "(I)Z"⟩, 49), (⟨"AgesByMilesModel", "isThing", "(I)Z"⟩, 49), (⟨"AgesByMilesModel", "findFar", "()V"⟩, 49), (⟨"AgesByMilesModel", "farOf", "(II)I"⟩, 49), (⟨"AgesByMilesModel", "mayGo", "(I)Z"⟩, 49), (⟨"AgesByMilesModel", "goesTo", "(I)V"⟩, 49), (⟨"AgesByMilesModel", "mayHave", "(I)Z"⟩, 49), (⟨"AgesByMilesModel", "mayBe", "(II)Z"⟩, 49), (⟨"AgesByMilesModel", "worthOf", "(III)I"⟩, 49), (⟨"AgesByMilesModel", "hasIt", "(I)I"⟩, 49)]
theorem lw_r3 : ∀ q ∈ lw_privs_3, lw_okq q := List.forall_mem_cons.mpr ⟨lw_p32, List.forall_mem_cons.mpr ⟨lw_p33, List.forall_mem_cons.mpr ⟨lw_p34, List.forall_mem_cons.mpr ⟨lw_p35, List.forall_mem_cons.mpr ⟨lw_p36, List.forall_mem_cons.mpr ⟨lw_p37, List.forall_mem_cons.mpr ⟨lw_p38, List.forall_mem_cons.mpr ⟨lw_p39, List.forall_mem_cons.mpr ⟨lw_p40, List.forall_mem_cons.mpr ⟨lw_p41, List.forall_mem_cons.mpr ⟨lw_p42, List.forall_mem_cons.mpr ⟨lw_p43, List.forall_mem_cons.mpr ⟨lw_p44, List.forall_mem_cons.mpr ⟨lw_p45, List.forall_mem_cons.mpr ⟨lw_p46, List.forall_mem_cons.mpr ⟨lw_p47, fun _ h => absurd h List.not_mem_nil⟩⟩⟩⟩⟩⟩⟩⟩⟩⟩⟩⟩⟩⟩⟩⟩
theorem lw_p48 : lw_okq (⟨"AgesByMilesModel", "begins", "(I)V"⟩, 49) := ⟨⟨by decide +kernel, by decide +kernel⟩, List.mem_of_getElem? (i := 855) (by decide +kernel), List.mem_of_getElem? (i := 1156) (by decide +kernel), List.mem_of_getElem? (i := 1157) (by decide +kernel)⟩
theorem lw_p49 : lw_okq (⟨"AgesByMilesModel", "lives", "(I)V"⟩, 49) := ⟨⟨by decide +kernel, by decide +kernel⟩, List.mem_of_getElem? (i := 855) (by decide +kernel), List.mem_of_getElem? (i := 1169) (by decide +kernel), List.mem_of_getElem? (i := 1170) (by decide +kernel)⟩
theorem lw_p50 : lw_okq (⟨"AgesByMilesModel", "hasAll", "(Z)V"⟩, 49) := ⟨⟨by decide +kernel, by decide +kernel⟩, List.mem_of_getElem? (i := 855) (by decide +kernel), List.mem_of_getElem? (i := 1173) (by decide +kernel), List.mem_of_getElem? (i := 1174) (by decide +kernel)⟩
theorem lw_p51 : lw_okq (⟨"AgesByMilesModel", "nextPlace", "(Z)I"⟩, 49) := ⟨⟨by decide +kernel, by decide +kernel⟩, List.mem_of_getElem? (i := 855) (by decide +kernel), List.mem_of_getElem? (i := 1177) (by decide +kernel), List.mem_of_getElem? (i := 1178) (by decide +kernel)⟩
theorem lw_p52 : lw_okq (⟨"AgesByMilesModel", "isWorthGoing", "(I)Z"⟩, 49) := ⟨⟨by decide +kernel, by decide +kernel⟩, List.mem_of_getElem? (i := 855) (by decide +kernel), List.mem_of_getElem? (i := 1181) (by decide +kernel), List.mem_of_getElem? (i := 1182) (by decide +kernel)⟩
theorem lw_p53 : lw_okq (⟨"AgesByMilesModel", "findBest", "(I)V"⟩, 49) := ⟨⟨by decide +kernel, by decide +kernel⟩, List.mem_of_getElem? (i := 855) (by decide +kernel), List.mem_of_getElem? (i := 1189) (by decide +kernel), List.mem_of_getElem? (i := 1190) (by decide +kernel)⟩
theorem lw_p54 : lw_okq (⟨"AgesByMilesModel", "noLong", "(I)J"⟩, 49) := ⟨⟨by decide +kernel, by decide +kernel⟩, List.mem_of_getElem? (i := 855) (by decide +kernel), List.mem_of_getElem? (i := 1205) (by decide +kernel), List.mem_of_getElem? (i := 1206) (by decide +kernel)⟩
theorem lw_p55 : lw_okq (⟨"AgesByMilesModel", "allWeights", "()I"⟩, 49) := ⟨⟨by decide +kernel, by decide +kernel⟩, List.mem_of_getElem? (i := 855) (by decide +kernel), List.mem_of_getElem? (i := 1210) (by decide +kernel), List.mem_of_getElem? (i := 1211) (by decide +kernel)⟩
theorem lw_p56 : lw_okq (⟨"AgesByMilesModel", "findMeans", "(II)J"⟩, 49) := ⟨⟨by decide +kernel, by decide +kernel⟩, List.mem_of_getElem? (i := 855) (by decide +kernel), List.mem_of_getElem? (i := 1214) (by decide +kernel), List.mem_of_getElem? (i := 1215) (by decide +kernel)⟩
theorem lw_p57 : lw_okq (⟨"AgesByMilesModel", "sumTo", "(I)I"⟩, 49) := ⟨⟨by decide +kernel, by decide +kernel⟩, List.mem_of_getElem? (i := 855) (by decide +kernel), List.mem_of_getElem? (i := 1248) (by decide +kernel), List.mem_of_getElem? (i := 1249) (by decide +kernel)⟩
def lw_privs_4 : List (MethodName × Nat) := [(⟨"AgesByMilesModel", "begins", "(I)V"⟩, 49), (⟨"AgesByMilesModel", "lives", "(I)V"⟩, 49), (⟨"AgesByMilesModel", "hasAll", "(Z)V"⟩, 49), (⟨"AgesByMilesModel", "nextPlace", "(Z)I"⟩, 49), (⟨"AgesByMilesModel", "isWorthGoing", "(I)Z"⟩, 49), (⟨"AgesByMilesModel", "findBest", "(I)V"⟩, 49), (⟨"AgesByMilesModel", "noLong", "(I)J"⟩, 49), (⟨"AgesByMilesModel", "allWeights", "()I"⟩, 49), (⟨"AgesByMilesModel", "findMeans", "(II)J"⟩, 49), (⟨"AgesByMilesModel", "sumTo", "(I)I"⟩, 49)]
theorem lw_r4 : ∀ q ∈ lw_privs_4, lw_okq q := List.forall_mem_cons.mpr ⟨lw_p48, List.forall_mem_cons.mpr ⟨lw_p49, List.forall_mem_cons.mpr ⟨lw_p50, List.forall_mem_cons.mpr ⟨lw_p51, List.forall_mem_cons.mpr ⟨lw_p52, List.forall_mem_cons.mpr ⟨lw_p53, List.forall_mem_cons.mpr ⟨lw_p54, List.forall_mem_cons.mpr ⟨lw_p55, List.forall_mem_cons.mpr ⟨lw_p56, List.forall_mem_cons.mpr ⟨lw_p57, fun _ h => absurd h List.not_mem_nil⟩⟩⟩⟩⟩⟩⟩⟩⟩⟩
def lw_privs : List (MethodName × Nat) := lw_privs_1 ++ (lw_privs_2 ++ (lw_privs_3 ++ (lw_privs_4)))
def lw_tbl : List Cond := k2_sels lw_privs ++ tables_1
theorem lw_privs_ok : ∀ q ∈ lw_privs, lw_okq q := by
  show ∀ q ∈ lw_privs_1 ++ (lw_privs_2 ++ (lw_privs_3 ++ (lw_privs_4))), lw_okq q
  exact List.forall_mem_append.mpr ⟨lw_r1, List.forall_mem_append.mpr ⟨lw_r2, List.forall_mem_append.mpr ⟨lw_r3, lw_r4⟩⟩⟩

def RX0 : String := "AgesByMiles$Again"
def TX0 : u_T := fun k => match k with
  | 0 => ("AgesByMiles$Thing", "kind", "I", true)
  | 1 => ("AgesByMiles$Thing", "number", "I", true)
  | 2 => ("AgesByMiles$Thing", "place", "I", true)
  | 3 => ("AgesByMiles$Thing", "worth", "I", true)
  | _ => ("AgesByMiles$Thing", "ask", "I", true)
def tyX0 : Nat → FieldType := fun k => match k with
  | 0 => .int
  | 1 => .int
  | 2 => .int
  | 3 => .int
  | _ => .int
theorem nmX0 : ∀ a, a < 5 → ∀ b, b < 5 → a ≠ b → (TX0 a).2.1 ≠ (TX0 b).2.1 := by decide +kernel
theorem tyX0_ok : ∀ k, k < 5 → parseFieldDescriptor (TX0 k).2.2.1 = some (tyX0 k) := by decide +kernel
abbrev cX0_init : ByteArray := prog_2_method_1_code
def yX0_init : MethodName := ⟨RX0, "<init>", "(IIIII)V"⟩
abbrev cX0_worthThen : ByteArray := prog_2_method_2_code
def yX0_worthThen : MethodName := ⟨RX0, "worthThen", "(II[I)I"⟩
abbrev cX0_isOpen : ByteArray := prog_2_method_3_code
def yX0_isOpen : MethodName := ⟨RX0, "isOpen", "([I)Z"⟩
def RX1 : String := "AgesByMiles$Behind"
def TX1 : u_T := fun k => match k with
  | 0 => ("AgesByMiles$Thing", "kind", "I", true)
  | 1 => ("AgesByMiles$Thing", "number", "I", true)
  | 2 => ("AgesByMiles$Thing", "place", "I", true)
  | 3 => ("AgesByMiles$Thing", "worth", "I", true)
  | _ => ("AgesByMiles$Thing", "ask", "I", true)
def tyX1 : Nat → FieldType := fun k => match k with
  | 0 => .int
  | 1 => .int
  | 2 => .int
  | 3 => .int
  | _ => .int
theorem nmX1 : ∀ a, a < 5 → ∀ b, b < 5 → a ≠ b → (TX1 a).2.1 ≠ (TX1 b).2.1 := by decide +kernel
theorem tyX1_ok : ∀ k, k < 5 → parseFieldDescriptor (TX1 k).2.2.1 = some (tyX1 k) := by decide +kernel
abbrev cX1_init : ByteArray := prog_3_method_1_code
def yX1_init : MethodName := ⟨RX1, "<init>", "(IIIII)V"⟩
abbrev cX1_isOpen : ByteArray := prog_3_method_2_code
def yX1_isOpen : MethodName := ⟨RX1, "isOpen", "([I)Z"⟩
def RX2 : String := "AgesByMiles$GrownOne"
def TX2 : u_T := fun k => match k with
  | 0 => ("AgesByMiles$Thing", "kind", "I", true)
  | 1 => ("AgesByMiles$Thing", "number", "I", true)
  | 2 => ("AgesByMiles$Thing", "place", "I", true)
  | 3 => ("AgesByMiles$Thing", "worth", "I", true)
  | _ => ("AgesByMiles$Thing", "ask", "I", true)
def tyX2 : Nat → FieldType := fun k => match k with
  | 0 => .int
  | 1 => .int
  | 2 => .int
  | 3 => .int
  | _ => .int
theorem nmX2 : ∀ a, a < 5 → ∀ b, b < 5 → a ≠ b → (TX2 a).2.1 ≠ (TX2 b).2.1 := by decide +kernel
theorem tyX2_ok : ∀ k, k < 5 → parseFieldDescriptor (TX2 k).2.2.1 = some (tyX2 k) := by decide +kernel
abbrev cX2_init : ByteArray := prog_4_method_1_code
def yX2_init : MethodName := ⟨RX2, "<init>", "(IIIII)V"⟩
abbrev cX2_worthThen : ByteArray := prog_4_method_2_code
def yX2_worthThen : MethodName := ⟨RX2, "worthThen", "(II[I)I"⟩
def RX3 : String := "AgesByMiles$Late"
def TX3 : u_T := fun k => match k with
  | 0 => ("AgesByMiles$Thing", "kind", "I", true)
  | 1 => ("AgesByMiles$Thing", "number", "I", true)
  | 2 => ("AgesByMiles$Thing", "place", "I", true)
  | 3 => ("AgesByMiles$Thing", "worth", "I", true)
  | _ => ("AgesByMiles$Thing", "ask", "I", true)
def tyX3 : Nat → FieldType := fun k => match k with
  | 0 => .int
  | 1 => .int
  | 2 => .int
  | 3 => .int
  | _ => .int
theorem nmX3 : ∀ a, a < 5 → ∀ b, b < 5 → a ≠ b → (TX3 a).2.1 ≠ (TX3 b).2.1 := by decide +kernel
theorem tyX3_ok : ∀ k, k < 5 → parseFieldDescriptor (TX3 k).2.2.1 = some (tyX3 k) := by decide +kernel
abbrev cX3_init : ByteArray := prog_5_method_1_code
def yX3_init : MethodName := ⟨RX3, "<init>", "(IIIII)V"⟩
abbrev cX3_worthThen : ByteArray := prog_5_method_2_code
def yX3_worthThen : MethodName := ⟨RX3, "worthThen", "(II[I)I"⟩
def RX4 : String := "AgesByMiles$Life"
def TX4 : u_T := fun k => match k with
  | 0 => ("AgesByMiles$Life", "at", "I", false)
  | 1 => ("AgesByMiles$Life", "age", "I", false)
  | 2 => ("AgesByMiles$Life", "worth", "I", false)
  | _ => ("AgesByMiles$Life", "had", "[I", true)
def tyX4 : Nat → FieldType := fun k => match k with
  | 0 => .int
  | 1 => .int
  | 2 => .int
  | _ => .array .int
theorem nmX4 : ∀ a, a < 4 → ∀ b, b < 4 → a ≠ b → (TX4 a).2.1 ≠ (TX4 b).2.1 := by decide +kernel
theorem tyX4_ok : ∀ k, k < 4 → parseFieldDescriptor (TX4 k).2.2.1 = some (tyX4 k) := by decide +kernel
abbrev cX4_init : ByteArray := prog_6_method_1_code
def yX4_init : MethodName := ⟨RX4, "<init>", "()V"⟩
abbrev cX4_begin : ByteArray := prog_6_method_2_code
def yX4_begin : MethodName := ⟨RX4, "begin", "(I)V"⟩
abbrev cX4_copyFrom : ByteArray := prog_6_method_3_code
def yX4_copyFrom : MethodName := ⟨RX4, "copyFrom", "(LAgesByMiles$Life;)V"⟩
abbrev cX4_canCome : ByteArray := prog_6_method_4_code
def yX4_canCome : MethodName := ⟨RX4, "canCome", "(LAgesByMiles$Told;I)Z"⟩
abbrev cX4_come : ByteArray := prog_6_method_5_code
def yX4_come : MethodName := ⟨RX4, "come", "(LAgesByMiles$Told;I)V"⟩
abbrev cX4_mayTake : ByteArray := prog_6_method_6_code
def yX4_mayTake : MethodName := ⟨RX4, "mayTake", "(LAgesByMiles$Told;I)Z"⟩
abbrev cX4_take : ByteArray := prog_6_method_7_code
def yX4_take : MethodName := ⟨RX4, "take", "(LAgesByMiles$Told;I)I"⟩
abbrev cX4_timesHad : ByteArray := prog_6_method_8_code
def yX4_timesHad : MethodName := ⟨RX4, "timesHad", "()I"⟩
def RX5 : String := "AgesByMiles$Lives"
def TX5 : u_T := fun k => match k with
  | 0 => ("AgesByMiles$Lives", "mind", "LAgesByMiles$Life;", true)
  | 1 => ("AgesByMiles$Lives", "row", "[I", true)
  | 2 => ("AgesByMiles$Lives", "bestRow", "[I", true)
  | 3 => ("AgesByMiles$Lives", "bestLength", "I", false)
  | _ => ("AgesByMiles$Lives", "bestWorth", "I", false)
def tyX5 : Nat → FieldType := fun k => match k with
  | 0 => .object "AgesByMiles$Life"
  | 1 => .array .int
  | 2 => .array .int
  | 3 => .int
  | _ => .int
theorem nmX5 : ∀ a, a < 5 → ∀ b, b < 5 → a ≠ b → (TX5 a).2.1 ≠ (TX5 b).2.1 := by decide +kernel
theorem tyX5_ok : ∀ k, k < 5 → parseFieldDescriptor (TX5 k).2.2.1 = some (tyX5 k) := by decide +kernel
abbrev cX5_init : ByteArray := prog_7_method_1_code
def yX5_init : MethodName := ⟨RX5, "<init>", "()V"⟩
abbrev cX5_live : ByteArray := prog_7_method_2_code
def yX5_live : MethodName := ⟨RX5, "live", "(LAgesByMiles$Told;I)LAgesByMiles$Life;"⟩
abbrev cX5_seekThings : ByteArray := prog_7_method_3_code
def yX5_seekThings : MethodName := ⟨RX5, "seekThings", "(LAgesByMiles$Told;I)V"⟩
abbrev cX5_nextPlace : ByteArray := prog_7_method_4_code
def yX5_nextPlace : MethodName := ⟨RX5, "nextPlace", "(LAgesByMiles$Told;I)I"⟩
abbrev cX5_isWorthGoing : ByteArray := prog_7_method_5_code
def yX5_isWorthGoing : MethodName := ⟨RX5, "isWorthGoing", "(LAgesByMiles$Told;II)Z"⟩
abbrev cX5_walkOrder : ByteArray := prog_7_method_6_code
def yX5_walkOrder : MethodName := ⟨RX5, "walkOrder", "(LAgesByMiles$Told;)V"⟩
abbrev cX5_takeWorthy : ByteArray := prog_7_method_7_code
def yX5_takeWorthy : MethodName := ⟨RX5, "takeWorthy", "(LAgesByMiles$Told;)V"⟩
abbrev cX5_takeOpen : ByteArray := prog_7_method_8_code
def yX5_takeOpen : MethodName := ⟨RX5, "takeOpen", "(LAgesByMiles$Told;)V"⟩
abbrev cX5_seekBest : ByteArray := prog_7_method_9_code
def yX5_seekBest : MethodName := ⟨RX5, "seekBest", "(LAgesByMiles$Told;)V"⟩
abbrev cX5_seekHouse : ByteArray := prog_7_method_10_code
def yX5_seekHouse : MethodName := ⟨RX5, "seekHouse", "(LAgesByMiles$Told;)I"⟩
abbrev cX5_seekOn : ByteArray := prog_7_method_11_code
def yX5_seekOn : MethodName := ⟨RX5, "seekOn", "(LAgesByMiles$Told;I)V"⟩
abbrev cX5_seekWith : ByteArray := prog_7_method_12_code
def yX5_seekWith : MethodName := ⟨RX5, "seekWith", "(LAgesByMiles$Told;II)V"⟩
abbrev cX5_mostToCome : ByteArray := prog_7_method_13_code
def yX5_mostToCome : MethodName := ⟨RX5, "mostToCome", "(LAgesByMiles$Told;)I"⟩
abbrev cX5_strayWorth : ByteArray := prog_7_method_14_code
def yX5_strayWorth : MethodName := ⟨RX5, "strayWorth", "(LAgesByMiles$Told;II)I"⟩
abbrev cX5_firstWrong : ByteArray := prog_7_method_15_code
def yX5_firstWrong : MethodName := ⟨RX5, "firstWrong", "(LAgesByMiles$Told;[II)I"⟩
abbrev cX5_firstOld : ByteArray := prog_7_method_16_code
def yX5_firstOld : MethodName := ⟨RX5, "firstOld", "(LAgesByMiles$Told;[II)I"⟩
def RX6 : String := "AgesByMiles$Once"
def TX6 : u_T := fun k => match k with
  | 0 => ("AgesByMiles$Thing", "kind", "I", true)
  | 1 => ("AgesByMiles$Thing", "number", "I", true)
  | 2 => ("AgesByMiles$Thing", "place", "I", true)
  | 3 => ("AgesByMiles$Thing", "worth", "I", true)
  | _ => ("AgesByMiles$Thing", "ask", "I", true)
def tyX6 : Nat → FieldType := fun k => match k with
  | 0 => .int
  | 1 => .int
  | 2 => .int
  | 3 => .int
  | _ => .int
theorem nmX6 : ∀ a, a < 5 → ∀ b, b < 5 → a ≠ b → (TX6 a).2.1 ≠ (TX6 b).2.1 := by decide +kernel
theorem tyX6_ok : ∀ k, k < 5 → parseFieldDescriptor (TX6 k).2.2.1 = some (tyX6 k) := by decide +kernel
abbrev cX6_init : ByteArray := prog_8_method_1_code
def yX6_init : MethodName := ⟨RX6, "<init>", "(IIIII)V"⟩
abbrev cX6_worthThen : ByteArray := prog_8_method_2_code
def yX6_worthThen : MethodName := ⟨RX6, "worthThen", "(II[I)I"⟩
abbrev cX6_isOpen : ByteArray := prog_8_method_3_code
def yX6_isOpen : MethodName := ⟨RX6, "isOpen", "([I)Z"⟩
def RX7 : String := "AgesByMiles$Reader"
def TX7 : u_T := fun k => match k with
  | 0 => ("AgesByMiles$Reader", "text", "[I", false)
  | 1 => ("AgesByMiles$Reader", "length", "I", false)
  | 2 => ("AgesByMiles$Reader", "next", "I", false)
  | 3 => ("AgesByMiles$Reader", "faultAt", "I", false)
  | 4 => ("AgesByMiles$Reader", "kind", "I", false)
  | 5 => ("AgesByMiles$Reader", "first", "I", false)
  | 6 => ("AgesByMiles$Reader", "second", "I", false)
  | _ => ("AgesByMiles$Reader", "third", "I", false)
def tyX7 : Nat → FieldType := fun k => match k with
  | 0 => .array .int
  | 1 => .int
  | 2 => .int
  | 3 => .int
  | 4 => .int
  | 5 => .int
  | 6 => .int
  | _ => .int
theorem nmX7 : ∀ a, a < 8 → ∀ b, b < 8 → a ≠ b → (TX7 a).2.1 ≠ (TX7 b).2.1 := by decide +kernel
theorem tyX7_ok : ∀ k, k < 8 → parseFieldDescriptor (TX7 k).2.2.1 = some (tyX7 k) := by decide +kernel
abbrev cX7_init : ByteArray := prog_9_method_1_code
def yX7_init : MethodName := ⟨RX7, "<init>", "()V"⟩
abbrev cX7_read : ByteArray := prog_9_method_2_code
def yX7_read : MethodName := ⟨RX7, "read", "([IILAgesByMiles$Told;)I"⟩
abbrev cX7_readStatement : ByteArray := prog_9_method_3_code
def yX7_readStatement : MethodName := ⟨RX7, "readStatement", "()I"⟩
abbrev cX7_readSign : ByteArray := prog_9_method_4_code
def yX7_readSign : MethodName := ⟨RX7, "readSign", "(C)V"⟩
abbrev cX7_readKind : ByteArray := prog_9_method_5_code
def yX7_readKind : MethodName := ⟨RX7, "readKind", "()I"⟩
abbrev cX7_readNumber : ByteArray := prog_9_method_6_code
def yX7_readNumber : MethodName := ⟨RX7, "readNumber", "(I)I"⟩
abbrev cX7_readDigit : ByteArray := prog_9_method_7_code
def yX7_readDigit : MethodName := ⟨RX7, "readDigit", "()I"⟩
abbrev cX7_isDigitNext : ByteArray := prog_9_method_8_code
def yX7_isDigitNext : MethodName := ⟨RX7, "isDigitNext", "()Z"⟩
abbrev cX7_fail : ByteArray := prog_9_method_9_code
def yX7_fail : MethodName := ⟨RX7, "fail", "()V"⟩
def RX8 : String := "AgesByMiles$Thing"
def TX8 : u_T := fun k => match k with
  | _ => ("", "", "", false)
def tyX8 : Nat → FieldType := fun k => match k with
  | _ => .int
theorem nmX8 : ∀ a, a < 0 → ∀ b, b < 0 → a ≠ b → (TX8 a).2.1 ≠ (TX8 b).2.1 := by decide +kernel
theorem tyX8_ok : ∀ k, k < 0 → parseFieldDescriptor (TX8 k).2.2.1 = some (tyX8 k) := by decide +kernel
abbrev cX8_init : ByteArray := prog_10_method_1_code
def yX8_init : MethodName := ⟨RX8, "<init>", "(IIIII)V"⟩
def RX9 : String := "AgesByMiles$Told"
def TX9 : u_T := fun k => match k with
  | 0 => ("AgesByMiles$Told", "places", "I", false)
  | 1 => ("AgesByMiles$Told", "wayCount", "I", false)
  | 2 => ("AgesByMiles$Told", "ways", "[I", true)
  | 3 => ("AgesByMiles$Told", "fars", "[I", true)
  | 4 => ("AgesByMiles$Told", "thingCount", "I", false)
  | 5 => ("AgesByMiles$Told", "things", "[LAgesByMiles$Thing;", true)
  | 6 => ("AgesByMiles$Told", "settings", "[I", true)
  | 7 => ("AgesByMiles$Told", "ordered", "I", false)
  | 8 => ("AgesByMiles$Told", "order", "[I", true)
  | 9 => ("AgesByMiles$Told", "weights", "[I", true)
  | 10 => ("AgesByMiles$Told", "pays", "[I", true)
  | 11 => ("AgesByMiles$Told", "people", "I", false)
  | 12 => ("AgesByMiles$Told", "livesAt", "[I", true)
  | 13 => ("AgesByMiles$Told", "gone", "[I", true)
  | _ => ("AgesByMiles$Told", "atHand", "LAgesByMiles$Life;", true)
def tyX9 : Nat → FieldType := fun k => match k with
  | 0 => .int
  | 1 => .int
  | 2 => .array .int
  | 3 => .array .int
  | 4 => .int
  | 5 => .array (.object "AgesByMiles$Thing")
  | 6 => .array .int
  | 7 => .int
  | 8 => .array .int
  | 9 => .array .int
  | 10 => .array .int
  | 11 => .int
  | 12 => .array .int
  | 13 => .array .int
  | _ => .object "AgesByMiles$Life"
theorem nmX9 : ∀ a, a < 15 → ∀ b, b < 15 → a ≠ b → (TX9 a).2.1 ≠ (TX9 b).2.1 := by decide +kernel
theorem tyX9_ok : ∀ k, k < 15 → parseFieldDescriptor (TX9 k).2.2.1 = some (tyX9 k) := by decide +kernel
abbrev cX9_init : ByteArray := prog_11_method_1_code
def yX9_init : MethodName := ⟨RX9, "<init>", "()V"⟩
abbrev cX9_copyFrom : ByteArray := prog_11_method_2_code
def yX9_copyFrom : MethodName := ⟨RX9, "copyFrom", "(LAgesByMiles$Told;)V"⟩
abbrev cX9_isPlace : ByteArray := prog_11_method_3_code
def yX9_isPlace : MethodName := ⟨RX9, "isPlace", "(I)Z"⟩
abbrev cX9_isThing : ByteArray := prog_11_method_4_code
def yX9_isThing : MethodName := ⟨RX9, "isThing", "(I)Z"⟩
abbrev cX9_miles : ByteArray := prog_11_method_5_code
def yX9_miles : MethodName := ⟨RX9, "miles", "(II)I"⟩
abbrev cX9_allWeights : ByteArray := prog_11_method_6_code
def yX9_allWeights : MethodName := ⟨RX9, "allWeights", "()I"⟩
abbrev cX9_tellPlaces : ByteArray := prog_11_method_7_code
def yX9_tellPlaces : MethodName := ⟨RX9, "tellPlaces", "(I)Z"⟩
abbrev cX9_tellWay : ByteArray := prog_11_method_8_code
def yX9_tellWay : MethodName := ⟨RX9, "tellWay", "(III)Z"⟩
abbrev cX9_tellThing : ByteArray := prog_11_method_9_code
def yX9_tellThing : MethodName := ⟨RX9, "tellThing", "(IIII)Z"⟩
abbrev cX9_reckonFar : ByteArray := prog_11_method_10_code
def yX9_reckonFar : MethodName := ⟨RX9, "reckonFar", "()V"⟩
abbrev cX9_placesNeeded : ByteArray := prog_11_method_11_code
def yX9_placesNeeded : MethodName := ⟨RX9, "placesNeeded", "()I"⟩
abbrev cX9_hasWay : ByteArray := prog_11_method_12_code
def yX9_hasWay : MethodName := ⟨RX9, "hasWay", "(I)Z"⟩
abbrev cX9_copyRow : ByteArray := prog_11_method_13_code
def yX9_copyRow : MethodName := ⟨RX9, "copyRow", "([I[I)V"⟩
def RX10 : String := "AgesByMiles$Young"
def TX10 : u_T := fun k => match k with
  | 0 => ("AgesByMiles$Thing", "kind", "I", true)
  | 1 => ("AgesByMiles$Thing", "number", "I", true)
  | 2 => ("AgesByMiles$Thing", "place", "I", true)
  | 3 => ("AgesByMiles$Thing", "worth", "I", true)
  | _ => ("AgesByMiles$Thing", "ask", "I", true)
def tyX10 : Nat → FieldType := fun k => match k with
  | 0 => .int
  | 1 => .int
  | 2 => .int
  | 3 => .int
  | _ => .int
theorem nmX10 : ∀ a, a < 5 → ∀ b, b < 5 → a ≠ b → (TX10 a).2.1 ≠ (TX10 b).2.1 := by decide +kernel
theorem tyX10_ok : ∀ k, k < 5 → parseFieldDescriptor (TX10 k).2.2.1 = some (tyX10 k) := by decide +kernel
abbrev cX10_init : ByteArray := prog_12_method_1_code
def yX10_init : MethodName := ⟨RX10, "<init>", "(IIIII)V"⟩
abbrev cX10_worthThen : ByteArray := prog_12_method_2_code
def yX10_worthThen : MethodName := ⟨RX10, "worthThen", "(II[I)I"⟩
def RX11 : String := "AgesByMiles"
def TX11 : u_T := fun k => match k with
  | 0 => ("AgesByMiles", "told", "LAgesByMiles$Told;", false)
  | 1 => ("AgesByMiles", "draft", "LAgesByMiles$Told;", false)
  | 2 => ("AgesByMiles", "pictured", "LAgesByMiles$Told;", true)
  | 3 => ("AgesByMiles", "isPictured", "Z", false)
  | 4 => ("AgesByMiles", "reader", "LAgesByMiles$Reader;", true)
  | 5 => ("AgesByMiles", "lives", "LAgesByMiles$Lives;", true)
  | 6 => ("AgesByMiles", "tape", "[I", true)
  | 7 => ("AgesByMiles", "taped", "I", false)
  | 8 => ("AgesByMiles", "walk", "[I", true)
  | 9 => ("AgesByMiles", "walked", "I", false)
  | 10 => ("AgesByMiles", "means", "[J", true)
  | 11 => ("AgesByMiles", "steps", "[J", true)
  | _ => ("AgesByMiles", "refusals", "[I", true)
def tyX11 : Nat → FieldType := fun k => match k with
  | 0 => .object "AgesByMiles$Told"
  | 1 => .object "AgesByMiles$Told"
  | 2 => .object "AgesByMiles$Told"
  | 3 => .boolean
  | 4 => .object "AgesByMiles$Reader"
  | 5 => .object "AgesByMiles$Lives"
  | 6 => .array .int
  | 7 => .int
  | 8 => .array .int
  | 9 => .int
  | 10 => .array .long
  | 11 => .array .long
  | _ => .array .int
theorem nmX11 : ∀ a, a < 13 → ∀ b, b < 13 → a ≠ b → (TX11 a).2.1 ≠ (TX11 b).2.1 := by decide +kernel
theorem tyX11_ok : ∀ k, k < 13 → parseFieldDescriptor (TX11 k).2.2.1 = some (tyX11 k) := by decide +kernel
abbrev cX11_init : ByteArray := prog_1_method_1_code
def yX11_init : MethodName := ⟨RX11, "<init>", "()V"⟩
abbrev cX11_feed : ByteArray := prog_1_method_2_code
def yX11_feed : MethodName := ⟨RX11, "feed", "(IJ)I"⟩
abbrev cX11_land : ByteArray := prog_1_method_3_code
def yX11_land : MethodName := ⟨RX11, "land", "()I"⟩
abbrev cX11_far : ByteArray := prog_1_method_4_code
def yX11_far : MethodName := ⟨RX11, "far", "(II)I"⟩
abbrev cX11_thing : ByteArray := prog_1_method_5_code
def yX11_thing : MethodName := ⟨RX11, "thing", "(II)I"⟩
abbrev cX11_set : ByteArray := prog_1_method_6_code
def yX11_set : MethodName := ⟨RX11, "set", "(II)I"⟩
abbrev cX11_go : ByteArray := prog_1_method_7_code
def yX11_go : MethodName := ⟨RX11, "go", "(I)I"⟩
abbrev cX11_have : ByteArray := prog_1_method_8_code
def yX11_have : MethodName := ⟨RX11, "have", "(I)I"⟩
abbrev cX11_worthAt : ByteArray := prog_1_method_9_code
def yX11_worthAt : MethodName := ⟨RX11, "worthAt", "(III)I"⟩
abbrev cX11_may : ByteArray := prog_1_method_10_code
def yX11_may : MethodName := ⟨RX11, "may", "(I)I"⟩
abbrev cX11_life : ByteArray := prog_1_method_11_code
def yX11_life : MethodName := ⟨RX11, "life", "(I)I"⟩
abbrev cX11_nextLife : ByteArray := prog_1_method_12_code
def yX11_nextLife : MethodName := ⟨RX11, "nextLife", "()I"⟩
abbrev cX11_order : ByteArray := prog_1_method_13_code
def yX11_order : MethodName := ⟨RX11, "order", "(IJ)I"⟩
abbrev cX11_lived : ByteArray := prog_1_method_14_code
def yX11_lived : MethodName := ⟨RX11, "lived", "(II)I"⟩
abbrev cX11_best : ByteArray := prog_1_method_15_code
def yX11_best : MethodName := ⟨RX11, "best", "(I)I"⟩
abbrev cX11_house : ByteArray := prog_1_method_16_code
def yX11_house : MethodName := ⟨RX11, "house", "()I"⟩
abbrev cX11_call : ByteArray := prog_1_method_17_code
def yX11_call : MethodName := ⟨RX11, "call", "(III)I"⟩
abbrev cX11_calls : ByteArray := prog_1_method_18_code
def yX11_calls : MethodName := ⟨RX11, "calls", "(III)J"⟩
abbrev cX11_goes : ByteArray := prog_1_method_19_code
def yX11_goes : MethodName := ⟨RX11, "goes", "(III)I"⟩
abbrev cX11_together : ByteArray := prog_1_method_20_code
def yX11_together : MethodName := ⟨RX11, "together", "(II)I"⟩
abbrev cX11_child : ByteArray := prog_1_method_21_code
def yX11_child : MethodName := ⟨RX11, "child", "(III)I"⟩
abbrev cX11_person : ByteArray := prog_1_method_22_code
def yX11_person : MethodName := ⟨RX11, "person", "(II)I"⟩
abbrev cX11_send : ByteArray := prog_1_method_23_code
def yX11_send : MethodName := ⟨RX11, "send", "(II)I"⟩
abbrev cX11_wells : ByteArray := prog_1_method_24_code
def yX11_wells : MethodName := ⟨RX11, "wells", "(I)I"⟩
abbrev cX11_many : ByteArray := prog_1_method_25_code
def yX11_many : MethodName := ⟨RX11, "many", "(IIII)J"⟩
abbrev cX11_stray : ByteArray := prog_1_method_26_code
def yX11_stray : MethodName := ⟨RX11, "stray", "(II)I"⟩
abbrev cX11_row : ByteArray := prog_1_method_27_code
def yX11_row : MethodName := ⟨RX11, "row", "(I)I"⟩
abbrev cX11_judge : ByteArray := prog_1_method_28_code
def yX11_judge : MethodName := ⟨RX11, "judge", "(I)I"⟩
abbrev cX11_image : ByteArray := prog_1_method_29_code
def yX11_image : MethodName := ⟨RX11, "image", "()I"⟩
abbrev cX11_on : ByteArray := prog_1_method_30_code
def yX11_on : MethodName := ⟨RX11, "on", "()I"⟩
abbrev cX11_count : ByteArray := prog_1_method_31_code
def yX11_count : MethodName := ⟨RX11, "count", "(I)I"⟩
abbrev cX11_refuse : ByteArray := prog_1_method_32_code
def yX11_refuse : MethodName := ⟨RX11, "refuse", "(I)I"⟩
abbrev cX11_refuseLong : ByteArray := prog_1_method_33_code
def yX11_refuseLong : MethodName := ⟨RX11, "refuseLong", "(I)J"⟩
abbrev cX11_areDigitsPlaces : ByteArray := prog_1_method_34_code
def yX11_areDigitsPlaces : MethodName := ⟨RX11, "areDigitsPlaces", "(IJ)Z"⟩
abbrev cX11_fillMeans : ByteArray := prog_1_method_35_code
def yX11_fillMeans : MethodName := ⟨RX11, "fillMeans", "(II)J"⟩
abbrev cX11_oneCallMore : ByteArray := prog_1_method_36_code
def yX11_oneCallMore : MethodName := ⟨RX11, "oneCallMore", "(IJ)J"⟩
abbrev cX11_commonDivisor : ByteArray := prog_1_method_37_code
def yX11_commonDivisor : MethodName := ⟨RX11, "commonDivisor", "(JJ)J"⟩
abbrev cX11_costOfSending : ByteArray := prog_1_method_38_code
def yX11_costOfSending : MethodName := ⟨RX11, "costOfSending", "(II)I"⟩
abbrev cX11_sumToWells : ByteArray := prog_1_method_39_code
def yX11_sumToWells : MethodName := ⟨RX11, "sumToWells", "(I)I"⟩
def RX12 : String := "AgesByMilesModel"
def TX12 : u_T := fun k => match k with
  | 0 => ("AgesByMilesModel", "refused", "[I", true)
  | 1 => ("AgesByMilesModel", "wayA", "[I", true)
  | 2 => ("AgesByMilesModel", "wayB", "[I", true)
  | 3 => ("AgesByMilesModel", "wayMiles", "[I", true)
  | 4 => ("AgesByMilesModel", "kind", "[I", true)
  | 5 => ("AgesByMilesModel", "placeOf", "[I", true)
  | 6 => ("AgesByMilesModel", "worth", "[I", true)
  | 7 => ("AgesByMilesModel", "ask", "[I", true)
  | 8 => ("AgesByMilesModel", "set", "[I", true)
  | 9 => ("AgesByMilesModel", "weight", "[I", true)
  | 10 => ("AgesByMilesModel", "pay", "[I", true)
  | 11 => ("AgesByMilesModel", "personAt", "[I", true)
  | 12 => ("AgesByMilesModel", "personGone", "[I", true)
  | 13 => ("AgesByMilesModel", "order", "[I", true)
  | 14 => ("AgesByMilesModel", "places", "I", false)
  | 15 => ("AgesByMilesModel", "ways", "I", false)
  | 16 => ("AgesByMilesModel", "things", "I", false)
  | 17 => ("AgesByMilesModel", "people", "I", false)
  | 18 => ("AgesByMilesModel", "ordered", "I", false)
  | 19 => ("AgesByMilesModel", "dist", "[I", true)
  | 20 => ("AgesByMilesModel", "tape", "[I", true)
  | 21 => ("AgesByMilesModel", "letter", "[I", true)
  | 22 => ("AgesByMilesModel", "letterAt", "[I", true)
  | 23 => ("AgesByMilesModel", "first", "[I", true)
  | 24 => ("AgesByMilesModel", "second", "[I", true)
  | 25 => ("AgesByMilesModel", "third", "[I", true)
  | 26 => ("AgesByMilesModel", "fourth", "[I", true)
  | 27 => ("AgesByMilesModel", "taped", "I", false)
  | 28 => ("AgesByMilesModel", "at", "I", false)
  | 29 => ("AgesByMilesModel", "statements", "I", false)
  | 30 => ("AgesByMilesModel", "kept", "[I", true)
  | 31 => ("AgesByMilesModel", "hasImage", "Z", false)
  | 32 => ("AgesByMilesModel", "isKeeping", "Z", false)
  | 33 => ("AgesByMilesModel", "cursor", "I", false)
  | 34 => ("AgesByMilesModel", "had", "[I", true)
  | 35 => ("AgesByMilesModel", "lifeAt", "I", false)
  | 36 => ("AgesByMilesModel", "lifeAge", "I", false)
  | 37 => ("AgesByMilesModel", "lifeWorth", "I", false)
  | 38 => ("AgesByMilesModel", "row7", "[I", true)
  | 39 => ("AgesByMilesModel", "best7", "[I", true)
  | 40 => ("AgesByMilesModel", "ageAt", "[I", true)
  | 41 => ("AgesByMilesModel", "worthUpTo", "[I", true)
  | 42 => ("AgesByMilesModel", "spotAt", "[I", true)
  | 43 => ("AgesByMilesModel", "bestMany", "I", false)
  | 44 => ("AgesByMilesModel", "bestWorth", "I", false)
  | 45 => ("AgesByMilesModel", "mean", "[J", true)
  | 46 => ("AgesByMilesModel", "count", "[J", true)
  | 47 => ("AgesByMilesModel", "row", "[I", true)
  | _ => ("AgesByMilesModel", "rowMany", "I", false)
def tyX12 : Nat → FieldType := fun k => match k with
  | 0 => .array .int
  | 1 => .array .int
  | 2 => .array .int
  | 3 => .array .int
  | 4 => .array .int
  | 5 => .array .int
  | 6 => .array .int
  | 7 => .array .int
  | 8 => .array .int
  | 9 => .array .int
  | 10 => .array .int
  | 11 => .array .int
  | 12 => .array .int
  | 13 => .array .int
  | 14 => .int
  | 15 => .int
  | 16 => .int
  | 17 => .int
  | 18 => .int
  | 19 => .array .int
  | 20 => .array .int
  | 21 => .array .int
  | 22 => .array .int
  | 23 => .array .int
  | 24 => .array .int
  | 25 => .array .int
  | 26 => .array .int
  | 27 => .int
  | 28 => .int
  | 29 => .int
  | 30 => .array .int
  | 31 => .boolean
  | 32 => .boolean
  | 33 => .int
  | 34 => .array .int
  | 35 => .int
  | 36 => .int
  | 37 => .int
  | 38 => .array .int
  | 39 => .array .int
  | 40 => .array .int
  | 41 => .array .int
  | 42 => .array .int
  | 43 => .int
  | 44 => .int
  | 45 => .array .long
  | 46 => .array .long
  | 47 => .array .int
  | _ => .int
theorem nmX12 : ∀ a, a < 49 → ∀ b, b < 49 → a ≠ b → (TX12 a).2.1 ≠ (TX12 b).2.1 := by decide +kernel
theorem tyX12_ok : ∀ k, k < 49 → parseFieldDescriptor (TX12 k).2.2.1 = some (tyX12 k) := by decide +kernel
abbrev cX12_init : ByteArray := prog_14_method_1_code
def yX12_init : MethodName := ⟨RX12, "<init>", "()V"⟩
abbrev cX12_no : ByteArray := prog_14_method_2_code
def yX12_no : MethodName := ⟨RX12, "no", "(I)I"⟩
abbrev cX12_noLong : ByteArray := prog_14_method_3_code
def yX12_noLong : MethodName := ⟨RX12, "noLong", "(I)J"⟩
abbrev cX12_isIn : ByteArray := prog_14_method_4_code
def yX12_isIn : MethodName := ⟨RX12, "isIn", "(III)Z"⟩
abbrev cX12_bound : ByteArray := prog_14_method_5_code
def yX12_bound : MethodName := ⟨RX12, "bound", "(III)I"⟩
abbrev cX12_isPlace : ByteArray := prog_14_method_6_code
def yX12_isPlace : MethodName := ⟨RX12, "isPlace", "(I)Z"⟩
abbrev cX12_isThing : ByteArray := prog_14_method_7_code
def yX12_isThing : MethodName := ⟨RX12, "isThing", "(I)Z"⟩
abbrev cX12_findFar : ByteArray := prog_14_method_8_code
def yX12_findFar : MethodName := ⟨RX12, "findFar", "()V"⟩
abbrev cX12_farOf : ByteArray := prog_14_method_9_code
def yX12_farOf : MethodName := ⟨RX12, "farOf", "(II)I"⟩
abbrev cX12_feed : ByteArray := prog_14_method_10_code
def yX12_feed : MethodName := ⟨RX12, "feed", "(IJ)I"⟩
abbrev cX12_nextByte : ByteArray := prog_14_method_11_code
def yX12_nextByte : MethodName := ⟨RX12, "nextByte", "()I"⟩
abbrev cX12_isNext : ByteArray := prog_14_method_12_code
def yX12_isNext : MethodName := ⟨RX12, "isNext", "(I)Z"⟩
abbrev cX12_number : ByteArray := prog_14_method_13_code
def yX12_number : MethodName := ⟨RX12, "number", "(I)I"⟩
abbrev cX12_kindOf : ByteArray := prog_14_method_14_code
def yX12_kindOf : MethodName := ⟨RX12, "kindOf", "(I)I"⟩
abbrev cX12_readsWay : ByteArray := prog_14_method_15_code
def yX12_readsWay : MethodName := ⟨RX12, "readsWay", "(I)Z"⟩
abbrev cX12_readsThing : ByteArray := prog_14_method_16_code
def yX12_readsThing : MethodName := ⟨RX12, "readsThing", "(I)Z"⟩
abbrev cX12_statement : ByteArray := prog_14_method_17_code
def yX12_statement : MethodName := ⟨RX12, "statement", "()Z"⟩
abbrev cX12_toldPlaces : ByteArray := prog_14_method_18_code
def yX12_toldPlaces : MethodName := ⟨RX12, "toldPlaces", "()I"⟩
abbrev cX12_comesWay : ByteArray := prog_14_method_19_code
def yX12_comesWay : MethodName := ⟨RX12, "comesWay", "(III)Z"⟩
abbrev cX12_comes : ByteArray := prog_14_method_20_code
def yX12_comes : MethodName := ⟨RX12, "comes", "(I)Z"⟩
abbrev cX12_land : ByteArray := prog_14_method_21_code
def yX12_land : MethodName := ⟨RX12, "land", "()I"⟩
abbrev cX12_passes : ByteArray := prog_14_method_22_code
def yX12_passes : MethodName := ⟨RX12, "passes", "([I)V"⟩
abbrev cX12_passOne : ByteArray := prog_14_method_23_code
def yX12_passOne : MethodName := ⟨RX12, "passOne", "(I)I"⟩
abbrev cX12_passesAll : ByteArray := prog_14_method_24_code
def yX12_passesAll : MethodName := ⟨RX12, "passesAll", "(IZ)V"⟩
abbrev cX12_far : ByteArray := prog_14_method_25_code
def yX12_far : MethodName := ⟨RX12, "far", "(II)I"⟩
abbrev cX12_worthOf : ByteArray := prog_14_method_26_code
def yX12_worthOf : MethodName := ⟨RX12, "worthOf", "(III)I"⟩
abbrev cX12_mayBe : ByteArray := prog_14_method_27_code
def yX12_mayBe : MethodName := ⟨RX12, "mayBe", "(II)Z"⟩
abbrev cX12_mayHave : ByteArray := prog_14_method_28_code
def yX12_mayHave : MethodName := ⟨RX12, "mayHave", "(I)Z"⟩
abbrev cX12_hasIt : ByteArray := prog_14_method_29_code
def yX12_hasIt : MethodName := ⟨RX12, "hasIt", "(I)I"⟩
abbrev cX12_begins : ByteArray := prog_14_method_30_code
def yX12_begins : MethodName := ⟨RX12, "begins", "(I)V"⟩
abbrev cX12_mayGo : ByteArray := prog_14_method_31_code
def yX12_mayGo : MethodName := ⟨RX12, "mayGo", "(I)Z"⟩
abbrev cX12_goesTo : ByteArray := prog_14_method_32_code
def yX12_goesTo : MethodName := ⟨RX12, "goesTo", "(I)V"⟩
abbrev cX12_thing : ByteArray := prog_14_method_33_code
def yX12_thing : MethodName := ⟨RX12, "thing", "(II)I"⟩
abbrev cX12_set : ByteArray := prog_14_method_34_code
def yX12_set : MethodName := ⟨RX12, "set", "(II)I"⟩
abbrev cX12_go : ByteArray := prog_14_method_35_code
def yX12_go : MethodName := ⟨RX12, "go", "(I)I"⟩
abbrev cX12_have : ByteArray := prog_14_method_36_code
def yX12_have : MethodName := ⟨RX12, "have", "(I)I"⟩
abbrev cX12_worthAt : ByteArray := prog_14_method_37_code
def yX12_worthAt : MethodName := ⟨RX12, "worthAt", "(III)I"⟩
abbrev cX12_may : ByteArray := prog_14_method_38_code
def yX12_may : MethodName := ⟨RX12, "may", "(I)I"⟩
abbrev cX12_life : ByteArray := prog_14_method_39_code
def yX12_life : MethodName := ⟨RX12, "life", "(I)I"⟩
abbrev cX12_nextLife : ByteArray := prog_14_method_40_code
def yX12_nextLife : MethodName := ⟨RX12, "nextLife", "()I"⟩
abbrev cX12_order : ByteArray := prog_14_method_41_code
def yX12_order : MethodName := ⟨RX12, "order", "(IJ)I"⟩
abbrev cX12_hasAll : ByteArray := prog_14_method_42_code
def yX12_hasAll : MethodName := ⟨RX12, "hasAll", "(Z)V"⟩
abbrev cX12_isWorthGoing : ByteArray := prog_14_method_43_code
def yX12_isWorthGoing : MethodName := ⟨RX12, "isWorthGoing", "(I)Z"⟩
abbrev cX12_nextPlace : ByteArray := prog_14_method_44_code
def yX12_nextPlace : MethodName := ⟨RX12, "nextPlace", "(Z)I"⟩
abbrev cX12_lives : ByteArray := prog_14_method_45_code
def yX12_lives : MethodName := ⟨RX12, "lives", "(I)V"⟩
abbrev cX12_lived : ByteArray := prog_14_method_46_code
def yX12_lived : MethodName := ⟨RX12, "lived", "(II)I"⟩
abbrev cX12_findBest : ByteArray := prog_14_method_47_code
def yX12_findBest : MethodName := ⟨RX12, "findBest", "(I)V"⟩
abbrev cX12_best : ByteArray := prog_14_method_48_code
def yX12_best : MethodName := ⟨RX12, "best", "(I)I"⟩
abbrev cX12_house : ByteArray := prog_14_method_49_code
def yX12_house : MethodName := ⟨RX12, "house", "()I"⟩
abbrev cX12_call : ByteArray := prog_14_method_50_code
def yX12_call : MethodName := ⟨RX12, "call", "(III)I"⟩
abbrev cX12_allWeights : ByteArray := prog_14_method_51_code
def yX12_allWeights : MethodName := ⟨RX12, "allWeights", "()I"⟩
abbrev cX12_findMeans : ByteArray := prog_14_method_52_code
def yX12_findMeans : MethodName := ⟨RX12, "findMeans", "(II)J"⟩
abbrev cX12_divisor : ByteArray := prog_14_method_53_code
def yX12_divisor : MethodName := ⟨RX12, "divisor", "(JJ)J"⟩
abbrev cX12_calls : ByteArray := prog_14_method_54_code
def yX12_calls : MethodName := ⟨RX12, "calls", "(III)J"⟩
abbrev cX12_goes : ByteArray := prog_14_method_55_code
def yX12_goes : MethodName := ⟨RX12, "goes", "(III)I"⟩
abbrev cX12_together : ByteArray := prog_14_method_56_code
def yX12_together : MethodName := ⟨RX12, "together", "(II)I"⟩
abbrev cX12_child : ByteArray := prog_14_method_57_code
def yX12_child : MethodName := ⟨RX12, "child", "(III)I"⟩
abbrev cX12_person : ByteArray := prog_14_method_58_code
def yX12_person : MethodName := ⟨RX12, "person", "(II)I"⟩
abbrev cX12_send : ByteArray := prog_14_method_59_code
def yX12_send : MethodName := ⟨RX12, "send", "(II)I"⟩
abbrev cX12_bits : ByteArray := prog_14_method_60_code
def yX12_bits : MethodName := ⟨RX12, "bits", "(I)I"⟩
abbrev cX12_sumTo : ByteArray := prog_14_method_61_code
def yX12_sumTo : MethodName := ⟨RX12, "sumTo", "(I)I"⟩
abbrev cX12_wells : ByteArray := prog_14_method_62_code
def yX12_wells : MethodName := ⟨RX12, "wells", "(I)I"⟩
abbrev cX12_many : ByteArray := prog_14_method_63_code
def yX12_many : MethodName := ⟨RX12, "many", "(IIII)J"⟩
abbrev cX12_stray : ByteArray := prog_14_method_64_code
def yX12_stray : MethodName := ⟨RX12, "stray", "(II)I"⟩
abbrev cX12_row : ByteArray := prog_14_method_65_code
def yX12_row : MethodName := ⟨RX12, "row", "(I)I"⟩
abbrev cX12_judge : ByteArray := prog_14_method_66_code
def yX12_judge : MethodName := ⟨RX12, "judge", "(I)I"⟩
abbrev cX12_image : ByteArray := prog_14_method_67_code
def yX12_image : MethodName := ⟨RX12, "image", "()I"⟩
abbrev cX12_on : ByteArray := prog_14_method_68_code
def yX12_on : MethodName := ⟨RX12, "on", "()I"⟩
abbrev cX12_count : ByteArray := prog_14_method_69_code
def yX12_count : MethodName := ⟨RX12, "count", "(I)I"⟩
def RJx145de : String := "java/io/Serializable"
def TJx145de : u_T := fun k => match k with
  | _ => ("", "", "", false)
def tyJx145de : Nat → FieldType := fun k => match k with
  | _ => .int
theorem nmJx145de : ∀ a, a < 0 → ∀ b, b < 0 → a ≠ b → (TJx145de a).2.1 ≠ (TJx145de b).2.1 := by decide +kernel
theorem tyJx145de_ok : ∀ k, k < 0 → parseFieldDescriptor (TJx145de k).2.2.1 = some (tyJx145de k) := by decide +kernel
def RJx9f9b0 : String := "java/lang/CharSequence"
def TJx9f9b0 : u_T := fun k => match k with
  | _ => ("", "", "", false)
def tyJx9f9b0 : Nat → FieldType := fun k => match k with
  | _ => .int
theorem nmJx9f9b0 : ∀ a, a < 0 → ∀ b, b < 0 → a ≠ b → (TJx9f9b0 a).2.1 ≠ (TJx9f9b0 b).2.1 := by decide +kernel
theorem tyJx9f9b0_ok : ∀ k, k < 0 → parseFieldDescriptor (TJx9f9b0 k).2.2.1 = some (tyJx9f9b0 k) := by decide +kernel
def RJ11 : String := "java/lang/Character"
def TJ11 : u_T := fun k => match k with
  | _ => ("", "", "", false)
def tyJ11 : Nat → FieldType := fun k => match k with
  | _ => .int
theorem nmJ11 : ∀ a, a < 0 → ∀ b, b < 0 → a ≠ b → (TJ11 a).2.1 ≠ (TJ11 b).2.1 := by decide +kernel
theorem tyJ11_ok : ∀ k, k < 0 → parseFieldDescriptor (TJ11 k).2.2.1 = some (tyJ11 k) := by decide +kernel
abbrev cJ11_isValidCodePoint_9a6ad : ByteArray := prog_15_method_11_code
def yJ11_isValidCodePoint_9a6ad : MethodName := ⟨RJ11, "isValidCodePoint", "(I)Z"⟩
abbrev cJ11_highSurrogate_5068e : ByteArray := prog_15_method_28_code
def yJ11_highSurrogate_5068e : MethodName := ⟨RJ11, "highSurrogate", "(I)C"⟩
abbrev cJ11_lowSurrogate_5068e : ByteArray := prog_15_method_29_code
def yJ11_lowSurrogate_5068e : MethodName := ⟨RJ11, "lowSurrogate", "(I)C"⟩
def RJxb160c : String := "java/lang/Comparable"
def TJxb160c : u_T := fun k => match k with
  | _ => ("", "", "", false)
def tyJxb160c : Nat → FieldType := fun k => match k with
  | _ => .int
theorem nmJxb160c : ∀ a, a < 0 → ∀ b, b < 0 → a ≠ b → (TJxb160c a).2.1 ≠ (TJxb160c b).2.1 := by decide +kernel
theorem tyJxb160c_ok : ∀ k, k < 0 → parseFieldDescriptor (TJxb160c k).2.2.1 = some (tyJxb160c k) := by decide +kernel
def RJ6 : String := "java/lang/Integer"
def TJ6 : u_T := fun k => match k with
  | _ => ("", "", "", false)
def tyJ6 : Nat → FieldType := fun k => match k with
  | _ => .int
theorem nmJ6 : ∀ a, a < 0 → ∀ b, b < 0 → a ≠ b → (TJ6 a).2.1 ≠ (TJ6 b).2.1 := by decide +kernel
theorem tyJ6_ok : ∀ k, k < 0 → parseFieldDescriptor (TJ6 k).2.2.1 = some (tyJ6 k) := by decide +kernel
abbrev cJ6_bitCount_0f7a4 : ByteArray := prog_16_method_49_code
def yJ6_bitCount_0f7a4 : MethodName := ⟨RJ6, "bitCount", "(I)I"⟩
def RJ9 : String := "java/lang/Math"
def TJ9 : u_T := fun k => match k with
  | _ => ("", "", "", false)
def tyJ9 : Nat → FieldType := fun k => match k with
  | _ => .int
theorem nmJ9 : ∀ a, a < 0 → ∀ b, b < 0 → a ≠ b → (TJ9 a).2.1 ≠ (TJ9 b).2.1 := by decide +kernel
theorem tyJ9_ok : ∀ k, k < 0 → parseFieldDescriptor (TJ9 k).2.2.1 = some (tyJ9 k) := by decide +kernel
abbrev cJ9_max_7cf53 : ByteArray := prog_17_method_65_code
def yJ9_max_7cf53 : MethodName := ⟨RJ9, "max", "(II)I"⟩
abbrev cJ9_max_f86c9 : ByteArray := prog_17_method_66_code
def yJ9_max_f86c9 : MethodName := ⟨RJ9, "max", "(JJ)J"⟩
abbrev cJ9_min_7cf53 : ByteArray := prog_17_method_69_code
def yJ9_min_7cf53 : MethodName := ⟨RJ9, "min", "(II)I"⟩
def RJ0 : String := "java/lang/String"
def TJ0 : u_T := fun k => match k with
  | _ => ("", "", "", false)
def tyJ0 : Nat → FieldType := fun k => match k with
  | _ => .int
theorem nmJ0 : ∀ a, a < 0 → ∀ b, b < 0 → a ≠ b → (TJ0 a).2.1 ≠ (TJ0 b).2.1 := by decide +kernel
theorem tyJ0_ok : ∀ k, k < 0 → parseFieldDescriptor (TJ0 k).2.2.1 = some (tyJ0 k) := by decide +kernel
abbrev cJ0_length_8abf5 : ByteArray := prog_18_method_54_code
def yJ0_length_8abf5 : MethodName := ⟨RJ0, "length", "()I"⟩
abbrev cJ0_charAt_5068e : ByteArray := prog_18_method_56_code
def yJ0_charAt_5068e : MethodName := ⟨RJ0, "charAt", "(I)C"⟩
abbrev cJ0_indexOf_0f7a4 : ByteArray := prog_18_method_79_code
def yJ0_indexOf_0f7a4 : MethodName := ⟨RJ0, "indexOf", "(I)I"⟩
abbrev cJ0_indexOf_7cf53 : ByteArray := prog_18_method_80_code
def yJ0_indexOf_7cf53 : MethodName := ⟨RJ0, "indexOf", "(II)I"⟩
abbrev cJ0_coder_7d493 : ByteArray := prog_18_method_152_code
def yJ0_coder_7d493 : MethodName := ⟨RJ0, "coder", "()B"⟩
abbrev cJ0_isLatin1_aae02 : ByteArray := prog_18_method_154_code
def yJ0_isLatin1_aae02 : MethodName := ⟨RJ0, "isLatin1", "()Z"⟩
abbrev cJ0_checkIndex_df160 : ByteArray := prog_18_method_155_code
def yJ0_checkIndex_df160 : MethodName := ⟨RJ0, "checkIndex", "(II)V"⟩
abbrev cJ0_checkBoundsBeginEnd_23922 : ByteArray := prog_18_method_158_code
def yJ0_checkBoundsBeginEnd_23922 : MethodName := ⟨RJ0, "checkBoundsBeginEnd", "(III)V"⟩
def RJ1 : String := "java/lang/StringLatin1"
def TJ1 : u_T := fun k => match k with
  | _ => ("", "", "", false)
def tyJ1 : Nat → FieldType := fun k => match k with
  | _ => .int
theorem nmJ1 : ∀ a, a < 0 → ∀ b, b < 0 → a ≠ b → (TJ1 a).2.1 ≠ (TJ1 b).2.1 := by decide +kernel
theorem tyJ1_ok : ∀ k, k < 0 → parseFieldDescriptor (TJ1 k).2.2.1 = some (tyJ1 k) := by decide +kernel
abbrev cJ1_charAt_3b067 : ByteArray := prog_19_method_2_code
def yJ1_charAt_3b067 : MethodName := ⟨RJ1, "charAt", "([BI)C"⟩
abbrev cJ1_canEncode_9a6ad : ByteArray := prog_19_method_4_code
def yJ1_canEncode_9a6ad : MethodName := ⟨RJ1, "canEncode", "(I)Z"⟩
abbrev cJ1_indexOf_4cfef : ByteArray := prog_19_method_22_code
def yJ1_indexOf_4cfef : MethodName := ⟨RJ1, "indexOf", "([BIII)I"⟩
abbrev cJ1_indexOfChar_4cfef : ByteArray := prog_19_method_23_code
def yJ1_indexOfChar_4cfef : MethodName := ⟨RJ1, "indexOfChar", "([BIII)I"⟩
def RJ2 : String := "java/lang/StringUTF16"
def TJ2 : u_T := fun k => match k with
  | _ => ("", "", "", false)
def tyJ2 : Nat → FieldType := fun k => match k with
  | _ => .int
theorem nmJ2 : ∀ a, a < 0 → ∀ b, b < 0 → a ≠ b → (TJ2 a).2.1 ≠ (TJ2 b).2.1 := by decide +kernel
theorem tyJ2_ok : ∀ k, k < 0 → parseFieldDescriptor (TJ2 k).2.2.1 = some (tyJ2 k) := by decide +kernel
abbrev cJ2_getChar_3b067 : ByteArray := prog_20_method_5_code
def yJ2_getChar_3b067 : MethodName := ⟨RJ2, "getChar", "([BI)C"⟩
abbrev cJ2_length_9d52b : ByteArray := prog_20_method_6_code
def yJ2_length_9d52b : MethodName := ⟨RJ2, "length", "([B)I"⟩
abbrev cJ2_indexOf_4cfef : ByteArray := prog_20_method_40_code
def yJ2_indexOf_4cfef : MethodName := ⟨RJ2, "indexOf", "([BIII)I"⟩
abbrev cJ2_indexOfChar_4cfef : ByteArray := prog_20_method_47_code
def yJ2_indexOfChar_4cfef : MethodName := ⟨RJ2, "indexOfChar", "([BIII)I"⟩
abbrev cJ2_indexOfCharUnsafe_4cfef : ByteArray := prog_20_method_48_code
def yJ2_indexOfCharUnsafe_4cfef : MethodName := ⟨RJ2, "indexOfCharUnsafe", "([BIII)I"⟩
abbrev cJ2_indexOfSupplementary_4cfef : ByteArray := prog_20_method_49_code
def yJ2_indexOfSupplementary_4cfef : MethodName := ⟨RJ2, "indexOfSupplementary", "([BIII)I"⟩
abbrev cJ2_charAt_3b067 : ByteArray := prog_20_method_83_code
def yJ2_charAt_3b067 : MethodName := ⟨RJ2, "charAt", "([BI)C"⟩
abbrev cJ2_checkIndex_2214a : ByteArray := prog_20_method_91_code
def yJ2_checkIndex_2214a : MethodName := ⟨RJ2, "checkIndex", "(I[B)V"⟩
abbrev cJ2_checkBoundsBeginEnd_d044e : ByteArray := prog_20_method_93_code
def yJ2_checkBoundsBeginEnd_d044e : MethodName := ⟨RJ2, "checkBoundsBeginEnd", "(II[B)V"⟩
def RJ10 : String := "java/lang/System"
def TJ10 : u_T := fun k => match k with
  | _ => ("", "", "", false)
def tyJ10 : Nat → FieldType := fun k => match k with
  | _ => .int
theorem nmJ10 : ∀ a, a < 0 → ∀ b, b < 0 → a ≠ b → (TJ10 a).2.1 ≠ (TJ10 b).2.1 := by decide +kernel
theorem tyJ10_ok : ∀ k, k < 0 → parseFieldDescriptor (TJ10 k).2.2.1 = some (tyJ10 k) := by decide +kernel
def RJxfd54e : String := "java/lang/constant/Constable"
def TJxfd54e : u_T := fun k => match k with
  | _ => ("", "", "", false)
def tyJxfd54e : Nat → FieldType := fun k => match k with
  | _ => .int
theorem nmJxfd54e : ∀ a, a < 0 → ∀ b, b < 0 → a ≠ b → (TJxfd54e a).2.1 ≠ (TJxfd54e b).2.1 := by decide +kernel
theorem tyJxfd54e_ok : ∀ k, k < 0 → parseFieldDescriptor (TJxfd54e k).2.2.1 = some (tyJxfd54e k) := by decide +kernel
def RJx3cf43 : String := "java/lang/constant/ConstantDesc"
def TJx3cf43 : u_T := fun k => match k with
  | _ => ("", "", "", false)
def tyJx3cf43 : Nat → FieldType := fun k => match k with
  | _ => .int
theorem nmJx3cf43 : ∀ a, a < 0 → ∀ b, b < 0 → a ≠ b → (TJx3cf43 a).2.1 ≠ (TJx3cf43 b).2.1 := by decide +kernel
theorem tyJx3cf43_ok : ∀ k, k < 0 → parseFieldDescriptor (TJx3cf43 k).2.2.1 = some (tyJx3cf43 k) := by decide +kernel
def RJ7 : String := "java/util/Arrays"
def TJ7 : u_T := fun k => match k with
  | _ => ("", "", "", false)
def tyJ7 : Nat → FieldType := fun k => match k with
  | _ => .int
theorem nmJ7 : ∀ a, a < 0 → ∀ b, b < 0 → a ≠ b → (TJ7 a).2.1 ≠ (TJ7 b).2.1 := by decide +kernel
theorem tyJ7_ok : ∀ k, k < 0 → parseFieldDescriptor (TJ7 k).2.2.1 = some (tyJ7 k) := by decide +kernel
abbrev cJ7_fill_d0a16 : ByteArray := prog_22_method_101_code
def yJ7_fill_d0a16 : MethodName := ⟨RJ7, "fill", "([JJ)V"⟩
abbrev cJ7_fill_53178 : ByteArray := prog_22_method_103_code
def yJ7_fill_53178 : MethodName := ⟨RJ7, "fill", "([II)V"⟩
def RJ3 : String := "jdk/internal/util/Preconditions"
def TJ3 : u_T := fun k => match k with
  | _ => ("", "", "", false)
def tyJ3 : Nat → FieldType := fun k => match k with
  | _ => .int
theorem nmJ3 : ∀ a, a < 0 → ∀ b, b < 0 → a ≠ b → (TJ3 a).2.1 ≠ (TJ3 b).2.1 := by decide +kernel
theorem tyJ3_ok : ∀ k, k < 0 → parseFieldDescriptor (TJ3 k).2.2.1 = some (tyJ3 k) := by decide +kernel
abbrev cJ3_checkIndex_8e157 : ByteArray := prog_23_method_11_code
def yJ3_checkIndex_8e157 : MethodName := ⟨RJ3, "checkIndex", "(IILjava/util/function/BiFunction;)I"⟩
abbrev cJ3_checkFromToIndex_8c36e : ByteArray := prog_23_method_12_code
def yJ3_checkFromToIndex_8c36e : MethodName := ⟨RJ3, "checkFromToIndex", "(IIILjava/util/function/BiFunction;)I"⟩
def RL : String := "AgesByMilesLaw"
abbrev cL_law : ByteArray := code
def yL_law : MethodName := ⟨RL, "law", "([I)Z"⟩
abbrev vwCl : List vw_C := [(RX0, TX0, 5), (RX1, TX1, 5), (RX2, TX2, 5), (RX3, TX3, 5), (RX4, TX4, 4), (RX5, TX5, 5), (RX6, TX6, 5), (RX7, TX7, 8), (RX9, TX9, 15), (RX10, TX10, 5), (RX11, TX11, 13), (RX12, TX12, 49)]
