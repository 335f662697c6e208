section
/-- a private method of a class that the tables say can be made, by its rows of tables_1 -/
def lw_okq (q : MethodName × Nat) : Prop := (q.1.cls ≠ "java/lang/invoke/MethodHandle" ∧ q.1.cls ≠ "java/lang/invoke/VarHandle") ∧ Cond.instantiable q.1.cls q.2 ∈ tables_1 ∧ Cond.privateMethod q.1 ∈ tables_1 ∧ Cond.instanceMethod q.1 ∈ tables_1
theorem lw_p0 : lw_okq (⟨"EvenBags", "isThing", "(I)Z"⟩, 12) := ⟨⟨by decide +kernel, by decide +kernel⟩, List.mem_of_getElem? (i := 20) (by decide +kernel), List.mem_of_getElem? (i := 382) (by decide +kernel), List.mem_of_getElem? (i := 383) (by decide +kernel)⟩
theorem lw_p1 : lw_okq (⟨"EvenBags", "isStretch", "(I)Z"⟩, 12) := ⟨⟨by decide +kernel, by decide +kernel⟩, List.mem_of_getElem? (i := 20) (by decide +kernel), List.mem_of_getElem? (i := 413) (by decide +kernel), List.mem_of_getElem? (i := 414) (by decide +kernel)⟩
theorem lw_p2 : lw_okq (⟨"EvenBags$Tape", "readThings", "(LEvenBags$Market;)Z"⟩, 3) := ⟨⟨by decide +kernel, by decide +kernel⟩, List.mem_of_getElem? (i := 130) (by decide +kernel), List.mem_of_getElem? (i := 461) (by decide +kernel), List.mem_of_getElem? (i := 462) (by decide +kernel)⟩
theorem lw_p3 : lw_okq (⟨"EvenBags$Tape", "readThing", "(LEvenBags$Market;)Z"⟩, 3) := ⟨⟨by decide +kernel, by decide +kernel⟩, List.mem_of_getElem? (i := 130) (by decide +kernel), List.mem_of_getElem? (i := 465) (by decide +kernel), List.mem_of_getElem? (i := 466) (by decide +kernel)⟩
theorem lw_p4 : lw_okq (⟨"EvenBags$Tape", "skipBlanks", "()V"⟩, 3) := ⟨⟨by decide +kernel, by decide +kernel⟩, List.mem_of_getElem? (i := 130) (by decide +kernel), List.mem_of_getElem? (i := 469) (by decide +kernel), List.mem_of_getElem? (i := 470) (by decide +kernel)⟩
theorem lw_p5 : lw_okq (⟨"EvenBags$Tape", "readNumber", "()I"⟩, 3) := ⟨⟨by decide +kernel, by decide +kernel⟩, List.mem_of_getElem? (i := 130) (by decide +kernel), List.mem_of_getElem? (i := 560) (by decide +kernel), List.mem_of_getElem? (i := 561) (by decide +kernel)⟩
theorem lw_p6 : lw_okq (⟨"EvenBags$Tape", "passes", "(C)Z"⟩, 3) := ⟨⟨by decide +kernel, by decide +kernel⟩, List.mem_of_getElem? (i := 130) (by decide +kernel), List.mem_of_getElem? (i := 565) (by decide +kernel), List.mem_of_getElem? (i := 566) (by decide +kernel)⟩
theorem lw_p7 : lw_okq (⟨"EvenBags$Tape", "readStop", "()I"⟩, 3) := ⟨⟨by decide +kernel, by decide +kernel⟩, List.mem_of_getElem? (i := 130) (by decide +kernel), List.mem_of_getElem? (i := 569) (by decide +kernel), List.mem_of_getElem? (i := 570) (by decide +kernel)⟩
theorem lw_p8 : lw_okq (⟨"EvenBags$Tape", "readStretches", "(LEvenBags$Market;)Z"⟩, 3) := ⟨⟨by decide +kernel, by decide +kernel⟩, List.mem_of_getElem? (i := 130) (by decide +kernel), List.mem_of_getElem? (i := 574) (by decide +kernel), List.mem_of_getElem? (i := 575) (by decide +kernel)⟩
theorem lw_p9 : lw_okq (⟨"EvenBags$Tape", "readStretch", "(LEvenBags$Market;)Z"⟩, 3) := ⟨⟨by decide +kernel, by decide +kernel⟩, List.mem_of_getElem? (i := 130) (by decide +kernel), List.mem_of_getElem? (i := 578) (by decide +kernel), List.mem_of_getElem? (i := 579) (by decide +kernel)⟩
theorem lw_p10 : lw_okq (⟨"EvenBags$Market", "bagsHold", "()Z"⟩, 20) := ⟨⟨by decide +kernel, by decide +kernel⟩, List.mem_of_getElem? (i := 28) (by decide +kernel), List.mem_of_getElem? (i := 626) (by decide +kernel), List.mem_of_getElem? (i := 627) (by decide +kernel)⟩
theorem lw_p11 : lw_okq (⟨"EvenBags$Market", "crushes", "(II)Z"⟩, 20) := ⟨⟨by decide +kernel, by decide +kernel⟩, List.mem_of_getElem? (i := 28) (by decide +kernel), List.mem_of_getElem? (i := 639) (by decide +kernel), List.mem_of_getElem? (i := 640) (by decide +kernel)⟩
theorem lw_p12 : lw_okq (⟨"EvenBags", "yardOf", "(II)I"⟩, 12) := ⟨⟨by decide +kernel, by decide +kernel⟩, List.mem_of_getElem? (i := 20) (by decide +kernel), List.mem_of_getElem? (i := 850) (by decide +kernel), List.mem_of_getElem? (i := 851) (by decide +kernel)⟩
theorem lw_p13 : lw_okq (⟨"EvenBags$Errand", "weigh", "(IZ)V"⟩, 5) := ⟨⟨by decide +kernel, by decide +kernel⟩, List.mem_of_getElem? (i := 265) (by decide +kernel), List.mem_of_getElem? (i := 862) (by decide +kernel), List.mem_of_getElem? (i := 863) (by decide +kernel)⟩
theorem lw_p14 : lw_okq (⟨"EvenBags$Errand", "carriedWith", "(I)I"⟩, 5) := ⟨⟨by decide +kernel, by decide +kernel⟩, List.mem_of_getElem? (i := 265) (by decide +kernel), List.mem_of_getElem? (i := 866) (by decide +kernel), List.mem_of_getElem? (i := 867) (by decide +kernel)⟩
theorem lw_p15 : lw_okq (⟨"EvenBags$Errand", "nextBehind", "(III)I"⟩, 5) := ⟨⟨by decide +kernel, by decide +kernel⟩, List.mem_of_getElem? (i := 265) (by decide +kernel), List.mem_of_getElem? (i := 874) (by decide +kernel), List.mem_of_getElem? (i := 875) (by decide +kernel)⟩
def lw_privs_1 : List (MethodName × Nat) := [(⟨"EvenBags", "isThing", "(I)Z"⟩, 12), (⟨"EvenBags", "isStretch", "(I)Z"⟩, 12), (⟨"EvenBags$Tape", "readThings", "(LEvenBags$Market;)Z"⟩, 3), (⟨"EvenBags$Tape", "readThing", "(LEvenBags$Market;)Z"⟩, 3), (⟨"EvenBags$Tape", "skipBlanks", "()V"⟩, 3), (⟨"EvenBags$Tape", "readNumber", "()I"⟩, 3), (⟨"EvenBags$Tape", "passes", "(C)Z"⟩, 3), (⟨"EvenBags$Tape", "readStop", "()I"⟩, 3), (⟨"EvenBags$Tape", "readStretches", "(LEvenBags$Market;)Z"⟩, 3), (⟨"EvenBags$Tape", "readStretch", "(LEvenBags$Market;)Z"⟩, 3), (⟨"EvenBags$Market", "bagsHold", "()Z"⟩, 20), (⟨"EvenBags$Market", "crushes", "(II)Z"⟩, 20), (⟨"EvenBags", "yardOf", "(II)I"⟩, 12), (⟨"EvenBags$Errand", "weigh", "(IZ)V"⟩, 5), (⟨"EvenBags$Errand", "carriedWith", "(I)I"⟩, 5), (⟨"EvenBags$Errand", "nextBehind", "(III)I"⟩, 5)]
theorem lw_r1 : ∀ q ∈ lw_privs_1, lw_okq q := List.forall_mem_cons.mpr ⟨lw_p0, List.forall_mem_cons.mpr ⟨lw_p1, List.forall_mem_cons.mpr ⟨lw_p2, List.forall_mem_cons.mpr ⟨lw_p3, List.forall_mem_cons.mpr ⟨lw_p4, List.forall_mem_cons.mpr ⟨lw_p5, List.forall_mem_cons.mpr ⟨lw_p6, List.forall_mem_cons.mpr ⟨lw_p7, List.forall_mem_cons.mpr ⟨lw_p8, List.forall_mem_cons.mpr ⟨lw_p9, List.forall_mem_cons.mpr ⟨lw_p10, List.forall_mem_cons.mpr ⟨lw_p11, List.forall_mem_cons.mpr ⟨lw_p12, List.forall_mem_cons.mpr ⟨lw_p13, List.forall_mem_cons.mpr ⟨lw_p14, List.forall_mem_cons.mpr ⟨lw_p15, fun _ h => absurd h List.not_mem_nil⟩⟩⟩⟩⟩⟩⟩⟩⟩⟩⟩⟩⟩⟩⟩⟩
theorem lw_p16 : lw_okq (⟨"EvenBags$Errand", "costBy", "(IIII)I"⟩, 5) := ⟨⟨by decide +kernel, by decide +kernel⟩, List.mem_of_getElem? (i := 265) (by decide +kernel), List.mem_of_getElem? (i := 879) (by decide +kernel), List.mem_of_getElem? (i := 880) (by decide +kernel)⟩
theorem lw_p17 : lw_okq (⟨"EvenBags$Errand", "goShopping", "()V"⟩, 5) := ⟨⟨by decide +kernel, by decide +kernel⟩, List.mem_of_getElem? (i := 265) (by decide +kernel), List.mem_of_getElem? (i := 883) (by decide +kernel), List.mem_of_getElem? (i := 884) (by decide +kernel)⟩
theorem lw_p18 : lw_okq (⟨"EvenBags", "isEnd", "(I)Z"⟩, 12) := ⟨⟨by decide +kernel, by decide +kernel⟩, List.mem_of_getElem? (i := 20) (by decide +kernel), List.mem_of_getElem? (i := 910) (by decide +kernel), List.mem_of_getElem? (i := 911) (by decide +kernel)⟩
theorem lw_p19 : lw_okq (⟨"EvenBags$Market", "endWeight", "(I)I"⟩, 20) := ⟨⟨by decide +kernel, by decide +kernel⟩, List.mem_of_getElem? (i := 28) (by decide +kernel), List.mem_of_getElem? (i := 922) (by decide +kernel), List.mem_of_getElem? (i := 923) (by decide +kernel)⟩
theorem lw_p20 : lw_okq (⟨"EvenBags", "refusalOf", "(IIII)I"⟩, 12) := ⟨⟨by decide +kernel, by decide +kernel⟩, List.mem_of_getElem? (i := 20) (by decide +kernel), List.mem_of_getElem? (i := 944) (by decide +kernel), List.mem_of_getElem? (i := 945) (by decide +kernel)⟩
theorem lw_p21 : lw_okq (⟨"EvenBags$Guests", "waysWithoutOne", "(I)I"⟩, 4) := ⟨⟨by decide +kernel, by decide +kernel⟩, List.mem_of_getElem? (i := 289) (by decide +kernel), List.mem_of_getElem? (i := 977) (by decide +kernel), List.mem_of_getElem? (i := 978) (by decide +kernel)⟩
theorem lw_p22 : lw_okq (⟨"EvenBags$Sheet", "lowestBits", "(J)J"⟩, 3) := ⟨⟨by decide +kernel, by decide +kernel⟩, List.mem_of_getElem? (i := 310) (by decide +kernel), List.mem_of_getElem? (i := 1011) (by decide +kernel), List.mem_of_getElem? (i := 1012) (by decide +kernel)⟩
theorem lw_p23 : lw_okq (⟨"EvenBagsModel", "comes", "(III)V"⟩, 43) := ⟨⟨by decide +kernel, by decide +kernel⟩, List.mem_of_getElem? (i := 1045) (by decide +kernel), List.mem_of_getElem? (i := 1190) (by decide +kernel), List.mem_of_getElem? (i := 1191) (by decide +kernel)⟩
theorem lw_p24 : lw_okq (⟨"EvenBagsModel", "isThing", "(J)Z"⟩, 43) := ⟨⟨by decide +kernel, by decide +kernel⟩, List.mem_of_getElem? (i := 1045) (by decide +kernel), List.mem_of_getElem? (i := 1198) (by decide +kernel), List.mem_of_getElem? (i := 1199) (by decide +kernel)⟩
theorem lw_p25 : lw_okq (⟨"EvenBagsModel", "hangs", "(I)Z"⟩, 43) := ⟨⟨by decide +kernel, by decide +kernel⟩, List.mem_of_getElem? (i := 1045) (by decide +kernel), List.mem_of_getElem? (i := 1202) (by decide +kernel), List.mem_of_getElem? (i := 1203) (by decide +kernel)⟩
theorem lw_p26 : lw_okq (⟨"EvenBagsModel", "isStretch", "(I)Z"⟩, 43) := ⟨⟨by decide +kernel, by decide +kernel⟩, List.mem_of_getElem? (i := 1045) (by decide +kernel), List.mem_of_getElem? (i := 1223) (by decide +kernel), List.mem_of_getElem? (i := 1224) (by decide +kernel)⟩
theorem lw_p27 : lw_okq (⟨"EvenBagsModel", "wayTo", "(I)I"⟩, 43) := ⟨⟨by decide +kernel, by decide +kernel⟩, List.mem_of_getElem? (i := 1045) (by decide +kernel), List.mem_of_getElem? (i := 1253) (by decide +kernel), List.mem_of_getElem? (i := 1254) (by decide +kernel)⟩
theorem lw_p28 : lw_okq (⟨"EvenBagsModel", "readThing", "()V"⟩, 43) := ⟨⟨by decide +kernel, by decide +kernel⟩, List.mem_of_getElem? (i := 1045) (by decide +kernel), List.mem_of_getElem? (i := 1267) (by decide +kernel), List.mem_of_getElem? (i := 1268) (by decide +kernel)⟩
theorem lw_p29 : lw_okq (⟨"EvenBagsModel", "here", "()I"⟩, 43) := ⟨⟨by decide +kernel, by decide +kernel⟩, List.mem_of_getElem? (i := 1045) (by decide +kernel), List.mem_of_getElem? (i := 1271) (by decide +kernel), List.mem_of_getElem? (i := 1272) (by decide +kernel)⟩
theorem lw_p30 : lw_okq (⟨"EvenBagsModel", "number", "()I"⟩, 43) := ⟨⟨by decide +kernel, by decide +kernel⟩, List.mem_of_getElem? (i := 1045) (by decide +kernel), List.mem_of_getElem? (i := 1275) (by decide +kernel), List.mem_of_getElem? (i := 1276) (by decide +kernel)⟩
theorem lw_p31 : lw_okq (⟨"EvenBagsModel", "has", "(I)Z"⟩, 43) := ⟨⟨by decide +kernel, by decide +kernel⟩, List.mem_of_getElem? (i := 1045) (by decide +kernel), List.mem_of_getElem? (i := 1281) (by decide +kernel), List.mem_of_getElem? (i := 1282) (by decide +kernel)⟩
def lw_privs_2 : List (MethodName × Nat) := [(⟨"EvenBags$Errand", "costBy", "(IIII)I"⟩, 5), (⟨"EvenBags$Errand", "goShopping", "()V"⟩, 5), (⟨"EvenBags", "isEnd", "(I)Z"⟩, 12), (⟨"EvenBags$Market", "endWeight", "(I)I"⟩, 20), (⟨"EvenBags", "refusalOf", "(IIII)I"⟩, 12), (⟨"EvenBags$Guests", "waysWithoutOne", "(I)I"⟩, 4), (⟨"EvenBags$Sheet", "lowestBits", "(J)J"⟩, 3), (⟨"EvenBagsModel", "comes", "(III)V"⟩, 43), (⟨"EvenBagsModel", "isThing", "(J)Z"⟩, 43), (⟨"EvenBagsModel", "hangs", "(I)Z"⟩, 43), (⟨"EvenBagsModel", "isStretch", "(I)Z"⟩, 43), (⟨"EvenBagsModel", "wayTo", "(I)I"⟩, 43), (⟨"EvenBagsModel", "readThing", "()V"⟩, 43), (⟨"EvenBagsModel", "here", "()I"⟩, 43), (⟨"EvenBagsModel", "number", "()I"⟩, 43), (⟨"EvenBagsModel", "has", "(I)Z"⟩, 43)]
theorem lw_r2 : ∀ q ∈ lw_privs_2, lw_okq q := List.forall_mem_cons.mpr ⟨lw_p16, List.forall_mem_cons.mpr ⟨lw_p17, List.forall_mem_cons.mpr ⟨lw_p18, List.forall_mem_cons.mpr ⟨lw_p19, List.forall_mem_cons.mpr ⟨lw_p20, List.forall_mem_cons.mpr ⟨lw_p21, List.forall_mem_cons.mpr ⟨lw_p22, List.forall_mem_cons.mpr ⟨lw_p23, List.forall_mem_cons.mpr ⟨lw_p24, List.forall_mem_cons.mpr ⟨lw_p25, List.forall_mem_cons.mpr ⟨lw_p26, List.forall_mem_cons.mpr ⟨lw_p27, List.forall_mem_cons.mpr ⟨lw_p28, List.forall_mem_cons.mpr ⟨lw_p29, List.forall_mem_cons.mpr ⟨lw_p30, List.forall_mem_cons.mpr ⟨lw_p31, fun _ h => absurd h List.not_mem_nil⟩⟩⟩⟩⟩⟩⟩⟩⟩⟩⟩⟩⟩⟩⟩⟩
theorem lw_p32 : lw_okq (⟨"EvenBagsModel", "loads", "([III)I"⟩, 43) := ⟨⟨by decide +kernel, by decide +kernel⟩, List.mem_of_getElem? (i := 1045) (by decide +kernel), List.mem_of_getElem? (i := 1290) (by decide +kernel), List.mem_of_getElem? (i := 1291) (by decide +kernel)⟩
theorem lw_p33 : lw_okq (⟨"EvenBagsModel", "loadOf", "(II)I"⟩, 43) := ⟨⟨by decide +kernel, by decide +kernel⟩, List.mem_of_getElem? (i := 1045) (by decide +kernel), List.mem_of_getElem? (i := 1294) (by decide +kernel), List.mem_of_getElem? (i := 1295) (by decide +kernel)⟩
theorem lw_p34 : lw_okq (⟨"EvenBagsModel", "whyNot", "([I)I"⟩, 43) := ⟨⟨by decide +kernel, by decide +kernel⟩, List.mem_of_getElem? (i := 1045) (by decide +kernel), List.mem_of_getElem? (i := 1302) (by decide +kernel), List.mem_of_getElem? (i := 1303) (by decide +kernel)⟩
theorem lw_p35 : lw_okq (⟨"EvenBagsModel", "doHold", "([I)Z"⟩, 43) := ⟨⟨by decide +kernel, by decide +kernel⟩, List.mem_of_getElem? (i := 1045) (by decide +kernel), List.mem_of_getElem? (i := 1306) (by decide +kernel), List.mem_of_getElem? (i := 1307) (by decide +kernel)⟩
theorem lw_p36 : lw_okq (⟨"EvenBagsModel", "areLaws", "([I)Z"⟩, 43) := ⟨⟨by decide +kernel, by decide +kernel⟩, List.mem_of_getElem? (i := 1045) (by decide +kernel), List.mem_of_getElem? (i := 1310) (by decide +kernel), List.mem_of_getElem? (i := 1311) (by decide +kernel)⟩
theorem lw_p37 : lw_okq (⟨"EvenBagsModel", "areSoft", "([I)Z"⟩, 43) := ⟨⟨by decide +kernel, by decide +kernel⟩, List.mem_of_getElem? (i := 1045) (by decide +kernel), List.mem_of_getElem? (i := 1314) (by decide +kernel), List.mem_of_getElem? (i := 1315) (by decide +kernel)⟩
theorem lw_p38 : lw_okq (⟨"EvenBagsModel", "offOf", "([II)I"⟩, 43) := ⟨⟨by decide +kernel, by decide +kernel⟩, List.mem_of_getElem? (i := 1045) (by decide +kernel), List.mem_of_getElem? (i := 1322) (by decide +kernel), List.mem_of_getElem? (i := 1323) (by decide +kernel)⟩
theorem lw_p39 : lw_okq (⟨"EvenBagsModel", "unevens", "([I)V"⟩, 43) := ⟨⟨by decide +kernel, by decide +kernel⟩, List.mem_of_getElem? (i := 1045) (by decide +kernel), List.mem_of_getElem? (i := 1331) (by decide +kernel), List.mem_of_getElem? (i := 1332) (by decide +kernel)⟩
theorem lw_p40 : lw_okq (⟨"EvenBagsModel", "plain", "(I)I"⟩, 43) := ⟨⟨by decide +kernel, by decide +kernel⟩, List.mem_of_getElem? (i := 1045) (by decide +kernel), List.mem_of_getElem? (i := 1335) (by decide +kernel), List.mem_of_getElem? (i := 1336) (by decide +kernel)⟩
theorem lw_p41 : lw_okq (⟨"EvenBagsModel", "isBest", "()Z"⟩, 43) := ⟨⟨by decide +kernel, by decide +kernel⟩, List.mem_of_getElem? (i := 1045) (by decide +kernel), List.mem_of_getElem? (i := 1343) (by decide +kernel), List.mem_of_getElem? (i := 1344) (by decide +kernel)⟩
theorem lw_p42 : lw_okq (⟨"EvenBagsModel", "begins", "()V"⟩, 43) := ⟨⟨by decide +kernel, by decide +kernel⟩, List.mem_of_getElem? (i := 1045) (by decide +kernel), List.mem_of_getElem? (i := 1347) (by decide +kernel), List.mem_of_getElem? (i := 1348) (by decide +kernel)⟩
theorem lw_p43 : lw_okq (⟨"EvenBagsModel", "isLawful", "([I)Z"⟩, 43) := ⟨⟨by decide +kernel, by decide +kernel⟩, List.mem_of_getElem? (i := 1045) (by decide +kernel), List.mem_of_getElem? (i := 1351) (by decide +kernel), List.mem_of_getElem? (i := 1352) (by decide +kernel)⟩
theorem lw_p44 : lw_okq (⟨"EvenBagsModel", "finds", "()V"⟩, 43) := ⟨⟨by decide +kernel, by decide +kernel⟩, List.mem_of_getElem? (i := 1045) (by decide +kernel), List.mem_of_getElem? (i := 1355) (by decide +kernel), List.mem_of_getElem? (i := 1356) (by decide +kernel)⟩
theorem lw_p45 : lw_okq (⟨"EvenBagsModel", "turns", "(I)Z"⟩, 43) := ⟨⟨by decide +kernel, by decide +kernel⟩, List.mem_of_getElem? (i := 1045) (by decide +kernel), List.mem_of_getElem? (i := 1359) (by decide +kernel), List.mem_of_getElem? (i := 1360) (by decide +kernel)⟩
theorem lw_p46 : lw_okq (⟨"EvenBagsModel", "changes", "([I)I"⟩, 43) := ⟨⟨by decide +kernel, by decide +kernel⟩, List.mem_of_getElem? (i := 1045) (by decide +kernel), List.mem_of_getElem? (i := 1376) (by decide +kernel), List.mem_of_getElem? (i := 1377) (by decide +kernel)⟩
theorem lw_p47 : lw_okq (⟨"EvenBagsModel", "onFrom", "(II)I"⟩, 43) := ⟨⟨by decide +kernel, by decide +kernel⟩, List.mem_of_getElem? (i := 1045) (by decide +kernel), List.mem_of_getElem? (i := 1402) (by decide +kernel), List.mem_of_getElem? (i := 1403) (by decide +kernel)⟩
def lw_privs_3 : List (MethodName × Nat) := [(⟨"EvenBagsModel", "loads", "([III)I"⟩, 43), (⟨"EvenBagsModel", "loadOf", "(II)I"⟩, 43), (⟨"EvenBagsModel", "whyNot", "([I)I"⟩, 43), (⟨"EvenBagsModel", "doHold", "([I)Z"⟩, 43), (⟨"EvenBagsModel", "areLaws", "([I)Z"⟩, 43), (⟨"EvenBagsModel", "areSoft", "([I)Z"⟩, 43), (⟨"EvenBagsModel", "offOf", "([II)I"⟩, 43), (⟨"EvenBagsModel", "unevens", "([I)V"⟩, 43), (⟨"EvenBagsModel", "plain", "(I)I"⟩, 43), (⟨"EvenBagsModel", "isBest", "()Z"⟩, 43), (⟨"EvenBagsModel", "begins", "()V"⟩, 43), (⟨"EvenBagsModel", "isLawful", "([I)Z"⟩, 43), (⟨"EvenBagsModel", "finds", "()V"⟩, 43), (⟨"EvenBagsModel", "turns", "(I)Z"⟩, 43), (⟨"EvenBagsModel", "changes", "([I)I"⟩, 43), (⟨"EvenBagsModel", "onFrom", "(II)I"⟩, 43)]
theorem lw_r3 : ∀ q ∈ lw_privs_3, lw_okq q := List.forall_mem_cons.mpr ⟨lw_p32, List.forall_mem_cons.mpr ⟨lw_p33, List.forall_mem_cons.mpr ⟨lw_p34, List.forall_mem_cons.mpr ⟨lw_p35, List.forall_mem_cons.mpr ⟨lw_p36, List.forall_mem_cons.mpr ⟨lw_p37, List.forall_mem_cons.mpr ⟨lw_p38, List.forall_mem_cons.mpr ⟨lw_p39, List.forall_mem_cons.mpr ⟨lw_p40, List.forall_mem_cons.mpr ⟨lw_p41, List.forall_mem_cons.mpr ⟨lw_p42, List.forall_mem_cons.mpr ⟨lw_p43, List.forall_mem_cons.mpr ⟨lw_p44, List.forall_mem_cons.mpr ⟨lw_p45, List.forall_mem_cons.mpr ⟨lw_p46, List.forall_mem_cons.mpr ⟨lw_p47, fun _ h => absurd h List.not_mem_nil⟩⟩⟩⟩⟩⟩⟩⟩⟩⟩⟩⟩⟩⟩⟩⟩
theorem lw_p48 : lw_okq (⟨"EvenBagsModel", "bought", "(I)I"⟩, 43) := ⟨⟨by decide +kernel, by decide +kernel⟩, List.mem_of_getElem? (i := 1045) (by decide +kernel), List.mem_of_getElem? (i := 1406) (by decide +kernel), List.mem_of_getElem? (i := 1407) (by decide +kernel)⟩
theorem lw_p49 : lw_okq (⟨"EvenBagsModel", "apart", "(II)I"⟩, 43) := ⟨⟨by decide +kernel, by decide +kernel⟩, List.mem_of_getElem? (i := 1045) (by decide +kernel), List.mem_of_getElem? (i := 1410) (by decide +kernel), List.mem_of_getElem? (i := 1411) (by decide +kernel)⟩
theorem lw_p50 : lw_okq (⟨"EvenBagsModel", "isEnd", "(I)Z"⟩, 43) := ⟨⟨by decide +kernel, by decide +kernel⟩, List.mem_of_getElem? (i := 1045) (by decide +kernel), List.mem_of_getElem? (i := 1418) (by decide +kernel), List.mem_of_getElem? (i := 1419) (by decide +kernel)⟩
theorem lw_p51 : lw_okq (⟨"EvenBagsModel", "hangsOn", "(I)I"⟩, 43) := ⟨⟨by decide +kernel, by decide +kernel⟩, List.mem_of_getElem? (i := 1045) (by decide +kernel), List.mem_of_getElem? (i := 1426) (by decide +kernel), List.mem_of_getElem? (i := 1427) (by decide +kernel)⟩
theorem lw_p52 : lw_okq (⟨"EvenBagsModel", "notes", "([II)I"⟩, 43) := ⟨⟨by decide +kernel, by decide +kernel⟩, List.mem_of_getElem? (i := 1045) (by decide +kernel), List.mem_of_getElem? (i := 1434) (by decide +kernel), List.mem_of_getElem? (i := 1435) (by decide +kernel)⟩
theorem lw_p53 : lw_okq (⟨"EvenBagsModel", "givesBack", "(I[I)I"⟩, 43) := ⟨⟨by decide +kernel, by decide +kernel⟩, List.mem_of_getElem? (i := 1045) (by decide +kernel), List.mem_of_getElem? (i := 1442) (by decide +kernel), List.mem_of_getElem? (i := 1443) (by decide +kernel)⟩
theorem lw_p54 : lw_okq (⟨"EvenBagsModel", "why", "(IIII)I"⟩, 43) := ⟨⟨by decide +kernel, by decide +kernel⟩, List.mem_of_getElem? (i := 1045) (by decide +kernel), List.mem_of_getElem? (i := 1456) (by decide +kernel), List.mem_of_getElem? (i := 1457) (by decide +kernel)⟩
theorem lw_p55 : lw_okq (⟨"EvenBagsModel", "ordersOf", "(II)I"⟩, 43) := ⟨⟨by decide +kernel, by decide +kernel⟩, List.mem_of_getElem? (i := 1045) (by decide +kernel), List.mem_of_getElem? (i := 1460) (by decide +kernel), List.mem_of_getElem? (i := 1461) (by decide +kernel)⟩
theorem lw_p56 : lw_okq (⟨"EvenBagsModel", "isTipped", "(II)Z"⟩, 43) := ⟨⟨by decide +kernel, by decide +kernel⟩, List.mem_of_getElem? (i := 1045) (by decide +kernel), List.mem_of_getElem? (i := 1464) (by decide +kernel), List.mem_of_getElem? (i := 1465) (by decide +kernel)⟩
theorem lw_p57 : lw_okq (⟨"EvenBagsModel", "puts", "(IIJ)V"⟩, 43) := ⟨⟨by decide +kernel, by decide +kernel⟩, List.mem_of_getElem? (i := 1045) (by decide +kernel), List.mem_of_getElem? (i := 1479) (by decide +kernel), List.mem_of_getElem? (i := 1480) (by decide +kernel)⟩
def lw_privs_4 : List (MethodName × Nat) := [(⟨"EvenBagsModel", "bought", "(I)I"⟩, 43), (⟨"EvenBagsModel", "apart", "(II)I"⟩, 43), (⟨"EvenBagsModel", "isEnd", "(I)Z"⟩, 43), (⟨"EvenBagsModel", "hangsOn", "(I)I"⟩, 43), (⟨"EvenBagsModel", "notes", "([II)I"⟩, 43), (⟨"EvenBagsModel", "givesBack", "(I[I)I"⟩, 43), (⟨"EvenBagsModel", "why", "(IIII)I"⟩, 43), (⟨"EvenBagsModel", "ordersOf", "(II)I"⟩, 43), (⟨"EvenBagsModel", "isTipped", "(II)Z"⟩, 43), (⟨"EvenBagsModel", "puts", "(IIJ)V"⟩, 43)]
theorem lw_r4 : ∀ q ∈ lw_privs_4, lw_okq q := List.forall_mem_cons.mpr ⟨lw_p48, List.forall_mem_cons.mpr ⟨lw_p49, List.forall_mem_cons.mpr ⟨lw_p50, List.forall_mem_cons.mpr ⟨lw_p51, List.forall_mem_cons.mpr ⟨lw_p52, List.forall_mem_cons.mpr ⟨lw_p53, List.forall_mem_cons.mpr ⟨lw_p54, List.forall_mem_cons.mpr ⟨lw_p55, List.forall_mem_cons.mpr ⟨lw_p56, List.forall_mem_cons.mpr ⟨lw_p57, fun _ h => absurd h List.not_mem_nil⟩⟩⟩⟩⟩⟩⟩⟩⟩⟩
def lw_privs : List (MethodName × Nat) := lw_privs_1 ++ (lw_privs_2 ++ (lw_privs_3 ++ (lw_privs_4)))
def lw_tbl : List Cond := k2_sels lw_privs ++ tables_1
theorem lw_privs_ok : ∀ q ∈ lw_privs, lw_okq q := by
  show ∀ q ∈ lw_privs_1 ++ (lw_privs_2 ++ (lw_privs_3 ++ (lw_privs_4))), lw_okq q
  exact List.forall_mem_append.mpr ⟨lw_r1, List.forall_mem_append.mpr ⟨lw_r2, List.forall_mem_append.mpr ⟨lw_r3, lw_r4⟩⟩⟩
end
section
def RX0 : String := "EvenBags$Best"
def TX0 : u_T := fun k => match k with
  | 0 => ("EvenBags$Search", "market", "LEvenBags$Market;", true)
  | 1 => ("EvenBags$Search", "row", "[I", true)
  | 2 => ("EvenBags$Search", "found", "[I", true)
  | 3 => ("EvenBags$Search", "loads", "[I", true)
  | 4 => ("EvenBags$Search", "ahead", "[I", true)
  | 5 => ("EvenBags$Search", "solvedAt", "I", false)
  | 6 => ("EvenBags$Best", "any", "Z", false)
  | 7 => ("EvenBags$Best", "worst", "I", false)
  | 8 => ("EvenBags$Best", "whole", "I", false)
  | 9 => ("EvenBags$Best", "worstSeen", "I", false)
  | _ => ("EvenBags$Best", "wholeSeen", "I", false)
def tyX0 : Nat → FieldType := fun k => match k with
  | 0 => .object "EvenBags$Market"
  | 1 => .array .int
  | 2 => .array .int
  | 3 => .array .int
  | 4 => .array .int
  | 5 => .int
  | 6 => .boolean
  | 7 => .int
  | 8 => .int
  | 9 => .int
  | _ => .int
abbrev wsX00 : List Cond := u_ws RX0 TX0 11
theorem nmX0 : ∀ a, a < 11 → ∀ b, b < 11 → a ≠ b → (TX0 a).2.1 ≠ (TX0 b).2.1 := by decide +kernel
theorem tyX0_ok : ∀ k, k < 11 → parseFieldDescriptor (TX0 k).2.2.1 = some (tyX0 k) := by decide +kernel
abbrev cX0_init : ByteArray := prog_2_method_1_code
def yX0_init : MethodName := ⟨RX0, "<init>", "(LEvenBags$Market;)V"⟩
abbrev cX0_begin : ByteArray := prog_2_method_2_code
def yX0_begin : MethodName := ⟨RX0, "begin", "()V"⟩
abbrev cX0_isHopeless : ByteArray := prog_2_method_3_code
def yX0_isHopeless : MethodName := ⟨RX0, "isHopeless", "(I)Z"⟩
abbrev cX0_reach : ByteArray := prog_2_method_4_code
def yX0_reach : MethodName := ⟨RX0, "reach", "()V"⟩
def RX1 : String := "EvenBags$Errand"
def TX1 : u_T := fun k => match k with
  | 0 => ("EvenBags$Errand", "least", "I", false)
  | 1 => ("EvenBags$Errand", "order", "[I", true)
  | 2 => ("EvenBags$Errand", "market", "LEvenBags$Market;", true)
  | 3 => ("EvenBags$Errand", "toCome", "[I", false)
  | _ => ("EvenBags$Errand", "solvedAt", "I", false)
def tyX1 : Nat → FieldType := fun k => match k with
  | 0 => .int
  | 1 => .array .int
  | 2 => .object "EvenBags$Market"
  | 3 => .array .int
  | _ => .int
abbrev wsX10 : List Cond := u_ws RX1 TX1 5
theorem nmX1 : ∀ a, a < 5 → ∀ b, b < 5 → a ≠ b → (TX1 a).2.1 ≠ (TX1 b).2.1 := by decide +kernel
theorem tyX1_ok : ∀ k, k < 5 → parseFieldDescriptor (TX1 k).2.2.1 = some (tyX1 k) := by decide +kernel
abbrev cX1_init : ByteArray := prog_3_method_1_code
def yX1_init : MethodName := ⟨RX1, "<init>", "(LEvenBags$Market;)V"⟩
abbrev cX1_solve : ByteArray := prog_3_method_2_code
def yX1_solve : MethodName := ⟨RX1, "solve", "()V"⟩
abbrev cX1_weigh : ByteArray := prog_3_method_3_code
def yX1_weigh : MethodName := ⟨RX1, "weigh", "(IZ)V"⟩
abbrev cX1_goShopping : ByteArray := prog_3_method_4_code
def yX1_goShopping : MethodName := ⟨RX1, "goShopping", "()V"⟩
abbrev cX1_nextBehind : ByteArray := prog_3_method_5_code
def yX1_nextBehind : MethodName := ⟨RX1, "nextBehind", "(III)I"⟩
abbrev cX1_costBy : ByteArray := prog_3_method_6_code
def yX1_costBy : MethodName := ⟨RX1, "costBy", "(IIII)I"⟩
abbrev cX1_carriedWith : ByteArray := prog_3_method_7_code
def yX1_carriedWith : MethodName := ⟨RX1, "carriedWith", "(I)I"⟩
abbrev cX1_at : ByteArray := prog_3_method_8_code
def yX1_at : MethodName := ⟨RX1, "at", "(II)I"⟩
def RX2 : String := "EvenBags$Guests"
def TX2 : u_T := fun k => match k with
  | 0 => ("EvenBags$Guests", "taken", "I", false)
  | 1 => ("EvenBags$Guests", "market", "LEvenBags$Market;", true)
  | 2 => ("EvenBags$Guests", "weights", "[I", true)
  | _ => ("EvenBags$Guests", "ways", "[I", true)
def tyX2 : Nat → FieldType := fun k => match k with
  | 0 => .int
  | 1 => .object "EvenBags$Market"
  | 2 => .array .int
  | _ => .array .int
abbrev wsX20 : List Cond := u_ws RX2 TX2 4
theorem nmX2 : ∀ a, a < 4 → ∀ b, b < 4 → a ≠ b → (TX2 a).2.1 ≠ (TX2 b).2.1 := by decide +kernel
theorem tyX2_ok : ∀ k, k < 4 → parseFieldDescriptor (TX2 k).2.2.1 = some (tyX2 k) := by decide +kernel
abbrev cX2_init : ByteArray := prog_4_method_1_code
def yX2_init : MethodName := ⟨RX2, "<init>", "(LEvenBags$Market;)V"⟩
abbrev cX2_seat : ByteArray := prog_4_method_2_code
def yX2_seat : MethodName := ⟨RX2, "seat", "(LEvenBags$Sheet;I)Z"⟩
abbrev cX2_tips : ByteArray := prog_4_method_3_code
def yX2_tips : MethodName := ⟨RX2, "tips", "(II)Z"⟩
abbrev cX2_orders : ByteArray := prog_4_method_4_code
def yX2_orders : MethodName := ⟨RX2, "orders", "(I)I"⟩
abbrev cX2_waysWithoutOne : ByteArray := prog_4_method_5_code
def yX2_waysWithoutOne : MethodName := ⟨RX2, "waysWithoutOne", "(I)I"⟩
abbrev cX2_safe : ByteArray := prog_4_method_6_code
def yX2_safe : MethodName := ⟨RX2, "safe", "(I)I"⟩
def RX3 : String := "EvenBags$Market"
def TX3 : u_T := fun k => match k with
  | 0 => ("EvenBags$Market", "changes", "I", false)
  | 1 => ("EvenBags$Market", "things", "I", false)
  | 2 => ("EvenBags$Market", "kind", "[I", true)
  | 3 => ("EvenBags$Market", "weight", "[I", true)
  | 4 => ("EvenBags$Market", "stop", "[I", true)
  | 5 => ("EvenBags$Market", "stall", "[I", true)
  | 6 => ("EvenBags$Market", "packing", "[I", true)
  | 7 => ("EvenBags$Market", "stretches", "I", false)
  | 8 => ("EvenBags$Market", "yards", "[I", true)
  | 9 => ("EvenBags$Market", "uphill", "[I", true)
  | 10 => ("EvenBags$Market", "holds", "[I", true)
  | 11 => ("EvenBags$Market", "gives", "[I", true)
  | 12 => ("EvenBags$Market", "strength", "[I", true)
  | 13 => ("EvenBags$Market", "laws", "I", false)
  | 14 => ("EvenBags$Market", "lawFirst", "[I", true)
  | 15 => ("EvenBags$Market", "lawOther", "[I", true)
  | 16 => ("EvenBags$Market", "lawKind", "[I", true)
  | 17 => ("EvenBags$Market", "bars", "I", false)
  | 18 => ("EvenBags$Market", "barFirst", "[I", true)
  | _ => ("EvenBags$Market", "barOther", "[I", true)
def tyX3 : Nat → FieldType := fun k => match k with
  | 0 => .int
  | 1 => .int
  | 2 => .array .int
  | 3 => .array .int
  | 4 => .array .int
  | 5 => .array .int
  | 6 => .array .int
  | 7 => .int
  | 8 => .array .int
  | 9 => .array .int
  | 10 => .array .int
  | 11 => .array .int
  | 12 => .array .int
  | 13 => .int
  | 14 => .array .int
  | 15 => .array .int
  | 16 => .array .int
  | 17 => .int
  | 18 => .array .int
  | _ => .array .int
abbrev wsX30 : List Cond := u_ws RX3 TX3 20
theorem nmX3 : ∀ a, a < 20 → ∀ b, b < 20 → a ≠ b → (TX3 a).2.1 ≠ (TX3 b).2.1 := by decide +kernel
theorem tyX3_ok : ∀ k, k < 20 → parseFieldDescriptor (TX3 k).2.2.1 = some (tyX3 k) := by decide +kernel
abbrev cX3_init : ByteArray := prog_5_method_1_code
def yX3_init : MethodName := ⟨RX3, "<init>", "()V"⟩
abbrev cX3_addThing : ByteArray := prog_5_method_2_code
def yX3_addThing : MethodName := ⟨RX3, "addThing", "(III)I"⟩
abbrev cX3_addStretch : ByteArray := prog_5_method_3_code
def yX3_addStretch : MethodName := ⟨RX3, "addStretch", "(II)I"⟩
abbrev cX3_addLaw : ByteArray := prog_5_method_4_code
def yX3_addLaw : MethodName := ⟨RX3, "addLaw", "(III)I"⟩
abbrev cX3_dropLaw : ByteArray := prog_5_method_5_code
def yX3_dropLaw : MethodName := ⟨RX3, "dropLaw", "()I"⟩
abbrev cX3_addBar : ByteArray := prog_5_method_6_code
def yX3_addBar : MethodName := ⟨RX3, "addBar", "(II)I"⟩
abbrev cX3_put : ByteArray := prog_5_method_7_code
def yX3_put : MethodName := ⟨RX3, "put", "([III)I"⟩
abbrev cX3_packAs : ByteArray := prog_5_method_8_code
def yX3_packAs : MethodName := ⟨RX3, "packAs", "([I)V"⟩
abbrev cX3_clearGoods : ByteArray := prog_5_method_9_code
def yX3_clearGoods : MethodName := ⟨RX3, "clearGoods", "()V"⟩
abbrev cX3_clearLawsAndBars : ByteArray := prog_5_method_10_code
def yX3_clearLawsAndBars : MethodName := ⟨RX3, "clearLawsAndBars", "()V"⟩
abbrev cX3_takeGoods : ByteArray := prog_5_method_11_code
def yX3_takeGoods : MethodName := ⟨RX3, "takeGoods", "(LEvenBags$Market;)V"⟩
abbrev cX3_takeAll : ByteArray := prog_5_method_12_code
def yX3_takeAll : MethodName := ⟨RX3, "takeAll", "(LEvenBags$Market;)V"⟩
abbrev cX3_steepness : ByteArray := prog_5_method_13_code
def yX3_steepness : MethodName := ⟨RX3, "steepness", "(I)I"⟩
abbrev cX3_wholeWay : ByteArray := prog_5_method_14_code
def yX3_wholeWay : MethodName := ⟨RX3, "wholeWay", "()I"⟩
abbrev cX3_thingLoad : ByteArray := prog_5_method_15_code
def yX3_thingLoad : MethodName := ⟨RX3, "thingLoad", "(II)I"⟩
abbrev cX3_isWet : ByteArray := prog_5_method_16_code
def yX3_isWet : MethodName := ⟨RX3, "isWet", "(I)Z"⟩
abbrev cX3_bagLoad : ByteArray := prog_5_method_17_code
def yX3_bagLoad : MethodName := ⟨RX3, "bagLoad", "(II)I"⟩
abbrev cX3_wetLoad : ByteArray := prog_5_method_18_code
def yX3_wetLoad : MethodName := ⟨RX3, "wetLoad", "(II)I"⟩
abbrev cX3_offBetween : ByteArray := prog_5_method_19_code
def yX3_offBetween : MethodName := ⟨RX3, "offBetween", "(II)I"⟩
abbrev cX3_offOn : ByteArray := prog_5_method_20_code
def yX3_offOn : MethodName := ⟨RX3, "offOn", "(I)I"⟩
abbrev cX3_worst : ByteArray := prog_5_method_21_code
def yX3_worst : MethodName := ⟨RX3, "worst", "()I"⟩
abbrev cX3_whole : ByteArray := prog_5_method_22_code
def yX3_whole : MethodName := ⟨RX3, "whole", "()I"⟩
abbrev cX3_whyUnlawful : ByteArray := prog_5_method_23_code
def yX3_whyUnlawful : MethodName := ⟨RX3, "whyUnlawful", "()I"⟩
abbrev cX3_bagsHold : ByteArray := prog_5_method_24_code
def yX3_bagsHold : MethodName := ⟨RX3, "bagsHold", "()Z"⟩
abbrev cX3_keepsLaws : ByteArray := prog_5_method_25_code
def yX3_keepsLaws : MethodName := ⟨RX3, "keepsLaws", "([II)Z"⟩
abbrev cX3_liesSoftly : ByteArray := prog_5_method_26_code
def yX3_liesSoftly : MethodName := ⟨RX3, "liesSoftly", "([II)Z"⟩
abbrev cX3_crushes : ByteArray := prog_5_method_27_code
def yX3_crushes : MethodName := ⟨RX3, "crushes", "(II)Z"⟩
abbrev cX3_evenestSplit : ByteArray := prog_5_method_28_code
def yX3_evenestSplit : MethodName := ⟨RX3, "evenestSplit", "(I)I"⟩
abbrev cX3_splitOff : ByteArray := prog_5_method_29_code
def yX3_splitOff : MethodName := ⟨RX3, "splitOff", "(II)I"⟩
abbrev cX3_isInRight : ByteArray := prog_5_method_30_code
def yX3_isInRight : MethodName := ⟨RX3, "isInRight", "(II)Z"⟩
abbrev cX3_hangs : ByteArray := prog_5_method_31_code
def yX3_hangs : MethodName := ⟨RX3, "hangs", "(I)Z"⟩
abbrev cX3_endWeight : ByteArray := prog_5_method_32_code
def yX3_endWeight : MethodName := ⟨RX3, "endWeight", "(I)I"⟩
def RX4 : String := "EvenBags$Moves"
def TX4 : u_T := fun k => match k with
  | 0 => ("EvenBags$Search", "market", "LEvenBags$Market;", true)
  | 1 => ("EvenBags$Search", "row", "[I", true)
  | 2 => ("EvenBags$Search", "found", "[I", true)
  | 3 => ("EvenBags$Search", "loads", "[I", true)
  | 4 => ("EvenBags$Search", "ahead", "[I", true)
  | 5 => ("EvenBags$Search", "solvedAt", "I", false)
  | 6 => ("EvenBags$Moves", "any", "Z", false)
  | 7 => ("EvenBags$Moves", "fewest", "I", false)
  | 8 => ("EvenBags$Moves", "from", "I", false)
  | 9 => ("EvenBags$Moves", "limit", "I", false)
  | _ => ("EvenBags$Moves", "movedSeen", "I", false)
def tyX4 : Nat → FieldType := fun k => match k with
  | 0 => .object "EvenBags$Market"
  | 1 => .array .int
  | 2 => .array .int
  | 3 => .array .int
  | 4 => .array .int
  | 5 => .int
  | 6 => .boolean
  | 7 => .int
  | 8 => .int
  | 9 => .int
  | _ => .int
abbrev wsX40 : List Cond := u_ws RX4 TX4 11
theorem nmX4 : ∀ a, a < 11 → ∀ b, b < 11 → a ≠ b → (TX4 a).2.1 ≠ (TX4 b).2.1 := by decide +kernel
theorem tyX4_ok : ∀ k, k < 11 → parseFieldDescriptor (TX4 k).2.2.1 = some (tyX4 k) := by decide +kernel
abbrev cX4_init : ByteArray := prog_6_method_1_code
def yX4_init : MethodName := ⟨RX4, "<init>", "(LEvenBags$Market;)V"⟩
abbrev cX4_ask : ByteArray := prog_6_method_2_code
def yX4_ask : MethodName := ⟨RX4, "ask", "(II)V"⟩
abbrev cX4_begin : ByteArray := prog_6_method_3_code
def yX4_begin : MethodName := ⟨RX4, "begin", "()V"⟩
abbrev cX4_isHopeless : ByteArray := prog_6_method_4_code
def yX4_isHopeless : MethodName := ⟨RX4, "isHopeless", "(I)Z"⟩
abbrev cX4_reach : ByteArray := prog_6_method_5_code
def yX4_reach : MethodName := ⟨RX4, "reach", "()V"⟩
def RX5 : String := "EvenBags$Pulls"
def TX5 : u_T := fun k => match k with
  | 0 => ("EvenBags$Search", "market", "LEvenBags$Market;", true)
  | 1 => ("EvenBags$Search", "row", "[I", true)
  | 2 => ("EvenBags$Search", "found", "[I", true)
  | 3 => ("EvenBags$Search", "loads", "[I", true)
  | 4 => ("EvenBags$Search", "ahead", "[I", true)
  | 5 => ("EvenBags$Search", "solvedAt", "I", false)
  | 6 => ("EvenBags$Pulls", "ways", "I", false)
  | 7 => ("EvenBags$Pulls", "sure", "I", false)
  | _ => ("EvenBags$Pulls", "told", "[J", true)
def tyX5 : Nat → FieldType := fun k => match k with
  | 0 => .object "EvenBags$Market"
  | 1 => .array .int
  | 2 => .array .int
  | 3 => .array .int
  | 4 => .array .int
  | 5 => .int
  | 6 => .int
  | 7 => .int
  | _ => .array .long
abbrev wsX50 : List Cond := u_ws RX5 TX5 9
theorem nmX5 : ∀ a, a < 9 → ∀ b, b < 9 → a ≠ b → (TX5 a).2.1 ≠ (TX5 b).2.1 := by decide +kernel
theorem tyX5_ok : ∀ k, k < 9 → parseFieldDescriptor (TX5 k).2.2.1 = some (tyX5 k) := by decide +kernel
abbrev cX5_init : ByteArray := prog_7_method_1_code
def yX5_init : MethodName := ⟨RX5, "<init>", "(LEvenBags$Market;)V"⟩
abbrev cX5_ask : ByteArray := prog_7_method_2_code
def yX5_ask : MethodName := ⟨RX5, "ask", "(IJ)V"⟩
abbrev cX5_begin : ByteArray := prog_7_method_3_code
def yX5_begin : MethodName := ⟨RX5, "begin", "()V"⟩
abbrev cX5_isHopeless : ByteArray := prog_7_method_4_code
def yX5_isHopeless : MethodName := ⟨RX5, "isHopeless", "(I)Z"⟩
abbrev cX5_reach : ByteArray := prog_7_method_5_code
def yX5_reach : MethodName := ⟨RX5, "reach", "()V"⟩
abbrev cX5_firstAsDigits : ByteArray := prog_7_method_6_code
def yX5_firstAsDigits : MethodName := ⟨RX5, "firstAsDigits", "()I"⟩
def RX6 : String := "EvenBags$Search"
def TX6 : u_T := fun k => match k with
  | _ => ("", "", "", false)
def tyX6 : Nat → FieldType := fun k => match k with
  | _ => .int
abbrev wsX60 : List Cond := u_ws RX6 TX6 0
theorem nmX6 : ∀ a, a < 0 → ∀ b, b < 0 → a ≠ b → (TX6 a).2.1 ≠ (TX6 b).2.1 := by decide +kernel
theorem tyX6_ok : ∀ k, k < 0 → parseFieldDescriptor (TX6 k).2.2.1 = some (tyX6 k) := by decide +kernel
abbrev cX6_init : ByteArray := prog_8_method_1_code
def yX6_init : MethodName := ⟨RX6, "<init>", "(LEvenBags$Market;)V"⟩
abbrev cX6_solve : ByteArray := prog_8_method_5_code
def yX6_solve : MethodName := ⟨RX6, "solve", "()V"⟩
abbrev cX6_forget : ByteArray := prog_8_method_6_code
def yX6_forget : MethodName := ⟨RX6, "forget", "()V"⟩
abbrev cX6_weighAhead : ByteArray := prog_8_method_7_code
def yX6_weighAhead : MethodName := ⟨RX6, "weighAhead", "()V"⟩
abbrev cX6_loadAhead : ByteArray := prog_8_method_8_code
def yX6_loadAhead : MethodName := ⟨RX6, "loadAhead", "(II)I"⟩
abbrev cX6_place : ByteArray := prog_8_method_9_code
def yX6_place : MethodName := ⟨RX6, "place", "(I)V"⟩
abbrev cX6_shift : ByteArray := prog_8_method_10_code
def yX6_shift : MethodName := ⟨RX6, "shift", "(III)V"⟩
abbrev cX6_stillHolds : ByteArray := prog_8_method_11_code
def yX6_stillHolds : MethodName := ⟨RX6, "stillHolds", "(I)Z"⟩
abbrev cX6_offSoFar : ByteArray := prog_8_method_12_code
def yX6_offSoFar : MethodName := ⟨RX6, "offSoFar", "(I)I"⟩
abbrev cX6_mostOff : ByteArray := prog_8_method_13_code
def yX6_mostOff : MethodName := ⟨RX6, "mostOff", "(II)I"⟩
abbrev cX6_leastOff : ByteArray := prog_8_method_14_code
def yX6_leastOff : MethodName := ⟨RX6, "leastOff", "(II)I"⟩
abbrev cX6_nearestOff : ByteArray := prog_8_method_15_code
def yX6_nearestOff : MethodName := ⟨RX6, "nearestOff", "(II)I"⟩
abbrev cX6_keepRow : ByteArray := prog_8_method_16_code
def yX6_keepRow : MethodName := ⟨RX6, "keepRow", "()V"⟩
def RX7 : String := "EvenBags$Sheet"
def TX7 : u_T := fun k => match k with
  | 0 => ("EvenBags$Sheet", "lane", "I", false)
  | 1 => ("EvenBags$Sheet", "size", "I", false)
  | _ => ("EvenBags$Sheet", "items", "[J", true)
def tyX7 : Nat → FieldType := fun k => match k with
  | 0 => .int
  | 1 => .int
  | _ => .array .long
abbrev wsX70 : List Cond := u_ws RX7 TX7 3
theorem nmX7 : ∀ a, a < 3 → ∀ b, b < 3 → a ≠ b → (TX7 a).2.1 ≠ (TX7 b).2.1 := by decide +kernel
theorem tyX7_ok : ∀ k, k < 3 → parseFieldDescriptor (TX7 k).2.2.1 = some (tyX7 k) := by decide +kernel
abbrev cX7_init : ByteArray := prog_9_method_1_code
def yX7_init : MethodName := ⟨RX7, "<init>", "()V"⟩
abbrev cX7_isMissing : ByteArray := prog_9_method_2_code
def yX7_isMissing : MethodName := ⟨RX7, "isMissing", "()Z"⟩
abbrev cX7_renew : ByteArray := prog_9_method_3_code
def yX7_renew : MethodName := ⟨RX7, "renew", "(II)V"⟩
abbrev cX7_lose : ByteArray := prog_9_method_4_code
def yX7_lose : MethodName := ⟨RX7, "lose", "()V"⟩
abbrev cX7_spans : ByteArray := prog_9_method_5_code
def yX7_spans : MethodName := ⟨RX7, "spans", "(II)Z"⟩
abbrev cX7_write : ByteArray := prog_9_method_6_code
def yX7_write : MethodName := ⟨RX7, "write", "(IJ)V"⟩
abbrev cX7_lowestBits : ByteArray := prog_9_method_7_code
def yX7_lowestBits : MethodName := ⟨RX7, "lowestBits", "(J)J"⟩
def RX8 : String := "EvenBags$Tape"
def TX8 : u_T := fun k => match k with
  | 0 => ("EvenBags$Tape", "length", "I", false)
  | 1 => ("EvenBags$Tape", "letters", "[C", true)
  | _ => ("EvenBags$Tape", "at", "I", false)
def tyX8 : Nat → FieldType := fun k => match k with
  | 0 => .int
  | 1 => .array .char
  | _ => .int
abbrev wsX80 : List Cond := u_ws RX8 TX8 3
theorem nmX8 : ∀ a, a < 3 → ∀ b, b < 3 → a ≠ b → (TX8 a).2.1 ≠ (TX8 b).2.1 := by decide +kernel
theorem tyX8_ok : ∀ k, k < 3 → parseFieldDescriptor (TX8 k).2.2.1 = some (tyX8 k) := by decide +kernel
abbrev cX8_init : ByteArray := prog_10_method_1_code
def yX8_init : MethodName := ⟨RX8, "<init>", "()V"⟩
abbrev cX8_add : ByteArray := prog_10_method_2_code
def yX8_add : MethodName := ⟨RX8, "add", "(I)I"⟩
abbrev cX8_read : ByteArray := prog_10_method_3_code
def yX8_read : MethodName := ⟨RX8, "read", "(LEvenBags$Market;)I"⟩
abbrev cX8_readThings : ByteArray := prog_10_method_4_code
def yX8_readThings : MethodName := ⟨RX8, "readThings", "(LEvenBags$Market;)Z"⟩
abbrev cX8_readStretches : ByteArray := prog_10_method_5_code
def yX8_readStretches : MethodName := ⟨RX8, "readStretches", "(LEvenBags$Market;)Z"⟩
abbrev cX8_readThing : ByteArray := prog_10_method_6_code
def yX8_readThing : MethodName := ⟨RX8, "readThing", "(LEvenBags$Market;)Z"⟩
abbrev cX8_readStretch : ByteArray := prog_10_method_7_code
def yX8_readStretch : MethodName := ⟨RX8, "readStretch", "(LEvenBags$Market;)Z"⟩
abbrev cX8_readStop : ByteArray := prog_10_method_8_code
def yX8_readStop : MethodName := ⟨RX8, "readStop", "()I"⟩
abbrev cX8_readNumber : ByteArray := prog_10_method_9_code
def yX8_readNumber : MethodName := ⟨RX8, "readNumber", "()I"⟩
abbrev cX8_passes : ByteArray := prog_10_method_10_code
def yX8_passes : MethodName := ⟨RX8, "passes", "(C)Z"⟩
abbrev cX8_skipBlanks : ByteArray := prog_10_method_11_code
def yX8_skipBlanks : MethodName := ⟨RX8, "skipBlanks", "()V"⟩
def RX9 : String := "EvenBags"
def TX9 : u_T := fun k => match k with
  | 0 => ("EvenBags", "now", "LEvenBags$Market;", true)
  | 1 => ("EvenBags", "kept", "LEvenBags$Market;", true)
  | 2 => ("EvenBags", "draft", "LEvenBags$Market;", true)
  | 3 => ("EvenBags", "tape", "LEvenBags$Tape;", true)
  | 4 => ("EvenBags", "evenestOfAll", "LEvenBags$Best;", true)
  | 5 => ("EvenBags", "moves", "LEvenBags$Moves;", true)
  | 6 => ("EvenBags", "pulls", "LEvenBags$Pulls;", true)
  | 7 => ("EvenBags", "errand", "LEvenBags$Errand;", true)
  | 8 => ("EvenBags", "guests", "LEvenBags$Guests;", true)
  | 9 => ("EvenBags", "sheets", "[LEvenBags$Sheet;", true)
  | 10 => ("EvenBags", "perYard", "[I", true)
  | _ => ("EvenBags", "hasImage", "Z", false)
def tyX9 : Nat → FieldType := fun k => match k with
  | 0 => .object "EvenBags$Market"
  | 1 => .object "EvenBags$Market"
  | 2 => .object "EvenBags$Market"
  | 3 => .object "EvenBags$Tape"
  | 4 => .object "EvenBags$Best"
  | 5 => .object "EvenBags$Moves"
  | 6 => .object "EvenBags$Pulls"
  | 7 => .object "EvenBags$Errand"
  | 8 => .object "EvenBags$Guests"
  | 9 => .array (.object "EvenBags$Sheet")
  | 10 => .array .int
  | _ => .boolean
abbrev wsX90 : List Cond := u_ws RX9 TX9 12
theorem nmX9 : ∀ a, a < 12 → ∀ b, b < 12 → a ≠ b → (TX9 a).2.1 ≠ (TX9 b).2.1 := by decide +kernel
theorem tyX9_ok : ∀ k, k < 12 → parseFieldDescriptor (TX9 k).2.2.1 = some (tyX9 k) := by decide +kernel
abbrev cX9_init : ByteArray := prog_1_method_1_code
def yX9_init : MethodName := ⟨RX9, "<init>", "()V"⟩
abbrev cX9_thing : ByteArray := prog_1_method_2_code
def yX9_thing : MethodName := ⟨RX9, "thing", "(II)I"⟩
abbrev cX9_told : ByteArray := prog_1_method_3_code
def yX9_told : MethodName := ⟨RX9, "told", "(II)I"⟩
abbrev cX9_set : ByteArray := prog_1_method_4_code
def yX9_set : MethodName := ⟨RX9, "set", "(III)I"⟩
abbrev cX9_stretch : ByteArray := prog_1_method_5_code
def yX9_stretch : MethodName := ⟨RX9, "stretch", "(IZ)I"⟩
abbrev cX9_of : ByteArray := prog_1_method_6_code
def yX9_of : MethodName := ⟨RX9, "of", "(II)I"⟩
abbrev cX9_bag : ByteArray := prog_1_method_7_code
def yX9_bag : MethodName := ⟨RX9, "bag", "(III)I"⟩
abbrev cX9_arm : ByteArray := prog_1_method_8_code
def yX9_arm : MethodName := ⟨RX9, "arm", "(II)I"⟩
abbrev cX9_rule : ByteArray := prog_1_method_9_code
def yX9_rule : MethodName := ⟨RX9, "rule", "(III)I"⟩
abbrev cX9_off : ByteArray := prog_1_method_10_code
def yX9_off : MethodName := ⟨RX9, "off", "()I"⟩
abbrev cX9_type : ByteArray := prog_1_method_11_code
def yX9_type : MethodName := ⟨RX9, "type", "(I)I"⟩
abbrev cX9_market : ByteArray := prog_1_method_12_code
def yX9_market : MethodName := ⟨RX9, "market", "()I"⟩
abbrev cX9_count : ByteArray := prog_1_method_13_code
def yX9_count : MethodName := ⟨RX9, "count", "(I)I"⟩
abbrev cX9_load : ByteArray := prog_1_method_14_code
def yX9_load : MethodName := ⟨RX9, "load", "(II)I"⟩
abbrev cX9_lawful : ByteArray := prog_1_method_15_code
def yX9_lawful : MethodName := ⟨RX9, "lawful", "()I"⟩
abbrev cX9_pull : ByteArray := prog_1_method_16_code
def yX9_pull : MethodName := ⟨RX9, "pull", "(I)I"⟩
abbrev cX9_uneven : ByteArray := prog_1_method_17_code
def yX9_uneven : MethodName := ⟨RX9, "uneven", "(I)I"⟩
abbrev cX9_best : ByteArray := prog_1_method_18_code
def yX9_best : MethodName := ⟨RX9, "best", "(I)I"⟩
abbrev cX9_pack : ByteArray := prog_1_method_19_code
def yX9_pack : MethodName := ⟨RX9, "pack", "()I"⟩
abbrev cX9_evenest : ByteArray := prog_1_method_20_code
def yX9_evenest : MethodName := ⟨RX9, "evenest", "(II)I"⟩
abbrev cX9_moved : ByteArray := prog_1_method_21_code
def yX9_moved : MethodName := ⟨RX9, "moved", "(III)I"⟩
abbrev cX9_hands : ByteArray := prog_1_method_22_code
def yX9_hands : MethodName := ⟨RX9, "hands", "(II)I"⟩
abbrev cX9_buying : ByteArray := prog_1_method_23_code
def yX9_buying : MethodName := ⟨RX9, "buying", "(I)I"⟩
abbrev cX9_paper : ByteArray := prog_1_method_24_code
def yX9_paper : MethodName := ⟨RX9, "paper", "(II)I"⟩
abbrev cX9_pole : ByteArray := prog_1_method_25_code
def yX9_pole : MethodName := ⟨RX9, "pole", "(IIII)I"⟩
abbrev cX9_bar : ByteArray := prog_1_method_26_code
def yX9_bar : MethodName := ⟨RX9, "bar", "(II)I"⟩
abbrev cX9_hung : ByteArray := prog_1_method_27_code
def yX9_hung : MethodName := ⟨RX9, "hung", "(II)I"⟩
abbrev cX9_image : ByteArray := prog_1_method_28_code
def yX9_image : MethodName := ⟨RX9, "image", "()I"⟩
abbrev cX9_restore : ByteArray := prog_1_method_29_code
def yX9_restore : MethodName := ⟨RX9, "restore", "()I"⟩
abbrev cX9_tray : ByteArray := prog_1_method_30_code
def yX9_tray : MethodName := ⟨RX9, "tray", "(IIIII)I"⟩
abbrev cX9_pulled : ByteArray := prog_1_method_31_code
def yX9_pulled : MethodName := ⟨RX9, "pulled", "(IIII)I"⟩
abbrev cX9_film : ByteArray := prog_1_method_32_code
def yX9_film : MethodName := ⟨RX9, "film", "(III)I"⟩
abbrev cX9_lay : ByteArray := prog_1_method_33_code
def yX9_lay : MethodName := ⟨RX9, "lay", "(III)I"⟩
abbrev cX9_sheet : ByteArray := prog_1_method_34_code
def yX9_sheet : MethodName := ⟨RX9, "sheet", "(III)I"⟩
abbrev cX9_drop : ByteArray := prog_1_method_35_code
def yX9_drop : MethodName := ⟨RX9, "drop", "(I)I"⟩
abbrev cX9_item : ByteArray := prog_1_method_36_code
def yX9_item : MethodName := ⟨RX9, "item", "(IIIJ)I"⟩
abbrev cX9_copy : ByteArray := prog_1_method_37_code
def yX9_copy : MethodName := ⟨RX9, "copy", "(IIIII)I"⟩
abbrev cX9_within : ByteArray := prog_1_method_38_code
def yX9_within : MethodName := ⟨RX9, "within", "(III)Z"⟩
abbrev cX9_isBag : ByteArray := prog_1_method_39_code
def yX9_isBag : MethodName := ⟨RX9, "isBag", "(I)Z"⟩
abbrev cX9_isSheet : ByteArray := prog_1_method_40_code
def yX9_isSheet : MethodName := ⟨RX9, "isSheet", "(I)Z"⟩
abbrev cX9_isThing : ByteArray := prog_1_method_41_code
def yX9_isThing : MethodName := ⟨RX9, "isThing", "(I)Z"⟩
abbrev cX9_isStretch : ByteArray := prog_1_method_42_code
def yX9_isStretch : MethodName := ⟨RX9, "isStretch", "(I)Z"⟩
abbrev cX9_isEnd : ByteArray := prog_1_method_43_code
def yX9_isEnd : MethodName := ⟨RX9, "isEnd", "(I)Z"⟩
abbrev cX9_refusalOf : ByteArray := prog_1_method_44_code
def yX9_refusalOf : MethodName := ⟨RX9, "refusalOf", "(IIII)I"⟩
abbrev cX9_yardOf : ByteArray := prog_1_method_45_code
def yX9_yardOf : MethodName := ⟨RX9, "yardOf", "(II)I"⟩
abbrev cX9_levelAt : ByteArray := prog_1_method_46_code
def yX9_levelAt : MethodName := ⟨RX9, "levelAt", "(IIII)I"⟩
abbrev cX9_inLowestTerms : ByteArray := prog_1_method_47_code
def yX9_inLowestTerms : MethodName := ⟨RX9, "inLowestTerms", "(III)I"⟩
def RX10 : String := "EvenBagsModel"
def TX10 : u_T := fun k => match k with
  | 0 => ("EvenBagsModel", "things", "I", false)
  | 1 => ("EvenBagsModel", "kinds", "[I", true)
  | 2 => ("EvenBagsModel", "weights", "[I", true)
  | 3 => ("EvenBagsModel", "stops", "[I", true)
  | 4 => ("EvenBagsModel", "stalls", "[I", true)
  | 5 => ("EvenBagsModel", "bags", "[I", true)
  | 6 => ("EvenBagsModel", "stretches", "I", false)
  | 7 => ("EvenBagsModel", "yards", "[I", true)
  | 8 => ("EvenBagsModel", "ups", "[I", true)
  | 9 => ("EvenBagsModel", "holds", "[I", true)
  | 10 => ("EvenBagsModel", "gives", "[I", true)
  | 11 => ("EvenBagsModel", "arms", "[I", true)
  | 12 => ("EvenBagsModel", "laws", "I", false)
  | 13 => ("EvenBagsModel", "ones", "[I", true)
  | 14 => ("EvenBagsModel", "twos", "[I", true)
  | 15 => ("EvenBagsModel", "whats", "[I", true)
  | 16 => ("EvenBagsModel", "bars", "I", false)
  | 17 => ("EvenBagsModel", "firsts", "[I", true)
  | 18 => ("EvenBagsModel", "others", "[I", true)
  | 19 => ("EvenBagsModel", "tape", "[I", true)
  | 20 => ("EvenBagsModel", "taped", "I", false)
  | 21 => ("EvenBagsModel", "at", "I", false)
  | 22 => ("EvenBagsModel", "wrong", "Z", false)
  | 23 => ("EvenBagsModel", "readThings", "I", false)
  | 24 => ("EvenBagsModel", "readStretches", "I", false)
  | 25 => ("EvenBagsModel", "readOf", "[I", true)
  | 26 => ("EvenBagsModel", "readWay", "[I", true)
  | 27 => ("EvenBagsModel", "worst", "I", false)
  | 28 => ("EvenBagsModel", "whole", "I", false)
  | 29 => ("EvenBagsModel", "tried", "[I", true)
  | 30 => ("EvenBagsModel", "found", "[I", true)
  | 31 => ("EvenBagsModel", "bestWorst", "I", false)
  | 32 => ("EvenBagsModel", "bestWhole", "I", false)
  | 33 => ("EvenBagsModel", "costs", "[I", true)
  | 34 => ("EvenBagsModel", "hung", "[I", true)
  | 35 => ("EvenBagsModel", "image", "[I", true)
  | 36 => ("EvenBagsModel", "isImage", "Z", false)
  | 37 => ("EvenBagsModel", "lanes", "[I", true)
  | 38 => ("EvenBagsModel", "sizes", "[I", true)
  | 39 => ("EvenBagsModel", "items", "[J", true)
  | 40 => ("EvenBagsModel", "copied", "[J", true)
  | 41 => ("EvenBagsModel", "stands", "[I", true)
  | _ => ("EvenBagsModel", "orders", "[I", true)
def tyX10 : Nat → FieldType := fun k => match k with
  | 0 => .int
  | 1 => .array .int
  | 2 => .array .int
  | 3 => .array .int
  | 4 => .array .int
  | 5 => .array .int
  | 6 => .int
  | 7 => .array .int
  | 8 => .array .int
  | 9 => .array .int
  | 10 => .array .int
  | 11 => .array .int
  | 12 => .int
  | 13 => .array .int
  | 14 => .array .int
  | 15 => .array .int
  | 16 => .int
  | 17 => .array .int
  | 18 => .array .int
  | 19 => .array .int
  | 20 => .int
  | 21 => .int
  | 22 => .boolean
  | 23 => .int
  | 24 => .int
  | 25 => .array .int
  | 26 => .array .int
  | 27 => .int
  | 28 => .int
  | 29 => .array .int
  | 30 => .array .int
  | 31 => .int
  | 32 => .int
  | 33 => .array .int
  | 34 => .array .int
  | 35 => .array .int
  | 36 => .boolean
  | 37 => .array .int
  | 38 => .array .int
  | 39 => .array .long
  | 40 => .array .long
  | 41 => .array .int
  | _ => .array .int
abbrev wsX100 : List Cond := u_ws RX10 TX10 43
theorem nmX10 : ∀ a, a < 43 → ∀ b, b < 43 → a ≠ b → (TX10 a).2.1 ≠ (TX10 b).2.1 := by decide +kernel
theorem tyX10_ok : ∀ k, k < 43 → parseFieldDescriptor (TX10 k).2.2.1 = some (tyX10 k) := by decide +kernel
abbrev cX10_in : ByteArray := prog_12_method_2_code
def yX10_in : MethodName := ⟨RX10, "in", "(JJJ)Z"⟩
abbrev cX10_init : ByteArray := prog_12_method_3_code
def yX10_init : MethodName := ⟨RX10, "<init>", "()V"⟩
abbrev cX10_isThing : ByteArray := prog_12_method_4_code
def yX10_isThing : MethodName := ⟨RX10, "isThing", "(J)Z"⟩
abbrev cX10_isStretch : ByteArray := prog_12_method_5_code
def yX10_isStretch : MethodName := ⟨RX10, "isStretch", "(I)Z"⟩
abbrev cX10_isBag : ByteArray := prog_12_method_6_code
def yX10_isBag : MethodName := ⟨RX10, "isBag", "(J)Z"⟩
abbrev cX10_comes : ByteArray := prog_12_method_7_code
def yX10_comes : MethodName := ⟨RX10, "comes", "(III)V"⟩
abbrev cX10_thing : ByteArray := prog_12_method_8_code
def yX10_thing : MethodName := ⟨RX10, "thing", "(II)I"⟩
abbrev cX10_hangs : ByteArray := prog_12_method_9_code
def yX10_hangs : MethodName := ⟨RX10, "hangs", "(I)Z"⟩
abbrev cX10_told : ByteArray := prog_12_method_10_code
def yX10_told : MethodName := ⟨RX10, "told", "(II)I"⟩
abbrev cX10_set : ByteArray := prog_12_method_11_code
def yX10_set : MethodName := ⟨RX10, "set", "(III)I"⟩
abbrev cX10_stretch : ByteArray := prog_12_method_12_code
def yX10_stretch : MethodName := ⟨RX10, "stretch", "(IZ)I"⟩
abbrev cX10_of : ByteArray := prog_12_method_13_code
def yX10_of : MethodName := ⟨RX10, "of", "(II)I"⟩
abbrev cX10_bag : ByteArray := prog_12_method_14_code
def yX10_bag : MethodName := ⟨RX10, "bag", "(III)I"⟩
abbrev cX10_arm : ByteArray := prog_12_method_15_code
def yX10_arm : MethodName := ⟨RX10, "arm", "(II)I"⟩
abbrev cX10_rule : ByteArray := prog_12_method_16_code
def yX10_rule : MethodName := ⟨RX10, "rule", "(III)I"⟩
abbrev cX10_off : ByteArray := prog_12_method_17_code
def yX10_off : MethodName := ⟨RX10, "off", "()I"⟩
abbrev cX10_wayTo : ByteArray := prog_12_method_18_code
def yX10_wayTo : MethodName := ⟨RX10, "wayTo", "(I)I"⟩
abbrev cX10_count : ByteArray := prog_12_method_19_code
def yX10_count : MethodName := ⟨RX10, "count", "(I)I"⟩
abbrev cX10_type : ByteArray := prog_12_method_20_code
def yX10_type : MethodName := ⟨RX10, "type", "(I)I"⟩
abbrev cX10_here : ByteArray := prog_12_method_21_code
def yX10_here : MethodName := ⟨RX10, "here", "()I"⟩
abbrev cX10_has : ByteArray := prog_12_method_22_code
def yX10_has : MethodName := ⟨RX10, "has", "(I)Z"⟩
abbrev cX10_number : ByteArray := prog_12_method_23_code
def yX10_number : MethodName := ⟨RX10, "number", "()I"⟩
abbrev cX10_readThing : ByteArray := prog_12_method_24_code
def yX10_readThing : MethodName := ⟨RX10, "readThing", "()V"⟩
abbrev cX10_market : ByteArray := prog_12_method_25_code
def yX10_market : MethodName := ⟨RX10, "market", "()I"⟩
abbrev cX10_loadOf : ByteArray := prog_12_method_26_code
def yX10_loadOf : MethodName := ⟨RX10, "loadOf", "(II)I"⟩
abbrev cX10_loads : ByteArray := prog_12_method_27_code
def yX10_loads : MethodName := ⟨RX10, "loads", "([III)I"⟩
abbrev cX10_load : ByteArray := prog_12_method_28_code
def yX10_load : MethodName := ⟨RX10, "load", "(II)I"⟩
abbrev cX10_doHold : ByteArray := prog_12_method_29_code
def yX10_doHold : MethodName := ⟨RX10, "doHold", "([I)Z"⟩
abbrev cX10_areLaws : ByteArray := prog_12_method_30_code
def yX10_areLaws : MethodName := ⟨RX10, "areLaws", "([I)Z"⟩
abbrev cX10_areSoft : ByteArray := prog_12_method_31_code
def yX10_areSoft : MethodName := ⟨RX10, "areSoft", "([I)Z"⟩
abbrev cX10_whyNot : ByteArray := prog_12_method_32_code
def yX10_whyNot : MethodName := ⟨RX10, "whyNot", "([I)I"⟩
abbrev cX10_isLawful : ByteArray := prog_12_method_33_code
def yX10_isLawful : MethodName := ⟨RX10, "isLawful", "([I)Z"⟩
abbrev cX10_lawful : ByteArray := prog_12_method_34_code
def yX10_lawful : MethodName := ⟨RX10, "lawful", "()I"⟩
abbrev cX10_offOf : ByteArray := prog_12_method_35_code
def yX10_offOf : MethodName := ⟨RX10, "offOf", "([II)I"⟩
abbrev cX10_plain : ByteArray := prog_12_method_36_code
def yX10_plain : MethodName := ⟨RX10, "plain", "(I)I"⟩
abbrev cX10_pull : ByteArray := prog_12_method_37_code
def yX10_pull : MethodName := ⟨RX10, "pull", "(I)I"⟩
abbrev cX10_unevens : ByteArray := prog_12_method_38_code
def yX10_unevens : MethodName := ⟨RX10, "unevens", "([I)V"⟩
abbrev cX10_uneven : ByteArray := prog_12_method_39_code
def yX10_uneven : MethodName := ⟨RX10, "uneven", "(I)I"⟩
abbrev cX10_begins : ByteArray := prog_12_method_40_code
def yX10_begins : MethodName := ⟨RX10, "begins", "()V"⟩
abbrev cX10_turns : ByteArray := prog_12_method_41_code
def yX10_turns : MethodName := ⟨RX10, "turns", "(I)Z"⟩
abbrev cX10_finds : ByteArray := prog_12_method_42_code
def yX10_finds : MethodName := ⟨RX10, "finds", "()V"⟩
abbrev cX10_isBest : ByteArray := prog_12_method_43_code
def yX10_isBest : MethodName := ⟨RX10, "isBest", "()Z"⟩
abbrev cX10_best : ByteArray := prog_12_method_44_code
def yX10_best : MethodName := ⟨RX10, "best", "(I)I"⟩
abbrev cX10_pack : ByteArray := prog_12_method_45_code
def yX10_pack : MethodName := ⟨RX10, "pack", "()I"⟩
abbrev cX10_evenest : ByteArray := prog_12_method_46_code
def yX10_evenest : MethodName := ⟨RX10, "evenest", "(II)I"⟩
abbrev cX10_changes : ByteArray := prog_12_method_47_code
def yX10_changes : MethodName := ⟨RX10, "changes", "([I)I"⟩
abbrev cX10_moved : ByteArray := prog_12_method_48_code
def yX10_moved : MethodName := ⟨RX10, "moved", "(III)I"⟩
abbrev cX10_common : ByteArray := prog_12_method_49_code
def yX10_common : MethodName := ⟨RX10, "common", "(II)I"⟩
abbrev cX10_part : ByteArray := prog_12_method_50_code
def yX10_part : MethodName := ⟨RX10, "part", "(III)I"⟩
abbrev cX10_hands : ByteArray := prog_12_method_51_code
def yX10_hands : MethodName := ⟨RX10, "hands", "(II)I"⟩
abbrev cX10_paper : ByteArray := prog_12_method_52_code
def yX10_paper : MethodName := ⟨RX10, "paper", "(II)I"⟩
abbrev cX10_pole : ByteArray := prog_12_method_53_code
def yX10_pole : MethodName := ⟨RX10, "pole", "(IIII)I"⟩
abbrev cX10_apart : ByteArray := prog_12_method_54_code
def yX10_apart : MethodName := ⟨RX10, "apart", "(II)I"⟩
abbrev cX10_bought : ByteArray := prog_12_method_55_code
def yX10_bought : MethodName := ⟨RX10, "bought", "(I)I"⟩
abbrev cX10_onFrom : ByteArray := prog_12_method_56_code
def yX10_onFrom : MethodName := ⟨RX10, "onFrom", "(II)I"⟩
abbrev cX10_buying : ByteArray := prog_12_method_57_code
def yX10_buying : MethodName := ⟨RX10, "buying", "(I)I"⟩
abbrev cX10_isEnd : ByteArray := prog_12_method_58_code
def yX10_isEnd : MethodName := ⟨RX10, "isEnd", "(I)Z"⟩
abbrev cX10_bar : ByteArray := prog_12_method_59_code
def yX10_bar : MethodName := ⟨RX10, "bar", "(II)I"⟩
abbrev cX10_hangsOn : ByteArray := prog_12_method_60_code
def yX10_hangsOn : MethodName := ⟨RX10, "hangsOn", "(I)I"⟩
abbrev cX10_hung : ByteArray := prog_12_method_61_code
def yX10_hung : MethodName := ⟨RX10, "hung", "(II)I"⟩
abbrev cX10_notes : ByteArray := prog_12_method_62_code
def yX10_notes : MethodName := ⟨RX10, "notes", "([II)I"⟩
abbrev cX10_givesBack : ByteArray := prog_12_method_63_code
def yX10_givesBack : MethodName := ⟨RX10, "givesBack", "(I[I)I"⟩
abbrev cX10_image : ByteArray := prog_12_method_64_code
def yX10_image : MethodName := ⟨RX10, "image", "()I"⟩
abbrev cX10_restore : ByteArray := prog_12_method_65_code
def yX10_restore : MethodName := ⟨RX10, "restore", "()I"⟩
abbrev cX10_isSheet : ByteArray := prog_12_method_66_code
def yX10_isSheet : MethodName := ⟨RX10, "isSheet", "(I)Z"⟩
abbrev cX10_isLane : ByteArray := prog_12_method_67_code
def yX10_isLane : MethodName := ⟨RX10, "isLane", "(I)Z"⟩
abbrev cX10_why : ByteArray := prog_12_method_68_code
def yX10_why : MethodName := ⟨RX10, "why", "(IIII)I"⟩
abbrev cX10_across : ByteArray := prog_12_method_69_code
def yX10_across : MethodName := ⟨RX10, "across", "(I)I"⟩
abbrev cX10_isTipped : ByteArray := prog_12_method_70_code
def yX10_isTipped : MethodName := ⟨RX10, "isTipped", "(II)Z"⟩
abbrev cX10_ordersOf : ByteArray := prog_12_method_71_code
def yX10_ordersOf : MethodName := ⟨RX10, "ordersOf", "(II)I"⟩
abbrev cX10_tray : ByteArray := prog_12_method_72_code
def yX10_tray : MethodName := ⟨RX10, "tray", "(IIIII)I"⟩
abbrev cX10_pulled : ByteArray := prog_12_method_73_code
def yX10_pulled : MethodName := ⟨RX10, "pulled", "(IIII)I"⟩
abbrev cX10_puts : ByteArray := prog_12_method_74_code
def yX10_puts : MethodName := ⟨RX10, "puts", "(IIJ)V"⟩
abbrev cX10_film : ByteArray := prog_12_method_75_code
def yX10_film : MethodName := ⟨RX10, "film", "(III)I"⟩
abbrev cX10_lay : ByteArray := prog_12_method_76_code
def yX10_lay : MethodName := ⟨RX10, "lay", "(III)I"⟩
abbrev cX10_sheet : ByteArray := prog_12_method_77_code
def yX10_sheet : MethodName := ⟨RX10, "sheet", "(III)I"⟩
abbrev cX10_drop : ByteArray := prog_12_method_78_code
def yX10_drop : MethodName := ⟨RX10, "drop", "(I)I"⟩
abbrev cX10_item : ByteArray := prog_12_method_79_code
def yX10_item : MethodName := ⟨RX10, "item", "(IIIJ)I"⟩
abbrev cX10_copy : ByteArray := prog_12_method_80_code
def yX10_copy : MethodName := ⟨RX10, "copy", "(IIIII)I"⟩
def RL : String := "EvenBagsLaw"
abbrev cL_law : ByteArray := code
def yL_law : MethodName := ⟨RL, "law", "([I)Z"⟩
abbrev vwCl : List vw_C := [(RX0, TX0, 11), (RX1, TX1, 5), (RX2, TX2, 4), (RX3, TX3, 20), (RX4, TX4, 11), (RX5, TX5, 9), (RX7, TX7, 3), (RX8, TX8, 3), (RX9, TX9, 12), (RX10, TX10, 43)]
end
section
theorem dX0_init_0 : decode cX0_init 0 = .ok (.aload_n 0, 1) := by decide +kernel
theorem dX0_init_1 : decode cX0_init 1 = .ok (.aload_n 1, 1) := by decide +kernel
theorem dX0_init_2 : decode cX0_init 2 = .ok (.invokespecial 1, 3) := by decide +kernel
theorem dX0_init_5 : decode cX0_init 5 = .ok (.aload_n 0, 1) := by decide +kernel
theorem dX0_init_6 : decode cX0_init 6 = .ok (.iconst 0, 1) := by decide +kernel
theorem dX0_init_7 : decode cX0_init 7 = .ok (.putfield 7, 3) := by decide +kernel
theorem dX0_init_10 : decode cX0_init 10 = .ok (.aload_n 0, 1) := by decide +kernel
theorem dX0_init_11 : decode cX0_init 11 = .ok (.iconst 0, 1) := by decide +kernel
theorem dX0_init_12 : decode cX0_init 12 = .ok (.putfield 13, 3) := by decide +kernel
theorem dX0_init_15 : decode cX0_init 15 = .ok (.aload_n 0, 1) := by decide +kernel
theorem dX0_init_16 : decode cX0_init 16 = .ok (.iconst 0, 1) := by decide +kernel
theorem dX0_init_17 : decode cX0_init 17 = .ok (.putfield 17, 3) := by decide +kernel
theorem dX0_init_20 : decode cX0_init 20 = .ok (.aload_n 0, 1) := by decide +kernel
theorem dX0_init_21 : decode cX0_init 21 = .ok (.iconst 0, 1) := by decide +kernel
theorem dX0_init_22 : decode cX0_init 22 = .ok (.putfield 20, 3) := by decide +kernel
theorem dX0_init_25 : decode cX0_init 25 = .ok (.aload_n 0, 1) := by decide +kernel
theorem dX0_init_26 : decode cX0_init 26 = .ok (.iconst 0, 1) := by decide +kernel
theorem dX0_init_27 : decode cX0_init 27 = .ok (.putfield 23, 3) := by decide +kernel
theorem dX0_init_30 : decode cX0_init 30 = .ok (.return_, 1) := by decide +kernel
theorem dX0_begin_0 : decode cX0_begin 0 = .ok (.aload_n 0, 1) := by decide +kernel
theorem dX0_begin_1 : decode cX0_begin 1 = .ok (.iconst 0, 1) := by decide +kernel
theorem dX0_begin_2 : decode cX0_begin 2 = .ok (.putfield 7, 3) := by decide +kernel
theorem dX0_begin_5 : decode cX0_begin 5 = .ok (.return_, 1) := by decide +kernel
theorem dX0_isHopeless_0 : decode cX0_isHopeless 0 = .ok (.aload_n 0, 1) := by decide +kernel
theorem dX0_isHopeless_1 : decode cX0_isHopeless 1 = .ok (.iconst 0, 1) := by decide +kernel
theorem dX0_isHopeless_2 : decode cX0_isHopeless 2 = .ok (.putfield 20, 3) := by decide +kernel
theorem dX0_isHopeless_5 : decode cX0_isHopeless 5 = .ok (.aload_n 0, 1) := by decide +kernel
theorem dX0_isHopeless_6 : decode cX0_isHopeless 6 = .ok (.iconst 0, 1) := by decide +kernel
theorem dX0_isHopeless_7 : decode cX0_isHopeless 7 = .ok (.putfield 23, 3) := by decide +kernel
theorem dX0_isHopeless_10 : decode cX0_isHopeless 10 = .ok (.iconst 0, 1) := by decide +kernel
theorem dX0_isHopeless_11 : decode cX0_isHopeless 11 = .ok (.istore_n 2, 1) := by decide +kernel
theorem dX0_isHopeless_12 : decode cX0_isHopeless 12 = .ok (.iload_n 2, 1) := by decide +kernel
theorem dX0_isHopeless_13 : decode cX0_isHopeless 13 = .ok (.aload_n 0, 1) := by decide +kernel
theorem dX0_isHopeless_14 : decode cX0_isHopeless 14 = .ok (.getfield 26, 3) := by decide +kernel
theorem dX0_isHopeless_17 : decode cX0_isHopeless 17 = .ok (.getfield 30, 3) := by decide +kernel
theorem dX0_isHopeless_20 : decode cX0_isHopeless 20 = .ok (.if_icmp .ge 57, 3) := by decide +kernel
theorem dX0_isHopeless_23 : decode cX0_isHopeless 23 = .ok (.aload_n 0, 1) := by decide +kernel
theorem dX0_isHopeless_24 : decode cX0_isHopeless 24 = .ok (.iload_n 1, 1) := by decide +kernel
theorem dX0_isHopeless_25 : decode cX0_isHopeless 25 = .ok (.iload_n 2, 1) := by decide +kernel
theorem dX0_isHopeless_26 : decode cX0_isHopeless 26 = .ok (.invokevirtual 35, 3) := by decide +kernel
theorem dX0_isHopeless_29 : decode cX0_isHopeless 29 = .ok (.istore_n 3, 1) := by decide +kernel
theorem dX0_isHopeless_30 : decode cX0_isHopeless 30 = .ok (.aload_n 0, 1) := by decide +kernel
theorem dX0_isHopeless_31 : decode cX0_isHopeless 31 = .ok (.aload_n 0, 1) := by decide +kernel
theorem dX0_isHopeless_32 : decode cX0_isHopeless 32 = .ok (.getfield 20, 3) := by decide +kernel
theorem dX0_isHopeless_35 : decode cX0_isHopeless 35 = .ok (.iload_n 3, 1) := by decide +kernel
theorem dX0_isHopeless_36 : decode cX0_isHopeless 36 = .ok (.invokestatic 39, 3) := by decide +kernel
theorem dX0_isHopeless_39 : decode cX0_isHopeless 39 = .ok (.putfield 20, 3) := by decide +kernel
theorem dX0_isHopeless_42 : decode cX0_isHopeless 42 = .ok (.aload_n 0, 1) := by decide +kernel
theorem dX0_isHopeless_43 : decode cX0_isHopeless 43 = .ok (.dup, 1) := by decide +kernel
theorem dX0_isHopeless_44 : decode cX0_isHopeless 44 = .ok (.getfield 23, 3) := by decide +kernel
theorem dX0_isHopeless_47 : decode cX0_isHopeless 47 = .ok (.iload_n 3, 1) := by decide +kernel
theorem dX0_isHopeless_48 : decode cX0_isHopeless 48 = .ok (.aload_n 0, 1) := by decide +kernel
theorem dX0_isHopeless_49 : decode cX0_isHopeless 49 = .ok (.getfield 26, 3) := by decide +kernel
theorem dX0_isHopeless_52 : decode cX0_isHopeless 52 = .ok (.getfield 44, 3) := by decide +kernel
theorem dX0_isHopeless_55 : decode cX0_isHopeless 55 = .ok (.iload_n 2, 1) := by decide +kernel
theorem dX0_isHopeless_56 : decode cX0_isHopeless 56 = .ok (.iaload, 1) := by decide +kernel
theorem dX0_isHopeless_57 : decode cX0_isHopeless 57 = .ok (.imul, 1) := by decide +kernel
theorem dX0_isHopeless_58 : decode cX0_isHopeless 58 = .ok (.aload_n 0, 1) := by decide +kernel
theorem dX0_isHopeless_59 : decode cX0_isHopeless 59 = .ok (.getfield 26, 3) := by decide +kernel
theorem dX0_isHopeless_62 : decode cX0_isHopeless 62 = .ok (.iload_n 2, 1) := by decide +kernel
theorem dX0_isHopeless_63 : decode cX0_isHopeless 63 = .ok (.invokevirtual 48, 3) := by decide +kernel
theorem dX0_isHopeless_66 : decode cX0_isHopeless 66 = .ok (.imul, 1) := by decide +kernel
theorem dX0_isHopeless_67 : decode cX0_isHopeless 67 = .ok (.iadd, 1) := by decide +kernel
theorem dX0_isHopeless_68 : decode cX0_isHopeless 68 = .ok (.putfield 23, 3) := by decide +kernel
theorem dX0_isHopeless_71 : decode cX0_isHopeless 71 = .ok (.iinc 2 1, 3) := by decide +kernel
theorem dX0_isHopeless_74 : decode cX0_isHopeless 74 = .ok (.goto (-62), 3) := by decide +kernel
theorem dX0_isHopeless_77 : decode cX0_isHopeless 77 = .ok (.aload_n 0, 1) := by decide +kernel
theorem dX0_isHopeless_78 : decode cX0_isHopeless 78 = .ok (.getfield 7, 3) := by decide +kernel
theorem dX0_isHopeless_81 : decode cX0_isHopeless 81 = .ok (.ifCond .eq 40, 3) := by decide +kernel
theorem dX0_isHopeless_84 : decode cX0_isHopeless 84 = .ok (.aload_n 0, 1) := by decide +kernel
theorem dX0_isHopeless_85 : decode cX0_isHopeless 85 = .ok (.getfield 20, 3) := by decide +kernel
theorem dX0_isHopeless_88 : decode cX0_isHopeless 88 = .ok (.aload_n 0, 1) := by decide +kernel
theorem dX0_isHopeless_89 : decode cX0_isHopeless 89 = .ok (.getfield 13, 3) := by decide +kernel
theorem dX0_isHopeless_92 : decode cX0_isHopeless 92 = .ok (.if_icmp .gt 25, 3) := by decide +kernel
theorem dX0_isHopeless_95 : decode cX0_isHopeless 95 = .ok (.aload_n 0, 1) := by decide +kernel
theorem dX0_isHopeless_96 : decode cX0_isHopeless 96 = .ok (.getfield 20, 3) := by decide +kernel
theorem dX0_isHopeless_99 : decode cX0_isHopeless 99 = .ok (.aload_n 0, 1) := by decide +kernel
theorem dX0_isHopeless_100 : decode cX0_isHopeless 100 = .ok (.getfield 13, 3) := by decide +kernel
theorem dX0_isHopeless_103 : decode cX0_isHopeless 103 = .ok (.if_icmp .ne 18, 3) := by decide +kernel
theorem dX0_isHopeless_106 : decode cX0_isHopeless 106 = .ok (.aload_n 0, 1) := by decide +kernel
theorem dX0_isHopeless_107 : decode cX0_isHopeless 107 = .ok (.getfield 23, 3) := by decide +kernel
theorem dX0_isHopeless_110 : decode cX0_isHopeless 110 = .ok (.aload_n 0, 1) := by decide +kernel
theorem dX0_isHopeless_111 : decode cX0_isHopeless 111 = .ok (.getfield 17, 3) := by decide +kernel
theorem dX0_isHopeless_114 : decode cX0_isHopeless 114 = .ok (.if_icmp .lt 7, 3) := by decide +kernel
theorem dX0_isHopeless_117 : decode cX0_isHopeless 117 = .ok (.iconst 1, 1) := by decide +kernel
theorem dX0_isHopeless_118 : decode cX0_isHopeless 118 = .ok (.goto 4, 3) := by decide +kernel
theorem dX0_isHopeless_121 : decode cX0_isHopeless 121 = .ok (.iconst 0, 1) := by decide +kernel
theorem dX0_isHopeless_122 : decode cX0_isHopeless 122 = .ok (.ireturn, 1) := by decide +kernel
theorem dX0_reach_0 : decode cX0_reach 0 = .ok (.aload_n 0, 1) := by decide +kernel
theorem dX0_reach_1 : decode cX0_reach 1 = .ok (.iconst 1, 1) := by decide +kernel
theorem dX0_reach_2 : decode cX0_reach 2 = .ok (.putfield 7, 3) := by decide +kernel
theorem dX0_reach_5 : decode cX0_reach 5 = .ok (.aload_n 0, 1) := by decide +kernel
theorem dX0_reach_6 : decode cX0_reach 6 = .ok (.aload_n 0, 1) := by decide +kernel
theorem dX0_reach_7 : decode cX0_reach 7 = .ok (.getfield 20, 3) := by decide +kernel
theorem dX0_reach_10 : decode cX0_reach 10 = .ok (.putfield 13, 3) := by decide +kernel
theorem dX0_reach_13 : decode cX0_reach 13 = .ok (.aload_n 0, 1) := by decide +kernel
theorem dX0_reach_14 : decode cX0_reach 14 = .ok (.aload_n 0, 1) := by decide +kernel
theorem dX0_reach_15 : decode cX0_reach 15 = .ok (.getfield 23, 3) := by decide +kernel
theorem dX0_reach_18 : decode cX0_reach 18 = .ok (.putfield 17, 3) := by decide +kernel
theorem dX0_reach_21 : decode cX0_reach 21 = .ok (.aload_n 0, 1) := by decide +kernel
theorem dX0_reach_22 : decode cX0_reach 22 = .ok (.invokevirtual 52, 3) := by decide +kernel
theorem dX0_reach_25 : decode cX0_reach 25 = .ok (.return_, 1) := by decide +kernel
theorem dX1_init_0 : decode cX1_init 0 = .ok (.aload_n 0, 1) := by decide +kernel
theorem dX1_init_1 : decode cX1_init 1 = .ok (.invokespecial 3, 3) := by decide +kernel
theorem dX1_init_4 : decode cX1_init 4 = .ok (.aload_n 0, 1) := by decide +kernel
theorem dX1_init_5 : decode cX1_init 5 = .ok (.iconst 0, 1) := by decide +kernel
theorem dX1_init_6 : decode cX1_init 6 = .ok (.putfield 9, 3) := by decide +kernel
theorem dX1_init_9 : decode cX1_init 9 = .ok (.aload_n 0, 1) := by decide +kernel
theorem dX1_init_10 : decode cX1_init 10 = .ok (.bipush 10, 2) := by decide +kernel
theorem dX1_init_12 : decode cX1_init 12 = .ok (.newarray .int, 2) := by decide +kernel
theorem dX1_init_14 : decode cX1_init 14 = .ok (.putfield 15, 3) := by decide +kernel
theorem dX1_init_17 : decode cX1_init 17 = .ok (.aload_n 0, 1) := by decide +kernel
theorem dX1_init_18 : decode cX1_init 18 = .ok (.iconst 0, 1) := by decide +kernel
theorem dX1_init_19 : decode cX1_init 19 = .ok (.newarray .int, 2) := by decide +kernel
theorem dX1_init_21 : decode cX1_init 21 = .ok (.putfield 19, 3) := by decide +kernel
theorem dX1_init_24 : decode cX1_init 24 = .ok (.aload_n 0, 1) := by decide +kernel
theorem dX1_init_25 : decode cX1_init 25 = .ok (.iconst (-1), 1) := by decide +kernel
theorem dX1_init_26 : decode cX1_init 26 = .ok (.putfield 22, 3) := by decide +kernel
theorem dX1_init_29 : decode cX1_init 29 = .ok (.aload_n 0, 1) := by decide +kernel
theorem dX1_init_30 : decode cX1_init 30 = .ok (.aload_n 1, 1) := by decide +kernel
theorem dX1_init_31 : decode cX1_init 31 = .ok (.putfield 25, 3) := by decide +kernel
theorem dX1_init_34 : decode cX1_init 34 = .ok (.return_, 1) := by decide +kernel
theorem dX1_solve_0 : decode cX1_solve 0 = .ok (.aload_n 0, 1) := by decide +kernel
theorem dX1_solve_1 : decode cX1_solve 1 = .ok (.getfield 22, 3) := by decide +kernel
theorem dX1_solve_4 : decode cX1_solve 4 = .ok (.aload_n 0, 1) := by decide +kernel
theorem dX1_solve_5 : decode cX1_solve 5 = .ok (.getfield 25, 3) := by decide +kernel
theorem dX1_solve_8 : decode cX1_solve 8 = .ok (.getfield 29, 3) := by decide +kernel
theorem dX1_solve_11 : decode cX1_solve 11 = .ok (.if_icmp .ne 4, 3) := by decide +kernel
theorem dX1_solve_14 : decode cX1_solve 14 = .ok (.return_, 1) := by decide +kernel
theorem dX1_solve_15 : decode cX1_solve 15 = .ok (.aload_n 0, 1) := by decide +kernel
theorem dX1_solve_16 : decode cX1_solve 16 = .ok (.aload_n 0, 1) := by decide +kernel
theorem dX1_solve_17 : decode cX1_solve 17 = .ok (.getfield 25, 3) := by decide +kernel
theorem dX1_solve_20 : decode cX1_solve 20 = .ok (.getfield 29, 3) := by decide +kernel
theorem dX1_solve_23 : decode cX1_solve 23 = .ok (.putfield 22, 3) := by decide +kernel
theorem dX1_solve_26 : decode cX1_solve 26 = .ok (.iconst 1, 1) := by decide +kernel
theorem dX1_solve_27 : decode cX1_solve 27 = .ok (.aload_n 0, 1) := by decide +kernel
theorem dX1_solve_28 : decode cX1_solve 28 = .ok (.getfield 25, 3) := by decide +kernel
theorem dX1_solve_31 : decode cX1_solve 31 = .ok (.getfield 34, 3) := by decide +kernel
theorem dX1_solve_34 : decode cX1_solve 34 = .ok (.ishl, 1) := by decide +kernel
theorem dX1_solve_35 : decode cX1_solve 35 = .ok (.istore_n 1, 1) := by decide +kernel
theorem dX1_solve_36 : decode cX1_solve 36 = .ok (.aload_n 0, 1) := by decide +kernel
theorem dX1_solve_37 : decode cX1_solve 37 = .ok (.getfield 19, 3) := by decide +kernel
theorem dX1_solve_40 : decode cX1_solve 40 = .ok (.arraylength, 1) := by decide +kernel
theorem dX1_solve_41 : decode cX1_solve 41 = .ok (.iload_n 1, 1) := by decide +kernel
theorem dX1_solve_42 : decode cX1_solve 42 = .ok (.bipush 10, 2) := by decide +kernel
theorem dX1_solve_44 : decode cX1_solve 44 = .ok (.imul, 1) := by decide +kernel
theorem dX1_solve_45 : decode cX1_solve 45 = .ok (.if_icmp .ge 13, 3) := by decide +kernel
theorem dX1_solve_48 : decode cX1_solve 48 = .ok (.aload_n 0, 1) := by decide +kernel
theorem dX1_solve_49 : decode cX1_solve 49 = .ok (.iload_n 1, 1) := by decide +kernel
theorem dX1_solve_50 : decode cX1_solve 50 = .ok (.bipush 10, 2) := by decide +kernel
theorem dX1_solve_52 : decode cX1_solve 52 = .ok (.imul, 1) := by decide +kernel
theorem dX1_solve_53 : decode cX1_solve 53 = .ok (.newarray .int, 2) := by decide +kernel
theorem dX1_solve_55 : decode cX1_solve 55 = .ok (.putfield 19, 3) := by decide +kernel
theorem dX1_solve_58 : decode cX1_solve 58 = .ok (.iload_n 1, 1) := by decide +kernel
theorem dX1_solve_59 : decode cX1_solve 59 = .ok (.iconst 1, 1) := by decide +kernel
theorem dX1_solve_60 : decode cX1_solve 60 = .ok (.isub, 1) := by decide +kernel
theorem dX1_solve_61 : decode cX1_solve 61 = .ok (.istore_n 2, 1) := by decide +kernel
theorem dX1_solve_62 : decode cX1_solve 62 = .ok (.iload_n 2, 1) := by decide +kernel
theorem dX1_solve_63 : decode cX1_solve 63 = .ok (.ifCond .le 26, 3) := by decide +kernel
theorem dX1_solve_66 : decode cX1_solve 66 = .ok (.aload_n 0, 1) := by decide +kernel
theorem dX1_solve_67 : decode cX1_solve 67 = .ok (.iload_n 2, 1) := by decide +kernel
theorem dX1_solve_68 : decode cX1_solve 68 = .ok (.iload_n 2, 1) := by decide +kernel
theorem dX1_solve_69 : decode cX1_solve 69 = .ok (.iload_n 1, 1) := by decide +kernel
theorem dX1_solve_70 : decode cX1_solve 70 = .ok (.iconst 1, 1) := by decide +kernel
theorem dX1_solve_71 : decode cX1_solve 71 = .ok (.isub, 1) := by decide +kernel
theorem dX1_solve_72 : decode cX1_solve 72 = .ok (.if_icmp .ne 7, 3) := by decide +kernel
theorem dX1_solve_75 : decode cX1_solve 75 = .ok (.iconst 1, 1) := by decide +kernel
theorem dX1_solve_76 : decode cX1_solve 76 = .ok (.goto 4, 3) := by decide +kernel
theorem dX1_solve_79 : decode cX1_solve 79 = .ok (.iconst 0, 1) := by decide +kernel
theorem dX1_solve_80 : decode cX1_solve 80 = .ok (.invokevirtual 37, 3) := by decide +kernel
theorem dX1_solve_83 : decode cX1_solve 83 = .ok (.iinc 2 (-1), 3) := by decide +kernel
theorem dX1_solve_86 : decode cX1_solve 86 = .ok (.goto (-24), 3) := by decide +kernel
theorem dX1_solve_89 : decode cX1_solve 89 = .ok (.aload_n 0, 1) := by decide +kernel
theorem dX1_solve_90 : decode cX1_solve 90 = .ok (.invokevirtual 41, 3) := by decide +kernel
theorem dX1_solve_93 : decode cX1_solve 93 = .ok (.return_, 1) := by decide +kernel
theorem dX1_weigh_0 : decode cX1_weigh 0 = .ok (.aload_n 0, 1) := by decide +kernel
theorem dX1_weigh_1 : decode cX1_weigh 1 = .ok (.iload_n 1, 1) := by decide +kernel
theorem dX1_weigh_2 : decode cX1_weigh 2 = .ok (.invokevirtual 44, 3) := by decide +kernel
theorem dX1_weigh_5 : decode cX1_weigh 5 = .ok (.istore_n 3, 1) := by decide +kernel
theorem dX1_weigh_6 : decode cX1_weigh 6 = .ok (.iconst 0, 1) := by decide +kernel
theorem dX1_weigh_7 : decode cX1_weigh 7 = .ok (.istore 4, 2) := by decide +kernel
theorem dX1_weigh_9 : decode cX1_weigh 9 = .ok (.iload 4, 2) := by decide +kernel
theorem dX1_weigh_11 : decode cX1_weigh 11 = .ok (.aload_n 0, 1) := by decide +kernel
theorem dX1_weigh_12 : decode cX1_weigh 12 = .ok (.getfield 25, 3) := by decide +kernel
theorem dX1_weigh_15 : decode cX1_weigh 15 = .ok (.getfield 34, 3) := by decide +kernel
theorem dX1_weigh_18 : decode cX1_weigh 18 = .ok (.if_icmp .ge 68, 3) := by decide +kernel
theorem dX1_weigh_21 : decode cX1_weigh 21 = .ok (.iload_n 1, 1) := by decide +kernel
theorem dX1_weigh_22 : decode cX1_weigh 22 = .ok (.iload 4, 2) := by decide +kernel
theorem dX1_weigh_24 : decode cX1_weigh 24 = .ok (.ishr, 1) := by decide +kernel
theorem dX1_weigh_25 : decode cX1_weigh 25 = .ok (.iconst 1, 1) := by decide +kernel
theorem dX1_weigh_26 : decode cX1_weigh 26 = .ok (.iand, 1) := by decide +kernel
theorem dX1_weigh_27 : decode cX1_weigh 27 = .ok (.iconst 1, 1) := by decide +kernel
theorem dX1_weigh_28 : decode cX1_weigh 28 = .ok (.if_icmp .ne 52, 3) := by decide +kernel
theorem dX1_weigh_31 : decode cX1_weigh 31 = .ok (.aload_n 0, 1) := by decide +kernel
theorem dX1_weigh_32 : decode cX1_weigh 32 = .ok (.getfield 19, 3) := by decide +kernel
theorem dX1_weigh_35 : decode cX1_weigh 35 = .ok (.iload_n 1, 1) := by decide +kernel
theorem dX1_weigh_36 : decode cX1_weigh 36 = .ok (.iload 4, 2) := by decide +kernel
theorem dX1_weigh_38 : decode cX1_weigh 38 = .ok (.invokestatic 48, 3) := by decide +kernel
theorem dX1_weigh_41 : decode cX1_weigh 41 = .ok (.iload_n 2, 1) := by decide +kernel
theorem dX1_weigh_42 : decode cX1_weigh 42 = .ok (.ifCond .eq 21, 3) := by decide +kernel
theorem dX1_weigh_45 : decode cX1_weigh 45 = .ok (.iload_n 3, 1) := by decide +kernel
theorem dX1_weigh_46 : decode cX1_weigh 46 = .ok (.aload_n 0, 1) := by decide +kernel
theorem dX1_weigh_47 : decode cX1_weigh 47 = .ok (.getfield 25, 3) := by decide +kernel
theorem dX1_weigh_50 : decode cX1_weigh 50 = .ok (.getfield 52, 3) := by decide +kernel
theorem dX1_weigh_53 : decode cX1_weigh 53 = .ok (.iload 4, 2) := by decide +kernel
theorem dX1_weigh_55 : decode cX1_weigh 55 = .ok (.iaload, 1) := by decide +kernel
theorem dX1_weigh_56 : decode cX1_weigh 56 = .ok (.invokestatic 55, 3) := by decide +kernel
theorem dX1_weigh_59 : decode cX1_weigh 59 = .ok (.imul, 1) := by decide +kernel
theorem dX1_weigh_60 : decode cX1_weigh 60 = .ok (.goto 19, 3) := by decide +kernel
theorem dX1_weigh_63 : decode cX1_weigh 63 = .ok (.aload_n 0, 1) := by decide +kernel
theorem dX1_weigh_64 : decode cX1_weigh 64 = .ok (.iload_n 1, 1) := by decide +kernel
theorem dX1_weigh_65 : decode cX1_weigh 65 = .ok (.iload 4, 2) := by decide +kernel
theorem dX1_weigh_67 : decode cX1_weigh 67 = .ok (.iload_n 3, 1) := by decide +kernel
theorem dX1_weigh_68 : decode cX1_weigh 68 = .ok (.aload_n 0, 1) := by decide +kernel
theorem dX1_weigh_69 : decode cX1_weigh 69 = .ok (.iload_n 1, 1) := by decide +kernel
theorem dX1_weigh_70 : decode cX1_weigh 70 = .ok (.iload 4, 2) := by decide +kernel
theorem dX1_weigh_72 : decode cX1_weigh 72 = .ok (.iload_n 3, 1) := by decide +kernel
theorem dX1_weigh_73 : decode cX1_weigh 73 = .ok (.invokevirtual 60, 3) := by decide +kernel
theorem dX1_weigh_76 : decode cX1_weigh 76 = .ok (.invokevirtual 64, 3) := by decide +kernel
theorem dX1_weigh_79 : decode cX1_weigh 79 = .ok (.iastore, 1) := by decide +kernel
theorem dX1_weigh_80 : decode cX1_weigh 80 = .ok (.iinc 4 1, 3) := by decide +kernel
theorem dX1_weigh_83 : decode cX1_weigh 83 = .ok (.goto (-74), 3) := by decide +kernel
theorem dX1_weigh_86 : decode cX1_weigh 86 = .ok (.return_, 1) := by decide +kernel
theorem dX1_goShopping_0 : decode cX1_goShopping 0 = .ok (.iconst 0, 1) := by decide +kernel
theorem dX1_goShopping_1 : decode cX1_goShopping 1 = .ok (.istore_n 1, 1) := by decide +kernel
theorem dX1_goShopping_2 : decode cX1_goShopping 2 = .ok (.iconst 0, 1) := by decide +kernel
theorem dX1_goShopping_3 : decode cX1_goShopping 3 = .ok (.istore_n 2, 1) := by decide +kernel
theorem dX1_goShopping_4 : decode cX1_goShopping 4 = .ok (.iconst (-1), 1) := by decide +kernel
theorem dX1_goShopping_5 : decode cX1_goShopping 5 = .ok (.istore_n 3, 1) := by decide +kernel
theorem dX1_goShopping_6 : decode cX1_goShopping 6 = .ok (.aload_n 0, 1) := by decide +kernel
theorem dX1_goShopping_7 : decode cX1_goShopping 7 = .ok (.iconst 0, 1) := by decide +kernel
theorem dX1_goShopping_8 : decode cX1_goShopping 8 = .ok (.putfield 9, 3) := by decide +kernel
theorem dX1_goShopping_11 : decode cX1_goShopping 11 = .ok (.iconst 0, 1) := by decide +kernel
theorem dX1_goShopping_12 : decode cX1_goShopping 12 = .ok (.istore 4, 2) := by decide +kernel
theorem dX1_goShopping_14 : decode cX1_goShopping 14 = .ok (.iload 4, 2) := by decide +kernel
theorem dX1_goShopping_16 : decode cX1_goShopping 16 = .ok (.aload_n 0, 1) := by decide +kernel
theorem dX1_goShopping_17 : decode cX1_goShopping 17 = .ok (.getfield 25, 3) := by decide +kernel
theorem dX1_goShopping_20 : decode cX1_goShopping 20 = .ok (.getfield 34, 3) := by decide +kernel
theorem dX1_goShopping_23 : decode cX1_goShopping 23 = .ok (.if_icmp .ge 68, 3) := by decide +kernel
theorem dX1_goShopping_26 : decode cX1_goShopping 26 = .ok (.aload_n 0, 1) := by decide +kernel
theorem dX1_goShopping_27 : decode cX1_goShopping 27 = .ok (.iload_n 1, 1) := by decide +kernel
theorem dX1_goShopping_28 : decode cX1_goShopping 28 = .ok (.iload_n 3, 1) := by decide +kernel
theorem dX1_goShopping_29 : decode cX1_goShopping 29 = .ok (.iload_n 2, 1) := by decide +kernel
theorem dX1_goShopping_30 : decode cX1_goShopping 30 = .ok (.invokevirtual 60, 3) := by decide +kernel
theorem dX1_goShopping_33 : decode cX1_goShopping 33 = .ok (.istore 5, 2) := by decide +kernel
theorem dX1_goShopping_35 : decode cX1_goShopping 35 = .ok (.iload 4, 2) := by decide +kernel
theorem dX1_goShopping_37 : decode cX1_goShopping 37 = .ok (.ifCond .ne 16, 3) := by decide +kernel
theorem dX1_goShopping_40 : decode cX1_goShopping 40 = .ok (.aload_n 0, 1) := by decide +kernel
theorem dX1_goShopping_41 : decode cX1_goShopping 41 = .ok (.aload_n 0, 1) := by decide +kernel
theorem dX1_goShopping_42 : decode cX1_goShopping 42 = .ok (.iload_n 1, 1) := by decide +kernel
theorem dX1_goShopping_43 : decode cX1_goShopping 43 = .ok (.iload_n 3, 1) := by decide +kernel
theorem dX1_goShopping_44 : decode cX1_goShopping 44 = .ok (.iload_n 2, 1) := by decide +kernel
theorem dX1_goShopping_45 : decode cX1_goShopping 45 = .ok (.iload 5, 2) := by decide +kernel
theorem dX1_goShopping_47 : decode cX1_goShopping 47 = .ok (.invokevirtual 64, 3) := by decide +kernel
theorem dX1_goShopping_50 : decode cX1_goShopping 50 = .ok (.putfield 9, 3) := by decide +kernel
theorem dX1_goShopping_53 : decode cX1_goShopping 53 = .ok (.aload_n 0, 1) := by decide +kernel
theorem dX1_goShopping_54 : decode cX1_goShopping 54 = .ok (.getfield 15, 3) := by decide +kernel
theorem dX1_goShopping_57 : decode cX1_goShopping 57 = .ok (.iload 4, 2) := by decide +kernel
theorem dX1_goShopping_59 : decode cX1_goShopping 59 = .ok (.iload 5, 2) := by decide +kernel
theorem dX1_goShopping_61 : decode cX1_goShopping 61 = .ok (.iastore, 1) := by decide +kernel
theorem dX1_goShopping_62 : decode cX1_goShopping 62 = .ok (.iload_n 1, 1) := by decide +kernel
theorem dX1_goShopping_63 : decode cX1_goShopping 63 = .ok (.iconst 1, 1) := by decide +kernel
theorem dX1_goShopping_64 : decode cX1_goShopping 64 = .ok (.iload 5, 2) := by decide +kernel
theorem dX1_goShopping_66 : decode cX1_goShopping 66 = .ok (.ishl, 1) := by decide +kernel
theorem dX1_goShopping_67 : decode cX1_goShopping 67 = .ok (.ior, 1) := by decide +kernel
theorem dX1_goShopping_68 : decode cX1_goShopping 68 = .ok (.istore_n 1, 1) := by decide +kernel
theorem dX1_goShopping_69 : decode cX1_goShopping 69 = .ok (.iload_n 2, 1) := by decide +kernel
theorem dX1_goShopping_70 : decode cX1_goShopping 70 = .ok (.aload_n 0, 1) := by decide +kernel
theorem dX1_goShopping_71 : decode cX1_goShopping 71 = .ok (.getfield 25, 3) := by decide +kernel
theorem dX1_goShopping_74 : decode cX1_goShopping 74 = .ok (.getfield 68, 3) := by decide +kernel
theorem dX1_goShopping_77 : decode cX1_goShopping 77 = .ok (.iload 5, 2) := by decide +kernel
theorem dX1_goShopping_79 : decode cX1_goShopping 79 = .ok (.iaload, 1) := by decide +kernel
theorem dX1_goShopping_80 : decode cX1_goShopping 80 = .ok (.iadd, 1) := by decide +kernel
theorem dX1_goShopping_81 : decode cX1_goShopping 81 = .ok (.istore_n 2, 1) := by decide +kernel
theorem dX1_goShopping_82 : decode cX1_goShopping 82 = .ok (.iload 5, 2) := by decide +kernel
theorem dX1_goShopping_84 : decode cX1_goShopping 84 = .ok (.istore_n 3, 1) := by decide +kernel
theorem dX1_goShopping_85 : decode cX1_goShopping 85 = .ok (.iinc 4 1, 3) := by decide +kernel
theorem dX1_goShopping_88 : decode cX1_goShopping 88 = .ok (.goto (-74), 3) := by decide +kernel
theorem dX1_goShopping_91 : decode cX1_goShopping 91 = .ok (.return_, 1) := by decide +kernel
theorem dX1_nextBehind_0 : decode cX1_nextBehind 0 = .ok (.iconst 0, 1) := by decide +kernel
theorem dX1_nextBehind_1 : decode cX1_nextBehind 1 = .ok (.istore 4, 2) := by decide +kernel
theorem dX1_nextBehind_3 : decode cX1_nextBehind 3 = .ok (.ldc 73, 2) := by decide +kernel
theorem dX1_nextBehind_5 : decode cX1_nextBehind 5 = .ok (.istore 5, 2) := by decide +kernel
theorem dX1_nextBehind_7 : decode cX1_nextBehind 7 = .ok (.iconst 0, 1) := by decide +kernel
theorem dX1_nextBehind_8 : decode cX1_nextBehind 8 = .ok (.istore 6, 2) := by decide +kernel
theorem dX1_nextBehind_10 : decode cX1_nextBehind 10 = .ok (.iload 6, 2) := by decide +kernel
theorem dX1_nextBehind_12 : decode cX1_nextBehind 12 = .ok (.aload_n 0, 1) := by decide +kernel
theorem dX1_nextBehind_13 : decode cX1_nextBehind 13 = .ok (.getfield 25, 3) := by decide +kernel
theorem dX1_nextBehind_16 : decode cX1_nextBehind 16 = .ok (.getfield 34, 3) := by decide +kernel
theorem dX1_nextBehind_19 : decode cX1_nextBehind 19 = .ok (.if_icmp .ge 44, 3) := by decide +kernel
theorem dX1_nextBehind_22 : decode cX1_nextBehind 22 = .ok (.iload_n 1, 1) := by decide +kernel
theorem dX1_nextBehind_23 : decode cX1_nextBehind 23 = .ok (.iload 6, 2) := by decide +kernel
theorem dX1_nextBehind_25 : decode cX1_nextBehind 25 = .ok (.ishr, 1) := by decide +kernel
theorem dX1_nextBehind_26 : decode cX1_nextBehind 26 = .ok (.iconst 1, 1) := by decide +kernel
theorem dX1_nextBehind_27 : decode cX1_nextBehind 27 = .ok (.iand, 1) := by decide +kernel
theorem dX1_nextBehind_28 : decode cX1_nextBehind 28 = .ok (.ifCond .ne 29, 3) := by decide +kernel
theorem dX1_nextBehind_31 : decode cX1_nextBehind 31 = .ok (.aload_n 0, 1) := by decide +kernel
theorem dX1_nextBehind_32 : decode cX1_nextBehind 32 = .ok (.iload_n 1, 1) := by decide +kernel
theorem dX1_nextBehind_33 : decode cX1_nextBehind 33 = .ok (.iload_n 2, 1) := by decide +kernel
theorem dX1_nextBehind_34 : decode cX1_nextBehind 34 = .ok (.iload_n 3, 1) := by decide +kernel
theorem dX1_nextBehind_35 : decode cX1_nextBehind 35 = .ok (.iload 6, 2) := by decide +kernel
theorem dX1_nextBehind_37 : decode cX1_nextBehind 37 = .ok (.invokevirtual 64, 3) := by decide +kernel
theorem dX1_nextBehind_40 : decode cX1_nextBehind 40 = .ok (.istore 7, 2) := by decide +kernel
theorem dX1_nextBehind_42 : decode cX1_nextBehind 42 = .ok (.iload 7, 2) := by decide +kernel
theorem dX1_nextBehind_44 : decode cX1_nextBehind 44 = .ok (.iload 5, 2) := by decide +kernel
theorem dX1_nextBehind_46 : decode cX1_nextBehind 46 = .ok (.if_icmp .ge 11, 3) := by decide +kernel
theorem dX1_nextBehind_49 : decode cX1_nextBehind 49 = .ok (.iload 7, 2) := by decide +kernel
theorem dX1_nextBehind_51 : decode cX1_nextBehind 51 = .ok (.istore 5, 2) := by decide +kernel
theorem dX1_nextBehind_53 : decode cX1_nextBehind 53 = .ok (.iload 6, 2) := by decide +kernel
theorem dX1_nextBehind_55 : decode cX1_nextBehind 55 = .ok (.istore 4, 2) := by decide +kernel
theorem dX1_nextBehind_57 : decode cX1_nextBehind 57 = .ok (.iinc 6 1, 3) := by decide +kernel
theorem dX1_nextBehind_60 : decode cX1_nextBehind 60 = .ok (.goto (-50), 3) := by decide +kernel
theorem dX1_nextBehind_63 : decode cX1_nextBehind 63 = .ok (.iload 4, 2) := by decide +kernel
theorem dX1_nextBehind_65 : decode cX1_nextBehind 65 = .ok (.ireturn, 1) := by decide +kernel
theorem dX1_costBy_0 : decode cX1_costBy 0 = .ok (.iload_n 2, 1) := by decide +kernel
theorem dX1_costBy_1 : decode cX1_costBy 1 = .ok (.ifCond .ge 7, 3) := by decide +kernel
theorem dX1_costBy_4 : decode cX1_costBy 4 = .ok (.iconst 0, 1) := by decide +kernel
theorem dX1_costBy_5 : decode cX1_costBy 5 = .ok (.goto 12, 3) := by decide +kernel
theorem dX1_costBy_8 : decode cX1_costBy 8 = .ok (.aload_n 0, 1) := by decide +kernel
theorem dX1_costBy_9 : decode cX1_costBy 9 = .ok (.getfield 25, 3) := by decide +kernel
theorem dX1_costBy_12 : decode cX1_costBy 12 = .ok (.getfield 52, 3) := by decide +kernel
theorem dX1_costBy_15 : decode cX1_costBy 15 = .ok (.iload_n 2, 1) := by decide +kernel
theorem dX1_costBy_16 : decode cX1_costBy 16 = .ok (.iaload, 1) := by decide +kernel
theorem dX1_costBy_17 : decode cX1_costBy 17 = .ok (.istore 5, 2) := by decide +kernel
theorem dX1_costBy_19 : decode cX1_costBy 19 = .ok (.iload_n 3, 1) := by decide +kernel
theorem dX1_costBy_20 : decode cX1_costBy 20 = .ok (.aload_n 0, 1) := by decide +kernel
theorem dX1_costBy_21 : decode cX1_costBy 21 = .ok (.getfield 25, 3) := by decide +kernel
theorem dX1_costBy_24 : decode cX1_costBy 24 = .ok (.getfield 52, 3) := by decide +kernel
theorem dX1_costBy_27 : decode cX1_costBy 27 = .ok (.iload 4, 2) := by decide +kernel
theorem dX1_costBy_29 : decode cX1_costBy 29 = .ok (.iaload, 1) := by decide +kernel
theorem dX1_costBy_30 : decode cX1_costBy 30 = .ok (.iload 5, 2) := by decide +kernel
theorem dX1_costBy_32 : decode cX1_costBy 32 = .ok (.isub, 1) := by decide +kernel
theorem dX1_costBy_33 : decode cX1_costBy 33 = .ok (.invokestatic 55, 3) := by decide +kernel
theorem dX1_costBy_36 : decode cX1_costBy 36 = .ok (.imul, 1) := by decide +kernel
theorem dX1_costBy_37 : decode cX1_costBy 37 = .ok (.aload_n 0, 1) := by decide +kernel
theorem dX1_costBy_38 : decode cX1_costBy 38 = .ok (.getfield 19, 3) := by decide +kernel
theorem dX1_costBy_41 : decode cX1_costBy 41 = .ok (.iload_n 1, 1) := by decide +kernel
theorem dX1_costBy_42 : decode cX1_costBy 42 = .ok (.iconst 1, 1) := by decide +kernel
theorem dX1_costBy_43 : decode cX1_costBy 43 = .ok (.iload 4, 2) := by decide +kernel
theorem dX1_costBy_45 : decode cX1_costBy 45 = .ok (.ishl, 1) := by decide +kernel
theorem dX1_costBy_46 : decode cX1_costBy 46 = .ok (.ior, 1) := by decide +kernel
theorem dX1_costBy_47 : decode cX1_costBy 47 = .ok (.iload 4, 2) := by decide +kernel
theorem dX1_costBy_49 : decode cX1_costBy 49 = .ok (.invokestatic 48, 3) := by decide +kernel
theorem dX1_costBy_52 : decode cX1_costBy 52 = .ok (.iaload, 1) := by decide +kernel
theorem dX1_costBy_53 : decode cX1_costBy 53 = .ok (.iadd, 1) := by decide +kernel
theorem dX1_costBy_54 : decode cX1_costBy 54 = .ok (.ireturn, 1) := by decide +kernel
theorem dX1_carriedWith_0 : decode cX1_carriedWith 0 = .ok (.iconst 0, 1) := by decide +kernel
theorem dX1_carriedWith_1 : decode cX1_carriedWith 1 = .ok (.istore_n 2, 1) := by decide +kernel
theorem dX1_carriedWith_2 : decode cX1_carriedWith 2 = .ok (.iconst 0, 1) := by decide +kernel
theorem dX1_carriedWith_3 : decode cX1_carriedWith 3 = .ok (.istore_n 3, 1) := by decide +kernel
theorem dX1_carriedWith_4 : decode cX1_carriedWith 4 = .ok (.iload_n 3, 1) := by decide +kernel
theorem dX1_carriedWith_5 : decode cX1_carriedWith 5 = .ok (.aload_n 0, 1) := by decide +kernel
theorem dX1_carriedWith_6 : decode cX1_carriedWith 6 = .ok (.getfield 25, 3) := by decide +kernel
theorem dX1_carriedWith_9 : decode cX1_carriedWith 9 = .ok (.getfield 34, 3) := by decide +kernel
theorem dX1_carriedWith_12 : decode cX1_carriedWith 12 = .ok (.if_icmp .ge 34, 3) := by decide +kernel
theorem dX1_carriedWith_15 : decode cX1_carriedWith 15 = .ok (.iload_n 2, 1) := by decide +kernel
theorem dX1_carriedWith_16 : decode cX1_carriedWith 16 = .ok (.iload_n 1, 1) := by decide +kernel
theorem dX1_carriedWith_17 : decode cX1_carriedWith 17 = .ok (.iload_n 3, 1) := by decide +kernel
theorem dX1_carriedWith_18 : decode cX1_carriedWith 18 = .ok (.ishr, 1) := by decide +kernel
theorem dX1_carriedWith_19 : decode cX1_carriedWith 19 = .ok (.iconst 1, 1) := by decide +kernel
theorem dX1_carriedWith_20 : decode cX1_carriedWith 20 = .ok (.iand, 1) := by decide +kernel
theorem dX1_carriedWith_21 : decode cX1_carriedWith 21 = .ok (.iconst 1, 1) := by decide +kernel
theorem dX1_carriedWith_22 : decode cX1_carriedWith 22 = .ok (.if_icmp .ne 15, 3) := by decide +kernel
theorem dX1_carriedWith_25 : decode cX1_carriedWith 25 = .ok (.aload_n 0, 1) := by decide +kernel
theorem dX1_carriedWith_26 : decode cX1_carriedWith 26 = .ok (.getfield 25, 3) := by decide +kernel
theorem dX1_carriedWith_29 : decode cX1_carriedWith 29 = .ok (.getfield 68, 3) := by decide +kernel
theorem dX1_carriedWith_32 : decode cX1_carriedWith 32 = .ok (.iload_n 3, 1) := by decide +kernel
theorem dX1_carriedWith_33 : decode cX1_carriedWith 33 = .ok (.iaload, 1) := by decide +kernel
theorem dX1_carriedWith_34 : decode cX1_carriedWith 34 = .ok (.goto 4, 3) := by decide +kernel
theorem dX1_carriedWith_37 : decode cX1_carriedWith 37 = .ok (.iconst 0, 1) := by decide +kernel
theorem dX1_carriedWith_38 : decode cX1_carriedWith 38 = .ok (.iadd, 1) := by decide +kernel
theorem dX1_carriedWith_39 : decode cX1_carriedWith 39 = .ok (.istore_n 2, 1) := by decide +kernel
theorem dX1_carriedWith_40 : decode cX1_carriedWith 40 = .ok (.iinc 3 1, 3) := by decide +kernel
theorem dX1_carriedWith_43 : decode cX1_carriedWith 43 = .ok (.goto (-39), 3) := by decide +kernel
theorem dX1_carriedWith_46 : decode cX1_carriedWith 46 = .ok (.iload_n 2, 1) := by decide +kernel
theorem dX1_carriedWith_47 : decode cX1_carriedWith 47 = .ok (.ireturn, 1) := by decide +kernel
theorem dX1_at_0 : decode cX1_at 0 = .ok (.iload_n 0, 1) := by decide +kernel
theorem dX1_at_1 : decode cX1_at 1 = .ok (.bipush 10, 2) := by decide +kernel
theorem dX1_at_3 : decode cX1_at 3 = .ok (.imul, 1) := by decide +kernel
theorem dX1_at_4 : decode cX1_at 4 = .ok (.iload_n 1, 1) := by decide +kernel
theorem dX1_at_5 : decode cX1_at 5 = .ok (.iadd, 1) := by decide +kernel
theorem dX1_at_6 : decode cX1_at 6 = .ok (.ireturn, 1) := by decide +kernel
theorem dX2_init_0 : decode cX2_init 0 = .ok (.aload_n 0, 1) := by decide +kernel
theorem dX2_init_1 : decode cX2_init 1 = .ok (.invokespecial 3, 3) := by decide +kernel
theorem dX2_init_4 : decode cX2_init 4 = .ok (.aload_n 0, 1) := by decide +kernel
theorem dX2_init_5 : decode cX2_init 5 = .ok (.iconst 0, 1) := by decide +kernel
theorem dX2_init_6 : decode cX2_init 6 = .ok (.putfield 9, 3) := by decide +kernel
theorem dX2_init_9 : decode cX2_init 9 = .ok (.aload_n 0, 1) := by decide +kernel
theorem dX2_init_10 : decode cX2_init 10 = .ok (.bipush 8, 2) := by decide +kernel
theorem dX2_init_12 : decode cX2_init 12 = .ok (.newarray .int, 2) := by decide +kernel
theorem dX2_init_14 : decode cX2_init 14 = .ok (.putfield 15, 3) := by decide +kernel
theorem dX2_init_17 : decode cX2_init 17 = .ok (.aload_n 0, 1) := by decide +kernel
theorem dX2_init_18 : decode cX2_init 18 = .ok (.sipush 256, 3) := by decide +kernel
theorem dX2_init_21 : decode cX2_init 21 = .ok (.newarray .int, 2) := by decide +kernel
theorem dX2_init_23 : decode cX2_init 23 = .ok (.putfield 19, 3) := by decide +kernel
theorem dX2_init_26 : decode cX2_init 26 = .ok (.aload_n 0, 1) := by decide +kernel
theorem dX2_init_27 : decode cX2_init 27 = .ok (.aload_n 1, 1) := by decide +kernel
theorem dX2_init_28 : decode cX2_init 28 = .ok (.putfield 22, 3) := by decide +kernel
theorem dX2_init_31 : decode cX2_init 31 = .ok (.return_, 1) := by decide +kernel
theorem dX2_seat_0 : decode cX2_seat 0 = .ok (.iconst 0, 1) := by decide +kernel
theorem dX2_seat_1 : decode cX2_seat 1 = .ok (.istore_n 3, 1) := by decide +kernel
theorem dX2_seat_2 : decode cX2_seat 2 = .ok (.aload_n 0, 1) := by decide +kernel
theorem dX2_seat_3 : decode cX2_seat 3 = .ok (.iconst 0, 1) := by decide +kernel
theorem dX2_seat_4 : decode cX2_seat 4 = .ok (.putfield 9, 3) := by decide +kernel
theorem dX2_seat_7 : decode cX2_seat 7 = .ok (.iconst 0, 1) := by decide +kernel
theorem dX2_seat_8 : decode cX2_seat 8 = .ok (.istore 4, 2) := by decide +kernel
theorem dX2_seat_10 : decode cX2_seat 10 = .ok (.iload 4, 2) := by decide +kernel
theorem dX2_seat_12 : decode cX2_seat 12 = .ok (.bipush 8, 2) := by decide +kernel
theorem dX2_seat_14 : decode cX2_seat 14 = .ok (.if_icmp .ge 97, 3) := by decide +kernel
theorem dX2_seat_17 : decode cX2_seat 17 = .ok (.aload_n 1, 1) := by decide +kernel
theorem dX2_seat_18 : decode cX2_seat 18 = .ok (.getfield 26, 3) := by decide +kernel
theorem dX2_seat_21 : decode cX2_seat 21 = .ok (.iload_n 2, 1) := by decide +kernel
theorem dX2_seat_22 : decode cX2_seat 22 = .ok (.iload 4, 2) := by decide +kernel
theorem dX2_seat_24 : decode cX2_seat 24 = .ok (.iadd, 1) := by decide +kernel
theorem dX2_seat_25 : decode cX2_seat 25 = .ok (.laload, 1) := by decide +kernel
theorem dX2_seat_26 : decode cX2_seat 26 = .ok (.lstore 5, 2) := by decide +kernel
theorem dX2_seat_28 : decode cX2_seat 28 = .ok (.lload 5, 2) := by decide +kernel
theorem dX2_seat_30 : decode cX2_seat 30 = .ok (.aload_n 0, 1) := by decide +kernel
theorem dX2_seat_31 : decode cX2_seat 31 = .ok (.getfield 22, 3) := by decide +kernel
theorem dX2_seat_34 : decode cX2_seat 34 = .ok (.getfield 32, 3) := by decide +kernel
theorem dX2_seat_37 : decode cX2_seat 37 = .ok (.i2l, 1) := by decide +kernel
theorem dX2_seat_38 : decode cX2_seat 38 = .ok (.lcmp, 1) := by decide +kernel
theorem dX2_seat_39 : decode cX2_seat 39 = .ok (.ifCond .lt 5, 3) := by decide +kernel
theorem dX2_seat_42 : decode cX2_seat 42 = .ok (.iconst 0, 1) := by decide +kernel
theorem dX2_seat_43 : decode cX2_seat 43 = .ok (.ireturn, 1) := by decide +kernel
theorem dX2_seat_44 : decode cX2_seat 44 = .ok (.lload 5, 2) := by decide +kernel
theorem dX2_seat_46 : decode cX2_seat 46 = .ok (.lconst 0, 1) := by decide +kernel
theorem dX2_seat_47 : decode cX2_seat 47 = .ok (.lcmp, 1) := by decide +kernel
theorem dX2_seat_48 : decode cX2_seat 48 = .ok (.ifCond .lt 57, 3) := by decide +kernel
theorem dX2_seat_51 : decode cX2_seat 51 = .ok (.lload 5, 2) := by decide +kernel
theorem dX2_seat_53 : decode cX2_seat 53 = .ok (.l2i, 1) := by decide +kernel
theorem dX2_seat_54 : decode cX2_seat 54 = .ok (.istore 7, 2) := by decide +kernel
theorem dX2_seat_56 : decode cX2_seat 56 = .ok (.iload_n 3, 1) := by decide +kernel
theorem dX2_seat_57 : decode cX2_seat 57 = .ok (.iload 7, 2) := by decide +kernel
theorem dX2_seat_59 : decode cX2_seat 59 = .ok (.ishr, 1) := by decide +kernel
theorem dX2_seat_60 : decode cX2_seat 60 = .ok (.iconst 1, 1) := by decide +kernel
theorem dX2_seat_61 : decode cX2_seat 61 = .ok (.iand, 1) := by decide +kernel
theorem dX2_seat_62 : decode cX2_seat 62 = .ok (.iconst 1, 1) := by decide +kernel
theorem dX2_seat_63 : decode cX2_seat 63 = .ok (.if_icmp .ne 5, 3) := by decide +kernel
theorem dX2_seat_66 : decode cX2_seat 66 = .ok (.iconst 0, 1) := by decide +kernel
theorem dX2_seat_67 : decode cX2_seat 67 = .ok (.ireturn, 1) := by decide +kernel
theorem dX2_seat_68 : decode cX2_seat 68 = .ok (.iload_n 3, 1) := by decide +kernel
theorem dX2_seat_69 : decode cX2_seat 69 = .ok (.iconst 1, 1) := by decide +kernel
theorem dX2_seat_70 : decode cX2_seat 70 = .ok (.iload 7, 2) := by decide +kernel
theorem dX2_seat_72 : decode cX2_seat 72 = .ok (.ishl, 1) := by decide +kernel
theorem dX2_seat_73 : decode cX2_seat 73 = .ok (.ior, 1) := by decide +kernel
theorem dX2_seat_74 : decode cX2_seat 74 = .ok (.istore_n 3, 1) := by decide +kernel
theorem dX2_seat_75 : decode cX2_seat 75 = .ok (.aload_n 0, 1) := by decide +kernel
theorem dX2_seat_76 : decode cX2_seat 76 = .ok (.dup, 1) := by decide +kernel
theorem dX2_seat_77 : decode cX2_seat 77 = .ok (.getfield 9, 3) := by decide +kernel
theorem dX2_seat_80 : decode cX2_seat 80 = .ok (.iconst 1, 1) := by decide +kernel
theorem dX2_seat_81 : decode cX2_seat 81 = .ok (.iload 4, 2) := by decide +kernel
theorem dX2_seat_83 : decode cX2_seat 83 = .ok (.ishl, 1) := by decide +kernel
theorem dX2_seat_84 : decode cX2_seat 84 = .ok (.ior, 1) := by decide +kernel
theorem dX2_seat_85 : decode cX2_seat 85 = .ok (.putfield 9, 3) := by decide +kernel
theorem dX2_seat_88 : decode cX2_seat 88 = .ok (.aload_n 0, 1) := by decide +kernel
theorem dX2_seat_89 : decode cX2_seat 89 = .ok (.getfield 15, 3) := by decide +kernel
theorem dX2_seat_92 : decode cX2_seat 92 = .ok (.iload 4, 2) := by decide +kernel
theorem dX2_seat_94 : decode cX2_seat 94 = .ok (.aload_n 0, 1) := by decide +kernel
theorem dX2_seat_95 : decode cX2_seat 95 = .ok (.getfield 22, 3) := by decide +kernel
theorem dX2_seat_98 : decode cX2_seat 98 = .ok (.getfield 37, 3) := by decide +kernel
theorem dX2_seat_101 : decode cX2_seat 101 = .ok (.iload 7, 2) := by decide +kernel
theorem dX2_seat_103 : decode cX2_seat 103 = .ok (.iaload, 1) := by decide +kernel
theorem dX2_seat_104 : decode cX2_seat 104 = .ok (.iastore, 1) := by decide +kernel
theorem dX2_seat_105 : decode cX2_seat 105 = .ok (.iinc 4 1, 3) := by decide +kernel
theorem dX2_seat_108 : decode cX2_seat 108 = .ok (.goto (-98), 3) := by decide +kernel
theorem dX2_seat_111 : decode cX2_seat 111 = .ok (.iconst 1, 1) := by decide +kernel
theorem dX2_seat_112 : decode cX2_seat 112 = .ok (.ireturn, 1) := by decide +kernel
theorem dX2_tips_0 : decode cX2_tips 0 = .ok (.iconst 0, 1) := by decide +kernel
theorem dX2_tips_1 : decode cX2_tips 1 = .ok (.istore_n 3, 1) := by decide +kernel
theorem dX2_tips_2 : decode cX2_tips 2 = .ok (.iconst 0, 1) := by decide +kernel
theorem dX2_tips_3 : decode cX2_tips 3 = .ok (.istore 4, 2) := by decide +kernel
theorem dX2_tips_5 : decode cX2_tips 5 = .ok (.iconst 0, 1) := by decide +kernel
theorem dX2_tips_6 : decode cX2_tips 6 = .ok (.istore 5, 2) := by decide +kernel
theorem dX2_tips_8 : decode cX2_tips 8 = .ok (.iload 5, 2) := by decide +kernel
theorem dX2_tips_10 : decode cX2_tips 10 = .ok (.bipush 8, 2) := by decide +kernel
theorem dX2_tips_12 : decode cX2_tips 12 = .ok (.if_icmp .ge 55, 3) := by decide +kernel
theorem dX2_tips_15 : decode cX2_tips 15 = .ok (.iload_n 1, 1) := by decide +kernel
theorem dX2_tips_16 : decode cX2_tips 16 = .ok (.iload 5, 2) := by decide +kernel
theorem dX2_tips_18 : decode cX2_tips 18 = .ok (.ishr, 1) := by decide +kernel
theorem dX2_tips_19 : decode cX2_tips 19 = .ok (.iconst 1, 1) := by decide +kernel
theorem dX2_tips_20 : decode cX2_tips 20 = .ok (.iand, 1) := by decide +kernel
theorem dX2_tips_21 : decode cX2_tips 21 = .ok (.iconst 1, 1) := by decide +kernel
theorem dX2_tips_22 : decode cX2_tips 22 = .ok (.if_icmp .ne 39, 3) := by decide +kernel
theorem dX2_tips_25 : decode cX2_tips 25 = .ok (.iload_n 3, 1) := by decide +kernel
theorem dX2_tips_26 : decode cX2_tips 26 = .ok (.aload_n 0, 1) := by decide +kernel
theorem dX2_tips_27 : decode cX2_tips 27 = .ok (.getfield 15, 3) := by decide +kernel
theorem dX2_tips_30 : decode cX2_tips 30 = .ok (.iload 5, 2) := by decide +kernel
theorem dX2_tips_32 : decode cX2_tips 32 = .ok (.iaload, 1) := by decide +kernel
theorem dX2_tips_33 : decode cX2_tips 33 = .ok (.getstatic 40, 3) := by decide +kernel
theorem dX2_tips_36 : decode cX2_tips 36 = .ok (.iload 5, 2) := by decide +kernel
theorem dX2_tips_38 : decode cX2_tips 38 = .ok (.iaload, 1) := by decide +kernel
theorem dX2_tips_39 : decode cX2_tips 39 = .ok (.imul, 1) := by decide +kernel
theorem dX2_tips_40 : decode cX2_tips 40 = .ok (.iadd, 1) := by decide +kernel
theorem dX2_tips_41 : decode cX2_tips 41 = .ok (.istore_n 3, 1) := by decide +kernel
theorem dX2_tips_42 : decode cX2_tips 42 = .ok (.iload 4, 2) := by decide +kernel
theorem dX2_tips_44 : decode cX2_tips 44 = .ok (.aload_n 0, 1) := by decide +kernel
theorem dX2_tips_45 : decode cX2_tips 45 = .ok (.getfield 15, 3) := by decide +kernel
theorem dX2_tips_48 : decode cX2_tips 48 = .ok (.iload 5, 2) := by decide +kernel
theorem dX2_tips_50 : decode cX2_tips 50 = .ok (.iaload, 1) := by decide +kernel
theorem dX2_tips_51 : decode cX2_tips 51 = .ok (.getstatic 43, 3) := by decide +kernel
theorem dX2_tips_54 : decode cX2_tips 54 = .ok (.iload 5, 2) := by decide +kernel
theorem dX2_tips_56 : decode cX2_tips 56 = .ok (.iaload, 1) := by decide +kernel
theorem dX2_tips_57 : decode cX2_tips 57 = .ok (.imul, 1) := by decide +kernel
theorem dX2_tips_58 : decode cX2_tips 58 = .ok (.iadd, 1) := by decide +kernel
theorem dX2_tips_59 : decode cX2_tips 59 = .ok (.istore 4, 2) := by decide +kernel
theorem dX2_tips_61 : decode cX2_tips 61 = .ok (.iinc 5 1, 3) := by decide +kernel
theorem dX2_tips_64 : decode cX2_tips 64 = .ok (.goto (-56), 3) := by decide +kernel
theorem dX2_tips_67 : decode cX2_tips 67 = .ok (.iload_n 3, 1) := by decide +kernel
theorem dX2_tips_68 : decode cX2_tips 68 = .ok (.invokestatic 46, 3) := by decide +kernel
theorem dX2_tips_71 : decode cX2_tips 71 = .ok (.iload_n 2, 1) := by decide +kernel
theorem dX2_tips_72 : decode cX2_tips 72 = .ok (.if_icmp .gt 12, 3) := by decide +kernel
theorem dX2_tips_75 : decode cX2_tips 75 = .ok (.iload 4, 2) := by decide +kernel
theorem dX2_tips_77 : decode cX2_tips 77 = .ok (.invokestatic 46, 3) := by decide +kernel
theorem dX2_tips_80 : decode cX2_tips 80 = .ok (.iload_n 2, 1) := by decide +kernel
theorem dX2_tips_81 : decode cX2_tips 81 = .ok (.if_icmp .le 7, 3) := by decide +kernel
theorem dX2_tips_84 : decode cX2_tips 84 = .ok (.iconst 1, 1) := by decide +kernel
theorem dX2_tips_85 : decode cX2_tips 85 = .ok (.goto 4, 3) := by decide +kernel
theorem dX2_tips_88 : decode cX2_tips 88 = .ok (.iconst 0, 1) := by decide +kernel
theorem dX2_tips_89 : decode cX2_tips 89 = .ok (.ireturn, 1) := by decide +kernel
theorem dX2_orders_0 : decode cX2_orders 0 = .ok (.aload_n 0, 1) := by decide +kernel
theorem dX2_orders_1 : decode cX2_orders 1 = .ok (.getfield 19, 3) := by decide +kernel
theorem dX2_orders_4 : decode cX2_orders 4 = .ok (.iconst 0, 1) := by decide +kernel
theorem dX2_orders_5 : decode cX2_orders 5 = .ok (.iconst 1, 1) := by decide +kernel
theorem dX2_orders_6 : decode cX2_orders 6 = .ok (.iastore, 1) := by decide +kernel
theorem dX2_orders_7 : decode cX2_orders 7 = .ok (.iconst 1, 1) := by decide +kernel
theorem dX2_orders_8 : decode cX2_orders 8 = .ok (.istore_n 2, 1) := by decide +kernel
theorem dX2_orders_9 : decode cX2_orders 9 = .ok (.iload_n 2, 1) := by decide +kernel
theorem dX2_orders_10 : decode cX2_orders 10 = .ok (.aload_n 0, 1) := by decide +kernel
theorem dX2_orders_11 : decode cX2_orders 11 = .ok (.getfield 9, 3) := by decide +kernel
theorem dX2_orders_14 : decode cX2_orders 14 = .ok (.if_icmp .gt 44, 3) := by decide +kernel
theorem dX2_orders_17 : decode cX2_orders 17 = .ok (.iload_n 2, 1) := by decide +kernel
theorem dX2_orders_18 : decode cX2_orders 18 = .ok (.aload_n 0, 1) := by decide +kernel
theorem dX2_orders_19 : decode cX2_orders 19 = .ok (.getfield 9, 3) := by decide +kernel
theorem dX2_orders_22 : decode cX2_orders 22 = .ok (.iconst (-1), 1) := by decide +kernel
theorem dX2_orders_23 : decode cX2_orders 23 = .ok (.ixor, 1) := by decide +kernel
theorem dX2_orders_24 : decode cX2_orders 24 = .ok (.iand, 1) := by decide +kernel
theorem dX2_orders_25 : decode cX2_orders 25 = .ok (.ifCond .ne 27, 3) := by decide +kernel
theorem dX2_orders_28 : decode cX2_orders 28 = .ok (.aload_n 0, 1) := by decide +kernel
theorem dX2_orders_29 : decode cX2_orders 29 = .ok (.getfield 19, 3) := by decide +kernel
theorem dX2_orders_32 : decode cX2_orders 32 = .ok (.iload_n 2, 1) := by decide +kernel
theorem dX2_orders_33 : decode cX2_orders 33 = .ok (.aload_n 0, 1) := by decide +kernel
theorem dX2_orders_34 : decode cX2_orders 34 = .ok (.iload_n 2, 1) := by decide +kernel
theorem dX2_orders_35 : decode cX2_orders 35 = .ok (.iload_n 1, 1) := by decide +kernel
theorem dX2_orders_36 : decode cX2_orders 36 = .ok (.invokevirtual 52, 3) := by decide +kernel
theorem dX2_orders_39 : decode cX2_orders 39 = .ok (.ifCond .eq 7, 3) := by decide +kernel
theorem dX2_orders_42 : decode cX2_orders 42 = .ok (.iconst 0, 1) := by decide +kernel
theorem dX2_orders_43 : decode cX2_orders 43 = .ok (.goto 8, 3) := by decide +kernel
theorem dX2_orders_46 : decode cX2_orders 46 = .ok (.aload_n 0, 1) := by decide +kernel
theorem dX2_orders_47 : decode cX2_orders 47 = .ok (.iload_n 2, 1) := by decide +kernel
theorem dX2_orders_48 : decode cX2_orders 48 = .ok (.invokevirtual 56, 3) := by decide +kernel
theorem dX2_orders_51 : decode cX2_orders 51 = .ok (.iastore, 1) := by decide +kernel
theorem dX2_orders_52 : decode cX2_orders 52 = .ok (.iinc 2 1, 3) := by decide +kernel
theorem dX2_orders_55 : decode cX2_orders 55 = .ok (.goto (-46), 3) := by decide +kernel
theorem dX2_orders_58 : decode cX2_orders 58 = .ok (.aload_n 0, 1) := by decide +kernel
theorem dX2_orders_59 : decode cX2_orders 59 = .ok (.getfield 19, 3) := by decide +kernel
theorem dX2_orders_62 : decode cX2_orders 62 = .ok (.aload_n 0, 1) := by decide +kernel
theorem dX2_orders_63 : decode cX2_orders 63 = .ok (.getfield 9, 3) := by decide +kernel
theorem dX2_orders_66 : decode cX2_orders 66 = .ok (.iaload, 1) := by decide +kernel
theorem dX2_orders_67 : decode cX2_orders 67 = .ok (.ireturn, 1) := by decide +kernel
theorem dX2_waysWithoutOne_0 : decode cX2_waysWithoutOne 0 = .ok (.iconst 0, 1) := by decide +kernel
theorem dX2_waysWithoutOne_1 : decode cX2_waysWithoutOne 1 = .ok (.istore_n 2, 1) := by decide +kernel
theorem dX2_waysWithoutOne_2 : decode cX2_waysWithoutOne 2 = .ok (.iconst 0, 1) := by decide +kernel
theorem dX2_waysWithoutOne_3 : decode cX2_waysWithoutOne 3 = .ok (.istore_n 3, 1) := by decide +kernel
theorem dX2_waysWithoutOne_4 : decode cX2_waysWithoutOne 4 = .ok (.iload_n 3, 1) := by decide +kernel
theorem dX2_waysWithoutOne_5 : decode cX2_waysWithoutOne 5 = .ok (.bipush 8, 2) := by decide +kernel
theorem dX2_waysWithoutOne_7 : decode cX2_waysWithoutOne 7 = .ok (.if_icmp .ge 37, 3) := by decide +kernel
theorem dX2_waysWithoutOne_10 : decode cX2_waysWithoutOne 10 = .ok (.iload_n 2, 1) := by decide +kernel
theorem dX2_waysWithoutOne_11 : decode cX2_waysWithoutOne 11 = .ok (.iload_n 1, 1) := by decide +kernel
theorem dX2_waysWithoutOne_12 : decode cX2_waysWithoutOne 12 = .ok (.iload_n 3, 1) := by decide +kernel
theorem dX2_waysWithoutOne_13 : decode cX2_waysWithoutOne 13 = .ok (.ishr, 1) := by decide +kernel
theorem dX2_waysWithoutOne_14 : decode cX2_waysWithoutOne 14 = .ok (.iconst 1, 1) := by decide +kernel
theorem dX2_waysWithoutOne_15 : decode cX2_waysWithoutOne 15 = .ok (.iand, 1) := by decide +kernel
theorem dX2_waysWithoutOne_16 : decode cX2_waysWithoutOne 16 = .ok (.iconst 1, 1) := by decide +kernel
theorem dX2_waysWithoutOne_17 : decode cX2_waysWithoutOne 17 = .ok (.if_icmp .ne 18, 3) := by decide +kernel
theorem dX2_waysWithoutOne_20 : decode cX2_waysWithoutOne 20 = .ok (.aload_n 0, 1) := by decide +kernel
theorem dX2_waysWithoutOne_21 : decode cX2_waysWithoutOne 21 = .ok (.getfield 19, 3) := by decide +kernel
theorem dX2_waysWithoutOne_24 : decode cX2_waysWithoutOne 24 = .ok (.iload_n 1, 1) := by decide +kernel
theorem dX2_waysWithoutOne_25 : decode cX2_waysWithoutOne 25 = .ok (.iconst 1, 1) := by decide +kernel
theorem dX2_waysWithoutOne_26 : decode cX2_waysWithoutOne 26 = .ok (.iload_n 3, 1) := by decide +kernel
theorem dX2_waysWithoutOne_27 : decode cX2_waysWithoutOne 27 = .ok (.ishl, 1) := by decide +kernel
theorem dX2_waysWithoutOne_28 : decode cX2_waysWithoutOne 28 = .ok (.iconst (-1), 1) := by decide +kernel
theorem dX2_waysWithoutOne_29 : decode cX2_waysWithoutOne 29 = .ok (.ixor, 1) := by decide +kernel
theorem dX2_waysWithoutOne_30 : decode cX2_waysWithoutOne 30 = .ok (.iand, 1) := by decide +kernel
theorem dX2_waysWithoutOne_31 : decode cX2_waysWithoutOne 31 = .ok (.iaload, 1) := by decide +kernel
theorem dX2_waysWithoutOne_32 : decode cX2_waysWithoutOne 32 = .ok (.goto 4, 3) := by decide +kernel
theorem dX2_waysWithoutOne_35 : decode cX2_waysWithoutOne 35 = .ok (.iconst 0, 1) := by decide +kernel
theorem dX2_waysWithoutOne_36 : decode cX2_waysWithoutOne 36 = .ok (.iadd, 1) := by decide +kernel
theorem dX2_waysWithoutOne_37 : decode cX2_waysWithoutOne 37 = .ok (.istore_n 2, 1) := by decide +kernel
theorem dX2_waysWithoutOne_38 : decode cX2_waysWithoutOne 38 = .ok (.iinc 3 1, 3) := by decide +kernel
theorem dX2_waysWithoutOne_41 : decode cX2_waysWithoutOne 41 = .ok (.goto (-37), 3) := by decide +kernel
theorem dX2_waysWithoutOne_44 : decode cX2_waysWithoutOne 44 = .ok (.iload_n 2, 1) := by decide +kernel
theorem dX2_waysWithoutOne_45 : decode cX2_waysWithoutOne 45 = .ok (.ireturn, 1) := by decide +kernel
theorem dX2_safe_0 : decode cX2_safe 0 = .ok (.iconst 0, 1) := by decide +kernel
theorem dX2_safe_1 : decode cX2_safe 1 = .ok (.istore_n 2, 1) := by decide +kernel
theorem dX2_safe_2 : decode cX2_safe 2 = .ok (.iconst 0, 1) := by decide +kernel
theorem dX2_safe_3 : decode cX2_safe 3 = .ok (.istore_n 3, 1) := by decide +kernel
theorem dX2_safe_4 : decode cX2_safe 4 = .ok (.iload_n 3, 1) := by decide +kernel
theorem dX2_safe_5 : decode cX2_safe 5 = .ok (.bipush 8, 2) := by decide +kernel
theorem dX2_safe_7 : decode cX2_safe 7 = .ok (.if_icmp .ge 45, 3) := by decide +kernel
theorem dX2_safe_10 : decode cX2_safe 10 = .ok (.aload_n 0, 1) := by decide +kernel
theorem dX2_safe_11 : decode cX2_safe 11 = .ok (.getfield 9, 3) := by decide +kernel
theorem dX2_safe_14 : decode cX2_safe 14 = .ok (.iload_n 3, 1) := by decide +kernel
theorem dX2_safe_15 : decode cX2_safe 15 = .ok (.ishr, 1) := by decide +kernel
theorem dX2_safe_16 : decode cX2_safe 16 = .ok (.iconst 1, 1) := by decide +kernel
theorem dX2_safe_17 : decode cX2_safe 17 = .ok (.iand, 1) := by decide +kernel
theorem dX2_safe_18 : decode cX2_safe 18 = .ok (.iconst 1, 1) := by decide +kernel
theorem dX2_safe_19 : decode cX2_safe 19 = .ok (.if_icmp .ne 27, 3) := by decide +kernel
theorem dX2_safe_22 : decode cX2_safe 22 = .ok (.aload_n 0, 1) := by decide +kernel
theorem dX2_safe_23 : decode cX2_safe 23 = .ok (.aload_n 0, 1) := by decide +kernel
theorem dX2_safe_24 : decode cX2_safe 24 = .ok (.getfield 9, 3) := by decide +kernel
theorem dX2_safe_27 : decode cX2_safe 27 = .ok (.iconst 1, 1) := by decide +kernel
theorem dX2_safe_28 : decode cX2_safe 28 = .ok (.iload_n 3, 1) := by decide +kernel
theorem dX2_safe_29 : decode cX2_safe 29 = .ok (.ishl, 1) := by decide +kernel
theorem dX2_safe_30 : decode cX2_safe 30 = .ok (.iconst (-1), 1) := by decide +kernel
theorem dX2_safe_31 : decode cX2_safe 31 = .ok (.ixor, 1) := by decide +kernel
theorem dX2_safe_32 : decode cX2_safe 32 = .ok (.iand, 1) := by decide +kernel
theorem dX2_safe_33 : decode cX2_safe 33 = .ok (.iload_n 1, 1) := by decide +kernel
theorem dX2_safe_34 : decode cX2_safe 34 = .ok (.invokevirtual 52, 3) := by decide +kernel
theorem dX2_safe_37 : decode cX2_safe 37 = .ok (.ifCond .ne 9, 3) := by decide +kernel
theorem dX2_safe_40 : decode cX2_safe 40 = .ok (.iload_n 2, 1) := by decide +kernel
theorem dX2_safe_41 : decode cX2_safe 41 = .ok (.iconst 1, 1) := by decide +kernel
theorem dX2_safe_42 : decode cX2_safe 42 = .ok (.iload_n 3, 1) := by decide +kernel
theorem dX2_safe_43 : decode cX2_safe 43 = .ok (.ishl, 1) := by decide +kernel
theorem dX2_safe_44 : decode cX2_safe 44 = .ok (.ior, 1) := by decide +kernel
theorem dX2_safe_45 : decode cX2_safe 45 = .ok (.istore_n 2, 1) := by decide +kernel
theorem dX2_safe_46 : decode cX2_safe 46 = .ok (.iinc 3 1, 3) := by decide +kernel
theorem dX2_safe_49 : decode cX2_safe 49 = .ok (.goto (-45), 3) := by decide +kernel
theorem dX2_safe_52 : decode cX2_safe 52 = .ok (.iload_n 2, 1) := by decide +kernel
theorem dX2_safe_53 : decode cX2_safe 53 = .ok (.ireturn, 1) := by decide +kernel
theorem dX3_init_0 : decode cX3_init 0 = .ok (.aload_n 0, 1) := by decide +kernel
theorem dX3_init_1 : decode cX3_init 1 = .ok (.invokespecial 3, 3) := by decide +kernel
theorem dX3_init_4 : decode cX3_init 4 = .ok (.aload_n 0, 1) := by decide +kernel
theorem dX3_init_5 : decode cX3_init 5 = .ok (.iconst 0, 1) := by decide +kernel
theorem dX3_init_6 : decode cX3_init 6 = .ok (.putfield 9, 3) := by decide +kernel
theorem dX3_init_9 : decode cX3_init 9 = .ok (.aload_n 0, 1) := by decide +kernel
theorem dX3_init_10 : decode cX3_init 10 = .ok (.iconst 0, 1) := by decide +kernel
theorem dX3_init_11 : decode cX3_init 11 = .ok (.putfield 15, 3) := by decide +kernel
theorem dX3_init_14 : decode cX3_init 14 = .ok (.aload_n 0, 1) := by decide +kernel
theorem dX3_init_15 : decode cX3_init 15 = .ok (.bipush 10, 2) := by decide +kernel
theorem dX3_init_17 : decode cX3_init 17 = .ok (.newarray .int, 2) := by decide +kernel
theorem dX3_init_19 : decode cX3_init 19 = .ok (.putfield 18, 3) := by decide +kernel
theorem dX3_init_22 : decode cX3_init 22 = .ok (.aload_n 0, 1) := by decide +kernel
theorem dX3_init_23 : decode cX3_init 23 = .ok (.bipush 10, 2) := by decide +kernel
theorem dX3_init_25 : decode cX3_init 25 = .ok (.newarray .int, 2) := by decide +kernel
theorem dX3_init_27 : decode cX3_init 27 = .ok (.putfield 22, 3) := by decide +kernel
theorem dX3_init_30 : decode cX3_init 30 = .ok (.aload_n 0, 1) := by decide +kernel
theorem dX3_init_31 : decode cX3_init 31 = .ok (.bipush 10, 2) := by decide +kernel
theorem dX3_init_33 : decode cX3_init 33 = .ok (.newarray .int, 2) := by decide +kernel
theorem dX3_init_35 : decode cX3_init 35 = .ok (.putfield 25, 3) := by decide +kernel
theorem dX3_init_38 : decode cX3_init 38 = .ok (.aload_n 0, 1) := by decide +kernel
theorem dX3_init_39 : decode cX3_init 39 = .ok (.bipush 10, 2) := by decide +kernel
theorem dX3_init_41 : decode cX3_init 41 = .ok (.newarray .int, 2) := by decide +kernel
theorem dX3_init_43 : decode cX3_init 43 = .ok (.putfield 28, 3) := by decide +kernel
theorem dX3_init_46 : decode cX3_init 46 = .ok (.aload_n 0, 1) := by decide +kernel
theorem dX3_init_47 : decode cX3_init 47 = .ok (.bipush 10, 2) := by decide +kernel
theorem dX3_init_49 : decode cX3_init 49 = .ok (.newarray .int, 2) := by decide +kernel
theorem dX3_init_51 : decode cX3_init 51 = .ok (.putfield 31, 3) := by decide +kernel
theorem dX3_init_54 : decode cX3_init 54 = .ok (.aload_n 0, 1) := by decide +kernel
theorem dX3_init_55 : decode cX3_init 55 = .ok (.iconst 0, 1) := by decide +kernel
theorem dX3_init_56 : decode cX3_init 56 = .ok (.putfield 34, 3) := by decide +kernel
theorem dX3_init_59 : decode cX3_init 59 = .ok (.aload_n 0, 1) := by decide +kernel
theorem dX3_init_60 : decode cX3_init 60 = .ok (.iconst 5, 1) := by decide +kernel
theorem dX3_init_61 : decode cX3_init 61 = .ok (.newarray .int, 2) := by decide +kernel
theorem dX3_init_63 : decode cX3_init 63 = .ok (.putfield 37, 3) := by decide +kernel
theorem dX3_init_66 : decode cX3_init 66 = .ok (.aload_n 0, 1) := by decide +kernel
theorem dX3_init_67 : decode cX3_init 67 = .ok (.iconst 5, 1) := by decide +kernel
theorem dX3_init_68 : decode cX3_init 68 = .ok (.newarray .int, 2) := by decide +kernel
theorem dX3_init_70 : decode cX3_init 70 = .ok (.putfield 40, 3) := by decide +kernel
theorem dX3_init_73 : decode cX3_init 73 = .ok (.aload_n 0, 1) := by decide +kernel
theorem dX3_init_74 : decode cX3_init 74 = .ok (.iconst 3, 1) := by decide +kernel
theorem dX3_init_75 : decode cX3_init 75 = .ok (.newarray .int, 2) := by decide +kernel
theorem dX3_init_77 : decode cX3_init 77 = .ok (.dup, 1) := by decide +kernel
theorem dX3_init_78 : decode cX3_init 78 = .ok (.iconst 0, 1) := by decide +kernel
theorem dX3_init_79 : decode cX3_init 79 = .ok (.sipush 999, 3) := by decide +kernel
theorem dX3_init_82 : decode cX3_init 82 = .ok (.iastore, 1) := by decide +kernel
theorem dX3_init_83 : decode cX3_init 83 = .ok (.dup, 1) := by decide +kernel
theorem dX3_init_84 : decode cX3_init 84 = .ok (.iconst 1, 1) := by decide +kernel
theorem dX3_init_85 : decode cX3_init 85 = .ok (.sipush 999, 3) := by decide +kernel
theorem dX3_init_88 : decode cX3_init 88 = .ok (.iastore, 1) := by decide +kernel
theorem dX3_init_89 : decode cX3_init 89 = .ok (.dup, 1) := by decide +kernel
theorem dX3_init_90 : decode cX3_init 90 = .ok (.iconst 2, 1) := by decide +kernel
theorem dX3_init_91 : decode cX3_init 91 = .ok (.sipush 999, 3) := by decide +kernel
theorem dX3_init_94 : decode cX3_init 94 = .ok (.iastore, 1) := by decide +kernel
theorem dX3_init_95 : decode cX3_init 95 = .ok (.putfield 43, 3) := by decide +kernel
theorem dX3_init_98 : decode cX3_init 98 = .ok (.aload_n 0, 1) := by decide +kernel
theorem dX3_init_99 : decode cX3_init 99 = .ok (.iconst 3, 1) := by decide +kernel
theorem dX3_init_100 : decode cX3_init 100 = .ok (.newarray .int, 2) := by decide +kernel
theorem dX3_init_102 : decode cX3_init 102 = .ok (.putfield 46, 3) := by decide +kernel
theorem dX3_init_105 : decode cX3_init 105 = .ok (.aload_n 0, 1) := by decide +kernel
theorem dX3_init_106 : decode cX3_init 106 = .ok (.iconst 2, 1) := by decide +kernel
theorem dX3_init_107 : decode cX3_init 107 = .ok (.newarray .int, 2) := by decide +kernel
theorem dX3_init_109 : decode cX3_init 109 = .ok (.dup, 1) := by decide +kernel
theorem dX3_init_110 : decode cX3_init 110 = .ok (.iconst 0, 1) := by decide +kernel
theorem dX3_init_111 : decode cX3_init 111 = .ok (.iconst 2, 1) := by decide +kernel
theorem dX3_init_112 : decode cX3_init 112 = .ok (.iastore, 1) := by decide +kernel
theorem dX3_init_113 : decode cX3_init 113 = .ok (.dup, 1) := by decide +kernel
theorem dX3_init_114 : decode cX3_init 114 = .ok (.iconst 1, 1) := by decide +kernel
theorem dX3_init_115 : decode cX3_init 115 = .ok (.iconst 3, 1) := by decide +kernel
theorem dX3_init_116 : decode cX3_init 116 = .ok (.iastore, 1) := by decide +kernel
theorem dX3_init_117 : decode cX3_init 117 = .ok (.putfield 49, 3) := by decide +kernel
theorem dX3_init_120 : decode cX3_init 120 = .ok (.aload_n 0, 1) := by decide +kernel
theorem dX3_init_121 : decode cX3_init 121 = .ok (.iconst 0, 1) := by decide +kernel
theorem dX3_init_122 : decode cX3_init 122 = .ok (.putfield 52, 3) := by decide +kernel
theorem dX3_init_125 : decode cX3_init 125 = .ok (.aload_n 0, 1) := by decide +kernel
theorem dX3_init_126 : decode cX3_init 126 = .ok (.bipush 8, 2) := by decide +kernel
theorem dX3_init_128 : decode cX3_init 128 = .ok (.newarray .int, 2) := by decide +kernel
theorem dX3_init_130 : decode cX3_init 130 = .ok (.putfield 55, 3) := by decide +kernel
theorem dX3_init_133 : decode cX3_init 133 = .ok (.aload_n 0, 1) := by decide +kernel
theorem dX3_init_134 : decode cX3_init 134 = .ok (.bipush 8, 2) := by decide +kernel
theorem dX3_init_136 : decode cX3_init 136 = .ok (.newarray .int, 2) := by decide +kernel
theorem dX3_init_138 : decode cX3_init 138 = .ok (.putfield 58, 3) := by decide +kernel
theorem dX3_init_141 : decode cX3_init 141 = .ok (.aload_n 0, 1) := by decide +kernel
theorem dX3_init_142 : decode cX3_init 142 = .ok (.bipush 8, 2) := by decide +kernel
theorem dX3_init_144 : decode cX3_init 144 = .ok (.newarray .int, 2) := by decide +kernel
theorem dX3_init_146 : decode cX3_init 146 = .ok (.putfield 61, 3) := by decide +kernel
theorem dX3_init_149 : decode cX3_init 149 = .ok (.aload_n 0, 1) := by decide +kernel
theorem dX3_init_150 : decode cX3_init 150 = .ok (.iconst 0, 1) := by decide +kernel
theorem dX3_init_151 : decode cX3_init 151 = .ok (.putfield 64, 3) := by decide +kernel
theorem dX3_init_154 : decode cX3_init 154 = .ok (.aload_n 0, 1) := by decide +kernel
theorem dX3_init_155 : decode cX3_init 155 = .ok (.bipush 6, 2) := by decide +kernel
theorem dX3_init_157 : decode cX3_init 157 = .ok (.newarray .int, 2) := by decide +kernel
theorem dX3_init_159 : decode cX3_init 159 = .ok (.putfield 67, 3) := by decide +kernel
theorem dX3_init_162 : decode cX3_init 162 = .ok (.aload_n 0, 1) := by decide +kernel
theorem dX3_init_163 : decode cX3_init 163 = .ok (.bipush 6, 2) := by decide +kernel
theorem dX3_init_165 : decode cX3_init 165 = .ok (.newarray .int, 2) := by decide +kernel
theorem dX3_init_167 : decode cX3_init 167 = .ok (.putfield 70, 3) := by decide +kernel
theorem dX3_init_170 : decode cX3_init 170 = .ok (.return_, 1) := by decide +kernel
theorem dX3_addThing_0 : decode cX3_addThing 0 = .ok (.aload_n 0, 1) := by decide +kernel
theorem dX3_addThing_1 : decode cX3_addThing 1 = .ok (.dup, 1) := by decide +kernel
theorem dX3_addThing_2 : decode cX3_addThing 2 = .ok (.getfield 9, 3) := by decide +kernel
theorem dX3_addThing_5 : decode cX3_addThing 5 = .ok (.iconst 1, 1) := by decide +kernel
theorem dX3_addThing_6 : decode cX3_addThing 6 = .ok (.iadd, 1) := by decide +kernel
theorem dX3_addThing_7 : decode cX3_addThing 7 = .ok (.putfield 9, 3) := by decide +kernel
theorem dX3_addThing_10 : decode cX3_addThing 10 = .ok (.aload_n 0, 1) := by decide +kernel
theorem dX3_addThing_11 : decode cX3_addThing 11 = .ok (.getfield 18, 3) := by decide +kernel
theorem dX3_addThing_14 : decode cX3_addThing 14 = .ok (.aload_n 0, 1) := by decide +kernel
theorem dX3_addThing_15 : decode cX3_addThing 15 = .ok (.getfield 15, 3) := by decide +kernel
theorem dX3_addThing_18 : decode cX3_addThing 18 = .ok (.iload_n 1, 1) := by decide +kernel
theorem dX3_addThing_19 : decode cX3_addThing 19 = .ok (.iastore, 1) := by decide +kernel
theorem dX3_addThing_20 : decode cX3_addThing 20 = .ok (.aload_n 0, 1) := by decide +kernel
theorem dX3_addThing_21 : decode cX3_addThing 21 = .ok (.getfield 22, 3) := by decide +kernel
theorem dX3_addThing_24 : decode cX3_addThing 24 = .ok (.aload_n 0, 1) := by decide +kernel
theorem dX3_addThing_25 : decode cX3_addThing 25 = .ok (.getfield 15, 3) := by decide +kernel
theorem dX3_addThing_28 : decode cX3_addThing 28 = .ok (.iload_n 2, 1) := by decide +kernel
theorem dX3_addThing_29 : decode cX3_addThing 29 = .ok (.iastore, 1) := by decide +kernel
theorem dX3_addThing_30 : decode cX3_addThing 30 = .ok (.aload_n 0, 1) := by decide +kernel
theorem dX3_addThing_31 : decode cX3_addThing 31 = .ok (.getfield 25, 3) := by decide +kernel
theorem dX3_addThing_34 : decode cX3_addThing 34 = .ok (.aload_n 0, 1) := by decide +kernel
theorem dX3_addThing_35 : decode cX3_addThing 35 = .ok (.getfield 15, 3) := by decide +kernel
theorem dX3_addThing_38 : decode cX3_addThing 38 = .ok (.iload_n 3, 1) := by decide +kernel
theorem dX3_addThing_39 : decode cX3_addThing 39 = .ok (.iastore, 1) := by decide +kernel
theorem dX3_addThing_40 : decode cX3_addThing 40 = .ok (.aload_n 0, 1) := by decide +kernel
theorem dX3_addThing_41 : decode cX3_addThing 41 = .ok (.getfield 28, 3) := by decide +kernel
theorem dX3_addThing_44 : decode cX3_addThing 44 = .ok (.aload_n 0, 1) := by decide +kernel
theorem dX3_addThing_45 : decode cX3_addThing 45 = .ok (.getfield 15, 3) := by decide +kernel
theorem dX3_addThing_48 : decode cX3_addThing 48 = .ok (.iconst 0, 1) := by decide +kernel
theorem dX3_addThing_49 : decode cX3_addThing 49 = .ok (.iastore, 1) := by decide +kernel
theorem dX3_addThing_50 : decode cX3_addThing 50 = .ok (.aload_n 0, 1) := by decide +kernel
theorem dX3_addThing_51 : decode cX3_addThing 51 = .ok (.getfield 31, 3) := by decide +kernel
theorem dX3_addThing_54 : decode cX3_addThing 54 = .ok (.aload_n 0, 1) := by decide +kernel
theorem dX3_addThing_55 : decode cX3_addThing 55 = .ok (.getfield 15, 3) := by decide +kernel
theorem dX3_addThing_58 : decode cX3_addThing 58 = .ok (.iconst 0, 1) := by decide +kernel
theorem dX3_addThing_59 : decode cX3_addThing 59 = .ok (.iastore, 1) := by decide +kernel
theorem dX3_addThing_60 : decode cX3_addThing 60 = .ok (.aload_n 0, 1) := by decide +kernel
theorem dX3_addThing_61 : decode cX3_addThing 61 = .ok (.dup, 1) := by decide +kernel
theorem dX3_addThing_62 : decode cX3_addThing 62 = .ok (.getfield 15, 3) := by decide +kernel
theorem dX3_addThing_65 : decode cX3_addThing 65 = .ok (.dup_x1, 1) := by decide +kernel
theorem dX3_addThing_66 : decode cX3_addThing 66 = .ok (.iconst 1, 1) := by decide +kernel
theorem dX3_addThing_67 : decode cX3_addThing 67 = .ok (.iadd, 1) := by decide +kernel
theorem dX3_addThing_68 : decode cX3_addThing 68 = .ok (.putfield 15, 3) := by decide +kernel
theorem dX3_addThing_71 : decode cX3_addThing 71 = .ok (.ireturn, 1) := by decide +kernel
theorem dX3_addStretch_0 : decode cX3_addStretch 0 = .ok (.aload_n 0, 1) := by decide +kernel
theorem dX3_addStretch_1 : decode cX3_addStretch 1 = .ok (.dup, 1) := by decide +kernel
theorem dX3_addStretch_2 : decode cX3_addStretch 2 = .ok (.getfield 9, 3) := by decide +kernel
theorem dX3_addStretch_5 : decode cX3_addStretch 5 = .ok (.iconst 1, 1) := by decide +kernel
theorem dX3_addStretch_6 : decode cX3_addStretch 6 = .ok (.iadd, 1) := by decide +kernel
theorem dX3_addStretch_7 : decode cX3_addStretch 7 = .ok (.putfield 9, 3) := by decide +kernel
theorem dX3_addStretch_10 : decode cX3_addStretch 10 = .ok (.aload_n 0, 1) := by decide +kernel
theorem dX3_addStretch_11 : decode cX3_addStretch 11 = .ok (.getfield 37, 3) := by decide +kernel
theorem dX3_addStretch_14 : decode cX3_addStretch 14 = .ok (.aload_n 0, 1) := by decide +kernel
theorem dX3_addStretch_15 : decode cX3_addStretch 15 = .ok (.getfield 34, 3) := by decide +kernel
theorem dX3_addStretch_18 : decode cX3_addStretch 18 = .ok (.iload_n 1, 1) := by decide +kernel
theorem dX3_addStretch_19 : decode cX3_addStretch 19 = .ok (.iastore, 1) := by decide +kernel
theorem dX3_addStretch_20 : decode cX3_addStretch 20 = .ok (.aload_n 0, 1) := by decide +kernel
theorem dX3_addStretch_21 : decode cX3_addStretch 21 = .ok (.getfield 40, 3) := by decide +kernel
theorem dX3_addStretch_24 : decode cX3_addStretch 24 = .ok (.aload_n 0, 1) := by decide +kernel
theorem dX3_addStretch_25 : decode cX3_addStretch 25 = .ok (.getfield 34, 3) := by decide +kernel
theorem dX3_addStretch_28 : decode cX3_addStretch 28 = .ok (.iload_n 2, 1) := by decide +kernel
theorem dX3_addStretch_29 : decode cX3_addStretch 29 = .ok (.iastore, 1) := by decide +kernel
theorem dX3_addStretch_30 : decode cX3_addStretch 30 = .ok (.aload_n 0, 1) := by decide +kernel
theorem dX3_addStretch_31 : decode cX3_addStretch 31 = .ok (.dup, 1) := by decide +kernel
theorem dX3_addStretch_32 : decode cX3_addStretch 32 = .ok (.getfield 34, 3) := by decide +kernel
theorem dX3_addStretch_35 : decode cX3_addStretch 35 = .ok (.dup_x1, 1) := by decide +kernel
theorem dX3_addStretch_36 : decode cX3_addStretch 36 = .ok (.iconst 1, 1) := by decide +kernel
theorem dX3_addStretch_37 : decode cX3_addStretch 37 = .ok (.iadd, 1) := by decide +kernel
theorem dX3_addStretch_38 : decode cX3_addStretch 38 = .ok (.putfield 34, 3) := by decide +kernel
theorem dX3_addStretch_41 : decode cX3_addStretch 41 = .ok (.ireturn, 1) := by decide +kernel
theorem dX3_addLaw_0 : decode cX3_addLaw 0 = .ok (.aload_n 0, 1) := by decide +kernel
theorem dX3_addLaw_1 : decode cX3_addLaw 1 = .ok (.dup, 1) := by decide +kernel
theorem dX3_addLaw_2 : decode cX3_addLaw 2 = .ok (.getfield 9, 3) := by decide +kernel
theorem dX3_addLaw_5 : decode cX3_addLaw 5 = .ok (.iconst 1, 1) := by decide +kernel
theorem dX3_addLaw_6 : decode cX3_addLaw 6 = .ok (.iadd, 1) := by decide +kernel
theorem dX3_addLaw_7 : decode cX3_addLaw 7 = .ok (.putfield 9, 3) := by decide +kernel
theorem dX3_addLaw_10 : decode cX3_addLaw 10 = .ok (.aload_n 0, 1) := by decide +kernel
theorem dX3_addLaw_11 : decode cX3_addLaw 11 = .ok (.getfield 55, 3) := by decide +kernel
theorem dX3_addLaw_14 : decode cX3_addLaw 14 = .ok (.aload_n 0, 1) := by decide +kernel
theorem dX3_addLaw_15 : decode cX3_addLaw 15 = .ok (.getfield 52, 3) := by decide +kernel
theorem dX3_addLaw_18 : decode cX3_addLaw 18 = .ok (.iload_n 1, 1) := by decide +kernel
theorem dX3_addLaw_19 : decode cX3_addLaw 19 = .ok (.iastore, 1) := by decide +kernel
theorem dX3_addLaw_20 : decode cX3_addLaw 20 = .ok (.aload_n 0, 1) := by decide +kernel
theorem dX3_addLaw_21 : decode cX3_addLaw 21 = .ok (.getfield 58, 3) := by decide +kernel
theorem dX3_addLaw_24 : decode cX3_addLaw 24 = .ok (.aload_n 0, 1) := by decide +kernel
theorem dX3_addLaw_25 : decode cX3_addLaw 25 = .ok (.getfield 52, 3) := by decide +kernel
theorem dX3_addLaw_28 : decode cX3_addLaw 28 = .ok (.iload_n 2, 1) := by decide +kernel
theorem dX3_addLaw_29 : decode cX3_addLaw 29 = .ok (.iastore, 1) := by decide +kernel
theorem dX3_addLaw_30 : decode cX3_addLaw 30 = .ok (.aload_n 0, 1) := by decide +kernel
theorem dX3_addLaw_31 : decode cX3_addLaw 31 = .ok (.getfield 61, 3) := by decide +kernel
theorem dX3_addLaw_34 : decode cX3_addLaw 34 = .ok (.aload_n 0, 1) := by decide +kernel
theorem dX3_addLaw_35 : decode cX3_addLaw 35 = .ok (.getfield 52, 3) := by decide +kernel
theorem dX3_addLaw_38 : decode cX3_addLaw 38 = .ok (.iload_n 3, 1) := by decide +kernel
theorem dX3_addLaw_39 : decode cX3_addLaw 39 = .ok (.iastore, 1) := by decide +kernel
theorem dX3_addLaw_40 : decode cX3_addLaw 40 = .ok (.aload_n 0, 1) := by decide +kernel
theorem dX3_addLaw_41 : decode cX3_addLaw 41 = .ok (.dup, 1) := by decide +kernel
theorem dX3_addLaw_42 : decode cX3_addLaw 42 = .ok (.getfield 52, 3) := by decide +kernel
theorem dX3_addLaw_45 : decode cX3_addLaw 45 = .ok (.dup_x1, 1) := by decide +kernel
theorem dX3_addLaw_46 : decode cX3_addLaw 46 = .ok (.iconst 1, 1) := by decide +kernel
theorem dX3_addLaw_47 : decode cX3_addLaw 47 = .ok (.iadd, 1) := by decide +kernel
theorem dX3_addLaw_48 : decode cX3_addLaw 48 = .ok (.putfield 52, 3) := by decide +kernel
theorem dX3_addLaw_51 : decode cX3_addLaw 51 = .ok (.ireturn, 1) := by decide +kernel
theorem dX3_dropLaw_0 : decode cX3_dropLaw 0 = .ok (.aload_n 0, 1) := by decide +kernel
theorem dX3_dropLaw_1 : decode cX3_dropLaw 1 = .ok (.dup, 1) := by decide +kernel
theorem dX3_dropLaw_2 : decode cX3_dropLaw 2 = .ok (.getfield 9, 3) := by decide +kernel
theorem dX3_dropLaw_5 : decode cX3_dropLaw 5 = .ok (.iconst 1, 1) := by decide +kernel
theorem dX3_dropLaw_6 : decode cX3_dropLaw 6 = .ok (.iadd, 1) := by decide +kernel
theorem dX3_dropLaw_7 : decode cX3_dropLaw 7 = .ok (.putfield 9, 3) := by decide +kernel
theorem dX3_dropLaw_10 : decode cX3_dropLaw 10 = .ok (.aload_n 0, 1) := by decide +kernel
theorem dX3_dropLaw_11 : decode cX3_dropLaw 11 = .ok (.dup, 1) := by decide +kernel
theorem dX3_dropLaw_12 : decode cX3_dropLaw 12 = .ok (.getfield 52, 3) := by decide +kernel
theorem dX3_dropLaw_15 : decode cX3_dropLaw 15 = .ok (.iconst 1, 1) := by decide +kernel
theorem dX3_dropLaw_16 : decode cX3_dropLaw 16 = .ok (.isub, 1) := by decide +kernel
theorem dX3_dropLaw_17 : decode cX3_dropLaw 17 = .ok (.putfield 52, 3) := by decide +kernel
theorem dX3_dropLaw_20 : decode cX3_dropLaw 20 = .ok (.aload_n 0, 1) := by decide +kernel
theorem dX3_dropLaw_21 : decode cX3_dropLaw 21 = .ok (.getfield 52, 3) := by decide +kernel
theorem dX3_dropLaw_24 : decode cX3_dropLaw 24 = .ok (.ireturn, 1) := by decide +kernel
theorem dX3_addBar_0 : decode cX3_addBar 0 = .ok (.aload_n 0, 1) := by decide +kernel
theorem dX3_addBar_1 : decode cX3_addBar 1 = .ok (.dup, 1) := by decide +kernel
theorem dX3_addBar_2 : decode cX3_addBar 2 = .ok (.getfield 9, 3) := by decide +kernel
theorem dX3_addBar_5 : decode cX3_addBar 5 = .ok (.iconst 1, 1) := by decide +kernel
theorem dX3_addBar_6 : decode cX3_addBar 6 = .ok (.iadd, 1) := by decide +kernel
theorem dX3_addBar_7 : decode cX3_addBar 7 = .ok (.putfield 9, 3) := by decide +kernel
theorem dX3_addBar_10 : decode cX3_addBar 10 = .ok (.aload_n 0, 1) := by decide +kernel
theorem dX3_addBar_11 : decode cX3_addBar 11 = .ok (.getfield 67, 3) := by decide +kernel
theorem dX3_addBar_14 : decode cX3_addBar 14 = .ok (.aload_n 0, 1) := by decide +kernel
theorem dX3_addBar_15 : decode cX3_addBar 15 = .ok (.getfield 64, 3) := by decide +kernel
theorem dX3_addBar_18 : decode cX3_addBar 18 = .ok (.iload_n 1, 1) := by decide +kernel
theorem dX3_addBar_19 : decode cX3_addBar 19 = .ok (.iastore, 1) := by decide +kernel
theorem dX3_addBar_20 : decode cX3_addBar 20 = .ok (.aload_n 0, 1) := by decide +kernel
theorem dX3_addBar_21 : decode cX3_addBar 21 = .ok (.getfield 70, 3) := by decide +kernel
theorem dX3_addBar_24 : decode cX3_addBar 24 = .ok (.aload_n 0, 1) := by decide +kernel
theorem dX3_addBar_25 : decode cX3_addBar 25 = .ok (.getfield 64, 3) := by decide +kernel
theorem dX3_addBar_28 : decode cX3_addBar 28 = .ok (.iload_n 2, 1) := by decide +kernel
theorem dX3_addBar_29 : decode cX3_addBar 29 = .ok (.iastore, 1) := by decide +kernel
theorem dX3_addBar_30 : decode cX3_addBar 30 = .ok (.aload_n 0, 1) := by decide +kernel
theorem dX3_addBar_31 : decode cX3_addBar 31 = .ok (.dup, 1) := by decide +kernel
theorem dX3_addBar_32 : decode cX3_addBar 32 = .ok (.getfield 64, 3) := by decide +kernel
theorem dX3_addBar_35 : decode cX3_addBar 35 = .ok (.dup_x1, 1) := by decide +kernel
theorem dX3_addBar_36 : decode cX3_addBar 36 = .ok (.iconst 1, 1) := by decide +kernel
theorem dX3_addBar_37 : decode cX3_addBar 37 = .ok (.iadd, 1) := by decide +kernel
theorem dX3_addBar_38 : decode cX3_addBar 38 = .ok (.putfield 64, 3) := by decide +kernel
theorem dX3_addBar_41 : decode cX3_addBar 41 = .ok (.ireturn, 1) := by decide +kernel
theorem dX3_put_0 : decode cX3_put 0 = .ok (.aload_n 0, 1) := by decide +kernel
theorem dX3_put_1 : decode cX3_put 1 = .ok (.dup, 1) := by decide +kernel
theorem dX3_put_2 : decode cX3_put 2 = .ok (.getfield 9, 3) := by decide +kernel
theorem dX3_put_5 : decode cX3_put 5 = .ok (.iconst 1, 1) := by decide +kernel
theorem dX3_put_6 : decode cX3_put 6 = .ok (.iadd, 1) := by decide +kernel
theorem dX3_put_7 : decode cX3_put 7 = .ok (.putfield 9, 3) := by decide +kernel
theorem dX3_put_10 : decode cX3_put 10 = .ok (.aload_n 1, 1) := by decide +kernel
theorem dX3_put_11 : decode cX3_put 11 = .ok (.iload_n 2, 1) := by decide +kernel
theorem dX3_put_12 : decode cX3_put 12 = .ok (.iaload, 1) := by decide +kernel
theorem dX3_put_13 : decode cX3_put 13 = .ok (.istore 4, 2) := by decide +kernel
theorem dX3_put_15 : decode cX3_put 15 = .ok (.aload_n 1, 1) := by decide +kernel
theorem dX3_put_16 : decode cX3_put 16 = .ok (.iload_n 2, 1) := by decide +kernel
theorem dX3_put_17 : decode cX3_put 17 = .ok (.iload_n 3, 1) := by decide +kernel
theorem dX3_put_18 : decode cX3_put 18 = .ok (.iastore, 1) := by decide +kernel
theorem dX3_put_19 : decode cX3_put 19 = .ok (.iload 4, 2) := by decide +kernel
theorem dX3_put_21 : decode cX3_put 21 = .ok (.ireturn, 1) := by decide +kernel
theorem dX3_packAs_0 : decode cX3_packAs 0 = .ok (.aload_n 0, 1) := by decide +kernel
theorem dX3_packAs_1 : decode cX3_packAs 1 = .ok (.dup, 1) := by decide +kernel
theorem dX3_packAs_2 : decode cX3_packAs 2 = .ok (.getfield 9, 3) := by decide +kernel
theorem dX3_packAs_5 : decode cX3_packAs 5 = .ok (.iconst 1, 1) := by decide +kernel
theorem dX3_packAs_6 : decode cX3_packAs 6 = .ok (.iadd, 1) := by decide +kernel
theorem dX3_packAs_7 : decode cX3_packAs 7 = .ok (.putfield 9, 3) := by decide +kernel
theorem dX3_packAs_10 : decode cX3_packAs 10 = .ok (.aload_n 1, 1) := by decide +kernel
theorem dX3_packAs_11 : decode cX3_packAs 11 = .ok (.iconst 0, 1) := by decide +kernel
theorem dX3_packAs_12 : decode cX3_packAs 12 = .ok (.aload_n 0, 1) := by decide +kernel
theorem dX3_packAs_13 : decode cX3_packAs 13 = .ok (.getfield 31, 3) := by decide +kernel
theorem dX3_packAs_16 : decode cX3_packAs 16 = .ok (.iconst 0, 1) := by decide +kernel
theorem dX3_packAs_17 : decode cX3_packAs 17 = .ok (.aload_n 0, 1) := by decide +kernel
theorem dX3_packAs_18 : decode cX3_packAs 18 = .ok (.getfield 15, 3) := by decide +kernel
theorem dX3_packAs_21 : decode cX3_packAs 21 = .ok (.invokestatic 73, 3) := by decide +kernel
theorem dX3_packAs_24 : decode cX3_packAs 24 = .ok (.return_, 1) := by decide +kernel
theorem dX3_clearGoods_0 : decode cX3_clearGoods 0 = .ok (.aload_n 0, 1) := by decide +kernel
theorem dX3_clearGoods_1 : decode cX3_clearGoods 1 = .ok (.dup, 1) := by decide +kernel
theorem dX3_clearGoods_2 : decode cX3_clearGoods 2 = .ok (.getfield 9, 3) := by decide +kernel
theorem dX3_clearGoods_5 : decode cX3_clearGoods 5 = .ok (.iconst 1, 1) := by decide +kernel
theorem dX3_clearGoods_6 : decode cX3_clearGoods 6 = .ok (.iadd, 1) := by decide +kernel
theorem dX3_clearGoods_7 : decode cX3_clearGoods 7 = .ok (.putfield 9, 3) := by decide +kernel
theorem dX3_clearGoods_10 : decode cX3_clearGoods 10 = .ok (.aload_n 0, 1) := by decide +kernel
theorem dX3_clearGoods_11 : decode cX3_clearGoods 11 = .ok (.iconst 0, 1) := by decide +kernel
theorem dX3_clearGoods_12 : decode cX3_clearGoods 12 = .ok (.putfield 15, 3) := by decide +kernel
theorem dX3_clearGoods_15 : decode cX3_clearGoods 15 = .ok (.aload_n 0, 1) := by decide +kernel
theorem dX3_clearGoods_16 : decode cX3_clearGoods 16 = .ok (.iconst 0, 1) := by decide +kernel
theorem dX3_clearGoods_17 : decode cX3_clearGoods 17 = .ok (.putfield 34, 3) := by decide +kernel
theorem dX3_clearGoods_20 : decode cX3_clearGoods 20 = .ok (.return_, 1) := by decide +kernel
theorem dX3_clearLawsAndBars_0 : decode cX3_clearLawsAndBars 0 = .ok (.aload_n 0, 1) := by decide +kernel
theorem dX3_clearLawsAndBars_1 : decode cX3_clearLawsAndBars 1 = .ok (.dup, 1) := by decide +kernel
theorem dX3_clearLawsAndBars_2 : decode cX3_clearLawsAndBars 2 = .ok (.getfield 9, 3) := by decide +kernel
theorem dX3_clearLawsAndBars_5 : decode cX3_clearLawsAndBars 5 = .ok (.iconst 1, 1) := by decide +kernel
theorem dX3_clearLawsAndBars_6 : decode cX3_clearLawsAndBars 6 = .ok (.iadd, 1) := by decide +kernel
theorem dX3_clearLawsAndBars_7 : decode cX3_clearLawsAndBars 7 = .ok (.putfield 9, 3) := by decide +kernel
theorem dX3_clearLawsAndBars_10 : decode cX3_clearLawsAndBars 10 = .ok (.aload_n 0, 1) := by decide +kernel
theorem dX3_clearLawsAndBars_11 : decode cX3_clearLawsAndBars 11 = .ok (.iconst 0, 1) := by decide +kernel
theorem dX3_clearLawsAndBars_12 : decode cX3_clearLawsAndBars 12 = .ok (.putfield 52, 3) := by decide +kernel
theorem dX3_clearLawsAndBars_15 : decode cX3_clearLawsAndBars 15 = .ok (.aload_n 0, 1) := by decide +kernel
theorem dX3_clearLawsAndBars_16 : decode cX3_clearLawsAndBars 16 = .ok (.iconst 0, 1) := by decide +kernel
theorem dX3_clearLawsAndBars_17 : decode cX3_clearLawsAndBars 17 = .ok (.putfield 64, 3) := by decide +kernel
theorem dX3_clearLawsAndBars_20 : decode cX3_clearLawsAndBars 20 = .ok (.return_, 1) := by decide +kernel
theorem dX3_takeGoods_0 : decode cX3_takeGoods 0 = .ok (.aload_n 0, 1) := by decide +kernel
theorem dX3_takeGoods_1 : decode cX3_takeGoods 1 = .ok (.dup, 1) := by decide +kernel
theorem dX3_takeGoods_2 : decode cX3_takeGoods 2 = .ok (.getfield 9, 3) := by decide +kernel
theorem dX3_takeGoods_5 : decode cX3_takeGoods 5 = .ok (.iconst 1, 1) := by decide +kernel
theorem dX3_takeGoods_6 : decode cX3_takeGoods 6 = .ok (.iadd, 1) := by decide +kernel
theorem dX3_takeGoods_7 : decode cX3_takeGoods 7 = .ok (.putfield 9, 3) := by decide +kernel
theorem dX3_takeGoods_10 : decode cX3_takeGoods 10 = .ok (.aload_n 0, 1) := by decide +kernel
theorem dX3_takeGoods_11 : decode cX3_takeGoods 11 = .ok (.aload_n 1, 1) := by decide +kernel
theorem dX3_takeGoods_12 : decode cX3_takeGoods 12 = .ok (.getfield 15, 3) := by decide +kernel
theorem dX3_takeGoods_15 : decode cX3_takeGoods 15 = .ok (.putfield 15, 3) := by decide +kernel
theorem dX3_takeGoods_18 : decode cX3_takeGoods 18 = .ok (.aload_n 1, 1) := by decide +kernel
theorem dX3_takeGoods_19 : decode cX3_takeGoods 19 = .ok (.getfield 18, 3) := by decide +kernel
theorem dX3_takeGoods_22 : decode cX3_takeGoods 22 = .ok (.iconst 0, 1) := by decide +kernel
theorem dX3_takeGoods_23 : decode cX3_takeGoods 23 = .ok (.aload_n 0, 1) := by decide +kernel
theorem dX3_takeGoods_24 : decode cX3_takeGoods 24 = .ok (.getfield 18, 3) := by decide +kernel
theorem dX3_takeGoods_27 : decode cX3_takeGoods 27 = .ok (.iconst 0, 1) := by decide +kernel
theorem dX3_takeGoods_28 : decode cX3_takeGoods 28 = .ok (.bipush 10, 2) := by decide +kernel
theorem dX3_takeGoods_30 : decode cX3_takeGoods 30 = .ok (.invokestatic 73, 3) := by decide +kernel
theorem dX3_takeGoods_33 : decode cX3_takeGoods 33 = .ok (.aload_n 1, 1) := by decide +kernel
theorem dX3_takeGoods_34 : decode cX3_takeGoods 34 = .ok (.getfield 22, 3) := by decide +kernel
theorem dX3_takeGoods_37 : decode cX3_takeGoods 37 = .ok (.iconst 0, 1) := by decide +kernel
theorem dX3_takeGoods_38 : decode cX3_takeGoods 38 = .ok (.aload_n 0, 1) := by decide +kernel
theorem dX3_takeGoods_39 : decode cX3_takeGoods 39 = .ok (.getfield 22, 3) := by decide +kernel
theorem dX3_takeGoods_42 : decode cX3_takeGoods 42 = .ok (.iconst 0, 1) := by decide +kernel
theorem dX3_takeGoods_43 : decode cX3_takeGoods 43 = .ok (.bipush 10, 2) := by decide +kernel
theorem dX3_takeGoods_45 : decode cX3_takeGoods 45 = .ok (.invokestatic 73, 3) := by decide +kernel
theorem dX3_takeGoods_48 : decode cX3_takeGoods 48 = .ok (.aload_n 1, 1) := by decide +kernel
theorem dX3_takeGoods_49 : decode cX3_takeGoods 49 = .ok (.getfield 25, 3) := by decide +kernel
theorem dX3_takeGoods_52 : decode cX3_takeGoods 52 = .ok (.iconst 0, 1) := by decide +kernel
theorem dX3_takeGoods_53 : decode cX3_takeGoods 53 = .ok (.aload_n 0, 1) := by decide +kernel
theorem dX3_takeGoods_54 : decode cX3_takeGoods 54 = .ok (.getfield 25, 3) := by decide +kernel
theorem dX3_takeGoods_57 : decode cX3_takeGoods 57 = .ok (.iconst 0, 1) := by decide +kernel
theorem dX3_takeGoods_58 : decode cX3_takeGoods 58 = .ok (.bipush 10, 2) := by decide +kernel
theorem dX3_takeGoods_60 : decode cX3_takeGoods 60 = .ok (.invokestatic 73, 3) := by decide +kernel
theorem dX3_takeGoods_63 : decode cX3_takeGoods 63 = .ok (.aload_n 1, 1) := by decide +kernel
theorem dX3_takeGoods_64 : decode cX3_takeGoods 64 = .ok (.getfield 28, 3) := by decide +kernel
theorem dX3_takeGoods_67 : decode cX3_takeGoods 67 = .ok (.iconst 0, 1) := by decide +kernel
theorem dX3_takeGoods_68 : decode cX3_takeGoods 68 = .ok (.aload_n 0, 1) := by decide +kernel
theorem dX3_takeGoods_69 : decode cX3_takeGoods 69 = .ok (.getfield 28, 3) := by decide +kernel
theorem dX3_takeGoods_72 : decode cX3_takeGoods 72 = .ok (.iconst 0, 1) := by decide +kernel
theorem dX3_takeGoods_73 : decode cX3_takeGoods 73 = .ok (.bipush 10, 2) := by decide +kernel
theorem dX3_takeGoods_75 : decode cX3_takeGoods 75 = .ok (.invokestatic 73, 3) := by decide +kernel
theorem dX3_takeGoods_78 : decode cX3_takeGoods 78 = .ok (.aload_n 1, 1) := by decide +kernel
theorem dX3_takeGoods_79 : decode cX3_takeGoods 79 = .ok (.getfield 31, 3) := by decide +kernel
theorem dX3_takeGoods_82 : decode cX3_takeGoods 82 = .ok (.iconst 0, 1) := by decide +kernel
theorem dX3_takeGoods_83 : decode cX3_takeGoods 83 = .ok (.aload_n 0, 1) := by decide +kernel
theorem dX3_takeGoods_84 : decode cX3_takeGoods 84 = .ok (.getfield 31, 3) := by decide +kernel
theorem dX3_takeGoods_87 : decode cX3_takeGoods 87 = .ok (.iconst 0, 1) := by decide +kernel
theorem dX3_takeGoods_88 : decode cX3_takeGoods 88 = .ok (.bipush 10, 2) := by decide +kernel
theorem dX3_takeGoods_90 : decode cX3_takeGoods 90 = .ok (.invokestatic 73, 3) := by decide +kernel
theorem dX3_takeGoods_93 : decode cX3_takeGoods 93 = .ok (.aload_n 0, 1) := by decide +kernel
theorem dX3_takeGoods_94 : decode cX3_takeGoods 94 = .ok (.aload_n 1, 1) := by decide +kernel
theorem dX3_takeGoods_95 : decode cX3_takeGoods 95 = .ok (.getfield 34, 3) := by decide +kernel
theorem dX3_takeGoods_98 : decode cX3_takeGoods 98 = .ok (.putfield 34, 3) := by decide +kernel
theorem dX3_takeGoods_101 : decode cX3_takeGoods 101 = .ok (.aload_n 1, 1) := by decide +kernel
theorem dX3_takeGoods_102 : decode cX3_takeGoods 102 = .ok (.getfield 37, 3) := by decide +kernel
theorem dX3_takeGoods_105 : decode cX3_takeGoods 105 = .ok (.iconst 0, 1) := by decide +kernel
theorem dX3_takeGoods_106 : decode cX3_takeGoods 106 = .ok (.aload_n 0, 1) := by decide +kernel
theorem dX3_takeGoods_107 : decode cX3_takeGoods 107 = .ok (.getfield 37, 3) := by decide +kernel
theorem dX3_takeGoods_110 : decode cX3_takeGoods 110 = .ok (.iconst 0, 1) := by decide +kernel
theorem dX3_takeGoods_111 : decode cX3_takeGoods 111 = .ok (.iconst 5, 1) := by decide +kernel
theorem dX3_takeGoods_112 : decode cX3_takeGoods 112 = .ok (.invokestatic 73, 3) := by decide +kernel
theorem dX3_takeGoods_115 : decode cX3_takeGoods 115 = .ok (.aload_n 1, 1) := by decide +kernel
theorem dX3_takeGoods_116 : decode cX3_takeGoods 116 = .ok (.getfield 40, 3) := by decide +kernel
theorem dX3_takeGoods_119 : decode cX3_takeGoods 119 = .ok (.iconst 0, 1) := by decide +kernel
theorem dX3_takeGoods_120 : decode cX3_takeGoods 120 = .ok (.aload_n 0, 1) := by decide +kernel
theorem dX3_takeGoods_121 : decode cX3_takeGoods 121 = .ok (.getfield 40, 3) := by decide +kernel
theorem dX3_takeGoods_124 : decode cX3_takeGoods 124 = .ok (.iconst 0, 1) := by decide +kernel
theorem dX3_takeGoods_125 : decode cX3_takeGoods 125 = .ok (.iconst 5, 1) := by decide +kernel
theorem dX3_takeGoods_126 : decode cX3_takeGoods 126 = .ok (.invokestatic 73, 3) := by decide +kernel
theorem dX3_takeGoods_129 : decode cX3_takeGoods 129 = .ok (.return_, 1) := by decide +kernel
theorem dX3_takeAll_0 : decode cX3_takeAll 0 = .ok (.aload_n 0, 1) := by decide +kernel
theorem dX3_takeAll_1 : decode cX3_takeAll 1 = .ok (.aload_n 1, 1) := by decide +kernel
theorem dX3_takeAll_2 : decode cX3_takeAll 2 = .ok (.invokevirtual 79, 3) := by decide +kernel
theorem dX3_takeAll_5 : decode cX3_takeAll 5 = .ok (.aload_n 1, 1) := by decide +kernel
theorem dX3_takeAll_6 : decode cX3_takeAll 6 = .ok (.getfield 43, 3) := by decide +kernel
theorem dX3_takeAll_9 : decode cX3_takeAll 9 = .ok (.iconst 0, 1) := by decide +kernel
theorem dX3_takeAll_10 : decode cX3_takeAll 10 = .ok (.aload_n 0, 1) := by decide +kernel
theorem dX3_takeAll_11 : decode cX3_takeAll 11 = .ok (.getfield 43, 3) := by decide +kernel
theorem dX3_takeAll_14 : decode cX3_takeAll 14 = .ok (.iconst 0, 1) := by decide +kernel
theorem dX3_takeAll_15 : decode cX3_takeAll 15 = .ok (.iconst 3, 1) := by decide +kernel
theorem dX3_takeAll_16 : decode cX3_takeAll 16 = .ok (.invokestatic 73, 3) := by decide +kernel
theorem dX3_takeAll_19 : decode cX3_takeAll 19 = .ok (.aload_n 1, 1) := by decide +kernel
theorem dX3_takeAll_20 : decode cX3_takeAll 20 = .ok (.getfield 46, 3) := by decide +kernel
theorem dX3_takeAll_23 : decode cX3_takeAll 23 = .ok (.iconst 0, 1) := by decide +kernel
theorem dX3_takeAll_24 : decode cX3_takeAll 24 = .ok (.aload_n 0, 1) := by decide +kernel
theorem dX3_takeAll_25 : decode cX3_takeAll 25 = .ok (.getfield 46, 3) := by decide +kernel
theorem dX3_takeAll_28 : decode cX3_takeAll 28 = .ok (.iconst 0, 1) := by decide +kernel
theorem dX3_takeAll_29 : decode cX3_takeAll 29 = .ok (.iconst 3, 1) := by decide +kernel
theorem dX3_takeAll_30 : decode cX3_takeAll 30 = .ok (.invokestatic 73, 3) := by decide +kernel
theorem dX3_takeAll_33 : decode cX3_takeAll 33 = .ok (.aload_n 1, 1) := by decide +kernel
theorem dX3_takeAll_34 : decode cX3_takeAll 34 = .ok (.getfield 49, 3) := by decide +kernel
theorem dX3_takeAll_37 : decode cX3_takeAll 37 = .ok (.iconst 0, 1) := by decide +kernel
theorem dX3_takeAll_38 : decode cX3_takeAll 38 = .ok (.aload_n 0, 1) := by decide +kernel
theorem dX3_takeAll_39 : decode cX3_takeAll 39 = .ok (.getfield 49, 3) := by decide +kernel
theorem dX3_takeAll_42 : decode cX3_takeAll 42 = .ok (.iconst 0, 1) := by decide +kernel
theorem dX3_takeAll_43 : decode cX3_takeAll 43 = .ok (.iconst 2, 1) := by decide +kernel
theorem dX3_takeAll_44 : decode cX3_takeAll 44 = .ok (.invokestatic 73, 3) := by decide +kernel
theorem dX3_takeAll_47 : decode cX3_takeAll 47 = .ok (.aload_n 0, 1) := by decide +kernel
theorem dX3_takeAll_48 : decode cX3_takeAll 48 = .ok (.aload_n 1, 1) := by decide +kernel
theorem dX3_takeAll_49 : decode cX3_takeAll 49 = .ok (.getfield 52, 3) := by decide +kernel
theorem dX3_takeAll_52 : decode cX3_takeAll 52 = .ok (.putfield 52, 3) := by decide +kernel
theorem dX3_takeAll_55 : decode cX3_takeAll 55 = .ok (.aload_n 1, 1) := by decide +kernel
theorem dX3_takeAll_56 : decode cX3_takeAll 56 = .ok (.getfield 55, 3) := by decide +kernel
theorem dX3_takeAll_59 : decode cX3_takeAll 59 = .ok (.iconst 0, 1) := by decide +kernel
theorem dX3_takeAll_60 : decode cX3_takeAll 60 = .ok (.aload_n 0, 1) := by decide +kernel
theorem dX3_takeAll_61 : decode cX3_takeAll 61 = .ok (.getfield 55, 3) := by decide +kernel
theorem dX3_takeAll_64 : decode cX3_takeAll 64 = .ok (.iconst 0, 1) := by decide +kernel
theorem dX3_takeAll_65 : decode cX3_takeAll 65 = .ok (.bipush 8, 2) := by decide +kernel
theorem dX3_takeAll_67 : decode cX3_takeAll 67 = .ok (.invokestatic 73, 3) := by decide +kernel
theorem dX3_takeAll_70 : decode cX3_takeAll 70 = .ok (.aload_n 1, 1) := by decide +kernel
theorem dX3_takeAll_71 : decode cX3_takeAll 71 = .ok (.getfield 58, 3) := by decide +kernel
theorem dX3_takeAll_74 : decode cX3_takeAll 74 = .ok (.iconst 0, 1) := by decide +kernel
theorem dX3_takeAll_75 : decode cX3_takeAll 75 = .ok (.aload_n 0, 1) := by decide +kernel
theorem dX3_takeAll_76 : decode cX3_takeAll 76 = .ok (.getfield 58, 3) := by decide +kernel
theorem dX3_takeAll_79 : decode cX3_takeAll 79 = .ok (.iconst 0, 1) := by decide +kernel
theorem dX3_takeAll_80 : decode cX3_takeAll 80 = .ok (.bipush 8, 2) := by decide +kernel
theorem dX3_takeAll_82 : decode cX3_takeAll 82 = .ok (.invokestatic 73, 3) := by decide +kernel
theorem dX3_takeAll_85 : decode cX3_takeAll 85 = .ok (.aload_n 1, 1) := by decide +kernel
theorem dX3_takeAll_86 : decode cX3_takeAll 86 = .ok (.getfield 61, 3) := by decide +kernel
theorem dX3_takeAll_89 : decode cX3_takeAll 89 = .ok (.iconst 0, 1) := by decide +kernel
theorem dX3_takeAll_90 : decode cX3_takeAll 90 = .ok (.aload_n 0, 1) := by decide +kernel
theorem dX3_takeAll_91 : decode cX3_takeAll 91 = .ok (.getfield 61, 3) := by decide +kernel
theorem dX3_takeAll_94 : decode cX3_takeAll 94 = .ok (.iconst 0, 1) := by decide +kernel
theorem dX3_takeAll_95 : decode cX3_takeAll 95 = .ok (.bipush 8, 2) := by decide +kernel
theorem dX3_takeAll_97 : decode cX3_takeAll 97 = .ok (.invokestatic 73, 3) := by decide +kernel
theorem dX3_takeAll_100 : decode cX3_takeAll 100 = .ok (.aload_n 0, 1) := by decide +kernel
theorem dX3_takeAll_101 : decode cX3_takeAll 101 = .ok (.aload_n 1, 1) := by decide +kernel
theorem dX3_takeAll_102 : decode cX3_takeAll 102 = .ok (.getfield 64, 3) := by decide +kernel
theorem dX3_takeAll_105 : decode cX3_takeAll 105 = .ok (.putfield 64, 3) := by decide +kernel
theorem dX3_takeAll_108 : decode cX3_takeAll 108 = .ok (.aload_n 1, 1) := by decide +kernel
theorem dX3_takeAll_109 : decode cX3_takeAll 109 = .ok (.getfield 67, 3) := by decide +kernel
theorem dX3_takeAll_112 : decode cX3_takeAll 112 = .ok (.iconst 0, 1) := by decide +kernel
theorem dX3_takeAll_113 : decode cX3_takeAll 113 = .ok (.aload_n 0, 1) := by decide +kernel
theorem dX3_takeAll_114 : decode cX3_takeAll 114 = .ok (.getfield 67, 3) := by decide +kernel
theorem dX3_takeAll_117 : decode cX3_takeAll 117 = .ok (.iconst 0, 1) := by decide +kernel
theorem dX3_takeAll_118 : decode cX3_takeAll 118 = .ok (.bipush 6, 2) := by decide +kernel
theorem dX3_takeAll_120 : decode cX3_takeAll 120 = .ok (.invokestatic 73, 3) := by decide +kernel
theorem dX3_takeAll_123 : decode cX3_takeAll 123 = .ok (.aload_n 1, 1) := by decide +kernel
theorem dX3_takeAll_124 : decode cX3_takeAll 124 = .ok (.getfield 70, 3) := by decide +kernel
theorem dX3_takeAll_127 : decode cX3_takeAll 127 = .ok (.iconst 0, 1) := by decide +kernel
theorem dX3_takeAll_128 : decode cX3_takeAll 128 = .ok (.aload_n 0, 1) := by decide +kernel
theorem dX3_takeAll_129 : decode cX3_takeAll 129 = .ok (.getfield 70, 3) := by decide +kernel
theorem dX3_takeAll_132 : decode cX3_takeAll 132 = .ok (.iconst 0, 1) := by decide +kernel
theorem dX3_takeAll_133 : decode cX3_takeAll 133 = .ok (.bipush 6, 2) := by decide +kernel
theorem dX3_takeAll_135 : decode cX3_takeAll 135 = .ok (.invokestatic 73, 3) := by decide +kernel
theorem dX3_takeAll_138 : decode cX3_takeAll 138 = .ok (.return_, 1) := by decide +kernel
theorem dX3_steepness_0 : decode cX3_steepness 0 = .ok (.iconst 1, 1) := by decide +kernel
theorem dX3_steepness_1 : decode cX3_steepness 1 = .ok (.aload_n 0, 1) := by decide +kernel
theorem dX3_steepness_2 : decode cX3_steepness 2 = .ok (.getfield 40, 3) := by decide +kernel
theorem dX3_steepness_5 : decode cX3_steepness 5 = .ok (.iload_n 1, 1) := by decide +kernel
theorem dX3_steepness_6 : decode cX3_steepness 6 = .ok (.iaload, 1) := by decide +kernel
theorem dX3_steepness_7 : decode cX3_steepness 7 = .ok (.iadd, 1) := by decide +kernel
theorem dX3_steepness_8 : decode cX3_steepness 8 = .ok (.ireturn, 1) := by decide +kernel
theorem dX3_wholeWay_0 : decode cX3_wholeWay 0 = .ok (.iconst 0, 1) := by decide +kernel
theorem dX3_wholeWay_1 : decode cX3_wholeWay 1 = .ok (.istore_n 1, 1) := by decide +kernel
theorem dX3_wholeWay_2 : decode cX3_wholeWay 2 = .ok (.iconst 0, 1) := by decide +kernel
theorem dX3_wholeWay_3 : decode cX3_wholeWay 3 = .ok (.istore_n 2, 1) := by decide +kernel
theorem dX3_wholeWay_4 : decode cX3_wholeWay 4 = .ok (.iload_n 2, 1) := by decide +kernel
theorem dX3_wholeWay_5 : decode cX3_wholeWay 5 = .ok (.aload_n 0, 1) := by decide +kernel
theorem dX3_wholeWay_6 : decode cX3_wholeWay 6 = .ok (.getfield 34, 3) := by decide +kernel
theorem dX3_wholeWay_9 : decode cX3_wholeWay 9 = .ok (.if_icmp .ge 18, 3) := by decide +kernel
theorem dX3_wholeWay_12 : decode cX3_wholeWay 12 = .ok (.iload_n 1, 1) := by decide +kernel
theorem dX3_wholeWay_13 : decode cX3_wholeWay 13 = .ok (.aload_n 0, 1) := by decide +kernel
theorem dX3_wholeWay_14 : decode cX3_wholeWay 14 = .ok (.getfield 37, 3) := by decide +kernel
theorem dX3_wholeWay_17 : decode cX3_wholeWay 17 = .ok (.iload_n 2, 1) := by decide +kernel
theorem dX3_wholeWay_18 : decode cX3_wholeWay 18 = .ok (.iaload, 1) := by decide +kernel
theorem dX3_wholeWay_19 : decode cX3_wholeWay 19 = .ok (.iadd, 1) := by decide +kernel
theorem dX3_wholeWay_20 : decode cX3_wholeWay 20 = .ok (.istore_n 1, 1) := by decide +kernel
theorem dX3_wholeWay_21 : decode cX3_wholeWay 21 = .ok (.iinc 2 1, 3) := by decide +kernel
theorem dX3_wholeWay_24 : decode cX3_wholeWay 24 = .ok (.goto (-20), 3) := by decide +kernel
theorem dX3_wholeWay_27 : decode cX3_wholeWay 27 = .ok (.iload_n 1, 1) := by decide +kernel
theorem dX3_wholeWay_28 : decode cX3_wholeWay 28 = .ok (.ireturn, 1) := by decide +kernel
theorem dX3_thingLoad_0 : decode cX3_thingLoad 0 = .ok (.iload_n 2, 1) := by decide +kernel
theorem dX3_thingLoad_1 : decode cX3_thingLoad 1 = .ok (.aload_n 0, 1) := by decide +kernel
theorem dX3_thingLoad_2 : decode cX3_thingLoad 2 = .ok (.getfield 25, 3) := by decide +kernel
theorem dX3_thingLoad_5 : decode cX3_thingLoad 5 = .ok (.iload_n 1, 1) := by decide +kernel
theorem dX3_thingLoad_6 : decode cX3_thingLoad 6 = .ok (.iaload, 1) := by decide +kernel
theorem dX3_thingLoad_7 : decode cX3_thingLoad 7 = .ok (.if_icmp .lt 5, 3) := by decide +kernel
theorem dX3_thingLoad_10 : decode cX3_thingLoad 10 = .ok (.iconst 0, 1) := by decide +kernel
theorem dX3_thingLoad_11 : decode cX3_thingLoad 11 = .ok (.ireturn, 1) := by decide +kernel
theorem dX3_thingLoad_12 : decode cX3_thingLoad 12 = .ok (.iconst 0, 1) := by decide +kernel
theorem dX3_thingLoad_13 : decode cX3_thingLoad 13 = .ok (.aload_n 0, 1) := by decide +kernel
theorem dX3_thingLoad_14 : decode cX3_thingLoad 14 = .ok (.getfield 22, 3) := by decide +kernel
theorem dX3_thingLoad_17 : decode cX3_thingLoad 17 = .ok (.iload_n 1, 1) := by decide +kernel
theorem dX3_thingLoad_18 : decode cX3_thingLoad 18 = .ok (.iaload, 1) := by decide +kernel
theorem dX3_thingLoad_19 : decode cX3_thingLoad 19 = .ok (.getstatic 83, 3) := by decide +kernel
theorem dX3_thingLoad_22 : decode cX3_thingLoad 22 = .ok (.aload_n 0, 1) := by decide +kernel
theorem dX3_thingLoad_23 : decode cX3_thingLoad 23 = .ok (.getfield 18, 3) := by decide +kernel
theorem dX3_thingLoad_26 : decode cX3_thingLoad 26 = .ok (.iload_n 1, 1) := by decide +kernel
theorem dX3_thingLoad_27 : decode cX3_thingLoad 27 = .ok (.iaload, 1) := by decide +kernel
theorem dX3_thingLoad_28 : decode cX3_thingLoad 28 = .ok (.iaload, 1) := by decide +kernel
theorem dX3_thingLoad_29 : decode cX3_thingLoad 29 = .ok (.iload_n 2, 1) := by decide +kernel
theorem dX3_thingLoad_30 : decode cX3_thingLoad 30 = .ok (.imul, 1) := by decide +kernel
theorem dX3_thingLoad_31 : decode cX3_thingLoad 31 = .ok (.isub, 1) := by decide +kernel
theorem dX3_thingLoad_32 : decode cX3_thingLoad 32 = .ok (.invokestatic 86, 3) := by decide +kernel
theorem dX3_thingLoad_35 : decode cX3_thingLoad 35 = .ok (.ireturn, 1) := by decide +kernel
theorem dX3_isWet_0 : decode cX3_isWet 0 = .ok (.getstatic 83, 3) := by decide +kernel
theorem dX3_isWet_3 : decode cX3_isWet 3 = .ok (.aload_n 0, 1) := by decide +kernel
theorem dX3_isWet_4 : decode cX3_isWet 4 = .ok (.getfield 18, 3) := by decide +kernel
theorem dX3_isWet_7 : decode cX3_isWet 7 = .ok (.iload_n 1, 1) := by decide +kernel
theorem dX3_isWet_8 : decode cX3_isWet 8 = .ok (.iaload, 1) := by decide +kernel
theorem dX3_isWet_9 : decode cX3_isWet 9 = .ok (.iaload, 1) := by decide +kernel
theorem dX3_isWet_10 : decode cX3_isWet 10 = .ok (.ifCond .le 7, 3) := by decide +kernel
theorem dX3_isWet_13 : decode cX3_isWet 13 = .ok (.iconst 1, 1) := by decide +kernel
theorem dX3_isWet_14 : decode cX3_isWet 14 = .ok (.goto 4, 3) := by decide +kernel
theorem dX3_isWet_17 : decode cX3_isWet 17 = .ok (.iconst 0, 1) := by decide +kernel
theorem dX3_isWet_18 : decode cX3_isWet 18 = .ok (.ireturn, 1) := by decide +kernel
theorem dX3_bagLoad_0 : decode cX3_bagLoad 0 = .ok (.iconst 0, 1) := by decide +kernel
theorem dX3_bagLoad_1 : decode cX3_bagLoad 1 = .ok (.istore_n 3, 1) := by decide +kernel
theorem dX3_bagLoad_2 : decode cX3_bagLoad 2 = .ok (.iconst 0, 1) := by decide +kernel
theorem dX3_bagLoad_3 : decode cX3_bagLoad 3 = .ok (.istore 4, 2) := by decide +kernel
theorem dX3_bagLoad_5 : decode cX3_bagLoad 5 = .ok (.iload 4, 2) := by decide +kernel
theorem dX3_bagLoad_7 : decode cX3_bagLoad 7 = .ok (.aload_n 0, 1) := by decide +kernel
theorem dX3_bagLoad_8 : decode cX3_bagLoad 8 = .ok (.getfield 15, 3) := by decide +kernel
theorem dX3_bagLoad_11 : decode cX3_bagLoad 11 = .ok (.if_icmp .ge 34, 3) := by decide +kernel
theorem dX3_bagLoad_14 : decode cX3_bagLoad 14 = .ok (.iload_n 3, 1) := by decide +kernel
theorem dX3_bagLoad_15 : decode cX3_bagLoad 15 = .ok (.aload_n 0, 1) := by decide +kernel
theorem dX3_bagLoad_16 : decode cX3_bagLoad 16 = .ok (.getfield 31, 3) := by decide +kernel
theorem dX3_bagLoad_19 : decode cX3_bagLoad 19 = .ok (.iload 4, 2) := by decide +kernel
theorem dX3_bagLoad_21 : decode cX3_bagLoad 21 = .ok (.iaload, 1) := by decide +kernel
theorem dX3_bagLoad_22 : decode cX3_bagLoad 22 = .ok (.iload_n 1, 1) := by decide +kernel
theorem dX3_bagLoad_23 : decode cX3_bagLoad 23 = .ok (.if_icmp .ne 13, 3) := by decide +kernel
theorem dX3_bagLoad_26 : decode cX3_bagLoad 26 = .ok (.aload_n 0, 1) := by decide +kernel
theorem dX3_bagLoad_27 : decode cX3_bagLoad 27 = .ok (.iload 4, 2) := by decide +kernel
theorem dX3_bagLoad_29 : decode cX3_bagLoad 29 = .ok (.iload_n 2, 1) := by decide +kernel
theorem dX3_bagLoad_30 : decode cX3_bagLoad 30 = .ok (.invokevirtual 92, 3) := by decide +kernel
theorem dX3_bagLoad_33 : decode cX3_bagLoad 33 = .ok (.goto 4, 3) := by decide +kernel
theorem dX3_bagLoad_36 : decode cX3_bagLoad 36 = .ok (.iconst 0, 1) := by decide +kernel
theorem dX3_bagLoad_37 : decode cX3_bagLoad 37 = .ok (.iadd, 1) := by decide +kernel
theorem dX3_bagLoad_38 : decode cX3_bagLoad 38 = .ok (.istore_n 3, 1) := by decide +kernel
theorem dX3_bagLoad_39 : decode cX3_bagLoad 39 = .ok (.iinc 4 1, 3) := by decide +kernel
theorem dX3_bagLoad_42 : decode cX3_bagLoad 42 = .ok (.goto (-37), 3) := by decide +kernel
theorem dX3_bagLoad_45 : decode cX3_bagLoad 45 = .ok (.iload_n 3, 1) := by decide +kernel
theorem dX3_bagLoad_46 : decode cX3_bagLoad 46 = .ok (.ireturn, 1) := by decide +kernel
theorem dX3_wetLoad_0 : decode cX3_wetLoad 0 = .ok (.iconst 0, 1) := by decide +kernel
theorem dX3_wetLoad_1 : decode cX3_wetLoad 1 = .ok (.istore_n 3, 1) := by decide +kernel
theorem dX3_wetLoad_2 : decode cX3_wetLoad 2 = .ok (.iconst 0, 1) := by decide +kernel
theorem dX3_wetLoad_3 : decode cX3_wetLoad 3 = .ok (.istore 4, 2) := by decide +kernel
theorem dX3_wetLoad_5 : decode cX3_wetLoad 5 = .ok (.iload 4, 2) := by decide +kernel
theorem dX3_wetLoad_7 : decode cX3_wetLoad 7 = .ok (.aload_n 0, 1) := by decide +kernel
theorem dX3_wetLoad_8 : decode cX3_wetLoad 8 = .ok (.getfield 15, 3) := by decide +kernel
theorem dX3_wetLoad_11 : decode cX3_wetLoad 11 = .ok (.if_icmp .ge 43, 3) := by decide +kernel
theorem dX3_wetLoad_14 : decode cX3_wetLoad 14 = .ok (.iload_n 3, 1) := by decide +kernel
theorem dX3_wetLoad_15 : decode cX3_wetLoad 15 = .ok (.aload_n 0, 1) := by decide +kernel
theorem dX3_wetLoad_16 : decode cX3_wetLoad 16 = .ok (.getfield 31, 3) := by decide +kernel
theorem dX3_wetLoad_19 : decode cX3_wetLoad 19 = .ok (.iload 4, 2) := by decide +kernel
theorem dX3_wetLoad_21 : decode cX3_wetLoad 21 = .ok (.iaload, 1) := by decide +kernel
theorem dX3_wetLoad_22 : decode cX3_wetLoad 22 = .ok (.iload_n 1, 1) := by decide +kernel
theorem dX3_wetLoad_23 : decode cX3_wetLoad 23 = .ok (.if_icmp .ne 22, 3) := by decide +kernel
theorem dX3_wetLoad_26 : decode cX3_wetLoad 26 = .ok (.aload_n 0, 1) := by decide +kernel
theorem dX3_wetLoad_27 : decode cX3_wetLoad 27 = .ok (.iload 4, 2) := by decide +kernel
theorem dX3_wetLoad_29 : decode cX3_wetLoad 29 = .ok (.invokevirtual 95, 3) := by decide +kernel
theorem dX3_wetLoad_32 : decode cX3_wetLoad 32 = .ok (.ifCond .eq 13, 3) := by decide +kernel
theorem dX3_wetLoad_35 : decode cX3_wetLoad 35 = .ok (.aload_n 0, 1) := by decide +kernel
theorem dX3_wetLoad_36 : decode cX3_wetLoad 36 = .ok (.iload 4, 2) := by decide +kernel
theorem dX3_wetLoad_38 : decode cX3_wetLoad 38 = .ok (.iload_n 2, 1) := by decide +kernel
theorem dX3_wetLoad_39 : decode cX3_wetLoad 39 = .ok (.invokevirtual 92, 3) := by decide +kernel
theorem dX3_wetLoad_42 : decode cX3_wetLoad 42 = .ok (.goto 4, 3) := by decide +kernel
theorem dX3_wetLoad_45 : decode cX3_wetLoad 45 = .ok (.iconst 0, 1) := by decide +kernel
theorem dX3_wetLoad_46 : decode cX3_wetLoad 46 = .ok (.iadd, 1) := by decide +kernel
theorem dX3_wetLoad_47 : decode cX3_wetLoad 47 = .ok (.istore_n 3, 1) := by decide +kernel
theorem dX3_wetLoad_48 : decode cX3_wetLoad 48 = .ok (.iinc 4 1, 3) := by decide +kernel
theorem dX3_wetLoad_51 : decode cX3_wetLoad 51 = .ok (.goto (-46), 3) := by decide +kernel
theorem dX3_wetLoad_54 : decode cX3_wetLoad 54 = .ok (.iload_n 3, 1) := by decide +kernel
theorem dX3_wetLoad_55 : decode cX3_wetLoad 55 = .ok (.ireturn, 1) := by decide +kernel
theorem dX3_offBetween_0 : decode cX3_offBetween 0 = .ok (.iload_n 1, 1) := by decide +kernel
theorem dX3_offBetween_1 : decode cX3_offBetween 1 = .ok (.aload_n 0, 1) := by decide +kernel
theorem dX3_offBetween_2 : decode cX3_offBetween 2 = .ok (.getfield 49, 3) := by decide +kernel
theorem dX3_offBetween_5 : decode cX3_offBetween 5 = .ok (.iconst 1, 1) := by decide +kernel
theorem dX3_offBetween_6 : decode cX3_offBetween 6 = .ok (.iaload, 1) := by decide +kernel
theorem dX3_offBetween_7 : decode cX3_offBetween 7 = .ok (.imul, 1) := by decide +kernel
theorem dX3_offBetween_8 : decode cX3_offBetween 8 = .ok (.iload_n 2, 1) := by decide +kernel
theorem dX3_offBetween_9 : decode cX3_offBetween 9 = .ok (.aload_n 0, 1) := by decide +kernel
theorem dX3_offBetween_10 : decode cX3_offBetween 10 = .ok (.getfield 49, 3) := by decide +kernel
theorem dX3_offBetween_13 : decode cX3_offBetween 13 = .ok (.iconst 0, 1) := by decide +kernel
theorem dX3_offBetween_14 : decode cX3_offBetween 14 = .ok (.iaload, 1) := by decide +kernel
theorem dX3_offBetween_15 : decode cX3_offBetween 15 = .ok (.imul, 1) := by decide +kernel
theorem dX3_offBetween_16 : decode cX3_offBetween 16 = .ok (.isub, 1) := by decide +kernel
theorem dX3_offBetween_17 : decode cX3_offBetween 17 = .ok (.ireturn, 1) := by decide +kernel
theorem dX3_offOn_0 : decode cX3_offOn 0 = .ok (.aload_n 0, 1) := by decide +kernel
theorem dX3_offOn_1 : decode cX3_offOn 1 = .ok (.aload_n 0, 1) := by decide +kernel
theorem dX3_offOn_2 : decode cX3_offOn 2 = .ok (.iconst 0, 1) := by decide +kernel
theorem dX3_offOn_3 : decode cX3_offOn 3 = .ok (.iload_n 1, 1) := by decide +kernel
theorem dX3_offOn_4 : decode cX3_offOn 4 = .ok (.invokevirtual 99, 3) := by decide +kernel
theorem dX3_offOn_7 : decode cX3_offOn 7 = .ok (.aload_n 0, 1) := by decide +kernel
theorem dX3_offOn_8 : decode cX3_offOn 8 = .ok (.iconst 1, 1) := by decide +kernel
theorem dX3_offOn_9 : decode cX3_offOn 9 = .ok (.iload_n 1, 1) := by decide +kernel
theorem dX3_offOn_10 : decode cX3_offOn 10 = .ok (.invokevirtual 99, 3) := by decide +kernel
theorem dX3_offOn_13 : decode cX3_offOn 13 = .ok (.invokevirtual 102, 3) := by decide +kernel
theorem dX3_offOn_16 : decode cX3_offOn 16 = .ok (.ireturn, 1) := by decide +kernel
theorem dX3_worst_0 : decode cX3_worst 0 = .ok (.iconst 0, 1) := by decide +kernel
theorem dX3_worst_1 : decode cX3_worst 1 = .ok (.istore_n 1, 1) := by decide +kernel
theorem dX3_worst_2 : decode cX3_worst 2 = .ok (.iconst 0, 1) := by decide +kernel
theorem dX3_worst_3 : decode cX3_worst 3 = .ok (.istore_n 2, 1) := by decide +kernel
theorem dX3_worst_4 : decode cX3_worst 4 = .ok (.iload_n 2, 1) := by decide +kernel
theorem dX3_worst_5 : decode cX3_worst 5 = .ok (.aload_n 0, 1) := by decide +kernel
theorem dX3_worst_6 : decode cX3_worst 6 = .ok (.getfield 34, 3) := by decide +kernel
theorem dX3_worst_9 : decode cX3_worst 9 = .ok (.if_icmp .ge 22, 3) := by decide +kernel
theorem dX3_worst_12 : decode cX3_worst 12 = .ok (.iload_n 1, 1) := by decide +kernel
theorem dX3_worst_13 : decode cX3_worst 13 = .ok (.aload_n 0, 1) := by decide +kernel
theorem dX3_worst_14 : decode cX3_worst 14 = .ok (.iload_n 2, 1) := by decide +kernel
theorem dX3_worst_15 : decode cX3_worst 15 = .ok (.invokevirtual 105, 3) := by decide +kernel
theorem dX3_worst_18 : decode cX3_worst 18 = .ok (.invokestatic 109, 3) := by decide +kernel
theorem dX3_worst_21 : decode cX3_worst 21 = .ok (.invokestatic 86, 3) := by decide +kernel
theorem dX3_worst_24 : decode cX3_worst 24 = .ok (.istore_n 1, 1) := by decide +kernel
theorem dX3_worst_25 : decode cX3_worst 25 = .ok (.iinc 2 1, 3) := by decide +kernel
theorem dX3_worst_28 : decode cX3_worst 28 = .ok (.goto (-24), 3) := by decide +kernel
theorem dX3_worst_31 : decode cX3_worst 31 = .ok (.iload_n 1, 1) := by decide +kernel
theorem dX3_worst_32 : decode cX3_worst 32 = .ok (.ireturn, 1) := by decide +kernel
theorem dX3_whole_0 : decode cX3_whole 0 = .ok (.iconst 0, 1) := by decide +kernel
theorem dX3_whole_1 : decode cX3_whole 1 = .ok (.istore_n 1, 1) := by decide +kernel
theorem dX3_whole_2 : decode cX3_whole 2 = .ok (.iconst 0, 1) := by decide +kernel
theorem dX3_whole_3 : decode cX3_whole 3 = .ok (.istore_n 2, 1) := by decide +kernel
theorem dX3_whole_4 : decode cX3_whole 4 = .ok (.iload_n 2, 1) := by decide +kernel
theorem dX3_whole_5 : decode cX3_whole 5 = .ok (.aload_n 0, 1) := by decide +kernel
theorem dX3_whole_6 : decode cX3_whole 6 = .ok (.getfield 34, 3) := by decide +kernel
theorem dX3_whole_9 : decode cX3_whole 9 = .ok (.if_icmp .ge 33, 3) := by decide +kernel
theorem dX3_whole_12 : decode cX3_whole 12 = .ok (.iload_n 1, 1) := by decide +kernel
theorem dX3_whole_13 : decode cX3_whole 13 = .ok (.aload_n 0, 1) := by decide +kernel
theorem dX3_whole_14 : decode cX3_whole 14 = .ok (.iload_n 2, 1) := by decide +kernel
theorem dX3_whole_15 : decode cX3_whole 15 = .ok (.invokevirtual 105, 3) := by decide +kernel
theorem dX3_whole_18 : decode cX3_whole 18 = .ok (.invokestatic 109, 3) := by decide +kernel
theorem dX3_whole_21 : decode cX3_whole 21 = .ok (.aload_n 0, 1) := by decide +kernel
theorem dX3_whole_22 : decode cX3_whole 22 = .ok (.getfield 37, 3) := by decide +kernel
theorem dX3_whole_25 : decode cX3_whole 25 = .ok (.iload_n 2, 1) := by decide +kernel
theorem dX3_whole_26 : decode cX3_whole 26 = .ok (.iaload, 1) := by decide +kernel
theorem dX3_whole_27 : decode cX3_whole 27 = .ok (.imul, 1) := by decide +kernel
theorem dX3_whole_28 : decode cX3_whole 28 = .ok (.aload_n 0, 1) := by decide +kernel
theorem dX3_whole_29 : decode cX3_whole 29 = .ok (.iload_n 2, 1) := by decide +kernel
theorem dX3_whole_30 : decode cX3_whole 30 = .ok (.invokevirtual 112, 3) := by decide +kernel
theorem dX3_whole_33 : decode cX3_whole 33 = .ok (.imul, 1) := by decide +kernel
theorem dX3_whole_34 : decode cX3_whole 34 = .ok (.iadd, 1) := by decide +kernel
theorem dX3_whole_35 : decode cX3_whole 35 = .ok (.istore_n 1, 1) := by decide +kernel
theorem dX3_whole_36 : decode cX3_whole 36 = .ok (.iinc 2 1, 3) := by decide +kernel
theorem dX3_whole_39 : decode cX3_whole 39 = .ok (.goto (-35), 3) := by decide +kernel
theorem dX3_whole_42 : decode cX3_whole 42 = .ok (.iload_n 1, 1) := by decide +kernel
theorem dX3_whole_43 : decode cX3_whole 43 = .ok (.ireturn, 1) := by decide +kernel
theorem dX3_whyUnlawful_0 : decode cX3_whyUnlawful 0 = .ok (.aload_n 0, 1) := by decide +kernel
theorem dX3_whyUnlawful_1 : decode cX3_whyUnlawful 1 = .ok (.invokevirtual 115, 3) := by decide +kernel
theorem dX3_whyUnlawful_4 : decode cX3_whyUnlawful 4 = .ok (.ifCond .ne 5, 3) := by decide +kernel
theorem dX3_whyUnlawful_7 : decode cX3_whyUnlawful 7 = .ok (.iconst 1, 1) := by decide +kernel
theorem dX3_whyUnlawful_8 : decode cX3_whyUnlawful 8 = .ok (.ireturn, 1) := by decide +kernel
theorem dX3_whyUnlawful_9 : decode cX3_whyUnlawful 9 = .ok (.iconst 0, 1) := by decide +kernel
theorem dX3_whyUnlawful_10 : decode cX3_whyUnlawful 10 = .ok (.istore_n 1, 1) := by decide +kernel
theorem dX3_whyUnlawful_11 : decode cX3_whyUnlawful 11 = .ok (.iload_n 1, 1) := by decide +kernel
theorem dX3_whyUnlawful_12 : decode cX3_whyUnlawful 12 = .ok (.aload_n 0, 1) := by decide +kernel
theorem dX3_whyUnlawful_13 : decode cX3_whyUnlawful 13 = .ok (.getfield 15, 3) := by decide +kernel
theorem dX3_whyUnlawful_16 : decode cX3_whyUnlawful 16 = .ok (.if_icmp .ge 23, 3) := by decide +kernel
theorem dX3_whyUnlawful_19 : decode cX3_whyUnlawful 19 = .ok (.aload_n 0, 1) := by decide +kernel
theorem dX3_whyUnlawful_20 : decode cX3_whyUnlawful 20 = .ok (.aload_n 0, 1) := by decide +kernel
theorem dX3_whyUnlawful_21 : decode cX3_whyUnlawful 21 = .ok (.getfield 31, 3) := by decide +kernel
theorem dX3_whyUnlawful_24 : decode cX3_whyUnlawful 24 = .ok (.iload_n 1, 1) := by decide +kernel
theorem dX3_whyUnlawful_25 : decode cX3_whyUnlawful 25 = .ok (.invokevirtual 119, 3) := by decide +kernel
theorem dX3_whyUnlawful_28 : decode cX3_whyUnlawful 28 = .ok (.ifCond .ne 5, 3) := by decide +kernel
theorem dX3_whyUnlawful_31 : decode cX3_whyUnlawful 31 = .ok (.iconst 2, 1) := by decide +kernel
theorem dX3_whyUnlawful_32 : decode cX3_whyUnlawful 32 = .ok (.ireturn, 1) := by decide +kernel
theorem dX3_whyUnlawful_33 : decode cX3_whyUnlawful 33 = .ok (.iinc 1 1, 3) := by decide +kernel
theorem dX3_whyUnlawful_36 : decode cX3_whyUnlawful 36 = .ok (.goto (-25), 3) := by decide +kernel
theorem dX3_whyUnlawful_39 : decode cX3_whyUnlawful 39 = .ok (.iconst 0, 1) := by decide +kernel
theorem dX3_whyUnlawful_40 : decode cX3_whyUnlawful 40 = .ok (.istore_n 1, 1) := by decide +kernel
theorem dX3_whyUnlawful_41 : decode cX3_whyUnlawful 41 = .ok (.iload_n 1, 1) := by decide +kernel
theorem dX3_whyUnlawful_42 : decode cX3_whyUnlawful 42 = .ok (.aload_n 0, 1) := by decide +kernel
theorem dX3_whyUnlawful_43 : decode cX3_whyUnlawful 43 = .ok (.getfield 15, 3) := by decide +kernel
theorem dX3_whyUnlawful_46 : decode cX3_whyUnlawful 46 = .ok (.if_icmp .ge 23, 3) := by decide +kernel
theorem dX3_whyUnlawful_49 : decode cX3_whyUnlawful 49 = .ok (.aload_n 0, 1) := by decide +kernel
theorem dX3_whyUnlawful_50 : decode cX3_whyUnlawful 50 = .ok (.aload_n 0, 1) := by decide +kernel
theorem dX3_whyUnlawful_51 : decode cX3_whyUnlawful 51 = .ok (.getfield 31, 3) := by decide +kernel
theorem dX3_whyUnlawful_54 : decode cX3_whyUnlawful 54 = .ok (.iload_n 1, 1) := by decide +kernel
theorem dX3_whyUnlawful_55 : decode cX3_whyUnlawful 55 = .ok (.invokevirtual 123, 3) := by decide +kernel
theorem dX3_whyUnlawful_58 : decode cX3_whyUnlawful 58 = .ok (.ifCond .ne 5, 3) := by decide +kernel
theorem dX3_whyUnlawful_61 : decode cX3_whyUnlawful 61 = .ok (.iconst 3, 1) := by decide +kernel
theorem dX3_whyUnlawful_62 : decode cX3_whyUnlawful 62 = .ok (.ireturn, 1) := by decide +kernel
theorem dX3_whyUnlawful_63 : decode cX3_whyUnlawful 63 = .ok (.iinc 1 1, 3) := by decide +kernel
theorem dX3_whyUnlawful_66 : decode cX3_whyUnlawful 66 = .ok (.goto (-25), 3) := by decide +kernel
theorem dX3_whyUnlawful_69 : decode cX3_whyUnlawful 69 = .ok (.iconst 0, 1) := by decide +kernel
theorem dX3_whyUnlawful_70 : decode cX3_whyUnlawful 70 = .ok (.ireturn, 1) := by decide +kernel
theorem dX3_bagsHold_0 : decode cX3_bagsHold 0 = .ok (.iconst 0, 1) := by decide +kernel
theorem dX3_bagsHold_1 : decode cX3_bagsHold 1 = .ok (.istore_n 1, 1) := by decide +kernel
theorem dX3_bagsHold_2 : decode cX3_bagsHold 2 = .ok (.iload_n 1, 1) := by decide +kernel
theorem dX3_bagsHold_3 : decode cX3_bagsHold 3 = .ok (.aload_n 0, 1) := by decide +kernel
theorem dX3_bagsHold_4 : decode cX3_bagsHold 4 = .ok (.getfield 34, 3) := by decide +kernel
theorem dX3_bagsHold_7 : decode cX3_bagsHold 7 = .ok (.if_icmp .ge 39, 3) := by decide +kernel
theorem dX3_bagsHold_10 : decode cX3_bagsHold 10 = .ok (.iconst 0, 1) := by decide +kernel
theorem dX3_bagsHold_11 : decode cX3_bagsHold 11 = .ok (.istore_n 2, 1) := by decide +kernel
theorem dX3_bagsHold_12 : decode cX3_bagsHold 12 = .ok (.iload_n 2, 1) := by decide +kernel
theorem dX3_bagsHold_13 : decode cX3_bagsHold 13 = .ok (.iconst 3, 1) := by decide +kernel
theorem dX3_bagsHold_14 : decode cX3_bagsHold 14 = .ok (.if_icmp .ge 26, 3) := by decide +kernel
theorem dX3_bagsHold_17 : decode cX3_bagsHold 17 = .ok (.aload_n 0, 1) := by decide +kernel
theorem dX3_bagsHold_18 : decode cX3_bagsHold 18 = .ok (.iload_n 2, 1) := by decide +kernel
theorem dX3_bagsHold_19 : decode cX3_bagsHold 19 = .ok (.iload_n 1, 1) := by decide +kernel
theorem dX3_bagsHold_20 : decode cX3_bagsHold 20 = .ok (.invokevirtual 99, 3) := by decide +kernel
theorem dX3_bagsHold_23 : decode cX3_bagsHold 23 = .ok (.aload_n 0, 1) := by decide +kernel
theorem dX3_bagsHold_24 : decode cX3_bagsHold 24 = .ok (.getfield 43, 3) := by decide +kernel
theorem dX3_bagsHold_27 : decode cX3_bagsHold 27 = .ok (.iload_n 2, 1) := by decide +kernel
theorem dX3_bagsHold_28 : decode cX3_bagsHold 28 = .ok (.iaload, 1) := by decide +kernel
theorem dX3_bagsHold_29 : decode cX3_bagsHold 29 = .ok (.if_icmp .le 5, 3) := by decide +kernel
theorem dX3_bagsHold_32 : decode cX3_bagsHold 32 = .ok (.iconst 0, 1) := by decide +kernel
theorem dX3_bagsHold_33 : decode cX3_bagsHold 33 = .ok (.ireturn, 1) := by decide +kernel
theorem dX3_bagsHold_34 : decode cX3_bagsHold 34 = .ok (.iinc 2 1, 3) := by decide +kernel
theorem dX3_bagsHold_37 : decode cX3_bagsHold 37 = .ok (.goto (-25), 3) := by decide +kernel
theorem dX3_bagsHold_40 : decode cX3_bagsHold 40 = .ok (.iinc 1 1, 3) := by decide +kernel
theorem dX3_bagsHold_43 : decode cX3_bagsHold 43 = .ok (.goto (-41), 3) := by decide +kernel
theorem dX3_bagsHold_46 : decode cX3_bagsHold 46 = .ok (.iconst 1, 1) := by decide +kernel
theorem dX3_bagsHold_47 : decode cX3_bagsHold 47 = .ok (.ireturn, 1) := by decide +kernel
theorem dX3_keepsLaws_0 : decode cX3_keepsLaws 0 = .ok (.iconst 0, 1) := by decide +kernel
theorem dX3_keepsLaws_1 : decode cX3_keepsLaws 1 = .ok (.istore_n 3, 1) := by decide +kernel
theorem dX3_keepsLaws_2 : decode cX3_keepsLaws 2 = .ok (.iload_n 3, 1) := by decide +kernel
theorem dX3_keepsLaws_3 : decode cX3_keepsLaws 3 = .ok (.aload_n 0, 1) := by decide +kernel
theorem dX3_keepsLaws_4 : decode cX3_keepsLaws 4 = .ok (.getfield 52, 3) := by decide +kernel
theorem dX3_keepsLaws_7 : decode cX3_keepsLaws 7 = .ok (.if_icmp .ge 75, 3) := by decide +kernel
theorem dX3_keepsLaws_10 : decode cX3_keepsLaws 10 = .ok (.aload_n 0, 1) := by decide +kernel
theorem dX3_keepsLaws_11 : decode cX3_keepsLaws 11 = .ok (.getfield 55, 3) := by decide +kernel
theorem dX3_keepsLaws_14 : decode cX3_keepsLaws 14 = .ok (.iload_n 3, 1) := by decide +kernel
theorem dX3_keepsLaws_15 : decode cX3_keepsLaws 15 = .ok (.iaload, 1) := by decide +kernel
theorem dX3_keepsLaws_16 : decode cX3_keepsLaws 16 = .ok (.aload_n 0, 1) := by decide +kernel
theorem dX3_keepsLaws_17 : decode cX3_keepsLaws 17 = .ok (.getfield 58, 3) := by decide +kernel
theorem dX3_keepsLaws_20 : decode cX3_keepsLaws 20 = .ok (.iload_n 3, 1) := by decide +kernel
theorem dX3_keepsLaws_21 : decode cX3_keepsLaws 21 = .ok (.iaload, 1) := by decide +kernel
theorem dX3_keepsLaws_22 : decode cX3_keepsLaws 22 = .ok (.invokestatic 86, 3) := by decide +kernel
theorem dX3_keepsLaws_25 : decode cX3_keepsLaws 25 = .ok (.iload_n 2, 1) := by decide +kernel
theorem dX3_keepsLaws_26 : decode cX3_keepsLaws 26 = .ok (.if_icmp .ne 50, 3) := by decide +kernel
theorem dX3_keepsLaws_29 : decode cX3_keepsLaws 29 = .ok (.aload_n 1, 1) := by decide +kernel
theorem dX3_keepsLaws_30 : decode cX3_keepsLaws 30 = .ok (.aload_n 0, 1) := by decide +kernel
theorem dX3_keepsLaws_31 : decode cX3_keepsLaws 31 = .ok (.getfield 55, 3) := by decide +kernel
theorem dX3_keepsLaws_34 : decode cX3_keepsLaws 34 = .ok (.iload_n 3, 1) := by decide +kernel
theorem dX3_keepsLaws_35 : decode cX3_keepsLaws 35 = .ok (.iaload, 1) := by decide +kernel
theorem dX3_keepsLaws_36 : decode cX3_keepsLaws 36 = .ok (.iaload, 1) := by decide +kernel
theorem dX3_keepsLaws_37 : decode cX3_keepsLaws 37 = .ok (.aload_n 1, 1) := by decide +kernel
theorem dX3_keepsLaws_38 : decode cX3_keepsLaws 38 = .ok (.aload_n 0, 1) := by decide +kernel
theorem dX3_keepsLaws_39 : decode cX3_keepsLaws 39 = .ok (.getfield 58, 3) := by decide +kernel
theorem dX3_keepsLaws_42 : decode cX3_keepsLaws 42 = .ok (.iload_n 3, 1) := by decide +kernel
theorem dX3_keepsLaws_43 : decode cX3_keepsLaws 43 = .ok (.iaload, 1) := by decide +kernel
theorem dX3_keepsLaws_44 : decode cX3_keepsLaws 44 = .ok (.iaload, 1) := by decide +kernel
theorem dX3_keepsLaws_45 : decode cX3_keepsLaws 45 = .ok (.if_icmp .ne 7, 3) := by decide +kernel
theorem dX3_keepsLaws_48 : decode cX3_keepsLaws 48 = .ok (.iconst 1, 1) := by decide +kernel
theorem dX3_keepsLaws_49 : decode cX3_keepsLaws 49 = .ok (.goto 4, 3) := by decide +kernel
theorem dX3_keepsLaws_52 : decode cX3_keepsLaws 52 = .ok (.iconst 0, 1) := by decide +kernel
theorem dX3_keepsLaws_53 : decode cX3_keepsLaws 53 = .ok (.istore 4, 2) := by decide +kernel
theorem dX3_keepsLaws_55 : decode cX3_keepsLaws 55 = .ok (.iload 4, 2) := by decide +kernel
theorem dX3_keepsLaws_57 : decode cX3_keepsLaws 57 = .ok (.aload_n 0, 1) := by decide +kernel
theorem dX3_keepsLaws_58 : decode cX3_keepsLaws 58 = .ok (.getfield 61, 3) := by decide +kernel
theorem dX3_keepsLaws_61 : decode cX3_keepsLaws 61 = .ok (.iload_n 3, 1) := by decide +kernel
theorem dX3_keepsLaws_62 : decode cX3_keepsLaws 62 = .ok (.iaload, 1) := by decide +kernel
theorem dX3_keepsLaws_63 : decode cX3_keepsLaws 63 = .ok (.ifCond .ne 7, 3) := by decide +kernel
theorem dX3_keepsLaws_66 : decode cX3_keepsLaws 66 = .ok (.iconst 1, 1) := by decide +kernel
theorem dX3_keepsLaws_67 : decode cX3_keepsLaws 67 = .ok (.goto 4, 3) := by decide +kernel
theorem dX3_keepsLaws_70 : decode cX3_keepsLaws 70 = .ok (.iconst 0, 1) := by decide +kernel
theorem dX3_keepsLaws_71 : decode cX3_keepsLaws 71 = .ok (.if_icmp .ne 5, 3) := by decide +kernel
theorem dX3_keepsLaws_74 : decode cX3_keepsLaws 74 = .ok (.iconst 0, 1) := by decide +kernel
theorem dX3_keepsLaws_75 : decode cX3_keepsLaws 75 = .ok (.ireturn, 1) := by decide +kernel
theorem dX3_keepsLaws_76 : decode cX3_keepsLaws 76 = .ok (.iinc 3 1, 3) := by decide +kernel
theorem dX3_keepsLaws_79 : decode cX3_keepsLaws 79 = .ok (.goto (-77), 3) := by decide +kernel
theorem dX3_keepsLaws_82 : decode cX3_keepsLaws 82 = .ok (.iconst 1, 1) := by decide +kernel
theorem dX3_keepsLaws_83 : decode cX3_keepsLaws 83 = .ok (.ireturn, 1) := by decide +kernel
theorem dX3_liesSoftly_0 : decode cX3_liesSoftly 0 = .ok (.iconst 0, 1) := by decide +kernel
theorem dX3_liesSoftly_1 : decode cX3_liesSoftly 1 = .ok (.istore_n 3, 1) := by decide +kernel
theorem dX3_liesSoftly_2 : decode cX3_liesSoftly 2 = .ok (.iload_n 3, 1) := by decide +kernel
theorem dX3_liesSoftly_3 : decode cX3_liesSoftly 3 = .ok (.iload_n 2, 1) := by decide +kernel
theorem dX3_liesSoftly_4 : decode cX3_liesSoftly 4 = .ok (.if_icmp .ge 38, 3) := by decide +kernel
theorem dX3_liesSoftly_7 : decode cX3_liesSoftly 7 = .ok (.aload_n 1, 1) := by decide +kernel
theorem dX3_liesSoftly_8 : decode cX3_liesSoftly 8 = .ok (.iload_n 3, 1) := by decide +kernel
theorem dX3_liesSoftly_9 : decode cX3_liesSoftly 9 = .ok (.iaload, 1) := by decide +kernel
theorem dX3_liesSoftly_10 : decode cX3_liesSoftly 10 = .ok (.aload_n 1, 1) := by decide +kernel
theorem dX3_liesSoftly_11 : decode cX3_liesSoftly 11 = .ok (.iload_n 2, 1) := by decide +kernel
theorem dX3_liesSoftly_12 : decode cX3_liesSoftly 12 = .ok (.iaload, 1) := by decide +kernel
theorem dX3_liesSoftly_13 : decode cX3_liesSoftly 13 = .ok (.if_icmp .ne 23, 3) := by decide +kernel
theorem dX3_liesSoftly_16 : decode cX3_liesSoftly 16 = .ok (.aload_n 0, 1) := by decide +kernel
theorem dX3_liesSoftly_17 : decode cX3_liesSoftly 17 = .ok (.iload_n 3, 1) := by decide +kernel
theorem dX3_liesSoftly_18 : decode cX3_liesSoftly 18 = .ok (.iload_n 2, 1) := by decide +kernel
theorem dX3_liesSoftly_19 : decode cX3_liesSoftly 19 = .ok (.invokevirtual 126, 3) := by decide +kernel
theorem dX3_liesSoftly_22 : decode cX3_liesSoftly 22 = .ok (.ifCond .ne 12, 3) := by decide +kernel
theorem dX3_liesSoftly_25 : decode cX3_liesSoftly 25 = .ok (.aload_n 0, 1) := by decide +kernel
theorem dX3_liesSoftly_26 : decode cX3_liesSoftly 26 = .ok (.iload_n 2, 1) := by decide +kernel
theorem dX3_liesSoftly_27 : decode cX3_liesSoftly 27 = .ok (.iload_n 3, 1) := by decide +kernel
theorem dX3_liesSoftly_28 : decode cX3_liesSoftly 28 = .ok (.invokevirtual 126, 3) := by decide +kernel
theorem dX3_liesSoftly_31 : decode cX3_liesSoftly 31 = .ok (.ifCond .eq 5, 3) := by decide +kernel
theorem dX3_liesSoftly_34 : decode cX3_liesSoftly 34 = .ok (.iconst 0, 1) := by decide +kernel
theorem dX3_liesSoftly_35 : decode cX3_liesSoftly 35 = .ok (.ireturn, 1) := by decide +kernel
theorem dX3_liesSoftly_36 : decode cX3_liesSoftly 36 = .ok (.iinc 3 1, 3) := by decide +kernel
theorem dX3_liesSoftly_39 : decode cX3_liesSoftly 39 = .ok (.goto (-37), 3) := by decide +kernel
theorem dX3_liesSoftly_42 : decode cX3_liesSoftly 42 = .ok (.iconst 1, 1) := by decide +kernel
theorem dX3_liesSoftly_43 : decode cX3_liesSoftly 43 = .ok (.ireturn, 1) := by decide +kernel
theorem dX3_crushes_0 : decode cX3_crushes 0 = .ok (.aload_n 0, 1) := by decide +kernel
theorem dX3_crushes_1 : decode cX3_crushes 1 = .ok (.getfield 18, 3) := by decide +kernel
theorem dX3_crushes_4 : decode cX3_crushes 4 = .ok (.iload_n 2, 1) := by decide +kernel
theorem dX3_crushes_5 : decode cX3_crushes 5 = .ok (.iaload, 1) := by decide +kernel
theorem dX3_crushes_6 : decode cX3_crushes 6 = .ok (.iconst 2, 1) := by decide +kernel
theorem dX3_crushes_7 : decode cX3_crushes 7 = .ok (.if_icmp .ne 22, 3) := by decide +kernel
theorem dX3_crushes_10 : decode cX3_crushes 10 = .ok (.aload_n 0, 1) := by decide +kernel
theorem dX3_crushes_11 : decode cX3_crushes 11 = .ok (.getfield 22, 3) := by decide +kernel
theorem dX3_crushes_14 : decode cX3_crushes 14 = .ok (.iload_n 1, 1) := by decide +kernel
theorem dX3_crushes_15 : decode cX3_crushes 15 = .ok (.iaload, 1) := by decide +kernel
theorem dX3_crushes_16 : decode cX3_crushes 16 = .ok (.aload_n 0, 1) := by decide +kernel
theorem dX3_crushes_17 : decode cX3_crushes 17 = .ok (.getfield 22, 3) := by decide +kernel
theorem dX3_crushes_20 : decode cX3_crushes 20 = .ok (.iload_n 2, 1) := by decide +kernel
theorem dX3_crushes_21 : decode cX3_crushes 21 = .ok (.iaload, 1) := by decide +kernel
theorem dX3_crushes_22 : decode cX3_crushes 22 = .ok (.if_icmp .le 7, 3) := by decide +kernel
theorem dX3_crushes_25 : decode cX3_crushes 25 = .ok (.iconst 1, 1) := by decide +kernel
theorem dX3_crushes_26 : decode cX3_crushes 26 = .ok (.goto 4, 3) := by decide +kernel
theorem dX3_crushes_29 : decode cX3_crushes 29 = .ok (.iconst 0, 1) := by decide +kernel
theorem dX3_crushes_30 : decode cX3_crushes 30 = .ok (.ireturn, 1) := by decide +kernel
theorem dX3_evenestSplit_0 : decode cX3_evenestSplit 0 = .ok (.iconst 0, 1) := by decide +kernel
theorem dX3_evenestSplit_1 : decode cX3_evenestSplit 1 = .ok (.istore_n 2, 1) := by decide +kernel
theorem dX3_evenestSplit_2 : decode cX3_evenestSplit 2 = .ok (.aload_n 0, 1) := by decide +kernel
theorem dX3_evenestSplit_3 : decode cX3_evenestSplit 3 = .ok (.iconst 0, 1) := by decide +kernel
theorem dX3_evenestSplit_4 : decode cX3_evenestSplit 4 = .ok (.iload_n 1, 1) := by decide +kernel
theorem dX3_evenestSplit_5 : decode cX3_evenestSplit 5 = .ok (.invokevirtual 130, 3) := by decide +kernel
theorem dX3_evenestSplit_8 : decode cX3_evenestSplit 8 = .ok (.invokestatic 109, 3) := by decide +kernel
theorem dX3_evenestSplit_11 : decode cX3_evenestSplit 11 = .ok (.istore_n 3, 1) := by decide +kernel
theorem dX3_evenestSplit_12 : decode cX3_evenestSplit 12 = .ok (.iconst 1, 1) := by decide +kernel
theorem dX3_evenestSplit_13 : decode cX3_evenestSplit 13 = .ok (.istore 4, 2) := by decide +kernel
theorem dX3_evenestSplit_15 : decode cX3_evenestSplit 15 = .ok (.iload 4, 2) := by decide +kernel
theorem dX3_evenestSplit_17 : decode cX3_evenestSplit 17 = .ok (.iconst 1, 1) := by decide +kernel
theorem dX3_evenestSplit_18 : decode cX3_evenestSplit 18 = .ok (.aload_n 0, 1) := by decide +kernel
theorem dX3_evenestSplit_19 : decode cX3_evenestSplit 19 = .ok (.getfield 15, 3) := by decide +kernel
theorem dX3_evenestSplit_22 : decode cX3_evenestSplit 22 = .ok (.ishl, 1) := by decide +kernel
theorem dX3_evenestSplit_23 : decode cX3_evenestSplit 23 = .ok (.if_icmp .ge 37, 3) := by decide +kernel
theorem dX3_evenestSplit_26 : decode cX3_evenestSplit 26 = .ok (.iload_n 3, 1) := by decide +kernel
theorem dX3_evenestSplit_27 : decode cX3_evenestSplit 27 = .ok (.ifCond .le 33, 3) := by decide +kernel
theorem dX3_evenestSplit_30 : decode cX3_evenestSplit 30 = .ok (.aload_n 0, 1) := by decide +kernel
theorem dX3_evenestSplit_31 : decode cX3_evenestSplit 31 = .ok (.iload 4, 2) := by decide +kernel
theorem dX3_evenestSplit_33 : decode cX3_evenestSplit 33 = .ok (.iload_n 1, 1) := by decide +kernel
theorem dX3_evenestSplit_34 : decode cX3_evenestSplit 34 = .ok (.invokevirtual 130, 3) := by decide +kernel
theorem dX3_evenestSplit_37 : decode cX3_evenestSplit 37 = .ok (.invokestatic 109, 3) := by decide +kernel
theorem dX3_evenestSplit_40 : decode cX3_evenestSplit 40 = .ok (.istore 5, 2) := by decide +kernel
theorem dX3_evenestSplit_42 : decode cX3_evenestSplit 42 = .ok (.iload 5, 2) := by decide +kernel
theorem dX3_evenestSplit_44 : decode cX3_evenestSplit 44 = .ok (.iload_n 3, 1) := by decide +kernel
theorem dX3_evenestSplit_45 : decode cX3_evenestSplit 45 = .ok (.if_icmp .ge 9, 3) := by decide +kernel
theorem dX3_evenestSplit_48 : decode cX3_evenestSplit 48 = .ok (.iload 4, 2) := by decide +kernel
theorem dX3_evenestSplit_50 : decode cX3_evenestSplit 50 = .ok (.istore_n 2, 1) := by decide +kernel
theorem dX3_evenestSplit_51 : decode cX3_evenestSplit 51 = .ok (.iload 5, 2) := by decide +kernel
theorem dX3_evenestSplit_53 : decode cX3_evenestSplit 53 = .ok (.istore_n 3, 1) := by decide +kernel
theorem dX3_evenestSplit_54 : decode cX3_evenestSplit 54 = .ok (.iinc 4 1, 3) := by decide +kernel
theorem dX3_evenestSplit_57 : decode cX3_evenestSplit 57 = .ok (.goto (-42), 3) := by decide +kernel
theorem dX3_evenestSplit_60 : decode cX3_evenestSplit 60 = .ok (.iload_n 2, 1) := by decide +kernel
theorem dX3_evenestSplit_61 : decode cX3_evenestSplit 61 = .ok (.ireturn, 1) := by decide +kernel
theorem dX3_splitOff_0 : decode cX3_splitOff 0 = .ok (.iconst 0, 1) := by decide +kernel
theorem dX3_splitOff_1 : decode cX3_splitOff 1 = .ok (.istore_n 3, 1) := by decide +kernel
theorem dX3_splitOff_2 : decode cX3_splitOff 2 = .ok (.iconst 0, 1) := by decide +kernel
theorem dX3_splitOff_3 : decode cX3_splitOff 3 = .ok (.istore 4, 2) := by decide +kernel
theorem dX3_splitOff_5 : decode cX3_splitOff 5 = .ok (.iconst 0, 1) := by decide +kernel
theorem dX3_splitOff_6 : decode cX3_splitOff 6 = .ok (.istore 5, 2) := by decide +kernel
theorem dX3_splitOff_8 : decode cX3_splitOff 8 = .ok (.iload 5, 2) := by decide +kernel
theorem dX3_splitOff_10 : decode cX3_splitOff 10 = .ok (.aload_n 0, 1) := by decide +kernel
theorem dX3_splitOff_11 : decode cX3_splitOff 11 = .ok (.getfield 15, 3) := by decide +kernel
theorem dX3_splitOff_14 : decode cX3_splitOff 14 = .ok (.if_icmp .ge 44, 3) := by decide +kernel
theorem dX3_splitOff_17 : decode cX3_splitOff 17 = .ok (.aload_n 0, 1) := by decide +kernel
theorem dX3_splitOff_18 : decode cX3_splitOff 18 = .ok (.iload_n 1, 1) := by decide +kernel
theorem dX3_splitOff_19 : decode cX3_splitOff 19 = .ok (.iload 5, 2) := by decide +kernel
theorem dX3_splitOff_21 : decode cX3_splitOff 21 = .ok (.invokevirtual 133, 3) := by decide +kernel
theorem dX3_splitOff_24 : decode cX3_splitOff 24 = .ok (.ifCond .eq 18, 3) := by decide +kernel
theorem dX3_splitOff_27 : decode cX3_splitOff 27 = .ok (.iload 4, 2) := by decide +kernel
theorem dX3_splitOff_29 : decode cX3_splitOff 29 = .ok (.aload_n 0, 1) := by decide +kernel
theorem dX3_splitOff_30 : decode cX3_splitOff 30 = .ok (.iload 5, 2) := by decide +kernel
theorem dX3_splitOff_32 : decode cX3_splitOff 32 = .ok (.iload_n 2, 1) := by decide +kernel
theorem dX3_splitOff_33 : decode cX3_splitOff 33 = .ok (.invokevirtual 92, 3) := by decide +kernel
theorem dX3_splitOff_36 : decode cX3_splitOff 36 = .ok (.iadd, 1) := by decide +kernel
theorem dX3_splitOff_37 : decode cX3_splitOff 37 = .ok (.istore 4, 2) := by decide +kernel
theorem dX3_splitOff_39 : decode cX3_splitOff 39 = .ok (.goto 13, 3) := by decide +kernel
theorem dX3_splitOff_42 : decode cX3_splitOff 42 = .ok (.iload_n 3, 1) := by decide +kernel
theorem dX3_splitOff_43 : decode cX3_splitOff 43 = .ok (.aload_n 0, 1) := by decide +kernel
theorem dX3_splitOff_44 : decode cX3_splitOff 44 = .ok (.iload 5, 2) := by decide +kernel
theorem dX3_splitOff_46 : decode cX3_splitOff 46 = .ok (.iload_n 2, 1) := by decide +kernel
theorem dX3_splitOff_47 : decode cX3_splitOff 47 = .ok (.invokevirtual 92, 3) := by decide +kernel
theorem dX3_splitOff_50 : decode cX3_splitOff 50 = .ok (.iadd, 1) := by decide +kernel
theorem dX3_splitOff_51 : decode cX3_splitOff 51 = .ok (.istore_n 3, 1) := by decide +kernel
theorem dX3_splitOff_52 : decode cX3_splitOff 52 = .ok (.iinc 5 1, 3) := by decide +kernel
theorem dX3_splitOff_55 : decode cX3_splitOff 55 = .ok (.goto (-47), 3) := by decide +kernel
theorem dX3_splitOff_58 : decode cX3_splitOff 58 = .ok (.aload_n 0, 1) := by decide +kernel
theorem dX3_splitOff_59 : decode cX3_splitOff 59 = .ok (.iload_n 3, 1) := by decide +kernel
theorem dX3_splitOff_60 : decode cX3_splitOff 60 = .ok (.iload 4, 2) := by decide +kernel
theorem dX3_splitOff_62 : decode cX3_splitOff 62 = .ok (.invokevirtual 102, 3) := by decide +kernel
theorem dX3_splitOff_65 : decode cX3_splitOff 65 = .ok (.ireturn, 1) := by decide +kernel
theorem dX3_isInRight_0 : decode cX3_isInRight 0 = .ok (.iload_n 1, 1) := by decide +kernel
theorem dX3_isInRight_1 : decode cX3_isInRight 1 = .ok (.aload_n 0, 1) := by decide +kernel
theorem dX3_isInRight_2 : decode cX3_isInRight 2 = .ok (.getfield 15, 3) := by decide +kernel
theorem dX3_isInRight_5 : decode cX3_isInRight 5 = .ok (.iconst 1, 1) := by decide +kernel
theorem dX3_isInRight_6 : decode cX3_isInRight 6 = .ok (.isub, 1) := by decide +kernel
theorem dX3_isInRight_7 : decode cX3_isInRight 7 = .ok (.iload_n 2, 1) := by decide +kernel
theorem dX3_isInRight_8 : decode cX3_isInRight 8 = .ok (.isub, 1) := by decide +kernel
theorem dX3_isInRight_9 : decode cX3_isInRight 9 = .ok (.ishr, 1) := by decide +kernel
theorem dX3_isInRight_10 : decode cX3_isInRight 10 = .ok (.iconst 1, 1) := by decide +kernel
theorem dX3_isInRight_11 : decode cX3_isInRight 11 = .ok (.iand, 1) := by decide +kernel
theorem dX3_isInRight_12 : decode cX3_isInRight 12 = .ok (.iconst 1, 1) := by decide +kernel
theorem dX3_isInRight_13 : decode cX3_isInRight 13 = .ok (.if_icmp .ne 7, 3) := by decide +kernel
theorem dX3_isInRight_16 : decode cX3_isInRight 16 = .ok (.iconst 1, 1) := by decide +kernel
theorem dX3_isInRight_17 : decode cX3_isInRight 17 = .ok (.goto 4, 3) := by decide +kernel
theorem dX3_isInRight_20 : decode cX3_isInRight 20 = .ok (.iconst 0, 1) := by decide +kernel
theorem dX3_isInRight_21 : decode cX3_isInRight 21 = .ok (.ireturn, 1) := by decide +kernel
theorem dX3_hangs_0 : decode cX3_hangs 0 = .ok (.iconst 0, 1) := by decide +kernel
theorem dX3_hangs_1 : decode cX3_hangs 1 = .ok (.istore_n 2, 1) := by decide +kernel
theorem dX3_hangs_2 : decode cX3_hangs 2 = .ok (.iload_n 2, 1) := by decide +kernel
theorem dX3_hangs_3 : decode cX3_hangs 3 = .ok (.aload_n 0, 1) := by decide +kernel
theorem dX3_hangs_4 : decode cX3_hangs 4 = .ok (.getfield 64, 3) := by decide +kernel
theorem dX3_hangs_7 : decode cX3_hangs 7 = .ok (.if_icmp .ge 31, 3) := by decide +kernel
theorem dX3_hangs_10 : decode cX3_hangs 10 = .ok (.aload_n 0, 1) := by decide +kernel
theorem dX3_hangs_11 : decode cX3_hangs 11 = .ok (.getfield 67, 3) := by decide +kernel
theorem dX3_hangs_14 : decode cX3_hangs 14 = .ok (.iload_n 2, 1) := by decide +kernel
theorem dX3_hangs_15 : decode cX3_hangs 15 = .ok (.iaload, 1) := by decide +kernel
theorem dX3_hangs_16 : decode cX3_hangs 16 = .ok (.iload_n 1, 1) := by decide +kernel
theorem dX3_hangs_17 : decode cX3_hangs 17 = .ok (.if_icmp .eq 13, 3) := by decide +kernel
theorem dX3_hangs_20 : decode cX3_hangs 20 = .ok (.aload_n 0, 1) := by decide +kernel
theorem dX3_hangs_21 : decode cX3_hangs 21 = .ok (.getfield 70, 3) := by decide +kernel
theorem dX3_hangs_24 : decode cX3_hangs 24 = .ok (.iload_n 2, 1) := by decide +kernel
theorem dX3_hangs_25 : decode cX3_hangs 25 = .ok (.iaload, 1) := by decide +kernel
theorem dX3_hangs_26 : decode cX3_hangs 26 = .ok (.iload_n 1, 1) := by decide +kernel
theorem dX3_hangs_27 : decode cX3_hangs 27 = .ok (.if_icmp .ne 5, 3) := by decide +kernel
theorem dX3_hangs_30 : decode cX3_hangs 30 = .ok (.iconst 1, 1) := by decide +kernel
theorem dX3_hangs_31 : decode cX3_hangs 31 = .ok (.ireturn, 1) := by decide +kernel
theorem dX3_hangs_32 : decode cX3_hangs 32 = .ok (.iinc 2 1, 3) := by decide +kernel
theorem dX3_hangs_35 : decode cX3_hangs 35 = .ok (.goto (-33), 3) := by decide +kernel
theorem dX3_hangs_38 : decode cX3_hangs 38 = .ok (.iconst 0, 1) := by decide +kernel
theorem dX3_hangs_39 : decode cX3_hangs 39 = .ok (.ireturn, 1) := by decide +kernel
theorem dX3_endWeight_0 : decode cX3_endWeight 0 = .ok (.iload_n 1, 1) := by decide +kernel
theorem dX3_endWeight_1 : decode cX3_endWeight 1 = .ok (.bipush 10, 2) := by decide +kernel
theorem dX3_endWeight_3 : decode cX3_endWeight 3 = .ok (.if_icmp .ge 10, 3) := by decide +kernel
theorem dX3_endWeight_6 : decode cX3_endWeight 6 = .ok (.aload_n 0, 1) := by decide +kernel
theorem dX3_endWeight_7 : decode cX3_endWeight 7 = .ok (.getfield 22, 3) := by decide +kernel
theorem dX3_endWeight_10 : decode cX3_endWeight 10 = .ok (.iload_n 1, 1) := by decide +kernel
theorem dX3_endWeight_11 : decode cX3_endWeight 11 = .ok (.iaload, 1) := by decide +kernel
theorem dX3_endWeight_12 : decode cX3_endWeight 12 = .ok (.ireturn, 1) := by decide +kernel
theorem dX3_endWeight_13 : decode cX3_endWeight 13 = .ok (.aload_n 0, 1) := by decide +kernel
theorem dX3_endWeight_14 : decode cX3_endWeight 14 = .ok (.aload_n 0, 1) := by decide +kernel
theorem dX3_endWeight_15 : decode cX3_endWeight 15 = .ok (.getfield 67, 3) := by decide +kernel
theorem dX3_endWeight_18 : decode cX3_endWeight 18 = .ok (.iload_n 1, 1) := by decide +kernel
theorem dX3_endWeight_19 : decode cX3_endWeight 19 = .ok (.bipush 10, 2) := by decide +kernel
theorem dX3_endWeight_21 : decode cX3_endWeight 21 = .ok (.isub, 1) := by decide +kernel
theorem dX3_endWeight_22 : decode cX3_endWeight 22 = .ok (.iaload, 1) := by decide +kernel
theorem dX3_endWeight_23 : decode cX3_endWeight 23 = .ok (.invokevirtual 136, 3) := by decide +kernel
theorem dX3_endWeight_26 : decode cX3_endWeight 26 = .ok (.aload_n 0, 1) := by decide +kernel
theorem dX3_endWeight_27 : decode cX3_endWeight 27 = .ok (.aload_n 0, 1) := by decide +kernel
theorem dX3_endWeight_28 : decode cX3_endWeight 28 = .ok (.getfield 70, 3) := by decide +kernel
theorem dX3_endWeight_31 : decode cX3_endWeight 31 = .ok (.iload_n 1, 1) := by decide +kernel
theorem dX3_endWeight_32 : decode cX3_endWeight 32 = .ok (.bipush 10, 2) := by decide +kernel
theorem dX3_endWeight_34 : decode cX3_endWeight 34 = .ok (.isub, 1) := by decide +kernel
theorem dX3_endWeight_35 : decode cX3_endWeight 35 = .ok (.iaload, 1) := by decide +kernel
theorem dX3_endWeight_36 : decode cX3_endWeight 36 = .ok (.invokevirtual 136, 3) := by decide +kernel
theorem dX3_endWeight_39 : decode cX3_endWeight 39 = .ok (.iadd, 1) := by decide +kernel
theorem dX3_endWeight_40 : decode cX3_endWeight 40 = .ok (.ireturn, 1) := by decide +kernel
theorem dX4_init_0 : decode cX4_init 0 = .ok (.aload_n 0, 1) := by decide +kernel
theorem dX4_init_1 : decode cX4_init 1 = .ok (.aload_n 1, 1) := by decide +kernel
theorem dX4_init_2 : decode cX4_init 2 = .ok (.invokespecial 1, 3) := by decide +kernel
theorem dX4_init_5 : decode cX4_init 5 = .ok (.aload_n 0, 1) := by decide +kernel
theorem dX4_init_6 : decode cX4_init 6 = .ok (.iconst 0, 1) := by decide +kernel
theorem dX4_init_7 : decode cX4_init 7 = .ok (.putfield 7, 3) := by decide +kernel
theorem dX4_init_10 : decode cX4_init 10 = .ok (.aload_n 0, 1) := by decide +kernel
theorem dX4_init_11 : decode cX4_init 11 = .ok (.iconst 0, 1) := by decide +kernel
theorem dX4_init_12 : decode cX4_init 12 = .ok (.putfield 13, 3) := by decide +kernel
theorem dX4_init_15 : decode cX4_init 15 = .ok (.aload_n 0, 1) := by decide +kernel
theorem dX4_init_16 : decode cX4_init 16 = .ok (.iconst 0, 1) := by decide +kernel
theorem dX4_init_17 : decode cX4_init 17 = .ok (.putfield 17, 3) := by decide +kernel
theorem dX4_init_20 : decode cX4_init 20 = .ok (.aload_n 0, 1) := by decide +kernel
theorem dX4_init_21 : decode cX4_init 21 = .ok (.iconst 0, 1) := by decide +kernel
theorem dX4_init_22 : decode cX4_init 22 = .ok (.putfield 20, 3) := by decide +kernel
theorem dX4_init_25 : decode cX4_init 25 = .ok (.aload_n 0, 1) := by decide +kernel
theorem dX4_init_26 : decode cX4_init 26 = .ok (.iconst 0, 1) := by decide +kernel
theorem dX4_init_27 : decode cX4_init 27 = .ok (.putfield 23, 3) := by decide +kernel
theorem dX4_init_30 : decode cX4_init 30 = .ok (.return_, 1) := by decide +kernel
theorem dX4_ask_0 : decode cX4_ask 0 = .ok (.aload_n 0, 1) := by decide +kernel
theorem dX4_ask_1 : decode cX4_ask 1 = .ok (.getfield 17, 3) := by decide +kernel
theorem dX4_ask_4 : decode cX4_ask 4 = .ok (.iload_n 1, 1) := by decide +kernel
theorem dX4_ask_5 : decode cX4_ask 5 = .ok (.if_icmp .ne 11, 3) := by decide +kernel
theorem dX4_ask_8 : decode cX4_ask 8 = .ok (.aload_n 0, 1) := by decide +kernel
theorem dX4_ask_9 : decode cX4_ask 9 = .ok (.getfield 20, 3) := by decide +kernel
theorem dX4_ask_12 : decode cX4_ask 12 = .ok (.iload_n 2, 1) := by decide +kernel
theorem dX4_ask_13 : decode cX4_ask 13 = .ok (.if_icmp .eq 7, 3) := by decide +kernel
theorem dX4_ask_16 : decode cX4_ask 16 = .ok (.aload_n 0, 1) := by decide +kernel
theorem dX4_ask_17 : decode cX4_ask 17 = .ok (.invokevirtual 26, 3) := by decide +kernel
theorem dX4_ask_20 : decode cX4_ask 20 = .ok (.aload_n 0, 1) := by decide +kernel
theorem dX4_ask_21 : decode cX4_ask 21 = .ok (.iload_n 1, 1) := by decide +kernel
theorem dX4_ask_22 : decode cX4_ask 22 = .ok (.putfield 17, 3) := by decide +kernel
theorem dX4_ask_25 : decode cX4_ask 25 = .ok (.aload_n 0, 1) := by decide +kernel
theorem dX4_ask_26 : decode cX4_ask 26 = .ok (.iload_n 2, 1) := by decide +kernel
theorem dX4_ask_27 : decode cX4_ask 27 = .ok (.putfield 20, 3) := by decide +kernel
theorem dX4_ask_30 : decode cX4_ask 30 = .ok (.return_, 1) := by decide +kernel
theorem dX4_begin_0 : decode cX4_begin 0 = .ok (.aload_n 0, 1) := by decide +kernel
theorem dX4_begin_1 : decode cX4_begin 1 = .ok (.iconst 0, 1) := by decide +kernel
theorem dX4_begin_2 : decode cX4_begin 2 = .ok (.putfield 7, 3) := by decide +kernel
theorem dX4_begin_5 : decode cX4_begin 5 = .ok (.return_, 1) := by decide +kernel
theorem dX4_isHopeless_0 : decode cX4_isHopeless 0 = .ok (.aload_n 0, 1) := by decide +kernel
theorem dX4_isHopeless_1 : decode cX4_isHopeless 1 = .ok (.iconst 0, 1) := by decide +kernel
theorem dX4_isHopeless_2 : decode cX4_isHopeless 2 = .ok (.putfield 23, 3) := by decide +kernel
theorem dX4_isHopeless_5 : decode cX4_isHopeless 5 = .ok (.iconst 0, 1) := by decide +kernel
theorem dX4_isHopeless_6 : decode cX4_isHopeless 6 = .ok (.istore_n 2, 1) := by decide +kernel
theorem dX4_isHopeless_7 : decode cX4_isHopeless 7 = .ok (.iload_n 2, 1) := by decide +kernel
theorem dX4_isHopeless_8 : decode cX4_isHopeless 8 = .ok (.iload_n 1, 1) := by decide +kernel
theorem dX4_isHopeless_9 : decode cX4_isHopeless 9 = .ok (.if_icmp .ge 41, 3) := by decide +kernel
theorem dX4_isHopeless_12 : decode cX4_isHopeless 12 = .ok (.aload_n 0, 1) := by decide +kernel
theorem dX4_isHopeless_13 : decode cX4_isHopeless 13 = .ok (.dup, 1) := by decide +kernel
theorem dX4_isHopeless_14 : decode cX4_isHopeless 14 = .ok (.getfield 23, 3) := by decide +kernel
theorem dX4_isHopeless_17 : decode cX4_isHopeless 17 = .ok (.aload_n 0, 1) := by decide +kernel
theorem dX4_isHopeless_18 : decode cX4_isHopeless 18 = .ok (.getfield 30, 3) := by decide +kernel
theorem dX4_isHopeless_21 : decode cX4_isHopeless 21 = .ok (.iload_n 2, 1) := by decide +kernel
theorem dX4_isHopeless_22 : decode cX4_isHopeless 22 = .ok (.iaload, 1) := by decide +kernel
theorem dX4_isHopeless_23 : decode cX4_isHopeless 23 = .ok (.aload_n 0, 1) := by decide +kernel
theorem dX4_isHopeless_24 : decode cX4_isHopeless 24 = .ok (.getfield 34, 3) := by decide +kernel
theorem dX4_isHopeless_27 : decode cX4_isHopeless 27 = .ok (.getfield 38, 3) := by decide +kernel
theorem dX4_isHopeless_30 : decode cX4_isHopeless 30 = .ok (.iload_n 2, 1) := by decide +kernel
theorem dX4_isHopeless_31 : decode cX4_isHopeless 31 = .ok (.iaload, 1) := by decide +kernel
theorem dX4_isHopeless_32 : decode cX4_isHopeless 32 = .ok (.if_icmp .ne 7, 3) := by decide +kernel
theorem dX4_isHopeless_35 : decode cX4_isHopeless 35 = .ok (.iconst 0, 1) := by decide +kernel
theorem dX4_isHopeless_36 : decode cX4_isHopeless 36 = .ok (.goto 4, 3) := by decide +kernel
theorem dX4_isHopeless_39 : decode cX4_isHopeless 39 = .ok (.iconst 1, 1) := by decide +kernel
theorem dX4_isHopeless_40 : decode cX4_isHopeless 40 = .ok (.iadd, 1) := by decide +kernel
theorem dX4_isHopeless_41 : decode cX4_isHopeless 41 = .ok (.putfield 23, 3) := by decide +kernel
theorem dX4_isHopeless_44 : decode cX4_isHopeless 44 = .ok (.iinc 2 1, 3) := by decide +kernel
theorem dX4_isHopeless_47 : decode cX4_isHopeless 47 = .ok (.goto (-40), 3) := by decide +kernel
theorem dX4_isHopeless_50 : decode cX4_isHopeless 50 = .ok (.aload_n 0, 1) := by decide +kernel
theorem dX4_isHopeless_51 : decode cX4_isHopeless 51 = .ok (.getfield 7, 3) := by decide +kernel
theorem dX4_isHopeless_54 : decode cX4_isHopeless 54 = .ok (.ifCond .eq 16, 3) := by decide +kernel
theorem dX4_isHopeless_57 : decode cX4_isHopeless 57 = .ok (.aload_n 0, 1) := by decide +kernel
theorem dX4_isHopeless_58 : decode cX4_isHopeless 58 = .ok (.getfield 23, 3) := by decide +kernel
theorem dX4_isHopeless_61 : decode cX4_isHopeless 61 = .ok (.aload_n 0, 1) := by decide +kernel
theorem dX4_isHopeless_62 : decode cX4_isHopeless 62 = .ok (.getfield 13, 3) := by decide +kernel
theorem dX4_isHopeless_65 : decode cX4_isHopeless 65 = .ok (.if_icmp .lt 5, 3) := by decide +kernel
theorem dX4_isHopeless_68 : decode cX4_isHopeless 68 = .ok (.iconst 1, 1) := by decide +kernel
theorem dX4_isHopeless_69 : decode cX4_isHopeless 69 = .ok (.ireturn, 1) := by decide +kernel
theorem dX4_isHopeless_70 : decode cX4_isHopeless 70 = .ok (.aload_n 0, 1) := by decide +kernel
theorem dX4_isHopeless_71 : decode cX4_isHopeless 71 = .ok (.getfield 17, 3) := by decide +kernel
theorem dX4_isHopeless_74 : decode cX4_isHopeless 74 = .ok (.istore_n 2, 1) := by decide +kernel
theorem dX4_isHopeless_75 : decode cX4_isHopeless 75 = .ok (.iload_n 2, 1) := by decide +kernel
theorem dX4_isHopeless_76 : decode cX4_isHopeless 76 = .ok (.aload_n 0, 1) := by decide +kernel
theorem dX4_isHopeless_77 : decode cX4_isHopeless 77 = .ok (.getfield 34, 3) := by decide +kernel
theorem dX4_isHopeless_80 : decode cX4_isHopeless 80 = .ok (.getfield 43, 3) := by decide +kernel
theorem dX4_isHopeless_83 : decode cX4_isHopeless 83 = .ok (.if_icmp .ge 24, 3) := by decide +kernel
theorem dX4_isHopeless_86 : decode cX4_isHopeless 86 = .ok (.aload_n 0, 1) := by decide +kernel
theorem dX4_isHopeless_87 : decode cX4_isHopeless 87 = .ok (.iload_n 1, 1) := by decide +kernel
theorem dX4_isHopeless_88 : decode cX4_isHopeless 88 = .ok (.iload_n 2, 1) := by decide +kernel
theorem dX4_isHopeless_89 : decode cX4_isHopeless 89 = .ok (.invokevirtual 46, 3) := by decide +kernel
theorem dX4_isHopeless_92 : decode cX4_isHopeless 92 = .ok (.aload_n 0, 1) := by decide +kernel
theorem dX4_isHopeless_93 : decode cX4_isHopeless 93 = .ok (.getfield 20, 3) := by decide +kernel
theorem dX4_isHopeless_96 : decode cX4_isHopeless 96 = .ok (.if_icmp .le 5, 3) := by decide +kernel
theorem dX4_isHopeless_99 : decode cX4_isHopeless 99 = .ok (.iconst 1, 1) := by decide +kernel
theorem dX4_isHopeless_100 : decode cX4_isHopeless 100 = .ok (.ireturn, 1) := by decide +kernel
theorem dX4_isHopeless_101 : decode cX4_isHopeless 101 = .ok (.iinc 2 1, 3) := by decide +kernel
theorem dX4_isHopeless_104 : decode cX4_isHopeless 104 = .ok (.goto (-29), 3) := by decide +kernel
theorem dX4_isHopeless_107 : decode cX4_isHopeless 107 = .ok (.iconst 0, 1) := by decide +kernel
theorem dX4_isHopeless_108 : decode cX4_isHopeless 108 = .ok (.ireturn, 1) := by decide +kernel
theorem dX4_reach_0 : decode cX4_reach 0 = .ok (.aload_n 0, 1) := by decide +kernel
theorem dX4_reach_1 : decode cX4_reach 1 = .ok (.iconst 1, 1) := by decide +kernel
theorem dX4_reach_2 : decode cX4_reach 2 = .ok (.putfield 7, 3) := by decide +kernel
theorem dX4_reach_5 : decode cX4_reach 5 = .ok (.aload_n 0, 1) := by decide +kernel
theorem dX4_reach_6 : decode cX4_reach 6 = .ok (.aload_n 0, 1) := by decide +kernel
theorem dX4_reach_7 : decode cX4_reach 7 = .ok (.getfield 23, 3) := by decide +kernel
theorem dX4_reach_10 : decode cX4_reach 10 = .ok (.putfield 13, 3) := by decide +kernel
theorem dX4_reach_13 : decode cX4_reach 13 = .ok (.aload_n 0, 1) := by decide +kernel
theorem dX4_reach_14 : decode cX4_reach 14 = .ok (.invokevirtual 50, 3) := by decide +kernel
theorem dX4_reach_17 : decode cX4_reach 17 = .ok (.return_, 1) := by decide +kernel
theorem dX5_init_0 : decode cX5_init 0 = .ok (.aload_n 0, 1) := by decide +kernel
theorem dX5_init_1 : decode cX5_init 1 = .ok (.aload_n 1, 1) := by decide +kernel
theorem dX5_init_2 : decode cX5_init 2 = .ok (.invokespecial 3, 3) := by decide +kernel
theorem dX5_init_5 : decode cX5_init 5 = .ok (.aload_n 0, 1) := by decide +kernel
theorem dX5_init_6 : decode cX5_init 6 = .ok (.iconst 0, 1) := by decide +kernel
theorem dX5_init_7 : decode cX5_init 7 = .ok (.putfield 9, 3) := by decide +kernel
theorem dX5_init_10 : decode cX5_init 10 = .ok (.aload_n 0, 1) := by decide +kernel
theorem dX5_init_11 : decode cX5_init 11 = .ok (.iconst 0, 1) := by decide +kernel
theorem dX5_init_12 : decode cX5_init 12 = .ok (.putfield 15, 3) := by decide +kernel
theorem dX5_init_15 : decode cX5_init 15 = .ok (.aload_n 0, 1) := by decide +kernel
theorem dX5_init_16 : decode cX5_init 16 = .ok (.iconst 5, 1) := by decide +kernel
theorem dX5_init_17 : decode cX5_init 17 = .ok (.newarray .long, 2) := by decide +kernel
theorem dX5_init_19 : decode cX5_init 19 = .ok (.putfield 18, 3) := by decide +kernel
theorem dX5_init_22 : decode cX5_init 22 = .ok (.return_, 1) := by decide +kernel
theorem dX5_ask_0 : decode cX5_ask 0 = .ok (.aload_n 0, 1) := by decide +kernel
theorem dX5_ask_1 : decode cX5_ask 1 = .ok (.getfield 18, 3) := by decide +kernel
theorem dX5_ask_4 : decode cX5_ask 4 = .ok (.iload_n 1, 1) := by decide +kernel
theorem dX5_ask_5 : decode cX5_ask 5 = .ok (.laload, 1) := by decide +kernel
theorem dX5_ask_6 : decode cX5_ask 6 = .ok (.lload_n 2, 1) := by decide +kernel
theorem dX5_ask_7 : decode cX5_ask 7 = .ok (.lcmp, 1) := by decide +kernel
theorem dX5_ask_8 : decode cX5_ask 8 = .ok (.ifCond .eq 7, 3) := by decide +kernel
theorem dX5_ask_11 : decode cX5_ask 11 = .ok (.aload_n 0, 1) := by decide +kernel
theorem dX5_ask_12 : decode cX5_ask 12 = .ok (.invokevirtual 22, 3) := by decide +kernel
theorem dX5_ask_15 : decode cX5_ask 15 = .ok (.aload_n 0, 1) := by decide +kernel
theorem dX5_ask_16 : decode cX5_ask 16 = .ok (.getfield 18, 3) := by decide +kernel
theorem dX5_ask_19 : decode cX5_ask 19 = .ok (.iload_n 1, 1) := by decide +kernel
theorem dX5_ask_20 : decode cX5_ask 20 = .ok (.lload_n 2, 1) := by decide +kernel
theorem dX5_ask_21 : decode cX5_ask 21 = .ok (.lastore, 1) := by decide +kernel
theorem dX5_ask_22 : decode cX5_ask 22 = .ok (.return_, 1) := by decide +kernel
theorem dX5_begin_0 : decode cX5_begin 0 = .ok (.aload_n 0, 1) := by decide +kernel
theorem dX5_begin_1 : decode cX5_begin 1 = .ok (.iconst 0, 1) := by decide +kernel
theorem dX5_begin_2 : decode cX5_begin 2 = .ok (.putfield 9, 3) := by decide +kernel
theorem dX5_begin_5 : decode cX5_begin 5 = .ok (.aload_n 0, 1) := by decide +kernel
theorem dX5_begin_6 : decode cX5_begin 6 = .ok (.iconst 0, 1) := by decide +kernel
theorem dX5_begin_7 : decode cX5_begin 7 = .ok (.putfield 15, 3) := by decide +kernel
theorem dX5_begin_10 : decode cX5_begin 10 = .ok (.return_, 1) := by decide +kernel
theorem dX5_isHopeless_0 : decode cX5_isHopeless 0 = .ok (.iconst 0, 1) := by decide +kernel
theorem dX5_isHopeless_1 : decode cX5_isHopeless 1 = .ok (.istore_n 2, 1) := by decide +kernel
theorem dX5_isHopeless_2 : decode cX5_isHopeless 2 = .ok (.iload_n 2, 1) := by decide +kernel
theorem dX5_isHopeless_3 : decode cX5_isHopeless 3 = .ok (.aload_n 0, 1) := by decide +kernel
theorem dX5_isHopeless_4 : decode cX5_isHopeless 4 = .ok (.getfield 26, 3) := by decide +kernel
theorem dX5_isHopeless_7 : decode cX5_isHopeless 7 = .ok (.getfield 30, 3) := by decide +kernel
theorem dX5_isHopeless_10 : decode cX5_isHopeless 10 = .ok (.if_icmp .ge 45, 3) := by decide +kernel
theorem dX5_isHopeless_13 : decode cX5_isHopeless 13 = .ok (.aload_n 0, 1) := by decide +kernel
theorem dX5_isHopeless_14 : decode cX5_isHopeless 14 = .ok (.getfield 18, 3) := by decide +kernel
theorem dX5_isHopeless_17 : decode cX5_isHopeless 17 = .ok (.iload_n 2, 1) := by decide +kernel
theorem dX5_isHopeless_18 : decode cX5_isHopeless 18 = .ok (.laload, 1) := by decide +kernel
theorem dX5_isHopeless_19 : decode cX5_isHopeless 19 = .ok (.aload_n 0, 1) := by decide +kernel
theorem dX5_isHopeless_20 : decode cX5_isHopeless 20 = .ok (.iload_n 1, 1) := by decide +kernel
theorem dX5_isHopeless_21 : decode cX5_isHopeless 21 = .ok (.iload_n 2, 1) := by decide +kernel
theorem dX5_isHopeless_22 : decode cX5_isHopeless 22 = .ok (.invokevirtual 35, 3) := by decide +kernel
theorem dX5_isHopeless_25 : decode cX5_isHopeless 25 = .ok (.i2l, 1) := by decide +kernel
theorem dX5_isHopeless_26 : decode cX5_isHopeless 26 = .ok (.lcmp, 1) := by decide +kernel
theorem dX5_isHopeless_27 : decode cX5_isHopeless 27 = .ok (.ifCond .lt 20, 3) := by decide +kernel
theorem dX5_isHopeless_30 : decode cX5_isHopeless 30 = .ok (.aload_n 0, 1) := by decide +kernel
theorem dX5_isHopeless_31 : decode cX5_isHopeless 31 = .ok (.getfield 18, 3) := by decide +kernel
theorem dX5_isHopeless_34 : decode cX5_isHopeless 34 = .ok (.iload_n 2, 1) := by decide +kernel
theorem dX5_isHopeless_35 : decode cX5_isHopeless 35 = .ok (.laload, 1) := by decide +kernel
theorem dX5_isHopeless_36 : decode cX5_isHopeless 36 = .ok (.aload_n 0, 1) := by decide +kernel
theorem dX5_isHopeless_37 : decode cX5_isHopeless 37 = .ok (.iload_n 1, 1) := by decide +kernel
theorem dX5_isHopeless_38 : decode cX5_isHopeless 38 = .ok (.iload_n 2, 1) := by decide +kernel
theorem dX5_isHopeless_39 : decode cX5_isHopeless 39 = .ok (.invokevirtual 39, 3) := by decide +kernel
theorem dX5_isHopeless_42 : decode cX5_isHopeless 42 = .ok (.i2l, 1) := by decide +kernel
theorem dX5_isHopeless_43 : decode cX5_isHopeless 43 = .ok (.lcmp, 1) := by decide +kernel
theorem dX5_isHopeless_44 : decode cX5_isHopeless 44 = .ok (.ifCond .le 5, 3) := by decide +kernel
theorem dX5_isHopeless_47 : decode cX5_isHopeless 47 = .ok (.iconst 1, 1) := by decide +kernel
theorem dX5_isHopeless_48 : decode cX5_isHopeless 48 = .ok (.ireturn, 1) := by decide +kernel
theorem dX5_isHopeless_49 : decode cX5_isHopeless 49 = .ok (.iinc 2 1, 3) := by decide +kernel
theorem dX5_isHopeless_52 : decode cX5_isHopeless 52 = .ok (.goto (-50), 3) := by decide +kernel
theorem dX5_isHopeless_55 : decode cX5_isHopeless 55 = .ok (.iconst 0, 1) := by decide +kernel
theorem dX5_isHopeless_56 : decode cX5_isHopeless 56 = .ok (.ireturn, 1) := by decide +kernel
theorem dX5_reach_0 : decode cX5_reach 0 = .ok (.aload_n 0, 1) := by decide +kernel
theorem dX5_reach_1 : decode cX5_reach 1 = .ok (.dup, 1) := by decide +kernel
theorem dX5_reach_2 : decode cX5_reach 2 = .ok (.getfield 9, 3) := by decide +kernel
theorem dX5_reach_5 : decode cX5_reach 5 = .ok (.iconst 1, 1) := by decide +kernel
theorem dX5_reach_6 : decode cX5_reach 6 = .ok (.iadd, 1) := by decide +kernel
theorem dX5_reach_7 : decode cX5_reach 7 = .ok (.putfield 9, 3) := by decide +kernel
theorem dX5_reach_10 : decode cX5_reach 10 = .ok (.aload_n 0, 1) := by decide +kernel
theorem dX5_reach_11 : decode cX5_reach 11 = .ok (.getfield 9, 3) := by decide +kernel
theorem dX5_reach_14 : decode cX5_reach 14 = .ok (.iconst 1, 1) := by decide +kernel
theorem dX5_reach_15 : decode cX5_reach 15 = .ok (.if_icmp .ne 22, 3) := by decide +kernel
theorem dX5_reach_18 : decode cX5_reach 18 = .ok (.aload_n 0, 1) := by decide +kernel
theorem dX5_reach_19 : decode cX5_reach 19 = .ok (.invokevirtual 42, 3) := by decide +kernel
theorem dX5_reach_22 : decode cX5_reach 22 = .ok (.aload_n 0, 1) := by decide +kernel
theorem dX5_reach_23 : decode cX5_reach 23 = .ok (.iconst 1, 1) := by decide +kernel
theorem dX5_reach_24 : decode cX5_reach 24 = .ok (.aload_n 0, 1) := by decide +kernel
theorem dX5_reach_25 : decode cX5_reach 25 = .ok (.getfield 26, 3) := by decide +kernel
theorem dX5_reach_28 : decode cX5_reach 28 = .ok (.getfield 45, 3) := by decide +kernel
theorem dX5_reach_31 : decode cX5_reach 31 = .ok (.ishl, 1) := by decide +kernel
theorem dX5_reach_32 : decode cX5_reach 32 = .ok (.iconst 1, 1) := by decide +kernel
theorem dX5_reach_33 : decode cX5_reach 33 = .ok (.isub, 1) := by decide +kernel
theorem dX5_reach_34 : decode cX5_reach 34 = .ok (.putfield 15, 3) := by decide +kernel
theorem dX5_reach_37 : decode cX5_reach 37 = .ok (.iconst 0, 1) := by decide +kernel
theorem dX5_reach_38 : decode cX5_reach 38 = .ok (.istore_n 1, 1) := by decide +kernel
theorem dX5_reach_39 : decode cX5_reach 39 = .ok (.iload_n 1, 1) := by decide +kernel
theorem dX5_reach_40 : decode cX5_reach 40 = .ok (.aload_n 0, 1) := by decide +kernel
theorem dX5_reach_41 : decode cX5_reach 41 = .ok (.getfield 26, 3) := by decide +kernel
theorem dX5_reach_44 : decode cX5_reach 44 = .ok (.getfield 45, 3) := by decide +kernel
theorem dX5_reach_47 : decode cX5_reach 47 = .ok (.if_icmp .ge 38, 3) := by decide +kernel
theorem dX5_reach_50 : decode cX5_reach 50 = .ok (.aload_n 0, 1) := by decide +kernel
theorem dX5_reach_51 : decode cX5_reach 51 = .ok (.getfield 48, 3) := by decide +kernel
theorem dX5_reach_54 : decode cX5_reach 54 = .ok (.iload_n 1, 1) := by decide +kernel
theorem dX5_reach_55 : decode cX5_reach 55 = .ok (.iaload, 1) := by decide +kernel
theorem dX5_reach_56 : decode cX5_reach 56 = .ok (.aload_n 0, 1) := by decide +kernel
theorem dX5_reach_57 : decode cX5_reach 57 = .ok (.getfield 52, 3) := by decide +kernel
theorem dX5_reach_60 : decode cX5_reach 60 = .ok (.iload_n 1, 1) := by decide +kernel
theorem dX5_reach_61 : decode cX5_reach 61 = .ok (.iaload, 1) := by decide +kernel
theorem dX5_reach_62 : decode cX5_reach 62 = .ok (.if_icmp .eq 17, 3) := by decide +kernel
theorem dX5_reach_65 : decode cX5_reach 65 = .ok (.aload_n 0, 1) := by decide +kernel
theorem dX5_reach_66 : decode cX5_reach 66 = .ok (.dup, 1) := by decide +kernel
theorem dX5_reach_67 : decode cX5_reach 67 = .ok (.getfield 15, 3) := by decide +kernel
theorem dX5_reach_70 : decode cX5_reach 70 = .ok (.iconst 1, 1) := by decide +kernel
theorem dX5_reach_71 : decode cX5_reach 71 = .ok (.iload_n 1, 1) := by decide +kernel
theorem dX5_reach_72 : decode cX5_reach 72 = .ok (.ishl, 1) := by decide +kernel
theorem dX5_reach_73 : decode cX5_reach 73 = .ok (.iconst (-1), 1) := by decide +kernel
theorem dX5_reach_74 : decode cX5_reach 74 = .ok (.ixor, 1) := by decide +kernel
theorem dX5_reach_75 : decode cX5_reach 75 = .ok (.iand, 1) := by decide +kernel
theorem dX5_reach_76 : decode cX5_reach 76 = .ok (.putfield 15, 3) := by decide +kernel
theorem dX5_reach_79 : decode cX5_reach 79 = .ok (.iinc 1 1, 3) := by decide +kernel
theorem dX5_reach_82 : decode cX5_reach 82 = .ok (.goto (-43), 3) := by decide +kernel
theorem dX5_reach_85 : decode cX5_reach 85 = .ok (.return_, 1) := by decide +kernel
theorem dX5_firstAsDigits_0 : decode cX5_firstAsDigits 0 = .ok (.iconst 0, 1) := by decide +kernel
theorem dX5_firstAsDigits_1 : decode cX5_firstAsDigits 1 = .ok (.istore_n 1, 1) := by decide +kernel
theorem dX5_firstAsDigits_2 : decode cX5_firstAsDigits 2 = .ok (.iconst 0, 1) := by decide +kernel
theorem dX5_firstAsDigits_3 : decode cX5_firstAsDigits 3 = .ok (.istore_n 2, 1) := by decide +kernel
theorem dX5_firstAsDigits_4 : decode cX5_firstAsDigits 4 = .ok (.iload_n 2, 1) := by decide +kernel
theorem dX5_firstAsDigits_5 : decode cX5_firstAsDigits 5 = .ok (.aload_n 0, 1) := by decide +kernel
theorem dX5_firstAsDigits_6 : decode cX5_firstAsDigits 6 = .ok (.getfield 26, 3) := by decide +kernel
theorem dX5_firstAsDigits_9 : decode cX5_firstAsDigits 9 = .ok (.getfield 45, 3) := by decide +kernel
theorem dX5_firstAsDigits_12 : decode cX5_firstAsDigits 12 = .ok (.if_icmp .ge 20, 3) := by decide +kernel
theorem dX5_firstAsDigits_15 : decode cX5_firstAsDigits 15 = .ok (.iload_n 1, 1) := by decide +kernel
theorem dX5_firstAsDigits_16 : decode cX5_firstAsDigits 16 = .ok (.iconst 3, 1) := by decide +kernel
theorem dX5_firstAsDigits_17 : decode cX5_firstAsDigits 17 = .ok (.imul, 1) := by decide +kernel
theorem dX5_firstAsDigits_18 : decode cX5_firstAsDigits 18 = .ok (.aload_n 0, 1) := by decide +kernel
theorem dX5_firstAsDigits_19 : decode cX5_firstAsDigits 19 = .ok (.getfield 52, 3) := by decide +kernel
theorem dX5_firstAsDigits_22 : decode cX5_firstAsDigits 22 = .ok (.iload_n 2, 1) := by decide +kernel
theorem dX5_firstAsDigits_23 : decode cX5_firstAsDigits 23 = .ok (.iaload, 1) := by decide +kernel
theorem dX5_firstAsDigits_24 : decode cX5_firstAsDigits 24 = .ok (.iadd, 1) := by decide +kernel
theorem dX5_firstAsDigits_25 : decode cX5_firstAsDigits 25 = .ok (.istore_n 1, 1) := by decide +kernel
theorem dX5_firstAsDigits_26 : decode cX5_firstAsDigits 26 = .ok (.iinc 2 1, 3) := by decide +kernel
theorem dX5_firstAsDigits_29 : decode cX5_firstAsDigits 29 = .ok (.goto (-25), 3) := by decide +kernel
theorem dX5_firstAsDigits_32 : decode cX5_firstAsDigits 32 = .ok (.iload_n 1, 1) := by decide +kernel
theorem dX5_firstAsDigits_33 : decode cX5_firstAsDigits 33 = .ok (.ireturn, 1) := by decide +kernel
theorem dX6_init_0 : decode cX6_init 0 = .ok (.aload_n 0, 1) := by decide +kernel
theorem dX6_init_1 : decode cX6_init 1 = .ok (.invokespecial 3, 3) := by decide +kernel
theorem dX6_init_4 : decode cX6_init 4 = .ok (.aload_n 0, 1) := by decide +kernel
theorem dX6_init_5 : decode cX6_init 5 = .ok (.bipush 10, 2) := by decide +kernel
theorem dX6_init_7 : decode cX6_init 7 = .ok (.newarray .int, 2) := by decide +kernel
theorem dX6_init_9 : decode cX6_init 9 = .ok (.putfield 9, 3) := by decide +kernel
theorem dX6_init_12 : decode cX6_init 12 = .ok (.aload_n 0, 1) := by decide +kernel
theorem dX6_init_13 : decode cX6_init 13 = .ok (.bipush 10, 2) := by decide +kernel
theorem dX6_init_15 : decode cX6_init 15 = .ok (.newarray .int, 2) := by decide +kernel
theorem dX6_init_17 : decode cX6_init 17 = .ok (.putfield 15, 3) := by decide +kernel
theorem dX6_init_20 : decode cX6_init 20 = .ok (.aload_n 0, 1) := by decide +kernel
theorem dX6_init_21 : decode cX6_init 21 = .ok (.bipush 15, 2) := by decide +kernel
theorem dX6_init_23 : decode cX6_init 23 = .ok (.newarray .int, 2) := by decide +kernel
theorem dX6_init_25 : decode cX6_init 25 = .ok (.putfield 18, 3) := by decide +kernel
theorem dX6_init_28 : decode cX6_init 28 = .ok (.aload_n 0, 1) := by decide +kernel
theorem dX6_init_29 : decode cX6_init 29 = .ok (.bipush 55, 2) := by decide +kernel
theorem dX6_init_31 : decode cX6_init 31 = .ok (.newarray .int, 2) := by decide +kernel
theorem dX6_init_33 : decode cX6_init 33 = .ok (.putfield 21, 3) := by decide +kernel
theorem dX6_init_36 : decode cX6_init 36 = .ok (.aload_n 0, 1) := by decide +kernel
theorem dX6_init_37 : decode cX6_init 37 = .ok (.iconst (-1), 1) := by decide +kernel
theorem dX6_init_38 : decode cX6_init 38 = .ok (.putfield 24, 3) := by decide +kernel
theorem dX6_init_41 : decode cX6_init 41 = .ok (.aload_n 0, 1) := by decide +kernel
theorem dX6_init_42 : decode cX6_init 42 = .ok (.aload_n 1, 1) := by decide +kernel
theorem dX6_init_43 : decode cX6_init 43 = .ok (.putfield 28, 3) := by decide +kernel
theorem dX6_init_46 : decode cX6_init 46 = .ok (.return_, 1) := by decide +kernel
theorem dX6_solve_0 : decode cX6_solve 0 = .ok (.aload_n 0, 1) := by decide +kernel
theorem dX6_solve_1 : decode cX6_solve 1 = .ok (.getfield 24, 3) := by decide +kernel
theorem dX6_solve_4 : decode cX6_solve 4 = .ok (.aload_n 0, 1) := by decide +kernel
theorem dX6_solve_5 : decode cX6_solve 5 = .ok (.getfield 28, 3) := by decide +kernel
theorem dX6_solve_8 : decode cX6_solve 8 = .ok (.getfield 32, 3) := by decide +kernel
theorem dX6_solve_11 : decode cX6_solve 11 = .ok (.if_icmp .ne 4, 3) := by decide +kernel
theorem dX6_solve_14 : decode cX6_solve 14 = .ok (.return_, 1) := by decide +kernel
theorem dX6_solve_15 : decode cX6_solve 15 = .ok (.aload_n 0, 1) := by decide +kernel
theorem dX6_solve_16 : decode cX6_solve 16 = .ok (.aload_n 0, 1) := by decide +kernel
theorem dX6_solve_17 : decode cX6_solve 17 = .ok (.getfield 28, 3) := by decide +kernel
theorem dX6_solve_20 : decode cX6_solve 20 = .ok (.getfield 32, 3) := by decide +kernel
theorem dX6_solve_23 : decode cX6_solve 23 = .ok (.putfield 24, 3) := by decide +kernel
theorem dX6_solve_26 : decode cX6_solve 26 = .ok (.aload_n 0, 1) := by decide +kernel
theorem dX6_solve_27 : decode cX6_solve 27 = .ok (.invokevirtual 37, 3) := by decide +kernel
theorem dX6_solve_30 : decode cX6_solve 30 = .ok (.aload_n 0, 1) := by decide +kernel
theorem dX6_solve_31 : decode cX6_solve 31 = .ok (.invokevirtual 40, 3) := by decide +kernel
theorem dX6_solve_34 : decode cX6_solve 34 = .ok (.aload_n 0, 1) := by decide +kernel
theorem dX6_solve_35 : decode cX6_solve 35 = .ok (.iconst 0, 1) := by decide +kernel
theorem dX6_solve_36 : decode cX6_solve 36 = .ok (.invokevirtual 43, 3) := by decide +kernel
theorem dX6_solve_39 : decode cX6_solve 39 = .ok (.return_, 1) := by decide +kernel
theorem dX6_forget_0 : decode cX6_forget 0 = .ok (.aload_n 0, 1) := by decide +kernel
theorem dX6_forget_1 : decode cX6_forget 1 = .ok (.iconst (-1), 1) := by decide +kernel
theorem dX6_forget_2 : decode cX6_forget 2 = .ok (.putfield 24, 3) := by decide +kernel
theorem dX6_forget_5 : decode cX6_forget 5 = .ok (.return_, 1) := by decide +kernel
theorem dX6_weighAhead_0 : decode cX6_weighAhead 0 = .ok (.aload_n 0, 1) := by decide +kernel
theorem dX6_weighAhead_1 : decode cX6_weighAhead 1 = .ok (.getfield 28, 3) := by decide +kernel
theorem dX6_weighAhead_4 : decode cX6_weighAhead 4 = .ok (.getfield 47, 3) := by decide +kernel
theorem dX6_weighAhead_7 : decode cX6_weighAhead 7 = .ok (.iconst 1, 1) := by decide +kernel
theorem dX6_weighAhead_8 : decode cX6_weighAhead 8 = .ok (.isub, 1) := by decide +kernel
theorem dX6_weighAhead_9 : decode cX6_weighAhead 9 = .ok (.istore_n 1, 1) := by decide +kernel
theorem dX6_weighAhead_10 : decode cX6_weighAhead 10 = .ok (.iload_n 1, 1) := by decide +kernel
theorem dX6_weighAhead_11 : decode cX6_weighAhead 11 = .ok (.ifCond .lt 56, 3) := by decide +kernel
theorem dX6_weighAhead_14 : decode cX6_weighAhead 14 = .ok (.iconst 0, 1) := by decide +kernel
theorem dX6_weighAhead_15 : decode cX6_weighAhead 15 = .ok (.istore_n 2, 1) := by decide +kernel
theorem dX6_weighAhead_16 : decode cX6_weighAhead 16 = .ok (.iload_n 2, 1) := by decide +kernel
theorem dX6_weighAhead_17 : decode cX6_weighAhead 17 = .ok (.aload_n 0, 1) := by decide +kernel
theorem dX6_weighAhead_18 : decode cX6_weighAhead 18 = .ok (.getfield 28, 3) := by decide +kernel
theorem dX6_weighAhead_21 : decode cX6_weighAhead 21 = .ok (.getfield 50, 3) := by decide +kernel
theorem dX6_weighAhead_24 : decode cX6_weighAhead 24 = .ok (.if_icmp .ge 37, 3) := by decide +kernel
theorem dX6_weighAhead_27 : decode cX6_weighAhead 27 = .ok (.aload_n 0, 1) := by decide +kernel
theorem dX6_weighAhead_28 : decode cX6_weighAhead 28 = .ok (.getfield 21, 3) := by decide +kernel
theorem dX6_weighAhead_31 : decode cX6_weighAhead 31 = .ok (.iload_n 1, 1) := by decide +kernel
theorem dX6_weighAhead_32 : decode cX6_weighAhead 32 = .ok (.iconst 5, 1) := by decide +kernel
theorem dX6_weighAhead_33 : decode cX6_weighAhead 33 = .ok (.imul, 1) := by decide +kernel
theorem dX6_weighAhead_34 : decode cX6_weighAhead 34 = .ok (.iload_n 2, 1) := by decide +kernel
theorem dX6_weighAhead_35 : decode cX6_weighAhead 35 = .ok (.iadd, 1) := by decide +kernel
theorem dX6_weighAhead_36 : decode cX6_weighAhead 36 = .ok (.aload_n 0, 1) := by decide +kernel
theorem dX6_weighAhead_37 : decode cX6_weighAhead 37 = .ok (.iload_n 1, 1) := by decide +kernel
theorem dX6_weighAhead_38 : decode cX6_weighAhead 38 = .ok (.iconst 1, 1) := by decide +kernel
theorem dX6_weighAhead_39 : decode cX6_weighAhead 39 = .ok (.iadd, 1) := by decide +kernel
theorem dX6_weighAhead_40 : decode cX6_weighAhead 40 = .ok (.iload_n 2, 1) := by decide +kernel
theorem dX6_weighAhead_41 : decode cX6_weighAhead 41 = .ok (.invokevirtual 53, 3) := by decide +kernel
theorem dX6_weighAhead_44 : decode cX6_weighAhead 44 = .ok (.aload_n 0, 1) := by decide +kernel
theorem dX6_weighAhead_45 : decode cX6_weighAhead 45 = .ok (.getfield 28, 3) := by decide +kernel
theorem dX6_weighAhead_48 : decode cX6_weighAhead 48 = .ok (.iload_n 1, 1) := by decide +kernel
theorem dX6_weighAhead_49 : decode cX6_weighAhead 49 = .ok (.iload_n 2, 1) := by decide +kernel
theorem dX6_weighAhead_50 : decode cX6_weighAhead 50 = .ok (.invokevirtual 57, 3) := by decide +kernel
theorem dX6_weighAhead_53 : decode cX6_weighAhead 53 = .ok (.iadd, 1) := by decide +kernel
theorem dX6_weighAhead_54 : decode cX6_weighAhead 54 = .ok (.iastore, 1) := by decide +kernel
theorem dX6_weighAhead_55 : decode cX6_weighAhead 55 = .ok (.iinc 2 1, 3) := by decide +kernel
theorem dX6_weighAhead_58 : decode cX6_weighAhead 58 = .ok (.goto (-42), 3) := by decide +kernel
theorem dX6_weighAhead_61 : decode cX6_weighAhead 61 = .ok (.iinc 1 (-1), 3) := by decide +kernel
theorem dX6_weighAhead_64 : decode cX6_weighAhead 64 = .ok (.goto (-54), 3) := by decide +kernel
theorem dX6_weighAhead_67 : decode cX6_weighAhead 67 = .ok (.return_, 1) := by decide +kernel
theorem dX6_loadAhead_0 : decode cX6_loadAhead 0 = .ok (.iload_n 1, 1) := by decide +kernel
theorem dX6_loadAhead_1 : decode cX6_loadAhead 1 = .ok (.aload_n 0, 1) := by decide +kernel
theorem dX6_loadAhead_2 : decode cX6_loadAhead 2 = .ok (.getfield 28, 3) := by decide +kernel
theorem dX6_loadAhead_5 : decode cX6_loadAhead 5 = .ok (.getfield 47, 3) := by decide +kernel
theorem dX6_loadAhead_8 : decode cX6_loadAhead 8 = .ok (.if_icmp .ge 16, 3) := by decide +kernel
theorem dX6_loadAhead_11 : decode cX6_loadAhead 11 = .ok (.aload_n 0, 1) := by decide +kernel
theorem dX6_loadAhead_12 : decode cX6_loadAhead 12 = .ok (.getfield 21, 3) := by decide +kernel
theorem dX6_loadAhead_15 : decode cX6_loadAhead 15 = .ok (.iload_n 1, 1) := by decide +kernel
theorem dX6_loadAhead_16 : decode cX6_loadAhead 16 = .ok (.iconst 5, 1) := by decide +kernel
theorem dX6_loadAhead_17 : decode cX6_loadAhead 17 = .ok (.imul, 1) := by decide +kernel
theorem dX6_loadAhead_18 : decode cX6_loadAhead 18 = .ok (.iload_n 2, 1) := by decide +kernel
theorem dX6_loadAhead_19 : decode cX6_loadAhead 19 = .ok (.iadd, 1) := by decide +kernel
theorem dX6_loadAhead_20 : decode cX6_loadAhead 20 = .ok (.iaload, 1) := by decide +kernel
theorem dX6_loadAhead_21 : decode cX6_loadAhead 21 = .ok (.goto 4, 3) := by decide +kernel
theorem dX6_loadAhead_24 : decode cX6_loadAhead 24 = .ok (.iconst 0, 1) := by decide +kernel
theorem dX6_loadAhead_25 : decode cX6_loadAhead 25 = .ok (.ireturn, 1) := by decide +kernel
theorem dX6_place_0 : decode cX6_place 0 = .ok (.aload_n 0, 1) := by decide +kernel
theorem dX6_place_1 : decode cX6_place 1 = .ok (.iload_n 1, 1) := by decide +kernel
theorem dX6_place_2 : decode cX6_place 2 = .ok (.invokevirtual 60, 3) := by decide +kernel
theorem dX6_place_5 : decode cX6_place 5 = .ok (.ifCond .eq 4, 3) := by decide +kernel
theorem dX6_place_8 : decode cX6_place 8 = .ok (.return_, 1) := by decide +kernel
theorem dX6_place_9 : decode cX6_place 9 = .ok (.iload_n 1, 1) := by decide +kernel
theorem dX6_place_10 : decode cX6_place 10 = .ok (.aload_n 0, 1) := by decide +kernel
theorem dX6_place_11 : decode cX6_place 11 = .ok (.getfield 28, 3) := by decide +kernel
theorem dX6_place_14 : decode cX6_place 14 = .ok (.getfield 47, 3) := by decide +kernel
theorem dX6_place_17 : decode cX6_place 17 = .ok (.if_icmp .lt 8, 3) := by decide +kernel
theorem dX6_place_20 : decode cX6_place 20 = .ok (.aload_n 0, 1) := by decide +kernel
theorem dX6_place_21 : decode cX6_place 21 = .ok (.invokevirtual 64, 3) := by decide +kernel
theorem dX6_place_24 : decode cX6_place 24 = .ok (.return_, 1) := by decide +kernel
theorem dX6_place_25 : decode cX6_place 25 = .ok (.iconst 0, 1) := by decide +kernel
theorem dX6_place_26 : decode cX6_place 26 = .ok (.istore_n 2, 1) := by decide +kernel
theorem dX6_place_27 : decode cX6_place 27 = .ok (.iload_n 2, 1) := by decide +kernel
theorem dX6_place_28 : decode cX6_place 28 = .ok (.iconst 3, 1) := by decide +kernel
theorem dX6_place_29 : decode cX6_place 29 = .ok (.if_icmp .ge 75, 3) := by decide +kernel
theorem dX6_place_32 : decode cX6_place 32 = .ok (.aload_n 0, 1) := by decide +kernel
theorem dX6_place_33 : decode cX6_place 33 = .ok (.getfield 9, 3) := by decide +kernel
theorem dX6_place_36 : decode cX6_place 36 = .ok (.iload_n 1, 1) := by decide +kernel
theorem dX6_place_37 : decode cX6_place 37 = .ok (.iload_n 2, 1) := by decide +kernel
theorem dX6_place_38 : decode cX6_place 38 = .ok (.iastore, 1) := by decide +kernel
theorem dX6_place_39 : decode cX6_place 39 = .ok (.aload_n 0, 1) := by decide +kernel
theorem dX6_place_40 : decode cX6_place 40 = .ok (.getfield 28, 3) := by decide +kernel
theorem dX6_place_43 : decode cX6_place 43 = .ok (.aload_n 0, 1) := by decide +kernel
theorem dX6_place_44 : decode cX6_place 44 = .ok (.getfield 9, 3) := by decide +kernel
theorem dX6_place_47 : decode cX6_place 47 = .ok (.iload_n 1, 1) := by decide +kernel
theorem dX6_place_48 : decode cX6_place 48 = .ok (.invokevirtual 67, 3) := by decide +kernel
theorem dX6_place_51 : decode cX6_place 51 = .ok (.ifCond .eq 47, 3) := by decide +kernel
theorem dX6_place_54 : decode cX6_place 54 = .ok (.aload_n 0, 1) := by decide +kernel
theorem dX6_place_55 : decode cX6_place 55 = .ok (.getfield 28, 3) := by decide +kernel
theorem dX6_place_58 : decode cX6_place 58 = .ok (.aload_n 0, 1) := by decide +kernel
theorem dX6_place_59 : decode cX6_place 59 = .ok (.getfield 9, 3) := by decide +kernel
theorem dX6_place_62 : decode cX6_place 62 = .ok (.iload_n 1, 1) := by decide +kernel
theorem dX6_place_63 : decode cX6_place 63 = .ok (.invokevirtual 71, 3) := by decide +kernel
theorem dX6_place_66 : decode cX6_place 66 = .ok (.ifCond .eq 32, 3) := by decide +kernel
theorem dX6_place_69 : decode cX6_place 69 = .ok (.aload_n 0, 1) := by decide +kernel
theorem dX6_place_70 : decode cX6_place 70 = .ok (.iload_n 1, 1) := by decide +kernel
theorem dX6_place_71 : decode cX6_place 71 = .ok (.iload_n 2, 1) := by decide +kernel
theorem dX6_place_72 : decode cX6_place 72 = .ok (.iconst 1, 1) := by decide +kernel
theorem dX6_place_73 : decode cX6_place 73 = .ok (.invokevirtual 74, 3) := by decide +kernel
theorem dX6_place_76 : decode cX6_place 76 = .ok (.aload_n 0, 1) := by decide +kernel
theorem dX6_place_77 : decode cX6_place 77 = .ok (.iload_n 2, 1) := by decide +kernel
theorem dX6_place_78 : decode cX6_place 78 = .ok (.invokevirtual 78, 3) := by decide +kernel
theorem dX6_place_81 : decode cX6_place 81 = .ok (.ifCond .eq 10, 3) := by decide +kernel
theorem dX6_place_84 : decode cX6_place 84 = .ok (.aload_n 0, 1) := by decide +kernel
theorem dX6_place_85 : decode cX6_place 85 = .ok (.iload_n 1, 1) := by decide +kernel
theorem dX6_place_86 : decode cX6_place 86 = .ok (.iconst 1, 1) := by decide +kernel
theorem dX6_place_87 : decode cX6_place 87 = .ok (.iadd, 1) := by decide +kernel
theorem dX6_place_88 : decode cX6_place 88 = .ok (.invokevirtual 43, 3) := by decide +kernel
theorem dX6_place_91 : decode cX6_place 91 = .ok (.aload_n 0, 1) := by decide +kernel
theorem dX6_place_92 : decode cX6_place 92 = .ok (.iload_n 1, 1) := by decide +kernel
theorem dX6_place_93 : decode cX6_place 93 = .ok (.iload_n 2, 1) := by decide +kernel
theorem dX6_place_94 : decode cX6_place 94 = .ok (.iconst (-1), 1) := by decide +kernel
theorem dX6_place_95 : decode cX6_place 95 = .ok (.invokevirtual 74, 3) := by decide +kernel
theorem dX6_place_98 : decode cX6_place 98 = .ok (.iinc 2 1, 3) := by decide +kernel
theorem dX6_place_101 : decode cX6_place 101 = .ok (.goto (-74), 3) := by decide +kernel
theorem dX6_place_104 : decode cX6_place 104 = .ok (.return_, 1) := by decide +kernel
theorem dX6_shift_0 : decode cX6_shift 0 = .ok (.iconst 0, 1) := by decide +kernel
theorem dX6_shift_1 : decode cX6_shift 1 = .ok (.istore 4, 2) := by decide +kernel
theorem dX6_shift_3 : decode cX6_shift 3 = .ok (.iload 4, 2) := by decide +kernel
theorem dX6_shift_5 : decode cX6_shift 5 = .ok (.aload_n 0, 1) := by decide +kernel
theorem dX6_shift_6 : decode cX6_shift 6 = .ok (.getfield 28, 3) := by decide +kernel
theorem dX6_shift_9 : decode cX6_shift 9 = .ok (.getfield 50, 3) := by decide +kernel
theorem dX6_shift_12 : decode cX6_shift 12 = .ok (.if_icmp .ge 42, 3) := by decide +kernel
theorem dX6_shift_15 : decode cX6_shift 15 = .ok (.aload_n 0, 1) := by decide +kernel
theorem dX6_shift_16 : decode cX6_shift 16 = .ok (.getfield 18, 3) := by decide +kernel
theorem dX6_shift_19 : decode cX6_shift 19 = .ok (.iload 4, 2) := by decide +kernel
theorem dX6_shift_21 : decode cX6_shift 21 = .ok (.iconst 3, 1) := by decide +kernel
theorem dX6_shift_22 : decode cX6_shift 22 = .ok (.imul, 1) := by decide +kernel
theorem dX6_shift_23 : decode cX6_shift 23 = .ok (.iload_n 2, 1) := by decide +kernel
theorem dX6_shift_24 : decode cX6_shift 24 = .ok (.iadd, 1) := by decide +kernel
theorem dX6_shift_25 : decode cX6_shift 25 = .ok (.dup2, 1) := by decide +kernel
theorem dX6_shift_26 : decode cX6_shift 26 = .ok (.iaload, 1) := by decide +kernel
theorem dX6_shift_27 : decode cX6_shift 27 = .ok (.iload_n 3, 1) := by decide +kernel
theorem dX6_shift_28 : decode cX6_shift 28 = .ok (.aload_n 0, 1) := by decide +kernel
theorem dX6_shift_29 : decode cX6_shift 29 = .ok (.iload_n 1, 1) := by decide +kernel
theorem dX6_shift_30 : decode cX6_shift 30 = .ok (.iload 4, 2) := by decide +kernel
theorem dX6_shift_32 : decode cX6_shift 32 = .ok (.invokevirtual 53, 3) := by decide +kernel
theorem dX6_shift_35 : decode cX6_shift 35 = .ok (.aload_n 0, 1) := by decide +kernel
theorem dX6_shift_36 : decode cX6_shift 36 = .ok (.iload_n 1, 1) := by decide +kernel
theorem dX6_shift_37 : decode cX6_shift 37 = .ok (.iconst 1, 1) := by decide +kernel
theorem dX6_shift_38 : decode cX6_shift 38 = .ok (.iadd, 1) := by decide +kernel
theorem dX6_shift_39 : decode cX6_shift 39 = .ok (.iload 4, 2) := by decide +kernel
theorem dX6_shift_41 : decode cX6_shift 41 = .ok (.invokevirtual 53, 3) := by decide +kernel
theorem dX6_shift_44 : decode cX6_shift 44 = .ok (.isub, 1) := by decide +kernel
theorem dX6_shift_45 : decode cX6_shift 45 = .ok (.imul, 1) := by decide +kernel
theorem dX6_shift_46 : decode cX6_shift 46 = .ok (.iadd, 1) := by decide +kernel
theorem dX6_shift_47 : decode cX6_shift 47 = .ok (.iastore, 1) := by decide +kernel
theorem dX6_shift_48 : decode cX6_shift 48 = .ok (.iinc 4 1, 3) := by decide +kernel
theorem dX6_shift_51 : decode cX6_shift 51 = .ok (.goto (-48), 3) := by decide +kernel
theorem dX6_shift_54 : decode cX6_shift 54 = .ok (.return_, 1) := by decide +kernel
theorem dX6_stillHolds_0 : decode cX6_stillHolds 0 = .ok (.iconst 0, 1) := by decide +kernel
theorem dX6_stillHolds_1 : decode cX6_stillHolds 1 = .ok (.istore_n 2, 1) := by decide +kernel
theorem dX6_stillHolds_2 : decode cX6_stillHolds 2 = .ok (.iload_n 2, 1) := by decide +kernel
theorem dX6_stillHolds_3 : decode cX6_stillHolds 3 = .ok (.aload_n 0, 1) := by decide +kernel
theorem dX6_stillHolds_4 : decode cX6_stillHolds 4 = .ok (.getfield 28, 3) := by decide +kernel
theorem dX6_stillHolds_7 : decode cX6_stillHolds 7 = .ok (.getfield 50, 3) := by decide +kernel
theorem dX6_stillHolds_10 : decode cX6_stillHolds 10 = .ok (.if_icmp .ge 33, 3) := by decide +kernel
theorem dX6_stillHolds_13 : decode cX6_stillHolds 13 = .ok (.aload_n 0, 1) := by decide +kernel
theorem dX6_stillHolds_14 : decode cX6_stillHolds 14 = .ok (.getfield 18, 3) := by decide +kernel
theorem dX6_stillHolds_17 : decode cX6_stillHolds 17 = .ok (.iload_n 2, 1) := by decide +kernel
theorem dX6_stillHolds_18 : decode cX6_stillHolds 18 = .ok (.iconst 3, 1) := by decide +kernel
theorem dX6_stillHolds_19 : decode cX6_stillHolds 19 = .ok (.imul, 1) := by decide +kernel
theorem dX6_stillHolds_20 : decode cX6_stillHolds 20 = .ok (.iload_n 1, 1) := by decide +kernel
theorem dX6_stillHolds_21 : decode cX6_stillHolds 21 = .ok (.iadd, 1) := by decide +kernel
theorem dX6_stillHolds_22 : decode cX6_stillHolds 22 = .ok (.iaload, 1) := by decide +kernel
theorem dX6_stillHolds_23 : decode cX6_stillHolds 23 = .ok (.aload_n 0, 1) := by decide +kernel
theorem dX6_stillHolds_24 : decode cX6_stillHolds 24 = .ok (.getfield 28, 3) := by decide +kernel
theorem dX6_stillHolds_27 : decode cX6_stillHolds 27 = .ok (.getfield 81, 3) := by decide +kernel
theorem dX6_stillHolds_30 : decode cX6_stillHolds 30 = .ok (.iload_n 1, 1) := by decide +kernel
theorem dX6_stillHolds_31 : decode cX6_stillHolds 31 = .ok (.iaload, 1) := by decide +kernel
theorem dX6_stillHolds_32 : decode cX6_stillHolds 32 = .ok (.if_icmp .le 5, 3) := by decide +kernel
theorem dX6_stillHolds_35 : decode cX6_stillHolds 35 = .ok (.iconst 0, 1) := by decide +kernel
theorem dX6_stillHolds_36 : decode cX6_stillHolds 36 = .ok (.ireturn, 1) := by decide +kernel
theorem dX6_stillHolds_37 : decode cX6_stillHolds 37 = .ok (.iinc 2 1, 3) := by decide +kernel
theorem dX6_stillHolds_40 : decode cX6_stillHolds 40 = .ok (.goto (-38), 3) := by decide +kernel
theorem dX6_stillHolds_43 : decode cX6_stillHolds 43 = .ok (.iconst 1, 1) := by decide +kernel
theorem dX6_stillHolds_44 : decode cX6_stillHolds 44 = .ok (.ireturn, 1) := by decide +kernel
theorem dX6_offSoFar_0 : decode cX6_offSoFar 0 = .ok (.aload_n 0, 1) := by decide +kernel
theorem dX6_offSoFar_1 : decode cX6_offSoFar 1 = .ok (.getfield 28, 3) := by decide +kernel
theorem dX6_offSoFar_4 : decode cX6_offSoFar 4 = .ok (.aload_n 0, 1) := by decide +kernel
theorem dX6_offSoFar_5 : decode cX6_offSoFar 5 = .ok (.getfield 18, 3) := by decide +kernel
theorem dX6_offSoFar_8 : decode cX6_offSoFar 8 = .ok (.iload_n 1, 1) := by decide +kernel
theorem dX6_offSoFar_9 : decode cX6_offSoFar 9 = .ok (.iconst 3, 1) := by decide +kernel
theorem dX6_offSoFar_10 : decode cX6_offSoFar 10 = .ok (.imul, 1) := by decide +kernel
theorem dX6_offSoFar_11 : decode cX6_offSoFar 11 = .ok (.iconst 0, 1) := by decide +kernel
theorem dX6_offSoFar_12 : decode cX6_offSoFar 12 = .ok (.iadd, 1) := by decide +kernel
theorem dX6_offSoFar_13 : decode cX6_offSoFar 13 = .ok (.iaload, 1) := by decide +kernel
theorem dX6_offSoFar_14 : decode cX6_offSoFar 14 = .ok (.aload_n 0, 1) := by decide +kernel
theorem dX6_offSoFar_15 : decode cX6_offSoFar 15 = .ok (.getfield 18, 3) := by decide +kernel
theorem dX6_offSoFar_18 : decode cX6_offSoFar 18 = .ok (.iload_n 1, 1) := by decide +kernel
theorem dX6_offSoFar_19 : decode cX6_offSoFar 19 = .ok (.iconst 3, 1) := by decide +kernel
theorem dX6_offSoFar_20 : decode cX6_offSoFar 20 = .ok (.imul, 1) := by decide +kernel
theorem dX6_offSoFar_21 : decode cX6_offSoFar 21 = .ok (.iconst 1, 1) := by decide +kernel
theorem dX6_offSoFar_22 : decode cX6_offSoFar 22 = .ok (.iadd, 1) := by decide +kernel
theorem dX6_offSoFar_23 : decode cX6_offSoFar 23 = .ok (.iaload, 1) := by decide +kernel
theorem dX6_offSoFar_24 : decode cX6_offSoFar 24 = .ok (.invokevirtual 84, 3) := by decide +kernel
theorem dX6_offSoFar_27 : decode cX6_offSoFar 27 = .ok (.ireturn, 1) := by decide +kernel
theorem dX6_mostOff_0 : decode cX6_mostOff 0 = .ok (.aload_n 0, 1) := by decide +kernel
theorem dX6_mostOff_1 : decode cX6_mostOff 1 = .ok (.iload_n 2, 1) := by decide +kernel
theorem dX6_mostOff_2 : decode cX6_mostOff 2 = .ok (.invokevirtual 87, 3) := by decide +kernel
theorem dX6_mostOff_5 : decode cX6_mostOff 5 = .ok (.aload_n 0, 1) := by decide +kernel
theorem dX6_mostOff_6 : decode cX6_mostOff 6 = .ok (.iload_n 1, 1) := by decide +kernel
theorem dX6_mostOff_7 : decode cX6_mostOff 7 = .ok (.iload_n 2, 1) := by decide +kernel
theorem dX6_mostOff_8 : decode cX6_mostOff 8 = .ok (.invokevirtual 53, 3) := by decide +kernel
theorem dX6_mostOff_11 : decode cX6_mostOff 11 = .ok (.aload_n 0, 1) := by decide +kernel
theorem dX6_mostOff_12 : decode cX6_mostOff 12 = .ok (.getfield 28, 3) := by decide +kernel
theorem dX6_mostOff_15 : decode cX6_mostOff 15 = .ok (.getfield 91, 3) := by decide +kernel
theorem dX6_mostOff_18 : decode cX6_mostOff 18 = .ok (.iconst 1, 1) := by decide +kernel
theorem dX6_mostOff_19 : decode cX6_mostOff 19 = .ok (.iaload, 1) := by decide +kernel
theorem dX6_mostOff_20 : decode cX6_mostOff 20 = .ok (.imul, 1) := by decide +kernel
theorem dX6_mostOff_21 : decode cX6_mostOff 21 = .ok (.iadd, 1) := by decide +kernel
theorem dX6_mostOff_22 : decode cX6_mostOff 22 = .ok (.ireturn, 1) := by decide +kernel
theorem dX6_leastOff_0 : decode cX6_leastOff 0 = .ok (.aload_n 0, 1) := by decide +kernel
theorem dX6_leastOff_1 : decode cX6_leastOff 1 = .ok (.iload_n 2, 1) := by decide +kernel
theorem dX6_leastOff_2 : decode cX6_leastOff 2 = .ok (.invokevirtual 87, 3) := by decide +kernel
theorem dX6_leastOff_5 : decode cX6_leastOff 5 = .ok (.aload_n 0, 1) := by decide +kernel
theorem dX6_leastOff_6 : decode cX6_leastOff 6 = .ok (.iload_n 1, 1) := by decide +kernel
theorem dX6_leastOff_7 : decode cX6_leastOff 7 = .ok (.iload_n 2, 1) := by decide +kernel
theorem dX6_leastOff_8 : decode cX6_leastOff 8 = .ok (.invokevirtual 53, 3) := by decide +kernel
theorem dX6_leastOff_11 : decode cX6_leastOff 11 = .ok (.aload_n 0, 1) := by decide +kernel
theorem dX6_leastOff_12 : decode cX6_leastOff 12 = .ok (.getfield 28, 3) := by decide +kernel
theorem dX6_leastOff_15 : decode cX6_leastOff 15 = .ok (.getfield 91, 3) := by decide +kernel
theorem dX6_leastOff_18 : decode cX6_leastOff 18 = .ok (.iconst 0, 1) := by decide +kernel
theorem dX6_leastOff_19 : decode cX6_leastOff 19 = .ok (.iaload, 1) := by decide +kernel
theorem dX6_leastOff_20 : decode cX6_leastOff 20 = .ok (.imul, 1) := by decide +kernel
theorem dX6_leastOff_21 : decode cX6_leastOff 21 = .ok (.isub, 1) := by decide +kernel
theorem dX6_leastOff_22 : decode cX6_leastOff 22 = .ok (.ireturn, 1) := by decide +kernel
theorem dX6_nearestOff_0 : decode cX6_nearestOff 0 = .ok (.iconst 0, 1) := by decide +kernel
theorem dX6_nearestOff_1 : decode cX6_nearestOff 1 = .ok (.aload_n 0, 1) := by decide +kernel
theorem dX6_nearestOff_2 : decode cX6_nearestOff 2 = .ok (.iload_n 1, 1) := by decide +kernel
theorem dX6_nearestOff_3 : decode cX6_nearestOff 3 = .ok (.iload_n 2, 1) := by decide +kernel
theorem dX6_nearestOff_4 : decode cX6_nearestOff 4 = .ok (.invokevirtual 94, 3) := by decide +kernel
theorem dX6_nearestOff_7 : decode cX6_nearestOff 7 = .ok (.aload_n 0, 1) := by decide +kernel
theorem dX6_nearestOff_8 : decode cX6_nearestOff 8 = .ok (.iload_n 1, 1) := by decide +kernel
theorem dX6_nearestOff_9 : decode cX6_nearestOff 9 = .ok (.iload_n 2, 1) := by decide +kernel
theorem dX6_nearestOff_10 : decode cX6_nearestOff 10 = .ok (.invokevirtual 97, 3) := by decide +kernel
theorem dX6_nearestOff_13 : decode cX6_nearestOff 13 = .ok (.ineg, 1) := by decide +kernel
theorem dX6_nearestOff_14 : decode cX6_nearestOff 14 = .ok (.invokestatic 100, 3) := by decide +kernel
theorem dX6_nearestOff_17 : decode cX6_nearestOff 17 = .ok (.invokestatic 100, 3) := by decide +kernel
theorem dX6_nearestOff_20 : decode cX6_nearestOff 20 = .ok (.ireturn, 1) := by decide +kernel
theorem dX6_keepRow_0 : decode cX6_keepRow 0 = .ok (.aload_n 0, 1) := by decide +kernel
theorem dX6_keepRow_1 : decode cX6_keepRow 1 = .ok (.getfield 9, 3) := by decide +kernel
theorem dX6_keepRow_4 : decode cX6_keepRow 4 = .ok (.iconst 0, 1) := by decide +kernel
theorem dX6_keepRow_5 : decode cX6_keepRow 5 = .ok (.aload_n 0, 1) := by decide +kernel
theorem dX6_keepRow_6 : decode cX6_keepRow 6 = .ok (.getfield 15, 3) := by decide +kernel
theorem dX6_keepRow_9 : decode cX6_keepRow 9 = .ok (.iconst 0, 1) := by decide +kernel
theorem dX6_keepRow_10 : decode cX6_keepRow 10 = .ok (.aload_n 0, 1) := by decide +kernel
theorem dX6_keepRow_11 : decode cX6_keepRow 11 = .ok (.getfield 28, 3) := by decide +kernel
theorem dX6_keepRow_14 : decode cX6_keepRow 14 = .ok (.getfield 47, 3) := by decide +kernel
theorem dX6_keepRow_17 : decode cX6_keepRow 17 = .ok (.invokestatic 105, 3) := by decide +kernel
theorem dX6_keepRow_20 : decode cX6_keepRow 20 = .ok (.return_, 1) := by decide +kernel
theorem dX7_init_0 : decode cX7_init 0 = .ok (.aload_n 0, 1) := by decide +kernel
theorem dX7_init_1 : decode cX7_init 1 = .ok (.invokespecial 3, 3) := by decide +kernel
theorem dX7_init_4 : decode cX7_init 4 = .ok (.aload_n 0, 1) := by decide +kernel
theorem dX7_init_5 : decode cX7_init 5 = .ok (.iconst (-1), 1) := by decide +kernel
theorem dX7_init_6 : decode cX7_init 6 = .ok (.putfield 11, 3) := by decide +kernel
theorem dX7_init_9 : decode cX7_init 9 = .ok (.aload_n 0, 1) := by decide +kernel
theorem dX7_init_10 : decode cX7_init 10 = .ok (.iconst 0, 1) := by decide +kernel
theorem dX7_init_11 : decode cX7_init 11 = .ok (.putfield 15, 3) := by decide +kernel
theorem dX7_init_14 : decode cX7_init 14 = .ok (.aload_n 0, 1) := by decide +kernel
theorem dX7_init_15 : decode cX7_init 15 = .ok (.bipush 16, 2) := by decide +kernel
theorem dX7_init_17 : decode cX7_init 17 = .ok (.newarray .long, 2) := by decide +kernel
theorem dX7_init_19 : decode cX7_init 19 = .ok (.putfield 18, 3) := by decide +kernel
theorem dX7_init_22 : decode cX7_init 22 = .ok (.return_, 1) := by decide +kernel
theorem dX7_isMissing_0 : decode cX7_isMissing 0 = .ok (.aload_n 0, 1) := by decide +kernel
theorem dX7_isMissing_1 : decode cX7_isMissing 1 = .ok (.getfield 11, 3) := by decide +kernel
theorem dX7_isMissing_4 : decode cX7_isMissing 4 = .ok (.iconst (-1), 1) := by decide +kernel
theorem dX7_isMissing_5 : decode cX7_isMissing 5 = .ok (.if_icmp .ne 7, 3) := by decide +kernel
theorem dX7_isMissing_8 : decode cX7_isMissing 8 = .ok (.iconst 1, 1) := by decide +kernel
theorem dX7_isMissing_9 : decode cX7_isMissing 9 = .ok (.goto 4, 3) := by decide +kernel
theorem dX7_isMissing_12 : decode cX7_isMissing 12 = .ok (.iconst 0, 1) := by decide +kernel
theorem dX7_isMissing_13 : decode cX7_isMissing 13 = .ok (.ireturn, 1) := by decide +kernel
theorem dX7_renew_0 : decode cX7_renew 0 = .ok (.aload_n 0, 1) := by decide +kernel
theorem dX7_renew_1 : decode cX7_renew 1 = .ok (.iload_n 1, 1) := by decide +kernel
theorem dX7_renew_2 : decode cX7_renew 2 = .ok (.putfield 11, 3) := by decide +kernel
theorem dX7_renew_5 : decode cX7_renew 5 = .ok (.aload_n 0, 1) := by decide +kernel
theorem dX7_renew_6 : decode cX7_renew 6 = .ok (.iload_n 2, 1) := by decide +kernel
theorem dX7_renew_7 : decode cX7_renew 7 = .ok (.putfield 15, 3) := by decide +kernel
theorem dX7_renew_10 : decode cX7_renew 10 = .ok (.iconst 0, 1) := by decide +kernel
theorem dX7_renew_11 : decode cX7_renew 11 = .ok (.istore_n 3, 1) := by decide +kernel
theorem dX7_renew_12 : decode cX7_renew 12 = .ok (.iload_n 3, 1) := by decide +kernel
theorem dX7_renew_13 : decode cX7_renew 13 = .ok (.bipush 16, 2) := by decide +kernel
theorem dX7_renew_15 : decode cX7_renew 15 = .ok (.if_icmp .ge 16, 3) := by decide +kernel
theorem dX7_renew_18 : decode cX7_renew 18 = .ok (.aload_n 0, 1) := by decide +kernel
theorem dX7_renew_19 : decode cX7_renew 19 = .ok (.getfield 18, 3) := by decide +kernel
theorem dX7_renew_22 : decode cX7_renew 22 = .ok (.iload_n 3, 1) := by decide +kernel
theorem dX7_renew_23 : decode cX7_renew 23 = .ok (.lconst 0, 1) := by decide +kernel
theorem dX7_renew_24 : decode cX7_renew 24 = .ok (.lastore, 1) := by decide +kernel
theorem dX7_renew_25 : decode cX7_renew 25 = .ok (.iinc 3 1, 3) := by decide +kernel
theorem dX7_renew_28 : decode cX7_renew 28 = .ok (.goto (-16), 3) := by decide +kernel
theorem dX7_renew_31 : decode cX7_renew 31 = .ok (.return_, 1) := by decide +kernel
theorem dX7_lose_0 : decode cX7_lose 0 = .ok (.aload_n 0, 1) := by decide +kernel
theorem dX7_lose_1 : decode cX7_lose 1 = .ok (.iconst (-1), 1) := by decide +kernel
theorem dX7_lose_2 : decode cX7_lose 2 = .ok (.putfield 11, 3) := by decide +kernel
theorem dX7_lose_5 : decode cX7_lose 5 = .ok (.aload_n 0, 1) := by decide +kernel
theorem dX7_lose_6 : decode cX7_lose 6 = .ok (.iconst 0, 1) := by decide +kernel
theorem dX7_lose_7 : decode cX7_lose 7 = .ok (.putfield 15, 3) := by decide +kernel
theorem dX7_lose_10 : decode cX7_lose 10 = .ok (.return_, 1) := by decide +kernel
theorem dX7_spans_0 : decode cX7_spans 0 = .ok (.iload_n 2, 1) := by decide +kernel
theorem dX7_spans_1 : decode cX7_spans 1 = .ok (.ifCond .lt 21, 3) := by decide +kernel
theorem dX7_spans_4 : decode cX7_spans 4 = .ok (.iload_n 1, 1) := by decide +kernel
theorem dX7_spans_5 : decode cX7_spans 5 = .ok (.ifCond .lt 17, 3) := by decide +kernel
theorem dX7_spans_8 : decode cX7_spans 8 = .ok (.iload_n 1, 1) := by decide +kernel
theorem dX7_spans_9 : decode cX7_spans 9 = .ok (.aload_n 0, 1) := by decide +kernel
theorem dX7_spans_10 : decode cX7_spans 10 = .ok (.getfield 15, 3) := by decide +kernel
theorem dX7_spans_13 : decode cX7_spans 13 = .ok (.iload_n 2, 1) := by decide +kernel
theorem dX7_spans_14 : decode cX7_spans 14 = .ok (.isub, 1) := by decide +kernel
theorem dX7_spans_15 : decode cX7_spans 15 = .ok (.if_icmp .gt 7, 3) := by decide +kernel
theorem dX7_spans_18 : decode cX7_spans 18 = .ok (.iconst 1, 1) := by decide +kernel
theorem dX7_spans_19 : decode cX7_spans 19 = .ok (.goto 4, 3) := by decide +kernel
theorem dX7_spans_22 : decode cX7_spans 22 = .ok (.iconst 0, 1) := by decide +kernel
theorem dX7_spans_23 : decode cX7_spans 23 = .ok (.ireturn, 1) := by decide +kernel
theorem dX7_write_0 : decode cX7_write 0 = .ok (.aload_n 0, 1) := by decide +kernel
theorem dX7_write_1 : decode cX7_write 1 = .ok (.getfield 18, 3) := by decide +kernel
theorem dX7_write_4 : decode cX7_write 4 = .ok (.iload_n 1, 1) := by decide +kernel
theorem dX7_write_5 : decode cX7_write 5 = .ok (.aload_n 0, 1) := by decide +kernel
theorem dX7_write_6 : decode cX7_write 6 = .ok (.lload_n 2, 1) := by decide +kernel
theorem dX7_write_7 : decode cX7_write 7 = .ok (.invokevirtual 22, 3) := by decide +kernel
theorem dX7_write_10 : decode cX7_write 10 = .ok (.lastore, 1) := by decide +kernel
theorem dX7_write_11 : decode cX7_write 11 = .ok (.return_, 1) := by decide +kernel
theorem dX7_lowestBits_0 : decode cX7_lowestBits 0 = .ok (.aload_n 0, 1) := by decide +kernel
theorem dX7_lowestBits_1 : decode cX7_lowestBits 1 = .ok (.getfield 11, 3) := by decide +kernel
theorem dX7_lowestBits_4 : decode cX7_lowestBits 4 = .ok (.tableswitch 42 0 2 #[28, 33, 38], 28) := by decide +kernel
theorem dX7_lowestBits_32 : decode cX7_lowestBits 32 = .ok (.lload_n 1, 1) := by decide +kernel
theorem dX7_lowestBits_33 : decode cX7_lowestBits 33 = .ok (.l2i, 1) := by decide +kernel
theorem dX7_lowestBits_34 : decode cX7_lowestBits 34 = .ok (.i2b, 1) := by decide +kernel
theorem dX7_lowestBits_35 : decode cX7_lowestBits 35 = .ok (.i2l, 1) := by decide +kernel
theorem dX7_lowestBits_36 : decode cX7_lowestBits 36 = .ok (.lreturn, 1) := by decide +kernel
theorem dX7_lowestBits_37 : decode cX7_lowestBits 37 = .ok (.lload_n 1, 1) := by decide +kernel
theorem dX7_lowestBits_38 : decode cX7_lowestBits 38 = .ok (.l2i, 1) := by decide +kernel
theorem dX7_lowestBits_39 : decode cX7_lowestBits 39 = .ok (.i2s, 1) := by decide +kernel
theorem dX7_lowestBits_40 : decode cX7_lowestBits 40 = .ok (.i2l, 1) := by decide +kernel
theorem dX7_lowestBits_41 : decode cX7_lowestBits 41 = .ok (.lreturn, 1) := by decide +kernel
theorem dX7_lowestBits_42 : decode cX7_lowestBits 42 = .ok (.lload_n 1, 1) := by decide +kernel
theorem dX7_lowestBits_43 : decode cX7_lowestBits 43 = .ok (.l2i, 1) := by decide +kernel
theorem dX7_lowestBits_44 : decode cX7_lowestBits 44 = .ok (.i2l, 1) := by decide +kernel
theorem dX7_lowestBits_45 : decode cX7_lowestBits 45 = .ok (.lreturn, 1) := by decide +kernel
theorem dX7_lowestBits_46 : decode cX7_lowestBits 46 = .ok (.lload_n 1, 1) := by decide +kernel
theorem dX7_lowestBits_47 : decode cX7_lowestBits 47 = .ok (.lreturn, 1) := by decide +kernel
theorem dX8_init_0 : decode cX8_init 0 = .ok (.aload_n 0, 1) := by decide +kernel
theorem dX8_init_1 : decode cX8_init 1 = .ok (.invokespecial 3, 3) := by decide +kernel
theorem dX8_init_4 : decode cX8_init 4 = .ok (.aload_n 0, 1) := by decide +kernel
theorem dX8_init_5 : decode cX8_init 5 = .ok (.iconst 0, 1) := by decide +kernel
theorem dX8_init_6 : decode cX8_init 6 = .ok (.putfield 9, 3) := by decide +kernel
theorem dX8_init_9 : decode cX8_init 9 = .ok (.aload_n 0, 1) := by decide +kernel
theorem dX8_init_10 : decode cX8_init 10 = .ok (.bipush 80, 2) := by decide +kernel
theorem dX8_init_12 : decode cX8_init 12 = .ok (.newarray .char, 2) := by decide +kernel
theorem dX8_init_14 : decode cX8_init 14 = .ok (.putfield 15, 3) := by decide +kernel
theorem dX8_init_17 : decode cX8_init 17 = .ok (.aload_n 0, 1) := by decide +kernel
theorem dX8_init_18 : decode cX8_init 18 = .ok (.iconst 0, 1) := by decide +kernel
theorem dX8_init_19 : decode cX8_init 19 = .ok (.putfield 19, 3) := by decide +kernel
theorem dX8_init_22 : decode cX8_init 22 = .ok (.return_, 1) := by decide +kernel
theorem dX8_add_0 : decode cX8_add 0 = .ok (.aload_n 0, 1) := by decide +kernel
theorem dX8_add_1 : decode cX8_add 1 = .ok (.getfield 15, 3) := by decide +kernel
theorem dX8_add_4 : decode cX8_add 4 = .ok (.aload_n 0, 1) := by decide +kernel
theorem dX8_add_5 : decode cX8_add 5 = .ok (.getfield 9, 3) := by decide +kernel
theorem dX8_add_8 : decode cX8_add 8 = .ok (.iload_n 1, 1) := by decide +kernel
theorem dX8_add_9 : decode cX8_add 9 = .ok (.i2c, 1) := by decide +kernel
theorem dX8_add_10 : decode cX8_add 10 = .ok (.castore, 1) := by decide +kernel
theorem dX8_add_11 : decode cX8_add 11 = .ok (.aload_n 0, 1) := by decide +kernel
theorem dX8_add_12 : decode cX8_add 12 = .ok (.dup, 1) := by decide +kernel
theorem dX8_add_13 : decode cX8_add 13 = .ok (.getfield 9, 3) := by decide +kernel
theorem dX8_add_16 : decode cX8_add 16 = .ok (.iconst 1, 1) := by decide +kernel
theorem dX8_add_17 : decode cX8_add 17 = .ok (.iadd, 1) := by decide +kernel
theorem dX8_add_18 : decode cX8_add 18 = .ok (.putfield 9, 3) := by decide +kernel
theorem dX8_add_21 : decode cX8_add 21 = .ok (.aload_n 0, 1) := by decide +kernel
theorem dX8_add_22 : decode cX8_add 22 = .ok (.getfield 9, 3) := by decide +kernel
theorem dX8_add_25 : decode cX8_add 25 = .ok (.ireturn, 1) := by decide +kernel
theorem dX8_read_0 : decode cX8_read 0 = .ok (.aload_n 0, 1) := by decide +kernel
theorem dX8_read_1 : decode cX8_read 1 = .ok (.iconst 0, 1) := by decide +kernel
theorem dX8_read_2 : decode cX8_read 2 = .ok (.putfield 19, 3) := by decide +kernel
theorem dX8_read_5 : decode cX8_read 5 = .ok (.aload_n 1, 1) := by decide +kernel
theorem dX8_read_6 : decode cX8_read 6 = .ok (.invokevirtual 22, 3) := by decide +kernel
theorem dX8_read_9 : decode cX8_read 9 = .ok (.aload_n 0, 1) := by decide +kernel
theorem dX8_read_10 : decode cX8_read 10 = .ok (.aload_n 1, 1) := by decide +kernel
theorem dX8_read_11 : decode cX8_read 11 = .ok (.invokevirtual 27, 3) := by decide +kernel
theorem dX8_read_14 : decode cX8_read 14 = .ok (.ifCond .eq 24, 3) := by decide +kernel
theorem dX8_read_17 : decode cX8_read 17 = .ok (.aload_n 0, 1) := by decide +kernel
theorem dX8_read_18 : decode cX8_read 18 = .ok (.bipush 59, 2) := by decide +kernel
theorem dX8_read_20 : decode cX8_read 20 = .ok (.invokevirtual 31, 3) := by decide +kernel
theorem dX8_read_23 : decode cX8_read 23 = .ok (.ifCond .eq 11, 3) := by decide +kernel
theorem dX8_read_26 : decode cX8_read 26 = .ok (.aload_n 0, 1) := by decide +kernel
theorem dX8_read_27 : decode cX8_read 27 = .ok (.aload_n 1, 1) := by decide +kernel
theorem dX8_read_28 : decode cX8_read 28 = .ok (.invokevirtual 35, 3) := by decide +kernel
theorem dX8_read_31 : decode cX8_read 31 = .ok (.ifCond .eq 7, 3) := by decide +kernel
theorem dX8_read_34 : decode cX8_read 34 = .ok (.iconst 1, 1) := by decide +kernel
theorem dX8_read_35 : decode cX8_read 35 = .ok (.goto 4, 3) := by decide +kernel
theorem dX8_read_38 : decode cX8_read 38 = .ok (.iconst 0, 1) := by decide +kernel
theorem dX8_read_39 : decode cX8_read 39 = .ok (.istore_n 2, 1) := by decide +kernel
theorem dX8_read_40 : decode cX8_read 40 = .ok (.iload_n 2, 1) := by decide +kernel
theorem dX8_read_41 : decode cX8_read 41 = .ok (.ifCond .eq 7, 3) := by decide +kernel
theorem dX8_read_44 : decode cX8_read 44 = .ok (.aload_n 0, 1) := by decide +kernel
theorem dX8_read_45 : decode cX8_read 45 = .ok (.invokevirtual 38, 3) := by decide +kernel
theorem dX8_read_48 : decode cX8_read 48 = .ok (.iload_n 2, 1) := by decide +kernel
theorem dX8_read_49 : decode cX8_read 49 = .ok (.ifCond .eq 21, 3) := by decide +kernel
theorem dX8_read_52 : decode cX8_read 52 = .ok (.aload_n 0, 1) := by decide +kernel
theorem dX8_read_53 : decode cX8_read 53 = .ok (.getfield 19, 3) := by decide +kernel
theorem dX8_read_56 : decode cX8_read 56 = .ok (.aload_n 0, 1) := by decide +kernel
theorem dX8_read_57 : decode cX8_read 57 = .ok (.getfield 9, 3) := by decide +kernel
theorem dX8_read_60 : decode cX8_read 60 = .ok (.if_icmp .lt 10, 3) := by decide +kernel
theorem dX8_read_63 : decode cX8_read 63 = .ok (.aload_n 1, 1) := by decide +kernel
theorem dX8_read_64 : decode cX8_read 64 = .ok (.getfield 41, 3) := by decide +kernel
theorem dX8_read_67 : decode cX8_read 67 = .ok (.goto 10, 3) := by decide +kernel
theorem dX8_read_70 : decode cX8_read 70 = .ok (.bipush (-20), 2) := by decide +kernel
theorem dX8_read_72 : decode cX8_read 72 = .ok (.aload_n 0, 1) := by decide +kernel
theorem dX8_read_73 : decode cX8_read 73 = .ok (.getfield 19, 3) := by decide +kernel
theorem dX8_read_76 : decode cX8_read 76 = .ok (.isub, 1) := by decide +kernel
theorem dX8_read_77 : decode cX8_read 77 = .ok (.ireturn, 1) := by decide +kernel
theorem dX8_readThings_0 : decode cX8_readThings 0 = .ok (.aload_n 0, 1) := by decide +kernel
theorem dX8_readThings_1 : decode cX8_readThings 1 = .ok (.aload_n 1, 1) := by decide +kernel
theorem dX8_readThings_2 : decode cX8_readThings 2 = .ok (.invokevirtual 44, 3) := by decide +kernel
theorem dX8_readThings_5 : decode cX8_readThings 5 = .ok (.istore_n 2, 1) := by decide +kernel
theorem dX8_readThings_6 : decode cX8_readThings 6 = .ok (.iconst 1, 1) := by decide +kernel
theorem dX8_readThings_7 : decode cX8_readThings 7 = .ok (.istore_n 3, 1) := by decide +kernel
theorem dX8_readThings_8 : decode cX8_readThings 8 = .ok (.iload_n 3, 1) := by decide +kernel
theorem dX8_readThings_9 : decode cX8_readThings 9 = .ok (.bipush 10, 2) := by decide +kernel
theorem dX8_readThings_11 : decode cX8_readThings 11 = .ok (.if_icmp .ge 28, 3) := by decide +kernel
theorem dX8_readThings_14 : decode cX8_readThings 14 = .ok (.iload_n 2, 1) := by decide +kernel
theorem dX8_readThings_15 : decode cX8_readThings 15 = .ok (.ifCond .eq 24, 3) := by decide +kernel
theorem dX8_readThings_18 : decode cX8_readThings 18 = .ok (.aload_n 0, 1) := by decide +kernel
theorem dX8_readThings_19 : decode cX8_readThings 19 = .ok (.bipush 44, 2) := by decide +kernel
theorem dX8_readThings_21 : decode cX8_readThings 21 = .ok (.invokevirtual 31, 3) := by decide +kernel
theorem dX8_readThings_24 : decode cX8_readThings 24 = .ok (.ifCond .eq 15, 3) := by decide +kernel
theorem dX8_readThings_27 : decode cX8_readThings 27 = .ok (.aload_n 0, 1) := by decide +kernel
theorem dX8_readThings_28 : decode cX8_readThings 28 = .ok (.aload_n 1, 1) := by decide +kernel
theorem dX8_readThings_29 : decode cX8_readThings 29 = .ok (.invokevirtual 44, 3) := by decide +kernel
theorem dX8_readThings_32 : decode cX8_readThings 32 = .ok (.istore_n 2, 1) := by decide +kernel
theorem dX8_readThings_33 : decode cX8_readThings 33 = .ok (.iinc 3 1, 3) := by decide +kernel
theorem dX8_readThings_36 : decode cX8_readThings 36 = .ok (.goto (-28), 3) := by decide +kernel
theorem dX8_readThings_39 : decode cX8_readThings 39 = .ok (.iload_n 2, 1) := by decide +kernel
theorem dX8_readThings_40 : decode cX8_readThings 40 = .ok (.ireturn, 1) := by decide +kernel
theorem dX8_readStretches_0 : decode cX8_readStretches 0 = .ok (.aload_n 0, 1) := by decide +kernel
theorem dX8_readStretches_1 : decode cX8_readStretches 1 = .ok (.aload_n 1, 1) := by decide +kernel
theorem dX8_readStretches_2 : decode cX8_readStretches 2 = .ok (.invokevirtual 47, 3) := by decide +kernel
theorem dX8_readStretches_5 : decode cX8_readStretches 5 = .ok (.istore_n 2, 1) := by decide +kernel
theorem dX8_readStretches_6 : decode cX8_readStretches 6 = .ok (.iconst 1, 1) := by decide +kernel
theorem dX8_readStretches_7 : decode cX8_readStretches 7 = .ok (.istore_n 3, 1) := by decide +kernel
theorem dX8_readStretches_8 : decode cX8_readStretches 8 = .ok (.iload_n 3, 1) := by decide +kernel
theorem dX8_readStretches_9 : decode cX8_readStretches 9 = .ok (.iconst 5, 1) := by decide +kernel
theorem dX8_readStretches_10 : decode cX8_readStretches 10 = .ok (.if_icmp .ge 28, 3) := by decide +kernel
theorem dX8_readStretches_13 : decode cX8_readStretches 13 = .ok (.iload_n 2, 1) := by decide +kernel
theorem dX8_readStretches_14 : decode cX8_readStretches 14 = .ok (.ifCond .eq 24, 3) := by decide +kernel
theorem dX8_readStretches_17 : decode cX8_readStretches 17 = .ok (.aload_n 0, 1) := by decide +kernel
theorem dX8_readStretches_18 : decode cX8_readStretches 18 = .ok (.bipush 44, 2) := by decide +kernel
theorem dX8_readStretches_20 : decode cX8_readStretches 20 = .ok (.invokevirtual 31, 3) := by decide +kernel
theorem dX8_readStretches_23 : decode cX8_readStretches 23 = .ok (.ifCond .eq 15, 3) := by decide +kernel
theorem dX8_readStretches_26 : decode cX8_readStretches 26 = .ok (.aload_n 0, 1) := by decide +kernel
theorem dX8_readStretches_27 : decode cX8_readStretches 27 = .ok (.aload_n 1, 1) := by decide +kernel
theorem dX8_readStretches_28 : decode cX8_readStretches 28 = .ok (.invokevirtual 47, 3) := by decide +kernel
theorem dX8_readStretches_31 : decode cX8_readStretches 31 = .ok (.istore_n 2, 1) := by decide +kernel
theorem dX8_readStretches_32 : decode cX8_readStretches 32 = .ok (.iinc 3 1, 3) := by decide +kernel
theorem dX8_readStretches_35 : decode cX8_readStretches 35 = .ok (.goto (-27), 3) := by decide +kernel
theorem dX8_readStretches_38 : decode cX8_readStretches 38 = .ok (.iload_n 2, 1) := by decide +kernel
theorem dX8_readStretches_39 : decode cX8_readStretches 39 = .ok (.ireturn, 1) := by decide +kernel
theorem dX8_readThing_0 : decode cX8_readThing 0 = .ok (.aload_n 0, 1) := by decide +kernel
theorem dX8_readThing_1 : decode cX8_readThing 1 = .ok (.invokevirtual 38, 3) := by decide +kernel
theorem dX8_readThing_4 : decode cX8_readThing 4 = .ok (.aload_n 0, 1) := by decide +kernel
theorem dX8_readThing_5 : decode cX8_readThing 5 = .ok (.getfield 19, 3) := by decide +kernel
theorem dX8_readThing_8 : decode cX8_readThing 8 = .ok (.aload_n 0, 1) := by decide +kernel
theorem dX8_readThing_9 : decode cX8_readThing 9 = .ok (.getfield 9, 3) := by decide +kernel
theorem dX8_readThing_12 : decode cX8_readThing 12 = .ok (.if_icmp .ge 20, 3) := by decide +kernel
theorem dX8_readThing_15 : decode cX8_readThing 15 = .ok (.ldc 50, 2) := by decide +kernel
theorem dX8_readThing_17 : decode cX8_readThing 17 = .ok (.aload_n 0, 1) := by decide +kernel
theorem dX8_readThing_18 : decode cX8_readThing 18 = .ok (.getfield 15, 3) := by decide +kernel
theorem dX8_readThing_21 : decode cX8_readThing 21 = .ok (.aload_n 0, 1) := by decide +kernel
theorem dX8_readThing_22 : decode cX8_readThing 22 = .ok (.getfield 19, 3) := by decide +kernel
theorem dX8_readThing_25 : decode cX8_readThing 25 = .ok (.caload, 1) := by decide +kernel
theorem dX8_readThing_26 : decode cX8_readThing 26 = .ok (.invokevirtual 52, 3) := by decide +kernel
theorem dX8_readThing_29 : decode cX8_readThing 29 = .ok (.goto 4, 3) := by decide +kernel
theorem dX8_readThing_32 : decode cX8_readThing 32 = .ok (.iconst (-1), 1) := by decide +kernel
theorem dX8_readThing_33 : decode cX8_readThing 33 = .ok (.istore_n 2, 1) := by decide +kernel
theorem dX8_readThing_34 : decode cX8_readThing 34 = .ok (.iload_n 2, 1) := by decide +kernel
theorem dX8_readThing_35 : decode cX8_readThing 35 = .ok (.ifCond .ge 5, 3) := by decide +kernel
theorem dX8_readThing_38 : decode cX8_readThing 38 = .ok (.iconst 0, 1) := by decide +kernel
theorem dX8_readThing_39 : decode cX8_readThing 39 = .ok (.ireturn, 1) := by decide +kernel
theorem dX8_readThing_40 : decode cX8_readThing 40 = .ok (.aload_n 0, 1) := by decide +kernel
theorem dX8_readThing_41 : decode cX8_readThing 41 = .ok (.dup, 1) := by decide +kernel
theorem dX8_readThing_42 : decode cX8_readThing 42 = .ok (.getfield 19, 3) := by decide +kernel
theorem dX8_readThing_45 : decode cX8_readThing 45 = .ok (.iconst 1, 1) := by decide +kernel
theorem dX8_readThing_46 : decode cX8_readThing 46 = .ok (.iadd, 1) := by decide +kernel
theorem dX8_readThing_47 : decode cX8_readThing 47 = .ok (.putfield 19, 3) := by decide +kernel
theorem dX8_readThing_50 : decode cX8_readThing 50 = .ok (.aload_n 0, 1) := by decide +kernel
theorem dX8_readThing_51 : decode cX8_readThing 51 = .ok (.invokevirtual 58, 3) := by decide +kernel
theorem dX8_readThing_54 : decode cX8_readThing 54 = .ok (.istore_n 3, 1) := by decide +kernel
theorem dX8_readThing_55 : decode cX8_readThing 55 = .ok (.iload_n 3, 1) := by decide +kernel
theorem dX8_readThing_56 : decode cX8_readThing 56 = .ok (.ifCond .ne 5, 3) := by decide +kernel
theorem dX8_readThing_59 : decode cX8_readThing 59 = .ok (.iconst 0, 1) := by decide +kernel
theorem dX8_readThing_60 : decode cX8_readThing 60 = .ok (.ireturn, 1) := by decide +kernel
theorem dX8_readThing_61 : decode cX8_readThing 61 = .ok (.aload_n 0, 1) := by decide +kernel
theorem dX8_readThing_62 : decode cX8_readThing 62 = .ok (.bipush 64, 2) := by decide +kernel
theorem dX8_readThing_64 : decode cX8_readThing 64 = .ok (.invokevirtual 31, 3) := by decide +kernel
theorem dX8_readThing_67 : decode cX8_readThing 67 = .ok (.ifCond .eq 10, 3) := by decide +kernel
theorem dX8_readThing_70 : decode cX8_readThing 70 = .ok (.aload_n 0, 1) := by decide +kernel
theorem dX8_readThing_71 : decode cX8_readThing 71 = .ok (.invokevirtual 62, 3) := by decide +kernel
theorem dX8_readThing_74 : decode cX8_readThing 74 = .ok (.goto 4, 3) := by decide +kernel
theorem dX8_readThing_77 : decode cX8_readThing 77 = .ok (.iconst 5, 1) := by decide +kernel
theorem dX8_readThing_78 : decode cX8_readThing 78 = .ok (.istore 4, 2) := by decide +kernel
theorem dX8_readThing_80 : decode cX8_readThing 80 = .ok (.iload 4, 2) := by decide +kernel
theorem dX8_readThing_82 : decode cX8_readThing 82 = .ok (.ifCond .ge 5, 3) := by decide +kernel
theorem dX8_readThing_85 : decode cX8_readThing 85 = .ok (.iconst 0, 1) := by decide +kernel
theorem dX8_readThing_86 : decode cX8_readThing 86 = .ok (.ireturn, 1) := by decide +kernel
theorem dX8_readThing_87 : decode cX8_readThing 87 = .ok (.aload_n 1, 1) := by decide +kernel
theorem dX8_readThing_88 : decode cX8_readThing 88 = .ok (.iload_n 2, 1) := by decide +kernel
theorem dX8_readThing_89 : decode cX8_readThing 89 = .ok (.iload_n 3, 1) := by decide +kernel
theorem dX8_readThing_90 : decode cX8_readThing 90 = .ok (.iload 4, 2) := by decide +kernel
theorem dX8_readThing_92 : decode cX8_readThing 92 = .ok (.invokevirtual 65, 3) := by decide +kernel
theorem dX8_readThing_95 : decode cX8_readThing 95 = .ok (.pop, 1) := by decide +kernel
theorem dX8_readThing_96 : decode cX8_readThing 96 = .ok (.iconst 1, 1) := by decide +kernel
theorem dX8_readThing_97 : decode cX8_readThing 97 = .ok (.ireturn, 1) := by decide +kernel
theorem dX8_readStretch_0 : decode cX8_readStretch 0 = .ok (.aload_n 0, 1) := by decide +kernel
theorem dX8_readStretch_1 : decode cX8_readStretch 1 = .ok (.invokevirtual 58, 3) := by decide +kernel
theorem dX8_readStretch_4 : decode cX8_readStretch 4 = .ok (.istore_n 2, 1) := by decide +kernel
theorem dX8_readStretch_5 : decode cX8_readStretch 5 = .ok (.iload_n 2, 1) := by decide +kernel
theorem dX8_readStretch_6 : decode cX8_readStretch 6 = .ok (.ifCond .ne 5, 3) := by decide +kernel
theorem dX8_readStretch_9 : decode cX8_readStretch 9 = .ok (.iconst 0, 1) := by decide +kernel
theorem dX8_readStretch_10 : decode cX8_readStretch 10 = .ok (.ireturn, 1) := by decide +kernel
theorem dX8_readStretch_11 : decode cX8_readStretch 11 = .ok (.aload_n 1, 1) := by decide +kernel
theorem dX8_readStretch_12 : decode cX8_readStretch 12 = .ok (.iload_n 2, 1) := by decide +kernel
theorem dX8_readStretch_13 : decode cX8_readStretch 13 = .ok (.aload_n 0, 1) := by decide +kernel
theorem dX8_readStretch_14 : decode cX8_readStretch 14 = .ok (.bipush 117, 2) := by decide +kernel
theorem dX8_readStretch_16 : decode cX8_readStretch 16 = .ok (.invokevirtual 31, 3) := by decide +kernel
theorem dX8_readStretch_19 : decode cX8_readStretch 19 = .ok (.ifCond .eq 7, 3) := by decide +kernel
theorem dX8_readStretch_22 : decode cX8_readStretch 22 = .ok (.iconst 1, 1) := by decide +kernel
theorem dX8_readStretch_23 : decode cX8_readStretch 23 = .ok (.goto 4, 3) := by decide +kernel
theorem dX8_readStretch_26 : decode cX8_readStretch 26 = .ok (.iconst 0, 1) := by decide +kernel
theorem dX8_readStretch_27 : decode cX8_readStretch 27 = .ok (.invokevirtual 69, 3) := by decide +kernel
theorem dX8_readStretch_30 : decode cX8_readStretch 30 = .ok (.pop, 1) := by decide +kernel
theorem dX8_readStretch_31 : decode cX8_readStretch 31 = .ok (.iconst 1, 1) := by decide +kernel
theorem dX8_readStretch_32 : decode cX8_readStretch 32 = .ok (.ireturn, 1) := by decide +kernel
theorem dX8_readStop_0 : decode cX8_readStop 0 = .ok (.aload_n 0, 1) := by decide +kernel
theorem dX8_readStop_1 : decode cX8_readStop 1 = .ok (.invokevirtual 38, 3) := by decide +kernel
theorem dX8_readStop_4 : decode cX8_readStop 4 = .ok (.aload_n 0, 1) := by decide +kernel
theorem dX8_readStop_5 : decode cX8_readStop 5 = .ok (.getfield 19, 3) := by decide +kernel
theorem dX8_readStop_8 : decode cX8_readStop 8 = .ok (.aload_n 0, 1) := by decide +kernel
theorem dX8_readStop_9 : decode cX8_readStop 9 = .ok (.getfield 9, 3) := by decide +kernel
theorem dX8_readStop_12 : decode cX8_readStop 12 = .ok (.if_icmp .ge 31, 3) := by decide +kernel
theorem dX8_readStop_15 : decode cX8_readStop 15 = .ok (.aload_n 0, 1) := by decide +kernel
theorem dX8_readStop_16 : decode cX8_readStop 16 = .ok (.getfield 15, 3) := by decide +kernel
theorem dX8_readStop_19 : decode cX8_readStop 19 = .ok (.aload_n 0, 1) := by decide +kernel
theorem dX8_readStop_20 : decode cX8_readStop 20 = .ok (.getfield 19, 3) := by decide +kernel
theorem dX8_readStop_23 : decode cX8_readStop 23 = .ok (.caload, 1) := by decide +kernel
theorem dX8_readStop_24 : decode cX8_readStop 24 = .ok (.bipush 48, 2) := by decide +kernel
theorem dX8_readStop_26 : decode cX8_readStop 26 = .ok (.if_icmp .lt 17, 3) := by decide +kernel
theorem dX8_readStop_29 : decode cX8_readStop 29 = .ok (.aload_n 0, 1) := by decide +kernel
theorem dX8_readStop_30 : decode cX8_readStop 30 = .ok (.getfield 15, 3) := by decide +kernel
theorem dX8_readStop_33 : decode cX8_readStop 33 = .ok (.aload_n 0, 1) := by decide +kernel
theorem dX8_readStop_34 : decode cX8_readStop 34 = .ok (.getfield 19, 3) := by decide +kernel
theorem dX8_readStop_37 : decode cX8_readStop 37 = .ok (.caload, 1) := by decide +kernel
theorem dX8_readStop_38 : decode cX8_readStop 38 = .ok (.bipush 53, 2) := by decide +kernel
theorem dX8_readStop_40 : decode cX8_readStop 40 = .ok (.if_icmp .le 5, 3) := by decide +kernel
theorem dX8_readStop_43 : decode cX8_readStop 43 = .ok (.iconst (-1), 1) := by decide +kernel
theorem dX8_readStop_44 : decode cX8_readStop 44 = .ok (.ireturn, 1) := by decide +kernel
theorem dX8_readStop_45 : decode cX8_readStop 45 = .ok (.aload_n 0, 1) := by decide +kernel
theorem dX8_readStop_46 : decode cX8_readStop 46 = .ok (.getfield 15, 3) := by decide +kernel
theorem dX8_readStop_49 : decode cX8_readStop 49 = .ok (.aload_n 0, 1) := by decide +kernel
theorem dX8_readStop_50 : decode cX8_readStop 50 = .ok (.getfield 19, 3) := by decide +kernel
theorem dX8_readStop_53 : decode cX8_readStop 53 = .ok (.caload, 1) := by decide +kernel
theorem dX8_readStop_54 : decode cX8_readStop 54 = .ok (.bipush 48, 2) := by decide +kernel
theorem dX8_readStop_56 : decode cX8_readStop 56 = .ok (.isub, 1) := by decide +kernel
theorem dX8_readStop_57 : decode cX8_readStop 57 = .ok (.istore_n 1, 1) := by decide +kernel
theorem dX8_readStop_58 : decode cX8_readStop 58 = .ok (.aload_n 0, 1) := by decide +kernel
theorem dX8_readStop_59 : decode cX8_readStop 59 = .ok (.dup, 1) := by decide +kernel
theorem dX8_readStop_60 : decode cX8_readStop 60 = .ok (.getfield 19, 3) := by decide +kernel
theorem dX8_readStop_63 : decode cX8_readStop 63 = .ok (.iconst 1, 1) := by decide +kernel
theorem dX8_readStop_64 : decode cX8_readStop 64 = .ok (.iadd, 1) := by decide +kernel
theorem dX8_readStop_65 : decode cX8_readStop 65 = .ok (.putfield 19, 3) := by decide +kernel
theorem dX8_readStop_68 : decode cX8_readStop 68 = .ok (.iload_n 1, 1) := by decide +kernel
theorem dX8_readStop_69 : decode cX8_readStop 69 = .ok (.ireturn, 1) := by decide +kernel
theorem dX8_readNumber_0 : decode cX8_readNumber 0 = .ok (.aload_n 0, 1) := by decide +kernel
theorem dX8_readNumber_1 : decode cX8_readNumber 1 = .ok (.invokevirtual 38, 3) := by decide +kernel
theorem dX8_readNumber_4 : decode cX8_readNumber 4 = .ok (.aload_n 0, 1) := by decide +kernel
theorem dX8_readNumber_5 : decode cX8_readNumber 5 = .ok (.getfield 19, 3) := by decide +kernel
theorem dX8_readNumber_8 : decode cX8_readNumber 8 = .ok (.istore_n 1, 1) := by decide +kernel
theorem dX8_readNumber_9 : decode cX8_readNumber 9 = .ok (.iconst 0, 1) := by decide +kernel
theorem dX8_readNumber_10 : decode cX8_readNumber 10 = .ok (.istore_n 2, 1) := by decide +kernel
theorem dX8_readNumber_11 : decode cX8_readNumber 11 = .ok (.aload_n 0, 1) := by decide +kernel
theorem dX8_readNumber_12 : decode cX8_readNumber 12 = .ok (.getfield 19, 3) := by decide +kernel
theorem dX8_readNumber_15 : decode cX8_readNumber 15 = .ok (.aload_n 0, 1) := by decide +kernel
theorem dX8_readNumber_16 : decode cX8_readNumber 16 = .ok (.getfield 9, 3) := by decide +kernel
theorem dX8_readNumber_19 : decode cX8_readNumber 19 = .ok (.if_icmp .ge 67, 3) := by decide +kernel
theorem dX8_readNumber_22 : decode cX8_readNumber 22 = .ok (.aload_n 0, 1) := by decide +kernel
theorem dX8_readNumber_23 : decode cX8_readNumber 23 = .ok (.getfield 15, 3) := by decide +kernel
theorem dX8_readNumber_26 : decode cX8_readNumber 26 = .ok (.aload_n 0, 1) := by decide +kernel
theorem dX8_readNumber_27 : decode cX8_readNumber 27 = .ok (.getfield 19, 3) := by decide +kernel
theorem dX8_readNumber_30 : decode cX8_readNumber 30 = .ok (.caload, 1) := by decide +kernel
theorem dX8_readNumber_31 : decode cX8_readNumber 31 = .ok (.bipush 48, 2) := by decide +kernel
theorem dX8_readNumber_33 : decode cX8_readNumber 33 = .ok (.if_icmp .lt 53, 3) := by decide +kernel
theorem dX8_readNumber_36 : decode cX8_readNumber 36 = .ok (.aload_n 0, 1) := by decide +kernel
theorem dX8_readNumber_37 : decode cX8_readNumber 37 = .ok (.getfield 15, 3) := by decide +kernel
theorem dX8_readNumber_40 : decode cX8_readNumber 40 = .ok (.aload_n 0, 1) := by decide +kernel
theorem dX8_readNumber_41 : decode cX8_readNumber 41 = .ok (.getfield 19, 3) := by decide +kernel
theorem dX8_readNumber_44 : decode cX8_readNumber 44 = .ok (.caload, 1) := by decide +kernel
theorem dX8_readNumber_45 : decode cX8_readNumber 45 = .ok (.bipush 57, 2) := by decide +kernel
theorem dX8_readNumber_47 : decode cX8_readNumber 47 = .ok (.if_icmp .gt 39, 3) := by decide +kernel
theorem dX8_readNumber_50 : decode cX8_readNumber 50 = .ok (.bipush 100, 2) := by decide +kernel
theorem dX8_readNumber_52 : decode cX8_readNumber 52 = .ok (.iload_n 2, 1) := by decide +kernel
theorem dX8_readNumber_53 : decode cX8_readNumber 53 = .ok (.bipush 10, 2) := by decide +kernel
theorem dX8_readNumber_55 : decode cX8_readNumber 55 = .ok (.imul, 1) := by decide +kernel
theorem dX8_readNumber_56 : decode cX8_readNumber 56 = .ok (.aload_n 0, 1) := by decide +kernel
theorem dX8_readNumber_57 : decode cX8_readNumber 57 = .ok (.getfield 15, 3) := by decide +kernel
theorem dX8_readNumber_60 : decode cX8_readNumber 60 = .ok (.aload_n 0, 1) := by decide +kernel
theorem dX8_readNumber_61 : decode cX8_readNumber 61 = .ok (.getfield 19, 3) := by decide +kernel
theorem dX8_readNumber_64 : decode cX8_readNumber 64 = .ok (.caload, 1) := by decide +kernel
theorem dX8_readNumber_65 : decode cX8_readNumber 65 = .ok (.iadd, 1) := by decide +kernel
theorem dX8_readNumber_66 : decode cX8_readNumber 66 = .ok (.bipush 48, 2) := by decide +kernel
theorem dX8_readNumber_68 : decode cX8_readNumber 68 = .ok (.isub, 1) := by decide +kernel
theorem dX8_readNumber_69 : decode cX8_readNumber 69 = .ok (.invokestatic 73, 3) := by decide +kernel
theorem dX8_readNumber_72 : decode cX8_readNumber 72 = .ok (.istore_n 2, 1) := by decide +kernel
theorem dX8_readNumber_73 : decode cX8_readNumber 73 = .ok (.aload_n 0, 1) := by decide +kernel
theorem dX8_readNumber_74 : decode cX8_readNumber 74 = .ok (.dup, 1) := by decide +kernel
theorem dX8_readNumber_75 : decode cX8_readNumber 75 = .ok (.getfield 19, 3) := by decide +kernel
theorem dX8_readNumber_78 : decode cX8_readNumber 78 = .ok (.iconst 1, 1) := by decide +kernel
theorem dX8_readNumber_79 : decode cX8_readNumber 79 = .ok (.iadd, 1) := by decide +kernel
theorem dX8_readNumber_80 : decode cX8_readNumber 80 = .ok (.putfield 19, 3) := by decide +kernel
theorem dX8_readNumber_83 : decode cX8_readNumber 83 = .ok (.goto (-72), 3) := by decide +kernel
theorem dX8_readNumber_86 : decode cX8_readNumber 86 = .ok (.iload_n 2, 1) := by decide +kernel
theorem dX8_readNumber_87 : decode cX8_readNumber 87 = .ok (.iconst 1, 1) := by decide +kernel
theorem dX8_readNumber_88 : decode cX8_readNumber 88 = .ok (.if_icmp .lt 13, 3) := by decide +kernel
theorem dX8_readNumber_91 : decode cX8_readNumber 91 = .ok (.aload_n 0, 1) := by decide +kernel
theorem dX8_readNumber_92 : decode cX8_readNumber 92 = .ok (.getfield 19, 3) := by decide +kernel
theorem dX8_readNumber_95 : decode cX8_readNumber 95 = .ok (.iload_n 1, 1) := by decide +kernel
theorem dX8_readNumber_96 : decode cX8_readNumber 96 = .ok (.isub, 1) := by decide +kernel
theorem dX8_readNumber_97 : decode cX8_readNumber 97 = .ok (.iconst 2, 1) := by decide +kernel
theorem dX8_readNumber_98 : decode cX8_readNumber 98 = .ok (.if_icmp .le 10, 3) := by decide +kernel
theorem dX8_readNumber_101 : decode cX8_readNumber 101 = .ok (.aload_n 0, 1) := by decide +kernel
theorem dX8_readNumber_102 : decode cX8_readNumber 102 = .ok (.iload_n 1, 1) := by decide +kernel
theorem dX8_readNumber_103 : decode cX8_readNumber 103 = .ok (.putfield 19, 3) := by decide +kernel
theorem dX8_readNumber_106 : decode cX8_readNumber 106 = .ok (.iconst 0, 1) := by decide +kernel
theorem dX8_readNumber_107 : decode cX8_readNumber 107 = .ok (.ireturn, 1) := by decide +kernel
theorem dX8_readNumber_108 : decode cX8_readNumber 108 = .ok (.iload_n 2, 1) := by decide +kernel
theorem dX8_readNumber_109 : decode cX8_readNumber 109 = .ok (.ireturn, 1) := by decide +kernel
theorem dX8_passes_0 : decode cX8_passes 0 = .ok (.aload_n 0, 1) := by decide +kernel
theorem dX8_passes_1 : decode cX8_passes 1 = .ok (.invokevirtual 38, 3) := by decide +kernel
theorem dX8_passes_4 : decode cX8_passes 4 = .ok (.aload_n 0, 1) := by decide +kernel
theorem dX8_passes_5 : decode cX8_passes 5 = .ok (.getfield 19, 3) := by decide +kernel
theorem dX8_passes_8 : decode cX8_passes 8 = .ok (.aload_n 0, 1) := by decide +kernel
theorem dX8_passes_9 : decode cX8_passes 9 = .ok (.getfield 9, 3) := by decide +kernel
theorem dX8_passes_12 : decode cX8_passes 12 = .ok (.if_icmp .ge 16, 3) := by decide +kernel
theorem dX8_passes_15 : decode cX8_passes 15 = .ok (.aload_n 0, 1) := by decide +kernel
theorem dX8_passes_16 : decode cX8_passes 16 = .ok (.getfield 15, 3) := by decide +kernel
theorem dX8_passes_19 : decode cX8_passes 19 = .ok (.aload_n 0, 1) := by decide +kernel
theorem dX8_passes_20 : decode cX8_passes 20 = .ok (.getfield 19, 3) := by decide +kernel
theorem dX8_passes_23 : decode cX8_passes 23 = .ok (.caload, 1) := by decide +kernel
theorem dX8_passes_24 : decode cX8_passes 24 = .ok (.iload_n 1, 1) := by decide +kernel
theorem dX8_passes_25 : decode cX8_passes 25 = .ok (.if_icmp .eq 5, 3) := by decide +kernel
theorem dX8_passes_28 : decode cX8_passes 28 = .ok (.iconst 0, 1) := by decide +kernel
theorem dX8_passes_29 : decode cX8_passes 29 = .ok (.ireturn, 1) := by decide +kernel
theorem dX8_passes_30 : decode cX8_passes 30 = .ok (.aload_n 0, 1) := by decide +kernel
theorem dX8_passes_31 : decode cX8_passes 31 = .ok (.dup, 1) := by decide +kernel
theorem dX8_passes_32 : decode cX8_passes 32 = .ok (.getfield 19, 3) := by decide +kernel
theorem dX8_passes_35 : decode cX8_passes 35 = .ok (.iconst 1, 1) := by decide +kernel
theorem dX8_passes_36 : decode cX8_passes 36 = .ok (.iadd, 1) := by decide +kernel
theorem dX8_passes_37 : decode cX8_passes 37 = .ok (.putfield 19, 3) := by decide +kernel
theorem dX8_passes_40 : decode cX8_passes 40 = .ok (.iconst 1, 1) := by decide +kernel
theorem dX8_passes_41 : decode cX8_passes 41 = .ok (.ireturn, 1) := by decide +kernel
theorem dX8_skipBlanks_0 : decode cX8_skipBlanks 0 = .ok (.aload_n 0, 1) := by decide +kernel
theorem dX8_skipBlanks_1 : decode cX8_skipBlanks 1 = .ok (.getfield 19, 3) := by decide +kernel
theorem dX8_skipBlanks_4 : decode cX8_skipBlanks 4 = .ok (.aload_n 0, 1) := by decide +kernel
theorem dX8_skipBlanks_5 : decode cX8_skipBlanks 5 = .ok (.getfield 9, 3) := by decide +kernel
theorem dX8_skipBlanks_8 : decode cX8_skipBlanks 8 = .ok (.if_icmp .ge 30, 3) := by decide +kernel
theorem dX8_skipBlanks_11 : decode cX8_skipBlanks 11 = .ok (.aload_n 0, 1) := by decide +kernel
theorem dX8_skipBlanks_12 : decode cX8_skipBlanks 12 = .ok (.getfield 15, 3) := by decide +kernel
theorem dX8_skipBlanks_15 : decode cX8_skipBlanks 15 = .ok (.aload_n 0, 1) := by decide +kernel
theorem dX8_skipBlanks_16 : decode cX8_skipBlanks 16 = .ok (.getfield 19, 3) := by decide +kernel
theorem dX8_skipBlanks_19 : decode cX8_skipBlanks 19 = .ok (.caload, 1) := by decide +kernel
theorem dX8_skipBlanks_20 : decode cX8_skipBlanks 20 = .ok (.bipush 32, 2) := by decide +kernel
theorem dX8_skipBlanks_22 : decode cX8_skipBlanks 22 = .ok (.if_icmp .ne 16, 3) := by decide +kernel
theorem dX8_skipBlanks_25 : decode cX8_skipBlanks 25 = .ok (.aload_n 0, 1) := by decide +kernel
theorem dX8_skipBlanks_26 : decode cX8_skipBlanks 26 = .ok (.dup, 1) := by decide +kernel
theorem dX8_skipBlanks_27 : decode cX8_skipBlanks 27 = .ok (.getfield 19, 3) := by decide +kernel
theorem dX8_skipBlanks_30 : decode cX8_skipBlanks 30 = .ok (.iconst 1, 1) := by decide +kernel
theorem dX8_skipBlanks_31 : decode cX8_skipBlanks 31 = .ok (.iadd, 1) := by decide +kernel
theorem dX8_skipBlanks_32 : decode cX8_skipBlanks 32 = .ok (.putfield 19, 3) := by decide +kernel
theorem dX8_skipBlanks_35 : decode cX8_skipBlanks 35 = .ok (.goto (-35), 3) := by decide +kernel
theorem dX8_skipBlanks_38 : decode cX8_skipBlanks 38 = .ok (.return_, 1) := by decide +kernel
end
section
theorem dX9_init_0 : decode cX9_init 0 = .ok (.aload_n 0, 1) := by decide +kernel
theorem dX9_init_1 : decode cX9_init 1 = .ok (.invokespecial 1, 3) := by decide +kernel
theorem dX9_init_4 : decode cX9_init 4 = .ok (.aload_n 0, 1) := by decide +kernel
theorem dX9_init_5 : decode cX9_init 5 = .ok (.new 7, 3) := by decide +kernel
theorem dX9_init_8 : decode cX9_init 8 = .ok (.dup, 1) := by decide +kernel
theorem dX9_init_9 : decode cX9_init 9 = .ok (.invokespecial 9, 3) := by decide +kernel
theorem dX9_init_12 : decode cX9_init 12 = .ok (.putfield 10, 3) := by decide +kernel
theorem dX9_init_15 : decode cX9_init 15 = .ok (.aload_n 0, 1) := by decide +kernel
theorem dX9_init_16 : decode cX9_init 16 = .ok (.new 7, 3) := by decide +kernel
theorem dX9_init_19 : decode cX9_init 19 = .ok (.dup, 1) := by decide +kernel
theorem dX9_init_20 : decode cX9_init 20 = .ok (.invokespecial 9, 3) := by decide +kernel
theorem dX9_init_23 : decode cX9_init 23 = .ok (.putfield 16, 3) := by decide +kernel
theorem dX9_init_26 : decode cX9_init 26 = .ok (.aload_n 0, 1) := by decide +kernel
theorem dX9_init_27 : decode cX9_init 27 = .ok (.new 7, 3) := by decide +kernel
theorem dX9_init_30 : decode cX9_init 30 = .ok (.dup, 1) := by decide +kernel
theorem dX9_init_31 : decode cX9_init 31 = .ok (.invokespecial 9, 3) := by decide +kernel
theorem dX9_init_34 : decode cX9_init 34 = .ok (.putfield 19, 3) := by decide +kernel
theorem dX9_init_37 : decode cX9_init 37 = .ok (.aload_n 0, 1) := by decide +kernel
theorem dX9_init_38 : decode cX9_init 38 = .ok (.new 22, 3) := by decide +kernel
theorem dX9_init_41 : decode cX9_init 41 = .ok (.dup, 1) := by decide +kernel
theorem dX9_init_42 : decode cX9_init 42 = .ok (.invokespecial 24, 3) := by decide +kernel
theorem dX9_init_45 : decode cX9_init 45 = .ok (.putfield 25, 3) := by decide +kernel
theorem dX9_init_48 : decode cX9_init 48 = .ok (.aload_n 0, 1) := by decide +kernel
theorem dX9_init_49 : decode cX9_init 49 = .ok (.new 29, 3) := by decide +kernel
theorem dX9_init_52 : decode cX9_init 52 = .ok (.dup, 1) := by decide +kernel
theorem dX9_init_53 : decode cX9_init 53 = .ok (.aload_n 0, 1) := by decide +kernel
theorem dX9_init_54 : decode cX9_init 54 = .ok (.getfield 10, 3) := by decide +kernel
theorem dX9_init_57 : decode cX9_init 57 = .ok (.invokespecial 31, 3) := by decide +kernel
theorem dX9_init_60 : decode cX9_init 60 = .ok (.putfield 34, 3) := by decide +kernel
theorem dX9_init_63 : decode cX9_init 63 = .ok (.aload_n 0, 1) := by decide +kernel
theorem dX9_init_64 : decode cX9_init 64 = .ok (.new 38, 3) := by decide +kernel
theorem dX9_init_67 : decode cX9_init 67 = .ok (.dup, 1) := by decide +kernel
theorem dX9_init_68 : decode cX9_init 68 = .ok (.aload_n 0, 1) := by decide +kernel
theorem dX9_init_69 : decode cX9_init 69 = .ok (.getfield 10, 3) := by decide +kernel
theorem dX9_init_72 : decode cX9_init 72 = .ok (.invokespecial 40, 3) := by decide +kernel
theorem dX9_init_75 : decode cX9_init 75 = .ok (.putfield 41, 3) := by decide +kernel
theorem dX9_init_78 : decode cX9_init 78 = .ok (.aload_n 0, 1) := by decide +kernel
theorem dX9_init_79 : decode cX9_init 79 = .ok (.new 45, 3) := by decide +kernel
theorem dX9_init_82 : decode cX9_init 82 = .ok (.dup, 1) := by decide +kernel
theorem dX9_init_83 : decode cX9_init 83 = .ok (.aload_n 0, 1) := by decide +kernel
theorem dX9_init_84 : decode cX9_init 84 = .ok (.getfield 10, 3) := by decide +kernel
theorem dX9_init_87 : decode cX9_init 87 = .ok (.invokespecial 47, 3) := by decide +kernel
theorem dX9_init_90 : decode cX9_init 90 = .ok (.putfield 48, 3) := by decide +kernel
theorem dX9_init_93 : decode cX9_init 93 = .ok (.aload_n 0, 1) := by decide +kernel
theorem dX9_init_94 : decode cX9_init 94 = .ok (.new 52, 3) := by decide +kernel
theorem dX9_init_97 : decode cX9_init 97 = .ok (.dup, 1) := by decide +kernel
theorem dX9_init_98 : decode cX9_init 98 = .ok (.aload_n 0, 1) := by decide +kernel
theorem dX9_init_99 : decode cX9_init 99 = .ok (.getfield 10, 3) := by decide +kernel
theorem dX9_init_102 : decode cX9_init 102 = .ok (.invokespecial 54, 3) := by decide +kernel
theorem dX9_init_105 : decode cX9_init 105 = .ok (.putfield 55, 3) := by decide +kernel
theorem dX9_init_108 : decode cX9_init 108 = .ok (.aload_n 0, 1) := by decide +kernel
theorem dX9_init_109 : decode cX9_init 109 = .ok (.new 59, 3) := by decide +kernel
theorem dX9_init_112 : decode cX9_init 112 = .ok (.dup, 1) := by decide +kernel
theorem dX9_init_113 : decode cX9_init 113 = .ok (.aload_n 0, 1) := by decide +kernel
theorem dX9_init_114 : decode cX9_init 114 = .ok (.getfield 10, 3) := by decide +kernel
theorem dX9_init_117 : decode cX9_init 117 = .ok (.invokespecial 61, 3) := by decide +kernel
theorem dX9_init_120 : decode cX9_init 120 = .ok (.putfield 62, 3) := by decide +kernel
theorem dX9_init_123 : decode cX9_init 123 = .ok (.aload_n 0, 1) := by decide +kernel
theorem dX9_init_124 : decode cX9_init 124 = .ok (.iconst 4, 1) := by decide +kernel
theorem dX9_init_125 : decode cX9_init 125 = .ok (.anewarray 66, 3) := by decide +kernel
theorem dX9_init_128 : decode cX9_init 128 = .ok (.dup, 1) := by decide +kernel
theorem dX9_init_129 : decode cX9_init 129 = .ok (.iconst 0, 1) := by decide +kernel
theorem dX9_init_130 : decode cX9_init 130 = .ok (.new 66, 3) := by decide +kernel
theorem dX9_init_133 : decode cX9_init 133 = .ok (.dup, 1) := by decide +kernel
theorem dX9_init_134 : decode cX9_init 134 = .ok (.invokespecial 68, 3) := by decide +kernel
theorem dX9_init_137 : decode cX9_init 137 = .ok (.aastore, 1) := by decide +kernel
theorem dX9_init_138 : decode cX9_init 138 = .ok (.dup, 1) := by decide +kernel
theorem dX9_init_139 : decode cX9_init 139 = .ok (.iconst 1, 1) := by decide +kernel
theorem dX9_init_140 : decode cX9_init 140 = .ok (.new 66, 3) := by decide +kernel
theorem dX9_init_143 : decode cX9_init 143 = .ok (.dup, 1) := by decide +kernel
theorem dX9_init_144 : decode cX9_init 144 = .ok (.invokespecial 68, 3) := by decide +kernel
theorem dX9_init_147 : decode cX9_init 147 = .ok (.aastore, 1) := by decide +kernel
theorem dX9_init_148 : decode cX9_init 148 = .ok (.dup, 1) := by decide +kernel
theorem dX9_init_149 : decode cX9_init 149 = .ok (.iconst 2, 1) := by decide +kernel
theorem dX9_init_150 : decode cX9_init 150 = .ok (.new 66, 3) := by decide +kernel
theorem dX9_init_153 : decode cX9_init 153 = .ok (.dup, 1) := by decide +kernel
theorem dX9_init_154 : decode cX9_init 154 = .ok (.invokespecial 68, 3) := by decide +kernel
theorem dX9_init_157 : decode cX9_init 157 = .ok (.aastore, 1) := by decide +kernel
theorem dX9_init_158 : decode cX9_init 158 = .ok (.dup, 1) := by decide +kernel
theorem dX9_init_159 : decode cX9_init 159 = .ok (.iconst 3, 1) := by decide +kernel
theorem dX9_init_160 : decode cX9_init 160 = .ok (.new 66, 3) := by decide +kernel
theorem dX9_init_163 : decode cX9_init 163 = .ok (.dup, 1) := by decide +kernel
theorem dX9_init_164 : decode cX9_init 164 = .ok (.invokespecial 68, 3) := by decide +kernel
theorem dX9_init_167 : decode cX9_init 167 = .ok (.aastore, 1) := by decide +kernel
theorem dX9_init_168 : decode cX9_init 168 = .ok (.putfield 69, 3) := by decide +kernel
theorem dX9_init_171 : decode cX9_init 171 = .ok (.aload_n 0, 1) := by decide +kernel
theorem dX9_init_172 : decode cX9_init 172 = .ok (.iconst 5, 1) := by decide +kernel
theorem dX9_init_173 : decode cX9_init 173 = .ok (.newarray .int, 2) := by decide +kernel
theorem dX9_init_175 : decode cX9_init 175 = .ok (.putfield 73, 3) := by decide +kernel
theorem dX9_init_178 : decode cX9_init 178 = .ok (.aload_n 0, 1) := by decide +kernel
theorem dX9_init_179 : decode cX9_init 179 = .ok (.iconst 0, 1) := by decide +kernel
theorem dX9_init_180 : decode cX9_init 180 = .ok (.putfield 77, 3) := by decide +kernel
theorem dX9_init_183 : decode cX9_init 183 = .ok (.return_, 1) := by decide +kernel
theorem dX9_thing_0 : decode cX9_thing 0 = .ok (.iload_n 1, 1) := by decide +kernel
theorem dX9_thing_1 : decode cX9_thing 1 = .ok (.iconst 0, 1) := by decide +kernel
theorem dX9_thing_2 : decode cX9_thing 2 = .ok (.iconst 3, 1) := by decide +kernel
theorem dX9_thing_3 : decode cX9_thing 3 = .ok (.invokestatic 81, 3) := by decide +kernel
theorem dX9_thing_6 : decode cX9_thing 6 = .ok (.ifCond .eq 13, 3) := by decide +kernel
theorem dX9_thing_9 : decode cX9_thing 9 = .ok (.iload_n 2, 1) := by decide +kernel
theorem dX9_thing_10 : decode cX9_thing 10 = .ok (.iconst 1, 1) := by decide +kernel
theorem dX9_thing_11 : decode cX9_thing 11 = .ok (.bipush 99, 2) := by decide +kernel
theorem dX9_thing_13 : decode cX9_thing 13 = .ok (.invokestatic 81, 3) := by decide +kernel
theorem dX9_thing_16 : decode cX9_thing 16 = .ok (.ifCond .ne 5, 3) := by decide +kernel
theorem dX9_thing_19 : decode cX9_thing 19 = .ok (.iconst (-1), 1) := by decide +kernel
theorem dX9_thing_20 : decode cX9_thing 20 = .ok (.ireturn, 1) := by decide +kernel
theorem dX9_thing_21 : decode cX9_thing 21 = .ok (.aload_n 0, 1) := by decide +kernel
theorem dX9_thing_22 : decode cX9_thing 22 = .ok (.getfield 10, 3) := by decide +kernel
theorem dX9_thing_25 : decode cX9_thing 25 = .ok (.getfield 85, 3) := by decide +kernel
theorem dX9_thing_28 : decode cX9_thing 28 = .ok (.bipush 10, 2) := by decide +kernel
theorem dX9_thing_30 : decode cX9_thing 30 = .ok (.if_icmp .ge 16, 3) := by decide +kernel
theorem dX9_thing_33 : decode cX9_thing 33 = .ok (.aload_n 0, 1) := by decide +kernel
theorem dX9_thing_34 : decode cX9_thing 34 = .ok (.getfield 10, 3) := by decide +kernel
theorem dX9_thing_37 : decode cX9_thing 37 = .ok (.iload_n 1, 1) := by decide +kernel
theorem dX9_thing_38 : decode cX9_thing 38 = .ok (.iload_n 2, 1) := by decide +kernel
theorem dX9_thing_39 : decode cX9_thing 39 = .ok (.iconst 5, 1) := by decide +kernel
theorem dX9_thing_40 : decode cX9_thing 40 = .ok (.invokevirtual 89, 3) := by decide +kernel
theorem dX9_thing_43 : decode cX9_thing 43 = .ok (.goto 5, 3) := by decide +kernel
theorem dX9_thing_46 : decode cX9_thing 46 = .ok (.bipush (-3), 2) := by decide +kernel
theorem dX9_thing_48 : decode cX9_thing 48 = .ok (.ireturn, 1) := by decide +kernel
theorem dX9_told_0 : decode cX9_told 0 = .ok (.aload_n 0, 1) := by decide +kernel
theorem dX9_told_1 : decode cX9_told 1 = .ok (.iload_n 1, 1) := by decide +kernel
theorem dX9_told_2 : decode cX9_told 2 = .ok (.invokevirtual 93, 3) := by decide +kernel
theorem dX9_told_5 : decode cX9_told 5 = .ok (.ifCond .ne 5, 3) := by decide +kernel
theorem dX9_told_8 : decode cX9_told 8 = .ok (.iconst (-1), 1) := by decide +kernel
theorem dX9_told_9 : decode cX9_told 9 = .ok (.ireturn, 1) := by decide +kernel
theorem dX9_told_10 : decode cX9_told 10 = .ok (.iload_n 2, 1) := by decide +kernel
theorem dX9_told_11 : decode cX9_told 11 = .ok (.tableswitch 107 0 5 #[37, 47, 57, 67, 80, 90], 37) := by decide +kernel
theorem dX9_told_48 : decode cX9_told 48 = .ok (.aload_n 0, 1) := by decide +kernel
theorem dX9_told_49 : decode cX9_told 49 = .ok (.getfield 10, 3) := by decide +kernel
theorem dX9_told_52 : decode cX9_told 52 = .ok (.getfield 97, 3) := by decide +kernel
theorem dX9_told_55 : decode cX9_told 55 = .ok (.iload_n 1, 1) := by decide +kernel
theorem dX9_told_56 : decode cX9_told 56 = .ok (.iaload, 1) := by decide +kernel
theorem dX9_told_57 : decode cX9_told 57 = .ok (.ireturn, 1) := by decide +kernel
theorem dX9_told_58 : decode cX9_told 58 = .ok (.aload_n 0, 1) := by decide +kernel
theorem dX9_told_59 : decode cX9_told 59 = .ok (.getfield 10, 3) := by decide +kernel
theorem dX9_told_62 : decode cX9_told 62 = .ok (.getfield 100, 3) := by decide +kernel
theorem dX9_told_65 : decode cX9_told 65 = .ok (.iload_n 1, 1) := by decide +kernel
theorem dX9_told_66 : decode cX9_told 66 = .ok (.iaload, 1) := by decide +kernel
theorem dX9_told_67 : decode cX9_told 67 = .ok (.ireturn, 1) := by decide +kernel
theorem dX9_told_68 : decode cX9_told 68 = .ok (.aload_n 0, 1) := by decide +kernel
theorem dX9_told_69 : decode cX9_told 69 = .ok (.getfield 10, 3) := by decide +kernel
theorem dX9_told_72 : decode cX9_told 72 = .ok (.getfield 103, 3) := by decide +kernel
theorem dX9_told_75 : decode cX9_told 75 = .ok (.iload_n 1, 1) := by decide +kernel
theorem dX9_told_76 : decode cX9_told 76 = .ok (.iaload, 1) := by decide +kernel
theorem dX9_told_77 : decode cX9_told 77 = .ok (.ireturn, 1) := by decide +kernel
theorem dX9_told_78 : decode cX9_told 78 = .ok (.aload_n 0, 1) := by decide +kernel
theorem dX9_told_79 : decode cX9_told 79 = .ok (.getfield 10, 3) := by decide +kernel
theorem dX9_told_82 : decode cX9_told 82 = .ok (.getfield 106, 3) := by decide +kernel
theorem dX9_told_85 : decode cX9_told 85 = .ok (.iload_n 1, 1) := by decide +kernel
theorem dX9_told_86 : decode cX9_told 86 = .ok (.iaload, 1) := by decide +kernel
theorem dX9_told_87 : decode cX9_told 87 = .ok (.bipush 50, 2) := by decide +kernel
theorem dX9_told_89 : decode cX9_told 89 = .ok (.iadd, 1) := by decide +kernel
theorem dX9_told_90 : decode cX9_told 90 = .ok (.ireturn, 1) := by decide +kernel
theorem dX9_told_91 : decode cX9_told 91 = .ok (.aload_n 0, 1) := by decide +kernel
theorem dX9_told_92 : decode cX9_told 92 = .ok (.getfield 10, 3) := by decide +kernel
theorem dX9_told_95 : decode cX9_told 95 = .ok (.getfield 109, 3) := by decide +kernel
theorem dX9_told_98 : decode cX9_told 98 = .ok (.iload_n 1, 1) := by decide +kernel
theorem dX9_told_99 : decode cX9_told 99 = .ok (.iaload, 1) := by decide +kernel
theorem dX9_told_100 : decode cX9_told 100 = .ok (.ireturn, 1) := by decide +kernel
theorem dX9_told_101 : decode cX9_told 101 = .ok (.aload_n 0, 1) := by decide +kernel
theorem dX9_told_102 : decode cX9_told 102 = .ok (.getfield 10, 3) := by decide +kernel
theorem dX9_told_105 : decode cX9_told 105 = .ok (.iload_n 1, 1) := by decide +kernel
theorem dX9_told_106 : decode cX9_told 106 = .ok (.invokevirtual 112, 3) := by decide +kernel
theorem dX9_told_109 : decode cX9_told 109 = .ok (.ifCond .eq 7, 3) := by decide +kernel
theorem dX9_told_112 : decode cX9_told 112 = .ok (.iconst 1, 1) := by decide +kernel
theorem dX9_told_113 : decode cX9_told 113 = .ok (.goto 4, 3) := by decide +kernel
theorem dX9_told_116 : decode cX9_told 116 = .ok (.iconst 0, 1) := by decide +kernel
theorem dX9_told_117 : decode cX9_told 117 = .ok (.ireturn, 1) := by decide +kernel
theorem dX9_told_118 : decode cX9_told 118 = .ok (.iconst (-1), 1) := by decide +kernel
theorem dX9_told_119 : decode cX9_told 119 = .ok (.ireturn, 1) := by decide +kernel
theorem dX9_set_0 : decode cX9_set 0 = .ok (.aload_n 0, 1) := by decide +kernel
theorem dX9_set_1 : decode cX9_set 1 = .ok (.iload_n 1, 1) := by decide +kernel
theorem dX9_set_2 : decode cX9_set 2 = .ok (.invokevirtual 93, 3) := by decide +kernel
theorem dX9_set_5 : decode cX9_set 5 = .ok (.ifCond .ne 5, 3) := by decide +kernel
theorem dX9_set_8 : decode cX9_set 8 = .ok (.iconst (-1), 1) := by decide +kernel
theorem dX9_set_9 : decode cX9_set 9 = .ok (.ireturn, 1) := by decide +kernel
theorem dX9_set_10 : decode cX9_set 10 = .ok (.iload_n 2, 1) := by decide +kernel
theorem dX9_set_11 : decode cX9_set 11 = .ok (.tableswitch 155 1 4 #[29, 60, 90, 127], 29) := by decide +kernel
theorem dX9_set_40 : decode cX9_set 40 = .ok (.iload_n 3, 1) := by decide +kernel
theorem dX9_set_41 : decode cX9_set 41 = .ok (.iconst 1, 1) := by decide +kernel
theorem dX9_set_42 : decode cX9_set 42 = .ok (.bipush 99, 2) := by decide +kernel
theorem dX9_set_44 : decode cX9_set 44 = .ok (.invokestatic 81, 3) := by decide +kernel
theorem dX9_set_47 : decode cX9_set 47 = .ok (.ifCond .eq 22, 3) := by decide +kernel
theorem dX9_set_50 : decode cX9_set 50 = .ok (.aload_n 0, 1) := by decide +kernel
theorem dX9_set_51 : decode cX9_set 51 = .ok (.getfield 10, 3) := by decide +kernel
theorem dX9_set_54 : decode cX9_set 54 = .ok (.aload_n 0, 1) := by decide +kernel
theorem dX9_set_55 : decode cX9_set 55 = .ok (.getfield 10, 3) := by decide +kernel
theorem dX9_set_58 : decode cX9_set 58 = .ok (.getfield 100, 3) := by decide +kernel
theorem dX9_set_61 : decode cX9_set 61 = .ok (.iload_n 1, 1) := by decide +kernel
theorem dX9_set_62 : decode cX9_set 62 = .ok (.iload_n 3, 1) := by decide +kernel
theorem dX9_set_63 : decode cX9_set 63 = .ok (.invokevirtual 115, 3) := by decide +kernel
theorem dX9_set_66 : decode cX9_set 66 = .ok (.goto 4, 3) := by decide +kernel
theorem dX9_set_69 : decode cX9_set 69 = .ok (.iconst (-1), 1) := by decide +kernel
theorem dX9_set_70 : decode cX9_set 70 = .ok (.ireturn, 1) := by decide +kernel
theorem dX9_set_71 : decode cX9_set 71 = .ok (.iload_n 3, 1) := by decide +kernel
theorem dX9_set_72 : decode cX9_set 72 = .ok (.iconst 0, 1) := by decide +kernel
theorem dX9_set_73 : decode cX9_set 73 = .ok (.iconst 5, 1) := by decide +kernel
theorem dX9_set_74 : decode cX9_set 74 = .ok (.invokestatic 81, 3) := by decide +kernel
theorem dX9_set_77 : decode cX9_set 77 = .ok (.ifCond .eq 22, 3) := by decide +kernel
theorem dX9_set_80 : decode cX9_set 80 = .ok (.aload_n 0, 1) := by decide +kernel
theorem dX9_set_81 : decode cX9_set 81 = .ok (.getfield 10, 3) := by decide +kernel
theorem dX9_set_84 : decode cX9_set 84 = .ok (.aload_n 0, 1) := by decide +kernel
theorem dX9_set_85 : decode cX9_set 85 = .ok (.getfield 10, 3) := by decide +kernel
theorem dX9_set_88 : decode cX9_set 88 = .ok (.getfield 103, 3) := by decide +kernel
theorem dX9_set_91 : decode cX9_set 91 = .ok (.iload_n 1, 1) := by decide +kernel
theorem dX9_set_92 : decode cX9_set 92 = .ok (.iload_n 3, 1) := by decide +kernel
theorem dX9_set_93 : decode cX9_set 93 = .ok (.invokevirtual 115, 3) := by decide +kernel
theorem dX9_set_96 : decode cX9_set 96 = .ok (.goto 4, 3) := by decide +kernel
theorem dX9_set_99 : decode cX9_set 99 = .ok (.iconst (-1), 1) := by decide +kernel
theorem dX9_set_100 : decode cX9_set 100 = .ok (.ireturn, 1) := by decide +kernel
theorem dX9_set_101 : decode cX9_set 101 = .ok (.iload_n 3, 1) := by decide +kernel
theorem dX9_set_102 : decode cX9_set 102 = .ok (.iconst 0, 1) := by decide +kernel
theorem dX9_set_103 : decode cX9_set 103 = .ok (.bipush 100, 2) := by decide +kernel
theorem dX9_set_105 : decode cX9_set 105 = .ok (.invokestatic 81, 3) := by decide +kernel
theorem dX9_set_108 : decode cX9_set 108 = .ok (.ifCond .eq 28, 3) := by decide +kernel
theorem dX9_set_111 : decode cX9_set 111 = .ok (.aload_n 0, 1) := by decide +kernel
theorem dX9_set_112 : decode cX9_set 112 = .ok (.getfield 10, 3) := by decide +kernel
theorem dX9_set_115 : decode cX9_set 115 = .ok (.aload_n 0, 1) := by decide +kernel
theorem dX9_set_116 : decode cX9_set 116 = .ok (.getfield 10, 3) := by decide +kernel
theorem dX9_set_119 : decode cX9_set 119 = .ok (.getfield 106, 3) := by decide +kernel
theorem dX9_set_122 : decode cX9_set 122 = .ok (.iload_n 1, 1) := by decide +kernel
theorem dX9_set_123 : decode cX9_set 123 = .ok (.iload_n 3, 1) := by decide +kernel
theorem dX9_set_124 : decode cX9_set 124 = .ok (.bipush 50, 2) := by decide +kernel
theorem dX9_set_126 : decode cX9_set 126 = .ok (.isub, 1) := by decide +kernel
theorem dX9_set_127 : decode cX9_set 127 = .ok (.invokevirtual 115, 3) := by decide +kernel
theorem dX9_set_130 : decode cX9_set 130 = .ok (.bipush 50, 2) := by decide +kernel
theorem dX9_set_132 : decode cX9_set 132 = .ok (.iadd, 1) := by decide +kernel
theorem dX9_set_133 : decode cX9_set 133 = .ok (.goto 4, 3) := by decide +kernel
theorem dX9_set_136 : decode cX9_set 136 = .ok (.iconst (-1), 1) := by decide +kernel
theorem dX9_set_137 : decode cX9_set 137 = .ok (.ireturn, 1) := by decide +kernel
theorem dX9_set_138 : decode cX9_set 138 = .ok (.iload_n 3, 1) := by decide +kernel
theorem dX9_set_139 : decode cX9_set 139 = .ok (.invokestatic 119, 3) := by decide +kernel
theorem dX9_set_142 : decode cX9_set 142 = .ok (.ifCond .eq 22, 3) := by decide +kernel
theorem dX9_set_145 : decode cX9_set 145 = .ok (.aload_n 0, 1) := by decide +kernel
theorem dX9_set_146 : decode cX9_set 146 = .ok (.getfield 10, 3) := by decide +kernel
theorem dX9_set_149 : decode cX9_set 149 = .ok (.aload_n 0, 1) := by decide +kernel
theorem dX9_set_150 : decode cX9_set 150 = .ok (.getfield 10, 3) := by decide +kernel
theorem dX9_set_153 : decode cX9_set 153 = .ok (.getfield 109, 3) := by decide +kernel
theorem dX9_set_156 : decode cX9_set 156 = .ok (.iload_n 1, 1) := by decide +kernel
theorem dX9_set_157 : decode cX9_set 157 = .ok (.iload_n 3, 1) := by decide +kernel
theorem dX9_set_158 : decode cX9_set 158 = .ok (.invokevirtual 115, 3) := by decide +kernel
theorem dX9_set_161 : decode cX9_set 161 = .ok (.goto 4, 3) := by decide +kernel
theorem dX9_set_164 : decode cX9_set 164 = .ok (.iconst (-1), 1) := by decide +kernel
theorem dX9_set_165 : decode cX9_set 165 = .ok (.ireturn, 1) := by decide +kernel
theorem dX9_set_166 : decode cX9_set 166 = .ok (.iconst (-1), 1) := by decide +kernel
theorem dX9_set_167 : decode cX9_set 167 = .ok (.ireturn, 1) := by decide +kernel
theorem dX9_stretch_0 : decode cX9_stretch 0 = .ok (.iload_n 1, 1) := by decide +kernel
theorem dX9_stretch_1 : decode cX9_stretch 1 = .ok (.iconst 1, 1) := by decide +kernel
theorem dX9_stretch_2 : decode cX9_stretch 2 = .ok (.bipush 99, 2) := by decide +kernel
theorem dX9_stretch_4 : decode cX9_stretch 4 = .ok (.invokestatic 81, 3) := by decide +kernel
theorem dX9_stretch_7 : decode cX9_stretch 7 = .ok (.ifCond .ne 5, 3) := by decide +kernel
theorem dX9_stretch_10 : decode cX9_stretch 10 = .ok (.iconst (-1), 1) := by decide +kernel
theorem dX9_stretch_11 : decode cX9_stretch 11 = .ok (.ireturn, 1) := by decide +kernel
theorem dX9_stretch_12 : decode cX9_stretch 12 = .ok (.aload_n 0, 1) := by decide +kernel
theorem dX9_stretch_13 : decode cX9_stretch 13 = .ok (.getfield 10, 3) := by decide +kernel
theorem dX9_stretch_16 : decode cX9_stretch 16 = .ok (.getfield 122, 3) := by decide +kernel
theorem dX9_stretch_19 : decode cX9_stretch 19 = .ok (.iconst 5, 1) := by decide +kernel
theorem dX9_stretch_20 : decode cX9_stretch 20 = .ok (.if_icmp .ge 23, 3) := by decide +kernel
theorem dX9_stretch_23 : decode cX9_stretch 23 = .ok (.aload_n 0, 1) := by decide +kernel
theorem dX9_stretch_24 : decode cX9_stretch 24 = .ok (.getfield 10, 3) := by decide +kernel
theorem dX9_stretch_27 : decode cX9_stretch 27 = .ok (.iload_n 1, 1) := by decide +kernel
theorem dX9_stretch_28 : decode cX9_stretch 28 = .ok (.iload_n 2, 1) := by decide +kernel
theorem dX9_stretch_29 : decode cX9_stretch 29 = .ok (.ifCond .eq 7, 3) := by decide +kernel
theorem dX9_stretch_32 : decode cX9_stretch 32 = .ok (.iconst 1, 1) := by decide +kernel
theorem dX9_stretch_33 : decode cX9_stretch 33 = .ok (.goto 4, 3) := by decide +kernel
theorem dX9_stretch_36 : decode cX9_stretch 36 = .ok (.iconst 0, 1) := by decide +kernel
theorem dX9_stretch_37 : decode cX9_stretch 37 = .ok (.invokevirtual 125, 3) := by decide +kernel
theorem dX9_stretch_40 : decode cX9_stretch 40 = .ok (.goto 5, 3) := by decide +kernel
theorem dX9_stretch_43 : decode cX9_stretch 43 = .ok (.bipush (-3), 2) := by decide +kernel
theorem dX9_stretch_45 : decode cX9_stretch 45 = .ok (.ireturn, 1) := by decide +kernel
theorem dX9_of_0 : decode cX9_of 0 = .ok (.aload_n 0, 1) := by decide +kernel
theorem dX9_of_1 : decode cX9_of 1 = .ok (.iload_n 1, 1) := by decide +kernel
theorem dX9_of_2 : decode cX9_of 2 = .ok (.invokevirtual 129, 3) := by decide +kernel
theorem dX9_of_5 : decode cX9_of 5 = .ok (.ifCond .eq 12, 3) := by decide +kernel
theorem dX9_of_8 : decode cX9_of 8 = .ok (.iload_n 2, 1) := by decide +kernel
theorem dX9_of_9 : decode cX9_of 9 = .ok (.iconst 0, 1) := by decide +kernel
theorem dX9_of_10 : decode cX9_of 10 = .ok (.iconst 1, 1) := by decide +kernel
theorem dX9_of_11 : decode cX9_of 11 = .ok (.invokestatic 81, 3) := by decide +kernel
theorem dX9_of_14 : decode cX9_of 14 = .ok (.ifCond .ne 5, 3) := by decide +kernel
theorem dX9_of_17 : decode cX9_of 17 = .ok (.iconst (-1), 1) := by decide +kernel
theorem dX9_of_18 : decode cX9_of 18 = .ok (.ireturn, 1) := by decide +kernel
theorem dX9_of_19 : decode cX9_of 19 = .ok (.iload_n 2, 1) := by decide +kernel
theorem dX9_of_20 : decode cX9_of 20 = .ok (.ifCond .ne 15, 3) := by decide +kernel
theorem dX9_of_23 : decode cX9_of 23 = .ok (.aload_n 0, 1) := by decide +kernel
theorem dX9_of_24 : decode cX9_of 24 = .ok (.getfield 10, 3) := by decide +kernel
theorem dX9_of_27 : decode cX9_of 27 = .ok (.getfield 132, 3) := by decide +kernel
theorem dX9_of_30 : decode cX9_of 30 = .ok (.iload_n 1, 1) := by decide +kernel
theorem dX9_of_31 : decode cX9_of 31 = .ok (.iaload, 1) := by decide +kernel
theorem dX9_of_32 : decode cX9_of 32 = .ok (.goto 12, 3) := by decide +kernel
theorem dX9_of_35 : decode cX9_of 35 = .ok (.aload_n 0, 1) := by decide +kernel
theorem dX9_of_36 : decode cX9_of 36 = .ok (.getfield 10, 3) := by decide +kernel
theorem dX9_of_39 : decode cX9_of 39 = .ok (.getfield 135, 3) := by decide +kernel
theorem dX9_of_42 : decode cX9_of 42 = .ok (.iload_n 1, 1) := by decide +kernel
theorem dX9_of_43 : decode cX9_of 43 = .ok (.iaload, 1) := by decide +kernel
theorem dX9_of_44 : decode cX9_of 44 = .ok (.ireturn, 1) := by decide +kernel
theorem dX9_bag_0 : decode cX9_bag 0 = .ok (.iload_n 1, 1) := by decide +kernel
theorem dX9_bag_1 : decode cX9_bag 1 = .ok (.invokestatic 119, 3) := by decide +kernel
theorem dX9_bag_4 : decode cX9_bag 4 = .ok (.ifCond .eq 33, 3) := by decide +kernel
theorem dX9_bag_7 : decode cX9_bag 7 = .ok (.iload_n 2, 1) := by decide +kernel
theorem dX9_bag_8 : decode cX9_bag 8 = .ok (.iconst 0, 1) := by decide +kernel
theorem dX9_bag_9 : decode cX9_bag 9 = .ok (.iconst 1, 1) := by decide +kernel
theorem dX9_bag_10 : decode cX9_bag 10 = .ok (.invokestatic 81, 3) := by decide +kernel
theorem dX9_bag_13 : decode cX9_bag 13 = .ok (.ifCond .eq 24, 3) := by decide +kernel
theorem dX9_bag_16 : decode cX9_bag 16 = .ok (.iload_n 3, 1) := by decide +kernel
theorem dX9_bag_17 : decode cX9_bag 17 = .ok (.iconst 0, 1) := by decide +kernel
theorem dX9_bag_18 : decode cX9_bag 18 = .ok (.iload_n 2, 1) := by decide +kernel
theorem dX9_bag_19 : decode cX9_bag 19 = .ok (.ifCond .ne 9, 3) := by decide +kernel
theorem dX9_bag_22 : decode cX9_bag 22 = .ok (.sipush 999, 3) := by decide +kernel
theorem dX9_bag_25 : decode cX9_bag 25 = .ok (.goto 6, 3) := by decide +kernel
theorem dX9_bag_28 : decode cX9_bag 28 = .ok (.sipush 9999, 3) := by decide +kernel
theorem dX9_bag_31 : decode cX9_bag 31 = .ok (.invokestatic 81, 3) := by decide +kernel
theorem dX9_bag_34 : decode cX9_bag 34 = .ok (.ifCond .ne 5, 3) := by decide +kernel
theorem dX9_bag_37 : decode cX9_bag 37 = .ok (.iconst (-1), 1) := by decide +kernel
theorem dX9_bag_38 : decode cX9_bag 38 = .ok (.ireturn, 1) := by decide +kernel
theorem dX9_bag_39 : decode cX9_bag 39 = .ok (.aload_n 0, 1) := by decide +kernel
theorem dX9_bag_40 : decode cX9_bag 40 = .ok (.getfield 10, 3) := by decide +kernel
theorem dX9_bag_43 : decode cX9_bag 43 = .ok (.iload_n 2, 1) := by decide +kernel
theorem dX9_bag_44 : decode cX9_bag 44 = .ok (.ifCond .ne 13, 3) := by decide +kernel
theorem dX9_bag_47 : decode cX9_bag 47 = .ok (.aload_n 0, 1) := by decide +kernel
theorem dX9_bag_48 : decode cX9_bag 48 = .ok (.getfield 10, 3) := by decide +kernel
theorem dX9_bag_51 : decode cX9_bag 51 = .ok (.getfield 138, 3) := by decide +kernel
theorem dX9_bag_54 : decode cX9_bag 54 = .ok (.goto 10, 3) := by decide +kernel
theorem dX9_bag_57 : decode cX9_bag 57 = .ok (.aload_n 0, 1) := by decide +kernel
theorem dX9_bag_58 : decode cX9_bag 58 = .ok (.getfield 10, 3) := by decide +kernel
theorem dX9_bag_61 : decode cX9_bag 61 = .ok (.getfield 141, 3) := by decide +kernel
theorem dX9_bag_64 : decode cX9_bag 64 = .ok (.iload_n 1, 1) := by decide +kernel
theorem dX9_bag_65 : decode cX9_bag 65 = .ok (.iload_n 3, 1) := by decide +kernel
theorem dX9_bag_66 : decode cX9_bag 66 = .ok (.invokevirtual 115, 3) := by decide +kernel
theorem dX9_bag_69 : decode cX9_bag 69 = .ok (.ireturn, 1) := by decide +kernel
theorem dX9_arm_0 : decode cX9_arm 0 = .ok (.iload_n 1, 1) := by decide +kernel
theorem dX9_arm_1 : decode cX9_arm 1 = .ok (.iconst 0, 1) := by decide +kernel
theorem dX9_arm_2 : decode cX9_arm 2 = .ok (.iconst 1, 1) := by decide +kernel
theorem dX9_arm_3 : decode cX9_arm 3 = .ok (.invokestatic 81, 3) := by decide +kernel
theorem dX9_arm_6 : decode cX9_arm 6 = .ok (.ifCond .eq 13, 3) := by decide +kernel
theorem dX9_arm_9 : decode cX9_arm 9 = .ok (.iload_n 2, 1) := by decide +kernel
theorem dX9_arm_10 : decode cX9_arm 10 = .ok (.iconst 1, 1) := by decide +kernel
theorem dX9_arm_11 : decode cX9_arm 11 = .ok (.bipush 9, 2) := by decide +kernel
theorem dX9_arm_13 : decode cX9_arm 13 = .ok (.invokestatic 81, 3) := by decide +kernel
theorem dX9_arm_16 : decode cX9_arm 16 = .ok (.ifCond .ne 5, 3) := by decide +kernel
theorem dX9_arm_19 : decode cX9_arm 19 = .ok (.iconst (-1), 1) := by decide +kernel
theorem dX9_arm_20 : decode cX9_arm 20 = .ok (.ireturn, 1) := by decide +kernel
theorem dX9_arm_21 : decode cX9_arm 21 = .ok (.aload_n 0, 1) := by decide +kernel
theorem dX9_arm_22 : decode cX9_arm 22 = .ok (.getfield 10, 3) := by decide +kernel
theorem dX9_arm_25 : decode cX9_arm 25 = .ok (.aload_n 0, 1) := by decide +kernel
theorem dX9_arm_26 : decode cX9_arm 26 = .ok (.getfield 10, 3) := by decide +kernel
theorem dX9_arm_29 : decode cX9_arm 29 = .ok (.getfield 144, 3) := by decide +kernel
theorem dX9_arm_32 : decode cX9_arm 32 = .ok (.iload_n 1, 1) := by decide +kernel
theorem dX9_arm_33 : decode cX9_arm 33 = .ok (.iload_n 2, 1) := by decide +kernel
theorem dX9_arm_34 : decode cX9_arm 34 = .ok (.invokevirtual 115, 3) := by decide +kernel
theorem dX9_arm_37 : decode cX9_arm 37 = .ok (.ireturn, 1) := by decide +kernel
theorem dX9_rule_0 : decode cX9_rule 0 = .ok (.aload_n 0, 1) := by decide +kernel
theorem dX9_rule_1 : decode cX9_rule 1 = .ok (.iload_n 1, 1) := by decide +kernel
theorem dX9_rule_2 : decode cX9_rule 2 = .ok (.invokevirtual 93, 3) := by decide +kernel
theorem dX9_rule_5 : decode cX9_rule 5 = .ok (.ifCond .eq 25, 3) := by decide +kernel
theorem dX9_rule_8 : decode cX9_rule 8 = .ok (.aload_n 0, 1) := by decide +kernel
theorem dX9_rule_9 : decode cX9_rule 9 = .ok (.iload_n 2, 1) := by decide +kernel
theorem dX9_rule_10 : decode cX9_rule 10 = .ok (.invokevirtual 93, 3) := by decide +kernel
theorem dX9_rule_13 : decode cX9_rule 13 = .ok (.ifCond .eq 17, 3) := by decide +kernel
theorem dX9_rule_16 : decode cX9_rule 16 = .ok (.iload_n 1, 1) := by decide +kernel
theorem dX9_rule_17 : decode cX9_rule 17 = .ok (.iload_n 2, 1) := by decide +kernel
theorem dX9_rule_18 : decode cX9_rule 18 = .ok (.if_icmp .eq 12, 3) := by decide +kernel
theorem dX9_rule_21 : decode cX9_rule 21 = .ok (.iload_n 3, 1) := by decide +kernel
theorem dX9_rule_22 : decode cX9_rule 22 = .ok (.iconst 0, 1) := by decide +kernel
theorem dX9_rule_23 : decode cX9_rule 23 = .ok (.iconst 1, 1) := by decide +kernel
theorem dX9_rule_24 : decode cX9_rule 24 = .ok (.invokestatic 81, 3) := by decide +kernel
theorem dX9_rule_27 : decode cX9_rule 27 = .ok (.ifCond .ne 5, 3) := by decide +kernel
theorem dX9_rule_30 : decode cX9_rule 30 = .ok (.iconst (-1), 1) := by decide +kernel
theorem dX9_rule_31 : decode cX9_rule 31 = .ok (.ireturn, 1) := by decide +kernel
theorem dX9_rule_32 : decode cX9_rule 32 = .ok (.aload_n 0, 1) := by decide +kernel
theorem dX9_rule_33 : decode cX9_rule 33 = .ok (.getfield 10, 3) := by decide +kernel
theorem dX9_rule_36 : decode cX9_rule 36 = .ok (.getfield 147, 3) := by decide +kernel
theorem dX9_rule_39 : decode cX9_rule 39 = .ok (.bipush 8, 2) := by decide +kernel
theorem dX9_rule_41 : decode cX9_rule 41 = .ok (.if_icmp .ge 16, 3) := by decide +kernel
theorem dX9_rule_44 : decode cX9_rule 44 = .ok (.aload_n 0, 1) := by decide +kernel
theorem dX9_rule_45 : decode cX9_rule 45 = .ok (.getfield 10, 3) := by decide +kernel
theorem dX9_rule_48 : decode cX9_rule 48 = .ok (.iload_n 1, 1) := by decide +kernel
theorem dX9_rule_49 : decode cX9_rule 49 = .ok (.iload_n 2, 1) := by decide +kernel
theorem dX9_rule_50 : decode cX9_rule 50 = .ok (.iload_n 3, 1) := by decide +kernel
theorem dX9_rule_51 : decode cX9_rule 51 = .ok (.invokevirtual 150, 3) := by decide +kernel
theorem dX9_rule_54 : decode cX9_rule 54 = .ok (.goto 5, 3) := by decide +kernel
theorem dX9_rule_57 : decode cX9_rule 57 = .ok (.bipush (-3), 2) := by decide +kernel
theorem dX9_rule_59 : decode cX9_rule 59 = .ok (.ireturn, 1) := by decide +kernel
theorem dX9_off_0 : decode cX9_off 0 = .ok (.aload_n 0, 1) := by decide +kernel
theorem dX9_off_1 : decode cX9_off 1 = .ok (.getfield 10, 3) := by decide +kernel
theorem dX9_off_4 : decode cX9_off 4 = .ok (.getfield 147, 3) := by decide +kernel
theorem dX9_off_7 : decode cX9_off 7 = .ok (.ifCond .le 13, 3) := by decide +kernel
theorem dX9_off_10 : decode cX9_off 10 = .ok (.aload_n 0, 1) := by decide +kernel
theorem dX9_off_11 : decode cX9_off 11 = .ok (.getfield 10, 3) := by decide +kernel
theorem dX9_off_14 : decode cX9_off 14 = .ok (.invokevirtual 153, 3) := by decide +kernel
theorem dX9_off_17 : decode cX9_off 17 = .ok (.goto 5, 3) := by decide +kernel
theorem dX9_off_20 : decode cX9_off 20 = .ok (.bipush (-4), 2) := by decide +kernel
theorem dX9_off_22 : decode cX9_off 22 = .ok (.ireturn, 1) := by decide +kernel
theorem dX9_type_0 : decode cX9_type 0 = .ok (.iload_n 1, 1) := by decide +kernel
theorem dX9_type_1 : decode cX9_type 1 = .ok (.bipush 32, 2) := by decide +kernel
theorem dX9_type_3 : decode cX9_type 3 = .ok (.bipush 126, 2) := by decide +kernel
theorem dX9_type_5 : decode cX9_type 5 = .ok (.invokestatic 81, 3) := by decide +kernel
theorem dX9_type_8 : decode cX9_type 8 = .ok (.ifCond .ne 5, 3) := by decide +kernel
theorem dX9_type_11 : decode cX9_type 11 = .ok (.iconst (-1), 1) := by decide +kernel
theorem dX9_type_12 : decode cX9_type 12 = .ok (.ireturn, 1) := by decide +kernel
theorem dX9_type_13 : decode cX9_type 13 = .ok (.aload_n 0, 1) := by decide +kernel
theorem dX9_type_14 : decode cX9_type 14 = .ok (.getfield 25, 3) := by decide +kernel
theorem dX9_type_17 : decode cX9_type 17 = .ok (.getfield 157, 3) := by decide +kernel
theorem dX9_type_20 : decode cX9_type 20 = .ok (.bipush 80, 2) := by decide +kernel
theorem dX9_type_22 : decode cX9_type 22 = .ok (.if_icmp .ge 14, 3) := by decide +kernel
theorem dX9_type_25 : decode cX9_type 25 = .ok (.aload_n 0, 1) := by decide +kernel
theorem dX9_type_26 : decode cX9_type 26 = .ok (.getfield 25, 3) := by decide +kernel
theorem dX9_type_29 : decode cX9_type 29 = .ok (.iload_n 1, 1) := by decide +kernel
theorem dX9_type_30 : decode cX9_type 30 = .ok (.invokevirtual 160, 3) := by decide +kernel
theorem dX9_type_33 : decode cX9_type 33 = .ok (.goto 5, 3) := by decide +kernel
theorem dX9_type_36 : decode cX9_type 36 = .ok (.bipush (-3), 2) := by decide +kernel
theorem dX9_type_38 : decode cX9_type 38 = .ok (.ireturn, 1) := by decide +kernel
theorem dX9_market_0 : decode cX9_market 0 = .ok (.aload_n 0, 1) := by decide +kernel
theorem dX9_market_1 : decode cX9_market 1 = .ok (.getfield 25, 3) := by decide +kernel
theorem dX9_market_4 : decode cX9_market 4 = .ok (.aload_n 0, 1) := by decide +kernel
theorem dX9_market_5 : decode cX9_market 5 = .ok (.getfield 19, 3) := by decide +kernel
theorem dX9_market_8 : decode cX9_market 8 = .ok (.invokevirtual 164, 3) := by decide +kernel
theorem dX9_market_11 : decode cX9_market 11 = .ok (.istore_n 1, 1) := by decide +kernel
theorem dX9_market_12 : decode cX9_market 12 = .ok (.iload_n 1, 1) := by decide +kernel
theorem dX9_market_13 : decode cX9_market 13 = .ok (.ifCond .lt 21, 3) := by decide +kernel
theorem dX9_market_16 : decode cX9_market 16 = .ok (.aload_n 0, 1) := by decide +kernel
theorem dX9_market_17 : decode cX9_market 17 = .ok (.getfield 10, 3) := by decide +kernel
theorem dX9_market_20 : decode cX9_market 20 = .ok (.aload_n 0, 1) := by decide +kernel
theorem dX9_market_21 : decode cX9_market 21 = .ok (.getfield 19, 3) := by decide +kernel
theorem dX9_market_24 : decode cX9_market 24 = .ok (.invokevirtual 168, 3) := by decide +kernel
theorem dX9_market_27 : decode cX9_market 27 = .ok (.aload_n 0, 1) := by decide +kernel
theorem dX9_market_28 : decode cX9_market 28 = .ok (.getfield 10, 3) := by decide +kernel
theorem dX9_market_31 : decode cX9_market 31 = .ok (.invokevirtual 171, 3) := by decide +kernel
theorem dX9_market_34 : decode cX9_market 34 = .ok (.aload_n 0, 1) := by decide +kernel
theorem dX9_market_35 : decode cX9_market 35 = .ok (.getfield 25, 3) := by decide +kernel
theorem dX9_market_38 : decode cX9_market 38 = .ok (.iconst 0, 1) := by decide +kernel
theorem dX9_market_39 : decode cX9_market 39 = .ok (.putfield 157, 3) := by decide +kernel
theorem dX9_market_42 : decode cX9_market 42 = .ok (.iload_n 1, 1) := by decide +kernel
theorem dX9_market_43 : decode cX9_market 43 = .ok (.ireturn, 1) := by decide +kernel
theorem dX9_count_0 : decode cX9_count 0 = .ok (.iload_n 1, 1) := by decide +kernel
theorem dX9_count_1 : decode cX9_count 1 = .ok (.tableswitch 103 0 6 #[43, 51, 59, 67, 75, 83, 93], 43) := by decide +kernel
theorem dX9_count_44 : decode cX9_count 44 = .ok (.aload_n 0, 1) := by decide +kernel
theorem dX9_count_45 : decode cX9_count 45 = .ok (.getfield 10, 3) := by decide +kernel
theorem dX9_count_48 : decode cX9_count 48 = .ok (.getfield 85, 3) := by decide +kernel
theorem dX9_count_51 : decode cX9_count 51 = .ok (.ireturn, 1) := by decide +kernel
theorem dX9_count_52 : decode cX9_count 52 = .ok (.aload_n 0, 1) := by decide +kernel
theorem dX9_count_53 : decode cX9_count 53 = .ok (.getfield 10, 3) := by decide +kernel
theorem dX9_count_56 : decode cX9_count 56 = .ok (.getfield 122, 3) := by decide +kernel
theorem dX9_count_59 : decode cX9_count 59 = .ok (.ireturn, 1) := by decide +kernel
theorem dX9_count_60 : decode cX9_count 60 = .ok (.aload_n 0, 1) := by decide +kernel
theorem dX9_count_61 : decode cX9_count 61 = .ok (.getfield 10, 3) := by decide +kernel
theorem dX9_count_64 : decode cX9_count 64 = .ok (.getfield 147, 3) := by decide +kernel
theorem dX9_count_67 : decode cX9_count 67 = .ok (.ireturn, 1) := by decide +kernel
theorem dX9_count_68 : decode cX9_count 68 = .ok (.aload_n 0, 1) := by decide +kernel
theorem dX9_count_69 : decode cX9_count 69 = .ok (.getfield 10, 3) := by decide +kernel
theorem dX9_count_72 : decode cX9_count 72 = .ok (.getfield 174, 3) := by decide +kernel
theorem dX9_count_75 : decode cX9_count 75 = .ok (.ireturn, 1) := by decide +kernel
theorem dX9_count_76 : decode cX9_count 76 = .ok (.aload_n 0, 1) := by decide +kernel
theorem dX9_count_77 : decode cX9_count 77 = .ok (.getfield 10, 3) := by decide +kernel
theorem dX9_count_80 : decode cX9_count 80 = .ok (.invokevirtual 177, 3) := by decide +kernel
theorem dX9_count_83 : decode cX9_count 83 = .ok (.ireturn, 1) := by decide +kernel
theorem dX9_count_84 : decode cX9_count 84 = .ok (.aload_n 0, 1) := by decide +kernel
theorem dX9_count_85 : decode cX9_count 85 = .ok (.getfield 10, 3) := by decide +kernel
theorem dX9_count_88 : decode cX9_count 88 = .ok (.getfield 144, 3) := by decide +kernel
theorem dX9_count_91 : decode cX9_count 91 = .ok (.iconst 0, 1) := by decide +kernel
theorem dX9_count_92 : decode cX9_count 92 = .ok (.iaload, 1) := by decide +kernel
theorem dX9_count_93 : decode cX9_count 93 = .ok (.ireturn, 1) := by decide +kernel
theorem dX9_count_94 : decode cX9_count 94 = .ok (.aload_n 0, 1) := by decide +kernel
theorem dX9_count_95 : decode cX9_count 95 = .ok (.getfield 10, 3) := by decide +kernel
theorem dX9_count_98 : decode cX9_count 98 = .ok (.getfield 144, 3) := by decide +kernel
theorem dX9_count_101 : decode cX9_count 101 = .ok (.iconst 1, 1) := by decide +kernel
theorem dX9_count_102 : decode cX9_count 102 = .ok (.iaload, 1) := by decide +kernel
theorem dX9_count_103 : decode cX9_count 103 = .ok (.ireturn, 1) := by decide +kernel
theorem dX9_count_104 : decode cX9_count 104 = .ok (.iconst (-1), 1) := by decide +kernel
theorem dX9_count_105 : decode cX9_count 105 = .ok (.ireturn, 1) := by decide +kernel
theorem dX9_load_0 : decode cX9_load 0 = .ok (.iload_n 1, 1) := by decide +kernel
theorem dX9_load_1 : decode cX9_load 1 = .ok (.invokestatic 119, 3) := by decide +kernel
theorem dX9_load_4 : decode cX9_load 4 = .ok (.ifCond .eq 23, 3) := by decide +kernel
theorem dX9_load_7 : decode cX9_load 7 = .ok (.aload_n 0, 1) := by decide +kernel
theorem dX9_load_8 : decode cX9_load 8 = .ok (.iload_n 2, 1) := by decide +kernel
theorem dX9_load_9 : decode cX9_load 9 = .ok (.invokevirtual 129, 3) := by decide +kernel
theorem dX9_load_12 : decode cX9_load 12 = .ok (.ifCond .eq 15, 3) := by decide +kernel
theorem dX9_load_15 : decode cX9_load 15 = .ok (.aload_n 0, 1) := by decide +kernel
theorem dX9_load_16 : decode cX9_load 16 = .ok (.getfield 10, 3) := by decide +kernel
theorem dX9_load_19 : decode cX9_load 19 = .ok (.iload_n 1, 1) := by decide +kernel
theorem dX9_load_20 : decode cX9_load 20 = .ok (.iload_n 2, 1) := by decide +kernel
theorem dX9_load_21 : decode cX9_load 21 = .ok (.invokevirtual 180, 3) := by decide +kernel
theorem dX9_load_24 : decode cX9_load 24 = .ok (.goto 4, 3) := by decide +kernel
theorem dX9_load_27 : decode cX9_load 27 = .ok (.iconst (-1), 1) := by decide +kernel
theorem dX9_load_28 : decode cX9_load 28 = .ok (.ireturn, 1) := by decide +kernel
theorem dX9_lawful_0 : decode cX9_lawful 0 = .ok (.aload_n 0, 1) := by decide +kernel
theorem dX9_lawful_1 : decode cX9_lawful 1 = .ok (.getfield 10, 3) := by decide +kernel
theorem dX9_lawful_4 : decode cX9_lawful 4 = .ok (.invokevirtual 183, 3) := by decide +kernel
theorem dX9_lawful_7 : decode cX9_lawful 7 = .ok (.ireturn, 1) := by decide +kernel
theorem dX9_pull_0 : decode cX9_pull 0 = .ok (.aload_n 0, 1) := by decide +kernel
theorem dX9_pull_1 : decode cX9_pull 1 = .ok (.iload_n 1, 1) := by decide +kernel
theorem dX9_pull_2 : decode cX9_pull 2 = .ok (.invokevirtual 129, 3) := by decide +kernel
theorem dX9_pull_5 : decode cX9_pull 5 = .ok (.ifCond .eq 14, 3) := by decide +kernel
theorem dX9_pull_8 : decode cX9_pull 8 = .ok (.aload_n 0, 1) := by decide +kernel
theorem dX9_pull_9 : decode cX9_pull 9 = .ok (.getfield 10, 3) := by decide +kernel
theorem dX9_pull_12 : decode cX9_pull 12 = .ok (.iload_n 1, 1) := by decide +kernel
theorem dX9_pull_13 : decode cX9_pull 13 = .ok (.invokevirtual 186, 3) := by decide +kernel
theorem dX9_pull_16 : decode cX9_pull 16 = .ok (.goto 5, 3) := by decide +kernel
theorem dX9_pull_19 : decode cX9_pull 19 = .ok (.ldc 189, 2) := by decide +kernel
theorem dX9_pull_21 : decode cX9_pull 21 = .ok (.ireturn, 1) := by decide +kernel
theorem dX9_uneven_0 : decode cX9_uneven 0 = .ok (.iload_n 1, 1) := by decide +kernel
theorem dX9_uneven_1 : decode cX9_uneven 1 = .ok (.lookupswitch 43 #[(0, 27), (1, 35)], 27) := by decide +kernel
theorem dX9_uneven_28 : decode cX9_uneven 28 = .ok (.aload_n 0, 1) := by decide +kernel
theorem dX9_uneven_29 : decode cX9_uneven 29 = .ok (.getfield 10, 3) := by decide +kernel
theorem dX9_uneven_32 : decode cX9_uneven 32 = .ok (.invokevirtual 190, 3) := by decide +kernel
theorem dX9_uneven_35 : decode cX9_uneven 35 = .ok (.ireturn, 1) := by decide +kernel
theorem dX9_uneven_36 : decode cX9_uneven 36 = .ok (.aload_n 0, 1) := by decide +kernel
theorem dX9_uneven_37 : decode cX9_uneven 37 = .ok (.getfield 10, 3) := by decide +kernel
theorem dX9_uneven_40 : decode cX9_uneven 40 = .ok (.invokevirtual 193, 3) := by decide +kernel
theorem dX9_uneven_43 : decode cX9_uneven 43 = .ok (.ireturn, 1) := by decide +kernel
theorem dX9_uneven_44 : decode cX9_uneven 44 = .ok (.iconst (-1), 1) := by decide +kernel
theorem dX9_uneven_45 : decode cX9_uneven 45 = .ok (.ireturn, 1) := by decide +kernel
theorem dX9_best_0 : decode cX9_best 0 = .ok (.iload_n 1, 1) := by decide +kernel
theorem dX9_best_1 : decode cX9_best 1 = .ok (.bipush (-2), 2) := by decide +kernel
theorem dX9_best_3 : decode cX9_best 3 = .ok (.if_icmp .eq 18, 3) := by decide +kernel
theorem dX9_best_6 : decode cX9_best 6 = .ok (.iload_n 1, 1) := by decide +kernel
theorem dX9_best_7 : decode cX9_best 7 = .ok (.iconst (-1), 1) := by decide +kernel
theorem dX9_best_8 : decode cX9_best 8 = .ok (.if_icmp .eq 13, 3) := by decide +kernel
theorem dX9_best_11 : decode cX9_best 11 = .ok (.aload_n 0, 1) := by decide +kernel
theorem dX9_best_12 : decode cX9_best 12 = .ok (.iload_n 1, 1) := by decide +kernel
theorem dX9_best_13 : decode cX9_best 13 = .ok (.invokevirtual 93, 3) := by decide +kernel
theorem dX9_best_16 : decode cX9_best 16 = .ok (.ifCond .ne 5, 3) := by decide +kernel
theorem dX9_best_19 : decode cX9_best 19 = .ok (.iconst (-1), 1) := by decide +kernel
theorem dX9_best_20 : decode cX9_best 20 = .ok (.ireturn, 1) := by decide +kernel
theorem dX9_best_21 : decode cX9_best 21 = .ok (.aload_n 0, 1) := by decide +kernel
theorem dX9_best_22 : decode cX9_best 22 = .ok (.getfield 34, 3) := by decide +kernel
theorem dX9_best_25 : decode cX9_best 25 = .ok (.invokevirtual 196, 3) := by decide +kernel
theorem dX9_best_28 : decode cX9_best 28 = .ok (.aload_n 0, 1) := by decide +kernel
theorem dX9_best_29 : decode cX9_best 29 = .ok (.getfield 34, 3) := by decide +kernel
theorem dX9_best_32 : decode cX9_best 32 = .ok (.getfield 199, 3) := by decide +kernel
theorem dX9_best_35 : decode cX9_best 35 = .ok (.ifCond .ne 6, 3) := by decide +kernel
theorem dX9_best_38 : decode cX9_best 38 = .ok (.bipush (-4), 2) := by decide +kernel
theorem dX9_best_40 : decode cX9_best 40 = .ok (.ireturn, 1) := by decide +kernel
theorem dX9_best_41 : decode cX9_best 41 = .ok (.iload_n 1, 1) := by decide +kernel
theorem dX9_best_42 : decode cX9_best 42 = .ok (.ifCond .ge 27, 3) := by decide +kernel
theorem dX9_best_45 : decode cX9_best 45 = .ok (.iload_n 1, 1) := by decide +kernel
theorem dX9_best_46 : decode cX9_best 46 = .ok (.bipush (-2), 2) := by decide +kernel
theorem dX9_best_48 : decode cX9_best 48 = .ok (.if_icmp .ne 13, 3) := by decide +kernel
theorem dX9_best_51 : decode cX9_best 51 = .ok (.aload_n 0, 1) := by decide +kernel
theorem dX9_best_52 : decode cX9_best 52 = .ok (.getfield 34, 3) := by decide +kernel
theorem dX9_best_55 : decode cX9_best 55 = .ok (.getfield 202, 3) := by decide +kernel
theorem dX9_best_58 : decode cX9_best 58 = .ok (.goto 10, 3) := by decide +kernel
theorem dX9_best_61 : decode cX9_best 61 = .ok (.aload_n 0, 1) := by decide +kernel
theorem dX9_best_62 : decode cX9_best 62 = .ok (.getfield 34, 3) := by decide +kernel
theorem dX9_best_65 : decode cX9_best 65 = .ok (.getfield 204, 3) := by decide +kernel
theorem dX9_best_68 : decode cX9_best 68 = .ok (.ireturn, 1) := by decide +kernel
theorem dX9_best_69 : decode cX9_best 69 = .ok (.aload_n 0, 1) := by decide +kernel
theorem dX9_best_70 : decode cX9_best 70 = .ok (.getfield 34, 3) := by decide +kernel
theorem dX9_best_73 : decode cX9_best 73 = .ok (.getfield 206, 3) := by decide +kernel
theorem dX9_best_76 : decode cX9_best 76 = .ok (.iload_n 1, 1) := by decide +kernel
theorem dX9_best_77 : decode cX9_best 77 = .ok (.iaload, 1) := by decide +kernel
theorem dX9_best_78 : decode cX9_best 78 = .ok (.ireturn, 1) := by decide +kernel
theorem dX9_pack_0 : decode cX9_pack 0 = .ok (.aload_n 0, 1) := by decide +kernel
theorem dX9_pack_1 : decode cX9_pack 1 = .ok (.getfield 34, 3) := by decide +kernel
theorem dX9_pack_4 : decode cX9_pack 4 = .ok (.invokevirtual 196, 3) := by decide +kernel
theorem dX9_pack_7 : decode cX9_pack 7 = .ok (.aload_n 0, 1) := by decide +kernel
theorem dX9_pack_8 : decode cX9_pack 8 = .ok (.getfield 34, 3) := by decide +kernel
theorem dX9_pack_11 : decode cX9_pack 11 = .ok (.getfield 199, 3) := by decide +kernel
theorem dX9_pack_14 : decode cX9_pack 14 = .ok (.ifCond .ne 6, 3) := by decide +kernel
theorem dX9_pack_17 : decode cX9_pack 17 = .ok (.bipush (-4), 2) := by decide +kernel
theorem dX9_pack_19 : decode cX9_pack 19 = .ok (.ireturn, 1) := by decide +kernel
theorem dX9_pack_20 : decode cX9_pack 20 = .ok (.aload_n 0, 1) := by decide +kernel
theorem dX9_pack_21 : decode cX9_pack 21 = .ok (.getfield 10, 3) := by decide +kernel
theorem dX9_pack_24 : decode cX9_pack 24 = .ok (.aload_n 0, 1) := by decide +kernel
theorem dX9_pack_25 : decode cX9_pack 25 = .ok (.getfield 34, 3) := by decide +kernel
theorem dX9_pack_28 : decode cX9_pack 28 = .ok (.getfield 206, 3) := by decide +kernel
theorem dX9_pack_31 : decode cX9_pack 31 = .ok (.invokevirtual 209, 3) := by decide +kernel
theorem dX9_pack_34 : decode cX9_pack 34 = .ok (.aload_n 0, 1) := by decide +kernel
theorem dX9_pack_35 : decode cX9_pack 35 = .ok (.getfield 34, 3) := by decide +kernel
theorem dX9_pack_38 : decode cX9_pack 38 = .ok (.getfield 202, 3) := by decide +kernel
theorem dX9_pack_41 : decode cX9_pack 41 = .ok (.ireturn, 1) := by decide +kernel
theorem dX9_evenest_0 : decode cX9_evenest 0 = .ok (.aload_n 0, 1) := by decide +kernel
theorem dX9_evenest_1 : decode cX9_evenest 1 = .ok (.iload_n 1, 1) := by decide +kernel
theorem dX9_evenest_2 : decode cX9_evenest 2 = .ok (.invokevirtual 129, 3) := by decide +kernel
theorem dX9_evenest_5 : decode cX9_evenest 5 = .ok (.ifCond .eq 16, 3) := by decide +kernel
theorem dX9_evenest_8 : decode cX9_evenest 8 = .ok (.iload_n 2, 1) := by decide +kernel
theorem dX9_evenest_9 : decode cX9_evenest 9 = .ok (.iconst (-1), 1) := by decide +kernel
theorem dX9_evenest_10 : decode cX9_evenest 10 = .ok (.if_icmp .eq 13, 3) := by decide +kernel
theorem dX9_evenest_13 : decode cX9_evenest 13 = .ok (.aload_n 0, 1) := by decide +kernel
theorem dX9_evenest_14 : decode cX9_evenest 14 = .ok (.iload_n 2, 1) := by decide +kernel
theorem dX9_evenest_15 : decode cX9_evenest 15 = .ok (.invokevirtual 93, 3) := by decide +kernel
theorem dX9_evenest_18 : decode cX9_evenest 18 = .ok (.ifCond .ne 5, 3) := by decide +kernel
theorem dX9_evenest_21 : decode cX9_evenest 21 = .ok (.iconst (-1), 1) := by decide +kernel
theorem dX9_evenest_22 : decode cX9_evenest 22 = .ok (.ireturn, 1) := by decide +kernel
theorem dX9_evenest_23 : decode cX9_evenest 23 = .ok (.aload_n 0, 1) := by decide +kernel
theorem dX9_evenest_24 : decode cX9_evenest 24 = .ok (.getfield 10, 3) := by decide +kernel
theorem dX9_evenest_27 : decode cX9_evenest 27 = .ok (.iload_n 1, 1) := by decide +kernel
theorem dX9_evenest_28 : decode cX9_evenest 28 = .ok (.invokevirtual 213, 3) := by decide +kernel
theorem dX9_evenest_31 : decode cX9_evenest 31 = .ok (.istore_n 3, 1) := by decide +kernel
theorem dX9_evenest_32 : decode cX9_evenest 32 = .ok (.iload_n 2, 1) := by decide +kernel
theorem dX9_evenest_33 : decode cX9_evenest 33 = .ok (.ifCond .ge 16, 3) := by decide +kernel
theorem dX9_evenest_36 : decode cX9_evenest 36 = .ok (.aload_n 0, 1) := by decide +kernel
theorem dX9_evenest_37 : decode cX9_evenest 37 = .ok (.getfield 10, 3) := by decide +kernel
theorem dX9_evenest_40 : decode cX9_evenest 40 = .ok (.iload_n 3, 1) := by decide +kernel
theorem dX9_evenest_41 : decode cX9_evenest 41 = .ok (.iload_n 1, 1) := by decide +kernel
theorem dX9_evenest_42 : decode cX9_evenest 42 = .ok (.invokevirtual 216, 3) := by decide +kernel
theorem dX9_evenest_45 : decode cX9_evenest 45 = .ok (.invokestatic 219, 3) := by decide +kernel
theorem dX9_evenest_48 : decode cX9_evenest 48 = .ok (.ireturn, 1) := by decide +kernel
theorem dX9_evenest_49 : decode cX9_evenest 49 = .ok (.aload_n 0, 1) := by decide +kernel
theorem dX9_evenest_50 : decode cX9_evenest 50 = .ok (.getfield 10, 3) := by decide +kernel
theorem dX9_evenest_53 : decode cX9_evenest 53 = .ok (.iload_n 3, 1) := by decide +kernel
theorem dX9_evenest_54 : decode cX9_evenest 54 = .ok (.iload_n 2, 1) := by decide +kernel
theorem dX9_evenest_55 : decode cX9_evenest 55 = .ok (.invokevirtual 224, 3) := by decide +kernel
theorem dX9_evenest_58 : decode cX9_evenest 58 = .ok (.ifCond .eq 7, 3) := by decide +kernel
theorem dX9_evenest_61 : decode cX9_evenest 61 = .ok (.iconst 1, 1) := by decide +kernel
theorem dX9_evenest_62 : decode cX9_evenest 62 = .ok (.goto 4, 3) := by decide +kernel
theorem dX9_evenest_65 : decode cX9_evenest 65 = .ok (.iconst 0, 1) := by decide +kernel
theorem dX9_evenest_66 : decode cX9_evenest 66 = .ok (.ireturn, 1) := by decide +kernel
theorem dX9_moved_0 : decode cX9_moved 0 = .ok (.aload_n 0, 1) := by decide +kernel
theorem dX9_moved_1 : decode cX9_moved 1 = .ok (.iload_n 1, 1) := by decide +kernel
theorem dX9_moved_2 : decode cX9_moved 2 = .ok (.invokevirtual 129, 3) := by decide +kernel
theorem dX9_moved_5 : decode cX9_moved 5 = .ok (.ifCond .eq 26, 3) := by decide +kernel
theorem dX9_moved_8 : decode cX9_moved 8 = .ok (.iload_n 2, 1) := by decide +kernel
theorem dX9_moved_9 : decode cX9_moved 9 = .ok (.iconst 0, 1) := by decide +kernel
theorem dX9_moved_10 : decode cX9_moved 10 = .ok (.ldc 228, 2) := by decide +kernel
theorem dX9_moved_12 : decode cX9_moved 12 = .ok (.invokestatic 81, 3) := by decide +kernel
theorem dX9_moved_15 : decode cX9_moved 15 = .ok (.ifCond .eq 16, 3) := by decide +kernel
theorem dX9_moved_18 : decode cX9_moved 18 = .ok (.iload_n 3, 1) := by decide +kernel
theorem dX9_moved_19 : decode cX9_moved 19 = .ok (.iconst (-1), 1) := by decide +kernel
theorem dX9_moved_20 : decode cX9_moved 20 = .ok (.if_icmp .eq 13, 3) := by decide +kernel
theorem dX9_moved_23 : decode cX9_moved 23 = .ok (.aload_n 0, 1) := by decide +kernel
theorem dX9_moved_24 : decode cX9_moved 24 = .ok (.iload_n 3, 1) := by decide +kernel
theorem dX9_moved_25 : decode cX9_moved 25 = .ok (.invokevirtual 93, 3) := by decide +kernel
theorem dX9_moved_28 : decode cX9_moved 28 = .ok (.ifCond .ne 5, 3) := by decide +kernel
theorem dX9_moved_31 : decode cX9_moved 31 = .ok (.iconst (-1), 1) := by decide +kernel
theorem dX9_moved_32 : decode cX9_moved 32 = .ok (.ireturn, 1) := by decide +kernel
theorem dX9_moved_33 : decode cX9_moved 33 = .ok (.aload_n 0, 1) := by decide +kernel
theorem dX9_moved_34 : decode cX9_moved 34 = .ok (.getfield 41, 3) := by decide +kernel
theorem dX9_moved_37 : decode cX9_moved 37 = .ok (.iload_n 1, 1) := by decide +kernel
theorem dX9_moved_38 : decode cX9_moved 38 = .ok (.iload_n 2, 1) := by decide +kernel
theorem dX9_moved_39 : decode cX9_moved 39 = .ok (.invokevirtual 229, 3) := by decide +kernel
theorem dX9_moved_42 : decode cX9_moved 42 = .ok (.aload_n 0, 1) := by decide +kernel
theorem dX9_moved_43 : decode cX9_moved 43 = .ok (.getfield 41, 3) := by decide +kernel
theorem dX9_moved_46 : decode cX9_moved 46 = .ok (.invokevirtual 233, 3) := by decide +kernel
theorem dX9_moved_49 : decode cX9_moved 49 = .ok (.aload_n 0, 1) := by decide +kernel
theorem dX9_moved_50 : decode cX9_moved 50 = .ok (.getfield 41, 3) := by decide +kernel
theorem dX9_moved_53 : decode cX9_moved 53 = .ok (.getfield 234, 3) := by decide +kernel
theorem dX9_moved_56 : decode cX9_moved 56 = .ok (.ifCond .ne 6, 3) := by decide +kernel
theorem dX9_moved_59 : decode cX9_moved 59 = .ok (.bipush (-4), 2) := by decide +kernel
theorem dX9_moved_61 : decode cX9_moved 61 = .ok (.ireturn, 1) := by decide +kernel
theorem dX9_moved_62 : decode cX9_moved 62 = .ok (.iload_n 3, 1) := by decide +kernel
theorem dX9_moved_63 : decode cX9_moved 63 = .ok (.ifCond .ge 13, 3) := by decide +kernel
theorem dX9_moved_66 : decode cX9_moved 66 = .ok (.aload_n 0, 1) := by decide +kernel
theorem dX9_moved_67 : decode cX9_moved 67 = .ok (.getfield 41, 3) := by decide +kernel
theorem dX9_moved_70 : decode cX9_moved 70 = .ok (.getfield 235, 3) := by decide +kernel
theorem dX9_moved_73 : decode cX9_moved 73 = .ok (.goto 12, 3) := by decide +kernel
theorem dX9_moved_76 : decode cX9_moved 76 = .ok (.aload_n 0, 1) := by decide +kernel
theorem dX9_moved_77 : decode cX9_moved 77 = .ok (.getfield 41, 3) := by decide +kernel
theorem dX9_moved_80 : decode cX9_moved 80 = .ok (.getfield 238, 3) := by decide +kernel
theorem dX9_moved_83 : decode cX9_moved 83 = .ok (.iload_n 3, 1) := by decide +kernel
theorem dX9_moved_84 : decode cX9_moved 84 = .ok (.iaload, 1) := by decide +kernel
theorem dX9_moved_85 : decode cX9_moved 85 = .ok (.ireturn, 1) := by decide +kernel
theorem dX9_hands_0 : decode cX9_hands 0 = .ok (.iload_n 1, 1) := by decide +kernel
theorem dX9_hands_1 : decode cX9_hands 1 = .ok (.invokestatic 119, 3) := by decide +kernel
theorem dX9_hands_4 : decode cX9_hands 4 = .ok (.ifCond .eq 12, 3) := by decide +kernel
theorem dX9_hands_7 : decode cX9_hands 7 = .ok (.iload_n 2, 1) := by decide +kernel
theorem dX9_hands_8 : decode cX9_hands 8 = .ok (.iconst 0, 1) := by decide +kernel
theorem dX9_hands_9 : decode cX9_hands 9 = .ok (.iconst 1, 1) := by decide +kernel
theorem dX9_hands_10 : decode cX9_hands 10 = .ok (.invokestatic 81, 3) := by decide +kernel
theorem dX9_hands_13 : decode cX9_hands 13 = .ok (.ifCond .ne 5, 3) := by decide +kernel
theorem dX9_hands_16 : decode cX9_hands 16 = .ok (.iconst (-1), 1) := by decide +kernel
theorem dX9_hands_17 : decode cX9_hands 17 = .ok (.ireturn, 1) := by decide +kernel
theorem dX9_hands_18 : decode cX9_hands 18 = .ok (.aload_n 0, 1) := by decide +kernel
theorem dX9_hands_19 : decode cX9_hands 19 = .ok (.getfield 10, 3) := by decide +kernel
theorem dX9_hands_22 : decode cX9_hands 22 = .ok (.getfield 144, 3) := by decide +kernel
theorem dX9_hands_25 : decode cX9_hands 25 = .ok (.iconst 0, 1) := by decide +kernel
theorem dX9_hands_26 : decode cX9_hands 26 = .ok (.iaload, 1) := by decide +kernel
theorem dX9_hands_27 : decode cX9_hands 27 = .ok (.istore_n 3, 1) := by decide +kernel
theorem dX9_hands_28 : decode cX9_hands 28 = .ok (.iload_n 3, 1) := by decide +kernel
theorem dX9_hands_29 : decode cX9_hands 29 = .ok (.aload_n 0, 1) := by decide +kernel
theorem dX9_hands_30 : decode cX9_hands 30 = .ok (.getfield 10, 3) := by decide +kernel
theorem dX9_hands_33 : decode cX9_hands 33 = .ok (.getfield 144, 3) := by decide +kernel
theorem dX9_hands_36 : decode cX9_hands 36 = .ok (.iconst 1, 1) := by decide +kernel
theorem dX9_hands_37 : decode cX9_hands 37 = .ok (.iaload, 1) := by decide +kernel
theorem dX9_hands_38 : decode cX9_hands 38 = .ok (.iadd, 1) := by decide +kernel
theorem dX9_hands_39 : decode cX9_hands 39 = .ok (.istore 4, 2) := by decide +kernel
theorem dX9_hands_41 : decode cX9_hands 41 = .ok (.iconst 0, 1) := by decide +kernel
theorem dX9_hands_42 : decode cX9_hands 42 = .ok (.istore 5, 2) := by decide +kernel
theorem dX9_hands_44 : decode cX9_hands 44 = .ok (.iconst 0, 1) := by decide +kernel
theorem dX9_hands_45 : decode cX9_hands 45 = .ok (.istore 6, 2) := by decide +kernel
theorem dX9_hands_47 : decode cX9_hands 47 = .ok (.iload 6, 2) := by decide +kernel
theorem dX9_hands_49 : decode cX9_hands 49 = .ok (.aload_n 0, 1) := by decide +kernel
theorem dX9_hands_50 : decode cX9_hands 50 = .ok (.getfield 10, 3) := by decide +kernel
theorem dX9_hands_53 : decode cX9_hands 53 = .ok (.getfield 122, 3) := by decide +kernel
theorem dX9_hands_56 : decode cX9_hands 56 = .ok (.if_icmp .ge 61, 3) := by decide +kernel
theorem dX9_hands_59 : decode cX9_hands 59 = .ok (.aload_n 0, 1) := by decide +kernel
theorem dX9_hands_60 : decode cX9_hands 60 = .ok (.getfield 10, 3) := by decide +kernel
theorem dX9_hands_63 : decode cX9_hands 63 = .ok (.iload_n 1, 1) := by decide +kernel
theorem dX9_hands_64 : decode cX9_hands 64 = .ok (.iload 6, 2) := by decide +kernel
theorem dX9_hands_66 : decode cX9_hands 66 = .ok (.invokevirtual 180, 3) := by decide +kernel
theorem dX9_hands_69 : decode cX9_hands 69 = .ok (.aload_n 0, 1) := by decide +kernel
theorem dX9_hands_70 : decode cX9_hands 70 = .ok (.getfield 10, 3) := by decide +kernel
theorem dX9_hands_73 : decode cX9_hands 73 = .ok (.iload 6, 2) := by decide +kernel
theorem dX9_hands_75 : decode cX9_hands 75 = .ok (.invokevirtual 239, 3) := by decide +kernel
theorem dX9_hands_78 : decode cX9_hands 78 = .ok (.imul, 1) := by decide +kernel
theorem dX9_hands_79 : decode cX9_hands 79 = .ok (.istore 7, 2) := by decide +kernel
theorem dX9_hands_81 : decode cX9_hands 81 = .ok (.iload 5, 2) := by decide +kernel
theorem dX9_hands_83 : decode cX9_hands 83 = .ok (.iload 7, 2) := by decide +kernel
theorem dX9_hands_85 : decode cX9_hands 85 = .ok (.aload_n 0, 1) := by decide +kernel
theorem dX9_hands_86 : decode cX9_hands 86 = .ok (.getfield 10, 3) := by decide +kernel
theorem dX9_hands_89 : decode cX9_hands 89 = .ok (.getfield 132, 3) := by decide +kernel
theorem dX9_hands_92 : decode cX9_hands 92 = .ok (.iload 6, 2) := by decide +kernel
theorem dX9_hands_94 : decode cX9_hands 94 = .ok (.iaload, 1) := by decide +kernel
theorem dX9_hands_95 : decode cX9_hands 95 = .ok (.imul, 1) := by decide +kernel
theorem dX9_hands_96 : decode cX9_hands 96 = .ok (.iadd, 1) := by decide +kernel
theorem dX9_hands_97 : decode cX9_hands 97 = .ok (.istore 5, 2) := by decide +kernel
theorem dX9_hands_99 : decode cX9_hands 99 = .ok (.aload_n 0, 1) := by decide +kernel
theorem dX9_hands_100 : decode cX9_hands 100 = .ok (.getfield 73, 3) := by decide +kernel
theorem dX9_hands_103 : decode cX9_hands 103 = .ok (.iload 6, 2) := by decide +kernel
theorem dX9_hands_105 : decode cX9_hands 105 = .ok (.iload 7, 2) := by decide +kernel
theorem dX9_hands_107 : decode cX9_hands 107 = .ok (.iload 4, 2) := by decide +kernel
theorem dX9_hands_109 : decode cX9_hands 109 = .ok (.imul, 1) := by decide +kernel
theorem dX9_hands_110 : decode cX9_hands 110 = .ok (.iastore, 1) := by decide +kernel
theorem dX9_hands_111 : decode cX9_hands 111 = .ok (.iinc 6 1, 3) := by decide +kernel
theorem dX9_hands_114 : decode cX9_hands 114 = .ok (.goto (-67), 3) := by decide +kernel
theorem dX9_hands_117 : decode cX9_hands 117 = .ok (.iload 5, 2) := by decide +kernel
theorem dX9_hands_119 : decode cX9_hands 119 = .ok (.ifCond .ne 12, 3) := by decide +kernel
theorem dX9_hands_122 : decode cX9_hands 122 = .ok (.iconst 0, 1) := by decide +kernel
theorem dX9_hands_123 : decode cX9_hands 123 = .ok (.iconst 1, 1) := by decide +kernel
theorem dX9_hands_124 : decode cX9_hands 124 = .ok (.iload_n 2, 1) := by decide +kernel
theorem dX9_hands_125 : decode cX9_hands 125 = .ok (.invokestatic 242, 3) := by decide +kernel
theorem dX9_hands_128 : decode cX9_hands 128 = .ok (.goto 12, 3) := by decide +kernel
theorem dX9_hands_131 : decode cX9_hands 131 = .ok (.aload_n 0, 1) := by decide +kernel
theorem dX9_hands_132 : decode cX9_hands 132 = .ok (.iload_n 3, 1) := by decide +kernel
theorem dX9_hands_133 : decode cX9_hands 133 = .ok (.iload 5, 2) := by decide +kernel
theorem dX9_hands_135 : decode cX9_hands 135 = .ok (.imul, 1) := by decide +kernel
theorem dX9_hands_136 : decode cX9_hands 136 = .ok (.iload_n 2, 1) := by decide +kernel
theorem dX9_hands_137 : decode cX9_hands 137 = .ok (.invokevirtual 245, 3) := by decide +kernel
theorem dX9_hands_140 : decode cX9_hands 140 = .ok (.ireturn, 1) := by decide +kernel
theorem dX9_buying_0 : decode cX9_buying 0 = .ok (.iload_n 1, 1) := by decide +kernel
theorem dX9_buying_1 : decode cX9_buying 1 = .ok (.iconst (-1), 1) := by decide +kernel
theorem dX9_buying_2 : decode cX9_buying 2 = .ok (.if_icmp .eq 13, 3) := by decide +kernel
theorem dX9_buying_5 : decode cX9_buying 5 = .ok (.aload_n 0, 1) := by decide +kernel
theorem dX9_buying_6 : decode cX9_buying 6 = .ok (.iload_n 1, 1) := by decide +kernel
theorem dX9_buying_7 : decode cX9_buying 7 = .ok (.invokevirtual 93, 3) := by decide +kernel
theorem dX9_buying_10 : decode cX9_buying 10 = .ok (.ifCond .ne 5, 3) := by decide +kernel
theorem dX9_buying_13 : decode cX9_buying 13 = .ok (.iconst (-1), 1) := by decide +kernel
theorem dX9_buying_14 : decode cX9_buying 14 = .ok (.ireturn, 1) := by decide +kernel
theorem dX9_buying_15 : decode cX9_buying 15 = .ok (.aload_n 0, 1) := by decide +kernel
theorem dX9_buying_16 : decode cX9_buying 16 = .ok (.getfield 55, 3) := by decide +kernel
theorem dX9_buying_19 : decode cX9_buying 19 = .ok (.invokevirtual 248, 3) := by decide +kernel
theorem dX9_buying_22 : decode cX9_buying 22 = .ok (.iload_n 1, 1) := by decide +kernel
theorem dX9_buying_23 : decode cX9_buying 23 = .ok (.ifCond .ge 13, 3) := by decide +kernel
theorem dX9_buying_26 : decode cX9_buying 26 = .ok (.aload_n 0, 1) := by decide +kernel
theorem dX9_buying_27 : decode cX9_buying 27 = .ok (.getfield 55, 3) := by decide +kernel
theorem dX9_buying_30 : decode cX9_buying 30 = .ok (.getfield 249, 3) := by decide +kernel
theorem dX9_buying_33 : decode cX9_buying 33 = .ok (.goto 12, 3) := by decide +kernel
theorem dX9_buying_36 : decode cX9_buying 36 = .ok (.aload_n 0, 1) := by decide +kernel
theorem dX9_buying_37 : decode cX9_buying 37 = .ok (.getfield 55, 3) := by decide +kernel
theorem dX9_buying_40 : decode cX9_buying 40 = .ok (.getfield 252, 3) := by decide +kernel
theorem dX9_buying_43 : decode cX9_buying 43 = .ok (.iload_n 1, 1) := by decide +kernel
theorem dX9_buying_44 : decode cX9_buying 44 = .ok (.iaload, 1) := by decide +kernel
theorem dX9_buying_45 : decode cX9_buying 45 = .ok (.ireturn, 1) := by decide +kernel
theorem dX9_paper_0 : decode cX9_paper 0 = .ok (.iload_n 1, 1) := by decide +kernel
theorem dX9_paper_1 : decode cX9_paper 1 = .ok (.invokestatic 119, 3) := by decide +kernel
theorem dX9_paper_4 : decode cX9_paper 4 = .ok (.ifCond .eq 12, 3) := by decide +kernel
theorem dX9_paper_7 : decode cX9_paper 7 = .ok (.iload_n 2, 1) := by decide +kernel
theorem dX9_paper_8 : decode cX9_paper 8 = .ok (.iconst 0, 1) := by decide +kernel
theorem dX9_paper_9 : decode cX9_paper 9 = .ok (.iconst 1, 1) := by decide +kernel
theorem dX9_paper_10 : decode cX9_paper 10 = .ok (.invokestatic 81, 3) := by decide +kernel
theorem dX9_paper_13 : decode cX9_paper 13 = .ok (.ifCond .ne 5, 3) := by decide +kernel
theorem dX9_paper_16 : decode cX9_paper 16 = .ok (.iconst (-1), 1) := by decide +kernel
theorem dX9_paper_17 : decode cX9_paper 17 = .ok (.ireturn, 1) := by decide +kernel
theorem dX9_paper_18 : decode cX9_paper 18 = .ok (.aload_n 0, 1) := by decide +kernel
theorem dX9_paper_19 : decode cX9_paper 19 = .ok (.getfield 10, 3) := by decide +kernel
theorem dX9_paper_22 : decode cX9_paper 22 = .ok (.getfield 141, 3) := by decide +kernel
theorem dX9_paper_25 : decode cX9_paper 25 = .ok (.iload_n 1, 1) := by decide +kernel
theorem dX9_paper_26 : decode cX9_paper 26 = .ok (.iaload, 1) := by decide +kernel
theorem dX9_paper_27 : decode cX9_paper 27 = .ok (.ifCond .ne 6, 3) := by decide +kernel
theorem dX9_paper_30 : decode cX9_paper 30 = .ok (.bipush (-4), 2) := by decide +kernel
theorem dX9_paper_32 : decode cX9_paper 32 = .ok (.ireturn, 1) := by decide +kernel
theorem dX9_paper_33 : decode cX9_paper 33 = .ok (.iconst 0, 1) := by decide +kernel
theorem dX9_paper_34 : decode cX9_paper 34 = .ok (.istore_n 3, 1) := by decide +kernel
theorem dX9_paper_35 : decode cX9_paper 35 = .ok (.iload_n 3, 1) := by decide +kernel
theorem dX9_paper_36 : decode cX9_paper 36 = .ok (.aload_n 0, 1) := by decide +kernel
theorem dX9_paper_37 : decode cX9_paper 37 = .ok (.getfield 10, 3) := by decide +kernel
theorem dX9_paper_40 : decode cX9_paper 40 = .ok (.getfield 122, 3) := by decide +kernel
theorem dX9_paper_43 : decode cX9_paper 43 = .ok (.if_icmp .ge 24, 3) := by decide +kernel
theorem dX9_paper_46 : decode cX9_paper 46 = .ok (.aload_n 0, 1) := by decide +kernel
theorem dX9_paper_47 : decode cX9_paper 47 = .ok (.getfield 73, 3) := by decide +kernel
theorem dX9_paper_50 : decode cX9_paper 50 = .ok (.iload_n 3, 1) := by decide +kernel
theorem dX9_paper_51 : decode cX9_paper 51 = .ok (.aload_n 0, 1) := by decide +kernel
theorem dX9_paper_52 : decode cX9_paper 52 = .ok (.getfield 10, 3) := by decide +kernel
theorem dX9_paper_55 : decode cX9_paper 55 = .ok (.iload_n 1, 1) := by decide +kernel
theorem dX9_paper_56 : decode cX9_paper 56 = .ok (.iload_n 3, 1) := by decide +kernel
theorem dX9_paper_57 : decode cX9_paper 57 = .ok (.invokevirtual 255, 3) := by decide +kernel
theorem dX9_paper_60 : decode cX9_paper 60 = .ok (.iastore, 1) := by decide +kernel
theorem dX9_paper_61 : decode cX9_paper 61 = .ok (.iinc 3 1, 3) := by decide +kernel
theorem dX9_paper_64 : decode cX9_paper 64 = .ok (.goto (-29), 3) := by decide +kernel
theorem dX9_paper_67 : decode cX9_paper 67 = .ok (.aload_n 0, 1) := by decide +kernel
theorem dX9_paper_68 : decode cX9_paper 68 = .ok (.aload_n 0, 1) := by decide +kernel
theorem dX9_paper_69 : decode cX9_paper 69 = .ok (.getfield 10, 3) := by decide +kernel
theorem dX9_paper_72 : decode cX9_paper 72 = .ok (.getfield 141, 3) := by decide +kernel
theorem dX9_paper_75 : decode cX9_paper 75 = .ok (.iload_n 1, 1) := by decide +kernel
theorem dX9_paper_76 : decode cX9_paper 76 = .ok (.iaload, 1) := by decide +kernel
theorem dX9_paper_77 : decode cX9_paper 77 = .ok (.iload_n 2, 1) := by decide +kernel
theorem dX9_paper_78 : decode cX9_paper 78 = .ok (.invokevirtual 245, 3) := by decide +kernel
theorem dX9_paper_81 : decode cX9_paper 81 = .ok (.ireturn, 1) := by decide +kernel
theorem dX9_pole_0 : decode cX9_pole 0 = .ok (.aload_n 0, 1) := by decide +kernel
theorem dX9_pole_1 : decode cX9_pole 1 = .ok (.iload_n 1, 1) := by decide +kernel
theorem dX9_pole_2 : decode cX9_pole 2 = .ok (.invokevirtual 93, 3) := by decide +kernel
theorem dX9_pole_5 : decode cX9_pole 5 = .ok (.ifCond .eq 37, 3) := by decide +kernel
theorem dX9_pole_8 : decode cX9_pole 8 = .ok (.aload_n 0, 1) := by decide +kernel
theorem dX9_pole_9 : decode cX9_pole 9 = .ok (.iload_n 2, 1) := by decide +kernel
theorem dX9_pole_10 : decode cX9_pole 10 = .ok (.invokevirtual 93, 3) := by decide +kernel
theorem dX9_pole_13 : decode cX9_pole 13 = .ok (.ifCond .eq 29, 3) := by decide +kernel
theorem dX9_pole_16 : decode cX9_pole 16 = .ok (.iload_n 1, 1) := by decide +kernel
theorem dX9_pole_17 : decode cX9_pole 17 = .ok (.iload_n 2, 1) := by decide +kernel
theorem dX9_pole_18 : decode cX9_pole 18 = .ok (.if_icmp .eq 24, 3) := by decide +kernel
theorem dX9_pole_21 : decode cX9_pole 21 = .ok (.iload_n 3, 1) := by decide +kernel
theorem dX9_pole_22 : decode cX9_pole 22 = .ok (.iconst 1, 1) := by decide +kernel
theorem dX9_pole_23 : decode cX9_pole 23 = .ok (.sipush 999, 3) := by decide +kernel
theorem dX9_pole_26 : decode cX9_pole 26 = .ok (.invokestatic 81, 3) := by decide +kernel
theorem dX9_pole_29 : decode cX9_pole 29 = .ok (.ifCond .eq 13, 3) := by decide +kernel
theorem dX9_pole_32 : decode cX9_pole 32 = .ok (.iload 4, 2) := by decide +kernel
theorem dX9_pole_34 : decode cX9_pole 34 = .ok (.iconst 0, 1) := by decide +kernel
theorem dX9_pole_35 : decode cX9_pole 35 = .ok (.iconst 1, 1) := by decide +kernel
theorem dX9_pole_36 : decode cX9_pole 36 = .ok (.invokestatic 81, 3) := by decide +kernel
theorem dX9_pole_39 : decode cX9_pole 39 = .ok (.ifCond .ne 5, 3) := by decide +kernel
theorem dX9_pole_42 : decode cX9_pole 42 = .ok (.iconst (-1), 1) := by decide +kernel
theorem dX9_pole_43 : decode cX9_pole 43 = .ok (.ireturn, 1) := by decide +kernel
theorem dX9_pole_44 : decode cX9_pole 44 = .ok (.aload_n 0, 1) := by decide +kernel
theorem dX9_pole_45 : decode cX9_pole 45 = .ok (.getfield 10, 3) := by decide +kernel
theorem dX9_pole_48 : decode cX9_pole 48 = .ok (.getfield 100, 3) := by decide +kernel
theorem dX9_pole_51 : decode cX9_pole 51 = .ok (.iload_n 1, 1) := by decide +kernel
theorem dX9_pole_52 : decode cX9_pole 52 = .ok (.iaload, 1) := by decide +kernel
theorem dX9_pole_53 : decode cX9_pole 53 = .ok (.aload_n 0, 1) := by decide +kernel
theorem dX9_pole_54 : decode cX9_pole 54 = .ok (.getfield 10, 3) := by decide +kernel
theorem dX9_pole_57 : decode cX9_pole 57 = .ok (.getfield 100, 3) := by decide +kernel
theorem dX9_pole_60 : decode cX9_pole 60 = .ok (.iload_n 2, 1) := by decide +kernel
theorem dX9_pole_61 : decode cX9_pole 61 = .ok (.iaload, 1) := by decide +kernel
theorem dX9_pole_62 : decode cX9_pole 62 = .ok (.iload_n 3, 1) := by decide +kernel
theorem dX9_pole_63 : decode cX9_pole 63 = .ok (.iload 4, 2) := by decide +kernel
theorem dX9_pole_65 : decode cX9_pole 65 = .ok (.invokestatic 258, 3) := by decide +kernel
theorem dX9_pole_68 : decode cX9_pole 68 = .ok (.ireturn, 1) := by decide +kernel
theorem dX9_bar_0 : decode cX9_bar 0 = .ok (.aload_n 0, 1) := by decide +kernel
theorem dX9_bar_1 : decode cX9_bar 1 = .ok (.iload_n 1, 1) := by decide +kernel
theorem dX9_bar_2 : decode cX9_bar 2 = .ok (.invokevirtual 262, 3) := by decide +kernel
theorem dX9_bar_5 : decode cX9_bar 5 = .ok (.ifCond .eq 16, 3) := by decide +kernel
theorem dX9_bar_8 : decode cX9_bar 8 = .ok (.aload_n 0, 1) := by decide +kernel
theorem dX9_bar_9 : decode cX9_bar 9 = .ok (.iload_n 2, 1) := by decide +kernel
theorem dX9_bar_10 : decode cX9_bar 10 = .ok (.invokevirtual 262, 3) := by decide +kernel
theorem dX9_bar_13 : decode cX9_bar 13 = .ok (.ifCond .eq 8, 3) := by decide +kernel
theorem dX9_bar_16 : decode cX9_bar 16 = .ok (.iload_n 1, 1) := by decide +kernel
theorem dX9_bar_17 : decode cX9_bar 17 = .ok (.iload_n 2, 1) := by decide +kernel
theorem dX9_bar_18 : decode cX9_bar 18 = .ok (.if_icmp .ne 5, 3) := by decide +kernel
theorem dX9_bar_21 : decode cX9_bar 21 = .ok (.iconst (-1), 1) := by decide +kernel
theorem dX9_bar_22 : decode cX9_bar 22 = .ok (.ireturn, 1) := by decide +kernel
theorem dX9_bar_23 : decode cX9_bar 23 = .ok (.aload_n 0, 1) := by decide +kernel
theorem dX9_bar_24 : decode cX9_bar 24 = .ok (.getfield 10, 3) := by decide +kernel
theorem dX9_bar_27 : decode cX9_bar 27 = .ok (.iload_n 1, 1) := by decide +kernel
theorem dX9_bar_28 : decode cX9_bar 28 = .ok (.invokevirtual 112, 3) := by decide +kernel
theorem dX9_bar_31 : decode cX9_bar 31 = .ok (.ifCond .ne 14, 3) := by decide +kernel
theorem dX9_bar_34 : decode cX9_bar 34 = .ok (.aload_n 0, 1) := by decide +kernel
theorem dX9_bar_35 : decode cX9_bar 35 = .ok (.getfield 10, 3) := by decide +kernel
theorem dX9_bar_38 : decode cX9_bar 38 = .ok (.iload_n 2, 1) := by decide +kernel
theorem dX9_bar_39 : decode cX9_bar 39 = .ok (.invokevirtual 112, 3) := by decide +kernel
theorem dX9_bar_42 : decode cX9_bar 42 = .ok (.ifCond .eq 6, 3) := by decide +kernel
theorem dX9_bar_45 : decode cX9_bar 45 = .ok (.bipush (-2), 2) := by decide +kernel
theorem dX9_bar_47 : decode cX9_bar 47 = .ok (.ireturn, 1) := by decide +kernel
theorem dX9_bar_48 : decode cX9_bar 48 = .ok (.aload_n 0, 1) := by decide +kernel
theorem dX9_bar_49 : decode cX9_bar 49 = .ok (.getfield 10, 3) := by decide +kernel
theorem dX9_bar_52 : decode cX9_bar 52 = .ok (.getfield 174, 3) := by decide +kernel
theorem dX9_bar_55 : decode cX9_bar 55 = .ok (.bipush 6, 2) := by decide +kernel
theorem dX9_bar_57 : decode cX9_bar 57 = .ok (.if_icmp .ge 15, 3) := by decide +kernel
theorem dX9_bar_60 : decode cX9_bar 60 = .ok (.aload_n 0, 1) := by decide +kernel
theorem dX9_bar_61 : decode cX9_bar 61 = .ok (.getfield 10, 3) := by decide +kernel
theorem dX9_bar_64 : decode cX9_bar 64 = .ok (.iload_n 1, 1) := by decide +kernel
theorem dX9_bar_65 : decode cX9_bar 65 = .ok (.iload_n 2, 1) := by decide +kernel
theorem dX9_bar_66 : decode cX9_bar 66 = .ok (.invokevirtual 265, 3) := by decide +kernel
theorem dX9_bar_69 : decode cX9_bar 69 = .ok (.goto 5, 3) := by decide +kernel
theorem dX9_bar_72 : decode cX9_bar 72 = .ok (.bipush (-3), 2) := by decide +kernel
theorem dX9_bar_74 : decode cX9_bar 74 = .ok (.ireturn, 1) := by decide +kernel
theorem dX9_hung_0 : decode cX9_hung 0 = .ok (.iload_n 1, 1) := by decide +kernel
theorem dX9_hung_1 : decode cX9_hung 1 = .ok (.iconst 0, 1) := by decide +kernel
theorem dX9_hung_2 : decode cX9_hung 2 = .ok (.aload_n 0, 1) := by decide +kernel
theorem dX9_hung_3 : decode cX9_hung 3 = .ok (.getfield 10, 3) := by decide +kernel
theorem dX9_hung_6 : decode cX9_hung 6 = .ok (.getfield 174, 3) := by decide +kernel
theorem dX9_hung_9 : decode cX9_hung 9 = .ok (.iconst 1, 1) := by decide +kernel
theorem dX9_hung_10 : decode cX9_hung 10 = .ok (.isub, 1) := by decide +kernel
theorem dX9_hung_11 : decode cX9_hung 11 = .ok (.invokestatic 81, 3) := by decide +kernel
theorem dX9_hung_14 : decode cX9_hung 14 = .ok (.ifCond .eq 12, 3) := by decide +kernel
theorem dX9_hung_17 : decode cX9_hung 17 = .ok (.iload_n 2, 1) := by decide +kernel
theorem dX9_hung_18 : decode cX9_hung 18 = .ok (.iconst 0, 1) := by decide +kernel
theorem dX9_hung_19 : decode cX9_hung 19 = .ok (.iconst 2, 1) := by decide +kernel
theorem dX9_hung_20 : decode cX9_hung 20 = .ok (.invokestatic 81, 3) := by decide +kernel
theorem dX9_hung_23 : decode cX9_hung 23 = .ok (.ifCond .ne 5, 3) := by decide +kernel
theorem dX9_hung_26 : decode cX9_hung 26 = .ok (.iconst (-1), 1) := by decide +kernel
theorem dX9_hung_27 : decode cX9_hung 27 = .ok (.ireturn, 1) := by decide +kernel
theorem dX9_hung_28 : decode cX9_hung 28 = .ok (.aload_n 0, 1) := by decide +kernel
theorem dX9_hung_29 : decode cX9_hung 29 = .ok (.getfield 10, 3) := by decide +kernel
theorem dX9_hung_32 : decode cX9_hung 32 = .ok (.aload_n 0, 1) := by decide +kernel
theorem dX9_hung_33 : decode cX9_hung 33 = .ok (.getfield 10, 3) := by decide +kernel
theorem dX9_hung_36 : decode cX9_hung 36 = .ok (.getfield 268, 3) := by decide +kernel
theorem dX9_hung_39 : decode cX9_hung 39 = .ok (.iload_n 1, 1) := by decide +kernel
theorem dX9_hung_40 : decode cX9_hung 40 = .ok (.iaload, 1) := by decide +kernel
theorem dX9_hung_41 : decode cX9_hung 41 = .ok (.invokevirtual 271, 3) := by decide +kernel
theorem dX9_hung_44 : decode cX9_hung 44 = .ok (.istore_n 3, 1) := by decide +kernel
theorem dX9_hung_45 : decode cX9_hung 45 = .ok (.aload_n 0, 1) := by decide +kernel
theorem dX9_hung_46 : decode cX9_hung 46 = .ok (.getfield 10, 3) := by decide +kernel
theorem dX9_hung_49 : decode cX9_hung 49 = .ok (.aload_n 0, 1) := by decide +kernel
theorem dX9_hung_50 : decode cX9_hung 50 = .ok (.getfield 10, 3) := by decide +kernel
theorem dX9_hung_53 : decode cX9_hung 53 = .ok (.getfield 274, 3) := by decide +kernel
theorem dX9_hung_56 : decode cX9_hung 56 = .ok (.iload_n 1, 1) := by decide +kernel
theorem dX9_hung_57 : decode cX9_hung 57 = .ok (.iaload, 1) := by decide +kernel
theorem dX9_hung_58 : decode cX9_hung 58 = .ok (.invokevirtual 271, 3) := by decide +kernel
theorem dX9_hung_61 : decode cX9_hung 61 = .ok (.istore 4, 2) := by decide +kernel
theorem dX9_hung_63 : decode cX9_hung 63 = .ok (.iload_n 2, 1) := by decide +kernel
theorem dX9_hung_64 : decode cX9_hung 64 = .ok (.iconst 2, 1) := by decide +kernel
theorem dX9_hung_65 : decode cX9_hung 65 = .ok (.if_icmp .ne 10, 3) := by decide +kernel
theorem dX9_hung_68 : decode cX9_hung 68 = .ok (.iload_n 3, 1) := by decide +kernel
theorem dX9_hung_69 : decode cX9_hung 69 = .ok (.iload 4, 2) := by decide +kernel
theorem dX9_hung_71 : decode cX9_hung 71 = .ok (.iadd, 1) := by decide +kernel
theorem dX9_hung_72 : decode cX9_hung 72 = .ok (.goto 12, 3) := by decide +kernel
theorem dX9_hung_75 : decode cX9_hung 75 = .ok (.iload_n 3, 1) := by decide +kernel
theorem dX9_hung_76 : decode cX9_hung 76 = .ok (.iload 4, 2) := by decide +kernel
theorem dX9_hung_78 : decode cX9_hung 78 = .ok (.bipush 60, 2) := by decide +kernel
theorem dX9_hung_80 : decode cX9_hung 80 = .ok (.iload_n 2, 1) := by decide +kernel
theorem dX9_hung_81 : decode cX9_hung 81 = .ok (.invokestatic 258, 3) := by decide +kernel
theorem dX9_hung_84 : decode cX9_hung 84 = .ok (.ireturn, 1) := by decide +kernel
theorem dX9_image_0 : decode cX9_image 0 = .ok (.aload_n 0, 1) := by decide +kernel
theorem dX9_image_1 : decode cX9_image 1 = .ok (.getfield 16, 3) := by decide +kernel
theorem dX9_image_4 : decode cX9_image 4 = .ok (.aload_n 0, 1) := by decide +kernel
theorem dX9_image_5 : decode cX9_image 5 = .ok (.getfield 10, 3) := by decide +kernel
theorem dX9_image_8 : decode cX9_image 8 = .ok (.invokevirtual 277, 3) := by decide +kernel
theorem dX9_image_11 : decode cX9_image 11 = .ok (.aload_n 0, 1) := by decide +kernel
theorem dX9_image_12 : decode cX9_image 12 = .ok (.iconst 1, 1) := by decide +kernel
theorem dX9_image_13 : decode cX9_image 13 = .ok (.putfield 77, 3) := by decide +kernel
theorem dX9_image_16 : decode cX9_image 16 = .ok (.iconst 1, 1) := by decide +kernel
theorem dX9_image_17 : decode cX9_image 17 = .ok (.ireturn, 1) := by decide +kernel
theorem dX9_restore_0 : decode cX9_restore 0 = .ok (.aload_n 0, 1) := by decide +kernel
theorem dX9_restore_1 : decode cX9_restore 1 = .ok (.getfield 77, 3) := by decide +kernel
theorem dX9_restore_4 : decode cX9_restore 4 = .ok (.ifCond .ne 6, 3) := by decide +kernel
theorem dX9_restore_7 : decode cX9_restore 7 = .ok (.bipush (-4), 2) := by decide +kernel
theorem dX9_restore_9 : decode cX9_restore 9 = .ok (.ireturn, 1) := by decide +kernel
theorem dX9_restore_10 : decode cX9_restore 10 = .ok (.aload_n 0, 1) := by decide +kernel
theorem dX9_restore_11 : decode cX9_restore 11 = .ok (.getfield 10, 3) := by decide +kernel
theorem dX9_restore_14 : decode cX9_restore 14 = .ok (.aload_n 0, 1) := by decide +kernel
theorem dX9_restore_15 : decode cX9_restore 15 = .ok (.getfield 16, 3) := by decide +kernel
theorem dX9_restore_18 : decode cX9_restore 18 = .ok (.invokevirtual 277, 3) := by decide +kernel
theorem dX9_restore_21 : decode cX9_restore 21 = .ok (.iconst 1, 1) := by decide +kernel
theorem dX9_restore_22 : decode cX9_restore 22 = .ok (.ireturn, 1) := by decide +kernel
theorem dX9_tray_0 : decode cX9_tray 0 = .ok (.iload 4, 2) := by decide +kernel
theorem dX9_tray_2 : decode cX9_tray 2 = .ok (.iconst 0, 1) := by decide +kernel
theorem dX9_tray_3 : decode cX9_tray 3 = .ok (.sipush 9999, 3) := by decide +kernel
theorem dX9_tray_6 : decode cX9_tray 6 = .ok (.invokestatic 81, 3) := by decide +kernel
theorem dX9_tray_9 : decode cX9_tray 9 = .ok (.ifCond .eq 13, 3) := by decide +kernel
theorem dX9_tray_12 : decode cX9_tray 12 = .ok (.iload 5, 2) := by decide +kernel
theorem dX9_tray_14 : decode cX9_tray 14 = .ok (.iconst 0, 1) := by decide +kernel
theorem dX9_tray_15 : decode cX9_tray 15 = .ok (.iconst 2, 1) := by decide +kernel
theorem dX9_tray_16 : decode cX9_tray 16 = .ok (.invokestatic 81, 3) := by decide +kernel
theorem dX9_tray_19 : decode cX9_tray 19 = .ok (.ifCond .ne 5, 3) := by decide +kernel
theorem dX9_tray_22 : decode cX9_tray 22 = .ok (.iconst (-1), 1) := by decide +kernel
theorem dX9_tray_23 : decode cX9_tray 23 = .ok (.ireturn, 1) := by decide +kernel
theorem dX9_tray_24 : decode cX9_tray 24 = .ok (.aload_n 0, 1) := by decide +kernel
theorem dX9_tray_25 : decode cX9_tray 25 = .ok (.iload_n 1, 1) := by decide +kernel
theorem dX9_tray_26 : decode cX9_tray 26 = .ok (.iload_n 2, 1) := by decide +kernel
theorem dX9_tray_27 : decode cX9_tray 27 = .ok (.iload_n 3, 1) := by decide +kernel
theorem dX9_tray_28 : decode cX9_tray 28 = .ok (.bipush 8, 2) := by decide +kernel
theorem dX9_tray_30 : decode cX9_tray 30 = .ok (.invokevirtual 280, 3) := by decide +kernel
theorem dX9_tray_33 : decode cX9_tray 33 = .ok (.istore 6, 2) := by decide +kernel
theorem dX9_tray_35 : decode cX9_tray 35 = .ok (.iload 6, 2) := by decide +kernel
theorem dX9_tray_37 : decode cX9_tray 37 = .ok (.ifCond .ge 6, 3) := by decide +kernel
theorem dX9_tray_40 : decode cX9_tray 40 = .ok (.iload 6, 2) := by decide +kernel
theorem dX9_tray_42 : decode cX9_tray 42 = .ok (.ireturn, 1) := by decide +kernel
theorem dX9_tray_43 : decode cX9_tray 43 = .ok (.aload_n 0, 1) := by decide +kernel
theorem dX9_tray_44 : decode cX9_tray 44 = .ok (.getfield 62, 3) := by decide +kernel
theorem dX9_tray_47 : decode cX9_tray 47 = .ok (.aload_n 0, 1) := by decide +kernel
theorem dX9_tray_48 : decode cX9_tray 48 = .ok (.getfield 69, 3) := by decide +kernel
theorem dX9_tray_51 : decode cX9_tray 51 = .ok (.iload_n 1, 1) := by decide +kernel
theorem dX9_tray_52 : decode cX9_tray 52 = .ok (.aaload, 1) := by decide +kernel
theorem dX9_tray_53 : decode cX9_tray 53 = .ok (.iload_n 3, 1) := by decide +kernel
theorem dX9_tray_54 : decode cX9_tray 54 = .ok (.invokevirtual 283, 3) := by decide +kernel
theorem dX9_tray_57 : decode cX9_tray 57 = .ok (.ifCond .ne 6, 3) := by decide +kernel
theorem dX9_tray_60 : decode cX9_tray 60 = .ok (.bipush (-2), 2) := by decide +kernel
theorem dX9_tray_62 : decode cX9_tray 62 = .ok (.ireturn, 1) := by decide +kernel
theorem dX9_tray_63 : decode cX9_tray 63 = .ok (.iload 5, 2) := by decide +kernel
theorem dX9_tray_65 : decode cX9_tray 65 = .ok (.lookupswitch 62 #[(0, 27), (1, 52)], 27) := by decide +kernel
theorem dX9_tray_92 : decode cX9_tray 92 = .ok (.aload_n 0, 1) := by decide +kernel
theorem dX9_tray_93 : decode cX9_tray 93 = .ok (.getfield 62, 3) := by decide +kernel
theorem dX9_tray_96 : decode cX9_tray 96 = .ok (.aload_n 0, 1) := by decide +kernel
theorem dX9_tray_97 : decode cX9_tray 97 = .ok (.getfield 62, 3) := by decide +kernel
theorem dX9_tray_100 : decode cX9_tray 100 = .ok (.getfield 287, 3) := by decide +kernel
theorem dX9_tray_103 : decode cX9_tray 103 = .ok (.iload 4, 2) := by decide +kernel
theorem dX9_tray_105 : decode cX9_tray 105 = .ok (.invokevirtual 290, 3) := by decide +kernel
theorem dX9_tray_108 : decode cX9_tray 108 = .ok (.ifCond .eq 7, 3) := by decide +kernel
theorem dX9_tray_111 : decode cX9_tray 111 = .ok (.iconst 1, 1) := by decide +kernel
theorem dX9_tray_112 : decode cX9_tray 112 = .ok (.goto 4, 3) := by decide +kernel
theorem dX9_tray_115 : decode cX9_tray 115 = .ok (.iconst 0, 1) := by decide +kernel
theorem dX9_tray_116 : decode cX9_tray 116 = .ok (.ireturn, 1) := by decide +kernel
theorem dX9_tray_117 : decode cX9_tray 117 = .ok (.aload_n 0, 1) := by decide +kernel
theorem dX9_tray_118 : decode cX9_tray 118 = .ok (.getfield 62, 3) := by decide +kernel
theorem dX9_tray_121 : decode cX9_tray 121 = .ok (.iload 4, 2) := by decide +kernel
theorem dX9_tray_123 : decode cX9_tray 123 = .ok (.invokevirtual 293, 3) := by decide +kernel
theorem dX9_tray_126 : decode cX9_tray 126 = .ok (.ireturn, 1) := by decide +kernel
theorem dX9_tray_127 : decode cX9_tray 127 = .ok (.aload_n 0, 1) := by decide +kernel
theorem dX9_tray_128 : decode cX9_tray 128 = .ok (.getfield 62, 3) := by decide +kernel
theorem dX9_tray_131 : decode cX9_tray 131 = .ok (.iload 4, 2) := by decide +kernel
theorem dX9_tray_133 : decode cX9_tray 133 = .ok (.invokevirtual 296, 3) := by decide +kernel
theorem dX9_tray_136 : decode cX9_tray 136 = .ok (.ireturn, 1) := by decide +kernel
theorem dX9_pulled_0 : decode cX9_pulled 0 = .ok (.iload 4, 2) := by decide +kernel
theorem dX9_pulled_2 : decode cX9_pulled 2 = .ok (.iconst 0, 1) := by decide +kernel
theorem dX9_pulled_3 : decode cX9_pulled 3 = .ok (.iconst 2, 1) := by decide +kernel
theorem dX9_pulled_4 : decode cX9_pulled 4 = .ok (.invokestatic 81, 3) := by decide +kernel
theorem dX9_pulled_7 : decode cX9_pulled 7 = .ok (.ifCond .ne 5, 3) := by decide +kernel
theorem dX9_pulled_10 : decode cX9_pulled 10 = .ok (.iconst (-1), 1) := by decide +kernel
theorem dX9_pulled_11 : decode cX9_pulled 11 = .ok (.ireturn, 1) := by decide +kernel
theorem dX9_pulled_12 : decode cX9_pulled 12 = .ok (.aload_n 0, 1) := by decide +kernel
theorem dX9_pulled_13 : decode cX9_pulled 13 = .ok (.iload_n 1, 1) := by decide +kernel
theorem dX9_pulled_14 : decode cX9_pulled 14 = .ok (.iload_n 2, 1) := by decide +kernel
theorem dX9_pulled_15 : decode cX9_pulled 15 = .ok (.iload_n 3, 1) := by decide +kernel
theorem dX9_pulled_16 : decode cX9_pulled 16 = .ok (.aload_n 0, 1) := by decide +kernel
theorem dX9_pulled_17 : decode cX9_pulled 17 = .ok (.getfield 10, 3) := by decide +kernel
theorem dX9_pulled_20 : decode cX9_pulled 20 = .ok (.getfield 122, 3) := by decide +kernel
theorem dX9_pulled_23 : decode cX9_pulled 23 = .ok (.invokevirtual 280, 3) := by decide +kernel
theorem dX9_pulled_26 : decode cX9_pulled 26 = .ok (.istore 5, 2) := by decide +kernel
theorem dX9_pulled_28 : decode cX9_pulled 28 = .ok (.iload 5, 2) := by decide +kernel
theorem dX9_pulled_30 : decode cX9_pulled 30 = .ok (.ifCond .ge 6, 3) := by decide +kernel
theorem dX9_pulled_33 : decode cX9_pulled 33 = .ok (.iload 5, 2) := by decide +kernel
theorem dX9_pulled_35 : decode cX9_pulled 35 = .ok (.ireturn, 1) := by decide +kernel
theorem dX9_pulled_36 : decode cX9_pulled 36 = .ok (.iconst 0, 1) := by decide +kernel
theorem dX9_pulled_37 : decode cX9_pulled 37 = .ok (.istore 6, 2) := by decide +kernel
theorem dX9_pulled_39 : decode cX9_pulled 39 = .ok (.iload 6, 2) := by decide +kernel
theorem dX9_pulled_41 : decode cX9_pulled 41 = .ok (.aload_n 0, 1) := by decide +kernel
theorem dX9_pulled_42 : decode cX9_pulled 42 = .ok (.getfield 10, 3) := by decide +kernel
theorem dX9_pulled_45 : decode cX9_pulled 45 = .ok (.getfield 122, 3) := by decide +kernel
theorem dX9_pulled_48 : decode cX9_pulled 48 = .ok (.if_icmp .ge 32, 3) := by decide +kernel
theorem dX9_pulled_51 : decode cX9_pulled 51 = .ok (.aload_n 0, 1) := by decide +kernel
theorem dX9_pulled_52 : decode cX9_pulled 52 = .ok (.getfield 48, 3) := by decide +kernel
theorem dX9_pulled_55 : decode cX9_pulled 55 = .ok (.iload 6, 2) := by decide +kernel
theorem dX9_pulled_57 : decode cX9_pulled 57 = .ok (.aload_n 0, 1) := by decide +kernel
theorem dX9_pulled_58 : decode cX9_pulled 58 = .ok (.getfield 69, 3) := by decide +kernel
theorem dX9_pulled_61 : decode cX9_pulled 61 = .ok (.iload_n 1, 1) := by decide +kernel
theorem dX9_pulled_62 : decode cX9_pulled 62 = .ok (.aaload, 1) := by decide +kernel
theorem dX9_pulled_63 : decode cX9_pulled 63 = .ok (.getfield 299, 3) := by decide +kernel
theorem dX9_pulled_66 : decode cX9_pulled 66 = .ok (.iload_n 3, 1) := by decide +kernel
theorem dX9_pulled_67 : decode cX9_pulled 67 = .ok (.iload 6, 2) := by decide +kernel
theorem dX9_pulled_69 : decode cX9_pulled 69 = .ok (.iadd, 1) := by decide +kernel
theorem dX9_pulled_70 : decode cX9_pulled 70 = .ok (.laload, 1) := by decide +kernel
theorem dX9_pulled_71 : decode cX9_pulled 71 = .ok (.invokevirtual 303, 3) := by decide +kernel
theorem dX9_pulled_74 : decode cX9_pulled 74 = .ok (.iinc 6 1, 3) := by decide +kernel
theorem dX9_pulled_77 : decode cX9_pulled 77 = .ok (.goto (-38), 3) := by decide +kernel
theorem dX9_pulled_80 : decode cX9_pulled 80 = .ok (.aload_n 0, 1) := by decide +kernel
theorem dX9_pulled_81 : decode cX9_pulled 81 = .ok (.getfield 48, 3) := by decide +kernel
theorem dX9_pulled_84 : decode cX9_pulled 84 = .ok (.invokevirtual 306, 3) := by decide +kernel
theorem dX9_pulled_87 : decode cX9_pulled 87 = .ok (.iload 4, 2) := by decide +kernel
theorem dX9_pulled_89 : decode cX9_pulled 89 = .ok (.ifCond .ne 11, 3) := by decide +kernel
theorem dX9_pulled_92 : decode cX9_pulled 92 = .ok (.aload_n 0, 1) := by decide +kernel
theorem dX9_pulled_93 : decode cX9_pulled 93 = .ok (.getfield 48, 3) := by decide +kernel
theorem dX9_pulled_96 : decode cX9_pulled 96 = .ok (.getfield 307, 3) := by decide +kernel
theorem dX9_pulled_99 : decode cX9_pulled 99 = .ok (.ireturn, 1) := by decide +kernel
theorem dX9_pulled_100 : decode cX9_pulled 100 = .ok (.aload_n 0, 1) := by decide +kernel
theorem dX9_pulled_101 : decode cX9_pulled 101 = .ok (.getfield 48, 3) := by decide +kernel
theorem dX9_pulled_104 : decode cX9_pulled 104 = .ok (.getfield 307, 3) := by decide +kernel
theorem dX9_pulled_107 : decode cX9_pulled 107 = .ok (.ifCond .ne 6, 3) := by decide +kernel
theorem dX9_pulled_110 : decode cX9_pulled 110 = .ok (.bipush (-4), 2) := by decide +kernel
theorem dX9_pulled_112 : decode cX9_pulled 112 = .ok (.ireturn, 1) := by decide +kernel
theorem dX9_pulled_113 : decode cX9_pulled 113 = .ok (.iload 4, 2) := by decide +kernel
theorem dX9_pulled_115 : decode cX9_pulled 115 = .ok (.iconst 1, 1) := by decide +kernel
theorem dX9_pulled_116 : decode cX9_pulled 116 = .ok (.if_icmp .ne 13, 3) := by decide +kernel
theorem dX9_pulled_119 : decode cX9_pulled 119 = .ok (.aload_n 0, 1) := by decide +kernel
theorem dX9_pulled_120 : decode cX9_pulled 120 = .ok (.getfield 48, 3) := by decide +kernel
theorem dX9_pulled_123 : decode cX9_pulled 123 = .ok (.invokevirtual 310, 3) := by decide +kernel
theorem dX9_pulled_126 : decode cX9_pulled 126 = .ok (.goto 10, 3) := by decide +kernel
theorem dX9_pulled_129 : decode cX9_pulled 129 = .ok (.aload_n 0, 1) := by decide +kernel
theorem dX9_pulled_130 : decode cX9_pulled 130 = .ok (.getfield 48, 3) := by decide +kernel
theorem dX9_pulled_133 : decode cX9_pulled 133 = .ok (.getfield 313, 3) := by decide +kernel
theorem dX9_pulled_136 : decode cX9_pulled 136 = .ok (.ireturn, 1) := by decide +kernel
theorem dX9_film_0 : decode cX9_film 0 = .ok (.aload_n 0, 1) := by decide +kernel
theorem dX9_film_1 : decode cX9_film 1 = .ok (.iload_n 1, 1) := by decide +kernel
theorem dX9_film_2 : decode cX9_film 2 = .ok (.iload_n 2, 1) := by decide +kernel
theorem dX9_film_3 : decode cX9_film 3 = .ok (.iload_n 3, 1) := by decide +kernel
theorem dX9_film_4 : decode cX9_film 4 = .ok (.aload_n 0, 1) := by decide +kernel
theorem dX9_film_5 : decode cX9_film 5 = .ok (.getfield 10, 3) := by decide +kernel
theorem dX9_film_8 : decode cX9_film 8 = .ok (.getfield 122, 3) := by decide +kernel
theorem dX9_film_11 : decode cX9_film 11 = .ok (.invokevirtual 280, 3) := by decide +kernel
theorem dX9_film_14 : decode cX9_film 14 = .ok (.istore 4, 2) := by decide +kernel
theorem dX9_film_16 : decode cX9_film 16 = .ok (.iload 4, 2) := by decide +kernel
theorem dX9_film_18 : decode cX9_film 18 = .ok (.ifCond .ge 6, 3) := by decide +kernel
theorem dX9_film_21 : decode cX9_film 21 = .ok (.iload 4, 2) := by decide +kernel
theorem dX9_film_23 : decode cX9_film 23 = .ok (.ireturn, 1) := by decide +kernel
theorem dX9_film_24 : decode cX9_film 24 = .ok (.iconst 0, 1) := by decide +kernel
theorem dX9_film_25 : decode cX9_film 25 = .ok (.istore 5, 2) := by decide +kernel
theorem dX9_film_27 : decode cX9_film 27 = .ok (.iload 5, 2) := by decide +kernel
theorem dX9_film_29 : decode cX9_film 29 = .ok (.aload_n 0, 1) := by decide +kernel
theorem dX9_film_30 : decode cX9_film 30 = .ok (.getfield 10, 3) := by decide +kernel
theorem dX9_film_33 : decode cX9_film 33 = .ok (.getfield 122, 3) := by decide +kernel
theorem dX9_film_36 : decode cX9_film 36 = .ok (.if_icmp .ge 32, 3) := by decide +kernel
theorem dX9_film_39 : decode cX9_film 39 = .ok (.aload_n 0, 1) := by decide +kernel
theorem dX9_film_40 : decode cX9_film 40 = .ok (.getfield 69, 3) := by decide +kernel
theorem dX9_film_43 : decode cX9_film 43 = .ok (.iload_n 1, 1) := by decide +kernel
theorem dX9_film_44 : decode cX9_film 44 = .ok (.aaload, 1) := by decide +kernel
theorem dX9_film_45 : decode cX9_film 45 = .ok (.iload_n 3, 1) := by decide +kernel
theorem dX9_film_46 : decode cX9_film 46 = .ok (.iload 5, 2) := by decide +kernel
theorem dX9_film_48 : decode cX9_film 48 = .ok (.iadd, 1) := by decide +kernel
theorem dX9_film_49 : decode cX9_film 49 = .ok (.aload_n 0, 1) := by decide +kernel
theorem dX9_film_50 : decode cX9_film 50 = .ok (.getfield 10, 3) := by decide +kernel
theorem dX9_film_53 : decode cX9_film 53 = .ok (.iload 5, 2) := by decide +kernel
theorem dX9_film_55 : decode cX9_film 55 = .ok (.invokevirtual 186, 3) := by decide +kernel
theorem dX9_film_58 : decode cX9_film 58 = .ok (.i2l, 1) := by decide +kernel
theorem dX9_film_59 : decode cX9_film 59 = .ok (.invokevirtual 316, 3) := by decide +kernel
theorem dX9_film_62 : decode cX9_film 62 = .ok (.iinc 5 1, 3) := by decide +kernel
theorem dX9_film_65 : decode cX9_film 65 = .ok (.goto (-38), 3) := by decide +kernel
theorem dX9_film_68 : decode cX9_film 68 = .ok (.aload_n 0, 1) := by decide +kernel
theorem dX9_film_69 : decode cX9_film 69 = .ok (.getfield 10, 3) := by decide +kernel
theorem dX9_film_72 : decode cX9_film 72 = .ok (.getfield 122, 3) := by decide +kernel
theorem dX9_film_75 : decode cX9_film 75 = .ok (.ireturn, 1) := by decide +kernel
theorem dX9_lay_0 : decode cX9_lay 0 = .ok (.aload_n 0, 1) := by decide +kernel
theorem dX9_lay_1 : decode cX9_lay 1 = .ok (.iload_n 1, 1) := by decide +kernel
theorem dX9_lay_2 : decode cX9_lay 2 = .ok (.iload_n 2, 1) := by decide +kernel
theorem dX9_lay_3 : decode cX9_lay 3 = .ok (.iload_n 3, 1) := by decide +kernel
theorem dX9_lay_4 : decode cX9_lay 4 = .ok (.aload_n 0, 1) := by decide +kernel
theorem dX9_lay_5 : decode cX9_lay 5 = .ok (.getfield 10, 3) := by decide +kernel
theorem dX9_lay_8 : decode cX9_lay 8 = .ok (.getfield 85, 3) := by decide +kernel
theorem dX9_lay_11 : decode cX9_lay 11 = .ok (.invokevirtual 280, 3) := by decide +kernel
theorem dX9_lay_14 : decode cX9_lay 14 = .ok (.istore 4, 2) := by decide +kernel
theorem dX9_lay_16 : decode cX9_lay 16 = .ok (.iload 4, 2) := by decide +kernel
theorem dX9_lay_18 : decode cX9_lay 18 = .ok (.ifCond .ge 6, 3) := by decide +kernel
theorem dX9_lay_21 : decode cX9_lay 21 = .ok (.iload 4, 2) := by decide +kernel
theorem dX9_lay_23 : decode cX9_lay 23 = .ok (.ireturn, 1) := by decide +kernel
theorem dX9_lay_24 : decode cX9_lay 24 = .ok (.iconst 0, 1) := by decide +kernel
theorem dX9_lay_25 : decode cX9_lay 25 = .ok (.istore 5, 2) := by decide +kernel
theorem dX9_lay_27 : decode cX9_lay 27 = .ok (.iload 5, 2) := by decide +kernel
theorem dX9_lay_29 : decode cX9_lay 29 = .ok (.aload_n 0, 1) := by decide +kernel
theorem dX9_lay_30 : decode cX9_lay 30 = .ok (.getfield 10, 3) := by decide +kernel
theorem dX9_lay_33 : decode cX9_lay 33 = .ok (.getfield 85, 3) := by decide +kernel
theorem dX9_lay_36 : decode cX9_lay 36 = .ok (.if_icmp .ge 44, 3) := by decide +kernel
theorem dX9_lay_39 : decode cX9_lay 39 = .ok (.aload_n 0, 1) := by decide +kernel
theorem dX9_lay_40 : decode cX9_lay 40 = .ok (.getfield 69, 3) := by decide +kernel
theorem dX9_lay_43 : decode cX9_lay 43 = .ok (.iload_n 1, 1) := by decide +kernel
theorem dX9_lay_44 : decode cX9_lay 44 = .ok (.aaload, 1) := by decide +kernel
theorem dX9_lay_45 : decode cX9_lay 45 = .ok (.getfield 299, 3) := by decide +kernel
theorem dX9_lay_48 : decode cX9_lay 48 = .ok (.iload_n 3, 1) := by decide +kernel
theorem dX9_lay_49 : decode cX9_lay 49 = .ok (.iload 5, 2) := by decide +kernel
theorem dX9_lay_51 : decode cX9_lay 51 = .ok (.iadd, 1) := by decide +kernel
theorem dX9_lay_52 : decode cX9_lay 52 = .ok (.laload, 1) := by decide +kernel
theorem dX9_lay_53 : decode cX9_lay 53 = .ok (.lstore 6, 2) := by decide +kernel
theorem dX9_lay_55 : decode cX9_lay 55 = .ok (.lload 6, 2) := by decide +kernel
theorem dX9_lay_57 : decode cX9_lay 57 = .ok (.lconst 0, 1) := by decide +kernel
theorem dX9_lay_58 : decode cX9_lay 58 = .ok (.lcmp, 1) := by decide +kernel
theorem dX9_lay_59 : decode cX9_lay 59 = .ok (.ifCond .lt 12, 3) := by decide +kernel
theorem dX9_lay_62 : decode cX9_lay 62 = .ok (.lload 6, 2) := by decide +kernel
theorem dX9_lay_64 : decode cX9_lay 64 = .ok (.ldc2_w 319, 3) := by decide +kernel
theorem dX9_lay_67 : decode cX9_lay 67 = .ok (.lcmp, 1) := by decide +kernel
theorem dX9_lay_68 : decode cX9_lay 68 = .ok (.ifCond .lt 6, 3) := by decide +kernel
theorem dX9_lay_71 : decode cX9_lay 71 = .ok (.bipush (-2), 2) := by decide +kernel
theorem dX9_lay_73 : decode cX9_lay 73 = .ok (.ireturn, 1) := by decide +kernel
theorem dX9_lay_74 : decode cX9_lay 74 = .ok (.iinc 5 1, 3) := by decide +kernel
theorem dX9_lay_77 : decode cX9_lay 77 = .ok (.goto (-50), 3) := by decide +kernel
theorem dX9_lay_80 : decode cX9_lay 80 = .ok (.iconst 0, 1) := by decide +kernel
theorem dX9_lay_81 : decode cX9_lay 81 = .ok (.istore 5, 2) := by decide +kernel
theorem dX9_lay_83 : decode cX9_lay 83 = .ok (.iload 5, 2) := by decide +kernel
theorem dX9_lay_85 : decode cX9_lay 85 = .ok (.aload_n 0, 1) := by decide +kernel
theorem dX9_lay_86 : decode cX9_lay 86 = .ok (.getfield 10, 3) := by decide +kernel
theorem dX9_lay_89 : decode cX9_lay 89 = .ok (.getfield 85, 3) := by decide +kernel
theorem dX9_lay_92 : decode cX9_lay 92 = .ok (.if_icmp .ge 41, 3) := by decide +kernel
theorem dX9_lay_95 : decode cX9_lay 95 = .ok (.aload_n 0, 1) := by decide +kernel
theorem dX9_lay_96 : decode cX9_lay 96 = .ok (.getfield 10, 3) := by decide +kernel
theorem dX9_lay_99 : decode cX9_lay 99 = .ok (.aload_n 0, 1) := by decide +kernel
theorem dX9_lay_100 : decode cX9_lay 100 = .ok (.getfield 10, 3) := by decide +kernel
theorem dX9_lay_103 : decode cX9_lay 103 = .ok (.getfield 109, 3) := by decide +kernel
theorem dX9_lay_106 : decode cX9_lay 106 = .ok (.iload 5, 2) := by decide +kernel
theorem dX9_lay_108 : decode cX9_lay 108 = .ok (.aload_n 0, 1) := by decide +kernel
theorem dX9_lay_109 : decode cX9_lay 109 = .ok (.getfield 69, 3) := by decide +kernel
theorem dX9_lay_112 : decode cX9_lay 112 = .ok (.iload_n 1, 1) := by decide +kernel
theorem dX9_lay_113 : decode cX9_lay 113 = .ok (.aaload, 1) := by decide +kernel
theorem dX9_lay_114 : decode cX9_lay 114 = .ok (.getfield 299, 3) := by decide +kernel
theorem dX9_lay_117 : decode cX9_lay 117 = .ok (.iload_n 3, 1) := by decide +kernel
theorem dX9_lay_118 : decode cX9_lay 118 = .ok (.iload 5, 2) := by decide +kernel
theorem dX9_lay_120 : decode cX9_lay 120 = .ok (.iadd, 1) := by decide +kernel
theorem dX9_lay_121 : decode cX9_lay 121 = .ok (.laload, 1) := by decide +kernel
theorem dX9_lay_122 : decode cX9_lay 122 = .ok (.l2i, 1) := by decide +kernel
theorem dX9_lay_123 : decode cX9_lay 123 = .ok (.invokevirtual 115, 3) := by decide +kernel
theorem dX9_lay_126 : decode cX9_lay 126 = .ok (.pop, 1) := by decide +kernel
theorem dX9_lay_127 : decode cX9_lay 127 = .ok (.iinc 5 1, 3) := by decide +kernel
theorem dX9_lay_130 : decode cX9_lay 130 = .ok (.goto (-47), 3) := by decide +kernel
theorem dX9_lay_133 : decode cX9_lay 133 = .ok (.aload_n 0, 1) := by decide +kernel
theorem dX9_lay_134 : decode cX9_lay 134 = .ok (.getfield 10, 3) := by decide +kernel
theorem dX9_lay_137 : decode cX9_lay 137 = .ok (.invokevirtual 183, 3) := by decide +kernel
theorem dX9_lay_140 : decode cX9_lay 140 = .ok (.ireturn, 1) := by decide +kernel
theorem dX9_sheet_0 : decode cX9_sheet 0 = .ok (.iload_n 1, 1) := by decide +kernel
theorem dX9_sheet_1 : decode cX9_sheet 1 = .ok (.invokestatic 321, 3) := by decide +kernel
theorem dX9_sheet_4 : decode cX9_sheet 4 = .ok (.ifCond .eq 18, 3) := by decide +kernel
theorem dX9_sheet_7 : decode cX9_sheet 7 = .ok (.iload_n 2, 1) := by decide +kernel
theorem dX9_sheet_8 : decode cX9_sheet 8 = .ok (.iconst 0, 1) := by decide +kernel
theorem dX9_sheet_9 : decode cX9_sheet 9 = .ok (.iconst 3, 1) := by decide +kernel
theorem dX9_sheet_10 : decode cX9_sheet 10 = .ok (.invokestatic 81, 3) := by decide +kernel
theorem dX9_sheet_13 : decode cX9_sheet 13 = .ok (.ifCond .eq 9, 3) := by decide +kernel
theorem dX9_sheet_16 : decode cX9_sheet 16 = .ok (.iload_n 3, 1) := by decide +kernel
theorem dX9_sheet_17 : decode cX9_sheet 17 = .ok (.bipush 16, 2) := by decide +kernel
theorem dX9_sheet_19 : decode cX9_sheet 19 = .ok (.if_icmp .le 5, 3) := by decide +kernel
theorem dX9_sheet_22 : decode cX9_sheet 22 = .ok (.iconst (-1), 1) := by decide +kernel
theorem dX9_sheet_23 : decode cX9_sheet 23 = .ok (.ireturn, 1) := by decide +kernel
theorem dX9_sheet_24 : decode cX9_sheet 24 = .ok (.iload_n 3, 1) := by decide +kernel
theorem dX9_sheet_25 : decode cX9_sheet 25 = .ok (.ifCond .ge 6, 3) := by decide +kernel
theorem dX9_sheet_28 : decode cX9_sheet 28 = .ok (.bipush (-14), 2) := by decide +kernel
theorem dX9_sheet_30 : decode cX9_sheet 30 = .ok (.ireturn, 1) := by decide +kernel
theorem dX9_sheet_31 : decode cX9_sheet 31 = .ok (.aload_n 0, 1) := by decide +kernel
theorem dX9_sheet_32 : decode cX9_sheet 32 = .ok (.getfield 69, 3) := by decide +kernel
theorem dX9_sheet_35 : decode cX9_sheet 35 = .ok (.iload_n 1, 1) := by decide +kernel
theorem dX9_sheet_36 : decode cX9_sheet 36 = .ok (.aaload, 1) := by decide +kernel
theorem dX9_sheet_37 : decode cX9_sheet 37 = .ok (.iload_n 2, 1) := by decide +kernel
theorem dX9_sheet_38 : decode cX9_sheet 38 = .ok (.iload_n 3, 1) := by decide +kernel
theorem dX9_sheet_39 : decode cX9_sheet 39 = .ok (.invokevirtual 324, 3) := by decide +kernel
theorem dX9_sheet_42 : decode cX9_sheet 42 = .ok (.iload_n 3, 1) := by decide +kernel
theorem dX9_sheet_43 : decode cX9_sheet 43 = .ok (.ireturn, 1) := by decide +kernel
theorem dX9_drop_0 : decode cX9_drop 0 = .ok (.iload_n 1, 1) := by decide +kernel
theorem dX9_drop_1 : decode cX9_drop 1 = .ok (.invokestatic 321, 3) := by decide +kernel
theorem dX9_drop_4 : decode cX9_drop 4 = .ok (.ifCond .ne 5, 3) := by decide +kernel
theorem dX9_drop_7 : decode cX9_drop 7 = .ok (.iconst (-1), 1) := by decide +kernel
theorem dX9_drop_8 : decode cX9_drop 8 = .ok (.ireturn, 1) := by decide +kernel
theorem dX9_drop_9 : decode cX9_drop 9 = .ok (.aload_n 0, 1) := by decide +kernel
theorem dX9_drop_10 : decode cX9_drop 10 = .ok (.getfield 69, 3) := by decide +kernel
theorem dX9_drop_13 : decode cX9_drop 13 = .ok (.iload_n 1, 1) := by decide +kernel
theorem dX9_drop_14 : decode cX9_drop 14 = .ok (.aaload, 1) := by decide +kernel
theorem dX9_drop_15 : decode cX9_drop 15 = .ok (.invokevirtual 327, 3) := by decide +kernel
theorem dX9_drop_18 : decode cX9_drop 18 = .ok (.ifCond .eq 6, 3) := by decide +kernel
theorem dX9_drop_21 : decode cX9_drop 21 = .ok (.bipush (-11), 2) := by decide +kernel
theorem dX9_drop_23 : decode cX9_drop 23 = .ok (.ireturn, 1) := by decide +kernel
theorem dX9_drop_24 : decode cX9_drop 24 = .ok (.aload_n 0, 1) := by decide +kernel
theorem dX9_drop_25 : decode cX9_drop 25 = .ok (.getfield 69, 3) := by decide +kernel
theorem dX9_drop_28 : decode cX9_drop 28 = .ok (.iload_n 1, 1) := by decide +kernel
theorem dX9_drop_29 : decode cX9_drop 29 = .ok (.aaload, 1) := by decide +kernel
theorem dX9_drop_30 : decode cX9_drop 30 = .ok (.getfield 331, 3) := by decide +kernel
theorem dX9_drop_33 : decode cX9_drop 33 = .ok (.istore_n 2, 1) := by decide +kernel
theorem dX9_drop_34 : decode cX9_drop 34 = .ok (.aload_n 0, 1) := by decide +kernel
theorem dX9_drop_35 : decode cX9_drop 35 = .ok (.getfield 69, 3) := by decide +kernel
theorem dX9_drop_38 : decode cX9_drop 38 = .ok (.iload_n 1, 1) := by decide +kernel
theorem dX9_drop_39 : decode cX9_drop 39 = .ok (.aaload, 1) := by decide +kernel
theorem dX9_drop_40 : decode cX9_drop 40 = .ok (.invokevirtual 334, 3) := by decide +kernel
theorem dX9_drop_43 : decode cX9_drop 43 = .ok (.iload_n 2, 1) := by decide +kernel
theorem dX9_drop_44 : decode cX9_drop 44 = .ok (.ireturn, 1) := by decide +kernel
theorem dX9_item_0 : decode cX9_item 0 = .ok (.aload_n 0, 1) := by decide +kernel
theorem dX9_item_1 : decode cX9_item 1 = .ok (.iload_n 1, 1) := by decide +kernel
theorem dX9_item_2 : decode cX9_item 2 = .ok (.iload_n 2, 1) := by decide +kernel
theorem dX9_item_3 : decode cX9_item 3 = .ok (.iload_n 3, 1) := by decide +kernel
theorem dX9_item_4 : decode cX9_item 4 = .ok (.iconst 1, 1) := by decide +kernel
theorem dX9_item_5 : decode cX9_item 5 = .ok (.invokevirtual 280, 3) := by decide +kernel
theorem dX9_item_8 : decode cX9_item 8 = .ok (.istore 6, 2) := by decide +kernel
theorem dX9_item_10 : decode cX9_item 10 = .ok (.iload 6, 2) := by decide +kernel
theorem dX9_item_12 : decode cX9_item 12 = .ok (.ifCond .ge 6, 3) := by decide +kernel
theorem dX9_item_15 : decode cX9_item 15 = .ok (.iload 6, 2) := by decide +kernel
theorem dX9_item_17 : decode cX9_item 17 = .ok (.ireturn, 1) := by decide +kernel
theorem dX9_item_18 : decode cX9_item 18 = .ok (.aload_n 0, 1) := by decide +kernel
theorem dX9_item_19 : decode cX9_item 19 = .ok (.getfield 69, 3) := by decide +kernel
theorem dX9_item_22 : decode cX9_item 22 = .ok (.iload_n 1, 1) := by decide +kernel
theorem dX9_item_23 : decode cX9_item 23 = .ok (.aaload, 1) := by decide +kernel
theorem dX9_item_24 : decode cX9_item 24 = .ok (.iload_n 3, 1) := by decide +kernel
theorem dX9_item_25 : decode cX9_item 25 = .ok (.lload 4, 2) := by decide +kernel
theorem dX9_item_27 : decode cX9_item 27 = .ok (.invokevirtual 316, 3) := by decide +kernel
theorem dX9_item_30 : decode cX9_item 30 = .ok (.iconst 1, 1) := by decide +kernel
theorem dX9_item_31 : decode cX9_item 31 = .ok (.ireturn, 1) := by decide +kernel
theorem dX9_copy_0 : decode cX9_copy 0 = .ok (.iload_n 1, 1) := by decide +kernel
theorem dX9_copy_1 : decode cX9_copy 1 = .ok (.invokestatic 321, 3) := by decide +kernel
theorem dX9_copy_4 : decode cX9_copy 4 = .ok (.ifCond .eq 10, 3) := by decide +kernel
theorem dX9_copy_7 : decode cX9_copy 7 = .ok (.iload_n 3, 1) := by decide +kernel
theorem dX9_copy_8 : decode cX9_copy 8 = .ok (.invokestatic 321, 3) := by decide +kernel
theorem dX9_copy_11 : decode cX9_copy 11 = .ok (.ifCond .ne 5, 3) := by decide +kernel
theorem dX9_copy_14 : decode cX9_copy 14 = .ok (.iconst (-1), 1) := by decide +kernel
theorem dX9_copy_15 : decode cX9_copy 15 = .ok (.ireturn, 1) := by decide +kernel
theorem dX9_copy_16 : decode cX9_copy 16 = .ok (.aload_n 0, 1) := by decide +kernel
theorem dX9_copy_17 : decode cX9_copy 17 = .ok (.getfield 69, 3) := by decide +kernel
theorem dX9_copy_20 : decode cX9_copy 20 = .ok (.iload_n 1, 1) := by decide +kernel
theorem dX9_copy_21 : decode cX9_copy 21 = .ok (.aaload, 1) := by decide +kernel
theorem dX9_copy_22 : decode cX9_copy 22 = .ok (.astore 6, 2) := by decide +kernel
theorem dX9_copy_24 : decode cX9_copy 24 = .ok (.aload_n 0, 1) := by decide +kernel
theorem dX9_copy_25 : decode cX9_copy 25 = .ok (.getfield 69, 3) := by decide +kernel
theorem dX9_copy_28 : decode cX9_copy 28 = .ok (.iload_n 3, 1) := by decide +kernel
theorem dX9_copy_29 : decode cX9_copy 29 = .ok (.aaload, 1) := by decide +kernel
theorem dX9_copy_30 : decode cX9_copy 30 = .ok (.astore 7, 2) := by decide +kernel
theorem dX9_copy_32 : decode cX9_copy 32 = .ok (.aload 6, 2) := by decide +kernel
theorem dX9_copy_34 : decode cX9_copy 34 = .ok (.invokevirtual 327, 3) := by decide +kernel
theorem dX9_copy_37 : decode cX9_copy 37 = .ok (.ifCond .ne 11, 3) := by decide +kernel
theorem dX9_copy_40 : decode cX9_copy 40 = .ok (.aload 7, 2) := by decide +kernel
theorem dX9_copy_42 : decode cX9_copy 42 = .ok (.invokevirtual 327, 3) := by decide +kernel
theorem dX9_copy_45 : decode cX9_copy 45 = .ok (.ifCond .eq 6, 3) := by decide +kernel
theorem dX9_copy_48 : decode cX9_copy 48 = .ok (.bipush (-11), 2) := by decide +kernel
theorem dX9_copy_50 : decode cX9_copy 50 = .ok (.ireturn, 1) := by decide +kernel
theorem dX9_copy_51 : decode cX9_copy 51 = .ok (.aload 6, 2) := by decide +kernel
theorem dX9_copy_53 : decode cX9_copy 53 = .ok (.getfield 337, 3) := by decide +kernel
theorem dX9_copy_56 : decode cX9_copy 56 = .ok (.aload 7, 2) := by decide +kernel
theorem dX9_copy_58 : decode cX9_copy 58 = .ok (.getfield 337, 3) := by decide +kernel
theorem dX9_copy_61 : decode cX9_copy 61 = .ok (.if_icmp .eq 6, 3) := by decide +kernel
theorem dX9_copy_64 : decode cX9_copy 64 = .ok (.bipush (-12), 2) := by decide +kernel
theorem dX9_copy_66 : decode cX9_copy 66 = .ok (.ireturn, 1) := by decide +kernel
theorem dX9_copy_67 : decode cX9_copy 67 = .ok (.aload 6, 2) := by decide +kernel
theorem dX9_copy_69 : decode cX9_copy 69 = .ok (.iload_n 2, 1) := by decide +kernel
theorem dX9_copy_70 : decode cX9_copy 70 = .ok (.iload 5, 2) := by decide +kernel
theorem dX9_copy_72 : decode cX9_copy 72 = .ok (.invokevirtual 340, 3) := by decide +kernel
theorem dX9_copy_75 : decode cX9_copy 75 = .ok (.ifCond .eq 15, 3) := by decide +kernel
theorem dX9_copy_78 : decode cX9_copy 78 = .ok (.aload 7, 2) := by decide +kernel
theorem dX9_copy_80 : decode cX9_copy 80 = .ok (.iload 4, 2) := by decide +kernel
theorem dX9_copy_82 : decode cX9_copy 82 = .ok (.iload 5, 2) := by decide +kernel
theorem dX9_copy_84 : decode cX9_copy 84 = .ok (.invokevirtual 340, 3) := by decide +kernel
theorem dX9_copy_87 : decode cX9_copy 87 = .ok (.ifCond .ne 6, 3) := by decide +kernel
theorem dX9_copy_90 : decode cX9_copy 90 = .ok (.bipush (-13), 2) := by decide +kernel
theorem dX9_copy_92 : decode cX9_copy 92 = .ok (.ireturn, 1) := by decide +kernel
theorem dX9_copy_93 : decode cX9_copy 93 = .ok (.aload 6, 2) := by decide +kernel
theorem dX9_copy_95 : decode cX9_copy 95 = .ok (.getfield 299, 3) := by decide +kernel
theorem dX9_copy_98 : decode cX9_copy 98 = .ok (.iload_n 2, 1) := by decide +kernel
theorem dX9_copy_99 : decode cX9_copy 99 = .ok (.aload 7, 2) := by decide +kernel
theorem dX9_copy_101 : decode cX9_copy 101 = .ok (.getfield 299, 3) := by decide +kernel
theorem dX9_copy_104 : decode cX9_copy 104 = .ok (.iload 4, 2) := by decide +kernel
theorem dX9_copy_106 : decode cX9_copy 106 = .ok (.iload 5, 2) := by decide +kernel
theorem dX9_copy_108 : decode cX9_copy 108 = .ok (.invokestatic 343, 3) := by decide +kernel
theorem dX9_copy_111 : decode cX9_copy 111 = .ok (.iload 5, 2) := by decide +kernel
theorem dX9_copy_113 : decode cX9_copy 113 = .ok (.ireturn, 1) := by decide +kernel
theorem dX9_within_0 : decode cX9_within 0 = .ok (.iload_n 0, 1) := by decide +kernel
theorem dX9_within_1 : decode cX9_within 1 = .ok (.iload_n 1, 1) := by decide +kernel
theorem dX9_within_2 : decode cX9_within 2 = .ok (.if_icmp .lt 12, 3) := by decide +kernel
theorem dX9_within_5 : decode cX9_within 5 = .ok (.iload_n 0, 1) := by decide +kernel
theorem dX9_within_6 : decode cX9_within 6 = .ok (.iload_n 2, 1) := by decide +kernel
theorem dX9_within_7 : decode cX9_within 7 = .ok (.if_icmp .gt 7, 3) := by decide +kernel
theorem dX9_within_10 : decode cX9_within 10 = .ok (.iconst 1, 1) := by decide +kernel
theorem dX9_within_11 : decode cX9_within 11 = .ok (.goto 4, 3) := by decide +kernel
theorem dX9_within_14 : decode cX9_within 14 = .ok (.iconst 0, 1) := by decide +kernel
theorem dX9_within_15 : decode cX9_within 15 = .ok (.ireturn, 1) := by decide +kernel
theorem dX9_isBag_0 : decode cX9_isBag 0 = .ok (.iload_n 0, 1) := by decide +kernel
theorem dX9_isBag_1 : decode cX9_isBag 1 = .ok (.iconst 0, 1) := by decide +kernel
theorem dX9_isBag_2 : decode cX9_isBag 2 = .ok (.iconst 2, 1) := by decide +kernel
theorem dX9_isBag_3 : decode cX9_isBag 3 = .ok (.invokestatic 81, 3) := by decide +kernel
theorem dX9_isBag_6 : decode cX9_isBag 6 = .ok (.ireturn, 1) := by decide +kernel
theorem dX9_isSheet_0 : decode cX9_isSheet 0 = .ok (.iload_n 0, 1) := by decide +kernel
theorem dX9_isSheet_1 : decode cX9_isSheet 1 = .ok (.iconst 0, 1) := by decide +kernel
theorem dX9_isSheet_2 : decode cX9_isSheet 2 = .ok (.iconst 3, 1) := by decide +kernel
theorem dX9_isSheet_3 : decode cX9_isSheet 3 = .ok (.invokestatic 81, 3) := by decide +kernel
theorem dX9_isSheet_6 : decode cX9_isSheet 6 = .ok (.ireturn, 1) := by decide +kernel
theorem dX9_isThing_0 : decode cX9_isThing 0 = .ok (.iload_n 1, 1) := by decide +kernel
theorem dX9_isThing_1 : decode cX9_isThing 1 = .ok (.iconst 0, 1) := by decide +kernel
theorem dX9_isThing_2 : decode cX9_isThing 2 = .ok (.aload_n 0, 1) := by decide +kernel
theorem dX9_isThing_3 : decode cX9_isThing 3 = .ok (.getfield 10, 3) := by decide +kernel
theorem dX9_isThing_6 : decode cX9_isThing 6 = .ok (.getfield 85, 3) := by decide +kernel
theorem dX9_isThing_9 : decode cX9_isThing 9 = .ok (.iconst 1, 1) := by decide +kernel
theorem dX9_isThing_10 : decode cX9_isThing 10 = .ok (.isub, 1) := by decide +kernel
theorem dX9_isThing_11 : decode cX9_isThing 11 = .ok (.invokestatic 81, 3) := by decide +kernel
theorem dX9_isThing_14 : decode cX9_isThing 14 = .ok (.ireturn, 1) := by decide +kernel
theorem dX9_isStretch_0 : decode cX9_isStretch 0 = .ok (.iload_n 1, 1) := by decide +kernel
theorem dX9_isStretch_1 : decode cX9_isStretch 1 = .ok (.iconst 0, 1) := by decide +kernel
theorem dX9_isStretch_2 : decode cX9_isStretch 2 = .ok (.aload_n 0, 1) := by decide +kernel
theorem dX9_isStretch_3 : decode cX9_isStretch 3 = .ok (.getfield 10, 3) := by decide +kernel
theorem dX9_isStretch_6 : decode cX9_isStretch 6 = .ok (.getfield 122, 3) := by decide +kernel
theorem dX9_isStretch_9 : decode cX9_isStretch 9 = .ok (.iconst 1, 1) := by decide +kernel
theorem dX9_isStretch_10 : decode cX9_isStretch 10 = .ok (.isub, 1) := by decide +kernel
theorem dX9_isStretch_11 : decode cX9_isStretch 11 = .ok (.invokestatic 81, 3) := by decide +kernel
theorem dX9_isStretch_14 : decode cX9_isStretch 14 = .ok (.ireturn, 1) := by decide +kernel
theorem dX9_isEnd_0 : decode cX9_isEnd 0 = .ok (.aload_n 0, 1) := by decide +kernel
theorem dX9_isEnd_1 : decode cX9_isEnd 1 = .ok (.iload_n 1, 1) := by decide +kernel
theorem dX9_isEnd_2 : decode cX9_isEnd 2 = .ok (.invokevirtual 93, 3) := by decide +kernel
theorem dX9_isEnd_5 : decode cX9_isEnd 5 = .ok (.ifCond .ne 24, 3) := by decide +kernel
theorem dX9_isEnd_8 : decode cX9_isEnd 8 = .ok (.iload_n 1, 1) := by decide +kernel
theorem dX9_isEnd_9 : decode cX9_isEnd 9 = .ok (.bipush 10, 2) := by decide +kernel
theorem dX9_isEnd_11 : decode cX9_isEnd 11 = .ok (.bipush 10, 2) := by decide +kernel
theorem dX9_isEnd_13 : decode cX9_isEnd 13 = .ok (.aload_n 0, 1) := by decide +kernel
theorem dX9_isEnd_14 : decode cX9_isEnd 14 = .ok (.getfield 10, 3) := by decide +kernel
theorem dX9_isEnd_17 : decode cX9_isEnd 17 = .ok (.getfield 174, 3) := by decide +kernel
theorem dX9_isEnd_20 : decode cX9_isEnd 20 = .ok (.iadd, 1) := by decide +kernel
theorem dX9_isEnd_21 : decode cX9_isEnd 21 = .ok (.iconst 1, 1) := by decide +kernel
theorem dX9_isEnd_22 : decode cX9_isEnd 22 = .ok (.isub, 1) := by decide +kernel
theorem dX9_isEnd_23 : decode cX9_isEnd 23 = .ok (.invokestatic 81, 3) := by decide +kernel
theorem dX9_isEnd_26 : decode cX9_isEnd 26 = .ok (.ifCond .eq 7, 3) := by decide +kernel
theorem dX9_isEnd_29 : decode cX9_isEnd 29 = .ok (.iconst 1, 1) := by decide +kernel
theorem dX9_isEnd_30 : decode cX9_isEnd 30 = .ok (.goto 4, 3) := by decide +kernel
theorem dX9_isEnd_33 : decode cX9_isEnd 33 = .ok (.iconst 0, 1) := by decide +kernel
theorem dX9_isEnd_34 : decode cX9_isEnd 34 = .ok (.ireturn, 1) := by decide +kernel
theorem dX9_refusalOf_0 : decode cX9_refusalOf 0 = .ok (.iload_n 1, 1) := by decide +kernel
theorem dX9_refusalOf_1 : decode cX9_refusalOf 1 = .ok (.invokestatic 321, 3) := by decide +kernel
theorem dX9_refusalOf_4 : decode cX9_refusalOf 4 = .ok (.ifCond .eq 12, 3) := by decide +kernel
theorem dX9_refusalOf_7 : decode cX9_refusalOf 7 = .ok (.iload_n 2, 1) := by decide +kernel
theorem dX9_refusalOf_8 : decode cX9_refusalOf 8 = .ok (.iconst 0, 1) := by decide +kernel
theorem dX9_refusalOf_9 : decode cX9_refusalOf 9 = .ok (.iconst 3, 1) := by decide +kernel
theorem dX9_refusalOf_10 : decode cX9_refusalOf 10 = .ok (.invokestatic 81, 3) := by decide +kernel
theorem dX9_refusalOf_13 : decode cX9_refusalOf 13 = .ok (.ifCond .ne 5, 3) := by decide +kernel
theorem dX9_refusalOf_16 : decode cX9_refusalOf 16 = .ok (.iconst (-1), 1) := by decide +kernel
theorem dX9_refusalOf_17 : decode cX9_refusalOf 17 = .ok (.ireturn, 1) := by decide +kernel
theorem dX9_refusalOf_18 : decode cX9_refusalOf 18 = .ok (.aload_n 0, 1) := by decide +kernel
theorem dX9_refusalOf_19 : decode cX9_refusalOf 19 = .ok (.getfield 69, 3) := by decide +kernel
theorem dX9_refusalOf_22 : decode cX9_refusalOf 22 = .ok (.iload_n 1, 1) := by decide +kernel
theorem dX9_refusalOf_23 : decode cX9_refusalOf 23 = .ok (.aaload, 1) := by decide +kernel
theorem dX9_refusalOf_24 : decode cX9_refusalOf 24 = .ok (.invokevirtual 327, 3) := by decide +kernel
theorem dX9_refusalOf_27 : decode cX9_refusalOf 27 = .ok (.ifCond .eq 6, 3) := by decide +kernel
theorem dX9_refusalOf_30 : decode cX9_refusalOf 30 = .ok (.bipush (-11), 2) := by decide +kernel
theorem dX9_refusalOf_32 : decode cX9_refusalOf 32 = .ok (.ireturn, 1) := by decide +kernel
theorem dX9_refusalOf_33 : decode cX9_refusalOf 33 = .ok (.aload_n 0, 1) := by decide +kernel
theorem dX9_refusalOf_34 : decode cX9_refusalOf 34 = .ok (.getfield 69, 3) := by decide +kernel
theorem dX9_refusalOf_37 : decode cX9_refusalOf 37 = .ok (.iload_n 1, 1) := by decide +kernel
theorem dX9_refusalOf_38 : decode cX9_refusalOf 38 = .ok (.aaload, 1) := by decide +kernel
theorem dX9_refusalOf_39 : decode cX9_refusalOf 39 = .ok (.getfield 337, 3) := by decide +kernel
theorem dX9_refusalOf_42 : decode cX9_refusalOf 42 = .ok (.iload_n 2, 1) := by decide +kernel
theorem dX9_refusalOf_43 : decode cX9_refusalOf 43 = .ok (.if_icmp .eq 6, 3) := by decide +kernel
theorem dX9_refusalOf_46 : decode cX9_refusalOf 46 = .ok (.bipush (-12), 2) := by decide +kernel
theorem dX9_refusalOf_48 : decode cX9_refusalOf 48 = .ok (.ireturn, 1) := by decide +kernel
theorem dX9_refusalOf_49 : decode cX9_refusalOf 49 = .ok (.aload_n 0, 1) := by decide +kernel
theorem dX9_refusalOf_50 : decode cX9_refusalOf 50 = .ok (.getfield 69, 3) := by decide +kernel
theorem dX9_refusalOf_53 : decode cX9_refusalOf 53 = .ok (.iload_n 1, 1) := by decide +kernel
theorem dX9_refusalOf_54 : decode cX9_refusalOf 54 = .ok (.aaload, 1) := by decide +kernel
theorem dX9_refusalOf_55 : decode cX9_refusalOf 55 = .ok (.iload_n 3, 1) := by decide +kernel
theorem dX9_refusalOf_56 : decode cX9_refusalOf 56 = .ok (.iload 4, 2) := by decide +kernel
theorem dX9_refusalOf_58 : decode cX9_refusalOf 58 = .ok (.invokevirtual 340, 3) := by decide +kernel
theorem dX9_refusalOf_61 : decode cX9_refusalOf 61 = .ok (.ifCond .eq 7, 3) := by decide +kernel
theorem dX9_refusalOf_64 : decode cX9_refusalOf 64 = .ok (.iconst 0, 1) := by decide +kernel
theorem dX9_refusalOf_65 : decode cX9_refusalOf 65 = .ok (.goto 5, 3) := by decide +kernel
theorem dX9_refusalOf_68 : decode cX9_refusalOf 68 = .ok (.bipush (-13), 2) := by decide +kernel
theorem dX9_refusalOf_70 : decode cX9_refusalOf 70 = .ok (.ireturn, 1) := by decide +kernel
theorem dX9_yardOf_0 : decode cX9_yardOf 0 = .ok (.iload_n 1, 1) := by decide +kernel
theorem dX9_yardOf_1 : decode cX9_yardOf 1 = .ok (.istore_n 3, 1) := by decide +kernel
theorem dX9_yardOf_2 : decode cX9_yardOf 2 = .ok (.iconst 0, 1) := by decide +kernel
theorem dX9_yardOf_3 : decode cX9_yardOf 3 = .ok (.istore 4, 2) := by decide +kernel
theorem dX9_yardOf_5 : decode cX9_yardOf 5 = .ok (.iconst 0, 1) := by decide +kernel
theorem dX9_yardOf_6 : decode cX9_yardOf 6 = .ok (.istore 5, 2) := by decide +kernel
theorem dX9_yardOf_8 : decode cX9_yardOf 8 = .ok (.iload 5, 2) := by decide +kernel
theorem dX9_yardOf_10 : decode cX9_yardOf 10 = .ok (.aload_n 0, 1) := by decide +kernel
theorem dX9_yardOf_11 : decode cX9_yardOf 11 = .ok (.getfield 10, 3) := by decide +kernel
theorem dX9_yardOf_14 : decode cX9_yardOf 14 = .ok (.getfield 122, 3) := by decide +kernel
theorem dX9_yardOf_17 : decode cX9_yardOf 17 = .ok (.if_icmp .ge 79, 3) := by decide +kernel
theorem dX9_yardOf_20 : decode cX9_yardOf 20 = .ok (.aload_n 0, 1) := by decide +kernel
theorem dX9_yardOf_21 : decode cX9_yardOf 21 = .ok (.getfield 73, 3) := by decide +kernel
theorem dX9_yardOf_24 : decode cX9_yardOf 24 = .ok (.iload 5, 2) := by decide +kernel
theorem dX9_yardOf_26 : decode cX9_yardOf 26 = .ok (.iaload, 1) := by decide +kernel
theorem dX9_yardOf_27 : decode cX9_yardOf 27 = .ok (.aload_n 0, 1) := by decide +kernel
theorem dX9_yardOf_28 : decode cX9_yardOf 28 = .ok (.getfield 10, 3) := by decide +kernel
theorem dX9_yardOf_31 : decode cX9_yardOf 31 = .ok (.getfield 132, 3) := by decide +kernel
theorem dX9_yardOf_34 : decode cX9_yardOf 34 = .ok (.iload 5, 2) := by decide +kernel
theorem dX9_yardOf_36 : decode cX9_yardOf 36 = .ok (.iaload, 1) := by decide +kernel
theorem dX9_yardOf_37 : decode cX9_yardOf 37 = .ok (.imul, 1) := by decide +kernel
theorem dX9_yardOf_38 : decode cX9_yardOf 38 = .ok (.istore 6, 2) := by decide +kernel
theorem dX9_yardOf_40 : decode cX9_yardOf 40 = .ok (.iload 6, 2) := by decide +kernel
theorem dX9_yardOf_42 : decode cX9_yardOf 42 = .ok (.iload_n 3, 1) := by decide +kernel
theorem dX9_yardOf_43 : decode cX9_yardOf 43 = .ok (.if_icmp .lt 27, 3) := by decide +kernel
theorem dX9_yardOf_46 : decode cX9_yardOf 46 = .ok (.iload 4, 2) := by decide +kernel
theorem dX9_yardOf_48 : decode cX9_yardOf 48 = .ok (.aload_n 0, 1) := by decide +kernel
theorem dX9_yardOf_49 : decode cX9_yardOf 49 = .ok (.getfield 73, 3) := by decide +kernel
theorem dX9_yardOf_52 : decode cX9_yardOf 52 = .ok (.iload 5, 2) := by decide +kernel
theorem dX9_yardOf_54 : decode cX9_yardOf 54 = .ok (.iaload, 1) := by decide +kernel
theorem dX9_yardOf_55 : decode cX9_yardOf 55 = .ok (.imul, 1) := by decide +kernel
theorem dX9_yardOf_56 : decode cX9_yardOf 56 = .ok (.iload_n 3, 1) := by decide +kernel
theorem dX9_yardOf_57 : decode cX9_yardOf 57 = .ok (.iadd, 1) := by decide +kernel
theorem dX9_yardOf_58 : decode cX9_yardOf 58 = .ok (.aload_n 0, 1) := by decide +kernel
theorem dX9_yardOf_59 : decode cX9_yardOf 59 = .ok (.getfield 73, 3) := by decide +kernel
theorem dX9_yardOf_62 : decode cX9_yardOf 62 = .ok (.iload 5, 2) := by decide +kernel
theorem dX9_yardOf_64 : decode cX9_yardOf 64 = .ok (.iaload, 1) := by decide +kernel
theorem dX9_yardOf_65 : decode cX9_yardOf 65 = .ok (.iload_n 2, 1) := by decide +kernel
theorem dX9_yardOf_66 : decode cX9_yardOf 66 = .ok (.invokestatic 242, 3) := by decide +kernel
theorem dX9_yardOf_69 : decode cX9_yardOf 69 = .ok (.ireturn, 1) := by decide +kernel
theorem dX9_yardOf_70 : decode cX9_yardOf 70 = .ok (.iload_n 3, 1) := by decide +kernel
theorem dX9_yardOf_71 : decode cX9_yardOf 71 = .ok (.iload 6, 2) := by decide +kernel
theorem dX9_yardOf_73 : decode cX9_yardOf 73 = .ok (.isub, 1) := by decide +kernel
theorem dX9_yardOf_74 : decode cX9_yardOf 74 = .ok (.istore_n 3, 1) := by decide +kernel
theorem dX9_yardOf_75 : decode cX9_yardOf 75 = .ok (.iload 4, 2) := by decide +kernel
theorem dX9_yardOf_77 : decode cX9_yardOf 77 = .ok (.aload_n 0, 1) := by decide +kernel
theorem dX9_yardOf_78 : decode cX9_yardOf 78 = .ok (.getfield 10, 3) := by decide +kernel
theorem dX9_yardOf_81 : decode cX9_yardOf 81 = .ok (.getfield 132, 3) := by decide +kernel
theorem dX9_yardOf_84 : decode cX9_yardOf 84 = .ok (.iload 5, 2) := by decide +kernel
theorem dX9_yardOf_86 : decode cX9_yardOf 86 = .ok (.iaload, 1) := by decide +kernel
theorem dX9_yardOf_87 : decode cX9_yardOf 87 = .ok (.iadd, 1) := by decide +kernel
theorem dX9_yardOf_88 : decode cX9_yardOf 88 = .ok (.istore 4, 2) := by decide +kernel
theorem dX9_yardOf_90 : decode cX9_yardOf 90 = .ok (.iinc 5 1, 3) := by decide +kernel
theorem dX9_yardOf_93 : decode cX9_yardOf 93 = .ok (.goto (-85), 3) := by decide +kernel
theorem dX9_yardOf_96 : decode cX9_yardOf 96 = .ok (.bipush (-4), 2) := by decide +kernel
theorem dX9_yardOf_98 : decode cX9_yardOf 98 = .ok (.ireturn, 1) := by decide +kernel
theorem dX9_levelAt_0 : decode cX9_levelAt 0 = .ok (.iload_n 1, 1) := by decide +kernel
theorem dX9_levelAt_1 : decode cX9_levelAt 1 = .ok (.iload_n 2, 1) := by decide +kernel
theorem dX9_levelAt_2 : decode cX9_levelAt 2 = .ok (.imul, 1) := by decide +kernel
theorem dX9_levelAt_3 : decode cX9_levelAt 3 = .ok (.iload_n 0, 1) := by decide +kernel
theorem dX9_levelAt_4 : decode cX9_levelAt 4 = .ok (.iload_n 1, 1) := by decide +kernel
theorem dX9_levelAt_5 : decode cX9_levelAt 5 = .ok (.iadd, 1) := by decide +kernel
theorem dX9_levelAt_6 : decode cX9_levelAt 6 = .ok (.iload_n 3, 1) := by decide +kernel
theorem dX9_levelAt_7 : decode cX9_levelAt 7 = .ok (.invokestatic 242, 3) := by decide +kernel
theorem dX9_levelAt_10 : decode cX9_levelAt 10 = .ok (.ireturn, 1) := by decide +kernel
theorem dX9_inLowestTerms_0 : decode cX9_inLowestTerms 0 = .ok (.iload_n 1, 1) := by decide +kernel
theorem dX9_inLowestTerms_1 : decode cX9_inLowestTerms 1 = .ok (.istore_n 3, 1) := by decide +kernel
theorem dX9_inLowestTerms_2 : decode cX9_inLowestTerms 2 = .ok (.iload_n 0, 1) := by decide +kernel
theorem dX9_inLowestTerms_3 : decode cX9_inLowestTerms 3 = .ok (.istore 4, 2) := by decide +kernel
theorem dX9_inLowestTerms_5 : decode cX9_inLowestTerms 5 = .ok (.iconst 0, 1) := by decide +kernel
theorem dX9_inLowestTerms_6 : decode cX9_inLowestTerms 6 = .ok (.istore 5, 2) := by decide +kernel
theorem dX9_inLowestTerms_8 : decode cX9_inLowestTerms 8 = .ok (.iload 5, 2) := by decide +kernel
theorem dX9_inLowestTerms_10 : decode cX9_inLowestTerms 10 = .ok (.bipush 100, 2) := by decide +kernel
theorem dX9_inLowestTerms_12 : decode cX9_inLowestTerms 12 = .ok (.if_icmp .ge 27, 3) := by decide +kernel
theorem dX9_inLowestTerms_15 : decode cX9_inLowestTerms 15 = .ok (.iload 4, 2) := by decide +kernel
theorem dX9_inLowestTerms_17 : decode cX9_inLowestTerms 17 = .ok (.ifCond .le 22, 3) := by decide +kernel
theorem dX9_inLowestTerms_20 : decode cX9_inLowestTerms 20 = .ok (.iload_n 3, 1) := by decide +kernel
theorem dX9_inLowestTerms_21 : decode cX9_inLowestTerms 21 = .ok (.iload 4, 2) := by decide +kernel
theorem dX9_inLowestTerms_23 : decode cX9_inLowestTerms 23 = .ok (.irem, 1) := by decide +kernel
theorem dX9_inLowestTerms_24 : decode cX9_inLowestTerms 24 = .ok (.istore 6, 2) := by decide +kernel
theorem dX9_inLowestTerms_26 : decode cX9_inLowestTerms 26 = .ok (.iload 4, 2) := by decide +kernel
theorem dX9_inLowestTerms_28 : decode cX9_inLowestTerms 28 = .ok (.istore_n 3, 1) := by decide +kernel
theorem dX9_inLowestTerms_29 : decode cX9_inLowestTerms 29 = .ok (.iload 6, 2) := by decide +kernel
theorem dX9_inLowestTerms_31 : decode cX9_inLowestTerms 31 = .ok (.istore 4, 2) := by decide +kernel
theorem dX9_inLowestTerms_33 : decode cX9_inLowestTerms 33 = .ok (.iinc 5 1, 3) := by decide +kernel
theorem dX9_inLowestTerms_36 : decode cX9_inLowestTerms 36 = .ok (.goto (-28), 3) := by decide +kernel
theorem dX9_inLowestTerms_39 : decode cX9_inLowestTerms 39 = .ok (.iload_n 3, 1) := by decide +kernel
theorem dX9_inLowestTerms_40 : decode cX9_inLowestTerms 40 = .ok (.iconst 1, 1) := by decide +kernel
theorem dX9_inLowestTerms_41 : decode cX9_inLowestTerms 41 = .ok (.if_icmp .ge 13, 3) := by decide +kernel
theorem dX9_inLowestTerms_44 : decode cX9_inLowestTerms 44 = .ok (.iload_n 2, 1) := by decide +kernel
theorem dX9_inLowestTerms_45 : decode cX9_inLowestTerms 45 = .ok (.ifCond .ne 7, 3) := by decide +kernel
theorem dX9_inLowestTerms_48 : decode cX9_inLowestTerms 48 = .ok (.iload_n 0, 1) := by decide +kernel
theorem dX9_inLowestTerms_49 : decode cX9_inLowestTerms 49 = .ok (.goto 4, 3) := by decide +kernel
theorem dX9_inLowestTerms_52 : decode cX9_inLowestTerms 52 = .ok (.iload_n 1, 1) := by decide +kernel
theorem dX9_inLowestTerms_53 : decode cX9_inLowestTerms 53 = .ok (.ireturn, 1) := by decide +kernel
theorem dX9_inLowestTerms_54 : decode cX9_inLowestTerms 54 = .ok (.iload_n 2, 1) := by decide +kernel
theorem dX9_inLowestTerms_55 : decode cX9_inLowestTerms 55 = .ok (.ifCond .ne 9, 3) := by decide +kernel
theorem dX9_inLowestTerms_58 : decode cX9_inLowestTerms 58 = .ok (.iload_n 0, 1) := by decide +kernel
theorem dX9_inLowestTerms_59 : decode cX9_inLowestTerms 59 = .ok (.iload_n 3, 1) := by decide +kernel
theorem dX9_inLowestTerms_60 : decode cX9_inLowestTerms 60 = .ok (.idiv, 1) := by decide +kernel
theorem dX9_inLowestTerms_61 : decode cX9_inLowestTerms 61 = .ok (.goto 6, 3) := by decide +kernel
theorem dX9_inLowestTerms_64 : decode cX9_inLowestTerms 64 = .ok (.iload_n 1, 1) := by decide +kernel
theorem dX9_inLowestTerms_65 : decode cX9_inLowestTerms 65 = .ok (.iload_n 3, 1) := by decide +kernel
theorem dX9_inLowestTerms_66 : decode cX9_inLowestTerms 66 = .ok (.idiv, 1) := by decide +kernel
theorem dX9_inLowestTerms_67 : decode cX9_inLowestTerms 67 = .ok (.ireturn, 1) := by decide +kernel
end
section
theorem dX10_in_0 : decode cX10_in 0 = .ok (.lload_n 0, 1) := by decide +kernel
theorem dX10_in_1 : decode cX10_in 1 = .ok (.lload_n 2, 1) := by decide +kernel
theorem dX10_in_2 : decode cX10_in 2 = .ok (.lcmp, 1) := by decide +kernel
theorem dX10_in_3 : decode cX10_in 3 = .ok (.ifCond .lt 14, 3) := by decide +kernel
theorem dX10_in_6 : decode cX10_in 6 = .ok (.lload_n 0, 1) := by decide +kernel
theorem dX10_in_7 : decode cX10_in 7 = .ok (.lload 4, 2) := by decide +kernel
theorem dX10_in_9 : decode cX10_in 9 = .ok (.lcmp, 1) := by decide +kernel
theorem dX10_in_10 : decode cX10_in 10 = .ok (.ifCond .gt 7, 3) := by decide +kernel
theorem dX10_in_13 : decode cX10_in 13 = .ok (.iconst 1, 1) := by decide +kernel
theorem dX10_in_14 : decode cX10_in 14 = .ok (.goto 4, 3) := by decide +kernel
theorem dX10_in_17 : decode cX10_in 17 = .ok (.iconst 0, 1) := by decide +kernel
theorem dX10_in_18 : decode cX10_in 18 = .ok (.ireturn, 1) := by decide +kernel
theorem dX10_init_0 : decode cX10_init 0 = .ok (.aload_n 0, 1) := by decide +kernel
theorem dX10_init_1 : decode cX10_init 1 = .ok (.invokespecial 1, 3) := by decide +kernel
theorem dX10_init_4 : decode cX10_init 4 = .ok (.aload_n 0, 1) := by decide +kernel
theorem dX10_init_5 : decode cX10_init 5 = .ok (.bipush 10, 2) := by decide +kernel
theorem dX10_init_7 : decode cX10_init 7 = .ok (.newarray .int, 2) := by decide +kernel
theorem dX10_init_9 : decode cX10_init 9 = .ok (.putfield 7, 3) := by decide +kernel
theorem dX10_init_12 : decode cX10_init 12 = .ok (.aload_n 0, 1) := by decide +kernel
theorem dX10_init_13 : decode cX10_init 13 = .ok (.bipush 10, 2) := by decide +kernel
theorem dX10_init_15 : decode cX10_init 15 = .ok (.newarray .int, 2) := by decide +kernel
theorem dX10_init_17 : decode cX10_init 17 = .ok (.putfield 13, 3) := by decide +kernel
theorem dX10_init_20 : decode cX10_init 20 = .ok (.aload_n 0, 1) := by decide +kernel
theorem dX10_init_21 : decode cX10_init 21 = .ok (.bipush 10, 2) := by decide +kernel
theorem dX10_init_23 : decode cX10_init 23 = .ok (.newarray .int, 2) := by decide +kernel
theorem dX10_init_25 : decode cX10_init 25 = .ok (.putfield 16, 3) := by decide +kernel
theorem dX10_init_28 : decode cX10_init 28 = .ok (.aload_n 0, 1) := by decide +kernel
theorem dX10_init_29 : decode cX10_init 29 = .ok (.bipush 10, 2) := by decide +kernel
theorem dX10_init_31 : decode cX10_init 31 = .ok (.newarray .int, 2) := by decide +kernel
theorem dX10_init_33 : decode cX10_init 33 = .ok (.putfield 19, 3) := by decide +kernel
theorem dX10_init_36 : decode cX10_init 36 = .ok (.aload_n 0, 1) := by decide +kernel
theorem dX10_init_37 : decode cX10_init 37 = .ok (.bipush 10, 2) := by decide +kernel
theorem dX10_init_39 : decode cX10_init 39 = .ok (.newarray .int, 2) := by decide +kernel
theorem dX10_init_41 : decode cX10_init 41 = .ok (.putfield 22, 3) := by decide +kernel
theorem dX10_init_44 : decode cX10_init 44 = .ok (.aload_n 0, 1) := by decide +kernel
theorem dX10_init_45 : decode cX10_init 45 = .ok (.iconst 5, 1) := by decide +kernel
theorem dX10_init_46 : decode cX10_init 46 = .ok (.newarray .int, 2) := by decide +kernel
theorem dX10_init_48 : decode cX10_init 48 = .ok (.putfield 25, 3) := by decide +kernel
theorem dX10_init_51 : decode cX10_init 51 = .ok (.aload_n 0, 1) := by decide +kernel
theorem dX10_init_52 : decode cX10_init 52 = .ok (.iconst 5, 1) := by decide +kernel
theorem dX10_init_53 : decode cX10_init 53 = .ok (.newarray .int, 2) := by decide +kernel
theorem dX10_init_55 : decode cX10_init 55 = .ok (.putfield 28, 3) := by decide +kernel
theorem dX10_init_58 : decode cX10_init 58 = .ok (.aload_n 0, 1) := by decide +kernel
theorem dX10_init_59 : decode cX10_init 59 = .ok (.iconst 3, 1) := by decide +kernel
theorem dX10_init_60 : decode cX10_init 60 = .ok (.newarray .int, 2) := by decide +kernel
theorem dX10_init_62 : decode cX10_init 62 = .ok (.putfield 31, 3) := by decide +kernel
theorem dX10_init_65 : decode cX10_init 65 = .ok (.aload_n 0, 1) := by decide +kernel
theorem dX10_init_66 : decode cX10_init 66 = .ok (.iconst 3, 1) := by decide +kernel
theorem dX10_init_67 : decode cX10_init 67 = .ok (.newarray .int, 2) := by decide +kernel
theorem dX10_init_69 : decode cX10_init 69 = .ok (.putfield 34, 3) := by decide +kernel
theorem dX10_init_72 : decode cX10_init 72 = .ok (.aload_n 0, 1) := by decide +kernel
theorem dX10_init_73 : decode cX10_init 73 = .ok (.iconst 2, 1) := by decide +kernel
theorem dX10_init_74 : decode cX10_init 74 = .ok (.newarray .int, 2) := by decide +kernel
theorem dX10_init_76 : decode cX10_init 76 = .ok (.putfield 37, 3) := by decide +kernel
theorem dX10_init_79 : decode cX10_init 79 = .ok (.aload_n 0, 1) := by decide +kernel
theorem dX10_init_80 : decode cX10_init 80 = .ok (.bipush 8, 2) := by decide +kernel
theorem dX10_init_82 : decode cX10_init 82 = .ok (.newarray .int, 2) := by decide +kernel
theorem dX10_init_84 : decode cX10_init 84 = .ok (.putfield 40, 3) := by decide +kernel
theorem dX10_init_87 : decode cX10_init 87 = .ok (.aload_n 0, 1) := by decide +kernel
theorem dX10_init_88 : decode cX10_init 88 = .ok (.bipush 8, 2) := by decide +kernel
theorem dX10_init_90 : decode cX10_init 90 = .ok (.newarray .int, 2) := by decide +kernel
theorem dX10_init_92 : decode cX10_init 92 = .ok (.putfield 43, 3) := by decide +kernel
theorem dX10_init_95 : decode cX10_init 95 = .ok (.aload_n 0, 1) := by decide +kernel
theorem dX10_init_96 : decode cX10_init 96 = .ok (.bipush 8, 2) := by decide +kernel
theorem dX10_init_98 : decode cX10_init 98 = .ok (.newarray .int, 2) := by decide +kernel
theorem dX10_init_100 : decode cX10_init 100 = .ok (.putfield 46, 3) := by decide +kernel
theorem dX10_init_103 : decode cX10_init 103 = .ok (.aload_n 0, 1) := by decide +kernel
theorem dX10_init_104 : decode cX10_init 104 = .ok (.bipush 6, 2) := by decide +kernel
theorem dX10_init_106 : decode cX10_init 106 = .ok (.newarray .int, 2) := by decide +kernel
theorem dX10_init_108 : decode cX10_init 108 = .ok (.putfield 49, 3) := by decide +kernel
theorem dX10_init_111 : decode cX10_init 111 = .ok (.aload_n 0, 1) := by decide +kernel
theorem dX10_init_112 : decode cX10_init 112 = .ok (.bipush 6, 2) := by decide +kernel
theorem dX10_init_114 : decode cX10_init 114 = .ok (.newarray .int, 2) := by decide +kernel
theorem dX10_init_116 : decode cX10_init 116 = .ok (.putfield 52, 3) := by decide +kernel
theorem dX10_init_119 : decode cX10_init 119 = .ok (.aload_n 0, 1) := by decide +kernel
theorem dX10_init_120 : decode cX10_init 120 = .ok (.bipush 80, 2) := by decide +kernel
theorem dX10_init_122 : decode cX10_init 122 = .ok (.newarray .int, 2) := by decide +kernel
theorem dX10_init_124 : decode cX10_init 124 = .ok (.putfield 55, 3) := by decide +kernel
theorem dX10_init_127 : decode cX10_init 127 = .ok (.aload_n 0, 1) := by decide +kernel
theorem dX10_init_128 : decode cX10_init 128 = .ok (.bipush 30, 2) := by decide +kernel
theorem dX10_init_130 : decode cX10_init 130 = .ok (.newarray .int, 2) := by decide +kernel
theorem dX10_init_132 : decode cX10_init 132 = .ok (.putfield 58, 3) := by decide +kernel
theorem dX10_init_135 : decode cX10_init 135 = .ok (.aload_n 0, 1) := by decide +kernel
theorem dX10_init_136 : decode cX10_init 136 = .ok (.bipush 10, 2) := by decide +kernel
theorem dX10_init_138 : decode cX10_init 138 = .ok (.newarray .int, 2) := by decide +kernel
theorem dX10_init_140 : decode cX10_init 140 = .ok (.putfield 61, 3) := by decide +kernel
theorem dX10_init_143 : decode cX10_init 143 = .ok (.aload_n 0, 1) := by decide +kernel
theorem dX10_init_144 : decode cX10_init 144 = .ok (.bipush 10, 2) := by decide +kernel
theorem dX10_init_146 : decode cX10_init 146 = .ok (.newarray .int, 2) := by decide +kernel
theorem dX10_init_148 : decode cX10_init 148 = .ok (.putfield 64, 3) := by decide +kernel
theorem dX10_init_151 : decode cX10_init 151 = .ok (.aload_n 0, 1) := by decide +kernel
theorem dX10_init_152 : decode cX10_init 152 = .ok (.bipush 10, 2) := by decide +kernel
theorem dX10_init_154 : decode cX10_init 154 = .ok (.newarray .int, 2) := by decide +kernel
theorem dX10_init_156 : decode cX10_init 156 = .ok (.putfield 67, 3) := by decide +kernel
theorem dX10_init_159 : decode cX10_init 159 = .ok (.aload_n 0, 1) := by decide +kernel
theorem dX10_init_160 : decode cX10_init 160 = .ok (.sipush 10240, 3) := by decide +kernel
theorem dX10_init_163 : decode cX10_init 163 = .ok (.newarray .int, 2) := by decide +kernel
theorem dX10_init_165 : decode cX10_init 165 = .ok (.putfield 70, 3) := by decide +kernel
theorem dX10_init_168 : decode cX10_init 168 = .ok (.aload_n 0, 1) := by decide +kernel
theorem dX10_init_169 : decode cX10_init 169 = .ok (.bipush 6, 2) := by decide +kernel
theorem dX10_init_171 : decode cX10_init 171 = .ok (.newarray .int, 2) := by decide +kernel
theorem dX10_init_173 : decode cX10_init 173 = .ok (.putfield 73, 3) := by decide +kernel
theorem dX10_init_176 : decode cX10_init 176 = .ok (.aload_n 0, 1) := by decide +kernel
theorem dX10_init_177 : decode cX10_init 177 = .ok (.bipush 110, 2) := by decide +kernel
theorem dX10_init_179 : decode cX10_init 179 = .ok (.newarray .int, 2) := by decide +kernel
theorem dX10_init_181 : decode cX10_init 181 = .ok (.putfield 76, 3) := by decide +kernel
theorem dX10_init_184 : decode cX10_init 184 = .ok (.aload_n 0, 1) := by decide +kernel
theorem dX10_init_185 : decode cX10_init 185 = .ok (.iconst 4, 1) := by decide +kernel
theorem dX10_init_186 : decode cX10_init 186 = .ok (.newarray .int, 2) := by decide +kernel
theorem dX10_init_188 : decode cX10_init 188 = .ok (.putfield 79, 3) := by decide +kernel
theorem dX10_init_191 : decode cX10_init 191 = .ok (.aload_n 0, 1) := by decide +kernel
theorem dX10_init_192 : decode cX10_init 192 = .ok (.iconst 4, 1) := by decide +kernel
theorem dX10_init_193 : decode cX10_init 193 = .ok (.newarray .int, 2) := by decide +kernel
theorem dX10_init_195 : decode cX10_init 195 = .ok (.putfield 82, 3) := by decide +kernel
theorem dX10_init_198 : decode cX10_init 198 = .ok (.aload_n 0, 1) := by decide +kernel
theorem dX10_init_199 : decode cX10_init 199 = .ok (.bipush 64, 2) := by decide +kernel
theorem dX10_init_201 : decode cX10_init 201 = .ok (.newarray .long, 2) := by decide +kernel
theorem dX10_init_203 : decode cX10_init 203 = .ok (.putfield 85, 3) := by decide +kernel
theorem dX10_init_206 : decode cX10_init 206 = .ok (.aload_n 0, 1) := by decide +kernel
theorem dX10_init_207 : decode cX10_init 207 = .ok (.bipush 16, 2) := by decide +kernel
theorem dX10_init_209 : decode cX10_init 209 = .ok (.newarray .long, 2) := by decide +kernel
theorem dX10_init_211 : decode cX10_init 211 = .ok (.putfield 89, 3) := by decide +kernel
theorem dX10_init_214 : decode cX10_init 214 = .ok (.aload_n 0, 1) := by decide +kernel
theorem dX10_init_215 : decode cX10_init 215 = .ok (.bipush 8, 2) := by decide +kernel
theorem dX10_init_217 : decode cX10_init 217 = .ok (.newarray .int, 2) := by decide +kernel
theorem dX10_init_219 : decode cX10_init 219 = .ok (.putfield 92, 3) := by decide +kernel
theorem dX10_init_222 : decode cX10_init 222 = .ok (.aload_n 0, 1) := by decide +kernel
theorem dX10_init_223 : decode cX10_init 223 = .ok (.sipush 256, 3) := by decide +kernel
theorem dX10_init_226 : decode cX10_init 226 = .ok (.newarray .int, 2) := by decide +kernel
theorem dX10_init_228 : decode cX10_init 228 = .ok (.putfield 95, 3) := by decide +kernel
theorem dX10_init_231 : decode cX10_init 231 = .ok (.iconst 0, 1) := by decide +kernel
theorem dX10_init_232 : decode cX10_init 232 = .ok (.istore_n 1, 1) := by decide +kernel
theorem dX10_init_233 : decode cX10_init 233 = .ok (.iload_n 1, 1) := by decide +kernel
theorem dX10_init_234 : decode cX10_init 234 = .ok (.iconst 4, 1) := by decide +kernel
theorem dX10_init_235 : decode cX10_init 235 = .ok (.if_icmp .ge 16, 3) := by decide +kernel
theorem dX10_init_238 : decode cX10_init 238 = .ok (.aload_n 0, 1) := by decide +kernel
theorem dX10_init_239 : decode cX10_init 239 = .ok (.getfield 79, 3) := by decide +kernel
theorem dX10_init_242 : decode cX10_init 242 = .ok (.iload_n 1, 1) := by decide +kernel
theorem dX10_init_243 : decode cX10_init 243 = .ok (.iconst (-1), 1) := by decide +kernel
theorem dX10_init_244 : decode cX10_init 244 = .ok (.iastore, 1) := by decide +kernel
theorem dX10_init_245 : decode cX10_init 245 = .ok (.iinc 1 1, 3) := by decide +kernel
theorem dX10_init_248 : decode cX10_init 248 = .ok (.goto (-15), 3) := by decide +kernel
theorem dX10_init_251 : decode cX10_init 251 = .ok (.iconst 0, 1) := by decide +kernel
theorem dX10_init_252 : decode cX10_init 252 = .ok (.istore_n 1, 1) := by decide +kernel
theorem dX10_init_253 : decode cX10_init 253 = .ok (.iload_n 1, 1) := by decide +kernel
theorem dX10_init_254 : decode cX10_init 254 = .ok (.iconst 3, 1) := by decide +kernel
theorem dX10_init_255 : decode cX10_init 255 = .ok (.if_icmp .ge 18, 3) := by decide +kernel
theorem dX10_init_258 : decode cX10_init 258 = .ok (.aload_n 0, 1) := by decide +kernel
theorem dX10_init_259 : decode cX10_init 259 = .ok (.getfield 31, 3) := by decide +kernel
theorem dX10_init_262 : decode cX10_init 262 = .ok (.iload_n 1, 1) := by decide +kernel
theorem dX10_init_263 : decode cX10_init 263 = .ok (.sipush 999, 3) := by decide +kernel
theorem dX10_init_266 : decode cX10_init 266 = .ok (.iastore, 1) := by decide +kernel
theorem dX10_init_267 : decode cX10_init 267 = .ok (.iinc 1 1, 3) := by decide +kernel
theorem dX10_init_270 : decode cX10_init 270 = .ok (.goto (-17), 3) := by decide +kernel
theorem dX10_init_273 : decode cX10_init 273 = .ok (.aload_n 0, 1) := by decide +kernel
theorem dX10_init_274 : decode cX10_init 274 = .ok (.getfield 37, 3) := by decide +kernel
theorem dX10_init_277 : decode cX10_init 277 = .ok (.iconst 0, 1) := by decide +kernel
theorem dX10_init_278 : decode cX10_init 278 = .ok (.iconst 2, 1) := by decide +kernel
theorem dX10_init_279 : decode cX10_init 279 = .ok (.iastore, 1) := by decide +kernel
theorem dX10_init_280 : decode cX10_init 280 = .ok (.aload_n 0, 1) := by decide +kernel
theorem dX10_init_281 : decode cX10_init 281 = .ok (.getfield 37, 3) := by decide +kernel
theorem dX10_init_284 : decode cX10_init 284 = .ok (.iconst 1, 1) := by decide +kernel
theorem dX10_init_285 : decode cX10_init 285 = .ok (.iconst 3, 1) := by decide +kernel
theorem dX10_init_286 : decode cX10_init 286 = .ok (.iastore, 1) := by decide +kernel
theorem dX10_init_287 : decode cX10_init 287 = .ok (.return_, 1) := by decide +kernel
theorem dX10_isThing_0 : decode cX10_isThing 0 = .ok (.lload_n 1, 1) := by decide +kernel
theorem dX10_isThing_1 : decode cX10_isThing 1 = .ok (.lconst 0, 1) := by decide +kernel
theorem dX10_isThing_2 : decode cX10_isThing 2 = .ok (.aload_n 0, 1) := by decide +kernel
theorem dX10_isThing_3 : decode cX10_isThing 3 = .ok (.getfield 98, 3) := by decide +kernel
theorem dX10_isThing_6 : decode cX10_isThing 6 = .ok (.iconst 1, 1) := by decide +kernel
theorem dX10_isThing_7 : decode cX10_isThing 7 = .ok (.isub, 1) := by decide +kernel
theorem dX10_isThing_8 : decode cX10_isThing 8 = .ok (.i2l, 1) := by decide +kernel
theorem dX10_isThing_9 : decode cX10_isThing 9 = .ok (.invokestatic 102, 3) := by decide +kernel
theorem dX10_isThing_12 : decode cX10_isThing 12 = .ok (.ireturn, 1) := by decide +kernel
theorem dX10_isStretch_0 : decode cX10_isStretch 0 = .ok (.iload_n 1, 1) := by decide +kernel
theorem dX10_isStretch_1 : decode cX10_isStretch 1 = .ok (.i2l, 1) := by decide +kernel
theorem dX10_isStretch_2 : decode cX10_isStretch 2 = .ok (.lconst 0, 1) := by decide +kernel
theorem dX10_isStretch_3 : decode cX10_isStretch 3 = .ok (.aload_n 0, 1) := by decide +kernel
theorem dX10_isStretch_4 : decode cX10_isStretch 4 = .ok (.getfield 106, 3) := by decide +kernel
theorem dX10_isStretch_7 : decode cX10_isStretch 7 = .ok (.iconst 1, 1) := by decide +kernel
theorem dX10_isStretch_8 : decode cX10_isStretch 8 = .ok (.isub, 1) := by decide +kernel
theorem dX10_isStretch_9 : decode cX10_isStretch 9 = .ok (.i2l, 1) := by decide +kernel
theorem dX10_isStretch_10 : decode cX10_isStretch 10 = .ok (.invokestatic 102, 3) := by decide +kernel
theorem dX10_isStretch_13 : decode cX10_isStretch 13 = .ok (.ireturn, 1) := by decide +kernel
theorem dX10_isBag_0 : decode cX10_isBag 0 = .ok (.lload_n 0, 1) := by decide +kernel
theorem dX10_isBag_1 : decode cX10_isBag 1 = .ok (.lconst 0, 1) := by decide +kernel
theorem dX10_isBag_2 : decode cX10_isBag 2 = .ok (.ldc2_w 109, 3) := by decide +kernel
theorem dX10_isBag_5 : decode cX10_isBag 5 = .ok (.invokestatic 102, 3) := by decide +kernel
theorem dX10_isBag_8 : decode cX10_isBag 8 = .ok (.ireturn, 1) := by decide +kernel
theorem dX10_comes_0 : decode cX10_comes 0 = .ok (.aload_n 0, 1) := by decide +kernel
theorem dX10_comes_1 : decode cX10_comes 1 = .ok (.getfield 7, 3) := by decide +kernel
theorem dX10_comes_4 : decode cX10_comes 4 = .ok (.aload_n 0, 1) := by decide +kernel
theorem dX10_comes_5 : decode cX10_comes 5 = .ok (.getfield 98, 3) := by decide +kernel
theorem dX10_comes_8 : decode cX10_comes 8 = .ok (.iload_n 1, 1) := by decide +kernel
theorem dX10_comes_9 : decode cX10_comes 9 = .ok (.iastore, 1) := by decide +kernel
theorem dX10_comes_10 : decode cX10_comes 10 = .ok (.aload_n 0, 1) := by decide +kernel
theorem dX10_comes_11 : decode cX10_comes 11 = .ok (.getfield 13, 3) := by decide +kernel
theorem dX10_comes_14 : decode cX10_comes 14 = .ok (.aload_n 0, 1) := by decide +kernel
theorem dX10_comes_15 : decode cX10_comes 15 = .ok (.getfield 98, 3) := by decide +kernel
theorem dX10_comes_18 : decode cX10_comes 18 = .ok (.iload_n 2, 1) := by decide +kernel
theorem dX10_comes_19 : decode cX10_comes 19 = .ok (.iastore, 1) := by decide +kernel
theorem dX10_comes_20 : decode cX10_comes 20 = .ok (.aload_n 0, 1) := by decide +kernel
theorem dX10_comes_21 : decode cX10_comes 21 = .ok (.getfield 16, 3) := by decide +kernel
theorem dX10_comes_24 : decode cX10_comes 24 = .ok (.aload_n 0, 1) := by decide +kernel
theorem dX10_comes_25 : decode cX10_comes 25 = .ok (.getfield 98, 3) := by decide +kernel
theorem dX10_comes_28 : decode cX10_comes 28 = .ok (.iload_n 3, 1) := by decide +kernel
theorem dX10_comes_29 : decode cX10_comes 29 = .ok (.iastore, 1) := by decide +kernel
theorem dX10_comes_30 : decode cX10_comes 30 = .ok (.aload_n 0, 1) := by decide +kernel
theorem dX10_comes_31 : decode cX10_comes 31 = .ok (.getfield 19, 3) := by decide +kernel
theorem dX10_comes_34 : decode cX10_comes 34 = .ok (.aload_n 0, 1) := by decide +kernel
theorem dX10_comes_35 : decode cX10_comes 35 = .ok (.getfield 98, 3) := by decide +kernel
theorem dX10_comes_38 : decode cX10_comes 38 = .ok (.bipush 50, 2) := by decide +kernel
theorem dX10_comes_40 : decode cX10_comes 40 = .ok (.iastore, 1) := by decide +kernel
theorem dX10_comes_41 : decode cX10_comes 41 = .ok (.aload_n 0, 1) := by decide +kernel
theorem dX10_comes_42 : decode cX10_comes 42 = .ok (.getfield 22, 3) := by decide +kernel
theorem dX10_comes_45 : decode cX10_comes 45 = .ok (.aload_n 0, 1) := by decide +kernel
theorem dX10_comes_46 : decode cX10_comes 46 = .ok (.getfield 98, 3) := by decide +kernel
theorem dX10_comes_49 : decode cX10_comes 49 = .ok (.iconst 0, 1) := by decide +kernel
theorem dX10_comes_50 : decode cX10_comes 50 = .ok (.iastore, 1) := by decide +kernel
theorem dX10_comes_51 : decode cX10_comes 51 = .ok (.aload_n 0, 1) := by decide +kernel
theorem dX10_comes_52 : decode cX10_comes 52 = .ok (.dup, 1) := by decide +kernel
theorem dX10_comes_53 : decode cX10_comes 53 = .ok (.getfield 98, 3) := by decide +kernel
theorem dX10_comes_56 : decode cX10_comes 56 = .ok (.iconst 1, 1) := by decide +kernel
theorem dX10_comes_57 : decode cX10_comes 57 = .ok (.iadd, 1) := by decide +kernel
theorem dX10_comes_58 : decode cX10_comes 58 = .ok (.putfield 98, 3) := by decide +kernel
theorem dX10_comes_61 : decode cX10_comes 61 = .ok (.return_, 1) := by decide +kernel
theorem dX10_thing_0 : decode cX10_thing 0 = .ok (.iload_n 1, 1) := by decide +kernel
theorem dX10_thing_1 : decode cX10_thing 1 = .ok (.i2l, 1) := by decide +kernel
theorem dX10_thing_2 : decode cX10_thing 2 = .ok (.lconst 0, 1) := by decide +kernel
theorem dX10_thing_3 : decode cX10_thing 3 = .ok (.ldc2_w 111, 3) := by decide +kernel
theorem dX10_thing_6 : decode cX10_thing 6 = .ok (.invokestatic 102, 3) := by decide +kernel
theorem dX10_thing_9 : decode cX10_thing 9 = .ok (.ifCond .eq 15, 3) := by decide +kernel
theorem dX10_thing_12 : decode cX10_thing 12 = .ok (.iload_n 2, 1) := by decide +kernel
theorem dX10_thing_13 : decode cX10_thing 13 = .ok (.i2l, 1) := by decide +kernel
theorem dX10_thing_14 : decode cX10_thing 14 = .ok (.lconst 1, 1) := by decide +kernel
theorem dX10_thing_15 : decode cX10_thing 15 = .ok (.ldc2_w 113, 3) := by decide +kernel
theorem dX10_thing_18 : decode cX10_thing 18 = .ok (.invokestatic 102, 3) := by decide +kernel
theorem dX10_thing_21 : decode cX10_thing 21 = .ok (.ifCond .ne 5, 3) := by decide +kernel
theorem dX10_thing_24 : decode cX10_thing 24 = .ok (.iconst (-1), 1) := by decide +kernel
theorem dX10_thing_25 : decode cX10_thing 25 = .ok (.ireturn, 1) := by decide +kernel
theorem dX10_thing_26 : decode cX10_thing 26 = .ok (.aload_n 0, 1) := by decide +kernel
theorem dX10_thing_27 : decode cX10_thing 27 = .ok (.getfield 98, 3) := by decide +kernel
theorem dX10_thing_30 : decode cX10_thing 30 = .ok (.bipush 10, 2) := by decide +kernel
theorem dX10_thing_32 : decode cX10_thing 32 = .ok (.if_icmp .ne 6, 3) := by decide +kernel
theorem dX10_thing_35 : decode cX10_thing 35 = .ok (.bipush (-3), 2) := by decide +kernel
theorem dX10_thing_37 : decode cX10_thing 37 = .ok (.ireturn, 1) := by decide +kernel
theorem dX10_thing_38 : decode cX10_thing 38 = .ok (.aload_n 0, 1) := by decide +kernel
theorem dX10_thing_39 : decode cX10_thing 39 = .ok (.iload_n 1, 1) := by decide +kernel
theorem dX10_thing_40 : decode cX10_thing 40 = .ok (.iload_n 2, 1) := by decide +kernel
theorem dX10_thing_41 : decode cX10_thing 41 = .ok (.iconst 5, 1) := by decide +kernel
theorem dX10_thing_42 : decode cX10_thing 42 = .ok (.invokevirtual 115, 3) := by decide +kernel
theorem dX10_thing_45 : decode cX10_thing 45 = .ok (.aload_n 0, 1) := by decide +kernel
theorem dX10_thing_46 : decode cX10_thing 46 = .ok (.getfield 98, 3) := by decide +kernel
theorem dX10_thing_49 : decode cX10_thing 49 = .ok (.iconst 1, 1) := by decide +kernel
theorem dX10_thing_50 : decode cX10_thing 50 = .ok (.isub, 1) := by decide +kernel
theorem dX10_thing_51 : decode cX10_thing 51 = .ok (.ireturn, 1) := by decide +kernel
theorem dX10_hangs_0 : decode cX10_hangs 0 = .ok (.iconst 0, 1) := by decide +kernel
theorem dX10_hangs_1 : decode cX10_hangs 1 = .ok (.istore_n 2, 1) := by decide +kernel
theorem dX10_hangs_2 : decode cX10_hangs 2 = .ok (.iconst 0, 1) := by decide +kernel
theorem dX10_hangs_3 : decode cX10_hangs 3 = .ok (.istore_n 3, 1) := by decide +kernel
theorem dX10_hangs_4 : decode cX10_hangs 4 = .ok (.iload_n 3, 1) := by decide +kernel
theorem dX10_hangs_5 : decode cX10_hangs 5 = .ok (.aload_n 0, 1) := by decide +kernel
theorem dX10_hangs_6 : decode cX10_hangs 6 = .ok (.getfield 119, 3) := by decide +kernel
theorem dX10_hangs_9 : decode cX10_hangs 9 = .ok (.if_icmp .ge 39, 3) := by decide +kernel
theorem dX10_hangs_12 : decode cX10_hangs 12 = .ok (.iload_n 2, 1) := by decide +kernel
theorem dX10_hangs_13 : decode cX10_hangs 13 = .ok (.ifCond .ne 23, 3) := by decide +kernel
theorem dX10_hangs_16 : decode cX10_hangs 16 = .ok (.aload_n 0, 1) := by decide +kernel
theorem dX10_hangs_17 : decode cX10_hangs 17 = .ok (.getfield 49, 3) := by decide +kernel
theorem dX10_hangs_20 : decode cX10_hangs 20 = .ok (.iload_n 3, 1) := by decide +kernel
theorem dX10_hangs_21 : decode cX10_hangs 21 = .ok (.iaload, 1) := by decide +kernel
theorem dX10_hangs_22 : decode cX10_hangs 22 = .ok (.iload_n 1, 1) := by decide +kernel
theorem dX10_hangs_23 : decode cX10_hangs 23 = .ok (.if_icmp .eq 13, 3) := by decide +kernel
theorem dX10_hangs_26 : decode cX10_hangs 26 = .ok (.aload_n 0, 1) := by decide +kernel
theorem dX10_hangs_27 : decode cX10_hangs 27 = .ok (.getfield 52, 3) := by decide +kernel
theorem dX10_hangs_30 : decode cX10_hangs 30 = .ok (.iload_n 3, 1) := by decide +kernel
theorem dX10_hangs_31 : decode cX10_hangs 31 = .ok (.iaload, 1) := by decide +kernel
theorem dX10_hangs_32 : decode cX10_hangs 32 = .ok (.iload_n 1, 1) := by decide +kernel
theorem dX10_hangs_33 : decode cX10_hangs 33 = .ok (.if_icmp .ne 7, 3) := by decide +kernel
theorem dX10_hangs_36 : decode cX10_hangs 36 = .ok (.iconst 1, 1) := by decide +kernel
theorem dX10_hangs_37 : decode cX10_hangs 37 = .ok (.goto 4, 3) := by decide +kernel
theorem dX10_hangs_40 : decode cX10_hangs 40 = .ok (.iconst 0, 1) := by decide +kernel
theorem dX10_hangs_41 : decode cX10_hangs 41 = .ok (.istore_n 2, 1) := by decide +kernel
theorem dX10_hangs_42 : decode cX10_hangs 42 = .ok (.iinc 3 1, 3) := by decide +kernel
theorem dX10_hangs_45 : decode cX10_hangs 45 = .ok (.goto (-41), 3) := by decide +kernel
theorem dX10_hangs_48 : decode cX10_hangs 48 = .ok (.iload_n 2, 1) := by decide +kernel
theorem dX10_hangs_49 : decode cX10_hangs 49 = .ok (.ireturn, 1) := by decide +kernel
theorem dX10_told_0 : decode cX10_told 0 = .ok (.aload_n 0, 1) := by decide +kernel
theorem dX10_told_1 : decode cX10_told 1 = .ok (.iload_n 1, 1) := by decide +kernel
theorem dX10_told_2 : decode cX10_told 2 = .ok (.i2l, 1) := by decide +kernel
theorem dX10_told_3 : decode cX10_told 3 = .ok (.invokevirtual 122, 3) := by decide +kernel
theorem dX10_told_6 : decode cX10_told 6 = .ok (.ifCond .ne 5, 3) := by decide +kernel
theorem dX10_told_9 : decode cX10_told 9 = .ok (.iconst (-1), 1) := by decide +kernel
theorem dX10_told_10 : decode cX10_told 10 = .ok (.ireturn, 1) := by decide +kernel
theorem dX10_told_11 : decode cX10_told 11 = .ok (.iload_n 2, 1) := by decide +kernel
theorem dX10_told_12 : decode cX10_told 12 = .ok (.tableswitch 89 0 5 #[40, 47, 54, 61, 68, 75], 40) := by decide +kernel
theorem dX10_told_52 : decode cX10_told 52 = .ok (.aload_n 0, 1) := by decide +kernel
theorem dX10_told_53 : decode cX10_told 53 = .ok (.getfield 7, 3) := by decide +kernel
theorem dX10_told_56 : decode cX10_told 56 = .ok (.iload_n 1, 1) := by decide +kernel
theorem dX10_told_57 : decode cX10_told 57 = .ok (.iaload, 1) := by decide +kernel
theorem dX10_told_58 : decode cX10_told 58 = .ok (.ireturn, 1) := by decide +kernel
theorem dX10_told_59 : decode cX10_told 59 = .ok (.aload_n 0, 1) := by decide +kernel
theorem dX10_told_60 : decode cX10_told 60 = .ok (.getfield 13, 3) := by decide +kernel
theorem dX10_told_63 : decode cX10_told 63 = .ok (.iload_n 1, 1) := by decide +kernel
theorem dX10_told_64 : decode cX10_told 64 = .ok (.iaload, 1) := by decide +kernel
theorem dX10_told_65 : decode cX10_told 65 = .ok (.ireturn, 1) := by decide +kernel
theorem dX10_told_66 : decode cX10_told 66 = .ok (.aload_n 0, 1) := by decide +kernel
theorem dX10_told_67 : decode cX10_told 67 = .ok (.getfield 16, 3) := by decide +kernel
theorem dX10_told_70 : decode cX10_told 70 = .ok (.iload_n 1, 1) := by decide +kernel
theorem dX10_told_71 : decode cX10_told 71 = .ok (.iaload, 1) := by decide +kernel
theorem dX10_told_72 : decode cX10_told 72 = .ok (.ireturn, 1) := by decide +kernel
theorem dX10_told_73 : decode cX10_told 73 = .ok (.aload_n 0, 1) := by decide +kernel
theorem dX10_told_74 : decode cX10_told 74 = .ok (.getfield 19, 3) := by decide +kernel
theorem dX10_told_77 : decode cX10_told 77 = .ok (.iload_n 1, 1) := by decide +kernel
theorem dX10_told_78 : decode cX10_told 78 = .ok (.iaload, 1) := by decide +kernel
theorem dX10_told_79 : decode cX10_told 79 = .ok (.ireturn, 1) := by decide +kernel
theorem dX10_told_80 : decode cX10_told 80 = .ok (.aload_n 0, 1) := by decide +kernel
theorem dX10_told_81 : decode cX10_told 81 = .ok (.getfield 22, 3) := by decide +kernel
theorem dX10_told_84 : decode cX10_told 84 = .ok (.iload_n 1, 1) := by decide +kernel
theorem dX10_told_85 : decode cX10_told 85 = .ok (.iaload, 1) := by decide +kernel
theorem dX10_told_86 : decode cX10_told 86 = .ok (.ireturn, 1) := by decide +kernel
theorem dX10_told_87 : decode cX10_told 87 = .ok (.aload_n 0, 1) := by decide +kernel
theorem dX10_told_88 : decode cX10_told 88 = .ok (.iload_n 1, 1) := by decide +kernel
theorem dX10_told_89 : decode cX10_told 89 = .ok (.invokevirtual 126, 3) := by decide +kernel
theorem dX10_told_92 : decode cX10_told 92 = .ok (.ifCond .eq 7, 3) := by decide +kernel
theorem dX10_told_95 : decode cX10_told 95 = .ok (.iconst 1, 1) := by decide +kernel
theorem dX10_told_96 : decode cX10_told 96 = .ok (.goto 4, 3) := by decide +kernel
theorem dX10_told_99 : decode cX10_told 99 = .ok (.iconst 0, 1) := by decide +kernel
theorem dX10_told_100 : decode cX10_told 100 = .ok (.ireturn, 1) := by decide +kernel
theorem dX10_told_101 : decode cX10_told 101 = .ok (.iconst (-1), 1) := by decide +kernel
theorem dX10_told_102 : decode cX10_told 102 = .ok (.ireturn, 1) := by decide +kernel
theorem dX10_set_0 : decode cX10_set 0 = .ok (.aload_n 0, 1) := by decide +kernel
theorem dX10_set_1 : decode cX10_set 1 = .ok (.iload_n 1, 1) := by decide +kernel
theorem dX10_set_2 : decode cX10_set 2 = .ok (.i2l, 1) := by decide +kernel
theorem dX10_set_3 : decode cX10_set 3 = .ok (.invokevirtual 122, 3) := by decide +kernel
theorem dX10_set_6 : decode cX10_set 6 = .ok (.ifCond .eq 69, 3) := by decide +kernel
theorem dX10_set_9 : decode cX10_set 9 = .ok (.iload_n 2, 1) := by decide +kernel
theorem dX10_set_10 : decode cX10_set 10 = .ok (.i2l, 1) := by decide +kernel
theorem dX10_set_11 : decode cX10_set 11 = .ok (.lconst 1, 1) := by decide +kernel
theorem dX10_set_12 : decode cX10_set 12 = .ok (.ldc2_w 130, 3) := by decide +kernel
theorem dX10_set_15 : decode cX10_set 15 = .ok (.invokestatic 102, 3) := by decide +kernel
theorem dX10_set_18 : decode cX10_set 18 = .ok (.ifCond .eq 57, 3) := by decide +kernel
theorem dX10_set_21 : decode cX10_set 21 = .ok (.iload_n 3, 1) := by decide +kernel
theorem dX10_set_22 : decode cX10_set 22 = .ok (.i2l, 1) := by decide +kernel
theorem dX10_set_23 : decode cX10_set 23 = .ok (.iload_n 2, 1) := by decide +kernel
theorem dX10_set_24 : decode cX10_set 24 = .ok (.iconst 1, 1) := by decide +kernel
theorem dX10_set_25 : decode cX10_set 25 = .ok (.if_icmp .ne 7, 3) := by decide +kernel
theorem dX10_set_28 : decode cX10_set 28 = .ok (.lconst 1, 1) := by decide +kernel
theorem dX10_set_29 : decode cX10_set 29 = .ok (.goto 4, 3) := by decide +kernel
theorem dX10_set_32 : decode cX10_set 32 = .ok (.lconst 0, 1) := by decide +kernel
theorem dX10_set_33 : decode cX10_set 33 = .ok (.iload_n 2, 1) := by decide +kernel
theorem dX10_set_34 : decode cX10_set 34 = .ok (.iconst 1, 1) := by decide +kernel
theorem dX10_set_35 : decode cX10_set 35 = .ok (.if_icmp .ne 9, 3) := by decide +kernel
theorem dX10_set_38 : decode cX10_set 38 = .ok (.ldc2_w 113, 3) := by decide +kernel
theorem dX10_set_41 : decode cX10_set 41 = .ok (.goto 28, 3) := by decide +kernel
theorem dX10_set_44 : decode cX10_set 44 = .ok (.iload_n 2, 1) := by decide +kernel
theorem dX10_set_45 : decode cX10_set 45 = .ok (.iconst 2, 1) := by decide +kernel
theorem dX10_set_46 : decode cX10_set 46 = .ok (.if_icmp .ne 9, 3) := by decide +kernel
theorem dX10_set_49 : decode cX10_set 49 = .ok (.ldc2_w 132, 3) := by decide +kernel
theorem dX10_set_52 : decode cX10_set 52 = .ok (.goto 17, 3) := by decide +kernel
theorem dX10_set_55 : decode cX10_set 55 = .ok (.iload_n 2, 1) := by decide +kernel
theorem dX10_set_56 : decode cX10_set 56 = .ok (.iconst 3, 1) := by decide +kernel
theorem dX10_set_57 : decode cX10_set 57 = .ok (.if_icmp .ne 9, 3) := by decide +kernel
theorem dX10_set_60 : decode cX10_set 60 = .ok (.ldc2_w 134, 3) := by decide +kernel
theorem dX10_set_63 : decode cX10_set 63 = .ok (.goto 6, 3) := by decide +kernel
theorem dX10_set_66 : decode cX10_set 66 = .ok (.ldc2_w 109, 3) := by decide +kernel
theorem dX10_set_69 : decode cX10_set 69 = .ok (.invokestatic 102, 3) := by decide +kernel
theorem dX10_set_72 : decode cX10_set 72 = .ok (.ifCond .ne 5, 3) := by decide +kernel
theorem dX10_set_75 : decode cX10_set 75 = .ok (.iconst (-1), 1) := by decide +kernel
theorem dX10_set_76 : decode cX10_set 76 = .ok (.ireturn, 1) := by decide +kernel
theorem dX10_set_77 : decode cX10_set 77 = .ok (.aload_n 0, 1) := by decide +kernel
theorem dX10_set_78 : decode cX10_set 78 = .ok (.iload_n 1, 1) := by decide +kernel
theorem dX10_set_79 : decode cX10_set 79 = .ok (.iload_n 2, 1) := by decide +kernel
theorem dX10_set_80 : decode cX10_set 80 = .ok (.invokevirtual 136, 3) := by decide +kernel
theorem dX10_set_83 : decode cX10_set 83 = .ok (.istore 4, 2) := by decide +kernel
theorem dX10_set_85 : decode cX10_set 85 = .ok (.aload_n 0, 1) := by decide +kernel
theorem dX10_set_86 : decode cX10_set 86 = .ok (.getfield 13, 3) := by decide +kernel
theorem dX10_set_89 : decode cX10_set 89 = .ok (.iload_n 1, 1) := by decide +kernel
theorem dX10_set_90 : decode cX10_set 90 = .ok (.iload_n 2, 1) := by decide +kernel
theorem dX10_set_91 : decode cX10_set 91 = .ok (.iconst 1, 1) := by decide +kernel
theorem dX10_set_92 : decode cX10_set 92 = .ok (.if_icmp .ne 7, 3) := by decide +kernel
theorem dX10_set_95 : decode cX10_set 95 = .ok (.iload_n 3, 1) := by decide +kernel
theorem dX10_set_96 : decode cX10_set 96 = .ok (.goto 9, 3) := by decide +kernel
theorem dX10_set_99 : decode cX10_set 99 = .ok (.aload_n 0, 1) := by decide +kernel
theorem dX10_set_100 : decode cX10_set 100 = .ok (.getfield 13, 3) := by decide +kernel
theorem dX10_set_103 : decode cX10_set 103 = .ok (.iload_n 1, 1) := by decide +kernel
theorem dX10_set_104 : decode cX10_set 104 = .ok (.iaload, 1) := by decide +kernel
theorem dX10_set_105 : decode cX10_set 105 = .ok (.iastore, 1) := by decide +kernel
theorem dX10_set_106 : decode cX10_set 106 = .ok (.aload_n 0, 1) := by decide +kernel
theorem dX10_set_107 : decode cX10_set 107 = .ok (.getfield 16, 3) := by decide +kernel
theorem dX10_set_110 : decode cX10_set 110 = .ok (.iload_n 1, 1) := by decide +kernel
theorem dX10_set_111 : decode cX10_set 111 = .ok (.iload_n 2, 1) := by decide +kernel
theorem dX10_set_112 : decode cX10_set 112 = .ok (.iconst 2, 1) := by decide +kernel
theorem dX10_set_113 : decode cX10_set 113 = .ok (.if_icmp .ne 7, 3) := by decide +kernel
theorem dX10_set_116 : decode cX10_set 116 = .ok (.iload_n 3, 1) := by decide +kernel
theorem dX10_set_117 : decode cX10_set 117 = .ok (.goto 9, 3) := by decide +kernel
theorem dX10_set_120 : decode cX10_set 120 = .ok (.aload_n 0, 1) := by decide +kernel
theorem dX10_set_121 : decode cX10_set 121 = .ok (.getfield 16, 3) := by decide +kernel
theorem dX10_set_124 : decode cX10_set 124 = .ok (.iload_n 1, 1) := by decide +kernel
theorem dX10_set_125 : decode cX10_set 125 = .ok (.iaload, 1) := by decide +kernel
theorem dX10_set_126 : decode cX10_set 126 = .ok (.iastore, 1) := by decide +kernel
theorem dX10_set_127 : decode cX10_set 127 = .ok (.aload_n 0, 1) := by decide +kernel
theorem dX10_set_128 : decode cX10_set 128 = .ok (.getfield 19, 3) := by decide +kernel
theorem dX10_set_131 : decode cX10_set 131 = .ok (.iload_n 1, 1) := by decide +kernel
theorem dX10_set_132 : decode cX10_set 132 = .ok (.iload_n 2, 1) := by decide +kernel
theorem dX10_set_133 : decode cX10_set 133 = .ok (.iconst 3, 1) := by decide +kernel
theorem dX10_set_134 : decode cX10_set 134 = .ok (.if_icmp .ne 7, 3) := by decide +kernel
theorem dX10_set_137 : decode cX10_set 137 = .ok (.iload_n 3, 1) := by decide +kernel
theorem dX10_set_138 : decode cX10_set 138 = .ok (.goto 9, 3) := by decide +kernel
theorem dX10_set_141 : decode cX10_set 141 = .ok (.aload_n 0, 1) := by decide +kernel
theorem dX10_set_142 : decode cX10_set 142 = .ok (.getfield 19, 3) := by decide +kernel
theorem dX10_set_145 : decode cX10_set 145 = .ok (.iload_n 1, 1) := by decide +kernel
theorem dX10_set_146 : decode cX10_set 146 = .ok (.iaload, 1) := by decide +kernel
theorem dX10_set_147 : decode cX10_set 147 = .ok (.iastore, 1) := by decide +kernel
theorem dX10_set_148 : decode cX10_set 148 = .ok (.aload_n 0, 1) := by decide +kernel
theorem dX10_set_149 : decode cX10_set 149 = .ok (.getfield 22, 3) := by decide +kernel
theorem dX10_set_152 : decode cX10_set 152 = .ok (.iload_n 1, 1) := by decide +kernel
theorem dX10_set_153 : decode cX10_set 153 = .ok (.iload_n 2, 1) := by decide +kernel
theorem dX10_set_154 : decode cX10_set 154 = .ok (.iconst 4, 1) := by decide +kernel
theorem dX10_set_155 : decode cX10_set 155 = .ok (.if_icmp .ne 7, 3) := by decide +kernel
theorem dX10_set_158 : decode cX10_set 158 = .ok (.iload_n 3, 1) := by decide +kernel
theorem dX10_set_159 : decode cX10_set 159 = .ok (.goto 9, 3) := by decide +kernel
theorem dX10_set_162 : decode cX10_set 162 = .ok (.aload_n 0, 1) := by decide +kernel
theorem dX10_set_163 : decode cX10_set 163 = .ok (.getfield 22, 3) := by decide +kernel
theorem dX10_set_166 : decode cX10_set 166 = .ok (.iload_n 1, 1) := by decide +kernel
theorem dX10_set_167 : decode cX10_set 167 = .ok (.iaload, 1) := by decide +kernel
theorem dX10_set_168 : decode cX10_set 168 = .ok (.iastore, 1) := by decide +kernel
theorem dX10_set_169 : decode cX10_set 169 = .ok (.iload 4, 2) := by decide +kernel
theorem dX10_set_171 : decode cX10_set 171 = .ok (.ireturn, 1) := by decide +kernel
theorem dX10_stretch_0 : decode cX10_stretch 0 = .ok (.iload_n 1, 1) := by decide +kernel
theorem dX10_stretch_1 : decode cX10_stretch 1 = .ok (.i2l, 1) := by decide +kernel
theorem dX10_stretch_2 : decode cX10_stretch 2 = .ok (.lconst 1, 1) := by decide +kernel
theorem dX10_stretch_3 : decode cX10_stretch 3 = .ok (.ldc2_w 113, 3) := by decide +kernel
theorem dX10_stretch_6 : decode cX10_stretch 6 = .ok (.invokestatic 102, 3) := by decide +kernel
theorem dX10_stretch_9 : decode cX10_stretch 9 = .ok (.ifCond .ne 5, 3) := by decide +kernel
theorem dX10_stretch_12 : decode cX10_stretch 12 = .ok (.iconst (-1), 1) := by decide +kernel
theorem dX10_stretch_13 : decode cX10_stretch 13 = .ok (.ireturn, 1) := by decide +kernel
theorem dX10_stretch_14 : decode cX10_stretch 14 = .ok (.aload_n 0, 1) := by decide +kernel
theorem dX10_stretch_15 : decode cX10_stretch 15 = .ok (.getfield 106, 3) := by decide +kernel
theorem dX10_stretch_18 : decode cX10_stretch 18 = .ok (.iconst 5, 1) := by decide +kernel
theorem dX10_stretch_19 : decode cX10_stretch 19 = .ok (.if_icmp .ne 6, 3) := by decide +kernel
theorem dX10_stretch_22 : decode cX10_stretch 22 = .ok (.bipush (-3), 2) := by decide +kernel
theorem dX10_stretch_24 : decode cX10_stretch 24 = .ok (.ireturn, 1) := by decide +kernel
theorem dX10_stretch_25 : decode cX10_stretch 25 = .ok (.aload_n 0, 1) := by decide +kernel
theorem dX10_stretch_26 : decode cX10_stretch 26 = .ok (.getfield 25, 3) := by decide +kernel
theorem dX10_stretch_29 : decode cX10_stretch 29 = .ok (.aload_n 0, 1) := by decide +kernel
theorem dX10_stretch_30 : decode cX10_stretch 30 = .ok (.getfield 106, 3) := by decide +kernel
theorem dX10_stretch_33 : decode cX10_stretch 33 = .ok (.iload_n 1, 1) := by decide +kernel
theorem dX10_stretch_34 : decode cX10_stretch 34 = .ok (.iastore, 1) := by decide +kernel
theorem dX10_stretch_35 : decode cX10_stretch 35 = .ok (.aload_n 0, 1) := by decide +kernel
theorem dX10_stretch_36 : decode cX10_stretch 36 = .ok (.getfield 28, 3) := by decide +kernel
theorem dX10_stretch_39 : decode cX10_stretch 39 = .ok (.aload_n 0, 1) := by decide +kernel
theorem dX10_stretch_40 : decode cX10_stretch 40 = .ok (.getfield 106, 3) := by decide +kernel
theorem dX10_stretch_43 : decode cX10_stretch 43 = .ok (.iload_n 2, 1) := by decide +kernel
theorem dX10_stretch_44 : decode cX10_stretch 44 = .ok (.ifCond .eq 7, 3) := by decide +kernel
theorem dX10_stretch_47 : decode cX10_stretch 47 = .ok (.iconst 1, 1) := by decide +kernel
theorem dX10_stretch_48 : decode cX10_stretch 48 = .ok (.goto 4, 3) := by decide +kernel
theorem dX10_stretch_51 : decode cX10_stretch 51 = .ok (.iconst 0, 1) := by decide +kernel
theorem dX10_stretch_52 : decode cX10_stretch 52 = .ok (.iastore, 1) := by decide +kernel
theorem dX10_stretch_53 : decode cX10_stretch 53 = .ok (.aload_n 0, 1) := by decide +kernel
theorem dX10_stretch_54 : decode cX10_stretch 54 = .ok (.dup, 1) := by decide +kernel
theorem dX10_stretch_55 : decode cX10_stretch 55 = .ok (.getfield 106, 3) := by decide +kernel
theorem dX10_stretch_58 : decode cX10_stretch 58 = .ok (.iconst 1, 1) := by decide +kernel
theorem dX10_stretch_59 : decode cX10_stretch 59 = .ok (.iadd, 1) := by decide +kernel
theorem dX10_stretch_60 : decode cX10_stretch 60 = .ok (.putfield 106, 3) := by decide +kernel
theorem dX10_stretch_63 : decode cX10_stretch 63 = .ok (.aload_n 0, 1) := by decide +kernel
theorem dX10_stretch_64 : decode cX10_stretch 64 = .ok (.getfield 106, 3) := by decide +kernel
theorem dX10_stretch_67 : decode cX10_stretch 67 = .ok (.iconst 1, 1) := by decide +kernel
theorem dX10_stretch_68 : decode cX10_stretch 68 = .ok (.isub, 1) := by decide +kernel
theorem dX10_stretch_69 : decode cX10_stretch 69 = .ok (.ireturn, 1) := by decide +kernel
theorem dX10_of_0 : decode cX10_of 0 = .ok (.aload_n 0, 1) := by decide +kernel
theorem dX10_of_1 : decode cX10_of 1 = .ok (.iload_n 1, 1) := by decide +kernel
theorem dX10_of_2 : decode cX10_of 2 = .ok (.invokevirtual 140, 3) := by decide +kernel
theorem dX10_of_5 : decode cX10_of 5 = .ok (.ifCond .eq 35, 3) := by decide +kernel
theorem dX10_of_8 : decode cX10_of 8 = .ok (.iload_n 2, 1) := by decide +kernel
theorem dX10_of_9 : decode cX10_of 9 = .ok (.i2l, 1) := by decide +kernel
theorem dX10_of_10 : decode cX10_of 10 = .ok (.lconst 0, 1) := by decide +kernel
theorem dX10_of_11 : decode cX10_of 11 = .ok (.lconst 1, 1) := by decide +kernel
theorem dX10_of_12 : decode cX10_of 12 = .ok (.invokestatic 102, 3) := by decide +kernel
theorem dX10_of_15 : decode cX10_of 15 = .ok (.ifCond .eq 25, 3) := by decide +kernel
theorem dX10_of_18 : decode cX10_of 18 = .ok (.iload_n 2, 1) := by decide +kernel
theorem dX10_of_19 : decode cX10_of 19 = .ok (.ifCond .ne 12, 3) := by decide +kernel
theorem dX10_of_22 : decode cX10_of 22 = .ok (.aload_n 0, 1) := by decide +kernel
theorem dX10_of_23 : decode cX10_of 23 = .ok (.getfield 25, 3) := by decide +kernel
theorem dX10_of_26 : decode cX10_of 26 = .ok (.iload_n 1, 1) := by decide +kernel
theorem dX10_of_27 : decode cX10_of 27 = .ok (.iaload, 1) := by decide +kernel
theorem dX10_of_28 : decode cX10_of 28 = .ok (.goto 13, 3) := by decide +kernel
theorem dX10_of_31 : decode cX10_of 31 = .ok (.aload_n 0, 1) := by decide +kernel
theorem dX10_of_32 : decode cX10_of 32 = .ok (.getfield 28, 3) := by decide +kernel
theorem dX10_of_35 : decode cX10_of 35 = .ok (.iload_n 1, 1) := by decide +kernel
theorem dX10_of_36 : decode cX10_of 36 = .ok (.iaload, 1) := by decide +kernel
theorem dX10_of_37 : decode cX10_of 37 = .ok (.goto 4, 3) := by decide +kernel
theorem dX10_of_40 : decode cX10_of 40 = .ok (.iconst (-1), 1) := by decide +kernel
theorem dX10_of_41 : decode cX10_of 41 = .ok (.ireturn, 1) := by decide +kernel
theorem dX10_bag_0 : decode cX10_bag 0 = .ok (.iload_n 1, 1) := by decide +kernel
theorem dX10_bag_1 : decode cX10_bag 1 = .ok (.i2l, 1) := by decide +kernel
theorem dX10_bag_2 : decode cX10_bag 2 = .ok (.invokestatic 143, 3) := by decide +kernel
theorem dX10_bag_5 : decode cX10_bag 5 = .ok (.ifCond .eq 35, 3) := by decide +kernel
theorem dX10_bag_8 : decode cX10_bag 8 = .ok (.iload_n 2, 1) := by decide +kernel
theorem dX10_bag_9 : decode cX10_bag 9 = .ok (.i2l, 1) := by decide +kernel
theorem dX10_bag_10 : decode cX10_bag 10 = .ok (.lconst 0, 1) := by decide +kernel
theorem dX10_bag_11 : decode cX10_bag 11 = .ok (.lconst 1, 1) := by decide +kernel
theorem dX10_bag_12 : decode cX10_bag 12 = .ok (.invokestatic 102, 3) := by decide +kernel
theorem dX10_bag_15 : decode cX10_bag 15 = .ok (.ifCond .eq 25, 3) := by decide +kernel
theorem dX10_bag_18 : decode cX10_bag 18 = .ok (.iload_n 3, 1) := by decide +kernel
theorem dX10_bag_19 : decode cX10_bag 19 = .ok (.i2l, 1) := by decide +kernel
theorem dX10_bag_20 : decode cX10_bag 20 = .ok (.lconst 0, 1) := by decide +kernel
theorem dX10_bag_21 : decode cX10_bag 21 = .ok (.iload_n 2, 1) := by decide +kernel
theorem dX10_bag_22 : decode cX10_bag 22 = .ok (.ifCond .ne 9, 3) := by decide +kernel
theorem dX10_bag_25 : decode cX10_bag 25 = .ok (.ldc2_w 146, 3) := by decide +kernel
theorem dX10_bag_28 : decode cX10_bag 28 = .ok (.goto 6, 3) := by decide +kernel
theorem dX10_bag_31 : decode cX10_bag 31 = .ok (.ldc2_w 148, 3) := by decide +kernel
theorem dX10_bag_34 : decode cX10_bag 34 = .ok (.invokestatic 102, 3) := by decide +kernel
theorem dX10_bag_37 : decode cX10_bag 37 = .ok (.ifCond .ne 5, 3) := by decide +kernel
theorem dX10_bag_40 : decode cX10_bag 40 = .ok (.iconst (-1), 1) := by decide +kernel
theorem dX10_bag_41 : decode cX10_bag 41 = .ok (.ireturn, 1) := by decide +kernel
theorem dX10_bag_42 : decode cX10_bag 42 = .ok (.iload_n 2, 1) := by decide +kernel
theorem dX10_bag_43 : decode cX10_bag 43 = .ok (.ifCond .ne 12, 3) := by decide +kernel
theorem dX10_bag_46 : decode cX10_bag 46 = .ok (.aload_n 0, 1) := by decide +kernel
theorem dX10_bag_47 : decode cX10_bag 47 = .ok (.getfield 31, 3) := by decide +kernel
theorem dX10_bag_50 : decode cX10_bag 50 = .ok (.iload_n 1, 1) := by decide +kernel
theorem dX10_bag_51 : decode cX10_bag 51 = .ok (.iaload, 1) := by decide +kernel
theorem dX10_bag_52 : decode cX10_bag 52 = .ok (.goto 9, 3) := by decide +kernel
theorem dX10_bag_55 : decode cX10_bag 55 = .ok (.aload_n 0, 1) := by decide +kernel
theorem dX10_bag_56 : decode cX10_bag 56 = .ok (.getfield 34, 3) := by decide +kernel
theorem dX10_bag_59 : decode cX10_bag 59 = .ok (.iload_n 1, 1) := by decide +kernel
theorem dX10_bag_60 : decode cX10_bag 60 = .ok (.iaload, 1) := by decide +kernel
theorem dX10_bag_61 : decode cX10_bag 61 = .ok (.istore 4, 2) := by decide +kernel
theorem dX10_bag_63 : decode cX10_bag 63 = .ok (.aload_n 0, 1) := by decide +kernel
theorem dX10_bag_64 : decode cX10_bag 64 = .ok (.getfield 31, 3) := by decide +kernel
theorem dX10_bag_67 : decode cX10_bag 67 = .ok (.iload_n 1, 1) := by decide +kernel
theorem dX10_bag_68 : decode cX10_bag 68 = .ok (.iload_n 2, 1) := by decide +kernel
theorem dX10_bag_69 : decode cX10_bag 69 = .ok (.ifCond .ne 7, 3) := by decide +kernel
theorem dX10_bag_72 : decode cX10_bag 72 = .ok (.iload_n 3, 1) := by decide +kernel
theorem dX10_bag_73 : decode cX10_bag 73 = .ok (.goto 9, 3) := by decide +kernel
theorem dX10_bag_76 : decode cX10_bag 76 = .ok (.aload_n 0, 1) := by decide +kernel
theorem dX10_bag_77 : decode cX10_bag 77 = .ok (.getfield 31, 3) := by decide +kernel
theorem dX10_bag_80 : decode cX10_bag 80 = .ok (.iload_n 1, 1) := by decide +kernel
theorem dX10_bag_81 : decode cX10_bag 81 = .ok (.iaload, 1) := by decide +kernel
theorem dX10_bag_82 : decode cX10_bag 82 = .ok (.iastore, 1) := by decide +kernel
theorem dX10_bag_83 : decode cX10_bag 83 = .ok (.aload_n 0, 1) := by decide +kernel
theorem dX10_bag_84 : decode cX10_bag 84 = .ok (.getfield 34, 3) := by decide +kernel
theorem dX10_bag_87 : decode cX10_bag 87 = .ok (.iload_n 1, 1) := by decide +kernel
theorem dX10_bag_88 : decode cX10_bag 88 = .ok (.iload_n 2, 1) := by decide +kernel
theorem dX10_bag_89 : decode cX10_bag 89 = .ok (.ifCond .ne 12, 3) := by decide +kernel
theorem dX10_bag_92 : decode cX10_bag 92 = .ok (.aload_n 0, 1) := by decide +kernel
theorem dX10_bag_93 : decode cX10_bag 93 = .ok (.getfield 34, 3) := by decide +kernel
theorem dX10_bag_96 : decode cX10_bag 96 = .ok (.iload_n 1, 1) := by decide +kernel
theorem dX10_bag_97 : decode cX10_bag 97 = .ok (.iaload, 1) := by decide +kernel
theorem dX10_bag_98 : decode cX10_bag 98 = .ok (.goto 4, 3) := by decide +kernel
theorem dX10_bag_101 : decode cX10_bag 101 = .ok (.iload_n 3, 1) := by decide +kernel
theorem dX10_bag_102 : decode cX10_bag 102 = .ok (.iastore, 1) := by decide +kernel
theorem dX10_bag_103 : decode cX10_bag 103 = .ok (.iload 4, 2) := by decide +kernel
theorem dX10_bag_105 : decode cX10_bag 105 = .ok (.ireturn, 1) := by decide +kernel
theorem dX10_arm_0 : decode cX10_arm 0 = .ok (.iload_n 1, 1) := by decide +kernel
theorem dX10_arm_1 : decode cX10_arm 1 = .ok (.i2l, 1) := by decide +kernel
theorem dX10_arm_2 : decode cX10_arm 2 = .ok (.lconst 0, 1) := by decide +kernel
theorem dX10_arm_3 : decode cX10_arm 3 = .ok (.lconst 1, 1) := by decide +kernel
theorem dX10_arm_4 : decode cX10_arm 4 = .ok (.invokestatic 102, 3) := by decide +kernel
theorem dX10_arm_7 : decode cX10_arm 7 = .ok (.ifCond .eq 15, 3) := by decide +kernel
theorem dX10_arm_10 : decode cX10_arm 10 = .ok (.iload_n 2, 1) := by decide +kernel
theorem dX10_arm_11 : decode cX10_arm 11 = .ok (.i2l, 1) := by decide +kernel
theorem dX10_arm_12 : decode cX10_arm 12 = .ok (.lconst 1, 1) := by decide +kernel
theorem dX10_arm_13 : decode cX10_arm 13 = .ok (.ldc2_w 150, 3) := by decide +kernel
theorem dX10_arm_16 : decode cX10_arm 16 = .ok (.invokestatic 102, 3) := by decide +kernel
theorem dX10_arm_19 : decode cX10_arm 19 = .ok (.ifCond .ne 5, 3) := by decide +kernel
theorem dX10_arm_22 : decode cX10_arm 22 = .ok (.iconst (-1), 1) := by decide +kernel
theorem dX10_arm_23 : decode cX10_arm 23 = .ok (.ireturn, 1) := by decide +kernel
theorem dX10_arm_24 : decode cX10_arm 24 = .ok (.aload_n 0, 1) := by decide +kernel
theorem dX10_arm_25 : decode cX10_arm 25 = .ok (.getfield 37, 3) := by decide +kernel
theorem dX10_arm_28 : decode cX10_arm 28 = .ok (.iload_n 1, 1) := by decide +kernel
theorem dX10_arm_29 : decode cX10_arm 29 = .ok (.iaload, 1) := by decide +kernel
theorem dX10_arm_30 : decode cX10_arm 30 = .ok (.istore_n 3, 1) := by decide +kernel
theorem dX10_arm_31 : decode cX10_arm 31 = .ok (.aload_n 0, 1) := by decide +kernel
theorem dX10_arm_32 : decode cX10_arm 32 = .ok (.getfield 37, 3) := by decide +kernel
theorem dX10_arm_35 : decode cX10_arm 35 = .ok (.iload_n 1, 1) := by decide +kernel
theorem dX10_arm_36 : decode cX10_arm 36 = .ok (.iload_n 2, 1) := by decide +kernel
theorem dX10_arm_37 : decode cX10_arm 37 = .ok (.iastore, 1) := by decide +kernel
theorem dX10_arm_38 : decode cX10_arm 38 = .ok (.iload_n 3, 1) := by decide +kernel
theorem dX10_arm_39 : decode cX10_arm 39 = .ok (.ireturn, 1) := by decide +kernel
theorem dX10_rule_0 : decode cX10_rule 0 = .ok (.aload_n 0, 1) := by decide +kernel
theorem dX10_rule_1 : decode cX10_rule 1 = .ok (.iload_n 1, 1) := by decide +kernel
theorem dX10_rule_2 : decode cX10_rule 2 = .ok (.i2l, 1) := by decide +kernel
theorem dX10_rule_3 : decode cX10_rule 3 = .ok (.invokevirtual 122, 3) := by decide +kernel
theorem dX10_rule_6 : decode cX10_rule 6 = .ok (.ifCond .eq 27, 3) := by decide +kernel
theorem dX10_rule_9 : decode cX10_rule 9 = .ok (.aload_n 0, 1) := by decide +kernel
theorem dX10_rule_10 : decode cX10_rule 10 = .ok (.iload_n 2, 1) := by decide +kernel
theorem dX10_rule_11 : decode cX10_rule 11 = .ok (.i2l, 1) := by decide +kernel
theorem dX10_rule_12 : decode cX10_rule 12 = .ok (.invokevirtual 122, 3) := by decide +kernel
theorem dX10_rule_15 : decode cX10_rule 15 = .ok (.ifCond .eq 18, 3) := by decide +kernel
theorem dX10_rule_18 : decode cX10_rule 18 = .ok (.iload_n 1, 1) := by decide +kernel
theorem dX10_rule_19 : decode cX10_rule 19 = .ok (.iload_n 2, 1) := by decide +kernel
theorem dX10_rule_20 : decode cX10_rule 20 = .ok (.if_icmp .eq 13, 3) := by decide +kernel
theorem dX10_rule_23 : decode cX10_rule 23 = .ok (.iload_n 3, 1) := by decide +kernel
theorem dX10_rule_24 : decode cX10_rule 24 = .ok (.i2l, 1) := by decide +kernel
theorem dX10_rule_25 : decode cX10_rule 25 = .ok (.lconst 0, 1) := by decide +kernel
theorem dX10_rule_26 : decode cX10_rule 26 = .ok (.lconst 1, 1) := by decide +kernel
theorem dX10_rule_27 : decode cX10_rule 27 = .ok (.invokestatic 102, 3) := by decide +kernel
theorem dX10_rule_30 : decode cX10_rule 30 = .ok (.ifCond .ne 5, 3) := by decide +kernel
theorem dX10_rule_33 : decode cX10_rule 33 = .ok (.iconst (-1), 1) := by decide +kernel
theorem dX10_rule_34 : decode cX10_rule 34 = .ok (.ireturn, 1) := by decide +kernel
theorem dX10_rule_35 : decode cX10_rule 35 = .ok (.aload_n 0, 1) := by decide +kernel
theorem dX10_rule_36 : decode cX10_rule 36 = .ok (.getfield 152, 3) := by decide +kernel
theorem dX10_rule_39 : decode cX10_rule 39 = .ok (.bipush 8, 2) := by decide +kernel
theorem dX10_rule_41 : decode cX10_rule 41 = .ok (.if_icmp .ne 6, 3) := by decide +kernel
theorem dX10_rule_44 : decode cX10_rule 44 = .ok (.bipush (-3), 2) := by decide +kernel
theorem dX10_rule_46 : decode cX10_rule 46 = .ok (.ireturn, 1) := by decide +kernel
theorem dX10_rule_47 : decode cX10_rule 47 = .ok (.aload_n 0, 1) := by decide +kernel
theorem dX10_rule_48 : decode cX10_rule 48 = .ok (.getfield 40, 3) := by decide +kernel
theorem dX10_rule_51 : decode cX10_rule 51 = .ok (.aload_n 0, 1) := by decide +kernel
theorem dX10_rule_52 : decode cX10_rule 52 = .ok (.getfield 152, 3) := by decide +kernel
theorem dX10_rule_55 : decode cX10_rule 55 = .ok (.iload_n 1, 1) := by decide +kernel
theorem dX10_rule_56 : decode cX10_rule 56 = .ok (.iastore, 1) := by decide +kernel
theorem dX10_rule_57 : decode cX10_rule 57 = .ok (.aload_n 0, 1) := by decide +kernel
theorem dX10_rule_58 : decode cX10_rule 58 = .ok (.getfield 43, 3) := by decide +kernel
theorem dX10_rule_61 : decode cX10_rule 61 = .ok (.aload_n 0, 1) := by decide +kernel
theorem dX10_rule_62 : decode cX10_rule 62 = .ok (.getfield 152, 3) := by decide +kernel
theorem dX10_rule_65 : decode cX10_rule 65 = .ok (.iload_n 2, 1) := by decide +kernel
theorem dX10_rule_66 : decode cX10_rule 66 = .ok (.iastore, 1) := by decide +kernel
theorem dX10_rule_67 : decode cX10_rule 67 = .ok (.aload_n 0, 1) := by decide +kernel
theorem dX10_rule_68 : decode cX10_rule 68 = .ok (.getfield 46, 3) := by decide +kernel
theorem dX10_rule_71 : decode cX10_rule 71 = .ok (.aload_n 0, 1) := by decide +kernel
theorem dX10_rule_72 : decode cX10_rule 72 = .ok (.getfield 152, 3) := by decide +kernel
theorem dX10_rule_75 : decode cX10_rule 75 = .ok (.iload_n 3, 1) := by decide +kernel
theorem dX10_rule_76 : decode cX10_rule 76 = .ok (.iastore, 1) := by decide +kernel
theorem dX10_rule_77 : decode cX10_rule 77 = .ok (.aload_n 0, 1) := by decide +kernel
theorem dX10_rule_78 : decode cX10_rule 78 = .ok (.dup, 1) := by decide +kernel
theorem dX10_rule_79 : decode cX10_rule 79 = .ok (.getfield 152, 3) := by decide +kernel
theorem dX10_rule_82 : decode cX10_rule 82 = .ok (.iconst 1, 1) := by decide +kernel
theorem dX10_rule_83 : decode cX10_rule 83 = .ok (.iadd, 1) := by decide +kernel
theorem dX10_rule_84 : decode cX10_rule 84 = .ok (.putfield 152, 3) := by decide +kernel
theorem dX10_rule_87 : decode cX10_rule 87 = .ok (.aload_n 0, 1) := by decide +kernel
theorem dX10_rule_88 : decode cX10_rule 88 = .ok (.getfield 152, 3) := by decide +kernel
theorem dX10_rule_91 : decode cX10_rule 91 = .ok (.iconst 1, 1) := by decide +kernel
theorem dX10_rule_92 : decode cX10_rule 92 = .ok (.isub, 1) := by decide +kernel
theorem dX10_rule_93 : decode cX10_rule 93 = .ok (.ireturn, 1) := by decide +kernel
theorem dX10_off_0 : decode cX10_off 0 = .ok (.aload_n 0, 1) := by decide +kernel
theorem dX10_off_1 : decode cX10_off 1 = .ok (.getfield 152, 3) := by decide +kernel
theorem dX10_off_4 : decode cX10_off 4 = .ok (.ifCond .ne 6, 3) := by decide +kernel
theorem dX10_off_7 : decode cX10_off 7 = .ok (.bipush (-4), 2) := by decide +kernel
theorem dX10_off_9 : decode cX10_off 9 = .ok (.ireturn, 1) := by decide +kernel
theorem dX10_off_10 : decode cX10_off 10 = .ok (.aload_n 0, 1) := by decide +kernel
theorem dX10_off_11 : decode cX10_off 11 = .ok (.dup, 1) := by decide +kernel
theorem dX10_off_12 : decode cX10_off 12 = .ok (.getfield 152, 3) := by decide +kernel
theorem dX10_off_15 : decode cX10_off 15 = .ok (.iconst 1, 1) := by decide +kernel
theorem dX10_off_16 : decode cX10_off 16 = .ok (.isub, 1) := by decide +kernel
theorem dX10_off_17 : decode cX10_off 17 = .ok (.putfield 152, 3) := by decide +kernel
theorem dX10_off_20 : decode cX10_off 20 = .ok (.aload_n 0, 1) := by decide +kernel
theorem dX10_off_21 : decode cX10_off 21 = .ok (.getfield 152, 3) := by decide +kernel
theorem dX10_off_24 : decode cX10_off 24 = .ok (.ireturn, 1) := by decide +kernel
theorem dX10_wayTo_0 : decode cX10_wayTo 0 = .ok (.iconst 0, 1) := by decide +kernel
theorem dX10_wayTo_1 : decode cX10_wayTo 1 = .ok (.istore_n 2, 1) := by decide +kernel
theorem dX10_wayTo_2 : decode cX10_wayTo 2 = .ok (.iconst 0, 1) := by decide +kernel
theorem dX10_wayTo_3 : decode cX10_wayTo 3 = .ok (.istore_n 3, 1) := by decide +kernel
theorem dX10_wayTo_4 : decode cX10_wayTo 4 = .ok (.iload_n 3, 1) := by decide +kernel
theorem dX10_wayTo_5 : decode cX10_wayTo 5 = .ok (.iload_n 1, 1) := by decide +kernel
theorem dX10_wayTo_6 : decode cX10_wayTo 6 = .ok (.if_icmp .ge 18, 3) := by decide +kernel
theorem dX10_wayTo_9 : decode cX10_wayTo 9 = .ok (.iload_n 2, 1) := by decide +kernel
theorem dX10_wayTo_10 : decode cX10_wayTo 10 = .ok (.aload_n 0, 1) := by decide +kernel
theorem dX10_wayTo_11 : decode cX10_wayTo 11 = .ok (.getfield 25, 3) := by decide +kernel
theorem dX10_wayTo_14 : decode cX10_wayTo 14 = .ok (.iload_n 3, 1) := by decide +kernel
theorem dX10_wayTo_15 : decode cX10_wayTo 15 = .ok (.iaload, 1) := by decide +kernel
theorem dX10_wayTo_16 : decode cX10_wayTo 16 = .ok (.iadd, 1) := by decide +kernel
theorem dX10_wayTo_17 : decode cX10_wayTo 17 = .ok (.istore_n 2, 1) := by decide +kernel
theorem dX10_wayTo_18 : decode cX10_wayTo 18 = .ok (.iinc 3 1, 3) := by decide +kernel
theorem dX10_wayTo_21 : decode cX10_wayTo 21 = .ok (.goto (-17), 3) := by decide +kernel
theorem dX10_wayTo_24 : decode cX10_wayTo 24 = .ok (.iload_n 2, 1) := by decide +kernel
theorem dX10_wayTo_25 : decode cX10_wayTo 25 = .ok (.ireturn, 1) := by decide +kernel
theorem dX10_count_0 : decode cX10_count 0 = .ok (.iload_n 1, 1) := by decide +kernel
theorem dX10_count_1 : decode cX10_count 1 = .ok (.tableswitch 86 0 6 #[43, 48, 53, 58, 63, 72, 79], 43) := by decide +kernel
theorem dX10_count_44 : decode cX10_count 44 = .ok (.aload_n 0, 1) := by decide +kernel
theorem dX10_count_45 : decode cX10_count 45 = .ok (.getfield 98, 3) := by decide +kernel
theorem dX10_count_48 : decode cX10_count 48 = .ok (.ireturn, 1) := by decide +kernel
theorem dX10_count_49 : decode cX10_count 49 = .ok (.aload_n 0, 1) := by decide +kernel
theorem dX10_count_50 : decode cX10_count 50 = .ok (.getfield 106, 3) := by decide +kernel
theorem dX10_count_53 : decode cX10_count 53 = .ok (.ireturn, 1) := by decide +kernel
theorem dX10_count_54 : decode cX10_count 54 = .ok (.aload_n 0, 1) := by decide +kernel
theorem dX10_count_55 : decode cX10_count 55 = .ok (.getfield 152, 3) := by decide +kernel
theorem dX10_count_58 : decode cX10_count 58 = .ok (.ireturn, 1) := by decide +kernel
theorem dX10_count_59 : decode cX10_count 59 = .ok (.aload_n 0, 1) := by decide +kernel
theorem dX10_count_60 : decode cX10_count 60 = .ok (.getfield 119, 3) := by decide +kernel
theorem dX10_count_63 : decode cX10_count 63 = .ok (.ireturn, 1) := by decide +kernel
theorem dX10_count_64 : decode cX10_count 64 = .ok (.aload_n 0, 1) := by decide +kernel
theorem dX10_count_65 : decode cX10_count 65 = .ok (.aload_n 0, 1) := by decide +kernel
theorem dX10_count_66 : decode cX10_count 66 = .ok (.getfield 106, 3) := by decide +kernel
theorem dX10_count_69 : decode cX10_count 69 = .ok (.invokevirtual 155, 3) := by decide +kernel
theorem dX10_count_72 : decode cX10_count 72 = .ok (.ireturn, 1) := by decide +kernel
theorem dX10_count_73 : decode cX10_count 73 = .ok (.aload_n 0, 1) := by decide +kernel
theorem dX10_count_74 : decode cX10_count 74 = .ok (.getfield 37, 3) := by decide +kernel
theorem dX10_count_77 : decode cX10_count 77 = .ok (.iconst 0, 1) := by decide +kernel
theorem dX10_count_78 : decode cX10_count 78 = .ok (.iaload, 1) := by decide +kernel
theorem dX10_count_79 : decode cX10_count 79 = .ok (.ireturn, 1) := by decide +kernel
theorem dX10_count_80 : decode cX10_count 80 = .ok (.aload_n 0, 1) := by decide +kernel
theorem dX10_count_81 : decode cX10_count 81 = .ok (.getfield 37, 3) := by decide +kernel
theorem dX10_count_84 : decode cX10_count 84 = .ok (.iconst 1, 1) := by decide +kernel
theorem dX10_count_85 : decode cX10_count 85 = .ok (.iaload, 1) := by decide +kernel
theorem dX10_count_86 : decode cX10_count 86 = .ok (.ireturn, 1) := by decide +kernel
theorem dX10_count_87 : decode cX10_count 87 = .ok (.iconst (-1), 1) := by decide +kernel
theorem dX10_count_88 : decode cX10_count 88 = .ok (.ireturn, 1) := by decide +kernel
theorem dX10_type_0 : decode cX10_type 0 = .ok (.iload_n 1, 1) := by decide +kernel
theorem dX10_type_1 : decode cX10_type 1 = .ok (.i2l, 1) := by decide +kernel
theorem dX10_type_2 : decode cX10_type 2 = .ok (.ldc2_w 159, 3) := by decide +kernel
theorem dX10_type_5 : decode cX10_type 5 = .ok (.ldc2_w 161, 3) := by decide +kernel
theorem dX10_type_8 : decode cX10_type 8 = .ok (.invokestatic 102, 3) := by decide +kernel
theorem dX10_type_11 : decode cX10_type 11 = .ok (.ifCond .ne 5, 3) := by decide +kernel
theorem dX10_type_14 : decode cX10_type 14 = .ok (.iconst (-1), 1) := by decide +kernel
theorem dX10_type_15 : decode cX10_type 15 = .ok (.ireturn, 1) := by decide +kernel
theorem dX10_type_16 : decode cX10_type 16 = .ok (.aload_n 0, 1) := by decide +kernel
theorem dX10_type_17 : decode cX10_type 17 = .ok (.getfield 163, 3) := by decide +kernel
theorem dX10_type_20 : decode cX10_type 20 = .ok (.bipush 80, 2) := by decide +kernel
theorem dX10_type_22 : decode cX10_type 22 = .ok (.if_icmp .ne 6, 3) := by decide +kernel
theorem dX10_type_25 : decode cX10_type 25 = .ok (.bipush (-3), 2) := by decide +kernel
theorem dX10_type_27 : decode cX10_type 27 = .ok (.ireturn, 1) := by decide +kernel
theorem dX10_type_28 : decode cX10_type 28 = .ok (.aload_n 0, 1) := by decide +kernel
theorem dX10_type_29 : decode cX10_type 29 = .ok (.getfield 55, 3) := by decide +kernel
theorem dX10_type_32 : decode cX10_type 32 = .ok (.aload_n 0, 1) := by decide +kernel
theorem dX10_type_33 : decode cX10_type 33 = .ok (.getfield 163, 3) := by decide +kernel
theorem dX10_type_36 : decode cX10_type 36 = .ok (.iload_n 1, 1) := by decide +kernel
theorem dX10_type_37 : decode cX10_type 37 = .ok (.iastore, 1) := by decide +kernel
theorem dX10_type_38 : decode cX10_type 38 = .ok (.aload_n 0, 1) := by decide +kernel
theorem dX10_type_39 : decode cX10_type 39 = .ok (.dup, 1) := by decide +kernel
theorem dX10_type_40 : decode cX10_type 40 = .ok (.getfield 163, 3) := by decide +kernel
theorem dX10_type_43 : decode cX10_type 43 = .ok (.iconst 1, 1) := by decide +kernel
theorem dX10_type_44 : decode cX10_type 44 = .ok (.iadd, 1) := by decide +kernel
theorem dX10_type_45 : decode cX10_type 45 = .ok (.putfield 163, 3) := by decide +kernel
theorem dX10_type_48 : decode cX10_type 48 = .ok (.aload_n 0, 1) := by decide +kernel
theorem dX10_type_49 : decode cX10_type 49 = .ok (.getfield 163, 3) := by decide +kernel
theorem dX10_type_52 : decode cX10_type 52 = .ok (.ireturn, 1) := by decide +kernel
theorem dX10_here_0 : decode cX10_here 0 = .ok (.aload_n 0, 1) := by decide +kernel
theorem dX10_here_1 : decode cX10_here 1 = .ok (.getfield 166, 3) := by decide +kernel
theorem dX10_here_4 : decode cX10_here 4 = .ok (.aload_n 0, 1) := by decide +kernel
theorem dX10_here_5 : decode cX10_here 5 = .ok (.getfield 163, 3) := by decide +kernel
theorem dX10_here_8 : decode cX10_here 8 = .ok (.if_icmp .ge 30, 3) := by decide +kernel
theorem dX10_here_11 : decode cX10_here 11 = .ok (.aload_n 0, 1) := by decide +kernel
theorem dX10_here_12 : decode cX10_here 12 = .ok (.getfield 55, 3) := by decide +kernel
theorem dX10_here_15 : decode cX10_here 15 = .ok (.aload_n 0, 1) := by decide +kernel
theorem dX10_here_16 : decode cX10_here 16 = .ok (.getfield 166, 3) := by decide +kernel
theorem dX10_here_19 : decode cX10_here 19 = .ok (.iaload, 1) := by decide +kernel
theorem dX10_here_20 : decode cX10_here 20 = .ok (.bipush 32, 2) := by decide +kernel
theorem dX10_here_22 : decode cX10_here 22 = .ok (.if_icmp .ne 16, 3) := by decide +kernel
theorem dX10_here_25 : decode cX10_here 25 = .ok (.aload_n 0, 1) := by decide +kernel
theorem dX10_here_26 : decode cX10_here 26 = .ok (.dup, 1) := by decide +kernel
theorem dX10_here_27 : decode cX10_here 27 = .ok (.getfield 166, 3) := by decide +kernel
theorem dX10_here_30 : decode cX10_here 30 = .ok (.iconst 1, 1) := by decide +kernel
theorem dX10_here_31 : decode cX10_here 31 = .ok (.iadd, 1) := by decide +kernel
theorem dX10_here_32 : decode cX10_here 32 = .ok (.putfield 166, 3) := by decide +kernel
theorem dX10_here_35 : decode cX10_here 35 = .ok (.goto (-35), 3) := by decide +kernel
theorem dX10_here_38 : decode cX10_here 38 = .ok (.aload_n 0, 1) := by decide +kernel
theorem dX10_here_39 : decode cX10_here 39 = .ok (.getfield 166, 3) := by decide +kernel
theorem dX10_here_42 : decode cX10_here 42 = .ok (.aload_n 0, 1) := by decide +kernel
theorem dX10_here_43 : decode cX10_here 43 = .ok (.getfield 163, 3) := by decide +kernel
theorem dX10_here_46 : decode cX10_here 46 = .ok (.if_icmp .ge 15, 3) := by decide +kernel
theorem dX10_here_49 : decode cX10_here 49 = .ok (.aload_n 0, 1) := by decide +kernel
theorem dX10_here_50 : decode cX10_here 50 = .ok (.getfield 55, 3) := by decide +kernel
theorem dX10_here_53 : decode cX10_here 53 = .ok (.aload_n 0, 1) := by decide +kernel
theorem dX10_here_54 : decode cX10_here 54 = .ok (.getfield 166, 3) := by decide +kernel
theorem dX10_here_57 : decode cX10_here 57 = .ok (.iaload, 1) := by decide +kernel
theorem dX10_here_58 : decode cX10_here 58 = .ok (.goto 4, 3) := by decide +kernel
theorem dX10_here_61 : decode cX10_here 61 = .ok (.iconst 0, 1) := by decide +kernel
theorem dX10_here_62 : decode cX10_here 62 = .ok (.ireturn, 1) := by decide +kernel
theorem dX10_has_0 : decode cX10_has 0 = .ok (.aload_n 0, 1) := by decide +kernel
theorem dX10_has_1 : decode cX10_has 1 = .ok (.getfield 169, 3) := by decide +kernel
theorem dX10_has_4 : decode cX10_has 4 = .ok (.ifCond .ne 15, 3) := by decide +kernel
theorem dX10_has_7 : decode cX10_has 7 = .ok (.aload_n 0, 1) := by decide +kernel
theorem dX10_has_8 : decode cX10_has 8 = .ok (.invokevirtual 173, 3) := by decide +kernel
theorem dX10_has_11 : decode cX10_has 11 = .ok (.iload_n 1, 1) := by decide +kernel
theorem dX10_has_12 : decode cX10_has 12 = .ok (.if_icmp .ne 7, 3) := by decide +kernel
theorem dX10_has_15 : decode cX10_has 15 = .ok (.iconst 1, 1) := by decide +kernel
theorem dX10_has_16 : decode cX10_has 16 = .ok (.goto 4, 3) := by decide +kernel
theorem dX10_has_19 : decode cX10_has 19 = .ok (.iconst 0, 1) := by decide +kernel
theorem dX10_has_20 : decode cX10_has 20 = .ok (.istore_n 2, 1) := by decide +kernel
theorem dX10_has_21 : decode cX10_has 21 = .ok (.aload_n 0, 1) := by decide +kernel
theorem dX10_has_22 : decode cX10_has 22 = .ok (.dup, 1) := by decide +kernel
theorem dX10_has_23 : decode cX10_has 23 = .ok (.getfield 166, 3) := by decide +kernel
theorem dX10_has_26 : decode cX10_has 26 = .ok (.iload_n 2, 1) := by decide +kernel
theorem dX10_has_27 : decode cX10_has 27 = .ok (.ifCond .eq 7, 3) := by decide +kernel
theorem dX10_has_30 : decode cX10_has 30 = .ok (.iconst 1, 1) := by decide +kernel
theorem dX10_has_31 : decode cX10_has 31 = .ok (.goto 4, 3) := by decide +kernel
theorem dX10_has_34 : decode cX10_has 34 = .ok (.iconst 0, 1) := by decide +kernel
theorem dX10_has_35 : decode cX10_has 35 = .ok (.iadd, 1) := by decide +kernel
theorem dX10_has_36 : decode cX10_has 36 = .ok (.putfield 166, 3) := by decide +kernel
theorem dX10_has_39 : decode cX10_has 39 = .ok (.iload_n 2, 1) := by decide +kernel
theorem dX10_has_40 : decode cX10_has 40 = .ok (.ireturn, 1) := by decide +kernel
theorem dX10_number_0 : decode cX10_number 0 = .ok (.aload_n 0, 1) := by decide +kernel
theorem dX10_number_1 : decode cX10_number 1 = .ok (.getfield 169, 3) := by decide +kernel
theorem dX10_number_4 : decode cX10_number 4 = .ok (.ifCond .ne 20, 3) := by decide +kernel
theorem dX10_number_7 : decode cX10_number 7 = .ok (.aload_n 0, 1) := by decide +kernel
theorem dX10_number_8 : decode cX10_number 8 = .ok (.invokevirtual 173, 3) := by decide +kernel
theorem dX10_number_11 : decode cX10_number 11 = .ok (.i2l, 1) := by decide +kernel
theorem dX10_number_12 : decode cX10_number 12 = .ok (.ldc2_w 177, 3) := by decide +kernel
theorem dX10_number_15 : decode cX10_number 15 = .ok (.ldc2_w 179, 3) := by decide +kernel
theorem dX10_number_18 : decode cX10_number 18 = .ok (.invokestatic 102, 3) := by decide +kernel
theorem dX10_number_21 : decode cX10_number 21 = .ok (.ifCond .ne 10, 3) := by decide +kernel
theorem dX10_number_24 : decode cX10_number 24 = .ok (.aload_n 0, 1) := by decide +kernel
theorem dX10_number_25 : decode cX10_number 25 = .ok (.iconst 1, 1) := by decide +kernel
theorem dX10_number_26 : decode cX10_number 26 = .ok (.putfield 169, 3) := by decide +kernel
theorem dX10_number_29 : decode cX10_number 29 = .ok (.iconst 0, 1) := by decide +kernel
theorem dX10_number_30 : decode cX10_number 30 = .ok (.ireturn, 1) := by decide +kernel
theorem dX10_number_31 : decode cX10_number 31 = .ok (.aload_n 0, 1) := by decide +kernel
theorem dX10_number_32 : decode cX10_number 32 = .ok (.getfield 166, 3) := by decide +kernel
theorem dX10_number_35 : decode cX10_number 35 = .ok (.istore_n 1, 1) := by decide +kernel
theorem dX10_number_36 : decode cX10_number 36 = .ok (.iconst 0, 1) := by decide +kernel
theorem dX10_number_37 : decode cX10_number 37 = .ok (.istore_n 2, 1) := by decide +kernel
theorem dX10_number_38 : decode cX10_number 38 = .ok (.aload_n 0, 1) := by decide +kernel
theorem dX10_number_39 : decode cX10_number 39 = .ok (.getfield 166, 3) := by decide +kernel
theorem dX10_number_42 : decode cX10_number 42 = .ok (.aload_n 0, 1) := by decide +kernel
theorem dX10_number_43 : decode cX10_number 43 = .ok (.getfield 163, 3) := by decide +kernel
theorem dX10_number_46 : decode cX10_number 46 = .ok (.if_icmp .ge 67, 3) := by decide +kernel
theorem dX10_number_49 : decode cX10_number 49 = .ok (.aload_n 0, 1) := by decide +kernel
theorem dX10_number_50 : decode cX10_number 50 = .ok (.getfield 55, 3) := by decide +kernel
theorem dX10_number_53 : decode cX10_number 53 = .ok (.aload_n 0, 1) := by decide +kernel
theorem dX10_number_54 : decode cX10_number 54 = .ok (.getfield 166, 3) := by decide +kernel
theorem dX10_number_57 : decode cX10_number 57 = .ok (.iaload, 1) := by decide +kernel
theorem dX10_number_58 : decode cX10_number 58 = .ok (.i2l, 1) := by decide +kernel
theorem dX10_number_59 : decode cX10_number 59 = .ok (.ldc2_w 177, 3) := by decide +kernel
theorem dX10_number_62 : decode cX10_number 62 = .ok (.ldc2_w 179, 3) := by decide +kernel
theorem dX10_number_65 : decode cX10_number 65 = .ok (.invokestatic 102, 3) := by decide +kernel
theorem dX10_number_68 : decode cX10_number 68 = .ok (.ifCond .eq 45, 3) := by decide +kernel
theorem dX10_number_71 : decode cX10_number 71 = .ok (.iload_n 2, 1) := by decide +kernel
theorem dX10_number_72 : decode cX10_number 72 = .ok (.sipush 999, 3) := by decide +kernel
theorem dX10_number_75 : decode cX10_number 75 = .ok (.if_icmp .le 7, 3) := by decide +kernel
theorem dX10_number_78 : decode cX10_number 78 = .ok (.iload_n 2, 1) := by decide +kernel
theorem dX10_number_79 : decode cX10_number 79 = .ok (.goto 20, 3) := by decide +kernel
theorem dX10_number_82 : decode cX10_number 82 = .ok (.bipush 10, 2) := by decide +kernel
theorem dX10_number_84 : decode cX10_number 84 = .ok (.iload_n 2, 1) := by decide +kernel
theorem dX10_number_85 : decode cX10_number 85 = .ok (.imul, 1) := by decide +kernel
theorem dX10_number_86 : decode cX10_number 86 = .ok (.aload_n 0, 1) := by decide +kernel
theorem dX10_number_87 : decode cX10_number 87 = .ok (.getfield 55, 3) := by decide +kernel
theorem dX10_number_90 : decode cX10_number 90 = .ok (.aload_n 0, 1) := by decide +kernel
theorem dX10_number_91 : decode cX10_number 91 = .ok (.getfield 166, 3) := by decide +kernel
theorem dX10_number_94 : decode cX10_number 94 = .ok (.iaload, 1) := by decide +kernel
theorem dX10_number_95 : decode cX10_number 95 = .ok (.iadd, 1) := by decide +kernel
theorem dX10_number_96 : decode cX10_number 96 = .ok (.bipush 48, 2) := by decide +kernel
theorem dX10_number_98 : decode cX10_number 98 = .ok (.isub, 1) := by decide +kernel
theorem dX10_number_99 : decode cX10_number 99 = .ok (.istore_n 2, 1) := by decide +kernel
theorem dX10_number_100 : decode cX10_number 100 = .ok (.aload_n 0, 1) := by decide +kernel
theorem dX10_number_101 : decode cX10_number 101 = .ok (.dup, 1) := by decide +kernel
theorem dX10_number_102 : decode cX10_number 102 = .ok (.getfield 166, 3) := by decide +kernel
theorem dX10_number_105 : decode cX10_number 105 = .ok (.iconst 1, 1) := by decide +kernel
theorem dX10_number_106 : decode cX10_number 106 = .ok (.iadd, 1) := by decide +kernel
theorem dX10_number_107 : decode cX10_number 107 = .ok (.putfield 166, 3) := by decide +kernel
theorem dX10_number_110 : decode cX10_number 110 = .ok (.goto (-72), 3) := by decide +kernel
theorem dX10_number_113 : decode cX10_number 113 = .ok (.aload_n 0, 1) := by decide +kernel
theorem dX10_number_114 : decode cX10_number 114 = .ok (.aload_n 0, 1) := by decide +kernel
theorem dX10_number_115 : decode cX10_number 115 = .ok (.getfield 166, 3) := by decide +kernel
theorem dX10_number_118 : decode cX10_number 118 = .ok (.iload_n 1, 1) := by decide +kernel
theorem dX10_number_119 : decode cX10_number 119 = .ok (.isub, 1) := by decide +kernel
theorem dX10_number_120 : decode cX10_number 120 = .ok (.iconst 2, 1) := by decide +kernel
theorem dX10_number_121 : decode cX10_number 121 = .ok (.if_icmp .gt 7, 3) := by decide +kernel
theorem dX10_number_124 : decode cX10_number 124 = .ok (.iload_n 2, 1) := by decide +kernel
theorem dX10_number_125 : decode cX10_number 125 = .ok (.ifCond .ne 7, 3) := by decide +kernel
theorem dX10_number_128 : decode cX10_number 128 = .ok (.iconst 1, 1) := by decide +kernel
theorem dX10_number_129 : decode cX10_number 129 = .ok (.goto 4, 3) := by decide +kernel
theorem dX10_number_132 : decode cX10_number 132 = .ok (.iconst 0, 1) := by decide +kernel
theorem dX10_number_133 : decode cX10_number 133 = .ok (.putfield 169, 3) := by decide +kernel
theorem dX10_number_136 : decode cX10_number 136 = .ok (.aload_n 0, 1) := by decide +kernel
theorem dX10_number_137 : decode cX10_number 137 = .ok (.aload_n 0, 1) := by decide +kernel
theorem dX10_number_138 : decode cX10_number 138 = .ok (.getfield 169, 3) := by decide +kernel
theorem dX10_number_141 : decode cX10_number 141 = .ok (.ifCond .eq 7, 3) := by decide +kernel
theorem dX10_number_144 : decode cX10_number 144 = .ok (.iload_n 1, 1) := by decide +kernel
theorem dX10_number_145 : decode cX10_number 145 = .ok (.goto 7, 3) := by decide +kernel
theorem dX10_number_148 : decode cX10_number 148 = .ok (.aload_n 0, 1) := by decide +kernel
theorem dX10_number_149 : decode cX10_number 149 = .ok (.getfield 166, 3) := by decide +kernel
theorem dX10_number_152 : decode cX10_number 152 = .ok (.putfield 166, 3) := by decide +kernel
theorem dX10_number_155 : decode cX10_number 155 = .ok (.iload_n 2, 1) := by decide +kernel
theorem dX10_number_156 : decode cX10_number 156 = .ok (.ireturn, 1) := by decide +kernel
theorem dX10_readThing_0 : decode cX10_readThing 0 = .ok (.aload_n 0, 1) := by decide +kernel
theorem dX10_readThing_1 : decode cX10_readThing 1 = .ok (.getfield 169, 3) := by decide +kernel
theorem dX10_readThing_4 : decode cX10_readThing 4 = .ok (.ifCond .eq 7, 3) := by decide +kernel
theorem dX10_readThing_7 : decode cX10_readThing 7 = .ok (.iconst 0, 1) := by decide +kernel
theorem dX10_readThing_8 : decode cX10_readThing 8 = .ok (.goto 7, 3) := by decide +kernel
theorem dX10_readThing_11 : decode cX10_readThing 11 = .ok (.aload_n 0, 1) := by decide +kernel
theorem dX10_readThing_12 : decode cX10_readThing 12 = .ok (.invokevirtual 173, 3) := by decide +kernel
theorem dX10_readThing_15 : decode cX10_readThing 15 = .ok (.istore_n 1, 1) := by decide +kernel
theorem dX10_readThing_16 : decode cX10_readThing 16 = .ok (.iload_n 1, 1) := by decide +kernel
theorem dX10_readThing_17 : decode cX10_readThing 17 = .ok (.bipush 112, 2) := by decide +kernel
theorem dX10_readThing_19 : decode cX10_readThing 19 = .ok (.if_icmp .ne 7, 3) := by decide +kernel
theorem dX10_readThing_22 : decode cX10_readThing 22 = .ok (.iconst 0, 1) := by decide +kernel
theorem dX10_readThing_23 : decode cX10_readThing 23 = .ok (.goto 35, 3) := by decide +kernel
theorem dX10_readThing_26 : decode cX10_readThing 26 = .ok (.iload_n 1, 1) := by decide +kernel
theorem dX10_readThing_27 : decode cX10_readThing 27 = .ok (.bipush 105, 2) := by decide +kernel
theorem dX10_readThing_29 : decode cX10_readThing 29 = .ok (.if_icmp .ne 7, 3) := by decide +kernel
theorem dX10_readThing_32 : decode cX10_readThing 32 = .ok (.iconst 1, 1) := by decide +kernel
theorem dX10_readThing_33 : decode cX10_readThing 33 = .ok (.goto 25, 3) := by decide +kernel
theorem dX10_readThing_36 : decode cX10_readThing 36 = .ok (.iload_n 1, 1) := by decide +kernel
theorem dX10_readThing_37 : decode cX10_readThing 37 = .ok (.bipush 115, 2) := by decide +kernel
theorem dX10_readThing_39 : decode cX10_readThing 39 = .ok (.if_icmp .ne 7, 3) := by decide +kernel
theorem dX10_readThing_42 : decode cX10_readThing 42 = .ok (.iconst 2, 1) := by decide +kernel
theorem dX10_readThing_43 : decode cX10_readThing 43 = .ok (.goto 15, 3) := by decide +kernel
theorem dX10_readThing_46 : decode cX10_readThing 46 = .ok (.iload_n 1, 1) := by decide +kernel
theorem dX10_readThing_47 : decode cX10_readThing 47 = .ok (.bipush 102, 2) := by decide +kernel
theorem dX10_readThing_49 : decode cX10_readThing 49 = .ok (.if_icmp .ne 7, 3) := by decide +kernel
theorem dX10_readThing_52 : decode cX10_readThing 52 = .ok (.iconst 3, 1) := by decide +kernel
theorem dX10_readThing_53 : decode cX10_readThing 53 = .ok (.goto 5, 3) := by decide +kernel
theorem dX10_readThing_56 : decode cX10_readThing 56 = .ok (.bipush (-4), 2) := by decide +kernel
theorem dX10_readThing_58 : decode cX10_readThing 58 = .ok (.istore_n 2, 1) := by decide +kernel
theorem dX10_readThing_59 : decode cX10_readThing 59 = .ok (.aload_n 0, 1) := by decide +kernel
theorem dX10_readThing_60 : decode cX10_readThing 60 = .ok (.aload_n 0, 1) := by decide +kernel
theorem dX10_readThing_61 : decode cX10_readThing 61 = .ok (.getfield 169, 3) := by decide +kernel
theorem dX10_readThing_64 : decode cX10_readThing 64 = .ok (.ifCond .ne 7, 3) := by decide +kernel
theorem dX10_readThing_67 : decode cX10_readThing 67 = .ok (.iload_n 2, 1) := by decide +kernel
theorem dX10_readThing_68 : decode cX10_readThing 68 = .ok (.ifCond .ge 7, 3) := by decide +kernel
theorem dX10_readThing_71 : decode cX10_readThing 71 = .ok (.iconst 1, 1) := by decide +kernel
theorem dX10_readThing_72 : decode cX10_readThing 72 = .ok (.goto 4, 3) := by decide +kernel
theorem dX10_readThing_75 : decode cX10_readThing 75 = .ok (.iconst 0, 1) := by decide +kernel
theorem dX10_readThing_76 : decode cX10_readThing 76 = .ok (.putfield 169, 3) := by decide +kernel
theorem dX10_readThing_79 : decode cX10_readThing 79 = .ok (.aload_n 0, 1) := by decide +kernel
theorem dX10_readThing_80 : decode cX10_readThing 80 = .ok (.dup, 1) := by decide +kernel
theorem dX10_readThing_81 : decode cX10_readThing 81 = .ok (.getfield 166, 3) := by decide +kernel
theorem dX10_readThing_84 : decode cX10_readThing 84 = .ok (.aload_n 0, 1) := by decide +kernel
theorem dX10_readThing_85 : decode cX10_readThing 85 = .ok (.getfield 169, 3) := by decide +kernel
theorem dX10_readThing_88 : decode cX10_readThing 88 = .ok (.ifCond .eq 7, 3) := by decide +kernel
theorem dX10_readThing_91 : decode cX10_readThing 91 = .ok (.iconst 0, 1) := by decide +kernel
theorem dX10_readThing_92 : decode cX10_readThing 92 = .ok (.goto 4, 3) := by decide +kernel
theorem dX10_readThing_95 : decode cX10_readThing 95 = .ok (.iconst 1, 1) := by decide +kernel
theorem dX10_readThing_96 : decode cX10_readThing 96 = .ok (.iadd, 1) := by decide +kernel
theorem dX10_readThing_97 : decode cX10_readThing 97 = .ok (.putfield 166, 3) := by decide +kernel
theorem dX10_readThing_100 : decode cX10_readThing 100 = .ok (.aload_n 0, 1) := by decide +kernel
theorem dX10_readThing_101 : decode cX10_readThing 101 = .ok (.getfield 58, 3) := by decide +kernel
theorem dX10_readThing_104 : decode cX10_readThing 104 = .ok (.iconst 3, 1) := by decide +kernel
theorem dX10_readThing_105 : decode cX10_readThing 105 = .ok (.aload_n 0, 1) := by decide +kernel
theorem dX10_readThing_106 : decode cX10_readThing 106 = .ok (.getfield 181, 3) := by decide +kernel
theorem dX10_readThing_109 : decode cX10_readThing 109 = .ok (.imul, 1) := by decide +kernel
theorem dX10_readThing_110 : decode cX10_readThing 110 = .ok (.iload_n 2, 1) := by decide +kernel
theorem dX10_readThing_111 : decode cX10_readThing 111 = .ok (.iastore, 1) := by decide +kernel
theorem dX10_readThing_112 : decode cX10_readThing 112 = .ok (.aload_n 0, 1) := by decide +kernel
theorem dX10_readThing_113 : decode cX10_readThing 113 = .ok (.getfield 58, 3) := by decide +kernel
theorem dX10_readThing_116 : decode cX10_readThing 116 = .ok (.iconst 3, 1) := by decide +kernel
theorem dX10_readThing_117 : decode cX10_readThing 117 = .ok (.aload_n 0, 1) := by decide +kernel
theorem dX10_readThing_118 : decode cX10_readThing 118 = .ok (.getfield 181, 3) := by decide +kernel
theorem dX10_readThing_121 : decode cX10_readThing 121 = .ok (.imul, 1) := by decide +kernel
theorem dX10_readThing_122 : decode cX10_readThing 122 = .ok (.iconst 1, 1) := by decide +kernel
theorem dX10_readThing_123 : decode cX10_readThing 123 = .ok (.iadd, 1) := by decide +kernel
theorem dX10_readThing_124 : decode cX10_readThing 124 = .ok (.aload_n 0, 1) := by decide +kernel
theorem dX10_readThing_125 : decode cX10_readThing 125 = .ok (.invokevirtual 184, 3) := by decide +kernel
theorem dX10_readThing_128 : decode cX10_readThing 128 = .ok (.iastore, 1) := by decide +kernel
theorem dX10_readThing_129 : decode cX10_readThing 129 = .ok (.aload_n 0, 1) := by decide +kernel
theorem dX10_readThing_130 : decode cX10_readThing 130 = .ok (.getfield 58, 3) := by decide +kernel
theorem dX10_readThing_133 : decode cX10_readThing 133 = .ok (.iconst 3, 1) := by decide +kernel
theorem dX10_readThing_134 : decode cX10_readThing 134 = .ok (.aload_n 0, 1) := by decide +kernel
theorem dX10_readThing_135 : decode cX10_readThing 135 = .ok (.getfield 181, 3) := by decide +kernel
theorem dX10_readThing_138 : decode cX10_readThing 138 = .ok (.imul, 1) := by decide +kernel
theorem dX10_readThing_139 : decode cX10_readThing 139 = .ok (.iconst 2, 1) := by decide +kernel
theorem dX10_readThing_140 : decode cX10_readThing 140 = .ok (.iadd, 1) := by decide +kernel
theorem dX10_readThing_141 : decode cX10_readThing 141 = .ok (.iconst 5, 1) := by decide +kernel
theorem dX10_readThing_142 : decode cX10_readThing 142 = .ok (.iastore, 1) := by decide +kernel
theorem dX10_readThing_143 : decode cX10_readThing 143 = .ok (.aload_n 0, 1) := by decide +kernel
theorem dX10_readThing_144 : decode cX10_readThing 144 = .ok (.bipush 64, 2) := by decide +kernel
theorem dX10_readThing_146 : decode cX10_readThing 146 = .ok (.invokevirtual 187, 3) := by decide +kernel
theorem dX10_readThing_149 : decode cX10_readThing 149 = .ok (.ifCond .eq 70, 3) := by decide +kernel
theorem dX10_readThing_152 : decode cX10_readThing 152 = .ok (.aload_n 0, 1) := by decide +kernel
theorem dX10_readThing_153 : decode cX10_readThing 153 = .ok (.aload_n 0, 1) := by decide +kernel
theorem dX10_readThing_154 : decode cX10_readThing 154 = .ok (.invokevirtual 173, 3) := by decide +kernel
theorem dX10_readThing_157 : decode cX10_readThing 157 = .ok (.i2l, 1) := by decide +kernel
theorem dX10_readThing_158 : decode cX10_readThing 158 = .ok (.ldc2_w 177, 3) := by decide +kernel
theorem dX10_readThing_161 : decode cX10_readThing 161 = .ok (.ldc2_w 190, 3) := by decide +kernel
theorem dX10_readThing_164 : decode cX10_readThing 164 = .ok (.invokestatic 102, 3) := by decide +kernel
theorem dX10_readThing_167 : decode cX10_readThing 167 = .ok (.ifCond .ne 7, 3) := by decide +kernel
theorem dX10_readThing_170 : decode cX10_readThing 170 = .ok (.iconst 1, 1) := by decide +kernel
theorem dX10_readThing_171 : decode cX10_readThing 171 = .ok (.goto 4, 3) := by decide +kernel
theorem dX10_readThing_174 : decode cX10_readThing 174 = .ok (.iconst 0, 1) := by decide +kernel
theorem dX10_readThing_175 : decode cX10_readThing 175 = .ok (.putfield 169, 3) := by decide +kernel
theorem dX10_readThing_178 : decode cX10_readThing 178 = .ok (.aload_n 0, 1) := by decide +kernel
theorem dX10_readThing_179 : decode cX10_readThing 179 = .ok (.getfield 58, 3) := by decide +kernel
theorem dX10_readThing_182 : decode cX10_readThing 182 = .ok (.iconst 3, 1) := by decide +kernel
theorem dX10_readThing_183 : decode cX10_readThing 183 = .ok (.aload_n 0, 1) := by decide +kernel
theorem dX10_readThing_184 : decode cX10_readThing 184 = .ok (.getfield 181, 3) := by decide +kernel
theorem dX10_readThing_187 : decode cX10_readThing 187 = .ok (.imul, 1) := by decide +kernel
theorem dX10_readThing_188 : decode cX10_readThing 188 = .ok (.iconst 2, 1) := by decide +kernel
theorem dX10_readThing_189 : decode cX10_readThing 189 = .ok (.iadd, 1) := by decide +kernel
theorem dX10_readThing_190 : decode cX10_readThing 190 = .ok (.aload_n 0, 1) := by decide +kernel
theorem dX10_readThing_191 : decode cX10_readThing 191 = .ok (.invokevirtual 173, 3) := by decide +kernel
theorem dX10_readThing_194 : decode cX10_readThing 194 = .ok (.bipush 48, 2) := by decide +kernel
theorem dX10_readThing_196 : decode cX10_readThing 196 = .ok (.isub, 1) := by decide +kernel
theorem dX10_readThing_197 : decode cX10_readThing 197 = .ok (.iastore, 1) := by decide +kernel
theorem dX10_readThing_198 : decode cX10_readThing 198 = .ok (.aload_n 0, 1) := by decide +kernel
theorem dX10_readThing_199 : decode cX10_readThing 199 = .ok (.dup, 1) := by decide +kernel
theorem dX10_readThing_200 : decode cX10_readThing 200 = .ok (.getfield 166, 3) := by decide +kernel
theorem dX10_readThing_203 : decode cX10_readThing 203 = .ok (.aload_n 0, 1) := by decide +kernel
theorem dX10_readThing_204 : decode cX10_readThing 204 = .ok (.getfield 169, 3) := by decide +kernel
theorem dX10_readThing_207 : decode cX10_readThing 207 = .ok (.ifCond .eq 7, 3) := by decide +kernel
theorem dX10_readThing_210 : decode cX10_readThing 210 = .ok (.iconst 0, 1) := by decide +kernel
theorem dX10_readThing_211 : decode cX10_readThing 211 = .ok (.goto 4, 3) := by decide +kernel
theorem dX10_readThing_214 : decode cX10_readThing 214 = .ok (.iconst 1, 1) := by decide +kernel
theorem dX10_readThing_215 : decode cX10_readThing 215 = .ok (.iadd, 1) := by decide +kernel
theorem dX10_readThing_216 : decode cX10_readThing 216 = .ok (.putfield 166, 3) := by decide +kernel
theorem dX10_readThing_219 : decode cX10_readThing 219 = .ok (.aload_n 0, 1) := by decide +kernel
theorem dX10_readThing_220 : decode cX10_readThing 220 = .ok (.dup, 1) := by decide +kernel
theorem dX10_readThing_221 : decode cX10_readThing 221 = .ok (.getfield 181, 3) := by decide +kernel
theorem dX10_readThing_224 : decode cX10_readThing 224 = .ok (.iconst 1, 1) := by decide +kernel
theorem dX10_readThing_225 : decode cX10_readThing 225 = .ok (.iadd, 1) := by decide +kernel
theorem dX10_readThing_226 : decode cX10_readThing 226 = .ok (.putfield 181, 3) := by decide +kernel
theorem dX10_readThing_229 : decode cX10_readThing 229 = .ok (.return_, 1) := by decide +kernel
theorem dX10_market_0 : decode cX10_market 0 = .ok (.aload_n 0, 1) := by decide +kernel
theorem dX10_market_1 : decode cX10_market 1 = .ok (.iconst 0, 1) := by decide +kernel
theorem dX10_market_2 : decode cX10_market 2 = .ok (.putfield 166, 3) := by decide +kernel
theorem dX10_market_5 : decode cX10_market 5 = .ok (.aload_n 0, 1) := by decide +kernel
theorem dX10_market_6 : decode cX10_market 6 = .ok (.iconst 0, 1) := by decide +kernel
theorem dX10_market_7 : decode cX10_market 7 = .ok (.putfield 169, 3) := by decide +kernel
theorem dX10_market_10 : decode cX10_market 10 = .ok (.aload_n 0, 1) := by decide +kernel
theorem dX10_market_11 : decode cX10_market 11 = .ok (.iconst 0, 1) := by decide +kernel
theorem dX10_market_12 : decode cX10_market 12 = .ok (.putfield 181, 3) := by decide +kernel
theorem dX10_market_15 : decode cX10_market 15 = .ok (.aload_n 0, 1) := by decide +kernel
theorem dX10_market_16 : decode cX10_market 16 = .ok (.iconst 0, 1) := by decide +kernel
theorem dX10_market_17 : decode cX10_market 17 = .ok (.putfield 192, 3) := by decide +kernel
theorem dX10_market_20 : decode cX10_market 20 = .ok (.iconst 1, 1) := by decide +kernel
theorem dX10_market_21 : decode cX10_market 21 = .ok (.istore_n 1, 1) := by decide +kernel
theorem dX10_market_22 : decode cX10_market 22 = .ok (.iload_n 1, 1) := by decide +kernel
theorem dX10_market_23 : decode cX10_market 23 = .ok (.ifCond .eq 34, 3) := by decide +kernel
theorem dX10_market_26 : decode cX10_market 26 = .ok (.aload_n 0, 1) := by decide +kernel
theorem dX10_market_27 : decode cX10_market 27 = .ok (.invokevirtual 195, 3) := by decide +kernel
theorem dX10_market_30 : decode cX10_market 30 = .ok (.aload_n 0, 1) := by decide +kernel
theorem dX10_market_31 : decode cX10_market 31 = .ok (.getfield 181, 3) := by decide +kernel
theorem dX10_market_34 : decode cX10_market 34 = .ok (.bipush 10, 2) := by decide +kernel
theorem dX10_market_36 : decode cX10_market 36 = .ok (.if_icmp .ge 16, 3) := by decide +kernel
theorem dX10_market_39 : decode cX10_market 39 = .ok (.aload_n 0, 1) := by decide +kernel
theorem dX10_market_40 : decode cX10_market 40 = .ok (.bipush 44, 2) := by decide +kernel
theorem dX10_market_42 : decode cX10_market 42 = .ok (.invokevirtual 187, 3) := by decide +kernel
theorem dX10_market_45 : decode cX10_market 45 = .ok (.ifCond .eq 7, 3) := by decide +kernel
theorem dX10_market_48 : decode cX10_market 48 = .ok (.iconst 1, 1) := by decide +kernel
theorem dX10_market_49 : decode cX10_market 49 = .ok (.goto 4, 3) := by decide +kernel
theorem dX10_market_52 : decode cX10_market 52 = .ok (.iconst 0, 1) := by decide +kernel
theorem dX10_market_53 : decode cX10_market 53 = .ok (.istore_n 1, 1) := by decide +kernel
theorem dX10_market_54 : decode cX10_market 54 = .ok (.goto (-32), 3) := by decide +kernel
theorem dX10_market_57 : decode cX10_market 57 = .ok (.aload_n 0, 1) := by decide +kernel
theorem dX10_market_58 : decode cX10_market 58 = .ok (.bipush 59, 2) := by decide +kernel
theorem dX10_market_60 : decode cX10_market 60 = .ok (.invokevirtual 187, 3) := by decide +kernel
theorem dX10_market_63 : decode cX10_market 63 = .ok (.istore_n 1, 1) := by decide +kernel
theorem dX10_market_64 : decode cX10_market 64 = .ok (.iload_n 1, 1) := by decide +kernel
theorem dX10_market_65 : decode cX10_market 65 = .ok (.ifCond .eq 81, 3) := by decide +kernel
theorem dX10_market_68 : decode cX10_market 68 = .ok (.aload_n 0, 1) := by decide +kernel
theorem dX10_market_69 : decode cX10_market 69 = .ok (.getfield 61, 3) := by decide +kernel
theorem dX10_market_72 : decode cX10_market 72 = .ok (.iconst 2, 1) := by decide +kernel
theorem dX10_market_73 : decode cX10_market 73 = .ok (.aload_n 0, 1) := by decide +kernel
theorem dX10_market_74 : decode cX10_market 74 = .ok (.getfield 192, 3) := by decide +kernel
theorem dX10_market_77 : decode cX10_market 77 = .ok (.imul, 1) := by decide +kernel
theorem dX10_market_78 : decode cX10_market 78 = .ok (.aload_n 0, 1) := by decide +kernel
theorem dX10_market_79 : decode cX10_market 79 = .ok (.invokevirtual 184, 3) := by decide +kernel
theorem dX10_market_82 : decode cX10_market 82 = .ok (.iastore, 1) := by decide +kernel
theorem dX10_market_83 : decode cX10_market 83 = .ok (.aload_n 0, 1) := by decide +kernel
theorem dX10_market_84 : decode cX10_market 84 = .ok (.getfield 61, 3) := by decide +kernel
theorem dX10_market_87 : decode cX10_market 87 = .ok (.iconst 2, 1) := by decide +kernel
theorem dX10_market_88 : decode cX10_market 88 = .ok (.aload_n 0, 1) := by decide +kernel
theorem dX10_market_89 : decode cX10_market 89 = .ok (.getfield 192, 3) := by decide +kernel
theorem dX10_market_92 : decode cX10_market 92 = .ok (.imul, 1) := by decide +kernel
theorem dX10_market_93 : decode cX10_market 93 = .ok (.iconst 1, 1) := by decide +kernel
theorem dX10_market_94 : decode cX10_market 94 = .ok (.iadd, 1) := by decide +kernel
theorem dX10_market_95 : decode cX10_market 95 = .ok (.aload_n 0, 1) := by decide +kernel
theorem dX10_market_96 : decode cX10_market 96 = .ok (.bipush 117, 2) := by decide +kernel
theorem dX10_market_98 : decode cX10_market 98 = .ok (.invokevirtual 187, 3) := by decide +kernel
theorem dX10_market_101 : decode cX10_market 101 = .ok (.ifCond .eq 7, 3) := by decide +kernel
theorem dX10_market_104 : decode cX10_market 104 = .ok (.iconst 1, 1) := by decide +kernel
theorem dX10_market_105 : decode cX10_market 105 = .ok (.goto 4, 3) := by decide +kernel
theorem dX10_market_108 : decode cX10_market 108 = .ok (.iconst 0, 1) := by decide +kernel
theorem dX10_market_109 : decode cX10_market 109 = .ok (.iastore, 1) := by decide +kernel
theorem dX10_market_110 : decode cX10_market 110 = .ok (.aload_n 0, 1) := by decide +kernel
theorem dX10_market_111 : decode cX10_market 111 = .ok (.dup, 1) := by decide +kernel
theorem dX10_market_112 : decode cX10_market 112 = .ok (.getfield 192, 3) := by decide +kernel
theorem dX10_market_115 : decode cX10_market 115 = .ok (.iconst 1, 1) := by decide +kernel
theorem dX10_market_116 : decode cX10_market 116 = .ok (.iadd, 1) := by decide +kernel
theorem dX10_market_117 : decode cX10_market 117 = .ok (.putfield 192, 3) := by decide +kernel
theorem dX10_market_120 : decode cX10_market 120 = .ok (.aload_n 0, 1) := by decide +kernel
theorem dX10_market_121 : decode cX10_market 121 = .ok (.getfield 192, 3) := by decide +kernel
theorem dX10_market_124 : decode cX10_market 124 = .ok (.iconst 5, 1) := by decide +kernel
theorem dX10_market_125 : decode cX10_market 125 = .ok (.if_icmp .ge 16, 3) := by decide +kernel
theorem dX10_market_128 : decode cX10_market 128 = .ok (.aload_n 0, 1) := by decide +kernel
theorem dX10_market_129 : decode cX10_market 129 = .ok (.bipush 44, 2) := by decide +kernel
theorem dX10_market_131 : decode cX10_market 131 = .ok (.invokevirtual 187, 3) := by decide +kernel
theorem dX10_market_134 : decode cX10_market 134 = .ok (.ifCond .eq 7, 3) := by decide +kernel
theorem dX10_market_137 : decode cX10_market 137 = .ok (.iconst 1, 1) := by decide +kernel
theorem dX10_market_138 : decode cX10_market 138 = .ok (.goto 4, 3) := by decide +kernel
theorem dX10_market_141 : decode cX10_market 141 = .ok (.iconst 0, 1) := by decide +kernel
theorem dX10_market_142 : decode cX10_market 142 = .ok (.istore_n 1, 1) := by decide +kernel
theorem dX10_market_143 : decode cX10_market 143 = .ok (.goto (-79), 3) := by decide +kernel
theorem dX10_market_146 : decode cX10_market 146 = .ok (.aload_n 0, 1) := by decide +kernel
theorem dX10_market_147 : decode cX10_market 147 = .ok (.aload_n 0, 1) := by decide +kernel
theorem dX10_market_148 : decode cX10_market 148 = .ok (.getfield 169, 3) := by decide +kernel
theorem dX10_market_151 : decode cX10_market 151 = .ok (.ifCond .ne 10, 3) := by decide +kernel
theorem dX10_market_154 : decode cX10_market 154 = .ok (.aload_n 0, 1) := by decide +kernel
theorem dX10_market_155 : decode cX10_market 155 = .ok (.invokevirtual 173, 3) := by decide +kernel
theorem dX10_market_158 : decode cX10_market 158 = .ok (.ifCond .eq 7, 3) := by decide +kernel
theorem dX10_market_161 : decode cX10_market 161 = .ok (.iconst 1, 1) := by decide +kernel
theorem dX10_market_162 : decode cX10_market 162 = .ok (.goto 4, 3) := by decide +kernel
theorem dX10_market_165 : decode cX10_market 165 = .ok (.iconst 0, 1) := by decide +kernel
theorem dX10_market_166 : decode cX10_market 166 = .ok (.putfield 169, 3) := by decide +kernel
theorem dX10_market_169 : decode cX10_market 169 = .ok (.aload_n 0, 1) := by decide +kernel
theorem dX10_market_170 : decode cX10_market 170 = .ok (.iconst 0, 1) := by decide +kernel
theorem dX10_market_171 : decode cX10_market 171 = .ok (.putfield 163, 3) := by decide +kernel
theorem dX10_market_174 : decode cX10_market 174 = .ok (.aload_n 0, 1) := by decide +kernel
theorem dX10_market_175 : decode cX10_market 175 = .ok (.getfield 169, 3) := by decide +kernel
theorem dX10_market_178 : decode cX10_market 178 = .ok (.ifCond .eq 11, 3) := by decide +kernel
theorem dX10_market_181 : decode cX10_market 181 = .ok (.bipush (-20), 2) := by decide +kernel
theorem dX10_market_183 : decode cX10_market 183 = .ok (.aload_n 0, 1) := by decide +kernel
theorem dX10_market_184 : decode cX10_market 184 = .ok (.getfield 166, 3) := by decide +kernel
theorem dX10_market_187 : decode cX10_market 187 = .ok (.isub, 1) := by decide +kernel
theorem dX10_market_188 : decode cX10_market 188 = .ok (.ireturn, 1) := by decide +kernel
theorem dX10_market_189 : decode cX10_market 189 = .ok (.aload_n 0, 1) := by decide +kernel
theorem dX10_market_190 : decode cX10_market 190 = .ok (.iconst 0, 1) := by decide +kernel
theorem dX10_market_191 : decode cX10_market 191 = .ok (.putfield 98, 3) := by decide +kernel
theorem dX10_market_194 : decode cX10_market 194 = .ok (.iconst 0, 1) := by decide +kernel
theorem dX10_market_195 : decode cX10_market 195 = .ok (.istore_n 2, 1) := by decide +kernel
theorem dX10_market_196 : decode cX10_market 196 = .ok (.iload_n 2, 1) := by decide +kernel
theorem dX10_market_197 : decode cX10_market 197 = .ok (.aload_n 0, 1) := by decide +kernel
theorem dX10_market_198 : decode cX10_market 198 = .ok (.getfield 181, 3) := by decide +kernel
theorem dX10_market_201 : decode cX10_market 201 = .ok (.if_icmp .ge 41, 3) := by decide +kernel
theorem dX10_market_204 : decode cX10_market 204 = .ok (.aload_n 0, 1) := by decide +kernel
theorem dX10_market_205 : decode cX10_market 205 = .ok (.aload_n 0, 1) := by decide +kernel
theorem dX10_market_206 : decode cX10_market 206 = .ok (.getfield 58, 3) := by decide +kernel
theorem dX10_market_209 : decode cX10_market 209 = .ok (.iconst 3, 1) := by decide +kernel
theorem dX10_market_210 : decode cX10_market 210 = .ok (.iload_n 2, 1) := by decide +kernel
theorem dX10_market_211 : decode cX10_market 211 = .ok (.imul, 1) := by decide +kernel
theorem dX10_market_212 : decode cX10_market 212 = .ok (.iaload, 1) := by decide +kernel
theorem dX10_market_213 : decode cX10_market 213 = .ok (.aload_n 0, 1) := by decide +kernel
theorem dX10_market_214 : decode cX10_market 214 = .ok (.getfield 58, 3) := by decide +kernel
theorem dX10_market_217 : decode cX10_market 217 = .ok (.iconst 3, 1) := by decide +kernel
theorem dX10_market_218 : decode cX10_market 218 = .ok (.iload_n 2, 1) := by decide +kernel
theorem dX10_market_219 : decode cX10_market 219 = .ok (.imul, 1) := by decide +kernel
theorem dX10_market_220 : decode cX10_market 220 = .ok (.iconst 1, 1) := by decide +kernel
theorem dX10_market_221 : decode cX10_market 221 = .ok (.iadd, 1) := by decide +kernel
theorem dX10_market_222 : decode cX10_market 222 = .ok (.iaload, 1) := by decide +kernel
theorem dX10_market_223 : decode cX10_market 223 = .ok (.aload_n 0, 1) := by decide +kernel
theorem dX10_market_224 : decode cX10_market 224 = .ok (.getfield 58, 3) := by decide +kernel
theorem dX10_market_227 : decode cX10_market 227 = .ok (.iconst 3, 1) := by decide +kernel
theorem dX10_market_228 : decode cX10_market 228 = .ok (.iload_n 2, 1) := by decide +kernel
theorem dX10_market_229 : decode cX10_market 229 = .ok (.imul, 1) := by decide +kernel
theorem dX10_market_230 : decode cX10_market 230 = .ok (.iconst 2, 1) := by decide +kernel
theorem dX10_market_231 : decode cX10_market 231 = .ok (.iadd, 1) := by decide +kernel
theorem dX10_market_232 : decode cX10_market 232 = .ok (.iaload, 1) := by decide +kernel
theorem dX10_market_233 : decode cX10_market 233 = .ok (.invokevirtual 115, 3) := by decide +kernel
theorem dX10_market_236 : decode cX10_market 236 = .ok (.iinc 2 1, 3) := by decide +kernel
theorem dX10_market_239 : decode cX10_market 239 = .ok (.goto (-43), 3) := by decide +kernel
theorem dX10_market_242 : decode cX10_market 242 = .ok (.aload_n 0, 1) := by decide +kernel
theorem dX10_market_243 : decode cX10_market 243 = .ok (.aload_n 0, 1) := by decide +kernel
theorem dX10_market_244 : decode cX10_market 244 = .ok (.getfield 192, 3) := by decide +kernel
theorem dX10_market_247 : decode cX10_market 247 = .ok (.putfield 106, 3) := by decide +kernel
theorem dX10_market_250 : decode cX10_market 250 = .ok (.iconst 0, 1) := by decide +kernel
theorem dX10_market_251 : decode cX10_market 251 = .ok (.istore_n 2, 1) := by decide +kernel
theorem dX10_market_252 : decode cX10_market 252 = .ok (.iload_n 2, 1) := by decide +kernel
theorem dX10_market_253 : decode cX10_market 253 = .ok (.aload_n 0, 1) := by decide +kernel
theorem dX10_market_254 : decode cX10_market 254 = .ok (.getfield 106, 3) := by decide +kernel
theorem dX10_market_257 : decode cX10_market 257 = .ok (.if_icmp .ge 39, 3) := by decide +kernel
theorem dX10_market_260 : decode cX10_market 260 = .ok (.aload_n 0, 1) := by decide +kernel
theorem dX10_market_261 : decode cX10_market 261 = .ok (.getfield 25, 3) := by decide +kernel
theorem dX10_market_264 : decode cX10_market 264 = .ok (.iload_n 2, 1) := by decide +kernel
theorem dX10_market_265 : decode cX10_market 265 = .ok (.aload_n 0, 1) := by decide +kernel
theorem dX10_market_266 : decode cX10_market 266 = .ok (.getfield 61, 3) := by decide +kernel
theorem dX10_market_269 : decode cX10_market 269 = .ok (.iconst 2, 1) := by decide +kernel
theorem dX10_market_270 : decode cX10_market 270 = .ok (.iload_n 2, 1) := by decide +kernel
theorem dX10_market_271 : decode cX10_market 271 = .ok (.imul, 1) := by decide +kernel
theorem dX10_market_272 : decode cX10_market 272 = .ok (.iaload, 1) := by decide +kernel
theorem dX10_market_273 : decode cX10_market 273 = .ok (.iastore, 1) := by decide +kernel
theorem dX10_market_274 : decode cX10_market 274 = .ok (.aload_n 0, 1) := by decide +kernel
theorem dX10_market_275 : decode cX10_market 275 = .ok (.getfield 28, 3) := by decide +kernel
theorem dX10_market_278 : decode cX10_market 278 = .ok (.iload_n 2, 1) := by decide +kernel
theorem dX10_market_279 : decode cX10_market 279 = .ok (.aload_n 0, 1) := by decide +kernel
theorem dX10_market_280 : decode cX10_market 280 = .ok (.getfield 61, 3) := by decide +kernel
theorem dX10_market_283 : decode cX10_market 283 = .ok (.iconst 2, 1) := by decide +kernel
theorem dX10_market_284 : decode cX10_market 284 = .ok (.iload_n 2, 1) := by decide +kernel
theorem dX10_market_285 : decode cX10_market 285 = .ok (.imul, 1) := by decide +kernel
theorem dX10_market_286 : decode cX10_market 286 = .ok (.iconst 1, 1) := by decide +kernel
theorem dX10_market_287 : decode cX10_market 287 = .ok (.iadd, 1) := by decide +kernel
theorem dX10_market_288 : decode cX10_market 288 = .ok (.iaload, 1) := by decide +kernel
theorem dX10_market_289 : decode cX10_market 289 = .ok (.iastore, 1) := by decide +kernel
theorem dX10_market_290 : decode cX10_market 290 = .ok (.iinc 2 1, 3) := by decide +kernel
theorem dX10_market_293 : decode cX10_market 293 = .ok (.goto (-41), 3) := by decide +kernel
theorem dX10_market_296 : decode cX10_market 296 = .ok (.aload_n 0, 1) := by decide +kernel
theorem dX10_market_297 : decode cX10_market 297 = .ok (.iconst 0, 1) := by decide +kernel
theorem dX10_market_298 : decode cX10_market 298 = .ok (.putfield 152, 3) := by decide +kernel
theorem dX10_market_301 : decode cX10_market 301 = .ok (.aload_n 0, 1) := by decide +kernel
theorem dX10_market_302 : decode cX10_market 302 = .ok (.iconst 0, 1) := by decide +kernel
theorem dX10_market_303 : decode cX10_market 303 = .ok (.putfield 119, 3) := by decide +kernel
theorem dX10_market_306 : decode cX10_market 306 = .ok (.aload_n 0, 1) := by decide +kernel
theorem dX10_market_307 : decode cX10_market 307 = .ok (.getfield 98, 3) := by decide +kernel
theorem dX10_market_310 : decode cX10_market 310 = .ok (.ireturn, 1) := by decide +kernel
theorem dX10_loadOf_0 : decode cX10_loadOf 0 = .ok (.aload_n 0, 1) := by decide +kernel
theorem dX10_loadOf_1 : decode cX10_loadOf 1 = .ok (.getfield 16, 3) := by decide +kernel
theorem dX10_loadOf_4 : decode cX10_loadOf 4 = .ok (.iload_n 1, 1) := by decide +kernel
theorem dX10_loadOf_5 : decode cX10_loadOf 5 = .ok (.iaload, 1) := by decide +kernel
theorem dX10_loadOf_6 : decode cX10_loadOf 6 = .ok (.iload_n 2, 1) := by decide +kernel
theorem dX10_loadOf_7 : decode cX10_loadOf 7 = .ok (.if_icmp .gt 5, 3) := by decide +kernel
theorem dX10_loadOf_10 : decode cX10_loadOf 10 = .ok (.iconst 0, 1) := by decide +kernel
theorem dX10_loadOf_11 : decode cX10_loadOf 11 = .ok (.ireturn, 1) := by decide +kernel
theorem dX10_loadOf_12 : decode cX10_loadOf 12 = .ok (.aload_n 0, 1) := by decide +kernel
theorem dX10_loadOf_13 : decode cX10_loadOf 13 = .ok (.getfield 7, 3) := by decide +kernel
theorem dX10_loadOf_16 : decode cX10_loadOf 16 = .ok (.iload_n 1, 1) := by decide +kernel
theorem dX10_loadOf_17 : decode cX10_loadOf 17 = .ok (.iaload, 1) := by decide +kernel
theorem dX10_loadOf_18 : decode cX10_loadOf 18 = .ok (.iconst 1, 1) := by decide +kernel
theorem dX10_loadOf_19 : decode cX10_loadOf 19 = .ok (.if_icmp .ne 7, 3) := by decide +kernel
theorem dX10_loadOf_22 : decode cX10_loadOf 22 = .ok (.iload_n 2, 1) := by decide +kernel
theorem dX10_loadOf_23 : decode cX10_loadOf 23 = .ok (.goto 20, 3) := by decide +kernel
theorem dX10_loadOf_26 : decode cX10_loadOf 26 = .ok (.aload_n 0, 1) := by decide +kernel
theorem dX10_loadOf_27 : decode cX10_loadOf 27 = .ok (.getfield 7, 3) := by decide +kernel
theorem dX10_loadOf_30 : decode cX10_loadOf 30 = .ok (.iload_n 1, 1) := by decide +kernel
theorem dX10_loadOf_31 : decode cX10_loadOf 31 = .ok (.iaload, 1) := by decide +kernel
theorem dX10_loadOf_32 : decode cX10_loadOf 32 = .ok (.iconst 3, 1) := by decide +kernel
theorem dX10_loadOf_33 : decode cX10_loadOf 33 = .ok (.if_icmp .ne 9, 3) := by decide +kernel
theorem dX10_loadOf_36 : decode cX10_loadOf 36 = .ok (.iconst 2, 1) := by decide +kernel
theorem dX10_loadOf_37 : decode cX10_loadOf 37 = .ok (.iload_n 2, 1) := by decide +kernel
theorem dX10_loadOf_38 : decode cX10_loadOf 38 = .ok (.imul, 1) := by decide +kernel
theorem dX10_loadOf_39 : decode cX10_loadOf 39 = .ok (.goto 4, 3) := by decide +kernel
theorem dX10_loadOf_42 : decode cX10_loadOf 42 = .ok (.iconst 0, 1) := by decide +kernel
theorem dX10_loadOf_43 : decode cX10_loadOf 43 = .ok (.istore_n 3, 1) := by decide +kernel
theorem dX10_loadOf_44 : decode cX10_loadOf 44 = .ok (.aload_n 0, 1) := by decide +kernel
theorem dX10_loadOf_45 : decode cX10_loadOf 45 = .ok (.getfield 13, 3) := by decide +kernel
theorem dX10_loadOf_48 : decode cX10_loadOf 48 = .ok (.iload_n 1, 1) := by decide +kernel
theorem dX10_loadOf_49 : decode cX10_loadOf 49 = .ok (.iaload, 1) := by decide +kernel
theorem dX10_loadOf_50 : decode cX10_loadOf 50 = .ok (.iload_n 3, 1) := by decide +kernel
theorem dX10_loadOf_51 : decode cX10_loadOf 51 = .ok (.if_icmp .le 14, 3) := by decide +kernel
theorem dX10_loadOf_54 : decode cX10_loadOf 54 = .ok (.aload_n 0, 1) := by decide +kernel
theorem dX10_loadOf_55 : decode cX10_loadOf 55 = .ok (.getfield 13, 3) := by decide +kernel
theorem dX10_loadOf_58 : decode cX10_loadOf 58 = .ok (.iload_n 1, 1) := by decide +kernel
theorem dX10_loadOf_59 : decode cX10_loadOf 59 = .ok (.iaload, 1) := by decide +kernel
theorem dX10_loadOf_60 : decode cX10_loadOf 60 = .ok (.iload_n 3, 1) := by decide +kernel
theorem dX10_loadOf_61 : decode cX10_loadOf 61 = .ok (.isub, 1) := by decide +kernel
theorem dX10_loadOf_62 : decode cX10_loadOf 62 = .ok (.goto 4, 3) := by decide +kernel
theorem dX10_loadOf_65 : decode cX10_loadOf 65 = .ok (.iconst 0, 1) := by decide +kernel
theorem dX10_loadOf_66 : decode cX10_loadOf 66 = .ok (.ireturn, 1) := by decide +kernel
theorem dX10_loads_0 : decode cX10_loads 0 = .ok (.iconst 0, 1) := by decide +kernel
theorem dX10_loads_1 : decode cX10_loads 1 = .ok (.istore 4, 2) := by decide +kernel
theorem dX10_loads_3 : decode cX10_loads 3 = .ok (.iconst 0, 1) := by decide +kernel
theorem dX10_loads_4 : decode cX10_loads 4 = .ok (.istore 5, 2) := by decide +kernel
theorem dX10_loads_6 : decode cX10_loads 6 = .ok (.iload 5, 2) := by decide +kernel
theorem dX10_loads_8 : decode cX10_loads 8 = .ok (.aload_n 0, 1) := by decide +kernel
theorem dX10_loads_9 : decode cX10_loads 9 = .ok (.getfield 98, 3) := by decide +kernel
theorem dX10_loads_12 : decode cX10_loads 12 = .ok (.if_icmp .ge 33, 3) := by decide +kernel
theorem dX10_loads_15 : decode cX10_loads 15 = .ok (.iload 4, 2) := by decide +kernel
theorem dX10_loads_17 : decode cX10_loads 17 = .ok (.aload_n 1, 1) := by decide +kernel
theorem dX10_loads_18 : decode cX10_loads 18 = .ok (.iload 5, 2) := by decide +kernel
theorem dX10_loads_20 : decode cX10_loads 20 = .ok (.iaload, 1) := by decide +kernel
theorem dX10_loads_21 : decode cX10_loads 21 = .ok (.iload_n 2, 1) := by decide +kernel
theorem dX10_loads_22 : decode cX10_loads 22 = .ok (.if_icmp .ne 13, 3) := by decide +kernel
theorem dX10_loads_25 : decode cX10_loads 25 = .ok (.aload_n 0, 1) := by decide +kernel
theorem dX10_loads_26 : decode cX10_loads 26 = .ok (.iload 5, 2) := by decide +kernel
theorem dX10_loads_28 : decode cX10_loads 28 = .ok (.iload_n 3, 1) := by decide +kernel
theorem dX10_loads_29 : decode cX10_loads 29 = .ok (.invokevirtual 198, 3) := by decide +kernel
theorem dX10_loads_32 : decode cX10_loads 32 = .ok (.goto 4, 3) := by decide +kernel
theorem dX10_loads_35 : decode cX10_loads 35 = .ok (.iconst 0, 1) := by decide +kernel
theorem dX10_loads_36 : decode cX10_loads 36 = .ok (.iadd, 1) := by decide +kernel
theorem dX10_loads_37 : decode cX10_loads 37 = .ok (.istore 4, 2) := by decide +kernel
theorem dX10_loads_39 : decode cX10_loads 39 = .ok (.iinc 5 1, 3) := by decide +kernel
theorem dX10_loads_42 : decode cX10_loads 42 = .ok (.goto (-36), 3) := by decide +kernel
theorem dX10_loads_45 : decode cX10_loads 45 = .ok (.iload 4, 2) := by decide +kernel
theorem dX10_loads_47 : decode cX10_loads 47 = .ok (.ireturn, 1) := by decide +kernel
theorem dX10_load_0 : decode cX10_load 0 = .ok (.iload_n 1, 1) := by decide +kernel
theorem dX10_load_1 : decode cX10_load 1 = .ok (.i2l, 1) := by decide +kernel
theorem dX10_load_2 : decode cX10_load 2 = .ok (.invokestatic 143, 3) := by decide +kernel
theorem dX10_load_5 : decode cX10_load 5 = .ok (.ifCond .eq 24, 3) := by decide +kernel
theorem dX10_load_8 : decode cX10_load 8 = .ok (.aload_n 0, 1) := by decide +kernel
theorem dX10_load_9 : decode cX10_load 9 = .ok (.iload_n 2, 1) := by decide +kernel
theorem dX10_load_10 : decode cX10_load 10 = .ok (.invokevirtual 140, 3) := by decide +kernel
theorem dX10_load_13 : decode cX10_load 13 = .ok (.ifCond .eq 16, 3) := by decide +kernel
theorem dX10_load_16 : decode cX10_load 16 = .ok (.aload_n 0, 1) := by decide +kernel
theorem dX10_load_17 : decode cX10_load 17 = .ok (.aload_n 0, 1) := by decide +kernel
theorem dX10_load_18 : decode cX10_load 18 = .ok (.getfield 22, 3) := by decide +kernel
theorem dX10_load_21 : decode cX10_load 21 = .ok (.iload_n 1, 1) := by decide +kernel
theorem dX10_load_22 : decode cX10_load 22 = .ok (.iload_n 2, 1) := by decide +kernel
theorem dX10_load_23 : decode cX10_load 23 = .ok (.invokevirtual 201, 3) := by decide +kernel
theorem dX10_load_26 : decode cX10_load 26 = .ok (.goto 4, 3) := by decide +kernel
theorem dX10_load_29 : decode cX10_load 29 = .ok (.iconst (-1), 1) := by decide +kernel
theorem dX10_load_30 : decode cX10_load 30 = .ok (.ireturn, 1) := by decide +kernel
theorem dX10_doHold_0 : decode cX10_doHold 0 = .ok (.iconst 1, 1) := by decide +kernel
theorem dX10_doHold_1 : decode cX10_doHold 1 = .ok (.istore_n 2, 1) := by decide +kernel
theorem dX10_doHold_2 : decode cX10_doHold 2 = .ok (.iconst 0, 1) := by decide +kernel
theorem dX10_doHold_3 : decode cX10_doHold 3 = .ok (.istore_n 3, 1) := by decide +kernel
theorem dX10_doHold_4 : decode cX10_doHold 4 = .ok (.iload_n 3, 1) := by decide +kernel
theorem dX10_doHold_5 : decode cX10_doHold 5 = .ok (.iconst 3, 1) := by decide +kernel
theorem dX10_doHold_6 : decode cX10_doHold 6 = .ok (.if_icmp .ge 54, 3) := by decide +kernel
theorem dX10_doHold_9 : decode cX10_doHold 9 = .ok (.iconst 0, 1) := by decide +kernel
theorem dX10_doHold_10 : decode cX10_doHold 10 = .ok (.istore 4, 2) := by decide +kernel
theorem dX10_doHold_12 : decode cX10_doHold 12 = .ok (.iload 4, 2) := by decide +kernel
theorem dX10_doHold_14 : decode cX10_doHold 14 = .ok (.aload_n 0, 1) := by decide +kernel
theorem dX10_doHold_15 : decode cX10_doHold 15 = .ok (.getfield 106, 3) := by decide +kernel
theorem dX10_doHold_18 : decode cX10_doHold 18 = .ok (.if_icmp .ge 36, 3) := by decide +kernel
theorem dX10_doHold_21 : decode cX10_doHold 21 = .ok (.iload_n 2, 1) := by decide +kernel
theorem dX10_doHold_22 : decode cX10_doHold 22 = .ok (.ifCond .eq 24, 3) := by decide +kernel
theorem dX10_doHold_25 : decode cX10_doHold 25 = .ok (.aload_n 0, 1) := by decide +kernel
theorem dX10_doHold_26 : decode cX10_doHold 26 = .ok (.aload_n 1, 1) := by decide +kernel
theorem dX10_doHold_27 : decode cX10_doHold 27 = .ok (.iload_n 3, 1) := by decide +kernel
theorem dX10_doHold_28 : decode cX10_doHold 28 = .ok (.iload 4, 2) := by decide +kernel
theorem dX10_doHold_30 : decode cX10_doHold 30 = .ok (.invokevirtual 201, 3) := by decide +kernel
theorem dX10_doHold_33 : decode cX10_doHold 33 = .ok (.aload_n 0, 1) := by decide +kernel
theorem dX10_doHold_34 : decode cX10_doHold 34 = .ok (.getfield 31, 3) := by decide +kernel
theorem dX10_doHold_37 : decode cX10_doHold 37 = .ok (.iload_n 3, 1) := by decide +kernel
theorem dX10_doHold_38 : decode cX10_doHold 38 = .ok (.iaload, 1) := by decide +kernel
theorem dX10_doHold_39 : decode cX10_doHold 39 = .ok (.if_icmp .gt 7, 3) := by decide +kernel
theorem dX10_doHold_42 : decode cX10_doHold 42 = .ok (.iconst 1, 1) := by decide +kernel
theorem dX10_doHold_43 : decode cX10_doHold 43 = .ok (.goto 4, 3) := by decide +kernel
theorem dX10_doHold_46 : decode cX10_doHold 46 = .ok (.iconst 0, 1) := by decide +kernel
theorem dX10_doHold_47 : decode cX10_doHold 47 = .ok (.istore_n 2, 1) := by decide +kernel
theorem dX10_doHold_48 : decode cX10_doHold 48 = .ok (.iinc 4 1, 3) := by decide +kernel
theorem dX10_doHold_51 : decode cX10_doHold 51 = .ok (.goto (-39), 3) := by decide +kernel
theorem dX10_doHold_54 : decode cX10_doHold 54 = .ok (.iinc 3 1, 3) := by decide +kernel
theorem dX10_doHold_57 : decode cX10_doHold 57 = .ok (.goto (-53), 3) := by decide +kernel
theorem dX10_doHold_60 : decode cX10_doHold 60 = .ok (.iload_n 2, 1) := by decide +kernel
theorem dX10_doHold_61 : decode cX10_doHold 61 = .ok (.ireturn, 1) := by decide +kernel
theorem dX10_areLaws_0 : decode cX10_areLaws 0 = .ok (.iconst 1, 1) := by decide +kernel
theorem dX10_areLaws_1 : decode cX10_areLaws 1 = .ok (.istore_n 2, 1) := by decide +kernel
theorem dX10_areLaws_2 : decode cX10_areLaws 2 = .ok (.iconst 0, 1) := by decide +kernel
theorem dX10_areLaws_3 : decode cX10_areLaws 3 = .ok (.istore_n 3, 1) := by decide +kernel
theorem dX10_areLaws_4 : decode cX10_areLaws 4 = .ok (.iload_n 3, 1) := by decide +kernel
theorem dX10_areLaws_5 : decode cX10_areLaws 5 = .ok (.aload_n 0, 1) := by decide +kernel
theorem dX10_areLaws_6 : decode cX10_areLaws 6 = .ok (.getfield 152, 3) := by decide +kernel
theorem dX10_areLaws_9 : decode cX10_areLaws 9 = .ok (.if_icmp .ge 61, 3) := by decide +kernel
theorem dX10_areLaws_12 : decode cX10_areLaws 12 = .ok (.iload_n 2, 1) := by decide +kernel
theorem dX10_areLaws_13 : decode cX10_areLaws 13 = .ok (.ifCond .eq 49, 3) := by decide +kernel
theorem dX10_areLaws_16 : decode cX10_areLaws 16 = .ok (.aload_n 1, 1) := by decide +kernel
theorem dX10_areLaws_17 : decode cX10_areLaws 17 = .ok (.aload_n 0, 1) := by decide +kernel
theorem dX10_areLaws_18 : decode cX10_areLaws 18 = .ok (.getfield 40, 3) := by decide +kernel
theorem dX10_areLaws_21 : decode cX10_areLaws 21 = .ok (.iload_n 3, 1) := by decide +kernel
theorem dX10_areLaws_22 : decode cX10_areLaws 22 = .ok (.iaload, 1) := by decide +kernel
theorem dX10_areLaws_23 : decode cX10_areLaws 23 = .ok (.iaload, 1) := by decide +kernel
theorem dX10_areLaws_24 : decode cX10_areLaws 24 = .ok (.aload_n 1, 1) := by decide +kernel
theorem dX10_areLaws_25 : decode cX10_areLaws 25 = .ok (.aload_n 0, 1) := by decide +kernel
theorem dX10_areLaws_26 : decode cX10_areLaws 26 = .ok (.getfield 43, 3) := by decide +kernel
theorem dX10_areLaws_29 : decode cX10_areLaws 29 = .ok (.iload_n 3, 1) := by decide +kernel
theorem dX10_areLaws_30 : decode cX10_areLaws 30 = .ok (.iaload, 1) := by decide +kernel
theorem dX10_areLaws_31 : decode cX10_areLaws 31 = .ok (.iaload, 1) := by decide +kernel
theorem dX10_areLaws_32 : decode cX10_areLaws 32 = .ok (.if_icmp .ne 7, 3) := by decide +kernel
theorem dX10_areLaws_35 : decode cX10_areLaws 35 = .ok (.iconst 1, 1) := by decide +kernel
theorem dX10_areLaws_36 : decode cX10_areLaws 36 = .ok (.goto 4, 3) := by decide +kernel
theorem dX10_areLaws_39 : decode cX10_areLaws 39 = .ok (.iconst 0, 1) := by decide +kernel
theorem dX10_areLaws_40 : decode cX10_areLaws 40 = .ok (.aload_n 0, 1) := by decide +kernel
theorem dX10_areLaws_41 : decode cX10_areLaws 41 = .ok (.getfield 46, 3) := by decide +kernel
theorem dX10_areLaws_44 : decode cX10_areLaws 44 = .ok (.iload_n 3, 1) := by decide +kernel
theorem dX10_areLaws_45 : decode cX10_areLaws 45 = .ok (.iaload, 1) := by decide +kernel
theorem dX10_areLaws_46 : decode cX10_areLaws 46 = .ok (.iconst 1, 1) := by decide +kernel
theorem dX10_areLaws_47 : decode cX10_areLaws 47 = .ok (.if_icmp .ne 7, 3) := by decide +kernel
theorem dX10_areLaws_50 : decode cX10_areLaws 50 = .ok (.iconst 1, 1) := by decide +kernel
theorem dX10_areLaws_51 : decode cX10_areLaws 51 = .ok (.goto 4, 3) := by decide +kernel
theorem dX10_areLaws_54 : decode cX10_areLaws 54 = .ok (.iconst 0, 1) := by decide +kernel
theorem dX10_areLaws_55 : decode cX10_areLaws 55 = .ok (.if_icmp .ne 7, 3) := by decide +kernel
theorem dX10_areLaws_58 : decode cX10_areLaws 58 = .ok (.iconst 1, 1) := by decide +kernel
theorem dX10_areLaws_59 : decode cX10_areLaws 59 = .ok (.goto 4, 3) := by decide +kernel
theorem dX10_areLaws_62 : decode cX10_areLaws 62 = .ok (.iconst 0, 1) := by decide +kernel
theorem dX10_areLaws_63 : decode cX10_areLaws 63 = .ok (.istore_n 2, 1) := by decide +kernel
theorem dX10_areLaws_64 : decode cX10_areLaws 64 = .ok (.iinc 3 1, 3) := by decide +kernel
theorem dX10_areLaws_67 : decode cX10_areLaws 67 = .ok (.goto (-63), 3) := by decide +kernel
theorem dX10_areLaws_70 : decode cX10_areLaws 70 = .ok (.iload_n 2, 1) := by decide +kernel
theorem dX10_areLaws_71 : decode cX10_areLaws 71 = .ok (.ireturn, 1) := by decide +kernel
theorem dX10_areSoft_0 : decode cX10_areSoft 0 = .ok (.iconst 1, 1) := by decide +kernel
theorem dX10_areSoft_1 : decode cX10_areSoft 1 = .ok (.istore_n 2, 1) := by decide +kernel
theorem dX10_areSoft_2 : decode cX10_areSoft 2 = .ok (.iconst 0, 1) := by decide +kernel
theorem dX10_areSoft_3 : decode cX10_areSoft 3 = .ok (.istore_n 3, 1) := by decide +kernel
theorem dX10_areSoft_4 : decode cX10_areSoft 4 = .ok (.iload_n 3, 1) := by decide +kernel
theorem dX10_areSoft_5 : decode cX10_areSoft 5 = .ok (.aload_n 0, 1) := by decide +kernel
theorem dX10_areSoft_6 : decode cX10_areSoft 6 = .ok (.getfield 98, 3) := by decide +kernel
theorem dX10_areSoft_9 : decode cX10_areSoft 9 = .ok (.if_icmp .ge 73, 3) := by decide +kernel
theorem dX10_areSoft_12 : decode cX10_areSoft 12 = .ok (.iconst 0, 1) := by decide +kernel
theorem dX10_areSoft_13 : decode cX10_areSoft 13 = .ok (.istore 4, 2) := by decide +kernel
theorem dX10_areSoft_15 : decode cX10_areSoft 15 = .ok (.iload 4, 2) := by decide +kernel
theorem dX10_areSoft_17 : decode cX10_areSoft 17 = .ok (.aload_n 0, 1) := by decide +kernel
theorem dX10_areSoft_18 : decode cX10_areSoft 18 = .ok (.getfield 98, 3) := by decide +kernel
theorem dX10_areSoft_21 : decode cX10_areSoft 21 = .ok (.if_icmp .ge 55, 3) := by decide +kernel
theorem dX10_areSoft_24 : decode cX10_areSoft 24 = .ok (.aload_n 0, 1) := by decide +kernel
theorem dX10_areSoft_25 : decode cX10_areSoft 25 = .ok (.getfield 7, 3) := by decide +kernel
theorem dX10_areSoft_28 : decode cX10_areSoft 28 = .ok (.iload_n 3, 1) := by decide +kernel
theorem dX10_areSoft_29 : decode cX10_areSoft 29 = .ok (.iaload, 1) := by decide +kernel
theorem dX10_areSoft_30 : decode cX10_areSoft 30 = .ok (.iconst 2, 1) := by decide +kernel
theorem dX10_areSoft_31 : decode cX10_areSoft 31 = .ok (.if_icmp .ne 45, 3) := by decide +kernel
theorem dX10_areSoft_34 : decode cX10_areSoft 34 = .ok (.iload_n 2, 1) := by decide +kernel
theorem dX10_areSoft_35 : decode cX10_areSoft 35 = .ok (.ifCond .eq 33, 3) := by decide +kernel
theorem dX10_areSoft_38 : decode cX10_areSoft 38 = .ok (.aload_n 1, 1) := by decide +kernel
theorem dX10_areSoft_39 : decode cX10_areSoft 39 = .ok (.iload_n 3, 1) := by decide +kernel
theorem dX10_areSoft_40 : decode cX10_areSoft 40 = .ok (.iaload, 1) := by decide +kernel
theorem dX10_areSoft_41 : decode cX10_areSoft 41 = .ok (.aload_n 1, 1) := by decide +kernel
theorem dX10_areSoft_42 : decode cX10_areSoft 42 = .ok (.iload 4, 2) := by decide +kernel
theorem dX10_areSoft_44 : decode cX10_areSoft 44 = .ok (.iaload, 1) := by decide +kernel
theorem dX10_areSoft_45 : decode cX10_areSoft 45 = .ok (.if_icmp .ne 19, 3) := by decide +kernel
theorem dX10_areSoft_48 : decode cX10_areSoft 48 = .ok (.aload_n 0, 1) := by decide +kernel
theorem dX10_areSoft_49 : decode cX10_areSoft 49 = .ok (.getfield 13, 3) := by decide +kernel
theorem dX10_areSoft_52 : decode cX10_areSoft 52 = .ok (.iload 4, 2) := by decide +kernel
theorem dX10_areSoft_54 : decode cX10_areSoft 54 = .ok (.iaload, 1) := by decide +kernel
theorem dX10_areSoft_55 : decode cX10_areSoft 55 = .ok (.aload_n 0, 1) := by decide +kernel
theorem dX10_areSoft_56 : decode cX10_areSoft 56 = .ok (.getfield 13, 3) := by decide +kernel
theorem dX10_areSoft_59 : decode cX10_areSoft 59 = .ok (.iload_n 3, 1) := by decide +kernel
theorem dX10_areSoft_60 : decode cX10_areSoft 60 = .ok (.iaload, 1) := by decide +kernel
theorem dX10_areSoft_61 : decode cX10_areSoft 61 = .ok (.if_icmp .gt 7, 3) := by decide +kernel
theorem dX10_areSoft_64 : decode cX10_areSoft 64 = .ok (.iconst 1, 1) := by decide +kernel
theorem dX10_areSoft_65 : decode cX10_areSoft 65 = .ok (.goto 4, 3) := by decide +kernel
theorem dX10_areSoft_68 : decode cX10_areSoft 68 = .ok (.iconst 0, 1) := by decide +kernel
theorem dX10_areSoft_69 : decode cX10_areSoft 69 = .ok (.istore_n 2, 1) := by decide +kernel
theorem dX10_areSoft_70 : decode cX10_areSoft 70 = .ok (.iinc 4 1, 3) := by decide +kernel
theorem dX10_areSoft_73 : decode cX10_areSoft 73 = .ok (.goto (-58), 3) := by decide +kernel
theorem dX10_areSoft_76 : decode cX10_areSoft 76 = .ok (.iinc 3 1, 3) := by decide +kernel
theorem dX10_areSoft_79 : decode cX10_areSoft 79 = .ok (.goto (-75), 3) := by decide +kernel
theorem dX10_areSoft_82 : decode cX10_areSoft 82 = .ok (.iload_n 2, 1) := by decide +kernel
theorem dX10_areSoft_83 : decode cX10_areSoft 83 = .ok (.ireturn, 1) := by decide +kernel
theorem dX10_whyNot_0 : decode cX10_whyNot 0 = .ok (.aload_n 0, 1) := by decide +kernel
theorem dX10_whyNot_1 : decode cX10_whyNot 1 = .ok (.aload_n 1, 1) := by decide +kernel
theorem dX10_whyNot_2 : decode cX10_whyNot 2 = .ok (.invokevirtual 205, 3) := by decide +kernel
theorem dX10_whyNot_5 : decode cX10_whyNot 5 = .ok (.ifCond .ne 7, 3) := by decide +kernel
theorem dX10_whyNot_8 : decode cX10_whyNot 8 = .ok (.iconst 1, 1) := by decide +kernel
theorem dX10_whyNot_9 : decode cX10_whyNot 9 = .ok (.goto 28, 3) := by decide +kernel
theorem dX10_whyNot_12 : decode cX10_whyNot 12 = .ok (.aload_n 0, 1) := by decide +kernel
theorem dX10_whyNot_13 : decode cX10_whyNot 13 = .ok (.aload_n 1, 1) := by decide +kernel
theorem dX10_whyNot_14 : decode cX10_whyNot 14 = .ok (.invokevirtual 209, 3) := by decide +kernel
theorem dX10_whyNot_17 : decode cX10_whyNot 17 = .ok (.ifCond .ne 7, 3) := by decide +kernel
theorem dX10_whyNot_20 : decode cX10_whyNot 20 = .ok (.iconst 2, 1) := by decide +kernel
theorem dX10_whyNot_21 : decode cX10_whyNot 21 = .ok (.goto 16, 3) := by decide +kernel
theorem dX10_whyNot_24 : decode cX10_whyNot 24 = .ok (.aload_n 0, 1) := by decide +kernel
theorem dX10_whyNot_25 : decode cX10_whyNot 25 = .ok (.aload_n 1, 1) := by decide +kernel
theorem dX10_whyNot_26 : decode cX10_whyNot 26 = .ok (.invokevirtual 212, 3) := by decide +kernel
theorem dX10_whyNot_29 : decode cX10_whyNot 29 = .ok (.ifCond .ne 7, 3) := by decide +kernel
theorem dX10_whyNot_32 : decode cX10_whyNot 32 = .ok (.iconst 3, 1) := by decide +kernel
theorem dX10_whyNot_33 : decode cX10_whyNot 33 = .ok (.goto 4, 3) := by decide +kernel
theorem dX10_whyNot_36 : decode cX10_whyNot 36 = .ok (.iconst 0, 1) := by decide +kernel
theorem dX10_whyNot_37 : decode cX10_whyNot 37 = .ok (.ireturn, 1) := by decide +kernel
theorem dX10_isLawful_0 : decode cX10_isLawful 0 = .ok (.aload_n 0, 1) := by decide +kernel
theorem dX10_isLawful_1 : decode cX10_isLawful 1 = .ok (.aload_n 1, 1) := by decide +kernel
theorem dX10_isLawful_2 : decode cX10_isLawful 2 = .ok (.invokevirtual 209, 3) := by decide +kernel
theorem dX10_isLawful_5 : decode cX10_isLawful 5 = .ok (.ifCond .eq 23, 3) := by decide +kernel
theorem dX10_isLawful_8 : decode cX10_isLawful 8 = .ok (.aload_n 0, 1) := by decide +kernel
theorem dX10_isLawful_9 : decode cX10_isLawful 9 = .ok (.aload_n 1, 1) := by decide +kernel
theorem dX10_isLawful_10 : decode cX10_isLawful 10 = .ok (.invokevirtual 212, 3) := by decide +kernel
theorem dX10_isLawful_13 : decode cX10_isLawful 13 = .ok (.ifCond .eq 15, 3) := by decide +kernel
theorem dX10_isLawful_16 : decode cX10_isLawful 16 = .ok (.aload_n 0, 1) := by decide +kernel
theorem dX10_isLawful_17 : decode cX10_isLawful 17 = .ok (.aload_n 1, 1) := by decide +kernel
theorem dX10_isLawful_18 : decode cX10_isLawful 18 = .ok (.invokevirtual 205, 3) := by decide +kernel
theorem dX10_isLawful_21 : decode cX10_isLawful 21 = .ok (.ifCond .eq 7, 3) := by decide +kernel
theorem dX10_isLawful_24 : decode cX10_isLawful 24 = .ok (.iconst 1, 1) := by decide +kernel
theorem dX10_isLawful_25 : decode cX10_isLawful 25 = .ok (.goto 4, 3) := by decide +kernel
theorem dX10_isLawful_28 : decode cX10_isLawful 28 = .ok (.iconst 0, 1) := by decide +kernel
theorem dX10_isLawful_29 : decode cX10_isLawful 29 = .ok (.ireturn, 1) := by decide +kernel
theorem dX10_lawful_0 : decode cX10_lawful 0 = .ok (.aload_n 0, 1) := by decide +kernel
theorem dX10_lawful_1 : decode cX10_lawful 1 = .ok (.aload_n 0, 1) := by decide +kernel
theorem dX10_lawful_2 : decode cX10_lawful 2 = .ok (.getfield 22, 3) := by decide +kernel
theorem dX10_lawful_5 : decode cX10_lawful 5 = .ok (.invokevirtual 215, 3) := by decide +kernel
theorem dX10_lawful_8 : decode cX10_lawful 8 = .ok (.ireturn, 1) := by decide +kernel
theorem dX10_offOf_0 : decode cX10_offOf 0 = .ok (.aload_n 0, 1) := by decide +kernel
theorem dX10_offOf_1 : decode cX10_offOf 1 = .ok (.aload_n 1, 1) := by decide +kernel
theorem dX10_offOf_2 : decode cX10_offOf 2 = .ok (.iconst 0, 1) := by decide +kernel
theorem dX10_offOf_3 : decode cX10_offOf 3 = .ok (.iload_n 2, 1) := by decide +kernel
theorem dX10_offOf_4 : decode cX10_offOf 4 = .ok (.invokevirtual 201, 3) := by decide +kernel
theorem dX10_offOf_7 : decode cX10_offOf 7 = .ok (.aload_n 0, 1) := by decide +kernel
theorem dX10_offOf_8 : decode cX10_offOf 8 = .ok (.getfield 37, 3) := by decide +kernel
theorem dX10_offOf_11 : decode cX10_offOf 11 = .ok (.iconst 1, 1) := by decide +kernel
theorem dX10_offOf_12 : decode cX10_offOf 12 = .ok (.iaload, 1) := by decide +kernel
theorem dX10_offOf_13 : decode cX10_offOf 13 = .ok (.imul, 1) := by decide +kernel
theorem dX10_offOf_14 : decode cX10_offOf 14 = .ok (.aload_n 0, 1) := by decide +kernel
theorem dX10_offOf_15 : decode cX10_offOf 15 = .ok (.aload_n 1, 1) := by decide +kernel
theorem dX10_offOf_16 : decode cX10_offOf 16 = .ok (.iconst 1, 1) := by decide +kernel
theorem dX10_offOf_17 : decode cX10_offOf 17 = .ok (.iload_n 2, 1) := by decide +kernel
theorem dX10_offOf_18 : decode cX10_offOf 18 = .ok (.invokevirtual 201, 3) := by decide +kernel
theorem dX10_offOf_21 : decode cX10_offOf 21 = .ok (.aload_n 0, 1) := by decide +kernel
theorem dX10_offOf_22 : decode cX10_offOf 22 = .ok (.getfield 37, 3) := by decide +kernel
theorem dX10_offOf_25 : decode cX10_offOf 25 = .ok (.iconst 0, 1) := by decide +kernel
theorem dX10_offOf_26 : decode cX10_offOf 26 = .ok (.iaload, 1) := by decide +kernel
theorem dX10_offOf_27 : decode cX10_offOf 27 = .ok (.imul, 1) := by decide +kernel
theorem dX10_offOf_28 : decode cX10_offOf 28 = .ok (.isub, 1) := by decide +kernel
theorem dX10_offOf_29 : decode cX10_offOf 29 = .ok (.ireturn, 1) := by decide +kernel
theorem dX10_plain_0 : decode cX10_plain 0 = .ok (.iload_n 1, 1) := by decide +kernel
theorem dX10_plain_1 : decode cX10_plain 1 = .ok (.ifCond .ge 8, 3) := by decide +kernel
theorem dX10_plain_4 : decode cX10_plain 4 = .ok (.iload_n 1, 1) := by decide +kernel
theorem dX10_plain_5 : decode cX10_plain 5 = .ok (.ineg, 1) := by decide +kernel
theorem dX10_plain_6 : decode cX10_plain 6 = .ok (.goto 4, 3) := by decide +kernel
theorem dX10_plain_9 : decode cX10_plain 9 = .ok (.iload_n 1, 1) := by decide +kernel
theorem dX10_plain_10 : decode cX10_plain 10 = .ok (.ireturn, 1) := by decide +kernel
theorem dX10_pull_0 : decode cX10_pull 0 = .ok (.aload_n 0, 1) := by decide +kernel
theorem dX10_pull_1 : decode cX10_pull 1 = .ok (.iload_n 1, 1) := by decide +kernel
theorem dX10_pull_2 : decode cX10_pull 2 = .ok (.invokevirtual 140, 3) := by decide +kernel
theorem dX10_pull_5 : decode cX10_pull 5 = .ok (.ifCond .eq 15, 3) := by decide +kernel
theorem dX10_pull_8 : decode cX10_pull 8 = .ok (.aload_n 0, 1) := by decide +kernel
theorem dX10_pull_9 : decode cX10_pull 9 = .ok (.aload_n 0, 1) := by decide +kernel
theorem dX10_pull_10 : decode cX10_pull 10 = .ok (.getfield 22, 3) := by decide +kernel
theorem dX10_pull_13 : decode cX10_pull 13 = .ok (.iload_n 1, 1) := by decide +kernel
theorem dX10_pull_14 : decode cX10_pull 14 = .ok (.invokevirtual 219, 3) := by decide +kernel
theorem dX10_pull_17 : decode cX10_pull 17 = .ok (.goto 5, 3) := by decide +kernel
theorem dX10_pull_20 : decode cX10_pull 20 = .ok (.ldc 223, 2) := by decide +kernel
theorem dX10_pull_22 : decode cX10_pull 22 = .ok (.ireturn, 1) := by decide +kernel
theorem dX10_unevens_0 : decode cX10_unevens 0 = .ok (.aload_n 0, 1) := by decide +kernel
theorem dX10_unevens_1 : decode cX10_unevens 1 = .ok (.iconst 0, 1) := by decide +kernel
theorem dX10_unevens_2 : decode cX10_unevens 2 = .ok (.putfield 224, 3) := by decide +kernel
theorem dX10_unevens_5 : decode cX10_unevens 5 = .ok (.aload_n 0, 1) := by decide +kernel
theorem dX10_unevens_6 : decode cX10_unevens 6 = .ok (.iconst 0, 1) := by decide +kernel
theorem dX10_unevens_7 : decode cX10_unevens 7 = .ok (.putfield 227, 3) := by decide +kernel
theorem dX10_unevens_10 : decode cX10_unevens 10 = .ok (.iconst 0, 1) := by decide +kernel
theorem dX10_unevens_11 : decode cX10_unevens 11 = .ok (.istore_n 2, 1) := by decide +kernel
theorem dX10_unevens_12 : decode cX10_unevens 12 = .ok (.iload_n 2, 1) := by decide +kernel
theorem dX10_unevens_13 : decode cX10_unevens 13 = .ok (.aload_n 0, 1) := by decide +kernel
theorem dX10_unevens_14 : decode cX10_unevens 14 = .ok (.getfield 106, 3) := by decide +kernel
theorem dX10_unevens_17 : decode cX10_unevens 17 = .ok (.if_icmp .ge 66, 3) := by decide +kernel
theorem dX10_unevens_20 : decode cX10_unevens 20 = .ok (.aload_n 0, 1) := by decide +kernel
theorem dX10_unevens_21 : decode cX10_unevens 21 = .ok (.aload_n 0, 1) := by decide +kernel
theorem dX10_unevens_22 : decode cX10_unevens 22 = .ok (.aload_n 1, 1) := by decide +kernel
theorem dX10_unevens_23 : decode cX10_unevens 23 = .ok (.iload_n 2, 1) := by decide +kernel
theorem dX10_unevens_24 : decode cX10_unevens 24 = .ok (.invokevirtual 219, 3) := by decide +kernel
theorem dX10_unevens_27 : decode cX10_unevens 27 = .ok (.invokevirtual 230, 3) := by decide +kernel
theorem dX10_unevens_30 : decode cX10_unevens 30 = .ok (.istore_n 3, 1) := by decide +kernel
theorem dX10_unevens_31 : decode cX10_unevens 31 = .ok (.aload_n 0, 1) := by decide +kernel
theorem dX10_unevens_32 : decode cX10_unevens 32 = .ok (.iload_n 3, 1) := by decide +kernel
theorem dX10_unevens_33 : decode cX10_unevens 33 = .ok (.aload_n 0, 1) := by decide +kernel
theorem dX10_unevens_34 : decode cX10_unevens 34 = .ok (.getfield 224, 3) := by decide +kernel
theorem dX10_unevens_37 : decode cX10_unevens 37 = .ok (.if_icmp .le 7, 3) := by decide +kernel
theorem dX10_unevens_40 : decode cX10_unevens 40 = .ok (.iload_n 3, 1) := by decide +kernel
theorem dX10_unevens_41 : decode cX10_unevens 41 = .ok (.goto 7, 3) := by decide +kernel
theorem dX10_unevens_44 : decode cX10_unevens 44 = .ok (.aload_n 0, 1) := by decide +kernel
theorem dX10_unevens_45 : decode cX10_unevens 45 = .ok (.getfield 224, 3) := by decide +kernel
theorem dX10_unevens_48 : decode cX10_unevens 48 = .ok (.putfield 224, 3) := by decide +kernel
theorem dX10_unevens_51 : decode cX10_unevens 51 = .ok (.aload_n 0, 1) := by decide +kernel
theorem dX10_unevens_52 : decode cX10_unevens 52 = .ok (.dup, 1) := by decide +kernel
theorem dX10_unevens_53 : decode cX10_unevens 53 = .ok (.getfield 227, 3) := by decide +kernel
theorem dX10_unevens_56 : decode cX10_unevens 56 = .ok (.iload_n 3, 1) := by decide +kernel
theorem dX10_unevens_57 : decode cX10_unevens 57 = .ok (.aload_n 0, 1) := by decide +kernel
theorem dX10_unevens_58 : decode cX10_unevens 58 = .ok (.getfield 25, 3) := by decide +kernel
theorem dX10_unevens_61 : decode cX10_unevens 61 = .ok (.iload_n 2, 1) := by decide +kernel
theorem dX10_unevens_62 : decode cX10_unevens 62 = .ok (.iaload, 1) := by decide +kernel
theorem dX10_unevens_63 : decode cX10_unevens 63 = .ok (.imul, 1) := by decide +kernel
theorem dX10_unevens_64 : decode cX10_unevens 64 = .ok (.iconst 1, 1) := by decide +kernel
theorem dX10_unevens_65 : decode cX10_unevens 65 = .ok (.aload_n 0, 1) := by decide +kernel
theorem dX10_unevens_66 : decode cX10_unevens 66 = .ok (.getfield 28, 3) := by decide +kernel
theorem dX10_unevens_69 : decode cX10_unevens 69 = .ok (.iload_n 2, 1) := by decide +kernel
theorem dX10_unevens_70 : decode cX10_unevens 70 = .ok (.iaload, 1) := by decide +kernel
theorem dX10_unevens_71 : decode cX10_unevens 71 = .ok (.iadd, 1) := by decide +kernel
theorem dX10_unevens_72 : decode cX10_unevens 72 = .ok (.imul, 1) := by decide +kernel
theorem dX10_unevens_73 : decode cX10_unevens 73 = .ok (.iadd, 1) := by decide +kernel
theorem dX10_unevens_74 : decode cX10_unevens 74 = .ok (.putfield 227, 3) := by decide +kernel
theorem dX10_unevens_77 : decode cX10_unevens 77 = .ok (.iinc 2 1, 3) := by decide +kernel
theorem dX10_unevens_80 : decode cX10_unevens 80 = .ok (.goto (-68), 3) := by decide +kernel
theorem dX10_unevens_83 : decode cX10_unevens 83 = .ok (.return_, 1) := by decide +kernel
theorem dX10_uneven_0 : decode cX10_uneven 0 = .ok (.iload_n 1, 1) := by decide +kernel
theorem dX10_uneven_1 : decode cX10_uneven 1 = .ok (.i2l, 1) := by decide +kernel
theorem dX10_uneven_2 : decode cX10_uneven 2 = .ok (.lconst 0, 1) := by decide +kernel
theorem dX10_uneven_3 : decode cX10_uneven 3 = .ok (.lconst 1, 1) := by decide +kernel
theorem dX10_uneven_4 : decode cX10_uneven 4 = .ok (.invokestatic 102, 3) := by decide +kernel
theorem dX10_uneven_7 : decode cX10_uneven 7 = .ok (.ifCond .ne 5, 3) := by decide +kernel
theorem dX10_uneven_10 : decode cX10_uneven 10 = .ok (.iconst (-1), 1) := by decide +kernel
theorem dX10_uneven_11 : decode cX10_uneven 11 = .ok (.ireturn, 1) := by decide +kernel
theorem dX10_uneven_12 : decode cX10_uneven 12 = .ok (.aload_n 0, 1) := by decide +kernel
theorem dX10_uneven_13 : decode cX10_uneven 13 = .ok (.aload_n 0, 1) := by decide +kernel
theorem dX10_uneven_14 : decode cX10_uneven 14 = .ok (.getfield 22, 3) := by decide +kernel
theorem dX10_uneven_17 : decode cX10_uneven 17 = .ok (.invokevirtual 233, 3) := by decide +kernel
theorem dX10_uneven_20 : decode cX10_uneven 20 = .ok (.iload_n 1, 1) := by decide +kernel
theorem dX10_uneven_21 : decode cX10_uneven 21 = .ok (.ifCond .ne 10, 3) := by decide +kernel
theorem dX10_uneven_24 : decode cX10_uneven 24 = .ok (.aload_n 0, 1) := by decide +kernel
theorem dX10_uneven_25 : decode cX10_uneven 25 = .ok (.getfield 224, 3) := by decide +kernel
theorem dX10_uneven_28 : decode cX10_uneven 28 = .ok (.goto 7, 3) := by decide +kernel
theorem dX10_uneven_31 : decode cX10_uneven 31 = .ok (.aload_n 0, 1) := by decide +kernel
theorem dX10_uneven_32 : decode cX10_uneven 32 = .ok (.getfield 227, 3) := by decide +kernel
theorem dX10_uneven_35 : decode cX10_uneven 35 = .ok (.ireturn, 1) := by decide +kernel
theorem dX10_begins_0 : decode cX10_begins 0 = .ok (.iconst 0, 1) := by decide +kernel
theorem dX10_begins_1 : decode cX10_begins 1 = .ok (.istore_n 1, 1) := by decide +kernel
theorem dX10_begins_2 : decode cX10_begins 2 = .ok (.iload_n 1, 1) := by decide +kernel
theorem dX10_begins_3 : decode cX10_begins 3 = .ok (.bipush 10, 2) := by decide +kernel
theorem dX10_begins_5 : decode cX10_begins 5 = .ok (.if_icmp .ge 16, 3) := by decide +kernel
theorem dX10_begins_8 : decode cX10_begins 8 = .ok (.aload_n 0, 1) := by decide +kernel
theorem dX10_begins_9 : decode cX10_begins 9 = .ok (.getfield 64, 3) := by decide +kernel
theorem dX10_begins_12 : decode cX10_begins 12 = .ok (.iload_n 1, 1) := by decide +kernel
theorem dX10_begins_13 : decode cX10_begins 13 = .ok (.iconst 0, 1) := by decide +kernel
theorem dX10_begins_14 : decode cX10_begins 14 = .ok (.iastore, 1) := by decide +kernel
theorem dX10_begins_15 : decode cX10_begins 15 = .ok (.iinc 1 1, 3) := by decide +kernel
theorem dX10_begins_18 : decode cX10_begins 18 = .ok (.goto (-16), 3) := by decide +kernel
theorem dX10_begins_21 : decode cX10_begins 21 = .ok (.return_, 1) := by decide +kernel
theorem dX10_turns_0 : decode cX10_turns 0 = .ok (.aload_n 0, 1) := by decide +kernel
theorem dX10_turns_1 : decode cX10_turns 1 = .ok (.getfield 98, 3) := by decide +kernel
theorem dX10_turns_4 : decode cX10_turns 4 = .ok (.iconst 1, 1) := by decide +kernel
theorem dX10_turns_5 : decode cX10_turns 5 = .ok (.isub, 1) := by decide +kernel
theorem dX10_turns_6 : decode cX10_turns 6 = .ok (.istore_n 2, 1) := by decide +kernel
theorem dX10_turns_7 : decode cX10_turns 7 = .ok (.iload_n 2, 1) := by decide +kernel
theorem dX10_turns_8 : decode cX10_turns 8 = .ok (.ifCond .lt 28, 3) := by decide +kernel
theorem dX10_turns_11 : decode cX10_turns 11 = .ok (.aload_n 0, 1) := by decide +kernel
theorem dX10_turns_12 : decode cX10_turns 12 = .ok (.getfield 64, 3) := by decide +kernel
theorem dX10_turns_15 : decode cX10_turns 15 = .ok (.iload_n 2, 1) := by decide +kernel
theorem dX10_turns_16 : decode cX10_turns 16 = .ok (.iaload, 1) := by decide +kernel
theorem dX10_turns_17 : decode cX10_turns 17 = .ok (.iload_n 1, 1) := by decide +kernel
theorem dX10_turns_18 : decode cX10_turns 18 = .ok (.iconst 1, 1) := by decide +kernel
theorem dX10_turns_19 : decode cX10_turns 19 = .ok (.isub, 1) := by decide +kernel
theorem dX10_turns_20 : decode cX10_turns 20 = .ok (.if_icmp .ne 16, 3) := by decide +kernel
theorem dX10_turns_23 : decode cX10_turns 23 = .ok (.aload_n 0, 1) := by decide +kernel
theorem dX10_turns_24 : decode cX10_turns 24 = .ok (.getfield 64, 3) := by decide +kernel
theorem dX10_turns_27 : decode cX10_turns 27 = .ok (.iload_n 2, 1) := by decide +kernel
theorem dX10_turns_28 : decode cX10_turns 28 = .ok (.iconst 0, 1) := by decide +kernel
theorem dX10_turns_29 : decode cX10_turns 29 = .ok (.iastore, 1) := by decide +kernel
theorem dX10_turns_30 : decode cX10_turns 30 = .ok (.iinc 2 (-1), 3) := by decide +kernel
theorem dX10_turns_33 : decode cX10_turns 33 = .ok (.goto (-26), 3) := by decide +kernel
theorem dX10_turns_36 : decode cX10_turns 36 = .ok (.iload_n 2, 1) := by decide +kernel
theorem dX10_turns_37 : decode cX10_turns 37 = .ok (.ifCond .lt 13, 3) := by decide +kernel
theorem dX10_turns_40 : decode cX10_turns 40 = .ok (.aload_n 0, 1) := by decide +kernel
theorem dX10_turns_41 : decode cX10_turns 41 = .ok (.getfield 64, 3) := by decide +kernel
theorem dX10_turns_44 : decode cX10_turns 44 = .ok (.iload_n 2, 1) := by decide +kernel
theorem dX10_turns_45 : decode cX10_turns 45 = .ok (.dup2, 1) := by decide +kernel
theorem dX10_turns_46 : decode cX10_turns 46 = .ok (.iaload, 1) := by decide +kernel
theorem dX10_turns_47 : decode cX10_turns 47 = .ok (.iconst 1, 1) := by decide +kernel
theorem dX10_turns_48 : decode cX10_turns 48 = .ok (.iadd, 1) := by decide +kernel
theorem dX10_turns_49 : decode cX10_turns 49 = .ok (.iastore, 1) := by decide +kernel
theorem dX10_turns_50 : decode cX10_turns 50 = .ok (.iload_n 2, 1) := by decide +kernel
theorem dX10_turns_51 : decode cX10_turns 51 = .ok (.ifCond .lt 7, 3) := by decide +kernel
theorem dX10_turns_54 : decode cX10_turns 54 = .ok (.iconst 1, 1) := by decide +kernel
theorem dX10_turns_55 : decode cX10_turns 55 = .ok (.goto 4, 3) := by decide +kernel
theorem dX10_turns_58 : decode cX10_turns 58 = .ok (.iconst 0, 1) := by decide +kernel
theorem dX10_turns_59 : decode cX10_turns 59 = .ok (.ireturn, 1) := by decide +kernel
theorem dX10_finds_0 : decode cX10_finds 0 = .ok (.iconst 0, 1) := by decide +kernel
theorem dX10_finds_1 : decode cX10_finds 1 = .ok (.istore_n 1, 1) := by decide +kernel
theorem dX10_finds_2 : decode cX10_finds 2 = .ok (.iload_n 1, 1) := by decide +kernel
theorem dX10_finds_3 : decode cX10_finds 3 = .ok (.bipush 10, 2) := by decide +kernel
theorem dX10_finds_5 : decode cX10_finds 5 = .ok (.if_icmp .ge 21, 3) := by decide +kernel
theorem dX10_finds_8 : decode cX10_finds 8 = .ok (.aload_n 0, 1) := by decide +kernel
theorem dX10_finds_9 : decode cX10_finds 9 = .ok (.getfield 67, 3) := by decide +kernel
theorem dX10_finds_12 : decode cX10_finds 12 = .ok (.iload_n 1, 1) := by decide +kernel
theorem dX10_finds_13 : decode cX10_finds 13 = .ok (.aload_n 0, 1) := by decide +kernel
theorem dX10_finds_14 : decode cX10_finds 14 = .ok (.getfield 64, 3) := by decide +kernel
theorem dX10_finds_17 : decode cX10_finds 17 = .ok (.iload_n 1, 1) := by decide +kernel
theorem dX10_finds_18 : decode cX10_finds 18 = .ok (.iaload, 1) := by decide +kernel
theorem dX10_finds_19 : decode cX10_finds 19 = .ok (.iastore, 1) := by decide +kernel
theorem dX10_finds_20 : decode cX10_finds 20 = .ok (.iinc 1 1, 3) := by decide +kernel
theorem dX10_finds_23 : decode cX10_finds 23 = .ok (.goto (-21), 3) := by decide +kernel
theorem dX10_finds_26 : decode cX10_finds 26 = .ok (.return_, 1) := by decide +kernel
theorem dX10_isBest_0 : decode cX10_isBest 0 = .ok (.iconst 0, 1) := by decide +kernel
theorem dX10_isBest_1 : decode cX10_isBest 1 = .ok (.istore_n 1, 1) := by decide +kernel
theorem dX10_isBest_2 : decode cX10_isBest 2 = .ok (.aload_n 0, 1) := by decide +kernel
theorem dX10_isBest_3 : decode cX10_isBest 3 = .ok (.invokevirtual 237, 3) := by decide +kernel
theorem dX10_isBest_6 : decode cX10_isBest 6 = .ok (.iconst 1, 1) := by decide +kernel
theorem dX10_isBest_7 : decode cX10_isBest 7 = .ok (.istore_n 2, 1) := by decide +kernel
theorem dX10_isBest_8 : decode cX10_isBest 8 = .ok (.iload_n 2, 1) := by decide +kernel
theorem dX10_isBest_9 : decode cX10_isBest 9 = .ok (.ifCond .eq 90, 3) := by decide +kernel
theorem dX10_isBest_12 : decode cX10_isBest 12 = .ok (.aload_n 0, 1) := by decide +kernel
theorem dX10_isBest_13 : decode cX10_isBest 13 = .ok (.aload_n 0, 1) := by decide +kernel
theorem dX10_isBest_14 : decode cX10_isBest 14 = .ok (.getfield 64, 3) := by decide +kernel
theorem dX10_isBest_17 : decode cX10_isBest 17 = .ok (.invokevirtual 240, 3) := by decide +kernel
theorem dX10_isBest_20 : decode cX10_isBest 20 = .ok (.ifCond .eq 70, 3) := by decide +kernel
theorem dX10_isBest_23 : decode cX10_isBest 23 = .ok (.aload_n 0, 1) := by decide +kernel
theorem dX10_isBest_24 : decode cX10_isBest 24 = .ok (.aload_n 0, 1) := by decide +kernel
theorem dX10_isBest_25 : decode cX10_isBest 25 = .ok (.getfield 64, 3) := by decide +kernel
theorem dX10_isBest_28 : decode cX10_isBest 28 = .ok (.invokevirtual 233, 3) := by decide +kernel
theorem dX10_isBest_31 : decode cX10_isBest 31 = .ok (.iload_n 1, 1) := by decide +kernel
theorem dX10_isBest_32 : decode cX10_isBest 32 = .ok (.ifCond .eq 36, 3) := by decide +kernel
theorem dX10_isBest_35 : decode cX10_isBest 35 = .ok (.aload_n 0, 1) := by decide +kernel
theorem dX10_isBest_36 : decode cX10_isBest 36 = .ok (.getfield 224, 3) := by decide +kernel
theorem dX10_isBest_39 : decode cX10_isBest 39 = .ok (.aload_n 0, 1) := by decide +kernel
theorem dX10_isBest_40 : decode cX10_isBest 40 = .ok (.getfield 243, 3) := by decide +kernel
theorem dX10_isBest_43 : decode cX10_isBest 43 = .ok (.if_icmp .lt 25, 3) := by decide +kernel
theorem dX10_isBest_46 : decode cX10_isBest 46 = .ok (.aload_n 0, 1) := by decide +kernel
theorem dX10_isBest_47 : decode cX10_isBest 47 = .ok (.getfield 224, 3) := by decide +kernel
theorem dX10_isBest_50 : decode cX10_isBest 50 = .ok (.aload_n 0, 1) := by decide +kernel
theorem dX10_isBest_51 : decode cX10_isBest 51 = .ok (.getfield 243, 3) := by decide +kernel
theorem dX10_isBest_54 : decode cX10_isBest 54 = .ok (.if_icmp .ne 36, 3) := by decide +kernel
theorem dX10_isBest_57 : decode cX10_isBest 57 = .ok (.aload_n 0, 1) := by decide +kernel
theorem dX10_isBest_58 : decode cX10_isBest 58 = .ok (.getfield 227, 3) := by decide +kernel
theorem dX10_isBest_61 : decode cX10_isBest 61 = .ok (.aload_n 0, 1) := by decide +kernel
theorem dX10_isBest_62 : decode cX10_isBest 62 = .ok (.getfield 246, 3) := by decide +kernel
theorem dX10_isBest_65 : decode cX10_isBest 65 = .ok (.if_icmp .ge 25, 3) := by decide +kernel
theorem dX10_isBest_68 : decode cX10_isBest 68 = .ok (.iconst 1, 1) := by decide +kernel
theorem dX10_isBest_69 : decode cX10_isBest 69 = .ok (.istore_n 1, 1) := by decide +kernel
theorem dX10_isBest_70 : decode cX10_isBest 70 = .ok (.aload_n 0, 1) := by decide +kernel
theorem dX10_isBest_71 : decode cX10_isBest 71 = .ok (.aload_n 0, 1) := by decide +kernel
theorem dX10_isBest_72 : decode cX10_isBest 72 = .ok (.getfield 224, 3) := by decide +kernel
theorem dX10_isBest_75 : decode cX10_isBest 75 = .ok (.putfield 243, 3) := by decide +kernel
theorem dX10_isBest_78 : decode cX10_isBest 78 = .ok (.aload_n 0, 1) := by decide +kernel
theorem dX10_isBest_79 : decode cX10_isBest 79 = .ok (.aload_n 0, 1) := by decide +kernel
theorem dX10_isBest_80 : decode cX10_isBest 80 = .ok (.getfield 227, 3) := by decide +kernel
theorem dX10_isBest_83 : decode cX10_isBest 83 = .ok (.putfield 246, 3) := by decide +kernel
theorem dX10_isBest_86 : decode cX10_isBest 86 = .ok (.aload_n 0, 1) := by decide +kernel
theorem dX10_isBest_87 : decode cX10_isBest 87 = .ok (.invokevirtual 249, 3) := by decide +kernel
theorem dX10_isBest_90 : decode cX10_isBest 90 = .ok (.aload_n 0, 1) := by decide +kernel
theorem dX10_isBest_91 : decode cX10_isBest 91 = .ok (.iconst 3, 1) := by decide +kernel
theorem dX10_isBest_92 : decode cX10_isBest 92 = .ok (.invokevirtual 252, 3) := by decide +kernel
theorem dX10_isBest_95 : decode cX10_isBest 95 = .ok (.istore_n 2, 1) := by decide +kernel
theorem dX10_isBest_96 : decode cX10_isBest 96 = .ok (.goto (-88), 3) := by decide +kernel
theorem dX10_isBest_99 : decode cX10_isBest 99 = .ok (.iload_n 1, 1) := by decide +kernel
theorem dX10_isBest_100 : decode cX10_isBest 100 = .ok (.ireturn, 1) := by decide +kernel
theorem dX10_best_0 : decode cX10_best 0 = .ok (.iload_n 1, 1) := by decide +kernel
theorem dX10_best_1 : decode cX10_best 1 = .ok (.bipush (-2), 2) := by decide +kernel
theorem dX10_best_3 : decode cX10_best 3 = .ok (.if_icmp .eq 19, 3) := by decide +kernel
theorem dX10_best_6 : decode cX10_best 6 = .ok (.iload_n 1, 1) := by decide +kernel
theorem dX10_best_7 : decode cX10_best 7 = .ok (.iconst (-1), 1) := by decide +kernel
theorem dX10_best_8 : decode cX10_best 8 = .ok (.if_icmp .eq 14, 3) := by decide +kernel
theorem dX10_best_11 : decode cX10_best 11 = .ok (.aload_n 0, 1) := by decide +kernel
theorem dX10_best_12 : decode cX10_best 12 = .ok (.iload_n 1, 1) := by decide +kernel
theorem dX10_best_13 : decode cX10_best 13 = .ok (.i2l, 1) := by decide +kernel
theorem dX10_best_14 : decode cX10_best 14 = .ok (.invokevirtual 122, 3) := by decide +kernel
theorem dX10_best_17 : decode cX10_best 17 = .ok (.ifCond .ne 5, 3) := by decide +kernel
theorem dX10_best_20 : decode cX10_best 20 = .ok (.iconst (-1), 1) := by decide +kernel
theorem dX10_best_21 : decode cX10_best 21 = .ok (.ireturn, 1) := by decide +kernel
theorem dX10_best_22 : decode cX10_best 22 = .ok (.aload_n 0, 1) := by decide +kernel
theorem dX10_best_23 : decode cX10_best 23 = .ok (.invokevirtual 255, 3) := by decide +kernel
theorem dX10_best_26 : decode cX10_best 26 = .ok (.ifCond .ne 6, 3) := by decide +kernel
theorem dX10_best_29 : decode cX10_best 29 = .ok (.bipush (-4), 2) := by decide +kernel
theorem dX10_best_31 : decode cX10_best 31 = .ok (.ireturn, 1) := by decide +kernel
theorem dX10_best_32 : decode cX10_best 32 = .ok (.iload_n 1, 1) := by decide +kernel
theorem dX10_best_33 : decode cX10_best 33 = .ok (.bipush (-2), 2) := by decide +kernel
theorem dX10_best_35 : decode cX10_best 35 = .ok (.if_icmp .ne 10, 3) := by decide +kernel
theorem dX10_best_38 : decode cX10_best 38 = .ok (.aload_n 0, 1) := by decide +kernel
theorem dX10_best_39 : decode cX10_best 39 = .ok (.getfield 243, 3) := by decide +kernel
theorem dX10_best_42 : decode cX10_best 42 = .ok (.goto 21, 3) := by decide +kernel
theorem dX10_best_45 : decode cX10_best 45 = .ok (.iload_n 1, 1) := by decide +kernel
theorem dX10_best_46 : decode cX10_best 46 = .ok (.iconst (-1), 1) := by decide +kernel
theorem dX10_best_47 : decode cX10_best 47 = .ok (.if_icmp .ne 10, 3) := by decide +kernel
theorem dX10_best_50 : decode cX10_best 50 = .ok (.aload_n 0, 1) := by decide +kernel
theorem dX10_best_51 : decode cX10_best 51 = .ok (.getfield 246, 3) := by decide +kernel
theorem dX10_best_54 : decode cX10_best 54 = .ok (.goto 9, 3) := by decide +kernel
theorem dX10_best_57 : decode cX10_best 57 = .ok (.aload_n 0, 1) := by decide +kernel
theorem dX10_best_58 : decode cX10_best 58 = .ok (.getfield 67, 3) := by decide +kernel
theorem dX10_best_61 : decode cX10_best 61 = .ok (.iload_n 1, 1) := by decide +kernel
theorem dX10_best_62 : decode cX10_best 62 = .ok (.iaload, 1) := by decide +kernel
theorem dX10_best_63 : decode cX10_best 63 = .ok (.ireturn, 1) := by decide +kernel
theorem dX10_pack_0 : decode cX10_pack 0 = .ok (.aload_n 0, 1) := by decide +kernel
theorem dX10_pack_1 : decode cX10_pack 1 = .ok (.invokevirtual 255, 3) := by decide +kernel
theorem dX10_pack_4 : decode cX10_pack 4 = .ok (.ifCond .ne 6, 3) := by decide +kernel
theorem dX10_pack_7 : decode cX10_pack 7 = .ok (.bipush (-4), 2) := by decide +kernel
theorem dX10_pack_9 : decode cX10_pack 9 = .ok (.ireturn, 1) := by decide +kernel
theorem dX10_pack_10 : decode cX10_pack 10 = .ok (.iconst 0, 1) := by decide +kernel
theorem dX10_pack_11 : decode cX10_pack 11 = .ok (.istore_n 1, 1) := by decide +kernel
theorem dX10_pack_12 : decode cX10_pack 12 = .ok (.iload_n 1, 1) := by decide +kernel
theorem dX10_pack_13 : decode cX10_pack 13 = .ok (.aload_n 0, 1) := by decide +kernel
theorem dX10_pack_14 : decode cX10_pack 14 = .ok (.getfield 98, 3) := by decide +kernel
theorem dX10_pack_17 : decode cX10_pack 17 = .ok (.if_icmp .ge 21, 3) := by decide +kernel
theorem dX10_pack_20 : decode cX10_pack 20 = .ok (.aload_n 0, 1) := by decide +kernel
theorem dX10_pack_21 : decode cX10_pack 21 = .ok (.getfield 22, 3) := by decide +kernel
theorem dX10_pack_24 : decode cX10_pack 24 = .ok (.iload_n 1, 1) := by decide +kernel
theorem dX10_pack_25 : decode cX10_pack 25 = .ok (.aload_n 0, 1) := by decide +kernel
theorem dX10_pack_26 : decode cX10_pack 26 = .ok (.getfield 67, 3) := by decide +kernel
theorem dX10_pack_29 : decode cX10_pack 29 = .ok (.iload_n 1, 1) := by decide +kernel
theorem dX10_pack_30 : decode cX10_pack 30 = .ok (.iaload, 1) := by decide +kernel
theorem dX10_pack_31 : decode cX10_pack 31 = .ok (.iastore, 1) := by decide +kernel
theorem dX10_pack_32 : decode cX10_pack 32 = .ok (.iinc 1 1, 3) := by decide +kernel
theorem dX10_pack_35 : decode cX10_pack 35 = .ok (.goto (-23), 3) := by decide +kernel
theorem dX10_pack_38 : decode cX10_pack 38 = .ok (.aload_n 0, 1) := by decide +kernel
theorem dX10_pack_39 : decode cX10_pack 39 = .ok (.getfield 243, 3) := by decide +kernel
theorem dX10_pack_42 : decode cX10_pack 42 = .ok (.ireturn, 1) := by decide +kernel
theorem dX10_evenest_0 : decode cX10_evenest 0 = .ok (.aload_n 0, 1) := by decide +kernel
theorem dX10_evenest_1 : decode cX10_evenest 1 = .ok (.iload_n 1, 1) := by decide +kernel
theorem dX10_evenest_2 : decode cX10_evenest 2 = .ok (.invokevirtual 140, 3) := by decide +kernel
theorem dX10_evenest_5 : decode cX10_evenest 5 = .ok (.ifCond .eq 17, 3) := by decide +kernel
theorem dX10_evenest_8 : decode cX10_evenest 8 = .ok (.iload_n 2, 1) := by decide +kernel
theorem dX10_evenest_9 : decode cX10_evenest 9 = .ok (.iconst (-1), 1) := by decide +kernel
theorem dX10_evenest_10 : decode cX10_evenest 10 = .ok (.if_icmp .eq 14, 3) := by decide +kernel
theorem dX10_evenest_13 : decode cX10_evenest 13 = .ok (.aload_n 0, 1) := by decide +kernel
theorem dX10_evenest_14 : decode cX10_evenest 14 = .ok (.iload_n 2, 1) := by decide +kernel
theorem dX10_evenest_15 : decode cX10_evenest 15 = .ok (.i2l, 1) := by decide +kernel
theorem dX10_evenest_16 : decode cX10_evenest 16 = .ok (.invokevirtual 122, 3) := by decide +kernel
theorem dX10_evenest_19 : decode cX10_evenest 19 = .ok (.ifCond .ne 5, 3) := by decide +kernel
theorem dX10_evenest_22 : decode cX10_evenest 22 = .ok (.iconst (-1), 1) := by decide +kernel
theorem dX10_evenest_23 : decode cX10_evenest 23 = .ok (.ireturn, 1) := by decide +kernel
theorem dX10_evenest_24 : decode cX10_evenest 24 = .ok (.iconst (-1), 1) := by decide +kernel
theorem dX10_evenest_25 : decode cX10_evenest 25 = .ok (.istore_n 3, 1) := by decide +kernel
theorem dX10_evenest_26 : decode cX10_evenest 26 = .ok (.aload_n 0, 1) := by decide +kernel
theorem dX10_evenest_27 : decode cX10_evenest 27 = .ok (.invokevirtual 237, 3) := by decide +kernel
theorem dX10_evenest_30 : decode cX10_evenest 30 = .ok (.iconst 1, 1) := by decide +kernel
theorem dX10_evenest_31 : decode cX10_evenest 31 = .ok (.istore 4, 2) := by decide +kernel
theorem dX10_evenest_33 : decode cX10_evenest 33 = .ok (.iload 4, 2) := by decide +kernel
theorem dX10_evenest_35 : decode cX10_evenest 35 = .ok (.ifCond .eq 45, 3) := by decide +kernel
theorem dX10_evenest_38 : decode cX10_evenest 38 = .ok (.aload_n 0, 1) := by decide +kernel
theorem dX10_evenest_39 : decode cX10_evenest 39 = .ok (.aload_n 0, 1) := by decide +kernel
theorem dX10_evenest_40 : decode cX10_evenest 40 = .ok (.aload_n 0, 1) := by decide +kernel
theorem dX10_evenest_41 : decode cX10_evenest 41 = .ok (.getfield 64, 3) := by decide +kernel
theorem dX10_evenest_44 : decode cX10_evenest 44 = .ok (.iload_n 1, 1) := by decide +kernel
theorem dX10_evenest_45 : decode cX10_evenest 45 = .ok (.invokevirtual 219, 3) := by decide +kernel
theorem dX10_evenest_48 : decode cX10_evenest 48 = .ok (.invokevirtual 230, 3) := by decide +kernel
theorem dX10_evenest_51 : decode cX10_evenest 51 = .ok (.istore 5, 2) := by decide +kernel
theorem dX10_evenest_53 : decode cX10_evenest 53 = .ok (.iload_n 3, 1) := by decide +kernel
theorem dX10_evenest_54 : decode cX10_evenest 54 = .ok (.ifCond .lt 9, 3) := by decide +kernel
theorem dX10_evenest_57 : decode cX10_evenest 57 = .ok (.iload 5, 2) := by decide +kernel
theorem dX10_evenest_59 : decode cX10_evenest 59 = .ok (.iload_n 3, 1) := by decide +kernel
theorem dX10_evenest_60 : decode cX10_evenest 60 = .ok (.if_icmp .ge 10, 3) := by decide +kernel
theorem dX10_evenest_63 : decode cX10_evenest 63 = .ok (.iload 5, 2) := by decide +kernel
theorem dX10_evenest_65 : decode cX10_evenest 65 = .ok (.istore_n 3, 1) := by decide +kernel
theorem dX10_evenest_66 : decode cX10_evenest 66 = .ok (.aload_n 0, 1) := by decide +kernel
theorem dX10_evenest_67 : decode cX10_evenest 67 = .ok (.invokevirtual 249, 3) := by decide +kernel
theorem dX10_evenest_70 : decode cX10_evenest 70 = .ok (.aload_n 0, 1) := by decide +kernel
theorem dX10_evenest_71 : decode cX10_evenest 71 = .ok (.iconst 2, 1) := by decide +kernel
theorem dX10_evenest_72 : decode cX10_evenest 72 = .ok (.invokevirtual 252, 3) := by decide +kernel
theorem dX10_evenest_75 : decode cX10_evenest 75 = .ok (.istore 4, 2) := by decide +kernel
theorem dX10_evenest_77 : decode cX10_evenest 77 = .ok (.goto (-44), 3) := by decide +kernel
theorem dX10_evenest_80 : decode cX10_evenest 80 = .ok (.iload_n 2, 1) := by decide +kernel
theorem dX10_evenest_81 : decode cX10_evenest 81 = .ok (.ifCond .ge 7, 3) := by decide +kernel
theorem dX10_evenest_84 : decode cX10_evenest 84 = .ok (.iload_n 3, 1) := by decide +kernel
theorem dX10_evenest_85 : decode cX10_evenest 85 = .ok (.goto 9, 3) := by decide +kernel
theorem dX10_evenest_88 : decode cX10_evenest 88 = .ok (.aload_n 0, 1) := by decide +kernel
theorem dX10_evenest_89 : decode cX10_evenest 89 = .ok (.getfield 67, 3) := by decide +kernel
theorem dX10_evenest_92 : decode cX10_evenest 92 = .ok (.iload_n 2, 1) := by decide +kernel
theorem dX10_evenest_93 : decode cX10_evenest 93 = .ok (.iaload, 1) := by decide +kernel
theorem dX10_evenest_94 : decode cX10_evenest 94 = .ok (.ireturn, 1) := by decide +kernel
theorem dX10_changes_0 : decode cX10_changes 0 = .ok (.iconst 0, 1) := by decide +kernel
theorem dX10_changes_1 : decode cX10_changes 1 = .ok (.istore_n 2, 1) := by decide +kernel
theorem dX10_changes_2 : decode cX10_changes 2 = .ok (.iconst 0, 1) := by decide +kernel
theorem dX10_changes_3 : decode cX10_changes 3 = .ok (.istore_n 3, 1) := by decide +kernel
theorem dX10_changes_4 : decode cX10_changes 4 = .ok (.iload_n 3, 1) := by decide +kernel
theorem dX10_changes_5 : decode cX10_changes 5 = .ok (.aload_n 0, 1) := by decide +kernel
theorem dX10_changes_6 : decode cX10_changes 6 = .ok (.getfield 98, 3) := by decide +kernel
theorem dX10_changes_9 : decode cX10_changes 9 = .ok (.if_icmp .ge 29, 3) := by decide +kernel
theorem dX10_changes_12 : decode cX10_changes 12 = .ok (.iload_n 2, 1) := by decide +kernel
theorem dX10_changes_13 : decode cX10_changes 13 = .ok (.aload_n 1, 1) := by decide +kernel
theorem dX10_changes_14 : decode cX10_changes 14 = .ok (.iload_n 3, 1) := by decide +kernel
theorem dX10_changes_15 : decode cX10_changes 15 = .ok (.iaload, 1) := by decide +kernel
theorem dX10_changes_16 : decode cX10_changes 16 = .ok (.aload_n 0, 1) := by decide +kernel
theorem dX10_changes_17 : decode cX10_changes 17 = .ok (.getfield 22, 3) := by decide +kernel
theorem dX10_changes_20 : decode cX10_changes 20 = .ok (.iload_n 3, 1) := by decide +kernel
theorem dX10_changes_21 : decode cX10_changes 21 = .ok (.iaload, 1) := by decide +kernel
theorem dX10_changes_22 : decode cX10_changes 22 = .ok (.if_icmp .ne 7, 3) := by decide +kernel
theorem dX10_changes_25 : decode cX10_changes 25 = .ok (.iconst 0, 1) := by decide +kernel
theorem dX10_changes_26 : decode cX10_changes 26 = .ok (.goto 4, 3) := by decide +kernel
theorem dX10_changes_29 : decode cX10_changes 29 = .ok (.iconst 1, 1) := by decide +kernel
theorem dX10_changes_30 : decode cX10_changes 30 = .ok (.iadd, 1) := by decide +kernel
theorem dX10_changes_31 : decode cX10_changes 31 = .ok (.istore_n 2, 1) := by decide +kernel
theorem dX10_changes_32 : decode cX10_changes 32 = .ok (.iinc 3 1, 3) := by decide +kernel
theorem dX10_changes_35 : decode cX10_changes 35 = .ok (.goto (-31), 3) := by decide +kernel
theorem dX10_changes_38 : decode cX10_changes 38 = .ok (.iload_n 2, 1) := by decide +kernel
theorem dX10_changes_39 : decode cX10_changes 39 = .ok (.ireturn, 1) := by decide +kernel
theorem dX10_moved_0 : decode cX10_moved 0 = .ok (.aload_n 0, 1) := by decide +kernel
theorem dX10_moved_1 : decode cX10_moved 1 = .ok (.iload_n 1, 1) := by decide +kernel
theorem dX10_moved_2 : decode cX10_moved 2 = .ok (.invokevirtual 140, 3) := by decide +kernel
theorem dX10_moved_5 : decode cX10_moved 5 = .ok (.ifCond .eq 29, 3) := by decide +kernel
theorem dX10_moved_8 : decode cX10_moved 8 = .ok (.iload_n 2, 1) := by decide +kernel
theorem dX10_moved_9 : decode cX10_moved 9 = .ok (.i2l, 1) := by decide +kernel
theorem dX10_moved_10 : decode cX10_moved 10 = .ok (.lconst 0, 1) := by decide +kernel
theorem dX10_moved_11 : decode cX10_moved 11 = .ok (.ldc2_w 259, 3) := by decide +kernel
theorem dX10_moved_14 : decode cX10_moved 14 = .ok (.invokestatic 102, 3) := by decide +kernel
theorem dX10_moved_17 : decode cX10_moved 17 = .ok (.ifCond .eq 17, 3) := by decide +kernel
theorem dX10_moved_20 : decode cX10_moved 20 = .ok (.iload_n 3, 1) := by decide +kernel
theorem dX10_moved_21 : decode cX10_moved 21 = .ok (.iconst (-1), 1) := by decide +kernel
theorem dX10_moved_22 : decode cX10_moved 22 = .ok (.if_icmp .eq 14, 3) := by decide +kernel
theorem dX10_moved_25 : decode cX10_moved 25 = .ok (.aload_n 0, 1) := by decide +kernel
theorem dX10_moved_26 : decode cX10_moved 26 = .ok (.iload_n 3, 1) := by decide +kernel
theorem dX10_moved_27 : decode cX10_moved 27 = .ok (.i2l, 1) := by decide +kernel
theorem dX10_moved_28 : decode cX10_moved 28 = .ok (.invokevirtual 122, 3) := by decide +kernel
theorem dX10_moved_31 : decode cX10_moved 31 = .ok (.ifCond .ne 5, 3) := by decide +kernel
theorem dX10_moved_34 : decode cX10_moved 34 = .ok (.iconst (-1), 1) := by decide +kernel
theorem dX10_moved_35 : decode cX10_moved 35 = .ok (.ireturn, 1) := by decide +kernel
theorem dX10_moved_36 : decode cX10_moved 36 = .ok (.iconst (-1), 1) := by decide +kernel
theorem dX10_moved_37 : decode cX10_moved 37 = .ok (.istore 4, 2) := by decide +kernel
theorem dX10_moved_39 : decode cX10_moved 39 = .ok (.aload_n 0, 1) := by decide +kernel
theorem dX10_moved_40 : decode cX10_moved 40 = .ok (.invokevirtual 237, 3) := by decide +kernel
theorem dX10_moved_43 : decode cX10_moved 43 = .ok (.iconst 1, 1) := by decide +kernel
theorem dX10_moved_44 : decode cX10_moved 44 = .ok (.istore 5, 2) := by decide +kernel
theorem dX10_moved_46 : decode cX10_moved 46 = .ok (.iload 5, 2) := by decide +kernel
theorem dX10_moved_48 : decode cX10_moved 48 = .ok (.ifCond .eq 116, 3) := by decide +kernel
theorem dX10_moved_51 : decode cX10_moved 51 = .ok (.iload 4, 2) := by decide +kernel
theorem dX10_moved_53 : decode cX10_moved 53 = .ok (.ifCond .lt 16, 3) := by decide +kernel
theorem dX10_moved_56 : decode cX10_moved 56 = .ok (.aload_n 0, 1) := by decide +kernel
theorem dX10_moved_57 : decode cX10_moved 57 = .ok (.aload_n 0, 1) := by decide +kernel
theorem dX10_moved_58 : decode cX10_moved 58 = .ok (.getfield 64, 3) := by decide +kernel
theorem dX10_moved_61 : decode cX10_moved 61 = .ok (.invokevirtual 261, 3) := by decide +kernel
theorem dX10_moved_64 : decode cX10_moved 64 = .ok (.iload 4, 2) := by decide +kernel
theorem dX10_moved_66 : decode cX10_moved 66 = .ok (.if_icmp .ge 18, 3) := by decide +kernel
theorem dX10_moved_69 : decode cX10_moved 69 = .ok (.aload_n 0, 1) := by decide +kernel
theorem dX10_moved_70 : decode cX10_moved 70 = .ok (.aload_n 0, 1) := by decide +kernel
theorem dX10_moved_71 : decode cX10_moved 71 = .ok (.getfield 64, 3) := by decide +kernel
theorem dX10_moved_74 : decode cX10_moved 74 = .ok (.invokevirtual 240, 3) := by decide +kernel
theorem dX10_moved_77 : decode cX10_moved 77 = .ok (.ifCond .eq 7, 3) := by decide +kernel
theorem dX10_moved_80 : decode cX10_moved 80 = .ok (.iconst 1, 1) := by decide +kernel
theorem dX10_moved_81 : decode cX10_moved 81 = .ok (.goto 4, 3) := by decide +kernel
theorem dX10_moved_84 : decode cX10_moved 84 = .ok (.iconst 0, 1) := by decide +kernel
theorem dX10_moved_85 : decode cX10_moved 85 = .ok (.istore 6, 2) := by decide +kernel
theorem dX10_moved_87 : decode cX10_moved 87 = .ok (.iload_n 1, 1) := by decide +kernel
theorem dX10_moved_88 : decode cX10_moved 88 = .ok (.istore 7, 2) := by decide +kernel
theorem dX10_moved_90 : decode cX10_moved 90 = .ok (.iload 7, 2) := by decide +kernel
theorem dX10_moved_92 : decode cX10_moved 92 = .ok (.aload_n 0, 1) := by decide +kernel
theorem dX10_moved_93 : decode cX10_moved 93 = .ok (.getfield 106, 3) := by decide +kernel
theorem dX10_moved_96 : decode cX10_moved 96 = .ok (.if_icmp .ge 39, 3) := by decide +kernel
theorem dX10_moved_99 : decode cX10_moved 99 = .ok (.iload 6, 2) := by decide +kernel
theorem dX10_moved_101 : decode cX10_moved 101 = .ok (.ifCond .eq 34, 3) := by decide +kernel
theorem dX10_moved_104 : decode cX10_moved 104 = .ok (.aload_n 0, 1) := by decide +kernel
theorem dX10_moved_105 : decode cX10_moved 105 = .ok (.aload_n 0, 1) := by decide +kernel
theorem dX10_moved_106 : decode cX10_moved 106 = .ok (.aload_n 0, 1) := by decide +kernel
theorem dX10_moved_107 : decode cX10_moved 107 = .ok (.getfield 64, 3) := by decide +kernel
theorem dX10_moved_110 : decode cX10_moved 110 = .ok (.iload 7, 2) := by decide +kernel
theorem dX10_moved_112 : decode cX10_moved 112 = .ok (.invokevirtual 219, 3) := by decide +kernel
theorem dX10_moved_115 : decode cX10_moved 115 = .ok (.invokevirtual 230, 3) := by decide +kernel
theorem dX10_moved_118 : decode cX10_moved 118 = .ok (.iload_n 2, 1) := by decide +kernel
theorem dX10_moved_119 : decode cX10_moved 119 = .ok (.if_icmp .gt 7, 3) := by decide +kernel
theorem dX10_moved_122 : decode cX10_moved 122 = .ok (.iconst 1, 1) := by decide +kernel
theorem dX10_moved_123 : decode cX10_moved 123 = .ok (.goto 4, 3) := by decide +kernel
theorem dX10_moved_126 : decode cX10_moved 126 = .ok (.iconst 0, 1) := by decide +kernel
theorem dX10_moved_127 : decode cX10_moved 127 = .ok (.istore 6, 2) := by decide +kernel
theorem dX10_moved_129 : decode cX10_moved 129 = .ok (.iinc 7 1, 3) := by decide +kernel
theorem dX10_moved_132 : decode cX10_moved 132 = .ok (.goto (-42), 3) := by decide +kernel
theorem dX10_moved_135 : decode cX10_moved 135 = .ok (.iload 6, 2) := by decide +kernel
theorem dX10_moved_137 : decode cX10_moved 137 = .ok (.ifCond .eq 17, 3) := by decide +kernel
theorem dX10_moved_140 : decode cX10_moved 140 = .ok (.aload_n 0, 1) := by decide +kernel
theorem dX10_moved_141 : decode cX10_moved 141 = .ok (.aload_n 0, 1) := by decide +kernel
theorem dX10_moved_142 : decode cX10_moved 142 = .ok (.getfield 64, 3) := by decide +kernel
theorem dX10_moved_145 : decode cX10_moved 145 = .ok (.invokevirtual 261, 3) := by decide +kernel
theorem dX10_moved_148 : decode cX10_moved 148 = .ok (.istore 4, 2) := by decide +kernel
theorem dX10_moved_150 : decode cX10_moved 150 = .ok (.aload_n 0, 1) := by decide +kernel
theorem dX10_moved_151 : decode cX10_moved 151 = .ok (.invokevirtual 249, 3) := by decide +kernel
theorem dX10_moved_154 : decode cX10_moved 154 = .ok (.aload_n 0, 1) := by decide +kernel
theorem dX10_moved_155 : decode cX10_moved 155 = .ok (.iconst 3, 1) := by decide +kernel
theorem dX10_moved_156 : decode cX10_moved 156 = .ok (.invokevirtual 252, 3) := by decide +kernel
theorem dX10_moved_159 : decode cX10_moved 159 = .ok (.istore 5, 2) := by decide +kernel
theorem dX10_moved_161 : decode cX10_moved 161 = .ok (.goto (-115), 3) := by decide +kernel
theorem dX10_moved_164 : decode cX10_moved 164 = .ok (.iload 4, 2) := by decide +kernel
theorem dX10_moved_166 : decode cX10_moved 166 = .ok (.ifCond .ge 8, 3) := by decide +kernel
theorem dX10_moved_169 : decode cX10_moved 169 = .ok (.bipush (-4), 2) := by decide +kernel
theorem dX10_moved_171 : decode cX10_moved 171 = .ok (.goto 18, 3) := by decide +kernel
theorem dX10_moved_174 : decode cX10_moved 174 = .ok (.iload_n 3, 1) := by decide +kernel
theorem dX10_moved_175 : decode cX10_moved 175 = .ok (.ifCond .ge 8, 3) := by decide +kernel
theorem dX10_moved_178 : decode cX10_moved 178 = .ok (.iload 4, 2) := by decide +kernel
theorem dX10_moved_180 : decode cX10_moved 180 = .ok (.goto 9, 3) := by decide +kernel
theorem dX10_moved_183 : decode cX10_moved 183 = .ok (.aload_n 0, 1) := by decide +kernel
theorem dX10_moved_184 : decode cX10_moved 184 = .ok (.getfield 67, 3) := by decide +kernel
theorem dX10_moved_187 : decode cX10_moved 187 = .ok (.iload_n 3, 1) := by decide +kernel
theorem dX10_moved_188 : decode cX10_moved 188 = .ok (.iaload, 1) := by decide +kernel
theorem dX10_moved_189 : decode cX10_moved 189 = .ok (.ireturn, 1) := by decide +kernel
theorem dX10_common_0 : decode cX10_common 0 = .ok (.iload_n 0, 1) := by decide +kernel
theorem dX10_common_1 : decode cX10_common 1 = .ok (.istore_n 2, 1) := by decide +kernel
theorem dX10_common_2 : decode cX10_common 2 = .ok (.iload_n 1, 1) := by decide +kernel
theorem dX10_common_3 : decode cX10_common 3 = .ok (.istore_n 3, 1) := by decide +kernel
theorem dX10_common_4 : decode cX10_common 4 = .ok (.iload_n 3, 1) := by decide +kernel
theorem dX10_common_5 : decode cX10_common 5 = .ok (.ifCond .eq 16, 3) := by decide +kernel
theorem dX10_common_8 : decode cX10_common 8 = .ok (.iload_n 2, 1) := by decide +kernel
theorem dX10_common_9 : decode cX10_common 9 = .ok (.iload_n 3, 1) := by decide +kernel
theorem dX10_common_10 : decode cX10_common 10 = .ok (.irem, 1) := by decide +kernel
theorem dX10_common_11 : decode cX10_common 11 = .ok (.istore 4, 2) := by decide +kernel
theorem dX10_common_13 : decode cX10_common 13 = .ok (.iload_n 3, 1) := by decide +kernel
theorem dX10_common_14 : decode cX10_common 14 = .ok (.istore_n 2, 1) := by decide +kernel
theorem dX10_common_15 : decode cX10_common 15 = .ok (.iload 4, 2) := by decide +kernel
theorem dX10_common_17 : decode cX10_common 17 = .ok (.istore_n 3, 1) := by decide +kernel
theorem dX10_common_18 : decode cX10_common 18 = .ok (.goto (-14), 3) := by decide +kernel
theorem dX10_common_21 : decode cX10_common 21 = .ok (.iload_n 2, 1) := by decide +kernel
theorem dX10_common_22 : decode cX10_common 22 = .ok (.ireturn, 1) := by decide +kernel
theorem dX10_part_0 : decode cX10_part 0 = .ok (.iload_n 0, 1) := by decide +kernel
theorem dX10_part_1 : decode cX10_part 1 = .ok (.iload_n 1, 1) := by decide +kernel
theorem dX10_part_2 : decode cX10_part 2 = .ok (.invokestatic 264, 3) := by decide +kernel
theorem dX10_part_5 : decode cX10_part 5 = .ok (.istore_n 3, 1) := by decide +kernel
theorem dX10_part_6 : decode cX10_part 6 = .ok (.iload_n 2, 1) := by decide +kernel
theorem dX10_part_7 : decode cX10_part 7 = .ok (.ifCond .ne 9, 3) := by decide +kernel
theorem dX10_part_10 : decode cX10_part 10 = .ok (.iload_n 0, 1) := by decide +kernel
theorem dX10_part_11 : decode cX10_part 11 = .ok (.iload_n 3, 1) := by decide +kernel
theorem dX10_part_12 : decode cX10_part 12 = .ok (.idiv, 1) := by decide +kernel
theorem dX10_part_13 : decode cX10_part 13 = .ok (.goto 6, 3) := by decide +kernel
theorem dX10_part_16 : decode cX10_part 16 = .ok (.iload_n 1, 1) := by decide +kernel
theorem dX10_part_17 : decode cX10_part 17 = .ok (.iload_n 3, 1) := by decide +kernel
theorem dX10_part_18 : decode cX10_part 18 = .ok (.idiv, 1) := by decide +kernel
theorem dX10_part_19 : decode cX10_part 19 = .ok (.ireturn, 1) := by decide +kernel
theorem dX10_hands_0 : decode cX10_hands 0 = .ok (.iload_n 1, 1) := by decide +kernel
theorem dX10_hands_1 : decode cX10_hands 1 = .ok (.i2l, 1) := by decide +kernel
theorem dX10_hands_2 : decode cX10_hands 2 = .ok (.invokestatic 143, 3) := by decide +kernel
theorem dX10_hands_5 : decode cX10_hands 5 = .ok (.ifCond .eq 13, 3) := by decide +kernel
theorem dX10_hands_8 : decode cX10_hands 8 = .ok (.iload_n 2, 1) := by decide +kernel
theorem dX10_hands_9 : decode cX10_hands 9 = .ok (.i2l, 1) := by decide +kernel
theorem dX10_hands_10 : decode cX10_hands 10 = .ok (.lconst 0, 1) := by decide +kernel
theorem dX10_hands_11 : decode cX10_hands 11 = .ok (.lconst 1, 1) := by decide +kernel
theorem dX10_hands_12 : decode cX10_hands 12 = .ok (.invokestatic 102, 3) := by decide +kernel
theorem dX10_hands_15 : decode cX10_hands 15 = .ok (.ifCond .ne 5, 3) := by decide +kernel
theorem dX10_hands_18 : decode cX10_hands 18 = .ok (.iconst (-1), 1) := by decide +kernel
theorem dX10_hands_19 : decode cX10_hands 19 = .ok (.ireturn, 1) := by decide +kernel
theorem dX10_hands_20 : decode cX10_hands 20 = .ok (.iconst 0, 1) := by decide +kernel
theorem dX10_hands_21 : decode cX10_hands 21 = .ok (.istore_n 3, 1) := by decide +kernel
theorem dX10_hands_22 : decode cX10_hands 22 = .ok (.iconst 0, 1) := by decide +kernel
theorem dX10_hands_23 : decode cX10_hands 23 = .ok (.istore 4, 2) := by decide +kernel
theorem dX10_hands_25 : decode cX10_hands 25 = .ok (.iload 4, 2) := by decide +kernel
theorem dX10_hands_27 : decode cX10_hands 27 = .ok (.aload_n 0, 1) := by decide +kernel
theorem dX10_hands_28 : decode cX10_hands 28 = .ok (.getfield 106, 3) := by decide +kernel
theorem dX10_hands_31 : decode cX10_hands 31 = .ok (.if_icmp .ge 41, 3) := by decide +kernel
theorem dX10_hands_34 : decode cX10_hands 34 = .ok (.iload_n 3, 1) := by decide +kernel
theorem dX10_hands_35 : decode cX10_hands 35 = .ok (.aload_n 0, 1) := by decide +kernel
theorem dX10_hands_36 : decode cX10_hands 36 = .ok (.aload_n 0, 1) := by decide +kernel
theorem dX10_hands_37 : decode cX10_hands 37 = .ok (.getfield 22, 3) := by decide +kernel
theorem dX10_hands_40 : decode cX10_hands 40 = .ok (.iload_n 1, 1) := by decide +kernel
theorem dX10_hands_41 : decode cX10_hands 41 = .ok (.iload 4, 2) := by decide +kernel
theorem dX10_hands_43 : decode cX10_hands 43 = .ok (.invokevirtual 201, 3) := by decide +kernel
theorem dX10_hands_46 : decode cX10_hands 46 = .ok (.aload_n 0, 1) := by decide +kernel
theorem dX10_hands_47 : decode cX10_hands 47 = .ok (.getfield 25, 3) := by decide +kernel
theorem dX10_hands_50 : decode cX10_hands 50 = .ok (.iload 4, 2) := by decide +kernel
theorem dX10_hands_52 : decode cX10_hands 52 = .ok (.iaload, 1) := by decide +kernel
theorem dX10_hands_53 : decode cX10_hands 53 = .ok (.imul, 1) := by decide +kernel
theorem dX10_hands_54 : decode cX10_hands 54 = .ok (.iconst 1, 1) := by decide +kernel
theorem dX10_hands_55 : decode cX10_hands 55 = .ok (.aload_n 0, 1) := by decide +kernel
theorem dX10_hands_56 : decode cX10_hands 56 = .ok (.getfield 28, 3) := by decide +kernel
theorem dX10_hands_59 : decode cX10_hands 59 = .ok (.iload 4, 2) := by decide +kernel
theorem dX10_hands_61 : decode cX10_hands 61 = .ok (.iaload, 1) := by decide +kernel
theorem dX10_hands_62 : decode cX10_hands 62 = .ok (.iadd, 1) := by decide +kernel
theorem dX10_hands_63 : decode cX10_hands 63 = .ok (.imul, 1) := by decide +kernel
theorem dX10_hands_64 : decode cX10_hands 64 = .ok (.iadd, 1) := by decide +kernel
theorem dX10_hands_65 : decode cX10_hands 65 = .ok (.istore_n 3, 1) := by decide +kernel
theorem dX10_hands_66 : decode cX10_hands 66 = .ok (.iinc 4 1, 3) := by decide +kernel
theorem dX10_hands_69 : decode cX10_hands 69 = .ok (.goto (-44), 3) := by decide +kernel
theorem dX10_hands_72 : decode cX10_hands 72 = .ok (.aload_n 0, 1) := by decide +kernel
theorem dX10_hands_73 : decode cX10_hands 73 = .ok (.getfield 37, 3) := by decide +kernel
theorem dX10_hands_76 : decode cX10_hands 76 = .ok (.iconst 0, 1) := by decide +kernel
theorem dX10_hands_77 : decode cX10_hands 77 = .ok (.iaload, 1) := by decide +kernel
theorem dX10_hands_78 : decode cX10_hands 78 = .ok (.aload_n 0, 1) := by decide +kernel
theorem dX10_hands_79 : decode cX10_hands 79 = .ok (.getfield 37, 3) := by decide +kernel
theorem dX10_hands_82 : decode cX10_hands 82 = .ok (.iconst 1, 1) := by decide +kernel
theorem dX10_hands_83 : decode cX10_hands 83 = .ok (.iaload, 1) := by decide +kernel
theorem dX10_hands_84 : decode cX10_hands 84 = .ok (.iadd, 1) := by decide +kernel
theorem dX10_hands_85 : decode cX10_hands 85 = .ok (.istore 4, 2) := by decide +kernel
theorem dX10_hands_87 : decode cX10_hands 87 = .ok (.iload_n 3, 1) := by decide +kernel
theorem dX10_hands_88 : decode cX10_hands 88 = .ok (.aload_n 0, 1) := by decide +kernel
theorem dX10_hands_89 : decode cX10_hands 89 = .ok (.getfield 37, 3) := by decide +kernel
theorem dX10_hands_92 : decode cX10_hands 92 = .ok (.iconst 0, 1) := by decide +kernel
theorem dX10_hands_93 : decode cX10_hands 93 = .ok (.iaload, 1) := by decide +kernel
theorem dX10_hands_94 : decode cX10_hands 94 = .ok (.imul, 1) := by decide +kernel
theorem dX10_hands_95 : decode cX10_hands 95 = .ok (.istore 5, 2) := by decide +kernel
theorem dX10_hands_97 : decode cX10_hands 97 = .ok (.iconst 0, 1) := by decide +kernel
theorem dX10_hands_98 : decode cX10_hands 98 = .ok (.istore 6, 2) := by decide +kernel
theorem dX10_hands_100 : decode cX10_hands 100 = .ok (.iload 6, 2) := by decide +kernel
theorem dX10_hands_102 : decode cX10_hands 102 = .ok (.aload_n 0, 1) := by decide +kernel
theorem dX10_hands_103 : decode cX10_hands 103 = .ok (.getfield 106, 3) := by decide +kernel
theorem dX10_hands_106 : decode cX10_hands 106 = .ok (.if_icmp .ge 88, 3) := by decide +kernel
theorem dX10_hands_109 : decode cX10_hands 109 = .ok (.iload_n 3, 1) := by decide +kernel
theorem dX10_hands_110 : decode cX10_hands 110 = .ok (.ifCond .le 84, 3) := by decide +kernel
theorem dX10_hands_113 : decode cX10_hands 113 = .ok (.aload_n 0, 1) := by decide +kernel
theorem dX10_hands_114 : decode cX10_hands 114 = .ok (.aload_n 0, 1) := by decide +kernel
theorem dX10_hands_115 : decode cX10_hands 115 = .ok (.getfield 22, 3) := by decide +kernel
theorem dX10_hands_118 : decode cX10_hands 118 = .ok (.iload_n 1, 1) := by decide +kernel
theorem dX10_hands_119 : decode cX10_hands 119 = .ok (.iload 6, 2) := by decide +kernel
theorem dX10_hands_121 : decode cX10_hands 121 = .ok (.invokevirtual 201, 3) := by decide +kernel
theorem dX10_hands_124 : decode cX10_hands 124 = .ok (.iconst 1, 1) := by decide +kernel
theorem dX10_hands_125 : decode cX10_hands 125 = .ok (.aload_n 0, 1) := by decide +kernel
theorem dX10_hands_126 : decode cX10_hands 126 = .ok (.getfield 28, 3) := by decide +kernel
theorem dX10_hands_129 : decode cX10_hands 129 = .ok (.iload 6, 2) := by decide +kernel
theorem dX10_hands_131 : decode cX10_hands 131 = .ok (.iaload, 1) := by decide +kernel
theorem dX10_hands_132 : decode cX10_hands 132 = .ok (.iadd, 1) := by decide +kernel
theorem dX10_hands_133 : decode cX10_hands 133 = .ok (.imul, 1) := by decide +kernel
theorem dX10_hands_134 : decode cX10_hands 134 = .ok (.iload 4, 2) := by decide +kernel
theorem dX10_hands_136 : decode cX10_hands 136 = .ok (.imul, 1) := by decide +kernel
theorem dX10_hands_137 : decode cX10_hands 137 = .ok (.istore 7, 2) := by decide +kernel
theorem dX10_hands_139 : decode cX10_hands 139 = .ok (.iload 7, 2) := by decide +kernel
theorem dX10_hands_141 : decode cX10_hands 141 = .ok (.aload_n 0, 1) := by decide +kernel
theorem dX10_hands_142 : decode cX10_hands 142 = .ok (.getfield 25, 3) := by decide +kernel
theorem dX10_hands_145 : decode cX10_hands 145 = .ok (.iload 6, 2) := by decide +kernel
theorem dX10_hands_147 : decode cX10_hands 147 = .ok (.iaload, 1) := by decide +kernel
theorem dX10_hands_148 : decode cX10_hands 148 = .ok (.imul, 1) := by decide +kernel
theorem dX10_hands_149 : decode cX10_hands 149 = .ok (.iload 5, 2) := by decide +kernel
theorem dX10_hands_151 : decode cX10_hands 151 = .ok (.if_icmp .lt 22, 3) := by decide +kernel
theorem dX10_hands_154 : decode cX10_hands 154 = .ok (.aload_n 0, 1) := by decide +kernel
theorem dX10_hands_155 : decode cX10_hands 155 = .ok (.iload 6, 2) := by decide +kernel
theorem dX10_hands_157 : decode cX10_hands 157 = .ok (.invokevirtual 155, 3) := by decide +kernel
theorem dX10_hands_160 : decode cX10_hands 160 = .ok (.iload 7, 2) := by decide +kernel
theorem dX10_hands_162 : decode cX10_hands 162 = .ok (.imul, 1) := by decide +kernel
theorem dX10_hands_163 : decode cX10_hands 163 = .ok (.iload 5, 2) := by decide +kernel
theorem dX10_hands_165 : decode cX10_hands 165 = .ok (.iadd, 1) := by decide +kernel
theorem dX10_hands_166 : decode cX10_hands 166 = .ok (.iload 7, 2) := by decide +kernel
theorem dX10_hands_168 : decode cX10_hands 168 = .ok (.iload_n 2, 1) := by decide +kernel
theorem dX10_hands_169 : decode cX10_hands 169 = .ok (.invokestatic 267, 3) := by decide +kernel
theorem dX10_hands_172 : decode cX10_hands 172 = .ok (.ireturn, 1) := by decide +kernel
theorem dX10_hands_173 : decode cX10_hands 173 = .ok (.iload 5, 2) := by decide +kernel
theorem dX10_hands_175 : decode cX10_hands 175 = .ok (.iload 7, 2) := by decide +kernel
theorem dX10_hands_177 : decode cX10_hands 177 = .ok (.aload_n 0, 1) := by decide +kernel
theorem dX10_hands_178 : decode cX10_hands 178 = .ok (.getfield 25, 3) := by decide +kernel
theorem dX10_hands_181 : decode cX10_hands 181 = .ok (.iload 6, 2) := by decide +kernel
theorem dX10_hands_183 : decode cX10_hands 183 = .ok (.iaload, 1) := by decide +kernel
theorem dX10_hands_184 : decode cX10_hands 184 = .ok (.imul, 1) := by decide +kernel
theorem dX10_hands_185 : decode cX10_hands 185 = .ok (.isub, 1) := by decide +kernel
theorem dX10_hands_186 : decode cX10_hands 186 = .ok (.istore 5, 2) := by decide +kernel
theorem dX10_hands_188 : decode cX10_hands 188 = .ok (.iinc 6 1, 3) := by decide +kernel
theorem dX10_hands_191 : decode cX10_hands 191 = .ok (.goto (-91), 3) := by decide +kernel
theorem dX10_hands_194 : decode cX10_hands 194 = .ok (.iload_n 2, 1) := by decide +kernel
theorem dX10_hands_195 : decode cX10_hands 195 = .ok (.ireturn, 1) := by decide +kernel
theorem dX10_paper_0 : decode cX10_paper 0 = .ok (.iload_n 1, 1) := by decide +kernel
theorem dX10_paper_1 : decode cX10_paper 1 = .ok (.i2l, 1) := by decide +kernel
theorem dX10_paper_2 : decode cX10_paper 2 = .ok (.invokestatic 143, 3) := by decide +kernel
theorem dX10_paper_5 : decode cX10_paper 5 = .ok (.ifCond .eq 13, 3) := by decide +kernel
theorem dX10_paper_8 : decode cX10_paper 8 = .ok (.iload_n 2, 1) := by decide +kernel
theorem dX10_paper_9 : decode cX10_paper 9 = .ok (.i2l, 1) := by decide +kernel
theorem dX10_paper_10 : decode cX10_paper 10 = .ok (.lconst 0, 1) := by decide +kernel
theorem dX10_paper_11 : decode cX10_paper 11 = .ok (.lconst 1, 1) := by decide +kernel
theorem dX10_paper_12 : decode cX10_paper 12 = .ok (.invokestatic 102, 3) := by decide +kernel
theorem dX10_paper_15 : decode cX10_paper 15 = .ok (.ifCond .ne 5, 3) := by decide +kernel
theorem dX10_paper_18 : decode cX10_paper 18 = .ok (.iconst (-1), 1) := by decide +kernel
theorem dX10_paper_19 : decode cX10_paper 19 = .ok (.ireturn, 1) := by decide +kernel
theorem dX10_paper_20 : decode cX10_paper 20 = .ok (.aload_n 0, 1) := by decide +kernel
theorem dX10_paper_21 : decode cX10_paper 21 = .ok (.getfield 34, 3) := by decide +kernel
theorem dX10_paper_24 : decode cX10_paper 24 = .ok (.iload_n 1, 1) := by decide +kernel
theorem dX10_paper_25 : decode cX10_paper 25 = .ok (.iaload, 1) := by decide +kernel
theorem dX10_paper_26 : decode cX10_paper 26 = .ok (.istore_n 3, 1) := by decide +kernel
theorem dX10_paper_27 : decode cX10_paper 27 = .ok (.iconst 0, 1) := by decide +kernel
theorem dX10_paper_28 : decode cX10_paper 28 = .ok (.istore 4, 2) := by decide +kernel
theorem dX10_paper_30 : decode cX10_paper 30 = .ok (.iload 4, 2) := by decide +kernel
theorem dX10_paper_32 : decode cX10_paper 32 = .ok (.aload_n 0, 1) := by decide +kernel
theorem dX10_paper_33 : decode cX10_paper 33 = .ok (.getfield 106, 3) := by decide +kernel
theorem dX10_paper_36 : decode cX10_paper 36 = .ok (.if_icmp .ge 125, 3) := by decide +kernel
theorem dX10_paper_39 : decode cX10_paper 39 = .ok (.aload_n 0, 1) := by decide +kernel
theorem dX10_paper_40 : decode cX10_paper 40 = .ok (.getfield 34, 3) := by decide +kernel
theorem dX10_paper_43 : decode cX10_paper 43 = .ok (.iload_n 1, 1) := by decide +kernel
theorem dX10_paper_44 : decode cX10_paper 44 = .ok (.iaload, 1) := by decide +kernel
theorem dX10_paper_45 : decode cX10_paper 45 = .ok (.ifCond .le 116, 3) := by decide +kernel
theorem dX10_paper_48 : decode cX10_paper 48 = .ok (.iconst 0, 1) := by decide +kernel
theorem dX10_paper_49 : decode cX10_paper 49 = .ok (.istore 5, 2) := by decide +kernel
theorem dX10_paper_51 : decode cX10_paper 51 = .ok (.iconst 0, 1) := by decide +kernel
theorem dX10_paper_52 : decode cX10_paper 52 = .ok (.istore 6, 2) := by decide +kernel
theorem dX10_paper_54 : decode cX10_paper 54 = .ok (.iload 6, 2) := by decide +kernel
theorem dX10_paper_56 : decode cX10_paper 56 = .ok (.aload_n 0, 1) := by decide +kernel
theorem dX10_paper_57 : decode cX10_paper 57 = .ok (.getfield 98, 3) := by decide +kernel
theorem dX10_paper_60 : decode cX10_paper 60 = .ok (.if_icmp .ge 50, 3) := by decide +kernel
theorem dX10_paper_63 : decode cX10_paper 63 = .ok (.iload 5, 2) := by decide +kernel
theorem dX10_paper_65 : decode cX10_paper 65 = .ok (.aload_n 0, 1) := by decide +kernel
theorem dX10_paper_66 : decode cX10_paper 66 = .ok (.getfield 22, 3) := by decide +kernel
theorem dX10_paper_69 : decode cX10_paper 69 = .ok (.iload 6, 2) := by decide +kernel
theorem dX10_paper_71 : decode cX10_paper 71 = .ok (.iaload, 1) := by decide +kernel
theorem dX10_paper_72 : decode cX10_paper 72 = .ok (.iload_n 1, 1) := by decide +kernel
theorem dX10_paper_73 : decode cX10_paper 73 = .ok (.if_icmp .ne 27, 3) := by decide +kernel
theorem dX10_paper_76 : decode cX10_paper 76 = .ok (.aload_n 0, 1) := by decide +kernel
theorem dX10_paper_77 : decode cX10_paper 77 = .ok (.getfield 7, 3) := by decide +kernel
theorem dX10_paper_80 : decode cX10_paper 80 = .ok (.iload 6, 2) := by decide +kernel
theorem dX10_paper_82 : decode cX10_paper 82 = .ok (.iaload, 1) := by decide +kernel
theorem dX10_paper_83 : decode cX10_paper 83 = .ok (.iconst 2, 1) := by decide +kernel
theorem dX10_paper_84 : decode cX10_paper 84 = .ok (.irem, 1) := by decide +kernel
theorem dX10_paper_85 : decode cX10_paper 85 = .ok (.iconst 1, 1) := by decide +kernel
theorem dX10_paper_86 : decode cX10_paper 86 = .ok (.if_icmp .ne 14, 3) := by decide +kernel
theorem dX10_paper_89 : decode cX10_paper 89 = .ok (.aload_n 0, 1) := by decide +kernel
theorem dX10_paper_90 : decode cX10_paper 90 = .ok (.iload 6, 2) := by decide +kernel
theorem dX10_paper_92 : decode cX10_paper 92 = .ok (.iload 4, 2) := by decide +kernel
theorem dX10_paper_94 : decode cX10_paper 94 = .ok (.invokevirtual 198, 3) := by decide +kernel
theorem dX10_paper_97 : decode cX10_paper 97 = .ok (.goto 4, 3) := by decide +kernel
theorem dX10_paper_100 : decode cX10_paper 100 = .ok (.iconst 0, 1) := by decide +kernel
theorem dX10_paper_101 : decode cX10_paper 101 = .ok (.iadd, 1) := by decide +kernel
theorem dX10_paper_102 : decode cX10_paper 102 = .ok (.istore 5, 2) := by decide +kernel
theorem dX10_paper_104 : decode cX10_paper 104 = .ok (.iinc 6 1, 3) := by decide +kernel
theorem dX10_paper_107 : decode cX10_paper 107 = .ok (.goto (-53), 3) := by decide +kernel
theorem dX10_paper_110 : decode cX10_paper 110 = .ok (.iload 5, 2) := by decide +kernel
theorem dX10_paper_112 : decode cX10_paper 112 = .ok (.aload_n 0, 1) := by decide +kernel
theorem dX10_paper_113 : decode cX10_paper 113 = .ok (.getfield 25, 3) := by decide +kernel
theorem dX10_paper_116 : decode cX10_paper 116 = .ok (.iload 4, 2) := by decide +kernel
theorem dX10_paper_118 : decode cX10_paper 118 = .ok (.iaload, 1) := by decide +kernel
theorem dX10_paper_119 : decode cX10_paper 119 = .ok (.imul, 1) := by decide +kernel
theorem dX10_paper_120 : decode cX10_paper 120 = .ok (.iload_n 3, 1) := by decide +kernel
theorem dX10_paper_121 : decode cX10_paper 121 = .ok (.if_icmp .lt 21, 3) := by decide +kernel
theorem dX10_paper_124 : decode cX10_paper 124 = .ok (.aload_n 0, 1) := by decide +kernel
theorem dX10_paper_125 : decode cX10_paper 125 = .ok (.iload 4, 2) := by decide +kernel
theorem dX10_paper_127 : decode cX10_paper 127 = .ok (.invokevirtual 155, 3) := by decide +kernel
theorem dX10_paper_130 : decode cX10_paper 130 = .ok (.iload 5, 2) := by decide +kernel
theorem dX10_paper_132 : decode cX10_paper 132 = .ok (.imul, 1) := by decide +kernel
theorem dX10_paper_133 : decode cX10_paper 133 = .ok (.iload_n 3, 1) := by decide +kernel
theorem dX10_paper_134 : decode cX10_paper 134 = .ok (.iadd, 1) := by decide +kernel
theorem dX10_paper_135 : decode cX10_paper 135 = .ok (.iload 5, 2) := by decide +kernel
theorem dX10_paper_137 : decode cX10_paper 137 = .ok (.iload_n 2, 1) := by decide +kernel
theorem dX10_paper_138 : decode cX10_paper 138 = .ok (.invokestatic 267, 3) := by decide +kernel
theorem dX10_paper_141 : decode cX10_paper 141 = .ok (.ireturn, 1) := by decide +kernel
theorem dX10_paper_142 : decode cX10_paper 142 = .ok (.iload_n 3, 1) := by decide +kernel
theorem dX10_paper_143 : decode cX10_paper 143 = .ok (.iload 5, 2) := by decide +kernel
theorem dX10_paper_145 : decode cX10_paper 145 = .ok (.aload_n 0, 1) := by decide +kernel
theorem dX10_paper_146 : decode cX10_paper 146 = .ok (.getfield 25, 3) := by decide +kernel
theorem dX10_paper_149 : decode cX10_paper 149 = .ok (.iload 4, 2) := by decide +kernel
theorem dX10_paper_151 : decode cX10_paper 151 = .ok (.iaload, 1) := by decide +kernel
theorem dX10_paper_152 : decode cX10_paper 152 = .ok (.imul, 1) := by decide +kernel
theorem dX10_paper_153 : decode cX10_paper 153 = .ok (.isub, 1) := by decide +kernel
theorem dX10_paper_154 : decode cX10_paper 154 = .ok (.istore_n 3, 1) := by decide +kernel
theorem dX10_paper_155 : decode cX10_paper 155 = .ok (.iinc 4 1, 3) := by decide +kernel
theorem dX10_paper_158 : decode cX10_paper 158 = .ok (.goto (-128), 3) := by decide +kernel
theorem dX10_paper_161 : decode cX10_paper 161 = .ok (.bipush (-4), 2) := by decide +kernel
theorem dX10_paper_163 : decode cX10_paper 163 = .ok (.ireturn, 1) := by decide +kernel
theorem dX10_pole_0 : decode cX10_pole 0 = .ok (.aload_n 0, 1) := by decide +kernel
theorem dX10_pole_1 : decode cX10_pole 1 = .ok (.iload_n 1, 1) := by decide +kernel
theorem dX10_pole_2 : decode cX10_pole 2 = .ok (.i2l, 1) := by decide +kernel
theorem dX10_pole_3 : decode cX10_pole 3 = .ok (.invokevirtual 122, 3) := by decide +kernel
theorem dX10_pole_6 : decode cX10_pole 6 = .ok (.ifCond .eq 40, 3) := by decide +kernel
theorem dX10_pole_9 : decode cX10_pole 9 = .ok (.aload_n 0, 1) := by decide +kernel
theorem dX10_pole_10 : decode cX10_pole 10 = .ok (.iload_n 2, 1) := by decide +kernel
theorem dX10_pole_11 : decode cX10_pole 11 = .ok (.i2l, 1) := by decide +kernel
theorem dX10_pole_12 : decode cX10_pole 12 = .ok (.invokevirtual 122, 3) := by decide +kernel
theorem dX10_pole_15 : decode cX10_pole 15 = .ok (.ifCond .eq 31, 3) := by decide +kernel
theorem dX10_pole_18 : decode cX10_pole 18 = .ok (.iload_n 1, 1) := by decide +kernel
theorem dX10_pole_19 : decode cX10_pole 19 = .ok (.iload_n 2, 1) := by decide +kernel
theorem dX10_pole_20 : decode cX10_pole 20 = .ok (.if_icmp .eq 26, 3) := by decide +kernel
theorem dX10_pole_23 : decode cX10_pole 23 = .ok (.iload_n 3, 1) := by decide +kernel
theorem dX10_pole_24 : decode cX10_pole 24 = .ok (.i2l, 1) := by decide +kernel
theorem dX10_pole_25 : decode cX10_pole 25 = .ok (.lconst 1, 1) := by decide +kernel
theorem dX10_pole_26 : decode cX10_pole 26 = .ok (.ldc2_w 146, 3) := by decide +kernel
theorem dX10_pole_29 : decode cX10_pole 29 = .ok (.invokestatic 102, 3) := by decide +kernel
theorem dX10_pole_32 : decode cX10_pole 32 = .ok (.ifCond .eq 14, 3) := by decide +kernel
theorem dX10_pole_35 : decode cX10_pole 35 = .ok (.iload 4, 2) := by decide +kernel
theorem dX10_pole_37 : decode cX10_pole 37 = .ok (.i2l, 1) := by decide +kernel
theorem dX10_pole_38 : decode cX10_pole 38 = .ok (.lconst 0, 1) := by decide +kernel
theorem dX10_pole_39 : decode cX10_pole 39 = .ok (.lconst 1, 1) := by decide +kernel
theorem dX10_pole_40 : decode cX10_pole 40 = .ok (.invokestatic 102, 3) := by decide +kernel
theorem dX10_pole_43 : decode cX10_pole 43 = .ok (.ifCond .ne 5, 3) := by decide +kernel
theorem dX10_pole_46 : decode cX10_pole 46 = .ok (.iconst (-1), 1) := by decide +kernel
theorem dX10_pole_47 : decode cX10_pole 47 = .ok (.ireturn, 1) := by decide +kernel
theorem dX10_pole_48 : decode cX10_pole 48 = .ok (.iload_n 3, 1) := by decide +kernel
theorem dX10_pole_49 : decode cX10_pole 49 = .ok (.aload_n 0, 1) := by decide +kernel
theorem dX10_pole_50 : decode cX10_pole 50 = .ok (.getfield 13, 3) := by decide +kernel
theorem dX10_pole_53 : decode cX10_pole 53 = .ok (.iload_n 2, 1) := by decide +kernel
theorem dX10_pole_54 : decode cX10_pole 54 = .ok (.iaload, 1) := by decide +kernel
theorem dX10_pole_55 : decode cX10_pole 55 = .ok (.imul, 1) := by decide +kernel
theorem dX10_pole_56 : decode cX10_pole 56 = .ok (.aload_n 0, 1) := by decide +kernel
theorem dX10_pole_57 : decode cX10_pole 57 = .ok (.getfield 13, 3) := by decide +kernel
theorem dX10_pole_60 : decode cX10_pole 60 = .ok (.iload_n 1, 1) := by decide +kernel
theorem dX10_pole_61 : decode cX10_pole 61 = .ok (.iaload, 1) := by decide +kernel
theorem dX10_pole_62 : decode cX10_pole 62 = .ok (.aload_n 0, 1) := by decide +kernel
theorem dX10_pole_63 : decode cX10_pole 63 = .ok (.getfield 13, 3) := by decide +kernel
theorem dX10_pole_66 : decode cX10_pole 66 = .ok (.iload_n 2, 1) := by decide +kernel
theorem dX10_pole_67 : decode cX10_pole 67 = .ok (.iaload, 1) := by decide +kernel
theorem dX10_pole_68 : decode cX10_pole 68 = .ok (.iadd, 1) := by decide +kernel
theorem dX10_pole_69 : decode cX10_pole 69 = .ok (.iload 4, 2) := by decide +kernel
theorem dX10_pole_71 : decode cX10_pole 71 = .ok (.invokestatic 267, 3) := by decide +kernel
theorem dX10_pole_74 : decode cX10_pole 74 = .ok (.ireturn, 1) := by decide +kernel
theorem dX10_apart_0 : decode cX10_apart 0 = .ok (.aload_n 0, 1) := by decide +kernel
theorem dX10_apart_1 : decode cX10_apart 1 = .ok (.aload_n 0, 1) := by decide +kernel
theorem dX10_apart_2 : decode cX10_apart 2 = .ok (.getfield 19, 3) := by decide +kernel
theorem dX10_apart_5 : decode cX10_apart 5 = .ok (.iload_n 1, 1) := by decide +kernel
theorem dX10_apart_6 : decode cX10_apart 6 = .ok (.iaload, 1) := by decide +kernel
theorem dX10_apart_7 : decode cX10_apart 7 = .ok (.aload_n 0, 1) := by decide +kernel
theorem dX10_apart_8 : decode cX10_apart 8 = .ok (.getfield 19, 3) := by decide +kernel
theorem dX10_apart_11 : decode cX10_apart 11 = .ok (.iload_n 2, 1) := by decide +kernel
theorem dX10_apart_12 : decode cX10_apart 12 = .ok (.iaload, 1) := by decide +kernel
theorem dX10_apart_13 : decode cX10_apart 13 = .ok (.isub, 1) := by decide +kernel
theorem dX10_apart_14 : decode cX10_apart 14 = .ok (.invokevirtual 230, 3) := by decide +kernel
theorem dX10_apart_17 : decode cX10_apart 17 = .ok (.ireturn, 1) := by decide +kernel
theorem dX10_bought_0 : decode cX10_bought 0 = .ok (.iconst 0, 1) := by decide +kernel
theorem dX10_bought_1 : decode cX10_bought 1 = .ok (.istore_n 2, 1) := by decide +kernel
theorem dX10_bought_2 : decode cX10_bought 2 = .ok (.iconst 0, 1) := by decide +kernel
theorem dX10_bought_3 : decode cX10_bought 3 = .ok (.istore_n 3, 1) := by decide +kernel
theorem dX10_bought_4 : decode cX10_bought 4 = .ok (.iload_n 3, 1) := by decide +kernel
theorem dX10_bought_5 : decode cX10_bought 5 = .ok (.aload_n 0, 1) := by decide +kernel
theorem dX10_bought_6 : decode cX10_bought 6 = .ok (.getfield 98, 3) := by decide +kernel
theorem dX10_bought_9 : decode cX10_bought 9 = .ok (.if_icmp .ge 31, 3) := by decide +kernel
theorem dX10_bought_12 : decode cX10_bought 12 = .ok (.iload_n 2, 1) := by decide +kernel
theorem dX10_bought_13 : decode cX10_bought 13 = .ok (.iload_n 1, 1) := by decide +kernel
theorem dX10_bought_14 : decode cX10_bought 14 = .ok (.iload_n 3, 1) := by decide +kernel
theorem dX10_bought_15 : decode cX10_bought 15 = .ok (.ishr, 1) := by decide +kernel
theorem dX10_bought_16 : decode cX10_bought 16 = .ok (.iconst 1, 1) := by decide +kernel
theorem dX10_bought_17 : decode cX10_bought 17 = .ok (.iand, 1) := by decide +kernel
theorem dX10_bought_18 : decode cX10_bought 18 = .ok (.iconst 1, 1) := by decide +kernel
theorem dX10_bought_19 : decode cX10_bought 19 = .ok (.if_icmp .ne 12, 3) := by decide +kernel
theorem dX10_bought_22 : decode cX10_bought 22 = .ok (.aload_n 0, 1) := by decide +kernel
theorem dX10_bought_23 : decode cX10_bought 23 = .ok (.getfield 13, 3) := by decide +kernel
theorem dX10_bought_26 : decode cX10_bought 26 = .ok (.iload_n 3, 1) := by decide +kernel
theorem dX10_bought_27 : decode cX10_bought 27 = .ok (.iaload, 1) := by decide +kernel
theorem dX10_bought_28 : decode cX10_bought 28 = .ok (.goto 4, 3) := by decide +kernel
theorem dX10_bought_31 : decode cX10_bought 31 = .ok (.iconst 0, 1) := by decide +kernel
theorem dX10_bought_32 : decode cX10_bought 32 = .ok (.iadd, 1) := by decide +kernel
theorem dX10_bought_33 : decode cX10_bought 33 = .ok (.istore_n 2, 1) := by decide +kernel
theorem dX10_bought_34 : decode cX10_bought 34 = .ok (.iinc 3 1, 3) := by decide +kernel
theorem dX10_bought_37 : decode cX10_bought 37 = .ok (.goto (-33), 3) := by decide +kernel
theorem dX10_bought_40 : decode cX10_bought 40 = .ok (.iload_n 2, 1) := by decide +kernel
theorem dX10_bought_41 : decode cX10_bought 41 = .ok (.ireturn, 1) := by decide +kernel
theorem dX10_onFrom_0 : decode cX10_onFrom 0 = .ok (.iconst 1, 1) := by decide +kernel
theorem dX10_onFrom_1 : decode cX10_onFrom 1 = .ok (.aload_n 0, 1) := by decide +kernel
theorem dX10_onFrom_2 : decode cX10_onFrom 2 = .ok (.getfield 98, 3) := by decide +kernel
theorem dX10_onFrom_5 : decode cX10_onFrom 5 = .ok (.ishl, 1) := by decide +kernel
theorem dX10_onFrom_6 : decode cX10_onFrom 6 = .ok (.iconst 1, 1) := by decide +kernel
theorem dX10_onFrom_7 : decode cX10_onFrom 7 = .ok (.isub, 1) := by decide +kernel
theorem dX10_onFrom_8 : decode cX10_onFrom 8 = .ok (.istore_n 3, 1) := by decide +kernel
theorem dX10_onFrom_9 : decode cX10_onFrom 9 = .ok (.iload_n 1, 1) := by decide +kernel
theorem dX10_onFrom_10 : decode cX10_onFrom 10 = .ok (.iload_n 3, 1) := by decide +kernel
theorem dX10_onFrom_11 : decode cX10_onFrom 11 = .ok (.if_icmp .ne 23, 3) := by decide +kernel
theorem dX10_onFrom_14 : decode cX10_onFrom 14 = .ok (.aload_n 0, 1) := by decide +kernel
theorem dX10_onFrom_15 : decode cX10_onFrom 15 = .ok (.aload_n 0, 1) := by decide +kernel
theorem dX10_onFrom_16 : decode cX10_onFrom 16 = .ok (.getfield 19, 3) := by decide +kernel
theorem dX10_onFrom_19 : decode cX10_onFrom 19 = .ok (.iload_n 2, 1) := by decide +kernel
theorem dX10_onFrom_20 : decode cX10_onFrom 20 = .ok (.iaload, 1) := by decide +kernel
theorem dX10_onFrom_21 : decode cX10_onFrom 21 = .ok (.bipush 50, 2) := by decide +kernel
theorem dX10_onFrom_23 : decode cX10_onFrom 23 = .ok (.isub, 1) := by decide +kernel
theorem dX10_onFrom_24 : decode cX10_onFrom 24 = .ok (.invokevirtual 230, 3) := by decide +kernel
theorem dX10_onFrom_27 : decode cX10_onFrom 27 = .ok (.aload_n 0, 1) := by decide +kernel
theorem dX10_onFrom_28 : decode cX10_onFrom 28 = .ok (.iload_n 3, 1) := by decide +kernel
theorem dX10_onFrom_29 : decode cX10_onFrom 29 = .ok (.invokevirtual 271, 3) := by decide +kernel
theorem dX10_onFrom_32 : decode cX10_onFrom 32 = .ok (.imul, 1) := by decide +kernel
theorem dX10_onFrom_33 : decode cX10_onFrom 33 = .ok (.ireturn, 1) := by decide +kernel
theorem dX10_onFrom_34 : decode cX10_onFrom 34 = .ok (.iconst (-1), 1) := by decide +kernel
theorem dX10_onFrom_35 : decode cX10_onFrom 35 = .ok (.istore 4, 2) := by decide +kernel
theorem dX10_onFrom_37 : decode cX10_onFrom 37 = .ok (.iconst 0, 1) := by decide +kernel
theorem dX10_onFrom_38 : decode cX10_onFrom 38 = .ok (.istore 5, 2) := by decide +kernel
theorem dX10_onFrom_40 : decode cX10_onFrom 40 = .ok (.iload 5, 2) := by decide +kernel
theorem dX10_onFrom_42 : decode cX10_onFrom 42 = .ok (.aload_n 0, 1) := by decide +kernel
theorem dX10_onFrom_43 : decode cX10_onFrom 43 = .ok (.getfield 98, 3) := by decide +kernel
theorem dX10_onFrom_46 : decode cX10_onFrom 46 = .ok (.if_icmp .ge 72, 3) := by decide +kernel
theorem dX10_onFrom_49 : decode cX10_onFrom 49 = .ok (.iload_n 1, 1) := by decide +kernel
theorem dX10_onFrom_50 : decode cX10_onFrom 50 = .ok (.iload 5, 2) := by decide +kernel
theorem dX10_onFrom_52 : decode cX10_onFrom 52 = .ok (.ishr, 1) := by decide +kernel
theorem dX10_onFrom_53 : decode cX10_onFrom 53 = .ok (.iconst 1, 1) := by decide +kernel
theorem dX10_onFrom_54 : decode cX10_onFrom 54 = .ok (.iand, 1) := by decide +kernel
theorem dX10_onFrom_55 : decode cX10_onFrom 55 = .ok (.ifCond .ne 57, 3) := by decide +kernel
theorem dX10_onFrom_58 : decode cX10_onFrom 58 = .ok (.aload_n 0, 1) := by decide +kernel
theorem dX10_onFrom_59 : decode cX10_onFrom 59 = .ok (.iload_n 2, 1) := by decide +kernel
theorem dX10_onFrom_60 : decode cX10_onFrom 60 = .ok (.iload 5, 2) := by decide +kernel
theorem dX10_onFrom_62 : decode cX10_onFrom 62 = .ok (.invokevirtual 274, 3) := by decide +kernel
theorem dX10_onFrom_65 : decode cX10_onFrom 65 = .ok (.aload_n 0, 1) := by decide +kernel
theorem dX10_onFrom_66 : decode cX10_onFrom 66 = .ok (.iload_n 1, 1) := by decide +kernel
theorem dX10_onFrom_67 : decode cX10_onFrom 67 = .ok (.invokevirtual 271, 3) := by decide +kernel
theorem dX10_onFrom_70 : decode cX10_onFrom 70 = .ok (.imul, 1) := by decide +kernel
theorem dX10_onFrom_71 : decode cX10_onFrom 71 = .ok (.aload_n 0, 1) := by decide +kernel
theorem dX10_onFrom_72 : decode cX10_onFrom 72 = .ok (.getfield 70, 3) := by decide +kernel
theorem dX10_onFrom_75 : decode cX10_onFrom 75 = .ok (.bipush 10, 2) := by decide +kernel
theorem dX10_onFrom_77 : decode cX10_onFrom 77 = .ok (.iload_n 1, 1) := by decide +kernel
theorem dX10_onFrom_78 : decode cX10_onFrom 78 = .ok (.iconst 1, 1) := by decide +kernel
theorem dX10_onFrom_79 : decode cX10_onFrom 79 = .ok (.iload 5, 2) := by decide +kernel
theorem dX10_onFrom_81 : decode cX10_onFrom 81 = .ok (.ishl, 1) := by decide +kernel
theorem dX10_onFrom_82 : decode cX10_onFrom 82 = .ok (.ior, 1) := by decide +kernel
theorem dX10_onFrom_83 : decode cX10_onFrom 83 = .ok (.imul, 1) := by decide +kernel
theorem dX10_onFrom_84 : decode cX10_onFrom 84 = .ok (.iload 5, 2) := by decide +kernel
theorem dX10_onFrom_86 : decode cX10_onFrom 86 = .ok (.iadd, 1) := by decide +kernel
theorem dX10_onFrom_87 : decode cX10_onFrom 87 = .ok (.iaload, 1) := by decide +kernel
theorem dX10_onFrom_88 : decode cX10_onFrom 88 = .ok (.iadd, 1) := by decide +kernel
theorem dX10_onFrom_89 : decode cX10_onFrom 89 = .ok (.istore 6, 2) := by decide +kernel
theorem dX10_onFrom_91 : decode cX10_onFrom 91 = .ok (.iload 4, 2) := by decide +kernel
theorem dX10_onFrom_93 : decode cX10_onFrom 93 = .ok (.ifCond .lt 10, 3) := by decide +kernel
theorem dX10_onFrom_96 : decode cX10_onFrom 96 = .ok (.iload 6, 2) := by decide +kernel
theorem dX10_onFrom_98 : decode cX10_onFrom 98 = .ok (.iload 4, 2) := by decide +kernel
theorem dX10_onFrom_100 : decode cX10_onFrom 100 = .ok (.if_icmp .ge 8, 3) := by decide +kernel
theorem dX10_onFrom_103 : decode cX10_onFrom 103 = .ok (.iload 6, 2) := by decide +kernel
theorem dX10_onFrom_105 : decode cX10_onFrom 105 = .ok (.goto 5, 3) := by decide +kernel
theorem dX10_onFrom_108 : decode cX10_onFrom 108 = .ok (.iload 4, 2) := by decide +kernel
theorem dX10_onFrom_110 : decode cX10_onFrom 110 = .ok (.istore 4, 2) := by decide +kernel
theorem dX10_onFrom_112 : decode cX10_onFrom 112 = .ok (.iinc 5 1, 3) := by decide +kernel
theorem dX10_onFrom_115 : decode cX10_onFrom 115 = .ok (.goto (-75), 3) := by decide +kernel
theorem dX10_onFrom_118 : decode cX10_onFrom 118 = .ok (.iload 4, 2) := by decide +kernel
theorem dX10_onFrom_120 : decode cX10_onFrom 120 = .ok (.ireturn, 1) := by decide +kernel
theorem dX10_buying_0 : decode cX10_buying 0 = .ok (.iload_n 1, 1) := by decide +kernel
theorem dX10_buying_1 : decode cX10_buying 1 = .ok (.iconst (-1), 1) := by decide +kernel
theorem dX10_buying_2 : decode cX10_buying 2 = .ok (.if_icmp .eq 14, 3) := by decide +kernel
theorem dX10_buying_5 : decode cX10_buying 5 = .ok (.aload_n 0, 1) := by decide +kernel
theorem dX10_buying_6 : decode cX10_buying 6 = .ok (.iload_n 1, 1) := by decide +kernel
theorem dX10_buying_7 : decode cX10_buying 7 = .ok (.i2l, 1) := by decide +kernel
theorem dX10_buying_8 : decode cX10_buying 8 = .ok (.invokevirtual 122, 3) := by decide +kernel
theorem dX10_buying_11 : decode cX10_buying 11 = .ok (.ifCond .ne 5, 3) := by decide +kernel
theorem dX10_buying_14 : decode cX10_buying 14 = .ok (.iconst (-1), 1) := by decide +kernel
theorem dX10_buying_15 : decode cX10_buying 15 = .ok (.ireturn, 1) := by decide +kernel
theorem dX10_buying_16 : decode cX10_buying 16 = .ok (.iconst 1, 1) := by decide +kernel
theorem dX10_buying_17 : decode cX10_buying 17 = .ok (.aload_n 0, 1) := by decide +kernel
theorem dX10_buying_18 : decode cX10_buying 18 = .ok (.getfield 98, 3) := by decide +kernel
theorem dX10_buying_21 : decode cX10_buying 21 = .ok (.ishl, 1) := by decide +kernel
theorem dX10_buying_22 : decode cX10_buying 22 = .ok (.iconst 1, 1) := by decide +kernel
theorem dX10_buying_23 : decode cX10_buying 23 = .ok (.isub, 1) := by decide +kernel
theorem dX10_buying_24 : decode cX10_buying 24 = .ok (.istore_n 2, 1) := by decide +kernel
theorem dX10_buying_25 : decode cX10_buying 25 = .ok (.iload_n 2, 1) := by decide +kernel
theorem dX10_buying_26 : decode cX10_buying 26 = .ok (.ifCond .le 51, 3) := by decide +kernel
theorem dX10_buying_29 : decode cX10_buying 29 = .ok (.iconst 0, 1) := by decide +kernel
theorem dX10_buying_30 : decode cX10_buying 30 = .ok (.istore_n 3, 1) := by decide +kernel
theorem dX10_buying_31 : decode cX10_buying 31 = .ok (.iload_n 3, 1) := by decide +kernel
theorem dX10_buying_32 : decode cX10_buying 32 = .ok (.aload_n 0, 1) := by decide +kernel
theorem dX10_buying_33 : decode cX10_buying 33 = .ok (.getfield 98, 3) := by decide +kernel
theorem dX10_buying_36 : decode cX10_buying 36 = .ok (.if_icmp .ge 35, 3) := by decide +kernel
theorem dX10_buying_39 : decode cX10_buying 39 = .ok (.iload_n 2, 1) := by decide +kernel
theorem dX10_buying_40 : decode cX10_buying 40 = .ok (.iload_n 3, 1) := by decide +kernel
theorem dX10_buying_41 : decode cX10_buying 41 = .ok (.ishr, 1) := by decide +kernel
theorem dX10_buying_42 : decode cX10_buying 42 = .ok (.iconst 1, 1) := by decide +kernel
theorem dX10_buying_43 : decode cX10_buying 43 = .ok (.iand, 1) := by decide +kernel
theorem dX10_buying_44 : decode cX10_buying 44 = .ok (.iconst 1, 1) := by decide +kernel
theorem dX10_buying_45 : decode cX10_buying 45 = .ok (.if_icmp .ne 20, 3) := by decide +kernel
theorem dX10_buying_48 : decode cX10_buying 48 = .ok (.aload_n 0, 1) := by decide +kernel
theorem dX10_buying_49 : decode cX10_buying 49 = .ok (.getfield 70, 3) := by decide +kernel
theorem dX10_buying_52 : decode cX10_buying 52 = .ok (.bipush 10, 2) := by decide +kernel
theorem dX10_buying_54 : decode cX10_buying 54 = .ok (.iload_n 2, 1) := by decide +kernel
theorem dX10_buying_55 : decode cX10_buying 55 = .ok (.imul, 1) := by decide +kernel
theorem dX10_buying_56 : decode cX10_buying 56 = .ok (.iload_n 3, 1) := by decide +kernel
theorem dX10_buying_57 : decode cX10_buying 57 = .ok (.iadd, 1) := by decide +kernel
theorem dX10_buying_58 : decode cX10_buying 58 = .ok (.aload_n 0, 1) := by decide +kernel
theorem dX10_buying_59 : decode cX10_buying 59 = .ok (.iload_n 2, 1) := by decide +kernel
theorem dX10_buying_60 : decode cX10_buying 60 = .ok (.iload_n 3, 1) := by decide +kernel
theorem dX10_buying_61 : decode cX10_buying 61 = .ok (.invokevirtual 277, 3) := by decide +kernel
theorem dX10_buying_64 : decode cX10_buying 64 = .ok (.iastore, 1) := by decide +kernel
theorem dX10_buying_65 : decode cX10_buying 65 = .ok (.iinc 3 1, 3) := by decide +kernel
theorem dX10_buying_68 : decode cX10_buying 68 = .ok (.goto (-37), 3) := by decide +kernel
theorem dX10_buying_71 : decode cX10_buying 71 = .ok (.iinc 2 (-1), 3) := by decide +kernel
theorem dX10_buying_74 : decode cX10_buying 74 = .ok (.goto (-49), 3) := by decide +kernel
theorem dX10_buying_77 : decode cX10_buying 77 = .ok (.iconst 0, 1) := by decide +kernel
theorem dX10_buying_78 : decode cX10_buying 78 = .ok (.istore_n 2, 1) := by decide +kernel
theorem dX10_buying_79 : decode cX10_buying 79 = .ok (.iconst (-1), 1) := by decide +kernel
theorem dX10_buying_80 : decode cX10_buying 80 = .ok (.istore_n 3, 1) := by decide +kernel
theorem dX10_buying_81 : decode cX10_buying 81 = .ok (.iconst 0, 1) := by decide +kernel
theorem dX10_buying_82 : decode cX10_buying 82 = .ok (.istore 4, 2) := by decide +kernel
theorem dX10_buying_84 : decode cX10_buying 84 = .ok (.iconst 0, 1) := by decide +kernel
theorem dX10_buying_85 : decode cX10_buying 85 = .ok (.istore 5, 2) := by decide +kernel
theorem dX10_buying_87 : decode cX10_buying 87 = .ok (.iload 5, 2) := by decide +kernel
theorem dX10_buying_89 : decode cX10_buying 89 = .ok (.aload_n 0, 1) := by decide +kernel
theorem dX10_buying_90 : decode cX10_buying 90 = .ok (.getfield 98, 3) := by decide +kernel
theorem dX10_buying_93 : decode cX10_buying 93 = .ok (.if_icmp .ge 179, 3) := by decide +kernel
theorem dX10_buying_96 : decode cX10_buying 96 = .ok (.iload 5, 2) := by decide +kernel
theorem dX10_buying_98 : decode cX10_buying 98 = .ok (.iload_n 1, 1) := by decide +kernel
theorem dX10_buying_99 : decode cX10_buying 99 = .ok (.ifCond .ge 7, 3) := by decide +kernel
theorem dX10_buying_102 : decode cX10_buying 102 = .ok (.iconst 0, 1) := by decide +kernel
theorem dX10_buying_103 : decode cX10_buying 103 = .ok (.goto 4, 3) := by decide +kernel
theorem dX10_buying_106 : decode cX10_buying 106 = .ok (.iload_n 1, 1) := by decide +kernel
theorem dX10_buying_107 : decode cX10_buying 107 = .ok (.if_icmp .gt 165, 3) := by decide +kernel
theorem dX10_buying_110 : decode cX10_buying 110 = .ok (.iconst (-1), 1) := by decide +kernel
theorem dX10_buying_111 : decode cX10_buying 111 = .ok (.istore 6, 2) := by decide +kernel
theorem dX10_buying_113 : decode cX10_buying 113 = .ok (.iconst 0, 1) := by decide +kernel
theorem dX10_buying_114 : decode cX10_buying 114 = .ok (.istore 7, 2) := by decide +kernel
theorem dX10_buying_116 : decode cX10_buying 116 = .ok (.iconst 0, 1) := by decide +kernel
theorem dX10_buying_117 : decode cX10_buying 117 = .ok (.istore 8, 2) := by decide +kernel
theorem dX10_buying_119 : decode cX10_buying 119 = .ok (.iload 8, 2) := by decide +kernel
theorem dX10_buying_121 : decode cX10_buying 121 = .ok (.aload_n 0, 1) := by decide +kernel
theorem dX10_buying_122 : decode cX10_buying 122 = .ok (.getfield 98, 3) := by decide +kernel
theorem dX10_buying_125 : decode cX10_buying 125 = .ok (.if_icmp .ge 117, 3) := by decide +kernel
theorem dX10_buying_128 : decode cX10_buying 128 = .ok (.iload_n 2, 1) := by decide +kernel
theorem dX10_buying_129 : decode cX10_buying 129 = .ok (.iload 8, 2) := by decide +kernel
theorem dX10_buying_131 : decode cX10_buying 131 = .ok (.ishr, 1) := by decide +kernel
theorem dX10_buying_132 : decode cX10_buying 132 = .ok (.iconst 1, 1) := by decide +kernel
theorem dX10_buying_133 : decode cX10_buying 133 = .ok (.iand, 1) := by decide +kernel
theorem dX10_buying_134 : decode cX10_buying 134 = .ok (.iconst 1, 1) := by decide +kernel
theorem dX10_buying_135 : decode cX10_buying 135 = .ok (.if_icmp .ne 7, 3) := by decide +kernel
theorem dX10_buying_138 : decode cX10_buying 138 = .ok (.iconst (-1), 1) := by decide +kernel
theorem dX10_buying_139 : decode cX10_buying 139 = .ok (.goto 43, 3) := by decide +kernel
theorem dX10_buying_142 : decode cX10_buying 142 = .ok (.iload 5, 2) := by decide +kernel
theorem dX10_buying_144 : decode cX10_buying 144 = .ok (.ifCond .ne 7, 3) := by decide +kernel
theorem dX10_buying_147 : decode cX10_buying 147 = .ok (.iconst 0, 1) := by decide +kernel
theorem dX10_buying_148 : decode cX10_buying 148 = .ok (.goto 16, 3) := by decide +kernel
theorem dX10_buying_151 : decode cX10_buying 151 = .ok (.aload_n 0, 1) := by decide +kernel
theorem dX10_buying_152 : decode cX10_buying 152 = .ok (.iload_n 3, 1) := by decide +kernel
theorem dX10_buying_153 : decode cX10_buying 153 = .ok (.iload 8, 2) := by decide +kernel
theorem dX10_buying_155 : decode cX10_buying 155 = .ok (.invokevirtual 274, 3) := by decide +kernel
theorem dX10_buying_158 : decode cX10_buying 158 = .ok (.aload_n 0, 1) := by decide +kernel
theorem dX10_buying_159 : decode cX10_buying 159 = .ok (.iload_n 2, 1) := by decide +kernel
theorem dX10_buying_160 : decode cX10_buying 160 = .ok (.invokevirtual 271, 3) := by decide +kernel
theorem dX10_buying_163 : decode cX10_buying 163 = .ok (.imul, 1) := by decide +kernel
theorem dX10_buying_164 : decode cX10_buying 164 = .ok (.aload_n 0, 1) := by decide +kernel
theorem dX10_buying_165 : decode cX10_buying 165 = .ok (.getfield 70, 3) := by decide +kernel
theorem dX10_buying_168 : decode cX10_buying 168 = .ok (.bipush 10, 2) := by decide +kernel
theorem dX10_buying_170 : decode cX10_buying 170 = .ok (.iload_n 2, 1) := by decide +kernel
theorem dX10_buying_171 : decode cX10_buying 171 = .ok (.iconst 1, 1) := by decide +kernel
theorem dX10_buying_172 : decode cX10_buying 172 = .ok (.iload 8, 2) := by decide +kernel
theorem dX10_buying_174 : decode cX10_buying 174 = .ok (.ishl, 1) := by decide +kernel
theorem dX10_buying_175 : decode cX10_buying 175 = .ok (.ior, 1) := by decide +kernel
theorem dX10_buying_176 : decode cX10_buying 176 = .ok (.imul, 1) := by decide +kernel
theorem dX10_buying_177 : decode cX10_buying 177 = .ok (.iload 8, 2) := by decide +kernel
theorem dX10_buying_179 : decode cX10_buying 179 = .ok (.iadd, 1) := by decide +kernel
theorem dX10_buying_180 : decode cX10_buying 180 = .ok (.iaload, 1) := by decide +kernel
theorem dX10_buying_181 : decode cX10_buying 181 = .ok (.iadd, 1) := by decide +kernel
theorem dX10_buying_182 : decode cX10_buying 182 = .ok (.istore 9, 2) := by decide +kernel
theorem dX10_buying_184 : decode cX10_buying 184 = .ok (.iload 9, 2) := by decide +kernel
theorem dX10_buying_186 : decode cX10_buying 186 = .ok (.ifCond .lt 19, 3) := by decide +kernel
theorem dX10_buying_189 : decode cX10_buying 189 = .ok (.iload 6, 2) := by decide +kernel
theorem dX10_buying_191 : decode cX10_buying 191 = .ok (.ifCond .lt 10, 3) := by decide +kernel
theorem dX10_buying_194 : decode cX10_buying 194 = .ok (.iload 9, 2) := by decide +kernel
theorem dX10_buying_196 : decode cX10_buying 196 = .ok (.iload 7, 2) := by decide +kernel
theorem dX10_buying_198 : decode cX10_buying 198 = .ok (.if_icmp .ge 7, 3) := by decide +kernel
theorem dX10_buying_201 : decode cX10_buying 201 = .ok (.iconst 1, 1) := by decide +kernel
theorem dX10_buying_202 : decode cX10_buying 202 = .ok (.goto 4, 3) := by decide +kernel
theorem dX10_buying_205 : decode cX10_buying 205 = .ok (.iconst 0, 1) := by decide +kernel
theorem dX10_buying_206 : decode cX10_buying 206 = .ok (.istore 10, 2) := by decide +kernel
theorem dX10_buying_208 : decode cX10_buying 208 = .ok (.iload 10, 2) := by decide +kernel
theorem dX10_buying_210 : decode cX10_buying 210 = .ok (.ifCond .eq 8, 3) := by decide +kernel
theorem dX10_buying_213 : decode cX10_buying 213 = .ok (.iload 8, 2) := by decide +kernel
theorem dX10_buying_215 : decode cX10_buying 215 = .ok (.goto 5, 3) := by decide +kernel
theorem dX10_buying_218 : decode cX10_buying 218 = .ok (.iload 6, 2) := by decide +kernel
theorem dX10_buying_220 : decode cX10_buying 220 = .ok (.istore 6, 2) := by decide +kernel
theorem dX10_buying_222 : decode cX10_buying 222 = .ok (.iload 10, 2) := by decide +kernel
theorem dX10_buying_224 : decode cX10_buying 224 = .ok (.ifCond .eq 8, 3) := by decide +kernel
theorem dX10_buying_227 : decode cX10_buying 227 = .ok (.iload 9, 2) := by decide +kernel
theorem dX10_buying_229 : decode cX10_buying 229 = .ok (.goto 5, 3) := by decide +kernel
theorem dX10_buying_232 : decode cX10_buying 232 = .ok (.iload 7, 2) := by decide +kernel
theorem dX10_buying_234 : decode cX10_buying 234 = .ok (.istore 7, 2) := by decide +kernel
theorem dX10_buying_236 : decode cX10_buying 236 = .ok (.iinc 8 1, 3) := by decide +kernel
theorem dX10_buying_239 : decode cX10_buying 239 = .ok (.goto (-120), 3) := by decide +kernel
theorem dX10_buying_242 : decode cX10_buying 242 = .ok (.iload 5, 2) := by decide +kernel
theorem dX10_buying_244 : decode cX10_buying 244 = .ok (.ifCond .ne 8, 3) := by decide +kernel
theorem dX10_buying_247 : decode cX10_buying 247 = .ok (.iload 7, 2) := by decide +kernel
theorem dX10_buying_249 : decode cX10_buying 249 = .ok (.goto 5, 3) := by decide +kernel
theorem dX10_buying_252 : decode cX10_buying 252 = .ok (.iload 4, 2) := by decide +kernel
theorem dX10_buying_254 : decode cX10_buying 254 = .ok (.istore 4, 2) := by decide +kernel
theorem dX10_buying_256 : decode cX10_buying 256 = .ok (.iload_n 2, 1) := by decide +kernel
theorem dX10_buying_257 : decode cX10_buying 257 = .ok (.iconst 1, 1) := by decide +kernel
theorem dX10_buying_258 : decode cX10_buying 258 = .ok (.iload 6, 2) := by decide +kernel
theorem dX10_buying_260 : decode cX10_buying 260 = .ok (.ishl, 1) := by decide +kernel
theorem dX10_buying_261 : decode cX10_buying 261 = .ok (.ior, 1) := by decide +kernel
theorem dX10_buying_262 : decode cX10_buying 262 = .ok (.istore_n 2, 1) := by decide +kernel
theorem dX10_buying_263 : decode cX10_buying 263 = .ok (.iload 6, 2) := by decide +kernel
theorem dX10_buying_265 : decode cX10_buying 265 = .ok (.istore_n 3, 1) := by decide +kernel
theorem dX10_buying_266 : decode cX10_buying 266 = .ok (.iinc 5 1, 3) := by decide +kernel
theorem dX10_buying_269 : decode cX10_buying 269 = .ok (.goto (-182), 3) := by decide +kernel
theorem dX10_buying_272 : decode cX10_buying 272 = .ok (.iload_n 1, 1) := by decide +kernel
theorem dX10_buying_273 : decode cX10_buying 273 = .ok (.ifCond .ge 8, 3) := by decide +kernel
theorem dX10_buying_276 : decode cX10_buying 276 = .ok (.iload 4, 2) := by decide +kernel
theorem dX10_buying_278 : decode cX10_buying 278 = .ok (.goto 4, 3) := by decide +kernel
theorem dX10_buying_281 : decode cX10_buying 281 = .ok (.iload_n 3, 1) := by decide +kernel
theorem dX10_buying_282 : decode cX10_buying 282 = .ok (.ireturn, 1) := by decide +kernel
theorem dX10_isEnd_0 : decode cX10_isEnd 0 = .ok (.iload_n 1, 1) := by decide +kernel
theorem dX10_isEnd_1 : decode cX10_isEnd 1 = .ok (.bipush 10, 2) := by decide +kernel
theorem dX10_isEnd_3 : decode cX10_isEnd 3 = .ok (.if_icmp .ge 12, 3) := by decide +kernel
theorem dX10_isEnd_6 : decode cX10_isEnd 6 = .ok (.aload_n 0, 1) := by decide +kernel
theorem dX10_isEnd_7 : decode cX10_isEnd 7 = .ok (.iload_n 1, 1) := by decide +kernel
theorem dX10_isEnd_8 : decode cX10_isEnd 8 = .ok (.i2l, 1) := by decide +kernel
theorem dX10_isEnd_9 : decode cX10_isEnd 9 = .ok (.invokevirtual 122, 3) := by decide +kernel
theorem dX10_isEnd_12 : decode cX10_isEnd 12 = .ok (.goto 19, 3) := by decide +kernel
theorem dX10_isEnd_15 : decode cX10_isEnd 15 = .ok (.iload_n 1, 1) := by decide +kernel
theorem dX10_isEnd_16 : decode cX10_isEnd 16 = .ok (.bipush 10, 2) := by decide +kernel
theorem dX10_isEnd_18 : decode cX10_isEnd 18 = .ok (.isub, 1) := by decide +kernel
theorem dX10_isEnd_19 : decode cX10_isEnd 19 = .ok (.i2l, 1) := by decide +kernel
theorem dX10_isEnd_20 : decode cX10_isEnd 20 = .ok (.lconst 0, 1) := by decide +kernel
theorem dX10_isEnd_21 : decode cX10_isEnd 21 = .ok (.aload_n 0, 1) := by decide +kernel
theorem dX10_isEnd_22 : decode cX10_isEnd 22 = .ok (.getfield 119, 3) := by decide +kernel
theorem dX10_isEnd_25 : decode cX10_isEnd 25 = .ok (.iconst 1, 1) := by decide +kernel
theorem dX10_isEnd_26 : decode cX10_isEnd 26 = .ok (.isub, 1) := by decide +kernel
theorem dX10_isEnd_27 : decode cX10_isEnd 27 = .ok (.i2l, 1) := by decide +kernel
theorem dX10_isEnd_28 : decode cX10_isEnd 28 = .ok (.invokestatic 102, 3) := by decide +kernel
theorem dX10_isEnd_31 : decode cX10_isEnd 31 = .ok (.ireturn, 1) := by decide +kernel
theorem dX10_bar_0 : decode cX10_bar 0 = .ok (.aload_n 0, 1) := by decide +kernel
theorem dX10_bar_1 : decode cX10_bar 1 = .ok (.iload_n 1, 1) := by decide +kernel
theorem dX10_bar_2 : decode cX10_bar 2 = .ok (.invokevirtual 280, 3) := by decide +kernel
theorem dX10_bar_5 : decode cX10_bar 5 = .ok (.ifCond .eq 16, 3) := by decide +kernel
theorem dX10_bar_8 : decode cX10_bar 8 = .ok (.aload_n 0, 1) := by decide +kernel
theorem dX10_bar_9 : decode cX10_bar 9 = .ok (.iload_n 2, 1) := by decide +kernel
theorem dX10_bar_10 : decode cX10_bar 10 = .ok (.invokevirtual 280, 3) := by decide +kernel
theorem dX10_bar_13 : decode cX10_bar 13 = .ok (.ifCond .eq 8, 3) := by decide +kernel
theorem dX10_bar_16 : decode cX10_bar 16 = .ok (.iload_n 1, 1) := by decide +kernel
theorem dX10_bar_17 : decode cX10_bar 17 = .ok (.iload_n 2, 1) := by decide +kernel
theorem dX10_bar_18 : decode cX10_bar 18 = .ok (.if_icmp .ne 5, 3) := by decide +kernel
theorem dX10_bar_21 : decode cX10_bar 21 = .ok (.iconst (-1), 1) := by decide +kernel
theorem dX10_bar_22 : decode cX10_bar 22 = .ok (.ireturn, 1) := by decide +kernel
theorem dX10_bar_23 : decode cX10_bar 23 = .ok (.aload_n 0, 1) := by decide +kernel
theorem dX10_bar_24 : decode cX10_bar 24 = .ok (.iload_n 1, 1) := by decide +kernel
theorem dX10_bar_25 : decode cX10_bar 25 = .ok (.invokevirtual 126, 3) := by decide +kernel
theorem dX10_bar_28 : decode cX10_bar 28 = .ok (.ifCond .ne 11, 3) := by decide +kernel
theorem dX10_bar_31 : decode cX10_bar 31 = .ok (.aload_n 0, 1) := by decide +kernel
theorem dX10_bar_32 : decode cX10_bar 32 = .ok (.iload_n 2, 1) := by decide +kernel
theorem dX10_bar_33 : decode cX10_bar 33 = .ok (.invokevirtual 126, 3) := by decide +kernel
theorem dX10_bar_36 : decode cX10_bar 36 = .ok (.ifCond .eq 6, 3) := by decide +kernel
theorem dX10_bar_39 : decode cX10_bar 39 = .ok (.bipush (-2), 2) := by decide +kernel
theorem dX10_bar_41 : decode cX10_bar 41 = .ok (.ireturn, 1) := by decide +kernel
theorem dX10_bar_42 : decode cX10_bar 42 = .ok (.aload_n 0, 1) := by decide +kernel
theorem dX10_bar_43 : decode cX10_bar 43 = .ok (.getfield 119, 3) := by decide +kernel
theorem dX10_bar_46 : decode cX10_bar 46 = .ok (.bipush 6, 2) := by decide +kernel
theorem dX10_bar_48 : decode cX10_bar 48 = .ok (.if_icmp .ne 6, 3) := by decide +kernel
theorem dX10_bar_51 : decode cX10_bar 51 = .ok (.bipush (-3), 2) := by decide +kernel
theorem dX10_bar_53 : decode cX10_bar 53 = .ok (.ireturn, 1) := by decide +kernel
theorem dX10_bar_54 : decode cX10_bar 54 = .ok (.aload_n 0, 1) := by decide +kernel
theorem dX10_bar_55 : decode cX10_bar 55 = .ok (.getfield 49, 3) := by decide +kernel
theorem dX10_bar_58 : decode cX10_bar 58 = .ok (.aload_n 0, 1) := by decide +kernel
theorem dX10_bar_59 : decode cX10_bar 59 = .ok (.getfield 119, 3) := by decide +kernel
theorem dX10_bar_62 : decode cX10_bar 62 = .ok (.iload_n 1, 1) := by decide +kernel
theorem dX10_bar_63 : decode cX10_bar 63 = .ok (.iastore, 1) := by decide +kernel
theorem dX10_bar_64 : decode cX10_bar 64 = .ok (.aload_n 0, 1) := by decide +kernel
theorem dX10_bar_65 : decode cX10_bar 65 = .ok (.getfield 52, 3) := by decide +kernel
theorem dX10_bar_68 : decode cX10_bar 68 = .ok (.aload_n 0, 1) := by decide +kernel
theorem dX10_bar_69 : decode cX10_bar 69 = .ok (.getfield 119, 3) := by decide +kernel
theorem dX10_bar_72 : decode cX10_bar 72 = .ok (.iload_n 2, 1) := by decide +kernel
theorem dX10_bar_73 : decode cX10_bar 73 = .ok (.iastore, 1) := by decide +kernel
theorem dX10_bar_74 : decode cX10_bar 74 = .ok (.aload_n 0, 1) := by decide +kernel
theorem dX10_bar_75 : decode cX10_bar 75 = .ok (.dup, 1) := by decide +kernel
theorem dX10_bar_76 : decode cX10_bar 76 = .ok (.getfield 119, 3) := by decide +kernel
theorem dX10_bar_79 : decode cX10_bar 79 = .ok (.iconst 1, 1) := by decide +kernel
theorem dX10_bar_80 : decode cX10_bar 80 = .ok (.iadd, 1) := by decide +kernel
theorem dX10_bar_81 : decode cX10_bar 81 = .ok (.putfield 119, 3) := by decide +kernel
theorem dX10_bar_84 : decode cX10_bar 84 = .ok (.aload_n 0, 1) := by decide +kernel
theorem dX10_bar_85 : decode cX10_bar 85 = .ok (.getfield 119, 3) := by decide +kernel
theorem dX10_bar_88 : decode cX10_bar 88 = .ok (.iconst 1, 1) := by decide +kernel
theorem dX10_bar_89 : decode cX10_bar 89 = .ok (.isub, 1) := by decide +kernel
theorem dX10_bar_90 : decode cX10_bar 90 = .ok (.ireturn, 1) := by decide +kernel
theorem dX10_hangsOn_0 : decode cX10_hangsOn 0 = .ok (.iload_n 1, 1) := by decide +kernel
theorem dX10_hangsOn_1 : decode cX10_hangsOn 1 = .ok (.bipush 10, 2) := by decide +kernel
theorem dX10_hangsOn_3 : decode cX10_hangsOn 3 = .ok (.if_icmp .ge 12, 3) := by decide +kernel
theorem dX10_hangsOn_6 : decode cX10_hangsOn 6 = .ok (.aload_n 0, 1) := by decide +kernel
theorem dX10_hangsOn_7 : decode cX10_hangsOn 7 = .ok (.getfield 13, 3) := by decide +kernel
theorem dX10_hangsOn_10 : decode cX10_hangsOn 10 = .ok (.iload_n 1, 1) := by decide +kernel
theorem dX10_hangsOn_11 : decode cX10_hangsOn 11 = .ok (.iaload, 1) := by decide +kernel
theorem dX10_hangsOn_12 : decode cX10_hangsOn 12 = .ok (.goto 12, 3) := by decide +kernel
theorem dX10_hangsOn_15 : decode cX10_hangsOn 15 = .ok (.aload_n 0, 1) := by decide +kernel
theorem dX10_hangsOn_16 : decode cX10_hangsOn 16 = .ok (.getfield 73, 3) := by decide +kernel
theorem dX10_hangsOn_19 : decode cX10_hangsOn 19 = .ok (.iload_n 1, 1) := by decide +kernel
theorem dX10_hangsOn_20 : decode cX10_hangsOn 20 = .ok (.bipush 10, 2) := by decide +kernel
theorem dX10_hangsOn_22 : decode cX10_hangsOn 22 = .ok (.isub, 1) := by decide +kernel
theorem dX10_hangsOn_23 : decode cX10_hangsOn 23 = .ok (.iaload, 1) := by decide +kernel
theorem dX10_hangsOn_24 : decode cX10_hangsOn 24 = .ok (.ireturn, 1) := by decide +kernel
theorem dX10_hung_0 : decode cX10_hung 0 = .ok (.iload_n 1, 1) := by decide +kernel
theorem dX10_hung_1 : decode cX10_hung 1 = .ok (.i2l, 1) := by decide +kernel
theorem dX10_hung_2 : decode cX10_hung 2 = .ok (.lconst 0, 1) := by decide +kernel
theorem dX10_hung_3 : decode cX10_hung 3 = .ok (.aload_n 0, 1) := by decide +kernel
theorem dX10_hung_4 : decode cX10_hung 4 = .ok (.getfield 119, 3) := by decide +kernel
theorem dX10_hung_7 : decode cX10_hung 7 = .ok (.iconst 1, 1) := by decide +kernel
theorem dX10_hung_8 : decode cX10_hung 8 = .ok (.isub, 1) := by decide +kernel
theorem dX10_hung_9 : decode cX10_hung 9 = .ok (.i2l, 1) := by decide +kernel
theorem dX10_hung_10 : decode cX10_hung 10 = .ok (.invokestatic 102, 3) := by decide +kernel
theorem dX10_hung_13 : decode cX10_hung 13 = .ok (.ifCond .eq 15, 3) := by decide +kernel
theorem dX10_hung_16 : decode cX10_hung 16 = .ok (.iload_n 2, 1) := by decide +kernel
theorem dX10_hung_17 : decode cX10_hung 17 = .ok (.i2l, 1) := by decide +kernel
theorem dX10_hung_18 : decode cX10_hung 18 = .ok (.lconst 0, 1) := by decide +kernel
theorem dX10_hung_19 : decode cX10_hung 19 = .ok (.ldc2_w 109, 3) := by decide +kernel
theorem dX10_hung_22 : decode cX10_hung 22 = .ok (.invokestatic 102, 3) := by decide +kernel
theorem dX10_hung_25 : decode cX10_hung 25 = .ok (.ifCond .ne 5, 3) := by decide +kernel
theorem dX10_hung_28 : decode cX10_hung 28 = .ok (.iconst (-1), 1) := by decide +kernel
theorem dX10_hung_29 : decode cX10_hung 29 = .ok (.ireturn, 1) := by decide +kernel
theorem dX10_hung_30 : decode cX10_hung 30 = .ok (.iconst 0, 1) := by decide +kernel
theorem dX10_hung_31 : decode cX10_hung 31 = .ok (.istore_n 3, 1) := by decide +kernel
theorem dX10_hung_32 : decode cX10_hung 32 = .ok (.iload_n 3, 1) := by decide +kernel
theorem dX10_hung_33 : decode cX10_hung 33 = .ok (.iload_n 1, 1) := by decide +kernel
theorem dX10_hung_34 : decode cX10_hung 34 = .ok (.if_icmp .gt 36, 3) := by decide +kernel
theorem dX10_hung_37 : decode cX10_hung 37 = .ok (.aload_n 0, 1) := by decide +kernel
theorem dX10_hung_38 : decode cX10_hung 38 = .ok (.getfield 73, 3) := by decide +kernel
theorem dX10_hung_41 : decode cX10_hung 41 = .ok (.iload_n 3, 1) := by decide +kernel
theorem dX10_hung_42 : decode cX10_hung 42 = .ok (.aload_n 0, 1) := by decide +kernel
theorem dX10_hung_43 : decode cX10_hung 43 = .ok (.aload_n 0, 1) := by decide +kernel
theorem dX10_hung_44 : decode cX10_hung 44 = .ok (.getfield 49, 3) := by decide +kernel
theorem dX10_hung_47 : decode cX10_hung 47 = .ok (.iload_n 3, 1) := by decide +kernel
theorem dX10_hung_48 : decode cX10_hung 48 = .ok (.iaload, 1) := by decide +kernel
theorem dX10_hung_49 : decode cX10_hung 49 = .ok (.invokevirtual 283, 3) := by decide +kernel
theorem dX10_hung_52 : decode cX10_hung 52 = .ok (.aload_n 0, 1) := by decide +kernel
theorem dX10_hung_53 : decode cX10_hung 53 = .ok (.aload_n 0, 1) := by decide +kernel
theorem dX10_hung_54 : decode cX10_hung 54 = .ok (.getfield 52, 3) := by decide +kernel
theorem dX10_hung_57 : decode cX10_hung 57 = .ok (.iload_n 3, 1) := by decide +kernel
theorem dX10_hung_58 : decode cX10_hung 58 = .ok (.iaload, 1) := by decide +kernel
theorem dX10_hung_59 : decode cX10_hung 59 = .ok (.invokevirtual 283, 3) := by decide +kernel
theorem dX10_hung_62 : decode cX10_hung 62 = .ok (.iadd, 1) := by decide +kernel
theorem dX10_hung_63 : decode cX10_hung 63 = .ok (.iastore, 1) := by decide +kernel
theorem dX10_hung_64 : decode cX10_hung 64 = .ok (.iinc 3 1, 3) := by decide +kernel
theorem dX10_hung_67 : decode cX10_hung 67 = .ok (.goto (-35), 3) := by decide +kernel
theorem dX10_hung_70 : decode cX10_hung 70 = .ok (.iload_n 2, 1) := by decide +kernel
theorem dX10_hung_71 : decode cX10_hung 71 = .ok (.iconst 2, 1) := by decide +kernel
theorem dX10_hung_72 : decode cX10_hung 72 = .ok (.if_icmp .ne 12, 3) := by decide +kernel
theorem dX10_hung_75 : decode cX10_hung 75 = .ok (.aload_n 0, 1) := by decide +kernel
theorem dX10_hung_76 : decode cX10_hung 76 = .ok (.getfield 73, 3) := by decide +kernel
theorem dX10_hung_79 : decode cX10_hung 79 = .ok (.iload_n 1, 1) := by decide +kernel
theorem dX10_hung_80 : decode cX10_hung 80 = .ok (.iaload, 1) := by decide +kernel
theorem dX10_hung_81 : decode cX10_hung 81 = .ok (.goto 26, 3) := by decide +kernel
theorem dX10_hung_84 : decode cX10_hung 84 = .ok (.bipush 60, 2) := by decide +kernel
theorem dX10_hung_86 : decode cX10_hung 86 = .ok (.aload_n 0, 1) := by decide +kernel
theorem dX10_hung_87 : decode cX10_hung 87 = .ok (.aload_n 0, 1) := by decide +kernel
theorem dX10_hung_88 : decode cX10_hung 88 = .ok (.getfield 52, 3) := by decide +kernel
theorem dX10_hung_91 : decode cX10_hung 91 = .ok (.iload_n 1, 1) := by decide +kernel
theorem dX10_hung_92 : decode cX10_hung 92 = .ok (.iaload, 1) := by decide +kernel
theorem dX10_hung_93 : decode cX10_hung 93 = .ok (.invokevirtual 283, 3) := by decide +kernel
theorem dX10_hung_96 : decode cX10_hung 96 = .ok (.imul, 1) := by decide +kernel
theorem dX10_hung_97 : decode cX10_hung 97 = .ok (.aload_n 0, 1) := by decide +kernel
theorem dX10_hung_98 : decode cX10_hung 98 = .ok (.getfield 73, 3) := by decide +kernel
theorem dX10_hung_101 : decode cX10_hung 101 = .ok (.iload_n 1, 1) := by decide +kernel
theorem dX10_hung_102 : decode cX10_hung 102 = .ok (.iaload, 1) := by decide +kernel
theorem dX10_hung_103 : decode cX10_hung 103 = .ok (.iload_n 2, 1) := by decide +kernel
theorem dX10_hung_104 : decode cX10_hung 104 = .ok (.invokestatic 267, 3) := by decide +kernel
theorem dX10_hung_107 : decode cX10_hung 107 = .ok (.ireturn, 1) := by decide +kernel
theorem dX10_notes_0 : decode cX10_notes 0 = .ok (.iconst 0, 1) := by decide +kernel
theorem dX10_notes_1 : decode cX10_notes 1 = .ok (.istore_n 3, 1) := by decide +kernel
theorem dX10_notes_2 : decode cX10_notes 2 = .ok (.iload_n 3, 1) := by decide +kernel
theorem dX10_notes_3 : decode cX10_notes 3 = .ok (.aload_n 1, 1) := by decide +kernel
theorem dX10_notes_4 : decode cX10_notes 4 = .ok (.arraylength, 1) := by decide +kernel
theorem dX10_notes_5 : decode cX10_notes 5 = .ok (.if_icmp .ge 20, 3) := by decide +kernel
theorem dX10_notes_8 : decode cX10_notes 8 = .ok (.aload_n 0, 1) := by decide +kernel
theorem dX10_notes_9 : decode cX10_notes 9 = .ok (.getfield 76, 3) := by decide +kernel
theorem dX10_notes_12 : decode cX10_notes 12 = .ok (.iload_n 2, 1) := by decide +kernel
theorem dX10_notes_13 : decode cX10_notes 13 = .ok (.iload_n 3, 1) := by decide +kernel
theorem dX10_notes_14 : decode cX10_notes 14 = .ok (.iadd, 1) := by decide +kernel
theorem dX10_notes_15 : decode cX10_notes 15 = .ok (.aload_n 1, 1) := by decide +kernel
theorem dX10_notes_16 : decode cX10_notes 16 = .ok (.iload_n 3, 1) := by decide +kernel
theorem dX10_notes_17 : decode cX10_notes 17 = .ok (.iaload, 1) := by decide +kernel
theorem dX10_notes_18 : decode cX10_notes 18 = .ok (.iastore, 1) := by decide +kernel
theorem dX10_notes_19 : decode cX10_notes 19 = .ok (.iinc 3 1, 3) := by decide +kernel
theorem dX10_notes_22 : decode cX10_notes 22 = .ok (.goto (-20), 3) := by decide +kernel
theorem dX10_notes_25 : decode cX10_notes 25 = .ok (.iload_n 2, 1) := by decide +kernel
theorem dX10_notes_26 : decode cX10_notes 26 = .ok (.aload_n 1, 1) := by decide +kernel
theorem dX10_notes_27 : decode cX10_notes 27 = .ok (.arraylength, 1) := by decide +kernel
theorem dX10_notes_28 : decode cX10_notes 28 = .ok (.iadd, 1) := by decide +kernel
theorem dX10_notes_29 : decode cX10_notes 29 = .ok (.ireturn, 1) := by decide +kernel
theorem dX10_givesBack_0 : decode cX10_givesBack 0 = .ok (.iconst 0, 1) := by decide +kernel
theorem dX10_givesBack_1 : decode cX10_givesBack 1 = .ok (.istore_n 3, 1) := by decide +kernel
theorem dX10_givesBack_2 : decode cX10_givesBack 2 = .ok (.iload_n 3, 1) := by decide +kernel
theorem dX10_givesBack_3 : decode cX10_givesBack 3 = .ok (.aload_n 2, 1) := by decide +kernel
theorem dX10_givesBack_4 : decode cX10_givesBack 4 = .ok (.arraylength, 1) := by decide +kernel
theorem dX10_givesBack_5 : decode cX10_givesBack 5 = .ok (.if_icmp .ge 20, 3) := by decide +kernel
theorem dX10_givesBack_8 : decode cX10_givesBack 8 = .ok (.aload_n 2, 1) := by decide +kernel
theorem dX10_givesBack_9 : decode cX10_givesBack 9 = .ok (.iload_n 3, 1) := by decide +kernel
theorem dX10_givesBack_10 : decode cX10_givesBack 10 = .ok (.aload_n 0, 1) := by decide +kernel
theorem dX10_givesBack_11 : decode cX10_givesBack 11 = .ok (.getfield 76, 3) := by decide +kernel
theorem dX10_givesBack_14 : decode cX10_givesBack 14 = .ok (.iload_n 1, 1) := by decide +kernel
theorem dX10_givesBack_15 : decode cX10_givesBack 15 = .ok (.iload_n 3, 1) := by decide +kernel
theorem dX10_givesBack_16 : decode cX10_givesBack 16 = .ok (.iadd, 1) := by decide +kernel
theorem dX10_givesBack_17 : decode cX10_givesBack 17 = .ok (.iaload, 1) := by decide +kernel
theorem dX10_givesBack_18 : decode cX10_givesBack 18 = .ok (.iastore, 1) := by decide +kernel
theorem dX10_givesBack_19 : decode cX10_givesBack 19 = .ok (.iinc 3 1, 3) := by decide +kernel
theorem dX10_givesBack_22 : decode cX10_givesBack 22 = .ok (.goto (-20), 3) := by decide +kernel
theorem dX10_givesBack_25 : decode cX10_givesBack 25 = .ok (.iload_n 1, 1) := by decide +kernel
theorem dX10_givesBack_26 : decode cX10_givesBack 26 = .ok (.aload_n 2, 1) := by decide +kernel
theorem dX10_givesBack_27 : decode cX10_givesBack 27 = .ok (.arraylength, 1) := by decide +kernel
theorem dX10_givesBack_28 : decode cX10_givesBack 28 = .ok (.iadd, 1) := by decide +kernel
theorem dX10_givesBack_29 : decode cX10_givesBack 29 = .ok (.ireturn, 1) := by decide +kernel
theorem dX10_image_0 : decode cX10_image 0 = .ok (.aload_n 0, 1) := by decide +kernel
theorem dX10_image_1 : decode cX10_image 1 = .ok (.getfield 76, 3) := by decide +kernel
theorem dX10_image_4 : decode cX10_image 4 = .ok (.iconst 0, 1) := by decide +kernel
theorem dX10_image_5 : decode cX10_image 5 = .ok (.aload_n 0, 1) := by decide +kernel
theorem dX10_image_6 : decode cX10_image 6 = .ok (.getfield 98, 3) := by decide +kernel
theorem dX10_image_9 : decode cX10_image 9 = .ok (.iastore, 1) := by decide +kernel
theorem dX10_image_10 : decode cX10_image 10 = .ok (.aload_n 0, 1) := by decide +kernel
theorem dX10_image_11 : decode cX10_image 11 = .ok (.getfield 76, 3) := by decide +kernel
theorem dX10_image_14 : decode cX10_image 14 = .ok (.iconst 1, 1) := by decide +kernel
theorem dX10_image_15 : decode cX10_image 15 = .ok (.aload_n 0, 1) := by decide +kernel
theorem dX10_image_16 : decode cX10_image 16 = .ok (.getfield 106, 3) := by decide +kernel
theorem dX10_image_19 : decode cX10_image 19 = .ok (.iastore, 1) := by decide +kernel
theorem dX10_image_20 : decode cX10_image 20 = .ok (.aload_n 0, 1) := by decide +kernel
theorem dX10_image_21 : decode cX10_image 21 = .ok (.getfield 76, 3) := by decide +kernel
theorem dX10_image_24 : decode cX10_image 24 = .ok (.iconst 2, 1) := by decide +kernel
theorem dX10_image_25 : decode cX10_image 25 = .ok (.aload_n 0, 1) := by decide +kernel
theorem dX10_image_26 : decode cX10_image 26 = .ok (.getfield 152, 3) := by decide +kernel
theorem dX10_image_29 : decode cX10_image 29 = .ok (.iastore, 1) := by decide +kernel
theorem dX10_image_30 : decode cX10_image 30 = .ok (.aload_n 0, 1) := by decide +kernel
theorem dX10_image_31 : decode cX10_image 31 = .ok (.getfield 76, 3) := by decide +kernel
theorem dX10_image_34 : decode cX10_image 34 = .ok (.iconst 3, 1) := by decide +kernel
theorem dX10_image_35 : decode cX10_image 35 = .ok (.aload_n 0, 1) := by decide +kernel
theorem dX10_image_36 : decode cX10_image 36 = .ok (.getfield 119, 3) := by decide +kernel
theorem dX10_image_39 : decode cX10_image 39 = .ok (.iastore, 1) := by decide +kernel
theorem dX10_image_40 : decode cX10_image 40 = .ok (.aload_n 0, 1) := by decide +kernel
theorem dX10_image_41 : decode cX10_image 41 = .ok (.aload_n 0, 1) := by decide +kernel
theorem dX10_image_42 : decode cX10_image 42 = .ok (.getfield 7, 3) := by decide +kernel
theorem dX10_image_45 : decode cX10_image 45 = .ok (.iconst 4, 1) := by decide +kernel
theorem dX10_image_46 : decode cX10_image 46 = .ok (.invokevirtual 286, 3) := by decide +kernel
theorem dX10_image_49 : decode cX10_image 49 = .ok (.istore_n 1, 1) := by decide +kernel
theorem dX10_image_50 : decode cX10_image 50 = .ok (.aload_n 0, 1) := by decide +kernel
theorem dX10_image_51 : decode cX10_image 51 = .ok (.aload_n 0, 1) := by decide +kernel
theorem dX10_image_52 : decode cX10_image 52 = .ok (.getfield 13, 3) := by decide +kernel
theorem dX10_image_55 : decode cX10_image 55 = .ok (.iload_n 1, 1) := by decide +kernel
theorem dX10_image_56 : decode cX10_image 56 = .ok (.invokevirtual 286, 3) := by decide +kernel
theorem dX10_image_59 : decode cX10_image 59 = .ok (.istore_n 1, 1) := by decide +kernel
theorem dX10_image_60 : decode cX10_image 60 = .ok (.aload_n 0, 1) := by decide +kernel
theorem dX10_image_61 : decode cX10_image 61 = .ok (.aload_n 0, 1) := by decide +kernel
theorem dX10_image_62 : decode cX10_image 62 = .ok (.getfield 16, 3) := by decide +kernel
theorem dX10_image_65 : decode cX10_image 65 = .ok (.iload_n 1, 1) := by decide +kernel
theorem dX10_image_66 : decode cX10_image 66 = .ok (.invokevirtual 286, 3) := by decide +kernel
theorem dX10_image_69 : decode cX10_image 69 = .ok (.istore_n 1, 1) := by decide +kernel
theorem dX10_image_70 : decode cX10_image 70 = .ok (.aload_n 0, 1) := by decide +kernel
theorem dX10_image_71 : decode cX10_image 71 = .ok (.aload_n 0, 1) := by decide +kernel
theorem dX10_image_72 : decode cX10_image 72 = .ok (.getfield 19, 3) := by decide +kernel
theorem dX10_image_75 : decode cX10_image 75 = .ok (.iload_n 1, 1) := by decide +kernel
theorem dX10_image_76 : decode cX10_image 76 = .ok (.invokevirtual 286, 3) := by decide +kernel
theorem dX10_image_79 : decode cX10_image 79 = .ok (.istore_n 1, 1) := by decide +kernel
theorem dX10_image_80 : decode cX10_image 80 = .ok (.aload_n 0, 1) := by decide +kernel
theorem dX10_image_81 : decode cX10_image 81 = .ok (.aload_n 0, 1) := by decide +kernel
theorem dX10_image_82 : decode cX10_image 82 = .ok (.getfield 22, 3) := by decide +kernel
theorem dX10_image_85 : decode cX10_image 85 = .ok (.iload_n 1, 1) := by decide +kernel
theorem dX10_image_86 : decode cX10_image 86 = .ok (.invokevirtual 286, 3) := by decide +kernel
theorem dX10_image_89 : decode cX10_image 89 = .ok (.istore_n 1, 1) := by decide +kernel
theorem dX10_image_90 : decode cX10_image 90 = .ok (.aload_n 0, 1) := by decide +kernel
theorem dX10_image_91 : decode cX10_image 91 = .ok (.aload_n 0, 1) := by decide +kernel
theorem dX10_image_92 : decode cX10_image 92 = .ok (.getfield 25, 3) := by decide +kernel
theorem dX10_image_95 : decode cX10_image 95 = .ok (.iload_n 1, 1) := by decide +kernel
theorem dX10_image_96 : decode cX10_image 96 = .ok (.invokevirtual 286, 3) := by decide +kernel
theorem dX10_image_99 : decode cX10_image 99 = .ok (.istore_n 1, 1) := by decide +kernel
theorem dX10_image_100 : decode cX10_image 100 = .ok (.aload_n 0, 1) := by decide +kernel
theorem dX10_image_101 : decode cX10_image 101 = .ok (.aload_n 0, 1) := by decide +kernel
theorem dX10_image_102 : decode cX10_image 102 = .ok (.getfield 28, 3) := by decide +kernel
theorem dX10_image_105 : decode cX10_image 105 = .ok (.iload_n 1, 1) := by decide +kernel
theorem dX10_image_106 : decode cX10_image 106 = .ok (.invokevirtual 286, 3) := by decide +kernel
theorem dX10_image_109 : decode cX10_image 109 = .ok (.istore_n 1, 1) := by decide +kernel
theorem dX10_image_110 : decode cX10_image 110 = .ok (.aload_n 0, 1) := by decide +kernel
theorem dX10_image_111 : decode cX10_image 111 = .ok (.aload_n 0, 1) := by decide +kernel
theorem dX10_image_112 : decode cX10_image 112 = .ok (.getfield 31, 3) := by decide +kernel
theorem dX10_image_115 : decode cX10_image 115 = .ok (.iload_n 1, 1) := by decide +kernel
theorem dX10_image_116 : decode cX10_image 116 = .ok (.invokevirtual 286, 3) := by decide +kernel
theorem dX10_image_119 : decode cX10_image 119 = .ok (.istore_n 1, 1) := by decide +kernel
theorem dX10_image_120 : decode cX10_image 120 = .ok (.aload_n 0, 1) := by decide +kernel
theorem dX10_image_121 : decode cX10_image 121 = .ok (.aload_n 0, 1) := by decide +kernel
theorem dX10_image_122 : decode cX10_image 122 = .ok (.getfield 34, 3) := by decide +kernel
theorem dX10_image_125 : decode cX10_image 125 = .ok (.iload_n 1, 1) := by decide +kernel
theorem dX10_image_126 : decode cX10_image 126 = .ok (.invokevirtual 286, 3) := by decide +kernel
theorem dX10_image_129 : decode cX10_image 129 = .ok (.istore_n 1, 1) := by decide +kernel
theorem dX10_image_130 : decode cX10_image 130 = .ok (.aload_n 0, 1) := by decide +kernel
theorem dX10_image_131 : decode cX10_image 131 = .ok (.aload_n 0, 1) := by decide +kernel
theorem dX10_image_132 : decode cX10_image 132 = .ok (.getfield 37, 3) := by decide +kernel
theorem dX10_image_135 : decode cX10_image 135 = .ok (.iload_n 1, 1) := by decide +kernel
theorem dX10_image_136 : decode cX10_image 136 = .ok (.invokevirtual 286, 3) := by decide +kernel
theorem dX10_image_139 : decode cX10_image 139 = .ok (.istore_n 1, 1) := by decide +kernel
theorem dX10_image_140 : decode cX10_image 140 = .ok (.aload_n 0, 1) := by decide +kernel
theorem dX10_image_141 : decode cX10_image 141 = .ok (.aload_n 0, 1) := by decide +kernel
theorem dX10_image_142 : decode cX10_image 142 = .ok (.getfield 40, 3) := by decide +kernel
theorem dX10_image_145 : decode cX10_image 145 = .ok (.iload_n 1, 1) := by decide +kernel
theorem dX10_image_146 : decode cX10_image 146 = .ok (.invokevirtual 286, 3) := by decide +kernel
theorem dX10_image_149 : decode cX10_image 149 = .ok (.pop, 1) := by decide +kernel
theorem dX10_image_150 : decode cX10_image 150 = .ok (.aload_n 0, 1) := by decide +kernel
theorem dX10_image_151 : decode cX10_image 151 = .ok (.aload_n 0, 1) := by decide +kernel
theorem dX10_image_152 : decode cX10_image 152 = .ok (.getfield 43, 3) := by decide +kernel
theorem dX10_image_155 : decode cX10_image 155 = .ok (.iload_n 1, 1) := by decide +kernel
theorem dX10_image_156 : decode cX10_image 156 = .ok (.bipush 8, 2) := by decide +kernel
theorem dX10_image_158 : decode cX10_image 158 = .ok (.iadd, 1) := by decide +kernel
theorem dX10_image_159 : decode cX10_image 159 = .ok (.invokevirtual 286, 3) := by decide +kernel
theorem dX10_image_162 : decode cX10_image 162 = .ok (.pop, 1) := by decide +kernel
theorem dX10_image_163 : decode cX10_image 163 = .ok (.aload_n 0, 1) := by decide +kernel
theorem dX10_image_164 : decode cX10_image 164 = .ok (.aload_n 0, 1) := by decide +kernel
theorem dX10_image_165 : decode cX10_image 165 = .ok (.getfield 46, 3) := by decide +kernel
theorem dX10_image_168 : decode cX10_image 168 = .ok (.iload_n 1, 1) := by decide +kernel
theorem dX10_image_169 : decode cX10_image 169 = .ok (.bipush 16, 2) := by decide +kernel
theorem dX10_image_171 : decode cX10_image 171 = .ok (.iadd, 1) := by decide +kernel
theorem dX10_image_172 : decode cX10_image 172 = .ok (.invokevirtual 286, 3) := by decide +kernel
theorem dX10_image_175 : decode cX10_image 175 = .ok (.pop, 1) := by decide +kernel
theorem dX10_image_176 : decode cX10_image 176 = .ok (.aload_n 0, 1) := by decide +kernel
theorem dX10_image_177 : decode cX10_image 177 = .ok (.aload_n 0, 1) := by decide +kernel
theorem dX10_image_178 : decode cX10_image 178 = .ok (.getfield 49, 3) := by decide +kernel
theorem dX10_image_181 : decode cX10_image 181 = .ok (.bipush 98, 2) := by decide +kernel
theorem dX10_image_183 : decode cX10_image 183 = .ok (.invokevirtual 286, 3) := by decide +kernel
theorem dX10_image_186 : decode cX10_image 186 = .ok (.pop, 1) := by decide +kernel
theorem dX10_image_187 : decode cX10_image 187 = .ok (.aload_n 0, 1) := by decide +kernel
theorem dX10_image_188 : decode cX10_image 188 = .ok (.aload_n 0, 1) := by decide +kernel
theorem dX10_image_189 : decode cX10_image 189 = .ok (.getfield 52, 3) := by decide +kernel
theorem dX10_image_192 : decode cX10_image 192 = .ok (.bipush 104, 2) := by decide +kernel
theorem dX10_image_194 : decode cX10_image 194 = .ok (.invokevirtual 286, 3) := by decide +kernel
theorem dX10_image_197 : decode cX10_image 197 = .ok (.pop, 1) := by decide +kernel
theorem dX10_image_198 : decode cX10_image 198 = .ok (.aload_n 0, 1) := by decide +kernel
theorem dX10_image_199 : decode cX10_image 199 = .ok (.iconst 1, 1) := by decide +kernel
theorem dX10_image_200 : decode cX10_image 200 = .ok (.putfield 289, 3) := by decide +kernel
theorem dX10_image_203 : decode cX10_image 203 = .ok (.iconst 1, 1) := by decide +kernel
theorem dX10_image_204 : decode cX10_image 204 = .ok (.ireturn, 1) := by decide +kernel
theorem dX10_restore_0 : decode cX10_restore 0 = .ok (.aload_n 0, 1) := by decide +kernel
theorem dX10_restore_1 : decode cX10_restore 1 = .ok (.getfield 289, 3) := by decide +kernel
theorem dX10_restore_4 : decode cX10_restore 4 = .ok (.ifCond .ne 6, 3) := by decide +kernel
theorem dX10_restore_7 : decode cX10_restore 7 = .ok (.bipush (-4), 2) := by decide +kernel
theorem dX10_restore_9 : decode cX10_restore 9 = .ok (.ireturn, 1) := by decide +kernel
theorem dX10_restore_10 : decode cX10_restore 10 = .ok (.aload_n 0, 1) := by decide +kernel
theorem dX10_restore_11 : decode cX10_restore 11 = .ok (.aload_n 0, 1) := by decide +kernel
theorem dX10_restore_12 : decode cX10_restore 12 = .ok (.getfield 76, 3) := by decide +kernel
theorem dX10_restore_15 : decode cX10_restore 15 = .ok (.iconst 0, 1) := by decide +kernel
theorem dX10_restore_16 : decode cX10_restore 16 = .ok (.iaload, 1) := by decide +kernel
theorem dX10_restore_17 : decode cX10_restore 17 = .ok (.putfield 98, 3) := by decide +kernel
theorem dX10_restore_20 : decode cX10_restore 20 = .ok (.aload_n 0, 1) := by decide +kernel
theorem dX10_restore_21 : decode cX10_restore 21 = .ok (.aload_n 0, 1) := by decide +kernel
theorem dX10_restore_22 : decode cX10_restore 22 = .ok (.getfield 76, 3) := by decide +kernel
theorem dX10_restore_25 : decode cX10_restore 25 = .ok (.iconst 1, 1) := by decide +kernel
theorem dX10_restore_26 : decode cX10_restore 26 = .ok (.iaload, 1) := by decide +kernel
theorem dX10_restore_27 : decode cX10_restore 27 = .ok (.putfield 106, 3) := by decide +kernel
theorem dX10_restore_30 : decode cX10_restore 30 = .ok (.aload_n 0, 1) := by decide +kernel
theorem dX10_restore_31 : decode cX10_restore 31 = .ok (.aload_n 0, 1) := by decide +kernel
theorem dX10_restore_32 : decode cX10_restore 32 = .ok (.getfield 76, 3) := by decide +kernel
theorem dX10_restore_35 : decode cX10_restore 35 = .ok (.iconst 2, 1) := by decide +kernel
theorem dX10_restore_36 : decode cX10_restore 36 = .ok (.iaload, 1) := by decide +kernel
theorem dX10_restore_37 : decode cX10_restore 37 = .ok (.putfield 152, 3) := by decide +kernel
theorem dX10_restore_40 : decode cX10_restore 40 = .ok (.aload_n 0, 1) := by decide +kernel
theorem dX10_restore_41 : decode cX10_restore 41 = .ok (.aload_n 0, 1) := by decide +kernel
theorem dX10_restore_42 : decode cX10_restore 42 = .ok (.getfield 76, 3) := by decide +kernel
theorem dX10_restore_45 : decode cX10_restore 45 = .ok (.iconst 3, 1) := by decide +kernel
theorem dX10_restore_46 : decode cX10_restore 46 = .ok (.iaload, 1) := by decide +kernel
theorem dX10_restore_47 : decode cX10_restore 47 = .ok (.putfield 119, 3) := by decide +kernel
theorem dX10_restore_50 : decode cX10_restore 50 = .ok (.aload_n 0, 1) := by decide +kernel
theorem dX10_restore_51 : decode cX10_restore 51 = .ok (.iconst 4, 1) := by decide +kernel
theorem dX10_restore_52 : decode cX10_restore 52 = .ok (.aload_n 0, 1) := by decide +kernel
theorem dX10_restore_53 : decode cX10_restore 53 = .ok (.getfield 7, 3) := by decide +kernel
theorem dX10_restore_56 : decode cX10_restore 56 = .ok (.invokevirtual 292, 3) := by decide +kernel
theorem dX10_restore_59 : decode cX10_restore 59 = .ok (.istore_n 1, 1) := by decide +kernel
theorem dX10_restore_60 : decode cX10_restore 60 = .ok (.aload_n 0, 1) := by decide +kernel
theorem dX10_restore_61 : decode cX10_restore 61 = .ok (.iload_n 1, 1) := by decide +kernel
theorem dX10_restore_62 : decode cX10_restore 62 = .ok (.aload_n 0, 1) := by decide +kernel
theorem dX10_restore_63 : decode cX10_restore 63 = .ok (.getfield 13, 3) := by decide +kernel
theorem dX10_restore_66 : decode cX10_restore 66 = .ok (.invokevirtual 292, 3) := by decide +kernel
theorem dX10_restore_69 : decode cX10_restore 69 = .ok (.istore_n 1, 1) := by decide +kernel
theorem dX10_restore_70 : decode cX10_restore 70 = .ok (.aload_n 0, 1) := by decide +kernel
theorem dX10_restore_71 : decode cX10_restore 71 = .ok (.iload_n 1, 1) := by decide +kernel
theorem dX10_restore_72 : decode cX10_restore 72 = .ok (.aload_n 0, 1) := by decide +kernel
theorem dX10_restore_73 : decode cX10_restore 73 = .ok (.getfield 16, 3) := by decide +kernel
theorem dX10_restore_76 : decode cX10_restore 76 = .ok (.invokevirtual 292, 3) := by decide +kernel
theorem dX10_restore_79 : decode cX10_restore 79 = .ok (.istore_n 1, 1) := by decide +kernel
theorem dX10_restore_80 : decode cX10_restore 80 = .ok (.aload_n 0, 1) := by decide +kernel
theorem dX10_restore_81 : decode cX10_restore 81 = .ok (.iload_n 1, 1) := by decide +kernel
theorem dX10_restore_82 : decode cX10_restore 82 = .ok (.aload_n 0, 1) := by decide +kernel
theorem dX10_restore_83 : decode cX10_restore 83 = .ok (.getfield 19, 3) := by decide +kernel
theorem dX10_restore_86 : decode cX10_restore 86 = .ok (.invokevirtual 292, 3) := by decide +kernel
theorem dX10_restore_89 : decode cX10_restore 89 = .ok (.istore_n 1, 1) := by decide +kernel
theorem dX10_restore_90 : decode cX10_restore 90 = .ok (.aload_n 0, 1) := by decide +kernel
theorem dX10_restore_91 : decode cX10_restore 91 = .ok (.iload_n 1, 1) := by decide +kernel
theorem dX10_restore_92 : decode cX10_restore 92 = .ok (.aload_n 0, 1) := by decide +kernel
theorem dX10_restore_93 : decode cX10_restore 93 = .ok (.getfield 22, 3) := by decide +kernel
theorem dX10_restore_96 : decode cX10_restore 96 = .ok (.invokevirtual 292, 3) := by decide +kernel
theorem dX10_restore_99 : decode cX10_restore 99 = .ok (.istore_n 1, 1) := by decide +kernel
theorem dX10_restore_100 : decode cX10_restore 100 = .ok (.aload_n 0, 1) := by decide +kernel
theorem dX10_restore_101 : decode cX10_restore 101 = .ok (.iload_n 1, 1) := by decide +kernel
theorem dX10_restore_102 : decode cX10_restore 102 = .ok (.aload_n 0, 1) := by decide +kernel
theorem dX10_restore_103 : decode cX10_restore 103 = .ok (.getfield 25, 3) := by decide +kernel
theorem dX10_restore_106 : decode cX10_restore 106 = .ok (.invokevirtual 292, 3) := by decide +kernel
theorem dX10_restore_109 : decode cX10_restore 109 = .ok (.istore_n 1, 1) := by decide +kernel
theorem dX10_restore_110 : decode cX10_restore 110 = .ok (.aload_n 0, 1) := by decide +kernel
theorem dX10_restore_111 : decode cX10_restore 111 = .ok (.iload_n 1, 1) := by decide +kernel
theorem dX10_restore_112 : decode cX10_restore 112 = .ok (.aload_n 0, 1) := by decide +kernel
theorem dX10_restore_113 : decode cX10_restore 113 = .ok (.getfield 28, 3) := by decide +kernel
theorem dX10_restore_116 : decode cX10_restore 116 = .ok (.invokevirtual 292, 3) := by decide +kernel
theorem dX10_restore_119 : decode cX10_restore 119 = .ok (.istore_n 1, 1) := by decide +kernel
theorem dX10_restore_120 : decode cX10_restore 120 = .ok (.aload_n 0, 1) := by decide +kernel
theorem dX10_restore_121 : decode cX10_restore 121 = .ok (.iload_n 1, 1) := by decide +kernel
theorem dX10_restore_122 : decode cX10_restore 122 = .ok (.aload_n 0, 1) := by decide +kernel
theorem dX10_restore_123 : decode cX10_restore 123 = .ok (.getfield 31, 3) := by decide +kernel
theorem dX10_restore_126 : decode cX10_restore 126 = .ok (.invokevirtual 292, 3) := by decide +kernel
theorem dX10_restore_129 : decode cX10_restore 129 = .ok (.istore_n 1, 1) := by decide +kernel
theorem dX10_restore_130 : decode cX10_restore 130 = .ok (.aload_n 0, 1) := by decide +kernel
theorem dX10_restore_131 : decode cX10_restore 131 = .ok (.iload_n 1, 1) := by decide +kernel
theorem dX10_restore_132 : decode cX10_restore 132 = .ok (.aload_n 0, 1) := by decide +kernel
theorem dX10_restore_133 : decode cX10_restore 133 = .ok (.getfield 34, 3) := by decide +kernel
theorem dX10_restore_136 : decode cX10_restore 136 = .ok (.invokevirtual 292, 3) := by decide +kernel
theorem dX10_restore_139 : decode cX10_restore 139 = .ok (.istore_n 1, 1) := by decide +kernel
theorem dX10_restore_140 : decode cX10_restore 140 = .ok (.aload_n 0, 1) := by decide +kernel
theorem dX10_restore_141 : decode cX10_restore 141 = .ok (.iload_n 1, 1) := by decide +kernel
theorem dX10_restore_142 : decode cX10_restore 142 = .ok (.aload_n 0, 1) := by decide +kernel
theorem dX10_restore_143 : decode cX10_restore 143 = .ok (.getfield 37, 3) := by decide +kernel
theorem dX10_restore_146 : decode cX10_restore 146 = .ok (.invokevirtual 292, 3) := by decide +kernel
theorem dX10_restore_149 : decode cX10_restore 149 = .ok (.istore_n 1, 1) := by decide +kernel
theorem dX10_restore_150 : decode cX10_restore 150 = .ok (.aload_n 0, 1) := by decide +kernel
theorem dX10_restore_151 : decode cX10_restore 151 = .ok (.iload_n 1, 1) := by decide +kernel
theorem dX10_restore_152 : decode cX10_restore 152 = .ok (.aload_n 0, 1) := by decide +kernel
theorem dX10_restore_153 : decode cX10_restore 153 = .ok (.getfield 40, 3) := by decide +kernel
theorem dX10_restore_156 : decode cX10_restore 156 = .ok (.invokevirtual 292, 3) := by decide +kernel
theorem dX10_restore_159 : decode cX10_restore 159 = .ok (.pop, 1) := by decide +kernel
theorem dX10_restore_160 : decode cX10_restore 160 = .ok (.aload_n 0, 1) := by decide +kernel
theorem dX10_restore_161 : decode cX10_restore 161 = .ok (.iload_n 1, 1) := by decide +kernel
theorem dX10_restore_162 : decode cX10_restore 162 = .ok (.bipush 8, 2) := by decide +kernel
theorem dX10_restore_164 : decode cX10_restore 164 = .ok (.iadd, 1) := by decide +kernel
theorem dX10_restore_165 : decode cX10_restore 165 = .ok (.aload_n 0, 1) := by decide +kernel
theorem dX10_restore_166 : decode cX10_restore 166 = .ok (.getfield 43, 3) := by decide +kernel
theorem dX10_restore_169 : decode cX10_restore 169 = .ok (.invokevirtual 292, 3) := by decide +kernel
theorem dX10_restore_172 : decode cX10_restore 172 = .ok (.pop, 1) := by decide +kernel
theorem dX10_restore_173 : decode cX10_restore 173 = .ok (.aload_n 0, 1) := by decide +kernel
theorem dX10_restore_174 : decode cX10_restore 174 = .ok (.iload_n 1, 1) := by decide +kernel
theorem dX10_restore_175 : decode cX10_restore 175 = .ok (.bipush 16, 2) := by decide +kernel
theorem dX10_restore_177 : decode cX10_restore 177 = .ok (.iadd, 1) := by decide +kernel
theorem dX10_restore_178 : decode cX10_restore 178 = .ok (.aload_n 0, 1) := by decide +kernel
theorem dX10_restore_179 : decode cX10_restore 179 = .ok (.getfield 46, 3) := by decide +kernel
theorem dX10_restore_182 : decode cX10_restore 182 = .ok (.invokevirtual 292, 3) := by decide +kernel
theorem dX10_restore_185 : decode cX10_restore 185 = .ok (.pop, 1) := by decide +kernel
theorem dX10_restore_186 : decode cX10_restore 186 = .ok (.aload_n 0, 1) := by decide +kernel
theorem dX10_restore_187 : decode cX10_restore 187 = .ok (.bipush 98, 2) := by decide +kernel
theorem dX10_restore_189 : decode cX10_restore 189 = .ok (.aload_n 0, 1) := by decide +kernel
theorem dX10_restore_190 : decode cX10_restore 190 = .ok (.getfield 49, 3) := by decide +kernel
theorem dX10_restore_193 : decode cX10_restore 193 = .ok (.invokevirtual 292, 3) := by decide +kernel
theorem dX10_restore_196 : decode cX10_restore 196 = .ok (.pop, 1) := by decide +kernel
theorem dX10_restore_197 : decode cX10_restore 197 = .ok (.aload_n 0, 1) := by decide +kernel
theorem dX10_restore_198 : decode cX10_restore 198 = .ok (.bipush 104, 2) := by decide +kernel
theorem dX10_restore_200 : decode cX10_restore 200 = .ok (.aload_n 0, 1) := by decide +kernel
theorem dX10_restore_201 : decode cX10_restore 201 = .ok (.getfield 52, 3) := by decide +kernel
theorem dX10_restore_204 : decode cX10_restore 204 = .ok (.invokevirtual 292, 3) := by decide +kernel
theorem dX10_restore_207 : decode cX10_restore 207 = .ok (.pop, 1) := by decide +kernel
theorem dX10_restore_208 : decode cX10_restore 208 = .ok (.iconst 1, 1) := by decide +kernel
theorem dX10_restore_209 : decode cX10_restore 209 = .ok (.ireturn, 1) := by decide +kernel
theorem dX10_isSheet_0 : decode cX10_isSheet 0 = .ok (.iload_n 0, 1) := by decide +kernel
theorem dX10_isSheet_1 : decode cX10_isSheet 1 = .ok (.i2l, 1) := by decide +kernel
theorem dX10_isSheet_2 : decode cX10_isSheet 2 = .ok (.lconst 0, 1) := by decide +kernel
theorem dX10_isSheet_3 : decode cX10_isSheet 3 = .ok (.ldc2_w 111, 3) := by decide +kernel
theorem dX10_isSheet_6 : decode cX10_isSheet 6 = .ok (.invokestatic 102, 3) := by decide +kernel
theorem dX10_isSheet_9 : decode cX10_isSheet 9 = .ok (.ireturn, 1) := by decide +kernel
theorem dX10_isLane_0 : decode cX10_isLane 0 = .ok (.iload_n 0, 1) := by decide +kernel
theorem dX10_isLane_1 : decode cX10_isLane 1 = .ok (.i2l, 1) := by decide +kernel
theorem dX10_isLane_2 : decode cX10_isLane 2 = .ok (.lconst 0, 1) := by decide +kernel
theorem dX10_isLane_3 : decode cX10_isLane 3 = .ok (.ldc2_w 111, 3) := by decide +kernel
theorem dX10_isLane_6 : decode cX10_isLane 6 = .ok (.invokestatic 102, 3) := by decide +kernel
theorem dX10_isLane_9 : decode cX10_isLane 9 = .ok (.ireturn, 1) := by decide +kernel
theorem dX10_why_0 : decode cX10_why 0 = .ok (.aload_n 0, 1) := by decide +kernel
theorem dX10_why_1 : decode cX10_why 1 = .ok (.getfield 79, 3) := by decide +kernel
theorem dX10_why_4 : decode cX10_why 4 = .ok (.iload_n 1, 1) := by decide +kernel
theorem dX10_why_5 : decode cX10_why 5 = .ok (.iaload, 1) := by decide +kernel
theorem dX10_why_6 : decode cX10_why 6 = .ok (.ifCond .ge 6, 3) := by decide +kernel
theorem dX10_why_9 : decode cX10_why 9 = .ok (.bipush (-11), 2) := by decide +kernel
theorem dX10_why_11 : decode cX10_why 11 = .ok (.ireturn, 1) := by decide +kernel
theorem dX10_why_12 : decode cX10_why 12 = .ok (.aload_n 0, 1) := by decide +kernel
theorem dX10_why_13 : decode cX10_why 13 = .ok (.getfield 79, 3) := by decide +kernel
theorem dX10_why_16 : decode cX10_why 16 = .ok (.iload_n 1, 1) := by decide +kernel
theorem dX10_why_17 : decode cX10_why 17 = .ok (.iaload, 1) := by decide +kernel
theorem dX10_why_18 : decode cX10_why 18 = .ok (.iload_n 2, 1) := by decide +kernel
theorem dX10_why_19 : decode cX10_why 19 = .ok (.if_icmp .eq 6, 3) := by decide +kernel
theorem dX10_why_22 : decode cX10_why 22 = .ok (.bipush (-12), 2) := by decide +kernel
theorem dX10_why_24 : decode cX10_why 24 = .ok (.ireturn, 1) := by decide +kernel
theorem dX10_why_25 : decode cX10_why 25 = .ok (.iload_n 3, 1) := by decide +kernel
theorem dX10_why_26 : decode cX10_why 26 = .ok (.ifCond .lt 20, 3) := by decide +kernel
theorem dX10_why_29 : decode cX10_why 29 = .ok (.iload_n 3, 1) := by decide +kernel
theorem dX10_why_30 : decode cX10_why 30 = .ok (.i2l, 1) := by decide +kernel
theorem dX10_why_31 : decode cX10_why 31 = .ok (.iload 4, 2) := by decide +kernel
theorem dX10_why_33 : decode cX10_why 33 = .ok (.i2l, 1) := by decide +kernel
theorem dX10_why_34 : decode cX10_why 34 = .ok (.ladd, 1) := by decide +kernel
theorem dX10_why_35 : decode cX10_why 35 = .ok (.aload_n 0, 1) := by decide +kernel
theorem dX10_why_36 : decode cX10_why 36 = .ok (.getfield 82, 3) := by decide +kernel
theorem dX10_why_39 : decode cX10_why 39 = .ok (.iload_n 1, 1) := by decide +kernel
theorem dX10_why_40 : decode cX10_why 40 = .ok (.iaload, 1) := by decide +kernel
theorem dX10_why_41 : decode cX10_why 41 = .ok (.i2l, 1) := by decide +kernel
theorem dX10_why_42 : decode cX10_why 42 = .ok (.lcmp, 1) := by decide +kernel
theorem dX10_why_43 : decode cX10_why 43 = .ok (.ifCond .le 8, 3) := by decide +kernel
theorem dX10_why_46 : decode cX10_why 46 = .ok (.bipush (-13), 2) := by decide +kernel
theorem dX10_why_48 : decode cX10_why 48 = .ok (.goto 4, 3) := by decide +kernel
theorem dX10_why_51 : decode cX10_why 51 = .ok (.iconst 0, 1) := by decide +kernel
theorem dX10_why_52 : decode cX10_why 52 = .ok (.ireturn, 1) := by decide +kernel
theorem dX10_across_0 : decode cX10_across 0 = .ok (.iload_n 0, 1) := by decide +kernel
theorem dX10_across_1 : decode cX10_across 1 = .ok (.iconst 2, 1) := by decide +kernel
theorem dX10_across_2 : decode cX10_across 2 = .ok (.if_icmp .eq 9, 3) := by decide +kernel
theorem dX10_across_5 : decode cX10_across 5 = .ok (.iload_n 0, 1) := by decide +kernel
theorem dX10_across_6 : decode cX10_across 6 = .ok (.bipush 6, 2) := by decide +kernel
theorem dX10_across_8 : decode cX10_across 8 = .ok (.if_icmp .ne 7, 3) := by decide +kernel
theorem dX10_across_11 : decode cX10_across 11 = .ok (.iconst 3, 1) := by decide +kernel
theorem dX10_across_12 : decode cX10_across 12 = .ok (.goto 14, 3) := by decide +kernel
theorem dX10_across_15 : decode cX10_across 15 = .ok (.iload_n 0, 1) := by decide +kernel
theorem dX10_across_16 : decode cX10_across 16 = .ok (.iconst 4, 1) := by decide +kernel
theorem dX10_across_17 : decode cX10_across 17 = .ok (.irem, 1) := by decide +kernel
theorem dX10_across_18 : decode cX10_across 18 = .ok (.ifCond .ne 7, 3) := by decide +kernel
theorem dX10_across_21 : decode cX10_across 21 = .ok (.iconst 0, 1) := by decide +kernel
theorem dX10_across_22 : decode cX10_across 22 = .ok (.goto 4, 3) := by decide +kernel
theorem dX10_across_25 : decode cX10_across 25 = .ok (.iconst 2, 1) := by decide +kernel
theorem dX10_across_26 : decode cX10_across 26 = .ok (.istore_n 1, 1) := by decide +kernel
theorem dX10_across_27 : decode cX10_across 27 = .ok (.iload_n 0, 1) := by decide +kernel
theorem dX10_across_28 : decode cX10_across 28 = .ok (.iconst 4, 1) := by decide +kernel
theorem dX10_across_29 : decode cX10_across 29 = .ok (.if_icmp .le 8, 3) := by decide +kernel
theorem dX10_across_32 : decode cX10_across 32 = .ok (.iload_n 1, 1) := by decide +kernel
theorem dX10_across_33 : decode cX10_across 33 = .ok (.ineg, 1) := by decide +kernel
theorem dX10_across_34 : decode cX10_across 34 = .ok (.goto 4, 3) := by decide +kernel
theorem dX10_across_37 : decode cX10_across 37 = .ok (.iload_n 1, 1) := by decide +kernel
theorem dX10_across_38 : decode cX10_across 38 = .ok (.ireturn, 1) := by decide +kernel
theorem dX10_isTipped_0 : decode cX10_isTipped 0 = .ok (.iconst 0, 1) := by decide +kernel
theorem dX10_isTipped_1 : decode cX10_isTipped 1 = .ok (.istore_n 3, 1) := by decide +kernel
theorem dX10_isTipped_2 : decode cX10_isTipped 2 = .ok (.iconst 0, 1) := by decide +kernel
theorem dX10_isTipped_3 : decode cX10_isTipped 3 = .ok (.istore 4, 2) := by decide +kernel
theorem dX10_isTipped_5 : decode cX10_isTipped 5 = .ok (.iconst 0, 1) := by decide +kernel
theorem dX10_isTipped_6 : decode cX10_isTipped 6 = .ok (.istore 5, 2) := by decide +kernel
theorem dX10_isTipped_8 : decode cX10_isTipped 8 = .ok (.iload 5, 2) := by decide +kernel
theorem dX10_isTipped_10 : decode cX10_isTipped 10 = .ok (.bipush 8, 2) := by decide +kernel
theorem dX10_isTipped_12 : decode cX10_isTipped 12 = .ok (.if_icmp .ge 58, 3) := by decide +kernel
theorem dX10_isTipped_15 : decode cX10_isTipped 15 = .ok (.iload_n 1, 1) := by decide +kernel
theorem dX10_isTipped_16 : decode cX10_isTipped 16 = .ok (.iload 5, 2) := by decide +kernel
theorem dX10_isTipped_18 : decode cX10_isTipped 18 = .ok (.ishr, 1) := by decide +kernel
theorem dX10_isTipped_19 : decode cX10_isTipped 19 = .ok (.iconst 1, 1) := by decide +kernel
theorem dX10_isTipped_20 : decode cX10_isTipped 20 = .ok (.iand, 1) := by decide +kernel
theorem dX10_isTipped_21 : decode cX10_isTipped 21 = .ok (.iconst 1, 1) := by decide +kernel
theorem dX10_isTipped_22 : decode cX10_isTipped 22 = .ok (.if_icmp .ne 42, 3) := by decide +kernel
theorem dX10_isTipped_25 : decode cX10_isTipped 25 = .ok (.iload_n 3, 1) := by decide +kernel
theorem dX10_isTipped_26 : decode cX10_isTipped 26 = .ok (.aload_n 0, 1) := by decide +kernel
theorem dX10_isTipped_27 : decode cX10_isTipped 27 = .ok (.getfield 92, 3) := by decide +kernel
theorem dX10_isTipped_30 : decode cX10_isTipped 30 = .ok (.iload 5, 2) := by decide +kernel
theorem dX10_isTipped_32 : decode cX10_isTipped 32 = .ok (.iaload, 1) := by decide +kernel
theorem dX10_isTipped_33 : decode cX10_isTipped 33 = .ok (.iload 5, 2) := by decide +kernel
theorem dX10_isTipped_35 : decode cX10_isTipped 35 = .ok (.invokestatic 296, 3) := by decide +kernel
theorem dX10_isTipped_38 : decode cX10_isTipped 38 = .ok (.imul, 1) := by decide +kernel
theorem dX10_isTipped_39 : decode cX10_isTipped 39 = .ok (.iadd, 1) := by decide +kernel
theorem dX10_isTipped_40 : decode cX10_isTipped 40 = .ok (.istore_n 3, 1) := by decide +kernel
theorem dX10_isTipped_41 : decode cX10_isTipped 41 = .ok (.iload 4, 2) := by decide +kernel
theorem dX10_isTipped_43 : decode cX10_isTipped 43 = .ok (.aload_n 0, 1) := by decide +kernel
theorem dX10_isTipped_44 : decode cX10_isTipped 44 = .ok (.getfield 92, 3) := by decide +kernel
theorem dX10_isTipped_47 : decode cX10_isTipped 47 = .ok (.iload 5, 2) := by decide +kernel
theorem dX10_isTipped_49 : decode cX10_isTipped 49 = .ok (.iaload, 1) := by decide +kernel
theorem dX10_isTipped_50 : decode cX10_isTipped 50 = .ok (.iload 5, 2) := by decide +kernel
theorem dX10_isTipped_52 : decode cX10_isTipped 52 = .ok (.iconst 2, 1) := by decide +kernel
theorem dX10_isTipped_53 : decode cX10_isTipped 53 = .ok (.iadd, 1) := by decide +kernel
theorem dX10_isTipped_54 : decode cX10_isTipped 54 = .ok (.bipush 8, 2) := by decide +kernel
theorem dX10_isTipped_56 : decode cX10_isTipped 56 = .ok (.irem, 1) := by decide +kernel
theorem dX10_isTipped_57 : decode cX10_isTipped 57 = .ok (.invokestatic 296, 3) := by decide +kernel
theorem dX10_isTipped_60 : decode cX10_isTipped 60 = .ok (.imul, 1) := by decide +kernel
theorem dX10_isTipped_61 : decode cX10_isTipped 61 = .ok (.iadd, 1) := by decide +kernel
theorem dX10_isTipped_62 : decode cX10_isTipped 62 = .ok (.istore 4, 2) := by decide +kernel
theorem dX10_isTipped_64 : decode cX10_isTipped 64 = .ok (.iinc 5 1, 3) := by decide +kernel
theorem dX10_isTipped_67 : decode cX10_isTipped 67 = .ok (.goto (-59), 3) := by decide +kernel
theorem dX10_isTipped_70 : decode cX10_isTipped 70 = .ok (.aload_n 0, 1) := by decide +kernel
theorem dX10_isTipped_71 : decode cX10_isTipped 71 = .ok (.iload_n 3, 1) := by decide +kernel
theorem dX10_isTipped_72 : decode cX10_isTipped 72 = .ok (.invokevirtual 230, 3) := by decide +kernel
theorem dX10_isTipped_75 : decode cX10_isTipped 75 = .ok (.iload_n 2, 1) := by decide +kernel
theorem dX10_isTipped_76 : decode cX10_isTipped 76 = .ok (.if_icmp .gt 13, 3) := by decide +kernel
theorem dX10_isTipped_79 : decode cX10_isTipped 79 = .ok (.aload_n 0, 1) := by decide +kernel
theorem dX10_isTipped_80 : decode cX10_isTipped 80 = .ok (.iload 4, 2) := by decide +kernel
theorem dX10_isTipped_82 : decode cX10_isTipped 82 = .ok (.invokevirtual 230, 3) := by decide +kernel
theorem dX10_isTipped_85 : decode cX10_isTipped 85 = .ok (.iload_n 2, 1) := by decide +kernel
theorem dX10_isTipped_86 : decode cX10_isTipped 86 = .ok (.if_icmp .le 7, 3) := by decide +kernel
theorem dX10_isTipped_89 : decode cX10_isTipped 89 = .ok (.iconst 1, 1) := by decide +kernel
theorem dX10_isTipped_90 : decode cX10_isTipped 90 = .ok (.goto 4, 3) := by decide +kernel
theorem dX10_isTipped_93 : decode cX10_isTipped 93 = .ok (.iconst 0, 1) := by decide +kernel
theorem dX10_isTipped_94 : decode cX10_isTipped 94 = .ok (.ireturn, 1) := by decide +kernel
theorem dX10_ordersOf_0 : decode cX10_ordersOf 0 = .ok (.iconst 0, 1) := by decide +kernel
theorem dX10_ordersOf_1 : decode cX10_ordersOf 1 = .ok (.istore_n 3, 1) := by decide +kernel
theorem dX10_ordersOf_2 : decode cX10_ordersOf 2 = .ok (.iload_n 3, 1) := by decide +kernel
theorem dX10_ordersOf_3 : decode cX10_ordersOf 3 = .ok (.iload_n 1, 1) := by decide +kernel
theorem dX10_ordersOf_4 : decode cX10_ordersOf 4 = .ok (.if_icmp .gt 97, 3) := by decide +kernel
theorem dX10_ordersOf_7 : decode cX10_ordersOf 7 = .ok (.iload_n 3, 1) := by decide +kernel
theorem dX10_ordersOf_8 : decode cX10_ordersOf 8 = .ok (.ifCond .ne 7, 3) := by decide +kernel
theorem dX10_ordersOf_11 : decode cX10_ordersOf 11 = .ok (.iconst 1, 1) := by decide +kernel
theorem dX10_ordersOf_12 : decode cX10_ordersOf 12 = .ok (.goto 4, 3) := by decide +kernel
theorem dX10_ordersOf_15 : decode cX10_ordersOf 15 = .ok (.iconst 0, 1) := by decide +kernel
theorem dX10_ordersOf_16 : decode cX10_ordersOf 16 = .ok (.istore 4, 2) := by decide +kernel
theorem dX10_ordersOf_18 : decode cX10_ordersOf 18 = .ok (.iconst 0, 1) := by decide +kernel
theorem dX10_ordersOf_19 : decode cX10_ordersOf 19 = .ok (.istore 5, 2) := by decide +kernel
theorem dX10_ordersOf_21 : decode cX10_ordersOf 21 = .ok (.iload 5, 2) := by decide +kernel
theorem dX10_ordersOf_23 : decode cX10_ordersOf 23 = .ok (.bipush 8, 2) := by decide +kernel
theorem dX10_ordersOf_25 : decode cX10_ordersOf 25 = .ok (.if_icmp .ge 49, 3) := by decide +kernel
theorem dX10_ordersOf_28 : decode cX10_ordersOf 28 = .ok (.iload 4, 2) := by decide +kernel
theorem dX10_ordersOf_30 : decode cX10_ordersOf 30 = .ok (.iload_n 3, 1) := by decide +kernel
theorem dX10_ordersOf_31 : decode cX10_ordersOf 31 = .ok (.iload 5, 2) := by decide +kernel
theorem dX10_ordersOf_33 : decode cX10_ordersOf 33 = .ok (.ishr, 1) := by decide +kernel
theorem dX10_ordersOf_34 : decode cX10_ordersOf 34 = .ok (.iconst 1, 1) := by decide +kernel
theorem dX10_ordersOf_35 : decode cX10_ordersOf 35 = .ok (.iand, 1) := by decide +kernel
theorem dX10_ordersOf_36 : decode cX10_ordersOf 36 = .ok (.iconst 1, 1) := by decide +kernel
theorem dX10_ordersOf_37 : decode cX10_ordersOf 37 = .ok (.if_icmp .ne 27, 3) := by decide +kernel
theorem dX10_ordersOf_40 : decode cX10_ordersOf 40 = .ok (.iload_n 3, 1) := by decide +kernel
theorem dX10_ordersOf_41 : decode cX10_ordersOf 41 = .ok (.iload_n 1, 1) := by decide +kernel
theorem dX10_ordersOf_42 : decode cX10_ordersOf 42 = .ok (.iconst (-1), 1) := by decide +kernel
theorem dX10_ordersOf_43 : decode cX10_ordersOf 43 = .ok (.ixor, 1) := by decide +kernel
theorem dX10_ordersOf_44 : decode cX10_ordersOf 44 = .ok (.iand, 1) := by decide +kernel
theorem dX10_ordersOf_45 : decode cX10_ordersOf 45 = .ok (.ifCond .ne 19, 3) := by decide +kernel
theorem dX10_ordersOf_48 : decode cX10_ordersOf 48 = .ok (.aload_n 0, 1) := by decide +kernel
theorem dX10_ordersOf_49 : decode cX10_ordersOf 49 = .ok (.getfield 95, 3) := by decide +kernel
theorem dX10_ordersOf_52 : decode cX10_ordersOf 52 = .ok (.iload_n 3, 1) := by decide +kernel
theorem dX10_ordersOf_53 : decode cX10_ordersOf 53 = .ok (.iconst 1, 1) := by decide +kernel
theorem dX10_ordersOf_54 : decode cX10_ordersOf 54 = .ok (.iload 5, 2) := by decide +kernel
theorem dX10_ordersOf_56 : decode cX10_ordersOf 56 = .ok (.ishl, 1) := by decide +kernel
theorem dX10_ordersOf_57 : decode cX10_ordersOf 57 = .ok (.iconst (-1), 1) := by decide +kernel
theorem dX10_ordersOf_58 : decode cX10_ordersOf 58 = .ok (.ixor, 1) := by decide +kernel
theorem dX10_ordersOf_59 : decode cX10_ordersOf 59 = .ok (.iand, 1) := by decide +kernel
theorem dX10_ordersOf_60 : decode cX10_ordersOf 60 = .ok (.iaload, 1) := by decide +kernel
theorem dX10_ordersOf_61 : decode cX10_ordersOf 61 = .ok (.goto 4, 3) := by decide +kernel
theorem dX10_ordersOf_64 : decode cX10_ordersOf 64 = .ok (.iconst 0, 1) := by decide +kernel
theorem dX10_ordersOf_65 : decode cX10_ordersOf 65 = .ok (.iadd, 1) := by decide +kernel
theorem dX10_ordersOf_66 : decode cX10_ordersOf 66 = .ok (.istore 4, 2) := by decide +kernel
theorem dX10_ordersOf_68 : decode cX10_ordersOf 68 = .ok (.iinc 5 1, 3) := by decide +kernel
theorem dX10_ordersOf_71 : decode cX10_ordersOf 71 = .ok (.goto (-50), 3) := by decide +kernel
theorem dX10_ordersOf_74 : decode cX10_ordersOf 74 = .ok (.aload_n 0, 1) := by decide +kernel
theorem dX10_ordersOf_75 : decode cX10_ordersOf 75 = .ok (.getfield 95, 3) := by decide +kernel
theorem dX10_ordersOf_78 : decode cX10_ordersOf 78 = .ok (.iload_n 3, 1) := by decide +kernel
theorem dX10_ordersOf_79 : decode cX10_ordersOf 79 = .ok (.aload_n 0, 1) := by decide +kernel
theorem dX10_ordersOf_80 : decode cX10_ordersOf 80 = .ok (.iload_n 3, 1) := by decide +kernel
theorem dX10_ordersOf_81 : decode cX10_ordersOf 81 = .ok (.iload_n 2, 1) := by decide +kernel
theorem dX10_ordersOf_82 : decode cX10_ordersOf 82 = .ok (.invokevirtual 299, 3) := by decide +kernel
theorem dX10_ordersOf_85 : decode cX10_ordersOf 85 = .ok (.ifCond .eq 7, 3) := by decide +kernel
theorem dX10_ordersOf_88 : decode cX10_ordersOf 88 = .ok (.iconst 0, 1) := by decide +kernel
theorem dX10_ordersOf_89 : decode cX10_ordersOf 89 = .ok (.goto 5, 3) := by decide +kernel
theorem dX10_ordersOf_92 : decode cX10_ordersOf 92 = .ok (.iload 4, 2) := by decide +kernel
theorem dX10_ordersOf_94 : decode cX10_ordersOf 94 = .ok (.iastore, 1) := by decide +kernel
theorem dX10_ordersOf_95 : decode cX10_ordersOf 95 = .ok (.iinc 3 1, 3) := by decide +kernel
theorem dX10_ordersOf_98 : decode cX10_ordersOf 98 = .ok (.goto (-96), 3) := by decide +kernel
theorem dX10_ordersOf_101 : decode cX10_ordersOf 101 = .ok (.aload_n 0, 1) := by decide +kernel
theorem dX10_ordersOf_102 : decode cX10_ordersOf 102 = .ok (.getfield 95, 3) := by decide +kernel
theorem dX10_ordersOf_105 : decode cX10_ordersOf 105 = .ok (.iload_n 1, 1) := by decide +kernel
theorem dX10_ordersOf_106 : decode cX10_ordersOf 106 = .ok (.iaload, 1) := by decide +kernel
theorem dX10_ordersOf_107 : decode cX10_ordersOf 107 = .ok (.ireturn, 1) := by decide +kernel
theorem dX10_tray_0 : decode cX10_tray 0 = .ok (.iload_n 1, 1) := by decide +kernel
theorem dX10_tray_1 : decode cX10_tray 1 = .ok (.invokestatic 303, 3) := by decide +kernel
theorem dX10_tray_4 : decode cX10_tray 4 = .ok (.ifCond .eq 36, 3) := by decide +kernel
theorem dX10_tray_7 : decode cX10_tray 7 = .ok (.iload_n 2, 1) := by decide +kernel
theorem dX10_tray_8 : decode cX10_tray 8 = .ok (.invokestatic 306, 3) := by decide +kernel
theorem dX10_tray_11 : decode cX10_tray 11 = .ok (.ifCond .eq 29, 3) := by decide +kernel
theorem dX10_tray_14 : decode cX10_tray 14 = .ok (.iload 4, 2) := by decide +kernel
theorem dX10_tray_16 : decode cX10_tray 16 = .ok (.i2l, 1) := by decide +kernel
theorem dX10_tray_17 : decode cX10_tray 17 = .ok (.lconst 0, 1) := by decide +kernel
theorem dX10_tray_18 : decode cX10_tray 18 = .ok (.ldc2_w 148, 3) := by decide +kernel
theorem dX10_tray_21 : decode cX10_tray 21 = .ok (.invokestatic 102, 3) := by decide +kernel
theorem dX10_tray_24 : decode cX10_tray 24 = .ok (.ifCond .eq 16, 3) := by decide +kernel
theorem dX10_tray_27 : decode cX10_tray 27 = .ok (.iload 5, 2) := by decide +kernel
theorem dX10_tray_29 : decode cX10_tray 29 = .ok (.i2l, 1) := by decide +kernel
theorem dX10_tray_30 : decode cX10_tray 30 = .ok (.lconst 0, 1) := by decide +kernel
theorem dX10_tray_31 : decode cX10_tray 31 = .ok (.ldc2_w 109, 3) := by decide +kernel
theorem dX10_tray_34 : decode cX10_tray 34 = .ok (.invokestatic 102, 3) := by decide +kernel
theorem dX10_tray_37 : decode cX10_tray 37 = .ok (.ifCond .ne 5, 3) := by decide +kernel
theorem dX10_tray_40 : decode cX10_tray 40 = .ok (.iconst (-1), 1) := by decide +kernel
theorem dX10_tray_41 : decode cX10_tray 41 = .ok (.ireturn, 1) := by decide +kernel
theorem dX10_tray_42 : decode cX10_tray 42 = .ok (.aload_n 0, 1) := by decide +kernel
theorem dX10_tray_43 : decode cX10_tray 43 = .ok (.iload_n 1, 1) := by decide +kernel
theorem dX10_tray_44 : decode cX10_tray 44 = .ok (.iload_n 2, 1) := by decide +kernel
theorem dX10_tray_45 : decode cX10_tray 45 = .ok (.iload_n 3, 1) := by decide +kernel
theorem dX10_tray_46 : decode cX10_tray 46 = .ok (.bipush 8, 2) := by decide +kernel
theorem dX10_tray_48 : decode cX10_tray 48 = .ok (.invokevirtual 309, 3) := by decide +kernel
theorem dX10_tray_51 : decode cX10_tray 51 = .ok (.istore 6, 2) := by decide +kernel
theorem dX10_tray_53 : decode cX10_tray 53 = .ok (.iload 6, 2) := by decide +kernel
theorem dX10_tray_55 : decode cX10_tray 55 = .ok (.ifCond .ge 6, 3) := by decide +kernel
theorem dX10_tray_58 : decode cX10_tray 58 = .ok (.iload 6, 2) := by decide +kernel
theorem dX10_tray_60 : decode cX10_tray 60 = .ok (.ireturn, 1) := by decide +kernel
theorem dX10_tray_61 : decode cX10_tray 61 = .ok (.iconst 0, 1) := by decide +kernel
theorem dX10_tray_62 : decode cX10_tray 62 = .ok (.istore 7, 2) := by decide +kernel
theorem dX10_tray_64 : decode cX10_tray 64 = .ok (.iconst 0, 1) := by decide +kernel
theorem dX10_tray_65 : decode cX10_tray 65 = .ok (.istore 8, 2) := by decide +kernel
theorem dX10_tray_67 : decode cX10_tray 67 = .ok (.iconst 0, 1) := by decide +kernel
theorem dX10_tray_68 : decode cX10_tray 68 = .ok (.istore 9, 2) := by decide +kernel
theorem dX10_tray_70 : decode cX10_tray 70 = .ok (.iload 9, 2) := by decide +kernel
theorem dX10_tray_72 : decode cX10_tray 72 = .ok (.bipush 8, 2) := by decide +kernel
theorem dX10_tray_74 : decode cX10_tray 74 = .ok (.if_icmp .ge 98, 3) := by decide +kernel
theorem dX10_tray_77 : decode cX10_tray 77 = .ok (.aload_n 0, 1) := by decide +kernel
theorem dX10_tray_78 : decode cX10_tray 78 = .ok (.getfield 85, 3) := by decide +kernel
theorem dX10_tray_81 : decode cX10_tray 81 = .ok (.bipush 16, 2) := by decide +kernel
theorem dX10_tray_83 : decode cX10_tray 83 = .ok (.iload_n 1, 1) := by decide +kernel
theorem dX10_tray_84 : decode cX10_tray 84 = .ok (.imul, 1) := by decide +kernel
theorem dX10_tray_85 : decode cX10_tray 85 = .ok (.iload_n 3, 1) := by decide +kernel
theorem dX10_tray_86 : decode cX10_tray 86 = .ok (.iadd, 1) := by decide +kernel
theorem dX10_tray_87 : decode cX10_tray 87 = .ok (.iload 9, 2) := by decide +kernel
theorem dX10_tray_89 : decode cX10_tray 89 = .ok (.iadd, 1) := by decide +kernel
theorem dX10_tray_90 : decode cX10_tray 90 = .ok (.laload, 1) := by decide +kernel
theorem dX10_tray_91 : decode cX10_tray 91 = .ok (.lstore 10, 2) := by decide +kernel
theorem dX10_tray_93 : decode cX10_tray 93 = .ok (.aload_n 0, 1) := by decide +kernel
theorem dX10_tray_94 : decode cX10_tray 94 = .ok (.getfield 92, 3) := by decide +kernel
theorem dX10_tray_97 : decode cX10_tray 97 = .ok (.iload 9, 2) := by decide +kernel
theorem dX10_tray_99 : decode cX10_tray 99 = .ok (.iconst 0, 1) := by decide +kernel
theorem dX10_tray_100 : decode cX10_tray 100 = .ok (.iastore, 1) := by decide +kernel
theorem dX10_tray_101 : decode cX10_tray 101 = .ok (.lload 10, 2) := by decide +kernel
theorem dX10_tray_103 : decode cX10_tray 103 = .ok (.lconst 0, 1) := by decide +kernel
theorem dX10_tray_104 : decode cX10_tray 104 = .ok (.lcmp, 1) := by decide +kernel
theorem dX10_tray_105 : decode cX10_tray 105 = .ok (.ifCond .lt 61, 3) := by decide +kernel
theorem dX10_tray_108 : decode cX10_tray 108 = .ok (.aload_n 0, 1) := by decide +kernel
theorem dX10_tray_109 : decode cX10_tray 109 = .ok (.lload 10, 2) := by decide +kernel
theorem dX10_tray_111 : decode cX10_tray 111 = .ok (.invokevirtual 122, 3) := by decide +kernel
theorem dX10_tray_114 : decode cX10_tray 114 = .ok (.ifCond .eq 15, 3) := by decide +kernel
theorem dX10_tray_117 : decode cX10_tray 117 = .ok (.iload 7, 2) := by decide +kernel
theorem dX10_tray_119 : decode cX10_tray 119 = .ok (.lload 10, 2) := by decide +kernel
theorem dX10_tray_121 : decode cX10_tray 121 = .ok (.l2i, 1) := by decide +kernel
theorem dX10_tray_122 : decode cX10_tray 122 = .ok (.ishr, 1) := by decide +kernel
theorem dX10_tray_123 : decode cX10_tray 123 = .ok (.iconst 1, 1) := by decide +kernel
theorem dX10_tray_124 : decode cX10_tray 124 = .ok (.iand, 1) := by decide +kernel
theorem dX10_tray_125 : decode cX10_tray 125 = .ok (.iconst 1, 1) := by decide +kernel
theorem dX10_tray_126 : decode cX10_tray 126 = .ok (.if_icmp .ne 6, 3) := by decide +kernel
theorem dX10_tray_129 : decode cX10_tray 129 = .ok (.bipush (-2), 2) := by decide +kernel
theorem dX10_tray_131 : decode cX10_tray 131 = .ok (.ireturn, 1) := by decide +kernel
theorem dX10_tray_132 : decode cX10_tray 132 = .ok (.iload 7, 2) := by decide +kernel
theorem dX10_tray_134 : decode cX10_tray 134 = .ok (.iconst 1, 1) := by decide +kernel
theorem dX10_tray_135 : decode cX10_tray 135 = .ok (.lload 10, 2) := by decide +kernel
theorem dX10_tray_137 : decode cX10_tray 137 = .ok (.l2i, 1) := by decide +kernel
theorem dX10_tray_138 : decode cX10_tray 138 = .ok (.ishl, 1) := by decide +kernel
theorem dX10_tray_139 : decode cX10_tray 139 = .ok (.ior, 1) := by decide +kernel
theorem dX10_tray_140 : decode cX10_tray 140 = .ok (.istore 7, 2) := by decide +kernel
theorem dX10_tray_142 : decode cX10_tray 142 = .ok (.iload 8, 2) := by decide +kernel
theorem dX10_tray_144 : decode cX10_tray 144 = .ok (.iconst 1, 1) := by decide +kernel
theorem dX10_tray_145 : decode cX10_tray 145 = .ok (.iload 9, 2) := by decide +kernel
theorem dX10_tray_147 : decode cX10_tray 147 = .ok (.ishl, 1) := by decide +kernel
theorem dX10_tray_148 : decode cX10_tray 148 = .ok (.ior, 1) := by decide +kernel
theorem dX10_tray_149 : decode cX10_tray 149 = .ok (.istore 8, 2) := by decide +kernel
theorem dX10_tray_151 : decode cX10_tray 151 = .ok (.aload_n 0, 1) := by decide +kernel
theorem dX10_tray_152 : decode cX10_tray 152 = .ok (.getfield 92, 3) := by decide +kernel
theorem dX10_tray_155 : decode cX10_tray 155 = .ok (.iload 9, 2) := by decide +kernel
theorem dX10_tray_157 : decode cX10_tray 157 = .ok (.aload_n 0, 1) := by decide +kernel
theorem dX10_tray_158 : decode cX10_tray 158 = .ok (.getfield 13, 3) := by decide +kernel
theorem dX10_tray_161 : decode cX10_tray 161 = .ok (.lload 10, 2) := by decide +kernel
theorem dX10_tray_163 : decode cX10_tray 163 = .ok (.l2i, 1) := by decide +kernel
theorem dX10_tray_164 : decode cX10_tray 164 = .ok (.iaload, 1) := by decide +kernel
theorem dX10_tray_165 : decode cX10_tray 165 = .ok (.iastore, 1) := by decide +kernel
theorem dX10_tray_166 : decode cX10_tray 166 = .ok (.iinc 9 1, 3) := by decide +kernel
theorem dX10_tray_169 : decode cX10_tray 169 = .ok (.goto (-99), 3) := by decide +kernel
theorem dX10_tray_172 : decode cX10_tray 172 = .ok (.iload 5, 2) := by decide +kernel
theorem dX10_tray_174 : decode cX10_tray 174 = .ok (.iconst 2, 1) := by decide +kernel
theorem dX10_tray_175 : decode cX10_tray 175 = .ok (.if_icmp .ge 37, 3) := by decide +kernel
theorem dX10_tray_178 : decode cX10_tray 178 = .ok (.iload 5, 2) := by decide +kernel
theorem dX10_tray_180 : decode cX10_tray 180 = .ok (.iconst 1, 1) := by decide +kernel
theorem dX10_tray_181 : decode cX10_tray 181 = .ok (.if_icmp .ne 14, 3) := by decide +kernel
theorem dX10_tray_184 : decode cX10_tray 184 = .ok (.aload_n 0, 1) := by decide +kernel
theorem dX10_tray_185 : decode cX10_tray 185 = .ok (.iload 8, 2) := by decide +kernel
theorem dX10_tray_187 : decode cX10_tray 187 = .ok (.iload 4, 2) := by decide +kernel
theorem dX10_tray_189 : decode cX10_tray 189 = .ok (.invokevirtual 313, 3) := by decide +kernel
theorem dX10_tray_192 : decode cX10_tray 192 = .ok (.goto 19, 3) := by decide +kernel
theorem dX10_tray_195 : decode cX10_tray 195 = .ok (.aload_n 0, 1) := by decide +kernel
theorem dX10_tray_196 : decode cX10_tray 196 = .ok (.iload 8, 2) := by decide +kernel
theorem dX10_tray_198 : decode cX10_tray 198 = .ok (.iload 4, 2) := by decide +kernel
theorem dX10_tray_200 : decode cX10_tray 200 = .ok (.invokevirtual 299, 3) := by decide +kernel
theorem dX10_tray_203 : decode cX10_tray 203 = .ok (.ifCond .eq 7, 3) := by decide +kernel
theorem dX10_tray_206 : decode cX10_tray 206 = .ok (.iconst 1, 1) := by decide +kernel
theorem dX10_tray_207 : decode cX10_tray 207 = .ok (.goto 4, 3) := by decide +kernel
theorem dX10_tray_210 : decode cX10_tray 210 = .ok (.iconst 0, 1) := by decide +kernel
theorem dX10_tray_211 : decode cX10_tray 211 = .ok (.ireturn, 1) := by decide +kernel
theorem dX10_tray_212 : decode cX10_tray 212 = .ok (.iconst 0, 1) := by decide +kernel
theorem dX10_tray_213 : decode cX10_tray 213 = .ok (.istore 9, 2) := by decide +kernel
theorem dX10_tray_215 : decode cX10_tray 215 = .ok (.iconst 0, 1) := by decide +kernel
theorem dX10_tray_216 : decode cX10_tray 216 = .ok (.istore 10, 2) := by decide +kernel
theorem dX10_tray_218 : decode cX10_tray 218 = .ok (.iload 10, 2) := by decide +kernel
theorem dX10_tray_220 : decode cX10_tray 220 = .ok (.bipush 8, 2) := by decide +kernel
theorem dX10_tray_222 : decode cX10_tray 222 = .ok (.if_icmp .ge 51, 3) := by decide +kernel
theorem dX10_tray_225 : decode cX10_tray 225 = .ok (.iload 9, 2) := by decide +kernel
theorem dX10_tray_227 : decode cX10_tray 227 = .ok (.iload 8, 2) := by decide +kernel
theorem dX10_tray_229 : decode cX10_tray 229 = .ok (.iload 10, 2) := by decide +kernel
theorem dX10_tray_231 : decode cX10_tray 231 = .ok (.ishr, 1) := by decide +kernel
theorem dX10_tray_232 : decode cX10_tray 232 = .ok (.iconst 1, 1) := by decide +kernel
theorem dX10_tray_233 : decode cX10_tray 233 = .ok (.iand, 1) := by decide +kernel
theorem dX10_tray_234 : decode cX10_tray 234 = .ok (.iconst 1, 1) := by decide +kernel
theorem dX10_tray_235 : decode cX10_tray 235 = .ok (.if_icmp .ne 28, 3) := by decide +kernel
theorem dX10_tray_238 : decode cX10_tray 238 = .ok (.aload_n 0, 1) := by decide +kernel
theorem dX10_tray_239 : decode cX10_tray 239 = .ok (.iload 8, 2) := by decide +kernel
theorem dX10_tray_241 : decode cX10_tray 241 = .ok (.iconst 1, 1) := by decide +kernel
theorem dX10_tray_242 : decode cX10_tray 242 = .ok (.iload 10, 2) := by decide +kernel
theorem dX10_tray_244 : decode cX10_tray 244 = .ok (.ishl, 1) := by decide +kernel
theorem dX10_tray_245 : decode cX10_tray 245 = .ok (.iconst (-1), 1) := by decide +kernel
theorem dX10_tray_246 : decode cX10_tray 246 = .ok (.ixor, 1) := by decide +kernel
theorem dX10_tray_247 : decode cX10_tray 247 = .ok (.iand, 1) := by decide +kernel
theorem dX10_tray_248 : decode cX10_tray 248 = .ok (.iload 4, 2) := by decide +kernel
theorem dX10_tray_250 : decode cX10_tray 250 = .ok (.invokevirtual 299, 3) := by decide +kernel
theorem dX10_tray_253 : decode cX10_tray 253 = .ok (.ifCond .ne 10, 3) := by decide +kernel
theorem dX10_tray_256 : decode cX10_tray 256 = .ok (.iconst 1, 1) := by decide +kernel
theorem dX10_tray_257 : decode cX10_tray 257 = .ok (.iload 10, 2) := by decide +kernel
theorem dX10_tray_259 : decode cX10_tray 259 = .ok (.ishl, 1) := by decide +kernel
theorem dX10_tray_260 : decode cX10_tray 260 = .ok (.goto 4, 3) := by decide +kernel
theorem dX10_tray_263 : decode cX10_tray 263 = .ok (.iconst 0, 1) := by decide +kernel
theorem dX10_tray_264 : decode cX10_tray 264 = .ok (.ior, 1) := by decide +kernel
theorem dX10_tray_265 : decode cX10_tray 265 = .ok (.istore 9, 2) := by decide +kernel
theorem dX10_tray_267 : decode cX10_tray 267 = .ok (.iinc 10 1, 3) := by decide +kernel
theorem dX10_tray_270 : decode cX10_tray 270 = .ok (.goto (-52), 3) := by decide +kernel
theorem dX10_tray_273 : decode cX10_tray 273 = .ok (.iload 9, 2) := by decide +kernel
theorem dX10_tray_275 : decode cX10_tray 275 = .ok (.ireturn, 1) := by decide +kernel
theorem dX10_pulled_0 : decode cX10_pulled 0 = .ok (.iload_n 1, 1) := by decide +kernel
theorem dX10_pulled_1 : decode cX10_pulled 1 = .ok (.invokestatic 303, 3) := by decide +kernel
theorem dX10_pulled_4 : decode cX10_pulled 4 = .ok (.ifCond .eq 23, 3) := by decide +kernel
theorem dX10_pulled_7 : decode cX10_pulled 7 = .ok (.iload_n 2, 1) := by decide +kernel
theorem dX10_pulled_8 : decode cX10_pulled 8 = .ok (.invokestatic 306, 3) := by decide +kernel
theorem dX10_pulled_11 : decode cX10_pulled 11 = .ok (.ifCond .eq 16, 3) := by decide +kernel
theorem dX10_pulled_14 : decode cX10_pulled 14 = .ok (.iload 4, 2) := by decide +kernel
theorem dX10_pulled_16 : decode cX10_pulled 16 = .ok (.i2l, 1) := by decide +kernel
theorem dX10_pulled_17 : decode cX10_pulled 17 = .ok (.lconst 0, 1) := by decide +kernel
theorem dX10_pulled_18 : decode cX10_pulled 18 = .ok (.ldc2_w 109, 3) := by decide +kernel
theorem dX10_pulled_21 : decode cX10_pulled 21 = .ok (.invokestatic 102, 3) := by decide +kernel
theorem dX10_pulled_24 : decode cX10_pulled 24 = .ok (.ifCond .ne 5, 3) := by decide +kernel
theorem dX10_pulled_27 : decode cX10_pulled 27 = .ok (.iconst (-1), 1) := by decide +kernel
theorem dX10_pulled_28 : decode cX10_pulled 28 = .ok (.ireturn, 1) := by decide +kernel
theorem dX10_pulled_29 : decode cX10_pulled 29 = .ok (.aload_n 0, 1) := by decide +kernel
theorem dX10_pulled_30 : decode cX10_pulled 30 = .ok (.iload_n 1, 1) := by decide +kernel
theorem dX10_pulled_31 : decode cX10_pulled 31 = .ok (.iload_n 2, 1) := by decide +kernel
theorem dX10_pulled_32 : decode cX10_pulled 32 = .ok (.iload_n 3, 1) := by decide +kernel
theorem dX10_pulled_33 : decode cX10_pulled 33 = .ok (.aload_n 0, 1) := by decide +kernel
theorem dX10_pulled_34 : decode cX10_pulled 34 = .ok (.getfield 106, 3) := by decide +kernel
theorem dX10_pulled_37 : decode cX10_pulled 37 = .ok (.invokevirtual 309, 3) := by decide +kernel
theorem dX10_pulled_40 : decode cX10_pulled 40 = .ok (.istore 5, 2) := by decide +kernel
theorem dX10_pulled_42 : decode cX10_pulled 42 = .ok (.iload 5, 2) := by decide +kernel
theorem dX10_pulled_44 : decode cX10_pulled 44 = .ok (.ifCond .ge 6, 3) := by decide +kernel
theorem dX10_pulled_47 : decode cX10_pulled 47 = .ok (.iload 5, 2) := by decide +kernel
theorem dX10_pulled_49 : decode cX10_pulled 49 = .ok (.ireturn, 1) := by decide +kernel
theorem dX10_pulled_50 : decode cX10_pulled 50 = .ok (.iconst 0, 1) := by decide +kernel
theorem dX10_pulled_51 : decode cX10_pulled 51 = .ok (.istore 6, 2) := by decide +kernel
theorem dX10_pulled_53 : decode cX10_pulled 53 = .ok (.iconst 0, 1) := by decide +kernel
theorem dX10_pulled_54 : decode cX10_pulled 54 = .ok (.istore 7, 2) := by decide +kernel
theorem dX10_pulled_56 : decode cX10_pulled 56 = .ok (.iconst 1, 1) := by decide +kernel
theorem dX10_pulled_57 : decode cX10_pulled 57 = .ok (.aload_n 0, 1) := by decide +kernel
theorem dX10_pulled_58 : decode cX10_pulled 58 = .ok (.getfield 98, 3) := by decide +kernel
theorem dX10_pulled_61 : decode cX10_pulled 61 = .ok (.ishl, 1) := by decide +kernel
theorem dX10_pulled_62 : decode cX10_pulled 62 = .ok (.iconst 1, 1) := by decide +kernel
theorem dX10_pulled_63 : decode cX10_pulled 63 = .ok (.isub, 1) := by decide +kernel
theorem dX10_pulled_64 : decode cX10_pulled 64 = .ok (.istore 8, 2) := by decide +kernel
theorem dX10_pulled_66 : decode cX10_pulled 66 = .ok (.aload_n 0, 1) := by decide +kernel
theorem dX10_pulled_67 : decode cX10_pulled 67 = .ok (.invokevirtual 237, 3) := by decide +kernel
theorem dX10_pulled_70 : decode cX10_pulled 70 = .ok (.iconst 1, 1) := by decide +kernel
theorem dX10_pulled_71 : decode cX10_pulled 71 = .ok (.istore 9, 2) := by decide +kernel
theorem dX10_pulled_73 : decode cX10_pulled 73 = .ok (.iload 9, 2) := by decide +kernel
theorem dX10_pulled_75 : decode cX10_pulled 75 = .ok (.ifCond .eq 166, 3) := by decide +kernel
theorem dX10_pulled_78 : decode cX10_pulled 78 = .ok (.aload_n 0, 1) := by decide +kernel
theorem dX10_pulled_79 : decode cX10_pulled 79 = .ok (.aload_n 0, 1) := by decide +kernel
theorem dX10_pulled_80 : decode cX10_pulled 80 = .ok (.getfield 64, 3) := by decide +kernel
theorem dX10_pulled_83 : decode cX10_pulled 83 = .ok (.invokevirtual 240, 3) := by decide +kernel
theorem dX10_pulled_86 : decode cX10_pulled 86 = .ok (.istore 10, 2) := by decide +kernel
theorem dX10_pulled_88 : decode cX10_pulled 88 = .ok (.iconst 0, 1) := by decide +kernel
theorem dX10_pulled_89 : decode cX10_pulled 89 = .ok (.istore 11, 2) := by decide +kernel
theorem dX10_pulled_91 : decode cX10_pulled 91 = .ok (.iload 11, 2) := by decide +kernel
theorem dX10_pulled_93 : decode cX10_pulled 93 = .ok (.aload_n 0, 1) := by decide +kernel
theorem dX10_pulled_94 : decode cX10_pulled 94 = .ok (.getfield 106, 3) := by decide +kernel
theorem dX10_pulled_97 : decode cX10_pulled 97 = .ok (.if_icmp .ge 50, 3) := by decide +kernel
theorem dX10_pulled_100 : decode cX10_pulled 100 = .ok (.iload 10, 2) := by decide +kernel
theorem dX10_pulled_102 : decode cX10_pulled 102 = .ok (.ifCond .eq 45, 3) := by decide +kernel
theorem dX10_pulled_105 : decode cX10_pulled 105 = .ok (.aload_n 0, 1) := by decide +kernel
theorem dX10_pulled_106 : decode cX10_pulled 106 = .ok (.aload_n 0, 1) := by decide +kernel
theorem dX10_pulled_107 : decode cX10_pulled 107 = .ok (.getfield 64, 3) := by decide +kernel
theorem dX10_pulled_110 : decode cX10_pulled 110 = .ok (.iload 11, 2) := by decide +kernel
theorem dX10_pulled_112 : decode cX10_pulled 112 = .ok (.invokevirtual 219, 3) := by decide +kernel
theorem dX10_pulled_115 : decode cX10_pulled 115 = .ok (.i2l, 1) := by decide +kernel
theorem dX10_pulled_116 : decode cX10_pulled 116 = .ok (.aload_n 0, 1) := by decide +kernel
theorem dX10_pulled_117 : decode cX10_pulled 117 = .ok (.getfield 85, 3) := by decide +kernel
theorem dX10_pulled_120 : decode cX10_pulled 120 = .ok (.bipush 16, 2) := by decide +kernel
theorem dX10_pulled_122 : decode cX10_pulled 122 = .ok (.iload_n 1, 1) := by decide +kernel
theorem dX10_pulled_123 : decode cX10_pulled 123 = .ok (.imul, 1) := by decide +kernel
theorem dX10_pulled_124 : decode cX10_pulled 124 = .ok (.iload_n 3, 1) := by decide +kernel
theorem dX10_pulled_125 : decode cX10_pulled 125 = .ok (.iadd, 1) := by decide +kernel
theorem dX10_pulled_126 : decode cX10_pulled 126 = .ok (.iload 11, 2) := by decide +kernel
theorem dX10_pulled_128 : decode cX10_pulled 128 = .ok (.iadd, 1) := by decide +kernel
theorem dX10_pulled_129 : decode cX10_pulled 129 = .ok (.laload, 1) := by decide +kernel
theorem dX10_pulled_130 : decode cX10_pulled 130 = .ok (.lcmp, 1) := by decide +kernel
theorem dX10_pulled_131 : decode cX10_pulled 131 = .ok (.ifCond .ne 7, 3) := by decide +kernel
theorem dX10_pulled_134 : decode cX10_pulled 134 = .ok (.iconst 1, 1) := by decide +kernel
theorem dX10_pulled_135 : decode cX10_pulled 135 = .ok (.goto 4, 3) := by decide +kernel
theorem dX10_pulled_138 : decode cX10_pulled 138 = .ok (.iconst 0, 1) := by decide +kernel
theorem dX10_pulled_139 : decode cX10_pulled 139 = .ok (.istore 10, 2) := by decide +kernel
theorem dX10_pulled_141 : decode cX10_pulled 141 = .ok (.iinc 11 1, 3) := by decide +kernel
theorem dX10_pulled_144 : decode cX10_pulled 144 = .ok (.goto (-53), 3) := by decide +kernel
theorem dX10_pulled_147 : decode cX10_pulled 147 = .ok (.iload 10, 2) := by decide +kernel
theorem dX10_pulled_149 : decode cX10_pulled 149 = .ok (.ifCond .eq 12, 3) := by decide +kernel
theorem dX10_pulled_152 : decode cX10_pulled 152 = .ok (.iload 6, 2) := by decide +kernel
theorem dX10_pulled_154 : decode cX10_pulled 154 = .ok (.ifCond .ne 7, 3) := by decide +kernel
theorem dX10_pulled_157 : decode cX10_pulled 157 = .ok (.aload_n 0, 1) := by decide +kernel
theorem dX10_pulled_158 : decode cX10_pulled 158 = .ok (.invokevirtual 249, 3) := by decide +kernel
theorem dX10_pulled_161 : decode cX10_pulled 161 = .ok (.iconst 0, 1) := by decide +kernel
theorem dX10_pulled_162 : decode cX10_pulled 162 = .ok (.istore 11, 2) := by decide +kernel
theorem dX10_pulled_164 : decode cX10_pulled 164 = .ok (.iload 11, 2) := by decide +kernel
theorem dX10_pulled_166 : decode cX10_pulled 166 = .ok (.aload_n 0, 1) := by decide +kernel
theorem dX10_pulled_167 : decode cX10_pulled 167 = .ok (.getfield 98, 3) := by decide +kernel
theorem dX10_pulled_170 : decode cX10_pulled 170 = .ok (.if_icmp .ge 46, 3) := by decide +kernel
theorem dX10_pulled_173 : decode cX10_pulled 173 = .ok (.iload 10, 2) := by decide +kernel
theorem dX10_pulled_175 : decode cX10_pulled 175 = .ok (.ifCond .eq 41, 3) := by decide +kernel
theorem dX10_pulled_178 : decode cX10_pulled 178 = .ok (.iload 8, 2) := by decide +kernel
theorem dX10_pulled_180 : decode cX10_pulled 180 = .ok (.aload_n 0, 1) := by decide +kernel
theorem dX10_pulled_181 : decode cX10_pulled 181 = .ok (.getfield 64, 3) := by decide +kernel
theorem dX10_pulled_184 : decode cX10_pulled 184 = .ok (.iload 11, 2) := by decide +kernel
theorem dX10_pulled_186 : decode cX10_pulled 186 = .ok (.iaload, 1) := by decide +kernel
theorem dX10_pulled_187 : decode cX10_pulled 187 = .ok (.aload_n 0, 1) := by decide +kernel
theorem dX10_pulled_188 : decode cX10_pulled 188 = .ok (.getfield 67, 3) := by decide +kernel
theorem dX10_pulled_191 : decode cX10_pulled 191 = .ok (.iload 11, 2) := by decide +kernel
theorem dX10_pulled_193 : decode cX10_pulled 193 = .ok (.iaload, 1) := by decide +kernel
theorem dX10_pulled_194 : decode cX10_pulled 194 = .ok (.if_icmp .ne 7, 3) := by decide +kernel
theorem dX10_pulled_197 : decode cX10_pulled 197 = .ok (.iconst (-1), 1) := by decide +kernel
theorem dX10_pulled_198 : decode cX10_pulled 198 = .ok (.goto 9, 3) := by decide +kernel
theorem dX10_pulled_201 : decode cX10_pulled 201 = .ok (.iconst 1, 1) := by decide +kernel
theorem dX10_pulled_202 : decode cX10_pulled 202 = .ok (.iload 11, 2) := by decide +kernel
theorem dX10_pulled_204 : decode cX10_pulled 204 = .ok (.ishl, 1) := by decide +kernel
theorem dX10_pulled_205 : decode cX10_pulled 205 = .ok (.iconst (-1), 1) := by decide +kernel
theorem dX10_pulled_206 : decode cX10_pulled 206 = .ok (.ixor, 1) := by decide +kernel
theorem dX10_pulled_207 : decode cX10_pulled 207 = .ok (.iand, 1) := by decide +kernel
theorem dX10_pulled_208 : decode cX10_pulled 208 = .ok (.istore 8, 2) := by decide +kernel
theorem dX10_pulled_210 : decode cX10_pulled 210 = .ok (.iinc 11 1, 3) := by decide +kernel
theorem dX10_pulled_213 : decode cX10_pulled 213 = .ok (.goto (-49), 3) := by decide +kernel
theorem dX10_pulled_216 : decode cX10_pulled 216 = .ok (.iload 6, 2) := by decide +kernel
theorem dX10_pulled_218 : decode cX10_pulled 218 = .ok (.iload 10, 2) := by decide +kernel
theorem dX10_pulled_220 : decode cX10_pulled 220 = .ok (.ifCond .eq 7, 3) := by decide +kernel
theorem dX10_pulled_223 : decode cX10_pulled 223 = .ok (.iconst 1, 1) := by decide +kernel
theorem dX10_pulled_224 : decode cX10_pulled 224 = .ok (.goto 4, 3) := by decide +kernel
theorem dX10_pulled_227 : decode cX10_pulled 227 = .ok (.iconst 0, 1) := by decide +kernel
theorem dX10_pulled_228 : decode cX10_pulled 228 = .ok (.iadd, 1) := by decide +kernel
theorem dX10_pulled_229 : decode cX10_pulled 229 = .ok (.istore 6, 2) := by decide +kernel
theorem dX10_pulled_231 : decode cX10_pulled 231 = .ok (.aload_n 0, 1) := by decide +kernel
theorem dX10_pulled_232 : decode cX10_pulled 232 = .ok (.iconst 3, 1) := by decide +kernel
theorem dX10_pulled_233 : decode cX10_pulled 233 = .ok (.invokevirtual 252, 3) := by decide +kernel
theorem dX10_pulled_236 : decode cX10_pulled 236 = .ok (.istore 9, 2) := by decide +kernel
theorem dX10_pulled_238 : decode cX10_pulled 238 = .ok (.goto (-165), 3) := by decide +kernel
theorem dX10_pulled_241 : decode cX10_pulled 241 = .ok (.iconst 0, 1) := by decide +kernel
theorem dX10_pulled_242 : decode cX10_pulled 242 = .ok (.istore 10, 2) := by decide +kernel
theorem dX10_pulled_244 : decode cX10_pulled 244 = .ok (.iload 10, 2) := by decide +kernel
theorem dX10_pulled_246 : decode cX10_pulled 246 = .ok (.aload_n 0, 1) := by decide +kernel
theorem dX10_pulled_247 : decode cX10_pulled 247 = .ok (.getfield 98, 3) := by decide +kernel
theorem dX10_pulled_250 : decode cX10_pulled 250 = .ok (.if_icmp .ge 28, 3) := by decide +kernel
theorem dX10_pulled_253 : decode cX10_pulled 253 = .ok (.iload 6, 2) := by decide +kernel
theorem dX10_pulled_255 : decode cX10_pulled 255 = .ok (.ifCond .le 23, 3) := by decide +kernel
theorem dX10_pulled_258 : decode cX10_pulled 258 = .ok (.iconst 3, 1) := by decide +kernel
theorem dX10_pulled_259 : decode cX10_pulled 259 = .ok (.iload 7, 2) := by decide +kernel
theorem dX10_pulled_261 : decode cX10_pulled 261 = .ok (.imul, 1) := by decide +kernel
theorem dX10_pulled_262 : decode cX10_pulled 262 = .ok (.aload_n 0, 1) := by decide +kernel
theorem dX10_pulled_263 : decode cX10_pulled 263 = .ok (.getfield 67, 3) := by decide +kernel
theorem dX10_pulled_266 : decode cX10_pulled 266 = .ok (.iload 10, 2) := by decide +kernel
theorem dX10_pulled_268 : decode cX10_pulled 268 = .ok (.iaload, 1) := by decide +kernel
theorem dX10_pulled_269 : decode cX10_pulled 269 = .ok (.iadd, 1) := by decide +kernel
theorem dX10_pulled_270 : decode cX10_pulled 270 = .ok (.istore 7, 2) := by decide +kernel
theorem dX10_pulled_272 : decode cX10_pulled 272 = .ok (.iinc 10 1, 3) := by decide +kernel
theorem dX10_pulled_275 : decode cX10_pulled 275 = .ok (.goto (-31), 3) := by decide +kernel
theorem dX10_pulled_278 : decode cX10_pulled 278 = .ok (.iload 4, 2) := by decide +kernel
theorem dX10_pulled_280 : decode cX10_pulled 280 = .ok (.ifCond .ne 8, 3) := by decide +kernel
theorem dX10_pulled_283 : decode cX10_pulled 283 = .ok (.iload 6, 2) := by decide +kernel
theorem dX10_pulled_285 : decode cX10_pulled 285 = .ok (.goto 26, 3) := by decide +kernel
theorem dX10_pulled_288 : decode cX10_pulled 288 = .ok (.iload 6, 2) := by decide +kernel
theorem dX10_pulled_290 : decode cX10_pulled 290 = .ok (.ifCond .ne 8, 3) := by decide +kernel
theorem dX10_pulled_293 : decode cX10_pulled 293 = .ok (.bipush (-4), 2) := by decide +kernel
theorem dX10_pulled_295 : decode cX10_pulled 295 = .ok (.goto 16, 3) := by decide +kernel
theorem dX10_pulled_298 : decode cX10_pulled 298 = .ok (.iload 4, 2) := by decide +kernel
theorem dX10_pulled_300 : decode cX10_pulled 300 = .ok (.iconst 1, 1) := by decide +kernel
theorem dX10_pulled_301 : decode cX10_pulled 301 = .ok (.if_icmp .ne 8, 3) := by decide +kernel
theorem dX10_pulled_304 : decode cX10_pulled 304 = .ok (.iload 7, 2) := by decide +kernel
theorem dX10_pulled_306 : decode cX10_pulled 306 = .ok (.goto 5, 3) := by decide +kernel
theorem dX10_pulled_309 : decode cX10_pulled 309 = .ok (.iload 8, 2) := by decide +kernel
theorem dX10_pulled_311 : decode cX10_pulled 311 = .ok (.ireturn, 1) := by decide +kernel
theorem dX10_puts_0 : decode cX10_puts 0 = .ok (.aload_n 0, 1) := by decide +kernel
theorem dX10_puts_1 : decode cX10_puts 1 = .ok (.getfield 79, 3) := by decide +kernel
theorem dX10_puts_4 : decode cX10_puts 4 = .ok (.iload_n 1, 1) := by decide +kernel
theorem dX10_puts_5 : decode cX10_puts 5 = .ok (.iaload, 1) := by decide +kernel
theorem dX10_puts_6 : decode cX10_puts 6 = .ok (.istore 5, 2) := by decide +kernel
theorem dX10_puts_8 : decode cX10_puts 8 = .ok (.aload_n 0, 1) := by decide +kernel
theorem dX10_puts_9 : decode cX10_puts 9 = .ok (.getfield 85, 3) := by decide +kernel
theorem dX10_puts_12 : decode cX10_puts 12 = .ok (.bipush 16, 2) := by decide +kernel
theorem dX10_puts_14 : decode cX10_puts 14 = .ok (.iload_n 1, 1) := by decide +kernel
theorem dX10_puts_15 : decode cX10_puts 15 = .ok (.imul, 1) := by decide +kernel
theorem dX10_puts_16 : decode cX10_puts 16 = .ok (.iload_n 2, 1) := by decide +kernel
theorem dX10_puts_17 : decode cX10_puts 17 = .ok (.iadd, 1) := by decide +kernel
theorem dX10_puts_18 : decode cX10_puts 18 = .ok (.iload 5, 2) := by decide +kernel
theorem dX10_puts_20 : decode cX10_puts 20 = .ok (.ifCond .ne 10, 3) := by decide +kernel
theorem dX10_puts_23 : decode cX10_puts 23 = .ok (.lload_n 3, 1) := by decide +kernel
theorem dX10_puts_24 : decode cX10_puts 24 = .ok (.l2i, 1) := by decide +kernel
theorem dX10_puts_25 : decode cX10_puts 25 = .ok (.i2b, 1) := by decide +kernel
theorem dX10_puts_26 : decode cX10_puts 26 = .ok (.i2l, 1) := by decide +kernel
theorem dX10_puts_27 : decode cX10_puts 27 = .ok (.goto 29, 3) := by decide +kernel
theorem dX10_puts_30 : decode cX10_puts 30 = .ok (.iload 5, 2) := by decide +kernel
theorem dX10_puts_32 : decode cX10_puts 32 = .ok (.iconst 1, 1) := by decide +kernel
theorem dX10_puts_33 : decode cX10_puts 33 = .ok (.if_icmp .ne 10, 3) := by decide +kernel
theorem dX10_puts_36 : decode cX10_puts 36 = .ok (.lload_n 3, 1) := by decide +kernel
theorem dX10_puts_37 : decode cX10_puts 37 = .ok (.l2i, 1) := by decide +kernel
theorem dX10_puts_38 : decode cX10_puts 38 = .ok (.i2s, 1) := by decide +kernel
theorem dX10_puts_39 : decode cX10_puts 39 = .ok (.i2l, 1) := by decide +kernel
theorem dX10_puts_40 : decode cX10_puts 40 = .ok (.goto 16, 3) := by decide +kernel
theorem dX10_puts_43 : decode cX10_puts 43 = .ok (.iload 5, 2) := by decide +kernel
theorem dX10_puts_45 : decode cX10_puts 45 = .ok (.iconst 2, 1) := by decide +kernel
theorem dX10_puts_46 : decode cX10_puts 46 = .ok (.if_icmp .ne 9, 3) := by decide +kernel
theorem dX10_puts_49 : decode cX10_puts 49 = .ok (.lload_n 3, 1) := by decide +kernel
theorem dX10_puts_50 : decode cX10_puts 50 = .ok (.l2i, 1) := by decide +kernel
theorem dX10_puts_51 : decode cX10_puts 51 = .ok (.i2l, 1) := by decide +kernel
theorem dX10_puts_52 : decode cX10_puts 52 = .ok (.goto 4, 3) := by decide +kernel
theorem dX10_puts_55 : decode cX10_puts 55 = .ok (.lload_n 3, 1) := by decide +kernel
theorem dX10_puts_56 : decode cX10_puts 56 = .ok (.lastore, 1) := by decide +kernel
theorem dX10_puts_57 : decode cX10_puts 57 = .ok (.return_, 1) := by decide +kernel
theorem dX10_film_0 : decode cX10_film 0 = .ok (.iload_n 1, 1) := by decide +kernel
theorem dX10_film_1 : decode cX10_film 1 = .ok (.invokestatic 303, 3) := by decide +kernel
theorem dX10_film_4 : decode cX10_film 4 = .ok (.ifCond .eq 10, 3) := by decide +kernel
theorem dX10_film_7 : decode cX10_film 7 = .ok (.iload_n 2, 1) := by decide +kernel
theorem dX10_film_8 : decode cX10_film 8 = .ok (.invokestatic 306, 3) := by decide +kernel
theorem dX10_film_11 : decode cX10_film 11 = .ok (.ifCond .ne 5, 3) := by decide +kernel
theorem dX10_film_14 : decode cX10_film 14 = .ok (.iconst (-1), 1) := by decide +kernel
theorem dX10_film_15 : decode cX10_film 15 = .ok (.ireturn, 1) := by decide +kernel
theorem dX10_film_16 : decode cX10_film 16 = .ok (.aload_n 0, 1) := by decide +kernel
theorem dX10_film_17 : decode cX10_film 17 = .ok (.iload_n 1, 1) := by decide +kernel
theorem dX10_film_18 : decode cX10_film 18 = .ok (.iload_n 2, 1) := by decide +kernel
theorem dX10_film_19 : decode cX10_film 19 = .ok (.iload_n 3, 1) := by decide +kernel
theorem dX10_film_20 : decode cX10_film 20 = .ok (.aload_n 0, 1) := by decide +kernel
theorem dX10_film_21 : decode cX10_film 21 = .ok (.getfield 106, 3) := by decide +kernel
theorem dX10_film_24 : decode cX10_film 24 = .ok (.invokevirtual 309, 3) := by decide +kernel
theorem dX10_film_27 : decode cX10_film 27 = .ok (.istore 4, 2) := by decide +kernel
theorem dX10_film_29 : decode cX10_film 29 = .ok (.iload 4, 2) := by decide +kernel
theorem dX10_film_31 : decode cX10_film 31 = .ok (.ifCond .ge 6, 3) := by decide +kernel
theorem dX10_film_34 : decode cX10_film 34 = .ok (.iload 4, 2) := by decide +kernel
theorem dX10_film_36 : decode cX10_film 36 = .ok (.ireturn, 1) := by decide +kernel
theorem dX10_film_37 : decode cX10_film 37 = .ok (.iconst 0, 1) := by decide +kernel
theorem dX10_film_38 : decode cX10_film 38 = .ok (.istore 5, 2) := by decide +kernel
theorem dX10_film_40 : decode cX10_film 40 = .ok (.iload 5, 2) := by decide +kernel
theorem dX10_film_42 : decode cX10_film 42 = .ok (.aload_n 0, 1) := by decide +kernel
theorem dX10_film_43 : decode cX10_film 43 = .ok (.getfield 106, 3) := by decide +kernel
theorem dX10_film_46 : decode cX10_film 46 = .ok (.if_icmp .ge 29, 3) := by decide +kernel
theorem dX10_film_49 : decode cX10_film 49 = .ok (.aload_n 0, 1) := by decide +kernel
theorem dX10_film_50 : decode cX10_film 50 = .ok (.iload_n 1, 1) := by decide +kernel
theorem dX10_film_51 : decode cX10_film 51 = .ok (.iload_n 3, 1) := by decide +kernel
theorem dX10_film_52 : decode cX10_film 52 = .ok (.iload 5, 2) := by decide +kernel
theorem dX10_film_54 : decode cX10_film 54 = .ok (.iadd, 1) := by decide +kernel
theorem dX10_film_55 : decode cX10_film 55 = .ok (.aload_n 0, 1) := by decide +kernel
theorem dX10_film_56 : decode cX10_film 56 = .ok (.aload_n 0, 1) := by decide +kernel
theorem dX10_film_57 : decode cX10_film 57 = .ok (.getfield 22, 3) := by decide +kernel
theorem dX10_film_60 : decode cX10_film 60 = .ok (.iload 5, 2) := by decide +kernel
theorem dX10_film_62 : decode cX10_film 62 = .ok (.invokevirtual 219, 3) := by decide +kernel
theorem dX10_film_65 : decode cX10_film 65 = .ok (.i2l, 1) := by decide +kernel
theorem dX10_film_66 : decode cX10_film 66 = .ok (.invokevirtual 316, 3) := by decide +kernel
theorem dX10_film_69 : decode cX10_film 69 = .ok (.iinc 5 1, 3) := by decide +kernel
theorem dX10_film_72 : decode cX10_film 72 = .ok (.goto (-32), 3) := by decide +kernel
theorem dX10_film_75 : decode cX10_film 75 = .ok (.aload_n 0, 1) := by decide +kernel
theorem dX10_film_76 : decode cX10_film 76 = .ok (.getfield 106, 3) := by decide +kernel
theorem dX10_film_79 : decode cX10_film 79 = .ok (.ireturn, 1) := by decide +kernel
theorem dX10_lay_0 : decode cX10_lay 0 = .ok (.iload_n 1, 1) := by decide +kernel
theorem dX10_lay_1 : decode cX10_lay 1 = .ok (.invokestatic 303, 3) := by decide +kernel
theorem dX10_lay_4 : decode cX10_lay 4 = .ok (.ifCond .eq 10, 3) := by decide +kernel
theorem dX10_lay_7 : decode cX10_lay 7 = .ok (.iload_n 2, 1) := by decide +kernel
theorem dX10_lay_8 : decode cX10_lay 8 = .ok (.invokestatic 306, 3) := by decide +kernel
theorem dX10_lay_11 : decode cX10_lay 11 = .ok (.ifCond .ne 5, 3) := by decide +kernel
theorem dX10_lay_14 : decode cX10_lay 14 = .ok (.iconst (-1), 1) := by decide +kernel
theorem dX10_lay_15 : decode cX10_lay 15 = .ok (.ireturn, 1) := by decide +kernel
theorem dX10_lay_16 : decode cX10_lay 16 = .ok (.aload_n 0, 1) := by decide +kernel
theorem dX10_lay_17 : decode cX10_lay 17 = .ok (.iload_n 1, 1) := by decide +kernel
theorem dX10_lay_18 : decode cX10_lay 18 = .ok (.iload_n 2, 1) := by decide +kernel
theorem dX10_lay_19 : decode cX10_lay 19 = .ok (.iload_n 3, 1) := by decide +kernel
theorem dX10_lay_20 : decode cX10_lay 20 = .ok (.aload_n 0, 1) := by decide +kernel
theorem dX10_lay_21 : decode cX10_lay 21 = .ok (.getfield 98, 3) := by decide +kernel
theorem dX10_lay_24 : decode cX10_lay 24 = .ok (.invokevirtual 309, 3) := by decide +kernel
theorem dX10_lay_27 : decode cX10_lay 27 = .ok (.istore 4, 2) := by decide +kernel
theorem dX10_lay_29 : decode cX10_lay 29 = .ok (.iload 4, 2) := by decide +kernel
theorem dX10_lay_31 : decode cX10_lay 31 = .ok (.ifCond .ge 6, 3) := by decide +kernel
theorem dX10_lay_34 : decode cX10_lay 34 = .ok (.iload 4, 2) := by decide +kernel
theorem dX10_lay_36 : decode cX10_lay 36 = .ok (.ireturn, 1) := by decide +kernel
theorem dX10_lay_37 : decode cX10_lay 37 = .ok (.iconst 0, 1) := by decide +kernel
theorem dX10_lay_38 : decode cX10_lay 38 = .ok (.istore 5, 2) := by decide +kernel
theorem dX10_lay_40 : decode cX10_lay 40 = .ok (.iload 5, 2) := by decide +kernel
theorem dX10_lay_42 : decode cX10_lay 42 = .ok (.aload_n 0, 1) := by decide +kernel
theorem dX10_lay_43 : decode cX10_lay 43 = .ok (.getfield 98, 3) := by decide +kernel
theorem dX10_lay_46 : decode cX10_lay 46 = .ok (.if_icmp .ge 32, 3) := by decide +kernel
theorem dX10_lay_49 : decode cX10_lay 49 = .ok (.aload_n 0, 1) := by decide +kernel
theorem dX10_lay_50 : decode cX10_lay 50 = .ok (.getfield 85, 3) := by decide +kernel
theorem dX10_lay_53 : decode cX10_lay 53 = .ok (.bipush 16, 2) := by decide +kernel
theorem dX10_lay_55 : decode cX10_lay 55 = .ok (.iload_n 1, 1) := by decide +kernel
theorem dX10_lay_56 : decode cX10_lay 56 = .ok (.imul, 1) := by decide +kernel
theorem dX10_lay_57 : decode cX10_lay 57 = .ok (.iload_n 3, 1) := by decide +kernel
theorem dX10_lay_58 : decode cX10_lay 58 = .ok (.iadd, 1) := by decide +kernel
theorem dX10_lay_59 : decode cX10_lay 59 = .ok (.iload 5, 2) := by decide +kernel
theorem dX10_lay_61 : decode cX10_lay 61 = .ok (.iadd, 1) := by decide +kernel
theorem dX10_lay_62 : decode cX10_lay 62 = .ok (.laload, 1) := by decide +kernel
theorem dX10_lay_63 : decode cX10_lay 63 = .ok (.invokestatic 143, 3) := by decide +kernel
theorem dX10_lay_66 : decode cX10_lay 66 = .ok (.ifCond .ne 6, 3) := by decide +kernel
theorem dX10_lay_69 : decode cX10_lay 69 = .ok (.bipush (-2), 2) := by decide +kernel
theorem dX10_lay_71 : decode cX10_lay 71 = .ok (.ireturn, 1) := by decide +kernel
theorem dX10_lay_72 : decode cX10_lay 72 = .ok (.iinc 5 1, 3) := by decide +kernel
theorem dX10_lay_75 : decode cX10_lay 75 = .ok (.goto (-35), 3) := by decide +kernel
theorem dX10_lay_78 : decode cX10_lay 78 = .ok (.iconst 0, 1) := by decide +kernel
theorem dX10_lay_79 : decode cX10_lay 79 = .ok (.istore 5, 2) := by decide +kernel
theorem dX10_lay_81 : decode cX10_lay 81 = .ok (.iload 5, 2) := by decide +kernel
theorem dX10_lay_83 : decode cX10_lay 83 = .ok (.aload_n 0, 1) := by decide +kernel
theorem dX10_lay_84 : decode cX10_lay 84 = .ok (.getfield 98, 3) := by decide +kernel
theorem dX10_lay_87 : decode cX10_lay 87 = .ok (.if_icmp .ge 31, 3) := by decide +kernel
theorem dX10_lay_90 : decode cX10_lay 90 = .ok (.aload_n 0, 1) := by decide +kernel
theorem dX10_lay_91 : decode cX10_lay 91 = .ok (.getfield 22, 3) := by decide +kernel
theorem dX10_lay_94 : decode cX10_lay 94 = .ok (.iload 5, 2) := by decide +kernel
theorem dX10_lay_96 : decode cX10_lay 96 = .ok (.aload_n 0, 1) := by decide +kernel
theorem dX10_lay_97 : decode cX10_lay 97 = .ok (.getfield 85, 3) := by decide +kernel
theorem dX10_lay_100 : decode cX10_lay 100 = .ok (.bipush 16, 2) := by decide +kernel
theorem dX10_lay_102 : decode cX10_lay 102 = .ok (.iload_n 1, 1) := by decide +kernel
theorem dX10_lay_103 : decode cX10_lay 103 = .ok (.imul, 1) := by decide +kernel
theorem dX10_lay_104 : decode cX10_lay 104 = .ok (.iload_n 3, 1) := by decide +kernel
theorem dX10_lay_105 : decode cX10_lay 105 = .ok (.iadd, 1) := by decide +kernel
theorem dX10_lay_106 : decode cX10_lay 106 = .ok (.iload 5, 2) := by decide +kernel
theorem dX10_lay_108 : decode cX10_lay 108 = .ok (.iadd, 1) := by decide +kernel
theorem dX10_lay_109 : decode cX10_lay 109 = .ok (.laload, 1) := by decide +kernel
theorem dX10_lay_110 : decode cX10_lay 110 = .ok (.l2i, 1) := by decide +kernel
theorem dX10_lay_111 : decode cX10_lay 111 = .ok (.iastore, 1) := by decide +kernel
theorem dX10_lay_112 : decode cX10_lay 112 = .ok (.iinc 5 1, 3) := by decide +kernel
theorem dX10_lay_115 : decode cX10_lay 115 = .ok (.goto (-34), 3) := by decide +kernel
theorem dX10_lay_118 : decode cX10_lay 118 = .ok (.aload_n 0, 1) := by decide +kernel
theorem dX10_lay_119 : decode cX10_lay 119 = .ok (.aload_n 0, 1) := by decide +kernel
theorem dX10_lay_120 : decode cX10_lay 120 = .ok (.getfield 22, 3) := by decide +kernel
theorem dX10_lay_123 : decode cX10_lay 123 = .ok (.invokevirtual 215, 3) := by decide +kernel
theorem dX10_lay_126 : decode cX10_lay 126 = .ok (.ireturn, 1) := by decide +kernel
theorem dX10_sheet_0 : decode cX10_sheet 0 = .ok (.iload_n 1, 1) := by decide +kernel
theorem dX10_sheet_1 : decode cX10_sheet 1 = .ok (.invokestatic 303, 3) := by decide +kernel
theorem dX10_sheet_4 : decode cX10_sheet 4 = .ok (.ifCond .eq 16, 3) := by decide +kernel
theorem dX10_sheet_7 : decode cX10_sheet 7 = .ok (.iload_n 2, 1) := by decide +kernel
theorem dX10_sheet_8 : decode cX10_sheet 8 = .ok (.invokestatic 306, 3) := by decide +kernel
theorem dX10_sheet_11 : decode cX10_sheet 11 = .ok (.ifCond .eq 9, 3) := by decide +kernel
theorem dX10_sheet_14 : decode cX10_sheet 14 = .ok (.iload_n 3, 1) := by decide +kernel
theorem dX10_sheet_15 : decode cX10_sheet 15 = .ok (.bipush 16, 2) := by decide +kernel
theorem dX10_sheet_17 : decode cX10_sheet 17 = .ok (.if_icmp .le 5, 3) := by decide +kernel
theorem dX10_sheet_20 : decode cX10_sheet 20 = .ok (.iconst (-1), 1) := by decide +kernel
theorem dX10_sheet_21 : decode cX10_sheet 21 = .ok (.ireturn, 1) := by decide +kernel
theorem dX10_sheet_22 : decode cX10_sheet 22 = .ok (.iload_n 3, 1) := by decide +kernel
theorem dX10_sheet_23 : decode cX10_sheet 23 = .ok (.ifCond .ge 6, 3) := by decide +kernel
theorem dX10_sheet_26 : decode cX10_sheet 26 = .ok (.bipush (-14), 2) := by decide +kernel
theorem dX10_sheet_28 : decode cX10_sheet 28 = .ok (.ireturn, 1) := by decide +kernel
theorem dX10_sheet_29 : decode cX10_sheet 29 = .ok (.aload_n 0, 1) := by decide +kernel
theorem dX10_sheet_30 : decode cX10_sheet 30 = .ok (.getfield 79, 3) := by decide +kernel
theorem dX10_sheet_33 : decode cX10_sheet 33 = .ok (.iload_n 1, 1) := by decide +kernel
theorem dX10_sheet_34 : decode cX10_sheet 34 = .ok (.iload_n 2, 1) := by decide +kernel
theorem dX10_sheet_35 : decode cX10_sheet 35 = .ok (.iastore, 1) := by decide +kernel
theorem dX10_sheet_36 : decode cX10_sheet 36 = .ok (.aload_n 0, 1) := by decide +kernel
theorem dX10_sheet_37 : decode cX10_sheet 37 = .ok (.getfield 82, 3) := by decide +kernel
theorem dX10_sheet_40 : decode cX10_sheet 40 = .ok (.iload_n 1, 1) := by decide +kernel
theorem dX10_sheet_41 : decode cX10_sheet 41 = .ok (.iload_n 3, 1) := by decide +kernel
theorem dX10_sheet_42 : decode cX10_sheet 42 = .ok (.iastore, 1) := by decide +kernel
theorem dX10_sheet_43 : decode cX10_sheet 43 = .ok (.iconst 0, 1) := by decide +kernel
theorem dX10_sheet_44 : decode cX10_sheet 44 = .ok (.istore 4, 2) := by decide +kernel
theorem dX10_sheet_46 : decode cX10_sheet 46 = .ok (.iload 4, 2) := by decide +kernel
theorem dX10_sheet_48 : decode cX10_sheet 48 = .ok (.bipush 16, 2) := by decide +kernel
theorem dX10_sheet_50 : decode cX10_sheet 50 = .ok (.if_icmp .ge 22, 3) := by decide +kernel
theorem dX10_sheet_53 : decode cX10_sheet 53 = .ok (.aload_n 0, 1) := by decide +kernel
theorem dX10_sheet_54 : decode cX10_sheet 54 = .ok (.getfield 85, 3) := by decide +kernel
theorem dX10_sheet_57 : decode cX10_sheet 57 = .ok (.bipush 16, 2) := by decide +kernel
theorem dX10_sheet_59 : decode cX10_sheet 59 = .ok (.iload_n 1, 1) := by decide +kernel
theorem dX10_sheet_60 : decode cX10_sheet 60 = .ok (.imul, 1) := by decide +kernel
theorem dX10_sheet_61 : decode cX10_sheet 61 = .ok (.iload 4, 2) := by decide +kernel
theorem dX10_sheet_63 : decode cX10_sheet 63 = .ok (.iadd, 1) := by decide +kernel
theorem dX10_sheet_64 : decode cX10_sheet 64 = .ok (.lconst 0, 1) := by decide +kernel
theorem dX10_sheet_65 : decode cX10_sheet 65 = .ok (.lastore, 1) := by decide +kernel
theorem dX10_sheet_66 : decode cX10_sheet 66 = .ok (.iinc 4 1, 3) := by decide +kernel
theorem dX10_sheet_69 : decode cX10_sheet 69 = .ok (.goto (-23), 3) := by decide +kernel
theorem dX10_sheet_72 : decode cX10_sheet 72 = .ok (.iload_n 3, 1) := by decide +kernel
theorem dX10_sheet_73 : decode cX10_sheet 73 = .ok (.ireturn, 1) := by decide +kernel
theorem dX10_drop_0 : decode cX10_drop 0 = .ok (.iload_n 1, 1) := by decide +kernel
theorem dX10_drop_1 : decode cX10_drop 1 = .ok (.invokestatic 303, 3) := by decide +kernel
theorem dX10_drop_4 : decode cX10_drop 4 = .ok (.ifCond .ne 5, 3) := by decide +kernel
theorem dX10_drop_7 : decode cX10_drop 7 = .ok (.iconst (-1), 1) := by decide +kernel
theorem dX10_drop_8 : decode cX10_drop 8 = .ok (.ireturn, 1) := by decide +kernel
theorem dX10_drop_9 : decode cX10_drop 9 = .ok (.aload_n 0, 1) := by decide +kernel
theorem dX10_drop_10 : decode cX10_drop 10 = .ok (.getfield 79, 3) := by decide +kernel
theorem dX10_drop_13 : decode cX10_drop 13 = .ok (.iload_n 1, 1) := by decide +kernel
theorem dX10_drop_14 : decode cX10_drop 14 = .ok (.iaload, 1) := by decide +kernel
theorem dX10_drop_15 : decode cX10_drop 15 = .ok (.ifCond .ge 6, 3) := by decide +kernel
theorem dX10_drop_18 : decode cX10_drop 18 = .ok (.bipush (-11), 2) := by decide +kernel
theorem dX10_drop_20 : decode cX10_drop 20 = .ok (.ireturn, 1) := by decide +kernel
theorem dX10_drop_21 : decode cX10_drop 21 = .ok (.aload_n 0, 1) := by decide +kernel
theorem dX10_drop_22 : decode cX10_drop 22 = .ok (.getfield 79, 3) := by decide +kernel
theorem dX10_drop_25 : decode cX10_drop 25 = .ok (.iload_n 1, 1) := by decide +kernel
theorem dX10_drop_26 : decode cX10_drop 26 = .ok (.iconst (-1), 1) := by decide +kernel
theorem dX10_drop_27 : decode cX10_drop 27 = .ok (.iastore, 1) := by decide +kernel
theorem dX10_drop_28 : decode cX10_drop 28 = .ok (.aload_n 0, 1) := by decide +kernel
theorem dX10_drop_29 : decode cX10_drop 29 = .ok (.getfield 82, 3) := by decide +kernel
theorem dX10_drop_32 : decode cX10_drop 32 = .ok (.iload_n 1, 1) := by decide +kernel
theorem dX10_drop_33 : decode cX10_drop 33 = .ok (.iaload, 1) := by decide +kernel
theorem dX10_drop_34 : decode cX10_drop 34 = .ok (.ireturn, 1) := by decide +kernel
theorem dX10_item_0 : decode cX10_item 0 = .ok (.iload_n 1, 1) := by decide +kernel
theorem dX10_item_1 : decode cX10_item 1 = .ok (.invokestatic 303, 3) := by decide +kernel
theorem dX10_item_4 : decode cX10_item 4 = .ok (.ifCond .eq 10, 3) := by decide +kernel
theorem dX10_item_7 : decode cX10_item 7 = .ok (.iload_n 2, 1) := by decide +kernel
theorem dX10_item_8 : decode cX10_item 8 = .ok (.invokestatic 306, 3) := by decide +kernel
theorem dX10_item_11 : decode cX10_item 11 = .ok (.ifCond .ne 5, 3) := by decide +kernel
theorem dX10_item_14 : decode cX10_item 14 = .ok (.iconst (-1), 1) := by decide +kernel
theorem dX10_item_15 : decode cX10_item 15 = .ok (.ireturn, 1) := by decide +kernel
theorem dX10_item_16 : decode cX10_item 16 = .ok (.aload_n 0, 1) := by decide +kernel
theorem dX10_item_17 : decode cX10_item 17 = .ok (.iload_n 1, 1) := by decide +kernel
theorem dX10_item_18 : decode cX10_item 18 = .ok (.iload_n 2, 1) := by decide +kernel
theorem dX10_item_19 : decode cX10_item 19 = .ok (.iload_n 3, 1) := by decide +kernel
theorem dX10_item_20 : decode cX10_item 20 = .ok (.iconst 1, 1) := by decide +kernel
theorem dX10_item_21 : decode cX10_item 21 = .ok (.invokevirtual 309, 3) := by decide +kernel
theorem dX10_item_24 : decode cX10_item 24 = .ok (.istore 6, 2) := by decide +kernel
theorem dX10_item_26 : decode cX10_item 26 = .ok (.iload 6, 2) := by decide +kernel
theorem dX10_item_28 : decode cX10_item 28 = .ok (.ifCond .ge 6, 3) := by decide +kernel
theorem dX10_item_31 : decode cX10_item 31 = .ok (.iload 6, 2) := by decide +kernel
theorem dX10_item_33 : decode cX10_item 33 = .ok (.ireturn, 1) := by decide +kernel
theorem dX10_item_34 : decode cX10_item 34 = .ok (.aload_n 0, 1) := by decide +kernel
theorem dX10_item_35 : decode cX10_item 35 = .ok (.iload_n 1, 1) := by decide +kernel
theorem dX10_item_36 : decode cX10_item 36 = .ok (.iload_n 3, 1) := by decide +kernel
theorem dX10_item_37 : decode cX10_item 37 = .ok (.lload 4, 2) := by decide +kernel
theorem dX10_item_39 : decode cX10_item 39 = .ok (.invokevirtual 316, 3) := by decide +kernel
theorem dX10_item_42 : decode cX10_item 42 = .ok (.iconst 1, 1) := by decide +kernel
theorem dX10_item_43 : decode cX10_item 43 = .ok (.ireturn, 1) := by decide +kernel
theorem dX10_copy_0 : decode cX10_copy 0 = .ok (.iload_n 1, 1) := by decide +kernel
theorem dX10_copy_1 : decode cX10_copy 1 = .ok (.invokestatic 303, 3) := by decide +kernel
theorem dX10_copy_4 : decode cX10_copy 4 = .ok (.ifCond .eq 10, 3) := by decide +kernel
theorem dX10_copy_7 : decode cX10_copy 7 = .ok (.iload_n 3, 1) := by decide +kernel
theorem dX10_copy_8 : decode cX10_copy 8 = .ok (.invokestatic 303, 3) := by decide +kernel
theorem dX10_copy_11 : decode cX10_copy 11 = .ok (.ifCond .ne 5, 3) := by decide +kernel
theorem dX10_copy_14 : decode cX10_copy 14 = .ok (.iconst (-1), 1) := by decide +kernel
theorem dX10_copy_15 : decode cX10_copy 15 = .ok (.ireturn, 1) := by decide +kernel
theorem dX10_copy_16 : decode cX10_copy 16 = .ok (.aload_n 0, 1) := by decide +kernel
theorem dX10_copy_17 : decode cX10_copy 17 = .ok (.getfield 79, 3) := by decide +kernel
theorem dX10_copy_20 : decode cX10_copy 20 = .ok (.iload_n 1, 1) := by decide +kernel
theorem dX10_copy_21 : decode cX10_copy 21 = .ok (.iaload, 1) := by decide +kernel
theorem dX10_copy_22 : decode cX10_copy 22 = .ok (.ifCond .lt 12, 3) := by decide +kernel
theorem dX10_copy_25 : decode cX10_copy 25 = .ok (.aload_n 0, 1) := by decide +kernel
theorem dX10_copy_26 : decode cX10_copy 26 = .ok (.getfield 79, 3) := by decide +kernel
theorem dX10_copy_29 : decode cX10_copy 29 = .ok (.iload_n 3, 1) := by decide +kernel
theorem dX10_copy_30 : decode cX10_copy 30 = .ok (.iaload, 1) := by decide +kernel
theorem dX10_copy_31 : decode cX10_copy 31 = .ok (.ifCond .ge 6, 3) := by decide +kernel
theorem dX10_copy_34 : decode cX10_copy 34 = .ok (.bipush (-11), 2) := by decide +kernel
theorem dX10_copy_36 : decode cX10_copy 36 = .ok (.ireturn, 1) := by decide +kernel
theorem dX10_copy_37 : decode cX10_copy 37 = .ok (.aload_n 0, 1) := by decide +kernel
theorem dX10_copy_38 : decode cX10_copy 38 = .ok (.getfield 79, 3) := by decide +kernel
theorem dX10_copy_41 : decode cX10_copy 41 = .ok (.iload_n 1, 1) := by decide +kernel
theorem dX10_copy_42 : decode cX10_copy 42 = .ok (.iaload, 1) := by decide +kernel
theorem dX10_copy_43 : decode cX10_copy 43 = .ok (.aload_n 0, 1) := by decide +kernel
theorem dX10_copy_44 : decode cX10_copy 44 = .ok (.getfield 79, 3) := by decide +kernel
theorem dX10_copy_47 : decode cX10_copy 47 = .ok (.iload_n 3, 1) := by decide +kernel
theorem dX10_copy_48 : decode cX10_copy 48 = .ok (.iaload, 1) := by decide +kernel
theorem dX10_copy_49 : decode cX10_copy 49 = .ok (.if_icmp .eq 6, 3) := by decide +kernel
theorem dX10_copy_52 : decode cX10_copy 52 = .ok (.bipush (-12), 2) := by decide +kernel
theorem dX10_copy_54 : decode cX10_copy 54 = .ok (.ireturn, 1) := by decide +kernel
theorem dX10_copy_55 : decode cX10_copy 55 = .ok (.iload 5, 2) := by decide +kernel
theorem dX10_copy_57 : decode cX10_copy 57 = .ok (.ifCond .lt 38, 3) := by decide +kernel
theorem dX10_copy_60 : decode cX10_copy 60 = .ok (.aload_n 0, 1) := by decide +kernel
theorem dX10_copy_61 : decode cX10_copy 61 = .ok (.iload_n 1, 1) := by decide +kernel
theorem dX10_copy_62 : decode cX10_copy 62 = .ok (.aload_n 0, 1) := by decide +kernel
theorem dX10_copy_63 : decode cX10_copy 63 = .ok (.getfield 79, 3) := by decide +kernel
theorem dX10_copy_66 : decode cX10_copy 66 = .ok (.iload_n 1, 1) := by decide +kernel
theorem dX10_copy_67 : decode cX10_copy 67 = .ok (.iaload, 1) := by decide +kernel
theorem dX10_copy_68 : decode cX10_copy 68 = .ok (.iload_n 2, 1) := by decide +kernel
theorem dX10_copy_69 : decode cX10_copy 69 = .ok (.iload 5, 2) := by decide +kernel
theorem dX10_copy_71 : decode cX10_copy 71 = .ok (.invokevirtual 309, 3) := by decide +kernel
theorem dX10_copy_74 : decode cX10_copy 74 = .ok (.ifCond .lt 21, 3) := by decide +kernel
theorem dX10_copy_77 : decode cX10_copy 77 = .ok (.aload_n 0, 1) := by decide +kernel
theorem dX10_copy_78 : decode cX10_copy 78 = .ok (.iload_n 3, 1) := by decide +kernel
theorem dX10_copy_79 : decode cX10_copy 79 = .ok (.aload_n 0, 1) := by decide +kernel
theorem dX10_copy_80 : decode cX10_copy 80 = .ok (.getfield 79, 3) := by decide +kernel
theorem dX10_copy_83 : decode cX10_copy 83 = .ok (.iload_n 3, 1) := by decide +kernel
theorem dX10_copy_84 : decode cX10_copy 84 = .ok (.iaload, 1) := by decide +kernel
theorem dX10_copy_85 : decode cX10_copy 85 = .ok (.iload 4, 2) := by decide +kernel
theorem dX10_copy_87 : decode cX10_copy 87 = .ok (.iload 5, 2) := by decide +kernel
theorem dX10_copy_89 : decode cX10_copy 89 = .ok (.invokevirtual 309, 3) := by decide +kernel
theorem dX10_copy_92 : decode cX10_copy 92 = .ok (.ifCond .ge 6, 3) := by decide +kernel
theorem dX10_copy_95 : decode cX10_copy 95 = .ok (.bipush (-13), 2) := by decide +kernel
theorem dX10_copy_97 : decode cX10_copy 97 = .ok (.ireturn, 1) := by decide +kernel
theorem dX10_copy_98 : decode cX10_copy 98 = .ok (.iconst 0, 1) := by decide +kernel
theorem dX10_copy_99 : decode cX10_copy 99 = .ok (.istore 6, 2) := by decide +kernel
theorem dX10_copy_101 : decode cX10_copy 101 = .ok (.iload 6, 2) := by decide +kernel
theorem dX10_copy_103 : decode cX10_copy 103 = .ok (.iload 5, 2) := by decide +kernel
theorem dX10_copy_105 : decode cX10_copy 105 = .ok (.if_icmp .ge 30, 3) := by decide +kernel
theorem dX10_copy_108 : decode cX10_copy 108 = .ok (.aload_n 0, 1) := by decide +kernel
theorem dX10_copy_109 : decode cX10_copy 109 = .ok (.getfield 89, 3) := by decide +kernel
theorem dX10_copy_112 : decode cX10_copy 112 = .ok (.iload 6, 2) := by decide +kernel
theorem dX10_copy_114 : decode cX10_copy 114 = .ok (.aload_n 0, 1) := by decide +kernel
theorem dX10_copy_115 : decode cX10_copy 115 = .ok (.getfield 85, 3) := by decide +kernel
theorem dX10_copy_118 : decode cX10_copy 118 = .ok (.bipush 16, 2) := by decide +kernel
theorem dX10_copy_120 : decode cX10_copy 120 = .ok (.iload_n 1, 1) := by decide +kernel
theorem dX10_copy_121 : decode cX10_copy 121 = .ok (.imul, 1) := by decide +kernel
theorem dX10_copy_122 : decode cX10_copy 122 = .ok (.iload_n 2, 1) := by decide +kernel
theorem dX10_copy_123 : decode cX10_copy 123 = .ok (.iadd, 1) := by decide +kernel
theorem dX10_copy_124 : decode cX10_copy 124 = .ok (.iload 6, 2) := by decide +kernel
theorem dX10_copy_126 : decode cX10_copy 126 = .ok (.iadd, 1) := by decide +kernel
theorem dX10_copy_127 : decode cX10_copy 127 = .ok (.laload, 1) := by decide +kernel
theorem dX10_copy_128 : decode cX10_copy 128 = .ok (.lastore, 1) := by decide +kernel
theorem dX10_copy_129 : decode cX10_copy 129 = .ok (.iinc 6 1, 3) := by decide +kernel
theorem dX10_copy_132 : decode cX10_copy 132 = .ok (.goto (-31), 3) := by decide +kernel
theorem dX10_copy_135 : decode cX10_copy 135 = .ok (.iconst 0, 1) := by decide +kernel
theorem dX10_copy_136 : decode cX10_copy 136 = .ok (.istore 6, 2) := by decide +kernel
theorem dX10_copy_138 : decode cX10_copy 138 = .ok (.iload 6, 2) := by decide +kernel
theorem dX10_copy_140 : decode cX10_copy 140 = .ok (.iload 5, 2) := by decide +kernel
theorem dX10_copy_142 : decode cX10_copy 142 = .ok (.if_icmp .ge 31, 3) := by decide +kernel
theorem dX10_copy_145 : decode cX10_copy 145 = .ok (.aload_n 0, 1) := by decide +kernel
theorem dX10_copy_146 : decode cX10_copy 146 = .ok (.getfield 85, 3) := by decide +kernel
theorem dX10_copy_149 : decode cX10_copy 149 = .ok (.bipush 16, 2) := by decide +kernel
theorem dX10_copy_151 : decode cX10_copy 151 = .ok (.iload_n 3, 1) := by decide +kernel
theorem dX10_copy_152 : decode cX10_copy 152 = .ok (.imul, 1) := by decide +kernel
theorem dX10_copy_153 : decode cX10_copy 153 = .ok (.iload 4, 2) := by decide +kernel
theorem dX10_copy_155 : decode cX10_copy 155 = .ok (.iadd, 1) := by decide +kernel
theorem dX10_copy_156 : decode cX10_copy 156 = .ok (.iload 6, 2) := by decide +kernel
theorem dX10_copy_158 : decode cX10_copy 158 = .ok (.iadd, 1) := by decide +kernel
theorem dX10_copy_159 : decode cX10_copy 159 = .ok (.aload_n 0, 1) := by decide +kernel
theorem dX10_copy_160 : decode cX10_copy 160 = .ok (.getfield 89, 3) := by decide +kernel
theorem dX10_copy_163 : decode cX10_copy 163 = .ok (.iload 6, 2) := by decide +kernel
theorem dX10_copy_165 : decode cX10_copy 165 = .ok (.laload, 1) := by decide +kernel
theorem dX10_copy_166 : decode cX10_copy 166 = .ok (.lastore, 1) := by decide +kernel
theorem dX10_copy_167 : decode cX10_copy 167 = .ok (.iinc 6 1, 3) := by decide +kernel
theorem dX10_copy_170 : decode cX10_copy 170 = .ok (.goto (-32), 3) := by decide +kernel
theorem dX10_copy_173 : decode cX10_copy 173 = .ok (.iload 5, 2) := by decide +kernel
theorem dX10_copy_175 : decode cX10_copy 175 = .ok (.ireturn, 1) := by decide +kernel
end
section
theorem dL_law_0 : decode cL_law 0 = .ok (.new 7, 3) := by decide +kernel
theorem dL_law_3 : decode cL_law 3 = .ok (.dup, 1) := by decide +kernel
theorem dL_law_4 : decode cL_law 4 = .ok (.invokespecial 9, 3) := by decide +kernel
theorem dL_law_7 : decode cL_law 7 = .ok (.astore_n 1, 1) := by decide +kernel
theorem dL_law_8 : decode cL_law 8 = .ok (.new 10, 3) := by decide +kernel
theorem dL_law_11 : decode cL_law 11 = .ok (.dup, 1) := by decide +kernel
theorem dL_law_12 : decode cL_law 12 = .ok (.invokespecial 12, 3) := by decide +kernel
theorem dL_law_15 : decode cL_law 15 = .ok (.astore_n 2, 1) := by decide +kernel
theorem dL_law_16 : decode cL_law 16 = .ok (.iconst 0, 1) := by decide +kernel
theorem dL_law_17 : decode cL_law 17 = .ok (.istore_n 3, 1) := by decide +kernel
theorem dL_law_18 : decode cL_law 18 = .ok (.iload_n 3, 1) := by decide +kernel
theorem dL_law_19 : decode cL_law 19 = .ok (.aload_n 0, 1) := by decide +kernel
theorem dL_law_20 : decode cL_law 20 = .ok (.arraylength, 1) := by decide +kernel
theorem dL_law_21 : decode cL_law 21 = .ok (.bipush 6, 2) := by decide +kernel
theorem dL_law_23 : decode cL_law 23 = .ok (.isub, 1) := by decide +kernel
theorem dL_law_24 : decode cL_law 24 = .ok (.if_icmp .gt 1408, 3) := by decide +kernel
theorem dL_law_27 : decode cL_law 27 = .ok (.aload_n 0, 1) := by decide +kernel
theorem dL_law_28 : decode cL_law 28 = .ok (.iload_n 3, 1) := by decide +kernel
theorem dL_law_29 : decode cL_law 29 = .ok (.iaload, 1) := by decide +kernel
theorem dL_law_30 : decode cL_law 30 = .ok (.bipush 63, 2) := by decide +kernel
theorem dL_law_32 : decode cL_law 32 = .ok (.iand, 1) := by decide +kernel
theorem dL_law_33 : decode cL_law 33 = .ok (.tableswitch 1393 0 35 #[159, 192, 225, 268, 317, 350, 393, 426, 469, 482, 505, 518, 541, 574, 587, 610, 633, 656, 669, 702, 745, 778, 801, 834, 887, 920, 953, 966, 979, 1042, 1095, 1138, 1181, 1224, 1247, 1330], 159) := by decide +kernel
theorem dL_law_192 : decode cL_law 192 = .ok (.aload_n 1, 1) := by decide +kernel
theorem dL_law_193 : decode cL_law 193 = .ok (.aload_n 0, 1) := by decide +kernel
theorem dL_law_194 : decode cL_law 194 = .ok (.iload_n 3, 1) := by decide +kernel
theorem dL_law_195 : decode cL_law 195 = .ok (.iconst 1, 1) := by decide +kernel
theorem dL_law_196 : decode cL_law 196 = .ok (.iadd, 1) := by decide +kernel
theorem dL_law_197 : decode cL_law 197 = .ok (.iaload, 1) := by decide +kernel
theorem dL_law_198 : decode cL_law 198 = .ok (.aload_n 0, 1) := by decide +kernel
theorem dL_law_199 : decode cL_law 199 = .ok (.iload_n 3, 1) := by decide +kernel
theorem dL_law_200 : decode cL_law 200 = .ok (.iconst 2, 1) := by decide +kernel
theorem dL_law_201 : decode cL_law 201 = .ok (.iadd, 1) := by decide +kernel
theorem dL_law_202 : decode cL_law 202 = .ok (.iaload, 1) := by decide +kernel
theorem dL_law_203 : decode cL_law 203 = .ok (.invokevirtual 13, 3) := by decide +kernel
theorem dL_law_206 : decode cL_law 206 = .ok (.aload_n 2, 1) := by decide +kernel
theorem dL_law_207 : decode cL_law 207 = .ok (.aload_n 0, 1) := by decide +kernel
theorem dL_law_208 : decode cL_law 208 = .ok (.iload_n 3, 1) := by decide +kernel
theorem dL_law_209 : decode cL_law 209 = .ok (.iconst 1, 1) := by decide +kernel
theorem dL_law_210 : decode cL_law 210 = .ok (.iadd, 1) := by decide +kernel
theorem dL_law_211 : decode cL_law 211 = .ok (.iaload, 1) := by decide +kernel
theorem dL_law_212 : decode cL_law 212 = .ok (.aload_n 0, 1) := by decide +kernel
theorem dL_law_213 : decode cL_law 213 = .ok (.iload_n 3, 1) := by decide +kernel
theorem dL_law_214 : decode cL_law 214 = .ok (.iconst 2, 1) := by decide +kernel
theorem dL_law_215 : decode cL_law 215 = .ok (.iadd, 1) := by decide +kernel
theorem dL_law_216 : decode cL_law 216 = .ok (.iaload, 1) := by decide +kernel
theorem dL_law_217 : decode cL_law 217 = .ok (.invokevirtual 17, 3) := by decide +kernel
theorem dL_law_220 : decode cL_law 220 = .ok (.if_icmp .eq 1206, 3) := by decide +kernel
theorem dL_law_223 : decode cL_law 223 = .ok (.iconst 0, 1) := by decide +kernel
theorem dL_law_224 : decode cL_law 224 = .ok (.ireturn, 1) := by decide +kernel
theorem dL_law_225 : decode cL_law 225 = .ok (.aload_n 1, 1) := by decide +kernel
theorem dL_law_226 : decode cL_law 226 = .ok (.aload_n 0, 1) := by decide +kernel
theorem dL_law_227 : decode cL_law 227 = .ok (.iload_n 3, 1) := by decide +kernel
theorem dL_law_228 : decode cL_law 228 = .ok (.iconst 1, 1) := by decide +kernel
theorem dL_law_229 : decode cL_law 229 = .ok (.iadd, 1) := by decide +kernel
theorem dL_law_230 : decode cL_law 230 = .ok (.iaload, 1) := by decide +kernel
theorem dL_law_231 : decode cL_law 231 = .ok (.aload_n 0, 1) := by decide +kernel
theorem dL_law_232 : decode cL_law 232 = .ok (.iload_n 3, 1) := by decide +kernel
theorem dL_law_233 : decode cL_law 233 = .ok (.iconst 2, 1) := by decide +kernel
theorem dL_law_234 : decode cL_law 234 = .ok (.iadd, 1) := by decide +kernel
theorem dL_law_235 : decode cL_law 235 = .ok (.iaload, 1) := by decide +kernel
theorem dL_law_236 : decode cL_law 236 = .ok (.invokevirtual 18, 3) := by decide +kernel
theorem dL_law_239 : decode cL_law 239 = .ok (.aload_n 2, 1) := by decide +kernel
theorem dL_law_240 : decode cL_law 240 = .ok (.aload_n 0, 1) := by decide +kernel
theorem dL_law_241 : decode cL_law 241 = .ok (.iload_n 3, 1) := by decide +kernel
theorem dL_law_242 : decode cL_law 242 = .ok (.iconst 1, 1) := by decide +kernel
theorem dL_law_243 : decode cL_law 243 = .ok (.iadd, 1) := by decide +kernel
theorem dL_law_244 : decode cL_law 244 = .ok (.iaload, 1) := by decide +kernel
theorem dL_law_245 : decode cL_law 245 = .ok (.aload_n 0, 1) := by decide +kernel
theorem dL_law_246 : decode cL_law 246 = .ok (.iload_n 3, 1) := by decide +kernel
theorem dL_law_247 : decode cL_law 247 = .ok (.iconst 2, 1) := by decide +kernel
theorem dL_law_248 : decode cL_law 248 = .ok (.iadd, 1) := by decide +kernel
theorem dL_law_249 : decode cL_law 249 = .ok (.iaload, 1) := by decide +kernel
theorem dL_law_250 : decode cL_law 250 = .ok (.invokevirtual 21, 3) := by decide +kernel
theorem dL_law_253 : decode cL_law 253 = .ok (.if_icmp .eq 1173, 3) := by decide +kernel
theorem dL_law_256 : decode cL_law 256 = .ok (.iconst 0, 1) := by decide +kernel
theorem dL_law_257 : decode cL_law 257 = .ok (.ireturn, 1) := by decide +kernel
theorem dL_law_258 : decode cL_law 258 = .ok (.aload_n 1, 1) := by decide +kernel
theorem dL_law_259 : decode cL_law 259 = .ok (.aload_n 0, 1) := by decide +kernel
theorem dL_law_260 : decode cL_law 260 = .ok (.iload_n 3, 1) := by decide +kernel
theorem dL_law_261 : decode cL_law 261 = .ok (.iconst 1, 1) := by decide +kernel
theorem dL_law_262 : decode cL_law 262 = .ok (.iadd, 1) := by decide +kernel
theorem dL_law_263 : decode cL_law 263 = .ok (.iaload, 1) := by decide +kernel
theorem dL_law_264 : decode cL_law 264 = .ok (.aload_n 0, 1) := by decide +kernel
theorem dL_law_265 : decode cL_law 265 = .ok (.iload_n 3, 1) := by decide +kernel
theorem dL_law_266 : decode cL_law 266 = .ok (.iconst 2, 1) := by decide +kernel
theorem dL_law_267 : decode cL_law 267 = .ok (.iadd, 1) := by decide +kernel
theorem dL_law_268 : decode cL_law 268 = .ok (.iaload, 1) := by decide +kernel
theorem dL_law_269 : decode cL_law 269 = .ok (.aload_n 0, 1) := by decide +kernel
theorem dL_law_270 : decode cL_law 270 = .ok (.iload_n 3, 1) := by decide +kernel
theorem dL_law_271 : decode cL_law 271 = .ok (.iconst 3, 1) := by decide +kernel
theorem dL_law_272 : decode cL_law 272 = .ok (.iadd, 1) := by decide +kernel
theorem dL_law_273 : decode cL_law 273 = .ok (.iaload, 1) := by decide +kernel
theorem dL_law_274 : decode cL_law 274 = .ok (.invokevirtual 22, 3) := by decide +kernel
theorem dL_law_277 : decode cL_law 277 = .ok (.aload_n 2, 1) := by decide +kernel
theorem dL_law_278 : decode cL_law 278 = .ok (.aload_n 0, 1) := by decide +kernel
theorem dL_law_279 : decode cL_law 279 = .ok (.iload_n 3, 1) := by decide +kernel
theorem dL_law_280 : decode cL_law 280 = .ok (.iconst 1, 1) := by decide +kernel
theorem dL_law_281 : decode cL_law 281 = .ok (.iadd, 1) := by decide +kernel
theorem dL_law_282 : decode cL_law 282 = .ok (.iaload, 1) := by decide +kernel
theorem dL_law_283 : decode cL_law 283 = .ok (.aload_n 0, 1) := by decide +kernel
theorem dL_law_284 : decode cL_law 284 = .ok (.iload_n 3, 1) := by decide +kernel
theorem dL_law_285 : decode cL_law 285 = .ok (.iconst 2, 1) := by decide +kernel
theorem dL_law_286 : decode cL_law 286 = .ok (.iadd, 1) := by decide +kernel
theorem dL_law_287 : decode cL_law 287 = .ok (.iaload, 1) := by decide +kernel
theorem dL_law_288 : decode cL_law 288 = .ok (.aload_n 0, 1) := by decide +kernel
theorem dL_law_289 : decode cL_law 289 = .ok (.iload_n 3, 1) := by decide +kernel
theorem dL_law_290 : decode cL_law 290 = .ok (.iconst 3, 1) := by decide +kernel
theorem dL_law_291 : decode cL_law 291 = .ok (.iadd, 1) := by decide +kernel
theorem dL_law_292 : decode cL_law 292 = .ok (.iaload, 1) := by decide +kernel
theorem dL_law_293 : decode cL_law 293 = .ok (.invokevirtual 26, 3) := by decide +kernel
theorem dL_law_296 : decode cL_law 296 = .ok (.if_icmp .eq 1130, 3) := by decide +kernel
theorem dL_law_299 : decode cL_law 299 = .ok (.iconst 0, 1) := by decide +kernel
theorem dL_law_300 : decode cL_law 300 = .ok (.ireturn, 1) := by decide +kernel
theorem dL_law_301 : decode cL_law 301 = .ok (.aload_n 1, 1) := by decide +kernel
theorem dL_law_302 : decode cL_law 302 = .ok (.aload_n 0, 1) := by decide +kernel
theorem dL_law_303 : decode cL_law 303 = .ok (.iload_n 3, 1) := by decide +kernel
theorem dL_law_304 : decode cL_law 304 = .ok (.iconst 1, 1) := by decide +kernel
theorem dL_law_305 : decode cL_law 305 = .ok (.iadd, 1) := by decide +kernel
theorem dL_law_306 : decode cL_law 306 = .ok (.iaload, 1) := by decide +kernel
theorem dL_law_307 : decode cL_law 307 = .ok (.aload_n 0, 1) := by decide +kernel
theorem dL_law_308 : decode cL_law 308 = .ok (.iload_n 3, 1) := by decide +kernel
theorem dL_law_309 : decode cL_law 309 = .ok (.iconst 2, 1) := by decide +kernel
theorem dL_law_310 : decode cL_law 310 = .ok (.iadd, 1) := by decide +kernel
theorem dL_law_311 : decode cL_law 311 = .ok (.iaload, 1) := by decide +kernel
theorem dL_law_312 : decode cL_law 312 = .ok (.ifCond .eq 7, 3) := by decide +kernel
theorem dL_law_315 : decode cL_law 315 = .ok (.iconst 1, 1) := by decide +kernel
theorem dL_law_316 : decode cL_law 316 = .ok (.goto 4, 3) := by decide +kernel
theorem dL_law_319 : decode cL_law 319 = .ok (.iconst 0, 1) := by decide +kernel
theorem dL_law_320 : decode cL_law 320 = .ok (.invokevirtual 27, 3) := by decide +kernel
theorem dL_law_323 : decode cL_law 323 = .ok (.aload_n 2, 1) := by decide +kernel
theorem dL_law_324 : decode cL_law 324 = .ok (.aload_n 0, 1) := by decide +kernel
theorem dL_law_325 : decode cL_law 325 = .ok (.iload_n 3, 1) := by decide +kernel
theorem dL_law_326 : decode cL_law 326 = .ok (.iconst 1, 1) := by decide +kernel
theorem dL_law_327 : decode cL_law 327 = .ok (.iadd, 1) := by decide +kernel
theorem dL_law_328 : decode cL_law 328 = .ok (.iaload, 1) := by decide +kernel
theorem dL_law_329 : decode cL_law 329 = .ok (.aload_n 0, 1) := by decide +kernel
theorem dL_law_330 : decode cL_law 330 = .ok (.iload_n 3, 1) := by decide +kernel
theorem dL_law_331 : decode cL_law 331 = .ok (.iconst 2, 1) := by decide +kernel
theorem dL_law_332 : decode cL_law 332 = .ok (.iadd, 1) := by decide +kernel
theorem dL_law_333 : decode cL_law 333 = .ok (.iaload, 1) := by decide +kernel
theorem dL_law_334 : decode cL_law 334 = .ok (.ifCond .eq 7, 3) := by decide +kernel
theorem dL_law_337 : decode cL_law 337 = .ok (.iconst 1, 1) := by decide +kernel
theorem dL_law_338 : decode cL_law 338 = .ok (.goto 4, 3) := by decide +kernel
theorem dL_law_341 : decode cL_law 341 = .ok (.iconst 0, 1) := by decide +kernel
theorem dL_law_342 : decode cL_law 342 = .ok (.invokevirtual 31, 3) := by decide +kernel
theorem dL_law_345 : decode cL_law 345 = .ok (.if_icmp .eq 1081, 3) := by decide +kernel
theorem dL_law_348 : decode cL_law 348 = .ok (.iconst 0, 1) := by decide +kernel
theorem dL_law_349 : decode cL_law 349 = .ok (.ireturn, 1) := by decide +kernel
theorem dL_law_350 : decode cL_law 350 = .ok (.aload_n 1, 1) := by decide +kernel
theorem dL_law_351 : decode cL_law 351 = .ok (.aload_n 0, 1) := by decide +kernel
theorem dL_law_352 : decode cL_law 352 = .ok (.iload_n 3, 1) := by decide +kernel
theorem dL_law_353 : decode cL_law 353 = .ok (.iconst 1, 1) := by decide +kernel
theorem dL_law_354 : decode cL_law 354 = .ok (.iadd, 1) := by decide +kernel
theorem dL_law_355 : decode cL_law 355 = .ok (.iaload, 1) := by decide +kernel
theorem dL_law_356 : decode cL_law 356 = .ok (.aload_n 0, 1) := by decide +kernel
theorem dL_law_357 : decode cL_law 357 = .ok (.iload_n 3, 1) := by decide +kernel
theorem dL_law_358 : decode cL_law 358 = .ok (.iconst 2, 1) := by decide +kernel
theorem dL_law_359 : decode cL_law 359 = .ok (.iadd, 1) := by decide +kernel
theorem dL_law_360 : decode cL_law 360 = .ok (.iaload, 1) := by decide +kernel
theorem dL_law_361 : decode cL_law 361 = .ok (.invokevirtual 32, 3) := by decide +kernel
theorem dL_law_364 : decode cL_law 364 = .ok (.aload_n 2, 1) := by decide +kernel
theorem dL_law_365 : decode cL_law 365 = .ok (.aload_n 0, 1) := by decide +kernel
theorem dL_law_366 : decode cL_law 366 = .ok (.iload_n 3, 1) := by decide +kernel
theorem dL_law_367 : decode cL_law 367 = .ok (.iconst 1, 1) := by decide +kernel
theorem dL_law_368 : decode cL_law 368 = .ok (.iadd, 1) := by decide +kernel
theorem dL_law_369 : decode cL_law 369 = .ok (.iaload, 1) := by decide +kernel
theorem dL_law_370 : decode cL_law 370 = .ok (.aload_n 0, 1) := by decide +kernel
theorem dL_law_371 : decode cL_law 371 = .ok (.iload_n 3, 1) := by decide +kernel
theorem dL_law_372 : decode cL_law 372 = .ok (.iconst 2, 1) := by decide +kernel
theorem dL_law_373 : decode cL_law 373 = .ok (.iadd, 1) := by decide +kernel
theorem dL_law_374 : decode cL_law 374 = .ok (.iaload, 1) := by decide +kernel
theorem dL_law_375 : decode cL_law 375 = .ok (.invokevirtual 35, 3) := by decide +kernel
theorem dL_law_378 : decode cL_law 378 = .ok (.if_icmp .eq 1048, 3) := by decide +kernel
theorem dL_law_381 : decode cL_law 381 = .ok (.iconst 0, 1) := by decide +kernel
theorem dL_law_382 : decode cL_law 382 = .ok (.ireturn, 1) := by decide +kernel
theorem dL_law_383 : decode cL_law 383 = .ok (.aload_n 1, 1) := by decide +kernel
theorem dL_law_384 : decode cL_law 384 = .ok (.aload_n 0, 1) := by decide +kernel
theorem dL_law_385 : decode cL_law 385 = .ok (.iload_n 3, 1) := by decide +kernel
theorem dL_law_386 : decode cL_law 386 = .ok (.iconst 1, 1) := by decide +kernel
theorem dL_law_387 : decode cL_law 387 = .ok (.iadd, 1) := by decide +kernel
theorem dL_law_388 : decode cL_law 388 = .ok (.iaload, 1) := by decide +kernel
theorem dL_law_389 : decode cL_law 389 = .ok (.aload_n 0, 1) := by decide +kernel
theorem dL_law_390 : decode cL_law 390 = .ok (.iload_n 3, 1) := by decide +kernel
theorem dL_law_391 : decode cL_law 391 = .ok (.iconst 2, 1) := by decide +kernel
theorem dL_law_392 : decode cL_law 392 = .ok (.iadd, 1) := by decide +kernel
theorem dL_law_393 : decode cL_law 393 = .ok (.iaload, 1) := by decide +kernel
theorem dL_law_394 : decode cL_law 394 = .ok (.aload_n 0, 1) := by decide +kernel
theorem dL_law_395 : decode cL_law 395 = .ok (.iload_n 3, 1) := by decide +kernel
theorem dL_law_396 : decode cL_law 396 = .ok (.iconst 3, 1) := by decide +kernel
theorem dL_law_397 : decode cL_law 397 = .ok (.iadd, 1) := by decide +kernel
theorem dL_law_398 : decode cL_law 398 = .ok (.iaload, 1) := by decide +kernel
theorem dL_law_399 : decode cL_law 399 = .ok (.invokevirtual 36, 3) := by decide +kernel
theorem dL_law_402 : decode cL_law 402 = .ok (.aload_n 2, 1) := by decide +kernel
theorem dL_law_403 : decode cL_law 403 = .ok (.aload_n 0, 1) := by decide +kernel
theorem dL_law_404 : decode cL_law 404 = .ok (.iload_n 3, 1) := by decide +kernel
theorem dL_law_405 : decode cL_law 405 = .ok (.iconst 1, 1) := by decide +kernel
theorem dL_law_406 : decode cL_law 406 = .ok (.iadd, 1) := by decide +kernel
theorem dL_law_407 : decode cL_law 407 = .ok (.iaload, 1) := by decide +kernel
theorem dL_law_408 : decode cL_law 408 = .ok (.aload_n 0, 1) := by decide +kernel
theorem dL_law_409 : decode cL_law 409 = .ok (.iload_n 3, 1) := by decide +kernel
theorem dL_law_410 : decode cL_law 410 = .ok (.iconst 2, 1) := by decide +kernel
theorem dL_law_411 : decode cL_law 411 = .ok (.iadd, 1) := by decide +kernel
theorem dL_law_412 : decode cL_law 412 = .ok (.iaload, 1) := by decide +kernel
theorem dL_law_413 : decode cL_law 413 = .ok (.aload_n 0, 1) := by decide +kernel
theorem dL_law_414 : decode cL_law 414 = .ok (.iload_n 3, 1) := by decide +kernel
theorem dL_law_415 : decode cL_law 415 = .ok (.iconst 3, 1) := by decide +kernel
theorem dL_law_416 : decode cL_law 416 = .ok (.iadd, 1) := by decide +kernel
theorem dL_law_417 : decode cL_law 417 = .ok (.iaload, 1) := by decide +kernel
theorem dL_law_418 : decode cL_law 418 = .ok (.invokevirtual 39, 3) := by decide +kernel
theorem dL_law_421 : decode cL_law 421 = .ok (.if_icmp .eq 1005, 3) := by decide +kernel
theorem dL_law_424 : decode cL_law 424 = .ok (.iconst 0, 1) := by decide +kernel
theorem dL_law_425 : decode cL_law 425 = .ok (.ireturn, 1) := by decide +kernel
theorem dL_law_426 : decode cL_law 426 = .ok (.aload_n 1, 1) := by decide +kernel
theorem dL_law_427 : decode cL_law 427 = .ok (.aload_n 0, 1) := by decide +kernel
theorem dL_law_428 : decode cL_law 428 = .ok (.iload_n 3, 1) := by decide +kernel
theorem dL_law_429 : decode cL_law 429 = .ok (.iconst 1, 1) := by decide +kernel
theorem dL_law_430 : decode cL_law 430 = .ok (.iadd, 1) := by decide +kernel
theorem dL_law_431 : decode cL_law 431 = .ok (.iaload, 1) := by decide +kernel
theorem dL_law_432 : decode cL_law 432 = .ok (.aload_n 0, 1) := by decide +kernel
theorem dL_law_433 : decode cL_law 433 = .ok (.iload_n 3, 1) := by decide +kernel
theorem dL_law_434 : decode cL_law 434 = .ok (.iconst 2, 1) := by decide +kernel
theorem dL_law_435 : decode cL_law 435 = .ok (.iadd, 1) := by decide +kernel
theorem dL_law_436 : decode cL_law 436 = .ok (.iaload, 1) := by decide +kernel
theorem dL_law_437 : decode cL_law 437 = .ok (.invokevirtual 40, 3) := by decide +kernel
theorem dL_law_440 : decode cL_law 440 = .ok (.aload_n 2, 1) := by decide +kernel
theorem dL_law_441 : decode cL_law 441 = .ok (.aload_n 0, 1) := by decide +kernel
theorem dL_law_442 : decode cL_law 442 = .ok (.iload_n 3, 1) := by decide +kernel
theorem dL_law_443 : decode cL_law 443 = .ok (.iconst 1, 1) := by decide +kernel
theorem dL_law_444 : decode cL_law 444 = .ok (.iadd, 1) := by decide +kernel
theorem dL_law_445 : decode cL_law 445 = .ok (.iaload, 1) := by decide +kernel
theorem dL_law_446 : decode cL_law 446 = .ok (.aload_n 0, 1) := by decide +kernel
theorem dL_law_447 : decode cL_law 447 = .ok (.iload_n 3, 1) := by decide +kernel
theorem dL_law_448 : decode cL_law 448 = .ok (.iconst 2, 1) := by decide +kernel
theorem dL_law_449 : decode cL_law 449 = .ok (.iadd, 1) := by decide +kernel
theorem dL_law_450 : decode cL_law 450 = .ok (.iaload, 1) := by decide +kernel
theorem dL_law_451 : decode cL_law 451 = .ok (.invokevirtual 43, 3) := by decide +kernel
theorem dL_law_454 : decode cL_law 454 = .ok (.if_icmp .eq 972, 3) := by decide +kernel
theorem dL_law_457 : decode cL_law 457 = .ok (.iconst 0, 1) := by decide +kernel
theorem dL_law_458 : decode cL_law 458 = .ok (.ireturn, 1) := by decide +kernel
theorem dL_law_459 : decode cL_law 459 = .ok (.aload_n 1, 1) := by decide +kernel
theorem dL_law_460 : decode cL_law 460 = .ok (.aload_n 0, 1) := by decide +kernel
theorem dL_law_461 : decode cL_law 461 = .ok (.iload_n 3, 1) := by decide +kernel
theorem dL_law_462 : decode cL_law 462 = .ok (.iconst 1, 1) := by decide +kernel
theorem dL_law_463 : decode cL_law 463 = .ok (.iadd, 1) := by decide +kernel
theorem dL_law_464 : decode cL_law 464 = .ok (.iaload, 1) := by decide +kernel
theorem dL_law_465 : decode cL_law 465 = .ok (.aload_n 0, 1) := by decide +kernel
theorem dL_law_466 : decode cL_law 466 = .ok (.iload_n 3, 1) := by decide +kernel
theorem dL_law_467 : decode cL_law 467 = .ok (.iconst 2, 1) := by decide +kernel
theorem dL_law_468 : decode cL_law 468 = .ok (.iadd, 1) := by decide +kernel
theorem dL_law_469 : decode cL_law 469 = .ok (.iaload, 1) := by decide +kernel
theorem dL_law_470 : decode cL_law 470 = .ok (.aload_n 0, 1) := by decide +kernel
theorem dL_law_471 : decode cL_law 471 = .ok (.iload_n 3, 1) := by decide +kernel
theorem dL_law_472 : decode cL_law 472 = .ok (.iconst 3, 1) := by decide +kernel
theorem dL_law_473 : decode cL_law 473 = .ok (.iadd, 1) := by decide +kernel
theorem dL_law_474 : decode cL_law 474 = .ok (.iaload, 1) := by decide +kernel
theorem dL_law_475 : decode cL_law 475 = .ok (.invokevirtual 44, 3) := by decide +kernel
theorem dL_law_478 : decode cL_law 478 = .ok (.aload_n 2, 1) := by decide +kernel
theorem dL_law_479 : decode cL_law 479 = .ok (.aload_n 0, 1) := by decide +kernel
theorem dL_law_480 : decode cL_law 480 = .ok (.iload_n 3, 1) := by decide +kernel
theorem dL_law_481 : decode cL_law 481 = .ok (.iconst 1, 1) := by decide +kernel
theorem dL_law_482 : decode cL_law 482 = .ok (.iadd, 1) := by decide +kernel
theorem dL_law_483 : decode cL_law 483 = .ok (.iaload, 1) := by decide +kernel
theorem dL_law_484 : decode cL_law 484 = .ok (.aload_n 0, 1) := by decide +kernel
theorem dL_law_485 : decode cL_law 485 = .ok (.iload_n 3, 1) := by decide +kernel
theorem dL_law_486 : decode cL_law 486 = .ok (.iconst 2, 1) := by decide +kernel
theorem dL_law_487 : decode cL_law 487 = .ok (.iadd, 1) := by decide +kernel
theorem dL_law_488 : decode cL_law 488 = .ok (.iaload, 1) := by decide +kernel
theorem dL_law_489 : decode cL_law 489 = .ok (.aload_n 0, 1) := by decide +kernel
theorem dL_law_490 : decode cL_law 490 = .ok (.iload_n 3, 1) := by decide +kernel
theorem dL_law_491 : decode cL_law 491 = .ok (.iconst 3, 1) := by decide +kernel
theorem dL_law_492 : decode cL_law 492 = .ok (.iadd, 1) := by decide +kernel
theorem dL_law_493 : decode cL_law 493 = .ok (.iaload, 1) := by decide +kernel
theorem dL_law_494 : decode cL_law 494 = .ok (.invokevirtual 47, 3) := by decide +kernel
theorem dL_law_497 : decode cL_law 497 = .ok (.if_icmp .eq 929, 3) := by decide +kernel
theorem dL_law_500 : decode cL_law 500 = .ok (.iconst 0, 1) := by decide +kernel
theorem dL_law_501 : decode cL_law 501 = .ok (.ireturn, 1) := by decide +kernel
theorem dL_law_502 : decode cL_law 502 = .ok (.aload_n 1, 1) := by decide +kernel
theorem dL_law_503 : decode cL_law 503 = .ok (.invokevirtual 48, 3) := by decide +kernel
theorem dL_law_506 : decode cL_law 506 = .ok (.aload_n 2, 1) := by decide +kernel
theorem dL_law_507 : decode cL_law 507 = .ok (.invokevirtual 52, 3) := by decide +kernel
theorem dL_law_510 : decode cL_law 510 = .ok (.if_icmp .eq 916, 3) := by decide +kernel
theorem dL_law_513 : decode cL_law 513 = .ok (.iconst 0, 1) := by decide +kernel
theorem dL_law_514 : decode cL_law 514 = .ok (.ireturn, 1) := by decide +kernel
theorem dL_law_515 : decode cL_law 515 = .ok (.aload_n 1, 1) := by decide +kernel
theorem dL_law_516 : decode cL_law 516 = .ok (.aload_n 0, 1) := by decide +kernel
theorem dL_law_517 : decode cL_law 517 = .ok (.iload_n 3, 1) := by decide +kernel
theorem dL_law_518 : decode cL_law 518 = .ok (.iconst 1, 1) := by decide +kernel
theorem dL_law_519 : decode cL_law 519 = .ok (.iadd, 1) := by decide +kernel
theorem dL_law_520 : decode cL_law 520 = .ok (.iaload, 1) := by decide +kernel
theorem dL_law_521 : decode cL_law 521 = .ok (.invokevirtual 53, 3) := by decide +kernel
theorem dL_law_524 : decode cL_law 524 = .ok (.aload_n 2, 1) := by decide +kernel
theorem dL_law_525 : decode cL_law 525 = .ok (.aload_n 0, 1) := by decide +kernel
theorem dL_law_526 : decode cL_law 526 = .ok (.iload_n 3, 1) := by decide +kernel
theorem dL_law_527 : decode cL_law 527 = .ok (.iconst 1, 1) := by decide +kernel
theorem dL_law_528 : decode cL_law 528 = .ok (.iadd, 1) := by decide +kernel
theorem dL_law_529 : decode cL_law 529 = .ok (.iaload, 1) := by decide +kernel
theorem dL_law_530 : decode cL_law 530 = .ok (.invokevirtual 57, 3) := by decide +kernel
theorem dL_law_533 : decode cL_law 533 = .ok (.if_icmp .eq 893, 3) := by decide +kernel
theorem dL_law_536 : decode cL_law 536 = .ok (.iconst 0, 1) := by decide +kernel
theorem dL_law_537 : decode cL_law 537 = .ok (.ireturn, 1) := by decide +kernel
theorem dL_law_538 : decode cL_law 538 = .ok (.aload_n 1, 1) := by decide +kernel
theorem dL_law_539 : decode cL_law 539 = .ok (.invokevirtual 58, 3) := by decide +kernel
theorem dL_law_542 : decode cL_law 542 = .ok (.aload_n 2, 1) := by decide +kernel
theorem dL_law_543 : decode cL_law 543 = .ok (.invokevirtual 61, 3) := by decide +kernel
theorem dL_law_546 : decode cL_law 546 = .ok (.if_icmp .eq 880, 3) := by decide +kernel
theorem dL_law_549 : decode cL_law 549 = .ok (.iconst 0, 1) := by decide +kernel
theorem dL_law_550 : decode cL_law 550 = .ok (.ireturn, 1) := by decide +kernel
theorem dL_law_551 : decode cL_law 551 = .ok (.aload_n 1, 1) := by decide +kernel
theorem dL_law_552 : decode cL_law 552 = .ok (.aload_n 0, 1) := by decide +kernel
theorem dL_law_553 : decode cL_law 553 = .ok (.iload_n 3, 1) := by decide +kernel
theorem dL_law_554 : decode cL_law 554 = .ok (.iconst 1, 1) := by decide +kernel
theorem dL_law_555 : decode cL_law 555 = .ok (.iadd, 1) := by decide +kernel
theorem dL_law_556 : decode cL_law 556 = .ok (.iaload, 1) := by decide +kernel
theorem dL_law_557 : decode cL_law 557 = .ok (.invokevirtual 62, 3) := by decide +kernel
theorem dL_law_560 : decode cL_law 560 = .ok (.aload_n 2, 1) := by decide +kernel
theorem dL_law_561 : decode cL_law 561 = .ok (.aload_n 0, 1) := by decide +kernel
theorem dL_law_562 : decode cL_law 562 = .ok (.iload_n 3, 1) := by decide +kernel
theorem dL_law_563 : decode cL_law 563 = .ok (.iconst 1, 1) := by decide +kernel
theorem dL_law_564 : decode cL_law 564 = .ok (.iadd, 1) := by decide +kernel
theorem dL_law_565 : decode cL_law 565 = .ok (.iaload, 1) := by decide +kernel
theorem dL_law_566 : decode cL_law 566 = .ok (.invokevirtual 65, 3) := by decide +kernel
theorem dL_law_569 : decode cL_law 569 = .ok (.if_icmp .eq 857, 3) := by decide +kernel
theorem dL_law_572 : decode cL_law 572 = .ok (.iconst 0, 1) := by decide +kernel
theorem dL_law_573 : decode cL_law 573 = .ok (.ireturn, 1) := by decide +kernel
theorem dL_law_574 : decode cL_law 574 = .ok (.aload_n 1, 1) := by decide +kernel
theorem dL_law_575 : decode cL_law 575 = .ok (.aload_n 0, 1) := by decide +kernel
theorem dL_law_576 : decode cL_law 576 = .ok (.iload_n 3, 1) := by decide +kernel
theorem dL_law_577 : decode cL_law 577 = .ok (.iconst 1, 1) := by decide +kernel
theorem dL_law_578 : decode cL_law 578 = .ok (.iadd, 1) := by decide +kernel
theorem dL_law_579 : decode cL_law 579 = .ok (.iaload, 1) := by decide +kernel
theorem dL_law_580 : decode cL_law 580 = .ok (.aload_n 0, 1) := by decide +kernel
theorem dL_law_581 : decode cL_law 581 = .ok (.iload_n 3, 1) := by decide +kernel
theorem dL_law_582 : decode cL_law 582 = .ok (.iconst 2, 1) := by decide +kernel
theorem dL_law_583 : decode cL_law 583 = .ok (.iadd, 1) := by decide +kernel
theorem dL_law_584 : decode cL_law 584 = .ok (.iaload, 1) := by decide +kernel
theorem dL_law_585 : decode cL_law 585 = .ok (.invokevirtual 66, 3) := by decide +kernel
theorem dL_law_588 : decode cL_law 588 = .ok (.aload_n 2, 1) := by decide +kernel
theorem dL_law_589 : decode cL_law 589 = .ok (.aload_n 0, 1) := by decide +kernel
theorem dL_law_590 : decode cL_law 590 = .ok (.iload_n 3, 1) := by decide +kernel
theorem dL_law_591 : decode cL_law 591 = .ok (.iconst 1, 1) := by decide +kernel
theorem dL_law_592 : decode cL_law 592 = .ok (.iadd, 1) := by decide +kernel
theorem dL_law_593 : decode cL_law 593 = .ok (.iaload, 1) := by decide +kernel
theorem dL_law_594 : decode cL_law 594 = .ok (.aload_n 0, 1) := by decide +kernel
theorem dL_law_595 : decode cL_law 595 = .ok (.iload_n 3, 1) := by decide +kernel
theorem dL_law_596 : decode cL_law 596 = .ok (.iconst 2, 1) := by decide +kernel
theorem dL_law_597 : decode cL_law 597 = .ok (.iadd, 1) := by decide +kernel
theorem dL_law_598 : decode cL_law 598 = .ok (.iaload, 1) := by decide +kernel
theorem dL_law_599 : decode cL_law 599 = .ok (.invokevirtual 69, 3) := by decide +kernel
theorem dL_law_602 : decode cL_law 602 = .ok (.if_icmp .eq 824, 3) := by decide +kernel
theorem dL_law_605 : decode cL_law 605 = .ok (.iconst 0, 1) := by decide +kernel
theorem dL_law_606 : decode cL_law 606 = .ok (.ireturn, 1) := by decide +kernel
theorem dL_law_607 : decode cL_law 607 = .ok (.aload_n 1, 1) := by decide +kernel
theorem dL_law_608 : decode cL_law 608 = .ok (.invokevirtual 70, 3) := by decide +kernel
theorem dL_law_611 : decode cL_law 611 = .ok (.aload_n 2, 1) := by decide +kernel
theorem dL_law_612 : decode cL_law 612 = .ok (.invokevirtual 73, 3) := by decide +kernel
theorem dL_law_615 : decode cL_law 615 = .ok (.if_icmp .eq 811, 3) := by decide +kernel
theorem dL_law_618 : decode cL_law 618 = .ok (.iconst 0, 1) := by decide +kernel
theorem dL_law_619 : decode cL_law 619 = .ok (.ireturn, 1) := by decide +kernel
theorem dL_law_620 : decode cL_law 620 = .ok (.aload_n 1, 1) := by decide +kernel
theorem dL_law_621 : decode cL_law 621 = .ok (.aload_n 0, 1) := by decide +kernel
theorem dL_law_622 : decode cL_law 622 = .ok (.iload_n 3, 1) := by decide +kernel
theorem dL_law_623 : decode cL_law 623 = .ok (.iconst 1, 1) := by decide +kernel
theorem dL_law_624 : decode cL_law 624 = .ok (.iadd, 1) := by decide +kernel
theorem dL_law_625 : decode cL_law 625 = .ok (.iaload, 1) := by decide +kernel
theorem dL_law_626 : decode cL_law 626 = .ok (.invokevirtual 74, 3) := by decide +kernel
theorem dL_law_629 : decode cL_law 629 = .ok (.aload_n 2, 1) := by decide +kernel
theorem dL_law_630 : decode cL_law 630 = .ok (.aload_n 0, 1) := by decide +kernel
theorem dL_law_631 : decode cL_law 631 = .ok (.iload_n 3, 1) := by decide +kernel
theorem dL_law_632 : decode cL_law 632 = .ok (.iconst 1, 1) := by decide +kernel
theorem dL_law_633 : decode cL_law 633 = .ok (.iadd, 1) := by decide +kernel
theorem dL_law_634 : decode cL_law 634 = .ok (.iaload, 1) := by decide +kernel
theorem dL_law_635 : decode cL_law 635 = .ok (.invokevirtual 77, 3) := by decide +kernel
theorem dL_law_638 : decode cL_law 638 = .ok (.if_icmp .eq 788, 3) := by decide +kernel
theorem dL_law_641 : decode cL_law 641 = .ok (.iconst 0, 1) := by decide +kernel
theorem dL_law_642 : decode cL_law 642 = .ok (.ireturn, 1) := by decide +kernel
theorem dL_law_643 : decode cL_law 643 = .ok (.aload_n 1, 1) := by decide +kernel
theorem dL_law_644 : decode cL_law 644 = .ok (.aload_n 0, 1) := by decide +kernel
theorem dL_law_645 : decode cL_law 645 = .ok (.iload_n 3, 1) := by decide +kernel
theorem dL_law_646 : decode cL_law 646 = .ok (.iconst 1, 1) := by decide +kernel
theorem dL_law_647 : decode cL_law 647 = .ok (.iadd, 1) := by decide +kernel
theorem dL_law_648 : decode cL_law 648 = .ok (.iaload, 1) := by decide +kernel
theorem dL_law_649 : decode cL_law 649 = .ok (.invokevirtual 78, 3) := by decide +kernel
theorem dL_law_652 : decode cL_law 652 = .ok (.aload_n 2, 1) := by decide +kernel
theorem dL_law_653 : decode cL_law 653 = .ok (.aload_n 0, 1) := by decide +kernel
theorem dL_law_654 : decode cL_law 654 = .ok (.iload_n 3, 1) := by decide +kernel
theorem dL_law_655 : decode cL_law 655 = .ok (.iconst 1, 1) := by decide +kernel
theorem dL_law_656 : decode cL_law 656 = .ok (.iadd, 1) := by decide +kernel
theorem dL_law_657 : decode cL_law 657 = .ok (.iaload, 1) := by decide +kernel
theorem dL_law_658 : decode cL_law 658 = .ok (.invokevirtual 81, 3) := by decide +kernel
theorem dL_law_661 : decode cL_law 661 = .ok (.if_icmp .eq 765, 3) := by decide +kernel
theorem dL_law_664 : decode cL_law 664 = .ok (.iconst 0, 1) := by decide +kernel
theorem dL_law_665 : decode cL_law 665 = .ok (.ireturn, 1) := by decide +kernel
theorem dL_law_666 : decode cL_law 666 = .ok (.aload_n 1, 1) := by decide +kernel
theorem dL_law_667 : decode cL_law 667 = .ok (.aload_n 0, 1) := by decide +kernel
theorem dL_law_668 : decode cL_law 668 = .ok (.iload_n 3, 1) := by decide +kernel
theorem dL_law_669 : decode cL_law 669 = .ok (.iconst 1, 1) := by decide +kernel
theorem dL_law_670 : decode cL_law 670 = .ok (.iadd, 1) := by decide +kernel
theorem dL_law_671 : decode cL_law 671 = .ok (.iaload, 1) := by decide +kernel
theorem dL_law_672 : decode cL_law 672 = .ok (.invokevirtual 82, 3) := by decide +kernel
theorem dL_law_675 : decode cL_law 675 = .ok (.aload_n 2, 1) := by decide +kernel
theorem dL_law_676 : decode cL_law 676 = .ok (.aload_n 0, 1) := by decide +kernel
theorem dL_law_677 : decode cL_law 677 = .ok (.iload_n 3, 1) := by decide +kernel
theorem dL_law_678 : decode cL_law 678 = .ok (.iconst 1, 1) := by decide +kernel
theorem dL_law_679 : decode cL_law 679 = .ok (.iadd, 1) := by decide +kernel
theorem dL_law_680 : decode cL_law 680 = .ok (.iaload, 1) := by decide +kernel
theorem dL_law_681 : decode cL_law 681 = .ok (.invokevirtual 85, 3) := by decide +kernel
theorem dL_law_684 : decode cL_law 684 = .ok (.if_icmp .eq 742, 3) := by decide +kernel
theorem dL_law_687 : decode cL_law 687 = .ok (.iconst 0, 1) := by decide +kernel
theorem dL_law_688 : decode cL_law 688 = .ok (.ireturn, 1) := by decide +kernel
theorem dL_law_689 : decode cL_law 689 = .ok (.aload_n 1, 1) := by decide +kernel
theorem dL_law_690 : decode cL_law 690 = .ok (.invokevirtual 86, 3) := by decide +kernel
theorem dL_law_693 : decode cL_law 693 = .ok (.aload_n 2, 1) := by decide +kernel
theorem dL_law_694 : decode cL_law 694 = .ok (.invokevirtual 89, 3) := by decide +kernel
theorem dL_law_697 : decode cL_law 697 = .ok (.if_icmp .eq 729, 3) := by decide +kernel
theorem dL_law_700 : decode cL_law 700 = .ok (.iconst 0, 1) := by decide +kernel
theorem dL_law_701 : decode cL_law 701 = .ok (.ireturn, 1) := by decide +kernel
theorem dL_law_702 : decode cL_law 702 = .ok (.aload_n 1, 1) := by decide +kernel
theorem dL_law_703 : decode cL_law 703 = .ok (.aload_n 0, 1) := by decide +kernel
theorem dL_law_704 : decode cL_law 704 = .ok (.iload_n 3, 1) := by decide +kernel
theorem dL_law_705 : decode cL_law 705 = .ok (.iconst 1, 1) := by decide +kernel
theorem dL_law_706 : decode cL_law 706 = .ok (.iadd, 1) := by decide +kernel
theorem dL_law_707 : decode cL_law 707 = .ok (.iaload, 1) := by decide +kernel
theorem dL_law_708 : decode cL_law 708 = .ok (.aload_n 0, 1) := by decide +kernel
theorem dL_law_709 : decode cL_law 709 = .ok (.iload_n 3, 1) := by decide +kernel
theorem dL_law_710 : decode cL_law 710 = .ok (.iconst 2, 1) := by decide +kernel
theorem dL_law_711 : decode cL_law 711 = .ok (.iadd, 1) := by decide +kernel
theorem dL_law_712 : decode cL_law 712 = .ok (.iaload, 1) := by decide +kernel
theorem dL_law_713 : decode cL_law 713 = .ok (.invokevirtual 90, 3) := by decide +kernel
theorem dL_law_716 : decode cL_law 716 = .ok (.aload_n 2, 1) := by decide +kernel
theorem dL_law_717 : decode cL_law 717 = .ok (.aload_n 0, 1) := by decide +kernel
theorem dL_law_718 : decode cL_law 718 = .ok (.iload_n 3, 1) := by decide +kernel
theorem dL_law_719 : decode cL_law 719 = .ok (.iconst 1, 1) := by decide +kernel
theorem dL_law_720 : decode cL_law 720 = .ok (.iadd, 1) := by decide +kernel
theorem dL_law_721 : decode cL_law 721 = .ok (.iaload, 1) := by decide +kernel
theorem dL_law_722 : decode cL_law 722 = .ok (.aload_n 0, 1) := by decide +kernel
theorem dL_law_723 : decode cL_law 723 = .ok (.iload_n 3, 1) := by decide +kernel
theorem dL_law_724 : decode cL_law 724 = .ok (.iconst 2, 1) := by decide +kernel
theorem dL_law_725 : decode cL_law 725 = .ok (.iadd, 1) := by decide +kernel
theorem dL_law_726 : decode cL_law 726 = .ok (.iaload, 1) := by decide +kernel
theorem dL_law_727 : decode cL_law 727 = .ok (.invokevirtual 93, 3) := by decide +kernel
theorem dL_law_730 : decode cL_law 730 = .ok (.if_icmp .eq 696, 3) := by decide +kernel
theorem dL_law_733 : decode cL_law 733 = .ok (.iconst 0, 1) := by decide +kernel
theorem dL_law_734 : decode cL_law 734 = .ok (.ireturn, 1) := by decide +kernel
theorem dL_law_735 : decode cL_law 735 = .ok (.aload_n 1, 1) := by decide +kernel
theorem dL_law_736 : decode cL_law 736 = .ok (.aload_n 0, 1) := by decide +kernel
theorem dL_law_737 : decode cL_law 737 = .ok (.iload_n 3, 1) := by decide +kernel
theorem dL_law_738 : decode cL_law 738 = .ok (.iconst 1, 1) := by decide +kernel
theorem dL_law_739 : decode cL_law 739 = .ok (.iadd, 1) := by decide +kernel
theorem dL_law_740 : decode cL_law 740 = .ok (.iaload, 1) := by decide +kernel
theorem dL_law_741 : decode cL_law 741 = .ok (.aload_n 0, 1) := by decide +kernel
theorem dL_law_742 : decode cL_law 742 = .ok (.iload_n 3, 1) := by decide +kernel
theorem dL_law_743 : decode cL_law 743 = .ok (.iconst 2, 1) := by decide +kernel
theorem dL_law_744 : decode cL_law 744 = .ok (.iadd, 1) := by decide +kernel
theorem dL_law_745 : decode cL_law 745 = .ok (.iaload, 1) := by decide +kernel
theorem dL_law_746 : decode cL_law 746 = .ok (.aload_n 0, 1) := by decide +kernel
theorem dL_law_747 : decode cL_law 747 = .ok (.iload_n 3, 1) := by decide +kernel
theorem dL_law_748 : decode cL_law 748 = .ok (.iconst 3, 1) := by decide +kernel
theorem dL_law_749 : decode cL_law 749 = .ok (.iadd, 1) := by decide +kernel
theorem dL_law_750 : decode cL_law 750 = .ok (.iaload, 1) := by decide +kernel
theorem dL_law_751 : decode cL_law 751 = .ok (.invokevirtual 94, 3) := by decide +kernel
theorem dL_law_754 : decode cL_law 754 = .ok (.aload_n 2, 1) := by decide +kernel
theorem dL_law_755 : decode cL_law 755 = .ok (.aload_n 0, 1) := by decide +kernel
theorem dL_law_756 : decode cL_law 756 = .ok (.iload_n 3, 1) := by decide +kernel
theorem dL_law_757 : decode cL_law 757 = .ok (.iconst 1, 1) := by decide +kernel
theorem dL_law_758 : decode cL_law 758 = .ok (.iadd, 1) := by decide +kernel
theorem dL_law_759 : decode cL_law 759 = .ok (.iaload, 1) := by decide +kernel
theorem dL_law_760 : decode cL_law 760 = .ok (.aload_n 0, 1) := by decide +kernel
theorem dL_law_761 : decode cL_law 761 = .ok (.iload_n 3, 1) := by decide +kernel
theorem dL_law_762 : decode cL_law 762 = .ok (.iconst 2, 1) := by decide +kernel
theorem dL_law_763 : decode cL_law 763 = .ok (.iadd, 1) := by decide +kernel
theorem dL_law_764 : decode cL_law 764 = .ok (.iaload, 1) := by decide +kernel
theorem dL_law_765 : decode cL_law 765 = .ok (.aload_n 0, 1) := by decide +kernel
theorem dL_law_766 : decode cL_law 766 = .ok (.iload_n 3, 1) := by decide +kernel
theorem dL_law_767 : decode cL_law 767 = .ok (.iconst 3, 1) := by decide +kernel
theorem dL_law_768 : decode cL_law 768 = .ok (.iadd, 1) := by decide +kernel
theorem dL_law_769 : decode cL_law 769 = .ok (.iaload, 1) := by decide +kernel
theorem dL_law_770 : decode cL_law 770 = .ok (.invokevirtual 97, 3) := by decide +kernel
theorem dL_law_773 : decode cL_law 773 = .ok (.if_icmp .eq 653, 3) := by decide +kernel
theorem dL_law_776 : decode cL_law 776 = .ok (.iconst 0, 1) := by decide +kernel
theorem dL_law_777 : decode cL_law 777 = .ok (.ireturn, 1) := by decide +kernel
theorem dL_law_778 : decode cL_law 778 = .ok (.aload_n 1, 1) := by decide +kernel
theorem dL_law_779 : decode cL_law 779 = .ok (.aload_n 0, 1) := by decide +kernel
theorem dL_law_780 : decode cL_law 780 = .ok (.iload_n 3, 1) := by decide +kernel
theorem dL_law_781 : decode cL_law 781 = .ok (.iconst 1, 1) := by decide +kernel
theorem dL_law_782 : decode cL_law 782 = .ok (.iadd, 1) := by decide +kernel
theorem dL_law_783 : decode cL_law 783 = .ok (.iaload, 1) := by decide +kernel
theorem dL_law_784 : decode cL_law 784 = .ok (.aload_n 0, 1) := by decide +kernel
theorem dL_law_785 : decode cL_law 785 = .ok (.iload_n 3, 1) := by decide +kernel
theorem dL_law_786 : decode cL_law 786 = .ok (.iconst 2, 1) := by decide +kernel
theorem dL_law_787 : decode cL_law 787 = .ok (.iadd, 1) := by decide +kernel
theorem dL_law_788 : decode cL_law 788 = .ok (.iaload, 1) := by decide +kernel
theorem dL_law_789 : decode cL_law 789 = .ok (.invokevirtual 98, 3) := by decide +kernel
theorem dL_law_792 : decode cL_law 792 = .ok (.aload_n 2, 1) := by decide +kernel
theorem dL_law_793 : decode cL_law 793 = .ok (.aload_n 0, 1) := by decide +kernel
theorem dL_law_794 : decode cL_law 794 = .ok (.iload_n 3, 1) := by decide +kernel
theorem dL_law_795 : decode cL_law 795 = .ok (.iconst 1, 1) := by decide +kernel
theorem dL_law_796 : decode cL_law 796 = .ok (.iadd, 1) := by decide +kernel
theorem dL_law_797 : decode cL_law 797 = .ok (.iaload, 1) := by decide +kernel
theorem dL_law_798 : decode cL_law 798 = .ok (.aload_n 0, 1) := by decide +kernel
theorem dL_law_799 : decode cL_law 799 = .ok (.iload_n 3, 1) := by decide +kernel
theorem dL_law_800 : decode cL_law 800 = .ok (.iconst 2, 1) := by decide +kernel
theorem dL_law_801 : decode cL_law 801 = .ok (.iadd, 1) := by decide +kernel
theorem dL_law_802 : decode cL_law 802 = .ok (.iaload, 1) := by decide +kernel
theorem dL_law_803 : decode cL_law 803 = .ok (.invokevirtual 101, 3) := by decide +kernel
theorem dL_law_806 : decode cL_law 806 = .ok (.if_icmp .eq 620, 3) := by decide +kernel
theorem dL_law_809 : decode cL_law 809 = .ok (.iconst 0, 1) := by decide +kernel
theorem dL_law_810 : decode cL_law 810 = .ok (.ireturn, 1) := by decide +kernel
theorem dL_law_811 : decode cL_law 811 = .ok (.aload_n 1, 1) := by decide +kernel
theorem dL_law_812 : decode cL_law 812 = .ok (.aload_n 0, 1) := by decide +kernel
theorem dL_law_813 : decode cL_law 813 = .ok (.iload_n 3, 1) := by decide +kernel
theorem dL_law_814 : decode cL_law 814 = .ok (.iconst 1, 1) := by decide +kernel
theorem dL_law_815 : decode cL_law 815 = .ok (.iadd, 1) := by decide +kernel
theorem dL_law_816 : decode cL_law 816 = .ok (.iaload, 1) := by decide +kernel
theorem dL_law_817 : decode cL_law 817 = .ok (.invokevirtual 102, 3) := by decide +kernel
theorem dL_law_820 : decode cL_law 820 = .ok (.aload_n 2, 1) := by decide +kernel
theorem dL_law_821 : decode cL_law 821 = .ok (.aload_n 0, 1) := by decide +kernel
theorem dL_law_822 : decode cL_law 822 = .ok (.iload_n 3, 1) := by decide +kernel
theorem dL_law_823 : decode cL_law 823 = .ok (.iconst 1, 1) := by decide +kernel
theorem dL_law_824 : decode cL_law 824 = .ok (.iadd, 1) := by decide +kernel
theorem dL_law_825 : decode cL_law 825 = .ok (.iaload, 1) := by decide +kernel
theorem dL_law_826 : decode cL_law 826 = .ok (.invokevirtual 105, 3) := by decide +kernel
theorem dL_law_829 : decode cL_law 829 = .ok (.if_icmp .eq 597, 3) := by decide +kernel
theorem dL_law_832 : decode cL_law 832 = .ok (.iconst 0, 1) := by decide +kernel
theorem dL_law_833 : decode cL_law 833 = .ok (.ireturn, 1) := by decide +kernel
theorem dL_law_834 : decode cL_law 834 = .ok (.aload_n 1, 1) := by decide +kernel
theorem dL_law_835 : decode cL_law 835 = .ok (.aload_n 0, 1) := by decide +kernel
theorem dL_law_836 : decode cL_law 836 = .ok (.iload_n 3, 1) := by decide +kernel
theorem dL_law_837 : decode cL_law 837 = .ok (.iconst 1, 1) := by decide +kernel
theorem dL_law_838 : decode cL_law 838 = .ok (.iadd, 1) := by decide +kernel
theorem dL_law_839 : decode cL_law 839 = .ok (.iaload, 1) := by decide +kernel
theorem dL_law_840 : decode cL_law 840 = .ok (.aload_n 0, 1) := by decide +kernel
theorem dL_law_841 : decode cL_law 841 = .ok (.iload_n 3, 1) := by decide +kernel
theorem dL_law_842 : decode cL_law 842 = .ok (.iconst 2, 1) := by decide +kernel
theorem dL_law_843 : decode cL_law 843 = .ok (.iadd, 1) := by decide +kernel
theorem dL_law_844 : decode cL_law 844 = .ok (.iaload, 1) := by decide +kernel
theorem dL_law_845 : decode cL_law 845 = .ok (.invokevirtual 106, 3) := by decide +kernel
theorem dL_law_848 : decode cL_law 848 = .ok (.aload_n 2, 1) := by decide +kernel
theorem dL_law_849 : decode cL_law 849 = .ok (.aload_n 0, 1) := by decide +kernel
theorem dL_law_850 : decode cL_law 850 = .ok (.iload_n 3, 1) := by decide +kernel
theorem dL_law_851 : decode cL_law 851 = .ok (.iconst 1, 1) := by decide +kernel
theorem dL_law_852 : decode cL_law 852 = .ok (.iadd, 1) := by decide +kernel
theorem dL_law_853 : decode cL_law 853 = .ok (.iaload, 1) := by decide +kernel
theorem dL_law_854 : decode cL_law 854 = .ok (.aload_n 0, 1) := by decide +kernel
theorem dL_law_855 : decode cL_law 855 = .ok (.iload_n 3, 1) := by decide +kernel
theorem dL_law_856 : decode cL_law 856 = .ok (.iconst 2, 1) := by decide +kernel
theorem dL_law_857 : decode cL_law 857 = .ok (.iadd, 1) := by decide +kernel
theorem dL_law_858 : decode cL_law 858 = .ok (.iaload, 1) := by decide +kernel
theorem dL_law_859 : decode cL_law 859 = .ok (.invokevirtual 109, 3) := by decide +kernel
theorem dL_law_862 : decode cL_law 862 = .ok (.if_icmp .eq 564, 3) := by decide +kernel
theorem dL_law_865 : decode cL_law 865 = .ok (.iconst 0, 1) := by decide +kernel
theorem dL_law_866 : decode cL_law 866 = .ok (.ireturn, 1) := by decide +kernel
theorem dL_law_867 : decode cL_law 867 = .ok (.aload_n 1, 1) := by decide +kernel
theorem dL_law_868 : decode cL_law 868 = .ok (.aload_n 0, 1) := by decide +kernel
theorem dL_law_869 : decode cL_law 869 = .ok (.iload_n 3, 1) := by decide +kernel
theorem dL_law_870 : decode cL_law 870 = .ok (.iconst 1, 1) := by decide +kernel
theorem dL_law_871 : decode cL_law 871 = .ok (.iadd, 1) := by decide +kernel
theorem dL_law_872 : decode cL_law 872 = .ok (.iaload, 1) := by decide +kernel
theorem dL_law_873 : decode cL_law 873 = .ok (.aload_n 0, 1) := by decide +kernel
theorem dL_law_874 : decode cL_law 874 = .ok (.iload_n 3, 1) := by decide +kernel
theorem dL_law_875 : decode cL_law 875 = .ok (.iconst 2, 1) := by decide +kernel
theorem dL_law_876 : decode cL_law 876 = .ok (.iadd, 1) := by decide +kernel
theorem dL_law_877 : decode cL_law 877 = .ok (.iaload, 1) := by decide +kernel
theorem dL_law_878 : decode cL_law 878 = .ok (.aload_n 0, 1) := by decide +kernel
theorem dL_law_879 : decode cL_law 879 = .ok (.iload_n 3, 1) := by decide +kernel
theorem dL_law_880 : decode cL_law 880 = .ok (.iconst 3, 1) := by decide +kernel
theorem dL_law_881 : decode cL_law 881 = .ok (.iadd, 1) := by decide +kernel
theorem dL_law_882 : decode cL_law 882 = .ok (.iaload, 1) := by decide +kernel
theorem dL_law_883 : decode cL_law 883 = .ok (.aload_n 0, 1) := by decide +kernel
theorem dL_law_884 : decode cL_law 884 = .ok (.iload_n 3, 1) := by decide +kernel
theorem dL_law_885 : decode cL_law 885 = .ok (.iconst 4, 1) := by decide +kernel
theorem dL_law_886 : decode cL_law 886 = .ok (.iadd, 1) := by decide +kernel
theorem dL_law_887 : decode cL_law 887 = .ok (.iaload, 1) := by decide +kernel
theorem dL_law_888 : decode cL_law 888 = .ok (.invokevirtual 110, 3) := by decide +kernel
theorem dL_law_891 : decode cL_law 891 = .ok (.aload_n 2, 1) := by decide +kernel
theorem dL_law_892 : decode cL_law 892 = .ok (.aload_n 0, 1) := by decide +kernel
theorem dL_law_893 : decode cL_law 893 = .ok (.iload_n 3, 1) := by decide +kernel
theorem dL_law_894 : decode cL_law 894 = .ok (.iconst 1, 1) := by decide +kernel
theorem dL_law_895 : decode cL_law 895 = .ok (.iadd, 1) := by decide +kernel
theorem dL_law_896 : decode cL_law 896 = .ok (.iaload, 1) := by decide +kernel
theorem dL_law_897 : decode cL_law 897 = .ok (.aload_n 0, 1) := by decide +kernel
theorem dL_law_898 : decode cL_law 898 = .ok (.iload_n 3, 1) := by decide +kernel
theorem dL_law_899 : decode cL_law 899 = .ok (.iconst 2, 1) := by decide +kernel
theorem dL_law_900 : decode cL_law 900 = .ok (.iadd, 1) := by decide +kernel
theorem dL_law_901 : decode cL_law 901 = .ok (.iaload, 1) := by decide +kernel
theorem dL_law_902 : decode cL_law 902 = .ok (.aload_n 0, 1) := by decide +kernel
theorem dL_law_903 : decode cL_law 903 = .ok (.iload_n 3, 1) := by decide +kernel
theorem dL_law_904 : decode cL_law 904 = .ok (.iconst 3, 1) := by decide +kernel
theorem dL_law_905 : decode cL_law 905 = .ok (.iadd, 1) := by decide +kernel
theorem dL_law_906 : decode cL_law 906 = .ok (.iaload, 1) := by decide +kernel
theorem dL_law_907 : decode cL_law 907 = .ok (.aload_n 0, 1) := by decide +kernel
theorem dL_law_908 : decode cL_law 908 = .ok (.iload_n 3, 1) := by decide +kernel
theorem dL_law_909 : decode cL_law 909 = .ok (.iconst 4, 1) := by decide +kernel
theorem dL_law_910 : decode cL_law 910 = .ok (.iadd, 1) := by decide +kernel
theorem dL_law_911 : decode cL_law 911 = .ok (.iaload, 1) := by decide +kernel
theorem dL_law_912 : decode cL_law 912 = .ok (.invokevirtual 114, 3) := by decide +kernel
theorem dL_law_915 : decode cL_law 915 = .ok (.if_icmp .eq 511, 3) := by decide +kernel
theorem dL_law_918 : decode cL_law 918 = .ok (.iconst 0, 1) := by decide +kernel
theorem dL_law_919 : decode cL_law 919 = .ok (.ireturn, 1) := by decide +kernel
theorem dL_law_920 : decode cL_law 920 = .ok (.aload_n 1, 1) := by decide +kernel
theorem dL_law_921 : decode cL_law 921 = .ok (.aload_n 0, 1) := by decide +kernel
theorem dL_law_922 : decode cL_law 922 = .ok (.iload_n 3, 1) := by decide +kernel
theorem dL_law_923 : decode cL_law 923 = .ok (.iconst 1, 1) := by decide +kernel
theorem dL_law_924 : decode cL_law 924 = .ok (.iadd, 1) := by decide +kernel
theorem dL_law_925 : decode cL_law 925 = .ok (.iaload, 1) := by decide +kernel
theorem dL_law_926 : decode cL_law 926 = .ok (.aload_n 0, 1) := by decide +kernel
theorem dL_law_927 : decode cL_law 927 = .ok (.iload_n 3, 1) := by decide +kernel
theorem dL_law_928 : decode cL_law 928 = .ok (.iconst 2, 1) := by decide +kernel
theorem dL_law_929 : decode cL_law 929 = .ok (.iadd, 1) := by decide +kernel
theorem dL_law_930 : decode cL_law 930 = .ok (.iaload, 1) := by decide +kernel
theorem dL_law_931 : decode cL_law 931 = .ok (.invokevirtual 115, 3) := by decide +kernel
theorem dL_law_934 : decode cL_law 934 = .ok (.aload_n 2, 1) := by decide +kernel
theorem dL_law_935 : decode cL_law 935 = .ok (.aload_n 0, 1) := by decide +kernel
theorem dL_law_936 : decode cL_law 936 = .ok (.iload_n 3, 1) := by decide +kernel
theorem dL_law_937 : decode cL_law 937 = .ok (.iconst 1, 1) := by decide +kernel
theorem dL_law_938 : decode cL_law 938 = .ok (.iadd, 1) := by decide +kernel
theorem dL_law_939 : decode cL_law 939 = .ok (.iaload, 1) := by decide +kernel
theorem dL_law_940 : decode cL_law 940 = .ok (.aload_n 0, 1) := by decide +kernel
theorem dL_law_941 : decode cL_law 941 = .ok (.iload_n 3, 1) := by decide +kernel
theorem dL_law_942 : decode cL_law 942 = .ok (.iconst 2, 1) := by decide +kernel
theorem dL_law_943 : decode cL_law 943 = .ok (.iadd, 1) := by decide +kernel
theorem dL_law_944 : decode cL_law 944 = .ok (.iaload, 1) := by decide +kernel
theorem dL_law_945 : decode cL_law 945 = .ok (.invokevirtual 118, 3) := by decide +kernel
theorem dL_law_948 : decode cL_law 948 = .ok (.if_icmp .eq 478, 3) := by decide +kernel
theorem dL_law_951 : decode cL_law 951 = .ok (.iconst 0, 1) := by decide +kernel
theorem dL_law_952 : decode cL_law 952 = .ok (.ireturn, 1) := by decide +kernel
theorem dL_law_953 : decode cL_law 953 = .ok (.aload_n 1, 1) := by decide +kernel
theorem dL_law_954 : decode cL_law 954 = .ok (.aload_n 0, 1) := by decide +kernel
theorem dL_law_955 : decode cL_law 955 = .ok (.iload_n 3, 1) := by decide +kernel
theorem dL_law_956 : decode cL_law 956 = .ok (.iconst 1, 1) := by decide +kernel
theorem dL_law_957 : decode cL_law 957 = .ok (.iadd, 1) := by decide +kernel
theorem dL_law_958 : decode cL_law 958 = .ok (.iaload, 1) := by decide +kernel
theorem dL_law_959 : decode cL_law 959 = .ok (.aload_n 0, 1) := by decide +kernel
theorem dL_law_960 : decode cL_law 960 = .ok (.iload_n 3, 1) := by decide +kernel
theorem dL_law_961 : decode cL_law 961 = .ok (.iconst 2, 1) := by decide +kernel
theorem dL_law_962 : decode cL_law 962 = .ok (.iadd, 1) := by decide +kernel
theorem dL_law_963 : decode cL_law 963 = .ok (.iaload, 1) := by decide +kernel
theorem dL_law_964 : decode cL_law 964 = .ok (.invokevirtual 119, 3) := by decide +kernel
theorem dL_law_967 : decode cL_law 967 = .ok (.aload_n 2, 1) := by decide +kernel
theorem dL_law_968 : decode cL_law 968 = .ok (.aload_n 0, 1) := by decide +kernel
theorem dL_law_969 : decode cL_law 969 = .ok (.iload_n 3, 1) := by decide +kernel
theorem dL_law_970 : decode cL_law 970 = .ok (.iconst 1, 1) := by decide +kernel
theorem dL_law_971 : decode cL_law 971 = .ok (.iadd, 1) := by decide +kernel
theorem dL_law_972 : decode cL_law 972 = .ok (.iaload, 1) := by decide +kernel
theorem dL_law_973 : decode cL_law 973 = .ok (.aload_n 0, 1) := by decide +kernel
theorem dL_law_974 : decode cL_law 974 = .ok (.iload_n 3, 1) := by decide +kernel
theorem dL_law_975 : decode cL_law 975 = .ok (.iconst 2, 1) := by decide +kernel
theorem dL_law_976 : decode cL_law 976 = .ok (.iadd, 1) := by decide +kernel
theorem dL_law_977 : decode cL_law 977 = .ok (.iaload, 1) := by decide +kernel
theorem dL_law_978 : decode cL_law 978 = .ok (.invokevirtual 122, 3) := by decide +kernel
theorem dL_law_981 : decode cL_law 981 = .ok (.if_icmp .eq 445, 3) := by decide +kernel
theorem dL_law_984 : decode cL_law 984 = .ok (.iconst 0, 1) := by decide +kernel
theorem dL_law_985 : decode cL_law 985 = .ok (.ireturn, 1) := by decide +kernel
theorem dL_law_986 : decode cL_law 986 = .ok (.aload_n 1, 1) := by decide +kernel
theorem dL_law_987 : decode cL_law 987 = .ok (.invokevirtual 123, 3) := by decide +kernel
theorem dL_law_990 : decode cL_law 990 = .ok (.aload_n 2, 1) := by decide +kernel
theorem dL_law_991 : decode cL_law 991 = .ok (.invokevirtual 126, 3) := by decide +kernel
theorem dL_law_994 : decode cL_law 994 = .ok (.if_icmp .eq 432, 3) := by decide +kernel
theorem dL_law_997 : decode cL_law 997 = .ok (.iconst 0, 1) := by decide +kernel
theorem dL_law_998 : decode cL_law 998 = .ok (.ireturn, 1) := by decide +kernel
theorem dL_law_999 : decode cL_law 999 = .ok (.aload_n 1, 1) := by decide +kernel
theorem dL_law_1000 : decode cL_law 1000 = .ok (.invokevirtual 127, 3) := by decide +kernel
theorem dL_law_1003 : decode cL_law 1003 = .ok (.aload_n 2, 1) := by decide +kernel
theorem dL_law_1004 : decode cL_law 1004 = .ok (.invokevirtual 130, 3) := by decide +kernel
theorem dL_law_1007 : decode cL_law 1007 = .ok (.if_icmp .eq 419, 3) := by decide +kernel
theorem dL_law_1010 : decode cL_law 1010 = .ok (.iconst 0, 1) := by decide +kernel
theorem dL_law_1011 : decode cL_law 1011 = .ok (.ireturn, 1) := by decide +kernel
theorem dL_law_1012 : decode cL_law 1012 = .ok (.aload_n 1, 1) := by decide +kernel
theorem dL_law_1013 : decode cL_law 1013 = .ok (.aload_n 0, 1) := by decide +kernel
theorem dL_law_1014 : decode cL_law 1014 = .ok (.iload_n 3, 1) := by decide +kernel
theorem dL_law_1015 : decode cL_law 1015 = .ok (.iconst 1, 1) := by decide +kernel
theorem dL_law_1016 : decode cL_law 1016 = .ok (.iadd, 1) := by decide +kernel
theorem dL_law_1017 : decode cL_law 1017 = .ok (.iaload, 1) := by decide +kernel
theorem dL_law_1018 : decode cL_law 1018 = .ok (.aload_n 0, 1) := by decide +kernel
theorem dL_law_1019 : decode cL_law 1019 = .ok (.iload_n 3, 1) := by decide +kernel
theorem dL_law_1020 : decode cL_law 1020 = .ok (.iconst 2, 1) := by decide +kernel
theorem dL_law_1021 : decode cL_law 1021 = .ok (.iadd, 1) := by decide +kernel
theorem dL_law_1022 : decode cL_law 1022 = .ok (.iaload, 1) := by decide +kernel
theorem dL_law_1023 : decode cL_law 1023 = .ok (.aload_n 0, 1) := by decide +kernel
theorem dL_law_1024 : decode cL_law 1024 = .ok (.iload_n 3, 1) := by decide +kernel
theorem dL_law_1025 : decode cL_law 1025 = .ok (.iconst 3, 1) := by decide +kernel
theorem dL_law_1026 : decode cL_law 1026 = .ok (.iadd, 1) := by decide +kernel
theorem dL_law_1027 : decode cL_law 1027 = .ok (.iaload, 1) := by decide +kernel
theorem dL_law_1028 : decode cL_law 1028 = .ok (.aload_n 0, 1) := by decide +kernel
theorem dL_law_1029 : decode cL_law 1029 = .ok (.iload_n 3, 1) := by decide +kernel
theorem dL_law_1030 : decode cL_law 1030 = .ok (.iconst 4, 1) := by decide +kernel
theorem dL_law_1031 : decode cL_law 1031 = .ok (.iadd, 1) := by decide +kernel
theorem dL_law_1032 : decode cL_law 1032 = .ok (.iaload, 1) := by decide +kernel
theorem dL_law_1033 : decode cL_law 1033 = .ok (.aload_n 0, 1) := by decide +kernel
theorem dL_law_1034 : decode cL_law 1034 = .ok (.iload_n 3, 1) := by decide +kernel
theorem dL_law_1035 : decode cL_law 1035 = .ok (.iconst 5, 1) := by decide +kernel
theorem dL_law_1036 : decode cL_law 1036 = .ok (.iadd, 1) := by decide +kernel
theorem dL_law_1037 : decode cL_law 1037 = .ok (.iaload, 1) := by decide +kernel
theorem dL_law_1038 : decode cL_law 1038 = .ok (.invokevirtual 131, 3) := by decide +kernel
theorem dL_law_1041 : decode cL_law 1041 = .ok (.aload_n 2, 1) := by decide +kernel
theorem dL_law_1042 : decode cL_law 1042 = .ok (.aload_n 0, 1) := by decide +kernel
theorem dL_law_1043 : decode cL_law 1043 = .ok (.iload_n 3, 1) := by decide +kernel
theorem dL_law_1044 : decode cL_law 1044 = .ok (.iconst 1, 1) := by decide +kernel
theorem dL_law_1045 : decode cL_law 1045 = .ok (.iadd, 1) := by decide +kernel
theorem dL_law_1046 : decode cL_law 1046 = .ok (.iaload, 1) := by decide +kernel
theorem dL_law_1047 : decode cL_law 1047 = .ok (.aload_n 0, 1) := by decide +kernel
theorem dL_law_1048 : decode cL_law 1048 = .ok (.iload_n 3, 1) := by decide +kernel
theorem dL_law_1049 : decode cL_law 1049 = .ok (.iconst 2, 1) := by decide +kernel
theorem dL_law_1050 : decode cL_law 1050 = .ok (.iadd, 1) := by decide +kernel
theorem dL_law_1051 : decode cL_law 1051 = .ok (.iaload, 1) := by decide +kernel
theorem dL_law_1052 : decode cL_law 1052 = .ok (.aload_n 0, 1) := by decide +kernel
theorem dL_law_1053 : decode cL_law 1053 = .ok (.iload_n 3, 1) := by decide +kernel
theorem dL_law_1054 : decode cL_law 1054 = .ok (.iconst 3, 1) := by decide +kernel
theorem dL_law_1055 : decode cL_law 1055 = .ok (.iadd, 1) := by decide +kernel
theorem dL_law_1056 : decode cL_law 1056 = .ok (.iaload, 1) := by decide +kernel
theorem dL_law_1057 : decode cL_law 1057 = .ok (.aload_n 0, 1) := by decide +kernel
theorem dL_law_1058 : decode cL_law 1058 = .ok (.iload_n 3, 1) := by decide +kernel
theorem dL_law_1059 : decode cL_law 1059 = .ok (.iconst 4, 1) := by decide +kernel
theorem dL_law_1060 : decode cL_law 1060 = .ok (.iadd, 1) := by decide +kernel
theorem dL_law_1061 : decode cL_law 1061 = .ok (.iaload, 1) := by decide +kernel
theorem dL_law_1062 : decode cL_law 1062 = .ok (.aload_n 0, 1) := by decide +kernel
theorem dL_law_1063 : decode cL_law 1063 = .ok (.iload_n 3, 1) := by decide +kernel
theorem dL_law_1064 : decode cL_law 1064 = .ok (.iconst 5, 1) := by decide +kernel
theorem dL_law_1065 : decode cL_law 1065 = .ok (.iadd, 1) := by decide +kernel
theorem dL_law_1066 : decode cL_law 1066 = .ok (.iaload, 1) := by decide +kernel
theorem dL_law_1067 : decode cL_law 1067 = .ok (.invokevirtual 135, 3) := by decide +kernel
theorem dL_law_1070 : decode cL_law 1070 = .ok (.if_icmp .eq 356, 3) := by decide +kernel
theorem dL_law_1073 : decode cL_law 1073 = .ok (.iconst 0, 1) := by decide +kernel
theorem dL_law_1074 : decode cL_law 1074 = .ok (.ireturn, 1) := by decide +kernel
theorem dL_law_1075 : decode cL_law 1075 = .ok (.aload_n 1, 1) := by decide +kernel
theorem dL_law_1076 : decode cL_law 1076 = .ok (.aload_n 0, 1) := by decide +kernel
theorem dL_law_1077 : decode cL_law 1077 = .ok (.iload_n 3, 1) := by decide +kernel
theorem dL_law_1078 : decode cL_law 1078 = .ok (.iconst 1, 1) := by decide +kernel
theorem dL_law_1079 : decode cL_law 1079 = .ok (.iadd, 1) := by decide +kernel
theorem dL_law_1080 : decode cL_law 1080 = .ok (.iaload, 1) := by decide +kernel
theorem dL_law_1081 : decode cL_law 1081 = .ok (.aload_n 0, 1) := by decide +kernel
theorem dL_law_1082 : decode cL_law 1082 = .ok (.iload_n 3, 1) := by decide +kernel
theorem dL_law_1083 : decode cL_law 1083 = .ok (.iconst 2, 1) := by decide +kernel
theorem dL_law_1084 : decode cL_law 1084 = .ok (.iadd, 1) := by decide +kernel
theorem dL_law_1085 : decode cL_law 1085 = .ok (.iaload, 1) := by decide +kernel
theorem dL_law_1086 : decode cL_law 1086 = .ok (.aload_n 0, 1) := by decide +kernel
theorem dL_law_1087 : decode cL_law 1087 = .ok (.iload_n 3, 1) := by decide +kernel
theorem dL_law_1088 : decode cL_law 1088 = .ok (.iconst 3, 1) := by decide +kernel
theorem dL_law_1089 : decode cL_law 1089 = .ok (.iadd, 1) := by decide +kernel
theorem dL_law_1090 : decode cL_law 1090 = .ok (.iaload, 1) := by decide +kernel
theorem dL_law_1091 : decode cL_law 1091 = .ok (.aload_n 0, 1) := by decide +kernel
theorem dL_law_1092 : decode cL_law 1092 = .ok (.iload_n 3, 1) := by decide +kernel
theorem dL_law_1093 : decode cL_law 1093 = .ok (.iconst 4, 1) := by decide +kernel
theorem dL_law_1094 : decode cL_law 1094 = .ok (.iadd, 1) := by decide +kernel
theorem dL_law_1095 : decode cL_law 1095 = .ok (.iaload, 1) := by decide +kernel
theorem dL_law_1096 : decode cL_law 1096 = .ok (.invokevirtual 136, 3) := by decide +kernel
theorem dL_law_1099 : decode cL_law 1099 = .ok (.aload_n 2, 1) := by decide +kernel
theorem dL_law_1100 : decode cL_law 1100 = .ok (.aload_n 0, 1) := by decide +kernel
theorem dL_law_1101 : decode cL_law 1101 = .ok (.iload_n 3, 1) := by decide +kernel
theorem dL_law_1102 : decode cL_law 1102 = .ok (.iconst 1, 1) := by decide +kernel
theorem dL_law_1103 : decode cL_law 1103 = .ok (.iadd, 1) := by decide +kernel
theorem dL_law_1104 : decode cL_law 1104 = .ok (.iaload, 1) := by decide +kernel
theorem dL_law_1105 : decode cL_law 1105 = .ok (.aload_n 0, 1) := by decide +kernel
theorem dL_law_1106 : decode cL_law 1106 = .ok (.iload_n 3, 1) := by decide +kernel
theorem dL_law_1107 : decode cL_law 1107 = .ok (.iconst 2, 1) := by decide +kernel
theorem dL_law_1108 : decode cL_law 1108 = .ok (.iadd, 1) := by decide +kernel
theorem dL_law_1109 : decode cL_law 1109 = .ok (.iaload, 1) := by decide +kernel
theorem dL_law_1110 : decode cL_law 1110 = .ok (.aload_n 0, 1) := by decide +kernel
theorem dL_law_1111 : decode cL_law 1111 = .ok (.iload_n 3, 1) := by decide +kernel
theorem dL_law_1112 : decode cL_law 1112 = .ok (.iconst 3, 1) := by decide +kernel
theorem dL_law_1113 : decode cL_law 1113 = .ok (.iadd, 1) := by decide +kernel
theorem dL_law_1114 : decode cL_law 1114 = .ok (.iaload, 1) := by decide +kernel
theorem dL_law_1115 : decode cL_law 1115 = .ok (.aload_n 0, 1) := by decide +kernel
theorem dL_law_1116 : decode cL_law 1116 = .ok (.iload_n 3, 1) := by decide +kernel
theorem dL_law_1117 : decode cL_law 1117 = .ok (.iconst 4, 1) := by decide +kernel
theorem dL_law_1118 : decode cL_law 1118 = .ok (.iadd, 1) := by decide +kernel
theorem dL_law_1119 : decode cL_law 1119 = .ok (.iaload, 1) := by decide +kernel
theorem dL_law_1120 : decode cL_law 1120 = .ok (.invokevirtual 139, 3) := by decide +kernel
theorem dL_law_1123 : decode cL_law 1123 = .ok (.if_icmp .eq 303, 3) := by decide +kernel
theorem dL_law_1126 : decode cL_law 1126 = .ok (.iconst 0, 1) := by decide +kernel
theorem dL_law_1127 : decode cL_law 1127 = .ok (.ireturn, 1) := by decide +kernel
theorem dL_law_1128 : decode cL_law 1128 = .ok (.aload_n 1, 1) := by decide +kernel
theorem dL_law_1129 : decode cL_law 1129 = .ok (.aload_n 0, 1) := by decide +kernel
theorem dL_law_1130 : decode cL_law 1130 = .ok (.iload_n 3, 1) := by decide +kernel
theorem dL_law_1131 : decode cL_law 1131 = .ok (.iconst 1, 1) := by decide +kernel
theorem dL_law_1132 : decode cL_law 1132 = .ok (.iadd, 1) := by decide +kernel
theorem dL_law_1133 : decode cL_law 1133 = .ok (.iaload, 1) := by decide +kernel
theorem dL_law_1134 : decode cL_law 1134 = .ok (.aload_n 0, 1) := by decide +kernel
theorem dL_law_1135 : decode cL_law 1135 = .ok (.iload_n 3, 1) := by decide +kernel
theorem dL_law_1136 : decode cL_law 1136 = .ok (.iconst 2, 1) := by decide +kernel
theorem dL_law_1137 : decode cL_law 1137 = .ok (.iadd, 1) := by decide +kernel
theorem dL_law_1138 : decode cL_law 1138 = .ok (.iaload, 1) := by decide +kernel
theorem dL_law_1139 : decode cL_law 1139 = .ok (.aload_n 0, 1) := by decide +kernel
theorem dL_law_1140 : decode cL_law 1140 = .ok (.iload_n 3, 1) := by decide +kernel
theorem dL_law_1141 : decode cL_law 1141 = .ok (.iconst 3, 1) := by decide +kernel
theorem dL_law_1142 : decode cL_law 1142 = .ok (.iadd, 1) := by decide +kernel
theorem dL_law_1143 : decode cL_law 1143 = .ok (.iaload, 1) := by decide +kernel
theorem dL_law_1144 : decode cL_law 1144 = .ok (.invokevirtual 140, 3) := by decide +kernel
theorem dL_law_1147 : decode cL_law 1147 = .ok (.aload_n 2, 1) := by decide +kernel
theorem dL_law_1148 : decode cL_law 1148 = .ok (.aload_n 0, 1) := by decide +kernel
theorem dL_law_1149 : decode cL_law 1149 = .ok (.iload_n 3, 1) := by decide +kernel
theorem dL_law_1150 : decode cL_law 1150 = .ok (.iconst 1, 1) := by decide +kernel
theorem dL_law_1151 : decode cL_law 1151 = .ok (.iadd, 1) := by decide +kernel
theorem dL_law_1152 : decode cL_law 1152 = .ok (.iaload, 1) := by decide +kernel
theorem dL_law_1153 : decode cL_law 1153 = .ok (.aload_n 0, 1) := by decide +kernel
theorem dL_law_1154 : decode cL_law 1154 = .ok (.iload_n 3, 1) := by decide +kernel
theorem dL_law_1155 : decode cL_law 1155 = .ok (.iconst 2, 1) := by decide +kernel
theorem dL_law_1156 : decode cL_law 1156 = .ok (.iadd, 1) := by decide +kernel
theorem dL_law_1157 : decode cL_law 1157 = .ok (.iaload, 1) := by decide +kernel
theorem dL_law_1158 : decode cL_law 1158 = .ok (.aload_n 0, 1) := by decide +kernel
theorem dL_law_1159 : decode cL_law 1159 = .ok (.iload_n 3, 1) := by decide +kernel
theorem dL_law_1160 : decode cL_law 1160 = .ok (.iconst 3, 1) := by decide +kernel
theorem dL_law_1161 : decode cL_law 1161 = .ok (.iadd, 1) := by decide +kernel
theorem dL_law_1162 : decode cL_law 1162 = .ok (.iaload, 1) := by decide +kernel
theorem dL_law_1163 : decode cL_law 1163 = .ok (.invokevirtual 143, 3) := by decide +kernel
theorem dL_law_1166 : decode cL_law 1166 = .ok (.if_icmp .eq 260, 3) := by decide +kernel
theorem dL_law_1169 : decode cL_law 1169 = .ok (.iconst 0, 1) := by decide +kernel
theorem dL_law_1170 : decode cL_law 1170 = .ok (.ireturn, 1) := by decide +kernel
theorem dL_law_1171 : decode cL_law 1171 = .ok (.aload_n 1, 1) := by decide +kernel
theorem dL_law_1172 : decode cL_law 1172 = .ok (.aload_n 0, 1) := by decide +kernel
theorem dL_law_1173 : decode cL_law 1173 = .ok (.iload_n 3, 1) := by decide +kernel
theorem dL_law_1174 : decode cL_law 1174 = .ok (.iconst 1, 1) := by decide +kernel
theorem dL_law_1175 : decode cL_law 1175 = .ok (.iadd, 1) := by decide +kernel
theorem dL_law_1176 : decode cL_law 1176 = .ok (.iaload, 1) := by decide +kernel
theorem dL_law_1177 : decode cL_law 1177 = .ok (.aload_n 0, 1) := by decide +kernel
theorem dL_law_1178 : decode cL_law 1178 = .ok (.iload_n 3, 1) := by decide +kernel
theorem dL_law_1179 : decode cL_law 1179 = .ok (.iconst 2, 1) := by decide +kernel
theorem dL_law_1180 : decode cL_law 1180 = .ok (.iadd, 1) := by decide +kernel
theorem dL_law_1181 : decode cL_law 1181 = .ok (.iaload, 1) := by decide +kernel
theorem dL_law_1182 : decode cL_law 1182 = .ok (.aload_n 0, 1) := by decide +kernel
theorem dL_law_1183 : decode cL_law 1183 = .ok (.iload_n 3, 1) := by decide +kernel
theorem dL_law_1184 : decode cL_law 1184 = .ok (.iconst 3, 1) := by decide +kernel
theorem dL_law_1185 : decode cL_law 1185 = .ok (.iadd, 1) := by decide +kernel
theorem dL_law_1186 : decode cL_law 1186 = .ok (.iaload, 1) := by decide +kernel
theorem dL_law_1187 : decode cL_law 1187 = .ok (.invokevirtual 144, 3) := by decide +kernel
theorem dL_law_1190 : decode cL_law 1190 = .ok (.aload_n 2, 1) := by decide +kernel
theorem dL_law_1191 : decode cL_law 1191 = .ok (.aload_n 0, 1) := by decide +kernel
theorem dL_law_1192 : decode cL_law 1192 = .ok (.iload_n 3, 1) := by decide +kernel
theorem dL_law_1193 : decode cL_law 1193 = .ok (.iconst 1, 1) := by decide +kernel
theorem dL_law_1194 : decode cL_law 1194 = .ok (.iadd, 1) := by decide +kernel
theorem dL_law_1195 : decode cL_law 1195 = .ok (.iaload, 1) := by decide +kernel
theorem dL_law_1196 : decode cL_law 1196 = .ok (.aload_n 0, 1) := by decide +kernel
theorem dL_law_1197 : decode cL_law 1197 = .ok (.iload_n 3, 1) := by decide +kernel
theorem dL_law_1198 : decode cL_law 1198 = .ok (.iconst 2, 1) := by decide +kernel
theorem dL_law_1199 : decode cL_law 1199 = .ok (.iadd, 1) := by decide +kernel
theorem dL_law_1200 : decode cL_law 1200 = .ok (.iaload, 1) := by decide +kernel
theorem dL_law_1201 : decode cL_law 1201 = .ok (.aload_n 0, 1) := by decide +kernel
theorem dL_law_1202 : decode cL_law 1202 = .ok (.iload_n 3, 1) := by decide +kernel
theorem dL_law_1203 : decode cL_law 1203 = .ok (.iconst 3, 1) := by decide +kernel
theorem dL_law_1204 : decode cL_law 1204 = .ok (.iadd, 1) := by decide +kernel
theorem dL_law_1205 : decode cL_law 1205 = .ok (.iaload, 1) := by decide +kernel
theorem dL_law_1206 : decode cL_law 1206 = .ok (.invokevirtual 147, 3) := by decide +kernel
theorem dL_law_1209 : decode cL_law 1209 = .ok (.if_icmp .eq 217, 3) := by decide +kernel
theorem dL_law_1212 : decode cL_law 1212 = .ok (.iconst 0, 1) := by decide +kernel
theorem dL_law_1213 : decode cL_law 1213 = .ok (.ireturn, 1) := by decide +kernel
theorem dL_law_1214 : decode cL_law 1214 = .ok (.aload_n 1, 1) := by decide +kernel
theorem dL_law_1215 : decode cL_law 1215 = .ok (.aload_n 0, 1) := by decide +kernel
theorem dL_law_1216 : decode cL_law 1216 = .ok (.iload_n 3, 1) := by decide +kernel
theorem dL_law_1217 : decode cL_law 1217 = .ok (.iconst 1, 1) := by decide +kernel
theorem dL_law_1218 : decode cL_law 1218 = .ok (.iadd, 1) := by decide +kernel
theorem dL_law_1219 : decode cL_law 1219 = .ok (.iaload, 1) := by decide +kernel
theorem dL_law_1220 : decode cL_law 1220 = .ok (.aload_n 0, 1) := by decide +kernel
theorem dL_law_1221 : decode cL_law 1221 = .ok (.iload_n 3, 1) := by decide +kernel
theorem dL_law_1222 : decode cL_law 1222 = .ok (.iconst 2, 1) := by decide +kernel
theorem dL_law_1223 : decode cL_law 1223 = .ok (.iadd, 1) := by decide +kernel
theorem dL_law_1224 : decode cL_law 1224 = .ok (.iaload, 1) := by decide +kernel
theorem dL_law_1225 : decode cL_law 1225 = .ok (.aload_n 0, 1) := by decide +kernel
theorem dL_law_1226 : decode cL_law 1226 = .ok (.iload_n 3, 1) := by decide +kernel
theorem dL_law_1227 : decode cL_law 1227 = .ok (.iconst 3, 1) := by decide +kernel
theorem dL_law_1228 : decode cL_law 1228 = .ok (.iadd, 1) := by decide +kernel
theorem dL_law_1229 : decode cL_law 1229 = .ok (.iaload, 1) := by decide +kernel
theorem dL_law_1230 : decode cL_law 1230 = .ok (.invokevirtual 148, 3) := by decide +kernel
theorem dL_law_1233 : decode cL_law 1233 = .ok (.aload_n 2, 1) := by decide +kernel
theorem dL_law_1234 : decode cL_law 1234 = .ok (.aload_n 0, 1) := by decide +kernel
theorem dL_law_1235 : decode cL_law 1235 = .ok (.iload_n 3, 1) := by decide +kernel
theorem dL_law_1236 : decode cL_law 1236 = .ok (.iconst 1, 1) := by decide +kernel
theorem dL_law_1237 : decode cL_law 1237 = .ok (.iadd, 1) := by decide +kernel
theorem dL_law_1238 : decode cL_law 1238 = .ok (.iaload, 1) := by decide +kernel
theorem dL_law_1239 : decode cL_law 1239 = .ok (.aload_n 0, 1) := by decide +kernel
theorem dL_law_1240 : decode cL_law 1240 = .ok (.iload_n 3, 1) := by decide +kernel
theorem dL_law_1241 : decode cL_law 1241 = .ok (.iconst 2, 1) := by decide +kernel
theorem dL_law_1242 : decode cL_law 1242 = .ok (.iadd, 1) := by decide +kernel
theorem dL_law_1243 : decode cL_law 1243 = .ok (.iaload, 1) := by decide +kernel
theorem dL_law_1244 : decode cL_law 1244 = .ok (.aload_n 0, 1) := by decide +kernel
theorem dL_law_1245 : decode cL_law 1245 = .ok (.iload_n 3, 1) := by decide +kernel
theorem dL_law_1246 : decode cL_law 1246 = .ok (.iconst 3, 1) := by decide +kernel
theorem dL_law_1247 : decode cL_law 1247 = .ok (.iadd, 1) := by decide +kernel
theorem dL_law_1248 : decode cL_law 1248 = .ok (.iaload, 1) := by decide +kernel
theorem dL_law_1249 : decode cL_law 1249 = .ok (.invokevirtual 151, 3) := by decide +kernel
theorem dL_law_1252 : decode cL_law 1252 = .ok (.if_icmp .eq 174, 3) := by decide +kernel
theorem dL_law_1255 : decode cL_law 1255 = .ok (.iconst 0, 1) := by decide +kernel
theorem dL_law_1256 : decode cL_law 1256 = .ok (.ireturn, 1) := by decide +kernel
theorem dL_law_1257 : decode cL_law 1257 = .ok (.aload_n 1, 1) := by decide +kernel
theorem dL_law_1258 : decode cL_law 1258 = .ok (.aload_n 0, 1) := by decide +kernel
theorem dL_law_1259 : decode cL_law 1259 = .ok (.iload_n 3, 1) := by decide +kernel
theorem dL_law_1260 : decode cL_law 1260 = .ok (.iconst 1, 1) := by decide +kernel
theorem dL_law_1261 : decode cL_law 1261 = .ok (.iadd, 1) := by decide +kernel
theorem dL_law_1262 : decode cL_law 1262 = .ok (.iaload, 1) := by decide +kernel
theorem dL_law_1263 : decode cL_law 1263 = .ok (.invokevirtual 152, 3) := by decide +kernel
theorem dL_law_1266 : decode cL_law 1266 = .ok (.aload_n 2, 1) := by decide +kernel
theorem dL_law_1267 : decode cL_law 1267 = .ok (.aload_n 0, 1) := by decide +kernel
theorem dL_law_1268 : decode cL_law 1268 = .ok (.iload_n 3, 1) := by decide +kernel
theorem dL_law_1269 : decode cL_law 1269 = .ok (.iconst 1, 1) := by decide +kernel
theorem dL_law_1270 : decode cL_law 1270 = .ok (.iadd, 1) := by decide +kernel
theorem dL_law_1271 : decode cL_law 1271 = .ok (.iaload, 1) := by decide +kernel
theorem dL_law_1272 : decode cL_law 1272 = .ok (.invokevirtual 155, 3) := by decide +kernel
theorem dL_law_1275 : decode cL_law 1275 = .ok (.if_icmp .eq 151, 3) := by decide +kernel
theorem dL_law_1278 : decode cL_law 1278 = .ok (.iconst 0, 1) := by decide +kernel
theorem dL_law_1279 : decode cL_law 1279 = .ok (.ireturn, 1) := by decide +kernel
theorem dL_law_1280 : decode cL_law 1280 = .ok (.aload_n 1, 1) := by decide +kernel
theorem dL_law_1281 : decode cL_law 1281 = .ok (.aload_n 0, 1) := by decide +kernel
theorem dL_law_1282 : decode cL_law 1282 = .ok (.iload_n 3, 1) := by decide +kernel
theorem dL_law_1283 : decode cL_law 1283 = .ok (.iconst 1, 1) := by decide +kernel
theorem dL_law_1284 : decode cL_law 1284 = .ok (.iadd, 1) := by decide +kernel
theorem dL_law_1285 : decode cL_law 1285 = .ok (.iaload, 1) := by decide +kernel
theorem dL_law_1286 : decode cL_law 1286 = .ok (.aload_n 0, 1) := by decide +kernel
theorem dL_law_1287 : decode cL_law 1287 = .ok (.iload_n 3, 1) := by decide +kernel
theorem dL_law_1288 : decode cL_law 1288 = .ok (.iconst 2, 1) := by decide +kernel
theorem dL_law_1289 : decode cL_law 1289 = .ok (.iadd, 1) := by decide +kernel
theorem dL_law_1290 : decode cL_law 1290 = .ok (.iaload, 1) := by decide +kernel
theorem dL_law_1291 : decode cL_law 1291 = .ok (.aload_n 0, 1) := by decide +kernel
theorem dL_law_1292 : decode cL_law 1292 = .ok (.iload_n 3, 1) := by decide +kernel
theorem dL_law_1293 : decode cL_law 1293 = .ok (.iconst 3, 1) := by decide +kernel
theorem dL_law_1294 : decode cL_law 1294 = .ok (.iadd, 1) := by decide +kernel
theorem dL_law_1295 : decode cL_law 1295 = .ok (.iaload, 1) := by decide +kernel
theorem dL_law_1296 : decode cL_law 1296 = .ok (.aload_n 0, 1) := by decide +kernel
theorem dL_law_1297 : decode cL_law 1297 = .ok (.iload_n 3, 1) := by decide +kernel
theorem dL_law_1298 : decode cL_law 1298 = .ok (.iconst 4, 1) := by decide +kernel
theorem dL_law_1299 : decode cL_law 1299 = .ok (.iadd, 1) := by decide +kernel
theorem dL_law_1300 : decode cL_law 1300 = .ok (.iaload, 1) := by decide +kernel
theorem dL_law_1301 : decode cL_law 1301 = .ok (.i2l, 1) := by decide +kernel
theorem dL_law_1302 : decode cL_law 1302 = .ok (.bipush 32, 2) := by decide +kernel
theorem dL_law_1304 : decode cL_law 1304 = .ok (.lshl, 1) := by decide +kernel
theorem dL_law_1305 : decode cL_law 1305 = .ok (.aload_n 0, 1) := by decide +kernel
theorem dL_law_1306 : decode cL_law 1306 = .ok (.iload_n 3, 1) := by decide +kernel
theorem dL_law_1307 : decode cL_law 1307 = .ok (.iconst 5, 1) := by decide +kernel
theorem dL_law_1308 : decode cL_law 1308 = .ok (.iadd, 1) := by decide +kernel
theorem dL_law_1309 : decode cL_law 1309 = .ok (.iaload, 1) := by decide +kernel
theorem dL_law_1310 : decode cL_law 1310 = .ok (.i2l, 1) := by decide +kernel
theorem dL_law_1311 : decode cL_law 1311 = .ok (.ldc2_w 156, 3) := by decide +kernel
theorem dL_law_1314 : decode cL_law 1314 = .ok (.land, 1) := by decide +kernel
theorem dL_law_1315 : decode cL_law 1315 = .ok (.lor, 1) := by decide +kernel
theorem dL_law_1316 : decode cL_law 1316 = .ok (.invokevirtual 158, 3) := by decide +kernel
theorem dL_law_1319 : decode cL_law 1319 = .ok (.aload_n 2, 1) := by decide +kernel
theorem dL_law_1320 : decode cL_law 1320 = .ok (.aload_n 0, 1) := by decide +kernel
theorem dL_law_1321 : decode cL_law 1321 = .ok (.iload_n 3, 1) := by decide +kernel
theorem dL_law_1322 : decode cL_law 1322 = .ok (.iconst 1, 1) := by decide +kernel
theorem dL_law_1323 : decode cL_law 1323 = .ok (.iadd, 1) := by decide +kernel
theorem dL_law_1324 : decode cL_law 1324 = .ok (.iaload, 1) := by decide +kernel
theorem dL_law_1325 : decode cL_law 1325 = .ok (.aload_n 0, 1) := by decide +kernel
theorem dL_law_1326 : decode cL_law 1326 = .ok (.iload_n 3, 1) := by decide +kernel
theorem dL_law_1327 : decode cL_law 1327 = .ok (.iconst 2, 1) := by decide +kernel
theorem dL_law_1328 : decode cL_law 1328 = .ok (.iadd, 1) := by decide +kernel
theorem dL_law_1329 : decode cL_law 1329 = .ok (.iaload, 1) := by decide +kernel
theorem dL_law_1330 : decode cL_law 1330 = .ok (.aload_n 0, 1) := by decide +kernel
theorem dL_law_1331 : decode cL_law 1331 = .ok (.iload_n 3, 1) := by decide +kernel
theorem dL_law_1332 : decode cL_law 1332 = .ok (.iconst 3, 1) := by decide +kernel
theorem dL_law_1333 : decode cL_law 1333 = .ok (.iadd, 1) := by decide +kernel
theorem dL_law_1334 : decode cL_law 1334 = .ok (.iaload, 1) := by decide +kernel
theorem dL_law_1335 : decode cL_law 1335 = .ok (.aload_n 0, 1) := by decide +kernel
theorem dL_law_1336 : decode cL_law 1336 = .ok (.iload_n 3, 1) := by decide +kernel
theorem dL_law_1337 : decode cL_law 1337 = .ok (.iconst 4, 1) := by decide +kernel
theorem dL_law_1338 : decode cL_law 1338 = .ok (.iadd, 1) := by decide +kernel
theorem dL_law_1339 : decode cL_law 1339 = .ok (.iaload, 1) := by decide +kernel
theorem dL_law_1340 : decode cL_law 1340 = .ok (.i2l, 1) := by decide +kernel
theorem dL_law_1341 : decode cL_law 1341 = .ok (.bipush 32, 2) := by decide +kernel
theorem dL_law_1343 : decode cL_law 1343 = .ok (.lshl, 1) := by decide +kernel
theorem dL_law_1344 : decode cL_law 1344 = .ok (.aload_n 0, 1) := by decide +kernel
theorem dL_law_1345 : decode cL_law 1345 = .ok (.iload_n 3, 1) := by decide +kernel
theorem dL_law_1346 : decode cL_law 1346 = .ok (.iconst 5, 1) := by decide +kernel
theorem dL_law_1347 : decode cL_law 1347 = .ok (.iadd, 1) := by decide +kernel
theorem dL_law_1348 : decode cL_law 1348 = .ok (.iaload, 1) := by decide +kernel
theorem dL_law_1349 : decode cL_law 1349 = .ok (.i2l, 1) := by decide +kernel
theorem dL_law_1350 : decode cL_law 1350 = .ok (.ldc2_w 156, 3) := by decide +kernel
theorem dL_law_1353 : decode cL_law 1353 = .ok (.land, 1) := by decide +kernel
theorem dL_law_1354 : decode cL_law 1354 = .ok (.lor, 1) := by decide +kernel
theorem dL_law_1355 : decode cL_law 1355 = .ok (.invokevirtual 162, 3) := by decide +kernel
theorem dL_law_1358 : decode cL_law 1358 = .ok (.if_icmp .eq 68, 3) := by decide +kernel
theorem dL_law_1361 : decode cL_law 1361 = .ok (.iconst 0, 1) := by decide +kernel
theorem dL_law_1362 : decode cL_law 1362 = .ok (.ireturn, 1) := by decide +kernel
theorem dL_law_1363 : decode cL_law 1363 = .ok (.aload_n 1, 1) := by decide +kernel
theorem dL_law_1364 : decode cL_law 1364 = .ok (.aload_n 0, 1) := by decide +kernel
theorem dL_law_1365 : decode cL_law 1365 = .ok (.iload_n 3, 1) := by decide +kernel
theorem dL_law_1366 : decode cL_law 1366 = .ok (.iconst 1, 1) := by decide +kernel
theorem dL_law_1367 : decode cL_law 1367 = .ok (.iadd, 1) := by decide +kernel
theorem dL_law_1368 : decode cL_law 1368 = .ok (.iaload, 1) := by decide +kernel
theorem dL_law_1369 : decode cL_law 1369 = .ok (.aload_n 0, 1) := by decide +kernel
theorem dL_law_1370 : decode cL_law 1370 = .ok (.iload_n 3, 1) := by decide +kernel
theorem dL_law_1371 : decode cL_law 1371 = .ok (.iconst 2, 1) := by decide +kernel
theorem dL_law_1372 : decode cL_law 1372 = .ok (.iadd, 1) := by decide +kernel
theorem dL_law_1373 : decode cL_law 1373 = .ok (.iaload, 1) := by decide +kernel
theorem dL_law_1374 : decode cL_law 1374 = .ok (.aload_n 0, 1) := by decide +kernel
theorem dL_law_1375 : decode cL_law 1375 = .ok (.iload_n 3, 1) := by decide +kernel
theorem dL_law_1376 : decode cL_law 1376 = .ok (.iconst 3, 1) := by decide +kernel
theorem dL_law_1377 : decode cL_law 1377 = .ok (.iadd, 1) := by decide +kernel
theorem dL_law_1378 : decode cL_law 1378 = .ok (.iaload, 1) := by decide +kernel
theorem dL_law_1379 : decode cL_law 1379 = .ok (.aload_n 0, 1) := by decide +kernel
theorem dL_law_1380 : decode cL_law 1380 = .ok (.iload_n 3, 1) := by decide +kernel
theorem dL_law_1381 : decode cL_law 1381 = .ok (.iconst 4, 1) := by decide +kernel
theorem dL_law_1382 : decode cL_law 1382 = .ok (.iadd, 1) := by decide +kernel
theorem dL_law_1383 : decode cL_law 1383 = .ok (.iaload, 1) := by decide +kernel
theorem dL_law_1384 : decode cL_law 1384 = .ok (.aload_n 0, 1) := by decide +kernel
theorem dL_law_1385 : decode cL_law 1385 = .ok (.iload_n 3, 1) := by decide +kernel
theorem dL_law_1386 : decode cL_law 1386 = .ok (.iconst 5, 1) := by decide +kernel
theorem dL_law_1387 : decode cL_law 1387 = .ok (.iadd, 1) := by decide +kernel
theorem dL_law_1388 : decode cL_law 1388 = .ok (.iaload, 1) := by decide +kernel
theorem dL_law_1389 : decode cL_law 1389 = .ok (.invokevirtual 163, 3) := by decide +kernel
theorem dL_law_1392 : decode cL_law 1392 = .ok (.aload_n 2, 1) := by decide +kernel
theorem dL_law_1393 : decode cL_law 1393 = .ok (.aload_n 0, 1) := by decide +kernel
theorem dL_law_1394 : decode cL_law 1394 = .ok (.iload_n 3, 1) := by decide +kernel
theorem dL_law_1395 : decode cL_law 1395 = .ok (.iconst 1, 1) := by decide +kernel
theorem dL_law_1396 : decode cL_law 1396 = .ok (.iadd, 1) := by decide +kernel
theorem dL_law_1397 : decode cL_law 1397 = .ok (.iaload, 1) := by decide +kernel
theorem dL_law_1398 : decode cL_law 1398 = .ok (.aload_n 0, 1) := by decide +kernel
theorem dL_law_1399 : decode cL_law 1399 = .ok (.iload_n 3, 1) := by decide +kernel
theorem dL_law_1400 : decode cL_law 1400 = .ok (.iconst 2, 1) := by decide +kernel
theorem dL_law_1401 : decode cL_law 1401 = .ok (.iadd, 1) := by decide +kernel
theorem dL_law_1402 : decode cL_law 1402 = .ok (.iaload, 1) := by decide +kernel
theorem dL_law_1403 : decode cL_law 1403 = .ok (.aload_n 0, 1) := by decide +kernel
theorem dL_law_1404 : decode cL_law 1404 = .ok (.iload_n 3, 1) := by decide +kernel
theorem dL_law_1405 : decode cL_law 1405 = .ok (.iconst 3, 1) := by decide +kernel
theorem dL_law_1406 : decode cL_law 1406 = .ok (.iadd, 1) := by decide +kernel
theorem dL_law_1407 : decode cL_law 1407 = .ok (.iaload, 1) := by decide +kernel
theorem dL_law_1408 : decode cL_law 1408 = .ok (.aload_n 0, 1) := by decide +kernel
theorem dL_law_1409 : decode cL_law 1409 = .ok (.iload_n 3, 1) := by decide +kernel
theorem dL_law_1410 : decode cL_law 1410 = .ok (.iconst 4, 1) := by decide +kernel
theorem dL_law_1411 : decode cL_law 1411 = .ok (.iadd, 1) := by decide +kernel
theorem dL_law_1412 : decode cL_law 1412 = .ok (.iaload, 1) := by decide +kernel
theorem dL_law_1413 : decode cL_law 1413 = .ok (.aload_n 0, 1) := by decide +kernel
theorem dL_law_1414 : decode cL_law 1414 = .ok (.iload_n 3, 1) := by decide +kernel
theorem dL_law_1415 : decode cL_law 1415 = .ok (.iconst 5, 1) := by decide +kernel
theorem dL_law_1416 : decode cL_law 1416 = .ok (.iadd, 1) := by decide +kernel
theorem dL_law_1417 : decode cL_law 1417 = .ok (.iaload, 1) := by decide +kernel
theorem dL_law_1418 : decode cL_law 1418 = .ok (.invokevirtual 166, 3) := by decide +kernel
theorem dL_law_1421 : decode cL_law 1421 = .ok (.if_icmp .eq 5, 3) := by decide +kernel
theorem dL_law_1424 : decode cL_law 1424 = .ok (.iconst 0, 1) := by decide +kernel
theorem dL_law_1425 : decode cL_law 1425 = .ok (.ireturn, 1) := by decide +kernel
theorem dL_law_1426 : decode cL_law 1426 = .ok (.iinc 3 6, 3) := by decide +kernel
theorem dL_law_1429 : decode cL_law 1429 = .ok (.goto (-1411), 3) := by decide +kernel
theorem dL_law_1432 : decode cL_law 1432 = .ok (.iconst 1, 1) := by decide +kernel
theorem dL_law_1433 : decode cL_law 1433 = .ok (.ireturn, 1) := by decide +kernel
end
section
/-! ===== the typed store, its worlds, and what a walk over it says ===== -/
/-- the words that every method carries: those of the tables that outlast a call -/
def eb_tbl : List Cond := lw_tbl.filter goodWord
theorem eb_tbl_good : GoodIn eb_tbl eb_tbl := fun w h => ⟨h, good_of_word (List.mem_filter.mp h).2⟩
theorem eb_tbl_in {w : Cond} (h : w ∈ lw_tbl) (hg : goodWord w = true) : w ∈ eb_tbl := List.mem_filter.mpr ⟨h, hg⟩
/-- ints, longs, references (0: none), kinds, lengths, how many cells -/
abbrev eb_S : Type := (Nat → Nat → Int32) × (Nat → Nat → Int64) × (Nat → Nat → Nat) × (Nat → Nat) × (Nat → Nat) × Nat
def eb_I (σ : eb_S) : Nat → Nat → Int32 := σ.1
def eb_J (σ : eb_S) : Nat → Nat → Int64 := σ.2.1
def eb_R (σ : eb_S) : Nat → Nat → Nat := σ.2.2.1
def eb_T (σ : eb_S) : Nat → Nat := σ.2.2.2.1
def eb_L (σ : eb_S) : Nat → Nat := σ.2.2.2.2.1
def eb_N (σ : eb_S) : Nat := σ.2.2.2.2.2
/-- a row of rows with one row changed -/
def eb_up {α : Type} (f : Nat → α) (k : Nat) (x : α) : Nat → α := fun j => if j = k then x else f j
def eb_sI (σ : eb_S) (k j : Nat) (x : Int32) : eb_S := (eb_up (eb_I σ) k (upd (eb_I σ k) j x), eb_J σ, eb_R σ, eb_T σ, eb_L σ, eb_N σ)
def eb_sJ (σ : eb_S) (k j : Nat) (x : Int64) : eb_S := (eb_I σ, eb_up (eb_J σ) k (vp_updL (eb_J σ k) j x), eb_R σ, eb_T σ, eb_L σ, eb_N σ)
def eb_sR (σ : eb_S) (k j : Nat) (r : Nat) : eb_S := (eb_I σ, eb_J σ, eb_up (eb_R σ) k (eb_up (eb_R σ k) j r), eb_T σ, eb_L σ, eb_N σ)
def eb_rI (σ : eb_S) (k : Nat) (f : Nat → Int32) : eb_S := (eb_up (eb_I σ) k f, eb_J σ, eb_R σ, eb_T σ, eb_L σ, eb_N σ)
def eb_rJ (σ : eb_S) (k : Nat) (f : Nat → Int64) : eb_S := (eb_I σ, eb_up (eb_J σ) k f, eb_R σ, eb_T σ, eb_L σ, eb_N σ)
/-- a new cell: its number is eb_N σ + 8 -/
def eb_new (σ : eb_S) (t n : Nat) : eb_S := (eb_up (eb_I σ) (eb_N σ + 8) (fun _ => 0), eb_up (eb_J σ) (eb_N σ + 8) (fun _ => 0), eb_up (eb_R σ) (eb_N σ + 8) (fun _ => 0), eb_up (eb_T σ) (eb_N σ + 8) t, eb_up (eb_L σ) (eb_N σ + 8) n, eb_N σ + 1)
/-- launch, the numbers of the classes, array classes by kind, where new cells begin, the fixed cells 1 .. 7: addresses, lengths, contents -/
abbrev eb_G : Type := Launch × va_G × (Nat → ClassId) × Nat × (Nat → Nat) × (Nat → Nat) × (Nat → Nat → Int32)
def eb_gl (G : eb_G) : Launch := G.1
def eb_gD (G : eb_G) : va_G := G.2.1
def eb_gc (G : eb_G) : Nat → ClassId := G.2.2.1
def eb_gz (G : eb_G) : Nat := G.2.2.2.1
def eb_ga (G : eb_G) : Nat → Nat := G.2.2.2.2.1
def eb_gn (G : eb_G) : Nat → Nat := G.2.2.2.2.2.1
def eb_gx (G : eb_G) : Nat → Nat → Int32 := G.2.2.2.2.2.2
def eb_A (G : eb_G) : Nat → Prop := fun q => eb_gz G ≤ q
def eb_ty (G : eb_G) : List (ClassId × FieldType) := [(eb_gc G 10, .char), (eb_gc G 11, .int), (eb_gc G 12, .long), (eb_gc G 13, .object RX7)]
/-- the address of a cell by its number -/
def eb_a (G : eb_G) (as : List Nat) (r : Nat) : Option Nat := if r = 0 then none else if r < 8 then some (eb_ga G r) else as[r - 8]?
def eb_v (G : eb_G) (as : List Nat) (v w : Value) : Prop := match v with
  | .ref r => ∃ a, eb_a G as r = some a ∧ w = .ref a
  | .int x => w = .int x
  | .long x => w = .long x
  | _ => False
def eb_st (G : eb_G) (as : List Nat) : List Value → List Value → Prop
  | [], [] => True
  | v :: vs, w :: ws => eb_v G as v w ∧ eb_st G as vs ws
  | _, _ => False
/-- the field k of a class is a reference -/
def eb_isR (ci j : Nat) : Bool := match vwCl[ci]? with
  | none => false
  | some q => match parseFieldDescriptor (q.2.1 j).2.2.1 with
    | some (.object _) => true
    | some (.array _) => true
    | _ => false
def eb_rv (G : eb_G) (as : List Nat) (r : Nat) (w : Value) : Prop := (r = 0 ∧ w = .null) ∨ ∃ a, eb_a G as r = some a ∧ w = .ref a
def eb_fv (G : eb_G) (as : List Nat) (σ : eb_S) (ci k j : Nat) (w : Value) : Prop := if eb_isR ci j = true then eb_rv G as (eb_R σ k j) w else w = .int (eb_I σ k j)
/-- what the cell k is -/
def eb_C (G : eb_G) (as : List Nat) (σ : eb_S) (k : Nat) (e : va_E) : Prop :=
  if eb_T σ k < 10 then ∃ (q : vw_C) (fs : List Value), vwCl[eb_T σ k]? = some q ∧ e = .inr (eb_T σ k, fs) ∧ fs.length = q.2.2 ∧ ∀ j, j < q.2.2 → ∃ w, fs[j]? = some w ∧ eb_fv G as σ (eb_T σ k) k j w
  else if eb_T σ k < 12 then e = .inl (eb_gc G (eb_T σ k), eb_L σ k, .inl (eb_I σ k))
  else if eb_T σ k = 12 then e = .inl (eb_gc G 12, eb_L σ k, .inr (.inl (eb_J σ k)))
  else ∃ f : Nat → Option Nat, e = .inl (eb_gc G 13, eb_L σ k, .inr (.inr (.inr (.inr f)))) ∧ ∀ j, j < eb_L σ k → eb_rv G as (eb_R σ k j) (va_rf (f j))
def eb_W (G : eb_G) (as : List Nat) (σ : eb_S) (H : Heap) : Prop :=
  ∃ ws : va_W, va_P (eb_gD G) vwCl ws H ∧ va_D (eb_A G) ws ∧ as.length = eb_N σ ∧ ws.length = eb_N σ ∧ ∀ k, eb_T σ k < 14 → 8 ≤ k ∧ ∃ a e, as[k - 8]? = some a ∧ ws[k - 8]? = some (a, e) ∧ eb_C G as σ k e
/-- the statics that hold fixed rows -/
def eb_stats : List (String × String × Nat) := [(RX3, "MELTS", 1), (RX2, "X", 2), (RX2, "Y", 3)]
def eb_St (G : eb_G) (U : State) (H : Heap) : Prop :=
  (∀ r, 0 < r → r < 5 → ∃ cell : Cell, H[eb_ga G r]? = some cell ∧ U.isArrayOf cell .int ∧ cell.vm ≠ .unknown ∧ cell.slots.size = eb_gn G r ∧ (∀ j, j < eb_gn G r → cell.slots[j]? = some (.int (eb_gx G r j))) ∧ eb_ga G r < eb_gz G) ∧
  (∀ q ∈ eb_stats, va_Z q.1 q.2.1 "[I" (.ref (eb_ga G q.2.2)) (eb_A G) U H)
/-- what holds at the entry of a method, apart from the world -/
def eb_E (G : eb_G) (U : State) : Prop := va_K (eb_gD G) vwCl (eb_ty G) U ∧ eb_gz G ≤ U.heap.size ∧ eb_St G U U.heap
def eb_X (G : eb_G) (y : MethodName) (cc : ByteArray) (nL : Nat) (rt : Option FieldType) (p : Program) (s : State) (m : MethodId) (args : Array Value) (meth : Method) (c : Code) : Prop :=
  p.tables.exec = Jvm.exec ∧ c.code = cc ∧ meth.sig.returnType = rt ∧ meth.locks = false ∧ c.maxLocals = nL ∧ s.vm.findClass y.cls = some m.cls ∧ meth.name = y.name ∧ (∀ w ∈ eb_tbl, w.before args s = true) ∧ eb_E G s
def eb_lo (G : eb_G) (as : List Nat) (L : List (Nat × Value)) (ls : Array Slot) (nL : Nat) : Prop := ls.size = nL ∧ lv_wf ls ∧ ∀ q ∈ L, ∃ w, eb_v G as q.2 w ∧ ls[q.1]? = some (.val w)
/-- the machine at pc, with these locals, stack and store, comes to a return with 'o', if that is an answer -/
def eb_go {ρ : Type} (G : eb_G) (y : MethodName) (cc : ByteArray) (nL : Nat) (rt : Option FieldType) (fr mc ms : Nat) (ri : Instr) (enc : ρ → List Value) (pc : Nat) (L : List (Nat × Value)) (st : List Value) (σ : eb_S) (cn sn : Nat) (o : Option (ρ × eb_S)) : Prop :=
  ∀ out, o = some out → ∀ (p : Program) (e : Env) (s : State) (m : MethodId) (args : Array Value) (below : List Frame) (meth : Method) (c : Code) (Q : State → Prop) (R : Room),
    fr ≤ R.frames ∧ 40 * fr ≤ R.locals ∧ mc ≤ R.cells ∧ ms ≤ R.slots → eb_X G y cc nL rt p s m args meth c →
    ∀ (as : List Nat) (ls : Array Slot) (cst : List Value) (H : Heap) (locs : List Loc), eb_lo G as L ls nL → eb_st G as st cst → eb_W G as σ H → va_S (eb_A G) s.heap H locs →
    (∀ (as' : List Nat) (ls' : Array Slot) (H' : Heap) (locs' : List Loc) (pc' c' s' : Nat), as <+: as' → eb_W G as' out.2 H' → va_S (eb_A G) s.heap H' locs' → c' ≤ mc → s' ≤ ms → decode cc pc' = .ok (ri, 1) → W p (eb_gl G) e R s m args below meth c H' locs' c' s' Q (F0 m pc' ls' (enc out.1))) →
    W p (eb_gl G) e R s m args below meth c H locs cn sn Q (F0 m pc ls cst)
-- addresses only come, they do not go
theorem eb_a_ext {G : eb_G} {as as' : List Nat} (h : as <+: as') {r a : Nat} (ha : eb_a G as r = some a) : eb_a G as' r = some a := by
  unfold eb_a at ha ⊢
  by_cases h0 : r = 0
  · rw [if_pos h0] at ha; cases ha
  · rw [if_neg h0] at ha ⊢
    by_cases h8 : r < 8
    · rw [if_pos h8] at ha ⊢; exact ha
    · rw [if_neg h8] at ha ⊢
      obtain ⟨t, rfl⟩ := h
      have hl : r - 8 < as.length := (List.getElem?_eq_some_iff.mp ha).1
      rw [List.getElem?_append_left hl]
      exact ha
theorem eb_v_ext {G : eb_G} {as as' : List Nat} (h : as <+: as') {v w : Value} (hv : eb_v G as v w) : eb_v G as' v w := by
  unfold eb_v at hv ⊢
  split at hv
  · obtain ⟨a, h1, h2⟩ := hv
    exact ⟨a, eb_a_ext h h1, h2⟩
  · exact hv
  · exact hv
  · exact hv
theorem eb_st_ext {G : eb_G} {as as' : List Nat} (h : as <+: as') : ∀ {vs ws : List Value}, eb_st G as vs ws → eb_st G as' vs ws
  | [], [], _ => trivial
  | _ :: _, _ :: _, ⟨h1, h2⟩ => ⟨eb_v_ext h h1, eb_st_ext h h2⟩
  | [], _ :: _, h1 => h1.elim
  | _ :: _, [], h1 => h1.elim
theorem eb_rv_ext {G : eb_G} {as as' : List Nat} (h : as <+: as') {r : Nat} {w : Value} (hv : eb_rv G as r w) : eb_rv G as' r w := by
  rcases hv with hv | ⟨a, h1, h2⟩
  · exact Or.inl hv
  · exact Or.inr ⟨a, eb_a_ext h h1, h2⟩
theorem eb_lo_ext {G : eb_G} {as as' : List Nat} (h : as <+: as') {L : List (Nat × Value)} {ls : Array Slot} {nL : Nat} (hl : eb_lo G as L ls nL) : eb_lo G as' L ls nL :=
  ⟨hl.1, hl.2.1, fun q hq => by obtain ⟨w, h1, h2⟩ := hl.2.2 q hq; exact ⟨w, eb_v_ext h h1, h2⟩⟩
theorem eb_st_cons {G : eb_G} {as : List Nat} {v : Value} {vs ws : List Value} (h : eb_st G as (v :: vs) ws) : ∃ w ws', ws = w :: ws' ∧ eb_v G as v w ∧ eb_st G as vs ws' := by
  cases ws with
  | nil => exact h.elim
  | cons w ws' => exact ⟨w, ws', rfl, h.1, h.2⟩
theorem eb_st_i {G : eb_G} {as : List Nat} {x : Int32} {vs ws : List Value} (h : eb_st G as (.int x :: vs) ws) : ∃ ws', ws = .int x :: ws' ∧ eb_st G as vs ws' := by
  obtain ⟨w, ws', rfl, h1, h2⟩ := eb_st_cons h
  cases h1
  exact ⟨ws', rfl, h2⟩
theorem eb_st_l {G : eb_G} {as : List Nat} {x : Int64} {vs ws : List Value} (h : eb_st G as (.long x :: vs) ws) : ∃ ws', ws = .long x :: ws' ∧ eb_st G as vs ws' := by
  obtain ⟨w, ws', rfl, h1, h2⟩ := eb_st_cons h
  cases h1
  exact ⟨ws', rfl, h2⟩
theorem eb_st_r {G : eb_G} {as : List Nat} {r : Nat} {vs ws : List Value} (h : eb_st G as (.ref r :: vs) ws) : ∃ a ws', ws = .ref a :: ws' ∧ eb_a G as r = some a ∧ eb_st G as vs ws' := by
  obtain ⟨w, ws', rfl, h1, h2⟩ := eb_st_cons h
  obtain ⟨a, h3, rfl⟩ := h1
  exact ⟨a, ws', rfl, h3, h2⟩
theorem eb_st_nil {G : eb_G} {as : List Nat} {ws : List Value} (h : eb_st G as [] ws) : ws = [] := by
  cases ws with
  | nil => rfl
  | cons w ws' => exact h.elim
theorem eb_v_cat {G : eb_G} {as : List Nat} {v w : Value} (h : eb_v G as v w) : w.category = v.category := by
  cases v with
  | ref r => obtain ⟨a, -, rfl⟩ := h; rfl
  | int x => cases h; rfl
  | long x => cases h; rfl
  | _ => exact h.elim
theorem eb_st_cat {G : eb_G} {as : List Nat} : ∀ {vs ws : List Value}, eb_st G as vs ws → (ws.map fun v => v.category) = vs.map fun v => v.category
  | [], [], _ => rfl
  | _ :: _, _ :: _, ⟨h1, h2⟩ => by rw [List.map_cons, List.map_cons, eb_v_cat h1, eb_st_cat h2]
  | [], _ :: _, h1 => h1.elim
  | _ :: _, [], h1 => h1.elim
theorem eb_st_app {G : eb_G} {as : List Nat} : ∀ {us vs cst : List Value}, eb_st G as (us ++ vs) cst → ∃ cu cv, cst = cu ++ cv ∧ eb_st G as us cu ∧ eb_st G as vs cv
  | [], _, cst, h => ⟨[], cst, rfl, trivial, h⟩
  | u :: us, vs, cst, h => by
    obtain ⟨w, ws', rfl, h1, h2⟩ := eb_st_cons (v := u) (vs := us ++ vs) h
    obtain ⟨cu, cv, rfl, h3, h4⟩ := eb_st_app h2
    exact ⟨w :: cu, cv, rfl, ⟨h1, h3⟩, h4⟩
theorem eb_st_append {G : eb_G} {as : List Nat} : ∀ {us vs cu cv : List Value}, eb_st G as us cu → eb_st G as vs cv → eb_st G as (us ++ vs) (cu ++ cv)
  | [], _, [], _, _, h => h
  | _ :: _, _, _ :: _, _, ⟨h1, h2⟩, h => ⟨h1, eb_st_append h2 h⟩
  | [], _, _ :: _, _, h1, _ => h1.elim
  | _ :: _, _, [], _, h1, _ => h1.elim
theorem eb_st_rev {G : eb_G} {as : List Nat} : ∀ {vs ws : List Value}, eb_st G as vs ws → eb_st G as vs.reverse ws.reverse
  | [], [], _ => trivial
  | v :: vs, w :: ws, ⟨h1, h2⟩ => by
    rw [List.reverse_cons, List.reverse_cons]
    exact eb_st_append (eb_st_rev h2) ⟨h1, trivial⟩
  | [], _ :: _, h1 => h1.elim
  | _ :: _, [], h1 => h1.elim
theorem eb_st_len {G : eb_G} {as : List Nat} : ∀ {vs ws : List Value}, eb_st G as vs ws → ws.length = vs.length
  | [], [], _ => rfl
  | _ :: _, _ :: _, ⟨_, h2⟩ => by rw [List.length_cons, List.length_cons, eb_st_len h2]
  | [], _ :: _, h1 => h1.elim
  | _ :: _, [], h1 => h1.elim
-- locals
theorem eb_lo_at {G : eb_G} {as : List Nat} {L : List (Nat × Value)} {ls : Array Slot} {nL : Nat} (h : eb_lo G as L ls nL) {k i : Nat} {v : Value} (hk : L[k]? = some (i, v)) : ∃ w, eb_v G as v w ∧ ls[i]? = some (.val w) := h.2.2 (i, v) (List.mem_of_getElem? hk)
/-- the concrete list beside the listed values -/
theorem eb_lo_list {G : eb_G} {as : List Nat} {ls : Array Slot} {nL : Nat} : ∀ {L : List (Nat × Value)}, eb_lo G as L ls nL → ∃ lv : List (Nat × Value), lv_has ls nL lv ∧ ∀ (P : Nat → Nat → Bool), ∀ q ∈ L.filter (fun q => P q.1 q.2.category), ∃ w, eb_v G as q.2 w ∧ (q.1, w) ∈ lv.filter (fun q => P q.1 q.2.category)
  | [], h => ⟨[], ⟨h.1, h.2.1, fun _ hq => by cases hq⟩, fun _ q hq => by simp at hq⟩
  | (i, v) :: L, h => by
    obtain ⟨lv, h1, h2⟩ := eb_lo_list (L := L) ⟨h.1, h.2.1, fun q hq => h.2.2 q (List.mem_cons_of_mem _ hq)⟩
    obtain ⟨w, h3, h4⟩ := h.2.2 (i, v) List.mem_cons_self
    refine ⟨(i, w) :: lv, ⟨h1.1, h1.2.1, fun q hq => ?_⟩, fun P q hq => ?_⟩
    · rcases List.mem_cons.mp hq with rfl | hq
      · exact h4
      · exact h1.2.2 q hq
    · obtain ⟨hq1, hq2⟩ := List.mem_filter.mp hq
      rcases List.mem_cons.mp hq1 with rfl | hq1
      · refine ⟨w, h3, List.mem_filter.mpr ⟨List.mem_cons_self, ?_⟩⟩
        show P i w.category = true
        rw [eb_v_cat h3]
        exact hq2
      · obtain ⟨w', h5, h6⟩ := h2 P q (List.mem_filter.mpr ⟨hq1, hq2⟩)
        obtain ⟨h7, h8⟩ := List.mem_filter.mp h6
        exact ⟨w', h5, List.mem_filter.mpr ⟨List.mem_cons_of_mem _ h7, h8⟩⟩
abbrev eb_f1 (i : Nat) (L : List (Nat × Value)) : List (Nat × Value) := L.filter (fun q => !(q.1 == i) && !(q.1 + 1 == i && q.2.category == 2))
abbrev eb_f2 (i : Nat) (L : List (Nat × Value)) : List (Nat × Value) := L.filter (fun q => !(q.1 == i) && (!(q.1 == i + 1) && !(q.1 + 1 == i && q.2.category == 2)))
theorem eb_lo_f1 {G : eb_G} {as : List Nat} {ls : Array Slot} {nL : Nat} {L : List (Nat × Value)} (h : eb_lo G as L ls nL) : ∃ lv : List (Nat × Value), lv_has ls nL lv ∧ ∀ (i : Nat) (v w : Value) (ls' : Array Slot), eb_v G as v w → lv_has ls' nL ((i, w) :: eb_f1 i lv) → eb_lo G as ((i, v) :: eb_f1 i L) ls' nL := by
  obtain ⟨lv, h1, h2⟩ := eb_lo_list h
  refine ⟨lv, h1, fun i v w ls' hv hl => ⟨hl.1, hl.2.1, fun q hq => ?_⟩⟩
  rcases List.mem_cons.mp hq with rfl | hq
  · exact ⟨w, hv, hl.2.2 (i, w) List.mem_cons_self⟩
  · obtain ⟨w', h3, h4⟩ := h2 (fun a b => !(a == i) && !(a + 1 == i && b == 2)) q hq
    exact ⟨w', h3, hl.2.2 (q.1, w') (List.mem_cons_of_mem _ h4)⟩
theorem eb_lo_f2 {G : eb_G} {as : List Nat} {ls : Array Slot} {nL : Nat} {L : List (Nat × Value)} (h : eb_lo G as L ls nL) : ∃ lv : List (Nat × Value), lv_has ls nL lv ∧ ∀ (i : Nat) (v w : Value) (ls' : Array Slot), eb_v G as v w → lv_has ls' nL ((i, w) :: eb_f2 i lv) → eb_lo G as ((i, v) :: eb_f2 i L) ls' nL := by
  obtain ⟨lv, h1, h2⟩ := eb_lo_list h
  refine ⟨lv, h1, fun i v w ls' hv hl => ⟨hl.1, hl.2.1, fun q hq => ?_⟩⟩
  rcases List.mem_cons.mp hq with rfl | hq
  · exact ⟨w, hv, hl.2.2 (i, w) List.mem_cons_self⟩
  · obtain ⟨w', h3, h4⟩ := h2 (fun a b => !(a == i) && (!(a == i + 1) && !(a + 1 == i && b == 2))) q hq
    exact ⟨w', h3, hl.2.2 (q.1, w') (List.mem_cons_of_mem _ h4)⟩
theorem eb_lo_sub {G : eb_G} {as : List Nat} {ls : Array Slot} {nL : Nat} {L L' : List (Nat × Value)} (h : eb_lo G as L ls nL) (ks : List Nat) (hl : lv_pick L ks = L') : eb_lo G as L' ls nL := by
  refine ⟨h.1, h.2.1, fun q hq => ?_⟩
  rw [← hl] at hq
  obtain ⟨k, -, hk⟩ := List.mem_filterMap.mp hq
  exact h.2.2 q (List.mem_of_getElem? hk)
end
section
section EBR
variable {ρ : Type} {G : eb_G} {y : MethodName} {cc : ByteArray} {nL : Nat} {rt : Option FieldType} {fr mc ms : Nat} {ri : Instr} {enc : ρ → List Value} {pc : Nat} {L : List (Nat × Value)} {st : List Value} {σ : eb_S} {cn sn : Nat} {o o1 o2 : Option (ρ × eb_S)}
theorem eb_iadd {a : Int32} {b : Int32} (hd : decode cc pc = .ok (.iadd, 1)) (k : eb_go G y cc nL rt fr mc ms ri enc (pc + 1) L (.int (a + b) :: st) σ cn sn o) : eb_go G y cc nL rt fr mc ms ri enc pc L (.int b :: .int a :: st) σ cn sn o := by
  intro out ho p e s m args below meth c Q R hR X as ls cst H locs hl hs hW hS kr
  obtain ⟨c_b, rfl, hs1⟩ := eb_st_i hs
  obtain ⟨c_a, rfl, hs2⟩ := eb_st_i hs1
  exact lv_iadd X.1 X.2.1 hd (k out ho p e s m args below meth c Q R hR X as ls _ H locs hl ⟨rfl, hs2⟩ hW hS kr)

theorem eb_isub {a : Int32} {b : Int32} (hd : decode cc pc = .ok (.isub, 1)) (k : eb_go G y cc nL rt fr mc ms ri enc (pc + 1) L (.int (a - b) :: st) σ cn sn o) : eb_go G y cc nL rt fr mc ms ri enc pc L (.int b :: .int a :: st) σ cn sn o := by
  intro out ho p e s m args below meth c Q R hR X as ls cst H locs hl hs hW hS kr
  obtain ⟨c_b, rfl, hs1⟩ := eb_st_i hs
  obtain ⟨c_a, rfl, hs2⟩ := eb_st_i hs1
  exact lv_isub X.1 X.2.1 hd (k out ho p e s m args below meth c Q R hR X as ls _ H locs hl ⟨rfl, hs2⟩ hW hS kr)

theorem eb_imul {a : Int32} {b : Int32} (hd : decode cc pc = .ok (.imul, 1)) (k : eb_go G y cc nL rt fr mc ms ri enc (pc + 1) L (.int (a * b) :: st) σ cn sn o) : eb_go G y cc nL rt fr mc ms ri enc pc L (.int b :: .int a :: st) σ cn sn o := by
  intro out ho p e s m args below meth c Q R hR X as ls cst H locs hl hs hW hS kr
  obtain ⟨c_b, rfl, hs1⟩ := eb_st_i hs
  obtain ⟨c_a, rfl, hs2⟩ := eb_st_i hs1
  exact lv_imul X.1 X.2.1 hd (k out ho p e s m args below meth c Q R hR X as ls _ H locs hl ⟨rfl, hs2⟩ hW hS kr)

theorem eb_iand {a : Int32} {b : Int32} (hd : decode cc pc = .ok (.iand, 1)) (k : eb_go G y cc nL rt fr mc ms ri enc (pc + 1) L (.int (a &&& b) :: st) σ cn sn o) : eb_go G y cc nL rt fr mc ms ri enc pc L (.int b :: .int a :: st) σ cn sn o := by
  intro out ho p e s m args below meth c Q R hR X as ls cst H locs hl hs hW hS kr
  obtain ⟨c_b, rfl, hs1⟩ := eb_st_i hs
  obtain ⟨c_a, rfl, hs2⟩ := eb_st_i hs1
  exact lv_iand X.1 X.2.1 hd (k out ho p e s m args below meth c Q R hR X as ls _ H locs hl ⟨rfl, hs2⟩ hW hS kr)

theorem eb_ior {a : Int32} {b : Int32} (hd : decode cc pc = .ok (.ior, 1)) (k : eb_go G y cc nL rt fr mc ms ri enc (pc + 1) L (.int (a ||| b) :: st) σ cn sn o) : eb_go G y cc nL rt fr mc ms ri enc pc L (.int b :: .int a :: st) σ cn sn o := by
  intro out ho p e s m args below meth c Q R hR X as ls cst H locs hl hs hW hS kr
  obtain ⟨c_b, rfl, hs1⟩ := eb_st_i hs
  obtain ⟨c_a, rfl, hs2⟩ := eb_st_i hs1
  exact lv_ior X.1 X.2.1 hd (k out ho p e s m args below meth c Q R hR X as ls _ H locs hl ⟨rfl, hs2⟩ hW hS kr)

theorem eb_ixor {a : Int32} {b : Int32} (hd : decode cc pc = .ok (.ixor, 1)) (k : eb_go G y cc nL rt fr mc ms ri enc (pc + 1) L (.int (a ^^^ b) :: st) σ cn sn o) : eb_go G y cc nL rt fr mc ms ri enc pc L (.int b :: .int a :: st) σ cn sn o := by
  intro out ho p e s m args below meth c Q R hR X as ls cst H locs hl hs hW hS kr
  obtain ⟨c_b, rfl, hs1⟩ := eb_st_i hs
  obtain ⟨c_a, rfl, hs2⟩ := eb_st_i hs1
  exact lv_ixor X.1 X.2.1 hd (k out ho p e s m args below meth c Q R hR X as ls _ H locs hl ⟨rfl, hs2⟩ hW hS kr)

theorem eb_ishl {a : Int32} {b : Int32} (hd : decode cc pc = .ok (.ishl, 1)) (k : eb_go G y cc nL rt fr mc ms ri enc (pc + 1) L (.int (a <<< (b &&& 31)) :: st) σ cn sn o) : eb_go G y cc nL rt fr mc ms ri enc pc L (.int b :: .int a :: st) σ cn sn o := by
  intro out ho p e s m args below meth c Q R hR X as ls cst H locs hl hs hW hS kr
  obtain ⟨c_b, rfl, hs1⟩ := eb_st_i hs
  obtain ⟨c_a, rfl, hs2⟩ := eb_st_i hs1
  exact lv_ishl X.1 X.2.1 hd (k out ho p e s m args below meth c Q R hR X as ls _ H locs hl ⟨rfl, hs2⟩ hW hS kr)

theorem eb_ishr {a : Int32} {b : Int32} (hd : decode cc pc = .ok (.ishr, 1)) (k : eb_go G y cc nL rt fr mc ms ri enc (pc + 1) L (.int (a >>> (b &&& 31)) :: st) σ cn sn o) : eb_go G y cc nL rt fr mc ms ri enc pc L (.int b :: .int a :: st) σ cn sn o := by
  intro out ho p e s m args below meth c Q R hR X as ls cst H locs hl hs hW hS kr
  obtain ⟨c_b, rfl, hs1⟩ := eb_st_i hs
  obtain ⟨c_a, rfl, hs2⟩ := eb_st_i hs1
  exact lv_ishr X.1 X.2.1 hd (k out ho p e s m args below meth c Q R hR X as ls _ H locs hl ⟨rfl, hs2⟩ hW hS kr)

theorem eb_ineg {a : Int32} (hd : decode cc pc = .ok (.ineg, 1)) (k : eb_go G y cc nL rt fr mc ms ri enc (pc + 1) L (.int (-a) :: st) σ cn sn o) : eb_go G y cc nL rt fr mc ms ri enc pc L (.int a :: st) σ cn sn o := by
  intro out ho p e s m args below meth c Q R hR X as ls cst H locs hl hs hW hS kr
  obtain ⟨c_a, rfl, hs1⟩ := eb_st_i hs
  exact lv_ineg X.1 X.2.1 hd (k out ho p e s m args below meth c Q R hR X as ls _ H locs hl ⟨rfl, hs1⟩ hW hS kr)

theorem eb_ladd {a : Int64} {b : Int64} (hd : decode cc pc = .ok (.ladd, 1)) (k : eb_go G y cc nL rt fr mc ms ri enc (pc + 1) L (.long (a + b) :: st) σ cn sn o) : eb_go G y cc nL rt fr mc ms ri enc pc L (.long b :: .long a :: st) σ cn sn o := by
  intro out ho p e s m args below meth c Q R hR X as ls cst H locs hl hs hW hS kr
  obtain ⟨c_b, rfl, hs1⟩ := eb_st_l hs
  obtain ⟨c_a, rfl, hs2⟩ := eb_st_l hs1
  exact lv_ladd X.1 X.2.1 hd (k out ho p e s m args below meth c Q R hR X as ls _ H locs hl ⟨rfl, hs2⟩ hW hS kr)

theorem eb_land {a : Int64} {b : Int64} (hd : decode cc pc = .ok (.land, 1)) (k : eb_go G y cc nL rt fr mc ms ri enc (pc + 1) L (.long (a &&& b) :: st) σ cn sn o) : eb_go G y cc nL rt fr mc ms ri enc pc L (.long b :: .long a :: st) σ cn sn o := by
  intro out ho p e s m args below meth c Q R hR X as ls cst H locs hl hs hW hS kr
  obtain ⟨c_b, rfl, hs1⟩ := eb_st_l hs
  obtain ⟨c_a, rfl, hs2⟩ := eb_st_l hs1
  exact lv_land X.1 X.2.1 hd (k out ho p e s m args below meth c Q R hR X as ls _ H locs hl ⟨rfl, hs2⟩ hW hS kr)

theorem eb_lor {a : Int64} {b : Int64} (hd : decode cc pc = .ok (.lor, 1)) (k : eb_go G y cc nL rt fr mc ms ri enc (pc + 1) L (.long (a ||| b) :: st) σ cn sn o) : eb_go G y cc nL rt fr mc ms ri enc pc L (.long b :: .long a :: st) σ cn sn o := by
  intro out ho p e s m args below meth c Q R hR X as ls cst H locs hl hs hW hS kr
  obtain ⟨c_b, rfl, hs1⟩ := eb_st_l hs
  obtain ⟨c_a, rfl, hs2⟩ := eb_st_l hs1
  exact lv_lor X.1 X.2.1 hd (k out ho p e s m args below meth c Q R hR X as ls _ H locs hl ⟨rfl, hs2⟩ hW hS kr)

theorem eb_lshl {a : Int64} {b : Int32} (hd : decode cc pc = .ok (.lshl, 1)) (k : eb_go G y cc nL rt fr mc ms ri enc (pc + 1) L (.long (a <<< (b.toInt64 &&& 63)) :: st) σ cn sn o) : eb_go G y cc nL rt fr mc ms ri enc pc L (.int b :: .long a :: st) σ cn sn o := by
  intro out ho p e s m args below meth c Q R hR X as ls cst H locs hl hs hW hS kr
  obtain ⟨c_b, rfl, hs1⟩ := eb_st_i hs
  obtain ⟨c_a, rfl, hs2⟩ := eb_st_l hs1
  exact lv_lshl X.1 X.2.1 hd rfl (k out ho p e s m args below meth c Q R hR X as ls _ H locs hl ⟨rfl, hs2⟩ hW hS kr)

theorem eb_lcmp {a : Int64} {b : Int64} (hd : decode cc pc = .ok (.lcmp, 1)) (k : eb_go G y cc nL rt fr mc ms ri enc (pc + 1) L (.int (lg_cmp a b) :: st) σ cn sn o) : eb_go G y cc nL rt fr mc ms ri enc pc L (.long b :: .long a :: st) σ cn sn o := by
  intro out ho p e s m args below meth c Q R hR X as ls cst H locs hl hs hW hS kr
  obtain ⟨c_b, rfl, hs1⟩ := eb_st_l hs
  obtain ⟨c_a, rfl, hs2⟩ := eb_st_l hs1
  exact W.lcmp X.1 X.2.1 hd (k out ho p e s m args below meth c Q R hR X as ls _ H locs hl ⟨rfl, hs2⟩ hW hS kr)

theorem eb_i2l {a : Int32} (hd : decode cc pc = .ok (.i2l, 1)) (k : eb_go G y cc nL rt fr mc ms ri enc (pc + 1) L (.long (a.toInt64) :: st) σ cn sn o) : eb_go G y cc nL rt fr mc ms ri enc pc L (.int a :: st) σ cn sn o := by
  intro out ho p e s m args below meth c Q R hR X as ls cst H locs hl hs hW hS kr
  obtain ⟨c_a, rfl, hs1⟩ := eb_st_i hs
  exact lv_i2l X.1 X.2.1 hd rfl (k out ho p e s m args below meth c Q R hR X as ls _ H locs hl ⟨rfl, hs1⟩ hW hS kr)

theorem eb_l2i {a : Int64} (hd : decode cc pc = .ok (.l2i, 1)) (k : eb_go G y cc nL rt fr mc ms ri enc (pc + 1) L (.int (a.toInt32) :: st) σ cn sn o) : eb_go G y cc nL rt fr mc ms ri enc pc L (.long a :: st) σ cn sn o := by
  intro out ho p e s m args below meth c Q R hR X as ls cst H locs hl hs hW hS kr
  obtain ⟨c_a, rfl, hs1⟩ := eb_st_l hs
  exact lv_l2i X.1 X.2.1 hd rfl (k out ho p e s m args below meth c Q R hR X as ls _ H locs hl ⟨rfl, hs1⟩ hW hS kr)

theorem eb_i2b {a : Int32} (hd : decode cc pc = .ok (.i2b, 1)) (k : eb_go G y cc nL rt fr mc ms ri enc (pc + 1) L (.int (a.toInt8.toInt32) :: st) σ cn sn o) : eb_go G y cc nL rt fr mc ms ri enc pc L (.int a :: st) σ cn sn o := by
  intro out ho p e s m args below meth c Q R hR X as ls cst H locs hl hs hW hS kr
  obtain ⟨c_a, rfl, hs1⟩ := eb_st_i hs
  exact lv_i2b X.1 X.2.1 hd rfl (k out ho p e s m args below meth c Q R hR X as ls _ H locs hl ⟨rfl, hs1⟩ hW hS kr)

theorem eb_i2s {a : Int32} (hd : decode cc pc = .ok (.i2s, 1)) (k : eb_go G y cc nL rt fr mc ms ri enc (pc + 1) L (.int (a.toInt16.toInt32) :: st) σ cn sn o) : eb_go G y cc nL rt fr mc ms ri enc pc L (.int a :: st) σ cn sn o := by
  intro out ho p e s m args below meth c Q R hR X as ls cst H locs hl hs hW hS kr
  obtain ⟨c_a, rfl, hs1⟩ := eb_st_i hs
  exact lv_i2s X.1 X.2.1 hd rfl (k out ho p e s m args below meth c Q R hR X as ls _ H locs hl ⟨rfl, hs1⟩ hW hS kr)

theorem eb_i2c {a : Int32} (hd : decode cc pc = .ok (.i2c, 1)) (k : eb_go G y cc nL rt fr mc ms ri enc (pc + 1) L (.int ((a.toUInt32 % 65536).toInt32) :: st) σ cn sn o) : eb_go G y cc nL rt fr mc ms ri enc pc L (.int a :: st) σ cn sn o := by
  intro out ho p e s m args below meth c Q R hR X as ls cst H locs hl hs hW hS kr
  obtain ⟨c_a, rfl, hs1⟩ := eb_st_i hs
  exact lv_i2c X.1 X.2.1 hd rfl (k out ho p e s m args below meth c Q R hR X as ls _ H locs hl ⟨rfl, hs1⟩ hW hS kr)

theorem eb_iconst {n : Int} {v : Int32} (hd : decode cc pc = .ok (.iconst n, 1)) (hv : Int32.ofInt n = v) (k : eb_go G y cc nL rt fr mc ms ri enc (pc + 1) L (.int (v) :: st) σ cn sn o) : eb_go G y cc nL rt fr mc ms ri enc pc L st σ cn sn o := by
  intro out ho p e s m args below meth c Q R hR X as ls cst H locs hl hs hW hS kr
  exact lv_iconst X.1 X.2.1 hd hv (k out ho p e s m args below meth c Q R hR X as ls _ H locs hl ⟨rfl, hs⟩ hW hS kr)

theorem eb_bipush {n : Int} {v : Int32} (hd : decode cc pc = .ok (.bipush n, 2)) (hv : (Int8.ofInt n).toInt32 = v) (k : eb_go G y cc nL rt fr mc ms ri enc (pc + 2) L (.int (v) :: st) σ cn sn o) : eb_go G y cc nL rt fr mc ms ri enc pc L st σ cn sn o := by
  intro out ho p e s m args below meth c Q R hR X as ls cst H locs hl hs hW hS kr
  exact lv_bipush X.1 X.2.1 hd hv (k out ho p e s m args below meth c Q R hR X as ls _ H locs hl ⟨rfl, hs⟩ hW hS kr)

theorem eb_sipush {n : Int} {v : Int32} (hd : decode cc pc = .ok (.sipush n, 3)) (hv : (Int16.ofInt n).toInt32 = v) (k : eb_go G y cc nL rt fr mc ms ri enc (pc + 3) L (.int (v) :: st) σ cn sn o) : eb_go G y cc nL rt fr mc ms ri enc pc L st σ cn sn o := by
  intro out ho p e s m args below meth c Q R hR X as ls cst H locs hl hs hW hS kr
  exact lv_sipush X.1 X.2.1 hd hv (k out ho p e s m args below meth c Q R hR X as ls _ H locs hl ⟨rfl, hs⟩ hW hS kr)

theorem eb_lconst {n : Fin 2} {v : Int64} (hd : decode cc pc = .ok (.lconst n, 1)) (hv : Int64.ofNat (n : Nat) = v) (k : eb_go G y cc nL rt fr mc ms ri enc (pc + 1) L (.long (v) :: st) σ cn sn o) : eb_go G y cc nL rt fr mc ms ri enc pc L st σ cn sn o := by
  intro out ho p e s m args below meth c Q R hR X as ls cst H locs hl hs hW hS kr
  exact lv_lconst X.1 X.2.1 hd hv (k out ho p e s m args below meth c Q R hR X as ls _ H locs hl ⟨rfl, hs⟩ hW hS kr)

theorem eb_ldc {index : Nat} {v : Int32} (hd : decode cc pc = .ok (.ldc index, 2)) (hc : Cond.constant y.cls index v ∈ eb_tbl) (k : eb_go G y cc nL rt fr mc ms ri enc (pc + 2) L (.int v :: st) σ cn sn o) : eb_go G y cc nL rt fr mc ms ri enc pc L st σ cn sn o := by
  intro out ho p e s m args below meth c Q R hR X as ls cst H locs hl hs hW hS kr
  exact lv_ldc X.1 X.2.1 X.2.2.2.2.2.1 (X.2.2.2.2.2.2.2.1 _ hc) hd (k out ho p e s m args below meth c Q R hR X as ls _ H locs hl ⟨rfl, hs⟩ hW hS kr)

theorem eb_ldc2 {index : Nat} {v : Int64} (hd : decode cc pc = .ok (.ldc2_w index, 3)) (hc : Cond.constantLong y.cls index v ∈ eb_tbl) (k : eb_go G y cc nL rt fr mc ms ri enc (pc + 3) L (.long v :: st) σ cn sn o) : eb_go G y cc nL rt fr mc ms ri enc pc L st σ cn sn o := by
  intro out ho p e s m args below meth c Q R hR X as ls cst H locs hl hs hW hS kr
  exact lv_ldc2 X.1 X.2.1 X.2.2.2.2.2.1 (X.2.2.2.2.2.2.2.1 _ hc) hd (k out ho p e s m args below meth c Q R hR X as ls _ H locs hl ⟨rfl, hs⟩ hW hS kr)

theorem eb_idiv {a b : Int32} (hd : decode cc pc = .ok (.idiv, 1)) (k : eb_go G y cc nL rt fr mc ms ri enc (pc + 1) L (.int (a / b) :: st) σ cn sn o) : eb_go G y cc nL rt fr mc ms ri enc pc L (.int b :: .int a :: st) σ cn sn (if b = 0 then none else o) := by
  intro out ho p e s m args below meth c Q R hR X as ls cst H locs hl hs hW hS kr
  obtain ⟨c_b, rfl, hs1⟩ := eb_st_i hs
  obtain ⟨c_a, rfl, hs2⟩ := eb_st_i hs1
  by_cases hb0 : b = 0
  · rw [if_pos hb0] at ho; cases ho
  · rw [if_neg hb0] at ho
    exact lv_idiv X.1 X.2.1 hd hb0 (k out ho p e s m args below meth c Q R hR X as ls _ H locs hl ⟨rfl, hs2⟩ hW hS kr)

theorem eb_irem {a b : Int32} (hd : decode cc pc = .ok (.irem, 1)) (k : eb_go G y cc nL rt fr mc ms ri enc (pc + 1) L (.int (a - a / b * b) :: st) σ cn sn o) : eb_go G y cc nL rt fr mc ms ri enc pc L (.int b :: .int a :: st) σ cn sn (if b = 0 then none else o) := by
  intro out ho p e s m args below meth c Q R hR X as ls cst H locs hl hs hW hS kr
  obtain ⟨c_b, rfl, hs1⟩ := eb_st_i hs
  obtain ⟨c_a, rfl, hs2⟩ := eb_st_i hs1
  by_cases hb0 : b = 0
  · rw [if_pos hb0] at ho; cases ho
  · rw [if_neg hb0] at ho
    exact lv_irem X.1 X.2.1 hd hb0 (k out ho p e s m args below meth c Q R hR X as ls _ H locs hl ⟨rfl, hs2⟩ hW hS kr)

theorem eb_iload_n {kf : Fin 4} {i : Nat} {x : Int32} (j : Nat) (hd : decode cc pc = .ok (.iload_n kf, 1)) (hi : (kf : Nat) = i) (hj : L[j]? = some (i, .int x)) (k : eb_go G y cc nL rt fr mc ms ri enc (pc + 1) L (.int x :: st) σ cn sn o) : eb_go G y cc nL rt fr mc ms ri enc pc L st σ cn sn o := by
  intro out ho p e s m args below meth c Q R hR X as ls cst H locs hl hs hW hS kr
  obtain ⟨w, h1, h2⟩ := eb_lo_at hl hj
  cases h1
  exact lv_iload_n X.1 X.2.1 hd hi h2 (k out ho p e s m args below meth c Q R hR X as ls _ H locs hl ⟨rfl, hs⟩ hW hS kr)

theorem eb_iload {i : Nat} {x : Int32} (j : Nat) (hd : decode cc pc = .ok (.iload i, 2)) (hj : L[j]? = some (i, .int x)) (k : eb_go G y cc nL rt fr mc ms ri enc (pc + 2) L (.int x :: st) σ cn sn o) : eb_go G y cc nL rt fr mc ms ri enc pc L st σ cn sn o := by
  intro out ho p e s m args below meth c Q R hR X as ls cst H locs hl hs hW hS kr
  obtain ⟨w, h1, h2⟩ := eb_lo_at hl hj
  cases h1
  exact lv_iload X.1 X.2.1 hd h2 (k out ho p e s m args below meth c Q R hR X as ls _ H locs hl ⟨rfl, hs⟩ hW hS kr)

theorem eb_lload_n {kf : Fin 4} {i : Nat} {x : Int64} (j : Nat) (hd : decode cc pc = .ok (.lload_n kf, 1)) (hi : (kf : Nat) = i) (hj : L[j]? = some (i, .long x)) (k : eb_go G y cc nL rt fr mc ms ri enc (pc + 1) L (.long x :: st) σ cn sn o) : eb_go G y cc nL rt fr mc ms ri enc pc L st σ cn sn o := by
  intro out ho p e s m args below meth c Q R hR X as ls cst H locs hl hs hW hS kr
  obtain ⟨w, h1, h2⟩ := eb_lo_at hl hj
  cases h1
  exact lv_lload_n X.1 X.2.1 hd hi h2 (k out ho p e s m args below meth c Q R hR X as ls _ H locs hl ⟨rfl, hs⟩ hW hS kr)

theorem eb_lload {i : Nat} {x : Int64} (j : Nat) (hd : decode cc pc = .ok (.lload i, 2)) (hj : L[j]? = some (i, .long x)) (k : eb_go G y cc nL rt fr mc ms ri enc (pc + 2) L (.long x :: st) σ cn sn o) : eb_go G y cc nL rt fr mc ms ri enc pc L st σ cn sn o := by
  intro out ho p e s m args below meth c Q R hR X as ls cst H locs hl hs hW hS kr
  obtain ⟨w, h1, h2⟩ := eb_lo_at hl hj
  cases h1
  exact lv_lload X.1 X.2.1 hd h2 (k out ho p e s m args below meth c Q R hR X as ls _ H locs hl ⟨rfl, hs⟩ hW hS kr)

theorem eb_aload_n {kf : Fin 4} {i r : Nat} (j : Nat) (hd : decode cc pc = .ok (.aload_n kf, 1)) (hi : (kf : Nat) = i) (hj : L[j]? = some (i, .ref r)) (k : eb_go G y cc nL rt fr mc ms ri enc (pc + 1) L (.ref r :: st) σ cn sn o) : eb_go G y cc nL rt fr mc ms ri enc pc L st σ cn sn o := by
  intro out ho p e s m args below meth c Q R hR X as ls cst H locs hl hs hW hS kr
  obtain ⟨w, h1, h2⟩ := eb_lo_at hl hj
  obtain ⟨a, h3, rfl⟩ := h1
  exact lv_aload_n X.1 X.2.1 hd hi h2 (k out ho p e s m args below meth c Q R hR X as ls _ H locs hl ⟨⟨a, h3, rfl⟩, hs⟩ hW hS kr)

theorem eb_aload {i r : Nat} (j : Nat) (hd : decode cc pc = .ok (.aload i, 2)) (hj : L[j]? = some (i, .ref r)) (k : eb_go G y cc nL rt fr mc ms ri enc (pc + 2) L (.ref r :: st) σ cn sn o) : eb_go G y cc nL rt fr mc ms ri enc pc L st σ cn sn o := by
  intro out ho p e s m args below meth c Q R hR X as ls cst H locs hl hs hW hS kr
  obtain ⟨w, h1, h2⟩ := eb_lo_at hl hj
  obtain ⟨a, h3, rfl⟩ := h1
  exact lv_aload X.1 X.2.1 hd h2 (k out ho p e s m args below meth c Q R hR X as ls _ H locs hl ⟨⟨a, h3, rfl⟩, hs⟩ hW hS kr)

theorem eb_istore_n {kf : Fin 4} {i : Nat} {x : Int32} {L' : List (Nat × Value)} (hd : decode cc pc = .ok (.istore_n kf, 1)) (hi : (kf : Nat) = i) (hn : i < nL) (hL : (i, Value.int x) :: eb_f1 i L = L') (k : eb_go G y cc nL rt fr mc ms ri enc (pc + 1) L' st σ cn sn o) : eb_go G y cc nL rt fr mc ms ri enc pc L (.int x :: st) σ cn sn o := by
  intro out ho p e s m args below meth c Q R hR X as ls cst H locs hl hs hW hS kr
  obtain ⟨c_x, rfl, hs1⟩ := eb_st_i hs
  obtain ⟨lv, h1, h2⟩ := eb_lo_f1 hl
  subst hL
  exact lv_istore_n X.1 X.2.1 hd hi h1 hn rfl (fun ls' hl' => (k out ho p e s m args below meth c Q R hR X as ls' _ H locs (h2 _ _ _ _ rfl hl') hs1 hW hS kr))

theorem eb_astore_n {kf : Fin 4} {i r : Nat} {L' : List (Nat × Value)} (hd : decode cc pc = .ok (.astore_n kf, 1)) (hi : (kf : Nat) = i) (hn : i < nL) (hL : (i, Value.ref r) :: eb_f1 i L = L') (k : eb_go G y cc nL rt fr mc ms ri enc (pc + 1) L' st σ cn sn o) : eb_go G y cc nL rt fr mc ms ri enc pc L (.ref r :: st) σ cn sn o := by
  intro out ho p e s m args below meth c Q R hR X as ls cst H locs hl hs hW hS kr
  obtain ⟨a, c_x, rfl, h3, hs1⟩ := eb_st_r hs
  obtain ⟨lv, h1, h2⟩ := eb_lo_f1 hl
  subst hL
  exact lv_astore_n X.1 X.2.1 hd hi h1 hn rfl (fun ls' hl' => (k out ho p e s m args below meth c Q R hR X as ls' _ H locs (h2 _ _ _ _ ⟨a, h3, rfl⟩ hl') hs1 hW hS kr))

theorem eb_lstore_n {kf : Fin 4} {i : Nat} {x : Int64} {L' : List (Nat × Value)} (hd : decode cc pc = .ok (.lstore_n kf, 1)) (hi : (kf : Nat) = i) (hn : i + 1 < nL) (hL : (i, Value.long x) :: eb_f2 i L = L') (k : eb_go G y cc nL rt fr mc ms ri enc (pc + 1) L' st σ cn sn o) : eb_go G y cc nL rt fr mc ms ri enc pc L (.long x :: st) σ cn sn o := by
  intro out ho p e s m args below meth c Q R hR X as ls cst H locs hl hs hW hS kr
  obtain ⟨c_x, rfl, hs1⟩ := eb_st_l hs
  obtain ⟨lv, h1, h2⟩ := eb_lo_f2 hl
  subst hL
  exact lv_lstore_n X.1 X.2.1 hd hi h1 hn rfl (fun ls' hl' => (k out ho p e s m args below meth c Q R hR X as ls' _ H locs (h2 _ _ _ _ rfl hl') hs1 hW hS kr))

theorem eb_istore {i : Nat} {x : Int32} {L' : List (Nat × Value)} (hd : decode cc pc = .ok (.istore i, 2)) (hn : i < nL) (hL : (i, Value.int x) :: eb_f1 i L = L') (k : eb_go G y cc nL rt fr mc ms ri enc (pc + 2) L' st σ cn sn o) : eb_go G y cc nL rt fr mc ms ri enc pc L (.int x :: st) σ cn sn o := by
  intro out ho p e s m args below meth c Q R hR X as ls cst H locs hl hs hW hS kr
  obtain ⟨c_x, rfl, hs1⟩ := eb_st_i hs
  obtain ⟨lv, h1, h2⟩ := eb_lo_f1 hl
  subst hL
  exact lv_istore X.1 X.2.1 hd h1 hn rfl (fun ls' hl' => (k out ho p e s m args below meth c Q R hR X as ls' _ H locs (h2 _ _ _ _ rfl hl') hs1 hW hS kr))

theorem eb_astore {i r : Nat} {L' : List (Nat × Value)} (hd : decode cc pc = .ok (.astore i, 2)) (hn : i < nL) (hL : (i, Value.ref r) :: eb_f1 i L = L') (k : eb_go G y cc nL rt fr mc ms ri enc (pc + 2) L' st σ cn sn o) : eb_go G y cc nL rt fr mc ms ri enc pc L (.ref r :: st) σ cn sn o := by
  intro out ho p e s m args below meth c Q R hR X as ls cst H locs hl hs hW hS kr
  obtain ⟨a, c_x, rfl, h3, hs1⟩ := eb_st_r hs
  obtain ⟨lv, h1, h2⟩ := eb_lo_f1 hl
  subst hL
  exact lv_astore X.1 X.2.1 hd h1 hn rfl (fun ls' hl' => (k out ho p e s m args below meth c Q R hR X as ls' _ H locs (h2 _ _ _ _ ⟨a, h3, rfl⟩ hl') hs1 hW hS kr))

theorem eb_lstore {i : Nat} {x : Int64} {L' : List (Nat × Value)} (hd : decode cc pc = .ok (.lstore i, 2)) (hn : i + 1 < nL) (hL : (i, Value.long x) :: eb_f2 i L = L') (k : eb_go G y cc nL rt fr mc ms ri enc (pc + 2) L' st σ cn sn o) : eb_go G y cc nL rt fr mc ms ri enc pc L (.long x :: st) σ cn sn o := by
  intro out ho p e s m args below meth c Q R hR X as ls cst H locs hl hs hW hS kr
  obtain ⟨c_x, rfl, hs1⟩ := eb_st_l hs
  obtain ⟨lv, h1, h2⟩ := eb_lo_f2 hl
  subst hL
  exact lv_lstore X.1 X.2.1 hd h1 hn rfl (fun ls' hl' => (k out ho p e s m args below meth c Q R hR X as ls' _ H locs (h2 _ _ _ _ rfl hl') hs1 hW hS kr))

theorem eb_iinc {i : Nat} {n : Int} {x v : Int32} {L' : List (Nat × Value)} (j : Nat) (hd : decode cc pc = .ok (.iinc i n, 3)) (hj : L[j]? = some (i, .int x)) (hv : x + Int32.ofInt n = v) (hn : i < nL) (hL : (i, Value.int v) :: eb_f1 i L = L') (k : eb_go G y cc nL rt fr mc ms ri enc (pc + 3) L' st σ cn sn o) : eb_go G y cc nL rt fr mc ms ri enc pc L st σ cn sn o := by
  intro out ho p e s m args below meth c Q R hR X as ls cst H locs hl hs hW hS kr
  obtain ⟨w, h3, h4⟩ := eb_lo_at hl hj
  cases h3
  obtain ⟨lv, h1, h2⟩ := eb_lo_f1 hl
  have h5 : lv_has ls nL ((i, .int x) :: lv) := ⟨h1.1, h1.2.1, fun q hq => by
    rcases List.mem_cons.mp hq with rfl | hq
    · exact h4
    · exact h1.2.2 q hq⟩
  subst hL
  refine lv_iinc (k := 0) X.1 X.2.1 hd h5 rfl hv hn rfl (fun ls' hl' => (k out ho p e s m args below meth c Q R hR X as ls' _ H locs (h2 _ _ _ _ rfl ?_) hs hW hS kr))
  refine ⟨hl'.1, hl'.2.1, fun q hq => hl'.2.2 q ?_⟩
  rcases List.mem_cons.mp hq with rfl | hq
  · exact List.mem_cons_self
  · have := List.mem_filter.mp hq
    exact List.mem_cons_of_mem _ (List.mem_filter.mpr ⟨List.mem_cons_of_mem _ this.1, this.2⟩)

theorem eb_dup {v : Value} (hd : decode cc pc = .ok (.dup, 1)) (hc : v.category = 1) (k : eb_go G y cc nL rt fr mc ms ri enc (pc + 1) L (v :: v :: st) σ cn sn o) : eb_go G y cc nL rt fr mc ms ri enc pc L (v :: st) σ cn sn o := by
  intro out ho p e s m args below meth c Q R hR X as ls cst H locs hl hs hW hS kr
  obtain ⟨w, c1, rfl, hv, hs1⟩ := eb_st_cons hs
  exact lv_dup X.1 X.2.1 hd (by rw [eb_v_cat hv]; exact hc) (k out ho p e s m args below meth c Q R hR X as ls _ H locs hl ⟨hv, hv, hs1⟩ hW hS kr)

theorem eb_pop {v : Value} (hd : decode cc pc = .ok (.pop, 1)) (hc : v.category = 1) (k : eb_go G y cc nL rt fr mc ms ri enc (pc + 1) L st σ cn sn o) : eb_go G y cc nL rt fr mc ms ri enc pc L (v :: st) σ cn sn o := by
  intro out ho p e s m args below meth c Q R hR X as ls cst H locs hl hs hW hS kr
  obtain ⟨w, c1, rfl, hv, hs1⟩ := eb_st_cons hs
  exact lv_pop X.1 X.2.1 hd (by rw [eb_v_cat hv]; exact hc) (k out ho p e s m args below meth c Q R hR X as ls _ H locs hl hs1 hW hS kr)

theorem eb_dup_x1 {v u : Value} (hd : decode cc pc = .ok (.dup_x1, 1)) (hc : v.category = 1) (hc2 : u.category = 1) (k : eb_go G y cc nL rt fr mc ms ri enc (pc + 1) L (v :: u :: v :: st) σ cn sn o) : eb_go G y cc nL rt fr mc ms ri enc pc L (v :: u :: st) σ cn sn o := by
  intro out ho p e s m args below meth c Q R hR X as ls cst H locs hl hs hW hS kr
  obtain ⟨w, c1, rfl, hv, hs1⟩ := eb_st_cons hs
  obtain ⟨w2, c2, rfl, hu, hs2⟩ := eb_st_cons hs1
  exact lv_dup_x1 X.1 X.2.1 hd (by rw [eb_v_cat hv]; exact hc) (by rw [eb_v_cat hu]; exact hc2) (k out ho p e s m args below meth c Q R hR X as ls _ H locs hl ⟨hv, hu, hv, hs2⟩ hW hS kr)

theorem eb_dup2 {v u : Value} (hd : decode cc pc = .ok (.dup2, 1)) (hc : v.category = 1) (hc2 : u.category = 1) (k : eb_go G y cc nL rt fr mc ms ri enc (pc + 1) L (v :: u :: v :: u :: st) σ cn sn o) : eb_go G y cc nL rt fr mc ms ri enc pc L (v :: u :: st) σ cn sn o := by
  intro out ho p e s m args below meth c Q R hR X as ls cst H locs hl hs hW hS kr
  obtain ⟨w, c1, rfl, hv, hs1⟩ := eb_st_cons hs
  obtain ⟨w2, c2, rfl, hu, hs2⟩ := eb_st_cons hs1
  exact lv_dup2_11 X.1 X.2.1 hd (by rw [eb_v_cat hv]; exact hc) (by rw [eb_v_cat hu]; exact hc2) (k out ho p e s m args below meth c Q R hR X as ls _ H locs hl ⟨hv, hu, hv, hu, hs2⟩ hW hS kr)

theorem eb_icmp_eq {a : Int32} {b : Int32} {off : Int} {tgt : Nat} (hd : decode cc pc = .ok (.if_icmp .eq off, 3)) (ht : (pc : Int) + off = (tgt : Int)) (kt : eb_go G y cc nL rt fr mc ms ri enc tgt L st σ cn sn o1) (kf : eb_go G y cc nL rt fr mc ms ri enc (pc + 3) L st σ cn sn o2) : eb_go G y cc nL rt fr mc ms ri enc pc L (.int b :: .int a :: st) σ cn sn (if a = b then o1 else o2) := by
  intro out ho p e s m args below meth c Q R hR X as ls cst H locs hl hs hW hS kr
  obtain ⟨c_b, rfl, hs1⟩ := eb_st_i hs
  obtain ⟨c_a, rfl, hs2⟩ := eb_st_i hs1
  exact lv_icmp_eq X.1 X.2.1 hd ht (fun hc => (kt out (by rw [if_pos hc] at ho; exact ho) p e s m args below meth c Q R hR X as ls _ H locs hl hs2 hW hS kr)) (fun hc => (kf out (by rw [if_neg hc] at ho; exact ho) p e s m args below meth c Q R hR X as ls _ H locs hl hs2 hW hS kr))

theorem eb_icmp_ne {a : Int32} {b : Int32} {off : Int} {tgt : Nat} (hd : decode cc pc = .ok (.if_icmp .ne off, 3)) (ht : (pc : Int) + off = (tgt : Int)) (kt : eb_go G y cc nL rt fr mc ms ri enc tgt L st σ cn sn o1) (kf : eb_go G y cc nL rt fr mc ms ri enc (pc + 3) L st σ cn sn o2) : eb_go G y cc nL rt fr mc ms ri enc pc L (.int b :: .int a :: st) σ cn sn (if a = b then o2 else o1) := by
  intro out ho p e s m args below meth c Q R hR X as ls cst H locs hl hs hW hS kr
  obtain ⟨c_b, rfl, hs1⟩ := eb_st_i hs
  obtain ⟨c_a, rfl, hs2⟩ := eb_st_i hs1
  exact lv_icmp_ne X.1 X.2.1 hd ht (fun hc => (kt out (by rw [if_neg hc] at ho; exact ho) p e s m args below meth c Q R hR X as ls _ H locs hl hs2 hW hS kr)) (fun hc => (kf out (by rw [if_pos hc] at ho; exact ho) p e s m args below meth c Q R hR X as ls _ H locs hl hs2 hW hS kr))

theorem eb_icmp_lt {a : Int32} {b : Int32} {off : Int} {tgt : Nat} (hd : decode cc pc = .ok (.if_icmp .lt off, 3)) (ht : (pc : Int) + off = (tgt : Int)) (kt : eb_go G y cc nL rt fr mc ms ri enc tgt L st σ cn sn o1) (kf : eb_go G y cc nL rt fr mc ms ri enc (pc + 3) L st σ cn sn o2) : eb_go G y cc nL rt fr mc ms ri enc pc L (.int b :: .int a :: st) σ cn sn (if a < b then o1 else o2) := by
  intro out ho p e s m args below meth c Q R hR X as ls cst H locs hl hs hW hS kr
  obtain ⟨c_b, rfl, hs1⟩ := eb_st_i hs
  obtain ⟨c_a, rfl, hs2⟩ := eb_st_i hs1
  exact lv_icmp_lt X.1 X.2.1 hd ht (fun hc => (kt out (by rw [if_pos hc] at ho; exact ho) p e s m args below meth c Q R hR X as ls _ H locs hl hs2 hW hS kr)) (fun hc => (kf out (by rw [if_neg hc] at ho; exact ho) p e s m args below meth c Q R hR X as ls _ H locs hl hs2 hW hS kr))

theorem eb_icmp_ge {a : Int32} {b : Int32} {off : Int} {tgt : Nat} (hd : decode cc pc = .ok (.if_icmp .ge off, 3)) (ht : (pc : Int) + off = (tgt : Int)) (kt : eb_go G y cc nL rt fr mc ms ri enc tgt L st σ cn sn o1) (kf : eb_go G y cc nL rt fr mc ms ri enc (pc + 3) L st σ cn sn o2) : eb_go G y cc nL rt fr mc ms ri enc pc L (.int b :: .int a :: st) σ cn sn (if b ≤ a then o1 else o2) := by
  intro out ho p e s m args below meth c Q R hR X as ls cst H locs hl hs hW hS kr
  obtain ⟨c_b, rfl, hs1⟩ := eb_st_i hs
  obtain ⟨c_a, rfl, hs2⟩ := eb_st_i hs1
  exact lv_icmp_ge X.1 X.2.1 hd ht (fun hc => (kt out (by rw [if_pos hc] at ho; exact ho) p e s m args below meth c Q R hR X as ls _ H locs hl hs2 hW hS kr)) (fun hc => (kf out (by rw [if_neg hc] at ho; exact ho) p e s m args below meth c Q R hR X as ls _ H locs hl hs2 hW hS kr))

theorem eb_icmp_gt {a : Int32} {b : Int32} {off : Int} {tgt : Nat} (hd : decode cc pc = .ok (.if_icmp .gt off, 3)) (ht : (pc : Int) + off = (tgt : Int)) (kt : eb_go G y cc nL rt fr mc ms ri enc tgt L st σ cn sn o1) (kf : eb_go G y cc nL rt fr mc ms ri enc (pc + 3) L st σ cn sn o2) : eb_go G y cc nL rt fr mc ms ri enc pc L (.int b :: .int a :: st) σ cn sn (if b < a then o1 else o2) := by
  intro out ho p e s m args below meth c Q R hR X as ls cst H locs hl hs hW hS kr
  obtain ⟨c_b, rfl, hs1⟩ := eb_st_i hs
  obtain ⟨c_a, rfl, hs2⟩ := eb_st_i hs1
  exact lv_icmp_gt X.1 X.2.1 hd ht (fun hc => (kt out (by rw [if_pos hc] at ho; exact ho) p e s m args below meth c Q R hR X as ls _ H locs hl hs2 hW hS kr)) (fun hc => (kf out (by rw [if_neg hc] at ho; exact ho) p e s m args below meth c Q R hR X as ls _ H locs hl hs2 hW hS kr))

theorem eb_icmp_le {a : Int32} {b : Int32} {off : Int} {tgt : Nat} (hd : decode cc pc = .ok (.if_icmp .le off, 3)) (ht : (pc : Int) + off = (tgt : Int)) (kt : eb_go G y cc nL rt fr mc ms ri enc tgt L st σ cn sn o1) (kf : eb_go G y cc nL rt fr mc ms ri enc (pc + 3) L st σ cn sn o2) : eb_go G y cc nL rt fr mc ms ri enc pc L (.int b :: .int a :: st) σ cn sn (if a ≤ b then o1 else o2) := by
  intro out ho p e s m args below meth c Q R hR X as ls cst H locs hl hs hW hS kr
  obtain ⟨c_b, rfl, hs1⟩ := eb_st_i hs
  obtain ⟨c_a, rfl, hs2⟩ := eb_st_i hs1
  exact lv_icmp_le X.1 X.2.1 hd ht (fun hc => (kt out (by rw [if_pos hc] at ho; exact ho) p e s m args below meth c Q R hR X as ls _ H locs hl hs2 hW hS kr)) (fun hc => (kf out (by rw [if_neg hc] at ho; exact ho) p e s m args below meth c Q R hR X as ls _ H locs hl hs2 hW hS kr))

theorem eb_if_eq {a : Int32} {off : Int} {tgt : Nat} (hd : decode cc pc = .ok (.ifCond .eq off, 3)) (ht : (pc : Int) + off = (tgt : Int)) (kt : eb_go G y cc nL rt fr mc ms ri enc tgt L st σ cn sn o1) (kf : eb_go G y cc nL rt fr mc ms ri enc (pc + 3) L st σ cn sn o2) : eb_go G y cc nL rt fr mc ms ri enc pc L (.int a :: st) σ cn sn (if a = 0 then o1 else o2) := by
  intro out ho p e s m args below meth c Q R hR X as ls cst H locs hl hs hW hS kr
  obtain ⟨c_a, rfl, hs1⟩ := eb_st_i hs
  exact lv_if_eq X.1 X.2.1 hd ht (fun hc => (kt out (by rw [if_pos hc] at ho; exact ho) p e s m args below meth c Q R hR X as ls _ H locs hl hs1 hW hS kr)) (fun hc => (kf out (by rw [if_neg hc] at ho; exact ho) p e s m args below meth c Q R hR X as ls _ H locs hl hs1 hW hS kr))

theorem eb_if_ne {a : Int32} {off : Int} {tgt : Nat} (hd : decode cc pc = .ok (.ifCond .ne off, 3)) (ht : (pc : Int) + off = (tgt : Int)) (kt : eb_go G y cc nL rt fr mc ms ri enc tgt L st σ cn sn o1) (kf : eb_go G y cc nL rt fr mc ms ri enc (pc + 3) L st σ cn sn o2) : eb_go G y cc nL rt fr mc ms ri enc pc L (.int a :: st) σ cn sn (if a = 0 then o2 else o1) := by
  intro out ho p e s m args below meth c Q R hR X as ls cst H locs hl hs hW hS kr
  obtain ⟨c_a, rfl, hs1⟩ := eb_st_i hs
  exact lv_if_ne X.1 X.2.1 hd ht (fun hc => (kt out (by rw [if_neg hc] at ho; exact ho) p e s m args below meth c Q R hR X as ls _ H locs hl hs1 hW hS kr)) (fun hc => (kf out (by rw [if_pos hc] at ho; exact ho) p e s m args below meth c Q R hR X as ls _ H locs hl hs1 hW hS kr))

theorem eb_if_lt {a : Int32} {off : Int} {tgt : Nat} (hd : decode cc pc = .ok (.ifCond .lt off, 3)) (ht : (pc : Int) + off = (tgt : Int)) (kt : eb_go G y cc nL rt fr mc ms ri enc tgt L st σ cn sn o1) (kf : eb_go G y cc nL rt fr mc ms ri enc (pc + 3) L st σ cn sn o2) : eb_go G y cc nL rt fr mc ms ri enc pc L (.int a :: st) σ cn sn (if a < 0 then o1 else o2) := by
  intro out ho p e s m args below meth c Q R hR X as ls cst H locs hl hs hW hS kr
  obtain ⟨c_a, rfl, hs1⟩ := eb_st_i hs
  exact lv_if_lt X.1 X.2.1 hd ht (fun hc => (kt out (by rw [if_pos hc] at ho; exact ho) p e s m args below meth c Q R hR X as ls _ H locs hl hs1 hW hS kr)) (fun hc => (kf out (by rw [if_neg hc] at ho; exact ho) p e s m args below meth c Q R hR X as ls _ H locs hl hs1 hW hS kr))

theorem eb_if_ge {a : Int32} {off : Int} {tgt : Nat} (hd : decode cc pc = .ok (.ifCond .ge off, 3)) (ht : (pc : Int) + off = (tgt : Int)) (kt : eb_go G y cc nL rt fr mc ms ri enc tgt L st σ cn sn o1) (kf : eb_go G y cc nL rt fr mc ms ri enc (pc + 3) L st σ cn sn o2) : eb_go G y cc nL rt fr mc ms ri enc pc L (.int a :: st) σ cn sn (if 0 ≤ a then o1 else o2) := by
  intro out ho p e s m args below meth c Q R hR X as ls cst H locs hl hs hW hS kr
  obtain ⟨c_a, rfl, hs1⟩ := eb_st_i hs
  exact lv_if_ge X.1 X.2.1 hd ht (fun hc => (kt out (by rw [if_pos hc] at ho; exact ho) p e s m args below meth c Q R hR X as ls _ H locs hl hs1 hW hS kr)) (fun hc => (kf out (by rw [if_neg hc] at ho; exact ho) p e s m args below meth c Q R hR X as ls _ H locs hl hs1 hW hS kr))

theorem eb_if_gt {a : Int32} {off : Int} {tgt : Nat} (hd : decode cc pc = .ok (.ifCond .gt off, 3)) (ht : (pc : Int) + off = (tgt : Int)) (kt : eb_go G y cc nL rt fr mc ms ri enc tgt L st σ cn sn o1) (kf : eb_go G y cc nL rt fr mc ms ri enc (pc + 3) L st σ cn sn o2) : eb_go G y cc nL rt fr mc ms ri enc pc L (.int a :: st) σ cn sn (if 0 < a then o1 else o2) := by
  intro out ho p e s m args below meth c Q R hR X as ls cst H locs hl hs hW hS kr
  obtain ⟨c_a, rfl, hs1⟩ := eb_st_i hs
  exact lv_if_gt X.1 X.2.1 hd ht (fun hc => (kt out (by rw [if_pos hc] at ho; exact ho) p e s m args below meth c Q R hR X as ls _ H locs hl hs1 hW hS kr)) (fun hc => (kf out (by rw [if_neg hc] at ho; exact ho) p e s m args below meth c Q R hR X as ls _ H locs hl hs1 hW hS kr))

theorem eb_if_le {a : Int32} {off : Int} {tgt : Nat} (hd : decode cc pc = .ok (.ifCond .le off, 3)) (ht : (pc : Int) + off = (tgt : Int)) (kt : eb_go G y cc nL rt fr mc ms ri enc tgt L st σ cn sn o1) (kf : eb_go G y cc nL rt fr mc ms ri enc (pc + 3) L st σ cn sn o2) : eb_go G y cc nL rt fr mc ms ri enc pc L (.int a :: st) σ cn sn (if a ≤ 0 then o1 else o2) := by
  intro out ho p e s m args below meth c Q R hR X as ls cst H locs hl hs hW hS kr
  obtain ⟨c_a, rfl, hs1⟩ := eb_st_i hs
  exact lv_if_le X.1 X.2.1 hd ht (fun hc => (kt out (by rw [if_pos hc] at ho; exact ho) p e s m args below meth c Q R hR X as ls _ H locs hl hs1 hW hS kr)) (fun hc => (kf out (by rw [if_neg hc] at ho; exact ho) p e s m args below meth c Q R hR X as ls _ H locs hl hs1 hW hS kr))

theorem eb_goto {off : Int} {tgt : Nat} (hd : decode cc pc = .ok (.goto off, 3)) (ht : (pc : Int) + off = (tgt : Int)) (k : eb_go G y cc nL rt fr mc ms ri enc tgt L st σ cn sn o) : eb_go G y cc nL rt fr mc ms ri enc pc L st σ cn sn o := by
  intro out ho p e s m args below meth c Q R hR X as ls cst H locs hl hs hW hS kr
  exact lv_goto X.1 X.2.1 hd ht (k out ho p e s m args below meth c Q R hR X as ls _ H locs hl hs hW hS kr)

theorem eb_table {dflt lo hi : Int} {offs : Array Int} {len : Nat} {x : Int32} (hd : decode cc pc = .ok (.tableswitch dflt lo hi offs, len)) {tg : Nat → Nat} {td : Nat} {os : Nat → Option (ρ × eb_S)} {od : Option (ρ × eb_S)} (hlo : lo = 0) (htd : (pc : Int) + dflt = (td : Int)) (hn : 0 ≤ hi)
    (htg : ∀ j : Nat, (j : Int) ≤ hi → ∃ off, offs[j]? = some off ∧ (pc : Int) + off = (tg j : Int)) (kd : eb_go G y cc nL rt fr mc ms ri enc td L st σ cn sn od) (kt : ∀ j : Nat, (j : Int) ≤ hi → eb_go G y cc nL rt fr mc ms ri enc (tg j) L st σ cn sn (os j)) : eb_go G y cc nL rt fr mc ms ri enc pc L (.int x :: st) σ cn sn (if x.toInt < 0 ∨ hi < x.toInt then od else os x.toInt.toNat) := by
  intro out ho p e s m args below meth c Q R hR X as ls cst H locs hl hs hW hS kr
  obtain ⟨c_x, rfl, hs1⟩ := eb_st_i hs
  subst hlo
  by_cases hc : x.toInt < 0 ∨ hi < x.toInt
  · rw [if_pos hc] at ho
    exact lv_tableOut X.1 X.2.1 hd hc htd (kd out ho p e s m args below meth c Q R hR X as ls _ H locs hl hs1 hW hS kr)
  · rw [if_neg hc] at ho
    have h1 : ¬ x.toInt < 0 := fun h => hc (Or.inl h)
    have h2 : ¬ hi < x.toInt := fun h => hc (Or.inr h)
    have h3 : (x.toInt.toNat : Int) ≤ hi := by omega
    obtain ⟨off, h4, h5⟩ := htg _ h3
    exact lv_tableIn X.1 X.2.1 hd h1 h2 (by rw [Int.sub_zero]; exact h4) h5 ((kt _ h3) out ho p e s m args below meth c Q R hR X as ls _ H locs hl hs1 hW hS kr)

theorem eb_lookup {dflt : Int} {ps : Array (Int × Int)} {len : Nat} {x : Int32} {off : Int} {tgt : Nat} (hd : decode cc pc = .ok (.lookupswitch dflt ps, len)) (hp : (ps.toList.zip (ps.toList.drop 1)).all (fun (a, next) => a.1 < next.1) = true) (ho1 : Op.lookupswitch.offset ps.toList dflt x.toInt = off) (ht : (pc : Int) + off = (tgt : Int)) (k : eb_go G y cc nL rt fr mc ms ri enc tgt L st σ cn sn o) : eb_go G y cc nL rt fr mc ms ri enc pc L (.int x :: st) σ cn sn o := by
  intro out ho p e s m args below meth c Q R hR X as ls cst H locs hl hs hW hS kr
  obtain ⟨c_x, rfl, hs1⟩ := eb_st_i hs
  exact lv_lookup X.1 X.2.1 hd hp ho1 ht (k out ho p e s m args below meth c Q R hR X as ls _ H locs hl hs1 hW hS kr)

theorem eb_iret {x : Int32} (hd : decode cc pc = .ok (.ireturn, 1)) (hc : cn ≤ mc) (hs : sn ≤ ms) : eb_go G y cc nL rt fr mc ms .ireturn (fun r : Int32 => [.int r]) pc L [.int x] σ cn sn (some (x, σ)) := by
  intro out ho p e s m args below meth c Q R hR X as ls cst H locs hl hst hW hS kr
  obtain ⟨c_x, rfl, hst1⟩ := eb_st_i hst
  cases eb_st_nil hst1
  cases ho
  exact kr as ls H locs pc cn sn (List.prefix_refl as) hW hS hc hs hd

theorem eb_lret {x : Int64} (hd : decode cc pc = .ok (.lreturn, 1)) (hc : cn ≤ mc) (hs : sn ≤ ms) : eb_go G y cc nL rt fr mc ms .lreturn (fun r : Int64 => [.long r]) pc L [.long x] σ cn sn (some (x, σ)) := by
  intro out ho p e s m args below meth c Q R hR X as ls cst H locs hl hst hW hS kr
  obtain ⟨c_x, rfl, hst1⟩ := eb_st_l hst
  cases eb_st_nil hst1
  cases ho
  exact kr as ls H locs pc cn sn (List.prefix_refl as) hW hS hc hs hd

theorem eb_vret (hd : decode cc pc = .ok (.return_, 1)) (hc : cn ≤ mc) (hs : sn ≤ ms) : eb_go G y cc nL rt fr mc ms .return_ (fun _ : Unit => []) pc L [] σ cn sn (some ((), σ)) := by
  intro out ho p e s m args below meth c Q R hR X as ls cst H locs hl hst hW hS kr
  cases eb_st_nil hst
  cases ho
  exact kr as ls H locs pc cn sn (List.prefix_refl as) hW hS hc hs hd

theorem eb_sub {L' : List (Nat × Value)} (ks : List Nat) (hL : lv_pick L ks = L') (k : eb_go G y cc nL rt fr mc ms ri enc pc L' st σ cn sn o) : eb_go G y cc nL rt fr mc ms ri enc pc L st σ cn sn o := by
  intro out ho p e s m args below meth c Q R hR X as ls cst H locs hl hs hW hS kr
  exact (k out ho p e s m args below meth c Q R hR X as ls _ H locs (eb_lo_sub hl ks hL) hs hW hS kr)
theorem eb_none : eb_go G y cc nL rt fr mc ms ri enc pc L st σ cn sn none := by
  intro out ho
  cases ho
theorem eb_wide {cn' sn' : Nat} (h1 : cn ≤ cn') (h2 : sn ≤ sn') (k : eb_go G y cc nL rt fr mc ms ri enc pc L st σ cn' sn' o) : eb_go G y cc nL rt fr mc ms ri enc pc L st σ cn sn o := by
  intro out ho p e s m args below meth c Q R hR X as ls cst H locs hl hs hW hS kr
  exact W.widen h1 h2 (k out ho p e s m args below meth c Q R hR X as ls _ H locs hl hs hW hS kr)

end EBR
end
section
/-! ===== the store's own operations, in continuation form, and their rows ===== -/
def eb_in (i : Int32) (n : Nat) : Bool := decide (¬ (i < 0 ∨ n ≤ i.toNatClampNeg))
def eb_gI {τ : Type} (σ : eb_S) (cs : List Nat) (k j : Nat) (K : Int32 → Option τ) : Option τ := if eb_T σ k ∈ cs then K (eb_I σ k j) else none
def eb_gR {τ : Type} (σ : eb_S) (cs : List Nat) (k j : Nat) (K : Nat → Option τ) : Option τ := if eb_T σ k ∈ cs ∧ eb_R σ k j ≠ 0 then K (eb_R σ k j) else none
def eb_pI {τ : Type} (σ : eb_S) (cs : List Nat) (k j : Nat) (x : Int32) (K : eb_S → Option τ) : Option τ := if eb_T σ k ∈ cs then K (eb_sI σ k j x) else none
def eb_pZ {τ : Type} (σ : eb_S) (cs : List Nat) (k j : Nat) (x : Int32) (K : eb_S → Option τ) : Option τ := if eb_T σ k ∈ cs ∧ (x = 0 ∨ x = 1) then K (eb_sI σ k j x) else none
def eb_pR {τ : Type} (σ : eb_S) (cs : List Nat) (k j r : Nat) (K : eb_S → Option τ) : Option τ := if eb_T σ k ∈ cs then K (eb_sR σ k j r) else none
def eb_ai {τ : Type} (σ : eb_S) (k : Nat) (i : Int32) (K : Int32 → Option τ) : Option τ := if eb_T σ k = 11 ∧ eb_in i (eb_L σ k) = true then K (eb_I σ k i.toNatClampNeg) else none
def eb_ac {τ : Type} (σ : eb_S) (k : Nat) (i : Int32) (K : Int32 → Option τ) : Option τ := if eb_T σ k = 10 ∧ eb_in i (eb_L σ k) = true then K (eb_I σ k i.toNatClampNeg) else none
def eb_al {τ : Type} (σ : eb_S) (k : Nat) (i : Int32) (K : Int64 → Option τ) : Option τ := if eb_T σ k = 12 ∧ eb_in i (eb_L σ k) = true then K (eb_J σ k i.toNatClampNeg) else none
def eb_ar {τ : Type} (σ : eb_S) (k : Nat) (i : Int32) (K : Nat → Option τ) : Option τ := if eb_T σ k = 13 ∧ eb_in i (eb_L σ k) = true ∧ eb_R σ k i.toNatClampNeg ≠ 0 then K (eb_R σ k i.toNatClampNeg) else none
def eb_wi {τ : Type} (σ : eb_S) (k : Nat) (i x : Int32) (K : eb_S → Option τ) : Option τ := if eb_T σ k = 11 ∧ eb_in i (eb_L σ k) = true then K (eb_sI σ k i.toNatClampNeg x) else none
def eb_wc {τ : Type} (σ : eb_S) (k : Nat) (i x : Int32) (K : eb_S → Option τ) : Option τ := if eb_T σ k = 10 ∧ eb_in i (eb_L σ k) = true then K (eb_sI σ k i.toNatClampNeg (vp_nar .char x)) else none
def eb_wl {τ : Type} (σ : eb_S) (k : Nat) (i : Int32) (x : Int64) (K : eb_S → Option τ) : Option τ := if eb_T σ k = 12 ∧ eb_in i (eb_L σ k) = true then K (eb_sJ σ k i.toNatClampNeg x) else none
def eb_wr {τ : Type} (σ : eb_S) (k : Nat) (i : Int32) (r : Nat) (K : eb_S → Option τ) : Option τ := if eb_T σ k = 13 ∧ eb_in i (eb_L σ k) = true ∧ eb_T σ r = 6 then K (eb_sR σ k i.toNatClampNeg r) else none
def eb_ln {τ : Type} (σ : eb_S) (k : Nat) (K : Int32 → Option τ) : Option τ := if 10 ≤ eb_T σ k ∧ eb_T σ k < 14 then K (Int32.ofNat (eb_L σ k)) else none
def eb_no {τ : Type} (σ : eb_S) (ci n : Nat) (K : Nat → eb_S → Option τ) : Option τ := K (eb_N σ + 8) (eb_new σ ci n)
def eb_na {τ : Type} (σ : eb_S) (t B : Nat) (i : Int32) (K : Nat → eb_S → Option τ) : Option τ := if ¬ i < 0 ∧ i.toNatClampNeg ≤ B then K (eb_N σ + 8) (eb_new σ t i.toNatClampNeg) else none
def eb_ci {τ : Type} (σ : eb_S) (k1 : Nat) (sp : Int32) (k2 : Nat) (dp n : Int32) (K : eb_S → Option τ) : Option τ := if eb_T σ k1 = 11 ∧ eb_T σ k2 = 11 ∧ ¬ sp < 0 ∧ ¬ dp < 0 ∧ ¬ n < 0 ∧ sp.toNatClampNeg + n.toNatClampNeg ≤ eb_L σ k1 ∧ dp.toNatClampNeg + n.toNatClampNeg ≤ eb_L σ k2 then K (eb_rI σ k2 (va_cpy (eb_I σ k1) (eb_I σ k2) sp.toNatClampNeg dp.toNatClampNeg n.toNatClampNeg)) else none
def eb_cj {τ : Type} (σ : eb_S) (k1 : Nat) (sp : Int32) (k2 : Nat) (dp n : Int32) (K : eb_S → Option τ) : Option τ := if eb_T σ k1 = 12 ∧ eb_T σ k2 = 12 ∧ ¬ sp < 0 ∧ ¬ dp < 0 ∧ ¬ n < 0 ∧ sp.toNatClampNeg + n.toNatClampNeg ≤ eb_L σ k1 ∧ dp.toNatClampNeg + n.toNatClampNeg ≤ eb_L σ k2 then K (eb_rJ σ k2 (va_cpy (eb_J σ k1) (eb_J σ k2) sp.toNatClampNeg dp.toNatClampNeg n.toNatClampNeg)) else none
/-- a fixed row: its length, its contents -/
def eb_xi {τ : Type} (n : Nat) (f : Nat → Int32) (i : Int32) (K : Int32 → Option τ) : Option τ := if eb_in i n = true then K (f i.toNatClampNeg) else none
/-- a call's answer goes on -/
def eb_cl {ρ τ : Type} (o : Option (ρ × eb_S)) (K : ρ → eb_S → Option τ) : Option τ := match o with
  | some q => K q.1 q.2
  | none => none
/-- what a field instruction needs of the tables -/
def eb_fo (own : String) (idx : Nat) (cs : List Nat) (j : Nat) (isr : Bool) : Prop := ∀ ci ∈ cs, ∃ q : vw_C, vwCl[ci]? = some q ∧ (∀ w ∈ u_ws q.1 q.2.1 q.2.2, w ∈ eb_tbl) ∧ j < q.2.2 ∧ eb_isR ci j = isr ∧ ∃ ref, Cond.fieldLink own idx ref (q.2.1 j).2.1 (q.2.1 j).2.2.1 ∈ eb_tbl ∧ (ref = (q.2.1 j).1 ∨ Cond.sameField ref (q.2.1 j).1 (q.2.1 j).2.1 (q.2.1 j).2.2.1 ∈ eb_tbl)
def eb_cu : Nat → Bool := fun ci => match vwCl[ci]? with
  | none => false
  | some q => (List.range q.2.2).all fun a => (List.range q.2.2).all fun b => (a == b || (q.2.1 a).2.1 != (q.2.1 b).2.1) && (parseFieldDescriptor (q.2.1 a).2.2.1).isSome
theorem eb_cu_ok : ∀ ci, ci < 10 → eb_cu ci = true := by decide +kernel
theorem eb_vw_lt {ci : Nat} {q : vw_C} (h : vwCl[ci]? = some q) : ci < 10 := (List.getElem?_eq_some_iff.mp h).1
theorem eb_nm {ci : Nat} {q : vw_C} (h : vwCl[ci]? = some q) : ∀ a, a < q.2.2 → ∀ b, b < q.2.2 → a ≠ b → (q.2.1 a).2.1 ≠ (q.2.1 b).2.1 := by
  intro a ha b hb hab he
  have h1 := eb_cu_ok ci (eb_vw_lt h)
  rw [eb_cu, h] at h1
  have h2 := List.all_eq_true.mp (List.all_eq_true.mp h1 a (List.mem_range.mpr ha)) b (List.mem_range.mpr hb)
  simp [hab, he] at h2
theorem eb_tys {ci : Nat} {q : vw_C} (h : vwCl[ci]? = some q) : ∀ a, a < q.2.2 → parseFieldDescriptor (q.2.1 a).2.2.1 = some ((parseFieldDescriptor (q.2.1 a).2.2.1).getD .int) := by
  intro a ha
  have h1 := eb_cu_ok ci (eb_vw_lt h)
  rw [eb_cu, h] at h1
  have h2 := List.all_eq_true.mp (List.all_eq_true.mp h1 a (List.mem_range.mpr ha)) a (List.mem_range.mpr ha)
  simp only [Bool.and_eq_true] at h2
  cases h3 : parseFieldDescriptor (q.2.1 a).2.2.1 with
  | none => rw [h3] at h2; cases h2.2
  | some t => rfl
theorem eb_rv_pos {G : eb_G} {as : List Nat} {r : Nat} {w : Value} (h : eb_rv G as r w) (hr : r ≠ 0) : ∃ a, eb_a G as r = some a ∧ w = .ref a := by
  rcases h with ⟨h, -⟩ | h
  · exact absurd h hr
  · exact h
theorem eb_T8 {G : eb_G} {as : List Nat} {σ : eb_S} {H : Heap} (hW : eb_W G as σ H) {k a : Nat} (ht : eb_T σ k < 14) (ha : eb_a G as k = some a) : 8 ≤ k ∧ as[k - 8]? = some a := by
  obtain ⟨ws, -, -, -, -, h⟩ := hW
  obtain ⟨h8, a', e, h1, -⟩ := h k ht
  unfold eb_a at ha
  rw [if_neg (by omega), if_neg (by omega)] at ha
  exact ⟨h8, ha⟩
/-- a cell of the world, by its number -/
theorem eb_W_at {G : eb_G} {as : List Nat} {σ : eb_S} {ws : va_W} (h : ∀ k, eb_T σ k < 14 → 8 ≤ k ∧ ∃ a e, as[k - 8]? = some a ∧ ws[k - 8]? = some (a, e) ∧ eb_C G as σ k e) {k a : Nat} (ht : eb_T σ k < 14) (ha : eb_a G as k = some a) : 8 ≤ k ∧ ∃ e, ws[k - 8]? = some (a, e) ∧ eb_C G as σ k e := by
  obtain ⟨h8, a', e, h1, h2, h3⟩ := h k ht
  unfold eb_a at ha
  rw [if_neg (by omega), if_neg (by omega), h1] at ha
  cases ha
  exact ⟨h8, e, h2, h3⟩
theorem eb_C_obj {G : eb_G} {as : List Nat} {σ : eb_S} {k : Nat} {e : va_E} (h : eb_C G as σ k e) {q : vw_C} (hq : vwCl[eb_T σ k]? = some q) : ∃ fs : List Value, e = .inr (eb_T σ k, fs) ∧ fs.length = q.2.2 ∧ ∀ j, j < q.2.2 → ∃ w, fs[j]? = some w ∧ eb_fv G as σ (eb_T σ k) k j w := by
  unfold eb_C at h
  rw [if_pos (eb_vw_lt hq)] at h
  obtain ⟨q', fs, h1, h2⟩ := h
  cases hq.symm.trans h1
  exact ⟨fs, h2⟩
theorem eb_C_arr {G : eb_G} {as : List Nat} {σ : eb_S} {k : Nat} {e : va_E} (h : eb_C G as σ k e) (h1 : ¬ eb_T σ k < 10) (h2 : eb_T σ k < 12) : e = .inl (eb_gc G (eb_T σ k), eb_L σ k, .inl (eb_I σ k)) := by
  unfold eb_C at h
  rw [if_neg h1, if_pos h2] at h
  exact h
theorem eb_C_lng {G : eb_G} {as : List Nat} {σ : eb_S} {k : Nat} {e : va_E} (h : eb_C G as σ k e) (h1 : eb_T σ k = 12) : e = .inl (eb_gc G 12, eb_L σ k, .inr (.inl (eb_J σ k))) := by
  unfold eb_C at h
  rw [if_neg (by omega), if_neg (by omega), if_pos h1] at h
  exact h
theorem eb_C_ref {G : eb_G} {as : List Nat} {σ : eb_S} {k : Nat} {e : va_E} (h : eb_C G as σ k e) (h1 : eb_T σ k = 13) : ∃ f : Nat → Option Nat, e = .inl (eb_gc G 13, eb_L σ k, .inr (.inr (.inr (.inr f)))) ∧ ∀ j, j < eb_L σ k → eb_rv G as (eb_R σ k j) (va_rf (f j)) := by
  unfold eb_C at h
  rw [if_neg (by omega), if_neg (by omega), if_neg (by omega)] at h
  exact h
theorem eb_up_s {α : Type} {f : Nat → α} {k : Nat} {x : α} : eb_up f k x k = x := by simp [eb_up]
theorem eb_up_n {α : Type} {f : Nat → α} {k j : Nat} {x : α} (h : j ≠ k) : eb_up f k x j = f j := by simp [eb_up, h]
/-- a world in which the cell k alone is another one -/
theorem eb_W_set {G : eb_G} {as : List Nat} {σ σ' : eb_S} {ws : va_W} {H1 : Heap} {k a : Nat} {e' : va_E} (h : ∀ k, eb_T σ k < 14 → 8 ≤ k ∧ ∃ a e, as[k - 8]? = some a ∧ ws[k - 8]? = some (a, e) ∧ eb_C G as σ k e) (hk : eb_T σ k < 14) (hka : as[k - 8]? = some a) (hl1 : as.length = eb_N σ) (hl2 : ws.length = eb_N σ)
    (hP : va_P (eb_gD G) vwCl (ws.set (k - 8) (a, e')) H1) (hD : va_D (eb_A G) (ws.set (k - 8) (a, e'))) (hT : eb_T σ' = eb_T σ) (hN : eb_N σ' = eb_N σ) (hC : eb_C G as σ' k e')
    (hI : ∀ j, j ≠ k → eb_I σ' j = eb_I σ j) (hJ : ∀ j, j ≠ k → eb_J σ' j = eb_J σ j) (hR : ∀ j, j ≠ k → eb_R σ' j = eb_R σ j) (hLn : eb_L σ' = eb_L σ) : eb_W G as σ' H1 := by
  refine ⟨_, hP, hD, by rw [hN]; exact hl1, by rw [List.length_set, hN]; exact hl2, fun j hj => ?_⟩
  rw [hT] at hj
  obtain ⟨h8, a2, e2, g1, g2, g3⟩ := h j hj
  have hk8 := (h k hk).1
  by_cases hjk : j = k
  · subst hjk
    refine ⟨h8, a, e', hka, ?_, hC⟩
    rw [List.getElem?_set_self (List.getElem?_eq_some_iff.mp g2).1]
  · refine ⟨h8, a2, e2, g1, ?_, ?_⟩
    · rw [List.getElem?_set_ne (by omega)]
      exact g2
    · unfold eb_C eb_fv at g3 ⊢
      rw [hT, hLn, hI j hjk, hJ j hjk, hR j hjk]
      exact g3
section EBH
variable {ρ : Type} {G : eb_G} {y : MethodName} {cc : ByteArray} {nL : Nat} {rt : Option FieldType} {fr mc ms : Nat} {ri : Instr} {enc : ρ → List Value} {pc : Nat} {L : List (Nat × Value)} {st : List Value} {σ : eb_S} {cn sn : Nat} {o o1 o2 : Option (ρ × eb_S)}
theorem eb_hsame {own ref o1 n1 d1 : String} {args : Array Value} {s : State} (hts : ∀ w ∈ eb_tbl, w.before args s = true) (h : ref = o1 ∨ Cond.sameField ref o1 n1 d1 ∈ eb_tbl) : ∀ x, s.fieldFound? o1 n1 d1 = some x → s.fieldFound? ref n1 d1 = some x := by
  intro x hx
  rcases h with rfl | h
  · exact hx
  · exact u_same (hts _ h) x hx
theorem eb_getI {idx : Nat} {cs : List Nat} {k j : Nat} {K : Int32 → Option (ρ × eb_S)} (hf : eb_fo y.cls idx cs j false) (hd : decode cc pc = .ok (.getfield idx, 3)) (kk : ∀ x, eb_go G y cc nL rt fr mc ms ri enc (pc + 3) L (.int x :: st) σ cn sn (K x)) : eb_go G y cc nL rt fr mc ms ri enc pc L (.ref k :: st) σ cn sn (eb_gI σ cs k j K) := by
  intro out ho p e s m args below meth c Q R hR X as ls cst H locs hl hs hW hS kr
  obtain ⟨a, c1, rfl, ha, hs1⟩ := eb_st_r hs
  unfold eb_gI at ho
  by_cases hc : eb_T σ k ∈ cs
  · rw [if_pos hc] at ho
    obtain ⟨ws, hP, hD, hl1, hl2, hC⟩ := id hW
    obtain ⟨q, hq, hin, hj, hisr, ref, hlk, href⟩ := hf _ hc
    obtain ⟨h8, e1, he1, hC1⟩ := eb_W_at hC (Nat.lt_of_lt_of_le (eb_vw_lt hq) (by decide)) ha
    obtain ⟨fs, rfl, hfl, hfv⟩ := eb_C_obj hC1 hq
    obtain ⟨w, hw1, hw2⟩ := hfv j hj
    unfold eb_fv at hw2
    rw [hisr, if_neg (by decide)] at hw2
    subst hw2
    refine va_get (D := eb_gD G) (ci := eb_T σ k) (C := q.1) (T := q.2.1) (N := q.2.2) X.1 X.2.1 X.2.2.2.2.2.2.2.1 hin X.2.2.2.2.2.1 X.2.2.2.2.2.2.2.2.1 hP (k - 8) he1 hq j hj (X.2.2.2.2.2.2.2.1 _ hlk) (eb_hsame (own := q.1) X.2.2.2.2.2.2.2.1 href) hw1 hd ?_
    exact kk _ out ho p e s m args below meth c Q R hR X as ls _ H locs hl ⟨rfl, hs1⟩ hW hS kr
  · rw [if_neg hc] at ho; cases ho
theorem eb_getR {idx : Nat} {cs : List Nat} {k j : Nat} {K : Nat → Option (ρ × eb_S)} (hf : eb_fo y.cls idx cs j true) (hd : decode cc pc = .ok (.getfield idx, 3)) (kk : ∀ r, eb_go G y cc nL rt fr mc ms ri enc (pc + 3) L (.ref r :: st) σ cn sn (K r)) : eb_go G y cc nL rt fr mc ms ri enc pc L (.ref k :: st) σ cn sn (eb_gR σ cs k j K) := by
  intro out ho p e s m args below meth c Q R hR X as ls cst H locs hl hs hW hS kr
  obtain ⟨a, c1, rfl, ha, hs1⟩ := eb_st_r hs
  unfold eb_gR at ho
  by_cases hc : eb_T σ k ∈ cs ∧ eb_R σ k j ≠ 0
  · rw [if_pos hc] at ho
    obtain ⟨ws, hP, hD, hl1, hl2, hC⟩ := id hW
    obtain ⟨q, hq, hin, hj, hisr, ref, hlk, href⟩ := hf _ hc.1
    obtain ⟨h8, e1, he1, hC1⟩ := eb_W_at hC (Nat.lt_of_lt_of_le (eb_vw_lt hq) (by decide)) ha
    obtain ⟨fs, rfl, hfl, hfv⟩ := eb_C_obj hC1 hq
    obtain ⟨w, hw1, hw2⟩ := hfv j hj
    unfold eb_fv at hw2
    rw [hisr, if_pos rfl] at hw2
    obtain ⟨b, hb1, rfl⟩ := eb_rv_pos hw2 hc.2
    refine va_get (D := eb_gD G) (ci := eb_T σ k) (C := q.1) (T := q.2.1) (N := q.2.2) X.1 X.2.1 X.2.2.2.2.2.2.2.1 hin X.2.2.2.2.2.1 X.2.2.2.2.2.2.2.2.1 hP (k - 8) he1 hq j hj (X.2.2.2.2.2.2.2.1 _ hlk) (eb_hsame (own := q.1) X.2.2.2.2.2.2.2.1 href) hw1 hd ?_
    exact kk _ out ho p e s m args below meth c Q R hR X as ls _ H locs hl ⟨⟨b, hb1, rfl⟩, hs1⟩ hW hS kr
  · rw [if_neg hc] at ho; cases ho
/-- writing a field: final ones in a constructor of their own class alone -/
def eb_fw (own : String) (nm : String) (cs : List Nat) (j : Nat) (ty : FieldType) : Prop := ∀ ci ∈ cs, ∀ q : vw_C, vwCl[ci]? = some q → parseFieldDescriptor (q.2.1 j).2.2.1 = some ty ∧ ((q.2.1 j).2.2.2 = false ∨ ((q.2.1 j).2.2.2 = true ∧ nm = "<init>" ∧ (q.2.1 j).1 = own))
theorem eb_put {idx : Nat} {cs : List Nat} {k j : Nat} {v w : Value} {isr : Bool} {ty : FieldType} {σ' : eb_S} (hf : eb_fo y.cls idx cs j isr) (hfw : eb_fw y.cls y.name cs j ty) (hd : decode cc pc = .ok (.putfield idx, 3)) {out : ρ × eb_S} {p : Program} {e : Env} {s : State} {m : MethodId} {args : Array Value} {below : List Frame} {meth : Method} {c : Code} {Q : State → Prop} {R : Room} (X : eb_X G y cc nL rt p s m args meth c) {as : List Nat} {ls : Array Slot} {cst : List Value} {H : Heap} {locs : List Loc} {a : Nat} (ha : eb_a G as k = some a) (hW : eb_W G as σ H) (hS : va_S (eb_A G) s.heap H locs) (hc : eb_T σ k ∈ cs) (hn : narrow ty w = w) (hfit : fits ty w = true)
    (hT : eb_T σ' = eb_T σ) (hN : eb_N σ' = eb_N σ) (hLn : eb_L σ' = eb_L σ) (hI : ∀ j, j ≠ k → eb_I σ' j = eb_I σ j) (hJ : ∀ j, j ≠ k → eb_J σ' j = eb_J σ j) (hRr : ∀ j, j ≠ k → eb_R σ' j = eb_R σ j) (hown : eb_fv G as σ' (eb_T σ k) k j w) (hoth : ∀ i, i ≠ j → eb_I σ' k i = eb_I σ k i ∧ eb_R σ' k i = eb_R σ k i)
    (kk : ∀ (H1 : Heap) (locs1 : List Loc), eb_W G as σ' H1 → va_S (eb_A G) s.heap H1 locs1 → W p (eb_gl G) e R s m args below meth c H1 locs1 cn sn Q (F0 m (pc + 3) ls cst)) : W p (eb_gl G) e R s m args below meth c H locs cn sn Q (F0 m pc ls (w :: .ref a :: cst)) := by
  obtain ⟨ws, hP, hD, hl1, hl2, hC⟩ := id hW
  obtain ⟨q, hq, hin, hj, hisr, ref, hlk, href⟩ := hf _ hc
  have ht14 : eb_T σ k < 14 := Nat.lt_of_lt_of_le (eb_vw_lt hq) (by decide)
  obtain ⟨h8, e1, he1, hC1⟩ := eb_W_at hC ht14 ha
  have hka := (eb_T8 hW ht14 ha).2
  obtain ⟨fs, rfl, hfl, hfv⟩ := eb_C_obj hC1 hq
  obtain ⟨hty, hfin⟩ := hfw _ hc q hq
  have key : ∀ (H1 : Heap) (locs1 : List Loc), va_P (eb_gD G) vwCl (ws.set (k - 8) (a, .inr (eb_T σ k, fs.set j w))) H1 → va_D (eb_A G) (ws.set (k - 8) (a, .inr (eb_T σ k, fs.set j w))) → va_S (eb_A G) s.heap H1 locs1 → W p (eb_gl G) e R s m args below meth c H1 locs1 cn sn Q (F0 m (pc + 3) ls cst) := by
    intro H1 locs1 hP1 hD1 hS1
    refine kk H1 locs1 (eb_W_set hC ht14 hka hl1 hl2 hP1 hD1 hT hN ?_ hI hJ hRr hLn) hS1
    unfold eb_C
    rw [hT, if_pos (eb_vw_lt hq)]
    refine ⟨q, fs.set j w, hq, rfl, by rw [List.length_set]; exact hfl, fun i hi => ?_⟩
    by_cases hij : i = j
    · subst hij
      exact ⟨w, by rw [List.getElem?_set_self (by omega)], hown⟩
    · obtain ⟨w2, g1, g2⟩ := hfv i hi
      refine ⟨w2, by rw [List.getElem?_set_ne (fun h => hij h.symm)]; exact g1, ?_⟩
      unfold eb_fv at g2 ⊢
      rw [(hoth i hij).1, (hoth i hij).2]
      exact g2
  rcases hfin with hfin | ⟨hfin, hnm, hdecl⟩
  · exact va_put (D := eb_gD G) (ci := eb_T σ k) (C := q.1) (T := q.2.1) (N := q.2.2) X.1 X.2.1 X.2.2.2.2.2.2.2.1 hin _ (eb_tys hq) (eb_nm hq) X.2.2.2.2.2.1 X.2.2.2.2.2.2.2.2.1 hP hD hS (k - 8) he1 hq j hj (X.2.2.2.2.2.2.2.1 _ hlk) (eb_hsame (own := q.1) X.2.2.2.2.2.2.2.1 href) hfin hty hn hfit (by omega) hd key
  · exact va_putF (D := eb_gD G) (ci := eb_T σ k) (C := q.1) (T := q.2.1) (N := q.2.2) X.1 X.2.1 X.2.2.2.2.2.2.2.1 hin _ (eb_tys hq) (eb_nm hq) X.2.2.2.2.2.1 X.2.2.2.2.2.2.2.2.1 hP hD hS (k - 8) he1 hq j hj (X.2.2.2.2.2.2.2.1 _ hlk) (eb_hsame (own := q.1) X.2.2.2.2.2.2.2.1 href) hfin (by rw [X.2.2.2.2.2.2.1]; exact hnm) hdecl hty hn hfit (by omega) hd key
theorem eb_sI_o {k j i : Nat} {x : Int32} (h : i ≠ j) : eb_I (eb_sI σ k j x) k i = eb_I σ k i ∧ eb_R (eb_sI σ k j x) k i = eb_R σ k i := by
  refine ⟨?_, rfl⟩
  show eb_up (eb_I σ) k (upd (eb_I σ k) j x) k i = _
  rw [eb_up_s]
  simp [upd, h]
theorem eb_sI_s {k j : Nat} {x : Int32} : eb_I (eb_sI σ k j x) k j = x := by
  show eb_up (eb_I σ) k (upd (eb_I σ k) j x) k j = _
  rw [eb_up_s]
  simp [upd]
theorem eb_sI_n {k j i : Nat} {x : Int32} (h : i ≠ k) : eb_I (eb_sI σ k j x) i = eb_I σ i := eb_up_n h
theorem eb_sR_o {k j i r : Nat} (h : i ≠ j) : eb_I (eb_sR σ k j r) k i = eb_I σ k i ∧ eb_R (eb_sR σ k j r) k i = eb_R σ k i := by
  refine ⟨rfl, ?_⟩
  show eb_up (eb_R σ) k (eb_up (eb_R σ k) j r) k i = _
  rw [eb_up_s, eb_up_n h]
theorem eb_sR_s {k j r : Nat} : eb_R (eb_sR σ k j r) k j = r := by
  show eb_up (eb_R σ) k (eb_up (eb_R σ k) j r) k j = _
  rw [eb_up_s, eb_up_s]
theorem eb_putI {idx : Nat} {cs : List Nat} {k j : Nat} {x : Int32} {K : eb_S → Option (ρ × eb_S)} (hf : eb_fo y.cls idx cs j false) (hfw : eb_fw y.cls y.name cs j .int) (hd : decode cc pc = .ok (.putfield idx, 3)) (kk : ∀ σ', eb_go G y cc nL rt fr mc ms ri enc (pc + 3) L st σ' cn sn (K σ')) : eb_go G y cc nL rt fr mc ms ri enc pc L (.int x :: .ref k :: st) σ cn sn (eb_pI σ cs k j x K) := by
  intro out ho p e s m args below meth c Q R hR X as ls cst H locs hl hs hW hS kr
  obtain ⟨c0, rfl, hs0⟩ := eb_st_i hs
  obtain ⟨a, c1, rfl, ha, hs1⟩ := eb_st_r hs0
  unfold eb_pI at ho
  by_cases hc : eb_T σ k ∈ cs
  · rw [if_pos hc] at ho
    refine eb_put (v := .int x) (σ' := eb_sI σ k j x) (out := out) hf hfw hd X ha hW hS hc rfl rfl rfl rfl rfl (fun i hi => eb_sI_n hi) (fun _ _ => rfl) (fun _ _ => rfl) ?_ (fun i hi => eb_sI_o hi) (fun H1 locs1 hW1 hS1 => kk _ out ho p e s m args below meth c Q R hR X as ls _ H1 locs1 hl hs1 hW1 hS1 kr)
    unfold eb_fv
    obtain ⟨q, hq, hin, hj, hisr, -⟩ := hf _ hc
    rw [hisr, if_neg (by decide), eb_sI_s]
  · rw [if_neg hc] at ho; cases ho
theorem eb_putZ {idx : Nat} {cs : List Nat} {k j : Nat} {x : Int32} {K : eb_S → Option (ρ × eb_S)} (hf : eb_fo y.cls idx cs j false) (hfw : eb_fw y.cls y.name cs j .boolean) (hd : decode cc pc = .ok (.putfield idx, 3)) (kk : ∀ σ', eb_go G y cc nL rt fr mc ms ri enc (pc + 3) L st σ' cn sn (K σ')) : eb_go G y cc nL rt fr mc ms ri enc pc L (.int x :: .ref k :: st) σ cn sn (eb_pZ σ cs k j x K) := by
  intro out ho p e s m args below meth c Q R hR X as ls cst H locs hl hs hW hS kr
  obtain ⟨c0, rfl, hs0⟩ := eb_st_i hs
  obtain ⟨a, c1, rfl, ha, hs1⟩ := eb_st_r hs0
  unfold eb_pZ at ho
  by_cases hc : eb_T σ k ∈ cs ∧ (x = 0 ∨ x = 1)
  · rw [if_pos hc] at ho
    have hnn : narrow .boolean (.int x) = .int x ∧ fits .boolean (.int x) = true := by
      rcases hc.2 with rfl | rfl <;> exact ⟨by decide +kernel, by decide +kernel⟩
    refine eb_put (v := .int x) (σ' := eb_sI σ k j x) (out := out) hf hfw hd X ha hW hS hc.1 hnn.1 hnn.2 rfl rfl rfl (fun i hi => eb_sI_n hi) (fun _ _ => rfl) (fun _ _ => rfl) ?_ (fun i hi => eb_sI_o hi) (fun H1 locs1 hW1 hS1 => kk _ out ho p e s m args below meth c Q R hR X as ls _ H1 locs1 hl hs1 hW1 hS1 kr)
    unfold eb_fv
    obtain ⟨q, hq, hin, hj, hisr, -⟩ := hf _ hc.1
    rw [hisr, if_neg (by decide), eb_sI_s]
  · rw [if_neg hc] at ho; cases ho
theorem eb_putR {idx : Nat} {cs : List Nat} {k j r : Nat} {ty : FieldType} {K : eb_S → Option (ρ × eb_S)} (hf : eb_fo y.cls idx cs j true) (hfw : eb_fw y.cls y.name cs j ty) (hty : ∀ a, narrow ty (.ref a) = .ref a ∧ fits ty (.ref a) = true) (hd : decode cc pc = .ok (.putfield idx, 3)) (kk : ∀ σ', eb_go G y cc nL rt fr mc ms ri enc (pc + 3) L st σ' cn sn (K σ')) : eb_go G y cc nL rt fr mc ms ri enc pc L (.ref r :: .ref k :: st) σ cn sn (eb_pR σ cs k j r K) := by
  intro out ho p e s m args below meth c Q R hR X as ls cst H locs hl hs hW hS kr
  obtain ⟨b, c0, rfl, hb, hs0⟩ := eb_st_r hs
  obtain ⟨a, c1, rfl, ha, hs1⟩ := eb_st_r hs0
  unfold eb_pR at ho
  by_cases hc : eb_T σ k ∈ cs
  · rw [if_pos hc] at ho
    refine eb_put (v := .ref r) (σ' := eb_sR σ k j r) (out := out) hf hfw hd X ha hW hS hc (hty b).1 (hty b).2 rfl rfl rfl (fun _ _ => rfl) (fun _ _ => rfl) (fun i hi => eb_up_n hi) ?_ (fun i hi => eb_sR_o hi) (fun H1 locs1 hW1 hS1 => kk _ out ho p e s m args below meth c Q R hR X as ls _ H1 locs1 hl hs1 hW1 hS1 kr)
    unfold eb_fv
    obtain ⟨q, hq, hin, hj, hisr, -⟩ := hf _ hc
    rw [hisr, if_pos rfl, eb_sR_s]
    exact Or.inr ⟨b, hb, rfl⟩
  · rw [if_neg hc] at ho; cases ho
end EBH
end
section
section EBA
variable {ρ : Type} {G : eb_G} {y : MethodName} {cc : ByteArray} {nL : Nat} {rt : Option FieldType} {fr mc ms : Nat} {ri : Instr} {enc : ρ → List Value} {pc : Nat} {L : List (Nat × Value)} {st : List Value} {σ : eb_S} {cn sn : Nat} {o o1 o2 : Option (ρ × eb_S)}
theorem eb_in_vp {i : Int32} {n : Nat} (h : eb_in i n = true) : vp_in i n := of_decide_eq_true (p := ¬ (i < 0 ∨ n ≤ i.toNatClampNeg)) h
theorem eb_iaload {k : Nat} {i : Int32} {K : Int32 → Option (ρ × eb_S)} (hd : decode cc pc = .ok (.iaload, 1)) (kk : ∀ x, eb_go G y cc nL rt fr mc ms ri enc (pc + 1) L (.int x :: st) σ cn sn (K x)) : eb_go G y cc nL rt fr mc ms ri enc pc L (.int i :: .ref k :: st) σ cn sn (eb_ai σ k i K) := by
  intro out ho p e s m args below meth c Q R hR X as ls cst H locs hl hs hW hS kr
  obtain ⟨c0, rfl, hs0⟩ := eb_st_i hs
  obtain ⟨a, c1, rfl, ha, hs1⟩ := eb_st_r hs0
  unfold eb_ai at ho
  by_cases hc : eb_T σ k = 11 ∧ eb_in i (eb_L σ k) = true
  · rw [if_pos hc] at ho
    obtain ⟨ws, hP, hD, hl1, hl2, hC⟩ := id hW
    obtain ⟨h8, e1, he1, hC1⟩ := eb_W_at hC (by omega) ha
    rw [eb_C_arr hC1 (by omega) (by omega)] at he1
    rw [hc.1] at he1
    exact va_iald X.1 X.2.1 X.2.2.2.2.2.2.2.2.1 hP (k - 8) 1 he1 rfl (eb_in_vp hc.2) hd (kk _ out ho p e s m args below meth c Q R hR X as ls _ H locs hl ⟨rfl, hs1⟩ hW hS kr)
  · rw [if_neg hc] at ho; cases ho

theorem eb_caload {k : Nat} {i : Int32} {K : Int32 → Option (ρ × eb_S)} (hd : decode cc pc = .ok (.caload, 1)) (kk : ∀ x, eb_go G y cc nL rt fr mc ms ri enc (pc + 1) L (.int x :: st) σ cn sn (K x)) : eb_go G y cc nL rt fr mc ms ri enc pc L (.int i :: .ref k :: st) σ cn sn (eb_ac σ k i K) := by
  intro out ho p e s m args below meth c Q R hR X as ls cst H locs hl hs hW hS kr
  obtain ⟨c0, rfl, hs0⟩ := eb_st_i hs
  obtain ⟨a, c1, rfl, ha, hs1⟩ := eb_st_r hs0
  unfold eb_ac at ho
  by_cases hc : eb_T σ k = 10 ∧ eb_in i (eb_L σ k) = true
  · rw [if_pos hc] at ho
    obtain ⟨ws, hP, hD, hl1, hl2, hC⟩ := id hW
    obtain ⟨h8, e1, he1, hC1⟩ := eb_W_at hC (by omega) ha
    rw [eb_C_arr hC1 (by omega) (by omega)] at he1
    rw [hc.1] at he1
    exact va_cald X.1 X.2.1 X.2.2.2.2.2.2.2.2.1 hP (k - 8) 0 he1 rfl (eb_in_vp hc.2) hd (kk _ out ho p e s m args below meth c Q R hR X as ls _ H locs hl ⟨rfl, hs1⟩ hW hS kr)
  · rw [if_neg hc] at ho; cases ho

theorem eb_laload {k : Nat} {i : Int32} {K : Int64 → Option (ρ × eb_S)} (hd : decode cc pc = .ok (.laload, 1)) (kk : ∀ x, eb_go G y cc nL rt fr mc ms ri enc (pc + 1) L (.long x :: st) σ cn sn (K x)) : eb_go G y cc nL rt fr mc ms ri enc pc L (.int i :: .ref k :: st) σ cn sn (eb_al σ k i K) := by
  intro out ho p e s m args below meth c Q R hR X as ls cst H locs hl hs hW hS kr
  obtain ⟨c0, rfl, hs0⟩ := eb_st_i hs
  obtain ⟨a, c1, rfl, ha, hs1⟩ := eb_st_r hs0
  unfold eb_al at ho
  by_cases hc : eb_T σ k = 12 ∧ eb_in i (eb_L σ k) = true
  · rw [if_pos hc] at ho
    obtain ⟨ws, hP, hD, hl1, hl2, hC⟩ := id hW
    obtain ⟨h8, e1, he1, hC1⟩ := eb_W_at hC (by omega) ha
    rw [eb_C_lng hC1 hc.1] at he1
    skip
    exact va_lald X.1 X.2.1 X.2.2.2.2.2.2.2.2.1 hP (k - 8) 2 he1 rfl (eb_in_vp hc.2) hd (kk _ out ho p e s m args below meth c Q R hR X as ls _ H locs hl ⟨rfl, hs1⟩ hW hS kr)
  · rw [if_neg hc] at ho; cases ho

theorem eb_iastore {k : Nat} {i : Int32} {x : Int32} {K : eb_S → Option (ρ × eb_S)} (hd : decode cc pc = .ok (.iastore, 1)) (kk : ∀ σ', eb_go G y cc nL rt fr mc ms ri enc (pc + 1) L st σ' cn sn (K σ')) : eb_go G y cc nL rt fr mc ms ri enc pc L (.int x :: .int i :: .ref k :: st) σ cn sn (eb_wi σ k i x K) := by
  intro out ho p e s m args below meth c Q R hR X as ls cst H locs hl hs hW hS kr
  obtain ⟨c9, rfl, hs9⟩ := eb_st_i hs
  obtain ⟨c0, rfl, hs0⟩ := eb_st_i hs9
  obtain ⟨a, c1, rfl, ha, hs1⟩ := eb_st_r hs0
  unfold eb_wi at ho
  by_cases hc : eb_T σ k = 11 ∧ eb_in i (eb_L σ k) = true
  · rw [if_pos hc] at ho
    obtain ⟨ws, hP, hD, hl1, hl2, hC⟩ := id hW
    obtain ⟨h8, e1, he1, hC1⟩ := eb_W_at hC (by omega) ha
    have hka := (eb_T8 hW (by omega) ha).2
    rw [eb_C_arr hC1 (by omega) (by omega)] at he1
    rw [hc.1] at he1
    refine va_iast X.1 X.2.1 X.2.2.2.2.2.2.2.2.1 hP hD hS (k - 8) 1 he1 rfl (eb_in_vp hc.2) hd (fun H1 locs1 hP1 hD1 hS1 => kk _ out ho p e s m args below meth c Q R hR X as ls _ H1 locs1 hl hs1 (eb_W_set hC (by omega) hka hl1 hl2 hP1 hD1 rfl rfl ?_ (fun i hi => eb_up_n hi) (fun _ _ => rfl) (fun _ _ => rfl) rfl) hS1 kr)
    unfold eb_C
    show (if eb_T σ k < 10 then _ else if eb_T σ k < 12 then _ else _)
    rw [if_neg (by omega), if_pos (by omega)]
    show _ = Sum.inl (eb_gc G (eb_T σ k), eb_L σ k, Sum.inl (eb_up (eb_I σ) k _ k))
    rw [eb_up_s, hc.1]
  · rw [if_neg hc] at ho; cases ho

theorem eb_castore {k : Nat} {i : Int32} {x : Int32} {K : eb_S → Option (ρ × eb_S)} (hd : decode cc pc = .ok (.castore, 1)) (kk : ∀ σ', eb_go G y cc nL rt fr mc ms ri enc (pc + 1) L st σ' cn sn (K σ')) : eb_go G y cc nL rt fr mc ms ri enc pc L (.int x :: .int i :: .ref k :: st) σ cn sn (eb_wc σ k i x K) := by
  intro out ho p e s m args below meth c Q R hR X as ls cst H locs hl hs hW hS kr
  obtain ⟨c9, rfl, hs9⟩ := eb_st_i hs
  obtain ⟨c0, rfl, hs0⟩ := eb_st_i hs9
  obtain ⟨a, c1, rfl, ha, hs1⟩ := eb_st_r hs0
  unfold eb_wc at ho
  by_cases hc : eb_T σ k = 10 ∧ eb_in i (eb_L σ k) = true
  · rw [if_pos hc] at ho
    obtain ⟨ws, hP, hD, hl1, hl2, hC⟩ := id hW
    obtain ⟨h8, e1, he1, hC1⟩ := eb_W_at hC (by omega) ha
    have hka := (eb_T8 hW (by omega) ha).2
    rw [eb_C_arr hC1 (by omega) (by omega)] at he1
    rw [hc.1] at he1
    refine va_cast X.1 X.2.1 X.2.2.2.2.2.2.2.2.1 hP hD hS (k - 8) 0 he1 rfl (eb_in_vp hc.2) hd (fun H1 locs1 hP1 hD1 hS1 => kk _ out ho p e s m args below meth c Q R hR X as ls _ H1 locs1 hl hs1 (eb_W_set hC (by omega) hka hl1 hl2 hP1 hD1 rfl rfl ?_ (fun i hi => eb_up_n hi) (fun _ _ => rfl) (fun _ _ => rfl) rfl) hS1 kr)
    unfold eb_C
    show (if eb_T σ k < 10 then _ else if eb_T σ k < 12 then _ else _)
    rw [if_neg (by omega), if_pos (by omega)]
    show _ = Sum.inl (eb_gc G (eb_T σ k), eb_L σ k, Sum.inl (eb_up (eb_I σ) k _ k))
    rw [eb_up_s, hc.1]
  · rw [if_neg hc] at ho; cases ho

theorem eb_lastore {k : Nat} {i : Int32} {x : Int64} {K : eb_S → Option (ρ × eb_S)} (hd : decode cc pc = .ok (.lastore, 1)) (kk : ∀ σ', eb_go G y cc nL rt fr mc ms ri enc (pc + 1) L st σ' cn sn (K σ')) : eb_go G y cc nL rt fr mc ms ri enc pc L (.long x :: .int i :: .ref k :: st) σ cn sn (eb_wl σ k i x K) := by
  intro out ho p e s m args below meth c Q R hR X as ls cst H locs hl hs hW hS kr
  obtain ⟨c9, rfl, hs9⟩ := eb_st_l hs
  obtain ⟨c0, rfl, hs0⟩ := eb_st_i hs9
  obtain ⟨a, c1, rfl, ha, hs1⟩ := eb_st_r hs0
  unfold eb_wl at ho
  by_cases hc : eb_T σ k = 12 ∧ eb_in i (eb_L σ k) = true
  · rw [if_pos hc] at ho
    obtain ⟨ws, hP, hD, hl1, hl2, hC⟩ := id hW
    obtain ⟨h8, e1, he1, hC1⟩ := eb_W_at hC (by omega) ha
    have hka := (eb_T8 hW (by omega) ha).2
    rw [eb_C_lng hC1 hc.1] at he1
    skip
    refine va_last X.1 X.2.1 X.2.2.2.2.2.2.2.2.1 hP hD hS (k - 8) 2 he1 rfl (eb_in_vp hc.2) hd (fun H1 locs1 hP1 hD1 hS1 => kk _ out ho p e s m args below meth c Q R hR X as ls _ H1 locs1 hl hs1 (eb_W_set hC (by omega) hka hl1 hl2 hP1 hD1 rfl rfl ?_ (fun _ _ => rfl) (fun i hi => eb_up_n hi) (fun _ _ => rfl) rfl) hS1 kr)
    unfold eb_C
    show (if eb_T σ k < 10 then _ else if eb_T σ k < 12 then _ else if eb_T σ k = 12 then _ else _)
    rw [if_neg (by omega), if_neg (by omega), if_pos hc.1]
    show _ = Sum.inl (eb_gc G 12, eb_L σ k, Sum.inr (Sum.inl (eb_up (eb_J σ) k _ k)))
    rw [eb_up_s]
  · rw [if_neg hc] at ho; cases ho

theorem eb_aaload {k : Nat} {i : Int32} {K : Nat → Option (ρ × eb_S)} (hd : decode cc pc = .ok (.aaload, 1)) (kk : ∀ r, eb_go G y cc nL rt fr mc ms ri enc (pc + 1) L (.ref r :: st) σ cn sn (K r)) : eb_go G y cc nL rt fr mc ms ri enc pc L (.int i :: .ref k :: st) σ cn sn (eb_ar σ k i K) := by
  intro out ho p e s m args below meth c Q R hR X as ls cst H locs hl hs hW hS kr
  obtain ⟨c0, rfl, hs0⟩ := eb_st_i hs
  obtain ⟨a, c1, rfl, ha, hs1⟩ := eb_st_r hs0
  unfold eb_ar at ho
  by_cases hc : eb_T σ k = 13 ∧ eb_in i (eb_L σ k) = true ∧ eb_R σ k i.toNatClampNeg ≠ 0
  · rw [if_pos hc] at ho
    obtain ⟨ws, hP, hD, hl1, hl2, hC⟩ := id hW
    obtain ⟨h8, e1, he1, hC1⟩ := eb_W_at hC (by omega) ha
    obtain ⟨f, rfl, hf⟩ := eb_C_ref hC1 hc.1
    have hin := eb_in_vp hc.2.1
    have hin2 : i.toNatClampNeg < eb_L σ k := Nat.lt_of_not_le (fun h => hin (Or.inr h))
    obtain ⟨b, hb1, hb2⟩ := eb_rv_pos (hf _ hin2) hc.2.2
    refine va_aldq X.1 X.2.1 X.2.2.2.2.2.2.2.2.1 hP (k - 8) 3 he1 rfl hin hd ?_
    rw [hb2]
    exact kk _ out ho p e s m args below meth c Q R hR X as ls _ H locs hl ⟨⟨b, hb1, rfl⟩, hs1⟩ hW hS kr
  · rw [if_neg hc] at ho; cases ho

theorem eb_aastore {k r : Nat} {i : Int32} {K : eb_S → Option (ρ × eb_S)} (hd : decode cc pc = .ok (.aastore, 1)) (kk : ∀ σ', eb_go G y cc nL rt fr mc ms ri enc (pc + 1) L st σ' cn sn (K σ')) : eb_go G y cc nL rt fr mc ms ri enc pc L (.ref r :: .int i :: .ref k :: st) σ cn sn (eb_wr σ k i r K) := by
  intro out ho p e s m args below meth c Q R hR X as ls cst H locs hl hs hW hS kr
  obtain ⟨b, c9, rfl, hb, hs9⟩ := eb_st_r hs
  obtain ⟨c0, rfl, hs0⟩ := eb_st_i hs9
  obtain ⟨a, c1, rfl, ha, hs1⟩ := eb_st_r hs0
  unfold eb_wr at ho
  by_cases hc : eb_T σ k = 13 ∧ eb_in i (eb_L σ k) = true ∧ eb_T σ r = 6
  · rw [if_pos hc] at ho
    obtain ⟨ws, hP, hD, hl1, hl2, hC⟩ := id hW
    obtain ⟨h8, e1, he1, hC1⟩ := eb_W_at hC (k := k) (by omega) ha
    obtain ⟨h8r, e2, he2, hC2⟩ := eb_W_at hC (k := r) (by omega) hb
    have hka := (eb_T8 (k := k) hW (by omega) ha).2
    obtain ⟨f, rfl, hf⟩ := eb_C_ref hC1 hc.1
    have hv6 : vwCl[eb_T σ r]? = some (RX7, TX7, 3) := by rw [hc.2.2]; rfl
    obtain ⟨vs, rfl, -⟩ := eb_C_obj hC2 hv6
    have hin := eb_in_vp hc.2.1
    refine va_astq X.1 X.2.1 X.2.2.2.2.2.2.2.2.1 hP hD hS (k - 8) 3 (r - 8) (eb_T σ r) he1 rfl he2 hv6 hin hd (fun H1 locs1 hP1 hD1 hS1 => kk _ out ho p e s m args below meth c Q R hR X as ls _ H1 locs1 hl hs1 (eb_W_set hC (k := k) (by omega) hka hl1 hl2 hP1 hD1 rfl rfl ?_ (fun _ _ => rfl) (fun _ _ => rfl) (fun i hi => eb_up_n hi) rfl) hS1 kr)
    unfold eb_C
    show (if eb_T σ k < 10 then _ else if eb_T σ k < 12 then _ else if eb_T σ k = 12 then _ else _)
    rw [if_neg (by omega), if_neg (by omega), if_neg (by omega)]
    refine ⟨_, rfl, fun j hj => ?_⟩
    show eb_rv G as (eb_up (eb_R σ) k (eb_up (eb_R σ k) i.toNatClampNeg r) k j) _
    rw [eb_up_s]
    by_cases hji : j = i.toNatClampNeg
    · subst hji
      rw [eb_up_s]
      refine Or.inr ⟨b, hb, ?_⟩
      simp [va_up, va_rf]
    · rw [eb_up_n hji]
      have := hf j hj
      simp only [va_up, if_neg hji]
      exact this
  · rw [if_neg hc] at ho; cases ho

theorem eb_alen {k : Nat} {K : Int32 → Option (ρ × eb_S)} (hd : decode cc pc = .ok (.arraylength, 1)) (kk : ∀ x, eb_go G y cc nL rt fr mc ms ri enc (pc + 1) L (.int x :: st) σ cn sn (K x)) : eb_go G y cc nL rt fr mc ms ri enc pc L (.ref k :: st) σ cn sn (eb_ln σ k K) := by
  intro out ho p e s m args below meth c Q R hR X as ls cst H locs hl hs hW hS kr
  obtain ⟨a, c1, rfl, ha, hs1⟩ := eb_st_r hs
  unfold eb_ln at ho
  by_cases hc : 10 ≤ eb_T σ k ∧ eb_T σ k < 14
  · rw [if_pos hc] at ho
    obtain ⟨ws, hP, hD, hl1, hl2, hC⟩ := id hW
    obtain ⟨h8, e1, he1, hC1⟩ := eb_W_at hC (by omega) ha
    have hcase : eb_T σ k = 10 ∨ eb_T σ k = 11 ∨ eb_T σ k = 12 ∨ eb_T σ k = 13 := by omega
    have key : ∃ (t0 : Nat) (x : vp_A) (cA : ClassId) (ty : FieldType), e1 = .inl (cA, x) ∧ x.1 = eb_L σ k ∧ (eb_ty G)[t0]? = some (cA, ty) := by
      rcases hcase with h | h | h | h
      · exact ⟨0, _, _, _, eb_C_arr hC1 (by omega) (by omega), rfl, by rw [h]; rfl⟩
      · exact ⟨1, _, _, _, eb_C_arr hC1 (by omega) (by omega), rfl, by rw [h]; rfl⟩
      · exact ⟨2, _, _, _, eb_C_lng hC1 h, rfl, rfl⟩
      · obtain ⟨f, h2, -⟩ := eb_C_ref hC1 h
        exact ⟨3, _, _, _, h2, rfl, rfl⟩
    obtain ⟨t0, x, cA, ty, rfl, hx, ht⟩ := key
    exact va_alen X.1 X.2.1 X.2.2.2.2.2.2.2.2.1 hP (k - 8) t0 he1 ht (by rw [hx]) hd (kk _ out ho p e s m args below meth c Q R hR X as ls _ H locs hl ⟨rfl, hs1⟩ hW hS kr)
  · rw [if_neg hc] at ho; cases ho

theorem eb_new_T {t n k : Nat} (h : k ≠ eb_N σ + 8) : eb_T (eb_new σ t n) k = eb_T σ k := eb_up_n h
/-- a world with one cell more -/
theorem eb_W_new {as : List Nat} {ws : va_W} {H1 : Heap} {q t n : Nat} {e' : va_E} (h : ∀ k, eb_T σ k < 14 → 8 ≤ k ∧ ∃ a e, as[k - 8]? = some a ∧ ws[k - 8]? = some (a, e) ∧ eb_C G as σ k e) (hl1 : as.length = eb_N σ) (hl2 : ws.length = eb_N σ) (hP : va_P (eb_gD G) vwCl (ws ++ [(q, e')]) H1) (hD : va_D (eb_A G) (ws ++ [(q, e')])) (hC : eb_C G (as ++ [q]) (eb_new σ t n) (eb_N σ + 8) e') : eb_W G (as ++ [q]) (eb_new σ t n) H1 := by
  have hpre : as <+: as ++ [q] := List.prefix_append _ _
  refine ⟨_, hP, hD, by rw [List.length_append, hl1]; rfl, by rw [List.length_append, hl2]; rfl, fun k hk => ?_⟩
  by_cases hkn : k = eb_N σ + 8
  · subst hkn
    refine ⟨by omega, q, e', ?_, ?_, hC⟩
    · rw [List.getElem?_append_right (by omega)]
      simp [hl1]
    · rw [List.getElem?_append_right (by omega)]
      simp [hl2]
  · rw [eb_new_T hkn] at hk
    obtain ⟨h8, a, e, g1, g2, g3⟩ := h k hk
    have b1 : k - 8 < as.length := (List.getElem?_eq_some_iff.mp g1).1
    have b2 : k - 8 < ws.length := (List.getElem?_eq_some_iff.mp g2).1
    refine ⟨h8, a, e, by rw [List.getElem?_append_left b1]; exact g1, by rw [List.getElem?_append_left b2]; exact g2, ?_⟩
    have eI : eb_I (eb_new σ t n) k = eb_I σ k := eb_up_n hkn
    have eJ : eb_J (eb_new σ t n) k = eb_J σ k := eb_up_n hkn
    have eR : eb_R (eb_new σ t n) k = eb_R σ k := eb_up_n hkn
    have eL : eb_L (eb_new σ t n) k = eb_L σ k := eb_up_n hkn
    unfold eb_C eb_fv at g3 ⊢
    rw [eb_new_T hkn, eI, eJ, eR, eL]
    split at g3
    · rename_i hlt
      rw [if_pos hlt]
      obtain ⟨qq, fs, z1, z2, z3, z4⟩ := g3
      refine ⟨qq, fs, z1, z2, z3, fun j hj => ?_⟩
      obtain ⟨w, y1, y2⟩ := z4 j hj
      refine ⟨w, y1, ?_⟩
      split at y2
      · rename_i hr
        rw [if_pos hr]
        exact eb_rv_ext hpre y2
      · rename_i hr
        rw [if_neg hr]
        exact y2
    · rename_i hlt
      rw [if_neg hlt]
      split at g3
      · rename_i h2
        rw [if_pos h2]
        exact g3
      · rename_i h2
        rw [if_neg h2]
        split at g3
        · rename_i h3
          rw [if_pos h3]
          exact g3
        · rename_i h3
          rw [if_neg h3]
          obtain ⟨f, z1, z2⟩ := g3
          exact ⟨f, z1, fun j hj => eb_rv_ext hpre (z2 j hj)⟩
theorem eb_new_I {t n : Nat} : eb_I (eb_new σ t n) (eb_N σ + 8) = fun _ => 0 := eb_up_s
theorem eb_new_J {t n : Nat} : eb_J (eb_new σ t n) (eb_N σ + 8) = fun _ => 0 := eb_up_s
theorem eb_new_R {t n : Nat} : eb_R (eb_new σ t n) (eb_N σ + 8) = fun _ => 0 := eb_up_s
theorem eb_new_Ts {t n : Nat} : eb_T (eb_new σ t n) (eb_N σ + 8) = t := eb_up_s
theorem eb_new_L {t n : Nat} : eb_L (eb_new σ t n) (eb_N σ + 8) = n := eb_up_s
theorem eb_new_a {as : List Nat} {q : Nat} (hl1 : as.length = eb_N σ) : eb_a G (as ++ [q]) (eb_N σ + 8) = some q := by
  unfold eb_a
  rw [if_neg (by omega), if_neg (by omega), List.getElem?_append_right (by omega)]
  simp [hl1]

theorem eb_newi {i : Int32} {B : Nat} {K : Nat → eb_S → Option (ρ × eb_S)} (hw : Cond.arrayClass .int ∈ eb_tbl) (hd : decode cc pc = .ok (.newarray .int, 2)) (hB : B ≤ 100000) (h1 : cn + 1 ≤ mc) (h2 : sn + B ≤ ms) (kk : ∀ r σ', eb_go G y cc nL rt fr mc ms ri enc (pc + 2) L (.ref r :: st) σ' (cn + 1) (sn + B) (K r σ')) : eb_go G y cc nL rt fr mc ms ri enc pc L (.int i :: st) σ cn sn (eb_na σ 11 B i K) := by
  intro out ho p e s m args below meth c Q R hR X as ls cst H locs hl hs hW hS kr
  obtain ⟨c0, rfl, hs0⟩ := eb_st_i hs
  unfold eb_na at ho
  by_cases hc : ¬ i < 0 ∧ i.toNatClampNeg ≤ B
  · rw [if_pos hc] at ho
    obtain ⟨ws, hP, hD, hl1, hl2, hC⟩ := id hW
    refine va_newa (atype := .int) (ty := .int) (a0 := (i.toNatClampNeg, .inl (fun _ => 0))) (N' := i.toNatClampNeg) X.1 X.2.1 (X.2.2.2.2.2.2.2.1 _ hw) rfl X.2.2.2.2.2.2.2.2.1 hP hD hS (fun q hq => Nat.le_trans X.2.2.2.2.2.2.2.2.2.1 hq) (fun cA => rfl) hc.1 rfl (Nat.le_trans (Nat.mul_le_mul_right _ (Nat.le_trans hc.2 hB)) (by decide)) (by omega) (by omega) hd (fun q cA H1 hK1 hP1 hD1 hS1 => ?_)
    have hcA : cA = eb_gc G 11 := by
      have e1 := (hK1.2 4 (cA, .int) rfl).2
      have e2 := (X.2.2.2.2.2.2.2.2.1.2 1 (eb_gc G 11, .int) rfl).2
      exact Option.some.inj (e1.symm.trans e2)
    subst hcA
    refine W.widen (k := cn + 1) (n := sn + B) (Nat.le_refl _) (by omega) ?_
    refine kk _ _ out ho p e s m args below meth c Q R hR X (as ++ [q]) ls _ H1 locs (eb_lo_ext (List.prefix_append _ _) hl) ⟨⟨q, eb_new_a hl1, rfl⟩, eb_st_ext (List.prefix_append _ _) hs0⟩ (eb_W_new hC hl1 hl2 hP1 hD1 ?_) hS1 (fun as' ls' H' locs' pc' c' s' hp => kr as' ls' H' locs' pc' c' s' ((List.prefix_append _ _).trans hp))
    unfold eb_C
    rw [eb_new_Ts, if_neg (by decide), if_pos (by decide), eb_new_L, eb_new_I]
  · rw [if_neg hc] at ho; cases ho

theorem eb_newc {i : Int32} {B : Nat} {K : Nat → eb_S → Option (ρ × eb_S)} (hw : Cond.arrayClass .char ∈ eb_tbl) (hd : decode cc pc = .ok (.newarray .char, 2)) (hB : B ≤ 100000) (h1 : cn + 1 ≤ mc) (h2 : sn + B ≤ ms) (kk : ∀ r σ', eb_go G y cc nL rt fr mc ms ri enc (pc + 2) L (.ref r :: st) σ' (cn + 1) (sn + B) (K r σ')) : eb_go G y cc nL rt fr mc ms ri enc pc L (.int i :: st) σ cn sn (eb_na σ 10 B i K) := by
  intro out ho p e s m args below meth c Q R hR X as ls cst H locs hl hs hW hS kr
  obtain ⟨c0, rfl, hs0⟩ := eb_st_i hs
  unfold eb_na at ho
  by_cases hc : ¬ i < 0 ∧ i.toNatClampNeg ≤ B
  · rw [if_pos hc] at ho
    obtain ⟨ws, hP, hD, hl1, hl2, hC⟩ := id hW
    refine va_newa (atype := .char) (ty := .char) (a0 := (i.toNatClampNeg, .inl (fun _ => 0))) (N' := i.toNatClampNeg) X.1 X.2.1 (X.2.2.2.2.2.2.2.1 _ hw) rfl X.2.2.2.2.2.2.2.2.1 hP hD hS (fun q hq => Nat.le_trans X.2.2.2.2.2.2.2.2.2.1 hq) (fun cA => rfl) hc.1 rfl (Nat.le_trans (Nat.mul_le_mul_right _ (Nat.le_trans hc.2 hB)) (by decide)) (by omega) (by omega) hd (fun q cA H1 hK1 hP1 hD1 hS1 => ?_)
    have hcA : cA = eb_gc G 10 := by
      have e1 := (hK1.2 4 (cA, .char) rfl).2
      have e2 := (X.2.2.2.2.2.2.2.2.1.2 0 (eb_gc G 10, .char) rfl).2
      exact Option.some.inj (e1.symm.trans e2)
    subst hcA
    refine W.widen (k := cn + 1) (n := sn + B) (Nat.le_refl _) (by omega) ?_
    refine kk _ _ out ho p e s m args below meth c Q R hR X (as ++ [q]) ls _ H1 locs (eb_lo_ext (List.prefix_append _ _) hl) ⟨⟨q, eb_new_a hl1, rfl⟩, eb_st_ext (List.prefix_append _ _) hs0⟩ (eb_W_new hC hl1 hl2 hP1 hD1 ?_) hS1 (fun as' ls' H' locs' pc' c' s' hp => kr as' ls' H' locs' pc' c' s' ((List.prefix_append _ _).trans hp))
    unfold eb_C
    rw [eb_new_Ts, if_neg (by decide), if_pos (by decide), eb_new_L, eb_new_I]
  · rw [if_neg hc] at ho; cases ho

theorem eb_newl {i : Int32} {B : Nat} {K : Nat → eb_S → Option (ρ × eb_S)} (hw : Cond.arrayClass .long ∈ eb_tbl) (hd : decode cc pc = .ok (.newarray .long, 2)) (hB : B ≤ 100000) (h1 : cn + 1 ≤ mc) (h2 : sn + B ≤ ms) (kk : ∀ r σ', eb_go G y cc nL rt fr mc ms ri enc (pc + 2) L (.ref r :: st) σ' (cn + 1) (sn + B) (K r σ')) : eb_go G y cc nL rt fr mc ms ri enc pc L (.int i :: st) σ cn sn (eb_na σ 12 B i K) := by
  intro out ho p e s m args below meth c Q R hR X as ls cst H locs hl hs hW hS kr
  obtain ⟨c0, rfl, hs0⟩ := eb_st_i hs
  unfold eb_na at ho
  by_cases hc : ¬ i < 0 ∧ i.toNatClampNeg ≤ B
  · rw [if_pos hc] at ho
    obtain ⟨ws, hP, hD, hl1, hl2, hC⟩ := id hW
    refine va_newa (atype := .long) (ty := .long) (a0 := (i.toNatClampNeg, .inr (.inl (fun _ => 0)))) (N' := i.toNatClampNeg) X.1 X.2.1 (X.2.2.2.2.2.2.2.1 _ hw) rfl X.2.2.2.2.2.2.2.2.1 hP hD hS (fun q hq => Nat.le_trans X.2.2.2.2.2.2.2.2.2.1 hq) (fun cA => rfl) hc.1 rfl (Nat.le_trans (Nat.mul_le_mul_right _ (Nat.le_trans hc.2 hB)) (by decide)) (by omega) (by omega) hd (fun q cA H1 hK1 hP1 hD1 hS1 => ?_)
    have hcA : cA = eb_gc G 12 := by
      have e1 := (hK1.2 4 (cA, .long) rfl).2
      have e2 := (X.2.2.2.2.2.2.2.2.1.2 2 (eb_gc G 12, .long) rfl).2
      exact Option.some.inj (e1.symm.trans e2)
    subst hcA
    refine W.widen (k := cn + 1) (n := sn + B) (Nat.le_refl _) (by omega) ?_
    refine kk _ _ out ho p e s m args below meth c Q R hR X (as ++ [q]) ls _ H1 locs (eb_lo_ext (List.prefix_append _ _) hl) ⟨⟨q, eb_new_a hl1, rfl⟩, eb_st_ext (List.prefix_append _ _) hs0⟩ (eb_W_new hC hl1 hl2 hP1 hD1 ?_) hS1 (fun as' ls' H' locs' pc' c' s' hp => kr as' ls' H' locs' pc' c' s' ((List.prefix_append _ _).trans hp))
    unfold eb_C
    rw [eb_new_Ts, if_neg (by decide), if_neg (by decide), if_pos rfl, eb_new_L, eb_new_J]
  · rw [if_neg hc] at ho; cases ho

theorem eb_newq {idx : Nat} {i : Int32} {B : Nat} {K : Nat → eb_S → Option (ρ × eb_S)} (hw : Cond.arrayOver (.object RX7) ∈ eb_tbl) (hcl : Cond.classLink y.cls idx RX7 ∈ eb_tbl) (hd : decode cc pc = .ok (.anewarray idx, 3)) (hB : B ≤ 100000) (h1 : cn + 1 ≤ mc) (h2 : sn + B ≤ ms) (kk : ∀ r σ', eb_go G y cc nL rt fr mc ms ri enc (pc + 3) L (.ref r :: st) σ' (cn + 1) (sn + B) (K r σ')) : eb_go G y cc nL rt fr mc ms ri enc pc L (.int i :: st) σ cn sn (eb_na σ 13 B i K) := by
  intro out ho p e s m args below meth c Q R hR X as ls cst H locs hl hs hW hS kr
  obtain ⟨c0, rfl, hs0⟩ := eb_st_i hs
  unfold eb_na at ho
  by_cases hc : ¬ i < 0 ∧ i.toNatClampNeg ≤ B
  · rw [if_pos hc] at ho
    obtain ⟨ws, hP, hD, hl1, hl2, hC⟩ := id hW
    have hov : va_AO RX7 s := word_at (State.WarmedH.refl s) (good_of_word (List.mem_filter.mp hw).2) (X.2.2.2.2.2.2.2.1 _ hw)
    refine va_newq (N' := i.toNatClampNeg) X.1 X.2.1 X.2.2.2.2.2.1 (X.2.2.2.2.2.2.2.1 _ hcl) hov X.2.2.2.2.2.2.2.2.1 hP hD hS (fun q hq => Nat.le_trans X.2.2.2.2.2.2.2.2.2.1 hq) hc.1 rfl (Nat.le_trans (Nat.mul_le_mul_right _ (Nat.le_trans hc.2 hB)) (by decide)) (by omega) (by omega) hd (fun q cA H1 hK1 hP1 hD1 hS1 => ?_)
    have hcA : cA = eb_gc G 13 := by
      obtain ⟨k1, c1, -, -, -, e1⟩ := (hK1.2 4 (cA, .object RX7) rfl).2
      obtain ⟨k2, c2, -, -, -, e2⟩ := (X.2.2.2.2.2.2.2.2.1.2 3 (eb_gc G 13, .object RX7) rfl).2
      exact Option.some.inj (e1.symm.trans e2)
    subst hcA
    refine W.widen (k := cn + 1) (n := sn + B) (Nat.le_refl _) (by omega) ?_
    refine kk _ _ out ho p e s m args below meth c Q R hR X (as ++ [q]) ls _ H1 locs (eb_lo_ext (List.prefix_append _ _) hl) ⟨⟨q, eb_new_a hl1, rfl⟩, eb_st_ext (List.prefix_append _ _) hs0⟩ (eb_W_new hC hl1 hl2 hP1 hD1 ?_) hS1 (fun as' ls' H' locs' pc' c' s' hp => kr as' ls' H' locs' pc' c' s' ((List.prefix_append _ _).trans hp))
    unfold eb_C
    rw [eb_new_Ts, if_neg (by decide), if_neg (by decide), if_neg (by decide), eb_new_L, eb_new_R]
    exact ⟨_, rfl, fun j hj => Or.inl ⟨rfl, rfl⟩⟩
  · rw [if_neg hc] at ho; cases ho
def eb_df (ci : Nat) : Bool := match vwCl[ci]? with
  | none => false
  | some q => (List.range q.2.2).all fun a => decide (defaultValue ((parseFieldDescriptor (q.2.1 a).2.2.1).getD .int) = if eb_isR ci a = true then .null else .int 0)
theorem eb_df_ok : ∀ ci, ci < 10 → eb_df ci = true := by decide +kernel
theorem eb_newo {idx ci n : Nat} {q : vw_C} {K : Nat → eb_S → Option (ρ × eb_S)} (hq : vwCl[ci]? = some q) (hn : q.2.2 = n) (hin : ∀ w ∈ u_ws q.1 q.2.1 q.2.2, w ∈ eb_tbl) (hcl : Cond.classLink y.cls idx q.1 ∈ eb_tbl) (hit : Cond.instantiable q.1 q.2.2 ∈ eb_tbl) (hii : Cond.initialized q.1 ∈ eb_tbl) (hd : decode cc pc = .ok (.new idx, 3)) (h1 : cn + 1 ≤ mc) (h2 : sn + n ≤ ms) (kk : ∀ r σ', eb_go G y cc nL rt fr mc ms ri enc (pc + 3) L (.ref r :: st) σ' (cn + 1) (sn + n) (K r σ')) : eb_go G y cc nL rt fr mc ms ri enc pc L st σ cn sn (eb_no σ ci n K) := by
  intro out ho p e s m args below meth c Q R hR X as ls cst H locs hl hs hW hS kr
  unfold eb_no at ho
  subst hn
  obtain ⟨ws, hP, hD, hl1, hl2, hC⟩ := id hW
  have hdf := eb_df_ok ci (eb_vw_lt hq)
  rw [eb_df, hq] at hdf
  have hdf2 : ∀ a, a < q.2.2 → defaultValue ((parseFieldDescriptor (q.2.1 a).2.2.1).getD .int) = if eb_isR ci a = true then .null else .int 0 := fun a ha => of_decide_eq_true (List.all_eq_true.mp hdf a (List.mem_range.mpr ha))
  have hfv : ∀ j, j < q.2.2 → ((List.range q.2.2).map (fun a => if eb_isR ci a = true then Value.null else .int 0))[j]? = some (if eb_isR ci j = true then .null else .int 0) := fun j hj => by
    rw [List.getElem?_map, List.getElem?_range hj]; rfl
  refine va_new (ci := ci) (fs := (List.range q.2.2).map (fun a => if eb_isR ci a = true then Value.null else .int 0)) (C := q.1) (T := q.2.1) (N := q.2.2) X.1 X.2.1 X.2.2.2.2.2.2.2.1 hin _ (eb_tys hq) X.2.2.2.2.2.1 (X.2.2.2.2.2.2.2.1 _ hcl) (X.2.2.2.2.2.2.2.1 _ hit) (X.2.2.2.2.2.2.2.1 _ hii) X.2.2.2.2.2.2.2.2.1 hP hD hS (fun q hq => Nat.le_trans X.2.2.2.2.2.2.2.2.2.1 hq) hq (fun j hj => ?_) (by omega) (by omega) hd (fun q1 H1 hP1 hD1 hS1 => ?_)
  · rw [hdf2 j hj, vp_V, List.getD_eq_getElem?_getD, hfv j hj]; rfl
  · refine kk _ _ out ho p e s m args below meth c Q R hR X (as ++ [q1]) ls _ H1 locs (eb_lo_ext (List.prefix_append _ _) hl) ⟨⟨q1, eb_new_a hl1, rfl⟩, eb_st_ext (List.prefix_append _ _) hs⟩ (eb_W_new hC hl1 hl2 hP1 hD1 ?_) hS1 (fun as' ls' H' locs' pc' c' s' hp => kr as' ls' H' locs' pc' c' s' ((List.prefix_append _ _).trans hp))
    unfold eb_C
    rw [eb_new_Ts, if_pos (eb_vw_lt hq)]
    refine ⟨q, _, hq, rfl, by rw [List.length_map, List.length_range], fun j hj => ⟨_, hfv j hj, ?_⟩⟩
    unfold eb_fv
    rw [eb_new_R, eb_new_I]
    split
    · exact Or.inl ⟨rfl, rfl⟩
    · rfl

theorem eb_fix {s : State} {H : Heap} {locs : List Loc} (hE : eb_E G s) (hS : va_S (eb_A G) s.heap H locs) {r : Nat} (h0 : 0 < r) (h5 : r < 5) : ∃ cell : Cell, H[eb_ga G r]? = some cell ∧ s.isArrayOf cell .int ∧ cell.vm ≠ .unknown ∧ cell.slots.size = eb_gn G r ∧ (∀ j, j < eb_gn G r → cell.slots[j]? = some (.int (eb_gx G r j))) := by
  obtain ⟨cell, h1, h2, h3, h4, h6, h7⟩ := hE.2.2.1 r h0 h5
  refine ⟨cell, ?_, h2, h3, h4, h6⟩
  rw [hS.2.1 (eb_ga G r) (Array.getElem?_eq_some_iff.mp h1).1 (fun h => absurd h7 (Nat.not_lt.mpr h))]
  exact h1
theorem eb_a_fix {as : List Nat} {r : Nat} (h0 : 0 < r) (h8 : r < 8) : eb_a G as r = some (eb_ga G r) := by
  unfold eb_a
  rw [if_neg (by omega), if_pos h8]
theorem eb_ialoadx {r n : Nat} {f : Nat → Int32} {i : Int32} {K : Int32 → Option (ρ × eb_S)} (hr : 0 < r ∧ r < 5) (hn : eb_gn G r = n) (hf : eb_gx G r = f) (hd : decode cc pc = .ok (.iaload, 1)) (kk : ∀ x, eb_go G y cc nL rt fr mc ms ri enc (pc + 1) L (.int x :: st) σ cn sn (K x)) : eb_go G y cc nL rt fr mc ms ri enc pc L (.int i :: .ref r :: st) σ cn sn (eb_xi n f i K) := by
  intro out ho p e s m args below meth c Q R hR X as ls cst H locs hl hs hW hS kr
  obtain ⟨c0, rfl, hs0⟩ := eb_st_i hs
  obtain ⟨a, c1, rfl, ha, hs1⟩ := eb_st_r hs0
  rw [eb_a_fix hr.1 (by omega)] at ha
  cases ha
  unfold eb_xi at ho
  subst hn; subst hf
  by_cases hc : eb_in i (eb_gn G r) = true
  · rw [if_pos hc] at ho
    obtain ⟨cell, g1, g2, g3, g4, g5⟩ := eb_fix X.2.2.2.2.2.2.2.2 hS hr.1 hr.2
    have hin := eb_in_vp hc
    have hin2 : i.toNatClampNeg < eb_gn G r := Nat.lt_of_not_le (fun h => hin (Or.inr h))
    exact W.iald X.1 X.2.1 g1 g2 g3 (by rw [g4]; exact hin) (g5 _ hin2) rfl rfl hd (kk _ out ho p e s m args below meth c Q R hR X as ls _ H locs hl ⟨rfl, hs1⟩ hW hS kr)
  · rw [if_neg hc] at ho; cases ho
theorem eb_alenx {r n : Nat} {K : Int32 → Option (ρ × eb_S)} (hr : 0 < r ∧ r < 5) (hn : eb_gn G r = n) (hd : decode cc pc = .ok (.arraylength, 1)) (kk : eb_go G y cc nL rt fr mc ms ri enc (pc + 1) L (.int (Int32.ofNat n) :: st) σ cn sn o) : eb_go G y cc nL rt fr mc ms ri enc pc L (.ref r :: st) σ cn sn o := by
  intro out ho p e s m args below meth c Q R hR X as ls cst H locs hl hs hW hS kr
  obtain ⟨a, c1, rfl, ha, hs1⟩ := eb_st_r hs
  rw [eb_a_fix hr.1 (by omega)] at ha
  cases ha
  subst hn
  obtain ⟨cell, g1, g2, g3, g4, g5⟩ := eb_fix X.2.2.2.2.2.2.2.2 hS hr.1 hr.2
  exact W.alen X.1 X.2.1 g1 g2 (by rw [g4]) rfl rfl hd (kk out ho p e s m args below meth c Q R hR X as ls _ H locs hl ⟨rfl, hs1⟩ hW hS kr)
theorem eb_gets {idx r : Nat} {C n : String} (hq : (C, n, r) ∈ eb_stats) (hr : 0 < r ∧ r < 8) (hlk : Cond.fieldLink y.cls idx C n "[I" ∈ eb_tbl) (hd : decode cc pc = .ok (.getstatic idx, 3)) (kk : eb_go G y cc nL rt fr mc ms ri enc (pc + 3) L (.ref r :: st) σ cn sn o) : eb_go G y cc nL rt fr mc ms ri enc pc L st σ cn sn o := by
  intro out ho p e s m args below meth c Q R hR X as ls cst H locs hl hs hW hS kr
  exact va_gets X.1 X.2.1 (X.2.2.2.2.2.2.2.2.2.2.2 _ hq) hS X.2.2.2.2.2.1 (X.2.2.2.2.2.2.2.1 _ hlk) (fun _ h => h) hd (kk out ho p e s m args below meth c Q R hR X as ls _ H locs hl ⟨⟨_, eb_a_fix hr.1 hr.2, rfl⟩, hs⟩ hW hS kr)

theorem eb_mmax {idx : Nat} {a : Int32} {b : Int32} (hlk : Cond.methodLink y.cls idx Lib.Math.max.name ∈ eb_tbl) (hst : Cond.static Lib.Math.max.name ∈ eb_tbl) (hii : Cond.initialized "java/lang/Math" ∈ eb_tbl) (hcd : Cond.code Lib.Math.max.name Lib.Math.max.code 2 (some .int) ∈ eb_tbl) (hfr : 1 ≤ fr) (hsm : (st.map fun v => v.category).sum ≤ 8) (h1 : cn ≤ mc) (h2 : sn ≤ ms) (hd : decode cc pc = .ok (.invokestatic idx, 3)) (kk : eb_go G y cc nL rt fr mc ms ri enc (pc + 3) L (.int (if a < b then b else a) :: st) σ cn sn o) : eb_go G y cc nL rt fr mc ms ri enc pc L (.int b :: .int a :: st) σ cn sn o := by
  intro out ho p e s m args below meth c Q R hR X as ls cst H locs hl hs hW hS kr
  obtain ⟨cb, rfl, hsb⟩ := eb_st_i hs
  obtain ⟨ca, rfl, hsa⟩ := eb_st_i hsb
  exact va_mmax X.1 X.2.1 (by rw [X.2.2.2.2.1]; exact hl.1.symm) X.2.2.2.2.2.1 (X.2.2.2.2.2.2.2.1 _ hlk) (X.2.2.2.2.2.2.2.1 _ hst) (X.2.2.2.2.2.2.2.1 _ hii) (X.2.2.2.2.2.2.2.1 _ hcd) (by omega) (by rw [eb_st_cat hsa]; omega) (by omega) (by omega) hd (kk out ho p e s m args below meth c Q R hR X as ls _ H locs hl ⟨rfl, hsa⟩ hW hS kr)

theorem eb_mmin {idx : Nat} {a : Int32} {b : Int32} (hlk : Cond.methodLink y.cls idx Lib.Math.min.name ∈ eb_tbl) (hst : Cond.static Lib.Math.min.name ∈ eb_tbl) (hii : Cond.initialized "java/lang/Math" ∈ eb_tbl) (hcd : Cond.code Lib.Math.min.name Lib.Math.min.code 2 (some .int) ∈ eb_tbl) (hfr : 1 ≤ fr) (hsm : (st.map fun v => v.category).sum ≤ 8) (h1 : cn ≤ mc) (h2 : sn ≤ ms) (hd : decode cc pc = .ok (.invokestatic idx, 3)) (kk : eb_go G y cc nL rt fr mc ms ri enc (pc + 3) L (.int (if b < a then b else a) :: st) σ cn sn o) : eb_go G y cc nL rt fr mc ms ri enc pc L (.int b :: .int a :: st) σ cn sn o := by
  intro out ho p e s m args below meth c Q R hR X as ls cst H locs hl hs hW hS kr
  obtain ⟨cb, rfl, hsb⟩ := eb_st_i hs
  obtain ⟨ca, rfl, hsa⟩ := eb_st_i hsb
  exact va_mmin X.1 X.2.1 (by rw [X.2.2.2.2.1]; exact hl.1.symm) X.2.2.2.2.2.1 (X.2.2.2.2.2.2.2.1 _ hlk) (X.2.2.2.2.2.2.2.1 _ hst) (X.2.2.2.2.2.2.2.1 _ hii) (X.2.2.2.2.2.2.2.1 _ hcd) (by omega) (by rw [eb_st_cat hsa]; omega) (by omega) (by omega) hd (kk out ho p e s m args below meth c Q R hR X as ls _ H locs hl ⟨rfl, hsa⟩ hW hS kr)

theorem eb_mabs {idx : Nat} {a : Int32} (hlk : Cond.methodLink y.cls idx Lib.Math.abs.name ∈ eb_tbl) (hst : Cond.static Lib.Math.abs.name ∈ eb_tbl) (hii : Cond.initialized "java/lang/Math" ∈ eb_tbl) (hcd : Cond.code Lib.Math.abs.name Lib.Math.abs.code 1 (some .int) ∈ eb_tbl) (hfr : 1 ≤ fr) (hsm : (st.map fun v => v.category).sum ≤ 8) (h1 : cn ≤ mc) (h2 : sn ≤ ms) (hd : decode cc pc = .ok (.invokestatic idx, 3)) (kk : eb_go G y cc nL rt fr mc ms ri enc (pc + 3) L (.int (if 0 ≤ a then a else 0 - a) :: st) σ cn sn o) : eb_go G y cc nL rt fr mc ms ri enc pc L (.int a :: st) σ cn sn o := by
  intro out ho p e s m args below meth c Q R hR X as ls cst H locs hl hs hW hS kr
  obtain ⟨ca, rfl, hsa⟩ := eb_st_i hs
  exact va_mabs X.1 X.2.1 (by rw [X.2.2.2.2.1]; exact hl.1.symm) X.2.2.2.2.2.1 (X.2.2.2.2.2.2.2.1 _ hlk) (X.2.2.2.2.2.2.2.1 _ hst) (X.2.2.2.2.2.2.2.1 _ hii) (X.2.2.2.2.2.2.2.1 _ hcd) (by omega) (by rw [eb_st_cat hsa]; omega) (by omega) (by omega) hd (kk out ho p e s m args below meth c Q R hR X as ls _ H locs hl ⟨rfl, hsa⟩ hW hS kr)

theorem eb_copyi {idx : Nat} {k1 k2 : Nat} {sp dp n : Int32} {K : eb_S → Option (ρ × eb_S)} (hlk : Cond.methodLink y.cls idx arraycopyName ∈ eb_tbl) (hna : Cond.native arraycopyName ∈ eb_tbl) (hst : Cond.static arraycopyName ∈ eb_tbl) (hii : Cond.initialized "java/lang/System" ∈ eb_tbl) (hfr : 1 ≤ fr) (hsm : (st.map fun v => v.category).sum ≤ 8) (hd : decode cc pc = .ok (.invokestatic idx, 3)) (kk : ∀ σ', eb_go G y cc nL rt fr mc ms ri enc (pc + 3) L st σ' cn sn (K σ')) : eb_go G y cc nL rt fr mc ms ri enc pc L (.int n :: .int dp :: .ref k2 :: .int sp :: .ref k1 :: st) σ cn sn (eb_ci σ k1 sp k2 dp n K) := by
  intro out ho p e s m args below meth c Q R hR X as ls cst H locs hl hs hW hS kr
  obtain ⟨c1, rfl, hs1⟩ := eb_st_i hs
  obtain ⟨c2, rfl, hs2⟩ := eb_st_i hs1
  obtain ⟨a2, c3, rfl, ha2, hs3⟩ := eb_st_r hs2
  obtain ⟨c4, rfl, hs4⟩ := eb_st_i hs3
  obtain ⟨a1, c5, rfl, ha1, hs5⟩ := eb_st_r hs4
  unfold eb_ci at ho
  by_cases hc : eb_T σ k1 = 11 ∧ eb_T σ k2 = 11 ∧ ¬ sp < 0 ∧ ¬ dp < 0 ∧ ¬ n < 0 ∧ sp.toNatClampNeg + n.toNatClampNeg ≤ eb_L σ k1 ∧ dp.toNatClampNeg + n.toNatClampNeg ≤ eb_L σ k2
  · rw [if_pos hc] at ho
    obtain ⟨ws, hP, hD, hl1, hl2, hC⟩ := id hW
    obtain ⟨h8, e1, he1, hC1⟩ := eb_W_at hC (k := k1) (by omega) ha1
    obtain ⟨h82, e2, he2, hC2⟩ := eb_W_at hC (k := k2) (by omega) ha2
    have hka := (eb_T8 (k := k2) hW (by omega) ha2).2
    rw [eb_C_arr hC1 (by omega) (by omega), hc.1] at he1
    rw [eb_C_arr hC2 (by omega) (by omega), hc.2.1] at he2
    have hw9 : nativeFrameWords "java/lang/System" "arraycopy" 5 + 11 ≤ 32 := by decide +kernel
    refine va_copyi X.1 X.2.1 (by rw [X.2.2.2.2.1]; exact hl.1.symm) X.2.2.2.2.2.1 (X.2.2.2.2.2.2.2.1 _ hlk) (X.2.2.2.2.2.2.2.1 _ hna) (X.2.2.2.2.2.2.2.1 _ hst) (X.2.2.2.2.2.2.2.1 _ hii) X.2.2.2.2.2.2.2.2.1 hP hD hS (k1 - 8) (k2 - 8) 1 1 he1 he2 rfl rfl rfl hc.2.2.1 hc.2.2.2.1 hc.2.2.2.2.1 hc.2.2.2.2.2.1 hc.2.2.2.2.2.2 (fun _ _ => rfl) (by omega) (by rw [eb_st_cat hs5]; omega) hd (fun H1 locs1 hP1 hD1 hS1 => kk _ out ho p e s m args below meth c Q R hR X as ls _ H1 locs1 hl hs5 (eb_W_set hC (k := k2) (by omega) hka hl1 hl2 hP1 hD1 rfl rfl ?_ (fun i hi => eb_up_n hi) (fun _ _ => rfl) (fun _ _ => rfl) rfl) hS1 kr)
    unfold eb_C
    show (if eb_T σ k2 < 10 then _ else if eb_T σ k2 < 12 then _ else _)
    rw [if_neg (by omega), if_pos (by omega)]
    show _ = Sum.inl (eb_gc G (eb_T σ k2), eb_L σ k2, Sum.inl (eb_up (eb_I σ) k2 _ k2))
    rw [eb_up_s, hc.2.1]
  · rw [if_neg hc] at ho; cases ho

theorem eb_copyj {idx : Nat} {k1 k2 : Nat} {sp dp n : Int32} {K : eb_S → Option (ρ × eb_S)} (hlk : Cond.methodLink y.cls idx arraycopyName ∈ eb_tbl) (hna : Cond.native arraycopyName ∈ eb_tbl) (hst : Cond.static arraycopyName ∈ eb_tbl) (hii : Cond.initialized "java/lang/System" ∈ eb_tbl) (hfr : 1 ≤ fr) (hsm : (st.map fun v => v.category).sum ≤ 8) (hd : decode cc pc = .ok (.invokestatic idx, 3)) (kk : ∀ σ', eb_go G y cc nL rt fr mc ms ri enc (pc + 3) L st σ' cn sn (K σ')) : eb_go G y cc nL rt fr mc ms ri enc pc L (.int n :: .int dp :: .ref k2 :: .int sp :: .ref k1 :: st) σ cn sn (eb_cj σ k1 sp k2 dp n K) := by
  intro out ho p e s m args below meth c Q R hR X as ls cst H locs hl hs hW hS kr
  obtain ⟨c1, rfl, hs1⟩ := eb_st_i hs
  obtain ⟨c2, rfl, hs2⟩ := eb_st_i hs1
  obtain ⟨a2, c3, rfl, ha2, hs3⟩ := eb_st_r hs2
  obtain ⟨c4, rfl, hs4⟩ := eb_st_i hs3
  obtain ⟨a1, c5, rfl, ha1, hs5⟩ := eb_st_r hs4
  unfold eb_cj at ho
  by_cases hc : eb_T σ k1 = 12 ∧ eb_T σ k2 = 12 ∧ ¬ sp < 0 ∧ ¬ dp < 0 ∧ ¬ n < 0 ∧ sp.toNatClampNeg + n.toNatClampNeg ≤ eb_L σ k1 ∧ dp.toNatClampNeg + n.toNatClampNeg ≤ eb_L σ k2
  · rw [if_pos hc] at ho
    obtain ⟨ws, hP, hD, hl1, hl2, hC⟩ := id hW
    obtain ⟨h8, e1, he1, hC1⟩ := eb_W_at hC (k := k1) (by omega) ha1
    obtain ⟨h82, e2, he2, hC2⟩ := eb_W_at hC (k := k2) (by omega) ha2
    have hka := (eb_T8 (k := k2) hW (by omega) ha2).2
    rw [eb_C_lng hC1 hc.1] at he1
    rw [eb_C_lng hC2 hc.2.1] at he2
    have hw9 : nativeFrameWords "java/lang/System" "arraycopy" 5 + 11 ≤ 32 := by decide +kernel
    refine va_copyl X.1 X.2.1 (by rw [X.2.2.2.2.1]; exact hl.1.symm) X.2.2.2.2.2.1 (X.2.2.2.2.2.2.2.1 _ hlk) (X.2.2.2.2.2.2.2.1 _ hna) (X.2.2.2.2.2.2.2.1 _ hst) (X.2.2.2.2.2.2.2.1 _ hii) X.2.2.2.2.2.2.2.2.1 hP hD hS (k1 - 8) (k2 - 8) 2 2 he1 he2 rfl rfl rfl hc.2.2.1 hc.2.2.2.1 hc.2.2.2.2.1 hc.2.2.2.2.2.1 hc.2.2.2.2.2.2 (fun _ _ => rfl) (by omega) (by rw [eb_st_cat hs5]; omega) hd (fun H1 locs1 hP1 hD1 hS1 => kk _ out ho p e s m args below meth c Q R hR X as ls _ H1 locs1 hl hs5 (eb_W_set hC (k := k2) (by omega) hka hl1 hl2 hP1 hD1 rfl rfl ?_ (fun _ _ => rfl) (fun i hi => eb_up_n hi) (fun _ _ => rfl) rfl) hS1 kr)
    unfold eb_C
    show (if eb_T σ k2 < 10 then _ else if eb_T σ k2 < 12 then _ else if eb_T σ k2 = 12 then _ else _)
    rw [if_neg (by omega), if_neg (by omega), if_pos hc.2.1]
    show _ = Sum.inl (eb_gc G 12, eb_L σ k2, Sum.inr (Sum.inl (eb_up (eb_J σ) k2 _ k2)))
    rw [eb_up_s]
  · rw [if_neg hc] at ho; cases ho

theorem eb_obj {idx k : Nat} (hlk : Cond.methodLink y.cls idx Lib.objectInit ∈ eb_tbl) (hin : Cond.instanceMethod Lib.objectInit ∈ eb_tbl) (hcd : Cond.code Lib.objectInit ⟨#[0xb1]⟩ 1 none ∈ eb_tbl) (hfr : 1 ≤ fr) (hsm : (st.map fun v => v.category).sum ≤ 8) (hd : decode cc pc = .ok (.invokespecial idx, 3)) (kk : eb_go G y cc nL rt fr mc ms ri enc (pc + 3) L st σ cn sn o) : eb_go G y cc nL rt fr mc ms ri enc pc L (.ref k :: st) σ cn sn o := by
  intro out ho p e s m args below meth c Q R hR X as ls cst H locs hl hs hW hS kr
  obtain ⟨a, c1, rfl, ha, hs1⟩ := eb_st_r hs
  refine W.objInit X.1 X.2.1 X.2.2.2.2.2.1 (X.2.2.2.2.2.2.2.1 _ hlk) (X.2.2.2.2.2.2.2.1 _ hin) (X.2.2.2.2.2.2.2.1 _ hcd) rfl (by rw [X.2.2.2.2.1]; exact hl.1) rfl hd (by omega) ?_ ?_
  · have := lv_room (m := m) (pc := pc) (ls := ls) (rest := .ref a :: c1) (st := c1) (by rw [eb_st_cat hs1]; exact hsm)
    omega
  · exact W.eq (g2 := F0 m (pc + 3) ls c1) rfl (kk out ho p e s m args below meth c Q R hR X as ls _ H locs hl hs1 hW hS kr)

end EBA
end
section
/-! ===== contracts over the typed store, and calls ===== -/
def eb_b (b : Bool) : Int32 := if b = true then 1 else 0
abbrev eb_ei : Int32 → Option Value := fun r => some (.int r)
abbrev eb_eb : Bool → Option Value := fun b => some (.int (eb_b b))
abbrev eb_el : Int64 → Option Value := fun r => some (.long r)
abbrev eb_ev : Unit → Option Value := fun _ => none
def eb_ws (y : MethodName) (cc : ByteArray) (nL : Nat) (rt : Option FieldType) : List Cond := Cond.code y cc nL rt :: eb_tbl
def eb_rm (fr mc ms : Nat) : Room := { frames := fr, cells := mc, slots := ms, locals := 40 * fr }
def eb_Pc (G : eb_G) (as : List Nat) (σ : eb_S) (cav : List Value) : Array Value → State → Prop := va_Pc cav (fun U => eb_E G U ∧ eb_W G as σ U.heap)
def eb_Qc (G : eb_G) (as : List Nat) (v : Option Value) (σ' : eb_S) : Array Value → State → Outcome → State → Prop := fun _ st oc t => (∃ as' : List Nat, oc = .returned v ∧ as <+: as' ∧ eb_W G as' σ' t.heap) ∧ va_F (eb_A G) st t
/-- the method's contract at these arguments and this store: if 'o' is an answer, that is what it comes to -/
def eb_ct {ρ : Type} (G : eb_G) (y : MethodName) (cc : ByteArray) (nL : Nat) (rt : Option FieldType) (fr mc ms : Nat) (enc : ρ → Option Value) (av : List Value) (σ : eb_S) (o : Option (ρ × eb_S)) : Prop :=
  ∀ out, o = some out → ∀ (as : List Nat) (cav : List Value), eb_st G as av cav → Met (eb_gl G) y (eb_ws y cc nL rt) (eb_rm fr mc ms) (eb_Pc G as σ cav) (eb_Qc G as (enc out.1) out.2) mc ms (eb_A G)
theorem eb_E_moved {G : eb_G} {u U : State} (hvm : u.vm.Alike U.vm) (hz : u.heap.size ≤ U.heap.size) (hk : ∀ q, q < u.heap.size → ¬ eb_A G q → U.heap[q]? = u.heap[q]?) (h : eb_E G u) : eb_E G U := by
  obtain ⟨h1, h2, h3, h4⟩ := h
  refine ⟨va_K.moved hvm h1, Nat.le_trans h2 hz, fun r h0 h5 => ?_, fun q hq => ?_⟩
  · obtain ⟨cell, g1, g2, g3, g4, g5, g6⟩ := h3 r h0 h5
    refine ⟨cell, ?_, State.isArrayOf_alike hvm g2, g3, g4, g5, g6⟩
    rw [hk _ (Array.getElem?_eq_some_iff.mp g1).1 (fun h => absurd g6 (Nat.not_lt.mpr h))]
    exact g1
  · exact (va_Z.moved hvm (h4 q hq)).kept hk
theorem eb_blind {G : eb_G} {as : List Nat} {σ : eb_S} {cav : List Value} : FrameBlind (eb_Pc G as σ cav) := by
  intro a U g mk h
  obtain ⟨h1, h2, h3⟩ := h
  exact ⟨h1, eb_E_moved (U := U.calling g mk a) (Vm.Alike.refl U.vm) (Nat.le_refl _) (fun _ _ _ => rfl) h2, h3⟩
theorem eb_pre {G : eb_G} {as : List Nat} {σ : eb_S} {cav : List Value} {s : State} {H : Heap} {locs : List Loc} (hE : eb_E G s) (hW : eb_W G as σ H) (hS : va_S (eb_A G) s.heap H locs) : ∀ U : State, U.heap = H → s.WarmedH U.vm → eb_Pc G as σ cav cav.toArray U := by
  intro U hU hV
  subst hU
  exact ⟨rfl, eb_E_moved hV.alike hS.1 hS.2.1 hE, hW⟩
theorem eb_good {y : MethodName} {cc : ByteArray} {nL : Nat} {rt : Option FieldType} (h : Cond.code y cc nL rt ∈ eb_tbl) : GoodIn eb_tbl (eb_ws y cc nL rt) := fun w hw => (List.mem_cons.mp hw).elim (fun e => e ▸ eb_tbl_good _ h) (fun h => eb_tbl_good _ h)
theorem eb_gcons {w : Cond} {l : List Cond} (h : w ∈ eb_tbl) (hl : GoodIn eb_tbl l) : GoodIn eb_tbl (w :: l) := fun x hx => (List.mem_cons.mp hx).elim (fun e => e ▸ eb_tbl_good _ h) (fun h => hl x h)
/-- behind a call -/
theorem eb_callW {G : eb_G} {p : Program} {e : Env} {R : Room} {s : State} {m : MethodId} {args : Array Value} {below : List Frame} {meth : Method} {c : Code} {H : Heap} {locs : List Loc} {cells slots mc ms pc : Nat} {Q : State → Prop} {ls : Array Slot} {st0 rest : List Value} {a : Array Value} {as : List Nat} {v : Option Value} {σ' : eb_S}
    (hr : va_Run p (eb_gl G) e R s m args below meth c H locs cells slots mc ms (F0 m pc ls st0) rest (eb_Qc G as v σ' a) (eb_A G)) (hS : va_S (eb_A G) s.heap H locs)
    (kk : ∀ (as' : List Nat) (H1 : Heap) (locs1 : List Loc), as <+: as' → eb_W G as' σ' H1 → va_S (eb_A G) s.heap H1 locs1 → W p (eb_gl G) e R s m args below meth c H1 locs1 (cells + mc) (slots + ms) Q (F0 m (pc + 3) ls (v.toList ++ rest))) : W p (eb_gl G) e R s m args below meth c H locs cells slots Q (F0 m pc ls st0) := by
  intro T hT X
  obtain ⟨v', st₀, t, T', L, h0, X', hL, e1, e2, ⟨⟨as', hv, hp, hb⟩, hz, hk⟩, st⟩ := hr T hT X
  cases hv
  rw [h0] at hz hk
  obtain ⟨t2, a1, b1⟩ := kk as' T'.heap (locs ++ L) hp (by rw [e1]; exact hb)
    ⟨Nat.le_trans hS.1 (by rw [e1]; exact hz), fun q h1 h2 => by rw [e1, hk q (Nat.lt_of_lt_of_le h1 hS.1) h2]; exact hS.2.1 q h1 h2, fun q hq => by
      rcases List.mem_append.mp hq with h | h
      · exact hS.2.2 q h
      · exact hL q h⟩ T' rfl X'
  exact ⟨t2, st t2 a1, b1⟩
/-- a call instruction at pc, its arguments on the stack above 'rest', runs the callee -/
def eb_runs {ρ : Type} (G : eb_G) (y : MethodName) (cc : ByteArray) (nL : Nat) (rt : Option FieldType) (fr mc ms pc : Nat) (st rest : List Value) (σ : eb_S) (cn sn mc1 ms1 : Nat) (enc : ρ → Option Value) (o : Option (ρ × eb_S)) : Prop :=
  ∀ out, o = some out → ∀ (p : Program) (e : Env) (s : State) (m : MethodId) (args : Array Value) (below : List Frame) (meth : Method) (c : Code) (R : Room), fr ≤ R.frames ∧ 40 * fr ≤ R.locals ∧ mc ≤ R.cells ∧ ms ≤ R.slots → eb_X G y cc nL rt p s m args meth c →
    ∀ (as : List Nat) (ls : Array Slot) (cst : List Value) (H : Heap) (locs : List Loc), ls.size = nL → eb_st G as st cst → eb_W G as σ H → va_S (eb_A G) s.heap H locs →
    ∃ (cr : List Value) (a : Array Value), eb_st G as rest cr ∧ va_Run p (eb_gl G) e R s m args below meth c H locs cn sn mc1 ms1 (F0 m pc ls cst) cr (eb_Qc G as (enc out.1) out.2 a) (eb_A G)
/-- the cell k is of the kind ci, or there is no answer -/
def eb_tg {τ : Type} (σ : eb_S) (k ci : Nat) (o : Option τ) : Option τ := if eb_T σ k = ci then o else none
theorem eb_tg_some {τ : Type} {σ : eb_S} {k ci : Nat} {o : Option τ} {out : τ} (h : eb_tg σ k ci o = some out) : eb_T σ k = ci ∧ o = some out := by
  unfold eb_tg at h
  by_cases hc : eb_T σ k = ci
  · rw [if_pos hc] at h; exact ⟨hc, h⟩
  · rw [if_neg hc] at h; cases h

section EBC
variable {ρ ρ2 : Type} {G : eb_G} {y : MethodName} {cc : ByteArray} {nL : Nat} {rt : Option FieldType} {fr mc ms : Nat} {ri : Instr} {enc : ρ → List Value} {pc : Nat} {L : List (Nat × Value)} {st rest : List Value} {σ : eb_S} {cn sn : Nat} {y2 : MethodName} {cc2 : ByteArray} {nL2 : Nat} {rt2 : Option FieldType} {fr2 mc1 ms1 : Nat} {enc2 : ρ2 → Option Value} {o2 : Option (ρ2 × eb_S)} {As : List Value} {k ci n idx : Nat}
theorem eb_runV (hlk : Cond.methodLink y.cls idx y2 ∈ eb_tbl) (hin : Cond.instanceMethod y2 ∈ eb_tbl) (hse : Cond.selects y2.cls y2 y2 ∈ eb_tbl) (hii : Cond.initialized y2.cls ∈ eb_tbl) {q0 : vw_C} (hq0 : vwCl[ci]? = some q0) (hyc : y2.cls = q0.1) (hdd : y2.cls ≠ "java/lang/invoke/MethodHandle" ∧ y2.cls ≠ "java/lang/invoke/VarHandle" ∧ (parseMethodDescriptor y2.desc).map (fun d => d.parameters.length) = some n) (hct : eb_ct G y2 cc2 nL2 rt2 fr2 mc1 ms1 enc2 (.ref k :: As) σ o2) {q : vw_C} (hq : vwCl[ci]? = some q) (hcd : Cond.code y2 cc2 nL2 rt2 ∈ eb_tbl) (hfr : fr2 + 1 ≤ fr ∧ nL2 ≤ 21) (hc1 : cn + mc1 ≤ mc) (hs1 : sn + ms1 ≤ ms) (hsm : (rest.map fun v => v.category).sum ≤ 8) (hn : As.length = n) (hd : decode cc pc = .ok (.invokevirtual idx, 3)) : eb_runs G y cc nL rt fr mc ms pc (As.reverse ++ .ref k :: rest) rest σ cn sn mc1 ms1 enc2 (eb_tg σ k ci o2) := by
  intro out ho p e s m args below meth c R hR X as ls cst H locs hl hs hW hS
  obtain ⟨ht, ho2⟩ := eb_tg_some ho
  obtain ⟨cu, cv, rfl, hu, hv⟩ := eb_st_app hs
  obtain ⟨a, cr, rfl, ha, hr⟩ := eb_st_r hv
  have hu2 : eb_st G as As cu.reverse := by have := eb_st_rev hu; rwa [List.reverse_reverse] at this
  have hM := hct out ho2 as (.ref a :: cu.reverse) ⟨⟨a, ha, rfl⟩, hu2⟩
  obtain ⟨ws, hP, hD, hl1, hl2, hC⟩ := id hW
  have ht10 := eb_vw_lt hq
  obtain ⟨h8, e1, he1, hC1⟩ := eb_W_at hC (by omega) ha
  obtain ⟨fs, rfl, -⟩ := eb_C_obj hC1 (ht ▸ hq)
  have hqc : y2.cls = q.1 := by rw [hyc]; cases hq.symm.trans hq0; rfl
  refine ⟨cr, _, hr, va_runV (As := cu.reverse) (rest := cr) (C := q.1) ⟨X.1, X.2.1, X.2.2.2.2.1, X.2.2.2.2.2.1, X.2.2.2.2.2.2.2.1⟩ hM (cwV (Ts := eb_tbl) (ws' := eb_tbl) n X.2.2.2.2.2.2.2.1 (eb_gcons hlk (eb_gcons hin (eb_gcons (hqc ▸ hse) (eb_gcons (hqc ▸ hii) (eb_good hcd))))) rfl rfl rfl ⟨hqc, hdd⟩ ⟨by show fr2 + 1 ≤ R.frames; omega, by show 8 + (nL2 + 11) + 40 * fr2 ≤ R.locals; omega⟩) ⟨eb_blind, va_recv X.2.2.2.2.2.2.2.2.1 hP (ht ▸ hq) he1, eb_pre X.2.2.2.2.2.2.2.2 hW hS⟩ rfl (by rw [eb_st_len hu2]; exact hn) hl (by rw [List.reverse_reverse]) (lv_room (by rw [eb_st_cat hr]; exact hsm)) hd ⟨by omega, by omega⟩⟩

theorem eb_runU {x2 : MethodName} {owner : String} (hlk : Cond.methodLink y.cls idx x2 ∈ eb_tbl) (hsm2 : Cond.sameMethod x2.cls owner x2.name x2.desc ∈ eb_tbl) (hse : ∀ q : vw_C, vwCl[ci]? = some q → Cond.selects q.1 x2 y2 ∈ eb_tbl) (hin : Cond.instanceMethod y2 ∈ eb_tbl) (hii : Cond.initialized y2.cls ∈ eb_tbl) (hyx : y2 = ⟨owner, x2.name, x2.desc⟩) (hdd : owner ≠ "java/lang/invoke/MethodHandle" ∧ owner ≠ "java/lang/invoke/VarHandle" ∧ (parseMethodDescriptor x2.desc).map (fun d => d.parameters.length) = some n) (hct : eb_ct G y2 cc2 nL2 rt2 fr2 mc1 ms1 enc2 (.ref k :: As) σ o2) {q : vw_C} (hq : vwCl[ci]? = some q) (hcd : Cond.code y2 cc2 nL2 rt2 ∈ eb_tbl) (hfr : fr2 + 1 ≤ fr ∧ nL2 ≤ 21) (hc1 : cn + mc1 ≤ mc) (hs1 : sn + ms1 ≤ ms) (hsm : (rest.map fun v => v.category).sum ≤ 8) (hn : As.length = n) (hd : decode cc pc = .ok (.invokevirtual idx, 3)) : eb_runs G y cc nL rt fr mc ms pc (As.reverse ++ .ref k :: rest) rest σ cn sn mc1 ms1 enc2 (eb_tg σ k ci o2) := by
  intro out ho p e s m args below meth c R hR X as ls cst H locs hl hs hW hS
  obtain ⟨ht, ho2⟩ := eb_tg_some ho
  obtain ⟨cu, cv, rfl, hu, hv⟩ := eb_st_app hs
  obtain ⟨a, cr, rfl, ha, hr⟩ := eb_st_r hv
  have hu2 : eb_st G as As cu.reverse := by have := eb_st_rev hu; rwa [List.reverse_reverse] at this
  have hM := hct out ho2 as (.ref a :: cu.reverse) ⟨⟨a, ha, rfl⟩, hu2⟩
  obtain ⟨ws, hP, hD, hl1, hl2, hC⟩ := id hW
  have ht10 := eb_vw_lt hq
  obtain ⟨h8, e1, he1, hC1⟩ := eb_W_at hC (by omega) ha
  obtain ⟨fs, rfl, -⟩ := eb_C_obj hC1 (ht ▸ hq)
  refine ⟨cr, _, hr, va_runU (As := cu.reverse) (rest := cr) (C := q.1) ⟨X.1, X.2.1, X.2.2.2.2.1, X.2.2.2.2.2.1, X.2.2.2.2.2.2.2.1⟩ hM (va_cwU (Ts := eb_tbl) (ws' := eb_tbl) n X.2.2.2.2.2.2.2.1 (eb_gcons hlk (eb_gcons hsm2 (eb_gcons (hse q hq) (eb_gcons hin (eb_gcons hii (eb_good hcd)))))) rfl rfl rfl hyx hdd ⟨by show fr2 + 1 ≤ R.frames; omega, by show 8 + (nL2 + 11) + 40 * fr2 ≤ R.locals; omega⟩) ⟨eb_blind, va_recv X.2.2.2.2.2.2.2.2.1 hP (ht ▸ hq) he1, eb_pre X.2.2.2.2.2.2.2.2 hW hS⟩ rfl (by rw [eb_st_len hu2]; exact hn) hl (by rw [List.reverse_reverse]) (lv_room (by rw [eb_st_cat hr]; exact hsm)) hd ⟨by omega, by omega⟩⟩

theorem eb_runO {x2 : MethodName} {owner : String} {b0 : ByteArray} {m0 : Nat} {r0 : Option FieldType} (h0 : Cond.code ⟨owner, x2.name, x2.desc⟩ b0 m0 r0 ∈ eb_tbl) (hlk : Cond.methodLink y.cls idx x2 ∈ eb_tbl) (hsm2 : Cond.sameMethod x2.cls owner x2.name x2.desc ∈ eb_tbl) (hin0 : Cond.instanceMethod ⟨owner, x2.name, x2.desc⟩ ∈ eb_tbl) (hse : ∀ q : vw_C, vwCl[ci]? = some q → Cond.selects q.1 x2 y2 ∈ eb_tbl) (hin : Cond.instanceMethod y2 ∈ eb_tbl) (hii : Cond.initialized y2.cls ∈ eb_tbl) (hdd : owner ≠ "java/lang/invoke/MethodHandle" ∧ owner ≠ "java/lang/invoke/VarHandle" ∧ (parseMethodDescriptor x2.desc).map (fun d => d.parameters.length) = some n) (hct : eb_ct G y2 cc2 nL2 rt2 fr2 mc1 ms1 enc2 (.ref k :: As) σ o2) {q : vw_C} (hq : vwCl[ci]? = some q) (hcd : Cond.code y2 cc2 nL2 rt2 ∈ eb_tbl) (hfr : fr2 + 1 ≤ fr ∧ nL2 ≤ 21) (hc1 : cn + mc1 ≤ mc) (hs1 : sn + ms1 ≤ ms) (hsm : (rest.map fun v => v.category).sum ≤ 8) (hn : As.length = n) (hd : decode cc pc = .ok (.invokevirtual idx, 3)) : eb_runs G y cc nL rt fr mc ms pc (As.reverse ++ .ref k :: rest) rest σ cn sn mc1 ms1 enc2 (eb_tg σ k ci o2) := by
  intro out ho p e s m args below meth c R hR X as ls cst H locs hl hs hW hS
  obtain ⟨ht, ho2⟩ := eb_tg_some ho
  obtain ⟨cu, cv, rfl, hu, hv⟩ := eb_st_app hs
  obtain ⟨a, cr, rfl, ha, hr⟩ := eb_st_r hv
  have hu2 : eb_st G as As cu.reverse := by have := eb_st_rev hu; rwa [List.reverse_reverse] at this
  have hM := hct out ho2 as (.ref a :: cu.reverse) ⟨⟨a, ha, rfl⟩, hu2⟩
  obtain ⟨ws, hP, hD, hl1, hl2, hC⟩ := id hW
  have ht10 := eb_vw_lt hq
  obtain ⟨h8, e1, he1, hC1⟩ := eb_W_at hC (by omega) ha
  obtain ⟨fs, rfl, -⟩ := eb_C_obj hC1 (ht ▸ hq)
  refine ⟨cr, _, hr, va_runU (As := cu.reverse) (rest := cr) (C := q.1) ⟨X.1, X.2.1, X.2.2.2.2.1, X.2.2.2.2.2.1, X.2.2.2.2.2.2.2.1⟩ hM (va_cwO (Ts := eb_tbl) (ws' := eb_tbl) n X.2.2.2.2.2.2.2.1 (eb_gcons hlk (eb_gcons hsm2 (eb_gcons hin0 (eb_gcons (hse q hq) (eb_gcons hin (eb_gcons hii (eb_good hcd))))))) rfl rfl rfl h0 hdd ⟨by show fr2 + 1 ≤ R.frames; omega, by show 8 + (nL2 + 11) + 40 * fr2 ≤ R.locals; omega⟩) ⟨eb_blind, va_recv X.2.2.2.2.2.2.2.2.1 hP (ht ▸ hq) he1, eb_pre X.2.2.2.2.2.2.2.2 hW hS⟩ rfl (by rw [eb_st_len hu2]; exact hn) hl (by rw [List.reverse_reverse]) (lv_room (by rw [eb_st_cat hr]; exact hsm)) hd ⟨by omega, by omega⟩⟩

theorem eb_runVN {host : String} (hlk : Cond.methodLinkNest y.cls idx y2 host ∈ eb_tbl) (hin : Cond.instanceMethod y2 ∈ eb_tbl) (hse : ∀ q : vw_C, vwCl[ci]? = some q → Cond.selects q.1 y2 y2 ∈ eb_tbl) (hii : Cond.initialized y2.cls ∈ eb_tbl) (hdd : y2.cls ≠ "java/lang/invoke/MethodHandle" ∧ y2.cls ≠ "java/lang/invoke/VarHandle" ∧ (parseMethodDescriptor y2.desc).map (fun d => d.parameters.length) = some n) (hct : eb_ct G y2 cc2 nL2 rt2 fr2 mc1 ms1 enc2 (.ref k :: As) σ o2) {q : vw_C} (hq : vwCl[ci]? = some q) (hcd : Cond.code y2 cc2 nL2 rt2 ∈ eb_tbl) (hfr : fr2 + 1 ≤ fr ∧ nL2 ≤ 21) (hc1 : cn + mc1 ≤ mc) (hs1 : sn + ms1 ≤ ms) (hsm : (rest.map fun v => v.category).sum ≤ 8) (hn : As.length = n) (hd : decode cc pc = .ok (.invokevirtual idx, 3)) : eb_runs G y cc nL rt fr mc ms pc (As.reverse ++ .ref k :: rest) rest σ cn sn mc1 ms1 enc2 (eb_tg σ k ci o2) := by
  intro out ho p e s m args below meth c R hR X as ls cst H locs hl hs hW hS
  obtain ⟨ht, ho2⟩ := eb_tg_some ho
  obtain ⟨cu, cv, rfl, hu, hv⟩ := eb_st_app hs
  obtain ⟨a, cr, rfl, ha, hr⟩ := eb_st_r hv
  have hu2 : eb_st G as As cu.reverse := by have := eb_st_rev hu; rwa [List.reverse_reverse] at this
  have hM := hct out ho2 as (.ref a :: cu.reverse) ⟨⟨a, ha, rfl⟩, hu2⟩
  obtain ⟨ws, hP, hD, hl1, hl2, hC⟩ := id hW
  have ht10 := eb_vw_lt hq
  obtain ⟨h8, e1, he1, hC1⟩ := eb_W_at hC (by omega) ha
  obtain ⟨fs, rfl, -⟩ := eb_C_obj hC1 (ht ▸ hq)
  refine ⟨cr, _, hr, va_runVN (As := cu.reverse) (rest := cr) (C := q.1) ⟨X.1, X.2.1, X.2.2.2.2.1, X.2.2.2.2.2.1, X.2.2.2.2.2.2.2.1⟩ hM ⟨va_cnB (Ts := eb_tbl) (ws' := eb_tbl) (host := host) n X.2.2.2.2.2.2.2.1 (eb_good hcd) rfl rfl rfl (word_at (State.WarmedH.refl s) (eb_tbl_good _ hlk).2 (X.2.2.2.2.2.2.2.1 _ hlk)) (X.2.2.2.2.2.2.2.1 _ hii) hdd ⟨by show fr2 + 1 ≤ R.frames; omega, by show 8 + (nL2 + 11) + 40 * fr2 ≤ R.locals; omega⟩, X.2.2.2.2.2.2.2.1 _ hin, X.2.2.2.2.2.2.2.1 _ (hse q hq)⟩ ⟨eb_blind, va_recv X.2.2.2.2.2.2.2.2.1 hP (ht ▸ hq) he1, eb_pre X.2.2.2.2.2.2.2.2 hW hS⟩ rfl (by rw [eb_st_len hu2]; exact hn) hl (by rw [List.reverse_reverse]) (lv_room (by rw [eb_st_cat hr]; exact hsm)) hd ⟨by omega, by omega⟩⟩

theorem eb_runS (hlk : Cond.methodLink y.cls idx y2 ∈ eb_tbl) (hst : Cond.static y2 ∈ eb_tbl) (hii : Cond.initialized y.cls ∈ eb_tbl) (hyc : y2.cls = y.cls) (hdd : y2.cls ≠ "java/lang/invoke/MethodHandle" ∧ y2.cls ≠ "java/lang/invoke/VarHandle" ∧ (parseMethodDescriptor y2.desc).map (fun d => d.parameters.length) = some n) (hct : eb_ct G y2 cc2 nL2 rt2 fr2 mc1 ms1 enc2 As σ o2) (hcd : Cond.code y2 cc2 nL2 rt2 ∈ eb_tbl) (hfr : fr2 + 1 ≤ fr ∧ nL2 ≤ 21) (hc1 : cn + mc1 ≤ mc) (hs1 : sn + ms1 ≤ ms) (hsm : (rest.map fun v => v.category).sum ≤ 8) (hn : As.length = n) (hd : decode cc pc = .ok (.invokestatic idx, 3)) : eb_runs G y cc nL rt fr mc ms pc (As.reverse ++ rest) rest σ cn sn mc1 ms1 enc2 o2 := by
  intro out ho p e s m args below meth c R hR X as ls cst H locs hl hs hW hS
  obtain ⟨cu, cr, rfl, hu, hr⟩ := eb_st_app hs
  have hu2 : eb_st G as As cu.reverse := by have := eb_st_rev hu; rwa [List.reverse_reverse] at this
  have hM := hct out ho as cu.reverse hu2
  refine ⟨cr, _, hr, va_runS (As := cu.reverse) (rest := cr) ⟨X.1, X.2.1, X.2.2.2.2.1, X.2.2.2.2.2.1, X.2.2.2.2.2.2.2.1⟩ hM (cwS (Ts := eb_tbl) (ws' := eb_tbl) n X.2.2.2.2.2.2.2.1 (eb_gcons hlk (eb_gcons hst (eb_gcons hii (eb_good hcd)))) rfl rfl rfl ⟨hyc, hdd⟩ ⟨by show fr2 + 1 ≤ R.frames; omega, by show 8 + (nL2 + 11) + 40 * fr2 ≤ R.locals; omega⟩) ⟨eb_blind, eb_pre X.2.2.2.2.2.2.2.2 hW hS⟩ rfl (by rw [eb_st_len hu2]; exact hn) hl (by rw [List.reverse_reverse]) (lv_room (by rw [eb_st_cat hr]; exact hsm)) hd ⟨by omega, by omega⟩⟩
theorem eb_runI (hlk : Cond.methodLink y.cls idx y2 ∈ eb_tbl) (hin : Cond.instanceMethod y2 ∈ eb_tbl) (hii : Cond.initialized y2.cls ∈ eb_tbl) (hyn : y2.name = "<init>") (hdd : y2.cls ≠ "java/lang/invoke/MethodHandle" ∧ y2.cls ≠ "java/lang/invoke/VarHandle" ∧ (parseMethodDescriptor y2.desc).map (fun d => d.parameters.length) = some n) (hct : eb_ct G y2 cc2 nL2 none fr2 mc1 ms1 enc2 (.ref k :: As) σ o2) (hcd : Cond.code y2 cc2 nL2 none ∈ eb_tbl) (hfr : fr2 + 1 ≤ fr ∧ nL2 ≤ 21) (hc1 : cn + mc1 ≤ mc) (hs1 : sn + ms1 ≤ ms) (hsm : (rest.map fun v => v.category).sum ≤ 8) (hn : As.length = n) (hd : decode cc pc = .ok (.invokespecial idx, 3)) : eb_runs G y cc nL rt fr mc ms pc (As.reverse ++ .ref k :: rest) rest σ cn sn mc1 ms1 enc2 o2 := by
  intro out ho p e s m args below meth c R hR X as ls cst H locs hl hs hW hS
  obtain ⟨cu, cv, rfl, hu, hv⟩ := eb_st_app hs
  obtain ⟨a, cr, rfl, ha, hr⟩ := eb_st_r hv
  have hu2 : eb_st G as As cu.reverse := by have := eb_st_rev hu; rwa [List.reverse_reverse] at this
  have hM := hct out ho as (.ref a :: cu.reverse) ⟨⟨a, ha, rfl⟩, hu2⟩
  refine ⟨cr, _, hr, va_runI (As := cu.reverse) (rest := cr) ⟨X.1, X.2.1, X.2.2.2.2.1, X.2.2.2.2.2.1, X.2.2.2.2.2.2.2.1⟩ hM (cwI (Ts := eb_tbl) (ws' := eb_tbl) n X.2.2.2.2.2.2.2.1 (eb_good hcd) rfl rfl rfl (X.2.2.2.2.2.2.2.1 _ hii) (X.2.2.2.2.2.2.2.1 _ hlk) (X.2.2.2.2.2.2.2.1 _ hin) hyn hdd ⟨by show fr2 + 1 ≤ R.frames; omega, by show 8 + (nL2 + 11) + 40 * fr2 ≤ R.locals; omega⟩) ⟨eb_blind, eb_pre X.2.2.2.2.2.2.2.2 hW hS⟩ rfl (by rw [eb_st_len hu2]; exact hn) hl (by rw [List.reverse_reverse]) (lv_room (by rw [eb_st_cat hr]; exact hsm)) hd ⟨by omega, by omega⟩⟩
theorem eb_runIN {host : String} (hlk : Cond.methodLinkNest y.cls idx y2 host ∈ eb_tbl) (hin : Cond.instanceMethod y2 ∈ eb_tbl) (hii : Cond.initialized y2.cls ∈ eb_tbl) (hyn : y2.name = "<init>") (hdd : y2.cls ≠ "java/lang/invoke/MethodHandle" ∧ y2.cls ≠ "java/lang/invoke/VarHandle" ∧ (parseMethodDescriptor y2.desc).map (fun d => d.parameters.length) = some n) (hct : eb_ct G y2 cc2 nL2 none fr2 mc1 ms1 enc2 (.ref k :: As) σ o2) (hcd : Cond.code y2 cc2 nL2 none ∈ eb_tbl) (hfr : fr2 + 1 ≤ fr ∧ nL2 ≤ 21) (hc1 : cn + mc1 ≤ mc) (hs1 : sn + ms1 ≤ ms) (hsm : (rest.map fun v => v.category).sum ≤ 8) (hn : As.length = n) (hd : decode cc pc = .ok (.invokespecial idx, 3)) : eb_runs G y cc nL rt fr mc ms pc (As.reverse ++ .ref k :: rest) rest σ cn sn mc1 ms1 enc2 o2 := by
  intro out ho p e s m args below meth c R hR X as ls cst H locs hl hs hW hS
  obtain ⟨cu, cv, rfl, hu, hv⟩ := eb_st_app hs
  obtain ⟨a, cr, rfl, ha, hr⟩ := eb_st_r hv
  have hu2 : eb_st G as As cu.reverse := by have := eb_st_rev hu; rwa [List.reverse_reverse] at this
  have hM := hct out ho as (.ref a :: cu.reverse) ⟨⟨a, ha, rfl⟩, hu2⟩
  refine ⟨cr, _, hr, va_runIN (As := cu.reverse) (rest := cr) ⟨X.1, X.2.1, X.2.2.2.2.1, X.2.2.2.2.2.1, X.2.2.2.2.2.2.2.1⟩ hM ⟨va_cnB (Ts := eb_tbl) (ws' := eb_tbl) (host := host) n X.2.2.2.2.2.2.2.1 (eb_good hcd) rfl rfl rfl (word_at (State.WarmedH.refl s) (eb_tbl_good _ hlk).2 (X.2.2.2.2.2.2.2.1 _ hlk)) (X.2.2.2.2.2.2.2.1 _ hii) hdd ⟨by show fr2 + 1 ≤ R.frames; omega, by show 8 + (nL2 + 11) + 40 * fr2 ≤ R.locals; omega⟩, hyn, X.2.2.2.2.2.2.2.1 _ hin⟩ ⟨eb_blind, eb_pre X.2.2.2.2.2.2.2.2 hW hS⟩ rfl (by rw [eb_st_len hu2]; exact hn) hl (by rw [List.reverse_reverse]) (lv_room (by rw [eb_st_cat hr]; exact hsm)) hd ⟨by omega, by omega⟩⟩

theorem eb_calli {o2 : Option (Int32 × eb_S)} {K : Int32 → eb_S → Option (ρ × eb_S)} (hrun : eb_runs G y cc nL rt fr mc ms pc st rest σ cn sn mc1 ms1 eb_ei o2) (kk : ∀ r σ', eb_go G y cc nL rt fr mc ms ri enc (pc + 3) L (.int r :: rest) σ' (cn + mc1) (sn + ms1) (K r σ')) : eb_go G y cc nL rt fr mc ms ri enc pc L st σ cn sn (eb_cl o2 K) := by
  intro out ho p e s m args below meth c Q R hR X as ls cst H locs hl hs hW hS kr
  cases ho2 : o2 with
  | none => rw [ho2] at ho; cases ho
  | some q =>
    rw [ho2] at ho
    obtain ⟨cr, a, hr, hrn⟩ := hrun q ho2 p e s m args below meth c R hR X as ls cst H locs hl.1 hs hW hS
    refine eb_callW hrn hS (fun as' H1 locs1 hp hW1 hS1 => ?_)
    exact kk q.1 q.2 out ho p e s m args below meth c Q R hR X as' ls _ H1 locs1 (eb_lo_ext hp hl) ⟨rfl, eb_st_ext hp hr⟩ hW1 hS1 (fun as2 ls' H' locs' pc' c' s' hp2 => kr as2 ls' H' locs' pc' c' s' (hp.trans hp2))

theorem eb_callb {o2 : Option (Bool × eb_S)} {K : Bool → eb_S → Option (ρ × eb_S)} (hrun : eb_runs G y cc nL rt fr mc ms pc st rest σ cn sn mc1 ms1 eb_eb o2) (kk : ∀ r σ', eb_go G y cc nL rt fr mc ms ri enc (pc + 3) L (.int (eb_b r) :: rest) σ' (cn + mc1) (sn + ms1) (K r σ')) : eb_go G y cc nL rt fr mc ms ri enc pc L st σ cn sn (eb_cl o2 K) := by
  intro out ho p e s m args below meth c Q R hR X as ls cst H locs hl hs hW hS kr
  cases ho2 : o2 with
  | none => rw [ho2] at ho; cases ho
  | some q =>
    rw [ho2] at ho
    obtain ⟨cr, a, hr, hrn⟩ := hrun q ho2 p e s m args below meth c R hR X as ls cst H locs hl.1 hs hW hS
    refine eb_callW hrn hS (fun as' H1 locs1 hp hW1 hS1 => ?_)
    exact kk q.1 q.2 out ho p e s m args below meth c Q R hR X as' ls _ H1 locs1 (eb_lo_ext hp hl) ⟨rfl, eb_st_ext hp hr⟩ hW1 hS1 (fun as2 ls' H' locs' pc' c' s' hp2 => kr as2 ls' H' locs' pc' c' s' (hp.trans hp2))

theorem eb_calll {o2 : Option (Int64 × eb_S)} {K : Int64 → eb_S → Option (ρ × eb_S)} (hrun : eb_runs G y cc nL rt fr mc ms pc st rest σ cn sn mc1 ms1 eb_el o2) (kk : ∀ r σ', eb_go G y cc nL rt fr mc ms ri enc (pc + 3) L (.long r :: rest) σ' (cn + mc1) (sn + ms1) (K r σ')) : eb_go G y cc nL rt fr mc ms ri enc pc L st σ cn sn (eb_cl o2 K) := by
  intro out ho p e s m args below meth c Q R hR X as ls cst H locs hl hs hW hS kr
  cases ho2 : o2 with
  | none => rw [ho2] at ho; cases ho
  | some q =>
    rw [ho2] at ho
    obtain ⟨cr, a, hr, hrn⟩ := hrun q ho2 p e s m args below meth c R hR X as ls cst H locs hl.1 hs hW hS
    refine eb_callW hrn hS (fun as' H1 locs1 hp hW1 hS1 => ?_)
    exact kk q.1 q.2 out ho p e s m args below meth c Q R hR X as' ls _ H1 locs1 (eb_lo_ext hp hl) ⟨rfl, eb_st_ext hp hr⟩ hW1 hS1 (fun as2 ls' H' locs' pc' c' s' hp2 => kr as2 ls' H' locs' pc' c' s' (hp.trans hp2))

theorem eb_callv {o2 : Option (Unit × eb_S)} {K : Unit → eb_S → Option (ρ × eb_S)} (hrun : eb_runs G y cc nL rt fr mc ms pc st rest σ cn sn mc1 ms1 eb_ev o2) (kk : ∀ r σ', eb_go G y cc nL rt fr mc ms ri enc (pc + 3) L (rest) σ' (cn + mc1) (sn + ms1) (K r σ')) : eb_go G y cc nL rt fr mc ms ri enc pc L st σ cn sn (eb_cl o2 K) := by
  intro out ho p e s m args below meth c Q R hR X as ls cst H locs hl hs hW hS kr
  cases ho2 : o2 with
  | none => rw [ho2] at ho; cases ho
  | some q =>
    rw [ho2] at ho
    obtain ⟨cr, a, hr, hrn⟩ := hrun q ho2 p e s m args below meth c R hR X as ls cst H locs hl.1 hs hW hS
    refine eb_callW hrn hS (fun as' H1 locs1 hp hW1 hS1 => ?_)
    exact kk q.1 q.2 out ho p e s m args below meth c Q R hR X as' ls _ H1 locs1 (eb_lo_ext hp hl) (eb_st_ext hp hr) hW1 hS1 (fun as2 ls' H' locs' pc' c' s' hp2 => kr as2 ls' H' locs' pc' c' s' (hp.trans hp2))

theorem eb_sl_len {as : List Nat} : ∀ {vs ws : List Value}, eb_st G as vs ws → (lg_sl ws).length = (lg_sl vs).length
  | [], [], _ => rfl
  | v :: vs, w :: ws, ⟨h1, h2⟩ => by
    have ih := eb_sl_len h2
    unfold lg_sl at ih ⊢
    rw [List.flatMap_cons, List.flatMap_cons, List.length_append, List.length_append, ih, eb_v_cat h1]
    by_cases hc : v.category = 2
    · rw [if_pos hc, if_pos hc]; rfl
    · rw [if_neg hc, if_neg hc]; rfl
  | [], _ :: _, h1 => h1.elim
  | _ :: _, [], h1 => h1.elim
theorem eb_args_lo {as : List Nat} {ls : Array Slot} : ∀ {i : Nat} {vs ws : List Value}, eb_st G as vs ws → (∀ q ∈ lv_args i ws, ls[q.1]? = some (.val q.2)) → ∀ q ∈ lv_args i vs, ∃ w, eb_v G as q.2 w ∧ ls[q.1]? = some (.val w)
  | _, [], [], _, _ => fun q hq => by cases hq
  | i, v :: vs, w :: ws, ⟨h1, h2⟩, h => fun q hq => by
    unfold lv_args at hq h
    rcases List.mem_cons.mp hq with rfl | hq
    · exact ⟨w, h1, h (i, w) List.mem_cons_self⟩
    · refine eb_args_lo (i := if v.category = 2 then i + 2 else i + 1) h2 (fun q' hq' => h q' (List.mem_cons_of_mem _ ?_)) q hq
      rw [eb_v_cat h1]
      exact hq'
  | _, [], _ :: _, h1, _ => h1.elim
  | _, _ :: _, [], h1, _ => h1.elim

theorem eb_ct_i {av : List Value} {o : Option (Int32 × eb_S)} (hy : plainName y.cls = true) (hlen : (lg_sl av).length ≤ nL) (hac : ∀ v ∈ av, v.category = 1 ∨ v.category = 2) (kk : eb_go G y cc nL (some .int) fr mc ms .ireturn (fun r : Int32 => [.int r]) 0 (lv_args 0 av) [] σ 0 0 o) : eb_ct G y cc nL (some .int) fr mc ms eb_ei av σ o := by
  intro out ho as cav hav
  refine Met.ofW (cc := cc) (maxL := nL) (ret := (some .int)) hy rfl ?_
  intro p e s m args below meth c s₁ B hml hv
  obtain ⟨rfl, hE, hW⟩ := hv
  have hts := atoms_spec (ws := eb_ws y cc nL (some .int)) B.pre
  have X : eb_X G y cc nL (some .int) p s m cav.toArray meth c := ⟨B.exec, B.bytes, B.returns, B.notSynchronized, hml, findClass_of_methodNamed B.named, (name_of_methodNamed B.named B.method).1, fun w hw => hts w (List.mem_cons_of_mem _ hw), hE⟩
  have hsl : (lg_sl cav).length = (lg_sl av).length := eb_sl_len hav
  have hl := lv_entry cav (n := nL) (by rw [hsl]; exact hlen)
  rw [lg_entry_eq]
  refine kk out ho p e s m _ below meth c _ _ ⟨Nat.le_refl _, Nat.le_refl _, Nat.le_refl _, Nat.le_refl _⟩ X as _ [] s.heap [] ⟨hl.1, hl.2.1, eb_args_lo hav hl.2.2⟩ trivial hW va_S.rf ?_
  intro as' ls' H' locs' pc' c' s' hp hW1 hS1 hc1 hs1 hdr
  refine W.widen (k := mc) (n := ms) hc1 hs1 ?_
  exact W.iret X.1 X.2.1 X.2.2.1 (fun t ht hV => ⟨⟨as', rfl, hp, by rw [ht]; exact hW1⟩, hS1.F ht⟩) hS1.2.2 hdr X.2.2.2.1

theorem eb_ct_b {av : List Value} {o : Option (Bool × eb_S)} (hy : plainName y.cls = true) (hlen : (lg_sl av).length ≤ nL) (hac : ∀ v ∈ av, v.category = 1 ∨ v.category = 2) (kk : eb_go G y cc nL (some .boolean) fr mc ms .ireturn (fun r : Bool => [.int (eb_b r)]) 0 (lv_args 0 av) [] σ 0 0 o) : eb_ct G y cc nL (some .boolean) fr mc ms eb_eb av σ o := by
  intro out ho as cav hav
  refine Met.ofW (cc := cc) (maxL := nL) (ret := (some .boolean)) hy rfl ?_
  intro p e s m args below meth c s₁ B hml hv
  obtain ⟨rfl, hE, hW⟩ := hv
  have hts := atoms_spec (ws := eb_ws y cc nL (some .boolean)) B.pre
  have X : eb_X G y cc nL (some .boolean) p s m cav.toArray meth c := ⟨B.exec, B.bytes, B.returns, B.notSynchronized, hml, findClass_of_methodNamed B.named, (name_of_methodNamed B.named B.method).1, fun w hw => hts w (List.mem_cons_of_mem _ hw), hE⟩
  have hsl : (lg_sl cav).length = (lg_sl av).length := eb_sl_len hav
  have hl := lv_entry cav (n := nL) (by rw [hsl]; exact hlen)
  rw [lg_entry_eq]
  refine kk out ho p e s m _ below meth c _ _ ⟨Nat.le_refl _, Nat.le_refl _, Nat.le_refl _, Nat.le_refl _⟩ X as _ [] s.heap [] ⟨hl.1, hl.2.1, eb_args_lo hav hl.2.2⟩ trivial hW va_S.rf ?_
  intro as' ls' H' locs' pc' c' s' hp hW1 hS1 hc1 hs1 hdr
  refine W.widen (k := mc) (n := ms) hc1 hs1 ?_
  exact W.zret X.1 X.2.1 X.2.2.1 (by cases out.1 <;> decide +kernel) (fun t ht hV => ⟨⟨as', rfl, hp, by rw [ht]; exact hW1⟩, hS1.F ht⟩) hS1.2.2 hdr X.2.2.2.1

theorem eb_ct_l {av : List Value} {o : Option (Int64 × eb_S)} (hy : plainName y.cls = true) (hlen : (lg_sl av).length ≤ nL) (hac : ∀ v ∈ av, v.category = 1 ∨ v.category = 2) (kk : eb_go G y cc nL (some .long) fr mc ms .lreturn (fun r : Int64 => [.long r]) 0 (lv_args 0 av) [] σ 0 0 o) : eb_ct G y cc nL (some .long) fr mc ms eb_el av σ o := by
  intro out ho as cav hav
  refine Met.ofW (cc := cc) (maxL := nL) (ret := (some .long)) hy rfl ?_
  intro p e s m args below meth c s₁ B hml hv
  obtain ⟨rfl, hE, hW⟩ := hv
  have hts := atoms_spec (ws := eb_ws y cc nL (some .long)) B.pre
  have X : eb_X G y cc nL (some .long) p s m cav.toArray meth c := ⟨B.exec, B.bytes, B.returns, B.notSynchronized, hml, findClass_of_methodNamed B.named, (name_of_methodNamed B.named B.method).1, fun w hw => hts w (List.mem_cons_of_mem _ hw), hE⟩
  have hsl : (lg_sl cav).length = (lg_sl av).length := eb_sl_len hav
  have hl := lv_entry cav (n := nL) (by rw [hsl]; exact hlen)
  rw [lg_entry_eq]
  refine kk out ho p e s m _ below meth c _ _ ⟨Nat.le_refl _, Nat.le_refl _, Nat.le_refl _, Nat.le_refl _⟩ X as _ [] s.heap [] ⟨hl.1, hl.2.1, eb_args_lo hav hl.2.2⟩ trivial hW va_S.rf ?_
  intro as' ls' H' locs' pc' c' s' hp hW1 hS1 hc1 hs1 hdr
  refine W.widen (k := mc) (n := ms) hc1 hs1 ?_
  exact W.lret X.1 X.2.1 X.2.2.1 (fun t ht hV => ⟨⟨as', rfl, hp, by rw [ht]; exact hW1⟩, hS1.F ht⟩) hS1.2.2 hdr X.2.2.2.1

theorem eb_ct_v {av : List Value} {o : Option (Unit × eb_S)} (hy : plainName y.cls = true) (hlen : (lg_sl av).length ≤ nL) (hac : ∀ v ∈ av, v.category = 1 ∨ v.category = 2) (kk : eb_go G y cc nL none fr mc ms .return_ (fun r : Unit => []) 0 (lv_args 0 av) [] σ 0 0 o) : eb_ct G y cc nL none fr mc ms eb_ev av σ o := by
  intro out ho as cav hav
  refine Met.ofW (cc := cc) (maxL := nL) (ret := none) hy rfl ?_
  intro p e s m args below meth c s₁ B hml hv
  obtain ⟨rfl, hE, hW⟩ := hv
  have hts := atoms_spec (ws := eb_ws y cc nL none) B.pre
  have X : eb_X G y cc nL none p s m cav.toArray meth c := ⟨B.exec, B.bytes, B.returns, B.notSynchronized, hml, findClass_of_methodNamed B.named, (name_of_methodNamed B.named B.method).1, fun w hw => hts w (List.mem_cons_of_mem _ hw), hE⟩
  have hsl : (lg_sl cav).length = (lg_sl av).length := eb_sl_len hav
  have hl := lv_entry cav (n := nL) (by rw [hsl]; exact hlen)
  rw [lg_entry_eq]
  refine kk out ho p e s m _ below meth c _ _ ⟨Nat.le_refl _, Nat.le_refl _, Nat.le_refl _, Nat.le_refl _⟩ X as _ [] s.heap [] ⟨hl.1, hl.2.1, eb_args_lo hav hl.2.2⟩ trivial hW va_S.rf ?_
  intro as' ls' H' locs' pc' c' s' hp hW1 hS1 hc1 hs1 hdr
  refine W.widen (k := mc) (n := ms) hc1 hs1 ?_
  exact W.vret X.1 X.2.1 X.2.2.1 (fun t ht hV => ⟨⟨as', rfl, hp, by rw [ht]; exact hW1⟩, hS1.F ht⟩) hS1.2.2 hdr X.2.2.2.1

/-- a truth's end -/
def eb_zb {τ : Type} (x : Int32) (K : Bool → Option τ) : Option τ := if x = 0 then K false else if x = 1 then K true else none
theorem eb_zret {x : Int32} (hd : decode cc pc = .ok (.ireturn, 1)) (hc : cn ≤ mc) (hs : sn ≤ ms) : eb_go G y cc nL rt fr mc ms .ireturn (fun r : Bool => [.int (eb_b r)]) pc L [.int x] σ cn sn (eb_zb x (fun b => some (b, σ))) := by
  intro out ho p e s m args below meth c Q R hR X as ls cst H locs hl hst hW hS kr
  obtain ⟨c_x, rfl, hst1⟩ := eb_st_i hst
  cases eb_st_nil hst1
  unfold eb_zb at ho
  by_cases h0 : x = 0
  · rw [if_pos h0] at ho
    subst h0
    cases ho
    exact kr as ls H locs pc cn sn (List.prefix_refl as) hW hS hc hs hd
  · rw [if_neg h0] at ho
    by_cases h1 : x = 1
    · rw [if_pos h1] at ho
      subst h1
      cases ho
      exact kr as ls H locs pc cn sn (List.prefix_refl as) hW hS hc hs hd
    · rw [if_neg h1] at ho; cases ho
theorem eb_bret {b : Bool} (hd : decode cc pc = .ok (.ireturn, 1)) (hc : cn ≤ mc) (hs : sn ≤ ms) : eb_go G y cc nL rt fr mc ms .ireturn (fun r : Bool => [.int (eb_b r)]) pc L [.int (eb_b b)] σ cn sn (some (b, σ)) := by
  intro out ho p e s m args below meth c Q R hR X as ls cst H locs hl hst hW hS kr
  obtain ⟨c_x, rfl, hst1⟩ := eb_st_i hst
  cases eb_st_nil hst1
  cases ho
  exact kr as ls H locs pc cn sn (List.prefix_refl as) hW hS hc hs hd

end EBC
end
