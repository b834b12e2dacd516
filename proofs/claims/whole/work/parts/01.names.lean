-- ===== PART A: goes FIRST, ahead of the names: the tables' words, and 'selects' of the private methods out of them =====
/-- a private method of a class that the tables say can be made, by its rows of tables_1 -/
def lw_okq (q : MethodName × Nat) : Prop := (q.1.cls ≠ "java/lang/invoke/MethodHandle" ∧ q.1.cls ≠ "java/lang/invoke/VarHandle") ∧ Cond.instantiable q.1.cls q.2 ∈ tables_1 ∧ Cond.privateMethod q.1 ∈ tables_1 ∧ Cond.instanceMethod q.1 ∈ tables_1
theorem lw_p0 : lw_okq (⟨"ChalkStreet$Reader", "split", "()V"⟩, 9) := ⟨⟨by decide +kernel, by decide +kernel⟩, List.mem_of_getElem? (i := 87) (by decide +kernel), List.mem_of_getElem? (i := 418) (by decide +kernel), List.mem_of_getElem? (i := 419) (by decide +kernel)⟩
theorem lw_p1 : lw_okq (⟨"ChalkStreet$Reader", "tokenEnd", "(I)I"⟩, 9) := ⟨⟨by decide +kernel, by decide +kernel⟩, List.mem_of_getElem? (i := 87) (by decide +kernel), List.mem_of_getElem? (i := 426) (by decide +kernel), List.mem_of_getElem? (i := 427) (by decide +kernel)⟩
theorem lw_p2 : lw_okq (⟨"ChalkStreet$Reader", "tokenOf", "(II)I"⟩, 9) := ⟨⟨by decide +kernel, by decide +kernel⟩, List.mem_of_getElem? (i := 87) (by decide +kernel), List.mem_of_getElem? (i := 436) (by decide +kernel), List.mem_of_getElem? (i := 437) (by decide +kernel)⟩
theorem lw_p3 : lw_okq (⟨"ChalkStreet$Reader", "wordOf", "(II)I"⟩, 9) := ⟨⟨by decide +kernel, by decide +kernel⟩, List.mem_of_getElem? (i := 87) (by decide +kernel), List.mem_of_getElem? (i := 440) (by decide +kernel), List.mem_of_getElem? (i := 441) (by decide +kernel)⟩
theorem lw_p4 : lw_okq (⟨"ChalkStreet$Reader", "spells", "(Ljava/lang/String;II)Z"⟩, 9) := ⟨⟨by decide +kernel, by decide +kernel⟩, List.mem_of_getElem? (i := 87) (by decide +kernel), List.mem_of_getElem? (i := 445) (by decide +kernel), List.mem_of_getElem? (i := 446) (by decide +kernel)⟩
theorem lw_p5 : lw_okq (⟨"ChalkStreet$Reader", "numberOf", "(II)I"⟩, 9) := ⟨⟨by decide +kernel, by decide +kernel⟩, List.mem_of_getElem? (i := 87) (by decide +kernel), List.mem_of_getElem? (i := 459) (by decide +kernel), List.mem_of_getElem? (i := 460) (by decide +kernel)⟩
theorem lw_p6 : lw_okq (⟨"ChalkStreet$Reader", "readsPart", "(I)Z"⟩, 9) := ⟨⟨by decide +kernel, by decide +kernel⟩, List.mem_of_getElem? (i := 87) (by decide +kernel), List.mem_of_getElem? (i := 463) (by decide +kernel), List.mem_of_getElem? (i := 464) (by decide +kernel)⟩
theorem lw_p7 : lw_okq (⟨"ChalkStreet$Reader", "passes", "(I)Z"⟩, 9) := ⟨⟨by decide +kernel, by decide +kernel⟩, List.mem_of_getElem? (i := 87) (by decide +kernel), List.mem_of_getElem? (i := 467) (by decide +kernel), List.mem_of_getElem? (i := 468) (by decide +kernel)⟩
theorem lw_p8 : lw_okq (⟨"ChalkStreet$Reader", "isNext", "(I)Z"⟩, 9) := ⟨⟨by decide +kernel, by decide +kernel⟩, List.mem_of_getElem? (i := 87) (by decide +kernel), List.mem_of_getElem? (i := 471) (by decide +kernel), List.mem_of_getElem? (i := 472) (by decide +kernel)⟩
theorem lw_p9 : lw_okq (⟨"ChalkStreet$Reader", "readsEither", "(I)Z"⟩, 9) := ⟨⟨by decide +kernel, by decide +kernel⟩, List.mem_of_getElem? (i := 87) (by decide +kernel), List.mem_of_getElem? (i := 475) (by decide +kernel), List.mem_of_getElem? (i := 476) (by decide +kernel)⟩
theorem lw_p10 : lw_okq (⟨"ChalkStreet$Reader", "readsBoth", "(I)Z"⟩, 9) := ⟨⟨by decide +kernel, by decide +kernel⟩, List.mem_of_getElem? (i := 87) (by decide +kernel), List.mem_of_getElem? (i := 479) (by decide +kernel), List.mem_of_getElem? (i := 480) (by decide +kernel)⟩
theorem lw_p11 : lw_okq (⟨"ChalkStreet$Reader", "readsNegated", "(I)Z"⟩, 9) := ⟨⟨by decide +kernel, by decide +kernel⟩, List.mem_of_getElem? (i := 87) (by decide +kernel), List.mem_of_getElem? (i := 483) (by decide +kernel), List.mem_of_getElem? (i := 484) (by decide +kernel)⟩
theorem lw_p12 : lw_okq (⟨"ChalkStreet$Reader", "readsCompared", "(I)Z"⟩, 9) := ⟨⟨by decide +kernel, by decide +kernel⟩, List.mem_of_getElem? (i := 87) (by decide +kernel), List.mem_of_getElem? (i := 487) (by decide +kernel), List.mem_of_getElem? (i := 488) (by decide +kernel)⟩
theorem lw_p13 : lw_okq (⟨"ChalkStreet$Reader", "readsSum", "(I)Z"⟩, 9) := ⟨⟨by decide +kernel, by decide +kernel⟩, List.mem_of_getElem? (i := 87) (by decide +kernel), List.mem_of_getElem? (i := 491) (by decide +kernel), List.mem_of_getElem? (i := 492) (by decide +kernel)⟩
theorem lw_p14 : lw_okq (⟨"ChalkStreet$Reader", "readsTerm", "(I)Z"⟩, 9) := ⟨⟨by decide +kernel, by decide +kernel⟩, List.mem_of_getElem? (i := 87) (by decide +kernel), List.mem_of_getElem? (i := 495) (by decide +kernel), List.mem_of_getElem? (i := 496) (by decide +kernel)⟩
theorem lw_p15 : lw_okq (⟨"ChalkStreet$Reader", "readsOne", "(I)Z"⟩, 9) := ⟨⟨by decide +kernel, by decide +kernel⟩, List.mem_of_getElem? (i := 87) (by decide +kernel), List.mem_of_getElem? (i := 499) (by decide +kernel), List.mem_of_getElem? (i := 500) (by decide +kernel)⟩
def lw_privs_1 : List (MethodName × Nat) := [(⟨"ChalkStreet$Reader", "split", "()V"⟩, 9), (⟨"ChalkStreet$Reader", "tokenEnd", "(I)I"⟩, 9), (⟨"ChalkStreet$Reader", "tokenOf", "(II)I"⟩, 9), (⟨"ChalkStreet$Reader", "wordOf", "(II)I"⟩, 9), (⟨"ChalkStreet$Reader", "spells", "(Ljava/lang/String;II)Z"⟩, 9), (⟨"ChalkStreet$Reader", "numberOf", "(II)I"⟩, 9), (⟨"ChalkStreet$Reader", "readsPart", "(I)Z"⟩, 9), (⟨"ChalkStreet$Reader", "passes", "(I)Z"⟩, 9), (⟨"ChalkStreet$Reader", "isNext", "(I)Z"⟩, 9), (⟨"ChalkStreet$Reader", "readsEither", "(I)Z"⟩, 9), (⟨"ChalkStreet$Reader", "readsBoth", "(I)Z"⟩, 9), (⟨"ChalkStreet$Reader", "readsNegated", "(I)Z"⟩, 9), (⟨"ChalkStreet$Reader", "readsCompared", "(I)Z"⟩, 9), (⟨"ChalkStreet$Reader", "readsSum", "(I)Z"⟩, 9), (⟨"ChalkStreet$Reader", "readsTerm", "(I)Z"⟩, 9), (⟨"ChalkStreet$Reader", "readsOne", "(I)Z"⟩, 9)]
theorem lw_r1 : ∀ q ∈ lw_privs_1, lw_okq q := List.forall_mem_cons.mpr ⟨lw_p0, List.forall_mem_cons.mpr ⟨lw_p1, List.forall_mem_cons.mpr ⟨lw_p2, List.forall_mem_cons.mpr ⟨lw_p3, List.forall_mem_cons.mpr ⟨lw_p4, List.forall_mem_cons.mpr ⟨lw_p5, List.forall_mem_cons.mpr ⟨lw_p6, List.forall_mem_cons.mpr ⟨lw_p7, List.forall_mem_cons.mpr ⟨lw_p8, List.forall_mem_cons.mpr ⟨lw_p9, List.forall_mem_cons.mpr ⟨lw_p10, List.forall_mem_cons.mpr ⟨lw_p11, List.forall_mem_cons.mpr ⟨lw_p12, List.forall_mem_cons.mpr ⟨lw_p13, List.forall_mem_cons.mpr ⟨lw_p14, List.forall_mem_cons.mpr ⟨lw_p15, fun _ h => absurd h List.not_mem_nil⟩⟩⟩⟩⟩⟩⟩⟩⟩⟩⟩⟩⟩⟩⟩⟩
theorem lw_p16 : lw_okq (⟨"ChalkStreet$Reader", "emit", "(I)V"⟩, 9) := ⟨⟨by decide +kernel, by decide +kernel⟩, List.mem_of_getElem? (i := 87) (by decide +kernel), List.mem_of_getElem? (i := 503) (by decide +kernel), List.mem_of_getElem? (i := 504) (by decide +kernel)⟩
theorem lw_p17 : lw_okq (⟨"ChalkStreet$Worths", "tabulate", "(LChalkStreet$Rules;)V"⟩, 4) := ⟨⟨by decide +kernel, by decide +kernel⟩, List.mem_of_getElem? (i := 30) (by decide +kernel), List.mem_of_getElem? (i := 600) (by decide +kernel), List.mem_of_getElem? (i := 601) (by decide +kernel)⟩
theorem lw_p18 : lw_okq (⟨"ChalkStreet$Rules", "around", "(I)I"⟩, 4) := ⟨⟨by decide +kernel, by decide +kernel⟩, List.mem_of_getElem? (i := 208) (by decide +kernel), List.mem_of_getElem? (i := 615) (by decide +kernel), List.mem_of_getElem? (i := 616) (by decide +kernel)⟩
theorem lw_p19 : lw_okq (⟨"ChalkStreet$Worths", "settled", "(II)I"⟩, 4) := ⟨⟨by decide +kernel, by decide +kernel⟩, List.mem_of_getElem? (i := 30) (by decide +kernel), List.mem_of_getElem? (i := 627) (by decide +kernel), List.mem_of_getElem? (i := 628) (by decide +kernel)⟩
theorem lw_p20 : lw_okq (⟨"ChalkStreet$Worths", "value", "(III)I"⟩, 4) := ⟨⟨by decide +kernel, by decide +kernel⟩, List.mem_of_getElem? (i := 30) (by decide +kernel), List.mem_of_getElem? (i := 631) (by decide +kernel), List.mem_of_getElem? (i := 632) (by decide +kernel)⟩
theorem lw_p21 : lw_okq (⟨"ChalkStreet$Mender", "mendedFrom", "(I)I"⟩, 7) := ⟨⟨by decide +kernel, by decide +kernel⟩, List.mem_of_getElem? (i := 239) (by decide +kernel), List.mem_of_getElem? (i := 687) (by decide +kernel), List.mem_of_getElem? (i := 688) (by decide +kernel)⟩
theorem lw_p22 : lw_okq (⟨"ChalkStreet$Tally", "moveOn", "(LChalkStreet$Rules;I)V"⟩, 4) := ⟨⟨by decide +kernel, by decide +kernel⟩, List.mem_of_getElem? (i := 64) (by decide +kernel), List.mem_of_getElem? (i := 705) (by decide +kernel), List.mem_of_getElem? (i := 706) (by decide +kernel)⟩
theorem lw_p23 : lw_okq (⟨"ChalkStreet", "weigh", "(I)V"⟩, 15) := ⟨⟨by decide +kernel, by decide +kernel⟩, List.mem_of_getElem? (i := 22) (by decide +kernel), List.mem_of_getElem? (i := 748) (by decide +kernel), List.mem_of_getElem? (i := 749) (by decide +kernel)⟩
theorem lw_p24 : lw_okq (⟨"ChalkStreet$Quarrel", "meet", "(III)V"⟩, 8) := ⟨⟨by decide +kernel, by decide +kernel⟩, List.mem_of_getElem? (i := 315) (by decide +kernel), List.mem_of_getElem? (i := 851) (by decide +kernel), List.mem_of_getElem? (i := 852) (by decide +kernel)⟩
theorem lw_p25 : lw_okq (⟨"ChalkStreet$Quarrel", "quarrelStep", "(I)I"⟩, 8) := ⟨⟨by decide +kernel, by decide +kernel⟩, List.mem_of_getElem? (i := 315) (by decide +kernel), List.mem_of_getElem? (i := 857) (by decide +kernel), List.mem_of_getElem? (i := 858) (by decide +kernel)⟩
theorem lw_p26 : lw_okq (⟨"ChalkStreet$Quarrel", "rowTo", "(II)J"⟩, 8) := ⟨⟨by decide +kernel, by decide +kernel⟩, List.mem_of_getElem? (i := 315) (by decide +kernel), List.mem_of_getElem? (i := 864) (by decide +kernel), List.mem_of_getElem? (i := 865) (by decide +kernel)⟩
theorem lw_p27 : lw_okq (⟨"ChalkStreet", "comesTo", "(II)I"⟩, 15) := ⟨⟨by decide +kernel, by decide +kernel⟩, List.mem_of_getElem? (i := 22) (by decide +kernel), List.mem_of_getElem? (i := 888) (by decide +kernel), List.mem_of_getElem? (i := 889) (by decide +kernel)⟩
theorem lw_p28 : lw_okq (⟨"ChalkStreet$Texts", "push", "(I)V"⟩, 6) := ⟨⟨by decide +kernel, by decide +kernel⟩, List.mem_of_getElem? (i := 127) (by decide +kernel), List.mem_of_getElem? (i := 900) (by decide +kernel), List.mem_of_getElem? (i := 901) (by decide +kernel)⟩
theorem lw_p29 : lw_okq (⟨"ChalkStreet$Texts", "pop", "()I"⟩, 6) := ⟨⟨by decide +kernel, by decide +kernel⟩, List.mem_of_getElem? (i := 127) (by decide +kernel), List.mem_of_getElem? (i := 904) (by decide +kernel), List.mem_of_getElem? (i := 905) (by decide +kernel)⟩
theorem lw_p30 : lw_okq (⟨"ChalkStreet$Texts", "joinTwo", "(I)V"⟩, 6) := ⟨⟨by decide +kernel, by decide +kernel⟩, List.mem_of_getElem? (i := 127) (by decide +kernel), List.mem_of_getElem? (i := 908) (by decide +kernel), List.mem_of_getElem? (i := 909) (by decide +kernel)⟩
theorem lw_p31 : lw_okq (⟨"ChalkStreet", "weighStreets", "()V"⟩, 15) := ⟨⟨by decide +kernel, by decide +kernel⟩, List.mem_of_getElem? (i := 22) (by decide +kernel), List.mem_of_getElem? (i := 923) (by decide +kernel), List.mem_of_getElem? (i := 924) (by decide +kernel)⟩
def lw_privs_2 : List (MethodName × Nat) := [(⟨"ChalkStreet$Reader", "emit", "(I)V"⟩, 9), (⟨"ChalkStreet$Worths", "tabulate", "(LChalkStreet$Rules;)V"⟩, 4), (⟨"ChalkStreet$Rules", "around", "(I)I"⟩, 4), (⟨"ChalkStreet$Worths", "settled", "(II)I"⟩, 4), (⟨"ChalkStreet$Worths", "value", "(III)I"⟩, 4), (⟨"ChalkStreet$Mender", "mendedFrom", "(I)I"⟩, 7), (⟨"ChalkStreet$Tally", "moveOn", "(LChalkStreet$Rules;I)V"⟩, 4), (⟨"ChalkStreet", "weigh", "(I)V"⟩, 15), (⟨"ChalkStreet$Quarrel", "meet", "(III)V"⟩, 8), (⟨"ChalkStreet$Quarrel", "quarrelStep", "(I)I"⟩, 8), (⟨"ChalkStreet$Quarrel", "rowTo", "(II)J"⟩, 8), (⟨"ChalkStreet", "comesTo", "(II)I"⟩, 15), (⟨"ChalkStreet$Texts", "push", "(I)V"⟩, 6), (⟨"ChalkStreet$Texts", "pop", "()I"⟩, 6), (⟨"ChalkStreet$Texts", "joinTwo", "(I)V"⟩, 6), (⟨"ChalkStreet", "weighStreets", "()V"⟩, 15)]
theorem lw_r2 : ∀ q ∈ lw_privs_2, lw_okq q := List.forall_mem_cons.mpr ⟨lw_p16, List.forall_mem_cons.mpr ⟨lw_p17, List.forall_mem_cons.mpr ⟨lw_p18, List.forall_mem_cons.mpr ⟨lw_p19, List.forall_mem_cons.mpr ⟨lw_p20, List.forall_mem_cons.mpr ⟨lw_p21, List.forall_mem_cons.mpr ⟨lw_p22, List.forall_mem_cons.mpr ⟨lw_p23, List.forall_mem_cons.mpr ⟨lw_p24, List.forall_mem_cons.mpr ⟨lw_p25, List.forall_mem_cons.mpr ⟨lw_p26, List.forall_mem_cons.mpr ⟨lw_p27, List.forall_mem_cons.mpr ⟨lw_p28, List.forall_mem_cons.mpr ⟨lw_p29, List.forall_mem_cons.mpr ⟨lw_p30, List.forall_mem_cons.mpr ⟨lw_p31, fun _ h => absurd h List.not_mem_nil⟩⟩⟩⟩⟩⟩⟩⟩⟩⟩⟩⟩⟩⟩⟩⟩
theorem lw_p32 : lw_okq (⟨"ChalkStreet$Streets", "followedNext", "(I)I"⟩, 4) := ⟨⟨by decide +kernel, by decide +kernel⟩, List.mem_of_getElem? (i := 155) (by decide +kernel), List.mem_of_getElem? (i := 932) (by decide +kernel), List.mem_of_getElem? (i := 933) (by decide +kernel)⟩
theorem lw_p33 : lw_okq (⟨"ChalkStreet$Streets", "better", "(II)I"⟩, 4) := ⟨⟨by decide +kernel, by decide +kernel⟩, List.mem_of_getElem? (i := 155) (by decide +kernel), List.mem_of_getElem? (i := 937) (by decide +kernel), List.mem_of_getElem? (i := 938) (by decide +kernel)⟩
theorem lw_p34 : lw_okq (⟨"ChalkStreet", "give", "(III)V"⟩, 15) := ⟨⟨by decide +kernel, by decide +kernel⟩, List.mem_of_getElem? (i := 22) (by decide +kernel), List.mem_of_getElem? (i := 953) (by decide +kernel), List.mem_of_getElem? (i := 954) (by decide +kernel)⟩
theorem lw_p35 : lw_okq (⟨"ChalkStreetModel", "spell", "(IJ)V"⟩, 53) := ⟨⟨by decide +kernel, by decide +kernel⟩, List.mem_of_getElem? (i := 1038) (by decide +kernel), List.mem_of_getElem? (i := 1045) (by decide +kernel), List.mem_of_getElem? (i := 1046) (by decide +kernel)⟩
theorem lw_p36 : lw_okq (⟨"ChalkStreetModel", "isSquare", "(I)Z"⟩, 53) := ⟨⟨by decide +kernel, by decide +kernel⟩, List.mem_of_getElem? (i := 1038) (by decide +kernel), List.mem_of_getElem? (i := 1218) (by decide +kernel), List.mem_of_getElem? (i := 1219) (by decide +kernel)⟩
theorem lw_p37 : lw_okq (⟨"ChalkStreetModel", "tell", "(I)V"⟩, 53) := ⟨⟨by decide +kernel, by decide +kernel⟩, List.mem_of_getElem? (i := 1038) (by decide +kernel), List.mem_of_getElem? (i := 1240) (by decide +kernel), List.mem_of_getElem? (i := 1241) (by decide +kernel)⟩
theorem lw_p38 : lw_okq (⟨"ChalkStreetModel", "allows", "(II)Z"⟩, 53) := ⟨⟨by decide +kernel, by decide +kernel⟩, List.mem_of_getElem? (i := 1038) (by decide +kernel), List.mem_of_getElem? (i := 1244) (by decide +kernel), List.mem_of_getElem? (i := 1245) (by decide +kernel)⟩
theorem lw_p39 : lw_okq (⟨"ChalkStreetModel", "after", "(III)I"⟩, 53) := ⟨⟨by decide +kernel, by decide +kernel⟩, List.mem_of_getElem? (i := 1038) (by decide +kernel), List.mem_of_getElem? (i := 1248) (by decide +kernel), List.mem_of_getElem? (i := 1249) (by decide +kernel)⟩
theorem lw_p40 : lw_okq (⟨"ChalkStreetModel", "moves", "(III)I"⟩, 53) := ⟨⟨by decide +kernel, by decide +kernel⟩, List.mem_of_getElem? (i := 1038) (by decide +kernel), List.mem_of_getElem? (i := 1252) (by decide +kernel), List.mem_of_getElem? (i := 1253) (by decide +kernel)⟩
theorem lw_p41 : lw_okq (⟨"ChalkStreetModel", "bestOf", "(II)I"⟩, 53) := ⟨⟨by decide +kernel, by decide +kernel⟩, List.mem_of_getElem? (i := 1038) (by decide +kernel), List.mem_of_getElem? (i := 1260) (by decide +kernel), List.mem_of_getElem? (i := 1261) (by decide +kernel)⟩
theorem lw_p42 : lw_okq (⟨"ChalkStreetModel", "countOf", "(I)I"⟩, 53) := ⟨⟨by decide +kernel, by decide +kernel⟩, List.mem_of_getElem? (i := 1038) (by decide +kernel), List.mem_of_getElem? (i := 1269) (by decide +kernel), List.mem_of_getElem? (i := 1270) (by decide +kernel)⟩
theorem lw_p43 : lw_okq (⟨"ChalkStreetModel", "goesTo", "(I)I"⟩, 53) := ⟨⟨by decide +kernel, by decide +kernel⟩, List.mem_of_getElem? (i := 1038) (by decide +kernel), List.mem_of_getElem? (i := 1277) (by decide +kernel), List.mem_of_getElem? (i := 1278) (by decide +kernel)⟩
theorem lw_p44 : lw_okq (⟨"ChalkStreetModel", "findMend", "()V"⟩, 53) := ⟨⟨by decide +kernel, by decide +kernel⟩, List.mem_of_getElem? (i := 1038) (by decide +kernel), List.mem_of_getElem? (i := 1285) (by decide +kernel), List.mem_of_getElem? (i := 1286) (by decide +kernel)⟩
theorem lw_p45 : lw_okq (⟨"ChalkStreetModel", "copySet", "(II)V"⟩, 53) := ⟨⟨by decide +kernel, by decide +kernel⟩, List.mem_of_getElem? (i := 1038) (by decide +kernel), List.mem_of_getElem? (i := 1289) (by decide +kernel), List.mem_of_getElem? (i := 1290) (by decide +kernel)⟩
theorem lw_p46 : lw_okq (⟨"ChalkStreetModel", "isFine", "()Z"⟩, 53) := ⟨⟨by decide +kernel, by decide +kernel⟩, List.mem_of_getElem? (i := 1038) (by decide +kernel), List.mem_of_getElem? (i := 1293) (by decide +kernel), List.mem_of_getElem? (i := 1294) (by decide +kernel)⟩
theorem lw_p47 : lw_okq (⟨"ChalkStreetModel", "isTelling", "(I)Z"⟩, 53) := ⟨⟨by decide +kernel, by decide +kernel⟩, List.mem_of_getElem? (i := 1038) (by decide +kernel), List.mem_of_getElem? (i := 1321) (by decide +kernel), List.mem_of_getElem? (i := 1322) (by decide +kernel)⟩
def lw_privs_3 : List (MethodName × Nat) := [(⟨"ChalkStreet$Streets", "followedNext", "(I)I"⟩, 4), (⟨"ChalkStreet$Streets", "better", "(II)I"⟩, 4), (⟨"ChalkStreet", "give", "(III)V"⟩, 15), (⟨"ChalkStreetModel", "spell", "(IJ)V"⟩, 53), (⟨"ChalkStreetModel", "isSquare", "(I)Z"⟩, 53), (⟨"ChalkStreetModel", "tell", "(I)V"⟩, 53), (⟨"ChalkStreetModel", "allows", "(II)Z"⟩, 53), (⟨"ChalkStreetModel", "after", "(III)I"⟩, 53), (⟨"ChalkStreetModel", "moves", "(III)I"⟩, 53), (⟨"ChalkStreetModel", "bestOf", "(II)I"⟩, 53), (⟨"ChalkStreetModel", "countOf", "(I)I"⟩, 53), (⟨"ChalkStreetModel", "goesTo", "(I)I"⟩, 53), (⟨"ChalkStreetModel", "findMend", "()V"⟩, 53), (⟨"ChalkStreetModel", "copySet", "(II)V"⟩, 53), (⟨"ChalkStreetModel", "isFine", "()Z"⟩, 53), (⟨"ChalkStreetModel", "isTelling", "(I)Z"⟩, 53)]
theorem lw_r3 : ∀ q ∈ lw_privs_3, lw_okq q := List.forall_mem_cons.mpr ⟨lw_p32, List.forall_mem_cons.mpr ⟨lw_p33, List.forall_mem_cons.mpr ⟨lw_p34, List.forall_mem_cons.mpr ⟨lw_p35, List.forall_mem_cons.mpr ⟨lw_p36, List.forall_mem_cons.mpr ⟨lw_p37, List.forall_mem_cons.mpr ⟨lw_p38, List.forall_mem_cons.mpr ⟨lw_p39, List.forall_mem_cons.mpr ⟨lw_p40, List.forall_mem_cons.mpr ⟨lw_p41, List.forall_mem_cons.mpr ⟨lw_p42, List.forall_mem_cons.mpr ⟨lw_p43, List.forall_mem_cons.mpr ⟨lw_p44, List.forall_mem_cons.mpr ⟨lw_p45, List.forall_mem_cons.mpr ⟨lw_p46, List.forall_mem_cons.mpr ⟨lw_p47, fun _ h => absurd h List.not_mem_nil⟩⟩⟩⟩⟩⟩⟩⟩⟩⟩⟩⟩⟩⟩⟩⟩
theorem lw_p48 : lw_okq (⟨"ChalkStreetModel", "isGap", "(II)Z"⟩, 53) := ⟨⟨by decide +kernel, by decide +kernel⟩, List.mem_of_getElem? (i := 1038) (by decide +kernel), List.mem_of_getElem? (i := 1325) (by decide +kernel), List.mem_of_getElem? (i := 1326) (by decide +kernel)⟩
theorem lw_p49 : lw_okq (⟨"ChalkStreetModel", "copyTelling", "(II)V"⟩, 53) := ⟨⟨by decide +kernel, by decide +kernel⟩, List.mem_of_getElem? (i := 1038) (by decide +kernel), List.mem_of_getElem? (i := 1340) (by decide +kernel), List.mem_of_getElem? (i := 1341) (by decide +kernel)⟩
theorem lw_p50 : lw_okq (⟨"ChalkStreetModel", "changesOf", "(II)I"⟩, 53) := ⟨⟨by decide +kernel, by decide +kernel⟩, List.mem_of_getElem? (i := 1038) (by decide +kernel), List.mem_of_getElem? (i := 1348) (by decide +kernel), List.mem_of_getElem? (i := 1349) (by decide +kernel)⟩
theorem lw_p51 : lw_okq (⟨"ChalkStreetModel", "childOf", "(I)I"⟩, 53) := ⟨⟨by decide +kernel, by decide +kernel⟩, List.mem_of_getElem? (i := 1038) (by decide +kernel), List.mem_of_getElem? (i := 1356) (by decide +kernel), List.mem_of_getElem? (i := 1357) (by decide +kernel)⟩
theorem lw_p52 : lw_okq (⟨"ChalkStreetModel", "comes", "(III)V"⟩, 53) := ⟨⟨by decide +kernel, by decide +kernel⟩, List.mem_of_getElem? (i := 1038) (by decide +kernel), List.mem_of_getElem? (i := 1372) (by decide +kernel), List.mem_of_getElem? (i := 1373) (by decide +kernel)⟩
theorem lw_p53 : lw_okq (⟨"ChalkStreetModel", "movesIn", "(III)I"⟩, 53) := ⟨⟨by decide +kernel, by decide +kernel⟩, List.mem_of_getElem? (i := 1038) (by decide +kernel), List.mem_of_getElem? (i := 1376) (by decide +kernel), List.mem_of_getElem? (i := 1377) (by decide +kernel)⟩
theorem lw_p54 : lw_okq (⟨"ChalkStreetModel", "rowTo", "(II)J"⟩, 53) := ⟨⟨by decide +kernel, by decide +kernel⟩, List.mem_of_getElem? (i := 1038) (by decide +kernel), List.mem_of_getElem? (i := 1380) (by decide +kernel), List.mem_of_getElem? (i := 1381) (by decide +kernel)⟩
theorem lw_p55 : lw_okq (⟨"ChalkStreetModel", "read", "(II)I"⟩, 53) := ⟨⟨by decide +kernel, by decide +kernel⟩, List.mem_of_getElem? (i := 1038) (by decide +kernel), List.mem_of_getElem? (i := 1395) (by decide +kernel), List.mem_of_getElem? (i := 1396) (by decide +kernel)⟩
theorem lw_p56 : lw_okq (⟨"ChalkStreetModel", "nextToken", "()V"⟩, 53) := ⟨⟨by decide +kernel, by decide +kernel⟩, List.mem_of_getElem? (i := 1038) (by decide +kernel), List.mem_of_getElem? (i := 1399) (by decide +kernel), List.mem_of_getElem? (i := 1400) (by decide +kernel)⟩
theorem lw_p57 : lw_okq (⟨"ChalkStreetModel", "byteAt", "(I)I"⟩, 53) := ⟨⟨by decide +kernel, by decide +kernel⟩, List.mem_of_getElem? (i := 1038) (by decide +kernel), List.mem_of_getElem? (i := 1403) (by decide +kernel), List.mem_of_getElem? (i := 1404) (by decide +kernel)⟩
theorem lw_p58 : lw_okq (⟨"ChalkStreetModel", "part", "(J)I"⟩, 53) := ⟨⟨by decide +kernel, by decide +kernel⟩, List.mem_of_getElem? (i := 1038) (by decide +kernel), List.mem_of_getElem? (i := 1414) (by decide +kernel), List.mem_of_getElem? (i := 1415) (by decide +kernel)⟩
theorem lw_p59 : lw_okq (⟨"ChalkStreetModel", "isWord", "(J)Z"⟩, 53) := ⟨⟨by decide +kernel, by decide +kernel⟩, List.mem_of_getElem? (i := 1038) (by decide +kernel), List.mem_of_getElem? (i := 1418) (by decide +kernel), List.mem_of_getElem? (i := 1419) (by decide +kernel)⟩
theorem lw_p60 : lw_okq (⟨"ChalkStreetModel", "fail", "()V"⟩, 53) := ⟨⟨by decide +kernel, by decide +kernel⟩, List.mem_of_getElem? (i := 1038) (by decide +kernel), List.mem_of_getElem? (i := 1422) (by decide +kernel), List.mem_of_getElem? (i := 1423) (by decide +kernel)⟩
theorem lw_p61 : lw_okq (⟨"ChalkStreetModel", "either", "()I"⟩, 53) := ⟨⟨by decide +kernel, by decide +kernel⟩, List.mem_of_getElem? (i := 1038) (by decide +kernel), List.mem_of_getElem? (i := 1426) (by decide +kernel), List.mem_of_getElem? (i := 1427) (by decide +kernel)⟩
theorem lw_p62 : lw_okq (⟨"ChalkStreetModel", "both", "()I"⟩, 53) := ⟨⟨by decide +kernel, by decide +kernel⟩, List.mem_of_getElem? (i := 1038) (by decide +kernel), List.mem_of_getElem? (i := 1430) (by decide +kernel), List.mem_of_getElem? (i := 1431) (by decide +kernel)⟩
theorem lw_p63 : lw_okq (⟨"ChalkStreetModel", "not", "()I"⟩, 53) := ⟨⟨by decide +kernel, by decide +kernel⟩, List.mem_of_getElem? (i := 1038) (by decide +kernel), List.mem_of_getElem? (i := 1434) (by decide +kernel), List.mem_of_getElem? (i := 1435) (by decide +kernel)⟩
def lw_privs_4 : List (MethodName × Nat) := [(⟨"ChalkStreetModel", "isGap", "(II)Z"⟩, 53), (⟨"ChalkStreetModel", "copyTelling", "(II)V"⟩, 53), (⟨"ChalkStreetModel", "changesOf", "(II)I"⟩, 53), (⟨"ChalkStreetModel", "childOf", "(I)I"⟩, 53), (⟨"ChalkStreetModel", "comes", "(III)V"⟩, 53), (⟨"ChalkStreetModel", "movesIn", "(III)I"⟩, 53), (⟨"ChalkStreetModel", "rowTo", "(II)J"⟩, 53), (⟨"ChalkStreetModel", "read", "(II)I"⟩, 53), (⟨"ChalkStreetModel", "nextToken", "()V"⟩, 53), (⟨"ChalkStreetModel", "byteAt", "(I)I"⟩, 53), (⟨"ChalkStreetModel", "part", "(J)I"⟩, 53), (⟨"ChalkStreetModel", "isWord", "(J)Z"⟩, 53), (⟨"ChalkStreetModel", "fail", "()V"⟩, 53), (⟨"ChalkStreetModel", "either", "()I"⟩, 53), (⟨"ChalkStreetModel", "both", "()I"⟩, 53), (⟨"ChalkStreetModel", "not", "()I"⟩, 53)]
theorem lw_r4 : ∀ q ∈ lw_privs_4, lw_okq q := List.forall_mem_cons.mpr ⟨lw_p48, List.forall_mem_cons.mpr ⟨lw_p49, List.forall_mem_cons.mpr ⟨lw_p50, List.forall_mem_cons.mpr ⟨lw_p51, List.forall_mem_cons.mpr ⟨lw_p52, List.forall_mem_cons.mpr ⟨lw_p53, List.forall_mem_cons.mpr ⟨lw_p54, List.forall_mem_cons.mpr ⟨lw_p55, List.forall_mem_cons.mpr ⟨lw_p56, List.forall_mem_cons.mpr ⟨lw_p57, List.forall_mem_cons.mpr ⟨lw_p58, List.forall_mem_cons.mpr ⟨lw_p59, List.forall_mem_cons.mpr ⟨lw_p60, List.forall_mem_cons.mpr ⟨lw_p61, List.forall_mem_cons.mpr ⟨lw_p62, List.forall_mem_cons.mpr ⟨lw_p63, fun _ h => absurd h List.not_mem_nil⟩⟩⟩⟩⟩⟩⟩⟩⟩⟩⟩⟩⟩⟩⟩⟩
theorem lw_p64 : lw_okq (⟨"ChalkStreetModel", "opens", "()Z"⟩, 53) := ⟨⟨by decide +kernel, by decide +kernel⟩, List.mem_of_getElem? (i := 1038) (by decide +kernel), List.mem_of_getElem? (i := 1439) (by decide +kernel), List.mem_of_getElem? (i := 1440) (by decide +kernel)⟩
theorem lw_p65 : lw_okq (⟨"ChalkStreetModel", "added", "()I"⟩, 53) := ⟨⟨by decide +kernel, by decide +kernel⟩, List.mem_of_getElem? (i := 1038) (by decide +kernel), List.mem_of_getElem? (i := 1443) (by decide +kernel), List.mem_of_getElem? (i := 1444) (by decide +kernel)⟩
theorem lw_p66 : lw_okq (⟨"ChalkStreetModel", "term", "()I"⟩, 53) := ⟨⟨by decide +kernel, by decide +kernel⟩, List.mem_of_getElem? (i := 1038) (by decide +kernel), List.mem_of_getElem? (i := 1447) (by decide +kernel), List.mem_of_getElem? (i := 1448) (by decide +kernel)⟩
theorem lw_p67 : lw_okq (⟨"ChalkStreetModel", "one", "()I"⟩, 53) := ⟨⟨by decide +kernel, by decide +kernel⟩, List.mem_of_getElem? (i := 1038) (by decide +kernel), List.mem_of_getElem? (i := 1451) (by decide +kernel), List.mem_of_getElem? (i := 1452) (by decide +kernel)⟩
theorem lw_p68 : lw_okq (⟨"ChalkStreetModel", "isSign", "(I)Z"⟩, 53) := ⟨⟨by decide +kernel, by decide +kernel⟩, List.mem_of_getElem? (i := 1038) (by decide +kernel), List.mem_of_getElem? (i := 1455) (by decide +kernel), List.mem_of_getElem? (i := 1456) (by decide +kernel)⟩
theorem lw_p69 : lw_okq (⟨"ChalkStreetModel", "name", "()I"⟩, 53) := ⟨⟨by decide +kernel, by decide +kernel⟩, List.mem_of_getElem? (i := 1038) (by decide +kernel), List.mem_of_getElem? (i := 1459) (by decide +kernel), List.mem_of_getElem? (i := 1460) (by decide +kernel)⟩
theorem lw_p70 : lw_okq (⟨"ChalkStreetModel", "saysOf", "(III)I"⟩, 53) := ⟨⟨by decide +kernel, by decide +kernel⟩, List.mem_of_getElem? (i := 1038) (by decide +kernel), List.mem_of_getElem? (i := 1482) (by decide +kernel), List.mem_of_getElem? (i := 1483) (by decide +kernel)⟩
theorem lw_p71 : lw_okq (⟨"ChalkStreetModel", "hasNext", "(I)I"⟩, 53) := ⟨⟨by decide +kernel, by decide +kernel⟩, List.mem_of_getElem? (i := 1038) (by decide +kernel), List.mem_of_getElem? (i := 1499) (by decide +kernel), List.mem_of_getElem? (i := 1500) (by decide +kernel)⟩
def lw_privs_5 : List (MethodName × Nat) := [(⟨"ChalkStreetModel", "opens", "()Z"⟩, 53), (⟨"ChalkStreetModel", "added", "()I"⟩, 53), (⟨"ChalkStreetModel", "term", "()I"⟩, 53), (⟨"ChalkStreetModel", "one", "()I"⟩, 53), (⟨"ChalkStreetModel", "isSign", "(I)Z"⟩, 53), (⟨"ChalkStreetModel", "name", "()I"⟩, 53), (⟨"ChalkStreetModel", "saysOf", "(III)I"⟩, 53), (⟨"ChalkStreetModel", "hasNext", "(I)I"⟩, 53)]
theorem lw_r5 : ∀ q ∈ lw_privs_5, lw_okq q := List.forall_mem_cons.mpr ⟨lw_p64, List.forall_mem_cons.mpr ⟨lw_p65, List.forall_mem_cons.mpr ⟨lw_p66, List.forall_mem_cons.mpr ⟨lw_p67, List.forall_mem_cons.mpr ⟨lw_p68, List.forall_mem_cons.mpr ⟨lw_p69, List.forall_mem_cons.mpr ⟨lw_p70, List.forall_mem_cons.mpr ⟨lw_p71, fun _ h => absurd h List.not_mem_nil⟩⟩⟩⟩⟩⟩⟩⟩
def lw_privs : List (MethodName × Nat) := lw_privs_1 ++ (lw_privs_2 ++ (lw_privs_3 ++ (lw_privs_4 ++ (lw_privs_5))))
def lw_tbl : List Cond := k2_sels lw_privs ++ tables_1
theorem lw_privs_ok : ∀ q ∈ lw_privs, lw_okq q := by
  show ∀ q ∈ lw_privs_1 ++ (lw_privs_2 ++ (lw_privs_3 ++ (lw_privs_4 ++ (lw_privs_5)))), lw_okq q
  exact List.forall_mem_append.mpr ⟨lw_r1, List.forall_mem_append.mpr ⟨lw_r2, List.forall_mem_append.mpr ⟨lw_r3, List.forall_mem_append.mpr ⟨lw_r4, lw_r5⟩⟩⟩⟩
def RX0 : String := "ChalkStreet$Mender"
def TX0 : u_T := fun k => match k with
  | 0 => ("ChalkStreet$Mender", "asked", "LChalkStreet$Rules;", true)
  | 1 => ("ChalkStreet$Mender", "trial", "LChalkStreet$Rules;", true)
  | 2 => ("ChalkStreet$Mender", "worths", "LChalkStreet$Worths;", true)
  | 3 => ("ChalkStreet$Mender", "answered", "Z", false)
  | 4 => ("ChalkStreet$Mender", "needed", "I", false)
  | 5 => ("ChalkStreet$Mender", "first", "I", false)
  | _ => ("ChalkStreet$Mender", "second", "I", false)
def tyX0 : Nat → FieldType := fun k => match k with
  | 0 => .object "ChalkStreet$Rules"
  | 1 => .object "ChalkStreet$Rules"
  | 2 => .object "ChalkStreet$Worths"
  | 3 => .boolean
  | 4 => .int
  | 5 => .int
  | _ => .int
abbrev wsX00 : List Cond := u_ws RX0 TX0 7
theorem nmX0 : ∀ a, a < 7 → ∀ b, b < 7 → a ≠ b → (TX0 a).2.1 ≠ (TX0 b).2.1 := by decide +kernel
theorem tyX0_ok : ∀ k, k < 7 → parseFieldDescriptor (TX0 k).2.2.1 = some (tyX0 k) := by decide +kernel
abbrev cX0_init : ByteArray := prog_2_method_1_code
def yX0_init : MethodName := ⟨RX0, "<init>", "(I)V"⟩
abbrev cX0_find : ByteArray := prog_2_method_2_code
def yX0_find : MethodName := ⟨RX0, "find", "(LChalkStreet$Rules;)V"⟩
abbrev cX0_mendedFrom : ByteArray := prog_2_method_3_code
def yX0_mendedFrom : MethodName := ⟨RX0, "mendedFrom", "(I)I"⟩
def RX1 : String := "ChalkStreet$Quarrel"
def TX1 : u_T := fun k => match k with
  | 0 => ("ChalkStreet$Quarrel", "one", "LChalkStreet$Rules;", true)
  | 1 => ("ChalkStreet$Quarrel", "two", "LChalkStreet$Rules;", true)
  | 2 => ("ChalkStreet$Quarrel", "waiting", "LChalkStreet$Row;", true)
  | 3 => ("ChalkStreet$Quarrel", "seen", "LChalkStreet$Row;", true)
  | 4 => ("ChalkStreet$Quarrel", "lengths", "LChalkStreet$Row;", true)
  | 5 => ("ChalkStreet$Quarrel", "before", "LChalkStreet$Row;", true)
  | 6 => ("ChalkStreet$Quarrel", "lastSteps", "LChalkStreet$Row;", true)
  | _ => ("ChalkStreet$Quarrel", "met", "I", false)
def tyX1 : Nat → FieldType := fun k => match k with
  | 0 => .object "ChalkStreet$Rules"
  | 1 => .object "ChalkStreet$Rules"
  | 2 => .object "ChalkStreet$Row"
  | 3 => .object "ChalkStreet$Row"
  | 4 => .object "ChalkStreet$Row"
  | 5 => .object "ChalkStreet$Row"
  | 6 => .object "ChalkStreet$Row"
  | _ => .int
abbrev wsX10 : List Cond := u_ws RX1 TX1 8
theorem nmX1 : ∀ a, a < 8 → ∀ b, b < 8 → a ≠ b → (TX1 a).2.1 ≠ (TX1 b).2.1 := by decide +kernel
theorem tyX1_ok : ∀ k, k < 8 → parseFieldDescriptor (TX1 k).2.2.1 = some (tyX1 k) := by decide +kernel
abbrev cX1_init : ByteArray := prog_3_method_1_code
def yX1_init : MethodName := ⟨RX1, "<init>", "(I)V"⟩
abbrev cX1_find : ByteArray := prog_3_method_2_code
def yX1_find : MethodName := ⟨RX1, "find", "()J"⟩
abbrev cX1_quarrelStep : ByteArray := prog_3_method_3_code
def yX1_quarrelStep : MethodName := ⟨RX1, "quarrelStep", "(I)I"⟩
abbrev cX1_meet : ByteArray := prog_3_method_4_code
def yX1_meet : MethodName := ⟨RX1, "meet", "(III)V"⟩
abbrev cX1_rowTo : ByteArray := prog_3_method_5_code
def yX1_rowTo : MethodName := ⟨RX1, "rowTo", "(II)J"⟩
def RX2 : String := "ChalkStreet$Reader"
def TX2 : u_T := fun k => match k with
  | 0 => ("ChalkStreet$Reader", "tape", "LChalkStreet$Row;", true)
  | 1 => ("ChalkStreet$Reader", "written", "I", false)
  | 2 => ("ChalkStreet$Reader", "tokens", "LChalkStreet$Row;", true)
  | 3 => ("ChalkStreet$Reader", "numbers", "LChalkStreet$Row;", true)
  | 4 => ("ChalkStreet$Reader", "places", "LChalkStreet$Row;", true)
  | 5 => ("ChalkStreet$Reader", "next", "I", false)
  | 6 => ("ChalkStreet$Reader", "code", "LChalkStreet$Row;", true)
  | 7 => ("ChalkStreet$Reader", "length", "I", false)
  | _ => ("ChalkStreet$Reader", "takeLength", "I", false)
def tyX2 : Nat → FieldType := fun k => match k with
  | 0 => .object "ChalkStreet$Row"
  | 1 => .int
  | 2 => .object "ChalkStreet$Row"
  | 3 => .object "ChalkStreet$Row"
  | 4 => .object "ChalkStreet$Row"
  | 5 => .int
  | 6 => .object "ChalkStreet$Row"
  | 7 => .int
  | _ => .int
abbrev wsX20 : List Cond := u_ws RX2 TX2 9
theorem nmX2 : ∀ a, a < 9 → ∀ b, b < 9 → a ≠ b → (TX2 a).2.1 ≠ (TX2 b).2.1 := by decide +kernel
theorem tyX2_ok : ∀ k, k < 9 → parseFieldDescriptor (TX2 k).2.2.1 = some (tyX2 k) := by decide +kernel
abbrev cX2_init : ByteArray := prog_4_method_1_code
def yX2_init : MethodName := ⟨RX2, "<init>", "()V"⟩
abbrev cX2_write : ByteArray := prog_4_method_2_code
def yX2_write : MethodName := ⟨RX2, "write", "(Ljava/lang/String;)V"⟩
abbrev cX2_add : ByteArray := prog_4_method_3_code
def yX2_add : MethodName := ⟨RX2, "add", "(I)V"⟩
abbrev cX2_empty : ByteArray := prog_4_method_4_code
def yX2_empty : MethodName := ⟨RX2, "empty", "()V"⟩
abbrev cX2_read : ByteArray := prog_4_method_5_code
def yX2_read : MethodName := ⟨RX2, "read", "()I"⟩
abbrev cX2_split : ByteArray := prog_4_method_6_code
def yX2_split : MethodName := ⟨RX2, "split", "()V"⟩
abbrev cX2_tokenEnd : ByteArray := prog_4_method_7_code
def yX2_tokenEnd : MethodName := ⟨RX2, "tokenEnd", "(I)I"⟩
abbrev cX2_tokenOf : ByteArray := prog_4_method_8_code
def yX2_tokenOf : MethodName := ⟨RX2, "tokenOf", "(II)I"⟩
abbrev cX2_wordOf : ByteArray := prog_4_method_9_code
def yX2_wordOf : MethodName := ⟨RX2, "wordOf", "(II)I"⟩
abbrev cX2_numberOf : ByteArray := prog_4_method_10_code
def yX2_numberOf : MethodName := ⟨RX2, "numberOf", "(II)I"⟩
abbrev cX2_spells : ByteArray := prog_4_method_11_code
def yX2_spells : MethodName := ⟨RX2, "spells", "(Ljava/lang/String;II)Z"⟩
abbrev cX2_isLetter : ByteArray := prog_4_method_12_code
def yX2_isLetter : MethodName := ⟨RX2, "isLetter", "(I)Z"⟩
abbrev cX2_isDigit : ByteArray := prog_4_method_13_code
def yX2_isDigit : MethodName := ⟨RX2, "isDigit", "(I)Z"⟩
abbrev cX2_isNext : ByteArray := prog_4_method_14_code
def yX2_isNext : MethodName := ⟨RX2, "isNext", "(I)Z"⟩
abbrev cX2_passes : ByteArray := prog_4_method_15_code
def yX2_passes : MethodName := ⟨RX2, "passes", "(I)Z"⟩
abbrev cX2_emit : ByteArray := prog_4_method_16_code
def yX2_emit : MethodName := ⟨RX2, "emit", "(I)V"⟩
abbrev cX2_readsPart : ByteArray := prog_4_method_17_code
def yX2_readsPart : MethodName := ⟨RX2, "readsPart", "(I)Z"⟩
abbrev cX2_readsEither : ByteArray := prog_4_method_18_code
def yX2_readsEither : MethodName := ⟨RX2, "readsEither", "(I)Z"⟩
abbrev cX2_readsBoth : ByteArray := prog_4_method_19_code
def yX2_readsBoth : MethodName := ⟨RX2, "readsBoth", "(I)Z"⟩
abbrev cX2_readsNegated : ByteArray := prog_4_method_20_code
def yX2_readsNegated : MethodName := ⟨RX2, "readsNegated", "(I)Z"⟩
abbrev cX2_readsCompared : ByteArray := prog_4_method_21_code
def yX2_readsCompared : MethodName := ⟨RX2, "readsCompared", "(I)Z"⟩
abbrev cX2_readsSum : ByteArray := prog_4_method_22_code
def yX2_readsSum : MethodName := ⟨RX2, "readsSum", "(I)Z"⟩
abbrev cX2_readsTerm : ByteArray := prog_4_method_23_code
def yX2_readsTerm : MethodName := ⟨RX2, "readsTerm", "(I)Z"⟩
abbrev cX2_readsOne : ByteArray := prog_4_method_24_code
def yX2_readsOne : MethodName := ⟨RX2, "readsOne", "(I)Z"⟩
def RX3 : String := "ChalkStreet$Row"
def TX3 : u_T := fun k => match k with
  | _ => ("ChalkStreet$Row", "items", "[I", true)
def tyX3 : Nat → FieldType := fun k => match k with
  | _ => .array .int
abbrev wsX30 : List Cond := u_ws RX3 TX3 1
theorem nmX3 : ∀ a, a < 1 → ∀ b, b < 1 → a ≠ b → (TX3 a).2.1 ≠ (TX3 b).2.1 := by decide +kernel
theorem tyX3_ok : ∀ k, k < 1 → parseFieldDescriptor (TX3 k).2.2.1 = some (tyX3 k) := by decide +kernel
abbrev cX3_init : ByteArray := prog_5_method_1_code
def yX3_init : MethodName := ⟨RX3, "<init>", "(I)V"⟩
abbrev cX3_at : ByteArray := prog_5_method_2_code
def yX3_at : MethodName := ⟨RX3, "at", "(I)I"⟩
abbrev cX3_put : ByteArray := prog_5_method_3_code
def yX3_put : MethodName := ⟨RX3, "put", "(II)V"⟩
abbrev cX3_fill : ByteArray := prog_5_method_4_code
def yX3_fill : MethodName := ⟨RX3, "fill", "(I)V"⟩
abbrev cX3_move : ByteArray := prog_5_method_5_code
def yX3_move : MethodName := ⟨RX3, "move", "(III)V"⟩
def RX4 : String := "ChalkStreet$Rules"
def TX4 : u_T := fun k => match k with
  | 0 => ("ChalkStreet$Rules", "size", "I", true)
  | 1 => ("ChalkStreet$Rules", "kinds", "LChalkStreet$Row;", true)
  | 2 => ("ChalkStreet$Rules", "numbers", "LChalkStreet$Row;", true)
  | _ => ("ChalkStreet$Rules", "allowed", "I", false)
def tyX4 : Nat → FieldType := fun k => match k with
  | 0 => .int
  | 1 => .object "ChalkStreet$Row"
  | 2 => .object "ChalkStreet$Row"
  | _ => .int
abbrev wsX40 : List Cond := u_ws RX4 TX4 4
theorem nmX4 : ∀ a, a < 4 → ∀ b, b < 4 → a ≠ b → (TX4 a).2.1 ≠ (TX4 b).2.1 := by decide +kernel
theorem tyX4_ok : ∀ k, k < 4 → parseFieldDescriptor (TX4 k).2.2.1 = some (tyX4 k) := by decide +kernel
abbrev cX4_init : ByteArray := prog_6_method_1_code
def yX4_init : MethodName := ⟨RX4, "<init>", "(I)V"⟩
abbrev cX4_onRing : ByteArray := prog_6_method_2_code
def yX4_onRing : MethodName := ⟨RX4, "onRing", "(I)Z"⟩
abbrev cX4_allows : ByteArray := prog_6_method_3_code
def yX4_allows : MethodName := ⟨RX4, "allows", "(I)Z"⟩
abbrev cX4_lay : ByteArray := prog_6_method_4_code
def yX4_lay : MethodName := ⟨RX4, "lay", "(III)V"⟩
abbrev cX4_become : ByteArray := prog_6_method_5_code
def yX4_become : MethodName := ⟨RX4, "become", "(LChalkStreet$Rules;)V"⟩
abbrev cX4_isLike : ByteArray := prog_6_method_6_code
def yX4_isLike : MethodName := ⟨RX4, "isLike", "(LChalkStreet$Rules;)Z"⟩
abbrev cX4_outcome : ByteArray := prog_6_method_7_code
def yX4_outcome : MethodName := ⟨RX4, "outcome", "(II)I"⟩
abbrev cX4_landing : ByteArray := prog_6_method_8_code
def yX4_landing : MethodName := ⟨RX4, "landing", "(II)I"⟩
abbrev cX4_ledTo : ByteArray := prog_6_method_9_code
def yX4_ledTo : MethodName := ⟨RX4, "ledTo", "(J)I"⟩
abbrev cX4_around : ByteArray := prog_6_method_10_code
def yX4_around : MethodName := ⟨RX4, "around", "(I)I"⟩
def RX5 : String := "ChalkStreet$Sheets"
def TX5 : u_T := fun k => match k with
  | 0 => ("ChalkStreet$Sheets", "items", "LChalkStreet$Row;", true)
  | 1 => ("ChalkStreet$Sheets", "sorts", "LChalkStreet$Row;", true)
  | _ => ("ChalkStreet$Sheets", "sizes", "LChalkStreet$Row;", true)
def tyX5 : Nat → FieldType := fun k => match k with
  | 0 => .object "ChalkStreet$Row"
  | 1 => .object "ChalkStreet$Row"
  | _ => .object "ChalkStreet$Row"
abbrev wsX50 : List Cond := u_ws RX5 TX5 3
theorem nmX5 : ∀ a, a < 3 → ∀ b, b < 3 → a ≠ b → (TX5 a).2.1 ≠ (TX5 b).2.1 := by decide +kernel
theorem tyX5_ok : ∀ k, k < 3 → parseFieldDescriptor (TX5 k).2.2.1 = some (tyX5 k) := by decide +kernel
abbrev cX5_init : ByteArray := prog_7_method_1_code
def yX5_init : MethodName := ⟨RX5, "<init>", "()V"⟩
abbrev cX5_isMissing : ByteArray := prog_7_method_2_code
def yX5_isMissing : MethodName := ⟨RX5, "isMissing", "(I)Z"⟩
abbrev cX5_become : ByteArray := prog_7_method_3_code
def yX5_become : MethodName := ⟨RX5, "become", "(III)V"⟩
abbrev cX5_reaches : ByteArray := prog_7_method_4_code
def yX5_reaches : MethodName := ⟨RX5, "reaches", "(III)Z"⟩
abbrev cX5_read : ByteArray := prog_7_method_5_code
def yX5_read : MethodName := ⟨RX5, "read", "(II)I"⟩
abbrev cX5_write : ByteArray := prog_7_method_6_code
def yX5_write : MethodName := ⟨RX5, "write", "(III)V"⟩
abbrev cX5_carry : ByteArray := prog_7_method_7_code
def yX5_carry : MethodName := ⟨RX5, "carry", "(IIIII)V"⟩
abbrev cX5_spot : ByteArray := prog_7_method_8_code
def yX5_spot : MethodName := ⟨RX5, "spot", "(II)I"⟩
def RX6 : String := "ChalkStreet$Streets"
def TX6 : u_T := fun k => match k with
  | 0 => ("ChalkStreet$Streets", "follows", "LChalkStreet$Row;", true)
  | 1 => ("ChalkStreet$Streets", "takes", "LChalkStreet$Row;", true)
  | 2 => ("ChalkStreet$Streets", "keeps", "LChalkStreet$Row;", true)
  | _ => ("ChalkStreet$Streets", "then", "LChalkStreet$Row;", true)
def tyX6 : Nat → FieldType := fun k => match k with
  | 0 => .object "ChalkStreet$Row"
  | 1 => .object "ChalkStreet$Row"
  | 2 => .object "ChalkStreet$Row"
  | _ => .object "ChalkStreet$Row"
abbrev wsX60 : List Cond := u_ws RX6 TX6 4
theorem nmX6 : ∀ a, a < 4 → ∀ b, b < 4 → a ≠ b → (TX6 a).2.1 ≠ (TX6 b).2.1 := by decide +kernel
theorem tyX6_ok : ∀ k, k < 4 → parseFieldDescriptor (TX6 k).2.2.1 = some (tyX6 k) := by decide +kernel
abbrev cX6_init : ByteArray := prog_8_method_1_code
def yX6_init : MethodName := ⟨RX6, "<init>", "()V"⟩
abbrev cX6_goBy : ByteArray := prog_8_method_2_code
def yX6_goBy : MethodName := ⟨RX6, "goBy", "()V"⟩
abbrev cX6_howManyFollow : ByteArray := prog_8_method_3_code
def yX6_howManyFollow : MethodName := ⟨RX6, "howManyFollow", "()I"⟩
abbrev cX6_followedNext : ByteArray := prog_8_method_4_code
def yX6_followedNext : MethodName := ⟨RX6, "followedNext", "(I)I"⟩
abbrev cX6_better : ByteArray := prog_8_method_5_code
def yX6_better : MethodName := ⟨RX6, "better", "(II)I"⟩
def RX7 : String := "ChalkStreet$Tally"
def TX7 : u_T := fun k => match k with
  | 0 => ("ChalkStreet$Tally", "now", "LChalkStreet$Row;", true)
  | 1 => ("ChalkStreet$Tally", "then", "LChalkStreet$Row;", true)
  | 2 => ("ChalkStreet$Tally", "firstWon", "I", false)
  | _ => ("ChalkStreet$Tally", "secondWon", "I", false)
def tyX7 : Nat → FieldType := fun k => match k with
  | 0 => .object "ChalkStreet$Row"
  | 1 => .object "ChalkStreet$Row"
  | 2 => .int
  | _ => .int
abbrev wsX70 : List Cond := u_ws RX7 TX7 4
theorem nmX7 : ∀ a, a < 4 → ∀ b, b < 4 → a ≠ b → (TX7 a).2.1 ≠ (TX7 b).2.1 := by decide +kernel
theorem tyX7_ok : ∀ k, k < 4 → parseFieldDescriptor (TX7 k).2.2.1 = some (tyX7 k) := by decide +kernel
abbrev cX7_init : ByteArray := prog_9_method_1_code
def yX7_init : MethodName := ⟨RX7, "<init>", "()V"⟩
abbrev cX7_reckon : ByteArray := prog_9_method_2_code
def yX7_reckon : MethodName := ⟨RX7, "reckon", "(LChalkStreet$Rules;I)V"⟩
abbrev cX7_goingOn : ByteArray := prog_9_method_3_code
def yX7_goingOn : MethodName := ⟨RX7, "goingOn", "()I"⟩
abbrev cX7_moveOn : ByteArray := prog_9_method_4_code
def yX7_moveOn : MethodName := ⟨RX7, "moveOn", "(LChalkStreet$Rules;I)V"⟩
def RX8 : String := "ChalkStreet$Tellings"
def TX8 : u_T := fun k => match k with
  | 0 => ("ChalkStreet$Tellings", "size", "I", true)
  | 1 => ("ChalkStreet$Tellings", "kinds", "LChalkStreet$Row;", true)
  | 2 => ("ChalkStreet$Tellings", "numbers", "LChalkStreet$Row;", true)
  | 3 => ("ChalkStreet$Tellings", "allowed", "LChalkStreet$Row;", true)
  | 4 => ("ChalkStreet$Tellings", "gaps", "LChalkStreet$Row;", true)
  | 5 => ("ChalkStreet$Tellings", "years", "LChalkStreet$Row;", true)
  | 6 => ("ChalkStreet$Tellings", "towns", "LChalkStreet$Row;", true)
  | 7 => ("ChalkStreet$Tellings", "weights", "LChalkStreet$Row;", true)
  | 8 => ("ChalkStreet$Tellings", "havers", "LChalkStreet$Row;", true)
  | _ => ("ChalkStreet$Tellings", "told", "I", false)
def tyX8 : Nat → FieldType := fun k => match k with
  | 0 => .int
  | 1 => .object "ChalkStreet$Row"
  | 2 => .object "ChalkStreet$Row"
  | 3 => .object "ChalkStreet$Row"
  | 4 => .object "ChalkStreet$Row"
  | 5 => .object "ChalkStreet$Row"
  | 6 => .object "ChalkStreet$Row"
  | 7 => .object "ChalkStreet$Row"
  | 8 => .object "ChalkStreet$Row"
  | _ => .int
abbrev wsX80 : List Cond := u_ws RX8 TX8 10
theorem nmX8 : ∀ a, a < 10 → ∀ b, b < 10 → a ≠ b → (TX8 a).2.1 ≠ (TX8 b).2.1 := by decide +kernel
theorem tyX8_ok : ∀ k, k < 10 → parseFieldDescriptor (TX8 k).2.2.1 = some (tyX8 k) := by decide +kernel
abbrev cX8_init : ByteArray := prog_10_method_1_code
def yX8_init : MethodName := ⟨RX8, "<init>", "(I)V"⟩
abbrev cX8_known : ByteArray := prog_10_method_2_code
def yX8_known : MethodName := ⟨RX8, "known", "(I)Z"⟩
abbrev cX8_add : ByteArray := prog_10_method_3_code
def yX8_add : MethodName := ⟨RX8, "add", "(LChalkStreet$Rules;II)I"⟩
abbrev cX8_isGap : ByteArray := prog_10_method_4_code
def yX8_isGap : MethodName := ⟨RX8, "isGap", "(II)Z"⟩
abbrev cX8_openGap : ByteArray := prog_10_method_5_code
def yX8_openGap : MethodName := ⟨RX8, "openGap", "(II)V"⟩
abbrev cX8_howManyGaps : ByteArray := prog_10_method_6_code
def yX8_howManyGaps : MethodName := ⟨RX8, "howManyGaps", "(I)I"⟩
abbrev cX8_layPlain : ByteArray := prog_10_method_7_code
def yX8_layPlain : MethodName := ⟨RX8, "layPlain", "(ILChalkStreet$Rules;)V"⟩
abbrev cX8_weighed : ByteArray := prog_10_method_8_code
def yX8_weighed : MethodName := ⟨RX8, "weighed", "(ILChalkStreet$Worths;)V"⟩
abbrev cX8_tellFacts : ByteArray := prog_10_method_9_code
def yX8_tellFacts : MethodName := ⟨RX8, "tellFacts", "(ILChalkStreet$Row;)V"⟩
abbrev cX8_changesBetween : ByteArray := prog_10_method_10_code
def yX8_changesBetween : MethodName := ⟨RX8, "changesBetween", "(II)I"⟩
abbrev cX8_parentOf : ByteArray := prog_10_method_11_code
def yX8_parentOf : MethodName := ⟨RX8, "parentOf", "(I)I"⟩
abbrev cX8_allChanges : ByteArray := prog_10_method_12_code
def yX8_allChanges : MethodName := ⟨RX8, "allChanges", "()I"⟩
abbrev cX8_howManyMoved : ByteArray := prog_10_method_13_code
def yX8_howManyMoved : MethodName := ⟨RX8, "howManyMoved", "()I"⟩
abbrev cX8_howManyOfNone : ByteArray := prog_10_method_14_code
def yX8_howManyOfNone : MethodName := ⟨RX8, "howManyOfNone", "()I"⟩
abbrev cX8_mayHaveStood : ByteArray := prog_10_method_15_code
def yX8_mayHaveStood : MethodName := ⟨RX8, "mayHaveStood", "(II)I"⟩
abbrev cX8_spot : ByteArray := prog_10_method_16_code
def yX8_spot : MethodName := ⟨RX8, "spot", "(II)I"⟩
def RX9 : String := "ChalkStreet$Texts"
def TX9 : u_T := fun k => match k with
  | 0 => ("ChalkStreet$Texts", "codes", "LChalkStreet$Row;", true)
  | 1 => ("ChalkStreet$Texts", "lengths", "LChalkStreet$Row;", true)
  | 2 => ("ChalkStreet$Texts", "takeLengths", "LChalkStreet$Row;", true)
  | 3 => ("ChalkStreet$Texts", "stack", "LChalkStreet$Row;", true)
  | 4 => ("ChalkStreet$Texts", "height", "I", false)
  | _ => ("ChalkStreet$Texts", "kept", "I", false)
def tyX9 : Nat → FieldType := fun k => match k with
  | 0 => .object "ChalkStreet$Row"
  | 1 => .object "ChalkStreet$Row"
  | 2 => .object "ChalkStreet$Row"
  | 3 => .object "ChalkStreet$Row"
  | 4 => .int
  | _ => .int
abbrev wsX90 : List Cond := u_ws RX9 TX9 6
theorem nmX9 : ∀ a, a < 6 → ∀ b, b < 6 → a ≠ b → (TX9 a).2.1 ≠ (TX9 b).2.1 := by decide +kernel
theorem tyX9_ok : ∀ k, k < 6 → parseFieldDescriptor (TX9 k).2.2.1 = some (tyX9 k) := by decide +kernel
abbrev cX9_init : ByteArray := prog_11_method_1_code
def yX9_init : MethodName := ⟨RX9, "<init>", "()V"⟩
abbrev cX9_keep : ByteArray := prog_11_method_2_code
def yX9_keep : MethodName := ⟨RX9, "keep", "(LChalkStreet$Reader;)I"⟩
abbrev cX9_reckon : ByteArray := prog_11_method_3_code
def yX9_reckon : MethodName := ⟨RX9, "reckon", "(IILChalkStreet$Row;)I"⟩
abbrev cX9_joinTwo : ByteArray := prog_11_method_4_code
def yX9_joinTwo : MethodName := ⟨RX9, "joinTwo", "(I)V"⟩
abbrev cX9_push : ByteArray := prog_11_method_5_code
def yX9_push : MethodName := ⟨RX9, "push", "(I)V"⟩
abbrev cX9_pop : ByteArray := prog_11_method_6_code
def yX9_pop : MethodName := ⟨RX9, "pop", "()I"⟩
def RX10 : String := "ChalkStreet$Worths"
def TX10 : u_T := fun k => match k with
  | 0 => ("ChalkStreet$Worths", "found", "LChalkStreet$Row;", true)
  | 1 => ("ChalkStreet$Worths", "outcomes", "LChalkStreet$Row;", true)
  | 2 => ("ChalkStreet$Worths", "landings", "LChalkStreet$Row;", true)
  | _ => ("ChalkStreet$Worths", "size", "I", false)
def tyX10 : Nat → FieldType := fun k => match k with
  | 0 => .object "ChalkStreet$Row"
  | 1 => .object "ChalkStreet$Row"
  | 2 => .object "ChalkStreet$Row"
  | _ => .int
abbrev wsX100 : List Cond := u_ws RX10 TX10 4
theorem nmX10 : ∀ a, a < 4 → ∀ b, b < 4 → a ≠ b → (TX10 a).2.1 ≠ (TX10 b).2.1 := by decide +kernel
theorem tyX10_ok : ∀ k, k < 4 → parseFieldDescriptor (TX10 k).2.2.1 = some (tyX10 k) := by decide +kernel
abbrev cX10_init : ByteArray := prog_12_method_1_code
def yX10_init : MethodName := ⟨RX10, "<init>", "()V"⟩
abbrev cX10_judge : ByteArray := prog_12_method_2_code
def yX10_judge : MethodName := ⟨RX10, "judge", "(LChalkStreet$Rules;)I"⟩
abbrev cX10_bestStep : ByteArray := prog_12_method_3_code
def yX10_bestStep : MethodName := ⟨RX10, "bestStep", "(I)I"⟩
abbrev cX10_howMany : ByteArray := prog_12_method_4_code
def yX10_howMany : MethodName := ⟨RX10, "howMany", "(I)I"⟩
abbrev cX10_ringFrom : ByteArray := prog_12_method_5_code
def yX10_ringFrom : MethodName := ⟨RX10, "ringFrom", "(I)I"⟩
abbrev cX10_spot : ByteArray := prog_12_method_6_code
def yX10_spot : MethodName := ⟨RX10, "spot", "(II)I"⟩
abbrev cX10_tabulate : ByteArray := prog_12_method_7_code
def yX10_tabulate : MethodName := ⟨RX10, "tabulate", "(LChalkStreet$Rules;)V"⟩
abbrev cX10_settled : ByteArray := prog_12_method_8_code
def yX10_settled : MethodName := ⟨RX10, "settled", "(II)I"⟩
abbrev cX10_value : ByteArray := prog_12_method_9_code
def yX10_value : MethodName := ⟨RX10, "value", "(III)I"⟩
def RX11 : String := "ChalkStreet"
def TX11 : u_T := fun k => match k with
  | 0 => ("ChalkStreet", "rules", "LChalkStreet$Rules;", true)
  | 1 => ("ChalkStreet", "worths", "LChalkStreet$Worths;", true)
  | 2 => ("ChalkStreet", "mender", "LChalkStreet$Mender;", true)
  | 3 => ("ChalkStreet", "tally", "LChalkStreet$Tally;", true)
  | 4 => ("ChalkStreet", "tellings", "LChalkStreet$Tellings;", true)
  | 5 => ("ChalkStreet", "plain", "LChalkStreet$Rules;", true)
  | 6 => ("ChalkStreet", "quarrelling", "LChalkStreet$Quarrel;", true)
  | 7 => ("ChalkStreet", "reader", "LChalkStreet$Reader;", true)
  | 8 => ("ChalkStreet", "texts", "LChalkStreet$Texts;", true)
  | 9 => ("ChalkStreet", "streets", "LChalkStreet$Streets;", true)
  | 10 => ("ChalkStreet", "sheets", "LChalkStreet$Sheets;", true)
  | 11 => ("ChalkStreet", "purses", "LChalkStreet$Row;", true)
  | 12 => ("ChalkStreet", "facts", "LChalkStreet$Row;", true)
  | 13 => ("ChalkStreet", "year", "I", false)
  | _ => ("ChalkStreet", "rule", "I", false)
def tyX11 : Nat → FieldType := fun k => match k with
  | 0 => .object "ChalkStreet$Rules"
  | 1 => .object "ChalkStreet$Worths"
  | 2 => .object "ChalkStreet$Mender"
  | 3 => .object "ChalkStreet$Tally"
  | 4 => .object "ChalkStreet$Tellings"
  | 5 => .object "ChalkStreet$Rules"
  | 6 => .object "ChalkStreet$Quarrel"
  | 7 => .object "ChalkStreet$Reader"
  | 8 => .object "ChalkStreet$Texts"
  | 9 => .object "ChalkStreet$Streets"
  | 10 => .object "ChalkStreet$Sheets"
  | 11 => .object "ChalkStreet$Row"
  | 12 => .object "ChalkStreet$Row"
  | 13 => .int
  | _ => .int
abbrev wsX110 : List Cond := u_ws RX11 TX11 15
theorem nmX11 : ∀ a, a < 15 → ∀ b, b < 15 → a ≠ b → (TX11 a).2.1 ≠ (TX11 b).2.1 := by decide +kernel
theorem tyX11_ok : ∀ k, k < 15 → parseFieldDescriptor (TX11 k).2.2.1 = some (tyX11 k) := by decide +kernel
abbrev cX11_init : ByteArray := prog_1_method_1_code
def yX11_init : MethodName := ⟨RX11, "<init>", "(I)V"⟩
abbrev cX11_square : ByteArray := prog_1_method_2_code
def yX11_square : MethodName := ⟨RX11, "square", "(III)I"⟩
abbrev cX11_steps : ByteArray := prog_1_method_3_code
def yX11_steps : MethodName := ⟨RX11, "steps", "(I)I"⟩
abbrev cX11_squareTold : ByteArray := prog_1_method_4_code
def yX11_squareTold : MethodName := ⟨RX11, "squareTold", "(II)I"⟩
abbrev cX11_worth : ByteArray := prog_1_method_5_code
def yX11_worth : MethodName := ⟨RX11, "worth", "(I)I"⟩
abbrev cX11_best : ByteArray := prog_1_method_6_code
def yX11_best : MethodName := ⟨RX11, "best", "(I)I"⟩
abbrev cX11_many : ByteArray := prog_1_method_7_code
def yX11_many : MethodName := ⟨RX11, "many", "(I)I"⟩
abbrev cX11_ring : ByteArray := prog_1_method_8_code
def yX11_ring : MethodName := ⟨RX11, "ring", "(I)I"⟩
abbrev cX11_mend : ByteArray := prog_1_method_9_code
def yX11_mend : MethodName := ⟨RX11, "mend", "(I)I"⟩
abbrev cX11_plays : ByteArray := prog_1_method_10_code
def yX11_plays : MethodName := ⟨RX11, "plays", "(II)J"⟩
abbrev cX11_play : ByteArray := prog_1_method_11_code
def yX11_play : MethodName := ⟨RX11, "play", "(J)I"⟩
abbrev cX11_telling : ByteArray := prog_1_method_12_code
def yX11_telling : MethodName := ⟨RX11, "telling", "(II)I"⟩
abbrev cX11_gap : ByteArray := prog_1_method_13_code
def yX11_gap : MethodName := ⟨RX11, "gap", "(II)I"⟩
abbrev cX11_date : ByteArray := prog_1_method_14_code
def yX11_date : MethodName := ⟨RX11, "date", "(II)I"⟩
abbrev cX11_take : ByteArray := prog_1_method_15_code
def yX11_take : MethodName := ⟨RX11, "take", "(I)I"⟩
abbrev cX11_changes : ByteArray := prog_1_method_16_code
def yX11_changes : MethodName := ⟨RX11, "changes", "(II)I"⟩
abbrev cX11_child : ByteArray := prog_1_method_17_code
def yX11_child : MethodName := ⟨RX11, "child", "(I)I"⟩
abbrev cX11_tree : ByteArray := prog_1_method_18_code
def yX11_tree : MethodName := ⟨RX11, "tree", "(I)I"⟩
abbrev cX11_stood : ByteArray := prog_1_method_19_code
def yX11_stood : MethodName := ⟨RX11, "stood", "(II)I"⟩
abbrev cX11_quarrel : ByteArray := prog_1_method_20_code
def yX11_quarrel : MethodName := ⟨RX11, "quarrel", "(II)J"⟩
abbrev cX11_feed : ByteArray := prog_1_method_21_code
def yX11_feed : MethodName := ⟨RX11, "feed", "(IJ)I"⟩
abbrev cX11_text : ByteArray := prog_1_method_22_code
def yX11_text : MethodName := ⟨RX11, "text", "()I"⟩
abbrev cX11_force : ByteArray := prog_1_method_23_code
def yX11_force : MethodName := ⟨RX11, "force", "(I)I"⟩
abbrev cX11_says : ByteArray := prog_1_method_24_code
def yX11_says : MethodName := ⟨RX11, "says", "(II)J"⟩
abbrev cX11_street : ByteArray := prog_1_method_25_code
def yX11_street : MethodName := ⟨RX11, "street", "(II)I"⟩
abbrev cX11_years : ByteArray := prog_1_method_26_code
def yX11_years : MethodName := ⟨RX11, "years", "(I)I"⟩
abbrev cX11_has : ByteArray := prog_1_method_27_code
def yX11_has : MethodName := ⟨RX11, "has", "(I)I"⟩
abbrev cX11_game : ByteArray := prog_1_method_28_code
def yX11_game : MethodName := ⟨RX11, "game", "(IIIJ)I"⟩
abbrev cX11_marbles : ByteArray := prog_1_method_29_code
def yX11_marbles : MethodName := ⟨RX11, "marbles", "(I)I"⟩
abbrev cX11_count : ByteArray := prog_1_method_30_code
def yX11_count : MethodName := ⟨RX11, "count", "(I)I"⟩
abbrev cX11_sheet : ByteArray := prog_1_method_31_code
def yX11_sheet : MethodName := ⟨RX11, "sheet", "(III)I"⟩
abbrev cX11_cell : ByteArray := prog_1_method_32_code
def yX11_cell : MethodName := ⟨RX11, "cell", "(III)I"⟩
abbrev cX11_copy : ByteArray := prog_1_method_33_code
def yX11_copy : MethodName := ⟨RX11, "copy", "(IIIII)I"⟩
abbrev cX11_squares : ByteArray := prog_1_method_34_code
def yX11_squares : MethodName := ⟨RX11, "squares", "(IIII)I"⟩
abbrev cX11_taken : ByteArray := prog_1_method_35_code
def yX11_taken : MethodName := ⟨RX11, "taken", "(II)I"⟩
abbrev cX11_isKind : ByteArray := prog_1_method_36_code
def yX11_isKind : MethodName := ⟨RX11, "isKind", "(I)Z"⟩
abbrev cX11_isNumber : ByteArray := prog_1_method_37_code
def yX11_isNumber : MethodName := ⟨RX11, "isNumber", "(I)Z"⟩
abbrev cX11_isRow : ByteArray := prog_1_method_38_code
def yX11_isRow : MethodName := ⟨RX11, "isRow", "(J)Z"⟩
abbrev cX11_isYear : ByteArray := prog_1_method_39_code
def yX11_isYear : MethodName := ⟨RX11, "isYear", "(I)Z"⟩
abbrev cX11_isStreet : ByteArray := prog_1_method_40_code
def yX11_isStreet : MethodName := ⟨RX11, "isStreet", "(I)Z"⟩
abbrev cX11_isPlayer : ByteArray := prog_1_method_41_code
def yX11_isPlayer : MethodName := ⟨RX11, "isPlayer", "(I)Z"⟩
abbrev cX11_isSheet : ByteArray := prog_1_method_42_code
def yX11_isSheet : MethodName := ⟨RX11, "isSheet", "(I)Z"⟩
abbrev cX11_isSort : ByteArray := prog_1_method_43_code
def yX11_isSort : MethodName := ⟨RX11, "isSort", "(I)Z"⟩
abbrev cX11_isUnder : ByteArray := prog_1_method_44_code
def yX11_isUnder : MethodName := ⟨RX11, "isUnder", "(II)Z"⟩
abbrev cX11_weigh : ByteArray := prog_1_method_45_code
def yX11_weigh : MethodName := ⟨RX11, "weigh", "(I)V"⟩
abbrev cX11_comesTo : ByteArray := prog_1_method_46_code
def yX11_comesTo : MethodName := ⟨RX11, "comesTo", "(II)I"⟩
abbrev cX11_weighStreets : ByteArray := prog_1_method_47_code
def yX11_weighStreets : MethodName := ⟨RX11, "weighStreets", "()V"⟩
abbrev cX11_give : ByteArray := prog_1_method_48_code
def yX11_give : MethodName := ⟨RX11, "give", "(III)V"⟩
def RX12 : String := "ChalkStreetModel"
def TX12 : u_T := fun k => match k with
  | 0 => ("ChalkStreetModel", "thrown", "I", false)
  | 1 => ("ChalkStreetModel", "n", "I", true)
  | 2 => ("ChalkStreetModel", "kinds", "[I", true)
  | 3 => ("ChalkStreetModel", "numbers", "[I", true)
  | 4 => ("ChalkStreetModel", "stepsOf", "[I", true)
  | 5 => ("ChalkStreetModel", "lies", "I", false)
  | 6 => ("ChalkStreetModel", "told", "[I", true)
  | 7 => ("ChalkStreetModel", "next", "[I", true)
  | 8 => ("ChalkStreetModel", "mends", "I", false)
  | 9 => ("ChalkStreetModel", "mendFirst", "I", false)
  | 10 => ("ChalkStreetModel", "mendSecond", "I", false)
  | 11 => ("ChalkStreetModel", "ways", "[J", true)
  | 12 => ("ChalkStreetModel", "waysNext", "[J", true)
  | 13 => ("ChalkStreetModel", "firstWon", "J", false)
  | 14 => ("ChalkStreetModel", "secondWon", "J", false)
  | 15 => ("ChalkStreetModel", "tellings", "I", false)
  | 16 => ("ChalkStreetModel", "yearOf", "[I", true)
  | 17 => ("ChalkStreetModel", "townOf", "[I", true)
  | 18 => ("ChalkStreetModel", "gaps", "[I", true)
  | 19 => ("ChalkStreetModel", "pairs", "[I", true)
  | 20 => ("ChalkStreetModel", "cameBy", "[I", true)
  | 21 => ("ChalkStreetModel", "cameFrom", "[I", true)
  | 22 => ("ChalkStreetModel", "met", "[Z", true)
  | 23 => ("ChalkStreetModel", "pairMany", "I", false)
  | 24 => ("ChalkStreetModel", "texts", "[I", true)
  | 25 => ("ChalkStreetModel", "textSize", "[I", true)
  | 26 => ("ChalkStreetModel", "textCount", "I", false)
  | 27 => ("ChalkStreetModel", "rule", "I", false)
  | 28 => ("ChalkStreetModel", "tape", "[I", true)
  | 29 => ("ChalkStreetModel", "taped", "I", false)
  | 30 => ("ChalkStreetModel", "begin", "I", false)
  | 31 => ("ChalkStreetModel", "size", "I", false)
  | 32 => ("ChalkStreetModel", "token", "I", false)
  | 33 => ("ChalkStreetModel", "tokenAt", "I", false)
  | 34 => ("ChalkStreetModel", "tokenWorth", "J", false)
  | 35 => ("ChalkStreetModel", "here", "I", false)
  | 36 => ("ChalkStreetModel", "open", "I", false)
  | 37 => ("ChalkStreetModel", "bad", "Z", false)
  | 38 => ("ChalkStreetModel", "fault", "I", false)
  | 39 => ("ChalkStreetModel", "valueYear", "I", false)
  | 40 => ("ChalkStreetModel", "valueWon", "I", false)
  | 41 => ("ChalkStreetModel", "valueLost", "I", false)
  | 42 => ("ChalkStreetModel", "valueEndless", "I", false)
  | 43 => ("ChalkStreetModel", "valueSteps", "I", false)
  | 44 => ("ChalkStreetModel", "valueOwn", "I", false)
  | 45 => ("ChalkStreetModel", "year", "I", false)
  | 46 => ("ChalkStreetModel", "streets", "[I", true)
  | 47 => ("ChalkStreetModel", "streetsNext", "[I", true)
  | 48 => ("ChalkStreetModel", "has", "[I", true)
  | 49 => ("ChalkStreetModel", "isThere", "[Z", true)
  | 50 => ("ChalkStreetModel", "sorts", "[I", true)
  | 51 => ("ChalkStreetModel", "sheetSize", "[I", true)
  | _ => ("ChalkStreetModel", "items", "[I", true)
def tyX12 : Nat → FieldType := fun k => match k with
  | 0 => .int
  | 1 => .int
  | 2 => .array .int
  | 3 => .array .int
  | 4 => .array .int
  | 5 => .int
  | 6 => .array .int
  | 7 => .array .int
  | 8 => .int
  | 9 => .int
  | 10 => .int
  | 11 => .array .long
  | 12 => .array .long
  | 13 => .long
  | 14 => .long
  | 15 => .int
  | 16 => .array .int
  | 17 => .array .int
  | 18 => .array .int
  | 19 => .array .int
  | 20 => .array .int
  | 21 => .array .int
  | 22 => .array .boolean
  | 23 => .int
  | 24 => .array .int
  | 25 => .array .int
  | 26 => .int
  | 27 => .int
  | 28 => .array .int
  | 29 => .int
  | 30 => .int
  | 31 => .int
  | 32 => .int
  | 33 => .int
  | 34 => .long
  | 35 => .int
  | 36 => .int
  | 37 => .boolean
  | 38 => .int
  | 39 => .int
  | 40 => .int
  | 41 => .int
  | 42 => .int
  | 43 => .int
  | 44 => .int
  | 45 => .int
  | 46 => .array .int
  | 47 => .array .int
  | 48 => .array .int
  | 49 => .array .boolean
  | 50 => .array .int
  | 51 => .array .int
  | _ => .array .int
abbrev wsX120 : List Cond := u_ws RX12 TX12 53
theorem nmX12 : ∀ a, a < 53 → ∀ b, b < 53 → a ≠ b → (TX12 a).2.1 ≠ (TX12 b).2.1 := by decide +kernel
theorem tyX12_ok : ∀ k, k < 53 → parseFieldDescriptor (TX12 k).2.2.1 = some (tyX12 k) := by decide +kernel
abbrev cX12_in : ByteArray := prog_14_method_2_code
def yX12_in : MethodName := ⟨RX12, "in", "(JJJ)Z"⟩
abbrev cX12_init : ByteArray := prog_14_method_3_code
def yX12_init : MethodName := ⟨RX12, "<init>", "(I)V"⟩
abbrev cX12_spell : ByteArray := prog_14_method_4_code
def yX12_spell : MethodName := ⟨RX12, "spell", "(IJ)V"⟩
abbrev cX12_isSquare : ByteArray := prog_14_method_5_code
def yX12_isSquare : MethodName := ⟨RX12, "isSquare", "(I)Z"⟩
abbrev cX12_square : ByteArray := prog_14_method_6_code
def yX12_square : MethodName := ⟨RX12, "square", "(III)I"⟩
abbrev cX12_steps : ByteArray := prog_14_method_7_code
def yX12_steps : MethodName := ⟨RX12, "steps", "(I)I"⟩
abbrev cX12_squareTold : ByteArray := prog_14_method_8_code
def yX12_squareTold : MethodName := ⟨RX12, "squareTold", "(II)I"⟩
abbrev cX12_allows : ByteArray := prog_14_method_9_code
def yX12_allows : MethodName := ⟨RX12, "allows", "(II)Z"⟩
abbrev cX12_moves : ByteArray := prog_14_method_10_code
def yX12_moves : MethodName := ⟨RX12, "moves", "(III)I"⟩
abbrev cX12_after : ByteArray := prog_14_method_11_code
def yX12_after : MethodName := ⟨RX12, "after", "(III)I"⟩
abbrev cX12_tell : ByteArray := prog_14_method_12_code
def yX12_tell : MethodName := ⟨RX12, "tell", "(I)V"⟩
abbrev cX12_worth : ByteArray := prog_14_method_13_code
def yX12_worth : MethodName := ⟨RX12, "worth", "(I)I"⟩
abbrev cX12_bestOf : ByteArray := prog_14_method_14_code
def yX12_bestOf : MethodName := ⟨RX12, "bestOf", "(II)I"⟩
abbrev cX12_best : ByteArray := prog_14_method_15_code
def yX12_best : MethodName := ⟨RX12, "best", "(I)I"⟩
abbrev cX12_countOf : ByteArray := prog_14_method_16_code
def yX12_countOf : MethodName := ⟨RX12, "countOf", "(I)I"⟩
abbrev cX12_many : ByteArray := prog_14_method_17_code
def yX12_many : MethodName := ⟨RX12, "many", "(I)I"⟩
abbrev cX12_goesTo : ByteArray := prog_14_method_18_code
def yX12_goesTo : MethodName := ⟨RX12, "goesTo", "(I)I"⟩
abbrev cX12_ring : ByteArray := prog_14_method_19_code
def yX12_ring : MethodName := ⟨RX12, "ring", "(I)I"⟩
abbrev cX12_isFine : ByteArray := prog_14_method_20_code
def yX12_isFine : MethodName := ⟨RX12, "isFine", "()Z"⟩
abbrev cX12_copySet : ByteArray := prog_14_method_21_code
def yX12_copySet : MethodName := ⟨RX12, "copySet", "(II)V"⟩
abbrev cX12_findMend : ByteArray := prog_14_method_22_code
def yX12_findMend : MethodName := ⟨RX12, "findMend", "()V"⟩
abbrev cX12_mend : ByteArray := prog_14_method_23_code
def yX12_mend : MethodName := ⟨RX12, "mend", "(I)I"⟩
abbrev cX12_plays : ByteArray := prog_14_method_24_code
def yX12_plays : MethodName := ⟨RX12, "plays", "(II)J"⟩
abbrev cX12_isPlay : ByteArray := prog_14_method_25_code
def yX12_isPlay : MethodName := ⟨RX12, "isPlay", "(J)Z"⟩
abbrev cX12_play : ByteArray := prog_14_method_26_code
def yX12_play : MethodName := ⟨RX12, "play", "(J)I"⟩
abbrev cX12_isTelling : ByteArray := prog_14_method_27_code
def yX12_isTelling : MethodName := ⟨RX12, "isTelling", "(I)Z"⟩
abbrev cX12_bitsOf : ByteArray := prog_14_method_28_code
def yX12_bitsOf : MethodName := ⟨RX12, "bitsOf", "(I)I"⟩
abbrev cX12_telling : ByteArray := prog_14_method_29_code
def yX12_telling : MethodName := ⟨RX12, "telling", "(II)I"⟩
abbrev cX12_isGap : ByteArray := prog_14_method_30_code
def yX12_isGap : MethodName := ⟨RX12, "isGap", "(II)Z"⟩
abbrev cX12_gap : ByteArray := prog_14_method_31_code
def yX12_gap : MethodName := ⟨RX12, "gap", "(II)I"⟩
abbrev cX12_date : ByteArray := prog_14_method_32_code
def yX12_date : MethodName := ⟨RX12, "date", "(II)I"⟩
abbrev cX12_copyTelling : ByteArray := prog_14_method_33_code
def yX12_copyTelling : MethodName := ⟨RX12, "copyTelling", "(II)V"⟩
abbrev cX12_take : ByteArray := prog_14_method_34_code
def yX12_take : MethodName := ⟨RX12, "take", "(I)I"⟩
abbrev cX12_changesOf : ByteArray := prog_14_method_35_code
def yX12_changesOf : MethodName := ⟨RX12, "changesOf", "(II)I"⟩
abbrev cX12_changes : ByteArray := prog_14_method_36_code
def yX12_changes : MethodName := ⟨RX12, "changes", "(II)I"⟩
abbrev cX12_childOf : ByteArray := prog_14_method_37_code
def yX12_childOf : MethodName := ⟨RX12, "childOf", "(I)I"⟩
abbrev cX12_child : ByteArray := prog_14_method_38_code
def yX12_child : MethodName := ⟨RX12, "child", "(I)I"⟩
abbrev cX12_tree : ByteArray := prog_14_method_39_code
def yX12_tree : MethodName := ⟨RX12, "tree", "(I)I"⟩
abbrev cX12_stood : ByteArray := prog_14_method_40_code
def yX12_stood : MethodName := ⟨RX12, "stood", "(II)I"⟩
abbrev cX12_movesIn : ByteArray := prog_14_method_41_code
def yX12_movesIn : MethodName := ⟨RX12, "movesIn", "(III)I"⟩
abbrev cX12_comes : ByteArray := prog_14_method_42_code
def yX12_comes : MethodName := ⟨RX12, "comes", "(III)V"⟩
abbrev cX12_rowTo : ByteArray := prog_14_method_43_code
def yX12_rowTo : MethodName := ⟨RX12, "rowTo", "(II)J"⟩
abbrev cX12_quarrel : ByteArray := prog_14_method_44_code
def yX12_quarrel : MethodName := ⟨RX12, "quarrel", "(II)J"⟩
abbrev cX12_feed : ByteArray := prog_14_method_45_code
def yX12_feed : MethodName := ⟨RX12, "feed", "(IJ)I"⟩
abbrev cX12_byteAt : ByteArray := prog_14_method_46_code
def yX12_byteAt : MethodName := ⟨RX12, "byteAt", "(I)I"⟩
abbrev cX12_nextToken : ByteArray := prog_14_method_47_code
def yX12_nextToken : MethodName := ⟨RX12, "nextToken", "()V"⟩
abbrev cX12_fail : ByteArray := prog_14_method_48_code
def yX12_fail : MethodName := ⟨RX12, "fail", "()V"⟩
abbrev cX12_isWord : ByteArray := prog_14_method_49_code
def yX12_isWord : MethodName := ⟨RX12, "isWord", "(J)Z"⟩
abbrev cX12_isSign : ByteArray := prog_14_method_50_code
def yX12_isSign : MethodName := ⟨RX12, "isSign", "(I)Z"⟩
abbrev cX12_opens : ByteArray := prog_14_method_51_code
def yX12_opens : MethodName := ⟨RX12, "opens", "()Z"⟩
abbrev cX12_name : ByteArray := prog_14_method_52_code
def yX12_name : MethodName := ⟨RX12, "name", "()I"⟩
abbrev cX12_one : ByteArray := prog_14_method_53_code
def yX12_one : MethodName := ⟨RX12, "one", "()I"⟩
abbrev cX12_term : ByteArray := prog_14_method_54_code
def yX12_term : MethodName := ⟨RX12, "term", "()I"⟩
abbrev cX12_added : ByteArray := prog_14_method_55_code
def yX12_added : MethodName := ⟨RX12, "added", "()I"⟩
abbrev cX12_not : ByteArray := prog_14_method_56_code
def yX12_not : MethodName := ⟨RX12, "not", "()I"⟩
abbrev cX12_both : ByteArray := prog_14_method_57_code
def yX12_both : MethodName := ⟨RX12, "both", "()I"⟩
abbrev cX12_either : ByteArray := prog_14_method_58_code
def yX12_either : MethodName := ⟨RX12, "either", "()I"⟩
abbrev cX12_part : ByteArray := prog_14_method_59_code
def yX12_part : MethodName := ⟨RX12, "part", "(J)I"⟩
abbrev cX12_read : ByteArray := prog_14_method_60_code
def yX12_read : MethodName := ⟨RX12, "read", "(II)I"⟩
abbrev cX12_text : ByteArray := prog_14_method_61_code
def yX12_text : MethodName := ⟨RX12, "text", "()I"⟩
abbrev cX12_force : ByteArray := prog_14_method_62_code
def yX12_force : MethodName := ⟨RX12, "force", "(I)I"⟩
abbrev cX12_saysOf : ByteArray := prog_14_method_63_code
def yX12_saysOf : MethodName := ⟨RX12, "saysOf", "(III)I"⟩
abbrev cX12_says : ByteArray := prog_14_method_64_code
def yX12_says : MethodName := ⟨RX12, "says", "(II)J"⟩
abbrev cX12_isStreet : ByteArray := prog_14_method_65_code
def yX12_isStreet : MethodName := ⟨RX12, "isStreet", "(I)Z"⟩
abbrev cX12_street : ByteArray := prog_14_method_66_code
def yX12_street : MethodName := ⟨RX12, "street", "(II)I"⟩
abbrev cX12_hasNext : ByteArray := prog_14_method_67_code
def yX12_hasNext : MethodName := ⟨RX12, "hasNext", "(I)I"⟩
abbrev cX12_years : ByteArray := prog_14_method_68_code
def yX12_years : MethodName := ⟨RX12, "years", "(I)I"⟩
abbrev cX12_has : ByteArray := prog_14_method_69_code
def yX12_has : MethodName := ⟨RX12, "has", "(I)I"⟩
abbrev cX12_isPlayer : ByteArray := prog_14_method_70_code
def yX12_isPlayer : MethodName := ⟨RX12, "isPlayer", "(I)Z"⟩
abbrev cX12_game : ByteArray := prog_14_method_71_code
def yX12_game : MethodName := ⟨RX12, "game", "(IIIJ)I"⟩
abbrev cX12_marbles : ByteArray := prog_14_method_72_code
def yX12_marbles : MethodName := ⟨RX12, "marbles", "(I)I"⟩
abbrev cX12_count : ByteArray := prog_14_method_73_code
def yX12_count : MethodName := ⟨RX12, "count", "(I)I"⟩
abbrev cX12_isSheet : ByteArray := prog_14_method_74_code
def yX12_isSheet : MethodName := ⟨RX12, "isSheet", "(I)Z"⟩
abbrev cX12_sheet : ByteArray := prog_14_method_75_code
def yX12_sheet : MethodName := ⟨RX12, "sheet", "(III)I"⟩
abbrev cX12_cell : ByteArray := prog_14_method_76_code
def yX12_cell : MethodName := ⟨RX12, "cell", "(III)I"⟩
abbrev cX12_copy : ByteArray := prog_14_method_77_code
def yX12_copy : MethodName := ⟨RX12, "copy", "(IIIII)I"⟩
abbrev cX12_squares : ByteArray := prog_14_method_78_code
def yX12_squares : MethodName := ⟨RX12, "squares", "(IIII)I"⟩
abbrev cX12_over : ByteArray := prog_14_method_79_code
def yX12_over : MethodName := ⟨RX12, "over", "(I)I"⟩
abbrev cX12_taken : ByteArray := prog_14_method_80_code
def yX12_taken : MethodName := ⟨RX12, "taken", "(II)I"⟩
def RJ6 : String := "java/lang/Integer"
def TJ6 : u_T := fun k => match k with
  | _ => ("", "", "", false)
def tyJ6 : Nat → FieldType := fun k => match k with
  | _ => .int
abbrev wsJ60 : List Cond := u_ws RJ6 TJ6 0
theorem nmJ6 : ∀ a, a < 0 → ∀ b, b < 0 → a ≠ b → (TJ6 a).2.1 ≠ (TJ6 b).2.1 := by decide +kernel
theorem tyJ6_ok : ∀ k, k < 0 → parseFieldDescriptor (TJ6 k).2.2.1 = some (tyJ6 k) := by decide +kernel
abbrev cJ6_bitCount_0f7a4 : ByteArray := prog_15_method_49_code
def yJ6_bitCount_0f7a4 : MethodName := ⟨RJ6, "bitCount", "(I)I"⟩
abbrev cJ6_signum_0f7a4 : ByteArray := prog_15_method_56_code
def yJ6_signum_0f7a4 : MethodName := ⟨RJ6, "signum", "(I)I"⟩
def RJ9 : String := "java/lang/Math"
def TJ9 : u_T := fun k => match k with
  | _ => ("", "", "", false)
def tyJ9 : Nat → FieldType := fun k => match k with
  | _ => .int
abbrev wsJ90 : List Cond := u_ws RJ9 TJ9 0
theorem nmJ9 : ∀ a, a < 0 → ∀ b, b < 0 → a ≠ b → (TJ9 a).2.1 ≠ (TJ9 b).2.1 := by decide +kernel
theorem tyJ9_ok : ∀ k, k < 0 → parseFieldDescriptor (TJ9 k).2.2.1 = some (tyJ9 k) := by decide +kernel
abbrev cJ9_floorMod_7cf53 : ByteArray := prog_16_method_50_code
def yJ9_floorMod_7cf53 : MethodName := ⟨RJ9, "floorMod", "(II)I"⟩
abbrev cJ9_abs_0f7a4 : ByteArray := prog_16_method_59_code
def yJ9_abs_0f7a4 : MethodName := ⟨RJ9, "abs", "(I)I"⟩
abbrev cJ9_max_7cf53 : ByteArray := prog_16_method_65_code
def yJ9_max_7cf53 : MethodName := ⟨RJ9, "max", "(II)I"⟩
abbrev cJ9_min_7cf53 : ByteArray := prog_16_method_69_code
def yJ9_min_7cf53 : MethodName := ⟨RJ9, "min", "(II)I"⟩
def RJ0 : String := "java/lang/String"
def TJ0 : u_T := fun k => match k with
  | _ => ("", "", "", false)
def tyJ0 : Nat → FieldType := fun k => match k with
  | _ => .int
abbrev wsJ00 : List Cond := u_ws RJ0 TJ0 0
theorem nmJ0 : ∀ a, a < 0 → ∀ b, b < 0 → a ≠ b → (TJ0 a).2.1 ≠ (TJ0 b).2.1 := by decide +kernel
theorem tyJ0_ok : ∀ k, k < 0 → parseFieldDescriptor (TJ0 k).2.2.1 = some (tyJ0 k) := by decide +kernel
abbrev cJ0_length_8abf5 : ByteArray := prog_17_method_54_code
def yJ0_length_8abf5 : MethodName := ⟨RJ0, "length", "()I"⟩
abbrev cJ0_charAt_5068e : ByteArray := prog_17_method_56_code
def yJ0_charAt_5068e : MethodName := ⟨RJ0, "charAt", "(I)C"⟩
abbrev cJ0_coder_7d493 : ByteArray := prog_17_method_152_code
def yJ0_coder_7d493 : MethodName := ⟨RJ0, "coder", "()B"⟩
abbrev cJ0_isLatin1_aae02 : ByteArray := prog_17_method_154_code
def yJ0_isLatin1_aae02 : MethodName := ⟨RJ0, "isLatin1", "()Z"⟩
abbrev cJ0_checkIndex_df160 : ByteArray := prog_17_method_155_code
def yJ0_checkIndex_df160 : MethodName := ⟨RJ0, "checkIndex", "(II)V"⟩
def RJ1 : String := "java/lang/StringLatin1"
def TJ1 : u_T := fun k => match k with
  | _ => ("", "", "", false)
def tyJ1 : Nat → FieldType := fun k => match k with
  | _ => .int
abbrev wsJ10 : List Cond := u_ws RJ1 TJ1 0
theorem nmJ1 : ∀ a, a < 0 → ∀ b, b < 0 → a ≠ b → (TJ1 a).2.1 ≠ (TJ1 b).2.1 := by decide +kernel
theorem tyJ1_ok : ∀ k, k < 0 → parseFieldDescriptor (TJ1 k).2.2.1 = some (tyJ1 k) := by decide +kernel
abbrev cJ1_charAt_3b067 : ByteArray := prog_18_method_2_code
def yJ1_charAt_3b067 : MethodName := ⟨RJ1, "charAt", "([BI)C"⟩
def RJ2 : String := "java/lang/StringUTF16"
def TJ2 : u_T := fun k => match k with
  | _ => ("", "", "", false)
def tyJ2 : Nat → FieldType := fun k => match k with
  | _ => .int
abbrev wsJ20 : List Cond := u_ws RJ2 TJ2 0
theorem nmJ2 : ∀ a, a < 0 → ∀ b, b < 0 → a ≠ b → (TJ2 a).2.1 ≠ (TJ2 b).2.1 := by decide +kernel
theorem tyJ2_ok : ∀ k, k < 0 → parseFieldDescriptor (TJ2 k).2.2.1 = some (tyJ2 k) := by decide +kernel
abbrev cJ2_getChar_3b067 : ByteArray := prog_19_method_5_code
def yJ2_getChar_3b067 : MethodName := ⟨RJ2, "getChar", "([BI)C"⟩
abbrev cJ2_length_9d52b : ByteArray := prog_19_method_6_code
def yJ2_length_9d52b : MethodName := ⟨RJ2, "length", "([B)I"⟩
abbrev cJ2_charAt_3b067 : ByteArray := prog_19_method_83_code
def yJ2_charAt_3b067 : MethodName := ⟨RJ2, "charAt", "([BI)C"⟩
abbrev cJ2_checkIndex_2214a : ByteArray := prog_19_method_91_code
def yJ2_checkIndex_2214a : MethodName := ⟨RJ2, "checkIndex", "(I[B)V"⟩
def RJ10 : String := "java/lang/System"
def TJ10 : u_T := fun k => match k with
  | _ => ("", "", "", false)
def tyJ10 : Nat → FieldType := fun k => match k with
  | _ => .int
abbrev wsJ100 : List Cond := u_ws RJ10 TJ10 0
theorem nmJ10 : ∀ a, a < 0 → ∀ b, b < 0 → a ≠ b → (TJ10 a).2.1 ≠ (TJ10 b).2.1 := by decide +kernel
theorem tyJ10_ok : ∀ k, k < 0 → parseFieldDescriptor (TJ10 k).2.2.1 = some (tyJ10 k) := by decide +kernel
def RJ3 : String := "jdk/internal/util/Preconditions"
def TJ3 : u_T := fun k => match k with
  | _ => ("", "", "", false)
def tyJ3 : Nat → FieldType := fun k => match k with
  | _ => .int
abbrev wsJ30 : List Cond := u_ws RJ3 TJ3 0
theorem nmJ3 : ∀ a, a < 0 → ∀ b, b < 0 → a ≠ b → (TJ3 a).2.1 ≠ (TJ3 b).2.1 := by decide +kernel
theorem tyJ3_ok : ∀ k, k < 0 → parseFieldDescriptor (TJ3 k).2.2.1 = some (tyJ3 k) := by decide +kernel
abbrev cJ3_checkIndex_8e157 : ByteArray := prog_21_method_11_code
def yJ3_checkIndex_8e157 : MethodName := ⟨RJ3, "checkIndex", "(IILjava/util/function/BiFunction;)I"⟩
def RL : String := "ChalkStreetLaw"
abbrev cL_cell : ByteArray := method_2_code
def yL_cell : MethodName := ⟨RL, "cell", "([II)I"⟩
abbrev cL_law : ByteArray := code
def yL_law : MethodName := ⟨RL, "law", "([I)Z"⟩
abbrev vwCl : List vw_C := [(RX0, TX0, 7), (RX1, TX1, 8), (RX2, TX2, 9), (RX3, TX3, 1), (RX4, TX4, 4), (RX5, TX5, 3), (RX6, TX6, 4), (RX7, TX7, 4), (RX8, TX8, 10), (RX9, TX9, 6), (RX10, TX10, 4), (RX11, TX11, 15), (RX12, TX12, 53)]
theorem lwX0 : (∀ w ∈ u_ws RX0 TX0 7, w ∈ tables_1 ∧ goodWord w = true) := by decide +kernel
theorem lwX1 : (∀ w ∈ u_ws RX1 TX1 8, w ∈ tables_1 ∧ goodWord w = true) := by decide +kernel
theorem lwX2 : (∀ w ∈ u_ws RX2 TX2 9, w ∈ tables_1 ∧ goodWord w = true) := by decide +kernel
theorem lwX3 : (∀ w ∈ u_ws RX3 TX3 1, w ∈ tables_1 ∧ goodWord w = true) := by decide +kernel
theorem lwX4 : (∀ w ∈ u_ws RX4 TX4 4, w ∈ tables_1 ∧ goodWord w = true) := by decide +kernel
theorem lwX5 : (∀ w ∈ u_ws RX5 TX5 3, w ∈ tables_1 ∧ goodWord w = true) := by decide +kernel
theorem lwX6 : (∀ w ∈ u_ws RX6 TX6 4, w ∈ tables_1 ∧ goodWord w = true) := by decide +kernel
theorem lwX7 : (∀ w ∈ u_ws RX7 TX7 4, w ∈ tables_1 ∧ goodWord w = true) := by decide +kernel
theorem lwX8 : (∀ w ∈ u_ws RX8 TX8 10, w ∈ tables_1 ∧ goodWord w = true) := by decide +kernel
theorem lwX9 : (∀ w ∈ u_ws RX9 TX9 6, w ∈ tables_1 ∧ goodWord w = true) := by decide +kernel
theorem lwX10 : (∀ w ∈ u_ws RX10 TX10 4, w ∈ tables_1 ∧ goodWord w = true) := by decide +kernel
theorem lwX11 : (∀ w ∈ u_ws RX11 TX11 15, w ∈ tables_1 ∧ goodWord w = true) := by decide +kernel
theorem lwX12 : (∀ w ∈ u_ws RX12 TX12 53, w ∈ tables_1 ∧ goodWord w = true) := by decide +kernel
