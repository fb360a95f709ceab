-- ===== PART A: goes FIRST, ahead of the names: the tables' words, and 'selects' of the private methods out of them =====
/-- a private method of a class that the tables say can be made, by its rows of tables_1 -/
def lw_okq (q : MethodName × Nat) : Prop := (q.1.cls ≠ "java/lang/invoke/MethodHandle" ∧ q.1.cls ≠ "java/lang/invoke/VarHandle") ∧ Cond.instantiable q.1.cls q.2 ∈ tables_1 ∧ Cond.privateMethod q.1 ∈ tables_1 ∧ Cond.instanceMethod q.1 ∈ tables_1
theorem lw_p0 : lw_okq (⟨"AdvertCouncil", "refused", "(I)I"⟩, 14) := ⟨⟨by decide +kernel, by decide +kernel⟩, List.mem_of_getElem? (i := 28) (by decide +kernel), List.mem_of_getElem? (i := 240) (by decide +kernel), List.mem_of_getElem? (i := 241) (by decide +kernel)⟩
theorem lw_p1 : lw_okq (⟨"AdvertCouncil", "lackOfRow", "(I)I"⟩, 14) := ⟨⟨by decide +kernel, by decide +kernel⟩, List.mem_of_getElem? (i := 28) (by decide +kernel), List.mem_of_getElem? (i := 259) (by decide +kernel), List.mem_of_getElem? (i := 260) (by decide +kernel)⟩
theorem lw_p2 : lw_okq (⟨"java/util/ArrayList", "add", "(Ljava/lang/Object;[Ljava/lang/Object;I)V"⟩, 3) := ⟨⟨by decide +kernel, by decide +kernel⟩, List.mem_of_getElem? (i := 38) (by decide +kernel), List.mem_of_getElem? (i := 369) (by decide +kernel), List.mem_of_getElem? (i := 370) (by decide +kernel)⟩
theorem lw_p3 : lw_okq (⟨"java/util/ArrayList", "grow", "()[Ljava/lang/Object;"⟩, 3) := ⟨⟨by decide +kernel, by decide +kernel⟩, List.mem_of_getElem? (i := 38) (by decide +kernel), List.mem_of_getElem? (i := 373) (by decide +kernel), List.mem_of_getElem? (i := 374) (by decide +kernel)⟩
theorem lw_p4 : lw_okq (⟨"java/util/ArrayList", "grow", "(I)[Ljava/lang/Object;"⟩, 3) := ⟨⟨by decide +kernel, by decide +kernel⟩, List.mem_of_getElem? (i := 38) (by decide +kernel), List.mem_of_getElem? (i := 377) (by decide +kernel), List.mem_of_getElem? (i := 378) (by decide +kernel)⟩
theorem lw_p5 : lw_okq (⟨"AdvertCouncil", "advertOf", "(I)LAdvertCouncil$Advert;"⟩, 14) := ⟨⟨by decide +kernel, by decide +kernel⟩, List.mem_of_getElem? (i := 28) (by decide +kernel), List.mem_of_getElem? (i := 428) (by decide +kernel), List.mem_of_getElem? (i := 429) (by decide +kernel)⟩
theorem lw_p6 : lw_okq (⟨"AdvertCouncil", "endedNow", "(LAdvertCouncil$Span;)I"⟩, 14) := ⟨⟨by decide +kernel, by decide +kernel⟩, List.mem_of_getElem? (i := 28) (by decide +kernel), List.mem_of_getElem? (i := 522) (by decide +kernel), List.mem_of_getElem? (i := 523) (by decide +kernel)⟩
theorem lw_p7 : lw_okq (⟨"AdvertCouncil", "read", "(LAdvertCouncil$Advert;II)V"⟩, 14) := ⟨⟨by decide +kernel, by decide +kernel⟩, List.mem_of_getElem? (i := 28) (by decide +kernel), List.mem_of_getElem? (i := 530) (by decide +kernel), List.mem_of_getElem? (i := 531) (by decide +kernel)⟩
theorem lw_p8 : lw_okq (⟨"AdvertCouncil", "tellingPhrases", "(II)I"⟩, 14) := ⟨⟨by decide +kernel, by decide +kernel⟩, List.mem_of_getElem? (i := 28) (by decide +kernel), List.mem_of_getElem? (i := 534) (by decide +kernel), List.mem_of_getElem? (i := 535) (by decide +kernel)⟩
theorem lw_p9 : lw_okq (⟨"AdvertCouncil", "claimNow", "(LAdvertCouncil$Advert;I)LAdvertCouncil$Phrase;"⟩, 14) := ⟨⟨by decide +kernel, by decide +kernel⟩, List.mem_of_getElem? (i := 28) (by decide +kernel), List.mem_of_getElem? (i := 556) (by decide +kernel), List.mem_of_getElem? (i := 557) (by decide +kernel)⟩
theorem lw_p10 : lw_okq (⟨"AdvertCouncil", "claimOf", "(LAdvertCouncil$Advert;III)LAdvertCouncil$Phrase;"⟩, 14) := ⟨⟨by decide +kernel, by decide +kernel⟩, List.mem_of_getElem? (i := 28) (by decide +kernel), List.mem_of_getElem? (i := 560) (by decide +kernel), List.mem_of_getElem? (i := 561) (by decide +kernel)⟩
theorem lw_p11 : lw_okq (⟨"AdvertCouncil", "isTakenBack", "(LAdvertCouncil$Advert;LAdvertCouncil$Phrase;II)Z"⟩, 14) := ⟨⟨by decide +kernel, by decide +kernel⟩, List.mem_of_getElem? (i := 28) (by decide +kernel), List.mem_of_getElem? (i := 572) (by decide +kernel), List.mem_of_getElem? (i := 573) (by decide +kernel)⟩
theorem lw_p12 : lw_okq (⟨"AdvertCouncil$Proofs", "isGiven", "(III)Z"⟩, 3) := ⟨⟨by decide +kernel, by decide +kernel⟩, List.mem_of_getElem? (i := 64) (by decide +kernel), List.mem_of_getElem? (i := 588) (by decide +kernel), List.mem_of_getElem? (i := 589) (by decide +kernel)⟩
theorem lw_p13 : lw_okq (⟨"AdvertCouncil$Proofs", "areEnough", "(IILAdvertCouncil$Phrase;I)Z"⟩, 3) := ⟨⟨by decide +kernel, by decide +kernel⟩, List.mem_of_getElem? (i := 64) (by decide +kernel), List.mem_of_getElem? (i := 599) (by decide +kernel), List.mem_of_getElem? (i := 600) (by decide +kernel)⟩
theorem lw_p14 : lw_okq (⟨"AdvertCouncil$Proofs", "isAhead", "(IIII)Z"⟩, 3) := ⟨⟨by decide +kernel, by decide +kernel⟩, List.mem_of_getElem? (i := 64) (by decide +kernel), List.mem_of_getElem? (i := 603) (by decide +kernel), List.mem_of_getElem? (i := 604) (by decide +kernel)⟩
theorem lw_p15 : lw_okq (⟨"AdvertCouncil$RuleReader", "take", "(I)Z"⟩, 7) := ⟨⟨by decide +kernel, by decide +kernel⟩, List.mem_of_getElem? (i := 106) (by decide +kernel), List.mem_of_getElem? (i := 695) (by decide +kernel), List.mem_of_getElem? (i := 696) (by decide +kernel)⟩
def lw_privs_1 : List (MethodName × Nat) := [(⟨"AdvertCouncil", "refused", "(I)I"⟩, 14), (⟨"AdvertCouncil", "lackOfRow", "(I)I"⟩, 14), (⟨"java/util/ArrayList", "add", "(Ljava/lang/Object;[Ljava/lang/Object;I)V"⟩, 3), (⟨"java/util/ArrayList", "grow", "()[Ljava/lang/Object;"⟩, 3), (⟨"java/util/ArrayList", "grow", "(I)[Ljava/lang/Object;"⟩, 3), (⟨"AdvertCouncil", "advertOf", "(I)LAdvertCouncil$Advert;"⟩, 14), (⟨"AdvertCouncil", "endedNow", "(LAdvertCouncil$Span;)I"⟩, 14), (⟨"AdvertCouncil", "read", "(LAdvertCouncil$Advert;II)V"⟩, 14), (⟨"AdvertCouncil", "tellingPhrases", "(II)I"⟩, 14), (⟨"AdvertCouncil", "claimNow", "(LAdvertCouncil$Advert;I)LAdvertCouncil$Phrase;"⟩, 14), (⟨"AdvertCouncil", "claimOf", "(LAdvertCouncil$Advert;III)LAdvertCouncil$Phrase;"⟩, 14), (⟨"AdvertCouncil", "isTakenBack", "(LAdvertCouncil$Advert;LAdvertCouncil$Phrase;II)Z"⟩, 14), (⟨"AdvertCouncil$Proofs", "isGiven", "(III)Z"⟩, 3), (⟨"AdvertCouncil$Proofs", "areEnough", "(IILAdvertCouncil$Phrase;I)Z"⟩, 3), (⟨"AdvertCouncil$Proofs", "isAhead", "(IIII)Z"⟩, 3), (⟨"AdvertCouncil$RuleReader", "take", "(I)Z"⟩, 7)]
theorem lw_r1 : ∀ q ∈ lw_privs_1, lw_okq q := List.forall_mem_cons.mpr ⟨lw_p0, List.forall_mem_cons.mpr ⟨lw_p1, List.forall_mem_cons.mpr ⟨lw_p2, List.forall_mem_cons.mpr ⟨lw_p3, List.forall_mem_cons.mpr ⟨lw_p4, List.forall_mem_cons.mpr ⟨lw_p5, List.forall_mem_cons.mpr ⟨lw_p6, List.forall_mem_cons.mpr ⟨lw_p7, List.forall_mem_cons.mpr ⟨lw_p8, List.forall_mem_cons.mpr ⟨lw_p9, List.forall_mem_cons.mpr ⟨lw_p10, List.forall_mem_cons.mpr ⟨lw_p11, List.forall_mem_cons.mpr ⟨lw_p12, List.forall_mem_cons.mpr ⟨lw_p13, List.forall_mem_cons.mpr ⟨lw_p14, List.forall_mem_cons.mpr ⟨lw_p15, fun _ h => absurd h List.not_mem_nil⟩⟩⟩⟩⟩⟩⟩⟩⟩⟩⟩⟩⟩⟩⟩⟩
theorem lw_p16 : lw_okq (⟨"AdvertCouncil$RuleReader", "readExpr", "(I)Z"⟩, 7) := ⟨⟨by decide +kernel, by decide +kernel⟩, List.mem_of_getElem? (i := 106) (by decide +kernel), List.mem_of_getElem? (i := 699) (by decide +kernel), List.mem_of_getElem? (i := 700) (by decide +kernel)⟩
theorem lw_p17 : lw_okq (⟨"AdvertCouncil$RuleReader", "readAndPart", "(I)Z"⟩, 7) := ⟨⟨by decide +kernel, by decide +kernel⟩, List.mem_of_getElem? (i := 106) (by decide +kernel), List.mem_of_getElem? (i := 703) (by decide +kernel), List.mem_of_getElem? (i := 704) (by decide +kernel)⟩
theorem lw_p18 : lw_okq (⟨"AdvertCouncil$RuleReader", "readPart", "(I)Z"⟩, 7) := ⟨⟨by decide +kernel, by decide +kernel⟩, List.mem_of_getElem? (i := 106) (by decide +kernel), List.mem_of_getElem? (i := 707) (by decide +kernel), List.mem_of_getElem? (i := 708) (by decide +kernel)⟩
theorem lw_p19 : lw_okq (⟨"AdvertCouncil$RuleReader", "write", "(I)V"⟩, 7) := ⟨⟨by decide +kernel, by decide +kernel⟩, List.mem_of_getElem? (i := 106) (by decide +kernel), List.mem_of_getElem? (i := 711) (by decide +kernel), List.mem_of_getElem? (i := 712) (by decide +kernel)⟩
theorem lw_p20 : lw_okq (⟨"AdvertCouncil$RuleReader", "readTest", "()Z"⟩, 7) := ⟨⟨by decide +kernel, by decide +kernel⟩, List.mem_of_getElem? (i := 106) (by decide +kernel), List.mem_of_getElem? (i := 715) (by decide +kernel), List.mem_of_getElem? (i := 716) (by decide +kernel)⟩
theorem lw_p21 : lw_okq (⟨"AdvertCouncil$RuleReader", "readSide", "()Z"⟩, 7) := ⟨⟨by decide +kernel, by decide +kernel⟩, List.mem_of_getElem? (i := 106) (by decide +kernel), List.mem_of_getElem? (i := 719) (by decide +kernel), List.mem_of_getElem? (i := 720) (by decide +kernel)⟩
theorem lw_p22 : lw_okq (⟨"AdvertCouncil", "tellFacts", "(LAdvertCouncil$Advert;LAdvertCouncil$Phrase;II)V"⟩, 14) := ⟨⟨by decide +kernel, by decide +kernel⟩, List.mem_of_getElem? (i := 28) (by decide +kernel), List.mem_of_getElem? (i := 791) (by decide +kernel), List.mem_of_getElem? (i := 792) (by decide +kernel)⟩
theorem lw_p23 : lw_okq (⟨"AdvertCouncil", "rulesInForce", "(II)I"⟩, 14) := ⟨⟨by decide +kernel, by decide +kernel⟩, List.mem_of_getElem? (i := 28) (by decide +kernel), List.mem_of_getElem? (i := 799) (by decide +kernel), List.mem_of_getElem? (i := 800) (by decide +kernel)⟩
theorem lw_p24 : lw_okq (⟨"AdvertCouncil", "barringRule", "(I)I"⟩, 14) := ⟨⟨by decide +kernel, by decide +kernel⟩, List.mem_of_getElem? (i := 28) (by decide +kernel), List.mem_of_getElem? (i := 803) (by decide +kernel), List.mem_of_getElem? (i := 804) (by decide +kernel)⟩
theorem lw_p25 : lw_okq (⟨"AdvertCouncil$Rule", "sideAt", "(I[I)I"⟩, 2) := ⟨⟨by decide +kernel, by decide +kernel⟩, List.mem_of_getElem? (i := 761) (by decide +kernel), List.mem_of_getElem? (i := 812) (by decide +kernel), List.mem_of_getElem? (i := 813) (by decide +kernel)⟩
theorem lw_p26 : lw_okq (⟨"AdvertCouncil", "barredPhrases", "(LAdvertCouncil$Advert;II)I"⟩, 14) := ⟨⟨by decide +kernel, by decide +kernel⟩, List.mem_of_getElem? (i := 28) (by decide +kernel), List.mem_of_getElem? (i := 999) (by decide +kernel), List.mem_of_getElem? (i := 1000) (by decide +kernel)⟩
theorem lw_p27 : lw_okq (⟨"AdvertCouncil", "leastStruck", "(LAdvertCouncil$Advert;II)I"⟩, 14) := ⟨⟨by decide +kernel, by decide +kernel⟩, List.mem_of_getElem? (i := 28) (by decide +kernel), List.mem_of_getElem? (i := 1003) (by decide +kernel), List.mem_of_getElem? (i := 1004) (by decide +kernel)⟩
theorem lw_p28 : lw_okq (⟨"AdvertCouncil", "standsWithout", "(LAdvertCouncil$Advert;III)Z"⟩, 14) := ⟨⟨by decide +kernel, by decide +kernel⟩, List.mem_of_getElem? (i := 28) (by decide +kernel), List.mem_of_getElem? (i := 1013) (by decide +kernel), List.mem_of_getElem? (i := 1014) (by decide +kernel)⟩
theorem lw_p29 : lw_okq (⟨"AdvertCouncilModel", "no", "(I)I"⟩, 90) := ⟨⟨by decide +kernel, by decide +kernel⟩, List.mem_of_getElem? (i := 1057) (by decide +kernel), List.mem_of_getElem? (i := 1339) (by decide +kernel), List.mem_of_getElem? (i := 1340) (by decide +kernel)⟩
theorem lw_p30 : lw_okq (⟨"AdvertCouncilModel", "wants", "(I)I"⟩, 90) := ⟨⟨by decide +kernel, by decide +kernel⟩, List.mem_of_getElem? (i := 1057) (by decide +kernel), List.mem_of_getElem? (i := 1377) (by decide +kernel), List.mem_of_getElem? (i := 1378) (by decide +kernel)⟩
theorem lw_p31 : lw_okq (⟨"AdvertCouncilModel", "intAt", "(II)I"⟩, 90) := ⟨⟨by decide +kernel, by decide +kernel⟩, List.mem_of_getElem? (i := 1057) (by decide +kernel), List.mem_of_getElem? (i := 1381) (by decide +kernel), List.mem_of_getElem? (i := 1382) (by decide +kernel)⟩
def lw_privs_2 : List (MethodName × Nat) := [(⟨"AdvertCouncil$RuleReader", "readExpr", "(I)Z"⟩, 7), (⟨"AdvertCouncil$RuleReader", "readAndPart", "(I)Z"⟩, 7), (⟨"AdvertCouncil$RuleReader", "readPart", "(I)Z"⟩, 7), (⟨"AdvertCouncil$RuleReader", "write", "(I)V"⟩, 7), (⟨"AdvertCouncil$RuleReader", "readTest", "()Z"⟩, 7), (⟨"AdvertCouncil$RuleReader", "readSide", "()Z"⟩, 7), (⟨"AdvertCouncil", "tellFacts", "(LAdvertCouncil$Advert;LAdvertCouncil$Phrase;II)V"⟩, 14), (⟨"AdvertCouncil", "rulesInForce", "(II)I"⟩, 14), (⟨"AdvertCouncil", "barringRule", "(I)I"⟩, 14), (⟨"AdvertCouncil$Rule", "sideAt", "(I[I)I"⟩, 2), (⟨"AdvertCouncil", "barredPhrases", "(LAdvertCouncil$Advert;II)I"⟩, 14), (⟨"AdvertCouncil", "leastStruck", "(LAdvertCouncil$Advert;II)I"⟩, 14), (⟨"AdvertCouncil", "standsWithout", "(LAdvertCouncil$Advert;III)Z"⟩, 14), (⟨"AdvertCouncilModel", "no", "(I)I"⟩, 90), (⟨"AdvertCouncilModel", "wants", "(I)I"⟩, 90), (⟨"AdvertCouncilModel", "intAt", "(II)I"⟩, 90)]
theorem lw_r2 : ∀ q ∈ lw_privs_2, lw_okq q := List.forall_mem_cons.mpr ⟨lw_p16, List.forall_mem_cons.mpr ⟨lw_p17, List.forall_mem_cons.mpr ⟨lw_p18, List.forall_mem_cons.mpr ⟨lw_p19, List.forall_mem_cons.mpr ⟨lw_p20, List.forall_mem_cons.mpr ⟨lw_p21, List.forall_mem_cons.mpr ⟨lw_p22, List.forall_mem_cons.mpr ⟨lw_p23, List.forall_mem_cons.mpr ⟨lw_p24, List.forall_mem_cons.mpr ⟨lw_p25, List.forall_mem_cons.mpr ⟨lw_p26, List.forall_mem_cons.mpr ⟨lw_p27, List.forall_mem_cons.mpr ⟨lw_p28, List.forall_mem_cons.mpr ⟨lw_p29, List.forall_mem_cons.mpr ⟨lw_p30, List.forall_mem_cons.mpr ⟨lw_p31, fun _ h => absurd h List.not_mem_nil⟩⟩⟩⟩⟩⟩⟩⟩⟩⟩⟩⟩⟩⟩⟩⟩
theorem lw_p32 : lw_okq (⟨"AdvertCouncilModel", "isAdvert", "(I)Z"⟩, 90) := ⟨⟨by decide +kernel, by decide +kernel⟩, List.mem_of_getElem? (i := 1057) (by decide +kernel), List.mem_of_getElem? (i := 1389) (by decide +kernel), List.mem_of_getElem? (i := 1390) (by decide +kernel)⟩
theorem lw_p33 : lw_okq (⟨"AdvertCouncilModel", "readsAll", "(III)V"⟩, 90) := ⟨⟨by decide +kernel, by decide +kernel⟩, List.mem_of_getElem? (i := 1057) (by decide +kernel), List.mem_of_getElem? (i := 1413) (by decide +kernel), List.mem_of_getElem? (i := 1414) (by decide +kernel)⟩
theorem lw_p34 : lw_okq (⟨"AdvertCouncilModel", "strikes", "(II)V"⟩, 90) := ⟨⟨by decide +kernel, by decide +kernel⟩, List.mem_of_getElem? (i := 1057) (by decide +kernel), List.mem_of_getElem? (i := 1417) (by decide +kernel), List.mem_of_getElem? (i := 1418) (by decide +kernel)⟩
theorem lw_p35 : lw_okq (⟨"AdvertCouncilModel", "reads", "(II)V"⟩, 90) := ⟨⟨by decide +kernel, by decide +kernel⟩, List.mem_of_getElem? (i := 1057) (by decide +kernel), List.mem_of_getElem? (i := 1421) (by decide +kernel), List.mem_of_getElem? (i := 1422) (by decide +kernel)⟩
theorem lw_p36 : lw_okq (⟨"AdvertCouncilModel", "isPhraseIn", "(III)Z"⟩, 90) := ⟨⟨by decide +kernel, by decide +kernel⟩, List.mem_of_getElem? (i := 1057) (by decide +kernel), List.mem_of_getElem? (i := 1425) (by decide +kernel), List.mem_of_getElem? (i := 1426) (by decide +kernel)⟩
theorem lw_p37 : lw_okq (⟨"AdvertCouncilModel", "standsAt", "(I[IIII)Z"⟩, 90) := ⟨⟨by decide +kernel, by decide +kernel⟩, List.mem_of_getElem? (i := 1057) (by decide +kernel), List.mem_of_getElem? (i := 1432) (by decide +kernel), List.mem_of_getElem? (i := 1433) (by decide +kernel)⟩
theorem lw_p38 : lw_okq (⟨"AdvertCouncilModel", "phraseOf", "(II)I"⟩, 90) := ⟨⟨by decide +kernel, by decide +kernel⟩, List.mem_of_getElem? (i := 1057) (by decide +kernel), List.mem_of_getElem? (i := 1440) (by decide +kernel), List.mem_of_getElem? (i := 1441) (by decide +kernel)⟩
theorem lw_p39 : lw_okq (⟨"AdvertCouncilModel", "isTakenBack", "(IIII)Z"⟩, 90) := ⟨⟨by decide +kernel, by decide +kernel⟩, List.mem_of_getElem? (i := 1057) (by decide +kernel), List.mem_of_getElem? (i := 1444) (by decide +kernel), List.mem_of_getElem? (i := 1445) (by decide +kernel)⟩
theorem lw_p40 : lw_okq (⟨"AdvertCouncilModel", "isBorneOut", "(III)Z"⟩, 90) := ⟨⟨by decide +kernel, by decide +kernel⟩, List.mem_of_getElem? (i := 1057) (by decide +kernel), List.mem_of_getElem? (i := 1448) (by decide +kernel), List.mem_of_getElem? (i := 1449) (by decide +kernel)⟩
theorem lw_p41 : lw_okq (⟨"AdvertCouncilModel", "sums", "(III)Z"⟩, 90) := ⟨⟨by decide +kernel, by decide +kernel⟩, List.mem_of_getElem? (i := 1057) (by decide +kernel), List.mem_of_getElem? (i := 1452) (by decide +kernel), List.mem_of_getElem? (i := 1453) (by decide +kernel)⟩
theorem lw_p42 : lw_okq (⟨"AdvertCouncilModel", "noLess", "(IIII)I"⟩, 90) := ⟨⟨by decide +kernel, by decide +kernel⟩, List.mem_of_getElem? (i := 1057) (by decide +kernel), List.mem_of_getElem? (i := 1456) (by decide +kernel), List.mem_of_getElem? (i := 1457) (by decide +kernel)⟩
theorem lw_p43 : lw_okq (⟨"AdvertCouncilModel", "isAgain", "(IIII)Z"⟩, 90) := ⟨⟨by decide +kernel, by decide +kernel⟩, List.mem_of_getElem? (i := 1057) (by decide +kernel), List.mem_of_getElem? (i := 1460) (by decide +kernel), List.mem_of_getElem? (i := 1461) (by decide +kernel)⟩
theorem lw_p44 : lw_okq (⟨"AdvertCouncilModel", "compiles", "(II)I"⟩, 90) := ⟨⟨by decide +kernel, by decide +kernel⟩, List.mem_of_getElem? (i := 1057) (by decide +kernel), List.mem_of_getElem? (i := 1489) (by decide +kernel), List.mem_of_getElem? (i := 1490) (by decide +kernel)⟩
theorem lw_p45 : lw_okq (⟨"AdvertCouncilModel", "is", "(I)Z"⟩, 90) := ⟨⟨by decide +kernel, by decide +kernel⟩, List.mem_of_getElem? (i := 1057) (by decide +kernel), List.mem_of_getElem? (i := 1493) (by decide +kernel), List.mem_of_getElem? (i := 1494) (by decide +kernel)⟩
theorem lw_p46 : lw_okq (⟨"AdvertCouncilModel", "letter", "()I"⟩, 90) := ⟨⟨by decide +kernel, by decide +kernel⟩, List.mem_of_getElem? (i := 1057) (by decide +kernel), List.mem_of_getElem? (i := 1497) (by decide +kernel), List.mem_of_getElem? (i := 1498) (by decide +kernel)⟩
theorem lw_p47 : lw_okq (⟨"AdvertCouncilModel", "isTest", "(I)Z"⟩, 90) := ⟨⟨by decide +kernel, by decide +kernel⟩, List.mem_of_getElem? (i := 1057) (by decide +kernel), List.mem_of_getElem? (i := 1501) (by decide +kernel), List.mem_of_getElem? (i := 1502) (by decide +kernel)⟩
def lw_privs_3 : List (MethodName × Nat) := [(⟨"AdvertCouncilModel", "isAdvert", "(I)Z"⟩, 90), (⟨"AdvertCouncilModel", "readsAll", "(III)V"⟩, 90), (⟨"AdvertCouncilModel", "strikes", "(II)V"⟩, 90), (⟨"AdvertCouncilModel", "reads", "(II)V"⟩, 90), (⟨"AdvertCouncilModel", "isPhraseIn", "(III)Z"⟩, 90), (⟨"AdvertCouncilModel", "standsAt", "(I[IIII)Z"⟩, 90), (⟨"AdvertCouncilModel", "phraseOf", "(II)I"⟩, 90), (⟨"AdvertCouncilModel", "isTakenBack", "(IIII)Z"⟩, 90), (⟨"AdvertCouncilModel", "isBorneOut", "(III)Z"⟩, 90), (⟨"AdvertCouncilModel", "sums", "(III)Z"⟩, 90), (⟨"AdvertCouncilModel", "noLess", "(IIII)I"⟩, 90), (⟨"AdvertCouncilModel", "isAgain", "(IIII)Z"⟩, 90), (⟨"AdvertCouncilModel", "compiles", "(II)I"⟩, 90), (⟨"AdvertCouncilModel", "is", "(I)Z"⟩, 90), (⟨"AdvertCouncilModel", "letter", "()I"⟩, 90), (⟨"AdvertCouncilModel", "isTest", "(I)Z"⟩, 90)]
theorem lw_r3 : ∀ q ∈ lw_privs_3, lw_okq q := List.forall_mem_cons.mpr ⟨lw_p32, List.forall_mem_cons.mpr ⟨lw_p33, List.forall_mem_cons.mpr ⟨lw_p34, List.forall_mem_cons.mpr ⟨lw_p35, List.forall_mem_cons.mpr ⟨lw_p36, List.forall_mem_cons.mpr ⟨lw_p37, List.forall_mem_cons.mpr ⟨lw_p38, List.forall_mem_cons.mpr ⟨lw_p39, List.forall_mem_cons.mpr ⟨lw_p40, List.forall_mem_cons.mpr ⟨lw_p41, List.forall_mem_cons.mpr ⟨lw_p42, List.forall_mem_cons.mpr ⟨lw_p43, List.forall_mem_cons.mpr ⟨lw_p44, List.forall_mem_cons.mpr ⟨lw_p45, List.forall_mem_cons.mpr ⟨lw_p46, List.forall_mem_cons.mpr ⟨lw_p47, fun _ h => absurd h List.not_mem_nil⟩⟩⟩⟩⟩⟩⟩⟩⟩⟩⟩⟩⟩⟩⟩⟩
theorem lw_p48 : lw_okq (⟨"AdvertCouncilModel", "isSide", "()Z"⟩, 90) := ⟨⟨by decide +kernel, by decide +kernel⟩, List.mem_of_getElem? (i := 1057) (by decide +kernel), List.mem_of_getElem? (i := 1505) (by decide +kernel), List.mem_of_getElem? (i := 1506) (by decide +kernel)⟩
theorem lw_p49 : lw_okq (⟨"AdvertCouncilModel", "isField", "()Z"⟩, 90) := ⟨⟨by decide +kernel, by decide +kernel⟩, List.mem_of_getElem? (i := 1057) (by decide +kernel), List.mem_of_getElem? (i := 1509) (by decide +kernel), List.mem_of_getElem? (i := 1510) (by decide +kernel)⟩
theorem lw_p50 : lw_okq (⟨"AdvertCouncilModel", "emits", "(II)V"⟩, 90) := ⟨⟨by decide +kernel, by decide +kernel⟩, List.mem_of_getElem? (i := 1057) (by decide +kernel), List.mem_of_getElem? (i := 1513) (by decide +kernel), List.mem_of_getElem? (i := 1514) (by decide +kernel)⟩
theorem lw_p51 : lw_okq (⟨"AdvertCouncilModel", "closes", "(I)V"⟩, 90) := ⟨⟨by decide +kernel, by decide +kernel⟩, List.mem_of_getElem? (i := 1057) (by decide +kernel), List.mem_of_getElem? (i := 1517) (by decide +kernel), List.mem_of_getElem? (i := 1518) (by decide +kernel)⟩
theorem lw_p52 : lw_okq (⟨"AdvertCouncilModel", "pops", "(IZ)V"⟩, 90) := ⟨⟨by decide +kernel, by decide +kernel⟩, List.mem_of_getElem? (i := 1057) (by decide +kernel), List.mem_of_getElem? (i := 1521) (by decide +kernel), List.mem_of_getElem? (i := 1522) (by decide +kernel)⟩
theorem lw_p53 : lw_okq (⟨"AdvertCouncilModel", "barred", "(IIII)I"⟩, 90) := ⟨⟨by decide +kernel, by decide +kernel⟩, List.mem_of_getElem? (i := 1057) (by decide +kernel), List.mem_of_getElem? (i := 1537) (by decide +kernel), List.mem_of_getElem? (i := 1538) (by decide +kernel)⟩
theorem lw_p54 : lw_okq (⟨"AdvertCouncilModel", "holds", "(IIIII)Z"⟩, 90) := ⟨⟨by decide +kernel, by decide +kernel⟩, List.mem_of_getElem? (i := 1057) (by decide +kernel), List.mem_of_getElem? (i := 1541) (by decide +kernel), List.mem_of_getElem? (i := 1542) (by decide +kernel)⟩
theorem lw_p55 : lw_okq (⟨"AdvertCouncilModel", "valueOf", "(IIIII)I"⟩, 90) := ⟨⟨by decide +kernel, by decide +kernel⟩, List.mem_of_getElem? (i := 1057) (by decide +kernel), List.mem_of_getElem? (i := 1545) (by decide +kernel), List.mem_of_getElem? (i := 1546) (by decide +kernel)⟩
theorem lw_p56 : lw_okq (⟨"AdvertCouncilModel", "counted", "(II)I"⟩, 90) := ⟨⟨by decide +kernel, by decide +kernel⟩, List.mem_of_getElem? (i := 1057) (by decide +kernel), List.mem_of_getElem? (i := 1557) (by decide +kernel), List.mem_of_getElem? (i := 1558) (by decide +kernel)⟩
theorem lw_p57 : lw_okq (⟨"AdvertCouncilModel", "bindingOn", "(II)I"⟩, 90) := ⟨⟨by decide +kernel, by decide +kernel⟩, List.mem_of_getElem? (i := 1057) (by decide +kernel), List.mem_of_getElem? (i := 1561) (by decide +kernel), List.mem_of_getElem? (i := 1562) (by decide +kernel)⟩
theorem lw_p58 : lw_okq (⟨"AdvertCouncilModel", "isLike", "(II)Z"⟩, 90) := ⟨⟨by decide +kernel, by decide +kernel⟩, List.mem_of_getElem? (i := 1057) (by decide +kernel), List.mem_of_getElem? (i := 1565) (by decide +kernel), List.mem_of_getElem? (i := 1566) (by decide +kernel)⟩
theorem lw_p59 : lw_okq (⟨"AdvertCouncilModel", "isRuling", "(I)Z"⟩, 90) := ⟨⟨by decide +kernel, by decide +kernel⟩, List.mem_of_getElem? (i := 1057) (by decide +kernel), List.mem_of_getElem? (i := 1573) (by decide +kernel), List.mem_of_getElem? (i := 1574) (by decide +kernel)⟩
theorem lw_p60 : lw_okq (⟨"AdvertCouncilModel", "weighs", "(I)V"⟩, 90) := ⟨⟨by decide +kernel, by decide +kernel⟩, List.mem_of_getElem? (i := 1057) (by decide +kernel), List.mem_of_getElem? (i := 1609) (by decide +kernel), List.mem_of_getElem? (i := 1610) (by decide +kernel)⟩
theorem lw_p61 : lw_okq (⟨"AdvertCouncilModel", "isClear", "(II)Z"⟩, 90) := ⟨⟨by decide +kernel, by decide +kernel⟩, List.mem_of_getElem? (i := 1057) (by decide +kernel), List.mem_of_getElem? (i := 1616) (by decide +kernel), List.mem_of_getElem? (i := 1617) (by decide +kernel)⟩
def lw_privs_4 : List (MethodName × Nat) := [(⟨"AdvertCouncilModel", "isSide", "()Z"⟩, 90), (⟨"AdvertCouncilModel", "isField", "()Z"⟩, 90), (⟨"AdvertCouncilModel", "emits", "(II)V"⟩, 90), (⟨"AdvertCouncilModel", "closes", "(I)V"⟩, 90), (⟨"AdvertCouncilModel", "pops", "(IZ)V"⟩, 90), (⟨"AdvertCouncilModel", "barred", "(IIII)I"⟩, 90), (⟨"AdvertCouncilModel", "holds", "(IIIII)Z"⟩, 90), (⟨"AdvertCouncilModel", "valueOf", "(IIIII)I"⟩, 90), (⟨"AdvertCouncilModel", "counted", "(II)I"⟩, 90), (⟨"AdvertCouncilModel", "bindingOn", "(II)I"⟩, 90), (⟨"AdvertCouncilModel", "isLike", "(II)Z"⟩, 90), (⟨"AdvertCouncilModel", "isRuling", "(I)Z"⟩, 90), (⟨"AdvertCouncilModel", "weighs", "(I)V"⟩, 90), (⟨"AdvertCouncilModel", "isClear", "(II)Z"⟩, 90)]
theorem lw_r4 : ∀ q ∈ lw_privs_4, lw_okq q := List.forall_mem_cons.mpr ⟨lw_p48, List.forall_mem_cons.mpr ⟨lw_p49, List.forall_mem_cons.mpr ⟨lw_p50, List.forall_mem_cons.mpr ⟨lw_p51, List.forall_mem_cons.mpr ⟨lw_p52, List.forall_mem_cons.mpr ⟨lw_p53, List.forall_mem_cons.mpr ⟨lw_p54, List.forall_mem_cons.mpr ⟨lw_p55, List.forall_mem_cons.mpr ⟨lw_p56, List.forall_mem_cons.mpr ⟨lw_p57, List.forall_mem_cons.mpr ⟨lw_p58, List.forall_mem_cons.mpr ⟨lw_p59, List.forall_mem_cons.mpr ⟨lw_p60, List.forall_mem_cons.mpr ⟨lw_p61, fun _ h => absurd h List.not_mem_nil⟩⟩⟩⟩⟩⟩⟩⟩⟩⟩⟩⟩⟩⟩
def lw_privs : List (MethodName × Nat) := lw_privs_1 ++ (lw_privs_2 ++ (lw_privs_3 ++ (lw_privs_4)))
def lw_tbl : List Cond := k2_sels lw_privs ++ tables_1
theorem lw_privs_ok : ∀ q ∈ lw_privs, lw_okq q := by
  show ∀ q ∈ lw_privs_1 ++ (lw_privs_2 ++ (lw_privs_3 ++ (lw_privs_4))), lw_okq q
  exact List.forall_mem_append.mpr ⟨lw_r1, List.forall_mem_append.mpr ⟨lw_r2, List.forall_mem_append.mpr ⟨lw_r3, lw_r4⟩⟩⟩
-- ===== end of PART A; then your names; then what follows =====
/-! ===== BEGIN words of one list among another's, by their places ===== -/
theorem goodIn_r {big : List Cond} (ws : List Cond) (ps : List Nat) (hp : ws = ps.filterMap (fun i => big[i]?)) (h : ws.all goodWord = true) : GoodIn big ws := by
  intro w hw
  have h1 := List.all_eq_true.mp h w hw
  rw [hp] at hw
  obtain ⟨i, -, hi⟩ := List.mem_filterMap.mp hw
  have hm : w ∈ big := by first | exact List.mem_of_getElem? hi | exact List.getElem?_mem hi
  exact ⟨hm, good_of_word h1⟩
theorem goodIn_app {big a b : List Cond} (ha : GoodIn big a) (hb : GoodIn big b) : GoodIn big (a ++ b) := fun w h => (List.mem_append.mp h).elim (ha w) (hb w)
theorem goodIn_ca {big a b : List Cond} {c : Cond} (ha : GoodIn big (c :: a)) (hb : GoodIn big b) : GoodIn big (c :: (a ++ b)) := fun w h => (List.mem_cons.mp h).elim (fun e => ha w (List.mem_cons.mpr (Or.inl e))) (fun h => (List.mem_append.mp h).elim (fun h => ha w (List.mem_cons.mpr (Or.inr h))) (hb w))
theorem goodIn_sub {big ws : List Cond} (hm : ∀ w ∈ ws, w ∈ big) (h : ws.all goodWord = true) : GoodIn big ws := fun w hw => ⟨hm w hw, good_of_word (List.all_eq_true.mp h w hw)⟩
/-! ===== END ===== -/

/-! ===== BEGIN printed: names, fields, word lists, decode rows ===== -/
def RX0 : String := "AdvertCouncil$Advert"
def TX0 : u_T := fun k => match k with
  | 0 => ("AdvertCouncil$Advert", "firm", "I", true)
  | 1 => ("AdvertCouncil$Advert", "medium", "I", true)
  | 2 => ("AdvertCouncil$Advert", "words", "[I", true)
  | 3 => ("AdvertCouncil$Advert", "day", "I", true)
  | 4 => ("AdvertCouncil$Advert", "print", "[I", false)
  | 5 => ("AdvertCouncil$Advert", "size", "I", false)
  | 6 => ("AdvertCouncil$Advert", "children", "I", false)
  | 7 => ("AdvertCouncil$Advert", "others", "I", false)
  | 8 => ("AdvertCouncil$Advert", "askedOn", "[I", true)
  | _ => ("AdvertCouncil$Advert", "stoppedOn", "[I", true)
def tyX0 : Nat → FieldType := fun k => match k with
  | 0 => .int
  | 1 => .int
  | 2 => .array .int
  | 3 => .int
  | 4 => .array .int
  | 5 => .int
  | 6 => .int
  | 7 => .int
  | 8 => .array .int
  | _ => .array .int
abbrev wsX00 : List Cond := u_ws RX0 TX0 10
theorem nmX0 : ∀ a, a < 10 → ∀ b, b < 10 → a ≠ b → (TX0 a).2.1 ≠ (TX0 b).2.1 := by decide +kernel
theorem tyX0_ok : ∀ k, k < 10 → parseFieldDescriptor (TX0 k).2.2.1 = some (tyX0 k) := by decide +kernel
abbrev cX0_init : ByteArray := prog_2_method_1_code
def yX0_init : MethodName := ⟨RX0, "<init>", "(II[II)V"⟩
abbrev cX0_childrenOf100 : ByteArray := prog_2_method_2_code
def yX0_childrenOf100 : MethodName := ⟨RX0, "childrenOf100", "()I"⟩
def RX1 : String := "AdvertCouncil$Panel"
def TX1 : u_T := fun k => match k with
  | 0 => ("AdvertCouncil$Panel", "kinOf", "[I", true)
  | 1 => ("AdvertCouncil$Panel", "seats", "I", false)
  | _ => ("AdvertCouncil$Panel", "rulings", "Ljava/util/ArrayList;", true)
def tyX1 : Nat → FieldType := fun k => match k with
  | 0 => .array .int
  | 1 => .int
  | _ => .object "java/util/ArrayList"
abbrev wsX10 : List Cond := u_ws RX1 TX1 3
theorem nmX1 : ∀ a, a < 3 → ∀ b, b < 3 → a ≠ b → (TX1 a).2.1 ≠ (TX1 b).2.1 := by decide +kernel
theorem tyX1_ok : ∀ k, k < 3 → parseFieldDescriptor (TX1 k).2.2.1 = some (tyX1 k) := by decide +kernel
abbrev cX1_init : ByteArray := prog_3_method_1_code
def yX1_init : MethodName := ⟨RX1, "<init>", "()V"⟩
abbrev cX1_addSeat : ByteArray := prog_3_method_2_code
def yX1_addSeat : MethodName := ⟨RX1, "addSeat", "(I)I"⟩
abbrev cX1_areSeats : ByteArray := prog_3_method_3_code
def yX1_areSeats : MethodName := ⟨RX1, "areSeats", "(I)Z"⟩
abbrev cX1_isKin : ByteArray := prog_3_method_4_code
def yX1_isKin : MethodName := ⟨RX1, "isKin", "(II)Z"⟩
abbrev cX1_countOf : ByteArray := prog_3_method_5_code
def yX1_countOf : MethodName := ⟨RX1, "countOf", "(II)I"⟩
abbrev cX1_wouldBar : ByteArray := prog_3_method_6_code
def yX1_wouldBar : MethodName := ⟨RX1, "wouldBar", "(LAdvertCouncil$Ruling;)Z"⟩
abbrev cX1_addKin : ByteArray := prog_3_method_7_code
def yX1_addKin : MethodName := ⟨RX1, "addKin", "(II)I"⟩
abbrev cX1_rulingOf : ByteArray := prog_3_method_8_code
def yX1_rulingOf : MethodName := ⟨RX1, "rulingOf", "(I)LAdvertCouncil$Ruling;"⟩
abbrev cX1_isSaidAgain : ByteArray := prog_3_method_9_code
def yX1_isSaidAgain : MethodName := ⟨RX1, "isSaidAgain", "(ILAdvertCouncil$Phrase;II)Z"⟩
abbrev cX1_likeAt : ByteArray := prog_3_method_10_code
def yX1_likeAt : MethodName := ⟨RX1, "likeAt", "(LAdvertCouncil$Phrase;I)I"⟩
abbrev cX1_bindingOn : ByteArray := prog_3_method_11_code
def yX1_bindingOn : MethodName := ⟨RX1, "bindingOn", "(ILAdvertCouncil$Phrase;)I"⟩
abbrev cX1_likeSaying : ByteArray := prog_3_method_12_code
def yX1_likeSaying : MethodName := ⟨RX1, "likeSaying", "(ZILAdvertCouncil$Phrase;)I"⟩
abbrev cX1_undoFrom : ByteArray := prog_3_method_13_code
def yX1_undoFrom : MethodName := ⟨RX1, "undoFrom", "(I)I"⟩
abbrev cX1_stepOf : ByteArray := prog_3_method_14_code
def yX1_stepOf : MethodName := ⟨RX1, "stepOf", "(II)I"⟩
abbrev cX1_rulingsIn : ByteArray := prog_3_method_15_code
def yX1_rulingsIn : MethodName := ⟨RX1, "rulingsIn", "(I)I"⟩
abbrev cX1_standingBars : ByteArray := prog_3_method_16_code
def yX1_standingBars : MethodName := ⟨RX1, "standingBars", "()I"⟩
def RX2 : String := "AdvertCouncil$Phrase"
def TX2 : u_T := fun k => match k with
  | 0 => ("AdvertCouncil$Phrase", "index", "I", true)
  | 1 => ("AdvertCouncil$Phrase", "words", "[I", true)
  | 2 => ("AdvertCouncil$Phrase", "kind", "I", true)
  | 3 => ("AdvertCouncil$Phrase", "subject", "I", true)
  | 4 => ("AdvertCouncil$Phrase", "number", "I", true)
  | _ => ("AdvertCouncil$Phrase", "span", "LAdvertCouncil$Span;", true)
def tyX2 : Nat → FieldType := fun k => match k with
  | 0 => .int
  | 1 => .array .int
  | 2 => .int
  | 3 => .int
  | 4 => .int
  | _ => .object "AdvertCouncil$Span"
abbrev wsX20 : List Cond := u_ws RX2 TX2 6
theorem nmX2 : ∀ a, a < 6 → ∀ b, b < 6 → a ≠ b → (TX2 a).2.1 ≠ (TX2 b).2.1 := by decide +kernel
theorem tyX2_ok : ∀ k, k < 6 → parseFieldDescriptor (TX2 k).2.2.1 = some (tyX2 k) := by decide +kernel
abbrev cX2_init : ByteArray := prog_4_method_1_code
def yX2_init : MethodName := ⟨RX2, "<init>", "(I[IIILAdvertCouncil$Span;)V"⟩
abbrev cX2_isAt : ByteArray := prog_4_method_2_code
def yX2_isAt : MethodName := ⟨RX2, "isAt", "(I[II)Z"⟩
abbrev cX2_isIn : ByteArray := prog_4_method_3_code
def yX2_isIn : MethodName := ⟨RX2, "isIn", "([I)Z"⟩
abbrev cX2_isOf : ByteArray := prog_4_method_4_code
def yX2_isOf : MethodName := ⟨RX2, "isOf", "(I)Z"⟩
abbrev cX2_takenFor : ByteArray := prog_4_method_5_code
def yX2_takenFor : MethodName := ⟨RX2, "takenFor", "(I)I"⟩
def RX3 : String := "AdvertCouncil$Proof"
def TX3 : u_T := fun k => match k with
  | 0 => ("AdvertCouncil$Proof", "firm", "I", true)
  | 1 => ("AdvertCouncil$Proof", "subject", "I", true)
  | 2 => ("AdvertCouncil$Proof", "day", "I", true)
  | _ => ("AdvertCouncil$Proof", "given", "[I", true)
def tyX3 : Nat → FieldType := fun k => match k with
  | 0 => .int
  | 1 => .int
  | 2 => .int
  | _ => .array .int
abbrev wsX30 : List Cond := u_ws RX3 TX3 4
theorem nmX3 : ∀ a, a < 4 → ∀ b, b < 4 → a ≠ b → (TX3 a).2.1 ≠ (TX3 b).2.1 := by decide +kernel
theorem tyX3_ok : ∀ k, k < 4 → parseFieldDescriptor (TX3 k).2.2.1 = some (tyX3 k) := by decide +kernel
abbrev cX3_init : ByteArray := prog_5_method_1_code
def yX3_init : MethodName := ⟨RX3, "<init>", "(III[I)V"⟩
abbrev cX3_isOn : ByteArray := prog_5_method_2_code
def yX3_isOn : MethodName := ⟨RX3, "isOn", "(III)Z"⟩
def RX4 : String := "AdvertCouncil$Proofs"
def TX4 : u_T := fun k => match k with
  | 0 => ("AdvertCouncil$Proofs", "all", "Ljava/util/ArrayList;", true)
  | 1 => ("AdvertCouncil$Proofs", "share", "I", false)
  | _ => ("AdvertCouncil$Proofs", "tenth", "I", false)
def tyX4 : Nat → FieldType := fun k => match k with
  | 0 => .object "java/util/ArrayList"
  | 1 => .int
  | _ => .int
abbrev wsX40 : List Cond := u_ws RX4 TX4 3
theorem nmX4 : ∀ a, a < 3 → ∀ b, b < 3 → a ≠ b → (TX4 a).2.1 ≠ (TX4 b).2.1 := by decide +kernel
theorem tyX4_ok : ∀ k, k < 3 → parseFieldDescriptor (TX4 k).2.2.1 = some (tyX4 k) := by decide +kernel
abbrev cX4_init : ByteArray := prog_6_method_1_code
def yX4_init : MethodName := ⟨RX4, "<init>", "()V"⟩
abbrev cX4_bearOut : ByteArray := prog_6_method_2_code
def yX4_bearOut : MethodName := ⟨RX4, "bearOut", "(ILAdvertCouncil$Phrase;I)Z"⟩
abbrev cX4_countOf : ByteArray := prog_6_method_3_code
def yX4_countOf : MethodName := ⟨RX4, "countOf", "(III)I"⟩
abbrev cX4_sumOf : ByteArray := prog_6_method_4_code
def yX4_sumOf : MethodName := ⟨RX4, "sumOf", "(III)J"⟩
abbrev cX4_isGiven : ByteArray := prog_6_method_5_code
def yX4_isGiven : MethodName := ⟨RX4, "isGiven", "(III)Z"⟩
abbrev cX4_areEnough : ByteArray := prog_6_method_6_code
def yX4_areEnough : MethodName := ⟨RX4, "areEnough", "(IILAdvertCouncil$Phrase;I)Z"⟩
abbrev cX4_isAhead : ByteArray := prog_6_method_7_code
def yX4_isAhead : MethodName := ⟨RX4, "isAhead", "(IIII)Z"⟩
def RX5 : String := "AdvertCouncil$Reading"
def TX5 : u_T := fun k => match k with
  | 0 => ("AdvertCouncil$Reading", "found", "[LAdvertCouncil$Phrase;", true)
  | 1 => ("AdvertCouncil$Reading", "places", "[I", true)
  | _ => ("AdvertCouncil$Reading", "size", "I", false)
def tyX5 : Nat → FieldType := fun k => match k with
  | 0 => .array (.object "AdvertCouncil$Phrase")
  | 1 => .array .int
  | _ => .int
abbrev wsX50 : List Cond := u_ws RX5 TX5 3
theorem nmX5 : ∀ a, a < 3 → ∀ b, b < 3 → a ≠ b → (TX5 a).2.1 ≠ (TX5 b).2.1 := by decide +kernel
theorem tyX5_ok : ∀ k, k < 3 → parseFieldDescriptor (TX5 k).2.2.1 = some (tyX5 k) := by decide +kernel
abbrev cX5_init : ByteArray := prog_7_method_1_code
def yX5_init : MethodName := ⟨RX5, "<init>", "()V"⟩
abbrev cX5_read : ByteArray := prog_7_method_2_code
def yX5_read : MethodName := ⟨RX5, "read", "(Ljava/util/ArrayList;II[II)Z"⟩
abbrev cX5_phraseOf : ByteArray := prog_7_method_3_code
def yX5_phraseOf : MethodName := ⟨RX5, "phraseOf", "(I)LAdvertCouncil$Phrase;"⟩
abbrev cX5_placeOf : ByteArray := prog_7_method_4_code
def yX5_placeOf : MethodName := ⟨RX5, "placeOf", "(I)I"⟩
abbrev cX5_countIn : ByteArray := prog_7_method_5_code
def yX5_countIn : MethodName := ⟨RX5, "countIn", "(I)I"⟩
def RX6 : String := "AdvertCouncil$Rule"
def TX6 : u_T := fun k => match k with
  | 0 => ("AdvertCouncil$Rule", "code", "[I", true)
  | _ => ("AdvertCouncil$Rule", "span", "LAdvertCouncil$Span;", true)
def tyX6 : Nat → FieldType := fun k => match k with
  | 0 => .array .int
  | _ => .object "AdvertCouncil$Span"
abbrev wsX60 : List Cond := u_ws RX6 TX6 2
theorem nmX6 : ∀ a, a < 2 → ∀ b, b < 2 → a ≠ b → (TX6 a).2.1 ≠ (TX6 b).2.1 := by decide +kernel
theorem tyX6_ok : ∀ k, k < 2 → parseFieldDescriptor (TX6 k).2.2.1 = some (tyX6 k) := by decide +kernel
abbrev cX6_init : ByteArray := prog_8_method_1_code
def yX6_init : MethodName := ⟨RX6, "<init>", "([ILAdvertCouncil$Span;)V"⟩
abbrev cX6_isTrueOf : ByteArray := prog_8_method_2_code
def yX6_isTrueOf : MethodName := ⟨RX6, "isTrueOf", "([I)Z"⟩
abbrev cX6_isMet : ByteArray := prog_8_method_3_code
def yX6_isMet : MethodName := ⟨RX6, "isMet", "(III)Z"⟩
abbrev cX6_sideAt : ByteArray := prog_8_method_4_code
def yX6_sideAt : MethodName := ⟨RX6, "sideAt", "(I[I)I"⟩
def RX7 : String := "AdvertCouncil$RuleReader"
def TX7 : u_T := fun k => match k with
  | 0 => ("AdvertCouncil$RuleReader", "text", "[I", true)
  | 1 => ("AdvertCouncil$RuleReader", "length", "I", false)
  | 2 => ("AdvertCouncil$RuleReader", "at", "I", false)
  | 3 => ("AdvertCouncil$RuleReader", "letter", "I", false)
  | 4 => ("AdvertCouncil$RuleReader", "code", "[I", true)
  | 5 => ("AdvertCouncil$RuleReader", "codeSize", "I", false)
  | _ => ("AdvertCouncil$RuleReader", "side", "I", false)
def tyX7 : Nat → FieldType := fun k => match k with
  | 0 => .array .int
  | 1 => .int
  | 2 => .int
  | 3 => .int
  | 4 => .array .int
  | 5 => .int
  | _ => .int
abbrev wsX70 : List Cond := u_ws RX7 TX7 7
theorem nmX7 : ∀ a, a < 7 → ∀ b, b < 7 → a ≠ b → (TX7 a).2.1 ≠ (TX7 b).2.1 := by decide +kernel
theorem tyX7_ok : ∀ k, k < 7 → parseFieldDescriptor (TX7 k).2.2.1 = some (tyX7 k) := by decide +kernel
abbrev cX7_init : ByteArray := prog_9_method_1_code
def yX7_init : MethodName := ⟨RX7, "<init>", "()V"⟩
abbrev cX7_faultOf : ByteArray := prog_9_method_2_code
def yX7_faultOf : MethodName := ⟨RX7, "faultOf", "(LAdvertCouncil$Shelf;)I"⟩
abbrev cX7_codeRead : ByteArray := prog_9_method_3_code
def yX7_codeRead : MethodName := ⟨RX7, "codeRead", "()[I"⟩
abbrev cX7_take : ByteArray := prog_9_method_4_code
def yX7_take : MethodName := ⟨RX7, "take", "(I)Z"⟩
abbrev cX7_write : ByteArray := prog_9_method_5_code
def yX7_write : MethodName := ⟨RX7, "write", "(I)V"⟩
abbrev cX7_readExpr : ByteArray := prog_9_method_6_code
def yX7_readExpr : MethodName := ⟨RX7, "readExpr", "(I)Z"⟩
abbrev cX7_readAndPart : ByteArray := prog_9_method_7_code
def yX7_readAndPart : MethodName := ⟨RX7, "readAndPart", "(I)Z"⟩
abbrev cX7_readPart : ByteArray := prog_9_method_8_code
def yX7_readPart : MethodName := ⟨RX7, "readPart", "(I)Z"⟩
abbrev cX7_readTest : ByteArray := prog_9_method_9_code
def yX7_readTest : MethodName := ⟨RX7, "readTest", "()Z"⟩
abbrev cX7_readSide : ByteArray := prog_9_method_10_code
def yX7_readSide : MethodName := ⟨RX7, "readSide", "()Z"⟩
def RX8 : String := "AdvertCouncil$Ruling"
def TX8 : u_T := fun k => match k with
  | 0 => ("AdvertCouncil$Ruling", "firm", "I", true)
  | 1 => ("AdvertCouncil$Ruling", "medium", "I", true)
  | 2 => ("AdvertCouncil$Ruling", "kind", "I", true)
  | 3 => ("AdvertCouncil$Ruling", "subject", "I", true)
  | 4 => ("AdvertCouncil$Ruling", "number", "I", true)
  | 5 => ("AdvertCouncil$Ruling", "day", "I", true)
  | 6 => ("AdvertCouncil$Ruling", "votesToBar", "I", true)
  | 7 => ("AdvertCouncil$Ruling", "votesNotTo", "I", true)
  | 8 => ("AdvertCouncil$Ruling", "counted", "I", false)
  | 9 => ("AdvertCouncil$Ruling", "isBarring", "Z", false)
  | 10 => ("AdvertCouncil$Ruling", "wasAgain", "Z", false)
  | 11 => ("AdvertCouncil$Ruling", "wasAppealed", "Z", false)
  | 12 => ("AdvertCouncil$Ruling", "bound", "I", false)
  | _ => ("AdvertCouncil$Ruling", "state", "I", false)
def tyX8 : Nat → FieldType := fun k => match k with
  | 0 => .int
  | 1 => .int
  | 2 => .int
  | 3 => .int
  | 4 => .int
  | 5 => .int
  | 6 => .int
  | 7 => .int
  | 8 => .int
  | 9 => .boolean
  | 10 => .boolean
  | 11 => .boolean
  | 12 => .int
  | _ => .int
abbrev wsX80 : List Cond := u_ws RX8 TX8 14
theorem nmX8 : ∀ a, a < 14 → ∀ b, b < 14 → a ≠ b → (TX8 a).2.1 ≠ (TX8 b).2.1 := by decide +kernel
theorem tyX8_ok : ∀ k, k < 14 → parseFieldDescriptor (TX8 k).2.2.1 = some (tyX8 k) := by decide +kernel
abbrev cX8_init : ByteArray := prog_10_method_1_code
def yX8_init : MethodName := ⟨RX8, "<init>", "(LAdvertCouncil$Advert;LAdvertCouncil$Phrase;III)V"⟩
abbrev cX8_isLike : ByteArray := prog_10_method_2_code
def yX8_isLike : MethodName := ⟨RX8, "isLike", "(LAdvertCouncil$Phrase;)Z"⟩
abbrev cX8_standsAndBars : ByteArray := prog_10_method_3_code
def yX8_standsAndBars : MethodName := ⟨RX8, "standsAndBars", "()Z"⟩
def RX9 : String := "AdvertCouncil$Shelf"
def TX9 : u_T := fun k => match k with
  | 0 => ("AdvertCouncil$Shelf", "cells", "[J", true)
  | 1 => ("AdvertCouncil$Shelf", "isRow", "Z", false)
  | 2 => ("AdvertCouncil$Shelf", "sort", "I", false)
  | 3 => ("AdvertCouncil$Shelf", "size", "I", false)
  | _ => ("AdvertCouncil$Shelf", "claim", "LAdvertCouncil$Phrase;", false)
def tyX9 : Nat → FieldType := fun k => match k with
  | 0 => .array .long
  | 1 => .boolean
  | 2 => .int
  | 3 => .int
  | _ => .object "AdvertCouncil$Phrase"
abbrev wsX90 : List Cond := u_ws RX9 TX9 5
theorem nmX9 : ∀ a, a < 5 → ∀ b, b < 5 → a ≠ b → (TX9 a).2.1 ≠ (TX9 b).2.1 := by decide +kernel
theorem tyX9_ok : ∀ k, k < 5 → parseFieldDescriptor (TX9 k).2.2.1 = some (tyX9 k) := by decide +kernel
abbrev cX9_init : ByteArray := prog_11_method_1_code
def yX9_init : MethodName := ⟨RX9, "<init>", "()V"⟩
abbrev cX9_takeRow : ByteArray := prog_11_method_2_code
def yX9_takeRow : MethodName := ⟨RX9, "takeRow", "(II)V"⟩
abbrev cX9_takeClaim : ByteArray := prog_11_method_3_code
def yX9_takeClaim : MethodName := ⟨RX9, "takeClaim", "(LAdvertCouncil$Phrase;)V"⟩
abbrev cX9_takeNothing : ByteArray := prog_11_method_4_code
def yX9_takeNothing : MethodName := ⟨RX9, "takeNothing", "()V"⟩
abbrev cX9_cut : ByteArray := prog_11_method_5_code
def yX9_cut : MethodName := ⟨RX9, "cut", "(J)J"⟩
abbrev cX9_intAt : ByteArray := prog_11_method_6_code
def yX9_intAt : MethodName := ⟨RX9, "intAt", "(I)I"⟩
abbrev cX9_isMissing : ByteArray := prog_11_method_7_code
def yX9_isMissing : MethodName := ⟨RX9, "isMissing", "(I)Z"⟩
abbrev cX9_asInts : ByteArray := prog_11_method_8_code
def yX9_asInts : MethodName := ⟨RX9, "asInts", "()[I"⟩
abbrev cX9_given : ByteArray := prog_11_method_9_code
def yX9_given : MethodName := ⟨RX9, "given", "()[I"⟩
def RX10 : String := "AdvertCouncil$Span"
def TX10 : u_T := fun k => match k with
  | 0 => ("AdvertCouncil$Span", "from", "I", true)
  | 1 => ("AdvertCouncil$Span", "told", "I", true)
  | _ => ("AdvertCouncil$Span", "struck", "I", false)
def tyX10 : Nat → FieldType := fun k => match k with
  | 0 => .int
  | 1 => .int
  | _ => .int
abbrev wsX100 : List Cond := u_ws RX10 TX10 3
theorem nmX10 : ∀ a, a < 3 → ∀ b, b < 3 → a ≠ b → (TX10 a).2.1 ≠ (TX10 b).2.1 := by decide +kernel
theorem tyX10_ok : ∀ k, k < 3 → parseFieldDescriptor (TX10 k).2.2.1 = some (tyX10 k) := by decide +kernel
abbrev cX10_init : ByteArray := prog_12_method_1_code
def yX10_init : MethodName := ⟨RX10, "<init>", "(II)V"⟩
abbrev cX10_isInForce : ByteArray := prog_12_method_2_code
def yX10_isInForce : MethodName := ⟨RX10, "isInForce", "(II)Z"⟩
def RX11 : String := "AdvertCouncil"
def TX11 : u_T := fun k => match k with
  | 0 => ("AdvertCouncil", "shelves", "[LAdvertCouncil$Shelf;", true)
  | 1 => ("AdvertCouncil", "adverts", "Ljava/util/ArrayList;", true)
  | 2 => ("AdvertCouncil", "phrases", "Ljava/util/ArrayList;", true)
  | 3 => ("AdvertCouncil", "rules", "Ljava/util/ArrayList;", true)
  | 4 => ("AdvertCouncil", "proofs", "LAdvertCouncil$Proofs;", true)
  | 5 => ("AdvertCouncil", "panel", "LAdvertCouncil$Panel;", true)
  | 6 => ("AdvertCouncil", "reader", "LAdvertCouncil$RuleReader;", true)
  | 7 => ("AdvertCouncil", "reading", "LAdvertCouncil$Reading;", true)
  | 8 => ("AdvertCouncil", "facts", "[I", true)
  | 9 => ("AdvertCouncil", "wordsLeft", "[I", true)
  | 10 => ("AdvertCouncil", "refusals", "[I", true)
  | 11 => ("AdvertCouncil", "now", "I", false)
  | 12 => ("AdvertCouncil", "latestFault", "I", false)
  | _ => ("AdvertCouncil", "latestSet", "I", false)
def tyX11 : Nat → FieldType := fun k => match k with
  | 0 => .array (.object "AdvertCouncil$Shelf")
  | 1 => .object "java/util/ArrayList"
  | 2 => .object "java/util/ArrayList"
  | 3 => .object "java/util/ArrayList"
  | 4 => .object "AdvertCouncil$Proofs"
  | 5 => .object "AdvertCouncil$Panel"
  | 6 => .object "AdvertCouncil$RuleReader"
  | 7 => .object "AdvertCouncil$Reading"
  | 8 => .array .int
  | 9 => .array .int
  | 10 => .array .int
  | 11 => .int
  | 12 => .int
  | _ => .int
abbrev wsX110 : List Cond := u_ws RX11 TX11 14
theorem nmX11 : ∀ a, a < 14 → ∀ b, b < 14 → a ≠ b → (TX11 a).2.1 ≠ (TX11 b).2.1 := by decide +kernel
theorem tyX11_ok : ∀ k, k < 14 → parseFieldDescriptor (TX11 k).2.2.1 = some (tyX11 k) := by decide +kernel
abbrev cX11_init : ByteArray := prog_1_method_1_code
def yX11_init : MethodName := ⟨RX11, "<init>", "()V"⟩
abbrev cX11_days : ByteArray := prog_1_method_2_code
def yX11_days : MethodName := ⟨RX11, "days", "(I)I"⟩
abbrev cX11_row : ByteArray := prog_1_method_3_code
def yX11_row : MethodName := ⟨RX11, "row", "(III)I"⟩
abbrev cX11_set : ByteArray := prog_1_method_4_code
def yX11_set : MethodName := ⟨RX11, "set", "(IIJ)I"⟩
abbrev cX11_copy : ByteArray := prog_1_method_5_code
def yX11_copy : MethodName := ⟨RX11, "copy", "(IIIII)I"⟩
abbrev cX11_element : ByteArray := prog_1_method_6_code
def yX11_element : MethodName := ⟨RX11, "element", "(II)J"⟩
abbrev cX11_holds : ByteArray := prog_1_method_7_code
def yX11_holds : MethodName := ⟨RX11, "holds", "(I)I"⟩
abbrev cX11_says : ByteArray := prog_1_method_8_code
def yX11_says : MethodName := ⟨RX11, "says", "(II)I"⟩
abbrev cX11_advert : ByteArray := prog_1_method_9_code
def yX11_advert : MethodName := ⟨RX11, "advert", "(III)I"⟩
abbrev cX11_print : ByteArray := prog_1_method_10_code
def yX11_print : MethodName := ⟨RX11, "print", "(III)I"⟩
abbrev cX11_saw : ByteArray := prog_1_method_11_code
def yX11_saw : MethodName := ⟨RX11, "saw", "(III)I"⟩
abbrev cX11_about : ByteArray := prog_1_method_12_code
def yX11_about : MethodName := ⟨RX11, "about", "(II)I"⟩
abbrev cX11_phrase : ByteArray := prog_1_method_13_code
def yX11_phrase : MethodName := ⟨RX11, "phrase", "(IIII)I"⟩
abbrev cX11_unphrase : ByteArray := prog_1_method_14_code
def yX11_unphrase : MethodName := ⟨RX11, "unphrase", "(I)I"⟩
abbrev cX11_claims : ByteArray := prog_1_method_15_code
def yX11_claims : MethodName := ⟨RX11, "claims", "(III)I"⟩
abbrev cX11_claim : ByteArray := prog_1_method_16_code
def yX11_claim : MethodName := ⟨RX11, "claim", "(III)I"⟩
abbrev cX11_keep : ByteArray := prog_1_method_17_code
def yX11_keep : MethodName := ⟨RX11, "keep", "(III)I"⟩
abbrev cX11_proof : ByteArray := prog_1_method_18_code
def yX11_proof : MethodName := ⟨RX11, "proof", "(III)I"⟩
abbrev cX11_results : ByteArray := prog_1_method_19_code
def yX11_results : MethodName := ⟨RX11, "results", "(IIII)J"⟩
abbrev cX11_measure : ByteArray := prog_1_method_20_code
def yX11_measure : MethodName := ⟨RX11, "measure", "(II)I"⟩
abbrev cX11_rule : ByteArray := prog_1_method_21_code
def yX11_rule : MethodName := ⟨RX11, "rule", "(II)I"⟩
abbrev cX11_fault : ByteArray := prog_1_method_22_code
def yX11_fault : MethodName := ⟨RX11, "fault", "()I"⟩
abbrev cX11_strike : ByteArray := prog_1_method_23_code
def yX11_strike : MethodName := ⟨RX11, "strike", "(I)I"⟩
abbrev cX11_bars : ByteArray := prog_1_method_24_code
def yX11_bars : MethodName := ⟨RX11, "bars", "(IIII)I"⟩
abbrev cX11_seat : ByteArray := prog_1_method_25_code
def yX11_seat : MethodName := ⟨RX11, "seat", "(I)I"⟩
abbrev cX11_decide : ByteArray := prog_1_method_26_code
def yX11_decide : MethodName := ⟨RX11, "decide", "(IIII)I"⟩
abbrev cX11_ruling : ByteArray := prog_1_method_27_code
def yX11_ruling : MethodName := ⟨RX11, "ruling", "(II)I"⟩
abbrev cX11_kin : ByteArray := prog_1_method_28_code
def yX11_kin : MethodName := ⟨RX11, "kin", "(II)I"⟩
abbrev cX11_like : ByteArray := prog_1_method_29_code
def yX11_like : MethodName := ⟨RX11, "like", "(III)I"⟩
abbrev cX11_apart : ByteArray := prog_1_method_30_code
def yX11_apart : MethodName := ⟨RX11, "apart", "(III)I"⟩
abbrev cX11_binding : ByteArray := prog_1_method_31_code
def yX11_binding : MethodName := ⟨RX11, "binding", "(II)I"⟩
abbrev cX11_clash : ByteArray := prog_1_method_32_code
def yX11_clash : MethodName := ⟨RX11, "clash", "(II)I"⟩
abbrev cX11_appeal : ByteArray := prog_1_method_33_code
def yX11_appeal : MethodName := ⟨RX11, "appeal", "(IZ)I"⟩
abbrev cX11_step : ByteArray := prog_1_method_34_code
def yX11_step : MethodName := ⟨RX11, "step", "(I)I"⟩
abbrev cX11_least : ByteArray := prog_1_method_35_code
def yX11_least : MethodName := ⟨RX11, "least", "(I)I"⟩
abbrev cX11_leastSet : ByteArray := prog_1_method_36_code
def yX11_leastSet : MethodName := ⟨RX11, "leastSet", "()I"⟩
abbrev cX11_judge : ByteArray := prog_1_method_37_code
def yX11_judge : MethodName := ⟨RX11, "judge", "(II)I"⟩
abbrev cX11_beside : ByteArray := prog_1_method_38_code
def yX11_beside : MethodName := ⟨RX11, "beside", "(I)I"⟩
abbrev cX11_stop : ByteArray := prog_1_method_39_code
def yX11_stop : MethodName := ⟨RX11, "stop", "(IIZ)I"⟩
abbrev cX11_stopped : ByteArray := prog_1_method_40_code
def yX11_stopped : MethodName := ⟨RX11, "stopped", "(IIZ)I"⟩
abbrev cX11_status : ByteArray := prog_1_method_41_code
def yX11_status : MethodName := ⟨RX11, "status", "(I)I"⟩
abbrev cX11_refused : ByteArray := prog_1_method_42_code
def yX11_refused : MethodName := ⟨RX11, "refused", "(I)I"⟩
abbrev cX11_bit : ByteArray := prog_1_method_43_code
def yX11_bit : MethodName := ⟨RX11, "bit", "(Z)I"⟩
abbrev cX11_isShelf : ByteArray := prog_1_method_44_code
def yX11_isShelf : MethodName := ⟨RX11, "isShelf", "(I)Z"⟩
abbrev cX11_isFirm : ByteArray := prog_1_method_45_code
def yX11_isFirm : MethodName := ⟨RX11, "isFirm", "(I)Z"⟩
abbrev cX11_isKind : ByteArray := prog_1_method_46_code
def yX11_isKind : MethodName := ⟨RX11, "isKind", "(I)Z"⟩
abbrev cX11_isSubject : ByteArray := prog_1_method_47_code
def yX11_isSubject : MethodName := ⟨RX11, "isSubject", "(I)Z"⟩
abbrev cX11_isDay : ByteArray := prog_1_method_48_code
def yX11_isDay : MethodName := ⟨RX11, "isDay", "(I)Z"⟩
abbrev cX11_isPaper : ByteArray := prog_1_method_49_code
def yX11_isPaper : MethodName := ⟨RX11, "isPaper", "(I)Z"⟩
abbrev cX11_lackOfRow : ByteArray := prog_1_method_50_code
def yX11_lackOfRow : MethodName := ⟨RX11, "lackOfRow", "(I)I"⟩
abbrev cX11_advertOf : ByteArray := prog_1_method_51_code
def yX11_advertOf : MethodName := ⟨RX11, "advertOf", "(I)LAdvertCouncil$Advert;"⟩
abbrev cX11_endedNow : ByteArray := prog_1_method_52_code
def yX11_endedNow : MethodName := ⟨RX11, "endedNow", "(LAdvertCouncil$Span;)I"⟩
abbrev cX11_read : ByteArray := prog_1_method_53_code
def yX11_read : MethodName := ⟨RX11, "read", "(LAdvertCouncil$Advert;II)V"⟩
abbrev cX11_claimOf : ByteArray := prog_1_method_54_code
def yX11_claimOf : MethodName := ⟨RX11, "claimOf", "(LAdvertCouncil$Advert;III)LAdvertCouncil$Phrase;"⟩
abbrev cX11_claimNow : ByteArray := prog_1_method_55_code
def yX11_claimNow : MethodName := ⟨RX11, "claimNow", "(LAdvertCouncil$Advert;I)LAdvertCouncil$Phrase;"⟩
abbrev cX11_tellingPhrases : ByteArray := prog_1_method_56_code
def yX11_tellingPhrases : MethodName := ⟨RX11, "tellingPhrases", "(II)I"⟩
abbrev cX11_rulesInForce : ByteArray := prog_1_method_57_code
def yX11_rulesInForce : MethodName := ⟨RX11, "rulesInForce", "(II)I"⟩
abbrev cX11_isTakenBack : ByteArray := prog_1_method_58_code
def yX11_isTakenBack : MethodName := ⟨RX11, "isTakenBack", "(LAdvertCouncil$Advert;LAdvertCouncil$Phrase;II)Z"⟩
abbrev cX11_tellFacts : ByteArray := prog_1_method_59_code
def yX11_tellFacts : MethodName := ⟨RX11, "tellFacts", "(LAdvertCouncil$Advert;LAdvertCouncil$Phrase;II)V"⟩
abbrev cX11_barringRule : ByteArray := prog_1_method_60_code
def yX11_barringRule : MethodName := ⟨RX11, "barringRule", "(I)I"⟩
abbrev cX11_barredPhrases : ByteArray := prog_1_method_61_code
def yX11_barredPhrases : MethodName := ⟨RX11, "barredPhrases", "(LAdvertCouncil$Advert;II)I"⟩
abbrev cX11_leastStruck : ByteArray := prog_1_method_62_code
def yX11_leastStruck : MethodName := ⟨RX11, "leastStruck", "(LAdvertCouncil$Advert;II)I"⟩
abbrev cX11_standsWithout : ByteArray := prog_1_method_63_code
def yX11_standsWithout : MethodName := ⟨RX11, "standsWithout", "(LAdvertCouncil$Advert;III)Z"⟩
def RX12 : String := "AdvertCouncilModel"
def TX12 : u_T := fun k => match k with
  | 0 => ("AdvertCouncilModel", "now", "I", false)
  | 1 => ("AdvertCouncilModel", "adverts", "I", false)
  | 2 => ("AdvertCouncilModel", "phrases", "I", false)
  | 3 => ("AdvertCouncilModel", "proofs", "I", false)
  | 4 => ("AdvertCouncilModel", "rules", "I", false)
  | 5 => ("AdvertCouncilModel", "seats", "I", false)
  | 6 => ("AdvertCouncilModel", "rulings", "I", false)
  | 7 => ("AdvertCouncilModel", "share", "I", false)
  | 8 => ("AdvertCouncilModel", "tenth", "I", false)
  | 9 => ("AdvertCouncilModel", "fault", "I", false)
  | 10 => ("AdvertCouncilModel", "leastSet", "I", false)
  | 11 => ("AdvertCouncilModel", "held", "[I", true)
  | 12 => ("AdvertCouncilModel", "sort", "[I", true)
  | 13 => ("AdvertCouncilModel", "size", "[I", true)
  | 14 => ("AdvertCouncilModel", "shelfPhrase", "[I", true)
  | 15 => ("AdvertCouncilModel", "shelfKind", "[I", true)
  | 16 => ("AdvertCouncilModel", "shelfSubject", "[I", true)
  | 17 => ("AdvertCouncilModel", "shelfNumber", "[I", true)
  | 18 => ("AdvertCouncilModel", "cells", "[J", true)
  | 19 => ("AdvertCouncilModel", "carried", "[J", true)
  | 20 => ("AdvertCouncilModel", "firm", "[I", true)
  | 21 => ("AdvertCouncilModel", "medium", "[I", true)
  | 22 => ("AdvertCouncilModel", "wordN", "[I", true)
  | 23 => ("AdvertCouncilModel", "printN", "[I", true)
  | 24 => ("AdvertCouncilModel", "printSize", "[I", true)
  | 25 => ("AdvertCouncilModel", "children", "[I", true)
  | 26 => ("AdvertCouncilModel", "others", "[I", true)
  | 27 => ("AdvertCouncilModel", "toldOn", "[I", true)
  | 28 => ("AdvertCouncilModel", "word", "[I", true)
  | 29 => ("AdvertCouncilModel", "print", "[I", true)
  | 30 => ("AdvertCouncilModel", "askedOn", "[I", true)
  | 31 => ("AdvertCouncilModel", "didOn", "[I", true)
  | 32 => ("AdvertCouncilModel", "pN", "[I", true)
  | 33 => ("AdvertCouncilModel", "pWord", "[I", true)
  | 34 => ("AdvertCouncilModel", "pKind", "[I", true)
  | 35 => ("AdvertCouncilModel", "pSubject", "[I", true)
  | 36 => ("AdvertCouncilModel", "pNumber", "[I", true)
  | 37 => ("AdvertCouncilModel", "pFrom", "[I", true)
  | 38 => ("AdvertCouncilModel", "pTold", "[I", true)
  | 39 => ("AdvertCouncilModel", "pStruck", "[I", true)
  | 40 => ("AdvertCouncilModel", "fFirm", "[I", true)
  | 41 => ("AdvertCouncilModel", "fSubject", "[I", true)
  | 42 => ("AdvertCouncilModel", "fDay", "[I", true)
  | 43 => ("AdvertCouncilModel", "fN", "[I", true)
  | 44 => ("AdvertCouncilModel", "result", "[I", true)
  | 45 => ("AdvertCouncilModel", "rFrom", "[I", true)
  | 46 => ("AdvertCouncilModel", "rTold", "[I", true)
  | 47 => ("AdvertCouncilModel", "rStruck", "[I", true)
  | 48 => ("AdvertCouncilModel", "rCode", "[I", true)
  | 49 => ("AdvertCouncilModel", "code", "[I", true)
  | 50 => ("AdvertCouncilModel", "leftField", "[I", true)
  | 51 => ("AdvertCouncilModel", "leftBy", "[I", true)
  | 52 => ("AdvertCouncilModel", "sign", "[I", true)
  | 53 => ("AdvertCouncilModel", "rightField", "[I", true)
  | 54 => ("AdvertCouncilModel", "rightBy", "[I", true)
  | 55 => ("AdvertCouncilModel", "kin", "[I", true)
  | 56 => ("AdvertCouncilModel", "uFirm", "[I", true)
  | 57 => ("AdvertCouncilModel", "uMedium", "[I", true)
  | 58 => ("AdvertCouncilModel", "uKind", "[I", true)
  | 59 => ("AdvertCouncilModel", "uSubject", "[I", true)
  | 60 => ("AdvertCouncilModel", "uNumber", "[I", true)
  | 61 => ("AdvertCouncilModel", "uDay", "[I", true)
  | 62 => ("AdvertCouncilModel", "uBar", "[I", true)
  | 63 => ("AdvertCouncilModel", "uNot", "[I", true)
  | 64 => ("AdvertCouncilModel", "uBinding", "[I", true)
  | 65 => ("AdvertCouncilModel", "uState", "[I", true)
  | 66 => ("AdvertCouncilModel", "uCounted", "[I", true)
  | 67 => ("AdvertCouncilModel", "uBars", "[Z", true)
  | 68 => ("AdvertCouncilModel", "uAgain", "[Z", true)
  | 69 => ("AdvertCouncilModel", "uAppealed", "[Z", true)
  | 70 => ("AdvertCouncilModel", "refused", "[I", true)
  | 71 => ("AdvertCouncilModel", "kept", "[I", true)
  | 72 => ("AdvertCouncilModel", "keptN", "I", false)
  | 73 => ("AdvertCouncilModel", "claimPhrase", "[I", true)
  | 74 => ("AdvertCouncilModel", "claimPlace", "[I", true)
  | 75 => ("AdvertCouncilModel", "claimN", "I", false)
  | 76 => ("AdvertCouncilModel", "resultN", "I", false)
  | 77 => ("AdvertCouncilModel", "resultSum", "J", false)
  | 78 => ("AdvertCouncilModel", "ops", "[I", true)
  | 79 => ("AdvertCouncilModel", "worths", "[I", true)
  | 80 => ("AdvertCouncilModel", "at", "I", false)
  | 81 => ("AdvertCouncilModel", "end", "I", false)
  | 82 => ("AdvertCouncilModel", "base", "I", false)
  | 83 => ("AdvertCouncilModel", "codeN", "I", false)
  | 84 => ("AdvertCouncilModel", "tests", "I", false)
  | 85 => ("AdvertCouncilModel", "opsN", "I", false)
  | 86 => ("AdvertCouncilModel", "depth", "I", false)
  | 87 => ("AdvertCouncilModel", "field", "I", false)
  | 88 => ("AdvertCouncilModel", "by", "I", false)
  | _ => ("AdvertCouncilModel", "isBad", "[Z", true)
def tyX12 : Nat → FieldType := fun k => match k with
  | 0 => .int
  | 1 => .int
  | 2 => .int
  | 3 => .int
  | 4 => .int
  | 5 => .int
  | 6 => .int
  | 7 => .int
  | 8 => .int
  | 9 => .int
  | 10 => .int
  | 11 => .array .int
  | 12 => .array .int
  | 13 => .array .int
  | 14 => .array .int
  | 15 => .array .int
  | 16 => .array .int
  | 17 => .array .int
  | 18 => .array .long
  | 19 => .array .long
  | 20 => .array .int
  | 21 => .array .int
  | 22 => .array .int
  | 23 => .array .int
  | 24 => .array .int
  | 25 => .array .int
  | 26 => .array .int
  | 27 => .array .int
  | 28 => .array .int
  | 29 => .array .int
  | 30 => .array .int
  | 31 => .array .int
  | 32 => .array .int
  | 33 => .array .int
  | 34 => .array .int
  | 35 => .array .int
  | 36 => .array .int
  | 37 => .array .int
  | 38 => .array .int
  | 39 => .array .int
  | 40 => .array .int
  | 41 => .array .int
  | 42 => .array .int
  | 43 => .array .int
  | 44 => .array .int
  | 45 => .array .int
  | 46 => .array .int
  | 47 => .array .int
  | 48 => .array .int
  | 49 => .array .int
  | 50 => .array .int
  | 51 => .array .int
  | 52 => .array .int
  | 53 => .array .int
  | 54 => .array .int
  | 55 => .array .int
  | 56 => .array .int
  | 57 => .array .int
  | 58 => .array .int
  | 59 => .array .int
  | 60 => .array .int
  | 61 => .array .int
  | 62 => .array .int
  | 63 => .array .int
  | 64 => .array .int
  | 65 => .array .int
  | 66 => .array .int
  | 67 => .array .boolean
  | 68 => .array .boolean
  | 69 => .array .boolean
  | 70 => .array .int
  | 71 => .array .int
  | 72 => .int
  | 73 => .array .int
  | 74 => .array .int
  | 75 => .int
  | 76 => .int
  | 77 => .long
  | 78 => .array .int
  | 79 => .array .int
  | 80 => .int
  | 81 => .int
  | 82 => .int
  | 83 => .int
  | 84 => .int
  | 85 => .int
  | 86 => .int
  | 87 => .int
  | 88 => .int
  | _ => .array .boolean
abbrev wsX120 : List Cond := u_ws RX12 TX12 90
theorem nmX12 : ∀ a, a < 90 → ∀ b, b < 90 → a ≠ b → (TX12 a).2.1 ≠ (TX12 b).2.1 := by decide +kernel
theorem tyX12_ok : ∀ k, k < 90 → parseFieldDescriptor (TX12 k).2.2.1 = some (tyX12 k) := by decide +kernel
abbrev cX12_init : ByteArray := prog_14_method_1_code
def yX12_init : MethodName := ⟨RX12, "<init>", "()V"⟩
abbrev cX12_no : ByteArray := prog_14_method_2_code
def yX12_no : MethodName := ⟨RX12, "no", "(I)I"⟩
abbrev cX12_isShelf : ByteArray := prog_14_method_3_code
def yX12_isShelf : MethodName := ⟨RX12, "isShelf", "(I)Z"⟩
abbrev cX12_isFirm : ByteArray := prog_14_method_4_code
def yX12_isFirm : MethodName := ⟨RX12, "isFirm", "(I)Z"⟩
abbrev cX12_isAdvert : ByteArray := prog_14_method_5_code
def yX12_isAdvert : MethodName := ⟨RX12, "isAdvert", "(I)Z"⟩
abbrev cX12_days : ByteArray := prog_14_method_6_code
def yX12_days : MethodName := ⟨RX12, "days", "(I)I"⟩
abbrev cX12_row : ByteArray := prog_14_method_7_code
def yX12_row : MethodName := ⟨RX12, "row", "(III)I"⟩
abbrev cX12_set : ByteArray := prog_14_method_8_code
def yX12_set : MethodName := ⟨RX12, "set", "(IIJ)I"⟩
abbrev cX12_copy : ByteArray := prog_14_method_9_code
def yX12_copy : MethodName := ⟨RX12, "copy", "(IIIII)I"⟩
abbrev cX12_element : ByteArray := prog_14_method_10_code
def yX12_element : MethodName := ⟨RX12, "element", "(II)J"⟩
abbrev cX12_holds : ByteArray := prog_14_method_11_code
def yX12_holds : MethodName := ⟨RX12, "holds", "(I)I"⟩
abbrev cX12_says : ByteArray := prog_14_method_12_code
def yX12_says : MethodName := ⟨RX12, "says", "(II)I"⟩
abbrev cX12_wants : ByteArray := prog_14_method_13_code
def yX12_wants : MethodName := ⟨RX12, "wants", "(I)I"⟩
abbrev cX12_intAt : ByteArray := prog_14_method_14_code
def yX12_intAt : MethodName := ⟨RX12, "intAt", "(II)I"⟩
abbrev cX12_advert : ByteArray := prog_14_method_15_code
def yX12_advert : MethodName := ⟨RX12, "advert", "(III)I"⟩
abbrev cX12_print : ByteArray := prog_14_method_16_code
def yX12_print : MethodName := ⟨RX12, "print", "(III)I"⟩
abbrev cX12_saw : ByteArray := prog_14_method_17_code
def yX12_saw : MethodName := ⟨RX12, "saw", "(III)I"⟩
abbrev cX12_about : ByteArray := prog_14_method_18_code
def yX12_about : MethodName := ⟨RX12, "about", "(II)I"⟩
abbrev cX12_phrase : ByteArray := prog_14_method_19_code
def yX12_phrase : MethodName := ⟨RX12, "phrase", "(IIII)I"⟩
abbrev cX12_unphrase : ByteArray := prog_14_method_20_code
def yX12_unphrase : MethodName := ⟨RX12, "unphrase", "(I)I"⟩
abbrev cX12_isIn : ByteArray := prog_14_method_21_code
def yX12_isIn : MethodName := ⟨RX12, "isIn", "(IIIII)Z"⟩
abbrev cX12_isPhraseIn : ByteArray := prog_14_method_22_code
def yX12_isPhraseIn : MethodName := ⟨RX12, "isPhraseIn", "(III)Z"⟩
abbrev cX12_strikes : ByteArray := prog_14_method_23_code
def yX12_strikes : MethodName := ⟨RX12, "strikes", "(II)V"⟩
abbrev cX12_standsAt : ByteArray := prog_14_method_24_code
def yX12_standsAt : MethodName := ⟨RX12, "standsAt", "(I[IIII)Z"⟩
abbrev cX12_reads : ByteArray := prog_14_method_25_code
def yX12_reads : MethodName := ⟨RX12, "reads", "(II)V"⟩
abbrev cX12_readsAll : ByteArray := prog_14_method_26_code
def yX12_readsAll : MethodName := ⟨RX12, "readsAll", "(III)V"⟩
abbrev cX12_isTakenBack : ByteArray := prog_14_method_27_code
def yX12_isTakenBack : MethodName := ⟨RX12, "isTakenBack", "(IIII)Z"⟩
abbrev cX12_sums : ByteArray := prog_14_method_28_code
def yX12_sums : MethodName := ⟨RX12, "sums", "(III)Z"⟩
abbrev cX12_noLess : ByteArray := prog_14_method_29_code
def yX12_noLess : MethodName := ⟨RX12, "noLess", "(IIII)I"⟩
abbrev cX12_isBorneOut : ByteArray := prog_14_method_30_code
def yX12_isBorneOut : MethodName := ⟨RX12, "isBorneOut", "(III)Z"⟩
abbrev cX12_isAgain : ByteArray := prog_14_method_31_code
def yX12_isAgain : MethodName := ⟨RX12, "isAgain", "(IIII)Z"⟩
abbrev cX12_claims : ByteArray := prog_14_method_32_code
def yX12_claims : MethodName := ⟨RX12, "claims", "(III)I"⟩
abbrev cX12_phraseOf : ByteArray := prog_14_method_33_code
def yX12_phraseOf : MethodName := ⟨RX12, "phraseOf", "(II)I"⟩
abbrev cX12_claim : ByteArray := prog_14_method_34_code
def yX12_claim : MethodName := ⟨RX12, "claim", "(III)I"⟩
abbrev cX12_keep : ByteArray := prog_14_method_35_code
def yX12_keep : MethodName := ⟨RX12, "keep", "(III)I"⟩
abbrev cX12_proof : ByteArray := prog_14_method_36_code
def yX12_proof : MethodName := ⟨RX12, "proof", "(III)I"⟩
abbrev cX12_results : ByteArray := prog_14_method_37_code
def yX12_results : MethodName := ⟨RX12, "results", "(IIII)J"⟩
abbrev cX12_measure : ByteArray := prog_14_method_38_code
def yX12_measure : MethodName := ⟨RX12, "measure", "(II)I"⟩
abbrev cX12_letter : ByteArray := prog_14_method_39_code
def yX12_letter : MethodName := ⟨RX12, "letter", "()I"⟩
abbrev cX12_is : ByteArray := prog_14_method_40_code
def yX12_is : MethodName := ⟨RX12, "is", "(I)Z"⟩
abbrev cX12_isField : ByteArray := prog_14_method_41_code
def yX12_isField : MethodName := ⟨RX12, "isField", "()Z"⟩
abbrev cX12_isSide : ByteArray := prog_14_method_42_code
def yX12_isSide : MethodName := ⟨RX12, "isSide", "()Z"⟩
abbrev cX12_isTest : ByteArray := prog_14_method_43_code
def yX12_isTest : MethodName := ⟨RX12, "isTest", "(I)Z"⟩
abbrev cX12_emits : ByteArray := prog_14_method_44_code
def yX12_emits : MethodName := ⟨RX12, "emits", "(II)V"⟩
abbrev cX12_closes : ByteArray := prog_14_method_45_code
def yX12_closes : MethodName := ⟨RX12, "closes", "(I)V"⟩
abbrev cX12_pops : ByteArray := prog_14_method_46_code
def yX12_pops : MethodName := ⟨RX12, "pops", "(IZ)V"⟩
abbrev cX12_compiles : ByteArray := prog_14_method_47_code
def yX12_compiles : MethodName := ⟨RX12, "compiles", "(II)I"⟩
abbrev cX12_rule : ByteArray := prog_14_method_48_code
def yX12_rule : MethodName := ⟨RX12, "rule", "(II)I"⟩
abbrev cX12_fault : ByteArray := prog_14_method_49_code
def yX12_fault : MethodName := ⟨RX12, "fault", "()I"⟩
abbrev cX12_strike : ByteArray := prog_14_method_50_code
def yX12_strike : MethodName := ⟨RX12, "strike", "(I)I"⟩
abbrev cX12_valueOf : ByteArray := prog_14_method_51_code
def yX12_valueOf : MethodName := ⟨RX12, "valueOf", "(IIIII)I"⟩
abbrev cX12_holds_ : ByteArray := prog_14_method_52_code
def yX12_holds_ : MethodName := ⟨RX12, "holds", "(IIIII)Z"⟩
abbrev cX12_barred : ByteArray := prog_14_method_53_code
def yX12_barred : MethodName := ⟨RX12, "barred", "(IIII)I"⟩
abbrev cX12_bars : ByteArray := prog_14_method_54_code
def yX12_bars : MethodName := ⟨RX12, "bars", "(IIII)I"⟩
abbrev cX12_seat : ByteArray := prog_14_method_55_code
def yX12_seat : MethodName := ⟨RX12, "seat", "(I)I"⟩
abbrev cX12_counted : ByteArray := prog_14_method_56_code
def yX12_counted : MethodName := ⟨RX12, "counted", "(II)I"⟩
abbrev cX12_isLike : ByteArray := prog_14_method_57_code
def yX12_isLike : MethodName := ⟨RX12, "isLike", "(II)Z"⟩
abbrev cX12_bindingOn : ByteArray := prog_14_method_58_code
def yX12_bindingOn : MethodName := ⟨RX12, "bindingOn", "(II)I"⟩
abbrev cX12_decide : ByteArray := prog_14_method_59_code
def yX12_decide : MethodName := ⟨RX12, "decide", "(IIII)I"⟩
abbrev cX12_isRuling : ByteArray := prog_14_method_60_code
def yX12_isRuling : MethodName := ⟨RX12, "isRuling", "(I)Z"⟩
abbrev cX12_ruling : ByteArray := prog_14_method_61_code
def yX12_ruling : MethodName := ⟨RX12, "ruling", "(II)I"⟩
abbrev cX12_kin : ByteArray := prog_14_method_62_code
def yX12_kin : MethodName := ⟨RX12, "kin", "(II)I"⟩
abbrev cX12_like : ByteArray := prog_14_method_63_code
def yX12_like : MethodName := ⟨RX12, "like", "(III)I"⟩
abbrev cX12_apart : ByteArray := prog_14_method_64_code
def yX12_apart : MethodName := ⟨RX12, "apart", "(III)I"⟩
abbrev cX12_binding : ByteArray := prog_14_method_65_code
def yX12_binding : MethodName := ⟨RX12, "binding", "(II)I"⟩
abbrev cX12_clash : ByteArray := prog_14_method_66_code
def yX12_clash : MethodName := ⟨RX12, "clash", "(II)I"⟩
abbrev cX12_appeal : ByteArray := prog_14_method_67_code
def yX12_appeal : MethodName := ⟨RX12, "appeal", "(IZ)I"⟩
abbrev cX12_step : ByteArray := prog_14_method_68_code
def yX12_step : MethodName := ⟨RX12, "step", "(I)I"⟩
abbrev cX12_weighs : ByteArray := prog_14_method_69_code
def yX12_weighs : MethodName := ⟨RX12, "weighs", "(I)V"⟩
abbrev cX12_isClear : ByteArray := prog_14_method_70_code
def yX12_isClear : MethodName := ⟨RX12, "isClear", "(II)Z"⟩
abbrev cX12_bits : ByteArray := prog_14_method_71_code
def yX12_bits : MethodName := ⟨RX12, "bits", "(I)I"⟩
abbrev cX12_least : ByteArray := prog_14_method_72_code
def yX12_least : MethodName := ⟨RX12, "least", "(I)I"⟩
abbrev cX12_leastSet : ByteArray := prog_14_method_73_code
def yX12_leastSet : MethodName := ⟨RX12, "leastSet", "()I"⟩
abbrev cX12_judge : ByteArray := prog_14_method_74_code
def yX12_judge : MethodName := ⟨RX12, "judge", "(II)I"⟩
abbrev cX12_beside : ByteArray := prog_14_method_75_code
def yX12_beside : MethodName := ⟨RX12, "beside", "(I)I"⟩
abbrev cX12_stop : ByteArray := prog_14_method_76_code
def yX12_stop : MethodName := ⟨RX12, "stop", "(IIZ)I"⟩
abbrev cX12_stopped : ByteArray := prog_14_method_77_code
def yX12_stopped : MethodName := ⟨RX12, "stopped", "(IIZ)I"⟩
abbrev cX12_status : ByteArray := prog_14_method_78_code
def yX12_status : MethodName := ⟨RX12, "status", "(I)I"⟩
def RJx145de : String := "java/io/Serializable"
def TJx145de : u_T := fun k => match k with
  | _ => ("", "", "", false)
def tyJx145de : Nat → FieldType := fun k => match k with
  | _ => .int
abbrev wsJx145de0 : List Cond := u_ws RJx145de TJx145de 0
theorem nmJx145de : ∀ a, a < 0 → ∀ b, b < 0 → a ≠ b → (TJx145de a).2.1 ≠ (TJx145de b).2.1 := by decide +kernel
theorem tyJx145de_ok : ∀ k, k < 0 → parseFieldDescriptor (TJx145de k).2.2.1 = some (tyJx145de k) := by decide +kernel
def RJx9f9b0 : String := "java/lang/CharSequence"
def TJx9f9b0 : u_T := fun k => match k with
  | _ => ("", "", "", false)
def tyJx9f9b0 : Nat → FieldType := fun k => match k with
  | _ => .int
abbrev wsJx9f9b00 : List Cond := u_ws RJx9f9b0 TJx9f9b0 0
theorem nmJx9f9b0 : ∀ a, a < 0 → ∀ b, b < 0 → a ≠ b → (TJx9f9b0 a).2.1 ≠ (TJx9f9b0 b).2.1 := by decide +kernel
theorem tyJx9f9b0_ok : ∀ k, k < 0 → parseFieldDescriptor (TJx9f9b0 k).2.2.1 = some (tyJx9f9b0 k) := by decide +kernel
def RJx8e188 : String := "java/lang/Cloneable"
def TJx8e188 : u_T := fun k => match k with
  | _ => ("", "", "", false)
def tyJx8e188 : Nat → FieldType := fun k => match k with
  | _ => .int
abbrev wsJx8e1880 : List Cond := u_ws RJx8e188 TJx8e188 0
theorem nmJx8e188 : ∀ a, a < 0 → ∀ b, b < 0 → a ≠ b → (TJx8e188 a).2.1 ≠ (TJx8e188 b).2.1 := by decide +kernel
theorem tyJx8e188_ok : ∀ k, k < 0 → parseFieldDescriptor (TJx8e188 k).2.2.1 = some (tyJx8e188 k) := by decide +kernel
def RJxb160c : String := "java/lang/Comparable"
def TJxb160c : u_T := fun k => match k with
  | _ => ("", "", "", false)
def tyJxb160c : Nat → FieldType := fun k => match k with
  | _ => .int
abbrev wsJxb160c0 : List Cond := u_ws RJxb160c TJxb160c 0
theorem nmJxb160c : ∀ a, a < 0 → ∀ b, b < 0 → a ≠ b → (TJxb160c a).2.1 ≠ (TJxb160c b).2.1 := by decide +kernel
theorem tyJxb160c_ok : ∀ k, k < 0 → parseFieldDescriptor (TJxb160c k).2.2.1 = some (tyJxb160c k) := by decide +kernel
def RJ6 : String := "java/lang/Integer"
def TJ6 : u_T := fun k => match k with
  | _ => ("", "", "", false)
def tyJ6 : Nat → FieldType := fun k => match k with
  | _ => .int
abbrev wsJ60 : List Cond := u_ws RJ6 TJ6 0
theorem nmJ6 : ∀ a, a < 0 → ∀ b, b < 0 → a ≠ b → (TJ6 a).2.1 ≠ (TJ6 b).2.1 := by decide +kernel
theorem tyJ6_ok : ∀ k, k < 0 → parseFieldDescriptor (TJ6 k).2.2.1 = some (tyJ6 k) := by decide +kernel
abbrev cJ6_bitCount_0f7a4 : ByteArray := prog_19_method_49_code
def yJ6_bitCount_0f7a4 : MethodName := ⟨RJ6, "bitCount", "(I)I"⟩
def RJxab1ab : String := "java/lang/Iterable"
def TJxab1ab : u_T := fun k => match k with
  | _ => ("", "", "", false)
def tyJxab1ab : Nat → FieldType := fun k => match k with
  | _ => .int
abbrev wsJxab1ab0 : List Cond := u_ws RJxab1ab TJxab1ab 0
theorem nmJxab1ab : ∀ a, a < 0 → ∀ b, b < 0 → a ≠ b → (TJxab1ab a).2.1 ≠ (TJxab1ab b).2.1 := by decide +kernel
theorem tyJxab1ab_ok : ∀ k, k < 0 → parseFieldDescriptor (TJxab1ab k).2.2.1 = some (tyJxab1ab k) := by decide +kernel
def RJ9 : String := "java/lang/Math"
def TJ9 : u_T := fun k => match k with
  | _ => ("", "", "", false)
def tyJ9 : Nat → FieldType := fun k => match k with
  | _ => .int
abbrev wsJ90 : List Cond := u_ws RJ9 TJ9 0
theorem nmJ9 : ∀ a, a < 0 → ∀ b, b < 0 → a ≠ b → (TJ9 a).2.1 ≠ (TJ9 b).2.1 := by decide +kernel
theorem tyJ9_ok : ∀ k, k < 0 → parseFieldDescriptor (TJ9 k).2.2.1 = some (tyJ9 k) := by decide +kernel
abbrev cJ9_abs_0f7a4 : ByteArray := prog_21_method_59_code
def yJ9_abs_0f7a4 : MethodName := ⟨RJ9, "abs", "(I)I"⟩
abbrev cJ9_max_7cf53 : ByteArray := prog_21_method_65_code
def yJ9_max_7cf53 : MethodName := ⟨RJ9, "max", "(II)I"⟩
abbrev cJ9_min_7cf53 : ByteArray := prog_21_method_69_code
def yJ9_min_7cf53 : MethodName := ⟨RJ9, "min", "(II)I"⟩
def RJ0 : String := "java/lang/String"
def TJ0 : u_T := fun k => match k with
  | _ => ("", "", "", false)
def tyJ0 : Nat → FieldType := fun k => match k with
  | _ => .int
abbrev wsJ00 : List Cond := u_ws RJ0 TJ0 0
theorem nmJ0 : ∀ a, a < 0 → ∀ b, b < 0 → a ≠ b → (TJ0 a).2.1 ≠ (TJ0 b).2.1 := by decide +kernel
theorem tyJ0_ok : ∀ k, k < 0 → parseFieldDescriptor (TJ0 k).2.2.1 = some (tyJ0 k) := by decide +kernel
abbrev cJ0_length_8abf5 : ByteArray := prog_22_method_54_code
def yJ0_length_8abf5 : MethodName := ⟨RJ0, "length", "()I"⟩
abbrev cJ0_charAt_5068e : ByteArray := prog_22_method_56_code
def yJ0_charAt_5068e : MethodName := ⟨RJ0, "charAt", "(I)C"⟩
abbrev cJ0_coder_7d493 : ByteArray := prog_22_method_152_code
def yJ0_coder_7d493 : MethodName := ⟨RJ0, "coder", "()B"⟩
abbrev cJ0_isLatin1_aae02 : ByteArray := prog_22_method_154_code
def yJ0_isLatin1_aae02 : MethodName := ⟨RJ0, "isLatin1", "()Z"⟩
abbrev cJ0_checkIndex_df160 : ByteArray := prog_22_method_155_code
def yJ0_checkIndex_df160 : MethodName := ⟨RJ0, "checkIndex", "(II)V"⟩
def RJ1 : String := "java/lang/StringLatin1"
def TJ1 : u_T := fun k => match k with
  | _ => ("", "", "", false)
def tyJ1 : Nat → FieldType := fun k => match k with
  | _ => .int
abbrev wsJ10 : List Cond := u_ws RJ1 TJ1 0
theorem nmJ1 : ∀ a, a < 0 → ∀ b, b < 0 → a ≠ b → (TJ1 a).2.1 ≠ (TJ1 b).2.1 := by decide +kernel
theorem tyJ1_ok : ∀ k, k < 0 → parseFieldDescriptor (TJ1 k).2.2.1 = some (tyJ1 k) := by decide +kernel
abbrev cJ1_charAt_3b067 : ByteArray := prog_23_method_2_code
def yJ1_charAt_3b067 : MethodName := ⟨RJ1, "charAt", "([BI)C"⟩
def RJ2 : String := "java/lang/StringUTF16"
def TJ2 : u_T := fun k => match k with
  | _ => ("", "", "", false)
def tyJ2 : Nat → FieldType := fun k => match k with
  | _ => .int
abbrev wsJ20 : List Cond := u_ws RJ2 TJ2 0
theorem nmJ2 : ∀ a, a < 0 → ∀ b, b < 0 → a ≠ b → (TJ2 a).2.1 ≠ (TJ2 b).2.1 := by decide +kernel
theorem tyJ2_ok : ∀ k, k < 0 → parseFieldDescriptor (TJ2 k).2.2.1 = some (tyJ2 k) := by decide +kernel
abbrev cJ2_getChar_3b067 : ByteArray := prog_24_method_5_code
def yJ2_getChar_3b067 : MethodName := ⟨RJ2, "getChar", "([BI)C"⟩
abbrev cJ2_length_9d52b : ByteArray := prog_24_method_6_code
def yJ2_length_9d52b : MethodName := ⟨RJ2, "length", "([B)I"⟩
abbrev cJ2_charAt_3b067 : ByteArray := prog_24_method_83_code
def yJ2_charAt_3b067 : MethodName := ⟨RJ2, "charAt", "([BI)C"⟩
abbrev cJ2_checkIndex_2214a : ByteArray := prog_24_method_91_code
def yJ2_checkIndex_2214a : MethodName := ⟨RJ2, "checkIndex", "(I[B)V"⟩
def RJ10 : String := "java/lang/System"
def TJ10 : u_T := fun k => match k with
  | _ => ("", "", "", false)
def tyJ10 : Nat → FieldType := fun k => match k with
  | _ => .int
abbrev wsJ100 : List Cond := u_ws RJ10 TJ10 0
theorem nmJ10 : ∀ a, a < 0 → ∀ b, b < 0 → a ≠ b → (TJ10 a).2.1 ≠ (TJ10 b).2.1 := by decide +kernel
theorem tyJ10_ok : ∀ k, k < 0 → parseFieldDescriptor (TJ10 k).2.2.1 = some (tyJ10 k) := by decide +kernel
def RJxfd54e : String := "java/lang/constant/Constable"
def TJxfd54e : u_T := fun k => match k with
  | _ => ("", "", "", false)
def tyJxfd54e : Nat → FieldType := fun k => match k with
  | _ => .int
abbrev wsJxfd54e0 : List Cond := u_ws RJxfd54e TJxfd54e 0
theorem nmJxfd54e : ∀ a, a < 0 → ∀ b, b < 0 → a ≠ b → (TJxfd54e a).2.1 ≠ (TJxfd54e b).2.1 := by decide +kernel
theorem tyJxfd54e_ok : ∀ k, k < 0 → parseFieldDescriptor (TJxfd54e k).2.2.1 = some (tyJxfd54e k) := by decide +kernel
def RJx3cf43 : String := "java/lang/constant/ConstantDesc"
def TJx3cf43 : u_T := fun k => match k with
  | _ => ("", "", "", false)
def tyJx3cf43 : Nat → FieldType := fun k => match k with
  | _ => .int
abbrev wsJx3cf430 : List Cond := u_ws RJx3cf43 TJx3cf43 0
theorem nmJx3cf43 : ∀ a, a < 0 → ∀ b, b < 0 → a ≠ b → (TJx3cf43 a).2.1 ≠ (TJx3cf43 b).2.1 := by decide +kernel
theorem tyJx3cf43_ok : ∀ k, k < 0 → parseFieldDescriptor (TJx3cf43 k).2.2.1 = some (tyJx3cf43 k) := by decide +kernel
def RJxa1e45 : String := "java/util/AbstractCollection"
def TJxa1e45 : u_T := fun k => match k with
  | _ => ("", "", "", false)
def tyJxa1e45 : Nat → FieldType := fun k => match k with
  | _ => .int
abbrev wsJxa1e450 : List Cond := u_ws RJxa1e45 TJxa1e45 0
theorem nmJxa1e45 : ∀ a, a < 0 → ∀ b, b < 0 → a ≠ b → (TJxa1e45 a).2.1 ≠ (TJxa1e45 b).2.1 := by decide +kernel
theorem tyJxa1e45_ok : ∀ k, k < 0 → parseFieldDescriptor (TJxa1e45 k).2.2.1 = some (tyJxa1e45 k) := by decide +kernel
abbrev cJxa1e45_init_da8c8 : ByteArray := prog_28_method_1_code
def yJxa1e45_init_da8c8 : MethodName := ⟨RJxa1e45, "<init>", "()V"⟩
def RJxc12de : String := "java/util/AbstractList"
def TJxc12de : u_T := fun k => match k with
  | _ => ("", "", "", false)
def tyJxc12de : Nat → FieldType := fun k => match k with
  | _ => .int
abbrev wsJxc12de0 : List Cond := u_ws RJxc12de TJxc12de 0
theorem nmJxc12de : ∀ a, a < 0 → ∀ b, b < 0 → a ≠ b → (TJxc12de a).2.1 ≠ (TJxc12de b).2.1 := by decide +kernel
theorem tyJxc12de_ok : ∀ k, k < 0 → parseFieldDescriptor (TJxc12de k).2.2.1 = some (tyJxc12de k) := by decide +kernel
abbrev cJxc12de_init_da8c8 : ByteArray := prog_29_method_1_code
def yJxc12de_init_da8c8 : MethodName := ⟨RJxc12de, "<init>", "()V"⟩
def RJx4a65c : String := "java/util/ArrayList"
def TJx4a65c : u_T := fun k => match k with
  | 0 => ("java/util/AbstractList", "modCount", "I", false)
  | 1 => ("java/util/ArrayList", "elementData", "[Ljava/lang/Object;", false)
  | _ => ("java/util/ArrayList", "size", "I", false)
def tyJx4a65c : Nat → FieldType := fun k => match k with
  | 0 => .int
  | 1 => .array (.object "java/lang/Object")
  | _ => .int
abbrev wsJx4a65c0 : List Cond := u_ws RJx4a65c TJx4a65c 3
theorem nmJx4a65c : ∀ a, a < 3 → ∀ b, b < 3 → a ≠ b → (TJx4a65c a).2.1 ≠ (TJx4a65c b).2.1 := by decide +kernel
theorem tyJx4a65c_ok : ∀ k, k < 3 → parseFieldDescriptor (TJx4a65c k).2.2.1 = some (tyJx4a65c k) := by decide +kernel
abbrev cJx4a65c_init_da8c8 : ByteArray := prog_30_method_2_code
def yJx4a65c_init_da8c8 : MethodName := ⟨RJx4a65c, "<init>", "()V"⟩
abbrev cJx4a65c_grow_92f84 : ByteArray := prog_30_method_6_code
def yJx4a65c_grow_92f84 : MethodName := ⟨RJx4a65c, "grow", "(I)[Ljava/lang/Object;"⟩
abbrev cJx4a65c_grow_d5877 : ByteArray := prog_30_method_7_code
def yJx4a65c_grow_d5877 : MethodName := ⟨RJx4a65c, "grow", "()[Ljava/lang/Object;"⟩
abbrev cJx4a65c_size_8abf5 : ByteArray := prog_30_method_8_code
def yJx4a65c_size_8abf5 : MethodName := ⟨RJx4a65c, "size", "()I"⟩
abbrev cJx4a65c_elementData_915e3 : ByteArray := prog_30_method_18_code
def yJx4a65c_elementData_915e3 : MethodName := ⟨RJx4a65c, "elementData", "(I)Ljava/lang/Object;"⟩
abbrev cJx4a65c_get_915e3 : ByteArray := prog_30_method_20_code
def yJx4a65c_get_915e3 : MethodName := ⟨RJx4a65c, "get", "(I)Ljava/lang/Object;"⟩
abbrev cJx4a65c_add_72be8 : ByteArray := prog_30_method_24_code
def yJx4a65c_add_72be8 : MethodName := ⟨RJx4a65c, "add", "(Ljava/lang/Object;[Ljava/lang/Object;I)V"⟩
abbrev cJx4a65c_add_9ea2d : ByteArray := prog_30_method_25_code
def yJx4a65c_add_9ea2d : MethodName := ⟨RJx4a65c, "add", "(Ljava/lang/Object;)Z"⟩
def RJ7 : String := "java/util/Arrays"
def TJ7 : u_T := fun k => match k with
  | _ => ("", "", "", false)
def tyJ7 : Nat → FieldType := fun k => match k with
  | _ => .int
abbrev wsJ70 : List Cond := u_ws RJ7 TJ7 0
theorem nmJ7 : ∀ a, a < 0 → ∀ b, b < 0 → a ≠ b → (TJ7 a).2.1 ≠ (TJ7 b).2.1 := by decide +kernel
theorem tyJ7_ok : ∀ k, k < 0 → parseFieldDescriptor (TJ7 k).2.2.1 = some (tyJ7 k) := by decide +kernel
abbrev cJ7_copyOf_1904c : ByteArray := prog_31_method_119_code
def yJ7_copyOf_1904c : MethodName := ⟨RJ7, "copyOf", "([Ljava/lang/Object;I)[Ljava/lang/Object;"⟩
abbrev cJ7_copyOf_6403c : ByteArray := prog_31_method_120_code
def yJ7_copyOf_6403c : MethodName := ⟨RJ7, "copyOf", "([Ljava/lang/Object;ILjava/lang/Class;)[Ljava/lang/Object;"⟩
def RJx5ef63 : String := "java/util/Collection"
def TJx5ef63 : u_T := fun k => match k with
  | _ => ("", "", "", false)
def tyJx5ef63 : Nat → FieldType := fun k => match k with
  | _ => .int
abbrev wsJx5ef630 : List Cond := u_ws RJx5ef63 TJx5ef63 0
theorem nmJx5ef63 : ∀ a, a < 0 → ∀ b, b < 0 → a ≠ b → (TJx5ef63 a).2.1 ≠ (TJx5ef63 b).2.1 := by decide +kernel
theorem tyJx5ef63_ok : ∀ k, k < 0 → parseFieldDescriptor (TJx5ef63 k).2.2.1 = some (tyJx5ef63 k) := by decide +kernel
def RJxbd725 : String := "java/util/List"
def TJxbd725 : u_T := fun k => match k with
  | _ => ("", "", "", false)
def tyJxbd725 : Nat → FieldType := fun k => match k with
  | _ => .int
abbrev wsJxbd7250 : List Cond := u_ws RJxbd725 TJxbd725 0
theorem nmJxbd725 : ∀ a, a < 0 → ∀ b, b < 0 → a ≠ b → (TJxbd725 a).2.1 ≠ (TJxbd725 b).2.1 := by decide +kernel
theorem tyJxbd725_ok : ∀ k, k < 0 → parseFieldDescriptor (TJxbd725 k).2.2.1 = some (tyJxbd725 k) := by decide +kernel
def RJ15 : String := "java/util/Objects"
def TJ15 : u_T := fun k => match k with
  | _ => ("", "", "", false)
def tyJ15 : Nat → FieldType := fun k => match k with
  | _ => .int
abbrev wsJ150 : List Cond := u_ws RJ15 TJ15 0
theorem nmJ15 : ∀ a, a < 0 → ∀ b, b < 0 → a ≠ b → (TJ15 a).2.1 ≠ (TJ15 b).2.1 := by decide +kernel
theorem tyJ15_ok : ∀ k, k < 0 → parseFieldDescriptor (TJ15 k).2.2.1 = some (tyJ15 k) := by decide +kernel
abbrev cJ15_checkIndex_7cf53 : ByteArray := prog_34_method_17_code
def yJ15_checkIndex_7cf53 : MethodName := ⟨RJ15, "checkIndex", "(II)I"⟩
def RJxf0a74 : String := "java/util/RandomAccess"
def TJxf0a74 : u_T := fun k => match k with
  | _ => ("", "", "", false)
def tyJxf0a74 : Nat → FieldType := fun k => match k with
  | _ => .int
abbrev wsJxf0a740 : List Cond := u_ws RJxf0a74 TJxf0a74 0
theorem nmJxf0a74 : ∀ a, a < 0 → ∀ b, b < 0 → a ≠ b → (TJxf0a74 a).2.1 ≠ (TJxf0a74 b).2.1 := by decide +kernel
theorem tyJxf0a74_ok : ∀ k, k < 0 → parseFieldDescriptor (TJxf0a74 k).2.2.1 = some (tyJxf0a74 k) := by decide +kernel
def RJxa66e6 : String := "java/util/SequencedCollection"
def TJxa66e6 : u_T := fun k => match k with
  | _ => ("", "", "", false)
def tyJxa66e6 : Nat → FieldType := fun k => match k with
  | _ => .int
abbrev wsJxa66e60 : List Cond := u_ws RJxa66e6 TJxa66e6 0
theorem nmJxa66e6 : ∀ a, a < 0 → ∀ b, b < 0 → a ≠ b → (TJxa66e6 a).2.1 ≠ (TJxa66e6 b).2.1 := by decide +kernel
theorem tyJxa66e6_ok : ∀ k, k < 0 → parseFieldDescriptor (TJxa66e6 k).2.2.1 = some (tyJxa66e6 k) := by decide +kernel
def RJ8 : String := "jdk/internal/util/ArraysSupport"
def TJ8 : u_T := fun k => match k with
  | _ => ("", "", "", false)
def tyJ8 : Nat → FieldType := fun k => match k with
  | _ => .int
abbrev wsJ80 : List Cond := u_ws RJ8 TJ8 0
theorem nmJ8 : ∀ a, a < 0 → ∀ b, b < 0 → a ≠ b → (TJ8 a).2.1 ≠ (TJ8 b).2.1 := by decide +kernel
theorem tyJ8_ok : ∀ k, k < 0 → parseFieldDescriptor (TJ8 k).2.2.1 = some (tyJ8 k) := by decide +kernel
abbrev cJ8_newLength_cabcc : ByteArray := prog_37_method_27_code
def yJ8_newLength_cabcc : MethodName := ⟨RJ8, "newLength", "(III)I"⟩
abbrev cJ8_hugeLength_7cf53 : ByteArray := prog_37_method_28_code
def yJ8_hugeLength_7cf53 : MethodName := ⟨RJ8, "hugeLength", "(II)I"⟩
def RJ3 : String := "jdk/internal/util/Preconditions"
def TJ3 : u_T := fun k => match k with
  | _ => ("", "", "", false)
def tyJ3 : Nat → FieldType := fun k => match k with
  | _ => .int
abbrev wsJ30 : List Cond := u_ws RJ3 TJ3 0
theorem nmJ3 : ∀ a, a < 0 → ∀ b, b < 0 → a ≠ b → (TJ3 a).2.1 ≠ (TJ3 b).2.1 := by decide +kernel
theorem tyJ3_ok : ∀ k, k < 0 → parseFieldDescriptor (TJ3 k).2.2.1 = some (tyJ3 k) := by decide +kernel
abbrev cJ3_checkIndex_8e157 : ByteArray := prog_38_method_11_code
def yJ3_checkIndex_8e157 : MethodName := ⟨RJ3, "checkIndex", "(IILjava/util/function/BiFunction;)I"⟩
def RL : String := "AdvertCouncilLaw"
abbrev cL_law : ByteArray := code
def yL_law : MethodName := ⟨RL, "law", "([I)Z"⟩
abbrev vwCl : List vw_C := [(RJx4a65c, TJx4a65c, 3), (RX0, TX0, 10), (RX1, TX1, 3), (RX2, TX2, 6), (RX3, TX3, 4), (RX4, TX4, 3), (RX5, TX5, 3), (RX6, TX6, 2), (RX7, TX7, 7), (RX8, TX8, 14), (RX9, TX9, 5), (RX10, TX10, 3), (RX11, TX11, 14), (RX12, TX12, 90)]
def lwG : List Cond := lw_tbl.filter goodWord
theorem lwG_lw {w : Cond} (h : w ∈ lwG) : w ∈ lw_tbl := (List.mem_filter.mp h).1
theorem lwG_good {w : Cond} (h : w ∈ lwG) : goodWord w = true := (List.mem_filter.mp h).2
theorem lwT_1 {w : Cond} (h : w ∈ tables_1_1) : w ∈ lw_tbl := List.mem_append_right _ (show w ∈ tables_1 from List.mem_append_left _ h)
theorem lwG_1 {w : Cond} (h : w ∈ tables_1_1) (g : goodWord w = true) : w ∈ lwG := List.mem_filter.mpr ⟨lwT_1 h, g⟩
theorem lwT_2 {w : Cond} (h : w ∈ tables_1_2) : w ∈ lw_tbl := List.mem_append_right _ (show w ∈ tables_1 from List.mem_append_right _ (List.mem_append_left _ h))
theorem lwG_2 {w : Cond} (h : w ∈ tables_1_2) (g : goodWord w = true) : w ∈ lwG := List.mem_filter.mpr ⟨lwT_2 h, g⟩
theorem lwT_3 {w : Cond} (h : w ∈ tables_1_3) : w ∈ lw_tbl := List.mem_append_right _ (show w ∈ tables_1 from List.mem_append_right _ (List.mem_append_right _ (List.mem_append_left _ h)))
theorem lwG_3 {w : Cond} (h : w ∈ tables_1_3) (g : goodWord w = true) : w ∈ lwG := List.mem_filter.mpr ⟨lwT_3 h, g⟩
theorem lwT_4 {w : Cond} (h : w ∈ tables_1_4) : w ∈ lw_tbl := List.mem_append_right _ (show w ∈ tables_1 from List.mem_append_right _ (List.mem_append_right _ (List.mem_append_right _ (List.mem_append_left _ h))))
theorem lwG_4 {w : Cond} (h : w ∈ tables_1_4) (g : goodWord w = true) : w ∈ lwG := List.mem_filter.mpr ⟨lwT_4 h, g⟩
theorem lwT_5 {w : Cond} (h : w ∈ tables_1_5) : w ∈ lw_tbl := List.mem_append_right _ (show w ∈ tables_1 from List.mem_append_right _ (List.mem_append_right _ (List.mem_append_right _ (List.mem_append_right _ (List.mem_append_left _ h)))))
theorem lwG_5 {w : Cond} (h : w ∈ tables_1_5) (g : goodWord w = true) : w ∈ lwG := List.mem_filter.mpr ⟨lwT_5 h, g⟩
theorem lwT_6 {w : Cond} (h : w ∈ tables_1_6) : w ∈ lw_tbl := List.mem_append_right _ (show w ∈ tables_1 from List.mem_append_right _ (List.mem_append_right _ (List.mem_append_right _ (List.mem_append_right _ (List.mem_append_right _ (List.mem_append_left _ h))))))
theorem lwG_6 {w : Cond} (h : w ∈ tables_1_6) (g : goodWord w = true) : w ∈ lwG := List.mem_filter.mpr ⟨lwT_6 h, g⟩
theorem lwT_7 {w : Cond} (h : w ∈ tables_1_7) : w ∈ lw_tbl := List.mem_append_right _ (show w ∈ tables_1 from List.mem_append_right _ (List.mem_append_right _ (List.mem_append_right _ (List.mem_append_right _ (List.mem_append_right _ (List.mem_append_right _ (h)))))))
theorem lwG_7 {w : Cond} (h : w ∈ tables_1_7) (g : goodWord w = true) : w ∈ lwG := List.mem_filter.mpr ⟨lwT_7 h, g⟩
theorem lwG_p {q : MethodName × Nat} (h : q ∈ lw_privs) : Cond.selects q.1.cls q.1 q.1 ∈ lwG := List.mem_filter.mpr ⟨List.mem_append_left _ (List.mem_map.mpr ⟨q, h, rfl⟩), rfl⟩
