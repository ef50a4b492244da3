section
-- ===== PART A: goes FIRST, ahead of the names: the tables' words, and 'selects' of the private methods out of them =====
/-- a private method of a class that the tables say can be made, by its rows of tables_1 -/
def lw_okq (q : MethodName × Nat) : Prop := (q.1.cls ≠ "java/lang/invoke/MethodHandle" ∧ q.1.cls ≠ "java/lang/invoke/VarHandle") ∧ Cond.instantiable q.1.cls q.2 ∈ tables_1 ∧ Cond.privateMethod q.1 ∈ tables_1 ∧ Cond.instanceMethod q.1 ∈ tables_1
theorem lw_p0 : lw_okq (⟨"Branchmatch$Steps", "takeStep", "()V"⟩, 5) := ⟨⟨by decide +kernel, by decide +kernel⟩, List.mem_of_getElem? (i := 84) (by decide +kernel), List.mem_of_getElem? (i := 250) (by decide +kernel), List.mem_of_getElem? (i := 251) (by decide +kernel)⟩
theorem lw_p1 : lw_okq (⟨"Branchmatch$Steps", "lookedUp", "(I)I"⟩, 5) := ⟨⟨by decide +kernel, by decide +kernel⟩, List.mem_of_getElem? (i := 84) (by decide +kernel), List.mem_of_getElem? (i := 258) (by decide +kernel), List.mem_of_getElem? (i := 259) (by decide +kernel)⟩
theorem lw_p2 : lw_okq (⟨"Branchmatch$Steps", "joinNames", "(II)V"⟩, 5) := ⟨⟨by decide +kernel, by decide +kernel⟩, List.mem_of_getElem? (i := 84) (by decide +kernel), List.mem_of_getElem? (i := 274) (by decide +kernel), List.mem_of_getElem? (i := 275) (by decide +kernel)⟩
theorem lw_p3 : lw_okq (⟨"Branchmatch$Steps", "standFor", "(II)V"⟩, 5) := ⟨⟨by decide +kernel, by decide +kernel⟩, List.mem_of_getElem? (i := 84) (by decide +kernel), List.mem_of_getElem? (i := 278) (by decide +kernel), List.mem_of_getElem? (i := 279) (by decide +kernel)⟩
theorem lw_p4 : lw_okq (⟨"Branchmatch$Classes", "classAt", "(I)I"⟩, 5) := ⟨⟨by decide +kernel, by decide +kernel⟩, List.mem_of_getElem? (i := 124) (by decide +kernel), List.mem_of_getElem? (i := 326) (by decide +kernel), List.mem_of_getElem? (i := 327) (by decide +kernel)⟩
theorem lw_p5 : lw_okq (⟨"Branchmatch$Classes", "join", "(II)Z"⟩, 5) := ⟨⟨by decide +kernel, by decide +kernel⟩, List.mem_of_getElem? (i := 124) (by decide +kernel), List.mem_of_getElem? (i := 332) (by decide +kernel), List.mem_of_getElem? (i := 333) (by decide +kernel)⟩
theorem lw_p6 : lw_okq (⟨"Branchmatch$Classes", "headAt", "(I)I"⟩, 5) := ⟨⟨by decide +kernel, by decide +kernel⟩, List.mem_of_getElem? (i := 124) (by decide +kernel), List.mem_of_getElem? (i := 336) (by decide +kernel), List.mem_of_getElem? (i := 337) (by decide +kernel)⟩
theorem lw_p7 : lw_okq (⟨"Branchmatch$Classes", "isNoneInItself", "()Z"⟩, 5) := ⟨⟨by decide +kernel, by decide +kernel⟩, List.mem_of_getElem? (i := 124) (by decide +kernel), List.mem_of_getElem? (i := 341) (by decide +kernel), List.mem_of_getElem? (i := 342) (by decide +kernel)⟩
theorem lw_p8 : lw_okq (⟨"Branchmatch$Classes", "isClear", "(IJ)Z"⟩, 5) := ⟨⟨by decide +kernel, by decide +kernel⟩, List.mem_of_getElem? (i := 124) (by decide +kernel), List.mem_of_getElem? (i := 348) (by decide +kernel), List.mem_of_getElem? (i := 349) (by decide +kernel)⟩
theorem lw_p9 : lw_okq (⟨"Branchmatch$Classes", "placeFor", "(I)I"⟩, 5) := ⟨⟨by decide +kernel, by decide +kernel⟩, List.mem_of_getElem? (i := 124) (by decide +kernel), List.mem_of_getElem? (i := 377) (by decide +kernel), List.mem_of_getElem? (i := 378) (by decide +kernel)⟩
theorem lw_p10 : lw_okq (⟨"Branchmatch", "areAnswersSound", "(LBranchmatch$Term;LBranchmatch$Term;)Z"⟩, 14) := ⟨⟨by decide +kernel, by decide +kernel⟩, List.mem_of_getElem? (i := 30) (by decide +kernel), List.mem_of_getElem? (i := 386) (by decide +kernel), List.mem_of_getElem? (i := 387) (by decide +kernel)⟩
theorem lw_p11 : lw_okq (⟨"Branchmatch", "isMadeAlikeBy", "(LBranchmatch$Answer;LBranchmatch$Term;LBranchmatch$Term;)Z"⟩, 14) := ⟨⟨by decide +kernel, by decide +kernel⟩, List.mem_of_getElem? (i := 30) (by decide +kernel), List.mem_of_getElem? (i := 406) (by decide +kernel), List.mem_of_getElem? (i := 407) (by decide +kernel)⟩
theorem lw_p12 : lw_okq (⟨"Branchmatch", "isCommonSound", "(LBranchmatch$Term;LBranchmatch$Term;)Z"⟩, 14) := ⟨⟨by decide +kernel, by decide +kernel⟩, List.mem_of_getElem? (i := 30) (by decide +kernel), List.mem_of_getElem? (i := 414) (by decide +kernel), List.mem_of_getElem? (i := 415) (by decide +kernel)⟩
theorem lw_p13 : lw_okq (⟨"Branchmatch$Shape", "nameFor", "(LBranchmatch$Term;ILBranchmatch$Term;I)I"⟩, 1) := ⟨⟨by decide +kernel, by decide +kernel⟩, List.mem_of_getElem? (i := 150) (by decide +kernel), List.mem_of_getElem? (i := 428) (by decide +kernel), List.mem_of_getElem? (i := 429) (by decide +kernel)⟩
theorem lw_p14 : lw_okq (⟨"Branchmatch$Answer", "tellUntoldOfThemselves", "()V"⟩, 1) := ⟨⟨by decide +kernel, by decide +kernel⟩, List.mem_of_getElem? (i := 60) (by decide +kernel), List.mem_of_getElem? (i := 448) (by decide +kernel), List.mem_of_getElem? (i := 449) (by decide +kernel)⟩
theorem lw_p15 : lw_okq (⟨"Branchmatch", "isPlainSound", "(LBranchmatch$Term;)Z"⟩, 14) := ⟨⟨by decide +kernel, by decide +kernel⟩, List.mem_of_getElem? (i := 30) (by decide +kernel), List.mem_of_getElem? (i := 452) (by decide +kernel), List.mem_of_getElem? (i := 453) (by decide +kernel)⟩
def lw_privs_1 : List (MethodName × Nat) := [(⟨"Branchmatch$Steps", "takeStep", "()V"⟩, 5), (⟨"Branchmatch$Steps", "lookedUp", "(I)I"⟩, 5), (⟨"Branchmatch$Steps", "joinNames", "(II)V"⟩, 5), (⟨"Branchmatch$Steps", "standFor", "(II)V"⟩, 5), (⟨"Branchmatch$Classes", "classAt", "(I)I"⟩, 5), (⟨"Branchmatch$Classes", "join", "(II)Z"⟩, 5), (⟨"Branchmatch$Classes", "headAt", "(I)I"⟩, 5), (⟨"Branchmatch$Classes", "isNoneInItself", "()Z"⟩, 5), (⟨"Branchmatch$Classes", "isClear", "(IJ)Z"⟩, 5), (⟨"Branchmatch$Classes", "placeFor", "(I)I"⟩, 5), (⟨"Branchmatch", "areAnswersSound", "(LBranchmatch$Term;LBranchmatch$Term;)Z"⟩, 14), (⟨"Branchmatch", "isMadeAlikeBy", "(LBranchmatch$Answer;LBranchmatch$Term;LBranchmatch$Term;)Z"⟩, 14), (⟨"Branchmatch", "isCommonSound", "(LBranchmatch$Term;LBranchmatch$Term;)Z"⟩, 14), (⟨"Branchmatch$Shape", "nameFor", "(LBranchmatch$Term;ILBranchmatch$Term;I)I"⟩, 1), (⟨"Branchmatch$Answer", "tellUntoldOfThemselves", "()V"⟩, 1), (⟨"Branchmatch", "isPlainSound", "(LBranchmatch$Term;)Z"⟩, 14)]
theorem lw_r1 : ∀ q ∈ lw_privs_1, lw_okq q := List.forall_mem_cons.mpr ⟨lw_p0, List.forall_mem_cons.mpr ⟨lw_p1, List.forall_mem_cons.mpr ⟨lw_p2, List.forall_mem_cons.mpr ⟨lw_p3, List.forall_mem_cons.mpr ⟨lw_p4, List.forall_mem_cons.mpr ⟨lw_p5, List.forall_mem_cons.mpr ⟨lw_p6, List.forall_mem_cons.mpr ⟨lw_p7, List.forall_mem_cons.mpr ⟨lw_p8, List.forall_mem_cons.mpr ⟨lw_p9, List.forall_mem_cons.mpr ⟨lw_p10, List.forall_mem_cons.mpr ⟨lw_p11, List.forall_mem_cons.mpr ⟨lw_p12, List.forall_mem_cons.mpr ⟨lw_p13, List.forall_mem_cons.mpr ⟨lw_p14, List.forall_mem_cons.mpr ⟨lw_p15, fun _ h => absurd h List.not_mem_nil⟩⟩⟩⟩⟩⟩⟩⟩⟩⟩⟩⟩⟩⟩⟩⟩
theorem lw_p16 : lw_okq (⟨"Branchmatch", "areSizesSound", "()Z"⟩, 14) := ⟨⟨by decide +kernel, by decide +kernel⟩, List.mem_of_getElem? (i := 30) (by decide +kernel), List.mem_of_getElem? (i := 468) (by decide +kernel), List.mem_of_getElem? (i := 469) (by decide +kernel)⟩
theorem lw_p17 : lw_okq (⟨"Branchmatch", "termOf", "(I)LBranchmatch$Term;"⟩, 14) := ⟨⟨by decide +kernel, by decide +kernel⟩, List.mem_of_getElem? (i := 30) (by decide +kernel), List.mem_of_getElem? (i := 487) (by decide +kernel), List.mem_of_getElem? (i := 488) (by decide +kernel)⟩
theorem lw_p18 : lw_okq (⟨"java/lang/Throwable", "fillInStackTrace", "(I)Ljava/lang/Throwable;"⟩, 6) := ⟨⟨by decide +kernel, by decide +kernel⟩, List.mem_of_getElem? (i := 528) (by decide +kernel), List.mem_of_getElem? (i := 526) (by decide +kernel), List.mem_of_getElem? (i := 527) (by decide +kernel)⟩
theorem lw_p19 : lw_okq (⟨"Branchmatch", "sizesTogether", "()I"⟩, 14) := ⟨⟨by decide +kernel, by decide +kernel⟩, List.mem_of_getElem? (i := 30) (by decide +kernel), List.mem_of_getElem? (i := 642) (by decide +kernel), List.mem_of_getElem? (i := 643) (by decide +kernel)⟩
theorem lw_p20 : lw_okq (⟨"Branchmatch", "movesTogether", "()I"⟩, 14) := ⟨⟨by decide +kernel, by decide +kernel⟩, List.mem_of_getElem? (i := 30) (by decide +kernel), List.mem_of_getElem? (i := 646) (by decide +kernel), List.mem_of_getElem? (i := 647) (by decide +kernel)⟩
theorem lw_p21 : lw_okq (⟨"Branchmatch", "did", "(I)I"⟩, 14) := ⟨⟨by decide +kernel, by decide +kernel⟩, List.mem_of_getElem? (i := 30) (by decide +kernel), List.mem_of_getElem? (i := 684) (by decide +kernel), List.mem_of_getElem? (i := 685) (by decide +kernel)⟩
theorem lw_p22 : lw_okq (⟨"Branchmatch", "putSpareInto", "(LBranchmatch$Term;)I"⟩, 14) := ⟨⟨by decide +kernel, by decide +kernel⟩, List.mem_of_getElem? (i := 30) (by decide +kernel), List.mem_of_getElem? (i := 699) (by decide +kernel), List.mem_of_getElem? (i := 700) (by decide +kernel)⟩
theorem lw_p23 : lw_okq (⟨"Branchmatch", "refuse", "()I"⟩, 14) := ⟨⟨by decide +kernel, by decide +kernel⟩, List.mem_of_getElem? (i := 30) (by decide +kernel), List.mem_of_getElem? (i := 704) (by decide +kernel), List.mem_of_getElem? (i := 705) (by decide +kernel)⟩
theorem lw_p24 : lw_okq (⟨"Branchmatch", "answerOf", "(I)LBranchmatch$Answer;"⟩, 14) := ⟨⟨by decide +kernel, by decide +kernel⟩, List.mem_of_getElem? (i := 30) (by decide +kernel), List.mem_of_getElem? (i := 780) (by decide +kernel), List.mem_of_getElem? (i := 781) (by decide +kernel)⟩
theorem lw_p25 : lw_okq (⟨"Branchmatch", "putSpareAnswerInto", "(LBranchmatch$Answer;)I"⟩, 14) := ⟨⟨by decide +kernel, by decide +kernel⟩, List.mem_of_getElem? (i := 30) (by decide +kernel), List.mem_of_getElem? (i := 833) (by decide +kernel), List.mem_of_getElem? (i := 834) (by decide +kernel)⟩
theorem lw_p26 : lw_okq (⟨"BranchmatchModel", "isThrown", "(ZZ)Z"⟩, 6) := ⟨⟨by decide +kernel, by decide +kernel⟩, List.mem_of_getElem? (i := 1273) (by decide +kernel), List.mem_of_getElem? (i := 1318) (by decide +kernel), List.mem_of_getElem? (i := 1319) (by decide +kernel)⟩
theorem lw_p27 : lw_okq (⟨"BranchmatchModel", "done", "(I)I"⟩, 6) := ⟨⟨by decide +kernel, by decide +kernel⟩, List.mem_of_getElem? (i := 1273) (by decide +kernel), List.mem_of_getElem? (i := 1322) (by decide +kernel), List.mem_of_getElem? (i := 1323) (by decide +kernel)⟩
theorem lw_p28 : lw_okq (⟨"BranchmatchModel", "give", "(I[I)I"⟩, 6) := ⟨⟨by decide +kernel, by decide +kernel⟩, List.mem_of_getElem? (i := 1273) (by decide +kernel), List.mem_of_getElem? (i := 1336) (by decide +kernel), List.mem_of_getElem? (i := 1337) (by decide +kernel)⟩
theorem lw_p29 : lw_okq (⟨"BranchmatchModel", "no", "()I"⟩, 6) := ⟨⟨by decide +kernel, by decide +kernel⟩, List.mem_of_getElem? (i := 1273) (by decide +kernel), List.mem_of_getElem? (i := 1340) (by decide +kernel), List.mem_of_getElem? (i := 1341) (by decide +kernel)⟩
theorem lw_p30 : lw_okq (⟨"BranchmatchModel", "isThrown", "(Z)Z"⟩, 6) := ⟨⟨by decide +kernel, by decide +kernel⟩, List.mem_of_getElem? (i := 1273) (by decide +kernel), List.mem_of_getElem? (i := 1348) (by decide +kernel), List.mem_of_getElem? (i := 1349) (by decide +kernel)⟩
theorem lw_p31 : lw_okq (⟨"BranchmatchModel", "isPlace", "(II)Z"⟩, 6) := ⟨⟨by decide +kernel, by decide +kernel⟩, List.mem_of_getElem? (i := 1273) (by decide +kernel), List.mem_of_getElem? (i := 1367) (by decide +kernel), List.mem_of_getElem? (i := 1368) (by decide +kernel)⟩
def lw_privs_2 : List (MethodName × Nat) := [(⟨"Branchmatch", "areSizesSound", "()Z"⟩, 14), (⟨"Branchmatch", "termOf", "(I)LBranchmatch$Term;"⟩, 14), (⟨"java/lang/Throwable", "fillInStackTrace", "(I)Ljava/lang/Throwable;"⟩, 6), (⟨"Branchmatch", "sizesTogether", "()I"⟩, 14), (⟨"Branchmatch", "movesTogether", "()I"⟩, 14), (⟨"Branchmatch", "did", "(I)I"⟩, 14), (⟨"Branchmatch", "putSpareInto", "(LBranchmatch$Term;)I"⟩, 14), (⟨"Branchmatch", "refuse", "()I"⟩, 14), (⟨"Branchmatch", "answerOf", "(I)LBranchmatch$Answer;"⟩, 14), (⟨"Branchmatch", "putSpareAnswerInto", "(LBranchmatch$Answer;)I"⟩, 14), (⟨"BranchmatchModel", "isThrown", "(ZZ)Z"⟩, 6), (⟨"BranchmatchModel", "done", "(I)I"⟩, 6), (⟨"BranchmatchModel", "give", "(I[I)I"⟩, 6), (⟨"BranchmatchModel", "no", "()I"⟩, 6), (⟨"BranchmatchModel", "isThrown", "(Z)Z"⟩, 6), (⟨"BranchmatchModel", "isPlace", "(II)Z"⟩, 6)]
theorem lw_r2 : ∀ q ∈ lw_privs_2, lw_okq q := List.forall_mem_cons.mpr ⟨lw_p16, List.forall_mem_cons.mpr ⟨lw_p17, List.forall_mem_cons.mpr ⟨lw_p18, List.forall_mem_cons.mpr ⟨lw_p19, List.forall_mem_cons.mpr ⟨lw_p20, List.forall_mem_cons.mpr ⟨lw_p21, List.forall_mem_cons.mpr ⟨lw_p22, List.forall_mem_cons.mpr ⟨lw_p23, List.forall_mem_cons.mpr ⟨lw_p24, List.forall_mem_cons.mpr ⟨lw_p25, List.forall_mem_cons.mpr ⟨lw_p26, List.forall_mem_cons.mpr ⟨lw_p27, List.forall_mem_cons.mpr ⟨lw_p28, List.forall_mem_cons.mpr ⟨lw_p29, List.forall_mem_cons.mpr ⟨lw_p30, List.forall_mem_cons.mpr ⟨lw_p31, fun _ h => absurd h List.not_mem_nil⟩⟩⟩⟩⟩⟩⟩⟩⟩⟩⟩⟩⟩⟩⟩⟩
theorem lw_p32 : lw_okq (⟨"BranchmatchModel", "become", "(I[[I)I"⟩, 6) := ⟨⟨by decide +kernel, by decide +kernel⟩, List.mem_of_getElem? (i := 1273) (by decide +kernel), List.mem_of_getElem? (i := 1441) (by decide +kernel), List.mem_of_getElem? (i := 1442) (by decide +kernel)⟩
theorem lw_p33 : lw_okq (⟨"BranchmatchModel$Steps", "go", "([I[I)V"⟩, 3) := ⟨⟨by decide +kernel, by decide +kernel⟩, List.mem_of_getElem? (i := 1459) (by decide +kernel), List.mem_of_getElem? (i := 1466) (by decide +kernel), List.mem_of_getElem? (i := 1467) (by decide +kernel)⟩
theorem lw_p34 : lw_okq (⟨"BranchmatchModel$Steps", "deep", "([I)[I"⟩, 3) := ⟨⟨by decide +kernel, by decide +kernel⟩, List.mem_of_getElem? (i := 1459) (by decide +kernel), List.mem_of_getElem? (i := 1470) (by decide +kernel), List.mem_of_getElem? (i := 1471) (by decide +kernel)⟩
theorem lw_p35 : lw_okq (⟨"BranchmatchModel$Steps", "bind", "(I[I)V"⟩, 3) := ⟨⟨by decide +kernel, by decide +kernel⟩, List.mem_of_getElem? (i := 1459) (by decide +kernel), List.mem_of_getElem? (i := 1475) (by decide +kernel), List.mem_of_getElem? (i := 1476) (by decide +kernel)⟩
theorem lw_p36 : lw_okq (⟨"BranchmatchModel$Steps", "isWithin", "(I[I)Z"⟩, 3) := ⟨⟨by decide +kernel, by decide +kernel⟩, List.mem_of_getElem? (i := 1459) (by decide +kernel), List.mem_of_getElem? (i := 1479) (by decide +kernel), List.mem_of_getElem? (i := 1480) (by decide +kernel)⟩
theorem lw_p37 : lw_okq (⟨"BranchmatchModel$Steps", "goOn", "([I[I)V"⟩, 3) := ⟨⟨by decide +kernel, by decide +kernel⟩, List.mem_of_getElem? (i := 1459) (by decide +kernel), List.mem_of_getElem? (i := 1484) (by decide +kernel), List.mem_of_getElem? (i := 1485) (by decide +kernel)⟩
theorem lw_p38 : lw_okq (⟨"BranchmatchModel$Classes", "come", "([I)V"⟩, 5) := ⟨⟨by decide +kernel, by decide +kernel⟩, List.mem_of_getElem? (i := 1503) (by decide +kernel), List.mem_of_getElem? (i := 1511) (by decide +kernel), List.mem_of_getElem? (i := 1512) (by decide +kernel)⟩
theorem lw_p39 : lw_okq (⟨"BranchmatchModel$Classes", "number", "([II)I"⟩, 5) := ⟨⟨by decide +kernel, by decide +kernel⟩, List.mem_of_getElem? (i := 1503) (by decide +kernel), List.mem_of_getElem? (i := 1517) (by decide +kernel), List.mem_of_getElem? (i := 1518) (by decide +kernel)⟩
theorem lw_p40 : lw_okq (⟨"BranchmatchModel$Classes", "join", "(II)V"⟩, 5) := ⟨⟨by decide +kernel, by decide +kernel⟩, List.mem_of_getElem? (i := 1503) (by decide +kernel), List.mem_of_getElem? (i := 1525) (by decide +kernel), List.mem_of_getElem? (i := 1526) (by decide +kernel)⟩
theorem lw_p41 : lw_okq (⟨"BranchmatchModel$Classes", "headed", "(I)I"⟩, 5) := ⟨⟨by decide +kernel, by decide +kernel⟩, List.mem_of_getElem? (i := 1503) (by decide +kernel), List.mem_of_getElem? (i := 1529) (by decide +kernel), List.mem_of_getElem? (i := 1530) (by decide +kernel)⟩
theorem lw_p42 : lw_okq (⟨"BranchmatchModel$Classes", "isRound", "()Z"⟩, 5) := ⟨⟨by decide +kernel, by decide +kernel⟩, List.mem_of_getElem? (i := 1503) (by decide +kernel), List.mem_of_getElem? (i := 1533) (by decide +kernel), List.mem_of_getElem? (i := 1534) (by decide +kernel)⟩
theorem lw_p43 : lw_okq (⟨"BranchmatchModel$Classes", "isFree", "(I[Z)Z"⟩, 5) := ⟨⟨by decide +kernel, by decide +kernel⟩, List.mem_of_getElem? (i := 1503) (by decide +kernel), List.mem_of_getElem? (i := 1537) (by decide +kernel), List.mem_of_getElem? (i := 1538) (by decide +kernel)⟩
theorem lw_p44 : lw_okq (⟨"BranchmatchModel$Classes", "whole", "(I)[I"⟩, 5) := ⟨⟨by decide +kernel, by decide +kernel⟩, List.mem_of_getElem? (i := 1503) (by decide +kernel), List.mem_of_getElem? (i := 1575) (by decide +kernel), List.mem_of_getElem? (i := 1576) (by decide +kernel)⟩
theorem lw_p45 : lw_okq (⟨"BranchmatchModel", "told", "(I)I"⟩, 6) := ⟨⟨by decide +kernel, by decide +kernel⟩, List.mem_of_getElem? (i := 1273) (by decide +kernel), List.mem_of_getElem? (i := 1701) (by decide +kernel), List.mem_of_getElem? (i := 1702) (by decide +kernel)⟩
def lw_privs_3 : List (MethodName × Nat) := [(⟨"BranchmatchModel", "become", "(I[[I)I"⟩, 6), (⟨"BranchmatchModel$Steps", "go", "([I[I)V"⟩, 3), (⟨"BranchmatchModel$Steps", "deep", "([I)[I"⟩, 3), (⟨"BranchmatchModel$Steps", "bind", "(I[I)V"⟩, 3), (⟨"BranchmatchModel$Steps", "isWithin", "(I[I)Z"⟩, 3), (⟨"BranchmatchModel$Steps", "goOn", "([I[I)V"⟩, 3), (⟨"BranchmatchModel$Classes", "come", "([I)V"⟩, 5), (⟨"BranchmatchModel$Classes", "number", "([II)I"⟩, 5), (⟨"BranchmatchModel$Classes", "join", "(II)V"⟩, 5), (⟨"BranchmatchModel$Classes", "headed", "(I)I"⟩, 5), (⟨"BranchmatchModel$Classes", "isRound", "()Z"⟩, 5), (⟨"BranchmatchModel$Classes", "isFree", "(I[Z)Z"⟩, 5), (⟨"BranchmatchModel$Classes", "whole", "(I)[I"⟩, 5), (⟨"BranchmatchModel", "told", "(I)I"⟩, 6)]
theorem lw_r3 : ∀ q ∈ lw_privs_3, lw_okq q := List.forall_mem_cons.mpr ⟨lw_p32, List.forall_mem_cons.mpr ⟨lw_p33, List.forall_mem_cons.mpr ⟨lw_p34, List.forall_mem_cons.mpr ⟨lw_p35, List.forall_mem_cons.mpr ⟨lw_p36, List.forall_mem_cons.mpr ⟨lw_p37, List.forall_mem_cons.mpr ⟨lw_p38, List.forall_mem_cons.mpr ⟨lw_p39, List.forall_mem_cons.mpr ⟨lw_p40, List.forall_mem_cons.mpr ⟨lw_p41, List.forall_mem_cons.mpr ⟨lw_p42, List.forall_mem_cons.mpr ⟨lw_p43, List.forall_mem_cons.mpr ⟨lw_p44, List.forall_mem_cons.mpr ⟨lw_p45, fun _ h => absurd h List.not_mem_nil⟩⟩⟩⟩⟩⟩⟩⟩⟩⟩⟩⟩⟩⟩
def lw_privs : List (MethodName × Nat) := lw_privs_1 ++ (lw_privs_2 ++ (lw_privs_3))
def lw_tbl : List Cond := k2_sels lw_privs ++ tables_1
theorem lw_privs_ok : ∀ q ∈ lw_privs, lw_okq q := by
  show ∀ q ∈ lw_privs_1 ++ (lw_privs_2 ++ (lw_privs_3)), lw_okq q
  exact List.forall_mem_append.mpr ⟨lw_r1, List.forall_mem_append.mpr ⟨lw_r2, lw_r3⟩⟩
-- ===== end of PART A; then your names; then what follows =====
end
section
/-! ===== BEGIN words of one list among another's, by their places ===== -/
theorem goodIn_r {big : List Cond} (ws : List Cond) (ps : List Nat) (hp : ws = ps.filterMap (fun i => big[i]?)) (h : ws.all goodWord = true) : GoodIn big ws := by
  intro w hw
  have h1 := List.all_eq_true.mp h w hw
  rw [hp] at hw
  obtain ⟨i, -, hi⟩ := List.mem_filterMap.mp hw
  have hm : w ∈ big := by first | exact List.mem_of_getElem? hi | exact List.getElem?_mem hi
  exact ⟨hm, good_of_word h1⟩
theorem goodIn_app {big a b : List Cond} (ha : GoodIn big a) (hb : GoodIn big b) : GoodIn big (a ++ b) := fun w h => (List.mem_append.mp h).elim (ha w) (hb w)
theorem goodIn_ca {big a b : List Cond} {c : Cond} (ha : GoodIn big (c :: a)) (hb : GoodIn big b) : GoodIn big (c :: (a ++ b)) := fun w h => (List.mem_cons.mp h).elim (fun e => ha w (List.mem_cons.mpr (Or.inl e))) (fun h => (List.mem_append.mp h).elim (fun h => ha w (List.mem_cons.mpr (Or.inr h))) (hb w))
theorem goodIn_sub {big ws : List Cond} (hm : ∀ w ∈ ws, w ∈ big) (h : ws.all goodWord = true) : GoodIn big ws := fun w hw => ⟨hm w hw, good_of_word (List.all_eq_true.mp h w hw)⟩
/-! ===== END ===== -/

/-! ===== BEGIN exceptions that leave a method, and their catching by the caller (launches without stack traces) ===== -/
section VXA
/-! The laws vx_back, vx_callV, vx_callS, vx_callSW, vx_throw0, vx_throwS follow proofs of the library, with one case more: JvmDerived/Free/Laws.lean (Back.of_free), Shelf42/LK1.lean (callV, callS), Shelf/KitTraced.lean (throwNew0V, throwNewS). -/
/-- where a method has thrown q: the class by its name, the cell, what was written, the world -/
def vx_T (XC : String → State → State → Prop) (st : State) (q : Addr) (t : State) (mc ms : Nat) (free : Addr → Prop) : Prop :=
  ∃ (E : String) (ce : Cell) (L : List Loc), XC E st t ∧ t.heap[q]? = some ce ∧ ce.vm = .none ∧ st.vm.findClass E = some ce.cls ∧ st.WarmedH t.vm ∧ st.sameButNew ({ t with vm := st.vm } : State) L mc ms ∧ ∀ z ∈ L, free z.base
def vx_Q (Qc : Array Value → State → Outcome → State → Prop) (XC : String → State → State → Prop) (mc ms : Nat) (free : Addr → Prop) : Array Value → State → Outcome → State → Prop := fun a st o t =>
  (Qc a st o t ∧ ∃ L, FrameEnd st o t L mc ms ∧ ∀ q ∈ L, free q.base) ∨ ∃ q, o = .threw q ∧ vx_T XC st q t mc ms free
/-- a callee that returns or throws -/
def vx_Met (l : Launch) (y : MethodName) (ws : List Cond) (rm : Room) (Pc : Array Value → State → Prop) (Qc : Array Value → State → Outcome → State → Prop) (XC : String → State → State → Prop) (mc ms : Nat) (free : Addr → Prop) : Prop :=
  MetFree l y (headSpec ws rm) Pc (fun _ _ _ _ _ => True) (vx_Q Qc XC mc ms free)
def vx_Post (XC : String → State → State → Prop) (mc ms : Nat) (free : Addr → Prop) : Pt → Array Value → Addr → Pt → Prop := fun A a q B =>
  ∃ (g : JFrame) (mk : MethodId) (t : State) (L : List Loc) (E : String) (ce : Cell), B.U.heap = t.heap ∧ B.U.vm = t.vm ∧ XC E (A.U.calling g mk a) t ∧ t.heap[q]? = some ce ∧ ce.vm = .none ∧ A.U.vm.findClass E = some ce.cls ∧ B.locs = A.locs ++ L ∧ (∀ z ∈ L, free z.base) ∧ B.cells = A.cells + mc ∧ B.slots = A.slots + ms
def vx_Back (l : Launch) (R : Room) (p : Program) (e : Env) (below : List Frame) (s : State) (sargs : Array Value) (y : MethodName) (len W9 : Nat)
    (Pre : Pt → Array Value → Prop) (Post : Pt → Array Value → Option Value → Pt → Prop) (PostX : Pt → Array Value → Addr → Pt → Prop) : Prop :=
  ∀ (m : MethodId) (meth : Method) (c : Code) (A : Pt) (g : JFrame) (ig : Instr) (mk : MethodId) (a : Array Value),
    Stand p l e R s m sargs below meth c A.U A.locs A.cells A.slots → g.method = m → g.locals.size = c.maxLocals → decode c.code g.pc = .ok (ig, len) →
    2 * g.monitorRoom + (g.stack.map fun v => v.category).sum ≤ W9 → A.U.methodNamed? y = some mk → Pre A a →
    (∃ (v : Option Value) (B : Pt), Stand p l e R s m sargs below meth c B.U B.locs B.cells B.slots ∧ Post A a v B ∧
      Steps p.tables e below (doInvoke e (A.U.setTop g) [] mk a).1 (B.U.setTop { g with pc := g.pc + len, stack := v.toList ++ g.stack })) ∨
    (∃ (q : Addr) (B : Pt), Stand p l e R s m sargs below meth c B.U B.locs B.cells B.slots ∧ PostX A a q B ∧
      Steps p.tables e below (doInvoke e (A.U.setTop g) [] mk a).1 ((B.U.setTop g).pushFrame (.throwing q)))
section Payer
variable {l : Launch} {R : Room} {p : Program} {e : Env} {below : List Frame} {s : State} {sargs : Array Value} {y : MethodName} {len W9 : Nat}
theorem vx_back {ws : List Cond} {rm : Room} {Pc : Array Value → State → Prop} {Qc : Array Value → State → Outcome → State → Prop} {XC : String → State → State → Prop} {mc ms : Nat} {free : Addr → Prop} {bytes : ByteArray} {maxL : Nat} {ret : Option FieldType}
    (hM : vx_Met l y ws rm Pc Qc XC mc ms free) (hblind : FrameBlind Pc) (hrc : rm.cells = mc) (hrs : rm.slots = ms)
    (hframes : rm.frames + 1 ≤ R.frames) (hlocals : W9 + (maxL + 11) + rm.locals ≤ R.locals)
    (hws : ∀ w ∈ ws, ∀ a' U, s.WarmedH U.vm → w.before a' U = true) (hcode : Cond.code y bytes maxL ret ∈ ws) (hinit : ∀ a' U, s.WarmedH U.vm → (Cond.initialized y.cls).before a' U = true) :
    vx_Back l R p e below s sargs y len W9 (PreOf R mc ms Pc) (PostOf Qc mc ms free) (vx_Post XC mc ms free) := by
  intro m meth c A g ig mk a X hg hsize hdg hW hn hp
  have h1 : (headSpec ws rm).pre.before a A.U = true := atoms_intro fun w hw => hws w hw _ _ X.warmed
  have h2 : (Cond.code y bytes maxL ret).before a A.U = true := hws _ hcode _ _ X.warmed
  have h3 : (Cond.initialized y.cls).before a A.U = true := hinit _ _ X.warmed
  have h4 : A.cells + (headSpec ws rm).room.cells ≤ R.cells := by rw [show (headSpec ws rm).room.cells = mc from hrc]; exact hp.1
  have h5 : A.slots + (headSpec ws rm).room.slots ≤ R.slots := by rw [show (headSpec ws rm).room.slots = ms from hrs]; exact hp.2.1
  have hPc : Pc a (A.U.calling g mk a) := hblind _ _ _ _ hp.2.2
  obtain ⟨U, Ls, c0, s0⟩ := A
  dsimp only [Pt.U, Pt.locs, Pt.cells, Pt.slots] at h1 h2 h3 h4 h5 X hn hPc ⊢
  obtain ⟨methY, cY, hmY, hcY, -, hlY, -, -, -, -⟩ := Cond.code_spec hn h2
  obtain ⟨kY, hkY, -⟩ := className_of_methodNamed hn
  have hinitY : kY.init = .initialized := Cond.initialized_spec (findClass_of_methodNamed hn) hkY h3
  have h : At U g.method c below := by rw [hg]; exact X.here
  have hlocals9 : W9 + (maxL + 11) + (headSpec ws rm).room.locals ≤ R.locals := hlocals
  have happ : (headSpec ws rm).appliesLoose y e.platform (U.calling g mk a) = true :=
    Spec.appliesLoose_calling (g := g) h hdg hn hkY hinitY
      (X.room_calling (g := g) (R' := (headSpec ws rm).room) hsize hmY hcY hframes (by rw [hlY]; omega) h4 h5) h1
  obtain ⟨mid, hmid⟩ := h.above
  have hfr : (U.setTop g).frames = (.java g :: mid) ++ below := by rw [State.frames_setTop' g h.top, hmid]; rfl
  obtain ⟨o, s₂, hsteps, -, hend, hq⟩ := Steps.callFree hM p X.admits X.cas X.clock (acts := []) hfr happ hPc trivial
  have hq' : vx_Q Qc XC mc ms free a (U.calling g mk a) o s₂ := hq
  rw [State.frames_setTop' g h.top] at hend
  obtain ⟨g₀, hg0⟩ := Option.isSome_iff_exists.mp h.top
  obtain ⟨r, hr⟩ := State.topJava?_eq_some.mp hg0
  have hr' : (({ U with heap := s₂.heap, slotsUsed := s₂.slotsUsed } : State).setVm s₂.vm).frames = .java g₀ :: r := hr
  rcases hq' with ⟨hqc, L, hfe, hL⟩ | ⟨q, rfl, E, ce, L, hx, hce, hcv, hcl, hW₂, hsm, hL⟩
  · obtain ⟨⟨v, rfl⟩, hW₂, e2, q2, q3, q4, q5, q6⟩ := id hfe
    have e3 : s₂ = ({ (U.calling g mk a).setFrames s₂.frames with heap := s₂.heap, slotsUsed := s₂.slotsUsed } : State).setVm s₂.vm := by
      have : s₂ = ({ s₂ with vm := (U.calling g mk a).vm } : State).setVm s₂.vm := rfl
      rw [e2] at this
      exact this
    obtain ⟨c₂, i₂, len₂, hc₂, hd₂, hf₂⟩ := hend
    have hW' : U.WarmedH s₂.vm := hW₂
    have hcc : c₂ = c := by
      have h1 : s₂.code? g.method = U.code? g.method := by
        rw [State.code?_eq, State.code?_eq, hW'.alike.method?]
      exact Option.some.inj (hc₂.symm.trans (h1.trans h.code))
    subst hcc
    have hlen : len₂ = len := by rw [hdg] at hd₂; cases hd₂; rfl
    subst hlen
    have hs₂ : s₂ = (({ U with heap := s₂.heap, slotsUsed := s₂.slotsUsed } : State).setVm s₂.vm).setTop { g with pc := g.pc + len₂, stack := v.toList ++ g.stack } := by
      refine e3.trans ?_
      rw [hf₂, State.calling_eq h.top, State.setFrames_setFrames, State.setTop_of_frames _ hr', hr]
      rfl
    have hsame : U.sameButNew ({ U with heap := s₂.heap, slotsUsed := s₂.slotsUsed } : State) L mc ms := by
      refine ⟨?_, q2, q3, q4, q5, q6⟩
      obtain ⟨t, ht, -⟩ := State.frames_cons hr
      show ({ U with heap := s₂.heap, slotsUsed := s₂.slotsUsed } : State) = { U.setFrames U.frames with heap := s₂.heap, slotsUsed := s₂.slotsUsed }
      rw [State.setFrames_self ht]
    subst hg
    refine Or.inl ⟨v, ⟨(({ U with heap := s₂.heap, slotsUsed := s₂.slotsUsed } : State).setVm s₂.vm), Ls ++ L, c0 + mc, s0 + ms⟩,
      ⟨X.admits, X.cas, X.clock, X.frames, X.room, X.hears, X.method, X.code, (X.here.setHeapUsed s₂.heap s₂.slotsUsed).setVm hW'.alike, X.tail, State.WarmedH.trans X.warmed hW', X.limits, X.bytes, X.same.trans (hsame.setVm s.vm)⟩,
      ⟨g, mk, s₂, L, rfl, rfl, hqc, rfl, hL, rfl, rfl⟩, ?_⟩
    show Steps p.tables e below _ ((({ U with heap := s₂.heap, slotsUsed := s₂.slotsUsed } : State).setVm s₂.vm).setTop { g with pc := g.pc + len₂, stack := v.toList ++ g.stack })
    rw [← hs₂]
    exact hsteps
  · obtain ⟨e2, q2, q3, q4, q5, q6⟩ := id hsm
    have e3 : s₂ = ({ (U.calling g mk a).setFrames s₂.frames with heap := s₂.heap, slotsUsed := s₂.slotsUsed } : State).setVm s₂.vm := by
      have : s₂ = ({ s₂ with vm := (U.calling g mk a).vm } : State).setVm s₂.vm := rfl
      rw [e2] at this
      exact this
    have hf₂ : s₂.frames = .throwing q :: .java g :: U.frames.tail := hend
    have hW' : U.WarmedH s₂.vm := hW₂
    have hs₂ : s₂ = ((({ U with heap := s₂.heap, slotsUsed := s₂.slotsUsed } : State).setVm s₂.vm).setTop g).pushFrame (.throwing q) := by
      refine e3.trans ?_
      rw [hf₂, State.calling_eq h.top, State.setFrames_setFrames, State.pushFrame, State.frames_setTop _ hr', State.setTop_of_frames _ hr', State.setFrames_setFrames, hr]
      rfl
    have hsame : U.sameButNew ({ U with heap := s₂.heap, slotsUsed := s₂.slotsUsed } : State) L mc ms := by
      refine ⟨?_, q2, q3, q4, q5, q6⟩
      obtain ⟨t, ht, -⟩ := State.frames_cons hr
      show ({ U with heap := s₂.heap, slotsUsed := s₂.slotsUsed } : State) = { U.setFrames U.frames with heap := s₂.heap, slotsUsed := s₂.slotsUsed }
      rw [State.setFrames_self ht]
    subst hg
    refine Or.inr ⟨q, ⟨(({ U with heap := s₂.heap, slotsUsed := s₂.slotsUsed } : State).setVm s₂.vm), Ls ++ L, c0 + mc, s0 + ms⟩,
      ⟨X.admits, X.cas, X.clock, X.frames, X.room, X.hears, X.method, X.code, (X.here.setHeapUsed s₂.heap s₂.slotsUsed).setVm hW'.alike, X.tail, State.WarmedH.trans X.warmed hW', X.limits, X.bytes, X.same.trans (hsame.setVm s.vm)⟩,
      ⟨g, mk, s₂, L, E, ce, rfl, rfl, hx, hce, hcv, hcl, rfl, hL, rfl, rfl⟩, ?_⟩
    show Steps p.tables e below _ (((({ U with heap := s₂.heap, slotsUsed := s₂.slotsUsed } : State).setVm s₂.vm).setTop g).pushFrame (.throwing q))
    rw [← hs₂]
    exact hsteps
end Payer
section Calls
variable {p : Program} {l : Launch} {e : Env} {R : Room} {s : State} {m : MethodId} {args : Array Value} {below : List Frame} {meth : Method} {c : Code} {T : State} {locs : List Loc} {cells slots : Nat}
theorem vx_callV (X : Stand p l e R s m args below meth c T locs cells slots) (hexec : p.tables.exec = Jvm.exec) {own C : String} {index : Nat} {y : MethodName} {bytes : ByteArray} {maxL : Nat} {ret : Option FieldType}
    (hown : s.vm.findClass own = some m.cls) (hlink : (Cond.methodLink own index y).before args s = true) (hinst : (Cond.instanceMethod y).before args s = true) (hsel : (Cond.selects C y y).before args s = true)
    (hcode : (Cond.code y bytes maxL ret).before args s = true) (hy : y.cls ≠ "java/lang/invoke/MethodHandle" ∧ y.cls ≠ "java/lang/invoke/VarHandle")
    {W9 : Nat} {Pre : Pt → Array Value → Prop} {Post : Pt → Array Value → Option Value → Pt → Prop} {PostX : Pt → Array Value → Addr → Pt → Prop} (hK : vx_Back l R p e below s args y 3 W9 Pre Post PostX)
    {b : Addr} {cellB : Cell} (hcell : T.heap[b]? = some cellB) (hobj : cellB.vm.isStatics = false) (hcls : s.vm.findClass C = some cellB.cls)
    {g : JFrame} (hg : g.method = m) (hsize : g.locals.size = c.maxLocals) {argsL rest : List Value} (hlen : ∀ sig, parseMethodDescriptor y.desc = some sig → argsL.length = sig.parameters.length)
    (hstack : g.stack = argsL.reverse ++ .ref b :: rest) (hW : 2 * g.monitorRoom + (rest.map fun v => v.category).sum ≤ W9) (hdg : decode c.code g.pc = .ok (.invokevirtual index, 3))
    (hpre : ∀ vm₁, s.WarmedH vm₁ → Pre ⟨T.setVm vm₁, locs, cells, slots⟩ (Value.ref b :: argsL).toArray) :
    (∃ (v : Option Value) (vm₁ : Vm) (B : Pt), s.WarmedH vm₁ ∧ Stand p l e R s m args below meth c B.U B.locs B.cells B.slots ∧ Post ⟨T.setVm vm₁, locs, cells, slots⟩ (Value.ref b :: argsL).toArray v B ∧
      ∀ target, Steps p.tables e below (B.U.setTop { g with pc := g.pc + 3, stack := v.toList ++ rest }) target → Steps p.tables e below (T.setTop g) target) ∨
    (∃ (q : Addr) (vm₁ : Vm) (B : Pt), s.WarmedH vm₁ ∧ Stand p l e R s m args below meth c B.U B.locs B.cells B.slots ∧ PostX ⟨T.setVm vm₁, locs, cells, slots⟩ (Value.ref b :: argsL).toArray q B ∧
      Steps p.tables e below (T.setTop g) ((B.U.setTop { g with stack := rest }).pushFrame (.throwing q))) := by
  obtain ⟨mk, methM, hnamed, hmethM, hstM, habM⟩ := Cond.instanceMethod_spec hinst
  obtain ⟨methM', cM, hmethM', -, -, -, -, -, -, hsigM⟩ := Cond.code_spec hnamed hcode
  cases hmethM.symm.trans hmethM'
  obtain ⟨c2, r2, m2, q1, q2, q3, q4, kP, hkP, hkPi⟩ := Cond.selects_spec hsel
  cases hcls.symm.trans q1
  cases (State.methodFound?_of_named hnamed hy).symm.trans q2
  cases hnamed.symm.trans q3
  have hselP : selectMethod e.platform s.vm cellB.cls mk = .method mk := by rw [Launch.admits_selectMethod X.admits]; exact q4
  obtain ⟨vm₁, X₁, hstep₁⟩ := X.invokevirtual hexec hown hlink hnamed hmethM hstM hkP hkPi hy (a := b) (cell := cellB) hcell
    (fun z h => by rw [h] at hobj; cases hobj) hselP hmethM habM hkP hkPi (g := g) hg (argsL := argsL) (rest := rest) (hlen _ hsigM) hstack hdg
  rcases hK m meth c ⟨T.setVm vm₁, locs, cells, slots⟩ { g with stack := rest } (.invokevirtual index) mk (Value.ref b :: argsL).toArray X₁ hg hsize hdg hW (X₁.named hnamed) (hpre vm₁ X₁.warmed) with ⟨v, B, X', hpost, hsteps⟩ | ⟨q, B, X', hpost, hsteps⟩
  · exact Or.inl ⟨v, vm₁, B, X₁.warmed, X', hpost, fun target h => hstep₁ _ fun acts => by rw [doInvoke_state]; exact hsteps.trans h⟩
  · exact Or.inr ⟨q, vm₁, B, X₁.warmed, X', hpost, hstep₁ _ fun acts => by rw [doInvoke_state]; exact hsteps⟩
theorem vx_callS (X : Stand p l e R s m args below meth c T locs cells slots) (hexec : p.tables.exec = Jvm.exec) {own : String} {index : Nat} {y : MethodName} {bytes : ByteArray} {maxL : Nat} {ret : Option FieldType}
    (hown : s.vm.findClass own = some m.cls) (hlink : (Cond.methodLink own index y).before args s = true) (hstat : (Cond.static y).before args s = true) (hinit : (Cond.initialized y.cls).before args s = true)
    (hcode : (Cond.code y bytes maxL ret).before args s = true) (hy : y.cls ≠ "java/lang/invoke/MethodHandle" ∧ y.cls ≠ "java/lang/invoke/VarHandle")
    {W9 : Nat} {Pre : Pt → Array Value → Prop} {Post : Pt → Array Value → Option Value → Pt → Prop} {PostX : Pt → Array Value → Addr → Pt → Prop} (hK : vx_Back l R p e below s args y 3 W9 Pre Post PostX)
    {g : JFrame} (hg : g.method = m) (hsize : g.locals.size = c.maxLocals) {argsL rest : List Value} (hlen : ∀ sig, parseMethodDescriptor y.desc = some sig → argsL.length = sig.parameters.length)
    (hstack : g.stack = argsL.reverse ++ rest) (hW : 2 * g.monitorRoom + (rest.map fun v => v.category).sum ≤ W9) (hdg : decode c.code g.pc = .ok (.invokestatic index, 3))
    (hpre : ∀ vm₁, s.WarmedH vm₁ → Pre ⟨T.setVm vm₁, locs, cells, slots⟩ argsL.toArray) :
    (∃ (v : Option Value) (vm₁ : Vm) (B : Pt), s.WarmedH vm₁ ∧ Stand p l e R s m args below meth c B.U B.locs B.cells B.slots ∧ Post ⟨T.setVm vm₁, locs, cells, slots⟩ argsL.toArray v B ∧
      ∀ target, Steps p.tables e below (B.U.setTop { g with pc := g.pc + 3, stack := v.toList ++ rest }) target → Steps p.tables e below (T.setTop g) target) ∨
    (∃ (q : Addr) (vm₁ : Vm) (B : Pt), s.WarmedH vm₁ ∧ Stand p l e R s m args below meth c B.U B.locs B.cells B.slots ∧ PostX ⟨T.setVm vm₁, locs, cells, slots⟩ argsL.toArray q B ∧
      Steps p.tables e below (T.setTop g) ((B.U.setTop { g with stack := rest }).pushFrame (.throwing q))) := by
  obtain ⟨mk, hnamed⟩ := Cond.code_named hcode
  obtain ⟨methM, cM, hmethM, -, -, -, -, -, -, hsigM⟩ := Cond.code_spec hnamed hcode
  have hstatic : methM.isStatic = true := Cond.static_spec hnamed hmethM hstat
  obtain ⟨kP, hkP, -⟩ := className_of_methodNamed hnamed
  have hinitP : kP.init = .initialized := Cond.initialized_spec (findClass_of_methodNamed hnamed) hkP hinit
  obtain ⟨vm₁, X₁, hstep₁⟩ := X.invokestatic hexec hown hlink hnamed hmethM hstatic hkP hinitP hy (g := g) hg (argsL := argsL) (rest := rest) (hlen _ hsigM) hstack hdg
  rcases hK m meth c ⟨T.setVm vm₁, locs, cells, slots⟩ { g with stack := rest } (.invokestatic index) mk argsL.toArray X₁ hg hsize hdg hW (X₁.named hnamed) (hpre vm₁ X₁.warmed) with ⟨v, B, X', hpost, hsteps⟩ | ⟨q, B, X', hpost, hsteps⟩
  · exact Or.inl ⟨v, vm₁, B, X₁.warmed, X', hpost, fun target h => hstep₁ _ fun acts => by rw [doInvoke_state]; exact hsteps.trans h⟩
  · exact Or.inr ⟨q, vm₁, B, X₁.warmed, X', hpost, hstep₁ _ fun acts => by rw [doInvoke_state]; exact hsteps⟩
end Calls
theorem vx_cls {s : State} {T : State} {vm₁ : Vm} {E : String} {k : ClassId} (hW : s.WarmedH vm₁) (h : (T.setVm vm₁).vm.findClass E = some k) : s.vm.findClass E = some k := by
  have h1 : vm₁.findClass E = some k := h
  rw [hW.alike.findClass] at h1
  exact h1
/-- the method's frame g, with q thrown over it -/
def vx_W (p : Program) (l : Launch) (e : Env) (R : Room) (s : State) (m : MethodId) (args : Array Value) (below : List Frame) (meth : Method) (c : Code) (H : Heap) (locs : List Loc) (cells slots : Nat) (Q : State → Prop) (g : JFrame) (q : Addr) : Prop :=
  ∀ T : State, T.heap = H → Stand p l e R s m args below meth c T locs cells slots → ∃ t, Steps p.tables e below ((T.setTop g).pushFrame (.throwing q)) t ∧ Q t
def vx_Run (p : Program) (l : Launch) (e : Env) (R : Room) (s : State) (m : MethodId) (args : Array Value) (below : List Frame) (meth : Method) (c : Code) (H : Heap) (locs : List Loc) (cells slots mc ms : Nat) (g : JFrame) (rest : List Value) (Qa : State → Outcome → State → Prop) (XC : String → State → State → Prop) (free : Addr → Prop) : Prop :=
  ∀ T : State, T.heap = H → Stand p l e R s m args below meth c T locs cells slots →
    (∃ (v : Option Value) (st₀ t T' : State) (L : List Loc), st₀.heap = H ∧ Stand p l e R s m args below meth c T' (locs ++ L) (cells + mc) (slots + ms) ∧ (∀ q ∈ L, free q.base) ∧ T'.heap = t.heap ∧ T'.vm = t.vm ∧ Qa st₀ (.returned v) t ∧
      Goes p e below T g T' { g with pc := g.pc + 3, stack := v.toList ++ rest }) ∨
    (∃ (q : Addr) (st₀ t T' : State) (L : List Loc) (E : String) (ce : Cell), st₀.heap = H ∧ Stand p l e R s m args below meth c T' (locs ++ L) (cells + mc) (slots + ms) ∧ (∀ z ∈ L, free z.base) ∧ T'.heap = t.heap ∧ T'.vm = t.vm ∧ XC E st₀ t ∧ t.heap[q]? = some ce ∧ ce.vm = .none ∧ s.vm.findClass E = some ce.cls ∧
      Steps p.tables e below (T.setTop g) ((T'.setTop { g with stack := rest }).pushFrame (.throwing q)))
def vx_X {S : Type} (px : S → Prop) (B : String → S → State → Prop) (A : Nat → Prop) : String → State → State → Prop := fun E st t => ∃ u : S, px u ∧ B E u t ∧ va_F A st t
section Runs
variable {p : Program} {l : Launch} {e : Env} {R : Room} {s : State} {m : MethodId} {args : Array Value} {below : List Frame} {meth : Method} {c : Code} {H : Heap} {locs : List Loc} {cells slots : Nat}
variable {y : MethodName} {bytes cc : ByteArray} {maxL nL mc ms n index : Nat} {ret : Option FieldType} {ws : List Cond} {rm : Room} {Pc : Array Value → State → Prop} {Qc : Array Value → State → Outcome → State → Prop} {XC : String → State → State → Prop} {free : Addr → Prop} {Ts : List Cond} {own C : String} {b : Addr} {As rest : List Value} {g : JFrame}
theorem vx_callBack (cb : CallB R s args own index y bytes maxL ret ws rm mc ms n) (hM : vx_Met l y ws rm Pc Qc XC mc ms free) (hbl : FrameBlind Pc) : vx_Back l R p e below s args y 3 8 (PreOf R mc ms Pc) (PostOf Qc mc ms free) (vx_Post XC mc ms free) := by
  obtain ⟨hrc, hrs, hfr, hlo, hws, hcw, -, hini, -⟩ := cb
  exact vx_back (bytes := bytes) (maxL := maxL) (ret := ret) hM hbl hrc hrs hfr hlo hws hcw (fun a' U hW => word_at hW (Or.inl (by first | rfl | simp [Cond.onTables, Cond.keeps, Cond.steady])) hini)
theorem vx_runV (S : CallFix p m c cc nL s args Ts own) (hM : vx_Met l y ws rm Pc Qc XC mc ms free) (cw : CallW R s args own C index y bytes maxL ret ws rm mc ms n) (hp : PreV s H C b Pc As)
    (hg : g.method = m) (hn : As.length = n) (hsize : g.locals.size = nL) (hstack : g.stack = As.reverse ++ .ref b :: rest) (hW : 2 * g.monitorRoom + (rest.map fun v => v.category).sum ≤ 8) (hdg : decode cc g.pc = .ok (.invokevirtual index, 3)) (hf : cells + mc ≤ R.cells ∧ slots + ms ≤ R.slots) :
    vx_Run p l e R s m args below meth c H locs cells slots mc ms g rest (Qc (Value.ref b :: As).toArray) XC free := by
  have hK : vx_Back l R p e below s args y 3 8 (PreOf R mc ms Pc) (PostOf Qc mc ms free) (vx_Post XC mc ms free) := vx_callBack cw.1 hM hp.1
  obtain ⟨⟨-, -, -, -, -, -, hcode, -, hy, hlen, hl⟩, hin, hse⟩ := cw
  obtain ⟨hx, hb, hml, ho, -⟩ := S
  obtain ⟨-, ⟨cellB, hcB, hoB, hclB⟩, hPc⟩ := hp
  intro T hT X
  rcases vx_callV X hx (C := C) (bytes := bytes) (maxL := maxL) (ret := ret) ho hl hin hse hcode hy hK (by rw [hT]; exact hcB) hoB hclB hg (hsize.trans hml.symm) (argsL := As) (rest := rest) (fun sig h => hn.trans (hlen sig h)) hstack hW (by rw [hb]; exact hdg)
    (fun vm₁ hW₁ => ⟨hf.1, hf.2, hPc (T.setVm vm₁) hT hW₁⟩) with ⟨v, vm₁, ⟨U', l2, c2, s2⟩, hW₁, X', ⟨g', mk, t, L, e1, e2, hq, h1, hL, h2, h3⟩, st⟩ | ⟨q, vm₁, ⟨U', l2, c2, s2⟩, hW₁, X', ⟨g', mk, t, L, E, ce, e1, e2, hq, hce, hcv, hcl, h1, hL, h2, h3⟩, st⟩
  · dsimp only [Pt.U, Pt.locs, Pt.cells, Pt.slots] at X' e1 e2 h1 h2 h3 st
    subst h1; subst h2; subst h3
    exact Or.inl ⟨v, (T.setVm vm₁).calling g' mk (Value.ref b :: As).toArray, t, U', L, hT, X', hL, e1, e2, hq, st⟩
  · dsimp only [Pt.U, Pt.locs, Pt.cells, Pt.slots] at X' e1 e2 h1 h2 h3 st hcl
    subst h1; subst h2; subst h3
    exact Or.inr ⟨q, (T.setVm vm₁).calling g' mk (Value.ref b :: As).toArray, t, U', L, E, ce, hT, X', hL, e1, e2, hq, hce, hcv, vx_cls hW₁ hcl, st⟩
theorem vx_runS (S : CallFix p m c cc nL s args Ts own) (hM : vx_Met l y ws rm Pc Qc XC mc ms free) (cw : CallB R s args own index y bytes maxL ret ws rm mc ms n ∧ (Cond.static y).before args s = true) (hp : PreS s H Pc As)
    (hg : g.method = m) (hn : As.length = n) (hsize : g.locals.size = nL) (hstack : g.stack = As.reverse ++ rest) (hW : 2 * g.monitorRoom + (rest.map fun v => v.category).sum ≤ 8) (hdg : decode cc g.pc = .ok (.invokestatic index, 3)) (hf : cells + mc ≤ R.cells ∧ slots + ms ≤ R.slots) :
    vx_Run p l e R s m args below meth c H locs cells slots mc ms g rest (Qc As.toArray) XC free := by
  have hK : vx_Back l R p e below s args y 3 8 (PreOf R mc ms Pc) (PostOf Qc mc ms free) (vx_Post XC mc ms free) := vx_callBack cw.1 hM hp.1
  obtain ⟨⟨-, -, -, -, -, -, hcode, hini, hy, hlen, hl⟩, hstt⟩ := cw
  obtain ⟨hx, hb, hml, ho, -⟩ := S
  intro T hT X
  rcases vx_callS X hx (bytes := bytes) (maxL := maxL) (ret := ret) ho hl hstt hini hcode hy hK hg (hsize.trans hml.symm) (argsL := As) (rest := rest) (fun sig h => hn.trans (hlen sig h)) hstack hW (by rw [hb]; exact hdg)
    (fun vm₁ hW₁ => ⟨hf.1, hf.2, hp.2 (T.setVm vm₁) hT hW₁⟩) with ⟨v, vm₁, ⟨U', l2, c2, s2⟩, hW₁, X', ⟨g', mk, t, L, e1, e2, hq, h1, hL, h2, h3⟩, st⟩ | ⟨q, vm₁, ⟨U', l2, c2, s2⟩, hW₁, X', ⟨g', mk, t, L, E, ce, e1, e2, hq, hce, hcv, hcl, h1, hL, h2, h3⟩, st⟩
  · dsimp only [Pt.U, Pt.locs, Pt.cells, Pt.slots] at X' e1 e2 h1 h2 h3 st
    subst h1; subst h2; subst h3
    exact Or.inl ⟨v, (T.setVm vm₁).calling g' mk As.toArray, t, U', L, hT, X', hL, e1, e2, hq, st⟩
  · dsimp only [Pt.U, Pt.locs, Pt.cells, Pt.slots] at X' e1 e2 h1 h2 h3 st hcl
    subst h1; subst h2; subst h3
    exact Or.inr ⟨q, (T.setVm vm₁).calling g' mk As.toArray, t, U', L, E, ce, hT, X', hL, e1, e2, hq, hce, hcv, vx_cls hW₁ hcl, st⟩
end Runs
section Rows
variable {p : Program} {l : Launch} {e : Env} {R : Room} {s : State} {m : MethodId} {args : Array Value} {below : List Frame} {meth : Method} {c : Code} {H : Heap} {locs : List Loc} {cells slots : Nat} {Q : State → Prop}
variable {mc ms : Nat} {free : Addr → Prop} {A0 A1 : Nat → Prop} {H0 : Heap} {a : Array Value} {pc : Nat} {ls : Array Slot} {st0 rest : List Value}
theorem vx_keep {st₀ t T' : State} {L : List Loc} (h0 : st₀.heap = H) (e1 : T'.heap = t.heap) (hS : va_S A0 H0 H locs) (hA : ∀ q, q < H.size → A1 q → A0 q) (hf : ∀ q, free q → A0 q) (hL : ∀ q ∈ L, free q.base) (hF : va_F A1 st₀ t) :
    H.size ≤ T'.heap.size ∧ (∀ q : Nat, q < H.size → ¬ A1 q → T'.heap[q]? = H[q]?) ∧ va_S A0 H0 T'.heap (locs ++ L) := by
  obtain ⟨hz, hk⟩ := hF
  rw [h0] at hz hk
  exact ⟨by rw [e1]; exact hz, fun q h1 h2 => by rw [e1]; exact hk q h1 h2,
    ⟨Nat.le_trans hS.1 (by rw [e1]; exact hz), fun q h1 h2 => by rw [e1, hk q (Nat.lt_of_lt_of_le h1 hS.1) (fun z => h2 (hA q (Nat.lt_of_lt_of_le h1 hS.1) z))]; exact hS.2.1 q h1 h2, fun q hq => by
      rcases List.mem_append.mp hq with h | h
      · exact hS.2.2 q h
      · exact hf _ (hL q h)⟩⟩
theorem vx_calli {S SX : Type} {post : Int32 → S → Prop} {px : SX → Prop} {B : S → State → Prop} {BX : String → SX → State → Prop} {AX : Nat → Prop} (hr : vx_Run p l e R s m args below meth c H locs cells slots mc ms (F0 m pc ls st0) rest (va_Qi post B A1 a) (vx_X px BX AX) free) (hS : va_S A0 H0 H locs) (hA : ∀ q, q < H.size → A1 q → A0 q) (hf : ∀ q, free q → A0 q) (hAX : ∀ q, q < H.size → AX q → A0 q)
    (kx : ∀ (E : String) (ce : Cell) (q9 : Addr) (u : SX) (t : State) (H1 : Heap) (locs1 : List Loc), t.heap = H1 → s.vm.Alike t.vm → px u → BX E u t → H.size ≤ H1.size → (∀ q : Nat, q < H.size → ¬ AX q → H1[q]? = H[q]?) → va_S A0 H0 H1 locs1 → H1[q9]? = some ce → ce.vm = .none → s.vm.findClass E = some ce.cls → vx_W p l e R s m args below meth c H1 locs1 (cells + mc) (slots + ms) Q (F0 m pc ls rest) q9)
    (kk : ∀ (r : Int32) (u : S) (t : State) (H1 : Heap) (locs1 : List Loc), t.heap = H1 → s.vm.Alike t.vm → post r u → B u t → H.size ≤ H1.size → (∀ q : Nat, q < H.size → ¬ A1 q → H1[q]? = H[q]?) → va_S A0 H0 H1 locs1 → W p l e R s m args below meth c H1 locs1 (cells + mc) (slots + ms) Q (F0 m (pc + 3) ls (.int r :: rest))) : W p l e R s m args below meth c H locs cells slots Q (F0 m pc ls st0) := by
  intro T hT X
  rcases hr T hT X with ⟨v, st₀, t, T', L, h0, X', hL, e1, e2, ⟨⟨r, u, hv, hp, hb⟩, hF⟩, st⟩ | ⟨q, st₀, t, T', L, E, ce, h0, X', hL, e1, e2, ⟨u, hp, hb, hF⟩, hce, hcv, hcl, st⟩
  · cases hv
    obtain ⟨k1, k2, k3⟩ := vx_keep h0 e1 hS hA hf hL hF
    obtain ⟨t2, a1, b1⟩ := kk r u t T'.heap (locs ++ L) e1.symm (by rw [← e2]; exact X'.warmed.alike) hp hb k1 k2 k3 T' rfl X'
    exact ⟨t2, st t2 a1, b1⟩
  · obtain ⟨k1, k2, k3⟩ := vx_keep h0 e1 hS hAX hf hL hF
    obtain ⟨t2, a1, b1⟩ := kx E ce q u t T'.heap (locs ++ L) e1.symm (by rw [← e2]; exact X'.warmed.alike) hp hb k1 k2 k3 (by rw [e1]; exact hce) hcv hcl T' rfl X'
    exact ⟨t2, st.trans a1, b1⟩
theorem vx_calll {S SX : Type} {post : Int64 → S → Prop} {px : SX → Prop} {B : S → State → Prop} {BX : String → SX → State → Prop} {AX : Nat → Prop} (hr : vx_Run p l e R s m args below meth c H locs cells slots mc ms (F0 m pc ls st0) rest (va_Ql post B A1 a) (vx_X px BX AX) free) (hS : va_S A0 H0 H locs) (hA : ∀ q, q < H.size → A1 q → A0 q) (hf : ∀ q, free q → A0 q) (hAX : ∀ q, q < H.size → AX q → A0 q)
    (kx : ∀ (E : String) (ce : Cell) (q9 : Addr) (u : SX) (t : State) (H1 : Heap) (locs1 : List Loc), t.heap = H1 → s.vm.Alike t.vm → px u → BX E u t → H.size ≤ H1.size → (∀ q : Nat, q < H.size → ¬ AX q → H1[q]? = H[q]?) → va_S A0 H0 H1 locs1 → H1[q9]? = some ce → ce.vm = .none → s.vm.findClass E = some ce.cls → vx_W p l e R s m args below meth c H1 locs1 (cells + mc) (slots + ms) Q (F0 m pc ls rest) q9)
    (kk : ∀ (r : Int64) (u : S) (t : State) (H1 : Heap) (locs1 : List Loc), t.heap = H1 → s.vm.Alike t.vm → post r u → B u t → H.size ≤ H1.size → (∀ q : Nat, q < H.size → ¬ A1 q → H1[q]? = H[q]?) → va_S A0 H0 H1 locs1 → W p l e R s m args below meth c H1 locs1 (cells + mc) (slots + ms) Q (F0 m (pc + 3) ls (.long r :: rest))) : W p l e R s m args below meth c H locs cells slots Q (F0 m pc ls st0) := by
  intro T hT X
  rcases hr T hT X with ⟨v, st₀, t, T', L, h0, X', hL, e1, e2, ⟨⟨r, u, hv, hp, hb⟩, hF⟩, st⟩ | ⟨q, st₀, t, T', L, E, ce, h0, X', hL, e1, e2, ⟨u, hp, hb, hF⟩, hce, hcv, hcl, st⟩
  · cases hv
    obtain ⟨k1, k2, k3⟩ := vx_keep h0 e1 hS hA hf hL hF
    obtain ⟨t2, a1, b1⟩ := kk r u t T'.heap (locs ++ L) e1.symm (by rw [← e2]; exact X'.warmed.alike) hp hb k1 k2 k3 T' rfl X'
    exact ⟨t2, st t2 a1, b1⟩
  · obtain ⟨k1, k2, k3⟩ := vx_keep h0 e1 hS hAX hf hL hF
    obtain ⟨t2, a1, b1⟩ := kx E ce q u t T'.heap (locs ++ L) e1.symm (by rw [← e2]; exact X'.warmed.alike) hp hb k1 k2 k3 (by rw [e1]; exact hce) hcv hcl T' rfl X'
    exact ⟨t2, st.trans a1, b1⟩
theorem vx_callf {S SX : Type} {post : UInt32 → S → Prop} {px : SX → Prop} {B : S → State → Prop} {BX : String → SX → State → Prop} {AX : Nat → Prop} (hr : vx_Run p l e R s m args below meth c H locs cells slots mc ms (F0 m pc ls st0) rest (va_Qf post B A1 a) (vx_X px BX AX) free) (hS : va_S A0 H0 H locs) (hA : ∀ q, q < H.size → A1 q → A0 q) (hf : ∀ q, free q → A0 q) (hAX : ∀ q, q < H.size → AX q → A0 q)
    (kx : ∀ (E : String) (ce : Cell) (q9 : Addr) (u : SX) (t : State) (H1 : Heap) (locs1 : List Loc), t.heap = H1 → s.vm.Alike t.vm → px u → BX E u t → H.size ≤ H1.size → (∀ q : Nat, q < H.size → ¬ AX q → H1[q]? = H[q]?) → va_S A0 H0 H1 locs1 → H1[q9]? = some ce → ce.vm = .none → s.vm.findClass E = some ce.cls → vx_W p l e R s m args below meth c H1 locs1 (cells + mc) (slots + ms) Q (F0 m pc ls rest) q9)
    (kk : ∀ (r : UInt32) (u : S) (t : State) (H1 : Heap) (locs1 : List Loc), t.heap = H1 → s.vm.Alike t.vm → post r u → B u t → H.size ≤ H1.size → (∀ q : Nat, q < H.size → ¬ A1 q → H1[q]? = H[q]?) → va_S A0 H0 H1 locs1 → W p l e R s m args below meth c H1 locs1 (cells + mc) (slots + ms) Q (F0 m (pc + 3) ls (.float r :: rest))) : W p l e R s m args below meth c H locs cells slots Q (F0 m pc ls st0) := by
  intro T hT X
  rcases hr T hT X with ⟨v, st₀, t, T', L, h0, X', hL, e1, e2, ⟨⟨r, u, hv, hp, hb⟩, hF⟩, st⟩ | ⟨q, st₀, t, T', L, E, ce, h0, X', hL, e1, e2, ⟨u, hp, hb, hF⟩, hce, hcv, hcl, st⟩
  · cases hv
    obtain ⟨k1, k2, k3⟩ := vx_keep h0 e1 hS hA hf hL hF
    obtain ⟨t2, a1, b1⟩ := kk r u t T'.heap (locs ++ L) e1.symm (by rw [← e2]; exact X'.warmed.alike) hp hb k1 k2 k3 T' rfl X'
    exact ⟨t2, st t2 a1, b1⟩
  · obtain ⟨k1, k2, k3⟩ := vx_keep h0 e1 hS hAX hf hL hF
    obtain ⟨t2, a1, b1⟩ := kx E ce q u t T'.heap (locs ++ L) e1.symm (by rw [← e2]; exact X'.warmed.alike) hp hb k1 k2 k3 (by rw [e1]; exact hce) hcv hcl T' rfl X'
    exact ⟨t2, st.trans a1, b1⟩
theorem vx_calld {S SX : Type} {post : UInt64 → S → Prop} {px : SX → Prop} {B : S → State → Prop} {BX : String → SX → State → Prop} {AX : Nat → Prop} (hr : vx_Run p l e R s m args below meth c H locs cells slots mc ms (F0 m pc ls st0) rest (va_Qd post B A1 a) (vx_X px BX AX) free) (hS : va_S A0 H0 H locs) (hA : ∀ q, q < H.size → A1 q → A0 q) (hf : ∀ q, free q → A0 q) (hAX : ∀ q, q < H.size → AX q → A0 q)
    (kx : ∀ (E : String) (ce : Cell) (q9 : Addr) (u : SX) (t : State) (H1 : Heap) (locs1 : List Loc), t.heap = H1 → s.vm.Alike t.vm → px u → BX E u t → H.size ≤ H1.size → (∀ q : Nat, q < H.size → ¬ AX q → H1[q]? = H[q]?) → va_S A0 H0 H1 locs1 → H1[q9]? = some ce → ce.vm = .none → s.vm.findClass E = some ce.cls → vx_W p l e R s m args below meth c H1 locs1 (cells + mc) (slots + ms) Q (F0 m pc ls rest) q9)
    (kk : ∀ (r : UInt64) (u : S) (t : State) (H1 : Heap) (locs1 : List Loc), t.heap = H1 → s.vm.Alike t.vm → post r u → B u t → H.size ≤ H1.size → (∀ q : Nat, q < H.size → ¬ A1 q → H1[q]? = H[q]?) → va_S A0 H0 H1 locs1 → W p l e R s m args below meth c H1 locs1 (cells + mc) (slots + ms) Q (F0 m (pc + 3) ls (.double r :: rest))) : W p l e R s m args below meth c H locs cells slots Q (F0 m pc ls st0) := by
  intro T hT X
  rcases hr T hT X with ⟨v, st₀, t, T', L, h0, X', hL, e1, e2, ⟨⟨r, u, hv, hp, hb⟩, hF⟩, st⟩ | ⟨q, st₀, t, T', L, E, ce, h0, X', hL, e1, e2, ⟨u, hp, hb, hF⟩, hce, hcv, hcl, st⟩
  · cases hv
    obtain ⟨k1, k2, k3⟩ := vx_keep h0 e1 hS hA hf hL hF
    obtain ⟨t2, a1, b1⟩ := kk r u t T'.heap (locs ++ L) e1.symm (by rw [← e2]; exact X'.warmed.alike) hp hb k1 k2 k3 T' rfl X'
    exact ⟨t2, st t2 a1, b1⟩
  · obtain ⟨k1, k2, k3⟩ := vx_keep h0 e1 hS hAX hf hL hF
    obtain ⟨t2, a1, b1⟩ := kx E ce q u t T'.heap (locs ++ L) e1.symm (by rw [← e2]; exact X'.warmed.alike) hp hb k1 k2 k3 (by rw [e1]; exact hce) hcv hcl T' rfl X'
    exact ⟨t2, st.trans a1, b1⟩
theorem vx_callv {S SX : Type} {post : S → Prop} {px : SX → Prop} {B : S → State → Prop} {BX : String → SX → State → Prop} {AX : Nat → Prop} (hr : vx_Run p l e R s m args below meth c H locs cells slots mc ms (F0 m pc ls st0) rest (va_Qv post B A1 a) (vx_X px BX AX) free) (hS : va_S A0 H0 H locs) (hA : ∀ q, q < H.size → A1 q → A0 q) (hf : ∀ q, free q → A0 q) (hAX : ∀ q, q < H.size → AX q → A0 q)
    (kx : ∀ (E : String) (ce : Cell) (q9 : Addr) (u : SX) (t : State) (H1 : Heap) (locs1 : List Loc), t.heap = H1 → s.vm.Alike t.vm → px u → BX E u t → H.size ≤ H1.size → (∀ q : Nat, q < H.size → ¬ AX q → H1[q]? = H[q]?) → va_S A0 H0 H1 locs1 → H1[q9]? = some ce → ce.vm = .none → s.vm.findClass E = some ce.cls → vx_W p l e R s m args below meth c H1 locs1 (cells + mc) (slots + ms) Q (F0 m pc ls rest) q9)
    (kk : ∀ (u : S) (t : State) (H1 : Heap) (locs1 : List Loc), t.heap = H1 → s.vm.Alike t.vm → post u → B u t → H.size ≤ H1.size → (∀ q : Nat, q < H.size → ¬ A1 q → H1[q]? = H[q]?) → va_S A0 H0 H1 locs1 → W p l e R s m args below meth c H1 locs1 (cells + mc) (slots + ms) Q (F0 m (pc + 3) ls (rest))) : W p l e R s m args below meth c H locs cells slots Q (F0 m pc ls st0) := by
  intro T hT X
  rcases hr T hT X with ⟨v, st₀, t, T', L, h0, X', hL, e1, e2, ⟨⟨u, hv, hp, hb⟩, hF⟩, st⟩ | ⟨q, st₀, t, T', L, E, ce, h0, X', hL, e1, e2, ⟨u, hp, hb, hF⟩, hce, hcv, hcl, st⟩
  · cases hv
    obtain ⟨k1, k2, k3⟩ := vx_keep h0 e1 hS hA hf hL hF
    obtain ⟨t2, a1, b1⟩ := kk u t T'.heap (locs ++ L) e1.symm (by rw [← e2]; exact X'.warmed.alike) hp hb k1 k2 k3 T' rfl X'
    exact ⟨t2, st t2 a1, b1⟩
  · obtain ⟨k1, k2, k3⟩ := vx_keep h0 e1 hS hAX hf hL hF
    obtain ⟨t2, a1, b1⟩ := kx E ce q u t T'.heap (locs ++ L) e1.symm (by rw [← e2]; exact X'.warmed.alike) hp hb k1 k2 k3 (by rw [e1]; exact hce) hcv hcl T' rfl X'
    exact ⟨t2, st.trans a1, b1⟩
/-- caught by the row x of this method's table; the rows ahead don't take it -/
theorem vx_catch {own name : String} {E : String} {ce : Cell} {q : Addr} (hown : s.vm.findClass own = some m.cls) (pre : List ExceptionTableEntry) (x : ExceptionTableEntry) (suf : List ExceptionTableEntry) (hsplit : c.exceptionTable.toList = pre ++ x :: suf)
    (hpass : ∀ z ∈ pre, covers z pc = false ∨ (z.catchType ≠ 0 ∧ ∃ nm : String, (Cond.classLink own z.catchType nm).before args s = true ∧ va_Nc E nm s)) (hx : covers x pc = true) (h0 : x.catchType ≠ 0)
    (hlink : (Cond.classLink own x.catchType name).before args s = true) (hcast : (Cond.castable E name).before args s = true) (hcell : H[q]? = some ce) (hv : ce.vm = .none) (hcl : s.vm.findClass E = some ce.cls)
    (kk : W p l e R s m args below meth c H locs cells slots Q (F0 m x.handlerPc ls [.ref q])) : vx_W p l e R s m args below meth c H locs cells slots Q (F0 m pc ls rest) q := by
  intro T hT X
  have hpl : e.platform.magicAccessors = ({} : Platform).magicAccessors := by rw [X.admits.platform]
  obtain ⟨c3, c4, hc3, hc4, hasg⟩ := Cond.castable_spec hcast
  cases Option.some.inj (hc3.symm.trans hcl)
  obtain ⟨c5, hc5, hcl5⟩ := Cond.classLink_spec hown hlink e.platform hpl
  cases Option.some.inj (hc4.symm.trans hc5)
  obtain ⟨vm', X', st⟩ := X.thenCaughtThrough q (g := F0 m pc ls rest) rfl (Steps.refl _) (by rw [hT]; exact hcell) (by rw [hv]; rfl) (by obtain ⟨k9, h9, -⟩ := Vm.findClass_spec hcl; exact ⟨k9, h9⟩) pre x suf hsplit
    (fun z hz => by
      rcases hpass z hz with h | ⟨hz0, nm, hl1, hn1⟩
      · exact Or.inl h
      · obtain ⟨c6, hc6, hcl6⟩ := Cond.classLink_spec hown hl1 e.platform hpl
        obtain ⟨a8, b8, h1, h2, h3⟩ := hn1
        cases Option.some.inj (h1.symm.trans hcl)
        cases Option.some.inj (h2.symm.trans hc6)
        exact Or.inr ⟨hz0, _, hcl6, h3⟩) hx (Or.inr ⟨h0, c4, hcl5, hasg⟩)
  obtain ⟨t, a1, b1⟩ := kk (T.setVm vm') hT X'
  exact ⟨t, st.trans a1, b1⟩
end Rows
section Ends
variable {p : Program} {l : Launch} {e : Env} {R : Room} {s : State} {m : MethodId} {args : Array Value} {below : List Frame} {meth : Method} {c : Code} {H : Heap} {locs : List Loc} {cells slots : Nat} {Q : State → Prop}
variable {mc ms : Nat} {free : Addr → Prop} {A0 A1 : Nat → Prop} {H0 : Heap} {a : Array Value} {ls : Array Slot} {st0 rest : List Value}
variable {Qc : Array Value → State → Outcome → State → Prop} {XC : String → State → State → Prop}
/-- what a body that may throw owes at its end -/
def vx_MQ (below : List Frame) (Qc : Array Value → State → Outcome → State → Prop) (XC : String → State → State → Prop) (a : Array Value) (s : State) (mc ms : Nat) (free : Addr → Prop) : State → Prop := fun t =>
  ∃ o, t.status = .running ∧ Ended t below o ∧ vx_Q Qc XC mc ms free a s o t
theorem vx_ret {g : JFrame} {mc ms : Nat} (k : W p l e R s m args below meth c H locs cells slots (MQ below Qc args s mc ms free) g) : W p l e R s m args below meth c H locs cells slots (vx_MQ below Qc XC args s mc ms free) g := by
  intro T hT X
  obtain ⟨t, a1, o, b1, b2, b3, b4⟩ := k T hT X
  exact ⟨t, a1, o, b1, b2, Or.inl ⟨b3, b4⟩⟩
/-- not caught here: it goes on to the caller -/
theorem vx_widen {g : JFrame} {q : Addr} {k n : Nat} (h1 : cells ≤ k) (h2 : slots ≤ n) (kk : vx_W p l e R s m args below meth c H locs k n Q g q) : vx_W p l e R s m args below meth c H locs cells slots Q g q := fun T hT X => kk T hT (stand_widen X h1 h2)
theorem vx_out {pc : Nat} {E : String} {ce : Cell} {q : Addr} {mc ms : Nat} (hout : ∀ x ∈ c.exceptionTable.toList, covers x pc = false) (hlocks : meth.locks = false) (hcell : H[q]? = some ce) (hv : ce.vm = .none) (hcl : s.vm.findClass E = some ce.cls)
    (hx : ∀ t : State, t.heap = H → s.vm.Alike t.vm → XC E s t) (hf : ∀ z ∈ locs, free z.base) (hc : cells ≤ mc) (hs : slots ≤ ms) :
    vx_W p l e R s m args below meth c H locs cells slots (vx_MQ below Qc XC args s mc ms free) (F0 m pc ls rest) q := by
  intro T hT X
  obtain ⟨st1, hrun, hend, hW, hsm⟩ := X.leaveThrown q (g := F0 m pc ls rest) rfl rfl rfl hout hlocks
  have hcell9 : (T.setFrames (.throwing q :: below)).heap[q]? = some ce := by
    show T.heap[q]? = some ce
    rw [hT]; exact hcell
  exact ⟨_, st1, .threw q, hrun, hend, Or.inr ⟨q, rfl, E, ce, locs, hx _ hT hW.alike, hcell9, hv, hcl, hW, hsm.mono hc hs, hf⟩⟩
theorem vx_frame {U : State} {k n : Nat} (h : s.sameButNew ({ U with vm := s.vm } : State) locs k n) : s.heap.size ≤ U.heap.size ∧ ∀ q : Nat, q < s.heap.size → (∀ z ∈ locs, z.base ≠ q) → U.heap[q]? = s.heap[q]? := by
  obtain ⟨-, h2, -, -, -, h6⟩ := h
  refine ⟨h2, fun q hq hz => ?_⟩
  obtain ⟨c9, e1, e2, e3, e4⟩ := h6 q _ (Array.getElem?_eq_getElem hq)
  have hs : c9.slots = (s.heap[q]).slots := Array.ext_getElem? fun i => e4 i fun hm => hz _ hm rfl
  have h9 : c9 = s.heap[q] := by
    rw [hs] at e2
    exact e2
  have e5 : U.heap[q]? = some c9 := e1
  rw [e5, h9, Array.getElem?_eq_getElem hq]
/-- the words of a throw but the four that speak of the heap -/
def vx_no (w : Cond) : Bool := decide (w ≠ .isRef (.static Bundle.tN "UNASSIGNED_STACK" Bundle.steD)) && decide (w ≠ .isRef (.static Bundle.tN "SUPPRESSED_SENTINEL" Bundle.listD)) && decide (w ≠ .laysStatic Bundle.tN "UNASSIGNED_STACK" Bundle.steD) && decide (w ≠ .laysStatic Bundle.tN "SUPPRESSED_SENTINEL" Bundle.listD)
def vx_at0 (own : String) (ic : Nat) (X : String) (names : List String) : List Cond := (Bundle.ownAtoms0 own ic X names).filter vx_no
def vx_atS (own : String) (ic : Nat) (X : String) (names : List String) : List Cond := (Bundle.ownAtoms own ic X names).filter vx_no
/-- a word that the tables alone decide, or a good one -/
def vx_ot (w : Cond) : Bool := w.onTables || goodWord w
theorem vx_ot_at {args a' : Array Value} {s U : State} {w : Cond} (hW : s.WarmedH U.vm) (hvm : s.vm = U.vm) (hg : vx_ot w = true) (h : w.before args s = true) : w.before a' U = true := by
  simp only [vx_ot, Bool.or_eq_true] at hg
  rcases hg with hg | hg
  · exact va_tabs hg hvm h
  · exact word_at hW (good_of_word hg) h
/-- a list's words: the good ones out of the method's own list, the others by premises of their own -/
theorem vx_hat {args : Array Value} {s : State} {L B : List Cond} (h1 : ∀ w ∈ L.filter goodWord, w.before args s = true) (h2 : ∀ w ∈ L.filter (fun w => !goodWord w), w ∈ B) (h3 : ∀ w ∈ B, w.before args s = true) : ∀ w ∈ L, w.before args s = true := by
  intro w hw
  by_cases g : goodWord w = true
  · exact h1 w (List.mem_filter.mpr ⟨hw, g⟩)
  · refine h3 w (h2 w (List.mem_filter.mpr ⟨hw, ?_⟩))
    show (!goodWord w) = true
    cases hgw : goodWord w
    · rfl
    · exact absurd hgw g
theorem vx_c {args : Array Value} {s : State} {w : Cond} {B : List Cond} (h : w.before args s = true) (t : ∀ w ∈ B, w.before args s = true) : ∀ w' ∈ w :: B, w'.before args s = true := fun w' h' => (List.mem_cons.mp h').elim (fun e => by rw [e]; exact h) (t w')
theorem vx_n {args : Array Value} {s : State} : ∀ w ∈ ([] : List Cond), w.before args s = true := fun _ h => nomatch h
theorem vx_own {args : Array Value} {s : State} {L : List Cond} (h1 : ∀ w ∈ L.filter vx_no, w.before args s = true)
    (hU : (Cond.isRef (.static Bundle.tN "UNASSIGNED_STACK" Bundle.steD)).before args s = true) (hN : (Cond.isRef (.static Bundle.tN "SUPPRESSED_SENTINEL" Bundle.listD)).before args s = true)
    (lU : (Cond.laysStatic Bundle.tN "UNASSIGNED_STACK" Bundle.steD).before args s = true) (lN : (Cond.laysStatic Bundle.tN "SUPPRESSED_SENTINEL" Bundle.listD).before args s = true) : ∀ w ∈ L, w.before args s = true := by
  intro w hw
  by_cases e1 : w = .isRef (.static Bundle.tN "UNASSIGNED_STACK" Bundle.steD)
  · rw [e1]; exact hU
  · by_cases e2 : w = .isRef (.static Bundle.tN "SUPPRESSED_SENTINEL" Bundle.listD)
    · rw [e2]; exact hN
    · by_cases e3 : w = .laysStatic Bundle.tN "UNASSIGNED_STACK" Bundle.steD
      · rw [e3]; exact lU
      · by_cases e4 : w = .laysStatic Bundle.tN "SUPPRESSED_SENTINEL" Bundle.listD
        · rw [e4]; exact lN
        · exact h1 w (List.mem_filter.mpr ⟨hw, by unfold vx_no; rw [decide_eq_true e1, decide_eq_true e2, decide_eq_true e3, decide_eq_true e4]; rfl⟩)
/-- where a static field lies, its class's statics cell in H -/
def vx_L (C n d : String) (A : Nat → Prop) (U : State) (H : Heap) : Prop := ∃ (c : ClassId) (k : Class) (i : Nat) (f : Field) (a : Nat) (cell : Cell), U.vm.findClass C = some c ∧ U.fieldFound? C n d = some (c, k, i, f) ∧ f.isStatic = true ∧ k.statics = some a ∧ H[a]? = some cell ∧ cell.vm.isStatics = true ∧ cell.cls = c ∧ f.slot < cell.slots.size ∧ k.staticTypes[f.slot]? = some f.type ∧ ¬ A a
theorem vx_L.moved {C n d : String} {A : Nat → Prop} {u U : State} {H : Heap} (hvm : u.vm.Alike U.vm) (h : vx_L C n d A u H) : vx_L C n d A U H := by
  obtain ⟨c, k, i, f, a, cell, h1, h2, h3, h4, h5, h6, h7, h8, h9, h10⟩ := h
  obtain ⟨k', hi', he⟩ := State.fieldFound?_setVm hvm h2
  exact ⟨c, k', i, f, a, cell, by rw [hvm.findClass]; exact h1, hi', h3, by rw [he]; exact h4, h5, h6, h7, h8, by rw [he]; exact h9, h10⟩
theorem vx_L.kept {C n d : String} {A : Nat → Prop} {U : State} {H H1 : Heap} (h : vx_L C n d A U H) (hq : ∀ a : Nat, a < H.size → ¬ A a → H1[a]? = H[a]?) : vx_L C n d A U H1 := by
  obtain ⟨c, k, i, f, a, cell, h1, h2, h3, h4, h5, h6, h7, h8, h9, h10⟩ := h
  exact ⟨c, k, i, f, a, cell, h1, h2, h3, h4, by rw [hq a (Array.getElem?_eq_some_iff.mp h5).1 h10]; exact h5, h6, h7, h8, h9, h10⟩
theorem vx_L.narrow {C n d : String} {A B : Nat → Prop} {U : State} {H : Heap} (h : vx_L C n d A U H) (hAB : ∀ q, B q → A q) : vx_L C n d B U H := by
  obtain ⟨c, k, i, f, a, cell, h1, h2, h3, h4, h5, h6, h7, h8, h9, h10⟩ := h
  exact ⟨c, k, i, f, a, cell, h1, h2, h3, h4, h5, h6, h7, h8, h9, fun z => h10 (hAB _ z)⟩
theorem vx_L.word {C n d : String} {A : Nat → Prop} {s : State} {args : Array Value} (h : vx_L C n d A s s.heap) : (Cond.laysStatic C n d).before args s = true := by
  obtain ⟨c, k, i, f, a, cell, h1, h2, h3, h4, h5, h6, h7, h8, h9, -⟩ := h
  show (Cond.laysStatic C n d).holds args s none s [] = true
  exact Cond.laysStatic_of h1 h2 h3 h4 h5 h6 h7 h8 h9
/-- .. and what it holds: null or some reference -/
def vx_Zq (C n d : String) (A : Nat → Prop) (U : State) (H : Heap) : Prop := va_Zq C n d A U H ∧ vx_L C n d A U H
theorem vx_Zq.moved {C n d : String} {A : Nat → Prop} {u U : State} {H : Heap} (hvm : u.vm.Alike U.vm) (h : vx_Zq C n d A u H) : vx_Zq C n d A U H := ⟨va_Zq.moved hvm h.1, vx_L.moved hvm h.2⟩
theorem vx_Zq.kept {C n d : String} {A : Nat → Prop} {U : State} {H H1 : Heap} (h : vx_Zq C n d A U H) (hq : ∀ a : Nat, a < H.size → ¬ A a → H1[a]? = H[a]?) : vx_Zq C n d A U H1 := ⟨va_Zq.kept h.1 hq, vx_L.kept h.2 hq⟩
theorem vx_Zq.narrow {C n d : String} {A B : Nat → Prop} {U : State} {H : Heap} (h : vx_Zq C n d A U H) (hAB : ∀ q, B q → A q) : vx_Zq C n d B U H := ⟨va_Zq.narrow h.1 hAB, vx_L.narrow h.2 hAB⟩
theorem vx_Zqof {args : Array Value} {s : State} {C n d : String} {A : Nat → Prop} (hl : (Cond.laysStatic C n d).before args s = true) (hini : (Cond.initialized C).before args s = true) (h : (Cond.isRef (.static C n d)).before args s = true) (hA : ∀ a : Nat, a < s.heap.size → ¬ A a) : vx_Zq C n d A s s.heap := by
  refine ⟨va_Zqof hl hini h hA, ?_⟩
  obtain ⟨c, k, i, f, a, cell, h1, h2, h3, h4, h5, h6, h7, h8, h9⟩ := Cond.laysStatic_spec hl
  exact ⟨c, k, i, f, a, cell, h1, h2, h3, h4, h5, h6, h7, h8, h9, hA a (Array.getElem?_eq_some_iff.mp h5).1⟩
theorem vx_isRef {C n d : String} {v : Value} {A : Nat → Prop} {s : State} {args : Array Value} (h : va_Z C n d v A s s.heap) (hv : v.isRef = true) : (Cond.isRef (.static C n d)).before args s = true := by
  obtain ⟨cf, kf, fi, f, a, cell, h1, h2, h3, h4, h5, h6, h7, -⟩ := h
  have he : (Term.static C n d).eval args s none [] s = some v := by
    simp [Term.eval, State.fieldNamed?, h1, h2, h4, h5, h6, h7]
  simp only [Cond.before, Cond.holds, Cond.value, he]
  cases v <;> simp_all [Value.isRef]
theorem vx_isRefq {C n d : String} {A : Nat → Prop} {s : State} {args : Array Value} (h : va_Zq C n d A s s.heap) : (Cond.isRef (.static C n d)).before args s = true := by
  rcases h with h | ⟨t, h⟩
  · exact vx_isRef h rfl
  · exact vx_isRef h rfl
/-- the same frame, seen from here: as if the method were called anew in this heap -/
theorem vx_rebase {T : State} (X : Stand p l e R s m args below meth c T locs cells slots) {R' : Room} (hf : R'.frames ≤ R.frames) (hl : R'.locals ≤ R.locals) (hc : cells + R'.cells ≤ R.cells) (hs : slots + R'.slots ≤ R.slots) :
    Stand p l e R' ((T.setVm s.vm).setFrames (.invoking m args :: below)) m args below meth c T [] 0 0 := by
  have htop : (T.setVm s.vm).topJava?.isSome := X.here.top
  have hF : ((T.setVm s.vm).setFrames (.invoking m args :: below)).frames = .invoking m args :: below := State.frames_setFrames _ (State.cur_lt_of_top htop)
  obtain ⟨g₀, hg0⟩ := Option.isSome_iff_exists.mp htop
  obtain ⟨r, hr⟩ := State.topJava?_eq_some.mp hg0
  have hl9 : e.platform.stackLimits (T.setVm s.vm).me = e.platform.stackLimits s.me := X.limits
  have hb9 : (T.setVm s.vm).me.stackBytes = s.me.stackBytes := X.bytes
  refine ⟨X.admits, X.cas, X.clock, hF, ?_, X.hears, X.method, X.code, X.here, X.tail, X.warmed, ?_, ?_, ?_⟩
  · have h := X.room
    have hU : ((T.setVm s.vm).setFrames (.invoking m args :: below)).localsInUse = s.localsInUse := by
      rw [State.localsInUse_invoking hF (meth := meth) (c := c) X.method X.code, State.localsInUse_invoking X.frames X.method X.code]
    simp only [State.hasRoom, Bool.and_eq_true, decide_eq_true_eq] at h ⊢
    obtain ⟨⟨⟨⟨h1, h2, h3, h4, h5, h6⟩, h7⟩, h8⟩, h9⟩ := h
    rw [X.frames, List.length_cons] at h2 h3
    have q1 := X.heapSize
    have q2 := X.used
    simp only [hF, hU, List.length_cons, State.stackLimits_setFrames, State.stackBytes_setFrames, hl9, hb9]
    refine ⟨⟨⟨⟨by omega, by omega, by omega, by omega, by omega, h6⟩, ?_⟩, ?_⟩, X.book⟩
    · show T.heap.size + R'.cells ≤ e.platform.maxCells
      omega
    · show T.slotsUsed + R'.slots ≤ e.platform.maxSlots
      omega
  · rw [State.stackLimits_setFrames]; rfl
  · rw [State.stackBytes_setFrames]; rfl
  · refine ⟨?_, Nat.le_refl _, Nat.le_refl _, ?_, ?_, fun a c9 h9 => ⟨c9, h9, rfl, rfl, fun _ _ => rfl⟩⟩
    · obtain ⟨t, ht, -⟩ := State.frames_cons hr
      show T.setVm s.vm = { ((T.setVm s.vm).setFrames (.invoking m args :: below)).setFrames (T.setVm s.vm).frames with heap := T.heap, slotsUsed := T.slotsUsed }
      rw [State.setFrames_setFrames, State.setFrames_self ht]
      rfl
    · show T.slotsUsed = T.slotsUsed + ((T.heap.toList.drop T.heap.size).map (·.slots.size)).sum
      rw [List.drop_eq_nil_of_le (Nat.le_of_eq Array.length_toList)]
      rfl
    · show ((T.heap.toList.drop T.heap.size).map (·.slots.size)).sum ≤ 0
      rw [List.drop_eq_nil_of_le (Nat.le_of_eq Array.length_toList)]
      exact Nat.le_refl _
/-- 'throw new E()': new; dup; invokespecial; athrow -/
theorem vx_throw0 {cc : ByteArray} {pc : Nat} (hexec : p.tables.exec = Jvm.exec) (hb : c.code = cc) (hl : l.stackTraces = false) {own cls : String} {names : List String} {ik ic mc ms : Nat} {A : Nat → Prop}
    (hown : s.vm.findClass own = some m.cls) (hcls : Bundle.fit cls = true) (hnames : ∀ n ∈ names, Bundle.fit n = true)
    (hk : (Cond.classLink own ik cls).before args s = true) (hini : (Cond.initialized cls).before args s = true) (hat : ∀ w ∈ vx_at0 own ic cls names, w.before args s = true)
    (hgood : ∀ w ∈ Cond.classLink own ik cls :: Cond.initialized cls :: vx_at0 own ic cls names, vx_ot w = true)
    (hU : vx_Zq Bundle.tN "UNASSIGNED_STACK" Bundle.steD A s s.heap) (hN : vx_Zq Bundle.tN "SUPPRESSED_SENTINEL" Bundle.listD A s s.heap) (hS : va_S A s.heap H locs) (hsize : ls.size = c.maxLocals)
    (d0 : decode cc pc = .ok (.new ik, 3)) (d3 : decode cc (pc + 3) = .ok (.dup, 1)) (d4 : decode cc (pc + 4) = .ok (.invokespecial ic, 3)) (d7 : decode cc (pc + 7) = .ok (.athrow, 1))
    (hout : ∀ x ∈ c.exceptionTable.toList, covers x (pc + 7) = false)
    (hRframes : names.length + 3 < R.frames) (hRlocals : (rest.map fun v => v.category).sum + (13 * (names.length + 1) + 42) ≤ R.locals) (hRcells : cells + 1 ≤ R.cells) (hRslots : slots + 6 ≤ R.slots) (hlocks : meth.locks = false)
    (hx : ∀ t : State, s.vm.Alike t.vm → H.size ≤ t.heap.size → (∀ q : Nat, q < H.size → t.heap[q]? = H[q]?) → XC cls s t)
    (hf : ∀ z ∈ locs, free z.base) (hc : cells + 1 ≤ mc) (hs : slots + 6 ≤ ms) :
    W p l e R s m args below meth c H locs cells slots (vx_MQ below Qc XC args s mc ms free) (F0 m pc ls rest) := by
  intro T hT X
  have htr : e.platform.stackTraces = false := (show e.platform.stackTraces = l.stackTraces by rw [X.admits.platform]).trans hl
  have Y := vx_rebase X (R' := { frames := R.frames, locals := R.locals, cells := 1, slots := 6 }) (Nat.le_refl _) (Nat.le_refl _) hRcells hRslots
  obtain ⟨s', hA⟩ : ∃ z, z = (T.setVm s.vm).setFrames (.invoking m args :: below) := ⟨_, rfl⟩
  rw [← hA] at Y
  have hvm : s'.vm = s.vm := by rw [hA]; rfl
  have hhp : s'.heap = H := by rw [hA]; exact hT
  have hW0 : s.WarmedH s'.vm := by rw [hvm]; exact State.WarmedH.refl s
  have hat' : ∀ w ∈ vx_at0 own ic cls names, w.before args s' = true := fun w hw => vx_ot_at hW0 hvm.symm (hgood w (List.mem_cons_of_mem _ (List.mem_cons_of_mem _ hw))) (hat w hw)
  have hk' : (Cond.classLink own ik cls).before args s' = true := vx_ot_at hW0 hvm.symm (hgood _ List.mem_cons_self) hk
  have hini' : (Cond.initialized cls).before args s' = true := vx_ot_at hW0 hvm.symm (hgood _ (List.mem_cons_of_mem _ List.mem_cons_self)) hini
  have hU' : vx_Zq Bundle.tN "UNASSIGNED_STACK" Bundle.steD A s' s'.heap := by rw [hhp]; exact vx_Zq.moved hW0.alike (hU.kept hS.2.1)
  have hN' : vx_Zq Bundle.tN "SUPPRESSED_SENTINEL" Bundle.listD A s' s'.heap := by rw [hhp]; exact vx_Zq.moved hW0.alike (hN.kept hS.2.1)
  have h : ∀ w ∈ Bundle.ownAtoms0 own ic cls names, w.before args s' = true := vx_own hat' (vx_isRefq hU'.1) (vx_isRefq hN'.1) hU'.2.word hN'.2.word
  have hown' : s'.vm.findClass own = some m.cls := by rw [hvm]; exact hown
  have hins : (Cond.instantiable cls 6).before args s' = true := h _ (by simp [Bundle.ownAtoms0])
  obtain ⟨vm₁, cX, kX, hfX, hkX, -, -, X₁, st1⟩ := Y.newCold hexec (own := own) (C := cls) (index := ik) (n := 6) hown' hk' hins hini'
    (g := F0 m pc ls rest) rfl (by rw [hb]; exact d0) (Nat.le_refl _) (Nat.le_refl _)
  generalize hT1 : (T.setVm vm₁).pushCell { cls := cX, slots := kX.instanceTypes.map defaultValue, vm := .none } = T1 at X₁ st1
  have hcat : (Value.ref T.heap.size).category = 1 := rfl
  have hcellA : T1.heap[T.heap.size]? = some (freshCell cX kX) := by rw [← hT1]; exact State.heap_pushCell_size _ _
  have d3' : decode c.code (pc + 3) = .ok (.dup, 1) := by rw [hb]; exact d3
  obtain ⟨U, hsteps, hrun, hend, hW, hsame, ce, hce, hO⟩ := X₁.ctorThrow0 hexec htr (own := own) (cls := cls) (names := names) (ic := ic) hown' hcls hnames h (fun x hx => nomatch hx) hfX hkX hcellA (by rw [hhp, hT]; exact Nat.le_refl _)
    (g := { method := m, pc := pc + 4, locals := ls, stack := .ref T.heap.size :: .ref T.heap.size :: rest, locked := none }) rfl hsize rfl rfl (rest := rest) rfl
    (by rw [hb]; exact d4) (by rw [hb]; exact d7) hout hRframes (by simp only [List.map_cons, List.sum_cons, hcat]; omega) hlocks
  obtain ⟨f1, f2⟩ := vx_frame hsame
  rw [hhp] at f1 f2
  have hWs : s.WarmedH U.vm := State.WarmedH.trans hW0 hW
  have hcl : s.vm.findClass cls = some ce.cls := by
    have h9 := hO.cls
    rw [hvm] at h9
    exact h9
  have hall : s.sameButNew ({ U with vm := s.vm } : State) locs mc ms := by
    subst hA
    obtain ⟨e1, e2⟩ := hsame
    rw [State.setFrames_setFrames] at e1
    have h2 : (T.setVm s.vm).sameButNew ({ U with vm := s.vm } : State) [] (0 + 1) (0 + 6) := ⟨e1, e2⟩
    have h3 := X.same.trans h2
    rw [List.append_nil] at h3
    exact h3.mono hc hs
  refine ⟨U, ?_, .threw T.heap.size, hrun, hend, Or.inr ⟨T.heap.size, rfl, cls, ce, locs, hx U hWs.alike f1 (fun q hq => f2 q hq (fun z hz => nomatch hz)), hce, hO.vm, hcl, hWs, hall, hf⟩⟩
  refine st1 _ ?_
  show Steps p.tables e below (T1.setTop { method := m, pc := pc + 3, locals := ls, stack := .ref T.heap.size :: rest, locked := none }) _
  jvm_step X₁.here [X₁.here.top, hexec, d3', Value.category]
  exact hsteps
/-- 'throw new E("text")': new; dup; ldc; invokespecial; athrow -/
theorem vx_throwS {cc : ByteArray} {pc : Nat} (hexec : p.tables.exec = Jvm.exec) (hb : c.code = cc) (hl : l.stackTraces = false) {own cls text : String} {names : List String} {ik is ic mc ms sa : Nat} {A : Nat → Prop}
    (hown : s.vm.findClass own = some m.cls) (hcls : Bundle.fit cls = true) (hnames : ∀ n ∈ names, Bundle.fit n = true)
    (hk : (Cond.classLink own ik cls).before args s = true) (hini : (Cond.initialized cls).before args s = true) (hstr : vk_R own is text sa s) (hat : ∀ w ∈ vx_atS own ic cls names, w.before args s = true)
    (hgood : ∀ w ∈ Cond.classLink own ik cls :: Cond.initialized cls :: vx_atS own ic cls names, vx_ot w = true)
    (hU : vx_Zq Bundle.tN "UNASSIGNED_STACK" Bundle.steD A s s.heap) (hN : vx_Zq Bundle.tN "SUPPRESSED_SENTINEL" Bundle.listD A s s.heap) (hS : va_S A s.heap H locs) (hsize : ls.size = c.maxLocals)
    (d0 : decode cc pc = .ok (.new ik, 3)) (d3 : decode cc (pc + 3) = .ok (.dup, 1)) (d4 : decode cc (pc + 4) = .ok (.ldc is, 2)) (d6 : decode cc (pc + 6) = .ok (.invokespecial ic, 3)) (d9 : decode cc (pc + 9) = .ok (.athrow, 1))
    (hout : ∀ x ∈ c.exceptionTable.toList, covers x (pc + 9) = false)
    (hRframes : names.length + 3 < R.frames) (hRlocals : (rest.map fun v => v.category).sum + (13 * (names.length + 1) + 43) ≤ R.locals) (hRcells : cells + 1 ≤ R.cells) (hRslots : slots + 6 ≤ R.slots) (hlocks : meth.locks = false)
    (hx : ∀ t : State, s.vm.Alike t.vm → H.size ≤ t.heap.size → (∀ q : Nat, q < H.size → t.heap[q]? = H[q]?) → XC cls s t)
    (hf : ∀ z ∈ locs, free z.base) (hc : cells + 1 ≤ mc) (hs : slots + 6 ≤ ms) :
    W p l e R s m args below meth c H locs cells slots (vx_MQ below Qc XC args s mc ms free) (F0 m pc ls rest) := by
  intro T hT X
  have htr : e.platform.stackTraces = false := (show e.platform.stackTraces = l.stackTraces by rw [X.admits.platform]).trans hl
  have Y := vx_rebase X (R' := { frames := R.frames, locals := R.locals, cells := 1, slots := 6 }) (Nat.le_refl _) (Nat.le_refl _) hRcells hRslots
  obtain ⟨s', hA⟩ : ∃ z, z = (T.setVm s.vm).setFrames (.invoking m args :: below) := ⟨_, rfl⟩
  rw [← hA] at Y
  have hvm : s'.vm = s.vm := by rw [hA]; rfl
  have hhp : s'.heap = H := by rw [hA]; exact hT
  have hW0 : s.WarmedH s'.vm := by rw [hvm]; exact State.WarmedH.refl s
  have hat' : ∀ w ∈ vx_atS own ic cls names, w.before args s' = true := fun w hw => vx_ot_at hW0 hvm.symm (hgood w (List.mem_cons_of_mem _ (List.mem_cons_of_mem _ hw))) (hat w hw)
  have hk' : (Cond.classLink own ik cls).before args s' = true := vx_ot_at hW0 hvm.symm (hgood _ List.mem_cons_self) hk
  have hini' : (Cond.initialized cls).before args s' = true := vx_ot_at hW0 hvm.symm (hgood _ (List.mem_cons_of_mem _ List.mem_cons_self)) hini
  have hU' : vx_Zq Bundle.tN "UNASSIGNED_STACK" Bundle.steD A s' s'.heap := by rw [hhp]; exact vx_Zq.moved hW0.alike (hU.kept hS.2.1)
  have hN' : vx_Zq Bundle.tN "SUPPRESSED_SENTINEL" Bundle.listD A s' s'.heap := by rw [hhp]; exact vx_Zq.moved hW0.alike (hN.kept hS.2.1)
  have h : ∀ w ∈ Bundle.ownAtoms own ic cls names, w.before args s' = true := vx_own hat' (vx_isRefq hU'.1) (vx_isRefq hN'.1) hU'.2.word hN'.2.word
  have hown' : s'.vm.findClass own = some m.cls := by rw [hvm]; exact hown
  have hins : (Cond.instantiable cls 6).before args s' = true := h _ (by simp [Bundle.ownAtoms])
  obtain ⟨vm₁, cX, kX, hfX, hkX, -, -, X₁, st1⟩ := Y.newCold hexec (own := own) (C := cls) (index := ik) (n := 6) hown' hk' hins hini'
    (g := F0 m pc ls rest) rfl (by rw [hb]; exact d0) (Nat.le_refl _) (Nat.le_refl _)
  generalize hT1 : (T.setVm vm₁).pushCell { cls := cX, slots := kX.instanceTypes.map defaultValue, vm := .none } = T1 at X₁ st1
  have hcat : (Value.ref T.heap.size).category = 1 := rfl
  have hcellA : T1.heap[T.heap.size]? = some (freshCell cX kX) := by rw [← hT1]; exact State.heap_pushCell_size _ _
  have d3' : decode c.code (pc + 3) = .ok (.dup, 1) := by rw [hb]; exact d3
  have d4' : decode c.code (pc + 4) = .ok (.ldc is, 2) := by rw [hb]; exact d4
  have hstr' : vk_R own is text sa s' := vk_R.warm hW0 hstr
  obtain ⟨U, hsteps, hrun, hend, hW, hsame, ce, hce, hO⟩ := X₁.ctorThrowS hexec htr (own := own) (cls := cls) (names := names) (ic := ic) hown' hcls hnames h (fun x hx => nomatch hx) hfX hkX hcellA (by rw [hhp, hT]; exact Nat.le_refl _) (msg := .ref sa) rfl
    (g := { method := m, pc := pc + 6, locals := ls, stack := .ref sa :: .ref T.heap.size :: .ref T.heap.size :: rest, locked := none }) rfl hsize rfl rfl (rest := rest) rfl
    (by rw [hb]; exact d6) (by rw [hb]; exact d9) hout hRframes (by simp only [List.map_cons, List.sum_cons, hcat]; omega) hlocks
  obtain ⟨f1, f2⟩ := vx_frame hsame
  rw [hhp] at f1 f2
  have hWs : s.WarmedH U.vm := State.WarmedH.trans hW0 hW
  have hcl : s.vm.findClass cls = some ce.cls := by
    have h9 := hO.cls
    rw [hvm] at h9
    exact h9
  have hall : s.sameButNew ({ U with vm := s.vm } : State) locs mc ms := by
    subst hA
    obtain ⟨e1, e2⟩ := hsame
    rw [State.setFrames_setFrames] at e1
    have h2 : (T.setVm s.vm).sameButNew ({ U with vm := s.vm } : State) [] (0 + 1) (0 + 6) := ⟨e1, e2⟩
    have h3 := X.same.trans h2
    rw [List.append_nil] at h3
    exact h3.mono hc hs
  refine ⟨U, ?_, .threw T.heap.size, hrun, hend, Or.inr ⟨T.heap.size, rfl, cls, ce, locs, hx U hWs.alike f1 (fun q hq => f2 q hq (fun z hz => nomatch hz)), hce, hO.vm, hcl, hWs, hall, hf⟩⟩
  refine st1 _ ?_
  show Steps p.tables e below (T1.setTop { method := m, pc := pc + 3, locals := ls, stack := .ref T.heap.size :: rest, locked := none }) _
  jvm_step X₁.here [X₁.here.top, hexec, d3', Value.category]
  exact X₁.ldcString hexec (own := own) (text := text) (index := is) (a := sa) hown' hstr'.1 hstr'.2
    (g := { method := m, pc := pc + 4, locals := ls, stack := .ref T.heap.size :: .ref T.heap.size :: rest, locked := none }) rfl d4' _ hsteps
/-- 'throw new E("text")', the text by a wide index -/
theorem vx_throwSW {cc : ByteArray} {pc : Nat} (hexec : p.tables.exec = Jvm.exec) (hb : c.code = cc) (hl : l.stackTraces = false) {own cls text : String} {names : List String} {ik is ic mc ms sa : Nat} {A : Nat → Prop}
    (hown : s.vm.findClass own = some m.cls) (hcls : Bundle.fit cls = true) (hnames : ∀ n ∈ names, Bundle.fit n = true)
    (hk : (Cond.classLink own ik cls).before args s = true) (hini : (Cond.initialized cls).before args s = true) (hstr : vk_R own is text sa s) (hat : ∀ w ∈ vx_atS own ic cls names, w.before args s = true)
    (hgood : ∀ w ∈ Cond.classLink own ik cls :: Cond.initialized cls :: vx_atS own ic cls names, vx_ot w = true)
    (hU : vx_Zq Bundle.tN "UNASSIGNED_STACK" Bundle.steD A s s.heap) (hN : vx_Zq Bundle.tN "SUPPRESSED_SENTINEL" Bundle.listD A s s.heap) (hS : va_S A s.heap H locs) (hsize : ls.size = c.maxLocals)
    (d0 : decode cc pc = .ok (.new ik, 3)) (d3 : decode cc (pc + 3) = .ok (.dup, 1)) (d4 : decode cc (pc + 4) = .ok (.ldc_w is, 3)) (d7 : decode cc (pc + 7) = .ok (.invokespecial ic, 3)) (d10 : decode cc (pc + 10) = .ok (.athrow, 1))
    (hout : ∀ x ∈ c.exceptionTable.toList, covers x (pc + 10) = false)
    (hRframes : names.length + 3 < R.frames) (hRlocals : (rest.map fun v => v.category).sum + (13 * (names.length + 1) + 43) ≤ R.locals) (hRcells : cells + 1 ≤ R.cells) (hRslots : slots + 6 ≤ R.slots) (hlocks : meth.locks = false)
    (hx : ∀ t : State, s.vm.Alike t.vm → H.size ≤ t.heap.size → (∀ q : Nat, q < H.size → t.heap[q]? = H[q]?) → XC cls s t)
    (hf : ∀ z ∈ locs, free z.base) (hc : cells + 1 ≤ mc) (hs : slots + 6 ≤ ms) :
    W p l e R s m args below meth c H locs cells slots (vx_MQ below Qc XC args s mc ms free) (F0 m pc ls rest) := by
  intro T hT X
  have htr : e.platform.stackTraces = false := (show e.platform.stackTraces = l.stackTraces by rw [X.admits.platform]).trans hl
  have Y := vx_rebase X (R' := { frames := R.frames, locals := R.locals, cells := 1, slots := 6 }) (Nat.le_refl _) (Nat.le_refl _) hRcells hRslots
  obtain ⟨s', hA⟩ : ∃ z, z = (T.setVm s.vm).setFrames (.invoking m args :: below) := ⟨_, rfl⟩
  rw [← hA] at Y
  have hvm : s'.vm = s.vm := by rw [hA]; rfl
  have hhp : s'.heap = H := by rw [hA]; exact hT
  have hW0 : s.WarmedH s'.vm := by rw [hvm]; exact State.WarmedH.refl s
  have hat' : ∀ w ∈ vx_atS own ic cls names, w.before args s' = true := fun w hw => vx_ot_at hW0 hvm.symm (hgood w (List.mem_cons_of_mem _ (List.mem_cons_of_mem _ hw))) (hat w hw)
  have hk' : (Cond.classLink own ik cls).before args s' = true := vx_ot_at hW0 hvm.symm (hgood _ List.mem_cons_self) hk
  have hini' : (Cond.initialized cls).before args s' = true := vx_ot_at hW0 hvm.symm (hgood _ (List.mem_cons_of_mem _ List.mem_cons_self)) hini
  have hU' : vx_Zq Bundle.tN "UNASSIGNED_STACK" Bundle.steD A s' s'.heap := by rw [hhp]; exact vx_Zq.moved hW0.alike (hU.kept hS.2.1)
  have hN' : vx_Zq Bundle.tN "SUPPRESSED_SENTINEL" Bundle.listD A s' s'.heap := by rw [hhp]; exact vx_Zq.moved hW0.alike (hN.kept hS.2.1)
  have h : ∀ w ∈ Bundle.ownAtoms own ic cls names, w.before args s' = true := vx_own hat' (vx_isRefq hU'.1) (vx_isRefq hN'.1) hU'.2.word hN'.2.word
  have hown' : s'.vm.findClass own = some m.cls := by rw [hvm]; exact hown
  have hins : (Cond.instantiable cls 6).before args s' = true := h _ (by simp [Bundle.ownAtoms])
  obtain ⟨vm₁, cX, kX, hfX, hkX, -, -, X₁, st1⟩ := Y.newCold hexec (own := own) (C := cls) (index := ik) (n := 6) hown' hk' hins hini'
    (g := F0 m pc ls rest) rfl (by rw [hb]; exact d0) (Nat.le_refl _) (Nat.le_refl _)
  generalize hT1 : (T.setVm vm₁).pushCell { cls := cX, slots := kX.instanceTypes.map defaultValue, vm := .none } = T1 at X₁ st1
  have hcat : (Value.ref T.heap.size).category = 1 := rfl
  have hcellA : T1.heap[T.heap.size]? = some (freshCell cX kX) := by rw [← hT1]; exact State.heap_pushCell_size _ _
  have d3' : decode c.code (pc + 3) = .ok (.dup, 1) := by rw [hb]; exact d3
  have d4' : decode c.code (pc + 4) = .ok (.ldc_w is, 3) := by rw [hb]; exact d4
  have hstr' : vk_R own is text sa s' := vk_R.warm hW0 hstr
  obtain ⟨U, hsteps, hrun, hend, hW, hsame, ce, hce, hO⟩ := X₁.ctorThrowS hexec htr (own := own) (cls := cls) (names := names) (ic := ic) hown' hcls hnames h (fun x hx => nomatch hx) hfX hkX hcellA (by rw [hhp, hT]; exact Nat.le_refl _) (msg := .ref sa) rfl
    (g := { method := m, pc := pc + 7, locals := ls, stack := .ref sa :: .ref T.heap.size :: .ref T.heap.size :: rest, locked := none }) rfl hsize rfl rfl (rest := rest) rfl
    (by rw [hb]; exact d7) (by rw [hb]; exact d10) hout hRframes (by simp only [List.map_cons, List.sum_cons, hcat]; omega) hlocks
  obtain ⟨f1, f2⟩ := vx_frame hsame
  rw [hhp] at f1 f2
  have hWs : s.WarmedH U.vm := State.WarmedH.trans hW0 hW
  have hcl : s.vm.findClass cls = some ce.cls := by
    have h9 := hO.cls
    rw [hvm] at h9
    exact h9
  have hall : s.sameButNew ({ U with vm := s.vm } : State) locs mc ms := by
    subst hA
    obtain ⟨e1, e2⟩ := hsame
    rw [State.setFrames_setFrames] at e1
    have h2 : (T.setVm s.vm).sameButNew ({ U with vm := s.vm } : State) [] (0 + 1) (0 + 6) := ⟨e1, e2⟩
    have h3 := X.same.trans h2
    rw [List.append_nil] at h3
    exact h3.mono hc hs
  refine ⟨U, ?_, .threw T.heap.size, hrun, hend, Or.inr ⟨T.heap.size, rfl, cls, ce, locs, hx U hWs.alike f1 (fun q hq => f2 q hq (fun z hz => nomatch hz)), hce, hO.vm, hcl, hWs, hall, hf⟩⟩
  refine st1 _ ?_
  show Steps p.tables e below (T1.setTop { method := m, pc := pc + 3, locals := ls, stack := .ref T.heap.size :: rest, locked := none }) _
  jvm_step X₁.here [X₁.here.top, hexec, d3', Value.category]
  exact X₁.ldcStringW hexec (own := own) (text := text) (index := is) (a := sa) hown' hstr'.1 hstr'.2
    (g := { method := m, pc := pc + 4, locals := ls, stack := .ref T.heap.size :: .ref T.heap.size :: rest, locked := none }) rfl d4' _ hsteps
end Ends
section Bodies
variable {l : Launch}
theorem vx_ofW {y : MethodName} {ws ws' : List Cond} {rm : Room} {Pc : Array Value → State → Prop} {Qc : Array Value → State → Outcome → State → Prop} {XC : String → State → State → Prop} {mc ms : Nat} {free : Addr → Prop} {cc : ByteArray} {maxL : Nat} {ret : Option FieldType}
    (hy : plainName y.cls = true) (hw : ws = Cond.code y cc maxL ret :: ws')
    (body : ∀ p e s m args below meth c s₁, BodyLoose p l y (headSpec ws rm) cc maxL ret e s m args below meth c s₁ → c.maxLocals = maxL → (∀ x ∈ c.exceptionTable.toList, False) → Pc args s →
      W p l e (headSpec ws rm).room s m args below meth c s.heap [] 0 0 (vx_MQ below Qc XC args s mc ms free) (entryFrame m args maxL)) : vx_Met l y ws rm Pc Qc XC mc ms free := by
  refine MetFree.of_bodyS (code := cc) (maxLocals := maxL) (ret := ret) hy ?_ ?_
  · intro args s m h hn
    obtain ⟨meth, c, h1, h2, h3, h4, h5, h6, -, -⟩ := Cond.code_spec hn (atoms_spec (ws := ws) h _ (by rw [hw]; exact List.mem_cons_self))
    exact ⟨meth, c, h1, h2, h3, h4, h5, h6⟩
  · intro p e s m args below meth c s₁ B hml hP _
    have hh0 : s₁.heap = s.heap := by rw [B.state]; rfl
    have ht : ∀ x ∈ c.exceptionTable.toList, False := by
      obtain ⟨meth9, c9, h1, h2, -, -, -, -, h7, -⟩ := Cond.code_spec B.named (atoms_spec (ws := ws) B.pre _ (by rw [hw]; exact List.mem_cons_self))
      cases Option.some.inj (h1.symm.trans B.method)
      cases Option.some.inj (h2.symm.trans (Stand.of_body B).code)
      intro x hx
      rw [Array.isEmpty_iff.mp h7] at hx
      cases hx
    obtain ⟨t, a1, o, b1, b2, b3⟩ := body p e s m args below meth c s₁ B hml ht hP s₁ hh0 (Stand.of_body B)
    exact ⟨t, o, a1, b1, b2, b3⟩
/-- the table of a body with handlers -/
theorem vx_table {p : Program} {x y : MethodName} {S : Spec} {cc bytes : ByteArray} {maxL maxL' : Nat} {ret ret' : Option FieldType} {e : Env} {s s₁ : State} {m : MethodId} {args : Array Value} {below : List Frame} {meth : Method} {c : Code} {hh : List (Nat × Nat × Nat × Nat)}
    (B : BodyLoose p l y S cc maxL ret e s m args below meth c s₁) (h : (Cond.codeWith y bytes maxL' ret' hh).before args s = true) : c.exceptionTable.toList = tableOf hh := by
  obtain ⟨m9, meth9, c9, hn9, h1, h2, -, -, h6, -⟩ := Cond.codeWith_spec h
  cases Option.some.inj (hn9.symm.trans B.named)
  cases Option.some.inj (h1.symm.trans B.method)
  cases Option.some.inj (h2.symm.trans (Stand.of_body B).code)
  rw [← h6, table_eq]
end Bodies
end VXA
/-! ===== END ===== -/
/-! ===== BEGIN a static call of a method with an exception table ===== -/
section VXS
variable {p : Program} {l : Launch} {e : Env} {R : Room} {s : State} {m : MethodId} {args : Array Value} {below : List Frame} {meth : Method} {c : Code} {T : State} {H : Heap} {locs : List Loc} {cells slots : Nat}
abbrev vx_CSW (R : Room) (s : State) (args : Array Value) (own : String) (index : Nat) (y : MethodName) (bytes : ByteArray) (maxL : Nat) (ret : Option FieldType) (hh : List (Nat × Nat × Nat × Nat)) (ws : List Cond) (rm : Room) (mc ms n : Nat) : Prop :=
  (rm.cells = mc ∧ rm.slots = ms ∧ rm.frames + 1 ≤ R.frames ∧ 8 + (maxL + 11) + rm.locals ≤ R.locals ∧ (∀ w ∈ ws, ∀ (a' : Array Value) (U : State), s.WarmedH U.vm → w.before a' U = true) ∧ Cond.codeWith y bytes maxL ret hh ∈ ws) ∧
  (Cond.codeWith y bytes maxL ret hh).before args s = true ∧ (Cond.initialized y.cls).before args s = true ∧ (y.cls ≠ "java/lang/invoke/MethodHandle" ∧ y.cls ≠ "java/lang/invoke/VarHandle") ∧
  (∀ sig, parseMethodDescriptor y.desc = some sig → n = sig.parameters.length) ∧ (Cond.methodLink own index y).before args s = true ∧ (Cond.static y).before args s = true
theorem vx_cwSW {own : String} {index maxL mc ms : Nat} {y : MethodName} {bytes : ByteArray} {ret : Option FieldType} {hh : List (Nat × Nat × Nat × Nat)} {Ts ws ws' : List Cond} {rm : Room} (n : Nat) (ht : ∀ w ∈ Ts, w.before args s = true) (hT : GoodIn Ts (va_wsS own index y ws)) (hw : ws = Cond.codeWith y bytes maxL ret hh :: ws') (hrc : rm.cells = mc) (hrs : rm.slots = ms)
    (hd : y.cls ≠ "java/lang/invoke/MethodHandle" ∧ y.cls ≠ "java/lang/invoke/VarHandle" ∧ (parseMethodDescriptor y.desc).map (fun d => d.parameters.length) = some n) (hR : rm.frames + 1 ≤ R.frames ∧ 8 + (maxL + 11) + rm.locals ≤ R.locals) :
    vx_CSW R s args own index y bytes maxL ret hh ws rm mc ms n := by
  have ok : ∀ w ∈ va_wsS own index y ws, w.before args s = true := fun w h => ht w (hT w h).1
  have hG : GoodIn Ts ws := fun w h => hT w (by unfold va_wsS; exact List.mem_append_right _ h)
  have hc : Cond.codeWith y bytes maxL ret hh ∈ ws := by rw [hw]; exact List.mem_cons_self
  refine ⟨⟨hrc, hrs, hR.1, hR.2, pay_in ht hG, hc⟩, ht _ (hG _ hc).1, ok _ (by simp [va_wsS]), ⟨hd.1, hd.2.1⟩, fun sig h => ?_, ok _ (by simp [va_wsS]), ok _ (by simp [va_wsS])⟩
  have h2 := hd.2.2
  rw [h] at h2
  exact (Option.some.inj h2).symm
theorem vx_callSW (X : Stand p l e R s m args below meth c T locs cells slots) (hexec : p.tables.exec = Jvm.exec) {own : String} {index : Nat} {y : MethodName} {bytes : ByteArray} {maxL : Nat} {ret : Option FieldType} {hh : List (Nat × Nat × Nat × Nat)}
    (hown : s.vm.findClass own = some m.cls) (hlink : (Cond.methodLink own index y).before args s = true) (hstat : (Cond.static y).before args s = true) (hinit : (Cond.initialized y.cls).before args s = true)
    (hcode : (Cond.codeWith y bytes maxL ret hh).before args s = true) (hy : y.cls ≠ "java/lang/invoke/MethodHandle" ∧ y.cls ≠ "java/lang/invoke/VarHandle")
    {W9 : Nat} {Pre : Pt → Array Value → Prop} {Post : Pt → Array Value → Option Value → Pt → Prop} (hK : Back l R p e below s args y 3 W9 Pre Post)
    {g : JFrame} (hg : g.method = m) (hsize : g.locals.size = c.maxLocals) {argsL rest : List Value} (hlen : ∀ sig, parseMethodDescriptor y.desc = some sig → argsL.length = sig.parameters.length)
    (hstack : g.stack = argsL.reverse ++ rest) (hW : 2 * g.monitorRoom + (rest.map fun v => v.category).sum ≤ W9) (hdg : decode c.code g.pc = .ok (.invokestatic index, 3))
    (hpre : ∀ vm₁, s.WarmedH vm₁ → Pre ⟨T.setVm vm₁, locs, cells, slots⟩ argsL.toArray) :
    ∃ (v : Option Value) (vm₁ : Vm) (B : Pt), s.WarmedH vm₁ ∧ Stand p l e R s m args below meth c B.U B.locs B.cells B.slots ∧ Post ⟨T.setVm vm₁, locs, cells, slots⟩ argsL.toArray v B ∧
      ∀ target, Steps p.tables e below (B.U.setTop { g with pc := g.pc + 3, stack := v.toList ++ rest }) target → Steps p.tables e below (T.setTop g) target := by
  obtain ⟨mk, methM, cM, hnamed, hmethM, -, -, -, -, -, -, hsigM⟩ := Cond.codeWith_spec hcode
  have hstatic : methM.isStatic = true := Cond.static_spec hnamed hmethM hstat
  obtain ⟨kP, hkP, -⟩ := className_of_methodNamed hnamed
  have hinitP : kP.init = .initialized := Cond.initialized_spec (findClass_of_methodNamed hnamed) hkP hinit
  obtain ⟨vm₁, X₁, hstep₁⟩ := X.invokestatic hexec hown hlink hnamed hmethM hstatic hkP hinitP hy (g := g) hg (argsL := argsL) (rest := rest) (hlen _ hsigM) hstack hdg
  obtain ⟨v, B, X', hpost, hsteps⟩ := hK m meth c ⟨T.setVm vm₁, locs, cells, slots⟩ { g with stack := rest } (.invokestatic index) mk argsL.toArray X₁ hg hsize hdg hW (X₁.named hnamed) (hpre vm₁ X₁.warmed)
  exact ⟨v, vm₁, B, X₁.warmed, X', hpost, fun target h => hstep₁ _ fun acts => by rw [doInvoke_state]; exact hsteps.trans h⟩
theorem vx_runSW {y : MethodName} {bytes cc : ByteArray} {maxL nL mc ms n index : Nat} {ret : Option FieldType} {hh : List (Nat × Nat × Nat × Nat)} {ws : List Cond} {rm : Room} {Pc : Array Value → State → Prop} {Qc : Array Value → State → Outcome → State → Prop} {free : Addr → Prop} {Ts : List Cond} {own : String} {As rest : List Value} {g : JFrame}
    (S : CallFix p m c cc nL s args Ts own) (hM : Met l y ws rm Pc Qc mc ms free) (cw : vx_CSW R s args own index y bytes maxL ret hh ws rm mc ms n) (hp : PreS s H Pc As)
    (hg : g.method = m) (hn : As.length = n) (hsize : g.locals.size = nL) (hstack : g.stack = As.reverse ++ rest) (hW : 2 * g.monitorRoom + (rest.map fun v => v.category).sum ≤ 8) (hdg : decode cc g.pc = .ok (.invokestatic index, 3)) (hf : cells + mc ≤ R.cells ∧ slots + ms ≤ R.slots) :
    va_Run p l e R s m args below meth c H locs cells slots mc ms g rest (Qc As.toArray) (free) := by
  obtain ⟨⟨hrc, hrs, hfr, hlo, hws, hcw⟩, hcode, hini, hy, hlen, hl, hstt⟩ := cw
  have hK : Back l R p e below s args y 3 8 (PreOf R mc ms Pc) (PostOf Qc mc ms free) := va_backW (hh := hh) (bytes := bytes) (maxL := maxL) (ret := ret) hM hp.1 hrc hrs hfr hlo hws hcw (fun a' U hW => word_at hW (Or.inl (by first | rfl | simp [Cond.onTables, Cond.keeps, Cond.steady])) hini)
  obtain ⟨hx, hb, hml, ho, -⟩ := S
  intro T hT X
  obtain ⟨v, vm₁, ⟨U', l2, c2, s2⟩, hW₁, X', ⟨g', mk, t, L, e1, e2, hq, h1, hL, h2, h3⟩, st⟩ := vx_callSW X hx (hh := hh) (bytes := bytes) (maxL := maxL) (ret := ret) ho hl hstt hini hcode hy hK hg (hsize.trans hml.symm) (argsL := As) (rest := rest) (fun sig h => hn.trans (hlen sig h)) hstack hW (by rw [hb]; exact hdg)
    (fun vm₁ hW₁ => ⟨hf.1, hf.2, hp.2 (T.setVm vm₁) hT hW₁⟩)
  dsimp only [Pt.U, Pt.locs, Pt.cells, Pt.slots] at X' e1 e2 h1 h2 h3 st
  subst h1; subst h2; subst h3
  exact ⟨v, (T.setVm vm₁).calling g' mk As.toArray, t, U', L, hT, X', hL, e1, e2, hq, st⟩
/-- not caught here, past rows that name other classes: it goes on to the caller -/
theorem vx_outP {p : Program} {l : Launch} {e : Env} {R : Room} {s : State} {m : MethodId} {args : Array Value} {below : List Frame} {meth : Method} {c : Code} {H : Heap} {locs : List Loc} {cells slots : Nat} {free : Addr → Prop} {ls : Array Slot} {rest : List Value} {Qc : Array Value → State → Outcome → State → Prop} {XC : String → State → State → Prop}
    {pc : Nat} {own E : String} {ce : Cell} {q : Addr} {mc ms : Nat} (hown : s.vm.findClass own = some m.cls) (hlocks : meth.locks = false)
    (hpass : ∀ z ∈ c.exceptionTable.toList, covers z pc = false ∨ (z.catchType ≠ 0 ∧ ∃ nm : String, (Cond.classLink own z.catchType nm).before args s = true ∧ va_Nc E nm s)) (hcell : H[q]? = some ce) (hv : ce.vm = .none) (hcl : s.vm.findClass E = some ce.cls)
    (hx : ∀ t : State, t.heap = H → s.vm.Alike t.vm → XC E s t) (hf : ∀ z ∈ locs, free z.base) (hc : cells ≤ mc) (hs : slots ≤ ms) :
    vx_W p l e R s m args below meth c H locs cells slots (vx_MQ below Qc XC args s mc ms free) (F0 m pc ls rest) q := by
  intro T hT X
  have hpl : e.platform.magicAccessors = ({} : Platform).magicAccessors := by rw [X.admits.platform]
  obtain ⟨vm', hW', X', st⟩ := X.outThrough hlocks q (g := F0 m pc ls rest) rfl rfl rfl (cell := ce) (by rw [hT]; exact hcell) (by rw [hv]; rfl)
    (by obtain ⟨k9, h9, -⟩ := Vm.findClass_spec hcl; exact ⟨k9, h9⟩) (fun z hz => by
      rcases hpass z hz with h | ⟨hz0, nm, hl1, hn1⟩
      · exact Or.inl h
      · obtain ⟨c6, hc6, hcl6⟩ := Cond.classLink_spec hown hl1 e.platform hpl
        obtain ⟨a8, b8, h1, h2, h3⟩ := hn1
        cases Option.some.inj (h1.symm.trans hcl)
        cases Option.some.inj (h2.symm.trans hc6)
        exact Or.inr ⟨hz0, _, hcl6, h3⟩)
  obtain ⟨g₀, hfr⟩ := X'.frames_eq
  have hcell9 : ((T.setVm vm').setFrames (.throwing q :: below)).heap[q]? = some ce := by
    show T.heap[q]? = some ce
    rw [hT]; exact hcell
  have hend : Ended ((T.setVm vm').setFrames (.throwing q :: below)) below (.threw q) := State.frames_setFrames _ (State.cur_lt_of_frames hfr)
  refine ⟨(T.setVm vm').setFrames (.throwing q :: below), ?_, .threw q, X'.here.running, hend, Or.inr ⟨q, rfl, E, ce, locs, hx _ hT (X'.ends _).1.alike, hcell9, hv, hcl, (X'.ends _).1, (X'.ends _).2.mono hc hs, hf⟩⟩
  rw [X.pushThrowing_eq]
  exact st
/-- a thing of a world lies in the heap -/
theorem vx_lt {D : va_G} {cl : List vw_C} {ws : va_W} {H1 : Heap} (h : va_P D cl ws H1) {k : Nat} {q : Nat × va_E} (hk : ws[k]? = some q) : q.1 < H1.size := (h k q hk).lt
end VXS
/-! ===== END ===== -/
/-! ===== BEGIN methods with a table of their own: called by a name, returning or throwing ===== -/
section VXH
/-! vx_backW, vx_callVX, vx_callSX, vx_callVW, vx_runVW, vx_runVX, vx_runSX, vx_ofWH follow the same proofs as their sisters above (Free/Laws.lean, Shelf42/LK1.lean); vx_outP calls Shelf42/NT130.lean (outThrough). -/
section
variable {l : Launch} {R : Room} {p : Program} {e : Env} {below : List Frame} {s : State} {sargs : Array Value} {y : MethodName} {len W9 : Nat}
theorem vx_backW {ws : List Cond} {rm : Room} {Pc : Array Value → State → Prop} {Qc : Array Value → State → Outcome → State → Prop} {XC : String → State → State → Prop} {mc ms : Nat} {free : Addr → Prop} {bytes : ByteArray} {maxL : Nat} {ret : Option FieldType} {hh : List (Nat × Nat × Nat × Nat)}
    (hM : vx_Met l y ws rm Pc Qc XC mc ms free) (hblind : FrameBlind Pc) (hrc : rm.cells = mc) (hrs : rm.slots = ms)
    (hframes : rm.frames + 1 ≤ R.frames) (hlocals : W9 + (maxL + 11) + rm.locals ≤ R.locals)
    (hws : ∀ w ∈ ws, ∀ a' U, s.WarmedH U.vm → w.before a' U = true) (hcode : Cond.codeWith y bytes maxL ret hh ∈ ws) (hinit : ∀ a' U, s.WarmedH U.vm → (Cond.initialized y.cls).before a' U = true) :
    vx_Back l R p e below s sargs y len W9 (PreOf R mc ms Pc) (PostOf Qc mc ms free) (vx_Post XC mc ms free) := by
  intro m meth c A g ig mk a X hg hsize hdg hW hn hp
  have h1 : (headSpec ws rm).pre.before a A.U = true := atoms_intro fun w hw => hws w hw _ _ X.warmed
  have h2 : (Cond.codeWith y bytes maxL ret hh).before a A.U = true := hws _ hcode _ _ X.warmed
  have h3 : (Cond.initialized y.cls).before a A.U = true := hinit _ _ X.warmed
  have h4 : A.cells + (headSpec ws rm).room.cells ≤ R.cells := by rw [show (headSpec ws rm).room.cells = mc from hrc]; exact hp.1
  have h5 : A.slots + (headSpec ws rm).room.slots ≤ R.slots := by rw [show (headSpec ws rm).room.slots = ms from hrs]; exact hp.2.1
  have hPc : Pc a (A.U.calling g mk a) := hblind _ _ _ _ hp.2.2
  obtain ⟨U, Ls, c0, s0⟩ := A
  dsimp only [Pt.U, Pt.locs, Pt.cells, Pt.slots] at h1 h2 h3 h4 h5 X hn hPc ⊢
  obtain ⟨m9, methY, cY, hn9, hmY, hcY, -, hlY, -⟩ := Cond.codeWith_spec h2
  cases Option.some.inj (hn9.symm.trans hn)
  obtain ⟨kY, hkY, -⟩ := className_of_methodNamed hn
  have hinitY : kY.init = .initialized := Cond.initialized_spec (findClass_of_methodNamed hn) hkY h3
  have h : At U g.method c below := by rw [hg]; exact X.here
  have hlocals9 : W9 + (maxL + 11) + (headSpec ws rm).room.locals ≤ R.locals := hlocals
  have happ : (headSpec ws rm).appliesLoose y e.platform (U.calling g mk a) = true :=
    Spec.appliesLoose_calling (g := g) h hdg hn hkY hinitY
      (X.room_calling (g := g) (R' := (headSpec ws rm).room) hsize hmY hcY hframes (by rw [hlY]; omega) h4 h5) h1
  obtain ⟨mid, hmid⟩ := h.above
  have hfr : (U.setTop g).frames = (.java g :: mid) ++ below := by rw [State.frames_setTop' g h.top, hmid]; rfl
  obtain ⟨o, s₂, hsteps, -, hend, hq⟩ := Steps.callFree hM p X.admits X.cas X.clock (acts := []) hfr happ hPc trivial
  have hq' : vx_Q Qc XC mc ms free a (U.calling g mk a) o s₂ := hq
  rw [State.frames_setTop' g h.top] at hend
  obtain ⟨g₀, hg0⟩ := Option.isSome_iff_exists.mp h.top
  obtain ⟨r, hr⟩ := State.topJava?_eq_some.mp hg0
  have hr' : (({ U with heap := s₂.heap, slotsUsed := s₂.slotsUsed } : State).setVm s₂.vm).frames = .java g₀ :: r := hr
  rcases hq' with ⟨hqc, L, hfe, hL⟩ | ⟨q, rfl, E, ce, L, hx, hce, hcv, hcl, hW₂, hsm, hL⟩
  · obtain ⟨⟨v, rfl⟩, hW₂, e2, q2, q3, q4, q5, q6⟩ := id hfe
    have e3 : s₂ = ({ (U.calling g mk a).setFrames s₂.frames with heap := s₂.heap, slotsUsed := s₂.slotsUsed } : State).setVm s₂.vm := by
      have : s₂ = ({ s₂ with vm := (U.calling g mk a).vm } : State).setVm s₂.vm := rfl
      rw [e2] at this
      exact this
    obtain ⟨c₂, i₂, len₂, hc₂, hd₂, hf₂⟩ := hend
    have hW' : U.WarmedH s₂.vm := hW₂
    have hcc : c₂ = c := by
      have h1 : s₂.code? g.method = U.code? g.method := by
        rw [State.code?_eq, State.code?_eq, hW'.alike.method?]
      exact Option.some.inj (hc₂.symm.trans (h1.trans h.code))
    subst hcc
    have hlen : len₂ = len := by rw [hdg] at hd₂; cases hd₂; rfl
    subst hlen
    have hs₂ : s₂ = (({ U with heap := s₂.heap, slotsUsed := s₂.slotsUsed } : State).setVm s₂.vm).setTop { g with pc := g.pc + len₂, stack := v.toList ++ g.stack } := by
      refine e3.trans ?_
      rw [hf₂, State.calling_eq h.top, State.setFrames_setFrames, State.setTop_of_frames _ hr', hr]
      rfl
    have hsame : U.sameButNew ({ U with heap := s₂.heap, slotsUsed := s₂.slotsUsed } : State) L mc ms := by
      refine ⟨?_, q2, q3, q4, q5, q6⟩
      obtain ⟨t, ht, -⟩ := State.frames_cons hr
      show ({ U with heap := s₂.heap, slotsUsed := s₂.slotsUsed } : State) = { U.setFrames U.frames with heap := s₂.heap, slotsUsed := s₂.slotsUsed }
      rw [State.setFrames_self ht]
    subst hg
    refine Or.inl ⟨v, ⟨(({ U with heap := s₂.heap, slotsUsed := s₂.slotsUsed } : State).setVm s₂.vm), Ls ++ L, c0 + mc, s0 + ms⟩,
      ⟨X.admits, X.cas, X.clock, X.frames, X.room, X.hears, X.method, X.code, (X.here.setHeapUsed s₂.heap s₂.slotsUsed).setVm hW'.alike, X.tail, State.WarmedH.trans X.warmed hW', X.limits, X.bytes, X.same.trans (hsame.setVm s.vm)⟩,
      ⟨g, mk, s₂, L, rfl, rfl, hqc, rfl, hL, rfl, rfl⟩, ?_⟩
    show Steps p.tables e below _ ((({ U with heap := s₂.heap, slotsUsed := s₂.slotsUsed } : State).setVm s₂.vm).setTop { g with pc := g.pc + len₂, stack := v.toList ++ g.stack })
    rw [← hs₂]
    exact hsteps
  · obtain ⟨e2, q2, q3, q4, q5, q6⟩ := id hsm
    have e3 : s₂ = ({ (U.calling g mk a).setFrames s₂.frames with heap := s₂.heap, slotsUsed := s₂.slotsUsed } : State).setVm s₂.vm := by
      have : s₂ = ({ s₂ with vm := (U.calling g mk a).vm } : State).setVm s₂.vm := rfl
      rw [e2] at this
      exact this
    have hf₂ : s₂.frames = .throwing q :: .java g :: U.frames.tail := hend
    have hW' : U.WarmedH s₂.vm := hW₂
    have hs₂ : s₂ = ((({ U with heap := s₂.heap, slotsUsed := s₂.slotsUsed } : State).setVm s₂.vm).setTop g).pushFrame (.throwing q) := by
      refine e3.trans ?_
      rw [hf₂, State.calling_eq h.top, State.setFrames_setFrames, State.pushFrame, State.frames_setTop _ hr', State.setTop_of_frames _ hr', State.setFrames_setFrames, hr]
      rfl
    have hsame : U.sameButNew ({ U with heap := s₂.heap, slotsUsed := s₂.slotsUsed } : State) L mc ms := by
      refine ⟨?_, q2, q3, q4, q5, q6⟩
      obtain ⟨t, ht, -⟩ := State.frames_cons hr
      show ({ U with heap := s₂.heap, slotsUsed := s₂.slotsUsed } : State) = { U.setFrames U.frames with heap := s₂.heap, slotsUsed := s₂.slotsUsed }
      rw [State.setFrames_self ht]
    subst hg
    refine Or.inr ⟨q, ⟨(({ U with heap := s₂.heap, slotsUsed := s₂.slotsUsed } : State).setVm s₂.vm), Ls ++ L, c0 + mc, s0 + ms⟩,
      ⟨X.admits, X.cas, X.clock, X.frames, X.room, X.hears, X.method, X.code, (X.here.setHeapUsed s₂.heap s₂.slotsUsed).setVm hW'.alike, X.tail, State.WarmedH.trans X.warmed hW', X.limits, X.bytes, X.same.trans (hsame.setVm s.vm)⟩,
      ⟨g, mk, s₂, L, E, ce, rfl, rfl, hx, hce, hcv, hcl, rfl, hL, rfl, rfl⟩, ?_⟩
    show Steps p.tables e below _ (((({ U with heap := s₂.heap, slotsUsed := s₂.slotsUsed } : State).setVm s₂.vm).setTop g).pushFrame (.throwing q))
    rw [← hs₂]
    exact hsteps
end
variable {p : Program} {l : Launch} {e : Env} {R : Room} {s : State} {m : MethodId} {args : Array Value} {below : List Frame} {meth : Method} {c : Code} {T : State} {H : Heap} {locs : List Loc} {cells slots : Nat}
theorem vx_callVX (X : Stand p l e R s m args below meth c T locs cells slots) (hexec : p.tables.exec = Jvm.exec) {own C : String} {index : Nat} {y : MethodName} {bytes : ByteArray} {maxL : Nat} {ret : Option FieldType} {hh : List (Nat × Nat × Nat × Nat)}
    (hown : s.vm.findClass own = some m.cls) (hlink : (Cond.methodLink own index y).before args s = true) (hinst : (Cond.instanceMethod y).before args s = true) (hsel : (Cond.selects C y y).before args s = true)
    (hcode : (Cond.codeWith y bytes maxL ret hh).before args s = true) (hy : y.cls ≠ "java/lang/invoke/MethodHandle" ∧ y.cls ≠ "java/lang/invoke/VarHandle")
    {W9 : Nat} {Pre : Pt → Array Value → Prop} {Post : Pt → Array Value → Option Value → Pt → Prop} {PostX : Pt → Array Value → Addr → Pt → Prop} (hK : vx_Back l R p e below s args y 3 W9 Pre Post PostX)
    {b : Addr} {cellB : Cell} (hcell : T.heap[b]? = some cellB) (hobj : cellB.vm.isStatics = false) (hcls : s.vm.findClass C = some cellB.cls)
    {g : JFrame} (hg : g.method = m) (hsize : g.locals.size = c.maxLocals) {argsL rest : List Value} (hlen : ∀ sig, parseMethodDescriptor y.desc = some sig → argsL.length = sig.parameters.length)
    (hstack : g.stack = argsL.reverse ++ .ref b :: rest) (hW : 2 * g.monitorRoom + (rest.map fun v => v.category).sum ≤ W9) (hdg : decode c.code g.pc = .ok (.invokevirtual index, 3))
    (hpre : ∀ vm₁, s.WarmedH vm₁ → Pre ⟨T.setVm vm₁, locs, cells, slots⟩ (Value.ref b :: argsL).toArray) :
    (∃ (v : Option Value) (vm₁ : Vm) (B : Pt), s.WarmedH vm₁ ∧ Stand p l e R s m args below meth c B.U B.locs B.cells B.slots ∧ Post ⟨T.setVm vm₁, locs, cells, slots⟩ (Value.ref b :: argsL).toArray v B ∧
      ∀ target, Steps p.tables e below (B.U.setTop { g with pc := g.pc + 3, stack := v.toList ++ rest }) target → Steps p.tables e below (T.setTop g) target) ∨
    (∃ (q : Addr) (vm₁ : Vm) (B : Pt), s.WarmedH vm₁ ∧ Stand p l e R s m args below meth c B.U B.locs B.cells B.slots ∧ PostX ⟨T.setVm vm₁, locs, cells, slots⟩ (Value.ref b :: argsL).toArray q B ∧
      Steps p.tables e below (T.setTop g) ((B.U.setTop { g with stack := rest }).pushFrame (.throwing q))) := by
  obtain ⟨mk, methM, hnamed, hmethM, hstM, habM⟩ := Cond.instanceMethod_spec hinst
  obtain ⟨m8, methM', cM, hn8, hmethM', -, -, -, -, -, -, hsigM⟩ := Cond.codeWith_spec hcode
  cases Option.some.inj (hn8.symm.trans hnamed)
  cases hmethM.symm.trans hmethM'
  obtain ⟨c2, r2, m2, q1, q2, q3, q4, kP, hkP, hkPi⟩ := Cond.selects_spec hsel
  cases hcls.symm.trans q1
  cases (State.methodFound?_of_named hnamed hy).symm.trans q2
  cases hnamed.symm.trans q3
  have hselP : selectMethod e.platform s.vm cellB.cls mk = .method mk := by rw [Launch.admits_selectMethod X.admits]; exact q4
  obtain ⟨vm₁, X₁, hstep₁⟩ := X.invokevirtual hexec hown hlink hnamed hmethM hstM hkP hkPi hy (a := b) (cell := cellB) hcell
    (fun z h => by rw [h] at hobj; cases hobj) hselP hmethM habM hkP hkPi (g := g) hg (argsL := argsL) (rest := rest) (hlen _ hsigM) hstack hdg
  rcases hK m meth c ⟨T.setVm vm₁, locs, cells, slots⟩ { g with stack := rest } (.invokevirtual index) mk (Value.ref b :: argsL).toArray X₁ hg hsize hdg hW (X₁.named hnamed) (hpre vm₁ X₁.warmed) with ⟨v, B, X', hpost, hsteps⟩ | ⟨q, B, X', hpost, hsteps⟩
  · exact Or.inl ⟨v, vm₁, B, X₁.warmed, X', hpost, fun target h => hstep₁ _ fun acts => by rw [doInvoke_state]; exact hsteps.trans h⟩
  · exact Or.inr ⟨q, vm₁, B, X₁.warmed, X', hpost, hstep₁ _ fun acts => by rw [doInvoke_state]; exact hsteps⟩
theorem vx_callSX (X : Stand p l e R s m args below meth c T locs cells slots) (hexec : p.tables.exec = Jvm.exec) {own : String} {index : Nat} {y : MethodName} {bytes : ByteArray} {maxL : Nat} {ret : Option FieldType} {hh : List (Nat × Nat × Nat × Nat)}
    (hown : s.vm.findClass own = some m.cls) (hlink : (Cond.methodLink own index y).before args s = true) (hstat : (Cond.static y).before args s = true) (hinit : (Cond.initialized y.cls).before args s = true)
    (hcode : (Cond.codeWith y bytes maxL ret hh).before args s = true) (hy : y.cls ≠ "java/lang/invoke/MethodHandle" ∧ y.cls ≠ "java/lang/invoke/VarHandle")
    {W9 : Nat} {Pre : Pt → Array Value → Prop} {Post : Pt → Array Value → Option Value → Pt → Prop} {PostX : Pt → Array Value → Addr → Pt → Prop} (hK : vx_Back l R p e below s args y 3 W9 Pre Post PostX)
    {g : JFrame} (hg : g.method = m) (hsize : g.locals.size = c.maxLocals) {argsL rest : List Value} (hlen : ∀ sig, parseMethodDescriptor y.desc = some sig → argsL.length = sig.parameters.length)
    (hstack : g.stack = argsL.reverse ++ rest) (hW : 2 * g.monitorRoom + (rest.map fun v => v.category).sum ≤ W9) (hdg : decode c.code g.pc = .ok (.invokestatic index, 3))
    (hpre : ∀ vm₁, s.WarmedH vm₁ → Pre ⟨T.setVm vm₁, locs, cells, slots⟩ argsL.toArray) :
    (∃ (v : Option Value) (vm₁ : Vm) (B : Pt), s.WarmedH vm₁ ∧ Stand p l e R s m args below meth c B.U B.locs B.cells B.slots ∧ Post ⟨T.setVm vm₁, locs, cells, slots⟩ argsL.toArray v B ∧
      ∀ target, Steps p.tables e below (B.U.setTop { g with pc := g.pc + 3, stack := v.toList ++ rest }) target → Steps p.tables e below (T.setTop g) target) ∨
    (∃ (q : Addr) (vm₁ : Vm) (B : Pt), s.WarmedH vm₁ ∧ Stand p l e R s m args below meth c B.U B.locs B.cells B.slots ∧ PostX ⟨T.setVm vm₁, locs, cells, slots⟩ argsL.toArray q B ∧
      Steps p.tables e below (T.setTop g) ((B.U.setTop { g with stack := rest }).pushFrame (.throwing q))) := by
  obtain ⟨mk, methM, cM, hnamed, hmethM, -, -, -, -, -, -, hsigM⟩ := Cond.codeWith_spec hcode
  have hstatic : methM.isStatic = true := Cond.static_spec hnamed hmethM hstat
  obtain ⟨kP, hkP, -⟩ := className_of_methodNamed hnamed
  have hinitP : kP.init = .initialized := Cond.initialized_spec (findClass_of_methodNamed hnamed) hkP hinit
  obtain ⟨vm₁, X₁, hstep₁⟩ := X.invokestatic hexec hown hlink hnamed hmethM hstatic hkP hinitP hy (g := g) hg (argsL := argsL) (rest := rest) (hlen _ hsigM) hstack hdg
  rcases hK m meth c ⟨T.setVm vm₁, locs, cells, slots⟩ { g with stack := rest } (.invokestatic index) mk argsL.toArray X₁ hg hsize hdg hW (X₁.named hnamed) (hpre vm₁ X₁.warmed) with ⟨v, B, X', hpost, hsteps⟩ | ⟨q, B, X', hpost, hsteps⟩
  · exact Or.inl ⟨v, vm₁, B, X₁.warmed, X', hpost, fun target h => hstep₁ _ fun acts => by rw [doInvoke_state]; exact hsteps.trans h⟩
  · exact Or.inr ⟨q, vm₁, B, X₁.warmed, X', hpost, hstep₁ _ fun acts => by rw [doInvoke_state]; exact hsteps⟩
theorem vx_callVW (X : Stand p l e R s m args below meth c T locs cells slots) (hexec : p.tables.exec = Jvm.exec) {own C : String} {index : Nat} {y : MethodName} {bytes : ByteArray} {maxL : Nat} {ret : Option FieldType} {hh : List (Nat × Nat × Nat × Nat)}
    (hown : s.vm.findClass own = some m.cls) (hlink : (Cond.methodLink own index y).before args s = true) (hinst : (Cond.instanceMethod y).before args s = true) (hsel : (Cond.selects C y y).before args s = true)
    (hcode : (Cond.codeWith y bytes maxL ret hh).before args s = true) (hy : y.cls ≠ "java/lang/invoke/MethodHandle" ∧ y.cls ≠ "java/lang/invoke/VarHandle")
    {W9 : Nat} {Pre : Pt → Array Value → Prop} {Post : Pt → Array Value → Option Value → Pt → Prop} (hK : Back l R p e below s args y 3 W9 Pre Post)
    {b : Addr} {cellB : Cell} (hcell : T.heap[b]? = some cellB) (hobj : cellB.vm.isStatics = false) (hcls : s.vm.findClass C = some cellB.cls)
    {g : JFrame} (hg : g.method = m) (hsize : g.locals.size = c.maxLocals) {argsL rest : List Value} (hlen : ∀ sig, parseMethodDescriptor y.desc = some sig → argsL.length = sig.parameters.length)
    (hstack : g.stack = argsL.reverse ++ .ref b :: rest) (hW : 2 * g.monitorRoom + (rest.map fun v => v.category).sum ≤ W9) (hdg : decode c.code g.pc = .ok (.invokevirtual index, 3))
    (hpre : ∀ vm₁, s.WarmedH vm₁ → Pre ⟨T.setVm vm₁, locs, cells, slots⟩ (Value.ref b :: argsL).toArray) :
    ∃ (v : Option Value) (vm₁ : Vm) (B : Pt), s.WarmedH vm₁ ∧ Stand p l e R s m args below meth c B.U B.locs B.cells B.slots ∧ Post ⟨T.setVm vm₁, locs, cells, slots⟩ (Value.ref b :: argsL).toArray v B ∧
      ∀ target, Steps p.tables e below (B.U.setTop { g with pc := g.pc + 3, stack := v.toList ++ rest }) target → Steps p.tables e below (T.setTop g) target := by
  obtain ⟨mk, methM, hnamed, hmethM, hstM, habM⟩ := Cond.instanceMethod_spec hinst
  obtain ⟨m8, methM', cM, hn8, hmethM', -, -, -, -, -, -, hsigM⟩ := Cond.codeWith_spec hcode
  cases Option.some.inj (hn8.symm.trans hnamed)
  cases hmethM.symm.trans hmethM'
  obtain ⟨c2, r2, m2, q1, q2, q3, q4, kP, hkP, hkPi⟩ := Cond.selects_spec hsel
  cases hcls.symm.trans q1
  cases (State.methodFound?_of_named hnamed hy).symm.trans q2
  cases hnamed.symm.trans q3
  have hselP : selectMethod e.platform s.vm cellB.cls mk = .method mk := by rw [Launch.admits_selectMethod X.admits]; exact q4
  obtain ⟨vm₁, X₁, hstep₁⟩ := X.invokevirtual hexec hown hlink hnamed hmethM hstM hkP hkPi hy (a := b) (cell := cellB) hcell
    (fun z h => by rw [h] at hobj; cases hobj) hselP hmethM habM hkP hkPi (g := g) hg (argsL := argsL) (rest := rest) (hlen _ hsigM) hstack hdg
  obtain ⟨v, B, X', hpost, hsteps⟩ := hK m meth c ⟨T.setVm vm₁, locs, cells, slots⟩ { g with stack := rest } (.invokevirtual index) mk (Value.ref b :: argsL).toArray X₁ hg hsize hdg hW (X₁.named hnamed) (hpre vm₁ X₁.warmed)
  exact ⟨v, vm₁, B, X₁.warmed, X', hpost, fun target h => hstep₁ _ fun acts => by rw [doInvoke_state]; exact hsteps.trans h⟩
abbrev vx_CVW (R : Room) (s : State) (args : Array Value) (own C : String) (index : Nat) (y : MethodName) (bytes : ByteArray) (maxL : Nat) (ret : Option FieldType) (hh : List (Nat × Nat × Nat × Nat)) (ws : List Cond) (rm : Room) (mc ms n : Nat) : Prop :=
  (rm.cells = mc ∧ rm.slots = ms ∧ rm.frames + 1 ≤ R.frames ∧ 8 + (maxL + 11) + rm.locals ≤ R.locals ∧ (∀ w ∈ ws, ∀ (a' : Array Value) (U : State), s.WarmedH U.vm → w.before a' U = true) ∧ Cond.codeWith y bytes maxL ret hh ∈ ws) ∧
  (Cond.codeWith y bytes maxL ret hh).before args s = true ∧ (Cond.initialized y.cls).before args s = true ∧ (y.cls ≠ "java/lang/invoke/MethodHandle" ∧ y.cls ≠ "java/lang/invoke/VarHandle") ∧
  (∀ sig, parseMethodDescriptor y.desc = some sig → n = sig.parameters.length) ∧ (Cond.methodLink own index y).before args s = true ∧ (Cond.instanceMethod y).before args s = true ∧ (Cond.selects C y y).before args s = true
theorem vx_cwVW {own C : String} {index maxL mc ms : Nat} {y : MethodName} {bytes : ByteArray} {ret : Option FieldType} {hh : List (Nat × Nat × Nat × Nat)} {Ts ws ws' : List Cond} {rm : Room} (n : Nat) (ht : ∀ w ∈ Ts, w.before args s = true) (hT : GoodIn Ts (wsV own index C y ws)) (hw : ws = Cond.codeWith y bytes maxL ret hh :: ws') (hrc : rm.cells = mc) (hrs : rm.slots = ms)
    (hd : y.cls = C ∧ y.cls ≠ "java/lang/invoke/MethodHandle" ∧ y.cls ≠ "java/lang/invoke/VarHandle" ∧ (parseMethodDescriptor y.desc).map (fun d => d.parameters.length) = some n) (hR : rm.frames + 1 ≤ R.frames ∧ 8 + (maxL + 11) + rm.locals ≤ R.locals) :
    vx_CVW R s args own C index y bytes maxL ret hh ws rm mc ms n := by
  obtain ⟨hC, hd⟩ := hd
  subst hC
  have ok : ∀ w ∈ wsV own index y.cls y ws, w.before args s = true := fun w h => ht w (hT w h).1
  have hG : GoodIn Ts ws := fun w h => hT w (by unfold wsV; exact List.mem_append_right _ h)
  have hc : Cond.codeWith y bytes maxL ret hh ∈ ws := by rw [hw]; exact List.mem_cons_self
  refine ⟨⟨hrc, hrs, hR.1, hR.2, pay_in ht hG, hc⟩, ht _ (hG _ hc).1, ok _ (by simp [wsV]), ⟨hd.1, hd.2.1⟩, fun sig h => ?_, ok _ (by simp [wsV]), ok _ (by simp [wsV]), ok _ (by simp [wsV])⟩
  have h2 := hd.2.2
  rw [h] at h2
  exact (Option.some.inj h2).symm
theorem vx_runVW {y : MethodName} {bytes cc : ByteArray} {maxL nL mc ms n index : Nat} {ret : Option FieldType} {hh : List (Nat × Nat × Nat × Nat)} {ws : List Cond} {rm : Room} {Pc : Array Value → State → Prop} {Qc : Array Value → State → Outcome → State → Prop} {free : Addr → Prop} {Ts : List Cond} {own C : String} {b : Addr} {As rest : List Value} {g : JFrame}
    (S : CallFix p m c cc nL s args Ts own) (hM : Met l y ws rm Pc Qc mc ms free) (cw : vx_CVW R s args own C index y bytes maxL ret hh ws rm mc ms n) (hp : PreV s H C b Pc As)
    (hg : g.method = m) (hn : As.length = n) (hsize : g.locals.size = nL) (hstack : g.stack = As.reverse ++ .ref b :: rest) (hW : 2 * g.monitorRoom + (rest.map fun v => v.category).sum ≤ 8) (hdg : decode cc g.pc = .ok (.invokevirtual index, 3)) (hf : cells + mc ≤ R.cells ∧ slots + ms ≤ R.slots) :
    va_Run p l e R s m args below meth c H locs cells slots mc ms g rest (Qc (Value.ref b :: As).toArray) free := by
  obtain ⟨⟨hrc, hrs, hfr, hlo, hws, hcw⟩, hcode, hini, hy, hlen, hl, hin, hse⟩ := cw
  have hK : Back l R p e below s args y 3 8 (PreOf R mc ms Pc) (PostOf Qc mc ms free) := va_backW (hh := hh) (bytes := bytes) (maxL := maxL) (ret := ret) hM hp.1 hrc hrs hfr hlo hws hcw (fun a' U hW => word_at hW (Or.inl (by first | rfl | simp [Cond.onTables, Cond.keeps, Cond.steady])) hini)
  obtain ⟨hx, hb, hml, ho, -⟩ := S
  obtain ⟨-, ⟨cellB, hcB, hoB, hclB⟩, hPc⟩ := hp
  intro T hT X
  obtain ⟨v, vm₁, ⟨U', l2, c2, s2⟩, hW₁, X', ⟨g', mk, t, L, e1, e2, hq, h1, hL, h2, h3⟩, st⟩ := vx_callVW X hx (C := C) (hh := hh) (bytes := bytes) (maxL := maxL) (ret := ret) ho hl hin hse hcode hy hK (by rw [hT]; exact hcB) hoB hclB hg (hsize.trans hml.symm) (argsL := As) (rest := rest) (fun sig h => hn.trans (hlen sig h)) hstack hW (by rw [hb]; exact hdg)
    (fun vm₁ hW₁ => ⟨hf.1, hf.2, hPc (T.setVm vm₁) hT hW₁⟩)
  dsimp only [Pt.U, Pt.locs, Pt.cells, Pt.slots] at X' e1 e2 h1 h2 h3 st
  subst h1; subst h2; subst h3
  exact ⟨v, (T.setVm vm₁).calling g' mk (Value.ref b :: As).toArray, t, U', L, hT, X', hL, e1, e2, hq, st⟩
section
variable {y : MethodName} {bytes cc : ByteArray} {maxL nL mc ms n index : Nat} {ret : Option FieldType} {ws : List Cond} {rm : Room} {Pc : Array Value → State → Prop} {Qc : Array Value → State → Outcome → State → Prop} {XC : String → State → State → Prop} {free : Addr → Prop} {Ts : List Cond} {own C : String} {b : Addr} {As rest : List Value} {g : JFrame}
theorem vx_runVX {hh : List (Nat × Nat × Nat × Nat)} (S : CallFix p m c cc nL s args Ts own) (hM : vx_Met l y ws rm Pc Qc XC mc ms free) (cw : vx_CVW R s args own C index y bytes maxL ret hh ws rm mc ms n) (hp : PreV s H C b Pc As)
    (hg : g.method = m) (hn : As.length = n) (hsize : g.locals.size = nL) (hstack : g.stack = As.reverse ++ .ref b :: rest) (hW : 2 * g.monitorRoom + (rest.map fun v => v.category).sum ≤ 8) (hdg : decode cc g.pc = .ok (.invokevirtual index, 3)) (hf : cells + mc ≤ R.cells ∧ slots + ms ≤ R.slots) :
    vx_Run p l e R s m args below meth c H locs cells slots mc ms g rest (Qc (Value.ref b :: As).toArray) XC free := by
  obtain ⟨⟨hrc, hrs, hfr, hlo, hws, hcw⟩, hcode, hini, hy, hlen, hl, hin, hse⟩ := cw
  have hK : vx_Back l R p e below s args y 3 8 (PreOf R mc ms Pc) (PostOf Qc mc ms free) (vx_Post XC mc ms free) := vx_backW (hh := hh) (bytes := bytes) (maxL := maxL) (ret := ret) hM hp.1 hrc hrs hfr hlo hws hcw (fun a' U hW => word_at hW (Or.inl (by first | rfl | simp [Cond.onTables, Cond.keeps, Cond.steady])) hini)
  obtain ⟨hx, hb, hml, ho, -⟩ := S
  obtain ⟨-, ⟨cellB, hcB, hoB, hclB⟩, hPc⟩ := hp
  intro T hT X
  rcases vx_callVX X hx (C := C) (hh := hh) (bytes := bytes) (maxL := maxL) (ret := ret) ho hl hin hse hcode hy hK (by rw [hT]; exact hcB) hoB hclB hg (hsize.trans hml.symm) (argsL := As) (rest := rest) (fun sig h => hn.trans (hlen sig h)) hstack hW (by rw [hb]; exact hdg)
    (fun vm₁ hW₁ => ⟨hf.1, hf.2, hPc (T.setVm vm₁) hT hW₁⟩) with ⟨v, vm₁, ⟨U', l2, c2, s2⟩, hW₁, X', ⟨g', mk, t, L, e1, e2, hq, h1, hL, h2, h3⟩, st⟩ | ⟨q, vm₁, ⟨U', l2, c2, s2⟩, hW₁, X', ⟨g', mk, t, L, E, ce, e1, e2, hq, hce, hcv, hcl, h1, hL, h2, h3⟩, st⟩
  · dsimp only [Pt.U, Pt.locs, Pt.cells, Pt.slots] at X' e1 e2 h1 h2 h3 st
    subst h1; subst h2; subst h3
    exact Or.inl ⟨v, (T.setVm vm₁).calling g' mk (Value.ref b :: As).toArray, t, U', L, hT, X', hL, e1, e2, hq, st⟩
  · dsimp only [Pt.U, Pt.locs, Pt.cells, Pt.slots] at X' e1 e2 h1 h2 h3 st hcl
    subst h1; subst h2; subst h3
    exact Or.inr ⟨q, (T.setVm vm₁).calling g' mk (Value.ref b :: As).toArray, t, U', L, E, ce, hT, X', hL, e1, e2, hq, hce, hcv, vx_cls hW₁ hcl, st⟩
theorem vx_runSX {hh : List (Nat × Nat × Nat × Nat)} (S : CallFix p m c cc nL s args Ts own) (hM : vx_Met l y ws rm Pc Qc XC mc ms free) (cw : vx_CSW R s args own index y bytes maxL ret hh ws rm mc ms n) (hp : PreS s H Pc As)
    (hg : g.method = m) (hn : As.length = n) (hsize : g.locals.size = nL) (hstack : g.stack = As.reverse ++ rest) (hW : 2 * g.monitorRoom + (rest.map fun v => v.category).sum ≤ 8) (hdg : decode cc g.pc = .ok (.invokestatic index, 3)) (hf : cells + mc ≤ R.cells ∧ slots + ms ≤ R.slots) :
    vx_Run p l e R s m args below meth c H locs cells slots mc ms g rest (Qc As.toArray) XC free := by
  obtain ⟨⟨hrc, hrs, hfr, hlo, hws, hcw⟩, hcode, hini, hy, hlen, hl, hstt⟩ := cw
  have hK : vx_Back l R p e below s args y 3 8 (PreOf R mc ms Pc) (PostOf Qc mc ms free) (vx_Post XC mc ms free) := vx_backW (hh := hh) (bytes := bytes) (maxL := maxL) (ret := ret) hM hp.1 hrc hrs hfr hlo hws hcw (fun a' U hW => word_at hW (Or.inl (by first | rfl | simp [Cond.onTables, Cond.keeps, Cond.steady])) hini)
  obtain ⟨hx, hb, hml, ho, -⟩ := S
  intro T hT X
  rcases vx_callSX X hx (hh := hh) (bytes := bytes) (maxL := maxL) (ret := ret) ho hl hstt hini hcode hy hK hg (hsize.trans hml.symm) (argsL := As) (rest := rest) (fun sig h => hn.trans (hlen sig h)) hstack hW (by rw [hb]; exact hdg)
    (fun vm₁ hW₁ => ⟨hf.1, hf.2, hp.2 (T.setVm vm₁) hT hW₁⟩) with ⟨v, vm₁, ⟨U', l2, c2, s2⟩, hW₁, X', ⟨g', mk, t, L, e1, e2, hq, h1, hL, h2, h3⟩, st⟩ | ⟨q, vm₁, ⟨U', l2, c2, s2⟩, hW₁, X', ⟨g', mk, t, L, E, ce, e1, e2, hq, hce, hcv, hcl, h1, hL, h2, h3⟩, st⟩
  · dsimp only [Pt.U, Pt.locs, Pt.cells, Pt.slots] at X' e1 e2 h1 h2 h3 st
    subst h1; subst h2; subst h3
    exact Or.inl ⟨v, (T.setVm vm₁).calling g' mk As.toArray, t, U', L, hT, X', hL, e1, e2, hq, st⟩
  · dsimp only [Pt.U, Pt.locs, Pt.cells, Pt.slots] at X' e1 e2 h1 h2 h3 st hcl
    subst h1; subst h2; subst h3
    exact Or.inr ⟨q, (T.setVm vm₁).calling g' mk As.toArray, t, U', L, E, ce, hT, X', hL, e1, e2, hq, hce, hcv, vx_cls hW₁ hcl, st⟩
end
end VXH
theorem vx_ofWH {l : Launch} {y : MethodName} {ws ws' : List Cond} {rm : Room} {Pc : Array Value → State → Prop} {Qc : Array Value → State → Outcome → State → Prop} {XC : String → State → State → Prop} {mc ms : Nat} {free : Addr → Prop} {cc : ByteArray} {maxL : Nat} {ret : Option FieldType} {hh : List (Nat × Nat × Nat × Nat)}
    (hy : plainName y.cls = true) (hw : ws = Cond.codeWith y cc maxL ret hh :: ws')
    (body : ∀ p e s m args below meth c s₁, BodyLoose p l y (headSpec ws rm) cc maxL ret e s m args below meth c s₁ → c.maxLocals = maxL → Pc args s →
      W p l e (headSpec ws rm).room s m args below meth c s.heap [] 0 0 (vx_MQ below Qc XC args s mc ms free) (entryFrame m args maxL)) : vx_Met l y ws rm Pc Qc XC mc ms free := by
  refine MetFree.of_bodyS (code := cc) (maxLocals := maxL) (ret := ret) hy ?_ ?_
  · intro args s m h hn
    obtain ⟨m9, meth, c, hn9, h1, h2, h3, h4, -, h5, h6, -⟩ := Cond.codeWith_spec (atoms_spec (ws := ws) h _ (by rw [hw]; exact List.mem_cons_self))
    cases hn.symm.trans hn9
    exact ⟨meth, c, h1, h2, h3, h4, h5, h6⟩
  · intro p e s m args below meth c s₁ B hml hP _
    have hh0 : s₁.heap = s.heap := by rw [B.state]; rfl
    obtain ⟨t, a1, o, b1, b2, b3⟩ := body p e s m args below meth c s₁ B hml hP s₁ hh0 (Stand.of_body B)
    exact ⟨t, o, a1, b1, b2, b3⟩
/-! ===== END ===== -/
end
section
def RX0 : String := "Branchmatch$Answer"
def TX0 : u_T := fun k => match k with
  | _ => ("Branchmatch$Answer", "told", "[LBranchmatch$Term;", true)
def tyX0 : Nat → FieldType := fun k => match k with
  | _ => .array (.object "Branchmatch$Term")
abbrev wsX00 : List Cond := u_ws RX0 TX0 1
theorem nmX0 : ∀ a, a < 1 → ∀ b, b < 1 → a ≠ b → (TX0 a).2.1 ≠ (TX0 b).2.1 := by decide +kernel
theorem tyX0_ok : ∀ k, k < 1 → parseFieldDescriptor (TX0 k).2.2.1 = some (tyX0 k) := by decide +kernel
abbrev cX0_init : ByteArray := prog_2_method_1_code
def yX0_init : MethodName := ⟨RX0, "<init>", "()V"⟩
abbrev cX0_of : ByteArray := prog_2_method_2_code
def yX0_of : MethodName := ⟨RX0, "of", "(I)LBranchmatch$Term;"⟩
abbrev cX0_moves : ByteArray := prog_2_method_3_code
def yX0_moves : MethodName := ⟨RX0, "moves", "(I)Z"⟩
abbrev cX0_movedNames : ByteArray := prog_2_method_4_code
def yX0_movedNames : MethodName := ⟨RX0, "movedNames", "()I"⟩
abbrev cX0_movedCount : ByteArray := prog_2_method_5_code
def yX0_movedCount : MethodName := ⟨RX0, "movedCount", "()I"⟩
abbrev cX0_moveNone : ByteArray := prog_2_method_6_code
def yX0_moveNone : MethodName := ⟨RX0, "moveNone", "()V"⟩
abbrev cX0_becomeAs : ByteArray := prog_2_method_7_code
def yX0_becomeAs : MethodName := ⟨RX0, "becomeAs", "(LBranchmatch$Answer;)V"⟩
abbrev cX0_becomeBoth : ByteArray := prog_2_method_8_code
def yX0_becomeBoth : MethodName := ⟨RX0, "becomeBoth", "(LBranchmatch$Answer;LBranchmatch$Answer;)V"⟩
abbrev cX0_addUsed : ByteArray := prog_2_method_9_code
def yX0_addUsed : MethodName := ⟨RX0, "addUsed", "(LBranchmatch$Term;IILBranchmatch$Term;)V"⟩
abbrev cX0_addMoved : ByteArray := prog_2_method_10_code
def yX0_addMoved : MethodName := ⟨RX0, "addMoved", "(LBranchmatch$Term;)V"⟩
abbrev cX0_isTooLong : ByteArray := prog_2_method_11_code
def yX0_isTooLong : MethodName := ⟨RX0, "isTooLong", "()Z"⟩
abbrev cX0_firstUnlike : ByteArray := prog_2_method_12_code
def yX0_firstUnlike : MethodName := ⟨RX0, "firstUnlike", "(LBranchmatch$Answer;)I"⟩
abbrev cX0_renamesOnly : ByteArray := prog_2_method_13_code
def yX0_renamesOnly : MethodName := ⟨RX0, "renamesOnly", "()Z"⟩
abbrev cX0_becomeMatch : ByteArray := prog_2_method_14_code
def yX0_becomeMatch : MethodName := ⟨RX0, "becomeMatch", "(LBranchmatch$Term;LBranchmatch$Term;)Z"⟩
abbrev cX0_tellUntoldOfThemselves : ByteArray := prog_2_method_15_code
def yX0_tellUntoldOfThemselves : MethodName := ⟨RX0, "tellUntoldOfThemselves", "()V"⟩
abbrev cX0_becomeWholeOf : ByteArray := prog_2_method_16_code
def yX0_becomeWholeOf : MethodName := ⟨RX0, "becomeWholeOf", "(LBranchmatch$Term;[I)V"⟩
def RX1 : String := "Branchmatch$Classes"
def TX1 : u_T := fun k => match k with
  | 0 => ("Branchmatch$Classes", "both", "LBranchmatch$Term;", true)
  | 1 => ("Branchmatch$Classes", "classOf", "[I", true)
  | 2 => ("Branchmatch$Classes", "headOf", "[I", true)
  | 3 => ("Branchmatch$Classes", "standsFor", "[I", true)
  | _ => ("Branchmatch$Classes", "pairs", "LBranchmatch$Pairs;", true)
def tyX1 : Nat → FieldType := fun k => match k with
  | 0 => .object "Branchmatch$Term"
  | 1 => .array .int
  | 2 => .array .int
  | 3 => .array .int
  | _ => .object "Branchmatch$Pairs"
abbrev wsX10 : List Cond := u_ws RX1 TX1 5
theorem nmX1 : ∀ a, a < 5 → ∀ b, b < 5 → a ≠ b → (TX1 a).2.1 ≠ (TX1 b).2.1 := by decide +kernel
theorem tyX1_ok : ∀ k, k < 5 → parseFieldDescriptor (TX1 k).2.2.1 = some (tyX1 k) := by decide +kernel
abbrev cX1_init : ByteArray := prog_3_method_1_code
def yX1_init : MethodName := ⟨RX1, "<init>", "()V"⟩
abbrev cX1_makeAlike : ByteArray := prog_3_method_2_code
def yX1_makeAlike : MethodName := ⟨RX1, "makeAlike", "(LBranchmatch$Term;LBranchmatch$Term;)Z"⟩
abbrev cX1_tellInto : ByteArray := prog_3_method_3_code
def yX1_tellInto : MethodName := ⟨RX1, "tellInto", "(LBranchmatch$Answer;)V"⟩
abbrev cX1_classAt : ByteArray := prog_3_method_4_code
def yX1_classAt : MethodName := ⟨RX1, "classAt", "(I)I"⟩
abbrev cX1_headAt : ByteArray := prog_3_method_5_code
def yX1_headAt : MethodName := ⟨RX1, "headAt", "(I)I"⟩
abbrev cX1_join : ByteArray := prog_3_method_6_code
def yX1_join : MethodName := ⟨RX1, "join", "(II)Z"⟩
abbrev cX1_isNoneInItself : ByteArray := prog_3_method_7_code
def yX1_isNoneInItself : MethodName := ⟨RX1, "isNoneInItself", "()Z"⟩
abbrev cX1_isClear : ByteArray := prog_3_method_8_code
def yX1_isClear : MethodName := ⟨RX1, "isClear", "(IJ)Z"⟩
abbrev cX1_placeFor : ByteArray := prog_3_method_9_code
def yX1_placeFor : MethodName := ⟨RX1, "placeFor", "(I)I"⟩
def RX2 : String := "Branchmatch$Pairs"
def TX2 : u_T := fun k => match k with
  | 0 => ("Branchmatch$Pairs", "ones", "[I", true)
  | 1 => ("Branchmatch$Pairs", "others", "[I", true)
  | _ => ("Branchmatch$Pairs", "waiting", "I", false)
def tyX2 : Nat → FieldType := fun k => match k with
  | 0 => .array .int
  | 1 => .array .int
  | _ => .int
abbrev wsX20 : List Cond := u_ws RX2 TX2 3
theorem nmX2 : ∀ a, a < 3 → ∀ b, b < 3 → a ≠ b → (TX2 a).2.1 ≠ (TX2 b).2.1 := by decide +kernel
theorem tyX2_ok : ∀ k, k < 3 → parseFieldDescriptor (TX2 k).2.2.1 = some (tyX2 k) := by decide +kernel
abbrev cX2_init : ByteArray := prog_4_method_1_code
def yX2_init : MethodName := ⟨RX2, "<init>", "()V"⟩
abbrev cX2_empty : ByteArray := prog_4_method_2_code
def yX2_empty : MethodName := ⟨RX2, "empty", "()V"⟩
abbrev cX2_length : ByteArray := prog_4_method_3_code
def yX2_length : MethodName := ⟨RX2, "length", "()I"⟩
abbrev cX2_add : ByteArray := prog_4_method_4_code
def yX2_add : MethodName := ⟨RX2, "add", "(II)V"⟩
abbrev cX2_oneAt : ByteArray := prog_4_method_5_code
def yX2_oneAt : MethodName := ⟨RX2, "oneAt", "(I)I"⟩
abbrev cX2_otherAt : ByteArray := prog_4_method_6_code
def yX2_otherAt : MethodName := ⟨RX2, "otherAt", "(I)I"⟩
abbrev cX2_dropNext : ByteArray := prog_4_method_7_code
def yX2_dropNext : MethodName := ⟨RX2, "dropNext", "()V"⟩
abbrev cX2_addParts : ByteArray := prog_4_method_8_code
def yX2_addParts : MethodName := ⟨RX2, "addParts", "(LBranchmatch$Term;II)V"⟩
def RX3 : String := "Branchmatch$Shape"
def TX3 : u_T := fun k => match k with
  | _ => ("Branchmatch$Shape", "named", "LBranchmatch$Pairs;", true)
def tyX3 : Nat → FieldType := fun k => match k with
  | _ => .object "Branchmatch$Pairs"
abbrev wsX30 : List Cond := u_ws RX3 TX3 1
theorem nmX3 : ∀ a, a < 1 → ∀ b, b < 1 → a ≠ b → (TX3 a).2.1 ≠ (TX3 b).2.1 := by decide +kernel
theorem tyX3_ok : ∀ k, k < 1 → parseFieldDescriptor (TX3 k).2.2.1 = some (tyX3 k) := by decide +kernel
abbrev cX3_init : ByteArray := prog_5_method_1_code
def yX3_init : MethodName := ⟨RX3, "<init>", "()V"⟩
abbrev cX3_drawInto : ByteArray := prog_5_method_2_code
def yX3_drawInto : MethodName := ⟨RX3, "drawInto", "(LBranchmatch$Term;LBranchmatch$Term;LBranchmatch$Term;)Z"⟩
abbrev cX3_nameFor : ByteArray := prog_5_method_3_code
def yX3_nameFor : MethodName := ⟨RX3, "nameFor", "(LBranchmatch$Term;ILBranchmatch$Term;I)I"⟩
def RX4 : String := "Branchmatch$Steps"
def TX4 : u_T := fun k => match k with
  | 0 => ("Branchmatch$Steps", "both", "LBranchmatch$Term;", true)
  | 1 => ("Branchmatch$Steps", "standsFor", "[I", true)
  | 2 => ("Branchmatch$Steps", "pairs", "LBranchmatch$Pairs;", true)
  | 3 => ("Branchmatch$Steps", "taken", "I", false)
  | _ => ("Branchmatch$Steps", "end", "I", false)
def tyX4 : Nat → FieldType := fun k => match k with
  | 0 => .object "Branchmatch$Term"
  | 1 => .array .int
  | 2 => .object "Branchmatch$Pairs"
  | 3 => .int
  | _ => .int
abbrev wsX40 : List Cond := u_ws RX4 TX4 5
theorem nmX4 : ∀ a, a < 5 → ∀ b, b < 5 → a ≠ b → (TX4 a).2.1 ≠ (TX4 b).2.1 := by decide +kernel
theorem tyX4_ok : ∀ k, k < 5 → parseFieldDescriptor (TX4 k).2.2.1 = some (tyX4 k) := by decide +kernel
abbrev cX4_init : ByteArray := prog_6_method_1_code
def yX4_init : MethodName := ⟨RX4, "<init>", "()V"⟩
abbrev cX4_makeAlike : ByteArray := prog_6_method_2_code
def yX4_makeAlike : MethodName := ⟨RX4, "makeAlike", "(LBranchmatch$Term;LBranchmatch$Term;)Z"⟩
abbrev cX4_tellInto : ByteArray := prog_6_method_3_code
def yX4_tellInto : MethodName := ⟨RX4, "tellInto", "(LBranchmatch$Answer;)V"⟩
abbrev cX4_stepsTaken : ByteArray := prog_6_method_4_code
def yX4_stepsTaken : MethodName := ⟨RX4, "stepsTaken", "()I"⟩
abbrev cX4_howEnded : ByteArray := prog_6_method_5_code
def yX4_howEnded : MethodName := ⟨RX4, "howEnded", "()I"⟩
abbrev cX4_takeStep : ByteArray := prog_6_method_6_code
def yX4_takeStep : MethodName := ⟨RX4, "takeStep", "()V"⟩
abbrev cX4_lookedUp : ByteArray := prog_6_method_7_code
def yX4_lookedUp : MethodName := ⟨RX4, "lookedUp", "(I)I"⟩
abbrev cX4_joinNames : ByteArray := prog_6_method_8_code
def yX4_joinNames : MethodName := ⟨RX4, "joinNames", "(II)V"⟩
abbrev cX4_standFor : ByteArray := prog_6_method_9_code
def yX4_standFor : MethodName := ⟨RX4, "standFor", "(II)V"⟩
def RX5 : String := "Branchmatch$Term"
def TX5 : u_T := fun k => match k with
  | 0 => ("Branchmatch$Term", "letters", "[I", true)
  | 1 => ("Branchmatch$Term", "filled", "I", false)
  | _ => ("Branchmatch$Term", "tooLong", "Z", false)
def tyX5 : Nat → FieldType := fun k => match k with
  | 0 => .array .int
  | 1 => .int
  | _ => .boolean
abbrev wsX50 : List Cond := u_ws RX5 TX5 3
theorem nmX5 : ∀ a, a < 3 → ∀ b, b < 3 → a ≠ b → (TX5 a).2.1 ≠ (TX5 b).2.1 := by decide +kernel
theorem tyX5_ok : ∀ k, k < 3 → parseFieldDescriptor (TX5 k).2.2.1 = some (tyX5 k) := by decide +kernel
abbrev cX5_init : ByteArray := prog_7_method_1_code
def yX5_init : MethodName := ⟨RX5, "<init>", "(I)V"⟩
abbrev cX5_empty : ByteArray := prog_7_method_2_code
def yX5_empty : MethodName := ⟨RX5, "empty", "()V"⟩
abbrev cX5_add : ByteArray := prog_7_method_3_code
def yX5_add : MethodName := ⟨RX5, "add", "(I)V"⟩
abbrev cX5_addRow : ByteArray := prog_7_method_4_code
def yX5_addRow : MethodName := ⟨RX5, "addRow", "(LBranchmatch$Term;II)V"⟩
abbrev cX5_addTerm : ByteArray := prog_7_method_5_code
def yX5_addTerm : MethodName := ⟨RX5, "addTerm", "(LBranchmatch$Term;)V"⟩
abbrev cX5_becomeName : ByteArray := prog_7_method_6_code
def yX5_becomeName : MethodName := ⟨RX5, "becomeName", "(I)V"⟩
abbrev cX5_becomeAs : ByteArray := prog_7_method_7_code
def yX5_becomeAs : MethodName := ⟨RX5, "becomeAs", "(LBranchmatch$Term;)V"⟩
abbrev cX5_becomePlainOf : ByteArray := prog_7_method_8_code
def yX5_becomePlainOf : MethodName := ⟨RX5, "becomePlainOf", "(LBranchmatch$Term;)V"⟩
abbrev cX5_length : ByteArray := prog_7_method_9_code
def yX5_length : MethodName := ⟨RX5, "length", "()I"⟩
abbrev cX5_isTooLong : ByteArray := prog_7_method_10_code
def yX5_isTooLong : MethodName := ⟨RX5, "isTooLong", "()Z"⟩
abbrev cX5_hasPlace : ByteArray := prog_7_method_11_code
def yX5_hasPlace : MethodName := ⟨RX5, "hasPlace", "(I)Z"⟩
abbrev cX5_letterAt : ByteArray := prog_7_method_12_code
def yX5_letterAt : MethodName := ⟨RX5, "letterAt", "(I)I"⟩
abbrev cX5_endOf : ByteArray := prog_7_method_13_code
def yX5_endOf : MethodName := ⟨RX5, "endOf", "(I)I"⟩
abbrev cX5_closedBehind : ByteArray := prog_7_method_14_code
def yX5_closedBehind : MethodName := ⟨RX5, "closedBehind", "(I)I"⟩
abbrev cX5_levels : ByteArray := prog_7_method_15_code
def yX5_levels : MethodName := ⟨RX5, "levels", "()I"⟩
abbrev cX5_isLikeAt : ByteArray := prog_7_method_16_code
def yX5_isLikeAt : MethodName := ⟨RX5, "isLikeAt", "(ILBranchmatch$Term;I)Z"⟩
abbrev cX5_isLike : ByteArray := prog_7_method_17_code
def yX5_isLike : MethodName := ⟨RX5, "isLike", "(LBranchmatch$Term;)Z"⟩
abbrev cX5_firstLike : ByteArray := prog_7_method_18_code
def yX5_firstLike : MethodName := ⟨RX5, "firstLike", "(I)I"⟩
abbrev cX5_unlikePlaces : ByteArray := prog_7_method_19_code
def yX5_unlikePlaces : MethodName := ⟨RX5, "unlikePlaces", "()I"⟩
abbrev cX5_firstPlaceOf : ByteArray := prog_7_method_20_code
def yX5_firstPlaceOf : MethodName := ⟨RX5, "firstPlaceOf", "(I)I"⟩
abbrev cX5_placesOf : ByteArray := prog_7_method_21_code
def yX5_placesOf : MethodName := ⟨RX5, "placesOf", "(I)I"⟩
abbrev cX5_namesIn : ByteArray := prog_7_method_22_code
def yX5_namesIn : MethodName := ⟨RX5, "namesIn", "(II)I"⟩
abbrev cX5_allNames : ByteArray := prog_7_method_23_code
def yX5_allNames : MethodName := ⟨RX5, "allNames", "()I"⟩
abbrev cX5_becomeBoth : ByteArray := prog_7_method_24_code
def yX5_becomeBoth : MethodName := ⟨RX5, "becomeBoth", "(LBranchmatch$Term;LBranchmatch$Term;)V"⟩
def RX6 : String := "Branchmatch"
def TX6 : u_T := fun k => match k with
  | 0 => ("Branchmatch", "slots", "[LBranchmatch$Term;", true)
  | 1 => ("Branchmatch", "answers", "[LBranchmatch$Answer;", true)
  | 2 => ("Branchmatch", "done", "I", false)
  | 3 => ("Branchmatch", "refused", "I", false)
  | 4 => ("Branchmatch", "knocks", "I", false)
  | 5 => ("Branchmatch", "spare", "LBranchmatch$Term;", true)
  | 6 => ("Branchmatch", "otherSpare", "LBranchmatch$Term;", true)
  | 7 => ("Branchmatch", "wide", "LBranchmatch$Term;", true)
  | 8 => ("Branchmatch", "otherWide", "LBranchmatch$Term;", true)
  | 9 => ("Branchmatch", "spareAnswer", "LBranchmatch$Answer;", true)
  | 10 => ("Branchmatch", "otherAnswer", "LBranchmatch$Answer;", true)
  | 11 => ("Branchmatch", "bySteps", "LBranchmatch$Steps;", true)
  | 12 => ("Branchmatch", "byClasses", "LBranchmatch$Classes;", true)
  | _ => ("Branchmatch", "shape", "LBranchmatch$Shape;", true)
def tyX6 : Nat → FieldType := fun k => match k with
  | 0 => .array (.object "Branchmatch$Term")
  | 1 => .array (.object "Branchmatch$Answer")
  | 2 => .int
  | 3 => .int
  | 4 => .int
  | 5 => .object "Branchmatch$Term"
  | 6 => .object "Branchmatch$Term"
  | 7 => .object "Branchmatch$Term"
  | 8 => .object "Branchmatch$Term"
  | 9 => .object "Branchmatch$Answer"
  | 10 => .object "Branchmatch$Answer"
  | 11 => .object "Branchmatch$Steps"
  | 12 => .object "Branchmatch$Classes"
  | _ => .object "Branchmatch$Shape"
abbrev wsX60 : List Cond := u_ws RX6 TX6 14
theorem nmX6 : ∀ a, a < 14 → ∀ b, b < 14 → a ≠ b → (TX6 a).2.1 ≠ (TX6 b).2.1 := by decide +kernel
theorem tyX6_ok : ∀ k, k < 14 → parseFieldDescriptor (TX6 k).2.2.1 = some (tyX6 k) := by decide +kernel
abbrev cX6_init : ByteArray := prog_1_method_1_code
def yX6_init : MethodName := ⟨RX6, "<init>", "()V"⟩
abbrev cX6_name : ByteArray := prog_1_method_2_code
def yX6_name : MethodName := ⟨RX6, "name", "(II)I"⟩
abbrev cX6_head : ByteArray := prog_1_method_3_code
def yX6_head : MethodName := ⟨RX6, "head", "(IIIII)I"⟩
abbrev cX6_copy : ByteArray := prog_1_method_4_code
def yX6_copy : MethodName := ⟨RX6, "copy", "(II)I"⟩
abbrev cX6_swap : ByteArray := prog_1_method_5_code
def yX6_swap : MethodName := ⟨RX6, "swap", "(II)I"⟩
abbrev cX6_part : ByteArray := prog_1_method_6_code
def yX6_part : MethodName := ⟨RX6, "part", "(III)I"⟩
abbrev cX6_graft : ByteArray := prog_1_method_7_code
def yX6_graft : MethodName := ⟨RX6, "graft", "(III)I"⟩
abbrev cX6_put : ByteArray := prog_1_method_8_code
def yX6_put : MethodName := ⟨RX6, "put", "(III)I"⟩
abbrev cX6_shift : ByteArray := prog_1_method_9_code
def yX6_shift : MethodName := ⟨RX6, "shift", "(II)I"⟩
abbrev cX6_plain : ByteArray := prog_1_method_10_code
def yX6_plain : MethodName := ⟨RX6, "plain", "(I)I"⟩
abbrev cX6_use : ByteArray := prog_1_method_11_code
def yX6_use : MethodName := ⟨RX6, "use", "(III)I"⟩
abbrev cX6_common : ByteArray := prog_1_method_12_code
def yX6_common : MethodName := ⟨RX6, "common", "(III)I"⟩
abbrev cX6_forget : ByteArray := prog_1_method_13_code
def yX6_forget : MethodName := ⟨RX6, "forget", "(I)I"⟩
abbrev cX6_tell : ByteArray := prog_1_method_14_code
def yX6_tell : MethodName := ⟨RX6, "tell", "(III)I"⟩
abbrev cX6_take : ByteArray := prog_1_method_15_code
def yX6_take : MethodName := ⟨RX6, "take", "(II)I"⟩
abbrev cX6_behind : ByteArray := prog_1_method_16_code
def yX6_behind : MethodName := ⟨RX6, "behind", "(III)I"⟩
abbrev cX6_alike : ByteArray := prog_1_method_17_code
def yX6_alike : MethodName := ⟨RX6, "alike", "(IIII)I"⟩
abbrev cX6_match : ByteArray := prog_1_method_18_code
def yX6_match : MethodName := ⟨RX6, "match", "(III)I"⟩
abbrev cX6_text : ByteArray := prog_1_method_19_code
def yX6_text : MethodName := ⟨RX6, "text", "(I)Ljava/lang/String;"⟩
abbrev cX6_size : ByteArray := prog_1_method_20_code
def yX6_size : MethodName := ⟨RX6, "size", "(I)I"⟩
abbrev cX6_depth : ByteArray := prog_1_method_21_code
def yX6_depth : MethodName := ⟨RX6, "depth", "(I)I"⟩
abbrev cX6_shared : ByteArray := prog_1_method_22_code
def yX6_shared : MethodName := ⟨RX6, "shared", "(I)I"⟩
abbrev cX6_letter : ByteArray := prog_1_method_23_code
def yX6_letter : MethodName := ⟨RX6, "letter", "(II)I"⟩
abbrev cX6_sizeAt : ByteArray := prog_1_method_24_code
def yX6_sizeAt : MethodName := ⟨RX6, "sizeAt", "(II)I"⟩
abbrev cX6_count : ByteArray := prog_1_method_25_code
def yX6_count : MethodName := ⟨RX6, "count", "(II)I"⟩
abbrev cX6_names : ByteArray := prog_1_method_26_code
def yX6_names : MethodName := ⟨RX6, "names", "(I)I"⟩
abbrev cX6_find : ByteArray := prog_1_method_27_code
def yX6_find : MethodName := ⟨RX6, "find", "(II)I"⟩
abbrev cX6_differ : ByteArray := prog_1_method_28_code
def yX6_differ : MethodName := ⟨RX6, "differ", "(II)I"⟩
abbrev cX6_is : ByteArray := prog_1_method_29_code
def yX6_is : MethodName := ⟨RX6, "is", "(III)Z"⟩
abbrev cX6_can : ByteArray := prog_1_method_30_code
def yX6_can : MethodName := ⟨RX6, "can", "(III)Z"⟩
abbrev cX6_steps : ByteArray := prog_1_method_31_code
def yX6_steps : MethodName := ⟨RX6, "steps", "(II)I"⟩
abbrev cX6_why : ByteArray := prog_1_method_32_code
def yX6_why : MethodName := ⟨RX6, "why", "(II)I"⟩
abbrev cX6_told : ByteArray := prog_1_method_33_code
def yX6_told : MethodName := ⟨RX6, "told", "(II)Ljava/lang/String;"⟩
abbrev cX6_moved : ByteArray := prog_1_method_34_code
def yX6_moved : MethodName := ⟨RX6, "moved", "(I)I"⟩
abbrev cX6_makes : ByteArray := prog_1_method_35_code
def yX6_makes : MethodName := ⟨RX6, "makes", "(III)Z"⟩
abbrev cX6_isSo : ByteArray := prog_1_method_36_code
def yX6_isSo : MethodName := ⟨RX6, "isSo", "(II)Z"⟩
abbrev cX6_unlike : ByteArray := prog_1_method_37_code
def yX6_unlike : MethodName := ⟨RX6, "unlike", "(II)I"⟩
abbrev cX6_weight : ByteArray := prog_1_method_38_code
def yX6_weight : MethodName := ⟨RX6, "weight", "(IZ)I"⟩
abbrev cX6_house : ByteArray := prog_1_method_39_code
def yX6_house : MethodName := ⟨RX6, "house", "(I)I"⟩
abbrev cX6_knock : ByteArray := prog_1_method_40_code
def yX6_knock : MethodName := ⟨RX6, "knock", "()I"⟩
abbrev cX6_isSound : ByteArray := prog_1_method_41_code
def yX6_isSound : MethodName := ⟨RX6, "isSound", "()Z"⟩
abbrev cX6_digest : ByteArray := prog_1_method_42_code
def yX6_digest : MethodName := ⟨RX6, "digest", "()J"⟩
abbrev cX6_termOf : ByteArray := prog_1_method_43_code
def yX6_termOf : MethodName := ⟨RX6, "termOf", "(I)LBranchmatch$Term;"⟩
abbrev cX6_answerOf : ByteArray := prog_1_method_44_code
def yX6_answerOf : MethodName := ⟨RX6, "answerOf", "(I)LBranchmatch$Answer;"⟩
abbrev cX6_needName : ByteArray := prog_1_method_45_code
def yX6_needName : MethodName := ⟨RX6, "needName", "(I)V"⟩
abbrev cX6_did : ByteArray := prog_1_method_46_code
def yX6_did : MethodName := ⟨RX6, "did", "(I)I"⟩
abbrev cX6_refuse : ByteArray := prog_1_method_47_code
def yX6_refuse : MethodName := ⟨RX6, "refuse", "()I"⟩
abbrev cX6_putSpareInto : ByteArray := prog_1_method_48_code
def yX6_putSpareInto : MethodName := ⟨RX6, "putSpareInto", "(LBranchmatch$Term;)I"⟩
abbrev cX6_putSpareAnswerInto : ByteArray := prog_1_method_49_code
def yX6_putSpareAnswerInto : MethodName := ⟨RX6, "putSpareAnswerInto", "(LBranchmatch$Answer;)I"⟩
abbrev cX6_isMadeAlikeBy : ByteArray := prog_1_method_50_code
def yX6_isMadeAlikeBy : MethodName := ⟨RX6, "isMadeAlikeBy", "(LBranchmatch$Answer;LBranchmatch$Term;LBranchmatch$Term;)Z"⟩
abbrev cX6_sizesTogether : ByteArray := prog_1_method_51_code
def yX6_sizesTogether : MethodName := ⟨RX6, "sizesTogether", "()I"⟩
abbrev cX6_movesTogether : ByteArray := prog_1_method_52_code
def yX6_movesTogether : MethodName := ⟨RX6, "movesTogether", "()I"⟩
abbrev cX6_areAnswersSound : ByteArray := prog_1_method_53_code
def yX6_areAnswersSound : MethodName := ⟨RX6, "areAnswersSound", "(LBranchmatch$Term;LBranchmatch$Term;)Z"⟩
abbrev cX6_isCommonSound : ByteArray := prog_1_method_54_code
def yX6_isCommonSound : MethodName := ⟨RX6, "isCommonSound", "(LBranchmatch$Term;LBranchmatch$Term;)Z"⟩
abbrev cX6_isPlainSound : ByteArray := prog_1_method_55_code
def yX6_isPlainSound : MethodName := ⟨RX6, "isPlainSound", "(LBranchmatch$Term;)Z"⟩
abbrev cX6_areSizesSound : ByteArray := prog_1_method_56_code
def yX6_areSizesSound : MethodName := ⟨RX6, "areSizesSound", "()Z"⟩
abbrev cX6_withLetters : ByteArray := prog_1_method_57_code
def yX6_withLetters : MethodName := ⟨RX6, "withLetters", "(JLBranchmatch$Term;)J"⟩
abbrev cX6_withAnswer : ByteArray := prog_1_method_58_code
def yX6_withAnswer : MethodName := ⟨RX6, "withAnswer", "(JLBranchmatch$Answer;)J"⟩
abbrev cX6_isName : ByteArray := prog_1_method_59_code
def yX6_isName : MethodName := ⟨RX6, "isName", "(I)Z"⟩
abbrev cX6_isHead : ByteArray := prog_1_method_60_code
def yX6_isHead : MethodName := ⟨RX6, "isHead", "(I)Z"⟩
abbrev cX6_partsOf : ByteArray := prog_1_method_61_code
def yX6_partsOf : MethodName := ⟨RX6, "partsOf", "(I)I"⟩
abbrev cX6_signOf : ByteArray := prog_1_method_62_code
def yX6_signOf : MethodName := ⟨RX6, "signOf", "(I)C"⟩
abbrev cX6_written : ByteArray := prog_1_method_63_code
def yX6_written : MethodName := ⟨RX6, "written", "(LBranchmatch$Term;)Ljava/lang/String;"⟩
def RX7 : String := "BranchmatchLaw$Out"
def TX7 : u_T := fun k => match k with
  | 0 => ("BranchmatchLaw$Out", "n", "J", false)
  | _ => ("BranchmatchLaw$Out", "s", "Ljava/lang/String;", false)
def tyX7 : Nat → FieldType := fun k => match k with
  | 0 => .long
  | _ => .object "java/lang/String"
abbrev wsX70 : List Cond := u_ws RX7 TX7 2
theorem nmX7 : ∀ a, a < 2 → ∀ b, b < 2 → a ≠ b → (TX7 a).2.1 ≠ (TX7 b).2.1 := by decide +kernel
theorem tyX7_ok : ∀ k, k < 2 → parseFieldDescriptor (TX7 k).2.2.1 = some (tyX7 k) := by decide +kernel
abbrev cX7_init : ByteArray := prog_9_method_1_code
def yX7_init : MethodName := ⟨RX7, "<init>", "()V"⟩
def RX8 : String := "BranchmatchModel$Classes"
def TX8 : u_T := fun k => match k with
  | 0 => ("BranchmatchModel$Classes", "terms", "[[I", true)
  | 1 => ("BranchmatchModel$Classes", "of", "[I", true)
  | 2 => ("BranchmatchModel$Classes", "part", "[I", true)
  | 3 => ("BranchmatchModel$Classes", "many", "I", false)
  | _ => ("BranchmatchModel$Classes", "can", "Z", false)
def tyX8 : Nat → FieldType := fun k => match k with
  | 0 => .array (.array .int)
  | 1 => .array .int
  | 2 => .array .int
  | 3 => .int
  | _ => .boolean
abbrev wsX80 : List Cond := u_ws RX8 TX8 5
theorem nmX8 : ∀ a, a < 5 → ∀ b, b < 5 → a ≠ b → (TX8 a).2.1 ≠ (TX8 b).2.1 := by decide +kernel
theorem tyX8_ok : ∀ k, k < 5 → parseFieldDescriptor (TX8 k).2.2.1 = some (tyX8 k) := by decide +kernel
abbrev cX8_init : ByteArray := prog_11_method_1_code
def yX8_init : MethodName := ⟨RX8, "<init>", "([I[I)V"⟩
abbrev cX8_number : ByteArray := prog_11_method_2_code
def yX8_number : MethodName := ⟨RX8, "number", "([II)I"⟩
abbrev cX8_come : ByteArray := prog_11_method_3_code
def yX8_come : MethodName := ⟨RX8, "come", "([I)V"⟩
abbrev cX8_headed : ByteArray := prog_11_method_4_code
def yX8_headed : MethodName := ⟨RX8, "headed", "(I)I"⟩
abbrev cX8_join : ByteArray := prog_11_method_5_code
def yX8_join : MethodName := ⟨RX8, "join", "(II)V"⟩
abbrev cX8_isRound : ByteArray := prog_11_method_6_code
def yX8_isRound : MethodName := ⟨RX8, "isRound", "()Z"⟩
abbrev cX8_isFree : ByteArray := prog_11_method_7_code
def yX8_isFree : MethodName := ⟨RX8, "isFree", "(I[Z)Z"⟩
abbrev cX8_whole : ByteArray := prog_11_method_8_code
def yX8_whole : MethodName := ⟨RX8, "whole", "(I)[I"⟩
abbrev cX8_answer : ByteArray := prog_11_method_9_code
def yX8_answer : MethodName := ⟨RX8, "answer", "()[[I"⟩
def RX9 : String := "BranchmatchModel$Steps"
def TX9 : u_T := fun k => match k with
  | 0 => ("BranchmatchModel$Steps", "stand", "[[I", true)
  | 1 => ("BranchmatchModel$Steps", "many", "I", false)
  | _ => ("BranchmatchModel$Steps", "why", "I", false)
def tyX9 : Nat → FieldType := fun k => match k with
  | 0 => .array (.array .int)
  | 1 => .int
  | _ => .int
abbrev wsX90 : List Cond := u_ws RX9 TX9 3
theorem nmX9 : ∀ a, a < 3 → ∀ b, b < 3 → a ≠ b → (TX9 a).2.1 ≠ (TX9 b).2.1 := by decide +kernel
theorem tyX9_ok : ∀ k, k < 3 → parseFieldDescriptor (TX9 k).2.2.1 = some (tyX9 k) := by decide +kernel
abbrev cX9_init : ByteArray := prog_12_method_1_code
def yX9_init : MethodName := ⟨RX9, "<init>", "([I[I)V"⟩
abbrev cX9_deep : ByteArray := prog_12_method_2_code
def yX9_deep : MethodName := ⟨RX9, "deep", "([I)[I"⟩
abbrev cX9_isWithin : ByteArray := prog_12_method_3_code
def yX9_isWithin : MethodName := ⟨RX9, "isWithin", "(I[I)Z"⟩
abbrev cX9_go : ByteArray := prog_12_method_4_code
def yX9_go : MethodName := ⟨RX9, "go", "([I[I)V"⟩
abbrev cX9_bind : ByteArray := prog_12_method_5_code
def yX9_bind : MethodName := ⟨RX9, "bind", "(I[I)V"⟩
abbrev cX9_goOn : ByteArray := prog_12_method_6_code
def yX9_goOn : MethodName := ⟨RX9, "goOn", "([I[I)V"⟩
abbrev cX9_whole : ByteArray := prog_12_method_7_code
def yX9_whole : MethodName := ⟨RX9, "whole", "([I)[I"⟩
abbrev cX9_answer : ByteArray := prog_12_method_8_code
def yX9_answer : MethodName := ⟨RX9, "answer", "()[[I"⟩
def RX10 : String := "BranchmatchModel"
def TX10 : u_T := fun k => match k with
  | 0 => ("BranchmatchModel", "slots", "[[I", true)
  | 1 => ("BranchmatchModel", "answers", "[[[I", true)
  | 2 => ("BranchmatchModel", "acts", "I", false)
  | 3 => ("BranchmatchModel", "refused", "I", false)
  | 4 => ("BranchmatchModel", "knocks", "I", false)
  | _ => ("BranchmatchModel", "thrown", "I", false)
def tyX10 : Nat → FieldType := fun k => match k with
  | 0 => .array (.array .int)
  | 1 => .array (.array (.array .int))
  | 2 => .int
  | 3 => .int
  | 4 => .int
  | _ => .int
abbrev wsX100 : List Cond := u_ws RX10 TX10 6
theorem nmX10 : ∀ a, a < 6 → ∀ b, b < 6 → a ≠ b → (TX10 a).2.1 ≠ (TX10 b).2.1 := by decide +kernel
theorem tyX10_ok : ∀ k, k < 6 → parseFieldDescriptor (TX10 k).2.2.1 = some (tyX10 k) := by decide +kernel
abbrev cX10_init : ByteArray := prog_10_method_1_code
def yX10_init : MethodName := ⟨RX10, "<init>", "()V"⟩
abbrev cX10_row : ByteArray := prog_10_method_3_code
def yX10_row : MethodName := ⟨RX10, "row", "(I)[I"⟩
abbrev cX10_none : ByteArray := prog_10_method_4_code
def yX10_none : MethodName := ⟨RX10, "none", "()[[I"⟩
abbrev cX10_parts : ByteArray := prog_10_method_5_code
def yX10_parts : MethodName := ⟨RX10, "parts", "(I)I"⟩
abbrev cX10_end : ByteArray := prog_10_method_6_code
def yX10_end : MethodName := ⟨RX10, "end", "([II)I"⟩
abbrev cX10_piece : ByteArray := prog_10_method_7_code
def yX10_piece : MethodName := ⟨RX10, "piece", "([III)[I"⟩
abbrev cX10_at : ByteArray := prog_10_method_8_code
def yX10_at : MethodName := ⟨RX10, "at", "([II)[I"⟩
abbrev cX10_joined : ByteArray := prog_10_method_9_code
def yX10_joined : MethodName := ⟨RX10, "joined", "([I[I)[I"⟩
abbrev cX10_same : ByteArray := prog_10_method_10_code
def yX10_same : MethodName := ⟨RX10, "same", "([I[I)Z"⟩
abbrev cX10_isAt : ByteArray := prog_10_method_11_code
def yX10_isAt : MethodName := ⟨RX10, "isAt", "([II[II)Z"⟩
abbrev cX10_first : ByteArray := prog_10_method_12_code
def yX10_first : MethodName := ⟨RX10, "first", "([I[I)I"⟩
abbrev cX10_used : ByteArray := prog_10_method_13_code
def yX10_used : MethodName := ⟨RX10, "used", "([[I[I)[I"⟩
abbrev cX10_movedBy : ByteArray := prog_10_method_14_code
def yX10_movedBy : MethodName := ⟨RX10, "movedBy", "([[I)I"⟩
abbrev cX10_ones : ByteArray := prog_10_method_15_code
def yX10_ones : MethodName := ⟨RX10, "ones", "(I)I"⟩
abbrev cX10_namesOf : ByteArray := prog_10_method_16_code
def yX10_namesOf : MethodName := ⟨RX10, "namesOf", "([I)I"⟩
abbrev cX10_depthOf : ByteArray := prog_10_method_17_code
def yX10_depthOf : MethodName := ⟨RX10, "depthOf", "([II)I"⟩
abbrev cX10_sharedOf : ByteArray := prog_10_method_18_code
def yX10_sharedOf : MethodName := ⟨RX10, "sharedOf", "([[I)I"⟩
abbrev cX10_isMet : ByteArray := prog_10_method_19_code
def yX10_isMet : MethodName := ⟨RX10, "isMet", "([[III)Z"⟩
abbrev cX10_plainOf : ByteArray := prog_10_method_20_code
def yX10_plainOf : MethodName := ⟨RX10, "plainOf", "([I)[I"⟩
abbrev cX10_commonOf : ByteArray := prog_10_method_21_code
def yX10_commonOf : MethodName := ⟨RX10, "commonOf", "([I[I)[I"⟩
abbrev cX10_matched : ByteArray := prog_10_method_22_code
def yX10_matched : MethodName := ⟨RX10, "matched", "([I[I)[[I"⟩
abbrev cX10_isSlot : ByteArray := prog_10_method_23_code
def yX10_isSlot : MethodName := ⟨RX10, "isSlot", "(I)Z"⟩
abbrev cX10_isAnswer : ByteArray := prog_10_method_24_code
def yX10_isAnswer : MethodName := ⟨RX10, "isAnswer", "(I)Z"⟩
abbrev cX10_isName : ByteArray := prog_10_method_25_code
def yX10_isName : MethodName := ⟨RX10, "isName", "(I)Z"⟩
abbrev cX10_isThrown : ByteArray := prog_10_method_26_code
def yX10_isThrown : MethodName := ⟨RX10, "isThrown", "(ZZ)Z"⟩
abbrev cX10_isThrown_ : ByteArray := prog_10_method_27_code
def yX10_isThrown_ : MethodName := ⟨RX10, "isThrown", "(Z)Z"⟩
abbrev cX10_done : ByteArray := prog_10_method_28_code
def yX10_done : MethodName := ⟨RX10, "done", "(I)I"⟩
abbrev cX10_no : ByteArray := prog_10_method_29_code
def yX10_no : MethodName := ⟨RX10, "no", "()I"⟩
abbrev cX10_give : ByteArray := prog_10_method_30_code
def yX10_give : MethodName := ⟨RX10, "give", "(I[I)I"⟩
abbrev cX10_isPlace : ByteArray := prog_10_method_31_code
def yX10_isPlace : MethodName := ⟨RX10, "isPlace", "(II)Z"⟩
abbrev cX10_name : ByteArray := prog_10_method_32_code
def yX10_name : MethodName := ⟨RX10, "name", "(II)I"⟩
abbrev cX10_head : ByteArray := prog_10_method_33_code
def yX10_head : MethodName := ⟨RX10, "head", "(IIIII)I"⟩
abbrev cX10_copy : ByteArray := prog_10_method_34_code
def yX10_copy : MethodName := ⟨RX10, "copy", "(II)I"⟩
abbrev cX10_swap : ByteArray := prog_10_method_35_code
def yX10_swap : MethodName := ⟨RX10, "swap", "(II)I"⟩
abbrev cX10_part : ByteArray := prog_10_method_36_code
def yX10_part : MethodName := ⟨RX10, "part", "(III)I"⟩
abbrev cX10_graft : ByteArray := prog_10_method_37_code
def yX10_graft : MethodName := ⟨RX10, "graft", "(III)I"⟩
abbrev cX10_often : ByteArray := prog_10_method_38_code
def yX10_often : MethodName := ⟨RX10, "often", "([II)I"⟩
abbrev cX10_put : ByteArray := prog_10_method_39_code
def yX10_put : MethodName := ⟨RX10, "put", "(III)I"⟩
abbrev cX10_shift : ByteArray := prog_10_method_40_code
def yX10_shift : MethodName := ⟨RX10, "shift", "(II)I"⟩
abbrev cX10_plain : ByteArray := prog_10_method_41_code
def yX10_plain : MethodName := ⟨RX10, "plain", "(I)I"⟩
abbrev cX10_use : ByteArray := prog_10_method_42_code
def yX10_use : MethodName := ⟨RX10, "use", "(III)I"⟩
abbrev cX10_common : ByteArray := prog_10_method_43_code
def yX10_common : MethodName := ⟨RX10, "common", "(III)I"⟩
abbrev cX10_forget : ByteArray := prog_10_method_44_code
def yX10_forget : MethodName := ⟨RX10, "forget", "(I)I"⟩
abbrev cX10_tell : ByteArray := prog_10_method_45_code
def yX10_tell : MethodName := ⟨RX10, "tell", "(III)I"⟩
abbrev cX10_become : ByteArray := prog_10_method_46_code
def yX10_become : MethodName := ⟨RX10, "become", "(I[[I)I"⟩
abbrev cX10_take : ByteArray := prog_10_method_47_code
def yX10_take : MethodName := ⟨RX10, "take", "(II)I"⟩
abbrev cX10_withBehind : ByteArray := prog_10_method_48_code
def yX10_withBehind : MethodName := ⟨RX10, "withBehind", "([[I[[I)[[I"⟩
abbrev cX10_behind : ByteArray := prog_10_method_49_code
def yX10_behind : MethodName := ⟨RX10, "behind", "(III)I"⟩
abbrev cX10_alike : ByteArray := prog_10_method_50_code
def yX10_alike : MethodName := ⟨RX10, "alike", "(IIII)I"⟩
abbrev cX10_match : ByteArray := prog_10_method_51_code
def yX10_match : MethodName := ⟨RX10, "match", "(III)I"⟩
abbrev cX10_textOf : ByteArray := prog_10_method_52_code
def yX10_textOf : MethodName := ⟨RX10, "textOf", "([II)Ljava/lang/String;"⟩
abbrev cX10_text : ByteArray := prog_10_method_53_code
def yX10_text : MethodName := ⟨RX10, "text", "(I)Ljava/lang/String;"⟩
abbrev cX10_size : ByteArray := prog_10_method_54_code
def yX10_size : MethodName := ⟨RX10, "size", "(I)I"⟩
abbrev cX10_depth : ByteArray := prog_10_method_55_code
def yX10_depth : MethodName := ⟨RX10, "depth", "(I)I"⟩
abbrev cX10_sharedOf_ : ByteArray := prog_10_method_56_code
def yX10_sharedOf_ : MethodName := ⟨RX10, "sharedOf", "([I)I"⟩
abbrev cX10_shared : ByteArray := prog_10_method_57_code
def yX10_shared : MethodName := ⟨RX10, "shared", "(I)I"⟩
abbrev cX10_letter : ByteArray := prog_10_method_58_code
def yX10_letter : MethodName := ⟨RX10, "letter", "(II)I"⟩
abbrev cX10_sizeAt : ByteArray := prog_10_method_59_code
def yX10_sizeAt : MethodName := ⟨RX10, "sizeAt", "(II)I"⟩
abbrev cX10_count : ByteArray := prog_10_method_60_code
def yX10_count : MethodName := ⟨RX10, "count", "(II)I"⟩
abbrev cX10_names : ByteArray := prog_10_method_61_code
def yX10_names : MethodName := ⟨RX10, "names", "(I)I"⟩
abbrev cX10_find : ByteArray := prog_10_method_62_code
def yX10_find : MethodName := ⟨RX10, "find", "(II)I"⟩
abbrev cX10_differ : ByteArray := prog_10_method_63_code
def yX10_differ : MethodName := ⟨RX10, "differ", "(II)I"⟩
abbrev cX10_is : ByteArray := prog_10_method_64_code
def yX10_is : MethodName := ⟨RX10, "is", "(III)Z"⟩
abbrev cX10_canBe : ByteArray := prog_10_method_65_code
def yX10_canBe : MethodName := ⟨RX10, "canBe", "([I[II)Z"⟩
abbrev cX10_can : ByteArray := prog_10_method_66_code
def yX10_can : MethodName := ⟨RX10, "can", "(III)Z"⟩
abbrev cX10_steps : ByteArray := prog_10_method_67_code
def yX10_steps : MethodName := ⟨RX10, "steps", "(II)I"⟩
abbrev cX10_why : ByteArray := prog_10_method_68_code
def yX10_why : MethodName := ⟨RX10, "why", "(II)I"⟩
abbrev cX10_told : ByteArray := prog_10_method_69_code
def yX10_told : MethodName := ⟨RX10, "told", "(II)Ljava/lang/String;"⟩
abbrev cX10_moved : ByteArray := prog_10_method_70_code
def yX10_moved : MethodName := ⟨RX10, "moved", "(I)I"⟩
abbrev cX10_makes : ByteArray := prog_10_method_71_code
def yX10_makes : MethodName := ⟨RX10, "makes", "(III)Z"⟩
abbrev cX10_unlikeOf : ByteArray := prog_10_method_72_code
def yX10_unlikeOf : MethodName := ⟨RX10, "unlikeOf", "([[I[[I)I"⟩
abbrev cX10_isSo : ByteArray := prog_10_method_73_code
def yX10_isSo : MethodName := ⟨RX10, "isSo", "(II)Z"⟩
abbrev cX10_unlike : ByteArray := prog_10_method_74_code
def yX10_unlike : MethodName := ⟨RX10, "unlike", "(II)I"⟩
abbrev cX10_weight : ByteArray := prog_10_method_75_code
def yX10_weight : MethodName := ⟨RX10, "weight", "(IZ)I"⟩
abbrev cX10_told_ : ByteArray := prog_10_method_76_code
def yX10_told_ : MethodName := ⟨RX10, "told", "(I)I"⟩
abbrev cX10_house : ByteArray := prog_10_method_77_code
def yX10_house : MethodName := ⟨RX10, "house", "(I)I"⟩
abbrev cX10_knock : ByteArray := prog_10_method_78_code
def yX10_knock : MethodName := ⟨RX10, "knock", "()I"⟩
abbrev cX10_isSound : ByteArray := prog_10_method_79_code
def yX10_isSound : MethodName := ⟨RX10, "isSound", "()Z"⟩
abbrev cX10_add : ByteArray := prog_10_method_80_code
def yX10_add : MethodName := ⟨RX10, "add", "(JJ)J"⟩
abbrev cX10_added : ByteArray := prog_10_method_81_code
def yX10_added : MethodName := ⟨RX10, "added", "(J[I)J"⟩
abbrev cX10_digest : ByteArray := prog_10_method_82_code
def yX10_digest : MethodName := ⟨RX10, "digest", "()J"⟩
def RJx145de : String := "java/io/Serializable"
def TJx145de : u_T := fun k => match k with
  | _ => ("", "", "", false)
def tyJx145de : Nat → FieldType := fun k => match k with
  | _ => .int
abbrev wsJx145de0 : List Cond := u_ws RJx145de TJx145de 0
theorem nmJx145de : ∀ a, a < 0 → ∀ b, b < 0 → a ≠ b → (TJx145de a).2.1 ≠ (TJx145de b).2.1 := by decide +kernel
theorem tyJx145de_ok : ∀ k, k < 0 → parseFieldDescriptor (TJx145de k).2.2.1 = some (tyJx145de k) := by decide +kernel
def RJ5 : String := "java/lang/AbstractStringBuilder"
def TJ5 : u_T := fun k => match k with
  | _ => ("", "", "", false)
def tyJ5 : Nat → FieldType := fun k => match k with
  | _ => .int
abbrev wsJ50 : List Cond := u_ws RJ5 TJ5 0
theorem nmJ5 : ∀ a, a < 0 → ∀ b, b < 0 → a ≠ b → (TJ5 a).2.1 ≠ (TJ5 b).2.1 := by decide +kernel
theorem tyJ5_ok : ∀ k, k < 0 → parseFieldDescriptor (TJ5 k).2.2.1 = some (tyJ5 k) := by decide +kernel
abbrev cJ5_init_d00df : ByteArray := prog_13_method_2_code
def yJ5_init_d00df : MethodName := ⟨RJ5, "<init>", "(I)V"⟩
abbrev cJ5_length_8abf5 : ByteArray := prog_13_method_6_code
def yJ5_length_8abf5 : MethodName := ⟨RJ5, "length", "()I"⟩
abbrev cJ5_ensureCapacityInternal_d00df : ByteArray := prog_13_method_9_code
def yJ5_ensureCapacityInternal_d00df : MethodName := ⟨RJ5, "ensureCapacityInternal", "(I)V"⟩
abbrev cJ5_newCapacity_0f7a4 : ByteArray := prog_13_method_10_code
def yJ5_newCapacity_0f7a4 : MethodName := ⟨RJ5, "newCapacity", "(I)I"⟩
abbrev cJ5_inflate_da8c8 : ByteArray := prog_13_method_11_code
def yJ5_inflate_da8c8 : MethodName := ⟨RJ5, "inflate", "()V"⟩
abbrev cJ5_append_cf1ce : ByteArray := prog_13_method_22_code
def yJ5_append_cf1ce : MethodName := ⟨RJ5, "append", "(Ljava/lang/String;)Ljava/lang/AbstractStringBuilder;"⟩
abbrev cJ5_appendNull_278bc : ByteArray := prog_13_method_26_code
def yJ5_appendNull_278bc : MethodName := ⟨RJ5, "appendNull", "()Ljava/lang/AbstractStringBuilder;"⟩
abbrev cJ5_append_3fe6f : ByteArray := prog_13_method_31_code
def yJ5_append_3fe6f : MethodName := ⟨RJ5, "append", "(C)Ljava/lang/AbstractStringBuilder;"⟩
abbrev cJ5_append_c97b9 : ByteArray := prog_13_method_32_code
def yJ5_append_c97b9 : MethodName := ⟨RJ5, "append", "(I)Ljava/lang/AbstractStringBuilder;"⟩
abbrev cJ5_getValue_6d5f1 : ByteArray := prog_13_method_64_code
def yJ5_getValue_6d5f1 : MethodName := ⟨RJ5, "getValue", "()[B"⟩
abbrev cJ5_isLatin1_aae02 : ByteArray := prog_13_method_68_code
def yJ5_isLatin1_aae02 : MethodName := ⟨RJ5, "isLatin1", "()Z"⟩
abbrev cJ5_inflateIfNeededFor_a7421 : ByteArray := prog_13_method_71_code
def yJ5_inflateIfNeededFor_a7421 : MethodName := ⟨RJ5, "inflateIfNeededFor", "(Ljava/lang/String;)V"⟩
abbrev cJ5_putStringAt_47b60 : ByteArray := prog_13_method_73_code
def yJ5_putStringAt_47b60 : MethodName := ⟨RJ5, "putStringAt", "(ILjava/lang/String;)V"⟩
def RJx2cfe8 : String := "java/lang/Appendable"
def TJx2cfe8 : u_T := fun k => match k with
  | _ => ("", "", "", false)
def tyJx2cfe8 : Nat → FieldType := fun k => match k with
  | _ => .int
abbrev wsJx2cfe80 : List Cond := u_ws RJx2cfe8 TJx2cfe8 0
theorem nmJx2cfe8 : ∀ a, a < 0 → ∀ b, b < 0 → a ≠ b → (TJx2cfe8 a).2.1 ≠ (TJx2cfe8 b).2.1 := by decide +kernel
theorem tyJx2cfe8_ok : ∀ k, k < 0 → parseFieldDescriptor (TJx2cfe8 k).2.2.1 = some (tyJx2cfe8 k) := by decide +kernel
def RJx9f9b0 : String := "java/lang/CharSequence"
def TJx9f9b0 : u_T := fun k => match k with
  | _ => ("", "", "", false)
def tyJx9f9b0 : Nat → FieldType := fun k => match k with
  | _ => .int
abbrev wsJx9f9b00 : List Cond := u_ws RJx9f9b0 TJx9f9b0 0
theorem nmJx9f9b0 : ∀ a, a < 0 → ∀ b, b < 0 → a ≠ b → (TJx9f9b0 a).2.1 ≠ (TJx9f9b0 b).2.1 := by decide +kernel
theorem tyJx9f9b0_ok : ∀ k, k < 0 → parseFieldDescriptor (TJx9f9b0 k).2.2.1 = some (tyJx9f9b0 k) := by decide +kernel
def RJx8e188 : String := "java/lang/Cloneable"
def TJx8e188 : u_T := fun k => match k with
  | _ => ("", "", "", false)
def tyJx8e188 : Nat → FieldType := fun k => match k with
  | _ => .int
abbrev wsJx8e1880 : List Cond := u_ws RJx8e188 TJx8e188 0
theorem nmJx8e188 : ∀ a, a < 0 → ∀ b, b < 0 → a ≠ b → (TJx8e188 a).2.1 ≠ (TJx8e188 b).2.1 := by decide +kernel
theorem tyJx8e188_ok : ∀ k, k < 0 → parseFieldDescriptor (TJx8e188 k).2.2.1 = some (tyJx8e188 k) := by decide +kernel
def RJxb160c : String := "java/lang/Comparable"
def TJxb160c : u_T := fun k => match k with
  | _ => ("", "", "", false)
def tyJxb160c : Nat → FieldType := fun k => match k with
  | _ => .int
abbrev wsJxb160c0 : List Cond := u_ws RJxb160c TJxb160c 0
theorem nmJxb160c : ∀ a, a < 0 → ∀ b, b < 0 → a ≠ b → (TJxb160c a).2.1 ≠ (TJxb160c b).2.1 := by decide +kernel
theorem tyJxb160c_ok : ∀ k, k < 0 → parseFieldDescriptor (TJxb160c k).2.2.1 = some (tyJxb160c k) := by decide +kernel
def RJ6 : String := "java/lang/Integer"
def TJ6 : u_T := fun k => match k with
  | _ => ("", "", "", false)
def tyJ6 : Nat → FieldType := fun k => match k with
  | _ => .int
abbrev wsJ60 : List Cond := u_ws RJ6 TJ6 0
theorem nmJ6 : ∀ a, a < 0 → ∀ b, b < 0 → a ≠ b → (TJ6 a).2.1 ≠ (TJ6 b).2.1 := by decide +kernel
theorem tyJ6_ok : ∀ k, k < 0 → parseFieldDescriptor (TJ6 k).2.2.1 = some (tyJ6 k) := by decide +kernel
abbrev cJ6_getChars_ba4f3 : ByteArray := prog_18_method_12_code
def yJ6_getChars_ba4f3 : MethodName := ⟨RJ6, "getChars", "(II[B)I"⟩
abbrev cJ6_stringSize_0f7a4 : ByteArray := prog_18_method_13_code
def yJ6_stringSize_0f7a4 : MethodName := ⟨RJ6, "stringSize", "(I)I"⟩
abbrev cJ6_bitCount_0f7a4 : ByteArray := prog_18_method_49_code
def yJ6_bitCount_0f7a4 : MethodName := ⟨RJ6, "bitCount", "(I)I"⟩
def RJ9 : String := "java/lang/Math"
def TJ9 : u_T := fun k => match k with
  | _ => ("", "", "", false)
def tyJ9 : Nat → FieldType := fun k => match k with
  | _ => .int
abbrev wsJ90 : List Cond := u_ws RJ9 TJ9 0
theorem nmJ9 : ∀ a, a < 0 → ∀ b, b < 0 → a ≠ b → (TJ9 a).2.1 ≠ (TJ9 b).2.1 := by decide +kernel
theorem tyJ9_ok : ∀ k, k < 0 → parseFieldDescriptor (TJ9 k).2.2.1 = some (tyJ9 k) := by decide +kernel
abbrev cJ9_max_7cf53 : ByteArray := prog_19_method_65_code
def yJ9_max_7cf53 : MethodName := ⟨RJ9, "max", "(II)I"⟩
abbrev cJ9_min_7cf53 : ByteArray := prog_19_method_69_code
def yJ9_min_7cf53 : MethodName := ⟨RJ9, "min", "(II)I"⟩
def RJxd2413 : String := "java/lang/Number"
def TJxd2413 : u_T := fun k => match k with
  | _ => ("", "", "", false)
def tyJxd2413 : Nat → FieldType := fun k => match k with
  | _ => .int
abbrev wsJxd24130 : List Cond := u_ws RJxd2413 TJxd2413 0
theorem nmJxd2413 : ∀ a, a < 0 → ∀ b, b < 0 → a ≠ b → (TJxd2413 a).2.1 ≠ (TJxd2413 b).2.1 := by decide +kernel
theorem tyJxd2413_ok : ∀ k, k < 0 → parseFieldDescriptor (TJxd2413 k).2.2.1 = some (tyJxd2413 k) := by decide +kernel
def RJ0 : String := "java/lang/String"
def TJ0 : u_T := fun k => match k with
  | 0 => ("java/lang/String", "value", "[B", true)
  | 1 => ("java/lang/String", "coder", "B", true)
  | 2 => ("java/lang/String", "hash", "I", false)
  | _ => ("java/lang/String", "hashIsZero", "Z", false)
def tyJ0 : Nat → FieldType := fun k => match k with
  | 0 => .array .byte
  | 1 => .byte
  | 2 => .int
  | _ => .boolean
abbrev wsJ00 : List Cond := u_ws RJ0 TJ0 4
theorem nmJ0 : ∀ a, a < 4 → ∀ b, b < 4 → a ≠ b → (TJ0 a).2.1 ≠ (TJ0 b).2.1 := by decide +kernel
theorem tyJ0_ok : ∀ k, k < 4 → parseFieldDescriptor (TJ0 k).2.2.1 = some (tyJ0 k) := by decide +kernel
abbrev cJ0_init_81219 : ByteArray := prog_22_method_53_code
def yJ0_init_81219 : MethodName := ⟨RJ0, "<init>", "(Ljava/lang/StringBuilder;)V"⟩
abbrev cJ0_length_8abf5 : ByteArray := prog_22_method_54_code
def yJ0_length_8abf5 : MethodName := ⟨RJ0, "length", "()I"⟩
abbrev cJ0_charAt_5068e : ByteArray := prog_22_method_56_code
def yJ0_charAt_5068e : MethodName := ⟨RJ0, "charAt", "(I)C"⟩
abbrev cJ0_getBytes_840e7 : ByteArray := prog_22_method_147_code
def yJ0_getBytes_840e7 : MethodName := ⟨RJ0, "getBytes", "([BIB)V"⟩
abbrev cJ0_init_db425 : ByteArray := prog_22_method_150_code
def yJ0_init_db425 : MethodName := ⟨RJ0, "<init>", "(Ljava/lang/AbstractStringBuilder;Ljava/lang/Void;)V"⟩
abbrev cJ0_coder_7d493 : ByteArray := prog_22_method_152_code
def yJ0_coder_7d493 : MethodName := ⟨RJ0, "coder", "()B"⟩
abbrev cJ0_isLatin1_aae02 : ByteArray := prog_22_method_154_code
def yJ0_isLatin1_aae02 : MethodName := ⟨RJ0, "isLatin1", "()Z"⟩
abbrev cJ0_checkIndex_df160 : ByteArray := prog_22_method_155_code
def yJ0_checkIndex_df160 : MethodName := ⟨RJ0, "checkIndex", "(II)V"⟩
abbrev cJ0_checkBoundsOffCount_cabcc : ByteArray := prog_22_method_157_code
def yJ0_checkBoundsOffCount_cabcc : MethodName := ⟨RJ0, "checkBoundsOffCount", "(III)I"⟩
abbrev cJ0_checkBoundsBeginEnd_23922 : ByteArray := prog_22_method_158_code
def yJ0_checkBoundsBeginEnd_23922 : MethodName := ⟨RJ0, "checkBoundsBeginEnd", "(III)V"⟩
def RJ4 : String := "java/lang/StringBuilder"
def TJ4 : u_T := fun k => match k with
  | 0 => ("java/lang/AbstractStringBuilder", "value", "[B", false)
  | 1 => ("java/lang/AbstractStringBuilder", "coder", "B", false)
  | 2 => ("java/lang/AbstractStringBuilder", "maybeLatin1", "Z", false)
  | _ => ("java/lang/AbstractStringBuilder", "count", "I", false)
def tyJ4 : Nat → FieldType := fun k => match k with
  | 0 => .array .byte
  | 1 => .byte
  | 2 => .boolean
  | _ => .int
abbrev wsJ40 : List Cond := u_ws RJ4 TJ4 4
theorem nmJ4 : ∀ a, a < 4 → ∀ b, b < 4 → a ≠ b → (TJ4 a).2.1 ≠ (TJ4 b).2.1 := by decide +kernel
theorem tyJ4_ok : ∀ k, k < 4 → parseFieldDescriptor (TJ4 k).2.2.1 = some (tyJ4 k) := by decide +kernel
abbrev cJ4_init_da8c8 : ByteArray := prog_23_method_1_code
def yJ4_init_da8c8 : MethodName := ⟨RJ4, "<init>", "()V"⟩
abbrev cJ4_append_15ec4 : ByteArray := prog_23_method_7_code
def yJ4_append_15ec4 : MethodName := ⟨RJ4, "append", "(Ljava/lang/String;)Ljava/lang/StringBuilder;"⟩
abbrev cJ4_append_cf468 : ByteArray := prog_23_method_14_code
def yJ4_append_cf468 : MethodName := ⟨RJ4, "append", "(C)Ljava/lang/StringBuilder;"⟩
abbrev cJ4_append_bf812 : ByteArray := prog_23_method_15_code
def yJ4_append_bf812 : MethodName := ⟨RJ4, "append", "(I)Ljava/lang/StringBuilder;"⟩
abbrev cJ4_toString_0e30d : ByteArray := prog_23_method_42_code
def yJ4_toString_0e30d : MethodName := ⟨RJ4, "toString", "()Ljava/lang/String;"⟩
abbrev cJ4_length_8abf5 : ByteArray := prog_23_method_93_code
def yJ4_length_8abf5 : MethodName := ⟨RJ4, "length", "()I"⟩
def RJ1 : String := "java/lang/StringLatin1"
def TJ1 : u_T := fun k => match k with
  | _ => ("", "", "", false)
def tyJ1 : Nat → FieldType := fun k => match k with
  | _ => .int
abbrev wsJ10 : List Cond := u_ws RJ1 TJ1 0
theorem nmJ1 : ∀ a, a < 0 → ∀ b, b < 0 → a ≠ b → (TJ1 a).2.1 ≠ (TJ1 b).2.1 := by decide +kernel
theorem tyJ1_ok : ∀ k, k < 0 → parseFieldDescriptor (TJ1 k).2.2.1 = some (tyJ1 k) := by decide +kernel
abbrev cJ1_charAt_3b067 : ByteArray := prog_24_method_2_code
def yJ1_charAt_3b067 : MethodName := ⟨RJ1, "charAt", "([BI)C"⟩
abbrev cJ1_canEncode_fc78d : ByteArray := prog_24_method_3_code
def yJ1_canEncode_fc78d : MethodName := ⟨RJ1, "canEncode", "(C)Z"⟩
abbrev cJ1_inflate_0e8fd : ByteArray := prog_24_method_50_code
def yJ1_inflate_0e8fd : MethodName := ⟨RJ1, "inflate", "([BI[BII)V"⟩
def RJ2 : String := "java/lang/StringUTF16"
def TJ2 : u_T := fun k => match k with
  | _ => ("", "", "", false)
def tyJ2 : Nat → FieldType := fun k => match k with
  | _ => .int
abbrev wsJ20 : List Cond := u_ws RJ2 TJ2 0
theorem nmJ2 : ∀ a, a < 0 → ∀ b, b < 0 → a ≠ b → (TJ2 a).2.1 ≠ (TJ2 b).2.1 := by decide +kernel
theorem tyJ2_ok : ∀ k, k < 0 → parseFieldDescriptor (TJ2 k).2.2.1 = some (tyJ2 k) := by decide +kernel
abbrev cJ2_newBytesFor_77867 : ByteArray := prog_25_method_2_code
def yJ2_newBytesFor_77867 : MethodName := ⟨RJ2, "newBytesFor", "(I)[B"⟩
abbrev cJ2_newBytesLength_0f7a4 : ByteArray := prog_25_method_3_code
def yJ2_newBytesLength_0f7a4 : MethodName := ⟨RJ2, "newBytesLength", "(I)I"⟩
abbrev cJ2_putChar_b72d1 : ByteArray := prog_25_method_4_code
def yJ2_putChar_b72d1 : MethodName := ⟨RJ2, "putChar", "([BII)V"⟩
abbrev cJ2_getChar_3b067 : ByteArray := prog_25_method_5_code
def yJ2_getChar_3b067 : MethodName := ⟨RJ2, "getChar", "([BI)C"⟩
abbrev cJ2_length_9d52b : ByteArray := prog_25_method_6_code
def yJ2_length_9d52b : MethodName := ⟨RJ2, "length", "([B)I"⟩
abbrev cJ2_coderFromArrayLen_85cad : ByteArray := prog_25_method_15_code
def yJ2_coderFromArrayLen_85cad : MethodName := ⟨RJ2, "coderFromArrayLen", "([BI)B"⟩
abbrev cJ2_compress_39247 : ByteArray := prog_25_method_17_code
def yJ2_compress_39247 : MethodName := ⟨RJ2, "compress", "([BII)[B"⟩
abbrev cJ2_compress_5af95 : ByteArray := prog_25_method_22_code
def yJ2_compress_5af95 : MethodName := ⟨RJ2, "compress", "([BI[BII)I"⟩
abbrev cJ2_putCharSB_b72d1 : ByteArray := prog_25_method_71_code
def yJ2_putCharSB_b72d1 : MethodName := ⟨RJ2, "putCharSB", "([BII)V"⟩
abbrev cJ2_getChars_46870 : ByteArray := prog_25_method_77_code
def yJ2_getChars_46870 : MethodName := ⟨RJ2, "getChars", "(III[B)I"⟩
abbrev cJ2_putCharsAt_cd4e5 : ByteArray := prog_25_method_81_code
def yJ2_putCharsAt_cd4e5 : MethodName := ⟨RJ2, "putCharsAt", "([BICCCC)I"⟩
abbrev cJ2_charAt_3b067 : ByteArray := prog_25_method_83_code
def yJ2_charAt_3b067 : MethodName := ⟨RJ2, "charAt", "([BI)C"⟩
abbrev cJ2_inflate_0e8fd : ByteArray := prog_25_method_86_code
def yJ2_inflate_0e8fd : MethodName := ⟨RJ2, "inflate", "([BI[BII)V"⟩
abbrev cJ2_getChars_ba4f3 : ByteArray := prog_25_method_89_code
def yJ2_getChars_ba4f3 : MethodName := ⟨RJ2, "getChars", "(II[B)I"⟩
abbrev cJ2_checkIndex_2214a : ByteArray := prog_25_method_91_code
def yJ2_checkIndex_2214a : MethodName := ⟨RJ2, "checkIndex", "(I[B)V"⟩
abbrev cJ2_checkBoundsBeginEnd_d044e : ByteArray := prog_25_method_93_code
def yJ2_checkBoundsBeginEnd_d044e : MethodName := ⟨RJ2, "checkBoundsBeginEnd", "(II[B)V"⟩
abbrev cJ2_checkBoundsOffCount_d044e : ByteArray := prog_25_method_94_code
def yJ2_checkBoundsOffCount_d044e : MethodName := ⟨RJ2, "checkBoundsOffCount", "(II[B)V"⟩
def RJ10 : String := "java/lang/System"
def TJ10 : u_T := fun k => match k with
  | _ => ("", "", "", false)
def tyJ10 : Nat → FieldType := fun k => match k with
  | _ => .int
abbrev wsJ100 : List Cond := u_ws RJ10 TJ10 0
theorem nmJ10 : ∀ a, a < 0 → ∀ b, b < 0 → a ≠ b → (TJ10 a).2.1 ≠ (TJ10 b).2.1 := by decide +kernel
theorem tyJ10_ok : ∀ k, k < 0 → parseFieldDescriptor (TJ10 k).2.2.1 = some (tyJ10 k) := by decide +kernel
def RJxfd54e : String := "java/lang/constant/Constable"
def TJxfd54e : u_T := fun k => match k with
  | _ => ("", "", "", false)
def tyJxfd54e : Nat → FieldType := fun k => match k with
  | _ => .int
abbrev wsJxfd54e0 : List Cond := u_ws RJxfd54e TJxfd54e 0
theorem nmJxfd54e : ∀ a, a < 0 → ∀ b, b < 0 → a ≠ b → (TJxfd54e a).2.1 ≠ (TJxfd54e b).2.1 := by decide +kernel
theorem tyJxfd54e_ok : ∀ k, k < 0 → parseFieldDescriptor (TJxfd54e k).2.2.1 = some (tyJxfd54e k) := by decide +kernel
def RJx3cf43 : String := "java/lang/constant/ConstantDesc"
def TJx3cf43 : u_T := fun k => match k with
  | _ => ("", "", "", false)
def tyJx3cf43 : Nat → FieldType := fun k => match k with
  | _ => .int
abbrev wsJx3cf430 : List Cond := u_ws RJx3cf43 TJx3cf43 0
theorem nmJx3cf43 : ∀ a, a < 0 → ∀ b, b < 0 → a ≠ b → (TJx3cf43 a).2.1 ≠ (TJx3cf43 b).2.1 := by decide +kernel
theorem tyJx3cf43_ok : ∀ k, k < 0 → parseFieldDescriptor (TJx3cf43 k).2.2.1 = some (tyJx3cf43 k) := by decide +kernel
def RJ7 : String := "java/util/Arrays"
def TJ7 : u_T := fun k => match k with
  | _ => ("", "", "", false)
def tyJ7 : Nat → FieldType := fun k => match k with
  | _ => .int
abbrev wsJ70 : List Cond := u_ws RJ7 TJ7 0
theorem nmJ7 : ∀ a, a < 0 → ∀ b, b < 0 → a ≠ b → (TJ7 a).2.1 ≠ (TJ7 b).2.1 := by decide +kernel
theorem tyJ7_ok : ∀ k, k < 0 → parseFieldDescriptor (TJ7 k).2.2.1 = some (tyJ7 k) := by decide +kernel
abbrev cJ7_fill_53178 : ByteArray := prog_28_method_103_code
def yJ7_fill_53178 : MethodName := ⟨RJ7, "fill", "([II)V"⟩
abbrev cJ7_copyOf_9075b : ByteArray := prog_28_method_121_code
def yJ7_copyOf_9075b : MethodName := ⟨RJ7, "copyOf", "([BI)[B"⟩
abbrev cJ7_checkLength_df160 : ByteArray := prog_28_method_131_code
def yJ7_checkLength_df160 : MethodName := ⟨RJ7, "checkLength", "(II)V"⟩
abbrev cJ7_copyOfRange_39247 : ByteArray := prog_28_method_132_code
def yJ7_copyOfRange_39247 : MethodName := ⟨RJ7, "copyOfRange", "([BII)[B"⟩
abbrev cJ7_copyOfRangeByte_39247 : ByteArray := prog_28_method_133_code
def yJ7_copyOfRangeByte_39247 : MethodName := ⟨RJ7, "copyOfRangeByte", "([BII)[B"⟩
def RJ8 : String := "jdk/internal/util/ArraysSupport"
def TJ8 : u_T := fun k => match k with
  | _ => ("", "", "", false)
def tyJ8 : Nat → FieldType := fun k => match k with
  | _ => .int
abbrev wsJ80 : List Cond := u_ws RJ8 TJ8 0
theorem nmJ8 : ∀ a, a < 0 → ∀ b, b < 0 → a ≠ b → (TJ8 a).2.1 ≠ (TJ8 b).2.1 := by decide +kernel
theorem tyJ8_ok : ∀ k, k < 0 → parseFieldDescriptor (TJ8 k).2.2.1 = some (tyJ8 k) := by decide +kernel
abbrev cJ8_newLength_cabcc : ByteArray := prog_29_method_27_code
def yJ8_newLength_cabcc : MethodName := ⟨RJ8, "newLength", "(III)I"⟩
abbrev cJ8_hugeLength_7cf53 : ByteArray := prog_29_method_28_code
def yJ8_hugeLength_7cf53 : MethodName := ⟨RJ8, "hugeLength", "(II)I"⟩
def RJ3 : String := "jdk/internal/util/Preconditions"
def TJ3 : u_T := fun k => match k with
  | _ => ("", "", "", false)
def tyJ3 : Nat → FieldType := fun k => match k with
  | _ => .int
abbrev wsJ30 : List Cond := u_ws RJ3 TJ3 0
theorem nmJ3 : ∀ a, a < 0 → ∀ b, b < 0 → a ≠ b → (TJ3 a).2.1 ≠ (TJ3 b).2.1 := by decide +kernel
theorem tyJ3_ok : ∀ k, k < 0 → parseFieldDescriptor (TJ3 k).2.2.1 = some (tyJ3 k) := by decide +kernel
abbrev cJ3_checkIndex_8e157 : ByteArray := prog_30_method_11_code
def yJ3_checkIndex_8e157 : MethodName := ⟨RJ3, "checkIndex", "(IILjava/util/function/BiFunction;)I"⟩
abbrev cJ3_checkFromToIndex_8c36e : ByteArray := prog_30_method_12_code
def yJ3_checkFromToIndex_8c36e : MethodName := ⟨RJ3, "checkFromToIndex", "(IIILjava/util/function/BiFunction;)I"⟩
abbrev cJ3_checkFromIndexSize_8c36e : ByteArray := prog_30_method_13_code
def yJ3_checkFromIndexSize_8c36e : MethodName := ⟨RJ3, "checkFromIndexSize", "(IIILjava/util/function/BiFunction;)I"⟩
def RL : String := "BranchmatchLaw"
abbrev cL_name : ByteArray := method_2_code
def yL_name : MethodName := ⟨RL, "name", "(LBranchmatch;IILBranchmatchLaw$Out;)I"⟩
abbrev cL_head : ByteArray := method_3_code
def yL_head : MethodName := ⟨RL, "head", "(LBranchmatch;IIIIILBranchmatchLaw$Out;)I"⟩
abbrev cL_copy : ByteArray := method_4_code
def yL_copy : MethodName := ⟨RL, "copy", "(LBranchmatch;IILBranchmatchLaw$Out;)I"⟩
abbrev cL_swap : ByteArray := method_5_code
def yL_swap : MethodName := ⟨RL, "swap", "(LBranchmatch;IILBranchmatchLaw$Out;)I"⟩
abbrev cL_part : ByteArray := method_6_code
def yL_part : MethodName := ⟨RL, "part", "(LBranchmatch;IIILBranchmatchLaw$Out;)I"⟩
abbrev cL_graft : ByteArray := method_7_code
def yL_graft : MethodName := ⟨RL, "graft", "(LBranchmatch;IIILBranchmatchLaw$Out;)I"⟩
abbrev cL_put : ByteArray := method_8_code
def yL_put : MethodName := ⟨RL, "put", "(LBranchmatch;IIILBranchmatchLaw$Out;)I"⟩
abbrev cL_shift : ByteArray := method_9_code
def yL_shift : MethodName := ⟨RL, "shift", "(LBranchmatch;IILBranchmatchLaw$Out;)I"⟩
abbrev cL_plain : ByteArray := method_10_code
def yL_plain : MethodName := ⟨RL, "plain", "(LBranchmatch;ILBranchmatchLaw$Out;)I"⟩
abbrev cL_use : ByteArray := method_11_code
def yL_use : MethodName := ⟨RL, "use", "(LBranchmatch;IIILBranchmatchLaw$Out;)I"⟩
abbrev cL_common : ByteArray := method_12_code
def yL_common : MethodName := ⟨RL, "common", "(LBranchmatch;IIILBranchmatchLaw$Out;)I"⟩
abbrev cL_forget : ByteArray := method_13_code
def yL_forget : MethodName := ⟨RL, "forget", "(LBranchmatch;ILBranchmatchLaw$Out;)I"⟩
abbrev cL_tell : ByteArray := method_14_code
def yL_tell : MethodName := ⟨RL, "tell", "(LBranchmatch;IIILBranchmatchLaw$Out;)I"⟩
abbrev cL_take : ByteArray := method_15_code
def yL_take : MethodName := ⟨RL, "take", "(LBranchmatch;IILBranchmatchLaw$Out;)I"⟩
abbrev cL_behind : ByteArray := method_16_code
def yL_behind : MethodName := ⟨RL, "behind", "(LBranchmatch;IIILBranchmatchLaw$Out;)I"⟩
abbrev cL_alike : ByteArray := method_17_code
def yL_alike : MethodName := ⟨RL, "alike", "(LBranchmatch;IIIILBranchmatchLaw$Out;)I"⟩
abbrev cL_match : ByteArray := method_18_code
def yL_match : MethodName := ⟨RL, "match", "(LBranchmatch;IIILBranchmatchLaw$Out;)I"⟩
abbrev cL_text : ByteArray := method_19_code
def yL_text : MethodName := ⟨RL, "text", "(LBranchmatch;ILBranchmatchLaw$Out;)I"⟩
abbrev cL_size : ByteArray := method_20_code
def yL_size : MethodName := ⟨RL, "size", "(LBranchmatch;ILBranchmatchLaw$Out;)I"⟩
abbrev cL_depth : ByteArray := method_21_code
def yL_depth : MethodName := ⟨RL, "depth", "(LBranchmatch;ILBranchmatchLaw$Out;)I"⟩
abbrev cL_shared : ByteArray := method_22_code
def yL_shared : MethodName := ⟨RL, "shared", "(LBranchmatch;ILBranchmatchLaw$Out;)I"⟩
abbrev cL_letter : ByteArray := method_23_code
def yL_letter : MethodName := ⟨RL, "letter", "(LBranchmatch;IILBranchmatchLaw$Out;)I"⟩
abbrev cL_sizeAt : ByteArray := method_24_code
def yL_sizeAt : MethodName := ⟨RL, "sizeAt", "(LBranchmatch;IILBranchmatchLaw$Out;)I"⟩
abbrev cL_count : ByteArray := method_25_code
def yL_count : MethodName := ⟨RL, "count", "(LBranchmatch;IILBranchmatchLaw$Out;)I"⟩
abbrev cL_names : ByteArray := method_26_code
def yL_names : MethodName := ⟨RL, "names", "(LBranchmatch;ILBranchmatchLaw$Out;)I"⟩
abbrev cL_find : ByteArray := method_27_code
def yL_find : MethodName := ⟨RL, "find", "(LBranchmatch;IILBranchmatchLaw$Out;)I"⟩
abbrev cL_differ : ByteArray := method_28_code
def yL_differ : MethodName := ⟨RL, "differ", "(LBranchmatch;IILBranchmatchLaw$Out;)I"⟩
abbrev cL_is : ByteArray := method_29_code
def yL_is : MethodName := ⟨RL, "is", "(LBranchmatch;IIILBranchmatchLaw$Out;)I"⟩
abbrev cL_can : ByteArray := method_30_code
def yL_can : MethodName := ⟨RL, "can", "(LBranchmatch;IIILBranchmatchLaw$Out;)I"⟩
abbrev cL_steps : ByteArray := method_31_code
def yL_steps : MethodName := ⟨RL, "steps", "(LBranchmatch;IILBranchmatchLaw$Out;)I"⟩
abbrev cL_why : ByteArray := method_32_code
def yL_why : MethodName := ⟨RL, "why", "(LBranchmatch;IILBranchmatchLaw$Out;)I"⟩
abbrev cL_told : ByteArray := method_33_code
def yL_told : MethodName := ⟨RL, "told", "(LBranchmatch;IILBranchmatchLaw$Out;)I"⟩
abbrev cL_moved : ByteArray := method_34_code
def yL_moved : MethodName := ⟨RL, "moved", "(LBranchmatch;ILBranchmatchLaw$Out;)I"⟩
abbrev cL_makes : ByteArray := method_35_code
def yL_makes : MethodName := ⟨RL, "makes", "(LBranchmatch;IIILBranchmatchLaw$Out;)I"⟩
abbrev cL_isSo : ByteArray := method_36_code
def yL_isSo : MethodName := ⟨RL, "isSo", "(LBranchmatch;IILBranchmatchLaw$Out;)I"⟩
abbrev cL_unlike : ByteArray := method_37_code
def yL_unlike : MethodName := ⟨RL, "unlike", "(LBranchmatch;IILBranchmatchLaw$Out;)I"⟩
abbrev cL_weight : ByteArray := method_38_code
def yL_weight : MethodName := ⟨RL, "weight", "(LBranchmatch;IZLBranchmatchLaw$Out;)I"⟩
abbrev cL_house : ByteArray := method_39_code
def yL_house : MethodName := ⟨RL, "house", "(LBranchmatch;ILBranchmatchLaw$Out;)I"⟩
abbrev cL_law : ByteArray := code
def yL_law : MethodName := ⟨RL, "law", "([I)Z"⟩
abbrev vwCl : List vw_C := [(RJ0, TJ0, 4), (RJ4, TJ4, 4), (RX0, TX0, 1), (RX1, TX1, 5), (RX2, TX2, 3), (RX3, TX3, 1), (RX4, TX4, 5), (RX5, TX5, 3), (RX6, TX6, 14), (RX7, TX7, 2), (RX8, TX8, 5), (RX9, TX9, 3), (RX10, TX10, 6)]
end
section
/-! THE CLAIM OUT OF ONE WALK OF THE LAW'S BODY. Your part is whole_start (and what it stands on); all else here is the same for every law, but numbers. -/
def R_law : String := "BranchmatchLaw"
def lw_P (b : Addr) (xs : List Int32) (args : Array Value) (s : State) : Prop := args = #[.ref b] ∧ s.IntsAt b xs ∧ xs.length ≤ 384 ∧ (Jvm.Cond.and given_1 narrow_1).before args s = true
def lw_Q (_ : Array Value) (s : State) (o : Outcome) (t : State) : Prop := o = .returned (some (.int 1)) ∧ Framed s o t [] 600128 7301098
def lw_Z (below : List Frame) (a : Array Value) (s : State) : State → Prop := fun t => ∃ o, t.status = .running ∧ Ended t below o ∧ lw_Q a s o t
/-- the law's own end, with 1 on the stack, nothing written that was there before, its room as the claim has it -/
theorem lw_ret {p : Program} {l : Launch} {e : Env} {s : State} {m : MethodId} {below : List Frame} {meth : Method} {c : Code} {b : Nat} (hx : p.tables.exec = Jvm.exec) (hb : c.code = code) (hr : meth.sig.returnType = ret) (hlocks : meth.locks = false) {pc : Nat} {H : Heap} {ls : Array Slot} (hdg : decode code pc = .ok (.ireturn, 1)) : W p l e room_1 s m #[Value.ref b] below meth c H [] 600128 7301098 (lw_Z below #[Value.ref b] s) (F0 m pc ls [.int 1]) := by
  intro T hT X
  obtain ⟨fs, hret, hrun, hended, hW, hframe⟩ := X.leave (v := some (.int 1)) (hlocks := hlocks) (fun h => by rw [hr] at h; cases h)
  have hmeth' : T.vm.method? m = some meth := X.method'
  refine ⟨T.setFrames fs, ?_, .returned (some (.int 1)), hrun, hended, rfl, ⟨_, rfl⟩, hW, hframe⟩
  jvm_step X.here [X.here.top, hx, hb, hdg, hmeth', hr, ret, narrow_b1]
  (try refine ⟨rfl, ?_⟩); (try refine ⟨rfl, ?_⟩)
  first | (intro acts; rw [hret _ acts rfl rfl rfl]) | rw [hret _ _ rfl rfl rfl]
  exact Steps.refl _
/-- what holds at the law's entry: the machine, the code, the tables' words (any of lw_tbl by 'hts w (by decide +kernel)'), the script of L ints xs at the cell b, what the Statement gives of the start (any of its parts by flat_of_before) -/
def lw_At (p : Program) (s : State) (m : MethodId) (meth : Method) (c : Code) (b L : Nat) (xs : Nat → Int32) : Prop :=
  p.tables.exec = Jvm.exec ∧ c.code = code ∧ meth.sig.returnType = ret ∧ c.maxLocals = 7 ∧ s.vm.findClass R_law = some m.cls ∧ (∀ w ∈ lw_tbl, w.before #[Value.ref b] s = true) ∧ va_X b L xs s s.heap ∧ b < s.heap.size ∧ meth.locks = false ∧ (Jvm.Cond.and given_1 narrow_1).before #[Value.ref b] s = true
end
section
/-! the words of the tables that every method of ours may use: the same list for all -/
def WT : List Cond := lw_tbl.filter goodWord
theorem WT_in : ∀ w ∈ WT, w ∈ lw_tbl := fun w h => (List.mem_filter.mp h).1
theorem WT_good : ∀ w ∈ WT, goodWord w = true := fun w h => (List.mem_filter.mp h).2
theorem WT_of {w : Cond} (h : w ∈ lw_tbl) (g : goodWord w = true) : w ∈ WT := List.mem_filter.mpr ⟨h, g⟩
theorem WT_goodIn (y : MethodName) (bytes : ByteArray) (n : Nat) (ret : Option FieldType) (h : Cond.code y bytes n ret ∈ WT) : GoodIn WT (Cond.code y bytes n ret :: WT) := by
  intro w hw
  rcases List.mem_cons.mp hw with rfl | hw
  · exact ⟨h, good_of_word (WT_good _ h)⟩
  · exact ⟨hw, good_of_word (WT_good _ hw)⟩
end
section
/-! THE PICTURE OF THE HEAP: at an address a kind and a row of values. Kinds below 100 are the classes of vwCl, from 100 on arrays. -/
abbrev AC : Type := Nat × List Value
abbrev AH : Type := Nat → Option AC
def hup (h : AH) (a : Nat) (c : AC) : AH := fun b => if b = a then some c else h b
theorem hup_self (h : AH) (a : Nat) (c : AC) : hup h a c a = some c := by simp [hup]
theorem hup_ne (h : AH) {a b : Nat} (c : AC) (hb : b ≠ a) : hup h a c b = h b := by simp [hup, hb]
/-- the component of an array of a kind -/
def aty (k : Nat) : FieldType := match k with
  | 100 => .int
  | 101 => .boolean
  | 102 => .byte
  | 103 => .object RX5
  | 104 => .object RX0
  | 105 => .array .int
  | _ => .array (.array .int)
def cnm (t : FieldType) : String := match t with
  | .object C => C
  | t => t.toString
def atC (D : va_G) (cA : Nat → ClassId) (a : Nat) (c : AC) (H : Heap) : Prop :=
  (c.1 < 100 → ∃ r : vw_C, vwCl[c.1]? = some r ∧ r.2.2 = c.2.length ∧ t_OB a (D.1 c.1) r.2.2 (D.2 c.1) H (vp_V c.2)) ∧
  (¬ c.1 < 100 → c.1 < 107 ∧ H[a]? = some (arrV (cA c.1) c.2.length (vp_V c.2)))
def Rp (D : va_G) (cA : Nat → ClassId) (B0 : Nat) (h : AH) (H : Heap) : Prop := ∀ (a : Nat) (c : AC), h a = some c → B0 ≤ a ∧ atC D cA a c H
theorem atC.kept {D : va_G} {cA : Nat → ClassId} {a : Nat} {c : AC} {H H1 : Heap} (h : atC D cA a c H) (hq : H1[a]? = H[a]?) : atC D cA a c H1 := by
  refine ⟨fun hc => ?_, fun hc => ?_⟩
  · obtain ⟨r, h1, h2, h3⟩ := h.1 hc
    exact ⟨r, h1, h2, h3.kept hq⟩
  · obtain ⟨h1, h2⟩ := h.2 hc
    exact ⟨h1, hq.trans h2⟩
theorem atC.lt {D : va_G} {cA : Nat → ClassId} {a : Nat} {c : AC} {H : Heap} (h : atC D cA a c H) : a < H.size := by
  by_cases hc : c.1 < 100
  · obtain ⟨r, -, -, cell, h2, -⟩ := h.1 hc
    exact (Array.getElem?_eq_some_iff.mp h2).1
  · exact (Array.getElem?_eq_some_iff.mp (h.2 hc).2).1
theorem Rp.lt {D : va_G} {cA : Nat → ClassId} {B0 : Nat} {h : AH} {H : Heap} (hR : Rp D cA B0 h H) {a : Nat} {c : AC} (ha : h a = some c) : a < H.size := (hR a c ha).2.lt
theorem Rp.put {D : va_G} {cA : Nat → ClassId} {B0 : Nat} {h : AH} {H H1 : Heap} (hR : Rp D cA B0 h H) {a : Nat} {c0 c1 : AC} (ha : h a = some c0) (h1 : atC D cA a c1 H1) (oq : ∀ q : Nat, q ≠ a → H1[q]? = H[q]?) : Rp D cA B0 (hup h a c1) H1 := by
  intro b c hb
  by_cases e : b = a
  · subst e
    rw [hup_self] at hb
    cases hb
    exact ⟨(hR _ _ ha).1, h1⟩
  · rw [hup_ne _ _ e] at hb
    exact ⟨(hR _ _ hb).1, (hR _ _ hb).2.kept (oq b e)⟩
theorem Rp.push {D : va_G} {cA : Nat → ClassId} {B0 : Nat} {h : AH} {H H1 : Heap} (hR : Rp D cA B0 h H) {c1 : AC} (h0 : B0 ≤ H.size) (h1 : atC D cA H.size c1 H1) (oq : ∀ q : Nat, q < H.size → H1[q]? = H[q]?) : Rp D cA B0 (hup h H.size c1) H1 := by
  intro b c hb
  by_cases e : b = H.size
  · subst e
    rw [hup_self] at hb
    cases hb
    exact ⟨h0, h1⟩
  · rw [hup_ne _ _ e] at hb
    exact ⟨(hR _ _ hb).1, (hR _ _ hb).2.kept (oq b (hR.lt hb))⟩
theorem Rp.fresh {D : va_G} {cA : Nat → ClassId} {B0 : Nat} {h : AH} {H : Heap} (hR : Rp D cA B0 h H) : h H.size = none := by
  cases e : h H.size with
  | none => rfl
  | some c => exact absurd (hR.lt e) (Nat.lt_irrefl _)
/-- what the tables say of the classes and of the arrays' classes -/
def KA (cA : Nat → ClassId) (U : State) : Prop := ∀ k : Nat, 100 ≤ k → k < 107 → ∃ (kA : Class) (comp : ClassId), U.vm.classes[cA k]? = some kA ∧ kA.kind = .array comp (aty k) ∧ U.vm.findClass ("[" ++ (aty k).toString) = some (cA k) ∧ ((aty k).isReference = true → U.vm.findClass (cnm (aty k)) = some comp)
def KO (D : va_G) (cA : Nat → ClassId) (U : State) : Prop := va_K D vwCl [] U ∧ KA cA U
theorem KO.moved {D : va_G} {cA : Nat → ClassId} {u U : State} (hvm : u.vm.Alike U.vm) (h : KO D cA u) : KO D cA U := by
  refine ⟨va_K.moved hvm h.1, fun k h1 h2 => ?_⟩
  obtain ⟨kA, comp, a1, a2, a3, a4⟩ := h.2 k h1 h2
  obtain ⟨k', hk', he⟩ := hvm.2.2 _ _ a1
  exact ⟨k', comp, hk', by rw [he]; exact a2, by rw [hvm.findClass]; exact a3, fun hr => by rw [hvm.findClass]; exact a4 hr⟩
theorem KO.arr {D : va_G} {cA : Nat → ClassId} {U : State} (h : KO D cA U) {k : Nat} (h1 : 100 ≤ k) (h2 : k < 107) : ArrOfT U (cA k) (aty k) := by
  obtain ⟨kA, comp, a1, a2, -⟩ := h.2 k h1 h2
  exact fun n z => ⟨(fun k h => by cases h), kA, a1, comp, a2⟩
theorem vwCl_lt {k : Nat} {r : vw_C} (h : vwCl[k]? = some r) : k < 100 := by
  have h1 : k < vwCl.length := (List.getElem?_eq_some_iff.mp h).1
  have h2 : vwCl.length = 13 := rfl
  omega
end
section
/-! ONE STEP OF A WALK, over the picture of the heap -/
def HS (D : va_G) (cA : Nat → ClassId) (B0 : Nat) (s : State) (h : AH) (H : Heap) (locs : List Loc) : Prop := Rp D cA B0 h H ∧ va_S (fun q : Nat => B0 ≤ q) s.heap H locs
def lget (l : List (Nat × Value)) (i : Nat) : Option Value := match l with
  | [] => none
  | q :: r => if q.1 = i then some q.2 else lget r i
theorem lget_mem : ∀ (l : List (Nat × Value)) {i : Nat} {v : Value}, lget l i = some v → (i, v) ∈ l
  | [], i, v, h => by simp [lget] at h
  | q :: r, i, v, h => by
    unfold lget at h
    split at h
    · rename_i e
      cases h
      subst e
      exact List.mem_cons_self
    · exact List.mem_cons_of_mem _ (lget_mem r h)
def lset1 (l : List (Nat × Value)) (i : Nat) (v : Value) : List (Nat × Value) := (i, v) :: l.filter (fun q => !(q.1 == i) && !(q.1 + 1 == i && q.2.category == 2))
def lset2 (l : List (Nat × Value)) (i : Nat) (v : Value) : List (Nat × Value) := (i, v) :: l.filter (fun q => !(q.1 == i) && (!(q.1 == i + 1) && !(q.1 + 1 == i && q.2.category == 2)))
theorem lget_at {ls : Array Slot} {nL : Nat} {l : List (Nat × Value)} {i : Nat} {v : Value} (hl : lv_has ls nL l) (h : lget l i = some v) : ls[i]? = some (.val v) := hl.2.2 (i, v) (lget_mem l h)
section WS
variable {p : Program} {la : Launch} {e : Env} {R : Room} {s : State} {m : MethodId} {args : Array Value} {below : List Frame} {meth : Method} {c : Code} {Q : State → Prop}
variable {D : va_G} {cA : Nat → ClassId} {B0 nL : Nat} {cc : ByteArray} {own : String}
/-- from here the method comes to its end: program counter, locals, stack, heap, cells and slots made so far -/
def WS (p : Program) (la : Launch) (e : Env) (R : Room) (s : State) (m : MethodId) (args : Array Value) (below : List Frame) (meth : Method) (c : Code) (Q : State → Prop) (D : va_G) (cA : Nat → ClassId) (B0 nL : Nat)
    (pc : Nat) (l : List (Nat × Value)) (st : List Value) (h : AH) (k n : Nat) : Prop :=
  ∀ (H : Heap) (locs : List Loc) (ls : Array Slot), HS D cA B0 s h H locs → lv_has ls nL l → W p la e R s m args below meth c H locs k n Q (F0 m pc ls st)
/-- what stays so all through a method -/
def CX (p : Program) (s : State) (m : MethodId) (args : Array Value) (c : Code) (D : va_G) (cA : Nat → ClassId) (B0 nL : Nat) (cc : ByteArray) (own : String) : Prop :=
  p.tables.exec = Jvm.exec ∧ c.code = cc ∧ c.maxLocals = nL ∧ s.vm.findClass own = some m.cls ∧ (∀ w ∈ WT, w.before args s = true) ∧ KO D cA s ∧ B0 ≤ s.heap.size
/-- frame-only instructions -/
def fst1 (nL : Nat) (i : Instr) (l : List (Nat × Value)) (st : List Value) : Option (Nat × List (Nat × Value) × List Value) :=
  match i with
  | .iconst n => some (1, l, .int (Int32.ofInt n) :: st)
  | .bipush n => some (2, l, .int (Int8.ofInt n).toInt32 :: st)
  | .sipush n => some (3, l, .int (Int16.ofInt n).toInt32 :: st)
  | .lconst n => some (1, l, .long (Int64.ofNat (n : Nat)) :: st)
  | .aconst_null => some (1, l, .null :: st)
  | .iload_n j => match lget l j with | some (.int x) => some (1, l, .int x :: st) | _ => none
  | .iload j => match lget l j with | some (.int x) => some (2, l, .int x :: st) | _ => none
  | .lload_n j => match lget l j with | some (.long x) => some (1, l, .long x :: st) | _ => none
  | .lload j => match lget l j with | some (.long x) => some (2, l, .long x :: st) | _ => none
  | .aload_n j => match lget l j with | some (.ref x) => some (1, l, .ref x :: st) | some .null => some (1, l, .null :: st) | _ => none
  | .aload j => match lget l j with | some (.ref x) => some (2, l, .ref x :: st) | some .null => some (2, l, .null :: st) | _ => none
  | .istore_n j => match st with | .int x :: r => if (j : Nat) < nL then some (1, lset1 l j (.int x), r) else none | _ => none
  | .istore j => match st with | .int x :: r => if j < nL then some (2, lset1 l j (.int x), r) else none | _ => none
  | .lstore_n j => match st with | .long x :: r => if (j : Nat) + 1 < nL then some (1, lset2 l j (.long x), r) else none | _ => none
  | .lstore j => match st with | .long x :: r => if j + 1 < nL then some (2, lset2 l j (.long x), r) else none | _ => none
  | .astore_n j => match st with | .ref x :: r => (if (j : Nat) < nL then some (1, lset1 l j (.ref x), r) else none) | .null :: r => (if (j : Nat) < nL then some (1, lset1 l j .null, r) else none) | _ => none
  | .astore j => match st with | .ref x :: r => (if j < nL then some (2, lset1 l j (.ref x), r) else none) | .null :: r => (if j < nL then some (2, lset1 l j .null, r) else none) | _ => none
  | .iinc j d => match lget l j with | some (.int x) => (if j < nL then some (3, lset1 l j (.int (x + Int32.ofInt d)), st) else none) | _ => none
  | .iadd => match st with | .int y :: .int x :: r => some (1, l, .int (x + y) :: r) | _ => none
  | .isub => match st with | .int y :: .int x :: r => some (1, l, .int (x - y) :: r) | _ => none
  | .imul => match st with | .int y :: .int x :: r => some (1, l, .int (x * y) :: r) | _ => none
  | .iand => match st with | .int y :: .int x :: r => some (1, l, .int (x &&& y) :: r) | _ => none
  | .ior => match st with | .int y :: .int x :: r => some (1, l, .int (x ||| y) :: r) | _ => none
  | .ixor => match st with | .int y :: .int x :: r => some (1, l, .int (x ^^^ y) :: r) | _ => none
  | .ineg => match st with | .int x :: r => some (1, l, .int (-x) :: r) | _ => none
  | .ishl => match st with | .int y :: .int x :: r => some (1, l, .int (x <<< (y &&& 31)) :: r) | _ => none
  | .ishr => match st with | .int y :: .int x :: r => some (1, l, .int (x >>> (y &&& 31)) :: r) | _ => none
  | .iushr => match st with | .int y :: .int x :: r => some (1, l, .int (x.toUInt32 >>> (y.toUInt32 &&& Int32.toUInt32 31)).toInt32 :: r) | _ => none
  | .i2l => match st with | .int x :: r => some (1, l, .long x.toInt64 :: r) | _ => none
  | .l2i => match st with | .long x :: r => some (1, l, .int x.toInt32 :: r) | _ => none
  | .i2c => match st with | .int x :: r => some (1, l, .int (x.toUInt32 % 65536).toInt32 :: r) | _ => none
  | .ladd => match st with | .long y :: .long x :: r => some (1, l, .long (x + y) :: r) | _ => none
  | .lmul => match st with | .long y :: .long x :: r => some (1, l, .long (x * y) :: r) | _ => none
  | .land => match st with | .long y :: .long x :: r => some (1, l, .long (x &&& y) :: r) | _ => none
  | .lor => match st with | .long y :: .long x :: r => some (1, l, .long (x ||| y) :: r) | _ => none
  | .lshl => match st with | .int y :: .long x :: r => some (1, l, .long (x <<< (y.toInt64 &&& 63)) :: r) | _ => none
  | .lshr => match st with | .int y :: .long x :: r => some (1, l, .long (x >>> (y.toInt64 &&& 63)) :: r) | _ => none
  | .idiv => match st with | .int y :: .int x :: r => (if y = 0 then none else some (1, l, .int (x / y) :: r)) | _ => none
  | .irem => match st with | .int y :: .int x :: r => (if y = 0 then none else some (1, l, .int (x - x / y * y) :: r)) | _ => none
  | .dup => match st with | v :: r => (if v.category = 1 then some (1, l, v :: v :: r) else none) | _ => none
  | .dup_x1 => match st with | v :: w :: r => (if v.category = 1 ∧ w.category = 1 then some (1, l, v :: w :: v :: r) else none) | _ => none
  | .pop => match st with | v :: r => (if v.category = 1 then some (1, l, r) else none) | _ => none
  | .pop2 => match st with | v :: r => (if v.category = 2 then some (1, l, r) else none) | _ => none
  | _ => none
set_option maxHeartbeats 4000000 in
theorem fst1_ok (X : CX p s m args c D cA B0 nL cc own) {i : Instr} {len pc k n : Nat} {l l' : List (Nat × Value)} {st st' : List Value} {h : AH} (hd : decode cc pc = .ok (i, len)) (hs : fst1 nL i l st = some (len, l', st'))
    (kk : WS p la e R s m args below meth c Q D cA B0 nL (pc + len) l' st' h k n) : WS p la e R s m args below meth c Q D cA B0 nL pc l st h k n := by
  obtain ⟨hx, hb, -⟩ := X
  intro H locs ls hH hl
  cases i
  case iconst =>
    simp only [fst1] at hs
    repeat' split at hs
    all_goals simp only [Option.some.injEq, Prod.mk.injEq, reduceCtorEq] at hs
    all_goals obtain ⟨rfl, rfl, rfl⟩ := hs
    · exact lv_iconst hx hb hd rfl (kk H locs ls hH hl)
  case bipush =>
    simp only [fst1] at hs
    repeat' split at hs
    all_goals simp only [Option.some.injEq, Prod.mk.injEq, reduceCtorEq] at hs
    all_goals obtain ⟨rfl, rfl, rfl⟩ := hs
    · exact lv_bipush hx hb hd rfl (kk H locs ls hH hl)
  case sipush =>
    simp only [fst1] at hs
    repeat' split at hs
    all_goals simp only [Option.some.injEq, Prod.mk.injEq, reduceCtorEq] at hs
    all_goals obtain ⟨rfl, rfl, rfl⟩ := hs
    · exact lv_sipush hx hb hd rfl (kk H locs ls hH hl)
  case lconst =>
    simp only [fst1] at hs
    repeat' split at hs
    all_goals simp only [Option.some.injEq, Prod.mk.injEq, reduceCtorEq] at hs
    all_goals obtain ⟨rfl, rfl, rfl⟩ := hs
    · exact lv_lconst hx hb hd rfl (kk H locs ls hH hl)
  case aconst_null =>
    simp only [fst1] at hs
    repeat' split at hs
    all_goals simp only [Option.some.injEq, Prod.mk.injEq, reduceCtorEq] at hs
    all_goals obtain ⟨rfl, rfl, rfl⟩ := hs
    · exact lv_null hx hb hd (kk H locs ls hH hl)
  case iload =>
    simp only [fst1] at hs
    repeat' split at hs
    all_goals simp only [Option.some.injEq, Prod.mk.injEq, reduceCtorEq] at hs
    all_goals obtain ⟨rfl, rfl, rfl⟩ := hs
    · exact lv_iload hx hb hd (lget_at hl (by assumption)) (kk H locs ls hH hl)
  case iload_n =>
    simp only [fst1] at hs
    repeat' split at hs
    all_goals simp only [Option.some.injEq, Prod.mk.injEq, reduceCtorEq] at hs
    all_goals obtain ⟨rfl, rfl, rfl⟩ := hs
    · exact lv_iload_n hx hb hd rfl (lget_at hl (by assumption)) (kk H locs ls hH hl)
  case lload =>
    simp only [fst1] at hs
    repeat' split at hs
    all_goals simp only [Option.some.injEq, Prod.mk.injEq, reduceCtorEq] at hs
    all_goals obtain ⟨rfl, rfl, rfl⟩ := hs
    · exact lv_lload hx hb hd (lget_at hl (by assumption)) (kk H locs ls hH hl)
  case lload_n =>
    simp only [fst1] at hs
    repeat' split at hs
    all_goals simp only [Option.some.injEq, Prod.mk.injEq, reduceCtorEq] at hs
    all_goals obtain ⟨rfl, rfl, rfl⟩ := hs
    · exact lv_lload_n hx hb hd rfl (lget_at hl (by assumption)) (kk H locs ls hH hl)
  case aload =>
    simp only [fst1] at hs
    repeat' split at hs
    all_goals simp only [Option.some.injEq, Prod.mk.injEq, reduceCtorEq] at hs
    all_goals obtain ⟨rfl, rfl, rfl⟩ := hs
    · exact lv_aload hx hb hd (lget_at hl (by assumption)) (kk H locs ls hH hl)
    · exact lv_aloadN hx hb hd (lget_at hl (by assumption)) (kk H locs ls hH hl)
  case aload_n =>
    simp only [fst1] at hs
    repeat' split at hs
    all_goals simp only [Option.some.injEq, Prod.mk.injEq, reduceCtorEq] at hs
    all_goals obtain ⟨rfl, rfl, rfl⟩ := hs
    · exact lv_aload_n hx hb hd rfl (lget_at hl (by assumption)) (kk H locs ls hH hl)
    · exact lv_aload_nN hx hb hd rfl (lget_at hl (by assumption)) (kk H locs ls hH hl)
  case istore =>
    simp only [fst1] at hs
    repeat' split at hs
    all_goals simp only [Option.some.injEq, Prod.mk.injEq, reduceCtorEq] at hs
    all_goals obtain ⟨rfl, rfl, rfl⟩ := hs
    · exact lv_istore hx hb hd hl (by assumption) rfl (fun ls' hl' => kk H locs ls' hH hl')
  case istore_n =>
    simp only [fst1] at hs
    repeat' split at hs
    all_goals simp only [Option.some.injEq, Prod.mk.injEq, reduceCtorEq] at hs
    all_goals obtain ⟨rfl, rfl, rfl⟩ := hs
    · exact lv_istore_n hx hb hd rfl hl (by assumption) rfl (fun ls' hl' => kk H locs ls' hH hl')
  case lstore =>
    simp only [fst1] at hs
    repeat' split at hs
    all_goals simp only [Option.some.injEq, Prod.mk.injEq, reduceCtorEq] at hs
    all_goals obtain ⟨rfl, rfl, rfl⟩ := hs
    · exact lv_lstore hx hb hd hl (by assumption) rfl (fun ls' hl' => kk H locs ls' hH hl')
  case lstore_n =>
    simp only [fst1] at hs
    repeat' split at hs
    all_goals simp only [Option.some.injEq, Prod.mk.injEq, reduceCtorEq] at hs
    all_goals obtain ⟨rfl, rfl, rfl⟩ := hs
    · exact lv_lstore_n hx hb hd rfl hl (by assumption) rfl (fun ls' hl' => kk H locs ls' hH hl')
  case astore =>
    simp only [fst1] at hs
    repeat' split at hs
    all_goals simp only [Option.some.injEq, Prod.mk.injEq, reduceCtorEq] at hs
    all_goals obtain ⟨rfl, rfl, rfl⟩ := hs
    · exact lv_astore hx hb hd hl (by assumption) rfl (fun ls' hl' => kk H locs ls' hH hl')
    · exact lv_astoreN hx hb hd hl (by assumption) rfl (fun ls' hl' => kk H locs ls' hH hl')
  case astore_n =>
    simp only [fst1] at hs
    repeat' split at hs
    all_goals simp only [Option.some.injEq, Prod.mk.injEq, reduceCtorEq] at hs
    all_goals obtain ⟨rfl, rfl, rfl⟩ := hs
    · exact lv_astore_n hx hb hd rfl hl (by assumption) rfl (fun ls' hl' => kk H locs ls' hH hl')
    · exact lv_astore_nN hx hb hd rfl hl (by assumption) rfl (fun ls' hl' => kk H locs ls' hH hl')
  case iinc =>
    simp only [fst1] at hs
    repeat' split at hs
    all_goals simp only [Option.some.injEq, Prod.mk.injEq, reduceCtorEq] at hs
    all_goals obtain ⟨rfl, rfl, rfl⟩ := hs
    · rename_i hg hn
      obtain ⟨kx, hkx⟩ := List.getElem?_of_mem (lget_mem l hg)
      exact lv_iinc hx hb hd hl hkx rfl hn rfl (fun ls' hl' => kk H locs ls' hH hl')
  case iadd =>
    simp only [fst1] at hs
    repeat' split at hs
    all_goals simp only [Option.some.injEq, Prod.mk.injEq, reduceCtorEq] at hs
    all_goals obtain ⟨rfl, rfl, rfl⟩ := hs
    · exact lv_iadd hx hb hd (kk H locs ls hH hl)
  case isub =>
    simp only [fst1] at hs
    repeat' split at hs
    all_goals simp only [Option.some.injEq, Prod.mk.injEq, reduceCtorEq] at hs
    all_goals obtain ⟨rfl, rfl, rfl⟩ := hs
    · exact lv_isub hx hb hd (kk H locs ls hH hl)
  case imul =>
    simp only [fst1] at hs
    repeat' split at hs
    all_goals simp only [Option.some.injEq, Prod.mk.injEq, reduceCtorEq] at hs
    all_goals obtain ⟨rfl, rfl, rfl⟩ := hs
    · exact lv_imul hx hb hd (kk H locs ls hH hl)
  case iand =>
    simp only [fst1] at hs
    repeat' split at hs
    all_goals simp only [Option.some.injEq, Prod.mk.injEq, reduceCtorEq] at hs
    all_goals obtain ⟨rfl, rfl, rfl⟩ := hs
    · exact lv_iand hx hb hd (kk H locs ls hH hl)
  case ior =>
    simp only [fst1] at hs
    repeat' split at hs
    all_goals simp only [Option.some.injEq, Prod.mk.injEq, reduceCtorEq] at hs
    all_goals obtain ⟨rfl, rfl, rfl⟩ := hs
    · exact lv_ior hx hb hd (kk H locs ls hH hl)
  case ixor =>
    simp only [fst1] at hs
    repeat' split at hs
    all_goals simp only [Option.some.injEq, Prod.mk.injEq, reduceCtorEq] at hs
    all_goals obtain ⟨rfl, rfl, rfl⟩ := hs
    · exact lv_ixor hx hb hd (kk H locs ls hH hl)
  case ineg =>
    simp only [fst1] at hs
    repeat' split at hs
    all_goals simp only [Option.some.injEq, Prod.mk.injEq, reduceCtorEq] at hs
    all_goals obtain ⟨rfl, rfl, rfl⟩ := hs
    · exact lv_ineg hx hb hd (kk H locs ls hH hl)
  case ishl =>
    simp only [fst1] at hs
    repeat' split at hs
    all_goals simp only [Option.some.injEq, Prod.mk.injEq, reduceCtorEq] at hs
    all_goals obtain ⟨rfl, rfl, rfl⟩ := hs
    · exact lv_ishl hx hb hd (kk H locs ls hH hl)
  case ishr =>
    simp only [fst1] at hs
    repeat' split at hs
    all_goals simp only [Option.some.injEq, Prod.mk.injEq, reduceCtorEq] at hs
    all_goals obtain ⟨rfl, rfl, rfl⟩ := hs
    · exact lv_ishr hx hb hd (kk H locs ls hH hl)
  case ladd =>
    simp only [fst1] at hs
    repeat' split at hs
    all_goals simp only [Option.some.injEq, Prod.mk.injEq, reduceCtorEq] at hs
    all_goals obtain ⟨rfl, rfl, rfl⟩ := hs
    · exact lv_ladd hx hb hd (kk H locs ls hH hl)
  case lmul =>
    simp only [fst1] at hs
    repeat' split at hs
    all_goals simp only [Option.some.injEq, Prod.mk.injEq, reduceCtorEq] at hs
    all_goals obtain ⟨rfl, rfl, rfl⟩ := hs
    · exact lv_lmul hx hb hd (kk H locs ls hH hl)
  case land =>
    simp only [fst1] at hs
    repeat' split at hs
    all_goals simp only [Option.some.injEq, Prod.mk.injEq, reduceCtorEq] at hs
    all_goals obtain ⟨rfl, rfl, rfl⟩ := hs
    · exact lv_land hx hb hd (kk H locs ls hH hl)
  case lor =>
    simp only [fst1] at hs
    repeat' split at hs
    all_goals simp only [Option.some.injEq, Prod.mk.injEq, reduceCtorEq] at hs
    all_goals obtain ⟨rfl, rfl, rfl⟩ := hs
    · exact lv_lor hx hb hd (kk H locs ls hH hl)
  case iushr =>
    simp only [fst1] at hs
    repeat' split at hs
    all_goals simp only [Option.some.injEq, Prod.mk.injEq, reduceCtorEq] at hs
    all_goals obtain ⟨rfl, rfl, rfl⟩ := hs
    · exact lv_iushr hx hb hd rfl (kk H locs ls hH hl)
  case i2l =>
    simp only [fst1] at hs
    repeat' split at hs
    all_goals simp only [Option.some.injEq, Prod.mk.injEq, reduceCtorEq] at hs
    all_goals obtain ⟨rfl, rfl, rfl⟩ := hs
    · exact lv_i2l hx hb hd rfl (kk H locs ls hH hl)
  case l2i =>
    simp only [fst1] at hs
    repeat' split at hs
    all_goals simp only [Option.some.injEq, Prod.mk.injEq, reduceCtorEq] at hs
    all_goals obtain ⟨rfl, rfl, rfl⟩ := hs
    · exact lv_l2i hx hb hd rfl (kk H locs ls hH hl)
  case i2c =>
    simp only [fst1] at hs
    repeat' split at hs
    all_goals simp only [Option.some.injEq, Prod.mk.injEq, reduceCtorEq] at hs
    all_goals obtain ⟨rfl, rfl, rfl⟩ := hs
    · exact lv_i2c hx hb hd rfl (kk H locs ls hH hl)
  case lshl =>
    simp only [fst1] at hs
    repeat' split at hs
    all_goals simp only [Option.some.injEq, Prod.mk.injEq, reduceCtorEq] at hs
    all_goals obtain ⟨rfl, rfl, rfl⟩ := hs
    · exact lv_lshl hx hb hd rfl (kk H locs ls hH hl)
  case lshr =>
    simp only [fst1] at hs
    repeat' split at hs
    all_goals simp only [Option.some.injEq, Prod.mk.injEq, reduceCtorEq] at hs
    all_goals obtain ⟨rfl, rfl, rfl⟩ := hs
    · exact lv_lshr hx hb hd rfl (kk H locs ls hH hl)
  case idiv =>
    simp only [fst1] at hs
    repeat' split at hs
    all_goals simp only [Option.some.injEq, Prod.mk.injEq, reduceCtorEq] at hs
    all_goals obtain ⟨rfl, rfl, rfl⟩ := hs
    · exact lv_idiv hx hb hd (by assumption) (kk H locs ls hH hl)
  case irem =>
    simp only [fst1] at hs
    repeat' split at hs
    all_goals simp only [Option.some.injEq, Prod.mk.injEq, reduceCtorEq] at hs
    all_goals obtain ⟨rfl, rfl, rfl⟩ := hs
    · exact lv_irem hx hb hd (by assumption) (kk H locs ls hH hl)
  case dup =>
    simp only [fst1] at hs
    repeat' split at hs
    all_goals simp only [Option.some.injEq, Prod.mk.injEq, reduceCtorEq] at hs
    all_goals obtain ⟨rfl, rfl, rfl⟩ := hs
    · exact lv_dup hx hb hd (by assumption) (kk H locs ls hH hl)
  case pop =>
    simp only [fst1] at hs
    repeat' split at hs
    all_goals simp only [Option.some.injEq, Prod.mk.injEq, reduceCtorEq] at hs
    all_goals obtain ⟨rfl, rfl, rfl⟩ := hs
    · exact lv_pop hx hb hd (by assumption) (kk H locs ls hH hl)
  case pop2 =>
    simp only [fst1] at hs
    repeat' split at hs
    all_goals simp only [Option.some.injEq, Prod.mk.injEq, reduceCtorEq] at hs
    all_goals obtain ⟨rfl, rfl, rfl⟩ := hs
    · exact lv_pop2_2 hx hb hd (by assumption) (kk H locs ls hH hl)
  case dup_x1 =>
    simp only [fst1] at hs
    repeat' split at hs
    all_goals simp only [Option.some.injEq, Prod.mk.injEq, reduceCtorEq] at hs
    all_goals obtain ⟨rfl, rfl, rfl⟩ := hs
    · rename_i hg
      exact lv_dup_x1 hx hb hd hg.1 hg.2 (kk H locs ls hH hl)
  all_goals simp only [fst1, reduceCtorEq] at hs
end WS
end
section
/-! THE SINGLE STEPS: branches, fields, arrays, making -/
/-- a field by its pool number: its class's place in vwCl, its own place -/
def FL (own : String) (idx ci kf : Nat) : Prop := ∃ (C : String) (T : u_T) (N : Nat) (ty : Nat → FieldType), vwCl[ci]? = some (C, T, N) ∧ (∀ w ∈ u_ws C T N, w ∈ WT) ∧ kf < N ∧ Cond.fieldLink own idx C (T kf).2.1 (T kf).2.2.1 ∈ WT ∧ (T kf).1 = C ∧
  (∀ k, k < N → parseFieldDescriptor (T k).2.2.1 = some (ty k)) ∧ (∀ a, a < N → ∀ b, b < N → a ≠ b → (T a).2.1 ≠ (T b).2.1)
/-- the type of a field, and whether it is final -/
def FT (ci kf : Nat) (ty : FieldType) (fin : Bool) : Prop := ∃ (C : String) (T : u_T) (N : Nat), vwCl[ci]? = some (C, T, N) ∧ parseFieldDescriptor (T kf).2.2.1 = some ty ∧ (T kf).2.2.2 = fin
/-- a branch: when, by how much, what stays on the stack -/
def cbr (i : Instr) (st : List Value) : Option (Prop × Int × List Value) := match i with
  | .goto off => some (True, off, st)
  | .ifCond .eq off => match st with | .int x :: r => some (x = 0, off, r) | _ => none
  | .ifCond .ne off => match st with | .int x :: r => some (¬ x = 0, off, r) | _ => none
  | .ifCond .lt off => match st with | .int x :: r => some (x < 0, off, r) | _ => none
  | .ifCond .ge off => match st with | .int x :: r => some (0 ≤ x, off, r) | _ => none
  | .ifCond .gt off => match st with | .int x :: r => some (0 < x, off, r) | _ => none
  | .ifCond .le off => match st with | .int x :: r => some (x ≤ 0, off, r) | _ => none
  | .if_icmp .eq off => match st with | .int y :: .int x :: r => some (x = y, off, r) | _ => none
  | .if_icmp .ne off => match st with | .int y :: .int x :: r => some (¬ x = y, off, r) | _ => none
  | .if_icmp .lt off => match st with | .int y :: .int x :: r => some (x < y, off, r) | _ => none
  | .if_icmp .ge off => match st with | .int y :: .int x :: r => some (y ≤ x, off, r) | _ => none
  | .if_icmp .gt off => match st with | .int y :: .int x :: r => some (y < x, off, r) | _ => none
  | .if_icmp .le off => match st with | .int y :: .int x :: r => some (x ≤ y, off, r) | _ => none
  | .if_acmp .eq off => match st with | .ref y :: .ref x :: r => some (x = y, off, r) | _ => none
  | .if_acmp .ne off => match st with | .ref y :: .ref x :: r => some (¬ x = y, off, r) | _ => none
  | .ifnull off => match st with | .ref _ :: r => some (False, off, r) | .null :: r => some (True, off, r) | _ => none
  | .ifnonnull off => match st with | .ref _ :: r => some (True, off, r) | .null :: r => some (False, off, r) | _ => none
  | _ => none
section OPS
variable {p : Program} {la : Launch} {e : Env} {R : Room} {s : State} {m : MethodId} {args : Array Value} {below : List Frame} {meth : Method} {c : Code} {Q : State → Prop}
variable {D : va_G} {cA : Nat → ClassId} {B0 nL : Nat} {cc : ByteArray} {own : String} {pc k n : Nat} {l : List (Nat × Value)} {r : List Value} {h : AH}
set_option maxHeartbeats 4000000 in
theorem br_ok (X : CX p s m args c D cA B0 nL cc own) {i : Instr} {st : List Value} {P : Prop} {off : Int} {tgt : Nat} (hd : decode cc pc = .ok (i, 3)) (hs : cbr i st = some (P, off, r)) (ht : (pc : Int) + off = (tgt : Int))
    (kt : P → WS p la e R s m args below meth c Q D cA B0 nL tgt l r h k n) (kf : ¬ P → WS p la e R s m args below meth c Q D cA B0 nL (pc + 3) l r h k n) : WS p la e R s m args below meth c Q D cA B0 nL pc l st h k n := by
  obtain ⟨hx, hb, -⟩ := X
  intro H locs ls hH hl
  cases i
  case goto =>
    simp only [cbr, Option.some.injEq, Prod.mk.injEq] at hs
    obtain ⟨rfl, rfl, rfl⟩ := hs
    exact lv_goto hx hb hd ht (kt trivial H locs ls hH hl)
  case ifCond cnd o =>
    cases cnd <;> simp only [cbr] at hs <;> split at hs <;> simp only [Option.some.injEq, Prod.mk.injEq, reduceCtorEq] at hs <;> obtain ⟨rfl, rfl, rfl⟩ := hs
    · exact lv_if_eq hx hb hd ht (fun q => kt q H locs ls hH hl) (fun q => kf q H locs ls hH hl)
    · exact lv_if_ne hx hb hd ht (fun q => kt q H locs ls hH hl) (fun q => kf (fun z => z q) H locs ls hH hl)
    · exact lv_if_lt hx hb hd ht (fun q => kt q H locs ls hH hl) (fun q => kf q H locs ls hH hl)
    · exact lv_if_ge hx hb hd ht (fun q => kt q H locs ls hH hl) (fun q => kf q H locs ls hH hl)
    · exact lv_if_gt hx hb hd ht (fun q => kt q H locs ls hH hl) (fun q => kf q H locs ls hH hl)
    · exact lv_if_le hx hb hd ht (fun q => kt q H locs ls hH hl) (fun q => kf q H locs ls hH hl)
  case if_icmp cnd o =>
    cases cnd <;> simp only [cbr] at hs <;> split at hs <;> simp only [Option.some.injEq, Prod.mk.injEq, reduceCtorEq] at hs <;> obtain ⟨rfl, rfl, rfl⟩ := hs
    · exact lv_icmp_eq hx hb hd ht (fun q => kt q H locs ls hH hl) (fun q => kf q H locs ls hH hl)
    · exact lv_icmp_ne hx hb hd ht (fun q => kt q H locs ls hH hl) (fun q => kf (fun z => z q) H locs ls hH hl)
    · exact lv_icmp_lt hx hb hd ht (fun q => kt q H locs ls hH hl) (fun q => kf q H locs ls hH hl)
    · exact lv_icmp_ge hx hb hd ht (fun q => kt q H locs ls hH hl) (fun q => kf q H locs ls hH hl)
    · exact lv_icmp_gt hx hb hd ht (fun q => kt q H locs ls hH hl) (fun q => kf q H locs ls hH hl)
    · exact lv_icmp_le hx hb hd ht (fun q => kt q H locs ls hH hl) (fun q => kf q H locs ls hH hl)
  case if_acmp cnd o =>
    cases cnd <;> simp only [cbr] at hs <;> split at hs <;> simp only [Option.some.injEq, Prod.mk.injEq, reduceCtorEq] at hs <;> obtain ⟨rfl, rfl, rfl⟩ := hs
    · rename_i y x _
      exact lv_acmp_eq (rx := some x) (ry := some y) hx hb hd ht (fun q => kt (Option.some.inj q) H locs ls hH hl) (fun q => kf (fun z => q (congrArg some z)) H locs ls hH hl)
    · rename_i y x _
      exact lv_acmp_ne (rx := some x) (ry := some y) hx hb hd ht (fun q => kt (fun z => q (congrArg some z)) H locs ls hH hl) (fun q => kf (fun z => z (Option.some.inj q)) H locs ls hH hl)
  case ifnull =>
    simp only [cbr] at hs
    split at hs <;> simp only [Option.some.injEq, Prod.mk.injEq, reduceCtorEq] at hs <;> obtain ⟨rfl, rfl, rfl⟩ := hs
    · exact lv_ifnull hx hb hd (kf (fun z => z) H locs ls hH hl)
    · exact lv_ifnullN hx hb hd ht (kt trivial H locs ls hH hl)
  case ifnonnull =>
    simp only [cbr] at hs
    split at hs <;> simp only [Option.some.injEq, Prod.mk.injEq, reduceCtorEq] at hs <;> obtain ⟨rfl, rfl, rfl⟩ := hs
    · exact lv_ifnonnull hx hb hd ht (kt trivial H locs ls hH hl)
    · exact lv_ifnonnullN hx hb hd (kf (fun z => z) H locs ls hH hl)
  all_goals simp only [cbr, reduceCtorEq] at hs
theorem getf_ok (X : CX p s m args c D cA B0 nL cc own) {idx ci kf a : Nat} {fs : List Value} {v : Value} (hF : FL own idx ci kf) (hd : decode cc pc = .ok (.getfield idx, 3)) (ha : h a = some (ci, fs)) (hv : fs[kf]? = some v)
    (kk : WS p la e R s m args below meth c Q D cA B0 nL (pc + 3) l (v :: r) h k n) : WS p la e R s m args below meth c Q D cA B0 nL pc l (.ref a :: r) h k n := by
  obtain ⟨hx, hb, hml, hown, hts, hK, hB⟩ := X
  obtain ⟨C, T, N, ty, hc, hin, hk, hl, hC, hty, hnm⟩ := hF
  intro H locs ls hH hls
  obtain ⟨r0, h1, h2, cell, q1, q2, q3, q4⟩ := (hH.1 a _ ha).2.1 (vwCl_lt hc)
  have hr : r0 = (C, T, N) := Option.some.inj (h1.symm.trans hc)
  subst hr
  obtain ⟨hS, hfc, kC, hkC, hkind⟩ := hK.1.1 ci _ hc
  obtain ⟨cf, kf0, fi, f, hi, hsl⟩ := hS kf hk
  refine W.getf hx hb hown (hts _ hl) (by rw [← hC]; exact hi) (u_facts hfc hkC (u_lays hts hin hk) hi).1 q1 (by rw [q3]; exact fun h => by cases h) (v := v) ?_ rfl rfl hd (kk H locs ls hH hls)
  rw [hsl, q4 kf hk]
  simp [vp_V, hv]
theorem putf_ok (X : CX p s m args c D cA B0 nL cc own) {idx ci kf a : Nat} {fs : List Value} {v : Value} {ty : FieldType} {fin : Bool} (hF : FL own idx ci kf) (hT : FT ci kf ty fin) (hfin : fin = false ∨ (meth.name = "<init>" ∧ ∃ C T N, vwCl[ci]? = some (C, T, N) ∧ own = C))
    (hn : narrow ty v = v) (hfit : fits ty v = true) (hd : decode cc pc = .ok (.putfield idx, 3)) (ha : h a = some (ci, fs)) (hl0 : kf < fs.length)
    (kk : WS p la e R s m args below meth c Q D cA B0 nL (pc + 3) l r (hup h a (ci, fs.set kf v)) k n) : WS p la e R s m args below meth c Q D cA B0 nL pc l (v :: .ref a :: r) h k n := by
  obtain ⟨hx, hb, hml, hown, hts, hK, hB⟩ := X
  obtain ⟨C, T, N, ty0, hc, hin, hk, hl, hC, hty, hnm⟩ := hF
  obtain ⟨C', T', N', hc', hdt, hfn⟩ := hT
  cases hc.symm.trans hc'
  intro H locs ls hH hls
  obtain ⟨r0, h1, h2, cell, q1, q2, q3, q4⟩ := (hH.1 a _ ha).2.1 (vwCl_lt hc)
  have hr : r0 = (C, T, N) := Option.some.inj (h1.symm.trans hc)
  subst hr
  have hap := va_apart (own := own) hts hin ty0 hty hnm hK.1 hc
  obtain ⟨hS, hfc, kC, hkC, hkind⟩ := hK.1.1 ci _ hc
  obtain ⟨cf, kf0, fi, f, hi, hsl⟩ := hS kf hk
  have hlay := hts _ (hin _ (u_in_lay hk))
  have hst := (u_facts hfc hkC (u_lays hts hin hk) hi).1
  have fin' : ∀ (H1 : Heap), H1[a]? = some (cell.setSlot f.slot v) → H1.size = H.size → (∀ q, q ≠ a → H1[q]? = H[q]?) → W p la e R s m args below meth c H1 (locs ++ [⟨a, f.slot⟩]) k n Q (F0 m (pc + 3) ls r) := by
    intro H1 e1 e2 e3
    rw [hsl] at e1 ⊢
    refine kk H1 _ ls ⟨hH.1.put ha ⟨fun _ => ⟨_, hc, by simpa using h2, t_OB.to (V := updV (vp_V fs) kf v) ⟨_, e1, q2, q3, t_set q4 hap hk v⟩ (fun j _ => vp_updV_set hl0 v j)⟩, fun z => absurd (vwCl_lt hc) z⟩ e3, hH.2.put e2 e3 (hH.1 a _ ha).1⟩ hls
  unfold u_lay at hlay
  cases fin with
  | false =>
    rw [if_neg (by rw [hfn]; decide)] at hlay
    have h6 := u_store hfc hkC hkind hlay hi hdt hn hfit
    exact W.putK hx hb (f := f) ⟨hown, hts _ hl, ⟨_, _, _, by rw [← hC]; exact hi⟩, hst⟩ (by rw [q2]; exact h6) q1 q3 (by rw [hsl]; exact k2_hasslot (q4 kf hk)) rfl rfl hd fin'
  | true =>
    obtain ⟨hin2, C9, T9, N9, hc9, hown9⟩ := hfin.resolve_left (by decide)
    cases hc.symm.trans hc9
    rw [if_pos hfn] at hlay
    have hcf : m.cls = cf := by
      obtain ⟨_, _, c', _, _, _, -, -, hf', -, -, -, hown2, -⟩ := Cond.laysFinal_spec hlay
      have e1 : c' = cf := by have := hi.symm.trans hf'; simp at this; exact this.1.symm
      rw [hC, ← hown9] at hown2
      rw [← e1]; exact Option.some.inj (hown.symm.trans hown2)
    have h6 := u_fits hfc hkC hkind (Or.inr hlay) hi hdt hn hfit
    exact W.putFinK hx hb hown (hts _ hl) (by rw [← hC]; exact hi) hst hcf hin2 (by rw [q2]; exact h6) q1 q3 (by rw [hsl]; exact k2_hasslot (q4 kf hk)) rfl rfl hd fin'
end OPS
end
section
/-! THE SINGLE STEPS: fields of nest mates, arrays, making -/
def isNest : Cond → Bool
  | .methodLinkNest _ _ _ _ => true
  | .fieldLinkNest _ _ _ _ _ _ => true
  | _ => false
/-- a field of a nest mate by its pool number -/
def FLN (own : String) (idx ci kf : Nat) : Prop := ∃ (C : String) (T : u_T) (N : Nat) (host : String), vwCl[ci]? = some (C, T, N) ∧ (∀ w ∈ u_ws C T N, w ∈ WT) ∧ kf < N ∧ Cond.fieldLinkNest own idx C (T kf).2.1 (T kf).2.2.1 host ∈ lw_tbl ∧ (T kf).1 = C
/-- an array of the right component, indices in it -/
def inA (i : Int32) (vs : List Value) (v : Value) : Prop := ¬ i < 0 ∧ vs[i.toNatClampNeg]? = some v
def isLd (i : Instr) (kd : Nat) : Prop := (i = .iaload ∧ kd = 100) ∨ (i = .baload ∧ kd = 101) ∨ (i = .aaload ∧ 103 ≤ kd)
theorem vp_V_get {vs : List Value} {j : Nat} {v : Value} (h : vs[j]? = some v) : vp_V vs j = v := by simp [vp_V, h]
theorem aty103 : aty 103 = .object RX5 := rfl
theorem aty104 : aty 104 = .object RX0 := rfl
theorem aty105 : aty 105 = .array .int := rfl
theorem aty106 : aty 106 = .array (.array .int) := rfl
section ARR
variable {p : Program} {la : Launch} {e : Env} {R : Room} {s : State} {m : MethodId} {args : Array Value} {below : List Frame} {meth : Method} {c : Code} {Q : State → Prop}
variable {D : va_G} {cA : Nat → ClassId} {B0 nL : Nat} {cc : ByteArray} {own : String} {pc k n : Nat} {l : List (Nat × Value)} {r : List Value} {h : AH}
theorem ald_ok (X : CX p s m args c D cA B0 nL cc own) {i : Instr} {kd a : Nat} {vs : List Value} {j : Int32} {v : Value} (hi : isLd i kd) (hd : decode cc pc = .ok (i, 1)) (ha : h a = some (kd, vs)) (hj : inA j vs v)
    (kk : WS p la e R s m args below meth c Q D cA B0 nL (pc + 1) l (v :: r) h k n) : WS p la e R s m args below meth c Q D cA B0 nL pc l (.int j :: .ref a :: r) h k n := by
  obtain ⟨hx, hb, hml, hown, hts, hK, hB⟩ := X
  intro H locs ls hH hls
  have hnl : ¬ kd < 100 := by rcases hi with ⟨-, q⟩ | ⟨-, q⟩ | ⟨-, q⟩ <;> omega
  obtain ⟨hk7, hc⟩ := (hH.1 a _ ha).2.2 hnl
  have hlt : j.toNatClampNeg < vs.length := (List.getElem?_eq_some_iff.mp hj.2).1
  have hin : ¬ (j < 0 ∨ (arrV (cA kd) vs.length (vp_V vs)).slots.size ≤ j.toNatClampNeg) := by
    rw [arrV_size]; rintro (q | q)
    · exact hj.1 q
    · omega
  have hv : (arrV (cA kd) vs.length (vp_V vs)).slots[j.toNatClampNeg]? = some v := by rw [arrV_read _ _ hlt, vp_V_get hj.2]
  have hA := hK.arr (k := kd) (by omega) hk7 vs.length (vp_V vs)
  rcases hi with ⟨rfl, rfl⟩ | ⟨rfl, rfl⟩ | ⟨rfl, h3⟩
  · exact W.iald hx hb hc hA (fun q => by cases q) hin hv rfl rfl hd (kk H locs ls hH hls)
  · exact W.zald hx hb hc hA (fun q => by cases q) hin hv rfl rfl hd (kk H locs ls hH hls)
  · refine W.aald hx hb hc hA ?_ (fun q => by cases q) hin hv rfl rfl hd (kk H locs ls hH hls)
    have h4 : kd = 103 ∨ kd = 104 ∨ kd = 105 ∨ kd = 106 := by omega
    rcases h4 with rfl | rfl | rfl | rfl <;> rfl
theorem alen_ok (X : CX p s m args c D cA B0 nL cc own) {kd a : Nat} {vs : List Value} (hkd : 100 ≤ kd) (hd : decode cc pc = .ok (.arraylength, 1)) (ha : h a = some (kd, vs))
    (kk : WS p la e R s m args below meth c Q D cA B0 nL (pc + 1) l (.int (nI vs.length) :: r) h k n) : WS p la e R s m args below meth c Q D cA B0 nL pc l (.ref a :: r) h k n := by
  obtain ⟨hx, hb, hml, hown, hts, hK, hB⟩ := X
  intro H locs ls hH hls
  obtain ⟨hk7, hc⟩ := (hH.1 a _ ha).2.2 (by show ¬ kd < 100; omega)
  exact W.alen hx hb hc (hK.arr (k := kd) (by omega) hk7 vs.length (vp_V vs)) (by rw [arrV_size]; rfl) rfl rfl hd (kk H locs ls hH hls)
theorem setV {vs : List Value} {j : Nat} (hj : j < vs.length) (x : Value) (cI : ClassId) : arrV cI vs.length (updV (vp_V vs) j x) = arrV cI (vs.set j x).length (vp_V (vs.set j x)) := by
  rw [List.length_set]
  congr 1
  funext q
  exact vp_updV_set hj x q
/-- a store: int arrays, boolean arrays (0 or 1), arrays of references (null, or a thing of the component's class) -/
def isSt (i : Instr) (kd : Nat) (v : Value) (h : AH) : Prop := (i = .iastore ∧ kd = 100 ∧ ∃ x, v = .int x) ∨ (i = .bastore ∧ kd = 101 ∧ (v = .int 0 ∨ v = .int 1)) ∨
  (i = .aastore ∧ kd = 103 ∧ ∃ q fs, v = .ref q ∧ h q = some (7, fs)) ∨ (i = .aastore ∧ kd = 104 ∧ ∃ q fs, v = .ref q ∧ h q = some (2, fs)) ∨
  (i = .aastore ∧ kd = 105 ∧ ∃ q fs, v = .ref q ∧ h q = some (100, fs)) ∨ (i = .aastore ∧ kd = 106 ∧ ∃ q fs, v = .ref q ∧ h q = some (105, fs))
set_option maxHeartbeats 2000000 in
theorem ast_ok (X : CX p s m args c D cA B0 nL cc own) {i : Instr} {kd a : Nat} {vs : List Value} {j : Int32} {v : Value} (hi : isSt i kd v h) (hd : decode cc pc = .ok (i, 1)) (ha : h a = some (kd, vs)) (hj : ¬ j < 0 ∧ j.toNatClampNeg < vs.length)
    (kk : WS p la e R s m args below meth c Q D cA B0 nL (pc + 1) l r (hup h a (kd, vs.set j.toNatClampNeg v)) k n) : WS p la e R s m args below meth c Q D cA B0 nL pc l (v :: .int j :: .ref a :: r) h k n := by
  obtain ⟨hx, hb, hml, hown, hts, hK, hB⟩ := X
  intro H locs ls hH hls
  have hnl : ¬ kd < 100 := by rcases hi with ⟨-, q, -⟩ | ⟨-, q, -⟩ | ⟨-, q, -⟩ | ⟨-, q, -⟩ | ⟨-, q, -⟩ | ⟨-, q, -⟩ <;> omega
  obtain ⟨hk7, hc⟩ := (hH.1 a _ ha).2.2 hnl
  have hlt : j.toNatClampNeg < vs.length := hj.2
  have hin : ¬ (j < 0 ∨ (arrV (cA kd) vs.length (vp_V vs)).slots.size ≤ j.toNatClampNeg) := by
    rw [arrV_size]; rintro (q | q)
    · exact hj.1 q
    · omega
  have hA := hK.arr (k := kd) (by omega) hk7 vs.length (vp_V vs)
  have fin' : ∀ (H1 : Heap), H1[a]? = some ((arrV (cA kd) vs.length (vp_V vs)).setSlot j.toNatClampNeg v) → H1.size = H.size → (∀ q, q ≠ a → H1[q]? = H[q]?) → W p la e R s m args below meth c H1 (locs ++ [⟨a, j.toNatClampNeg⟩]) k n Q (F0 m (pc + 1) ls r) := by
    intro H1 e1 e2 e3
    refine kk H1 _ ls ⟨hH.1.put ha ⟨fun z => absurd z hnl, fun _ => ⟨hk7, ?_⟩⟩ e3, hH.2.put e2 e3 (hH.1 a _ ha).1⟩ hls
    rw [e1, arrV_store, setV hlt]
  have refs : ∀ (q kv : Nat) (fs : List Value), i = .aastore → v = .ref q → h q = some (kv, fs) → (aty kd).isReference = true → (kv < 100 → ∃ C T N, vwCl[kv]? = some (C, T, N) ∧ cnm (aty kd) = C) → (¬ kv < 100 → "[" ++ (aty kv).toString = cnm (aty kd)) → W p la e R s m args below meth c H locs k n Q (F0 m pc ls (v :: .int j :: .ref a :: r)) := by
    intro q kv fs e1 e2 hq href hobj harr
    subst e1; subst e2
    obtain ⟨kA, comp, k1, k2, k3, k4⟩ := hK.2 kd (by omega) hk7
    have k4 := k4 href
    obtain ⟨kcomp, hkcomp, -⟩ := Vm.findClass_spec k4
    have hq2 := (hH.1 q _ hq).2
    by_cases hkv : kv < 100
    · obtain ⟨C, T, N, hc1, hc2⟩ := hobj hkv
      obtain ⟨r1, g0, -, cellV, g1, g2, g3, -⟩ := hq2.1 hkv
      cases hc1.symm.trans g0
      have hcls := (hK.1.1 kv _ hc1).2
      have hcomp : comp = D.1 kv := Option.some.inj (k4.symm.trans (by rw [hc2]; exact hcls.1))
      subst hcomp
      exact W.aast hx hb hc (fun q h => by cases h) (fun h => by cases h) k1 k2 href hkcomp ⟨hj.1, by rw [arrV_size]; exact hlt⟩ g1 (fun q h => by rw [g3] at h; cases h) (by rw [g2]; exact hkcomp) (by rw [g2]; exact va_assign hcls) rfl rfl hd fin'
    · obtain ⟨g0, g1⟩ := hq2.2 hkv
      obtain ⟨kA2, comp2, m1, m2, m3, -⟩ := hK.2 kv (by omega) g0
      have hcomp : comp = cA kv := Option.some.inj (k4.symm.trans (by rw [← harr hkv]; exact m3))
      subst hcomp
      exact W.aast hx hb hc (fun q h => by cases h) (fun h => by cases h) k1 k2 href hkcomp ⟨hj.1, by rw [arrV_size]; exact hlt⟩ g1 (fun q h => by cases h) hkcomp (va_asg _ _) rfl rfl hd fin'
  rcases hi with ⟨rfl, rfl, x, rfl⟩ | ⟨rfl, rfl, hv⟩ | ⟨e1, rfl, q, fs, e2, hq⟩ | ⟨e1, rfl, q, fs, e2, hq⟩ | ⟨e1, rfl, q, fs, e2, hq⟩ | ⟨e1, rfl, q, fs, e2, hq⟩
  · exact W.iast hx hb hc hA (fun q => by cases q) hin rfl rfl hd fin'
  · rcases hv with rfl | rfl
    · exact W.zast hx hb hc hA (fun q => by cases q) hin rfl rfl hd fin'
    · exact W.zast hx hb hc hA (fun q => by cases q) hin rfl rfl hd fin'
  · exact refs q 7 fs e1 e2 hq rfl (fun _ => ⟨_, _, _, rfl, rfl⟩) (fun z => absurd (by decide) z)
  · exact refs q 2 fs e1 e2 hq rfl (fun _ => ⟨_, _, _, rfl, rfl⟩) (fun z => absurd (by decide) z)
  · exact refs q 100 fs e1 e2 hq rfl (fun z => absurd z (by decide)) (fun _ => by decide +kernel)
  · exact refs q 105 fs e1 e2 hq rfl (fun z => absurd z (by decide)) (fun _ => by decide +kernel)
theorem aastN0 {T : State} {locs : List Loc} {cells slots : Nat} (X : Stand p la e R s m args below meth c T locs cells slots) (hexec : p.tables.exec = Jvm.exec) {a : Addr} {cell : Cell} {t : FieldType} {j : Int32} (hcell : T.heap[a]? = some cell) (harr : s.isArrayOf cell (.array t)) (hknown : cell.vm ≠ .unknown)
    (hin : ¬ (j < 0 ∨ cell.slots.size ≤ j.toNatClampNeg))
    {g : JFrame} (hg : g.method = m) {rest : List Value} (hstack : g.stack = .null :: .int j :: .ref a :: rest) (hdg : decode c.code g.pc = .ok (.aastore, 1)) :
    Stand p la e R s m args below meth c (T.setCell a (cell.setSlot j.toNatClampNeg .null)) (locs ++ [⟨a, j.toNatClampNeg⟩]) cells slots ∧
      ∀ target, Steps p.tables e below ((T.setCell a (cell.setSlot j.toNatClampNeg .null)).setTop { g with pc := g.pc + 1, stack := rest }) target → Steps p.tables e below (T.setTop g) target := by
  have hT := State.isArrayOf_alike X.warmed.alike harr
  have hfit : T.fitsSlot cell.cls cell.vm j.toNatClampNeg .null = true := by
    obtain ⟨hobj, k, hk, comp, hkind⟩ := hT
    cases hvm : cell.vm <;> first | exact absurd hvm (hobj _) | simp [State.fitsSlot, State.slotType?, hk, hkind, fits]
  refine ⟨X.stored hcell _ _, fun target hrest => ?_⟩
  subst hg
  jvm_step X.here [hexec, hdg]
  refine aastore.wp_of_null (c := cell) (t := .array t) X.here.top hstack hcell hT hin hknown (Nat.not_le.mp fun q => hin (Or.inr q)) hfit ?_
  intro acts
  rw [afterInstr_ok]
  exact hrest
theorem astN_ok (X : CX p s m args c D cA B0 nL cc own) {kd a : Nat} {vs : List Value} {j : Int32} (hd : decode cc pc = .ok (.aastore, 1)) (ha : h a = some (kd, vs)) (hkd : kd = 105) (hj : ¬ j < 0 ∧ j.toNatClampNeg < vs.length)
    (kk : WS p la e R s m args below meth c Q D cA B0 nL (pc + 1) l r (hup h a (kd, vs.set j.toNatClampNeg .null)) k n) : WS p la e R s m args below meth c Q D cA B0 nL pc l (.null :: .int j :: .ref a :: r) h k n := by
  obtain ⟨hx, hb, hml, hown, hts, hK, hB⟩ := X
  subst hkd
  intro H locs ls hH hls T hT X
  obtain ⟨hk7, hc⟩ := (hH.1 a _ ha).2.2 (by show ¬ 105 < 100; omega)
  have hlt : j.toNatClampNeg < vs.length := hj.2
  have hin : ¬ (j < 0 ∨ (arrV (cA 105) vs.length (vp_V vs)).slots.size ≤ j.toNatClampNeg) := by
    rw [arrV_size]; rintro (q | q)
    · exact hj.1 q
    · omega
  have hT' : T.heap[a]? = some (arrV (cA 105) vs.length (vp_V vs)) := by rw [hT]; exact hc
  obtain ⟨X', st⟩ := aastN0 X hx hT' (hK.arr (k := 105) (by omega) (by omega) vs.length (vp_V vs)) (fun q => by cases q) hin (g := F0 m pc ls (.null :: .int j :: .ref a :: r)) rfl rfl (by rw [hb]; exact hd)
  have hlt2 : a < T.heap.size := (Array.getElem?_eq_some_iff.mp hT').1
  have e3 : ∀ q : Nat, q ≠ a → (T.setCell a ((arrV (cA 105) vs.length (vp_V vs)).setSlot j.toNatClampNeg .null)).heap[q]? = H[q]? := fun q hq => by rw [heapAt_setCell_ne _ (Ne.symm hq), hT]
  have e2 : (T.setCell a ((arrV (cA 105) vs.length (vp_V vs)).setSlot j.toNatClampNeg .null)).heap.size = H.size := by rw [size_setCell, hT]
  obtain ⟨t', a1, b1⟩ := kk _ _ ls ⟨hH.1.put ha ⟨fun z => absurd z (by simp), fun _ => ⟨hk7, by rw [heapAt_setCell_self _ hlt2, arrV_store, setV hlt]⟩⟩ e3, hH.2.put e2 e3 (hH.1 a _ ha).1⟩ hls (T.setCell a ((arrV (cA 105) vs.length (vp_V vs)).setSlot j.toNatClampNeg .null)) rfl X'
  exact ⟨t', st t' a1, b1⟩
theorem getfN_ok (X : CX p s m args c D cA B0 nL cc own) (hw : ∀ w ∈ lw_tbl, isNest w = true → va_Nw w s) {idx ci kf a : Nat} {fs : List Value} {v : Value} (hF : FLN own idx ci kf) (hd : decode cc pc = .ok (.getfield idx, 3)) (ha : h a = some (ci, fs)) (hv : fs[kf]? = some v)
    (kk : WS p la e R s m args below meth c Q D cA B0 nL (pc + 3) l (v :: r) h k n) : WS p la e R s m args below meth c Q D cA B0 nL pc l (.ref a :: r) h k n := by
  obtain ⟨hx, hb, hml, hown, hts, hK, hB⟩ := X
  obtain ⟨C, T, N, host, hc, hin, hk, hl, hC⟩ := hF
  intro H locs ls hH hls
  obtain ⟨r0, h1, h2, cell, q1, q2, q3, q4⟩ := (hH.1 a _ ha).2.1 (vwCl_lt hc)
  have hr : r0 = (C, T, N) := Option.some.inj (h1.symm.trans hc)
  subst hr
  obtain ⟨hS, hfc, kC, hkC, hkind⟩ := hK.1.1 ci _ hc
  obtain ⟨cf, kf0, fi, f, hi, hsl⟩ := hS kf hk
  refine va_Wgetf hx hb hown (va_Nw.use rfl (hw _ hl rfl)) (by rw [← hC]; exact hi) (u_facts hfc hkC (u_lays hts hin hk) hi).1 q1 (by rw [q3]; exact fun h => by cases h) (v := v) ?_ rfl rfl hd (kk H locs ls hH hls)
  rw [hsl, q4 kf hk]
  simp [vp_V, hv]
/-- a new array of numbers -/
theorem newa_ok (X : CX p s m args c D cA B0 nL cc own) {at' : ArrayType} {kd : Nat} {j : Int32} (hk : (at' = .int ∧ kd = 100) ∨ (at' = .boolean ∧ kd = 101)) (hw : Cond.arrayClass (newarray.typeOf at') ∈ WT) (hd : decode cc pc = .ok (.newarray at', 2)) (hj : ¬ j < 0) (hj2 : j.toNatClampNeg ≤ 1000) (hr1 : k + 1 ≤ R.cells) (hr2 : n + j.toNatClampNeg ≤ R.slots)
    (kk : ∀ q : Nat, h q = none → B0 ≤ q → WS p la e R s m args below meth c Q D cA B0 nL (pc + 2) l (.ref q :: r) (hup h q (kd, List.replicate j.toNatClampNeg (.int 0))) (k + 1) (n + j.toNatClampNeg)) : WS p la e R s m args below meth c Q D cA B0 nL pc l (.int j :: r) h k n := by
  obtain ⟨hx, hb, hml, hown, hts, hK, hB⟩ := X
  intro H locs ls hH hls
  have hBH : B0 ≤ H.size := Nat.le_trans hB hH.2.1
  have hbytes : j.toNatClampNeg * componentBytes (newarray.typeOf at') ≤ 536870912 := by
    rcases hk with ⟨rfl, rfl⟩ | ⟨rfl, rfl⟩
    · show j.toNatClampNeg * 4 ≤ 536870912; omega
    · show j.toNatClampNeg * 1 ≤ 536870912; omega
  refine va_newaK hx hb (hts _ hw) rfl hd rfl hj rfl hbytes hr1 hr2 rfl fun H1 cA' e1 z1 o1 hAr hNm => ?_
  refine kk H.size (hH.1.fresh) hBH H1 _ ls ⟨hH.1.push hBH ⟨fun z => ?_, fun _ => ⟨?_, ?_⟩⟩ o1, Nat.le_trans hH.2.1 (by omega), fun x h1 h2 => (o1 x (Nat.lt_of_lt_of_le h1 hH.2.1)).trans (hH.2.2.1 x h1 h2), hH.2.2.2⟩ hls
  · rcases hk with ⟨-, rfl⟩ | ⟨-, rfl⟩ <;> exact absurd z (by simp)
  · rcases hk with ⟨-, rfl⟩ | ⟨-, rfl⟩ <;> simp
  · have hcA : cA' = cA kd := by
      rcases hk with ⟨rfl, rfl⟩ | ⟨rfl, rfl⟩
      · obtain ⟨_, _, -, -, k3, -⟩ := hK.2 100 (by decide) (by decide)
        exact Option.some.inj (hNm.symm.trans k3)
      · obtain ⟨_, _, -, -, k3, -⟩ := hK.2 101 (by decide) (by decide)
        exact Option.some.inj (hNm.symm.trans k3)
    rw [e1, hcA]
    have hdv : defaultValue (newarray.typeOf at') = .int 0 := by rcases hk with ⟨rfl, -⟩ | ⟨rfl, -⟩ <;> rfl
    rw [hdv]
    show some (arrV (cA kd) j.toNatClampNeg fun _ => Value.int 0) = some (arrV (cA kd) (List.replicate j.toNatClampNeg (Value.int 0)).length (vp_V (List.replicate j.toNatClampNeg (Value.int 0))))
    rw [List.length_replicate]
    congr 1
    unfold arrV
    congr 2
    funext q
    rw [vp_V_get (v := .int 0)]
    simp
theorem newq_fin (hK : KO D cA s) (hB : B0 ≤ s.heap.size) {H : Heap} {locs : List Loc} {ls : Array Slot} (hH : HS D cA B0 s h H locs) (hls : lv_has ls nL l) {kd N : Nat} (hkd : 103 ≤ kd) (hkd2 : kd < 107) {cA' : ClassId} (hNm : s.vm.findClass ("[" ++ (aty kd).toString) = some cA')
    (kk : ∀ q : Nat, h q = none → B0 ≤ q → WS p la e R s m args below meth c Q D cA B0 nL (pc + 3) l (.ref q :: r) (hup h q (kd, List.replicate N .null)) (k + 1) (n + N)) :
    W p la e R s m args below meth c (H.push { cls := cA', slots := Array.replicate N .null, vm := .none }) locs (k + 1) (n + N) Q (F0 m (pc + 3) ls (.ref H.size :: r)) := by
  have hBH : B0 ≤ H.size := Nat.le_trans hB hH.2.1
  have o1 : ∀ q : Nat, q < H.size → (H.push ({ cls := cA', slots := Array.replicate N .null, vm := .none } : Cell))[q]? = H[q]? := fun q hq => by rw [Array.getElem?_push, if_neg (Nat.ne_of_lt hq)]
  refine kk H.size (hH.1.fresh) hBH _ _ ls ⟨hH.1.push hBH ⟨fun z => absurd z (by simp; omega), fun _ => ⟨hkd2, ?_⟩⟩ o1, by rw [Array.size_push]; exact Nat.le_trans hH.2.1 (by omega), fun x h1 h2 => (o1 x (Nat.lt_of_lt_of_le h1 hH.2.1)).trans (hH.2.2.1 x h1 h2), hH.2.2.2⟩ hls
  obtain ⟨_, _, -, -, k3, -⟩ := hK.2 kd (by omega) hkd2
  have hcA : cA' = cA kd := Option.some.inj (hNm.symm.trans k3)
  rw [Array.getElem?_push_size, hcA, arrV_new]
  show some (arrV (cA kd) N fun _ => Value.null) = some (arrV (cA kd) (List.replicate N Value.null).length (vp_V (List.replicate N Value.null)))
  rw [List.length_replicate]
  congr 1
  unfold arrV
  congr 2
  funext q
  rw [vp_V_get (v := .null)]
  simp
theorem anew_ok (X : CX p s m args c D cA B0 nL cc own) {idx kd : Nat} {j : Int32} (hkd : 103 ≤ kd ∧ kd < 107) (hl : Cond.classLink own idx (cnm (aty kd)) ∈ WT) (ho : (Cond.arrayOver (aty kd)).before args s = true) (hd : decode cc pc = .ok (.anewarray idx, 3)) (hj : ¬ j < 0) (hj2 : j.toNatClampNeg ≤ 1000) (hr1 : k + 1 ≤ R.cells) (hr2 : n + j.toNatClampNeg ≤ R.slots)
    (kk : ∀ q : Nat, h q = none → B0 ≤ q → WS p la e R s m args below meth c Q D cA B0 nL (pc + 3) l (.ref q :: r) (hup h q (kd, List.replicate j.toNatClampNeg .null)) (k + 1) (n + j.toNatClampNeg)) : WS p la e R s m args below meth c Q D cA B0 nL pc l (.int j :: r) h k n := by
  obtain ⟨hx, hb, hml, hown, hts, hK, hB⟩ := X
  intro H locs ls hH hls
  have h4 : kd = 103 ∨ kd = 104 ∨ kd = 105 ∨ kd = 106 := by omega
  rcases h4 with rfl | rfl | rfl | rfl
  · rw [aty103] at hl ho
    exact W.anew (C := RX5) hx hb hown (hts _ hl) ho rfl hd rfl hj (by omega) hr1 hr2 fun cA' kA comp f1 f2 f3 f4 => newq_fin (kd := 103) hK hB hH hls (by omega) (by omega) (by rw [aty103]; exact f1) kk
  · rw [aty104] at hl ho
    exact W.anew (C := RX0) hx hb hown (hts _ hl) ho rfl hd rfl hj (by omega) hr1 hr2 fun cA' kA comp f1 f2 f3 f4 => newq_fin (kd := 104) hK hB hH hls (by omega) (by omega) (by rw [aty104]; exact f1) kk
  · rw [aty105] at hl ho
    exact W.anewA (t := .int) hx hb hown (hts _ hl) ho rfl hd rfl hj (by omega) hr1 hr2 fun cA' kA comp f1 f2 f3 f4 => newq_fin (kd := 105) hK hB hH hls (by omega) (by omega) (by rw [aty105]; exact f1) kk
  · rw [aty106] at hl ho
    exact W.anewA (t := (.array .int)) hx hb hown (hts _ hl) ho rfl hd rfl hj (by omega) hr1 hr2 fun cA' kA comp f1 f2 f3 f4 => newq_fin (kd := 106) hK hB hH hls (by omega) (by omega) (by rw [aty106]; exact f1) kk
/-- a class whose objects are made, with the values of a new one -/
def NC (own : String) (idx ci : Nat) (fs : List Value) : Prop := ∃ (C : String) (T : u_T) (N : Nat) (ty : Nat → FieldType), vwCl[ci]? = some (C, T, N) ∧ (∀ w ∈ u_ws C T N, w ∈ WT) ∧ (∀ k, k < N → parseFieldDescriptor (T k).2.2.1 = some (ty k)) ∧ fs.length = N ∧ (∀ j, j < N → defaultValue (ty j) = vp_V fs j) ∧
  Cond.classLink own idx C ∈ WT ∧ Cond.instantiable C N ∈ WT ∧ Cond.initialized C ∈ WT
theorem new_ok (X : CX p s m args c D cA B0 nL cc own) {idx ci : Nat} {fs : List Value} (hN : NC own idx ci fs) (hd : decode cc pc = .ok (.new idx, 3)) (hr1 : k + 1 ≤ R.cells) (hr2 : n + fs.length ≤ R.slots)
    (kk : ∀ q : Nat, h q = none → B0 ≤ q → WS p la e R s m args below meth c Q D cA B0 nL (pc + 3) l (.ref q :: r) (hup h q (ci, fs)) (k + 1) (n + fs.length)) : WS p la e R s m args below meth c Q D cA B0 nL pc l r h k n := by
  obtain ⟨hx, hb, hml, hown, hts, hK, hB⟩ := X
  obtain ⟨C, T, N, ty, hc, hin, hty, hlen, hdv, w1, w2, w3⟩ := hN
  subst hlen
  intro H locs ls hH hls
  have hBH : B0 ≤ H.size := Nat.le_trans hB hH.2.1
  have hKn := hK.1.1 ci _ hc
  refine W.newcK hx hb hown (hts _ w1) (hts _ w2) (hts _ w3) rfl hd hr1 hr2 hKn.2.1 rfl fun H1 kC hkC e1 z1 o1 => ?_
  exact kk H.size (hH.1.fresh) hBH H1 _ ls ⟨hH.1.push hBH ⟨fun _ => ⟨_, hc, rfl, (u_born ty hts hin hKn hkC e1 hty).to hdv⟩, fun z => absurd (vwCl_lt hc) z⟩ o1, Nat.le_trans hH.2.1 (by omega), fun x h1 h2 => (o1 x (Nat.lt_of_lt_of_le h1 hH.2.1)).trans (hH.2.2.1 x h1 h2), hH.2.2.2⟩ hls
end ARR
end
section
/-! CONTRACTS over the picture, and calls -/
def partsF (j : Nat) : Value := [Value.int 0, .int 0, .int 1, .int 1, .int 2, .int 2, .int 3, .int 3].getD j .null
/-- the static table PARTS, at the cell pa, below B0 -/
def SF (B0 pa : Nat) (U : State) (H : Heap) : Prop := va_Z RX6 "PARTS" "[I" (.ref pa) (fun q : Nat => B0 ≤ q) U H ∧ va_T .int pa 8 partsF (fun q : Nat => B0 ≤ q) U H
def OV (A : Array Value) (U : State) : Prop := ∀ kd : Nat, 103 ≤ kd → kd < 107 → (Cond.arrayOver (aty kd)).before A U = true
/-- what stands all the time, in every state -/
def EN (D : va_G) (cA : Nat → ClassId) (B0 pa : Nat) (U : State) : Prop := KO D cA U ∧ (∀ w ∈ lw_tbl, isNest w = true → va_Nw w U) ∧ OV #[] U ∧ SF B0 pa U U.heap ∧ B0 ≤ U.heap.size
theorem OV.moved {A A' : Array Value} {u U : State} (hvm : u.vm.Alike U.vm) (h : OV A u) : OV A' U := by
  intro kd h1 h2
  have h4 : kd = 103 ∨ kd = 104 ∨ kd = 105 ∨ kd = 106 := by omega
  have hh := h kd h1 h2
  rcases h4 with rfl | rfl | rfl | rfl
  · rw [aty103] at hh ⊢
    exact va_AO.use (va_AO.moved hvm (va_AO.of hh))
  · rw [aty104] at hh ⊢
    exact va_AO.use (va_AO.moved hvm (va_AO.of hh))
  · rw [aty105] at hh ⊢
    exact over_moved hvm hh
  · rw [aty106] at hh ⊢
    exact over_moved hvm hh
theorem EN.to {D : va_G} {cA : Nat → ClassId} {B0 pa : Nat} {u U : State} (h : EN D cA B0 pa u) (hW : u.WarmedH U.vm) (hs : u.heap.size ≤ U.heap.size) (hq : ∀ q : Nat, q < B0 → U.heap[q]? = u.heap[q]?) : EN D cA B0 pa U := by
  obtain ⟨h1, h2, h3, h4, h5⟩ := h
  have hal := hW.alike
  have hk : ∀ a : Nat, a < u.heap.size → ¬ B0 ≤ a → U.heap[a]? = u.heap[a]? := fun a _ z => hq a (by omega)
  refine ⟨h1.moved hal, fun w hw hn => ?_, h3.moved hal, ⟨(h4.1.moved hal).kept hk, (h4.2.moved hal).kept hk⟩, Nat.le_trans h5 hs⟩
  have h6 := h2 w hw hn
  cases w <;> first | exact va_Nw.warmM hW h6 | exact va_Nw.warmF hW h6 | (simp [isNest] at hn)
def PC (D : va_G) (cA : Nat → ClassId) (B0 pa : Nat) (av : List Value) (h : AH) : Array Value → State → Prop := va_Pc av (fun U => Rp D cA B0 h U.heap ∧ EN D cA B0 pa U)
def QC (D : va_G) (cA : Nat → ClassId) (B0 : Nat) (post : Option Value → AH → Prop) : Array Value → State → Outcome → State → Prop := fun _ st oc t =>
  ∃ (v : Option Value) (h' : AH), oc = .returned v ∧ post v h' ∧ Rp D cA B0 h' t.heap ∧ st.heap.size ≤ t.heap.size ∧ ∀ q : Nat, q < B0 → t.heap[q]? = st.heap[q]?
/-- A CONTRACT: from the picture h and these arguments the method comes to a picture and an answer as 'post' says, within its room -/
def CT (la : Launch) (D : va_G) (cA : Nat → ClassId) (B0 pa : Nat) (y : MethodName) (bytes : ByteArray) (maxL : Nat) (ret : Option FieldType) (rm : Room) (av : List Value) (h : AH) (post : Option Value → AH → Prop) : Prop :=
  Met la y (Cond.code y bytes maxL ret :: WT) rm (PC D cA B0 pa av h) (QC D cA B0 post) rm.cells rm.slots (fun q : Nat => B0 ≤ q)
theorem PC_blind {D : va_G} {cA : Nat → ClassId} {B0 pa : Nat} {av : List Value} {h : AH} : FrameBlind (PC D cA B0 pa av h) := by
  intro a U g mk q
  obtain ⟨q1, q2, q3⟩ := q
  exact ⟨q1, q2, q3.to (State.WarmedH.refl U) (Nat.le_refl _) (fun _ _ => rfl)⟩
theorem CT_of {la : Launch} {D : va_G} {cA : Nat → ClassId} {B0 pa : Nat} {y : MethodName} {bytes : ByteArray} {maxL : Nat} {ret : Option FieldType} {rm : Room} {av : List Value} {h : AH} {post : Option Value → AH → Prop}
    (hy : plainName y.cls = true) (hml : (lg_sl av).length ≤ maxL)
    (body : ∀ (p : Program) (e : Env) (s : State) (m : MethodId) (args : Array Value) (below : List Frame) (meth : Method) (c : Code), CX p s m args c D cA B0 maxL bytes y.cls → EN D cA B0 pa s → meth.sig.returnType = ret → meth.locks = false → meth.name = y.name →
      WS p la e rm s m args below meth c (MQ below (QC D cA B0 post) args s rm.cells rm.slots (fun q : Nat => B0 ≤ q)) D cA B0 maxL 0 (lv_args 0 av) [] h 0 0) : CT la D cA B0 pa y bytes maxL ret rm av h post := by
  refine Met.ofW (cc := bytes) (maxL := maxL) (ret := ret) hy rfl ?_
  intro p e s m args below meth c s₁ B hmlc hv
  obtain ⟨rfl, hR, hE⟩ := hv
  have hts := atoms_spec (ws := Cond.code y bytes maxL ret :: WT) B.pre
  have hown : s.vm.findClass y.cls = some m.cls := findClass_of_methodNamed B.named
  have hX : CX p s m av.toArray c D cA B0 maxL bytes y.cls := ⟨B.exec, B.bytes, hmlc, hown, fun w hw => hts w (List.mem_cons_of_mem _ hw), hE.1, hE.2.2.2.2⟩
  have hl := lv_entry av (n := maxL) hml
  rw [lg_entry_eq]
  exact body p e s m av.toArray below meth c hX hE B.returns B.notSynchronized (name_of_methodNamed B.named B.method).1 s.heap [] _ ⟨hR, va_S.rf⟩ hl
section CALL
variable {p : Program} {la : Launch} {e : Env} {R : Room} {s : State} {m : MethodId} {args : Array Value} {below : List Frame} {meth : Method} {c : Code} {Q : State → Prop}
variable {D : va_G} {cA : Nat → ClassId} {B0 pa nL : Nat} {cc : ByteArray} {own : String} {pc k n : Nat} {l : List (Nat × Value)} {r : List Value} {h : AH}
/-- behind a call -/
theorem run_ok {mc ms idx : Nat} {st : List Value} {As : Array Value} {post : Option Value → AH → Prop} (hB : B0 ≤ s.heap.size)
    (hr : ∀ (H : Heap) (locs : List Loc) (ls : Array Slot), HS D cA B0 s h H locs → lv_has ls nL l → va_Run p la e R s m args below meth c H locs k n mc ms (F0 m pc ls st) r (QC D cA B0 post As) (fun q : Nat => B0 ≤ q))
    (kk : ∀ (v : Option Value) (h' : AH), post v h' → WS p la e R s m args below meth c Q D cA B0 nL (pc + 3) l (v.toList ++ r) h' (k + mc) (n + ms)) : WS p la e R s m args below meth c Q D cA B0 nL pc l st h k n := by
  intro H locs ls hH hls T hT X
  obtain ⟨v, st₀, t, T', L, h0, X', hL, e1, e2, ⟨v', h', hv, hp, hR, hz, hq⟩, stp⟩ := hr H locs ls hH hls T hT X
  cases hv
  have hz' : H.size ≤ T'.heap.size := by rw [e1, ← h0]; exact hz
  obtain ⟨t2, a1, b1⟩ := kk v h' hp T'.heap (locs ++ L) ls ⟨by rw [e1]; exact hR, Nat.le_trans hH.2.1 hz', fun q h1 h2 => by rw [e1, hq q (by omega), h0]; exact hH.2.2.1 q h1 h2, fun q hq' => by
      rcases List.mem_append.mp hq' with g | g
      · exact hH.2.2.2 q g
      · exact hL q g⟩ hls T' rfl X'
  exact ⟨t2, stp t2 a1, b1⟩
/-- what a call needs of the tables -/
def LK (y : MethodName) (bytes : ByteArray) (maxL np : Nat) (ret : Option FieldType) : Prop := Cond.code y bytes maxL ret ∈ WT ∧ Cond.initialized y.cls ∈ WT ∧ (y.cls ≠ "java/lang/invoke/MethodHandle" ∧ y.cls ≠ "java/lang/invoke/VarHandle") ∧ (parseMethodDescriptor y.desc).map (fun d => d.parameters.length) = some np
theorem preS_of (X : CX p s m args c D cA B0 nL cc own) (E : EN D cA B0 pa s) {H : Heap} {locs : List Loc} (hH : HS D cA B0 s h H locs) (av : List Value) : PreS s H (PC D cA B0 pa av h) av :=
  ⟨PC_blind, fun U hU hW => ⟨rfl, by rw [hU]; exact hH.1, E.to hW (by rw [hU]; exact hH.2.1) (fun q hq => by rw [hU]; exact hH.2.2.1 q (Nat.lt_of_lt_of_le hq E.2.2.2.2) (by omega))⟩⟩
theorem callB_ok (X : CX p s m args c D cA B0 nL cc own) {y : MethodName} {bytes : ByteArray} {maxL np idx : Nat} {ret : Option FieldType} {rm : Room} (hL : LK y bytes maxL np ret) (hl : Cond.methodLink own idx y ∈ WT) (hR : rm.frames + 1 ≤ R.frames ∧ 8 + (maxL + 11) + rm.locals ≤ R.locals) :
    CallB R s args own idx y bytes maxL ret (Cond.code y bytes maxL ret :: WT) rm rm.cells rm.slots np :=
  callB_of np X.2.2.2.2.1 (WT_goodIn y bytes maxL ret hL.1) rfl rfl rfl (X.2.2.2.2.1 _ hL.2.1) (X.2.2.2.2.1 _ hl) ⟨hL.2.2.1.1, hL.2.2.1.2, hL.2.2.2⟩ hR
theorem fix_ok (X : CX p s m args c D cA B0 nL cc own) : CallFix p m c cc nL s args WT own := ⟨X.1, X.2.1, X.2.2.1, X.2.2.2.1, X.2.2.2.2.1⟩
theorem callS_ok (X : CX p s m args c D cA B0 nL cc own) (E : EN D cA B0 pa s) {y : MethodName} {bytes : ByteArray} {maxL idx : Nat} {ret : Option FieldType} {rm : Room} {av : List Value} {post : Option Value → AH → Prop}
    (hM : CT la D cA B0 pa y bytes maxL ret rm av h post) (hL : LK y bytes maxL av.length ret) (hl : Cond.methodLink own idx y ∈ WT) (hs : Cond.static y ∈ WT) (hR : rm.frames + 1 ≤ R.frames ∧ 8 + (maxL + 11) + rm.locals ≤ R.locals) (hf : k + rm.cells ≤ R.cells ∧ n + rm.slots ≤ R.slots)
    (hW : (r.map fun v => v.category).sum ≤ 8) (hd : decode cc pc = .ok (.invokestatic idx, 3))
    (kk : ∀ (v : Option Value) (h' : AH), post v h' → WS p la e R s m args below meth c Q D cA B0 nL (pc + 3) l (v.toList ++ r) h' (k + rm.cells) (n + rm.slots)) : WS p la e R s m args below meth c Q D cA B0 nL pc l (av.reverse ++ r) h k n :=
  run_ok (idx := idx) X.2.2.2.2.2.2 (fun H locs ls hH hls => va_runS (fix_ok X) hM ⟨callB_ok X hL hl hR, X.2.2.2.2.1 _ hs⟩ (preS_of X E hH av) rfl rfl hls.1 rfl (lv_room hW) hd hf) kk
theorem callV_ok (X : CX p s m args c D cA B0 nL cc own) (E : EN D cA B0 pa s) {y : MethodName} {bytes : ByteArray} {maxL idx ci b : Nat} {ret : Option FieldType} {rm : Room} {av fs : List Value} {T : u_T} {N : Nat} {post : Option Value → AH → Prop}
    (hM : CT la D cA B0 pa y bytes maxL ret rm (.ref b :: av) h post) (hL : LK y bytes maxL av.length ret) (hl : Cond.methodLink own idx y ∈ WT) (hi : Cond.instanceMethod y ∈ WT) (hse : Cond.selects y.cls y y ∈ WT) (hR : rm.frames + 1 ≤ R.frames ∧ 8 + (maxL + 11) + rm.locals ≤ R.locals) (hf : k + rm.cells ≤ R.cells ∧ n + rm.slots ≤ R.slots)
    (hc : vwCl[ci]? = some (y.cls, T, N)) (hb : h b = some (ci, fs))
    (hW : (r.map fun v => v.category).sum ≤ 8) (hd : decode cc pc = .ok (.invokevirtual idx, 3))
    (kk : ∀ (v : Option Value) (h' : AH), post v h' → WS p la e R s m args below meth c Q D cA B0 nL (pc + 3) l (v.toList ++ r) h' (k + rm.cells) (n + rm.slots)) : WS p la e R s m args below meth c Q D cA B0 nL pc l (av.reverse ++ .ref b :: r) h k n := by
  refine run_ok (idx := idx) (As := (Value.ref b :: av).toArray) X.2.2.2.2.2.2 (fun H locs ls hH hls => va_runV (C := y.cls) (fix_ok X) hM ⟨callB_ok X hL hl hR, X.2.2.2.2.1 _ hi, X.2.2.2.2.1 _ hse⟩ ⟨PC_blind, ?_, (preS_of X E hH (.ref b :: av)).2⟩ rfl rfl hls.1 rfl (lv_room hW) hd hf) kk
  obtain ⟨r1, g0, -, cell, g1, g2, g3, -⟩ := (hH.1 b _ hb).2.1 (vwCl_lt hc)
  exact ⟨cell, g1, by rw [g3]; rfl, by rw [g2]; exact (X.2.2.2.2.2.1.1.1 ci _ hc).2.1⟩
theorem callI_ok (X : CX p s m args c D cA B0 nL cc own) (E : EN D cA B0 pa s) {y : MethodName} {bytes : ByteArray} {maxL idx b : Nat} {rm : Room} {av : List Value} {post : Option Value → AH → Prop}
    (hM : CT la D cA B0 pa y bytes maxL none rm (.ref b :: av) h post) (hL : LK y bytes maxL av.length none) (hl : Cond.methodLink own idx y ∈ WT) (hi : Cond.instanceMethod y ∈ WT) (hn : y.name = "<init>") (hR : rm.frames + 1 ≤ R.frames ∧ 8 + (maxL + 11) + rm.locals ≤ R.locals) (hf : k + rm.cells ≤ R.cells ∧ n + rm.slots ≤ R.slots)
    (hW : (r.map fun v => v.category).sum ≤ 8) (hd : decode cc pc = .ok (.invokespecial idx, 3))
    (kk : ∀ (v : Option Value) (h' : AH), post v h' → WS p la e R s m args below meth c Q D cA B0 nL (pc + 3) l (v.toList ++ r) h' (k + rm.cells) (n + rm.slots)) : WS p la e R s m args below meth c Q D cA B0 nL pc l (av.reverse ++ .ref b :: r) h k n :=
  run_ok (idx := idx) (As := (Value.ref b :: av).toArray) X.2.2.2.2.2.2 (fun H locs ls hH hls => va_runI (fix_ok X) hM ⟨callB_ok X hL hl hR, hn, X.2.2.2.2.1 _ hi⟩ (preS_of X E hH (.ref b :: av)) rfl rfl hls.1 rfl (lv_room hW) hd hf) kk
end CALL
end
section
/-! RETURNS, Object's constructor, statics -/
section RET
variable {p : Program} {la : Launch} {e : Env} {R : Room} {s : State} {m : MethodId} {args : Array Value} {below : List Frame} {meth : Method} {c : Code}
variable {D : va_G} {cA : Nat → ClassId} {B0 pa nL : Nat} {cc : ByteArray} {own : String} {pc k n : Nat} {l : List (Nat × Value)} {r : List Value} {h : AH} {post : Option Value → AH → Prop} {mc ms : Nat}
theorem qc_ok {v : Option Value} (hp : post v h) {H : Heap} {locs : List Loc} (hH : HS D cA B0 s h H locs) (hB : B0 ≤ s.heap.size) (a : Array Value) : ∀ t : State, t.heap = H → s.WarmedH t.vm → QC D cA B0 post a s (.returned v) t :=
  fun t ht _ => ⟨v, h, rfl, hp, by rw [ht]; exact hH.1, by rw [ht]; exact hH.2.1, fun q hq => by rw [ht]; exact hH.2.2.1 q (Nat.lt_of_lt_of_le hq hB) (by omega)⟩
theorem reti_ok (X : CX p s m args c D cA B0 nL cc own) {ty : FieldType} {x : Int32} (hr : meth.sig.returnType = some ty) (hk : meth.locks = false) (hn : narrow ty (.int x) = .int x) (hd : decode cc pc = .ok (.ireturn, 1)) (hp : post (some (.int x)) h) (h1 : k ≤ mc) (h2 : n ≤ ms) :
    WS p la e R s m args below meth c (MQ below (QC D cA B0 post) args s mc ms (fun q : Nat => B0 ≤ q)) D cA B0 nL pc l [.int x] h k n := by
  intro H locs ls hH hls
  refine W.widen h1 h2 ?_
  exact W.zret X.1 X.2.1 hr hn (qc_ok hp hH X.2.2.2.2.2.2 args) hH.2.2.2 hd hk
theorem retl_ok (X : CX p s m args c D cA B0 nL cc own) {x : Int64} (hr : meth.sig.returnType = some .long) (hk : meth.locks = false) (hd : decode cc pc = .ok (.lreturn, 1)) (hp : post (some (.long x)) h) (h1 : k ≤ mc) (h2 : n ≤ ms) :
    WS p la e R s m args below meth c (MQ below (QC D cA B0 post) args s mc ms (fun q : Nat => B0 ≤ q)) D cA B0 nL pc l [.long x] h k n := by
  intro H locs ls hH hls
  refine W.widen h1 h2 ?_
  exact W.lret X.1 X.2.1 hr (qc_ok hp hH X.2.2.2.2.2.2 args) hH.2.2.2 hd hk
theorem retv_ok (X : CX p s m args c D cA B0 nL cc own) (hr : meth.sig.returnType = none) (hk : meth.locks = false) (hd : decode cc pc = .ok (.return_, 1)) (hp : post none h) (h1 : k ≤ mc) (h2 : n ≤ ms) :
    WS p la e R s m args below meth c (MQ below (QC D cA B0 post) args s mc ms (fun q : Nat => B0 ≤ q)) D cA B0 nL pc l [] h k n := by
  intro H locs ls hH hls
  refine W.widen h1 h2 ?_
  exact W.vret X.1 X.2.1 hr (qc_ok hp hH X.2.2.2.2.2.2 args) hH.2.2.2 hd hk
theorem reta_ok (X : CX p s m args c D cA B0 nL cc own) {ty : FieldType} {v : Value} (hr : meth.sig.returnType = some ty) (hk : meth.locks = false) (hty : (∃ n, ty = .object n) ∨ ∃ t, ty = .array t) (hv : v = .null ∨ ∃ a, v = .ref a) (hd : decode cc pc = .ok (.areturn, 1)) (hp : post (some v) h) (h1 : k ≤ mc) (h2 : n ≤ ms) :
    WS p la e R s m args below meth c (MQ below (QC D cA B0 post) args s mc ms (fun q : Nat => B0 ≤ q)) D cA B0 nL pc l [v] h k n := by
  intro H locs ls hH hls
  refine W.widen h1 h2 ?_
  exact W.aret X.1 X.2.1 hr hty hv (qc_ok hp hH X.2.2.2.2.2.2 args) hH.2.2.2 hd hk
variable {Q : State → Prop}
/-- the table PARTS -/
theorem gets_ok (X : CX p s m args c D cA B0 nL cc own) (E : EN D cA B0 pa s) {idx : Nat} (hl : Cond.fieldLink own idx RX6 "PARTS" "[I" ∈ WT) (hd : decode cc pc = .ok (.getstatic idx, 3))
    (kk : WS p la e R s m args below meth c Q D cA B0 nL (pc + 3) l (.ref pa :: r) h k n) : WS p la e R s m args below meth c Q D cA B0 nL pc l r h k n := by
  intro H locs ls hH hls
  exact va_gets X.1 X.2.1 E.2.2.2.1.1 hH.2 X.2.2.2.1 (X.2.2.2.2.1 _ hl) (fun _ h => h) hd (kk H locs ls hH hls)
theorem ptab_ok (X : CX p s m args c D cA B0 nL cc own) (E : EN D cA B0 pa s) {j : Int32} (hj : vp_in j 8) (hd : decode cc pc = .ok (.iaload, 1))
    (kk : WS p la e R s m args below meth c Q D cA B0 nL (pc + 1) l (partsF j.toNatClampNeg :: r) h k n) : WS p la e R s m args below meth c Q D cA B0 nL pc l (.int j :: .ref pa :: r) h k n := by
  intro H locs ls hH hls
  exact va_ti X.1 X.2.1 E.2.2.2.1.2 hH.2 hj rfl hd (kk H locs ls hH hls)
theorem plen_ok (X : CX p s m args c D cA B0 nL cc own) (E : EN D cA B0 pa s) (hd : decode cc pc = .ok (.arraylength, 1))
    (kk : WS p la e R s m args below meth c Q D cA B0 nL (pc + 1) l (.int 8 :: r) h k n) : WS p la e R s m args below meth c Q D cA B0 nL pc l (.ref pa :: r) h k n := by
  intro H locs ls hH hls
  exact va_tlen X.1 X.2.1 E.2.2.2.1.2 hH.2 rfl hd (kk H locs ls hH hls)
end RET
end
section
/-- the instruction at a place of a method's list -/
def lkd (L : List (Nat × Instr × Nat)) (pc : Nat) : Option (Instr × Nat) := match L with
  | [] => none
  | q :: r => if q.1 = pc then some q.2 else lkd r pc
theorem lkd_ok {b : ByteArray} : ∀ {L : List (Nat × Instr × Nat)}, (∀ q ∈ L, decode b q.1 = .ok q.2) → ∀ {pc : Nat} {q : Instr × Nat}, lkd L pc = some q → decode b pc = .ok q
  | [], _, pc, q, h => by simp [lkd] at h
  | x :: r, hL, pc, q, h => by
    unfold lkd at h
    split at h
    · rename_i e
      cases h
      subst e
      exact hL x List.mem_cons_self
    · exact lkd_ok (fun y hy => hL y (List.mem_cons_of_mem _ hy)) h
end
section
def DX0_init : List (Nat × Instr × Nat) := [(0, .aload_n 0, 1), (1, .invokespecial 3, 3), (4, .aload_n 0, 1), (5, .bipush 8, 2), (7, .anewarray 9, 3), (10, .putfield 11, 3), (13, .iconst 0, 1), (14, .istore_n 1, 1), (15, .iload_n 1, 1), (16, .bipush 8, 2), (18, .if_icmp .ge 34, 3), (21, .aload_n 0, 1), (22, .getfield 11, 3), (25, .iload_n 1, 1), (26, .new 9, 3), (29, .dup, 1), (30, .bipush 16, 2), (32, .invokespecial 17, 3), (35, .aastore, 1), (36, .aload_n 0, 1), (37, .getfield 11, 3), (40, .iload_n 1, 1), (41, .aaload, 1), (42, .iload_n 1, 1), (43, .invokevirtual 20, 3), (46, .iinc 1 1, 3), (49, .goto (-34), 3), (52, .return_, 1)]
set_option maxRecDepth 100000 in
theorem DX0_init_ok : ∀ q ∈ DX0_init, decode cX0_init q.1 = .ok q.2 := by decide +kernel
def DX0_of : List (Nat × Instr × Nat) := [(0, .iload_n 1, 1), (1, .invokestatic 23, 3), (4, .ifCond .ne 13, 3), (7, .new 27, 3), (10, .dup, 1), (11, .ldc 29, 2), (13, .invokespecial 31, 3), (16, .athrow, 1), (17, .aload_n 0, 1), (18, .getfield 11, 3), (21, .iload_n 1, 1), (22, .aaload, 1), (23, .areturn, 1)]
set_option maxRecDepth 100000 in
theorem DX0_of_ok : ∀ q ∈ DX0_of, decode cX0_of q.1 = .ok q.2 := by decide +kernel
def DX0_moves : List (Nat × Instr × Nat) := [(0, .iload_n 1, 1), (1, .invokestatic 23, 3), (4, .ifCond .eq 34, 3), (7, .aload_n 0, 1), (8, .getfield 11, 3), (11, .iload_n 1, 1), (12, .aaload, 1), (13, .invokevirtual 34, 3), (16, .iconst 1, 1), (17, .if_icmp .ne 17, 3), (20, .aload_n 0, 1), (21, .getfield 11, 3), (24, .iload_n 1, 1), (25, .aaload, 1), (26, .iconst 0, 1), (27, .invokevirtual 38, 3), (30, .iload_n 1, 1), (31, .if_icmp .eq 7, 3), (34, .iconst 1, 1), (35, .goto 4, 3), (38, .iconst 0, 1), (39, .ireturn, 1)]
set_option maxRecDepth 100000 in
theorem DX0_moves_ok : ∀ q ∈ DX0_moves, decode cX0_moves q.1 = .ok q.2 := by decide +kernel
def DX0_movedNames : List (Nat × Instr × Nat) := [(0, .iconst 0, 1), (1, .istore_n 1, 1), (2, .iconst 0, 1), (3, .istore_n 2, 1), (4, .iload_n 2, 1), (5, .bipush 8, 2), (7, .if_icmp .ge 23, 3), (10, .aload_n 0, 1), (11, .iload_n 2, 1), (12, .invokevirtual 42, 3), (15, .ifCond .eq 9, 3), (18, .iload_n 1, 1), (19, .iconst 1, 1), (20, .iload_n 2, 1), (21, .ishl, 1), (22, .ior, 1), (23, .istore_n 1, 1), (24, .iinc 2 1, 3), (27, .goto (-23), 3), (30, .iload_n 1, 1), (31, .ireturn, 1)]
set_option maxRecDepth 100000 in
theorem DX0_movedNames_ok : ∀ q ∈ DX0_movedNames, decode cX0_movedNames q.1 = .ok q.2 := by decide +kernel
def DX0_movedCount : List (Nat × Instr × Nat) := [(0, .aload_n 0, 1), (1, .invokevirtual 45, 3), (4, .invokestatic 48, 3), (7, .ireturn, 1)]
set_option maxRecDepth 100000 in
theorem DX0_movedCount_ok : ∀ q ∈ DX0_movedCount, decode cX0_movedCount q.1 = .ok q.2 := by decide +kernel
def DX0_moveNone : List (Nat × Instr × Nat) := [(0, .iconst 0, 1), (1, .istore_n 1, 1), (2, .iload_n 1, 1), (3, .bipush 8, 2), (5, .if_icmp .ge 19, 3), (8, .aload_n 0, 1), (9, .getfield 11, 3), (12, .iload_n 1, 1), (13, .aaload, 1), (14, .iload_n 1, 1), (15, .invokevirtual 20, 3), (18, .iinc 1 1, 3), (21, .goto (-19), 3), (24, .return_, 1)]
set_option maxRecDepth 100000 in
theorem DX0_moveNone_ok : ∀ q ∈ DX0_moveNone, decode cX0_moveNone q.1 = .ok q.2 := by decide +kernel
def DX0_becomeAs : List (Nat × Instr × Nat) := [(0, .iconst 0, 1), (1, .istore_n 2, 1), (2, .iload_n 2, 1), (3, .bipush 8, 2), (5, .if_icmp .ge 24, 3), (8, .aload_n 0, 1), (9, .getfield 11, 3), (12, .iload_n 2, 1), (13, .aaload, 1), (14, .aload_n 1, 1), (15, .getfield 11, 3), (18, .iload_n 2, 1), (19, .aaload, 1), (20, .invokevirtual 53, 3), (23, .iinc 2 1, 3), (26, .goto (-24), 3), (29, .return_, 1)]
set_option maxRecDepth 100000 in
theorem DX0_becomeAs_ok : ∀ q ∈ DX0_becomeAs, decode cX0_becomeAs q.1 = .ok q.2 := by decide +kernel
def DX0_becomeBoth : List (Nat × Instr × Nat) := [(0, .iconst 0, 1), (1, .istore_n 3, 1), (2, .iload_n 3, 1), (3, .bipush 8, 2), (5, .if_icmp .ge 44, 3), (8, .aload_n 0, 1), (9, .getfield 11, 3), (12, .iload_n 3, 1), (13, .aaload, 1), (14, .invokevirtual 57, 3), (17, .aload_n 2, 1), (18, .aload_n 1, 1), (19, .getfield 11, 3), (22, .iload_n 3, 1), (23, .aaload, 1), (24, .iconst 0, 1), (25, .aload_n 1, 1), (26, .getfield 11, 3), (29, .iload_n 3, 1), (30, .aaload, 1), (31, .invokevirtual 34, 3), (34, .aload_n 0, 1), (35, .getfield 11, 3), (38, .iload_n 3, 1), (39, .aaload, 1), (40, .invokevirtual 60, 3), (43, .iinc 3 1, 3), (46, .goto (-44), 3), (49, .return_, 1)]
set_option maxRecDepth 100000 in
theorem DX0_becomeBoth_ok : ∀ q ∈ DX0_becomeBoth, decode cX0_becomeBoth q.1 = .ok q.2 := by decide +kernel
def DX0_addUsed : List (Nat × Instr × Nat) := [(0, .iload_n 2, 1), (1, .istore 5, 2), (3, .iload 5, 2), (5, .iload_n 3, 1), (6, .if_icmp .ge 47, 3), (9, .aload_n 1, 1), (10, .iload 5, 2), (12, .invokevirtual 38, 3), (15, .istore 6, 2), (17, .iload 6, 2), (19, .invokestatic 23, 3), (22, .ifCond .eq 18, 3), (25, .aload 4, 2), (27, .aload_n 0, 1), (28, .getfield 11, 3), (31, .iload 6, 2), (33, .aaload, 1), (34, .invokevirtual 64, 3), (37, .goto 10, 3), (40, .aload 4, 2), (42, .iload 6, 2), (44, .invokevirtual 67, 3), (47, .iinc 5 1, 3), (50, .goto (-47), 3), (53, .return_, 1)]
set_option maxRecDepth 100000 in
theorem DX0_addUsed_ok : ∀ q ∈ DX0_addUsed, decode cX0_addUsed q.1 = .ok q.2 := by decide +kernel
def DX0_addMoved : List (Nat × Instr × Nat) := [(0, .iconst 0, 1), (1, .istore_n 2, 1), (2, .iload_n 2, 1), (3, .bipush 8, 2), (5, .if_icmp .ge 27, 3), (8, .aload_n 0, 1), (9, .iload_n 2, 1), (10, .invokevirtual 42, 3), (13, .ifCond .eq 13, 3), (16, .aload_n 1, 1), (17, .aload_n 0, 1), (18, .getfield 11, 3), (21, .iload_n 2, 1), (22, .aaload, 1), (23, .invokevirtual 64, 3), (26, .iinc 2 1, 3), (29, .goto (-27), 3), (32, .return_, 1)]
set_option maxRecDepth 100000 in
theorem DX0_addMoved_ok : ∀ q ∈ DX0_addMoved, decode cX0_addMoved q.1 = .ok q.2 := by decide +kernel
def DX0_isTooLong : List (Nat × Instr × Nat) := [(0, .aload_n 0, 1), (1, .getfield 11, 3), (4, .astore_n 1, 1), (5, .aload_n 1, 1), (6, .arraylength, 1), (7, .istore_n 2, 1), (8, .iconst 0, 1), (9, .istore_n 3, 1), (10, .iload_n 3, 1), (11, .iload_n 2, 1), (12, .if_icmp .ge 24, 3), (15, .aload_n 1, 1), (16, .iload_n 3, 1), (17, .aaload, 1), (18, .astore 4, 2), (20, .aload 4, 2), (22, .invokevirtual 70, 3), (25, .ifCond .eq 5, 3), (28, .iconst 1, 1), (29, .ireturn, 1), (30, .iinc 3 1, 3), (33, .goto (-23), 3), (36, .iconst 0, 1), (37, .ireturn, 1)]
set_option maxRecDepth 100000 in
theorem DX0_isTooLong_ok : ∀ q ∈ DX0_isTooLong, decode cX0_isTooLong q.1 = .ok q.2 := by decide +kernel
def DX0_firstUnlike : List (Nat × Instr × Nat) := [(0, .iconst 0, 1), (1, .istore_n 2, 1), (2, .iload_n 2, 1), (3, .bipush 8, 2), (5, .if_icmp .ge 29, 3), (8, .aload_n 0, 1), (9, .getfield 11, 3), (12, .iload_n 2, 1), (13, .aaload, 1), (14, .aload_n 1, 1), (15, .getfield 11, 3), (18, .iload_n 2, 1), (19, .aaload, 1), (20, .invokevirtual 74, 3), (23, .ifCond .ne 5, 3), (26, .iload_n 2, 1), (27, .ireturn, 1), (28, .iinc 2 1, 3), (31, .goto (-29), 3), (34, .iconst (-1), 1), (35, .ireturn, 1)]
set_option maxRecDepth 100000 in
theorem DX0_firstUnlike_ok : ∀ q ∈ DX0_firstUnlike, decode cX0_firstUnlike q.1 = .ok q.2 := by decide +kernel
def DX0_renamesOnly : List (Nat × Instr × Nat) := [(0, .iconst 0, 1), (1, .istore_n 1, 1), (2, .aload_n 0, 1), (3, .getfield 11, 3), (6, .astore_n 2, 1), (7, .aload_n 2, 1), (8, .arraylength, 1), (9, .istore_n 3, 1), (10, .iconst 0, 1), (11, .istore 4, 2), (13, .iload 4, 2), (15, .iload_n 3, 1), (16, .if_icmp .ge 32, 3), (19, .aload_n 2, 1), (20, .iload 4, 2), (22, .aaload, 1), (23, .astore 5, 2), (25, .aload 5, 2), (27, .invokevirtual 34, 3), (30, .iconst 1, 1), (31, .if_icmp .ne 11, 3), (34, .iload_n 1, 1), (35, .aload 5, 2), (37, .invokevirtual 78, 3), (40, .ior, 1), (41, .istore_n 1, 1), (42, .iinc 4 1, 3), (45, .goto (-32), 3), (48, .iload_n 1, 1), (49, .invokestatic 48, 3), (52, .bipush 8, 2), (54, .if_icmp .ne 7, 3), (57, .iconst 1, 1), (58, .goto 4, 3), (61, .iconst 0, 1), (62, .ireturn, 1)]
set_option maxRecDepth 100000 in
theorem DX0_renamesOnly_ok : ∀ q ∈ DX0_renamesOnly, decode cX0_renamesOnly q.1 = .ok q.2 := by decide +kernel
def DX0_becomeMatch : List (Nat × Instr × Nat) := [(0, .aload_n 0, 1), (1, .getfield 11, 3), (4, .astore_n 3, 1), (5, .aload_n 3, 1), (6, .arraylength, 1), (7, .istore 4, 2), (9, .iconst 0, 1), (10, .istore 5, 2), (12, .iload 5, 2), (14, .iload 4, 2), (16, .if_icmp .ge 20, 3), (19, .aload_n 3, 1), (20, .iload 5, 2), (22, .aaload, 1), (23, .astore 6, 2), (25, .aload 6, 2), (27, .invokevirtual 57, 3), (30, .iinc 5 1, 3), (33, .goto (-21), 3), (36, .iconst 0, 1), (37, .istore_n 3, 1), (38, .iconst 1, 1), (39, .istore 4, 2), (41, .iconst 0, 1), (42, .istore 5, 2), (44, .iload 5, 2), (46, .aload_n 1, 1), (47, .invokevirtual 34, 3), (50, .if_icmp .ge 104, 3), (53, .iload 4, 2), (55, .ifCond .eq 99, 3), (58, .aload_n 1, 1), (59, .iload 5, 2), (61, .invokevirtual 38, 3), (64, .istore 6, 2), (66, .iload 6, 2), (68, .invokestatic 23, 3), (71, .ifCond .eq 57, 3), (74, .aload_n 0, 1), (75, .getfield 11, 3), (78, .iload 6, 2), (80, .aaload, 1), (81, .invokevirtual 34, 3), (84, .ifCond .ne 20, 3), (87, .aload_n 0, 1), (88, .getfield 11, 3), (91, .iload 6, 2), (93, .aaload, 1), (94, .aload_n 2, 1), (95, .iload_n 3, 1), (96, .aload_n 2, 1), (97, .iload_n 3, 1), (98, .invokevirtual 81, 3), (101, .invokevirtual 84, 3), (104, .aload_n 0, 1), (105, .getfield 11, 3), (108, .iload 6, 2), (110, .aaload, 1), (111, .iconst 0, 1), (112, .aload_n 2, 1), (113, .iload_n 3, 1), (114, .invokevirtual 88, 3), (117, .istore 4, 2), (119, .aload_n 2, 1), (120, .iload_n 3, 1), (121, .invokevirtual 81, 3), (124, .istore_n 3, 1), (125, .goto 23, 3), (128, .iload 6, 2), (130, .aload_n 2, 1), (131, .iload_n 3, 1), (132, .invokevirtual 38, 3), (135, .if_icmp .ne 7, 3), (138, .iconst 1, 1), (139, .goto 4, 3), (142, .iconst 0, 1), (143, .istore 4, 2), (145, .iinc 3 1, 3), (148, .iinc 5 1, 3), (151, .goto (-107), 3), (154, .aload_n 0, 1), (155, .invokevirtual 92, 3), (158, .iload 4, 2), (160, .ireturn, 1)]
set_option maxRecDepth 100000 in
theorem DX0_becomeMatch_ok : ∀ q ∈ DX0_becomeMatch, decode cX0_becomeMatch q.1 = .ok q.2 := by decide +kernel
def DX0_tellUntoldOfThemselves : List (Nat × Instr × Nat) := [(0, .iconst 0, 1), (1, .istore_n 1, 1), (2, .iload_n 1, 1), (3, .bipush 8, 2), (5, .if_icmp .ge 31, 3), (8, .aload_n 0, 1), (9, .getfield 11, 3), (12, .iload_n 1, 1), (13, .aaload, 1), (14, .invokevirtual 34, 3), (17, .ifCond .ne 13, 3), (20, .aload_n 0, 1), (21, .getfield 11, 3), (24, .iload_n 1, 1), (25, .aaload, 1), (26, .iload_n 1, 1), (27, .invokevirtual 20, 3), (30, .iinc 1 1, 3), (33, .goto (-31), 3), (36, .return_, 1)]
set_option maxRecDepth 100000 in
theorem DX0_tellUntoldOfThemselves_ok : ∀ q ∈ DX0_tellUntoldOfThemselves, decode cX0_tellUntoldOfThemselves q.1 = .ok q.2 := by decide +kernel
def DX0_becomeWholeOf : List (Nat × Instr × Nat) := [(0, .iconst 0, 1), (1, .istore_n 3, 1), (2, .iconst 0, 1), (3, .istore 4, 2), (5, .iload 4, 2), (7, .bipush 8, 2), (9, .if_icmp .ge 131, 3), (12, .iconst 0, 1), (13, .istore 5, 2), (15, .iload 5, 2), (17, .bipush 8, 2), (19, .if_icmp .ge 115, 3), (22, .iload 5, 2), (24, .aload_n 2, 1), (25, .arraylength, 1), (26, .if_icmp .ge 108, 3), (29, .aload_n 2, 1), (30, .iload 5, 2), (32, .iaload, 1), (33, .istore 6, 2), (35, .aload_n 1, 1), (36, .iload 6, 2), (38, .invokevirtual 81, 3), (41, .istore 7, 2), (43, .iload 6, 2), (45, .iconst (-1), 1), (46, .if_icmp .ne 25, 3), (49, .aload_n 0, 1), (50, .getfield 11, 3), (53, .iload 5, 2), (55, .aaload, 1), (56, .iload 5, 2), (58, .invokevirtual 20, 3), (61, .iload_n 3, 1), (62, .iconst 1, 1), (63, .iload 5, 2), (65, .ishl, 1), (66, .ior, 1), (67, .istore_n 3, 1), (68, .goto 60, 3), (71, .iload_n 3, 1), (72, .iload 5, 2), (74, .ishr, 1), (75, .iconst 1, 1), (76, .iand, 1), (77, .ifCond .ne 51, 3), (80, .aload_n 1, 1), (81, .iload 6, 2), (83, .iload 7, 2), (85, .invokevirtual 95, 3), (88, .iload_n 3, 1), (89, .iconst (-1), 1), (90, .ixor, 1), (91, .iand, 1), (92, .ifCond .ne 36, 3), (95, .aload_n 0, 1), (96, .getfield 11, 3), (99, .iload 5, 2), (101, .aaload, 1), (102, .invokevirtual 57, 3), (105, .aload_n 0, 1), (106, .aload_n 1, 1), (107, .iload 6, 2), (109, .iload 7, 2), (111, .aload_n 0, 1), (112, .getfield 11, 3), (115, .iload 5, 2), (117, .aaload, 1), (118, .invokevirtual 60, 3), (121, .iload_n 3, 1), (122, .iconst 1, 1), (123, .iload 5, 2), (125, .ishl, 1), (126, .ior, 1), (127, .istore_n 3, 1), (128, .iinc 5 1, 3), (131, .goto (-116), 3), (134, .iinc 4 1, 3), (137, .goto (-132), 3), (140, .return_, 1)]
set_option maxRecDepth 100000 in
theorem DX0_becomeWholeOf_ok : ∀ q ∈ DX0_becomeWholeOf, decode cX0_becomeWholeOf q.1 = .ok q.2 := by decide +kernel
def DX1_init : List (Nat × Instr × Nat) := [(0, .aload_n 0, 1), (1, .invokespecial 3, 3), (4, .aload_n 0, 1), (5, .new 9, 3), (8, .dup, 1), (9, .bipush 32, 2), (11, .invokespecial 13, 3), (14, .putfield 16, 3), (17, .aload_n 0, 1), (18, .bipush 32, 2), (20, .newarray .int, 2), (22, .putfield 20, 3), (25, .aload_n 0, 1), (26, .bipush 32, 2), (28, .newarray .int, 2), (30, .putfield 24, 3), (33, .aload_n 0, 1), (34, .bipush 8, 2), (36, .newarray .int, 2), (38, .putfield 27, 3), (41, .aload_n 0, 1), (42, .new 30, 3), (45, .dup, 1), (46, .invokespecial 32, 3), (49, .putfield 33, 3), (52, .return_, 1)]
set_option maxRecDepth 100000 in
theorem DX1_init_ok : ∀ q ∈ DX1_init, decode cX1_init q.1 = .ok q.2 := by decide +kernel
def DX1_makeAlike : List (Nat × Instr × Nat) := [(0, .aload_n 0, 1), (1, .getfield 16, 3), (4, .aload_n 1, 1), (5, .aload_n 2, 1), (6, .invokevirtual 37, 3), (9, .iconst 0, 1), (10, .istore_n 3, 1), (11, .iload_n 3, 1), (12, .bipush 32, 2), (14, .if_icmp .ge 48, 3), (17, .aload_n 0, 1), (18, .getfield 20, 3), (21, .iload_n 3, 1), (22, .aload_n 0, 1), (23, .getfield 16, 3), (26, .iload_n 3, 1), (27, .invokevirtual 41, 3), (30, .iastore, 1), (31, .aload_n 0, 1), (32, .getfield 24, 3), (35, .iload_n 3, 1), (36, .aload_n 0, 1), (37, .getfield 16, 3), (40, .iload_n 3, 1), (41, .invokevirtual 45, 3), (44, .invokestatic 48, 3), (47, .ifCond .eq 7, 3), (50, .iload_n 3, 1), (51, .goto 4, 3), (54, .iconst (-1), 1), (55, .iastore, 1), (56, .iinc 3 1, 3), (59, .goto (-48), 3), (62, .aload_n 0, 1), (63, .getfield 33, 3), (66, .invokevirtual 52, 3), (69, .aload_n 0, 1), (70, .getfield 33, 3), (73, .iconst 0, 1), (74, .aload_n 1, 1), (75, .invokevirtual 55, 3), (78, .invokevirtual 59, 3), (81, .iconst 1, 1), (82, .istore_n 3, 1), (83, .iconst 0, 1), (84, .istore 4, 2), (86, .iload 4, 2), (88, .ldc 63, 2), (90, .if_icmp .ge 95, 3), (93, .iload_n 3, 1), (94, .ifCond .eq 91, 3), (97, .aload_n 0, 1), (98, .getfield 33, 3), (101, .invokevirtual 64, 3), (104, .ifCond .le 81, 3), (107, .aload_n 0, 1), (108, .getfield 33, 3), (111, .invokevirtual 64, 3), (114, .iconst 1, 1), (115, .isub, 1), (116, .istore 5, 2), (118, .aload_n 0, 1), (119, .aload_n 0, 1), (120, .getfield 33, 3), (123, .iload 5, 2), (125, .invokevirtual 65, 3), (128, .invokevirtual 68, 3), (131, .istore 6, 2), (133, .aload_n 0, 1), (134, .aload_n 0, 1), (135, .getfield 33, 3), (138, .iload 5, 2), (140, .invokevirtual 71, 3), (143, .invokevirtual 68, 3), (146, .istore 7, 2), (148, .aload_n 0, 1), (149, .getfield 33, 3), (152, .invokevirtual 74, 3), (155, .iload 6, 2), (157, .iload 7, 2), (159, .if_icmp .eq 14, 3), (162, .aload_n 0, 1), (163, .iload 6, 2), (165, .iload 7, 2), (167, .invokevirtual 77, 3), (170, .ifCond .eq 7, 3), (173, .iconst 1, 1), (174, .goto 4, 3), (177, .iconst 0, 1), (178, .istore_n 3, 1), (179, .iinc 4 1, 3), (182, .goto (-96), 3), (185, .iload_n 3, 1), (186, .ifCond .eq 14, 3), (189, .aload_n 0, 1), (190, .invokevirtual 81, 3), (193, .ifCond .eq 7, 3), (196, .iconst 1, 1), (197, .goto 4, 3), (200, .iconst 0, 1), (201, .ireturn, 1)]
set_option maxRecDepth 100000 in
theorem DX1_makeAlike_ok : ∀ q ∈ DX1_makeAlike, decode cX1_makeAlike q.1 = .ok q.2 := by decide +kernel
def DX1_tellInto : List (Nat × Instr × Nat) := [(0, .iconst 0, 1), (1, .istore_n 2, 1), (2, .iload_n 2, 1), (3, .bipush 8, 2), (5, .if_icmp .ge 20, 3), (8, .aload_n 0, 1), (9, .getfield 27, 3), (12, .iload_n 2, 1), (13, .aload_n 0, 1), (14, .iload_n 2, 1), (15, .invokevirtual 85, 3), (18, .iastore, 1), (19, .iinc 2 1, 3), (22, .goto (-20), 3), (25, .aload_n 1, 1), (26, .aload_n 0, 1), (27, .getfield 16, 3), (30, .aload_n 0, 1), (31, .getfield 27, 3), (34, .invokevirtual 88, 3), (37, .return_, 1)]
set_option maxRecDepth 100000 in
theorem DX1_tellInto_ok : ∀ q ∈ DX1_tellInto, decode cX1_tellInto q.1 = .ok q.2 := by decide +kernel
def DX1_classAt : List (Nat × Instr × Nat) := [(0, .iload_n 1, 1), (1, .ifCond .lt 18, 3), (4, .iload_n 1, 1), (5, .bipush 32, 2), (7, .if_icmp .ge 12, 3), (10, .aload_n 0, 1), (11, .getfield 20, 3), (14, .iload_n 1, 1), (15, .iaload, 1), (16, .goto 4, 3), (19, .iconst (-1), 1), (20, .ireturn, 1)]
set_option maxRecDepth 100000 in
theorem DX1_classAt_ok : ∀ q ∈ DX1_classAt, decode cX1_classAt q.1 = .ok q.2 := by decide +kernel
def DX1_headAt : List (Nat × Instr × Nat) := [(0, .iload_n 1, 1), (1, .ifCond .lt 18, 3), (4, .iload_n 1, 1), (5, .bipush 32, 2), (7, .if_icmp .ge 12, 3), (10, .aload_n 0, 1), (11, .getfield 24, 3), (14, .iload_n 1, 1), (15, .iaload, 1), (16, .goto 4, 3), (19, .iconst (-1), 1), (20, .ireturn, 1)]
set_option maxRecDepth 100000 in
theorem DX1_headAt_ok : ∀ q ∈ DX1_headAt, decode cX1_headAt q.1 = .ok q.2 := by decide +kernel
def DX1_join : List (Nat × Instr × Nat) := [(0, .aload_n 0, 1), (1, .iload_n 1, 1), (2, .invokevirtual 94, 3), (5, .istore_n 3, 1), (6, .aload_n 0, 1), (7, .iload_n 2, 1), (8, .invokevirtual 94, 3), (11, .istore 4, 2), (13, .iload_n 3, 1), (14, .iconst (-1), 1), (15, .if_icmp .eq 45, 3), (18, .iload 4, 2), (20, .iconst (-1), 1), (21, .if_icmp .eq 39, 3), (24, .aload_n 0, 1), (25, .getfield 16, 3), (28, .iload_n 3, 1), (29, .invokevirtual 45, 3), (32, .aload_n 0, 1), (33, .getfield 16, 3), (36, .iload 4, 2), (38, .invokevirtual 45, 3), (41, .if_icmp .eq 5, 3), (44, .iconst 0, 1), (45, .ireturn, 1), (46, .aload_n 0, 1), (47, .getfield 33, 3), (50, .aload_n 0, 1), (51, .getfield 16, 3), (54, .iload_n 3, 1), (55, .iload 4, 2), (57, .invokevirtual 97, 3), (60, .iconst 0, 1), (61, .istore 5, 2), (63, .iload 5, 2), (65, .bipush 32, 2), (67, .if_icmp .ge 28, 3), (70, .aload_n 0, 1), (71, .getfield 20, 3), (74, .iload 5, 2), (76, .iaload, 1), (77, .iload_n 2, 1), (78, .if_icmp .ne 11, 3), (81, .aload_n 0, 1), (82, .getfield 20, 3), (85, .iload 5, 2), (87, .iload_n 1, 1), (88, .iastore, 1), (89, .iinc 5 1, 3), (92, .goto (-29), 3), (95, .iload_n 1, 1), (96, .ifCond .lt 22, 3), (99, .iload_n 1, 1), (100, .bipush 32, 2), (102, .if_icmp .ge 16, 3), (105, .iload_n 3, 1), (106, .iconst (-1), 1), (107, .if_icmp .ne 11, 3), (110, .aload_n 0, 1), (111, .getfield 24, 3), (114, .iload_n 1, 1), (115, .iload 4, 2), (117, .iastore, 1), (118, .iconst 1, 1), (119, .ireturn, 1)]
set_option maxRecDepth 100000 in
theorem DX1_join_ok : ∀ q ∈ DX1_join, decode cX1_join q.1 = .ok q.2 := by decide +kernel
def DX1_isNoneInItself : List (Nat × Instr × Nat) := [(0, .lconst 0, 1), (1, .lstore_n 1, 1), (2, .aload_n 0, 1), (3, .getfield 16, 3), (6, .invokevirtual 55, 3), (9, .bipush 32, 2), (11, .invokestatic 101, 3), (14, .istore_n 3, 1), (15, .iload_n 3, 1), (16, .istore 4, 2), (18, .iconst 0, 1), (19, .istore 5, 2), (21, .iload 5, 2), (23, .bipush 32, 2), (25, .if_icmp .ge 65, 3), (28, .iload 4, 2), (30, .ifCond .le 60, 3), (33, .iconst 0, 1), (34, .istore 4, 2), (36, .iconst 0, 1), (37, .istore 6, 2), (39, .iload 6, 2), (41, .iload_n 3, 1), (42, .if_icmp .ge 42, 3), (45, .aload_n 0, 1), (46, .aload_n 0, 1), (47, .getfield 20, 3), (50, .iload 6, 2), (52, .iaload, 1), (53, .lload_n 1, 1), (54, .invokevirtual 107, 3), (57, .ifCond .eq 18, 3), (60, .lload_n 1, 1), (61, .lconst 1, 1), (62, .aload_n 0, 1), (63, .getfield 20, 3), (66, .iload 6, 2), (68, .iaload, 1), (69, .lshl, 1), (70, .lor, 1), (71, .lstore_n 1, 1), (72, .goto 6, 3), (75, .iinc 4 1, 3), (78, .iinc 6 1, 3), (81, .goto (-42), 3), (84, .iinc 5 1, 3), (87, .goto (-66), 3), (90, .iload 4, 2), (92, .ifCond .ne 7, 3), (95, .iconst 1, 1), (96, .goto 4, 3), (99, .iconst 0, 1), (100, .ireturn, 1)]
set_option maxRecDepth 100000 in
theorem DX1_isNoneInItself_ok : ∀ q ∈ DX1_isNoneInItself, decode cX1_isNoneInItself q.1 = .ok q.2 := by decide +kernel
def DX1_isClear : List (Nat × Instr × Nat) := [(0, .aload_n 0, 1), (1, .iload_n 1, 1), (2, .invokevirtual 94, 3), (5, .istore 4, 2), (7, .iload 4, 2), (9, .iconst (-1), 1), (10, .if_icmp .ne 5, 3), (13, .iconst 1, 1), (14, .ireturn, 1), (15, .iload 4, 2), (17, .iconst 1, 1), (18, .iadd, 1), (19, .istore 5, 2), (21, .aload_n 0, 1), (22, .getfield 16, 3), (25, .iload 4, 2), (27, .invokevirtual 45, 3), (30, .invokestatic 111, 3), (33, .istore 6, 2), (35, .iload 6, 2), (37, .ifCond .le 37, 3), (40, .lload_n 2, 1), (41, .aload_n 0, 1), (42, .iload 5, 2), (44, .invokevirtual 68, 3), (47, .lshr, 1), (48, .lconst 1, 1), (49, .land, 1), (50, .lconst 0, 1), (51, .lcmp, 1), (52, .ifCond .ne 5, 3), (55, .iconst 0, 1), (56, .ireturn, 1), (57, .aload_n 0, 1), (58, .getfield 16, 3), (61, .iload 5, 2), (63, .invokevirtual 114, 3), (66, .istore 5, 2), (68, .iinc 6 (-1), 3), (71, .goto (-36), 3), (74, .iconst 1, 1), (75, .ireturn, 1)]
set_option maxRecDepth 100000 in
theorem DX1_isClear_ok : ∀ q ∈ DX1_isClear, decode cX1_isClear q.1 = .ok q.2 := by decide +kernel
def DX1_placeFor : List (Nat × Instr × Nat) := [(0, .aload_n 0, 1), (1, .getfield 16, 3), (4, .iload_n 1, 1), (5, .invokevirtual 117, 3), (8, .istore_n 2, 1), (9, .aload_n 0, 1), (10, .iload_n 2, 1), (11, .invokevirtual 68, 3), (14, .istore_n 3, 1), (15, .iload_n 2, 1), (16, .iconst (-1), 1), (17, .if_icmp .eq 12, 3), (20, .aload_n 0, 1), (21, .iload_n 3, 1), (22, .invokevirtual 94, 3), (25, .iconst (-1), 1), (26, .if_icmp .eq 9, 3), (29, .aload_n 0, 1), (30, .iload_n 3, 1), (31, .invokevirtual 94, 3), (34, .ireturn, 1), (35, .iload_n 2, 1), (36, .istore 4, 2), (38, .iconst 0, 1), (39, .istore 5, 2), (41, .iload 5, 2), (43, .aload_n 0, 1), (44, .getfield 16, 3), (47, .invokevirtual 55, 3), (50, .if_icmp .ge 52, 3), (53, .iload 5, 2), (55, .bipush 32, 2), (57, .if_icmp .ge 45, 3), (60, .aload_n 0, 1), (61, .getfield 20, 3), (64, .iload 5, 2), (66, .iaload, 1), (67, .iload_n 3, 1), (68, .if_icmp .ne 28, 3), (71, .aload_n 0, 1), (72, .getfield 16, 3), (75, .iload 5, 2), (77, .invokevirtual 45, 3), (80, .aload_n 0, 1), (81, .getfield 16, 3), (84, .iload 4, 2), (86, .invokevirtual 45, 3), (89, .if_icmp .ge 7, 3), (92, .iload 5, 2), (94, .istore 4, 2), (96, .iinc 5 1, 3), (99, .goto (-58), 3), (102, .aload_n 0, 1), (103, .getfield 16, 3), (106, .iload 4, 2), (108, .invokevirtual 45, 3), (111, .iload_n 1, 1), (112, .if_icmp .ne 7, 3), (115, .iconst (-1), 1), (116, .goto 5, 3), (119, .iload 4, 2), (121, .ireturn, 1)]
set_option maxRecDepth 100000 in
theorem DX1_placeFor_ok : ∀ q ∈ DX1_placeFor, decode cX1_placeFor q.1 = .ok q.2 := by decide +kernel
def DX2_init : List (Nat × Instr × Nat) := [(0, .aload_n 0, 1), (1, .invokespecial 3, 3), (4, .aload_n 0, 1), (5, .sipush 128, 3), (8, .newarray .int, 2), (10, .putfield 11, 3), (13, .aload_n 0, 1), (14, .sipush 128, 3), (17, .newarray .int, 2), (19, .putfield 15, 3), (22, .return_, 1)]
set_option maxRecDepth 100000 in
theorem DX2_init_ok : ∀ q ∈ DX2_init, decode cX2_init q.1 = .ok q.2 := by decide +kernel
def DX2_empty : List (Nat × Instr × Nat) := [(0, .aload_n 0, 1), (1, .iconst 0, 1), (2, .putfield 18, 3), (5, .return_, 1)]
set_option maxRecDepth 100000 in
theorem DX2_empty_ok : ∀ q ∈ DX2_empty, decode cX2_empty q.1 = .ok q.2 := by decide +kernel
def DX2_length : List (Nat × Instr × Nat) := [(0, .aload_n 0, 1), (1, .getfield 18, 3), (4, .ireturn, 1)]
set_option maxRecDepth 100000 in
theorem DX2_length_ok : ∀ q ∈ DX2_length, decode cX2_length q.1 = .ok q.2 := by decide +kernel
def DX2_add : List (Nat × Instr × Nat) := [(0, .aload_n 0, 1), (1, .getfield 18, 3), (4, .ifCond .lt 43, 3), (7, .aload_n 0, 1), (8, .getfield 18, 3), (11, .sipush 128, 3), (14, .if_icmp .ge 33, 3), (17, .aload_n 0, 1), (18, .getfield 11, 3), (21, .aload_n 0, 1), (22, .getfield 18, 3), (25, .iload_n 1, 1), (26, .iastore, 1), (27, .aload_n 0, 1), (28, .getfield 15, 3), (31, .aload_n 0, 1), (32, .getfield 18, 3), (35, .iload_n 2, 1), (36, .iastore, 1), (37, .aload_n 0, 1), (38, .dup, 1), (39, .getfield 18, 3), (42, .iconst 1, 1), (43, .iadd, 1), (44, .putfield 18, 3), (47, .return_, 1)]
set_option maxRecDepth 100000 in
theorem DX2_add_ok : ∀ q ∈ DX2_add, decode cX2_add q.1 = .ok q.2 := by decide +kernel
def DX2_oneAt : List (Nat × Instr × Nat) := [(0, .iload_n 1, 1), (1, .ifCond .lt 27, 3), (4, .iload_n 1, 1), (5, .aload_n 0, 1), (6, .getfield 18, 3), (9, .if_icmp .ge 19, 3), (12, .iload_n 1, 1), (13, .sipush 128, 3), (16, .if_icmp .ge 12, 3), (19, .aload_n 0, 1), (20, .getfield 11, 3), (23, .iload_n 1, 1), (24, .iaload, 1), (25, .goto 4, 3), (28, .iconst (-1), 1), (29, .ireturn, 1)]
set_option maxRecDepth 100000 in
theorem DX2_oneAt_ok : ∀ q ∈ DX2_oneAt, decode cX2_oneAt q.1 = .ok q.2 := by decide +kernel
def DX2_otherAt : List (Nat × Instr × Nat) := [(0, .iload_n 1, 1), (1, .ifCond .lt 27, 3), (4, .iload_n 1, 1), (5, .aload_n 0, 1), (6, .getfield 18, 3), (9, .if_icmp .ge 19, 3), (12, .iload_n 1, 1), (13, .sipush 128, 3), (16, .if_icmp .ge 12, 3), (19, .aload_n 0, 1), (20, .getfield 15, 3), (23, .iload_n 1, 1), (24, .iaload, 1), (25, .goto 4, 3), (28, .iconst (-1), 1), (29, .ireturn, 1)]
set_option maxRecDepth 100000 in
theorem DX2_otherAt_ok : ∀ q ∈ DX2_otherAt, decode cX2_otherAt q.1 = .ok q.2 := by decide +kernel
def DX2_dropNext : List (Nat × Instr × Nat) := [(0, .aload_n 0, 1), (1, .getfield 18, 3), (4, .ifCond .le 13, 3), (7, .aload_n 0, 1), (8, .dup, 1), (9, .getfield 18, 3), (12, .iconst 1, 1), (13, .isub, 1), (14, .putfield 18, 3), (17, .return_, 1)]
set_option maxRecDepth 100000 in
theorem DX2_dropNext_ok : ∀ q ∈ DX2_dropNext, decode cX2_dropNext q.1 = .ok q.2 := by decide +kernel
def DX2_addParts : List (Nat × Instr × Nat) := [(0, .aload_n 1, 1), (1, .iload_n 2, 1), (2, .invokevirtual 22, 3), (5, .invokestatic 28, 3), (8, .istore 4, 2), (10, .aload_n 0, 1), (11, .getfield 18, 3), (14, .ifCond .lt 16, 3), (17, .aload_n 0, 1), (18, .getfield 18, 3), (21, .iload 4, 2), (23, .iadd, 1), (24, .sipush 128, 3), (27, .if_icmp .le 4, 3), (30, .return_, 1), (31, .iload_n 2, 1), (32, .iconst 1, 1), (33, .iadd, 1), (34, .istore 5, 2), (36, .iload_n 3, 1), (37, .iconst 1, 1), (38, .iadd, 1), (39, .istore 6, 2), (41, .aload_n 0, 1), (42, .getfield 18, 3), (45, .iload 4, 2), (47, .iadd, 1), (48, .iconst 1, 1), (49, .isub, 1), (50, .istore 7, 2), (52, .iload 7, 2), (54, .aload_n 0, 1), (55, .getfield 18, 3), (58, .if_icmp .lt 43, 3), (61, .aload_n 0, 1), (62, .getfield 11, 3), (65, .iload 7, 2), (67, .iload 5, 2), (69, .iastore, 1), (70, .aload_n 0, 1), (71, .getfield 15, 3), (74, .iload 7, 2), (76, .iload 6, 2), (78, .iastore, 1), (79, .aload_n 1, 1), (80, .iload 5, 2), (82, .invokevirtual 31, 3), (85, .istore 5, 2), (87, .aload_n 1, 1), (88, .iload 6, 2), (90, .invokevirtual 31, 3), (93, .istore 6, 2), (95, .iinc 7 (-1), 3), (98, .goto (-46), 3), (101, .aload_n 0, 1), (102, .dup, 1), (103, .getfield 18, 3), (106, .iload 4, 2), (108, .iadd, 1), (109, .putfield 18, 3), (112, .return_, 1)]
set_option maxRecDepth 100000 in
theorem DX2_addParts_ok : ∀ q ∈ DX2_addParts, decode cX2_addParts q.1 = .ok q.2 := by decide +kernel
def DX3_init : List (Nat × Instr × Nat) := [(0, .aload_n 0, 1), (1, .invokespecial 3, 3), (4, .aload_n 0, 1), (5, .new 9, 3), (8, .dup, 1), (9, .invokespecial 11, 3), (12, .putfield 12, 3), (15, .return_, 1)]
set_option maxRecDepth 100000 in
theorem DX3_init_ok : ∀ q ∈ DX3_init, decode cX3_init q.1 = .ok q.2 := by decide +kernel
def DX3_drawInto : List (Nat × Instr × Nat) := [(0, .aload_n 0, 1), (1, .getfield 12, 3), (4, .invokevirtual 18, 3), (7, .aload_n 3, 1), (8, .invokevirtual 21, 3), (11, .iconst 0, 1), (12, .istore 4, 2), (14, .iconst 0, 1), (15, .istore 5, 2), (17, .iconst 0, 1), (18, .istore 6, 2), (20, .iload 6, 2), (22, .bipush 16, 2), (24, .if_icmp .ge 90, 3), (27, .iload 4, 2), (29, .aload_n 1, 1), (30, .invokevirtual 24, 3), (33, .if_icmp .ge 81, 3), (36, .aload_n 1, 1), (37, .iload 4, 2), (39, .invokevirtual 28, 3), (42, .istore 7, 2), (44, .iload 7, 2), (46, .invokestatic 32, 3), (49, .ifCond .eq 29, 3), (52, .iload 7, 2), (54, .aload_n 2, 1), (55, .iload 5, 2), (57, .invokevirtual 28, 3), (60, .if_icmp .ne 18, 3), (63, .aload_n 3, 1), (64, .iload 7, 2), (66, .invokevirtual 36, 3), (69, .iinc 4 1, 3), (72, .iinc 5 1, 3), (75, .goto 33, 3), (78, .aload_n 3, 1), (79, .aload_n 0, 1), (80, .aload_n 1, 1), (81, .iload 4, 2), (83, .aload_n 2, 1), (84, .iload 5, 2), (86, .invokevirtual 40, 3), (89, .invokevirtual 36, 3), (92, .aload_n 1, 1), (93, .iload 4, 2), (95, .invokevirtual 44, 3), (98, .istore 4, 2), (100, .aload_n 2, 1), (101, .iload 5, 2), (103, .invokevirtual 44, 3), (106, .istore 5, 2), (108, .iinc 6 1, 3), (111, .goto (-91), 3), (114, .aload_n 0, 1), (115, .getfield 12, 3), (118, .invokevirtual 47, 3), (121, .bipush 8, 2), (123, .if_icmp .gt 7, 3), (126, .iconst 1, 1), (127, .goto 4, 3), (130, .iconst 0, 1), (131, .ireturn, 1)]
set_option maxRecDepth 100000 in
theorem DX3_drawInto_ok : ∀ q ∈ DX3_drawInto, decode cX3_drawInto q.1 = .ok q.2 := by decide +kernel
def DX3_nameFor : List (Nat × Instr × Nat) := [(0, .iconst 0, 1), (1, .istore 5, 2), (3, .iload 5, 2), (5, .aload_n 0, 1), (6, .getfield 12, 3), (9, .invokevirtual 47, 3), (12, .if_icmp .ge 49, 3), (15, .aload_n 1, 1), (16, .aload_n 0, 1), (17, .getfield 12, 3), (20, .iload 5, 2), (22, .invokevirtual 48, 3), (25, .aload_n 1, 1), (26, .iload_n 2, 1), (27, .invokevirtual 51, 3), (30, .ifCond .eq 25, 3), (33, .aload_n 3, 1), (34, .aload_n 0, 1), (35, .getfield 12, 3), (38, .iload 5, 2), (40, .invokevirtual 55, 3), (43, .aload_n 3, 1), (44, .iload 4, 2), (46, .invokevirtual 51, 3), (49, .ifCond .eq 6, 3), (52, .iload 5, 2), (54, .ireturn, 1), (55, .iinc 5 1, 3), (58, .goto (-55), 3), (61, .aload_n 0, 1), (62, .getfield 12, 3), (65, .iload_n 2, 1), (66, .iload 4, 2), (68, .invokevirtual 58, 3), (71, .aload_n 0, 1), (72, .getfield 12, 3), (75, .invokevirtual 47, 3), (78, .iconst 1, 1), (79, .isub, 1), (80, .ireturn, 1)]
set_option maxRecDepth 100000 in
theorem DX3_nameFor_ok : ∀ q ∈ DX3_nameFor, decode cX3_nameFor q.1 = .ok q.2 := by decide +kernel
def DX4_init : List (Nat × Instr × Nat) := [(0, .aload_n 0, 1), (1, .invokespecial 3, 3), (4, .aload_n 0, 1), (5, .new 9, 3), (8, .dup, 1), (9, .bipush 32, 2), (11, .invokespecial 11, 3), (14, .putfield 14, 3), (17, .aload_n 0, 1), (18, .bipush 8, 2), (20, .newarray .int, 2), (22, .putfield 20, 3), (25, .aload_n 0, 1), (26, .new 24, 3), (29, .dup, 1), (30, .invokespecial 26, 3), (33, .putfield 27, 3), (36, .return_, 1)]
set_option maxRecDepth 100000 in
theorem DX4_init_ok : ∀ q ∈ DX4_init, decode cX4_init q.1 = .ok q.2 := by decide +kernel
def DX4_makeAlike : List (Nat × Instr × Nat) := [(0, .aload_n 0, 1), (1, .getfield 14, 3), (4, .aload_n 1, 1), (5, .aload_n 2, 1), (6, .invokevirtual 31, 3), (9, .aload_n 0, 1), (10, .getfield 20, 3), (13, .iconst (-1), 1), (14, .invokestatic 35, 3), (17, .aload_n 0, 1), (18, .getfield 27, 3), (21, .invokevirtual 41, 3), (24, .aload_n 0, 1), (25, .getfield 27, 3), (28, .iconst 0, 1), (29, .aload_n 1, 1), (30, .invokevirtual 44, 3), (33, .invokevirtual 48, 3), (36, .aload_n 0, 1), (37, .iconst 0, 1), (38, .putfield 52, 3), (41, .aload_n 0, 1), (42, .iconst 0, 1), (43, .putfield 56, 3), (46, .iconst 0, 1), (47, .istore_n 3, 1), (48, .iload_n 3, 1), (49, .ldc 59, 2), (51, .if_icmp .ge 30, 3), (54, .aload_n 0, 1), (55, .getfield 27, 3), (58, .invokevirtual 60, 3), (61, .ifCond .le 20, 3), (64, .aload_n 0, 1), (65, .getfield 56, 3), (68, .ifCond .ne 13, 3), (71, .aload_n 0, 1), (72, .invokevirtual 61, 3), (75, .iinc 3 1, 3), (78, .goto (-30), 3), (81, .aload_n 0, 1), (82, .getfield 56, 3), (85, .ifCond .ne 7, 3), (88, .iconst 1, 1), (89, .goto 4, 3), (92, .iconst 0, 1), (93, .ireturn, 1)]
set_option maxRecDepth 100000 in
theorem DX4_makeAlike_ok : ∀ q ∈ DX4_makeAlike, decode cX4_makeAlike q.1 = .ok q.2 := by decide +kernel
def DX4_tellInto : List (Nat × Instr × Nat) := [(0, .aload_n 1, 1), (1, .aload_n 0, 1), (2, .getfield 14, 3), (5, .aload_n 0, 1), (6, .getfield 20, 3), (9, .invokevirtual 64, 3), (12, .return_, 1)]
set_option maxRecDepth 100000 in
theorem DX4_tellInto_ok : ∀ q ∈ DX4_tellInto, decode cX4_tellInto q.1 = .ok q.2 := by decide +kernel
def DX4_stepsTaken : List (Nat × Instr × Nat) := [(0, .aload_n 0, 1), (1, .getfield 52, 3), (4, .ireturn, 1)]
set_option maxRecDepth 100000 in
theorem DX4_stepsTaken_ok : ∀ q ∈ DX4_stepsTaken, decode cX4_stepsTaken q.1 = .ok q.2 := by decide +kernel
def DX4_howEnded : List (Nat × Instr × Nat) := [(0, .aload_n 0, 1), (1, .getfield 56, 3), (4, .ireturn, 1)]
set_option maxRecDepth 100000 in
theorem DX4_howEnded_ok : ∀ q ∈ DX4_howEnded, decode cX4_howEnded q.1 = .ok q.2 := by decide +kernel
def DX4_takeStep : List (Nat × Instr × Nat) := [(0, .aload_n 0, 1), (1, .dup, 1), (2, .getfield 52, 3), (5, .iconst 1, 1), (6, .iadd, 1), (7, .putfield 52, 3), (10, .aload_n 0, 1), (11, .getfield 27, 3), (14, .invokevirtual 60, 3), (17, .iconst 1, 1), (18, .isub, 1), (19, .istore_n 1, 1), (20, .aload_n 0, 1), (21, .aload_n 0, 1), (22, .getfield 27, 3), (25, .iload_n 1, 1), (26, .invokevirtual 70, 3), (29, .invokevirtual 74, 3), (32, .istore_n 2, 1), (33, .aload_n 0, 1), (34, .aload_n 0, 1), (35, .getfield 27, 3), (38, .iload_n 1, 1), (39, .invokevirtual 77, 3), (42, .invokevirtual 74, 3), (45, .istore_n 3, 1), (46, .aload_n 0, 1), (47, .getfield 27, 3), (50, .invokevirtual 80, 3), (53, .aload_n 0, 1), (54, .getfield 14, 3), (57, .iload_n 2, 1), (58, .invokevirtual 83, 3), (61, .istore 4, 2), (63, .aload_n 0, 1), (64, .getfield 14, 3), (67, .iload_n 3, 1), (68, .invokevirtual 83, 3), (71, .istore 5, 2), (73, .iload 4, 2), (75, .invokestatic 86, 3), (78, .ifCond .eq 20, 3), (81, .iload 5, 2), (83, .invokestatic 86, 3), (86, .ifCond .eq 12, 3), (89, .aload_n 0, 1), (90, .iload_n 2, 1), (91, .iload_n 3, 1), (92, .invokevirtual 90, 3), (95, .goto 67, 3), (98, .iload 4, 2), (100, .invokestatic 86, 3), (103, .ifCond .eq 13, 3), (106, .aload_n 0, 1), (107, .iload 4, 2), (109, .iload_n 3, 1), (110, .invokevirtual 93, 3), (113, .goto 49, 3), (116, .iload 5, 2), (118, .invokestatic 86, 3), (121, .ifCond .eq 13, 3), (124, .aload_n 0, 1), (125, .iload 5, 2), (127, .iload_n 2, 1), (128, .invokevirtual 93, 3), (131, .goto 31, 3), (134, .iload 4, 2), (136, .iload 5, 2), (138, .if_icmp .eq 11, 3), (141, .aload_n 0, 1), (142, .iconst 1, 1), (143, .putfield 56, 3), (146, .goto 16, 3), (149, .aload_n 0, 1), (150, .getfield 27, 3), (153, .aload_n 0, 1), (154, .getfield 14, 3), (157, .iload_n 2, 1), (158, .iload_n 3, 1), (159, .invokevirtual 96, 3), (162, .return_, 1)]
set_option maxRecDepth 100000 in
theorem DX4_takeStep_ok : ∀ q ∈ DX4_takeStep, decode cX4_takeStep q.1 = .ok q.2 := by decide +kernel
def DX4_lookedUp : List (Nat × Instr × Nat) := [(0, .iload_n 1, 1), (1, .istore_n 2, 1), (2, .iconst 0, 1), (3, .istore_n 3, 1), (4, .iload_n 3, 1), (5, .bipush 8, 2), (7, .if_icmp .ge 48, 3), (10, .aload_n 0, 1), (11, .getfield 14, 3), (14, .iload_n 2, 1), (15, .invokevirtual 83, 3), (18, .istore 4, 2), (20, .iload 4, 2), (22, .invokestatic 86, 3), (25, .ifCond .eq 14, 3), (28, .aload_n 0, 1), (29, .getfield 20, 3), (32, .iload 4, 2), (34, .iaload, 1), (35, .iconst (-1), 1), (36, .if_icmp .ne 5, 3), (39, .iload_n 2, 1), (40, .ireturn, 1), (41, .aload_n 0, 1), (42, .getfield 20, 3), (45, .iload 4, 2), (47, .iaload, 1), (48, .istore_n 2, 1), (49, .iinc 3 1, 3), (52, .goto (-48), 3), (55, .iload_n 2, 1), (56, .ireturn, 1)]
set_option maxRecDepth 100000 in
theorem DX4_lookedUp_ok : ∀ q ∈ DX4_lookedUp, decode cX4_lookedUp q.1 = .ok q.2 := by decide +kernel
def DX4_joinNames : List (Nat × Instr × Nat) := [(0, .aload_n 0, 1), (1, .getfield 14, 3), (4, .iload_n 1, 1), (5, .invokevirtual 83, 3), (8, .istore_n 3, 1), (9, .aload_n 0, 1), (10, .getfield 14, 3), (13, .iload_n 2, 1), (14, .invokevirtual 83, 3), (17, .istore 4, 2), (19, .iload_n 3, 1), (20, .invokestatic 86, 3), (23, .ifCond .eq 19, 3), (26, .iload_n 3, 1), (27, .iload 4, 2), (29, .if_icmp .le 13, 3), (32, .aload_n 0, 1), (33, .getfield 20, 3), (36, .iload_n 3, 1), (37, .iload_n 2, 1), (38, .iastore, 1), (39, .goto 25, 3), (42, .iload 4, 2), (44, .invokestatic 86, 3), (47, .ifCond .eq 17, 3), (50, .iload 4, 2), (52, .iload_n 3, 1), (53, .if_icmp .le 11, 3), (56, .aload_n 0, 1), (57, .getfield 20, 3), (60, .iload 4, 2), (62, .iload_n 1, 1), (63, .iastore, 1), (64, .return_, 1)]
set_option maxRecDepth 100000 in
theorem DX4_joinNames_ok : ∀ q ∈ DX4_joinNames, decode cX4_joinNames q.1 = .ok q.2 := by decide +kernel
def DX4_standFor : List (Nat × Instr × Nat) := [(0, .aload_n 0, 1), (1, .getfield 14, 3), (4, .iload_n 2, 1), (5, .aload_n 0, 1), (6, .getfield 14, 3), (9, .iload_n 2, 1), (10, .invokevirtual 100, 3), (13, .invokevirtual 103, 3), (16, .istore_n 3, 1), (17, .iconst 0, 1), (18, .istore 4, 2), (20, .iload 4, 2), (22, .bipush 8, 2), (24, .if_icmp .ge 77, 3), (27, .iconst 0, 1), (28, .istore 5, 2), (30, .iload 5, 2), (32, .bipush 8, 2), (34, .if_icmp .ge 61, 3), (37, .iload_n 3, 1), (38, .iload 5, 2), (40, .ishr, 1), (41, .iconst 1, 1), (42, .iand, 1), (43, .iconst 1, 1), (44, .if_icmp .ne 45, 3), (47, .aload_n 0, 1), (48, .getfield 20, 3), (51, .iload 5, 2), (53, .iaload, 1), (54, .iconst (-1), 1), (55, .if_icmp .eq 34, 3), (58, .iload_n 3, 1), (59, .aload_n 0, 1), (60, .getfield 14, 3), (63, .aload_n 0, 1), (64, .getfield 20, 3), (67, .iload 5, 2), (69, .iaload, 1), (70, .aload_n 0, 1), (71, .getfield 14, 3), (74, .aload_n 0, 1), (75, .getfield 20, 3), (78, .iload 5, 2), (80, .iaload, 1), (81, .invokevirtual 100, 3), (84, .invokevirtual 103, 3), (87, .ior, 1), (88, .istore_n 3, 1), (89, .iinc 5 1, 3), (92, .goto (-62), 3), (95, .iinc 4 1, 3), (98, .goto (-78), 3), (101, .iload_n 3, 1), (102, .iload_n 1, 1), (103, .ishr, 1), (104, .iconst 1, 1), (105, .iand, 1), (106, .iconst 1, 1), (107, .if_icmp .ne 11, 3), (110, .aload_n 0, 1), (111, .iconst 2, 1), (112, .putfield 56, 3), (115, .goto 17, 3), (118, .iload_n 1, 1), (119, .invokestatic 86, 3), (122, .ifCond .eq 10, 3), (125, .aload_n 0, 1), (126, .getfield 20, 3), (129, .iload_n 1, 1), (130, .iload_n 2, 1), (131, .iastore, 1), (132, .return_, 1)]
set_option maxRecDepth 100000 in
theorem DX4_standFor_ok : ∀ q ∈ DX4_standFor, decode cX4_standFor q.1 = .ok q.2 := by decide +kernel
def DX5_init : List (Nat × Instr × Nat) := [(0, .aload_n 0, 1), (1, .invokespecial 3, 3), (4, .aload_n 0, 1), (5, .iload_n 1, 1), (6, .iconst 0, 1), (7, .invokestatic 9, 3), (10, .newarray .int, 2), (12, .putfield 15, 3), (15, .return_, 1)]
set_option maxRecDepth 100000 in
theorem DX5_init_ok : ∀ q ∈ DX5_init, decode cX5_init q.1 = .ok q.2 := by decide +kernel
def DX5_empty : List (Nat × Instr × Nat) := [(0, .aload_n 0, 1), (1, .iconst 0, 1), (2, .putfield 21, 3), (5, .aload_n 0, 1), (6, .iconst 0, 1), (7, .putfield 25, 3), (10, .return_, 1)]
set_option maxRecDepth 100000 in
theorem DX5_empty_ok : ∀ q ∈ DX5_empty, decode cX5_empty q.1 = .ok q.2 := by decide +kernel
def DX5_add : List (Nat × Instr × Nat) := [(0, .aload_n 0, 1), (1, .getfield 21, 3), (4, .ifCond .lt 38, 3), (7, .aload_n 0, 1), (8, .getfield 21, 3), (11, .aload_n 0, 1), (12, .getfield 15, 3), (15, .arraylength, 1), (16, .if_icmp .ge 26, 3), (19, .aload_n 0, 1), (20, .getfield 15, 3), (23, .aload_n 0, 1), (24, .getfield 21, 3), (27, .iload_n 1, 1), (28, .iastore, 1), (29, .aload_n 0, 1), (30, .dup, 1), (31, .getfield 21, 3), (34, .iconst 1, 1), (35, .iadd, 1), (36, .putfield 21, 3), (39, .goto 8, 3), (42, .aload_n 0, 1), (43, .iconst 1, 1), (44, .putfield 25, 3), (47, .return_, 1)]
set_option maxRecDepth 100000 in
theorem DX5_add_ok : ∀ q ∈ DX5_add, decode cX5_add q.1 = .ok q.2 := by decide +kernel
def DX5_addRow : List (Nat × Instr × Nat) := [(0, .iload_n 2, 1), (1, .istore 4, 2), (3, .iload 4, 2), (5, .iload_n 3, 1), (6, .if_icmp .ge 19, 3), (9, .aload_n 0, 1), (10, .aload_n 1, 1), (11, .iload 4, 2), (13, .invokevirtual 29, 3), (16, .invokevirtual 33, 3), (19, .iinc 4 1, 3), (22, .goto (-19), 3), (25, .return_, 1)]
set_option maxRecDepth 100000 in
theorem DX5_addRow_ok : ∀ q ∈ DX5_addRow, decode cX5_addRow q.1 = .ok q.2 := by decide +kernel
def DX5_addTerm : List (Nat × Instr × Nat) := [(0, .iconst 0, 1), (1, .istore_n 2, 1), (2, .iload_n 2, 1), (3, .aload_n 1, 1), (4, .getfield 21, 3), (7, .if_icmp .ge 18, 3), (10, .aload_n 0, 1), (11, .aload_n 1, 1), (12, .iload_n 2, 1), (13, .invokevirtual 29, 3), (16, .invokevirtual 33, 3), (19, .iinc 2 1, 3), (22, .goto (-20), 3), (25, .aload_n 0, 1), (26, .aload_n 0, 1), (27, .getfield 25, 3), (30, .ifCond .ne 10, 3), (33, .aload_n 1, 1), (34, .getfield 25, 3), (37, .ifCond .eq 7, 3), (40, .iconst 1, 1), (41, .goto 4, 3), (44, .iconst 0, 1), (45, .putfield 25, 3), (48, .return_, 1)]
set_option maxRecDepth 100000 in
theorem DX5_addTerm_ok : ∀ q ∈ DX5_addTerm, decode cX5_addTerm q.1 = .ok q.2 := by decide +kernel
def DX5_becomeName : List (Nat × Instr × Nat) := [(0, .aload_n 0, 1), (1, .invokevirtual 37, 3), (4, .aload_n 0, 1), (5, .iload_n 1, 1), (6, .invokevirtual 33, 3), (9, .return_, 1)]
set_option maxRecDepth 100000 in
theorem DX5_becomeName_ok : ∀ q ∈ DX5_becomeName, decode cX5_becomeName q.1 = .ok q.2 := by decide +kernel
def DX5_becomeAs : List (Nat × Instr × Nat) := [(0, .aload_n 1, 1), (1, .aload_n 0, 1), (2, .if_acmp .eq 12, 3), (5, .aload_n 0, 1), (6, .invokevirtual 37, 3), (9, .aload_n 0, 1), (10, .aload_n 1, 1), (11, .invokevirtual 40, 3), (14, .return_, 1)]
set_option maxRecDepth 100000 in
theorem DX5_becomeAs_ok : ∀ q ∈ DX5_becomeAs, decode cX5_becomeAs q.1 = .ok q.2 := by decide +kernel
def DX5_becomePlainOf : List (Nat × Instr × Nat) := [(0, .aload_n 0, 1), (1, .invokevirtual 37, 3), (4, .iconst 0, 1), (5, .istore_n 2, 1), (6, .iload_n 2, 1), (7, .aload_n 1, 1), (8, .getfield 21, 3), (11, .if_icmp .ge 43, 3), (14, .aload_n 1, 1), (15, .iload_n 2, 1), (16, .invokevirtual 29, 3), (19, .istore_n 3, 1), (20, .aload_n 0, 1), (21, .iload_n 3, 1), (22, .invokestatic 44, 3), (25, .ifCond .eq 19, 3), (28, .aload_n 1, 1), (29, .iconst 0, 1), (30, .aload_n 1, 1), (31, .iload_n 3, 1), (32, .invokevirtual 48, 3), (35, .invokevirtual 51, 3), (38, .invokestatic 54, 3), (41, .goto 4, 3), (44, .iload_n 3, 1), (45, .invokevirtual 33, 3), (48, .iinc 2 1, 3), (51, .goto (-45), 3), (54, .return_, 1)]
set_option maxRecDepth 100000 in
theorem DX5_becomePlainOf_ok : ∀ q ∈ DX5_becomePlainOf, decode cX5_becomePlainOf q.1 = .ok q.2 := by decide +kernel
def DX5_length : List (Nat × Instr × Nat) := [(0, .aload_n 0, 1), (1, .getfield 21, 3), (4, .ireturn, 1)]
set_option maxRecDepth 100000 in
theorem DX5_length_ok : ∀ q ∈ DX5_length, decode cX5_length q.1 = .ok q.2 := by decide +kernel
def DX5_isTooLong : List (Nat × Instr × Nat) := [(0, .aload_n 0, 1), (1, .getfield 25, 3), (4, .ireturn, 1)]
set_option maxRecDepth 100000 in
theorem DX5_isTooLong_ok : ∀ q ∈ DX5_isTooLong, decode cX5_isTooLong q.1 = .ok q.2 := by decide +kernel
def DX5_hasPlace : List (Nat × Instr × Nat) := [(0, .iload_n 1, 1), (1, .ifCond .lt 15, 3), (4, .iload_n 1, 1), (5, .aload_n 0, 1), (6, .getfield 21, 3), (9, .if_icmp .ge 7, 3), (12, .iconst 1, 1), (13, .goto 4, 3), (16, .iconst 0, 1), (17, .ireturn, 1)]
set_option maxRecDepth 100000 in
theorem DX5_hasPlace_ok : ∀ q ∈ DX5_hasPlace, decode cX5_hasPlace q.1 = .ok q.2 := by decide +kernel
def DX5_letterAt : List (Nat × Instr × Nat) := [(0, .iload_n 1, 1), (1, .ifCond .lt 29, 3), (4, .iload_n 1, 1), (5, .aload_n 0, 1), (6, .getfield 21, 3), (9, .if_icmp .ge 21, 3), (12, .iload_n 1, 1), (13, .aload_n 0, 1), (14, .getfield 15, 3), (17, .arraylength, 1), (18, .if_icmp .ge 12, 3), (21, .aload_n 0, 1), (22, .getfield 15, 3), (25, .iload_n 1, 1), (26, .iaload, 1), (27, .goto 5, 3), (30, .bipush (-9), 2), (32, .ireturn, 1)]
set_option maxRecDepth 100000 in
theorem DX5_letterAt_ok : ∀ q ∈ DX5_letterAt, decode cX5_letterAt q.1 = .ok q.2 := by decide +kernel
def DX5_endOf : List (Nat × Instr × Nat) := [(0, .iconst 1, 1), (1, .istore_n 2, 1), (2, .iload_n 1, 1), (3, .istore_n 3, 1), (4, .iload_n 3, 1), (5, .aload_n 0, 1), (6, .getfield 21, 3), (9, .if_icmp .ge 26, 3), (12, .iload_n 2, 1), (13, .ifCond .le 22, 3), (16, .iload_n 2, 1), (17, .aload_n 0, 1), (18, .iload_n 3, 1), (19, .invokevirtual 29, 3), (22, .invokestatic 59, 3), (25, .iconst 1, 1), (26, .isub, 1), (27, .iadd, 1), (28, .istore_n 2, 1), (29, .iinc 3 1, 3), (32, .goto (-28), 3), (35, .iload_n 3, 1), (36, .ireturn, 1)]
set_option maxRecDepth 100000 in
theorem DX5_endOf_ok : ∀ q ∈ DX5_endOf, decode cX5_endOf q.1 = .ok q.2 := by decide +kernel
def DX5_closedBehind : List (Nat × Instr × Nat) := [(0, .iconst 0, 1), (1, .istore_n 2, 1), (2, .iconst 0, 1), (3, .istore_n 3, 1), (4, .iload_n 3, 1), (5, .iload_n 1, 1), (6, .if_icmp .ge 23, 3), (9, .aload_n 0, 1), (10, .iload_n 3, 1), (11, .invokevirtual 62, 3), (14, .iload_n 1, 1), (15, .iconst 1, 1), (16, .iadd, 1), (17, .if_icmp .ne 6, 3), (20, .iinc 2 1, 3), (23, .iinc 3 1, 3), (26, .goto (-22), 3), (29, .iload_n 2, 1), (30, .ireturn, 1)]
set_option maxRecDepth 100000 in
theorem DX5_closedBehind_ok : ∀ q ∈ DX5_closedBehind, decode cX5_closedBehind q.1 = .ok q.2 := by decide +kernel
def DX5_levels : List (Nat × Instr × Nat) := [(0, .iconst 1, 1), (1, .istore_n 1, 1), (2, .iconst 1, 1), (3, .istore_n 2, 1), (4, .iconst 0, 1), (5, .istore_n 3, 1), (6, .iload_n 3, 1), (7, .aload_n 0, 1), (8, .getfield 21, 3), (11, .if_icmp .ge 39, 3), (14, .iload_n 2, 1), (15, .iload_n 1, 1), (16, .invokestatic 9, 3), (19, .istore_n 2, 1), (20, .iload_n 1, 1), (21, .aload_n 0, 1), (22, .iload_n 3, 1), (23, .invokevirtual 29, 3), (26, .invokestatic 59, 3), (29, .ifCond .le 7, 3), (32, .iconst 1, 1), (33, .goto 9, 3), (36, .aload_n 0, 1), (37, .iload_n 3, 1), (38, .invokevirtual 65, 3), (41, .ineg, 1), (42, .iadd, 1), (43, .istore_n 1, 1), (44, .iinc 3 1, 3), (47, .goto (-41), 3), (50, .iload_n 2, 1), (51, .ireturn, 1)]
set_option maxRecDepth 100000 in
theorem DX5_levels_ok : ∀ q ∈ DX5_levels, decode cX5_levels q.1 = .ok q.2 := by decide +kernel
def DX5_isLikeAt : List (Nat × Instr × Nat) := [(0, .iconst 1, 1), (1, .istore 4, 2), (3, .iconst 0, 1), (4, .istore 5, 2), (6, .iload 4, 2), (8, .ifCond .le 63, 3), (11, .iload 5, 2), (13, .aload_n 0, 1), (14, .getfield 15, 3), (17, .arraylength, 1), (18, .if_icmp .ge 53, 3), (21, .aload_n 0, 1), (22, .iload_n 1, 1), (23, .iload 5, 2), (25, .iadd, 1), (26, .invokevirtual 29, 3), (29, .istore 6, 2), (31, .iload 6, 2), (33, .bipush (-9), 2), (35, .if_icmp .eq 16, 3), (38, .iload 6, 2), (40, .aload_n 2, 1), (41, .iload_n 3, 1), (42, .iload 5, 2), (44, .iadd, 1), (45, .invokevirtual 29, 3), (48, .if_icmp .eq 5, 3), (51, .iconst 0, 1), (52, .ireturn, 1), (53, .iload 4, 2), (55, .iload 6, 2), (57, .invokestatic 59, 3), (60, .iconst 1, 1), (61, .isub, 1), (62, .iadd, 1), (63, .istore 4, 2), (65, .iinc 5 1, 3), (68, .goto (-62), 3), (71, .iload 4, 2), (73, .ifCond .ne 7, 3), (76, .iconst 1, 1), (77, .goto 4, 3), (80, .iconst 0, 1), (81, .ireturn, 1)]
set_option maxRecDepth 100000 in
theorem DX5_isLikeAt_ok : ∀ q ∈ DX5_isLikeAt, decode cX5_isLikeAt q.1 = .ok q.2 := by decide +kernel
def DX5_isLike : List (Nat × Instr × Nat) := [(0, .aload_n 0, 1), (1, .iconst 0, 1), (2, .aload_n 1, 1), (3, .iconst 0, 1), (4, .invokevirtual 68, 3), (7, .ireturn, 1)]
set_option maxRecDepth 100000 in
theorem DX5_isLike_ok : ∀ q ∈ DX5_isLike, decode cX5_isLike q.1 = .ok q.2 := by decide +kernel
def DX5_firstLike : List (Nat × Instr × Nat) := [(0, .iconst 0, 1), (1, .istore_n 2, 1), (2, .iload_n 2, 1), (3, .iload_n 1, 1), (4, .if_icmp .ge 21, 3), (7, .aload_n 0, 1), (8, .iload_n 2, 1), (9, .aload_n 0, 1), (10, .iload_n 1, 1), (11, .invokevirtual 68, 3), (14, .ifCond .eq 5, 3), (17, .iload_n 2, 1), (18, .ireturn, 1), (19, .iinc 2 1, 3), (22, .goto (-20), 3), (25, .iload_n 1, 1), (26, .ireturn, 1)]
set_option maxRecDepth 100000 in
theorem DX5_firstLike_ok : ∀ q ∈ DX5_firstLike, decode cX5_firstLike q.1 = .ok q.2 := by decide +kernel
def DX5_unlikePlaces : List (Nat × Instr × Nat) := [(0, .iconst 0, 1), (1, .istore_n 1, 1), (2, .iconst 0, 1), (3, .istore_n 2, 1), (4, .iload_n 2, 1), (5, .aload_n 0, 1), (6, .getfield 21, 3), (9, .if_icmp .ge 21, 3), (12, .aload_n 0, 1), (13, .iload_n 2, 1), (14, .invokevirtual 72, 3), (17, .iload_n 2, 1), (18, .if_icmp .ne 6, 3), (21, .iinc 1 1, 3), (24, .iinc 2 1, 3), (27, .goto (-23), 3), (30, .iload_n 1, 1), (31, .ireturn, 1)]
set_option maxRecDepth 100000 in
theorem DX5_unlikePlaces_ok : ∀ q ∈ DX5_unlikePlaces, decode cX5_unlikePlaces q.1 = .ok q.2 := by decide +kernel
def DX5_firstPlaceOf : List (Nat × Instr × Nat) := [(0, .iconst 0, 1), (1, .istore_n 2, 1), (2, .iload_n 2, 1), (3, .aload_n 0, 1), (4, .getfield 21, 3), (7, .if_icmp .ge 20, 3), (10, .aload_n 0, 1), (11, .iload_n 2, 1), (12, .invokevirtual 29, 3), (15, .iload_n 1, 1), (16, .if_icmp .ne 5, 3), (19, .iload_n 2, 1), (20, .ireturn, 1), (21, .iinc 2 1, 3), (24, .goto (-22), 3), (27, .iconst (-1), 1), (28, .ireturn, 1)]
set_option maxRecDepth 100000 in
theorem DX5_firstPlaceOf_ok : ∀ q ∈ DX5_firstPlaceOf, decode cX5_firstPlaceOf q.1 = .ok q.2 := by decide +kernel
def DX5_placesOf : List (Nat × Instr × Nat) := [(0, .iconst 0, 1), (1, .istore_n 2, 1), (2, .iconst 0, 1), (3, .istore_n 3, 1), (4, .iload_n 3, 1), (5, .aload_n 0, 1), (6, .getfield 21, 3), (9, .if_icmp .ge 21, 3), (12, .aload_n 0, 1), (13, .iload_n 3, 1), (14, .invokevirtual 29, 3), (17, .iload_n 1, 1), (18, .if_icmp .ne 6, 3), (21, .iinc 2 1, 3), (24, .iinc 3 1, 3), (27, .goto (-23), 3), (30, .iload_n 2, 1), (31, .ireturn, 1)]
set_option maxRecDepth 100000 in
theorem DX5_placesOf_ok : ∀ q ∈ DX5_placesOf, decode cX5_placesOf q.1 = .ok q.2 := by decide +kernel
def DX5_namesIn : List (Nat × Instr × Nat) := [(0, .iconst 0, 1), (1, .istore_n 3, 1), (2, .iload_n 1, 1), (3, .istore 4, 2), (5, .iload 4, 2), (7, .iload_n 2, 1), (8, .if_icmp .ge 32, 3), (11, .aload_n 0, 1), (12, .iload 4, 2), (14, .invokevirtual 29, 3), (17, .istore 5, 2), (19, .iload 5, 2), (21, .invokestatic 44, 3), (24, .ifCond .eq 10, 3), (27, .iload_n 3, 1), (28, .iconst 1, 1), (29, .iload 5, 2), (31, .ishl, 1), (32, .ior, 1), (33, .istore_n 3, 1), (34, .iinc 4 1, 3), (37, .goto (-32), 3), (40, .iload_n 3, 1), (41, .ireturn, 1)]
set_option maxRecDepth 100000 in
theorem DX5_namesIn_ok : ∀ q ∈ DX5_namesIn, decode cX5_namesIn q.1 = .ok q.2 := by decide +kernel
def DX5_allNames : List (Nat × Instr × Nat) := [(0, .aload_n 0, 1), (1, .iconst 0, 1), (2, .aload_n 0, 1), (3, .getfield 21, 3), (6, .invokevirtual 51, 3), (9, .ireturn, 1)]
set_option maxRecDepth 100000 in
theorem DX5_allNames_ok : ∀ q ∈ DX5_allNames, decode cX5_allNames q.1 = .ok q.2 := by decide +kernel
def DX5_becomeBoth : List (Nat × Instr × Nat) := [(0, .aload_n 0, 1), (1, .invokevirtual 37, 3), (4, .aload_n 0, 1), (5, .aload_n 1, 1), (6, .invokevirtual 40, 3), (9, .aload_n 0, 1), (10, .aload_n 2, 1), (11, .invokevirtual 40, 3), (14, .return_, 1)]
set_option maxRecDepth 100000 in
theorem DX5_becomeBoth_ok : ∀ q ∈ DX5_becomeBoth, decode cX5_becomeBoth q.1 = .ok q.2 := by decide +kernel
def DX6_init : List (Nat × Instr × Nat) := [(0, .aload_n 0, 1), (1, .invokespecial 1, 3), (4, .aload_n 0, 1), (5, .bipush 6, 2), (7, .anewarray 9, 3), (10, .putfield 11, 3), (13, .aload_n 0, 1), (14, .iconst 3, 1), (15, .anewarray 15, 3), (18, .putfield 17, 3), (21, .aload_n 0, 1), (22, .new 9, 3), (25, .dup, 1), (26, .bipush 16, 2), (28, .invokespecial 21, 3), (31, .putfield 24, 3), (34, .aload_n 0, 1), (35, .new 9, 3), (38, .dup, 1), (39, .bipush 16, 2), (41, .invokespecial 21, 3), (44, .putfield 28, 3), (47, .aload_n 0, 1), (48, .new 9, 3), (51, .dup, 1), (52, .sipush 256, 3), (55, .invokespecial 21, 3), (58, .putfield 31, 3), (61, .aload_n 0, 1), (62, .new 9, 3), (65, .dup, 1), (66, .sipush 256, 3), (69, .invokespecial 21, 3), (72, .putfield 34, 3), (75, .aload_n 0, 1), (76, .new 15, 3), (79, .dup, 1), (80, .invokespecial 37, 3), (83, .putfield 38, 3), (86, .aload_n 0, 1), (87, .new 15, 3), (90, .dup, 1), (91, .invokespecial 37, 3), (94, .putfield 42, 3), (97, .aload_n 0, 1), (98, .new 45, 3), (101, .dup, 1), (102, .invokespecial 47, 3), (105, .putfield 48, 3), (108, .aload_n 0, 1), (109, .new 52, 3), (112, .dup, 1), (113, .invokespecial 54, 3), (116, .putfield 55, 3), (119, .aload_n 0, 1), (120, .new 59, 3), (123, .dup, 1), (124, .invokespecial 61, 3), (127, .putfield 62, 3), (130, .iconst 0, 1), (131, .istore_n 1, 1), (132, .iload_n 1, 1), (133, .bipush 6, 2), (135, .if_icmp .ge 34, 3), (138, .aload_n 0, 1), (139, .getfield 11, 3), (142, .iload_n 1, 1), (143, .new 9, 3), (146, .dup, 1), (147, .bipush 16, 2), (149, .invokespecial 21, 3), (152, .aastore, 1), (153, .aload_n 0, 1), (154, .getfield 11, 3), (157, .iload_n 1, 1), (158, .aaload, 1), (159, .iload_n 1, 1), (160, .invokevirtual 66, 3), (163, .iinc 1 1, 3), (166, .goto (-34), 3), (169, .iconst 0, 1), (170, .istore_n 1, 1), (171, .iload_n 1, 1), (172, .iconst 3, 1), (173, .if_icmp .ge 22, 3), (176, .aload_n 0, 1), (177, .getfield 17, 3), (180, .iload_n 1, 1), (181, .new 15, 3), (184, .dup, 1), (185, .invokespecial 37, 3), (188, .aastore, 1), (189, .iinc 1 1, 3), (192, .goto (-21), 3), (195, .return_, 1)]
set_option maxRecDepth 100000 in
theorem DX6_init_ok : ∀ q ∈ DX6_init, decode cX6_init q.1 = .ok q.2 := by decide +kernel
def DX6_name : List (Nat × Instr × Nat) := [(0, .aload_n 0, 1), (1, .iload_n 1, 1), (2, .invokevirtual 69, 3), (5, .astore_n 3, 1), (6, .iload_n 2, 1), (7, .invokestatic 73, 3), (10, .aload_n 3, 1), (11, .invokevirtual 76, 3), (14, .istore 4, 2), (16, .aload_n 3, 1), (17, .iload_n 2, 1), (18, .invokevirtual 66, 3), (21, .aload_n 0, 1), (22, .iload 4, 2), (24, .invokevirtual 80, 3), (27, .ireturn, 1)]
set_option maxRecDepth 100000 in
theorem DX6_name_ok : ∀ q ∈ DX6_name, decode cX6_name q.1 = .ok q.2 := by decide +kernel
def DX6_head : List (Nat × Instr × Nat) := [(0, .aload_n 0, 1), (1, .iload_n 1, 1), (2, .invokevirtual 69, 3), (5, .astore 6, 2), (7, .aload_n 0, 1), (8, .iload_n 3, 1), (9, .invokevirtual 69, 3), (12, .astore 7, 2), (14, .aload_n 0, 1), (15, .iload 4, 2), (17, .invokevirtual 69, 3), (20, .astore 8, 2), (22, .aload_n 0, 1), (23, .iload 5, 2), (25, .invokevirtual 69, 3), (28, .astore 9, 2), (30, .iload_n 2, 1), (31, .ifCond .lt 9, 3), (34, .iload_n 2, 1), (35, .bipush 8, 2), (37, .if_icmp .lt 13, 3), (40, .new 84, 3), (43, .dup, 1), (44, .ldc 86, 2), (46, .invokespecial 88, 3), (49, .athrow, 1), (50, .bipush 10, 2), (52, .iload_n 2, 1), (53, .iadd, 1), (54, .istore 10, 2), (56, .iload 10, 2), (58, .invokestatic 91, 3), (61, .istore 11, 2), (63, .aload_n 0, 1), (64, .getfield 24, 3), (67, .invokevirtual 94, 3), (70, .aload_n 0, 1), (71, .getfield 24, 3), (74, .iload 10, 2), (76, .invokevirtual 97, 3), (79, .iload 11, 2), (81, .ifCond .le 12, 3), (84, .aload_n 0, 1), (85, .getfield 24, 3), (88, .aload 7, 2), (90, .invokevirtual 100, 3), (93, .iload 11, 2), (95, .iconst 1, 1), (96, .if_icmp .le 12, 3), (99, .aload_n 0, 1), (100, .getfield 24, 3), (103, .aload 8, 2), (105, .invokevirtual 100, 3), (108, .iload 11, 2), (110, .iconst 2, 1), (111, .if_icmp .le 12, 3), (114, .aload_n 0, 1), (115, .getfield 24, 3), (118, .aload 9, 2), (120, .invokevirtual 100, 3), (123, .aload_n 0, 1), (124, .aload 6, 2), (126, .invokevirtual 104, 3), (129, .ireturn, 1)]
set_option maxRecDepth 100000 in
theorem DX6_head_ok : ∀ q ∈ DX6_head, decode cX6_head q.1 = .ok q.2 := by decide +kernel
def DX6_copy : List (Nat × Instr × Nat) := [(0, .aload_n 0, 1), (1, .iload_n 1, 1), (2, .invokevirtual 69, 3), (5, .astore_n 3, 1), (6, .aload_n 0, 1), (7, .iload_n 2, 1), (8, .invokevirtual 69, 3), (11, .astore 4, 2), (13, .aload 4, 2), (15, .aload_n 3, 1), (16, .invokevirtual 108, 3), (19, .aload_n 0, 1), (20, .aload 4, 2), (22, .invokevirtual 76, 3), (25, .invokevirtual 80, 3), (28, .ireturn, 1)]
set_option maxRecDepth 100000 in
theorem DX6_copy_ok : ∀ q ∈ DX6_copy, decode cX6_copy q.1 = .ok q.2 := by decide +kernel
def DX6_swap : List (Nat × Instr × Nat) := [(0, .aload_n 0, 1), (1, .iload_n 1, 1), (2, .invokevirtual 69, 3), (5, .astore_n 3, 1), (6, .aload_n 0, 1), (7, .iload_n 2, 1), (8, .invokevirtual 69, 3), (11, .astore 4, 2), (13, .aload_n 3, 1), (14, .aload 4, 2), (16, .invokevirtual 111, 3), (19, .istore 5, 2), (21, .aload_n 0, 1), (22, .getfield 24, 3), (25, .aload_n 3, 1), (26, .invokevirtual 108, 3), (29, .aload_n 3, 1), (30, .aload 4, 2), (32, .invokevirtual 108, 3), (35, .aload 4, 2), (37, .aload_n 0, 1), (38, .getfield 24, 3), (41, .invokevirtual 108, 3), (44, .aload_n 0, 1), (45, .iload 5, 2), (47, .ifCond .eq 7, 3), (50, .iconst 0, 1), (51, .goto 4, 3), (54, .iconst 1, 1), (55, .invokevirtual 80, 3), (58, .ireturn, 1)]
set_option maxRecDepth 100000 in
theorem DX6_swap_ok : ∀ q ∈ DX6_swap, decode cX6_swap q.1 = .ok q.2 := by decide +kernel
def DX6_part : List (Nat × Instr × Nat) := [(0, .aload_n 0, 1), (1, .iload_n 1, 1), (2, .invokevirtual 69, 3), (5, .astore 4, 2), (7, .aload_n 0, 1), (8, .iload_n 3, 1), (9, .invokevirtual 69, 3), (12, .astore 5, 2), (14, .aload 4, 2), (16, .iload_n 2, 1), (17, .invokevirtual 115, 3), (20, .ifCond .ne 8, 3), (23, .aload_n 0, 1), (24, .invokevirtual 119, 3), (27, .ireturn, 1), (28, .aload_n 0, 1), (29, .getfield 24, 3), (32, .invokevirtual 94, 3), (35, .aload_n 0, 1), (36, .getfield 24, 3), (39, .aload 4, 2), (41, .iload_n 2, 1), (42, .aload 4, 2), (44, .iload_n 2, 1), (45, .invokevirtual 122, 3), (48, .invokevirtual 125, 3), (51, .aload_n 0, 1), (52, .aload 5, 2), (54, .invokevirtual 104, 3), (57, .ireturn, 1)]
set_option maxRecDepth 100000 in
theorem DX6_part_ok : ∀ q ∈ DX6_part, decode cX6_part q.1 = .ok q.2 := by decide +kernel
def DX6_graft : List (Nat × Instr × Nat) := [(0, .aload_n 0, 1), (1, .iload_n 1, 1), (2, .invokevirtual 69, 3), (5, .astore 4, 2), (7, .aload_n 0, 1), (8, .iload_n 3, 1), (9, .invokevirtual 69, 3), (12, .astore 5, 2), (14, .aload 4, 2), (16, .iload_n 2, 1), (17, .invokevirtual 115, 3), (20, .ifCond .ne 8, 3), (23, .aload_n 0, 1), (24, .invokevirtual 119, 3), (27, .ireturn, 1), (28, .aload_n 0, 1), (29, .getfield 24, 3), (32, .invokevirtual 94, 3), (35, .aload_n 0, 1), (36, .getfield 24, 3), (39, .aload 4, 2), (41, .iconst 0, 1), (42, .iload_n 2, 1), (43, .invokevirtual 125, 3), (46, .aload_n 0, 1), (47, .getfield 24, 3), (50, .aload 5, 2), (52, .invokevirtual 100, 3), (55, .aload_n 0, 1), (56, .getfield 24, 3), (59, .aload 4, 2), (61, .aload 4, 2), (63, .iload_n 2, 1), (64, .invokevirtual 122, 3), (67, .aload 4, 2), (69, .invokevirtual 76, 3), (72, .invokevirtual 125, 3), (75, .aload_n 0, 1), (76, .aload 4, 2), (78, .invokevirtual 104, 3), (81, .ireturn, 1)]
set_option maxRecDepth 100000 in
theorem DX6_graft_ok : ∀ q ∈ DX6_graft, decode cX6_graft q.1 = .ok q.2 := by decide +kernel
def DX6_put : List (Nat × Instr × Nat) := [(0, .aload_n 0, 1), (1, .iload_n 1, 1), (2, .invokevirtual 69, 3), (5, .astore 4, 2), (7, .aload_n 0, 1), (8, .iload_n 3, 1), (9, .invokevirtual 69, 3), (12, .astore 5, 2), (14, .iload_n 2, 1), (15, .invokestatic 73, 3), (18, .aload 4, 2), (20, .iload_n 2, 1), (21, .invokevirtual 129, 3), (24, .istore 6, 2), (26, .aload_n 0, 1), (27, .getfield 24, 3), (30, .invokevirtual 94, 3), (33, .iconst 0, 1), (34, .istore 7, 2), (36, .iload 7, 2), (38, .aload 4, 2), (40, .invokevirtual 76, 3), (43, .if_icmp .ge 46, 3), (46, .aload 4, 2), (48, .iload 7, 2), (50, .invokevirtual 132, 3), (53, .iload_n 2, 1), (54, .if_icmp .ne 15, 3), (57, .aload_n 0, 1), (58, .getfield 24, 3), (61, .aload 5, 2), (63, .invokevirtual 100, 3), (66, .goto 17, 3), (69, .aload_n 0, 1), (70, .getfield 24, 3), (73, .aload 4, 2), (75, .iload 7, 2), (77, .invokevirtual 132, 3), (80, .invokevirtual 97, 3), (83, .iinc 7 1, 3), (86, .goto (-50), 3), (89, .aload_n 0, 1), (90, .aload 4, 2), (92, .invokevirtual 104, 3), (95, .bipush (-9), 2), (97, .if_icmp .ne 8, 3), (100, .bipush (-9), 2), (102, .goto 5, 3), (105, .iload 6, 2), (107, .ireturn, 1)]
set_option maxRecDepth 100000 in
theorem DX6_put_ok : ∀ q ∈ DX6_put, decode cX6_put q.1 = .ok q.2 := by decide +kernel
def DX6_shift : List (Nat × Instr × Nat) := [(0, .aload_n 0, 1), (1, .iload_n 1, 1), (2, .invokevirtual 69, 3), (5, .astore_n 3, 1), (6, .iload_n 2, 1), (7, .ifCond .lt 9, 3), (10, .iload_n 2, 1), (11, .bipush 8, 2), (13, .if_icmp .lt 13, 3), (16, .new 84, 3), (19, .dup, 1), (20, .ldc 135, 2), (22, .invokespecial 88, 3), (25, .athrow, 1), (26, .aload_n 0, 1), (27, .getfield 24, 3), (30, .invokevirtual 94, 3), (33, .iconst 0, 1), (34, .istore 4, 2), (36, .iload 4, 2), (38, .aload_n 3, 1), (39, .invokevirtual 76, 3), (42, .if_icmp .ge 44, 3), (45, .aload_n 3, 1), (46, .iload 4, 2), (48, .invokevirtual 132, 3), (51, .istore 5, 2), (53, .aload_n 0, 1), (54, .getfield 24, 3), (57, .iload 5, 2), (59, .invokestatic 137, 3), (62, .ifCond .eq 13, 3), (65, .iload 5, 2), (67, .iload_n 2, 1), (68, .iadd, 1), (69, .bipush 8, 2), (71, .irem, 1), (72, .goto 5, 3), (75, .iload 5, 2), (77, .invokevirtual 97, 3), (80, .iinc 4 1, 3), (83, .goto (-47), 3), (86, .aload_n 3, 1), (87, .aload_n 0, 1), (88, .getfield 24, 3), (91, .invokevirtual 108, 3), (94, .aload_n 0, 1), (95, .aload_n 3, 1), (96, .invokevirtual 140, 3), (99, .invokestatic 143, 3), (102, .invokevirtual 80, 3), (105, .ireturn, 1)]
set_option maxRecDepth 100000 in
theorem DX6_shift_ok : ∀ q ∈ DX6_shift, decode cX6_shift q.1 = .ok q.2 := by decide +kernel
def DX6_plain : List (Nat × Instr × Nat) := [(0, .aload_n 0, 1), (1, .iload_n 1, 1), (2, .invokevirtual 69, 3), (5, .astore_n 2, 1), (6, .aload_n 0, 1), (7, .getfield 24, 3), (10, .aload_n 2, 1), (11, .invokevirtual 148, 3), (14, .aload_n 2, 1), (15, .aload_n 0, 1), (16, .getfield 24, 3), (19, .invokevirtual 108, 3), (22, .aload_n 0, 1), (23, .aload_n 2, 1), (24, .invokevirtual 140, 3), (27, .invokestatic 143, 3), (30, .invokevirtual 80, 3), (33, .ireturn, 1)]
set_option maxRecDepth 100000 in
theorem DX6_plain_ok : ∀ q ∈ DX6_plain, decode cX6_plain q.1 = .ok q.2 := by decide +kernel
def DX6_use : List (Nat × Instr × Nat) := [(0, .aload_n 0, 1), (1, .iload_n 1, 1), (2, .invokevirtual 151, 3), (5, .astore 4, 2), (7, .aload_n 0, 1), (8, .iload_n 2, 1), (9, .invokevirtual 69, 3), (12, .astore 5, 2), (14, .aload_n 0, 1), (15, .iload_n 3, 1), (16, .invokevirtual 69, 3), (19, .astore 6, 2), (21, .aload_n 0, 1), (22, .getfield 24, 3), (25, .invokevirtual 94, 3), (28, .aload 4, 2), (30, .aload 5, 2), (32, .iconst 0, 1), (33, .aload 5, 2), (35, .invokevirtual 76, 3), (38, .aload_n 0, 1), (39, .getfield 24, 3), (42, .invokevirtual 155, 3), (45, .aload_n 0, 1), (46, .aload 6, 2), (48, .invokevirtual 104, 3), (51, .ireturn, 1)]
set_option maxRecDepth 100000 in
theorem DX6_use_ok : ∀ q ∈ DX6_use, decode cX6_use q.1 = .ok q.2 := by decide +kernel
def DX6_common : List (Nat × Instr × Nat) := [(0, .aload_n 0, 1), (1, .iload_n 1, 1), (2, .invokevirtual 69, 3), (5, .astore 4, 2), (7, .aload_n 0, 1), (8, .iload_n 2, 1), (9, .invokevirtual 69, 3), (12, .astore 5, 2), (14, .aload_n 0, 1), (15, .iload_n 3, 1), (16, .invokevirtual 69, 3), (19, .astore 6, 2), (21, .aload_n 0, 1), (22, .getfield 62, 3), (25, .aload 4, 2), (27, .aload 5, 2), (29, .aload_n 0, 1), (30, .getfield 24, 3), (33, .invokevirtual 159, 3), (36, .ifCond .eq 12, 3), (39, .aload_n 0, 1), (40, .aload 6, 2), (42, .invokevirtual 104, 3), (45, .goto 7, 3), (48, .aload_n 0, 1), (49, .invokevirtual 119, 3), (52, .ireturn, 1)]
set_option maxRecDepth 100000 in
theorem DX6_common_ok : ∀ q ∈ DX6_common, decode cX6_common q.1 = .ok q.2 := by decide +kernel
def DX6_forget : List (Nat × Instr × Nat) := [(0, .aload_n 0, 1), (1, .iload_n 1, 1), (2, .invokevirtual 151, 3), (5, .astore_n 2, 1), (6, .aload_n 2, 1), (7, .invokevirtual 163, 3), (10, .istore_n 3, 1), (11, .aload_n 2, 1), (12, .invokevirtual 166, 3), (15, .aload_n 0, 1), (16, .iload_n 3, 1), (17, .invokevirtual 80, 3), (20, .ireturn, 1)]
set_option maxRecDepth 100000 in
theorem DX6_forget_ok : ∀ q ∈ DX6_forget, decode cX6_forget q.1 = .ok q.2 := by decide +kernel
def DX6_tell : List (Nat × Instr × Nat) := [(0, .aload_n 0, 1), (1, .iload_n 1, 1), (2, .invokevirtual 151, 3), (5, .astore 4, 2), (7, .aload_n 0, 1), (8, .iload_n 3, 1), (9, .invokevirtual 69, 3), (12, .astore 5, 2), (14, .aload 4, 2), (16, .iload_n 2, 1), (17, .invokevirtual 169, 3), (20, .astore 6, 2), (22, .aload 6, 2), (24, .aload 5, 2), (26, .invokevirtual 111, 3), (29, .istore 7, 2), (31, .aload 6, 2), (33, .aload 5, 2), (35, .invokevirtual 108, 3), (38, .aload_n 0, 1), (39, .iload 7, 2), (41, .ifCond .eq 7, 3), (44, .iconst 0, 1), (45, .goto 4, 3), (48, .iconst 1, 1), (49, .invokevirtual 80, 3), (52, .ireturn, 1)]
set_option maxRecDepth 100000 in
theorem DX6_tell_ok : ∀ q ∈ DX6_tell, decode cX6_tell q.1 = .ok q.2 := by decide +kernel
def DX6_take : List (Nat × Instr × Nat) := [(0, .aload_n 0, 1), (1, .iload_n 1, 1), (2, .invokevirtual 151, 3), (5, .astore_n 3, 1), (6, .aload_n 0, 1), (7, .iload_n 2, 1), (8, .invokevirtual 151, 3), (11, .astore 4, 2), (13, .aload 4, 2), (15, .aload_n 3, 1), (16, .invokevirtual 172, 3), (19, .aload_n 0, 1), (20, .aload 4, 2), (22, .invokevirtual 163, 3), (25, .invokevirtual 80, 3), (28, .ireturn, 1)]
set_option maxRecDepth 100000 in
theorem DX6_take_ok : ∀ q ∈ DX6_take, decode cX6_take q.1 = .ok q.2 := by decide +kernel
def DX6_behind : List (Nat × Instr × Nat) := [(0, .aload_n 0, 1), (1, .iload_n 1, 1), (2, .invokevirtual 151, 3), (5, .astore 4, 2), (7, .aload_n 0, 1), (8, .iload_n 2, 1), (9, .invokevirtual 151, 3), (12, .astore 5, 2), (14, .aload_n 0, 1), (15, .iload_n 3, 1), (16, .invokevirtual 151, 3), (19, .astore 6, 2), (21, .aload_n 0, 1), (22, .getfield 38, 3), (25, .aload 4, 2), (27, .aload 5, 2), (29, .invokevirtual 175, 3), (32, .aload_n 0, 1), (33, .aload 6, 2), (35, .invokevirtual 179, 3), (38, .ireturn, 1)]
set_option maxRecDepth 100000 in
theorem DX6_behind_ok : ∀ q ∈ DX6_behind, decode cX6_behind q.1 = .ok q.2 := by decide +kernel
def DX6_alike : List (Nat × Instr × Nat) := [(0, .aload_n 0, 1), (1, .iload_n 1, 1), (2, .invokevirtual 69, 3), (5, .astore 5, 2), (7, .aload_n 0, 1), (8, .iload_n 2, 1), (9, .invokevirtual 69, 3), (12, .astore 6, 2), (14, .aload_n 0, 1), (15, .iload_n 3, 1), (16, .invokevirtual 151, 3), (19, .astore 7, 2), (21, .iload 4, 2), (23, .ifCond .eq 19, 3), (26, .iload 4, 2), (28, .iconst 1, 1), (29, .if_icmp .eq 13, 3), (32, .new 84, 3), (35, .dup, 1), (36, .ldc 183, 2), (38, .invokespecial 88, 3), (41, .athrow, 1), (42, .iload 4, 2), (44, .ifCond .ne 17, 3), (47, .aload_n 0, 1), (48, .getfield 48, 3), (51, .aload 5, 2), (53, .aload 6, 2), (55, .invokevirtual 185, 3), (58, .goto 14, 3), (61, .aload_n 0, 1), (62, .getfield 55, 3), (65, .aload 5, 2), (67, .aload 6, 2), (69, .invokevirtual 189, 3), (72, .istore 8, 2), (74, .iload 8, 2), (76, .ifCond .ne 9, 3), (79, .aload_n 0, 1), (80, .iconst (-1), 1), (81, .invokevirtual 80, 3), (84, .ireturn, 1), (85, .iload 4, 2), (87, .ifCond .ne 17, 3), (90, .aload_n 0, 1), (91, .getfield 48, 3), (94, .aload_n 0, 1), (95, .getfield 38, 3), (98, .invokevirtual 190, 3), (101, .goto 14, 3), (104, .aload_n 0, 1), (105, .getfield 55, 3), (108, .aload_n 0, 1), (109, .getfield 38, 3), (112, .invokevirtual 193, 3), (115, .aload_n 0, 1), (116, .aload 7, 2), (118, .invokevirtual 179, 3), (121, .ireturn, 1)]
set_option maxRecDepth 100000 in
theorem DX6_alike_ok : ∀ q ∈ DX6_alike, decode cX6_alike q.1 = .ok q.2 := by decide +kernel
def DX6_match : List (Nat × Instr × Nat) := [(0, .aload_n 0, 1), (1, .iload_n 1, 1), (2, .invokevirtual 69, 3), (5, .astore 4, 2), (7, .aload_n 0, 1), (8, .iload_n 2, 1), (9, .invokevirtual 69, 3), (12, .astore 5, 2), (14, .aload_n 0, 1), (15, .iload_n 3, 1), (16, .invokevirtual 151, 3), (19, .astore 6, 2), (21, .aload_n 0, 1), (22, .getfield 38, 3), (25, .aload 4, 2), (27, .aload 5, 2), (29, .invokevirtual 194, 3), (32, .ifCond .eq 12, 3), (35, .aload_n 0, 1), (36, .aload 6, 2), (38, .invokevirtual 179, 3), (41, .goto 8, 3), (44, .aload_n 0, 1), (45, .iconst (-1), 1), (46, .invokevirtual 80, 3), (49, .ireturn, 1)]
set_option maxRecDepth 100000 in
theorem DX6_match_ok : ∀ q ∈ DX6_match, decode cX6_match q.1 = .ok q.2 := by decide +kernel
def DX6_text : List (Nat × Instr × Nat) := [(0, .aload_n 0, 1), (1, .iload_n 1, 1), (2, .invokevirtual 69, 3), (5, .invokestatic 197, 3), (8, .areturn, 1)]
set_option maxRecDepth 100000 in
theorem DX6_text_ok : ∀ q ∈ DX6_text, decode cX6_text q.1 = .ok q.2 := by decide +kernel
def DX6_size : List (Nat × Instr × Nat) := [(0, .aload_n 0, 1), (1, .iload_n 1, 1), (2, .invokevirtual 69, 3), (5, .invokevirtual 76, 3), (8, .ireturn, 1)]
set_option maxRecDepth 100000 in
theorem DX6_size_ok : ∀ q ∈ DX6_size, decode cX6_size q.1 = .ok q.2 := by decide +kernel
def DX6_depth : List (Nat × Instr × Nat) := [(0, .aload_n 0, 1), (1, .iload_n 1, 1), (2, .invokevirtual 69, 3), (5, .invokevirtual 201, 3), (8, .ireturn, 1)]
set_option maxRecDepth 100000 in
theorem DX6_depth_ok : ∀ q ∈ DX6_depth, decode cX6_depth q.1 = .ok q.2 := by decide +kernel
def DX6_shared : List (Nat × Instr × Nat) := [(0, .aload_n 0, 1), (1, .iload_n 1, 1), (2, .invokevirtual 69, 3), (5, .invokevirtual 204, 3), (8, .ireturn, 1)]
set_option maxRecDepth 100000 in
theorem DX6_shared_ok : ∀ q ∈ DX6_shared, decode cX6_shared q.1 = .ok q.2 := by decide +kernel
def DX6_letter : List (Nat × Instr × Nat) := [(0, .aload_n 0, 1), (1, .iload_n 1, 1), (2, .invokevirtual 69, 3), (5, .iload_n 2, 1), (6, .invokevirtual 132, 3), (9, .ireturn, 1)]
set_option maxRecDepth 100000 in
theorem DX6_letter_ok : ∀ q ∈ DX6_letter, decode cX6_letter q.1 = .ok q.2 := by decide +kernel
def DX6_sizeAt : List (Nat × Instr × Nat) := [(0, .aload_n 0, 1), (1, .iload_n 1, 1), (2, .invokevirtual 69, 3), (5, .astore_n 3, 1), (6, .aload_n 3, 1), (7, .iload_n 2, 1), (8, .invokevirtual 115, 3), (11, .ifCond .eq 13, 3), (14, .aload_n 3, 1), (15, .iload_n 2, 1), (16, .invokevirtual 122, 3), (19, .iload_n 2, 1), (20, .isub, 1), (21, .goto 5, 3), (24, .bipush (-9), 2), (26, .ireturn, 1)]
set_option maxRecDepth 100000 in
theorem DX6_sizeAt_ok : ∀ q ∈ DX6_sizeAt, decode cX6_sizeAt q.1 = .ok q.2 := by decide +kernel
def DX6_count : List (Nat × Instr × Nat) := [(0, .aload_n 0, 1), (1, .iload_n 1, 1), (2, .invokevirtual 69, 3), (5, .astore_n 3, 1), (6, .iload_n 2, 1), (7, .invokestatic 73, 3), (10, .aload_n 3, 1), (11, .iload_n 2, 1), (12, .invokevirtual 129, 3), (15, .ireturn, 1)]
set_option maxRecDepth 100000 in
theorem DX6_count_ok : ∀ q ∈ DX6_count, decode cX6_count q.1 = .ok q.2 := by decide +kernel
def DX6_names : List (Nat × Instr × Nat) := [(0, .aload_n 0, 1), (1, .iload_n 1, 1), (2, .invokevirtual 69, 3), (5, .invokevirtual 140, 3), (8, .ireturn, 1)]
set_option maxRecDepth 100000 in
theorem DX6_names_ok : ∀ q ∈ DX6_names, decode cX6_names q.1 = .ok q.2 := by decide +kernel
def DX6_find : List (Nat × Instr × Nat) := [(0, .aload_n 0, 1), (1, .iload_n 1, 1), (2, .invokevirtual 69, 3), (5, .astore_n 3, 1), (6, .aload_n 0, 1), (7, .iload_n 2, 1), (8, .invokevirtual 69, 3), (11, .astore 4, 2), (13, .iconst 0, 1), (14, .istore 5, 2), (16, .iload 5, 2), (18, .aload_n 3, 1), (19, .invokevirtual 76, 3), (22, .if_icmp .ge 24, 3), (25, .aload_n 3, 1), (26, .iload 5, 2), (28, .aload 4, 2), (30, .iconst 0, 1), (31, .invokevirtual 207, 3), (34, .ifCond .eq 6, 3), (37, .iload 5, 2), (39, .ireturn, 1), (40, .iinc 5 1, 3), (43, .goto (-27), 3), (46, .iconst (-1), 1), (47, .ireturn, 1)]
set_option maxRecDepth 100000 in
theorem DX6_find_ok : ∀ q ∈ DX6_find, decode cX6_find q.1 = .ok q.2 := by decide +kernel
def DX6_differ : List (Nat × Instr × Nat) := [(0, .aload_n 0, 1), (1, .iload_n 1, 1), (2, .invokevirtual 69, 3), (5, .astore_n 3, 1), (6, .aload_n 0, 1), (7, .iload_n 2, 1), (8, .invokevirtual 69, 3), (11, .astore 4, 2), (13, .iconst 0, 1), (14, .istore 5, 2), (16, .iload 5, 2), (18, .aload_n 3, 1), (19, .invokevirtual 76, 3), (22, .if_icmp .lt 13, 3), (25, .iload 5, 2), (27, .aload 4, 2), (29, .invokevirtual 76, 3), (32, .if_icmp .ge 28, 3), (35, .aload_n 3, 1), (36, .iload 5, 2), (38, .invokevirtual 132, 3), (41, .aload 4, 2), (43, .iload 5, 2), (45, .invokevirtual 132, 3), (48, .if_icmp .eq 6, 3), (51, .iload 5, 2), (53, .ireturn, 1), (54, .iinc 5 1, 3), (57, .goto (-41), 3), (60, .iconst (-1), 1), (61, .ireturn, 1)]
set_option maxRecDepth 100000 in
theorem DX6_differ_ok : ∀ q ∈ DX6_differ, decode cX6_differ q.1 = .ok q.2 := by decide +kernel
def DX6_is : List (Nat × Instr × Nat) := [(0, .aload_n 0, 1), (1, .iload_n 1, 1), (2, .invokevirtual 69, 3), (5, .astore 4, 2), (7, .aload_n 0, 1), (8, .iload_n 2, 1), (9, .invokevirtual 69, 3), (12, .astore 5, 2), (14, .iload_n 3, 1), (15, .ifCond .lt 8, 3), (18, .iload_n 3, 1), (19, .iconst 2, 1), (20, .if_icmp .le 13, 3), (23, .new 84, 3), (26, .dup, 1), (27, .ldc 211, 2), (29, .invokespecial 88, 3), (32, .athrow, 1), (33, .iload_n 3, 1), (34, .ifCond .ne 11, 3), (37, .aload 4, 2), (39, .aload 5, 2), (41, .invokevirtual 111, 3), (44, .ireturn, 1), (45, .iload_n 3, 1), (46, .iconst 2, 1), (47, .if_icmp .ne 15, 3), (50, .aload_n 0, 1), (51, .getfield 38, 3), (54, .aload 5, 2), (56, .aload 4, 2), (58, .invokevirtual 194, 3), (61, .ireturn, 1), (62, .aload_n 0, 1), (63, .getfield 24, 3), (66, .aload 4, 2), (68, .invokevirtual 148, 3), (71, .aload_n 0, 1), (72, .getfield 28, 3), (75, .aload 5, 2), (77, .invokevirtual 148, 3), (80, .aload_n 0, 1), (81, .getfield 24, 3), (84, .aload_n 0, 1), (85, .getfield 28, 3), (88, .invokevirtual 111, 3), (91, .ireturn, 1)]
set_option maxRecDepth 100000 in
theorem DX6_is_ok : ∀ q ∈ DX6_is, decode cX6_is q.1 = .ok q.2 := by decide +kernel
def DX6_can : List (Nat × Instr × Nat) := [(0, .aload_n 0, 1), (1, .iload_n 1, 1), (2, .invokevirtual 69, 3), (5, .astore 4, 2), (7, .aload_n 0, 1), (8, .iload_n 2, 1), (9, .invokevirtual 69, 3), (12, .astore 5, 2), (14, .iload_n 3, 1), (15, .ifCond .eq 18, 3), (18, .iload_n 3, 1), (19, .iconst 1, 1), (20, .if_icmp .eq 13, 3), (23, .new 84, 3), (26, .dup, 1), (27, .ldc 183, 2), (29, .invokespecial 88, 3), (32, .athrow, 1), (33, .iload_n 3, 1), (34, .ifCond .ne 17, 3), (37, .aload_n 0, 1), (38, .getfield 48, 3), (41, .aload 4, 2), (43, .aload 5, 2), (45, .invokevirtual 185, 3), (48, .goto 14, 3), (51, .aload_n 0, 1), (52, .getfield 55, 3), (55, .aload 4, 2), (57, .aload 5, 2), (59, .invokevirtual 189, 3), (62, .ireturn, 1)]
set_option maxRecDepth 100000 in
theorem DX6_can_ok : ∀ q ∈ DX6_can, decode cX6_can q.1 = .ok q.2 := by decide +kernel
def DX6_steps : List (Nat × Instr × Nat) := [(0, .aload_n 0, 1), (1, .iload_n 1, 1), (2, .invokevirtual 69, 3), (5, .astore_n 3, 1), (6, .aload_n 0, 1), (7, .iload_n 2, 1), (8, .invokevirtual 69, 3), (11, .astore 4, 2), (13, .aload_n 0, 1), (14, .getfield 48, 3), (17, .aload_n 3, 1), (18, .aload 4, 2), (20, .invokevirtual 185, 3), (23, .pop, 1), (24, .aload_n 0, 1), (25, .getfield 48, 3), (28, .invokevirtual 213, 3), (31, .ireturn, 1)]
set_option maxRecDepth 100000 in
theorem DX6_steps_ok : ∀ q ∈ DX6_steps, decode cX6_steps q.1 = .ok q.2 := by decide +kernel
def DX6_why : List (Nat × Instr × Nat) := [(0, .aload_n 0, 1), (1, .iload_n 1, 1), (2, .invokevirtual 69, 3), (5, .astore_n 3, 1), (6, .aload_n 0, 1), (7, .iload_n 2, 1), (8, .invokevirtual 69, 3), (11, .astore 4, 2), (13, .aload_n 0, 1), (14, .getfield 48, 3), (17, .aload_n 3, 1), (18, .aload 4, 2), (20, .invokevirtual 185, 3), (23, .pop, 1), (24, .aload_n 0, 1), (25, .getfield 48, 3), (28, .invokevirtual 216, 3), (31, .ireturn, 1)]
set_option maxRecDepth 100000 in
theorem DX6_why_ok : ∀ q ∈ DX6_why, decode cX6_why q.1 = .ok q.2 := by decide +kernel
def DX6_told : List (Nat × Instr × Nat) := [(0, .aload_n 0, 1), (1, .iload_n 1, 1), (2, .invokevirtual 151, 3), (5, .iload_n 2, 1), (6, .invokevirtual 169, 3), (9, .invokestatic 197, 3), (12, .areturn, 1)]
set_option maxRecDepth 100000 in
theorem DX6_told_ok : ∀ q ∈ DX6_told, decode cX6_told q.1 = .ok q.2 := by decide +kernel
def DX6_moved : List (Nat × Instr × Nat) := [(0, .aload_n 0, 1), (1, .iload_n 1, 1), (2, .invokevirtual 151, 3), (5, .invokevirtual 219, 3), (8, .ireturn, 1)]
set_option maxRecDepth 100000 in
theorem DX6_moved_ok : ∀ q ∈ DX6_moved, decode cX6_moved q.1 = .ok q.2 := by decide +kernel
def DX6_makes : List (Nat × Instr × Nat) := [(0, .aload_n 0, 1), (1, .iload_n 1, 1), (2, .invokevirtual 151, 3), (5, .astore 4, 2), (7, .aload_n 0, 1), (8, .iload_n 2, 1), (9, .invokevirtual 69, 3), (12, .astore 5, 2), (14, .aload_n 0, 1), (15, .iload_n 3, 1), (16, .invokevirtual 69, 3), (19, .astore 6, 2), (21, .aload_n 0, 1), (22, .aload 4, 2), (24, .aload 5, 2), (26, .aload 6, 2), (28, .invokevirtual 222, 3), (31, .ireturn, 1)]
set_option maxRecDepth 100000 in
theorem DX6_makes_ok : ∀ q ∈ DX6_makes, decode cX6_makes q.1 = .ok q.2 := by decide +kernel
def DX6_isSo : List (Nat × Instr × Nat) := [(0, .aload_n 0, 1), (1, .iload_n 1, 1), (2, .invokevirtual 151, 3), (5, .astore_n 3, 1), (6, .iload_n 2, 1), (7, .ifCond .eq 18, 3), (10, .iload_n 2, 1), (11, .iconst 1, 1), (12, .if_icmp .eq 13, 3), (15, .new 84, 3), (18, .dup, 1), (19, .ldc 183, 2), (21, .invokespecial 88, 3), (24, .athrow, 1), (25, .iload_n 2, 1), (26, .iconst 1, 1), (27, .if_icmp .ne 8, 3), (30, .aload_n 3, 1), (31, .invokevirtual 226, 3), (34, .ireturn, 1), (35, .aload_n 0, 1), (36, .getfield 38, 3), (39, .aload_n 3, 1), (40, .aload_n 3, 1), (41, .invokevirtual 175, 3), (44, .aload_n 0, 1), (45, .getfield 38, 3), (48, .invokevirtual 230, 3), (51, .ifCond .ne 19, 3), (54, .aload_n 0, 1), (55, .getfield 38, 3), (58, .aload_n 3, 1), (59, .invokevirtual 233, 3), (62, .iconst (-1), 1), (63, .if_icmp .ne 7, 3), (66, .iconst 1, 1), (67, .goto 4, 3), (70, .iconst 0, 1), (71, .ireturn, 1)]
set_option maxRecDepth 100000 in
theorem DX6_isSo_ok : ∀ q ∈ DX6_isSo, decode cX6_isSo q.1 = .ok q.2 := by decide +kernel
def DX6_unlike : List (Nat × Instr × Nat) := [(0, .aload_n 0, 1), (1, .iload_n 1, 1), (2, .invokevirtual 151, 3), (5, .astore_n 3, 1), (6, .aload_n 0, 1), (7, .iload_n 2, 1), (8, .invokevirtual 151, 3), (11, .astore 4, 2), (13, .aload_n 3, 1), (14, .aload 4, 2), (16, .invokevirtual 233, 3), (19, .ireturn, 1)]
set_option maxRecDepth 100000 in
theorem DX6_unlike_ok : ∀ q ∈ DX6_unlike, decode cX6_unlike q.1 = .ok q.2 := by decide +kernel
def DX6_weight : List (Nat × Instr × Nat) := [(0, .aload_n 0, 1), (1, .iload_n 1, 1), (2, .invokevirtual 151, 3), (5, .astore_n 3, 1), (6, .aload_n 0, 1), (7, .getfield 31, 3), (10, .invokevirtual 94, 3), (13, .aload_n 3, 1), (14, .aload_n 0, 1), (15, .getfield 31, 3), (18, .invokevirtual 236, 3), (21, .iload_n 2, 1), (22, .ifCond .eq 13, 3), (25, .aload_n 0, 1), (26, .getfield 31, 3), (29, .invokevirtual 204, 3), (32, .goto 10, 3), (35, .aload_n 0, 1), (36, .getfield 31, 3), (39, .invokevirtual 76, 3), (42, .ireturn, 1)]
set_option maxRecDepth 100000 in
theorem DX6_weight_ok : ∀ q ∈ DX6_weight, decode cX6_weight q.1 = .ok q.2 := by decide +kernel
def DX6_house : List (Nat × Instr × Nat) := [(0, .iload_n 1, 1), (1, .ifCond .lt 8, 3), (4, .iload_n 1, 1), (5, .iconst 4, 1), (6, .if_icmp .le 13, 3), (9, .new 84, 3), (12, .dup, 1), (13, .ldc 239, 2), (15, .invokespecial 88, 3), (18, .athrow, 1), (19, .iload_n 1, 1), (20, .tableswitch 52 0 3 #[32, 37, 42, 47], 32), (52, .aload_n 0, 1), (53, .getfield 241, 3), (56, .ireturn, 1), (57, .aload_n 0, 1), (58, .getfield 245, 3), (61, .ireturn, 1), (62, .aload_n 0, 1), (63, .getfield 248, 3), (66, .ireturn, 1), (67, .aload_n 0, 1), (68, .invokevirtual 251, 3), (71, .ireturn, 1), (72, .aload_n 0, 1), (73, .invokevirtual 254, 3), (76, .ireturn, 1)]
set_option maxRecDepth 100000 in
theorem DX6_house_ok : ∀ q ∈ DX6_house, decode cX6_house q.1 = .ok q.2 := by decide +kernel
def DX6_knock : List (Nat × Instr × Nat) := [(0, .aload_n 0, 1), (1, .dup, 1), (2, .getfield 248, 3), (5, .iconst 1, 1), (6, .iadd, 1), (7, .putfield 248, 3), (10, .aload_n 0, 1), (11, .getfield 248, 3), (14, .ireturn, 1)]
set_option maxRecDepth 100000 in
theorem DX6_knock_ok : ∀ q ∈ DX6_knock, decode cX6_knock q.1 = .ok q.2 := by decide +kernel
def DX6_isSound : List (Nat × Instr × Nat) := [(0, .aload_n 0, 1), (1, .getfield 11, 3), (4, .iconst 0, 1), (5, .aaload, 1), (6, .astore_n 1, 1), (7, .aload_n 0, 1), (8, .getfield 11, 3), (11, .iconst 1, 1), (12, .aaload, 1), (13, .astore_n 2, 1), (14, .aload_n 0, 1), (15, .getfield 48, 3), (18, .aload_n 1, 1), (19, .aload_n 2, 1), (20, .invokevirtual 185, 3), (23, .istore_n 3, 1), (24, .aload_n 0, 1), (25, .getfield 55, 3), (28, .aload_n 1, 1), (29, .aload_n 2, 1), (30, .invokevirtual 189, 3), (33, .istore 4, 2), (35, .iload_n 3, 1), (36, .ifCond .eq 30, 3), (39, .iload 4, 2), (41, .ifCond .eq 25, 3), (44, .aload_n 0, 1), (45, .getfield 48, 3), (48, .aload_n 0, 1), (49, .getfield 38, 3), (52, .invokevirtual 190, 3), (55, .aload_n 0, 1), (56, .getfield 55, 3), (59, .aload_n 0, 1), (60, .getfield 42, 3), (63, .invokevirtual 193, 3), (66, .iload_n 3, 1), (67, .iload 4, 2), (69, .if_icmp .ne 44, 3), (72, .iload_n 3, 1), (73, .ifCond .eq 12, 3), (76, .aload_n 0, 1), (77, .aload_n 1, 1), (78, .aload_n 2, 1), (79, .invokevirtual 257, 3), (82, .ifCond .eq 31, 3), (85, .aload_n 0, 1), (86, .aload_n 1, 1), (87, .aload_n 2, 1), (88, .invokevirtual 260, 3), (91, .ifCond .eq 22, 3), (94, .aload_n 0, 1), (95, .aload_n 1, 1), (96, .invokevirtual 263, 3), (99, .ifCond .eq 14, 3), (102, .aload_n 0, 1), (103, .invokevirtual 266, 3), (106, .ifCond .eq 7, 3), (109, .iconst 1, 1), (110, .goto 4, 3), (113, .iconst 0, 1), (114, .ireturn, 1)]
set_option maxRecDepth 100000 in
theorem DX6_isSound_ok : ∀ q ∈ DX6_isSound, decode cX6_isSound q.1 = .ok q.2 := by decide +kernel
def DX6_digest : List (Nat × Instr × Nat) := [(0, .ldc2_w 269, 3), (3, .lstore_n 1, 1), (4, .iconst 0, 1), (5, .istore_n 3, 1), (6, .iload_n 3, 1), (7, .bipush 6, 2), (9, .if_icmp .ge 72, 3), (12, .lload_n 1, 1), (13, .ldc2_w 271, 3), (16, .lmul, 1), (17, .aload_n 0, 1), (18, .iload_n 3, 1), (19, .invokevirtual 273, 3), (22, .i2l, 1), (23, .ladd, 1), (24, .lstore_n 1, 1), (25, .lload_n 1, 1), (26, .ldc2_w 271, 3), (29, .lmul, 1), (30, .aload_n 0, 1), (31, .iload_n 3, 1), (32, .invokevirtual 276, 3), (35, .i2l, 1), (36, .ladd, 1), (37, .lstore_n 1, 1), (38, .lload_n 1, 1), (39, .ldc2_w 271, 3), (42, .lmul, 1), (43, .aload_n 0, 1), (44, .iload_n 3, 1), (45, .invokevirtual 279, 3), (48, .i2l, 1), (49, .ladd, 1), (50, .lstore_n 1, 1), (51, .lload_n 1, 1), (52, .ldc2_w 271, 3), (55, .lmul, 1), (56, .aload_n 0, 1), (57, .iload_n 3, 1), (58, .invokevirtual 282, 3), (61, .i2l, 1), (62, .ladd, 1), (63, .lstore_n 1, 1), (64, .lload_n 1, 1), (65, .aload_n 0, 1), (66, .getfield 11, 3), (69, .iload_n 3, 1), (70, .aaload, 1), (71, .invokestatic 285, 3), (74, .lstore_n 1, 1), (75, .iinc 3 1, 3), (78, .goto (-72), 3), (81, .iconst 0, 1), (82, .istore_n 3, 1), (83, .iload_n 3, 1), (84, .iconst 3, 1), (85, .if_icmp .ge 20, 3), (88, .lload_n 1, 1), (89, .aload_n 0, 1), (90, .getfield 17, 3), (93, .iload_n 3, 1), (94, .aaload, 1), (95, .invokestatic 289, 3), (98, .lstore_n 1, 1), (99, .iinc 3 1, 3), (102, .goto (-19), 3), (105, .lload_n 1, 1), (106, .ldc2_w 271, 3), (109, .lmul, 1), (110, .aload_n 0, 1), (111, .iconst 0, 1), (112, .iconst 1, 1), (113, .invokevirtual 293, 3), (116, .i2l, 1), (117, .ladd, 1), (118, .lstore_n 1, 1), (119, .lload_n 1, 1), (120, .ldc2_w 271, 3), (123, .lmul, 1), (124, .aload_n 0, 1), (125, .iconst 0, 1), (126, .iconst 1, 1), (127, .invokevirtual 297, 3), (130, .i2l, 1), (131, .ladd, 1), (132, .lstore_n 1, 1), (133, .iconst 0, 1), (134, .istore_n 3, 1), (135, .iload_n 3, 1), (136, .iconst 4, 1), (137, .if_icmp .gt 22, 3), (140, .lload_n 1, 1), (141, .ldc2_w 271, 3), (144, .lmul, 1), (145, .aload_n 0, 1), (146, .iload_n 3, 1), (147, .invokevirtual 300, 3), (150, .i2l, 1), (151, .ladd, 1), (152, .lstore_n 1, 1), (153, .iinc 3 1, 3), (156, .goto (-21), 3), (159, .lload_n 1, 1), (160, .ldc2_w 271, 3), (163, .lmul, 1), (164, .aload_n 0, 1), (165, .invokevirtual 303, 3), (168, .ifCond .eq 7, 3), (171, .iconst 1, 1), (172, .goto 4, 3), (175, .iconst 0, 1), (176, .i2l, 1), (177, .ladd, 1), (178, .lreturn, 1)]
set_option maxRecDepth 100000 in
theorem DX6_digest_ok : ∀ q ∈ DX6_digest, decode cX6_digest q.1 = .ok q.2 := by decide +kernel
def DX6_termOf : List (Nat × Instr × Nat) := [(0, .iload_n 1, 1), (1, .ifCond .lt 9, 3), (4, .iload_n 1, 1), (5, .bipush 6, 2), (7, .if_icmp .lt 14, 3), (10, .new 306, 3), (13, .dup, 1), (14, .ldc_w 308, 3), (17, .invokespecial 310, 3), (20, .athrow, 1), (21, .aload_n 0, 1), (22, .getfield 11, 3), (25, .iload_n 1, 1), (26, .aaload, 1), (27, .areturn, 1)]
set_option maxRecDepth 100000 in
theorem DX6_termOf_ok : ∀ q ∈ DX6_termOf, decode cX6_termOf q.1 = .ok q.2 := by decide +kernel
def DX6_answerOf : List (Nat × Instr × Nat) := [(0, .iload_n 1, 1), (1, .ifCond .lt 8, 3), (4, .iload_n 1, 1), (5, .iconst 3, 1), (6, .if_icmp .lt 14, 3), (9, .new 306, 3), (12, .dup, 1), (13, .ldc_w 311, 3), (16, .invokespecial 310, 3), (19, .athrow, 1), (20, .aload_n 0, 1), (21, .getfield 17, 3), (24, .iload_n 1, 1), (25, .aaload, 1), (26, .areturn, 1)]
set_option maxRecDepth 100000 in
theorem DX6_answerOf_ok : ∀ q ∈ DX6_answerOf, decode cX6_answerOf q.1 = .ok q.2 := by decide +kernel
def DX6_needName : List (Nat × Instr × Nat) := [(0, .iload_n 0, 1), (1, .invokestatic 137, 3), (4, .ifCond .ne 14, 3), (7, .new 84, 3), (10, .dup, 1), (11, .ldc_w 313, 3), (14, .invokespecial 88, 3), (17, .athrow, 1), (18, .return_, 1)]
set_option maxRecDepth 100000 in
theorem DX6_needName_ok : ∀ q ∈ DX6_needName, decode cX6_needName q.1 = .ok q.2 := by decide +kernel
def DX6_did : List (Nat × Instr × Nat) := [(0, .aload_n 0, 1), (1, .dup, 1), (2, .getfield 241, 3), (5, .iconst 1, 1), (6, .iadd, 1), (7, .putfield 241, 3), (10, .iload_n 1, 1), (11, .ireturn, 1)]
set_option maxRecDepth 100000 in
theorem DX6_did_ok : ∀ q ∈ DX6_did, decode cX6_did q.1 = .ok q.2 := by decide +kernel
def DX6_refuse : List (Nat × Instr × Nat) := [(0, .aload_n 0, 1), (1, .dup, 1), (2, .getfield 245, 3), (5, .iconst 1, 1), (6, .iadd, 1), (7, .putfield 245, 3), (10, .bipush (-9), 2), (12, .ireturn, 1)]
set_option maxRecDepth 100000 in
theorem DX6_refuse_ok : ∀ q ∈ DX6_refuse, decode cX6_refuse q.1 = .ok q.2 := by decide +kernel
def DX6_putSpareInto : List (Nat × Instr × Nat) := [(0, .aload_n 0, 1), (1, .getfield 24, 3), (4, .invokevirtual 315, 3), (7, .ifCond .eq 8, 3), (10, .aload_n 0, 1), (11, .invokevirtual 119, 3), (14, .ireturn, 1), (15, .aload_n 1, 1), (16, .aload_n 0, 1), (17, .getfield 24, 3), (20, .invokevirtual 108, 3), (23, .aload_n 0, 1), (24, .aload_n 1, 1), (25, .invokevirtual 76, 3), (28, .invokevirtual 80, 3), (31, .ireturn, 1)]
set_option maxRecDepth 100000 in
theorem DX6_putSpareInto_ok : ∀ q ∈ DX6_putSpareInto, decode cX6_putSpareInto q.1 = .ok q.2 := by decide +kernel
def DX6_putSpareAnswerInto : List (Nat × Instr × Nat) := [(0, .aload_n 0, 1), (1, .getfield 38, 3), (4, .invokevirtual 230, 3), (7, .ifCond .eq 8, 3), (10, .aload_n 0, 1), (11, .invokevirtual 119, 3), (14, .ireturn, 1), (15, .aload_n 1, 1), (16, .aload_n 0, 1), (17, .getfield 38, 3), (20, .invokevirtual 172, 3), (23, .aload_n 0, 1), (24, .aload_n 1, 1), (25, .invokevirtual 163, 3), (28, .invokevirtual 80, 3), (31, .ireturn, 1)]
set_option maxRecDepth 100000 in
theorem DX6_putSpareAnswerInto_ok : ∀ q ∈ DX6_putSpareAnswerInto, decode cX6_putSpareAnswerInto q.1 = .ok q.2 := by decide +kernel
def DX6_isMadeAlikeBy : List (Nat × Instr × Nat) := [(0, .aload_n 0, 1), (1, .getfield 31, 3), (4, .invokevirtual 94, 3), (7, .aload_n 1, 1), (8, .aload_n 2, 1), (9, .iconst 0, 1), (10, .aload_n 2, 1), (11, .invokevirtual 76, 3), (14, .aload_n 0, 1), (15, .getfield 31, 3), (18, .invokevirtual 155, 3), (21, .aload_n 0, 1), (22, .getfield 34, 3), (25, .invokevirtual 94, 3), (28, .aload_n 1, 1), (29, .aload_n 3, 1), (30, .iconst 0, 1), (31, .aload_n 3, 1), (32, .invokevirtual 76, 3), (35, .aload_n 0, 1), (36, .getfield 34, 3), (39, .invokevirtual 155, 3), (42, .aload_n 0, 1), (43, .getfield 31, 3), (46, .aload_n 0, 1), (47, .getfield 34, 3), (50, .invokevirtual 111, 3), (53, .ireturn, 1)]
set_option maxRecDepth 100000 in
theorem DX6_isMadeAlikeBy_ok : ∀ q ∈ DX6_isMadeAlikeBy, decode cX6_isMadeAlikeBy q.1 = .ok q.2 := by decide +kernel
def DX6_sizesTogether : List (Nat × Instr × Nat) := [(0, .iconst 0, 1), (1, .istore_n 1, 1), (2, .aload_n 0, 1), (3, .getfield 11, 3), (6, .astore_n 2, 1), (7, .aload_n 2, 1), (8, .arraylength, 1), (9, .istore_n 3, 1), (10, .iconst 0, 1), (11, .istore 4, 2), (13, .iload 4, 2), (15, .iload_n 3, 1), (16, .if_icmp .ge 23, 3), (19, .aload_n 2, 1), (20, .iload 4, 2), (22, .aaload, 1), (23, .astore 5, 2), (25, .iload_n 1, 1), (26, .aload 5, 2), (28, .invokevirtual 76, 3), (31, .iadd, 1), (32, .istore_n 1, 1), (33, .iinc 4 1, 3), (36, .goto (-23), 3), (39, .iload_n 1, 1), (40, .ireturn, 1)]
set_option maxRecDepth 100000 in
theorem DX6_sizesTogether_ok : ∀ q ∈ DX6_sizesTogether, decode cX6_sizesTogether q.1 = .ok q.2 := by decide +kernel
def DX6_movesTogether : List (Nat × Instr × Nat) := [(0, .iconst 0, 1), (1, .istore_n 1, 1), (2, .aload_n 0, 1), (3, .getfield 17, 3), (6, .astore_n 2, 1), (7, .aload_n 2, 1), (8, .arraylength, 1), (9, .istore_n 3, 1), (10, .iconst 0, 1), (11, .istore 4, 2), (13, .iload 4, 2), (15, .iload_n 3, 1), (16, .if_icmp .ge 23, 3), (19, .aload_n 2, 1), (20, .iload 4, 2), (22, .aaload, 1), (23, .astore 5, 2), (25, .iload_n 1, 1), (26, .aload 5, 2), (28, .invokevirtual 163, 3), (31, .iadd, 1), (32, .istore_n 1, 1), (33, .iinc 4 1, 3), (36, .goto (-23), 3), (39, .iload_n 1, 1), (40, .ireturn, 1)]
set_option maxRecDepth 100000 in
theorem DX6_movesTogether_ok : ∀ q ∈ DX6_movesTogether, decode cX6_movesTogether q.1 = .ok q.2 := by decide +kernel
def DX6_areAnswersSound : List (Nat × Instr × Nat) := [(0, .aload_n 0, 1), (1, .getfield 38, 3), (4, .invokevirtual 230, 3), (7, .ifCond .eq 15, 3), (10, .aload_n 0, 1), (11, .getfield 42, 3), (14, .invokevirtual 230, 3), (17, .ifCond .eq 5, 3), (20, .iconst 1, 1), (21, .ireturn, 1), (22, .aload_n 0, 1), (23, .getfield 38, 3), (26, .invokevirtual 230, 3), (29, .ifCond .ne 45, 3), (32, .aload_n 0, 1), (33, .getfield 42, 3), (36, .invokevirtual 230, 3), (39, .ifCond .ne 35, 3), (42, .aload_n 0, 1), (43, .getfield 38, 3), (46, .aload_n 0, 1), (47, .getfield 42, 3), (50, .invokevirtual 233, 3), (53, .iconst (-1), 1), (54, .if_icmp .ne 20, 3), (57, .aload_n 0, 1), (58, .aload_n 0, 1), (59, .getfield 38, 3), (62, .aload_n 1, 1), (63, .aload_n 2, 1), (64, .invokevirtual 222, 3), (67, .ifCond .eq 7, 3), (70, .iconst 1, 1), (71, .goto 4, 3), (74, .iconst 0, 1), (75, .ireturn, 1)]
set_option maxRecDepth 100000 in
theorem DX6_areAnswersSound_ok : ∀ q ∈ DX6_areAnswersSound, decode cX6_areAnswersSound q.1 = .ok q.2 := by decide +kernel
def DX6_isCommonSound : List (Nat × Instr × Nat) := [(0, .aload_n 0, 1), (1, .getfield 62, 3), (4, .aload_n 1, 1), (5, .aload_n 2, 1), (6, .aload_n 0, 1), (7, .getfield 24, 3), (10, .invokevirtual 159, 3), (13, .ifCond .eq 33, 3), (16, .aload_n 0, 1), (17, .getfield 38, 3), (20, .aload_n 0, 1), (21, .getfield 24, 3), (24, .aload_n 1, 1), (25, .invokevirtual 194, 3), (28, .ifCond .eq 22, 3), (31, .aload_n 0, 1), (32, .getfield 38, 3), (35, .aload_n 0, 1), (36, .getfield 24, 3), (39, .aload_n 2, 1), (40, .invokevirtual 194, 3), (43, .ifCond .eq 7, 3), (46, .iconst 1, 1), (47, .goto 4, 3), (50, .iconst 0, 1), (51, .ireturn, 1)]
set_option maxRecDepth 100000 in
theorem DX6_isCommonSound_ok : ∀ q ∈ DX6_isCommonSound, decode cX6_isCommonSound q.1 = .ok q.2 := by decide +kernel
def DX6_isPlainSound : List (Nat × Instr × Nat) := [(0, .aload_n 0, 1), (1, .getfield 24, 3), (4, .aload_n 1, 1), (5, .invokevirtual 148, 3), (8, .aload_n 0, 1), (9, .getfield 38, 3), (12, .aload_n 1, 1), (13, .aload_n 0, 1), (14, .getfield 24, 3), (17, .invokevirtual 194, 3), (20, .ifCond .eq 22, 3), (23, .aload_n 0, 1), (24, .getfield 38, 3), (27, .aload_n 0, 1), (28, .getfield 24, 3), (31, .aload_n 1, 1), (32, .invokevirtual 194, 3), (35, .ifCond .eq 7, 3), (38, .iconst 1, 1), (39, .goto 4, 3), (42, .iconst 0, 1), (43, .ireturn, 1)]
set_option maxRecDepth 100000 in
theorem DX6_isPlainSound_ok : ∀ q ∈ DX6_isPlainSound, decode cX6_isPlainSound q.1 = .ok q.2 := by decide +kernel
def DX6_areSizesSound : List (Nat × Instr × Nat) := [(0, .aload_n 0, 1), (1, .getfield 11, 3), (4, .astore_n 1, 1), (5, .aload_n 1, 1), (6, .arraylength, 1), (7, .istore_n 2, 1), (8, .iconst 0, 1), (9, .istore_n 3, 1), (10, .iload_n 3, 1), (11, .iload_n 2, 1), (12, .if_icmp .ge 39, 3), (15, .aload_n 1, 1), (16, .iload_n 3, 1), (17, .aaload, 1), (18, .astore 4, 2), (20, .aload 4, 2), (22, .invokevirtual 76, 3), (25, .bipush 16, 2), (27, .if_icmp .gt 16, 3), (30, .aload 4, 2), (32, .invokevirtual 204, 3), (35, .aload 4, 2), (37, .invokevirtual 76, 3), (40, .if_icmp .le 5, 3), (43, .iconst 0, 1), (44, .ireturn, 1), (45, .iinc 3 1, 3), (48, .goto (-38), 3), (51, .iconst 1, 1), (52, .ireturn, 1)]
set_option maxRecDepth 100000 in
theorem DX6_areSizesSound_ok : ∀ q ∈ DX6_areSizesSound, decode cX6_areSizesSound q.1 = .ok q.2 := by decide +kernel
def DX6_withLetters : List (Nat × Instr × Nat) := [(0, .lload_n 0, 1), (1, .lstore_n 3, 1), (2, .iconst 0, 1), (3, .istore 5, 2), (5, .iload 5, 2), (7, .aload_n 2, 1), (8, .invokevirtual 76, 3), (11, .if_icmp .ge 23, 3), (14, .lload_n 3, 1), (15, .ldc2_w 271, 3), (18, .lmul, 1), (19, .aload_n 2, 1), (20, .iload 5, 2), (22, .invokevirtual 132, 3), (25, .i2l, 1), (26, .ladd, 1), (27, .lstore_n 3, 1), (28, .iinc 5 1, 3), (31, .goto (-26), 3), (34, .lload_n 3, 1), (35, .lreturn, 1)]
set_option maxRecDepth 100000 in
theorem DX6_withLetters_ok : ∀ q ∈ DX6_withLetters, decode cX6_withLetters q.1 = .ok q.2 := by decide +kernel
def DX6_withAnswer : List (Nat × Instr × Nat) := [(0, .lload_n 0, 1), (1, .ldc2_w 271, 3), (4, .lmul, 1), (5, .aload_n 2, 1), (6, .invokevirtual 219, 3), (9, .i2l, 1), (10, .ladd, 1), (11, .lstore_n 3, 1), (12, .iconst 0, 1), (13, .istore 5, 2), (15, .iload 5, 2), (17, .bipush 8, 2), (19, .if_icmp .ge 56, 3), (22, .aload_n 2, 1), (23, .iload 5, 2), (25, .invokevirtual 316, 3), (28, .ifCond .eq 41, 3), (31, .lload_n 3, 1), (32, .ldc2_w 271, 3), (35, .lmul, 1), (36, .iload 5, 2), (38, .i2l, 1), (39, .ladd, 1), (40, .lstore_n 3, 1), (41, .lload_n 3, 1), (42, .ldc2_w 271, 3), (45, .lmul, 1), (46, .aload_n 2, 1), (47, .iload 5, 2), (49, .invokevirtual 169, 3), (52, .invokevirtual 76, 3), (55, .i2l, 1), (56, .ladd, 1), (57, .lstore_n 3, 1), (58, .lload_n 3, 1), (59, .aload_n 2, 1), (60, .iload 5, 2), (62, .invokevirtual 169, 3), (65, .invokestatic 285, 3), (68, .lstore_n 3, 1), (69, .iinc 5 1, 3), (72, .goto (-57), 3), (75, .lload_n 3, 1), (76, .lreturn, 1)]
set_option maxRecDepth 100000 in
theorem DX6_withAnswer_ok : ∀ q ∈ DX6_withAnswer, decode cX6_withAnswer q.1 = .ok q.2 := by decide +kernel
def DX6_isName : List (Nat × Instr × Nat) := [(0, .iload_n 0, 1), (1, .ifCond .lt 13, 3), (4, .iload_n 0, 1), (5, .bipush 8, 2), (7, .if_icmp .ge 7, 3), (10, .iconst 1, 1), (11, .goto 4, 3), (14, .iconst 0, 1), (15, .ireturn, 1)]
set_option maxRecDepth 100000 in
theorem DX6_isName_ok : ∀ q ∈ DX6_isName, decode cX6_isName q.1 = .ok q.2 := by decide +kernel
def DX6_isHead : List (Nat × Instr × Nat) := [(0, .iload_n 0, 1), (1, .bipush 10, 2), (3, .if_icmp .lt 13, 3), (6, .iload_n 0, 1), (7, .bipush 18, 2), (9, .if_icmp .ge 7, 3), (12, .iconst 1, 1), (13, .goto 4, 3), (16, .iconst 0, 1), (17, .ireturn, 1)]
set_option maxRecDepth 100000 in
theorem DX6_isHead_ok : ∀ q ∈ DX6_isHead, decode cX6_isHead q.1 = .ok q.2 := by decide +kernel
def DX6_partsOf : List (Nat × Instr × Nat) := [(0, .iload_n 0, 1), (1, .bipush 10, 2), (3, .if_icmp .lt 25, 3), (6, .iload_n 0, 1), (7, .bipush 10, 2), (9, .getstatic 319, 3), (12, .arraylength, 1), (13, .iadd, 1), (14, .if_icmp .ge 14, 3), (17, .getstatic 319, 3), (20, .iload_n 0, 1), (21, .bipush 10, 2), (23, .isub, 1), (24, .iaload, 1), (25, .goto 4, 3), (28, .iconst 0, 1), (29, .ireturn, 1)]
set_option maxRecDepth 100000 in
theorem DX6_partsOf_ok : ∀ q ∈ DX6_partsOf, decode cX6_partsOf q.1 = .ok q.2 := by decide +kernel
def DX6_signOf : List (Nat × Instr × Nat) := [(0, .iload_n 0, 1), (1, .bipush 10, 2), (3, .if_icmp .lt 20, 3), (6, .iload_n 0, 1), (7, .bipush 10, 2), (9, .ldc_w 323, 3), (12, .invokevirtual 325, 3), (15, .iadd, 1), (16, .if_icmp .ge 7, 3), (19, .iconst 1, 1), (20, .goto 4, 3), (23, .iconst 0, 1), (24, .istore_n 1, 1), (25, .iload_n 1, 1), (26, .ifCond .eq 16, 3), (29, .ldc_w 323, 3), (32, .iload_n 0, 1), (33, .bipush 10, 2), (35, .isub, 1), (36, .invokevirtual 328, 3), (39, .goto 8, 3), (42, .bipush 97, 2), (44, .iload_n 0, 1), (45, .iadd, 1), (46, .i2c, 1), (47, .ireturn, 1)]
set_option maxRecDepth 100000 in
theorem DX6_signOf_ok : ∀ q ∈ DX6_signOf, decode cX6_signOf q.1 = .ok q.2 := by decide +kernel
def DX6_written : List (Nat × Instr × Nat) := [(0, .new 332, 3), (3, .dup, 1), (4, .invokespecial 334, 3), (7, .astore_n 1, 1), (8, .iconst 0, 1), (9, .istore_n 2, 1), (10, .iload_n 2, 1), (11, .aload_n 0, 1), (12, .invokevirtual 76, 3), (15, .if_icmp .ge 88, 3), (18, .aload_n 0, 1), (19, .iload_n 2, 1), (20, .invokevirtual 132, 3), (23, .istore_n 3, 1), (24, .aload_n 1, 1), (25, .iload_n 3, 1), (26, .invokestatic 335, 3), (29, .invokevirtual 338, 3), (32, .pop, 1), (33, .iload_n 3, 1), (34, .invokestatic 91, 3), (37, .ifCond .le 13, 3), (40, .aload_n 1, 1), (41, .bipush 40, 2), (43, .invokevirtual 338, 3), (46, .pop, 1), (47, .goto 50, 3), (50, .aload_n 0, 1), (51, .iload_n 2, 1), (52, .invokevirtual 342, 3), (55, .istore 4, 2), (57, .iconst 0, 1), (58, .istore 5, 2), (60, .iload 5, 2), (62, .iload 4, 2), (64, .if_icmp .ge 16, 3), (67, .aload_n 1, 1), (68, .bipush 41, 2), (70, .invokevirtual 338, 3), (73, .pop, 1), (74, .iinc 5 1, 3), (77, .goto (-17), 3), (80, .iload_n 2, 1), (81, .iconst 1, 1), (82, .iadd, 1), (83, .aload_n 0, 1), (84, .invokevirtual 76, 3), (87, .if_icmp .ge 10, 3), (90, .aload_n 1, 1), (91, .bipush 44, 2), (93, .invokevirtual 338, 3), (96, .pop, 1), (97, .iinc 2 1, 3), (100, .goto (-90), 3), (103, .aload_n 1, 1), (104, .invokevirtual 345, 3), (107, .areturn, 1)]
set_option maxRecDepth 100000 in
theorem DX6_written_ok : ∀ q ∈ DX6_written, decode cX6_written q.1 = .ok q.2 := by decide +kernel
end
section
def DX8_init : List (Nat × Instr × Nat) := [(0, .aload_n 0, 1), (1, .invokespecial 3, 3), (4, .aload_n 0, 1), (5, .bipush 32, 2), (7, .anewarray 9, 3), (10, .putfield 11, 3), (13, .aload_n 0, 1), (14, .bipush 32, 2), (16, .newarray .int, 2), (18, .putfield 17, 3), (21, .aload_n 0, 1), (22, .bipush 96, 2), (24, .newarray .int, 2), (26, .putfield 20, 3), (29, .aload_n 0, 1), (30, .iconst 1, 1), (31, .putfield 23, 3), (34, .iconst 0, 1), (35, .istore_n 3, 1), (36, .iload_n 3, 1), (37, .aload_n 1, 1), (38, .arraylength, 1), (39, .if_icmp .ge 18, 3), (42, .aload_n 0, 1), (43, .aload_n 1, 1), (44, .iload_n 3, 1), (45, .invokestatic 27, 3), (48, .invokevirtual 31, 3), (51, .iinc 3 1, 3), (54, .goto (-18), 3), (57, .iconst 0, 1), (58, .istore_n 3, 1), (59, .iload_n 3, 1), (60, .aload_n 2, 1), (61, .arraylength, 1), (62, .if_icmp .ge 18, 3), (65, .aload_n 0, 1), (66, .aload_n 2, 1), (67, .iload_n 3, 1), (68, .invokestatic 27, 3), (71, .invokevirtual 31, 3), (74, .iinc 3 1, 3), (77, .goto (-18), 3), (80, .iconst 0, 1), (81, .istore_n 3, 1), (82, .iload_n 3, 1), (83, .aload_n 0, 1), (84, .getfield 35, 3), (87, .if_icmp .ge 73, 3), (90, .iconst 1, 1), (91, .istore 4, 2), (93, .iconst 0, 1), (94, .istore 5, 2), (96, .iload 5, 2), (98, .aload_n 0, 1), (99, .getfield 11, 3), (102, .iload_n 3, 1), (103, .aaload, 1), (104, .iconst 0, 1), (105, .iaload, 1), (106, .invokestatic 39, 3), (109, .if_icmp .ge 45, 3), (112, .aload_n 0, 1), (113, .getfield 20, 3), (116, .iconst 3, 1), (117, .iload_n 3, 1), (118, .imul, 1), (119, .iload 5, 2), (121, .iadd, 1), (122, .aload_n 0, 1), (123, .aload_n 0, 1), (124, .getfield 11, 3), (127, .iload_n 3, 1), (128, .aaload, 1), (129, .iload 4, 2), (131, .invokevirtual 43, 3), (134, .iastore, 1), (135, .aload_n 0, 1), (136, .getfield 11, 3), (139, .iload_n 3, 1), (140, .aaload, 1), (141, .iload 4, 2), (143, .invokestatic 47, 3), (146, .istore 4, 2), (148, .iinc 5 1, 3), (151, .goto (-55), 3), (154, .iinc 3 1, 3), (157, .goto (-75), 3), (160, .aload_n 0, 1), (161, .aload_n 0, 1), (162, .aload_n 1, 1), (163, .iconst 0, 1), (164, .invokevirtual 43, 3), (167, .aload_n 0, 1), (168, .aload_n 2, 1), (169, .iconst 0, 1), (170, .invokevirtual 43, 3), (173, .invokevirtual 50, 3), (176, .aload_n 0, 1), (177, .aload_n 0, 1), (178, .getfield 23, 3), (181, .ifCond .eq 14, 3), (184, .aload_n 0, 1), (185, .invokevirtual 54, 3), (188, .ifCond .ne 7, 3), (191, .iconst 1, 1), (192, .goto 4, 3), (195, .iconst 0, 1), (196, .putfield 23, 3), (199, .return_, 1)]
set_option maxRecDepth 100000 in
theorem DX8_init_ok : ∀ q ∈ DX8_init, decode cX8_init q.1 = .ok q.2 := by decide +kernel
def DX8_number : List (Nat × Instr × Nat) := [(0, .iconst 0, 1), (1, .istore_n 3, 1), (2, .aload_n 1, 1), (3, .iload_n 2, 1), (4, .aload_n 0, 1), (5, .getfield 11, 3), (8, .iload_n 3, 1), (9, .aaload, 1), (10, .iconst 0, 1), (11, .invokestatic 58, 3), (14, .ifCond .ne 9, 3), (17, .iinc 3 1, 3), (20, .goto (-18), 3), (23, .iload_n 3, 1), (24, .ireturn, 1)]
set_option maxRecDepth 100000 in
theorem DX8_number_ok : ∀ q ∈ DX8_number, decode cX8_number q.1 = .ok q.2 := by decide +kernel
def DX8_come : List (Nat × Instr × Nat) := [(0, .iconst 0, 1), (1, .istore_n 2, 1), (2, .iload_n 2, 1), (3, .aload_n 0, 1), (4, .getfield 35, 3), (7, .if_icmp .ge 23, 3), (10, .aload_n 0, 1), (11, .getfield 11, 3), (14, .iload_n 2, 1), (15, .aaload, 1), (16, .aload_n 1, 1), (17, .invokestatic 62, 3), (20, .ifCond .eq 4, 3), (23, .return_, 1), (24, .iinc 2 1, 3), (27, .goto (-25), 3), (30, .aload_n 0, 1), (31, .getfield 11, 3), (34, .aload_n 0, 1), (35, .getfield 35, 3), (38, .aload_n 1, 1), (39, .aastore, 1), (40, .aload_n 0, 1), (41, .getfield 17, 3), (44, .aload_n 0, 1), (45, .getfield 35, 3), (48, .aload_n 0, 1), (49, .getfield 35, 3), (52, .iastore, 1), (53, .aload_n 0, 1), (54, .dup, 1), (55, .getfield 35, 3), (58, .iconst 1, 1), (59, .iadd, 1), (60, .putfield 35, 3), (63, .return_, 1)]
set_option maxRecDepth 100000 in
theorem DX8_come_ok : ∀ q ∈ DX8_come, decode cX8_come q.1 = .ok q.2 := by decide +kernel
def DX8_headed : List (Nat × Instr × Nat) := [(0, .iconst 0, 1), (1, .istore_n 2, 1), (2, .iload_n 2, 1), (3, .aload_n 0, 1), (4, .getfield 35, 3), (7, .if_icmp .ge 34, 3), (10, .aload_n 0, 1), (11, .getfield 17, 3), (14, .iload_n 2, 1), (15, .iaload, 1), (16, .iload_n 1, 1), (17, .if_icmp .ne 18, 3), (20, .aload_n 0, 1), (21, .getfield 11, 3), (24, .iload_n 2, 1), (25, .aaload, 1), (26, .iconst 0, 1), (27, .iaload, 1), (28, .bipush 10, 2), (30, .if_icmp .lt 5, 3), (33, .iload_n 2, 1), (34, .ireturn, 1), (35, .iinc 2 1, 3), (38, .goto (-36), 3), (41, .iconst (-1), 1), (42, .ireturn, 1)]
set_option maxRecDepth 100000 in
theorem DX8_headed_ok : ∀ q ∈ DX8_headed, decode cX8_headed q.1 = .ok q.2 := by decide +kernel
def DX8_join : List (Nat × Instr × Nat) := [(0, .aload_n 0, 1), (1, .getfield 17, 3), (4, .iload_n 1, 1), (5, .iaload, 1), (6, .istore_n 3, 1), (7, .aload_n 0, 1), (8, .getfield 17, 3), (11, .iload_n 2, 1), (12, .iaload, 1), (13, .istore 4, 2), (15, .iload_n 3, 1), (16, .iload 4, 2), (18, .if_icmp .eq 10, 3), (21, .aload_n 0, 1), (22, .getfield 23, 3), (25, .ifCond .ne 4, 3), (28, .return_, 1), (29, .aload_n 0, 1), (30, .iload_n 3, 1), (31, .invokevirtual 66, 3), (34, .istore 5, 2), (36, .aload_n 0, 1), (37, .iload 4, 2), (39, .invokevirtual 66, 3), (42, .istore 6, 2), (44, .iconst 0, 1), (45, .istore 7, 2), (47, .iload 7, 2), (49, .aload_n 0, 1), (50, .getfield 35, 3), (53, .if_icmp .ge 29, 3), (56, .aload_n 0, 1), (57, .getfield 17, 3), (60, .iload 7, 2), (62, .iaload, 1), (63, .iload 4, 2), (65, .if_icmp .ne 11, 3), (68, .aload_n 0, 1), (69, .getfield 17, 3), (72, .iload 7, 2), (74, .iload_n 3, 1), (75, .iastore, 1), (76, .iinc 7 1, 3), (79, .goto (-32), 3), (82, .iload 5, 2), (84, .ifCond .lt 8, 3), (87, .iload 6, 2), (89, .ifCond .ge 4, 3), (92, .return_, 1), (93, .aload_n 0, 1), (94, .getfield 11, 3), (97, .iload 5, 2), (99, .aaload, 1), (100, .iconst 0, 1), (101, .iaload, 1), (102, .aload_n 0, 1), (103, .getfield 11, 3), (106, .iload 6, 2), (108, .aaload, 1), (109, .iconst 0, 1), (110, .iaload, 1), (111, .if_icmp .eq 9, 3), (114, .aload_n 0, 1), (115, .iconst 0, 1), (116, .putfield 23, 3), (119, .return_, 1), (120, .iconst 0, 1), (121, .istore 7, 2), (123, .iload 7, 2), (125, .aload_n 0, 1), (126, .getfield 11, 3), (129, .iload 5, 2), (131, .aaload, 1), (132, .iconst 0, 1), (133, .iaload, 1), (134, .invokestatic 39, 3), (137, .if_icmp .ge 37, 3), (140, .aload_n 0, 1), (141, .aload_n 0, 1), (142, .getfield 20, 3), (145, .iconst 3, 1), (146, .iload 5, 2), (148, .imul, 1), (149, .iload 7, 2), (151, .iadd, 1), (152, .iaload, 1), (153, .aload_n 0, 1), (154, .getfield 20, 3), (157, .iconst 3, 1), (158, .iload 6, 2), (160, .imul, 1), (161, .iload 7, 2), (163, .iadd, 1), (164, .iaload, 1), (165, .invokevirtual 50, 3), (168, .iinc 7 1, 3), (171, .goto (-48), 3), (174, .return_, 1)]
set_option maxRecDepth 100000 in
theorem DX8_join_ok : ∀ q ∈ DX8_join, decode cX8_join q.1 = .ok q.2 := by decide +kernel
def DX8_isRound : List (Nat × Instr × Nat) := [(0, .aload_n 0, 1), (1, .getfield 35, 3), (4, .newarray .boolean, 2), (6, .astore_n 1, 1), (7, .iconst 1, 1), (8, .istore_n 2, 1), (9, .iload_n 2, 1), (10, .ifCond .eq 64, 3), (13, .iconst 0, 1), (14, .istore_n 2, 1), (15, .iconst 0, 1), (16, .istore_n 3, 1), (17, .iload_n 3, 1), (18, .aload_n 0, 1), (19, .getfield 35, 3), (22, .if_icmp .ge 49, 3), (25, .aload_n 1, 1), (26, .aload_n 0, 1), (27, .getfield 17, 3), (30, .iload_n 3, 1), (31, .iaload, 1), (32, .baload, 1), (33, .ifCond .ne 32, 3), (36, .aload_n 0, 1), (37, .aload_n 0, 1), (38, .aload_n 0, 1), (39, .getfield 17, 3), (42, .iload_n 3, 1), (43, .iaload, 1), (44, .invokevirtual 66, 3), (47, .aload_n 1, 1), (48, .invokevirtual 69, 3), (51, .ifCond .eq 14, 3), (54, .aload_n 1, 1), (55, .aload_n 0, 1), (56, .getfield 17, 3), (59, .iload_n 3, 1), (60, .iaload, 1), (61, .iconst 1, 1), (62, .bastore, 1), (63, .iconst 1, 1), (64, .istore_n 2, 1), (65, .iinc 3 1, 3), (68, .goto (-51), 3), (71, .goto (-62), 3), (74, .iconst 0, 1), (75, .istore_n 3, 1), (76, .iload_n 3, 1), (77, .aload_n 0, 1), (78, .getfield 35, 3), (81, .if_icmp .ge 22, 3), (84, .aload_n 1, 1), (85, .aload_n 0, 1), (86, .getfield 17, 3), (89, .iload_n 3, 1), (90, .iaload, 1), (91, .baload, 1), (92, .ifCond .ne 5, 3), (95, .iconst 1, 1), (96, .ireturn, 1), (97, .iinc 3 1, 3), (100, .goto (-24), 3), (103, .iconst 0, 1), (104, .ireturn, 1)]
set_option maxRecDepth 100000 in
theorem DX8_isRound_ok : ∀ q ∈ DX8_isRound, decode cX8_isRound q.1 = .ok q.2 := by decide +kernel
def DX8_isFree : List (Nat × Instr × Nat) := [(0, .iload_n 1, 1), (1, .ifCond .ge 5, 3), (4, .iconst 1, 1), (5, .ireturn, 1), (6, .iconst 0, 1), (7, .istore_n 3, 1), (8, .iload_n 3, 1), (9, .aload_n 0, 1), (10, .getfield 11, 3), (13, .iload_n 1, 1), (14, .aaload, 1), (15, .iconst 0, 1), (16, .iaload, 1), (17, .invokestatic 39, 3), (20, .if_icmp .ge 31, 3), (23, .aload_n 2, 1), (24, .aload_n 0, 1), (25, .getfield 17, 3), (28, .aload_n 0, 1), (29, .getfield 20, 3), (32, .iconst 3, 1), (33, .iload_n 1, 1), (34, .imul, 1), (35, .iload_n 3, 1), (36, .iadd, 1), (37, .iaload, 1), (38, .iaload, 1), (39, .baload, 1), (40, .ifCond .ne 5, 3), (43, .iconst 0, 1), (44, .ireturn, 1), (45, .iinc 3 1, 3), (48, .goto (-40), 3), (51, .iconst 1, 1), (52, .ireturn, 1)]
set_option maxRecDepth 100000 in
theorem DX8_isFree_ok : ∀ q ∈ DX8_isFree, decode cX8_isFree q.1 = .ok q.2 := by decide +kernel
def DX8_whole : List (Nat × Instr × Nat) := [(0, .aload_n 0, 1), (1, .iload_n 1, 1), (2, .invokevirtual 66, 3), (5, .istore_n 2, 1), (6, .iload_n 2, 1), (7, .ifCond .ge 54, 3), (10, .bipush 8, 2), (12, .istore_n 3, 1), (13, .iconst 0, 1), (14, .istore 4, 2), (16, .iload 4, 2), (18, .aload_n 0, 1), (19, .getfield 35, 3), (22, .if_icmp .ge 34, 3), (25, .aload_n 0, 1), (26, .getfield 17, 3), (29, .iload 4, 2), (31, .iaload, 1), (32, .iload_n 1, 1), (33, .if_icmp .ne 17, 3), (36, .iload_n 3, 1), (37, .aload_n 0, 1), (38, .getfield 11, 3), (41, .iload 4, 2), (43, .aaload, 1), (44, .iconst 0, 1), (45, .iaload, 1), (46, .invokestatic 73, 3), (49, .istore_n 3, 1), (50, .iinc 4 1, 3), (53, .goto (-37), 3), (56, .iload_n 3, 1), (57, .invokestatic 79, 3), (60, .areturn, 1), (61, .aload_n 0, 1), (62, .getfield 11, 3), (65, .iload_n 2, 1), (66, .aaload, 1), (67, .iconst 0, 1), (68, .iaload, 1), (69, .invokestatic 79, 3), (72, .astore_n 3, 1), (73, .iconst 0, 1), (74, .istore 4, 2), (76, .iload 4, 2), (78, .aload_n 0, 1), (79, .getfield 11, 3), (82, .iload_n 2, 1), (83, .aaload, 1), (84, .iconst 0, 1), (85, .iaload, 1), (86, .invokestatic 39, 3), (89, .if_icmp .ge 56, 3), (92, .aload_n 0, 1), (93, .aload_n 0, 1), (94, .getfield 17, 3), (97, .aload_n 0, 1), (98, .getfield 20, 3), (101, .iconst 3, 1), (102, .iload_n 2, 1), (103, .imul, 1), (104, .iload 4, 2), (106, .iadd, 1), (107, .iaload, 1), (108, .iaload, 1), (109, .invokevirtual 83, 3), (112, .astore 5, 2), (114, .aload 5, 2), (116, .ifnull 14, 3), (119, .aload_n 3, 1), (120, .arraylength, 1), (121, .aload 5, 2), (123, .arraylength, 1), (124, .iadd, 1), (125, .bipush 16, 2), (127, .if_icmp .le 5, 3), (130, .aconst_null, 1), (131, .areturn, 1), (132, .aload_n 3, 1), (133, .aload 5, 2), (135, .invokestatic 86, 3), (138, .astore_n 3, 1), (139, .iinc 4 1, 3), (142, .goto (-66), 3), (145, .aload_n 3, 1), (146, .areturn, 1)]
set_option maxRecDepth 100000 in
theorem DX8_whole_ok : ∀ q ∈ DX8_whole, decode cX8_whole q.1 = .ok q.2 := by decide +kernel
def DX8_answer : List (Nat × Instr × Nat) := [(0, .invokestatic 90, 3), (3, .astore_n 1, 1), (4, .iconst 0, 1), (5, .istore_n 2, 1), (6, .iload_n 2, 1), (7, .aload_n 0, 1), (8, .getfield 35, 3), (11, .if_icmp .ge 53, 3), (14, .aload_n 0, 1), (15, .getfield 11, 3), (18, .iload_n 2, 1), (19, .aaload, 1), (20, .iconst 0, 1), (21, .iaload, 1), (22, .bipush 10, 2), (24, .if_icmp .lt 6, 3), (27, .goto 31, 3), (30, .aload_n 0, 1), (31, .aload_n 0, 1), (32, .getfield 17, 3), (35, .iload_n 2, 1), (36, .iaload, 1), (37, .invokevirtual 83, 3), (40, .astore_n 3, 1), (41, .aload_n 3, 1), (42, .ifnonnull 5, 3), (45, .aconst_null, 1), (46, .areturn, 1), (47, .aload_n 1, 1), (48, .aload_n 0, 1), (49, .getfield 11, 3), (52, .iload_n 2, 1), (53, .aaload, 1), (54, .iconst 0, 1), (55, .iaload, 1), (56, .aload_n 3, 1), (57, .aastore, 1), (58, .iinc 2 1, 3), (61, .goto (-55), 3), (64, .aload_n 1, 1), (65, .areturn, 1)]
set_option maxRecDepth 100000 in
theorem DX8_answer_ok : ∀ q ∈ DX8_answer, decode cX8_answer q.1 = .ok q.2 := by decide +kernel
def DX9_init : List (Nat × Instr × Nat) := [(0, .aload_n 0, 1), (1, .invokespecial 3, 3), (4, .aload_n 0, 1), (5, .bipush 8, 2), (7, .anewarray 9, 3), (10, .putfield 11, 3), (13, .aload_n 0, 1), (14, .aload_n 1, 1), (15, .aload_n 2, 1), (16, .invokevirtual 17, 3), (19, .return_, 1)]
set_option maxRecDepth 100000 in
theorem DX9_init_ok : ∀ q ∈ DX9_init, decode cX9_init q.1 = .ok q.2 := by decide +kernel
def DX9_deep : List (Nat × Instr × Nat) := [(0, .aload_n 1, 1), (1, .astore_n 2, 1), (2, .aload_n 2, 1), (3, .arraylength, 1), (4, .iconst 1, 1), (5, .if_icmp .ne 34, 3), (8, .aload_n 2, 1), (9, .iconst 0, 1), (10, .iaload, 1), (11, .bipush 10, 2), (13, .if_icmp .ge 26, 3), (16, .aload_n 0, 1), (17, .getfield 11, 3), (20, .aload_n 2, 1), (21, .iconst 0, 1), (22, .iaload, 1), (23, .aaload, 1), (24, .ifnull 15, 3), (27, .aload_n 0, 1), (28, .getfield 11, 3), (31, .aload_n 2, 1), (32, .iconst 0, 1), (33, .iaload, 1), (34, .aaload, 1), (35, .astore_n 2, 1), (36, .goto (-34), 3), (39, .aload_n 2, 1), (40, .areturn, 1)]
set_option maxRecDepth 100000 in
theorem DX9_deep_ok : ∀ q ∈ DX9_deep, decode cX9_deep q.1 = .ok q.2 := by decide +kernel
def DX9_isWithin : List (Nat × Instr × Nat) := [(0, .aload_n 2, 1), (1, .invokestatic 21, 3), (4, .istore_n 3, 1), (5, .iconst 0, 1), (6, .istore 4, 2), (8, .iload 4, 2), (10, .bipush 8, 2), (12, .if_icmp .ge 58, 3), (15, .iconst 0, 1), (16, .istore 5, 2), (18, .iload 5, 2), (20, .bipush 8, 2), (22, .if_icmp .ge 42, 3), (25, .iload_n 3, 1), (26, .iload 5, 2), (28, .ishr, 1), (29, .iconst 1, 1), (30, .iand, 1), (31, .iconst 1, 1), (32, .if_icmp .ne 26, 3), (35, .aload_n 0, 1), (36, .getfield 11, 3), (39, .iload 5, 2), (41, .aaload, 1), (42, .ifnull 16, 3), (45, .iload_n 3, 1), (46, .aload_n 0, 1), (47, .getfield 11, 3), (50, .iload 5, 2), (52, .aaload, 1), (53, .invokestatic 21, 3), (56, .ior, 1), (57, .istore_n 3, 1), (58, .iinc 5 1, 3), (61, .goto (-43), 3), (64, .iinc 4 1, 3), (67, .goto (-59), 3), (70, .iload_n 3, 1), (71, .iload_n 1, 1), (72, .ishr, 1), (73, .iconst 1, 1), (74, .iand, 1), (75, .iconst 1, 1), (76, .if_icmp .ne 7, 3), (79, .iconst 1, 1), (80, .goto 4, 3), (83, .iconst 0, 1), (84, .ireturn, 1)]
set_option maxRecDepth 100000 in
theorem DX9_isWithin_ok : ∀ q ∈ DX9_isWithin, decode cX9_isWithin q.1 = .ok q.2 := by decide +kernel
def DX9_go : List (Nat × Instr × Nat) := [(0, .aload_n 0, 1), (1, .getfield 25, 3), (4, .ifCond .le 4, 3), (7, .return_, 1), (8, .aload_n 0, 1), (9, .dup, 1), (10, .getfield 29, 3), (13, .iconst 1, 1), (14, .iadd, 1), (15, .putfield 29, 3), (18, .aload_n 0, 1), (19, .aload_n 1, 1), (20, .invokevirtual 32, 3), (23, .astore_n 3, 1), (24, .aload_n 0, 1), (25, .aload_n 2, 1), (26, .invokevirtual 32, 3), (29, .astore 4, 2), (31, .aload_n 3, 1), (32, .iconst 0, 1), (33, .iaload, 1), (34, .bipush 10, 2), (36, .if_icmp .ge 7, 3), (39, .iconst 1, 1), (40, .goto 4, 3), (43, .iconst 0, 1), (44, .istore 5, 2), (46, .aload 4, 2), (48, .iconst 0, 1), (49, .iaload, 1), (50, .bipush 10, 2), (52, .if_icmp .ge 7, 3), (55, .iconst 1, 1), (56, .goto 4, 3), (59, .iconst 0, 1), (60, .istore 6, 2), (62, .iload 5, 2), (64, .ifCond .eq 52, 3), (67, .iload 6, 2), (69, .ifCond .eq 47, 3), (72, .aload_n 3, 1), (73, .iconst 0, 1), (74, .iaload, 1), (75, .aload 4, 2), (77, .iconst 0, 1), (78, .iaload, 1), (79, .if_icmp .eq 96, 3), (82, .aload_n 0, 1), (83, .getfield 11, 3), (86, .aload_n 3, 1), (87, .iconst 0, 1), (88, .iaload, 1), (89, .aload 4, 2), (91, .iconst 0, 1), (92, .iaload, 1), (93, .invokestatic 36, 3), (96, .aload_n 3, 1), (97, .iconst 0, 1), (98, .iaload, 1), (99, .aload 4, 2), (101, .iconst 0, 1), (102, .iaload, 1), (103, .if_icmp .ge 7, 3), (106, .aload_n 3, 1), (107, .goto 5, 3), (110, .aload 4, 2), (112, .aastore, 1), (113, .goto 62, 3), (116, .iload 5, 2), (118, .ifCond .eq 15, 3), (121, .aload_n 0, 1), (122, .aload_n 3, 1), (123, .iconst 0, 1), (124, .iaload, 1), (125, .aload 4, 2), (127, .invokevirtual 42, 3), (130, .goto 45, 3), (133, .iload 6, 2), (135, .ifCond .eq 15, 3), (138, .aload_n 0, 1), (139, .aload 4, 2), (141, .iconst 0, 1), (142, .iaload, 1), (143, .aload_n 3, 1), (144, .invokevirtual 42, 3), (147, .goto 28, 3), (150, .aload_n 3, 1), (151, .iconst 0, 1), (152, .iaload, 1), (153, .aload 4, 2), (155, .iconst 0, 1), (156, .iaload, 1), (157, .if_icmp .eq 11, 3), (160, .aload_n 0, 1), (161, .iconst 1, 1), (162, .putfield 25, 3), (165, .goto 10, 3), (168, .aload_n 0, 1), (169, .aload_n 3, 1), (170, .aload 4, 2), (172, .invokevirtual 46, 3), (175, .return_, 1)]
set_option maxRecDepth 100000 in
theorem DX9_go_ok : ∀ q ∈ DX9_go, decode cX9_go q.1 = .ok q.2 := by decide +kernel
def DX9_bind : List (Nat × Instr × Nat) := [(0, .aload_n 0, 1), (1, .iload_n 1, 1), (2, .aload_n 2, 1), (3, .invokevirtual 49, 3), (6, .ifCond .eq 11, 3), (9, .aload_n 0, 1), (10, .iconst 2, 1), (11, .putfield 25, 3), (14, .goto 10, 3), (17, .aload_n 0, 1), (18, .getfield 11, 3), (21, .iload_n 1, 1), (22, .aload_n 2, 1), (23, .aastore, 1), (24, .return_, 1)]
set_option maxRecDepth 100000 in
theorem DX9_bind_ok : ∀ q ∈ DX9_bind, decode cX9_bind q.1 = .ok q.2 := by decide +kernel
def DX9_goOn : List (Nat × Instr × Nat) := [(0, .iconst 1, 1), (1, .istore_n 3, 1), (2, .iconst 1, 1), (3, .istore 4, 2), (5, .aload_n 1, 1), (6, .iconst 0, 1), (7, .iaload, 1), (8, .invokestatic 53, 3), (11, .istore 5, 2), (13, .iload 5, 2), (15, .ifCond .le 38, 3), (18, .aload_n 0, 1), (19, .aload_n 1, 1), (20, .iload_n 3, 1), (21, .invokestatic 57, 3), (24, .aload_n 2, 1), (25, .iload 4, 2), (27, .invokestatic 57, 3), (30, .invokevirtual 17, 3), (33, .aload_n 1, 1), (34, .iload_n 3, 1), (35, .invokestatic 61, 3), (38, .istore_n 3, 1), (39, .aload_n 2, 1), (40, .iload 4, 2), (42, .invokestatic 61, 3), (45, .istore 4, 2), (47, .iinc 5 (-1), 3), (50, .goto (-37), 3), (53, .return_, 1)]
set_option maxRecDepth 100000 in
theorem DX9_goOn_ok : ∀ q ∈ DX9_goOn, decode cX9_goOn q.1 = .ok q.2 := by decide +kernel
def DX9_whole : List (Nat × Instr × Nat) := [(0, .aload_n 1, 1), (1, .astore_n 2, 1), (2, .iconst 0, 1), (3, .istore_n 3, 1), (4, .iload_n 3, 1), (5, .aload_n 2, 1), (6, .arraylength, 1), (7, .if_icmp .ge 68, 3), (10, .aload_n 2, 1), (11, .arraylength, 1), (12, .bipush 16, 2), (14, .if_icmp .gt 61, 3), (17, .aload_n 2, 1), (18, .iload_n 3, 1), (19, .iaload, 1), (20, .bipush 10, 2), (22, .if_icmp .ge 47, 3), (25, .aload_n 0, 1), (26, .getfield 11, 3), (29, .aload_n 2, 1), (30, .iload_n 3, 1), (31, .iaload, 1), (32, .aaload, 1), (33, .ifnull 36, 3), (36, .aload_n 2, 1), (37, .iconst 0, 1), (38, .iload_n 3, 1), (39, .invokestatic 65, 3), (42, .aload_n 0, 1), (43, .getfield 11, 3), (46, .aload_n 2, 1), (47, .iload_n 3, 1), (48, .iaload, 1), (49, .aaload, 1), (50, .invokestatic 69, 3), (53, .aload_n 2, 1), (54, .iload_n 3, 1), (55, .iconst 1, 1), (56, .iadd, 1), (57, .aload_n 2, 1), (58, .arraylength, 1), (59, .invokestatic 65, 3), (62, .invokestatic 69, 3), (65, .astore_n 2, 1), (66, .goto (-62), 3), (69, .iinc 3 1, 3), (72, .goto (-68), 3), (75, .aload_n 2, 1), (76, .arraylength, 1), (77, .bipush 16, 2), (79, .if_icmp .le 7, 3), (82, .aconst_null, 1), (83, .goto 4, 3), (86, .aload_n 2, 1), (87, .areturn, 1)]
set_option maxRecDepth 100000 in
theorem DX9_whole_ok : ∀ q ∈ DX9_whole, decode cX9_whole q.1 = .ok q.2 := by decide +kernel
def DX9_answer : List (Nat × Instr × Nat) := [(0, .bipush 8, 2), (2, .anewarray 9, 3), (5, .astore_n 1, 1), (6, .iconst 0, 1), (7, .istore_n 2, 1), (8, .iload_n 2, 1), (9, .bipush 8, 2), (11, .if_icmp .ge 28, 3), (14, .aload_n 1, 1), (15, .iload_n 2, 1), (16, .aload_n 0, 1), (17, .iload_n 2, 1), (18, .invokestatic 73, 3), (21, .invokevirtual 77, 3), (24, .aastore, 1), (25, .aload_n 1, 1), (26, .iload_n 2, 1), (27, .aaload, 1), (28, .ifnonnull 5, 3), (31, .aconst_null, 1), (32, .areturn, 1), (33, .iinc 2 1, 3), (36, .goto (-28), 3), (39, .aload_n 1, 1), (40, .areturn, 1)]
set_option maxRecDepth 100000 in
theorem DX9_answer_ok : ∀ q ∈ DX9_answer, decode cX9_answer q.1 = .ok q.2 := by decide +kernel
def DX10_init : List (Nat × Instr × Nat) := [(0, .aload_n 0, 1), (1, .invokespecial 1, 3), (4, .aload_n 0, 1), (5, .bipush 6, 2), (7, .anewarray 9, 3), (10, .putfield 11, 3), (13, .aload_n 0, 1), (14, .iconst 3, 1), (15, .anewarray 15, 3), (18, .putfield 16, 3), (21, .iconst 0, 1), (22, .istore_n 1, 1), (23, .iload_n 1, 1), (24, .bipush 6, 2), (26, .if_icmp .ge 19, 3), (29, .aload_n 0, 1), (30, .getfield 11, 3), (33, .iload_n 1, 1), (34, .iload_n 1, 1), (35, .invokestatic 20, 3), (38, .aastore, 1), (39, .iinc 1 1, 3), (42, .goto (-19), 3), (45, .iconst 0, 1), (46, .istore_n 1, 1), (47, .iload_n 1, 1), (48, .iconst 3, 1), (49, .if_icmp .ge 18, 3), (52, .aload_n 0, 1), (53, .getfield 16, 3), (56, .iload_n 1, 1), (57, .invokestatic 24, 3), (60, .aastore, 1), (61, .iinc 1 1, 3), (64, .goto (-17), 3), (67, .return_, 1)]
set_option maxRecDepth 100000 in
theorem DX10_init_ok : ∀ q ∈ DX10_init, decode cX10_init q.1 = .ok q.2 := by decide +kernel
def DX10_row : List (Nat × Instr × Nat) := [(0, .iconst 1, 1), (1, .newarray .int, 2), (3, .dup, 1), (4, .iconst 0, 1), (5, .iload_n 0, 1), (6, .iastore, 1), (7, .areturn, 1)]
set_option maxRecDepth 100000 in
theorem DX10_row_ok : ∀ q ∈ DX10_row, decode cX10_row q.1 = .ok q.2 := by decide +kernel
def DX10_none : List (Nat × Instr × Nat) := [(0, .bipush 8, 2), (2, .anewarray 9, 3), (5, .astore_n 0, 1), (6, .iconst 0, 1), (7, .istore_n 1, 1), (8, .iload_n 1, 1), (9, .bipush 8, 2), (11, .if_icmp .ge 16, 3), (14, .aload_n 0, 1), (15, .iload_n 1, 1), (16, .iload_n 1, 1), (17, .invokestatic 20, 3), (20, .aastore, 1), (21, .iinc 1 1, 3), (24, .goto (-16), 3), (27, .aload_n 0, 1), (28, .areturn, 1)]
set_option maxRecDepth 100000 in
theorem DX10_none_ok : ∀ q ∈ DX10_none, decode cX10_none q.1 = .ok q.2 := by decide +kernel
def DX10_parts : List (Nat × Instr × Nat) := [(0, .iload_n 0, 1), (1, .bipush 10, 2), (3, .if_icmp .ge 7, 3), (6, .iconst 0, 1), (7, .goto 9, 3), (10, .iload_n 0, 1), (11, .bipush 10, 2), (13, .isub, 1), (14, .iconst 2, 1), (15, .idiv, 1), (16, .ireturn, 1)]
set_option maxRecDepth 100000 in
theorem DX10_parts_ok : ∀ q ∈ DX10_parts, decode cX10_parts q.1 = .ok q.2 := by decide +kernel
def DX10_end : List (Nat × Instr × Nat) := [(0, .iload_n 1, 1), (1, .istore_n 2, 1), (2, .iconst 1, 1), (3, .istore_n 3, 1), (4, .iload_n 3, 1), (5, .ifCond .le 20, 3), (8, .iload_n 3, 1), (9, .aload_n 0, 1), (10, .iload_n 2, 1), (11, .iaload, 1), (12, .invokestatic 32, 3), (15, .iconst 1, 1), (16, .isub, 1), (17, .iadd, 1), (18, .istore_n 3, 1), (19, .iinc 2 1, 3), (22, .goto (-18), 3), (25, .iload_n 2, 1), (26, .ireturn, 1)]
set_option maxRecDepth 100000 in
theorem DX10_end_ok : ∀ q ∈ DX10_end, decode cX10_end q.1 = .ok q.2 := by decide +kernel
def DX10_piece : List (Nat × Instr × Nat) := [(0, .iload_n 2, 1), (1, .iload_n 1, 1), (2, .isub, 1), (3, .newarray .int, 2), (5, .astore_n 3, 1), (6, .iconst 0, 1), (7, .istore 4, 2), (9, .iload 4, 2), (11, .aload_n 3, 1), (12, .arraylength, 1), (13, .if_icmp .ge 19, 3), (16, .aload_n 3, 1), (17, .iload 4, 2), (19, .aload_n 0, 1), (20, .iload_n 1, 1), (21, .iload 4, 2), (23, .iadd, 1), (24, .iaload, 1), (25, .iastore, 1), (26, .iinc 4 1, 3), (29, .goto (-20), 3), (32, .aload_n 3, 1), (33, .areturn, 1)]
set_option maxRecDepth 100000 in
theorem DX10_piece_ok : ∀ q ∈ DX10_piece, decode cX10_piece q.1 = .ok q.2 := by decide +kernel
def DX10_at : List (Nat × Instr × Nat) := [(0, .aload_n 0, 1), (1, .iload_n 1, 1), (2, .aload_n 0, 1), (3, .iload_n 1, 1), (4, .invokestatic 36, 3), (7, .invokestatic 40, 3), (10, .areturn, 1)]
set_option maxRecDepth 100000 in
theorem DX10_at_ok : ∀ q ∈ DX10_at, decode cX10_at q.1 = .ok q.2 := by decide +kernel
def DX10_joined : List (Nat × Instr × Nat) := [(0, .aload_n 0, 1), (1, .arraylength, 1), (2, .aload_n 1, 1), (3, .arraylength, 1), (4, .iadd, 1), (5, .newarray .int, 2), (7, .astore_n 2, 1), (8, .iconst 0, 1), (9, .istore_n 3, 1), (10, .iload_n 3, 1), (11, .aload_n 2, 1), (12, .arraylength, 1), (13, .if_icmp .ge 30, 3), (16, .aload_n 2, 1), (17, .iload_n 3, 1), (18, .iload_n 3, 1), (19, .aload_n 0, 1), (20, .arraylength, 1), (21, .if_icmp .ge 9, 3), (24, .aload_n 0, 1), (25, .iload_n 3, 1), (26, .iaload, 1), (27, .goto 9, 3), (30, .aload_n 1, 1), (31, .iload_n 3, 1), (32, .aload_n 0, 1), (33, .arraylength, 1), (34, .isub, 1), (35, .iaload, 1), (36, .iastore, 1), (37, .iinc 3 1, 3), (40, .goto (-30), 3), (43, .aload_n 2, 1), (44, .areturn, 1)]
set_option maxRecDepth 100000 in
theorem DX10_joined_ok : ∀ q ∈ DX10_joined, decode cX10_joined q.1 = .ok q.2 := by decide +kernel
def DX10_same : List (Nat × Instr × Nat) := [(0, .aload_n 0, 1), (1, .aload_n 1, 1), (2, .invokestatic 44, 3), (5, .ifCond .ge 7, 3), (8, .iconst 1, 1), (9, .goto 4, 3), (12, .iconst 0, 1), (13, .ireturn, 1)]
set_option maxRecDepth 100000 in
theorem DX10_same_ok : ∀ q ∈ DX10_same, decode cX10_same q.1 = .ok q.2 := by decide +kernel
def DX10_isAt : List (Nat × Instr × Nat) := [(0, .aload_n 0, 1), (1, .iload_n 1, 1), (2, .invokestatic 36, 3), (5, .istore 4, 2), (7, .iload 4, 2), (9, .iload_n 1, 1), (10, .isub, 1), (11, .aload_n 2, 1), (12, .iload_n 3, 1), (13, .invokestatic 36, 3), (16, .iload_n 3, 1), (17, .isub, 1), (18, .if_icmp .eq 5, 3), (21, .iconst 0, 1), (22, .ireturn, 1), (23, .iload_n 1, 1), (24, .istore 5, 2), (26, .iload 5, 2), (28, .iload 4, 2), (30, .if_icmp .ge 26, 3), (33, .aload_n 0, 1), (34, .iload 5, 2), (36, .iaload, 1), (37, .aload_n 2, 1), (38, .iload_n 3, 1), (39, .iload 5, 2), (41, .iadd, 1), (42, .iload_n 1, 1), (43, .isub, 1), (44, .iaload, 1), (45, .if_icmp .eq 5, 3), (48, .iconst 0, 1), (49, .ireturn, 1), (50, .iinc 5 1, 3), (53, .goto (-27), 3), (56, .iconst 1, 1), (57, .ireturn, 1)]
set_option maxRecDepth 100000 in
theorem DX10_isAt_ok : ∀ q ∈ DX10_isAt, decode cX10_isAt q.1 = .ok q.2 := by decide +kernel
def DX10_first : List (Nat × Instr × Nat) := [(0, .iconst 0, 1), (1, .istore_n 2, 1), (2, .iload_n 2, 1), (3, .aload_n 0, 1), (4, .arraylength, 1), (5, .aload_n 1, 1), (6, .arraylength, 1), (7, .invokestatic 48, 3), (10, .if_icmp .ge 32, 3), (13, .iload_n 2, 1), (14, .aload_n 0, 1), (15, .arraylength, 1), (16, .if_icmp .ge 18, 3), (19, .iload_n 2, 1), (20, .aload_n 1, 1), (21, .arraylength, 1), (22, .if_icmp .ge 12, 3), (25, .aload_n 0, 1), (26, .iload_n 2, 1), (27, .iaload, 1), (28, .aload_n 1, 1), (29, .iload_n 2, 1), (30, .iaload, 1), (31, .if_icmp .eq 5, 3), (34, .iload_n 2, 1), (35, .ireturn, 1), (36, .iinc 2 1, 3), (39, .goto (-37), 3), (42, .iconst (-1), 1), (43, .ireturn, 1)]
set_option maxRecDepth 100000 in
theorem DX10_first_ok : ∀ q ∈ DX10_first, decode cX10_first q.1 = .ok q.2 := by decide +kernel
def DX10_used : List (Nat × Instr × Nat) := [(0, .iconst 0, 1), (1, .istore_n 2, 1), (2, .aload_n 1, 1), (3, .astore_n 3, 1), (4, .aload_n 3, 1), (5, .arraylength, 1), (6, .istore 4, 2), (8, .iconst 0, 1), (9, .istore 5, 2), (11, .iload 5, 2), (13, .iload 4, 2), (15, .if_icmp .ge 34, 3), (18, .aload_n 3, 1), (19, .iload 5, 2), (21, .iaload, 1), (22, .istore 6, 2), (24, .iload_n 2, 1), (25, .iload 6, 2), (27, .bipush 10, 2), (29, .if_icmp .ge 11, 3), (32, .aload_n 0, 1), (33, .iload 6, 2), (35, .aaload, 1), (36, .arraylength, 1), (37, .goto 4, 3), (40, .iconst 1, 1), (41, .iadd, 1), (42, .istore_n 2, 1), (43, .iinc 5 1, 3), (46, .goto (-35), 3), (49, .iload_n 2, 1), (50, .newarray .int, 2), (52, .astore_n 3, 1), (53, .iconst 0, 1), (54, .istore 4, 2), (56, .aload_n 1, 1), (57, .astore 5, 2), (59, .aload 5, 2), (61, .arraylength, 1), (62, .istore 6, 2), (64, .iconst 0, 1), (65, .istore 7, 2), (67, .iload 7, 2), (69, .iload 6, 2), (71, .if_icmp .ge 78, 3), (74, .aload 5, 2), (76, .iload 7, 2), (78, .iaload, 1), (79, .istore 8, 2), (81, .iload 8, 2), (83, .bipush 10, 2), (85, .if_icmp .ge 10, 3), (88, .aload_n 0, 1), (89, .iload 8, 2), (91, .aaload, 1), (92, .goto 8, 3), (95, .iload 8, 2), (97, .invokestatic 20, 3), (100, .astore 9, 2), (102, .aload 9, 2), (104, .astore 10, 2), (106, .aload 10, 2), (108, .arraylength, 1), (109, .istore 11, 2), (111, .iconst 0, 1), (112, .istore 12, 2), (114, .iload 12, 2), (116, .iload 11, 2), (118, .if_icmp .ge 25, 3), (121, .aload 10, 2), (123, .iload 12, 2), (125, .iaload, 1), (126, .istore 13, 2), (128, .aload_n 3, 1), (129, .iload 4, 2), (131, .iinc 4 1, 3), (134, .iload 13, 2), (136, .iastore, 1), (137, .iinc 12 1, 3), (140, .goto (-26), 3), (143, .iinc 7 1, 3), (146, .goto (-79), 3), (149, .aload_n 3, 1), (150, .areturn, 1)]
set_option maxRecDepth 100000 in
theorem DX10_used_ok : ∀ q ∈ DX10_used, decode cX10_used q.1 = .ok q.2 := by decide +kernel
def DX10_movedBy : List (Nat × Instr × Nat) := [(0, .iconst 0, 1), (1, .istore_n 1, 1), (2, .iconst 0, 1), (3, .istore_n 2, 1), (4, .iload_n 2, 1), (5, .bipush 8, 2), (7, .if_icmp .ge 32, 3), (10, .iload_n 1, 1), (11, .aload_n 0, 1), (12, .iload_n 2, 1), (13, .aaload, 1), (14, .iload_n 2, 1), (15, .invokestatic 20, 3), (18, .invokestatic 54, 3), (21, .ifCond .eq 7, 3), (24, .iconst 0, 1), (25, .goto 6, 3), (28, .iconst 1, 1), (29, .iload_n 2, 1), (30, .ishl, 1), (31, .ior, 1), (32, .istore_n 1, 1), (33, .iinc 2 1, 3), (36, .goto (-32), 3), (39, .iload_n 1, 1), (40, .ireturn, 1)]
set_option maxRecDepth 100000 in
theorem DX10_movedBy_ok : ∀ q ∈ DX10_movedBy, decode cX10_movedBy q.1 = .ok q.2 := by decide +kernel
def DX10_ones : List (Nat × Instr × Nat) := [(0, .iload_n 0, 1), (1, .invokestatic 58, 3), (4, .ireturn, 1)]
set_option maxRecDepth 100000 in
theorem DX10_ones_ok : ∀ q ∈ DX10_ones, decode cX10_ones q.1 = .ok q.2 := by decide +kernel
def DX10_namesOf : List (Nat × Instr × Nat) := [(0, .iconst 0, 1), (1, .istore_n 1, 1), (2, .aload_n 0, 1), (3, .astore_n 2, 1), (4, .aload_n 2, 1), (5, .arraylength, 1), (6, .istore_n 3, 1), (7, .iconst 0, 1), (8, .istore 4, 2), (10, .iload 4, 2), (12, .iload_n 3, 1), (13, .if_icmp .ge 33, 3), (16, .aload_n 2, 1), (17, .iload 4, 2), (19, .iaload, 1), (20, .istore 5, 2), (22, .iload_n 1, 1), (23, .iload 5, 2), (25, .bipush 10, 2), (27, .if_icmp .ge 10, 3), (30, .iconst 1, 1), (31, .iload 5, 2), (33, .ishl, 1), (34, .goto 4, 3), (37, .iconst 0, 1), (38, .ior, 1), (39, .istore_n 1, 1), (40, .iinc 4 1, 3), (43, .goto (-33), 3), (46, .iload_n 1, 1), (47, .ireturn, 1)]
set_option maxRecDepth 100000 in
theorem DX10_namesOf_ok : ∀ q ∈ DX10_namesOf, decode cX10_namesOf q.1 = .ok q.2 := by decide +kernel
def DX10_depthOf : List (Nat × Instr × Nat) := [(0, .iconst 0, 1), (1, .istore_n 2, 1), (2, .iload_n 1, 1), (3, .iconst 1, 1), (4, .iadd, 1), (5, .istore_n 3, 1), (6, .aload_n 0, 1), (7, .iload_n 1, 1), (8, .iaload, 1), (9, .invokestatic 32, 3), (12, .istore 4, 2), (14, .iload 4, 2), (16, .ifCond .le 25, 3), (19, .iload_n 2, 1), (20, .aload_n 0, 1), (21, .iload_n 3, 1), (22, .invokestatic 63, 3), (25, .invokestatic 48, 3), (28, .istore_n 2, 1), (29, .aload_n 0, 1), (30, .iload_n 3, 1), (31, .invokestatic 36, 3), (34, .istore_n 3, 1), (35, .iinc 4 (-1), 3), (38, .goto (-24), 3), (41, .iload_n 2, 1), (42, .iconst 1, 1), (43, .iadd, 1), (44, .ireturn, 1)]
set_option maxRecDepth 100000 in
theorem DX10_depthOf_ok : ∀ q ∈ DX10_depthOf, decode cX10_depthOf q.1 = .ok q.2 := by decide +kernel
def DX10_sharedOf : List (Nat × Instr × Nat) := [(0, .iconst 0, 1), (1, .istore_n 1, 1), (2, .iconst 0, 1), (3, .istore_n 2, 1), (4, .iload_n 2, 1), (5, .aload_n 0, 1), (6, .arraylength, 1), (7, .if_icmp .ge 42, 3), (10, .iconst 0, 1), (11, .istore_n 3, 1), (12, .iload_n 3, 1), (13, .aload_n 0, 1), (14, .iload_n 2, 1), (15, .aaload, 1), (16, .arraylength, 1), (17, .if_icmp .ge 26, 3), (20, .iload_n 1, 1), (21, .aload_n 0, 1), (22, .iload_n 2, 1), (23, .iload_n 3, 1), (24, .invokestatic 66, 3), (27, .ifCond .eq 7, 3), (30, .iconst 0, 1), (31, .goto 4, 3), (34, .iconst 1, 1), (35, .iadd, 1), (36, .istore_n 1, 1), (37, .iinc 3 1, 3), (40, .goto (-28), 3), (43, .iinc 2 1, 3), (46, .goto (-42), 3), (49, .iload_n 1, 1), (50, .ireturn, 1)]
set_option maxRecDepth 100000 in
theorem DX10_sharedOf_ok : ∀ q ∈ DX10_sharedOf, decode cX10_sharedOf q.1 = .ok q.2 := by decide +kernel
def DX10_isMet : List (Nat × Instr × Nat) := [(0, .iconst 0, 1), (1, .istore_n 3, 1), (2, .iload_n 3, 1), (3, .iload_n 1, 1), (4, .if_icmp .gt 53, 3), (7, .iconst 0, 1), (8, .istore 4, 2), (10, .iload 4, 2), (12, .iload_n 3, 1), (13, .iload_n 1, 1), (14, .if_icmp .ne 7, 3), (17, .iload_n 2, 1), (18, .goto 7, 3), (21, .aload_n 0, 1), (22, .iload_n 3, 1), (23, .aaload, 1), (24, .arraylength, 1), (25, .if_icmp .ge 26, 3), (28, .aload_n 0, 1), (29, .iload_n 3, 1), (30, .aaload, 1), (31, .iload 4, 2), (33, .aload_n 0, 1), (34, .iload_n 1, 1), (35, .aaload, 1), (36, .iload_n 2, 1), (37, .invokestatic 70, 3), (40, .ifCond .eq 5, 3), (43, .iconst 1, 1), (44, .ireturn, 1), (45, .iinc 4 1, 3), (48, .goto (-38), 3), (51, .iinc 3 1, 3), (54, .goto (-52), 3), (57, .iconst 0, 1), (58, .ireturn, 1)]
set_option maxRecDepth 100000 in
theorem DX10_isMet_ok : ∀ q ∈ DX10_isMet, decode cX10_isMet q.1 = .ok q.2 := by decide +kernel
def DX10_plainOf : List (Nat × Instr × Nat) := [(0, .bipush 8, 2), (2, .newarray .int, 2), (4, .astore_n 1, 1), (5, .aload_n 0, 1), (6, .arraylength, 1), (7, .newarray .int, 2), (9, .astore_n 2, 1), (10, .iconst 0, 1), (11, .istore_n 3, 1), (12, .iconst 0, 1), (13, .istore 4, 2), (15, .iload 4, 2), (17, .aload_n 0, 1), (18, .arraylength, 1), (19, .if_icmp .ge 60, 3), (22, .aload_n 2, 1), (23, .iload 4, 2), (25, .aload_n 0, 1), (26, .iload 4, 2), (28, .iaload, 1), (29, .iastore, 1), (30, .aload_n 0, 1), (31, .iload 4, 2), (33, .iaload, 1), (34, .bipush 10, 2), (36, .if_icmp .lt 6, 3), (39, .goto 34, 3), (42, .aload_n 1, 1), (43, .aload_n 0, 1), (44, .iload 4, 2), (46, .iaload, 1), (47, .iaload, 1), (48, .ifCond .ne 13, 3), (51, .aload_n 1, 1), (52, .aload_n 0, 1), (53, .iload 4, 2), (55, .iaload, 1), (56, .iinc 3 1, 3), (59, .iload_n 3, 1), (60, .iastore, 1), (61, .aload_n 2, 1), (62, .iload 4, 2), (64, .aload_n 1, 1), (65, .aload_n 0, 1), (66, .iload 4, 2), (68, .iaload, 1), (69, .iaload, 1), (70, .iconst 1, 1), (71, .isub, 1), (72, .iastore, 1), (73, .iinc 4 1, 3), (76, .goto (-61), 3), (79, .aload_n 2, 1), (80, .areturn, 1)]
set_option maxRecDepth 100000 in
theorem DX10_plainOf_ok : ∀ q ∈ DX10_plainOf, decode cX10_plainOf q.1 = .ok q.2 := by decide +kernel
def DX10_commonOf : List (Nat × Instr × Nat) := [(0, .bipush 32, 2), (2, .anewarray 9, 3), (5, .astore_n 2, 1), (6, .bipush 16, 2), (8, .newarray .int, 2), (10, .astore_n 3, 1), (11, .iconst 0, 1), (12, .istore 4, 2), (14, .iconst 0, 1), (15, .istore 5, 2), (17, .iconst 0, 1), (18, .istore 6, 2), (20, .iconst 0, 1), (21, .istore 7, 2), (23, .iload 6, 2), (25, .aload_n 0, 1), (26, .arraylength, 1), (27, .if_icmp .ge 162, 3), (30, .aload_n 0, 1), (31, .iload 6, 2), (33, .iaload, 1), (34, .aload_n 1, 1), (35, .iload 7, 2), (37, .iaload, 1), (38, .if_icmp .ne 32, 3), (41, .aload_n 0, 1), (42, .iload 6, 2), (44, .iaload, 1), (45, .bipush 10, 2), (47, .if_icmp .lt 23, 3), (50, .aload_n 3, 1), (51, .iload 5, 2), (53, .iinc 5 1, 3), (56, .aload_n 0, 1), (57, .iload 6, 2), (59, .iinc 6 1, 3), (62, .iaload, 1), (63, .iastore, 1), (64, .iinc 7 1, 3), (67, .goto (-44), 3), (70, .aload_n 0, 1), (71, .iload 6, 2), (73, .invokestatic 74, 3), (76, .astore 8, 2), (78, .aload_n 1, 1), (79, .iload 7, 2), (81, .invokestatic 74, 3), (84, .astore 9, 2), (86, .iconst 0, 1), (87, .istore 10, 2), (89, .iload 10, 2), (91, .iload 4, 2), (93, .if_icmp .ge 39, 3), (96, .aload_n 2, 1), (97, .iconst 2, 1), (98, .iload 10, 2), (100, .imul, 1), (101, .aaload, 1), (102, .aload 8, 2), (104, .invokestatic 54, 3), (107, .ifCond .eq 19, 3), (110, .aload_n 2, 1), (111, .iconst 2, 1), (112, .iload 10, 2), (114, .imul, 1), (115, .iconst 1, 1), (116, .iadd, 1), (117, .aaload, 1), (118, .aload 9, 2), (120, .invokestatic 54, 3), (123, .ifCond .ne 9, 3), (126, .iinc 10 1, 3), (129, .goto (-40), 3), (132, .aload_n 2, 1), (133, .iconst 2, 1), (134, .iload 10, 2), (136, .imul, 1), (137, .aload 8, 2), (139, .aastore, 1), (140, .aload_n 2, 1), (141, .iconst 2, 1), (142, .iload 10, 2), (144, .imul, 1), (145, .iconst 1, 1), (146, .iadd, 1), (147, .aload 9, 2), (149, .aastore, 1), (150, .iload 4, 2), (152, .iload 10, 2), (154, .iconst 1, 1), (155, .iadd, 1), (156, .invokestatic 48, 3), (159, .istore 4, 2), (161, .aload_n 3, 1), (162, .iload 5, 2), (164, .iinc 5 1, 3), (167, .iload 10, 2), (169, .iastore, 1), (170, .aload_n 0, 1), (171, .iload 6, 2), (173, .invokestatic 36, 3), (176, .istore 6, 2), (178, .aload_n 1, 1), (179, .iload 7, 2), (181, .invokestatic 36, 3), (184, .istore 7, 2), (186, .goto (-163), 3), (189, .iload 4, 2), (191, .bipush 8, 2), (193, .if_icmp .le 7, 3), (196, .aconst_null, 1), (197, .goto 10, 3), (200, .aload_n 3, 1), (201, .iconst 0, 1), (202, .iload 5, 2), (204, .invokestatic 40, 3), (207, .areturn, 1)]
set_option maxRecDepth 100000 in
theorem DX10_commonOf_ok : ∀ q ∈ DX10_commonOf, decode cX10_commonOf q.1 = .ok q.2 := by decide +kernel
def DX10_matched : List (Nat × Instr × Nat) := [(0, .bipush 8, 2), (2, .anewarray 9, 3), (5, .astore_n 2, 1), (6, .iconst 0, 1), (7, .istore_n 3, 1), (8, .aload_n 0, 1), (9, .astore 4, 2), (11, .aload 4, 2), (13, .arraylength, 1), (14, .istore 5, 2), (16, .iconst 0, 1), (17, .istore 6, 2), (19, .iload 6, 2), (21, .iload 5, 2), (23, .if_icmp .ge 87, 3), (26, .aload 4, 2), (28, .iload 6, 2), (30, .iaload, 1), (31, .istore 7, 2), (33, .iload_n 3, 1), (34, .aload_n 1, 1), (35, .arraylength, 1), (36, .if_icmp .lt 5, 3), (39, .aconst_null, 1), (40, .areturn, 1), (41, .iload 7, 2), (43, .bipush 10, 2), (45, .if_icmp .lt 19, 3), (48, .aload_n 1, 1), (49, .iload_n 3, 1), (50, .iaload, 1), (51, .iload 7, 2), (53, .if_icmp .eq 5, 3), (56, .aconst_null, 1), (57, .areturn, 1), (58, .iinc 3 1, 3), (61, .goto 43, 3), (64, .aload_n 1, 1), (65, .iload_n 3, 1), (66, .invokestatic 74, 3), (69, .astore 8, 2), (71, .aload_n 2, 1), (72, .iload 7, 2), (74, .aaload, 1), (75, .ifnull 17, 3), (78, .aload_n 2, 1), (79, .iload 7, 2), (81, .aaload, 1), (82, .aload 8, 2), (84, .invokestatic 54, 3), (87, .ifCond .ne 5, 3), (90, .aconst_null, 1), (91, .areturn, 1), (92, .aload_n 2, 1), (93, .iload 7, 2), (95, .aload 8, 2), (97, .aastore, 1), (98, .aload_n 1, 1), (99, .iload_n 3, 1), (100, .invokestatic 36, 3), (103, .istore_n 3, 1), (104, .iinc 6 1, 3), (107, .goto (-88), 3), (110, .iconst 0, 1), (111, .istore 4, 2), (113, .iload 4, 2), (115, .bipush 8, 2), (117, .if_icmp .ge 25, 3), (120, .aload_n 2, 1), (121, .iload 4, 2), (123, .aaload, 1), (124, .ifnonnull 12, 3), (127, .aload_n 2, 1), (128, .iload 4, 2), (130, .iload 4, 2), (132, .invokestatic 20, 3), (135, .aastore, 1), (136, .iinc 4 1, 3), (139, .goto (-26), 3), (142, .aload_n 2, 1), (143, .areturn, 1)]
set_option maxRecDepth 100000 in
theorem DX10_matched_ok : ∀ q ∈ DX10_matched, decode cX10_matched q.1 = .ok q.2 := by decide +kernel
def DX10_isSlot : List (Nat × Instr × Nat) := [(0, .iload_n 0, 1), (1, .ifCond .lt 13, 3), (4, .iload_n 0, 1), (5, .bipush 6, 2), (7, .if_icmp .ge 7, 3), (10, .iconst 1, 1), (11, .goto 4, 3), (14, .iconst 0, 1), (15, .ireturn, 1)]
set_option maxRecDepth 100000 in
theorem DX10_isSlot_ok : ∀ q ∈ DX10_isSlot, decode cX10_isSlot q.1 = .ok q.2 := by decide +kernel
def DX10_isAnswer : List (Nat × Instr × Nat) := [(0, .iload_n 0, 1), (1, .ifCond .lt 12, 3), (4, .iload_n 0, 1), (5, .iconst 3, 1), (6, .if_icmp .ge 7, 3), (9, .iconst 1, 1), (10, .goto 4, 3), (13, .iconst 0, 1), (14, .ireturn, 1)]
set_option maxRecDepth 100000 in
theorem DX10_isAnswer_ok : ∀ q ∈ DX10_isAnswer, decode cX10_isAnswer q.1 = .ok q.2 := by decide +kernel
def DX10_isName : List (Nat × Instr × Nat) := [(0, .iload_n 0, 1), (1, .ifCond .lt 13, 3), (4, .iload_n 0, 1), (5, .bipush 8, 2), (7, .if_icmp .ge 7, 3), (10, .iconst 1, 1), (11, .goto 4, 3), (14, .iconst 0, 1), (15, .ireturn, 1)]
set_option maxRecDepth 100000 in
theorem DX10_isName_ok : ∀ q ∈ DX10_isName, decode cX10_isName q.1 = .ok q.2 := by decide +kernel
def DX10_isThrown : List (Nat × Instr × Nat) := [(0, .aload_n 0, 1), (1, .iload_n 1, 1), (2, .ifCond .eq 7, 3), (5, .iconst 1, 1), (6, .goto 12, 3), (9, .iload_n 2, 1), (10, .ifCond .eq 7, 3), (13, .iconst 2, 1), (14, .goto 4, 3), (17, .iconst 0, 1), (18, .putfield 28, 3), (21, .aload_n 0, 1), (22, .getfield 28, 3), (25, .ifCond .le 7, 3), (28, .iconst 1, 1), (29, .goto 4, 3), (32, .iconst 0, 1), (33, .ireturn, 1)]
set_option maxRecDepth 100000 in
theorem DX10_isThrown_ok : ∀ q ∈ DX10_isThrown, decode cX10_isThrown q.1 = .ok q.2 := by decide +kernel
def DX10_isThrown_ : List (Nat × Instr × Nat) := [(0, .aload_n 0, 1), (1, .iload_n 1, 1), (2, .iconst 0, 1), (3, .invokevirtual 78, 3), (6, .ireturn, 1)]
set_option maxRecDepth 100000 in
theorem DX10_isThrown__ok : ∀ q ∈ DX10_isThrown_, decode cX10_isThrown_ q.1 = .ok q.2 := by decide +kernel
def DX10_done : List (Nat × Instr × Nat) := [(0, .aload_n 0, 1), (1, .dup, 1), (2, .getfield 82, 3), (5, .iconst 1, 1), (6, .iadd, 1), (7, .putfield 82, 3), (10, .iload_n 1, 1), (11, .ireturn, 1)]
set_option maxRecDepth 100000 in
theorem DX10_done_ok : ∀ q ∈ DX10_done, decode cX10_done q.1 = .ok q.2 := by decide +kernel
def DX10_no : List (Nat × Instr × Nat) := [(0, .aload_n 0, 1), (1, .dup, 1), (2, .getfield 85, 3), (5, .iconst 1, 1), (6, .iadd, 1), (7, .putfield 85, 3), (10, .bipush (-9), 2), (12, .ireturn, 1)]
set_option maxRecDepth 100000 in
theorem DX10_no_ok : ∀ q ∈ DX10_no, decode cX10_no q.1 = .ok q.2 := by decide +kernel
def DX10_give : List (Nat × Instr × Nat) := [(0, .aload_n 2, 1), (1, .ifnull 10, 3), (4, .aload_n 2, 1), (5, .arraylength, 1), (6, .bipush 16, 2), (8, .if_icmp .le 8, 3), (11, .aload_n 0, 1), (12, .invokevirtual 88, 3), (15, .ireturn, 1), (16, .aload_n 0, 1), (17, .getfield 11, 3), (20, .iload_n 1, 1), (21, .aload_n 2, 1), (22, .aastore, 1), (23, .aload_n 0, 1), (24, .aload_n 2, 1), (25, .arraylength, 1), (26, .invokevirtual 92, 3), (29, .ireturn, 1)]
set_option maxRecDepth 100000 in
theorem DX10_give_ok : ∀ q ∈ DX10_give, decode cX10_give q.1 = .ok q.2 := by decide +kernel
def DX10_isPlace : List (Nat × Instr × Nat) := [(0, .iload_n 2, 1), (1, .ifCond .lt 18, 3), (4, .iload_n 2, 1), (5, .aload_n 0, 1), (6, .getfield 11, 3), (9, .iload_n 1, 1), (10, .aaload, 1), (11, .arraylength, 1), (12, .if_icmp .ge 7, 3), (15, .iconst 1, 1), (16, .goto 4, 3), (19, .iconst 0, 1), (20, .ireturn, 1)]
set_option maxRecDepth 100000 in
theorem DX10_isPlace_ok : ∀ q ∈ DX10_isPlace, decode cX10_isPlace q.1 = .ok q.2 := by decide +kernel
def DX10_name : List (Nat × Instr × Nat) := [(0, .aload_n 0, 1), (1, .iload_n 1, 1), (2, .invokestatic 95, 3), (5, .ifCond .ne 7, 3), (8, .iconst 1, 1), (9, .goto 4, 3), (12, .iconst 0, 1), (13, .iload_n 2, 1), (14, .invokestatic 99, 3), (17, .ifCond .ne 7, 3), (20, .iconst 1, 1), (21, .goto 4, 3), (24, .iconst 0, 1), (25, .invokevirtual 78, 3), (28, .ifCond .eq 5, 3), (31, .iconst 0, 1), (32, .ireturn, 1), (33, .aload_n 0, 1), (34, .getfield 11, 3), (37, .iload_n 1, 1), (38, .aaload, 1), (39, .arraylength, 1), (40, .istore_n 3, 1), (41, .aload_n 0, 1), (42, .getfield 11, 3), (45, .iload_n 1, 1), (46, .iload_n 2, 1), (47, .invokestatic 20, 3), (50, .aastore, 1), (51, .aload_n 0, 1), (52, .iload_n 3, 1), (53, .invokevirtual 92, 3), (56, .ireturn, 1)]
set_option maxRecDepth 100000 in
theorem DX10_name_ok : ∀ q ∈ DX10_name, decode cX10_name q.1 = .ok q.2 := by decide +kernel
def DX10_head : List (Nat × Instr × Nat) := [(0, .aload_n 0, 1), (1, .iload_n 1, 1), (2, .invokestatic 95, 3), (5, .ifCond .eq 26, 3), (8, .iload_n 3, 1), (9, .invokestatic 95, 3), (12, .ifCond .eq 19, 3), (15, .iload 4, 2), (17, .invokestatic 95, 3), (20, .ifCond .eq 11, 3), (23, .iload 5, 2), (25, .invokestatic 95, 3), (28, .ifCond .ne 7, 3), (31, .iconst 1, 1), (32, .goto 4, 3), (35, .iconst 0, 1), (36, .iload_n 2, 1), (37, .invokestatic 99, 3), (40, .ifCond .ne 7, 3), (43, .iconst 1, 1), (44, .goto 4, 3), (47, .iconst 0, 1), (48, .invokevirtual 78, 3), (51, .ifCond .eq 5, 3), (54, .iconst 0, 1), (55, .ireturn, 1), (56, .iconst 3, 1), (57, .newarray .int, 2), (59, .dup, 1), (60, .iconst 0, 1), (61, .iload_n 3, 1), (62, .iastore, 1), (63, .dup, 1), (64, .iconst 1, 1), (65, .iload 4, 2), (67, .iastore, 1), (68, .dup, 1), (69, .iconst 2, 1), (70, .iload 5, 2), (72, .iastore, 1), (73, .astore 6, 2), (75, .bipush 10, 2), (77, .iload_n 2, 1), (78, .iadd, 1), (79, .invokestatic 20, 3), (82, .astore 7, 2), (84, .iconst 0, 1), (85, .istore 8, 2), (87, .iload 8, 2), (89, .bipush 10, 2), (91, .iload_n 2, 1), (92, .iadd, 1), (93, .invokestatic 32, 3), (96, .if_icmp .ge 26, 3), (99, .aload 7, 2), (101, .aload_n 0, 1), (102, .getfield 11, 3), (105, .aload 6, 2), (107, .iload 8, 2), (109, .iaload, 1), (110, .aaload, 1), (111, .invokestatic 102, 3), (114, .astore 7, 2), (116, .iinc 8 1, 3), (119, .goto (-32), 3), (122, .aload_n 0, 1), (123, .iload_n 1, 1), (124, .aload 7, 2), (126, .invokevirtual 106, 3), (129, .ireturn, 1)]
set_option maxRecDepth 100000 in
theorem DX10_head_ok : ∀ q ∈ DX10_head, decode cX10_head q.1 = .ok q.2 := by decide +kernel
def DX10_copy : List (Nat × Instr × Nat) := [(0, .aload_n 0, 1), (1, .iload_n 1, 1), (2, .invokestatic 95, 3), (5, .ifCond .eq 10, 3), (8, .iload_n 2, 1), (9, .invokestatic 95, 3), (12, .ifCond .ne 7, 3), (15, .iconst 1, 1), (16, .goto 4, 3), (19, .iconst 0, 1), (20, .invokevirtual 110, 3), (23, .ifCond .eq 7, 3), (26, .iconst 0, 1), (27, .goto 14, 3), (30, .aload_n 0, 1), (31, .iload_n 2, 1), (32, .aload_n 0, 1), (33, .getfield 11, 3), (36, .iload_n 1, 1), (37, .aaload, 1), (38, .invokevirtual 106, 3), (41, .ireturn, 1)]
set_option maxRecDepth 100000 in
theorem DX10_copy_ok : ∀ q ∈ DX10_copy, decode cX10_copy q.1 = .ok q.2 := by decide +kernel
def DX10_swap : List (Nat × Instr × Nat) := [(0, .aload_n 0, 1), (1, .iload_n 1, 1), (2, .invokestatic 95, 3), (5, .ifCond .eq 10, 3), (8, .iload_n 2, 1), (9, .invokestatic 95, 3), (12, .ifCond .ne 7, 3), (15, .iconst 1, 1), (16, .goto 4, 3), (19, .iconst 0, 1), (20, .invokevirtual 110, 3), (23, .ifCond .eq 5, 3), (26, .iconst 0, 1), (27, .ireturn, 1), (28, .aload_n 0, 1), (29, .getfield 11, 3), (32, .iload_n 1, 1), (33, .aaload, 1), (34, .astore_n 3, 1), (35, .aload_n 3, 1), (36, .aload_n 0, 1), (37, .getfield 11, 3), (40, .iload_n 2, 1), (41, .aaload, 1), (42, .invokestatic 54, 3), (45, .istore 4, 2), (47, .aload_n 0, 1), (48, .getfield 11, 3), (51, .iload_n 1, 1), (52, .aload_n 0, 1), (53, .getfield 11, 3), (56, .iload_n 2, 1), (57, .aaload, 1), (58, .aastore, 1), (59, .aload_n 0, 1), (60, .getfield 11, 3), (63, .iload_n 2, 1), (64, .aload_n 3, 1), (65, .aastore, 1), (66, .aload_n 0, 1), (67, .iload 4, 2), (69, .ifCond .eq 7, 3), (72, .iconst 0, 1), (73, .goto 4, 3), (76, .iconst 1, 1), (77, .invokevirtual 92, 3), (80, .ireturn, 1)]
set_option maxRecDepth 100000 in
theorem DX10_swap_ok : ∀ q ∈ DX10_swap, decode cX10_swap q.1 = .ok q.2 := by decide +kernel
def DX10_part : List (Nat × Instr × Nat) := [(0, .aload_n 0, 1), (1, .iload_n 1, 1), (2, .invokestatic 95, 3), (5, .ifCond .eq 10, 3), (8, .iload_n 3, 1), (9, .invokestatic 95, 3), (12, .ifCond .ne 7, 3), (15, .iconst 1, 1), (16, .goto 4, 3), (19, .iconst 0, 1), (20, .invokevirtual 110, 3), (23, .ifCond .eq 5, 3), (26, .iconst 0, 1), (27, .ireturn, 1), (28, .aload_n 0, 1), (29, .iload_n 1, 1), (30, .iload_n 2, 1), (31, .invokevirtual 113, 3), (34, .ifCond .eq 21, 3), (37, .aload_n 0, 1), (38, .iload_n 3, 1), (39, .aload_n 0, 1), (40, .getfield 11, 3), (43, .iload_n 1, 1), (44, .aaload, 1), (45, .iload_n 2, 1), (46, .invokestatic 74, 3), (49, .invokevirtual 106, 3), (52, .goto 7, 3), (55, .aload_n 0, 1), (56, .invokevirtual 88, 3), (59, .ireturn, 1)]
set_option maxRecDepth 100000 in
theorem DX10_part_ok : ∀ q ∈ DX10_part, decode cX10_part q.1 = .ok q.2 := by decide +kernel
def DX10_graft : List (Nat × Instr × Nat) := [(0, .aload_n 0, 1), (1, .iload_n 1, 1), (2, .invokestatic 95, 3), (5, .ifCond .eq 10, 3), (8, .iload_n 3, 1), (9, .invokestatic 95, 3), (12, .ifCond .ne 7, 3), (15, .iconst 1, 1), (16, .goto 4, 3), (19, .iconst 0, 1), (20, .invokevirtual 110, 3), (23, .ifCond .eq 5, 3), (26, .iconst 0, 1), (27, .ireturn, 1), (28, .aload_n 0, 1), (29, .iload_n 1, 1), (30, .iload_n 2, 1), (31, .invokevirtual 113, 3), (34, .ifCond .ne 8, 3), (37, .aload_n 0, 1), (38, .invokevirtual 88, 3), (41, .ireturn, 1), (42, .aload_n 0, 1), (43, .getfield 11, 3), (46, .iload_n 1, 1), (47, .aaload, 1), (48, .astore 4, 2), (50, .aload_n 0, 1), (51, .iload_n 1, 1), (52, .aload 4, 2), (54, .iconst 0, 1), (55, .iload_n 2, 1), (56, .invokestatic 40, 3), (59, .aload_n 0, 1), (60, .getfield 11, 3), (63, .iload_n 3, 1), (64, .aaload, 1), (65, .invokestatic 102, 3), (68, .aload 4, 2), (70, .aload 4, 2), (72, .iload_n 2, 1), (73, .invokestatic 36, 3), (76, .aload 4, 2), (78, .arraylength, 1), (79, .invokestatic 40, 3), (82, .invokestatic 102, 3), (85, .invokevirtual 106, 3), (88, .ireturn, 1)]
set_option maxRecDepth 100000 in
theorem DX10_graft_ok : ∀ q ∈ DX10_graft, decode cX10_graft q.1 = .ok q.2 := by decide +kernel
def DX10_often : List (Nat × Instr × Nat) := [(0, .iconst 0, 1), (1, .istore_n 2, 1), (2, .aload_n 0, 1), (3, .astore_n 3, 1), (4, .aload_n 3, 1), (5, .arraylength, 1), (6, .istore 4, 2), (8, .iconst 0, 1), (9, .istore 5, 2), (11, .iload 5, 2), (13, .iload 4, 2), (15, .if_icmp .ge 29, 3), (18, .aload_n 3, 1), (19, .iload 5, 2), (21, .iaload, 1), (22, .istore 6, 2), (24, .iload_n 2, 1), (25, .iload 6, 2), (27, .iload_n 1, 1), (28, .if_icmp .ne 7, 3), (31, .iconst 1, 1), (32, .goto 4, 3), (35, .iconst 0, 1), (36, .iadd, 1), (37, .istore_n 2, 1), (38, .iinc 5 1, 3), (41, .goto (-30), 3), (44, .iload_n 2, 1), (45, .ireturn, 1)]
set_option maxRecDepth 100000 in
theorem DX10_often_ok : ∀ q ∈ DX10_often, decode cX10_often q.1 = .ok q.2 := by decide +kernel
def DX10_put : List (Nat × Instr × Nat) := [(0, .aload_n 0, 1), (1, .iload_n 1, 1), (2, .invokestatic 95, 3), (5, .ifCond .eq 10, 3), (8, .iload_n 3, 1), (9, .invokestatic 95, 3), (12, .ifCond .ne 7, 3), (15, .iconst 1, 1), (16, .goto 4, 3), (19, .iconst 0, 1), (20, .iload_n 2, 1), (21, .invokestatic 99, 3), (24, .ifCond .ne 7, 3), (27, .iconst 1, 1), (28, .goto 4, 3), (31, .iconst 0, 1), (32, .invokevirtual 78, 3), (35, .ifCond .eq 5, 3), (38, .iconst 0, 1), (39, .ireturn, 1), (40, .aload_n 0, 1), (41, .getfield 11, 3), (44, .iload_n 1, 1), (45, .aaload, 1), (46, .iload_n 2, 1), (47, .invokestatic 117, 3), (50, .istore 4, 2), (52, .invokestatic 24, 3), (55, .astore 5, 2), (57, .aload 5, 2), (59, .iload_n 2, 1), (60, .aload_n 0, 1), (61, .getfield 11, 3), (64, .iload_n 3, 1), (65, .aaload, 1), (66, .aastore, 1), (67, .aload 5, 2), (69, .aload_n 0, 1), (70, .getfield 11, 3), (73, .iload_n 1, 1), (74, .aaload, 1), (75, .invokestatic 120, 3), (78, .astore 6, 2), (80, .aload 6, 2), (82, .arraylength, 1), (83, .bipush 16, 2), (85, .if_icmp .le 8, 3), (88, .aload_n 0, 1), (89, .invokevirtual 88, 3), (92, .ireturn, 1), (93, .aload_n 0, 1), (94, .getfield 11, 3), (97, .iload_n 1, 1), (98, .aload 6, 2), (100, .aastore, 1), (101, .aload_n 0, 1), (102, .iload 4, 2), (104, .invokevirtual 92, 3), (107, .ireturn, 1)]
set_option maxRecDepth 100000 in
theorem DX10_put_ok : ∀ q ∈ DX10_put, decode cX10_put q.1 = .ok q.2 := by decide +kernel
def DX10_shift : List (Nat × Instr × Nat) := [(0, .aload_n 0, 1), (1, .iload_n 1, 1), (2, .invokestatic 95, 3), (5, .ifCond .ne 7, 3), (8, .iconst 1, 1), (9, .goto 4, 3), (12, .iconst 0, 1), (13, .iload_n 2, 1), (14, .invokestatic 99, 3), (17, .ifCond .ne 7, 3), (20, .iconst 1, 1), (21, .goto 4, 3), (24, .iconst 0, 1), (25, .invokevirtual 78, 3), (28, .ifCond .eq 5, 3), (31, .iconst 0, 1), (32, .ireturn, 1), (33, .aload_n 0, 1), (34, .getfield 11, 3), (37, .iload_n 1, 1), (38, .aaload, 1), (39, .iconst 0, 1), (40, .aload_n 0, 1), (41, .getfield 11, 3), (44, .iload_n 1, 1), (45, .aaload, 1), (46, .arraylength, 1), (47, .invokestatic 40, 3), (50, .astore_n 3, 1), (51, .iconst 0, 1), (52, .istore 4, 2), (54, .iload 4, 2), (56, .aload_n 3, 1), (57, .arraylength, 1), (58, .if_icmp .ge 31, 3), (61, .aload_n 3, 1), (62, .iload 4, 2), (64, .iaload, 1), (65, .bipush 10, 2), (67, .if_icmp .ge 16, 3), (70, .aload_n 3, 1), (71, .iload 4, 2), (73, .aload_n 3, 1), (74, .iload 4, 2), (76, .iaload, 1), (77, .iload_n 2, 1), (78, .iadd, 1), (79, .bipush 8, 2), (81, .irem, 1), (82, .iastore, 1), (83, .iinc 4 1, 3), (86, .goto (-32), 3), (89, .aload_n 0, 1), (90, .getfield 11, 3), (93, .iload_n 1, 1), (94, .aload_n 3, 1), (95, .aastore, 1), (96, .aload_n 0, 1), (97, .aload_n 3, 1), (98, .invokestatic 124, 3), (101, .invokestatic 128, 3), (104, .invokevirtual 92, 3), (107, .ireturn, 1)]
set_option maxRecDepth 100000 in
theorem DX10_shift_ok : ∀ q ∈ DX10_shift, decode cX10_shift q.1 = .ok q.2 := by decide +kernel
def DX10_plain : List (Nat × Instr × Nat) := [(0, .aload_n 0, 1), (1, .iload_n 1, 1), (2, .invokestatic 95, 3), (5, .ifCond .ne 7, 3), (8, .iconst 1, 1), (9, .goto 4, 3), (12, .iconst 0, 1), (13, .invokevirtual 110, 3), (16, .ifCond .eq 5, 3), (19, .iconst 0, 1), (20, .ireturn, 1), (21, .aload_n 0, 1), (22, .getfield 11, 3), (25, .iload_n 1, 1), (26, .aload_n 0, 1), (27, .getfield 11, 3), (30, .iload_n 1, 1), (31, .aaload, 1), (32, .invokestatic 131, 3), (35, .aastore, 1), (36, .aload_n 0, 1), (37, .aload_n 0, 1), (38, .getfield 11, 3), (41, .iload_n 1, 1), (42, .aaload, 1), (43, .invokestatic 124, 3), (46, .invokestatic 128, 3), (49, .invokevirtual 92, 3), (52, .ireturn, 1)]
set_option maxRecDepth 100000 in
theorem DX10_plain_ok : ∀ q ∈ DX10_plain, decode cX10_plain q.1 = .ok q.2 := by decide +kernel
def DX10_use : List (Nat × Instr × Nat) := [(0, .aload_n 0, 1), (1, .iload_n 1, 1), (2, .invokestatic 135, 3), (5, .ifCond .eq 17, 3), (8, .iload_n 2, 1), (9, .invokestatic 95, 3), (12, .ifCond .eq 10, 3), (15, .iload_n 3, 1), (16, .invokestatic 95, 3), (19, .ifCond .ne 7, 3), (22, .iconst 1, 1), (23, .goto 4, 3), (26, .iconst 0, 1), (27, .invokevirtual 110, 3), (30, .ifCond .eq 7, 3), (33, .iconst 0, 1), (34, .goto 23, 3), (37, .aload_n 0, 1), (38, .iload_n 3, 1), (39, .aload_n 0, 1), (40, .getfield 16, 3), (43, .iload_n 1, 1), (44, .aaload, 1), (45, .aload_n 0, 1), (46, .getfield 11, 3), (49, .iload_n 2, 1), (50, .aaload, 1), (51, .invokestatic 120, 3), (54, .invokevirtual 106, 3), (57, .ireturn, 1)]
set_option maxRecDepth 100000 in
theorem DX10_use_ok : ∀ q ∈ DX10_use, decode cX10_use q.1 = .ok q.2 := by decide +kernel
def DX10_common : List (Nat × Instr × Nat) := [(0, .aload_n 0, 1), (1, .iload_n 1, 1), (2, .invokestatic 95, 3), (5, .ifCond .eq 17, 3), (8, .iload_n 2, 1), (9, .invokestatic 95, 3), (12, .ifCond .eq 10, 3), (15, .iload_n 3, 1), (16, .invokestatic 95, 3), (19, .ifCond .ne 7, 3), (22, .iconst 1, 1), (23, .goto 4, 3), (26, .iconst 0, 1), (27, .invokevirtual 110, 3), (30, .ifCond .eq 7, 3), (33, .iconst 0, 1), (34, .goto 23, 3), (37, .aload_n 0, 1), (38, .iload_n 3, 1), (39, .aload_n 0, 1), (40, .getfield 11, 3), (43, .iload_n 1, 1), (44, .aaload, 1), (45, .aload_n 0, 1), (46, .getfield 11, 3), (49, .iload_n 2, 1), (50, .aaload, 1), (51, .invokestatic 138, 3), (54, .invokevirtual 106, 3), (57, .ireturn, 1)]
set_option maxRecDepth 100000 in
theorem DX10_common_ok : ∀ q ∈ DX10_common, decode cX10_common q.1 = .ok q.2 := by decide +kernel
def DX10_forget : List (Nat × Instr × Nat) := [(0, .aload_n 0, 1), (1, .iload_n 1, 1), (2, .invokestatic 135, 3), (5, .ifCond .ne 7, 3), (8, .iconst 1, 1), (9, .goto 4, 3), (12, .iconst 0, 1), (13, .invokevirtual 110, 3), (16, .ifCond .eq 5, 3), (19, .iconst 0, 1), (20, .ireturn, 1), (21, .aload_n 0, 1), (22, .getfield 16, 3), (25, .iload_n 1, 1), (26, .aaload, 1), (27, .invokestatic 141, 3), (30, .invokestatic 128, 3), (33, .istore_n 2, 1), (34, .aload_n 0, 1), (35, .getfield 16, 3), (38, .iload_n 1, 1), (39, .invokestatic 24, 3), (42, .aastore, 1), (43, .aload_n 0, 1), (44, .iload_n 2, 1), (45, .invokevirtual 92, 3), (48, .ireturn, 1)]
set_option maxRecDepth 100000 in
theorem DX10_forget_ok : ∀ q ∈ DX10_forget, decode cX10_forget q.1 = .ok q.2 := by decide +kernel
def DX10_tell : List (Nat × Instr × Nat) := [(0, .aload_n 0, 1), (1, .iload_n 1, 1), (2, .invokestatic 135, 3), (5, .ifCond .eq 10, 3), (8, .iload_n 3, 1), (9, .invokestatic 95, 3), (12, .ifCond .ne 7, 3), (15, .iconst 1, 1), (16, .goto 4, 3), (19, .iconst 0, 1), (20, .iload_n 2, 1), (21, .invokestatic 99, 3), (24, .ifCond .ne 7, 3), (27, .iconst 1, 1), (28, .goto 4, 3), (31, .iconst 0, 1), (32, .invokevirtual 78, 3), (35, .ifCond .eq 5, 3), (38, .iconst 0, 1), (39, .ireturn, 1), (40, .aload_n 0, 1), (41, .getfield 16, 3), (44, .iload_n 1, 1), (45, .aaload, 1), (46, .iload_n 2, 1), (47, .aaload, 1), (48, .aload_n 0, 1), (49, .getfield 11, 3), (52, .iload_n 3, 1), (53, .aaload, 1), (54, .invokestatic 54, 3), (57, .istore 4, 2), (59, .invokestatic 24, 3), (62, .astore 5, 2), (64, .iconst 0, 1), (65, .istore 6, 2), (67, .iload 6, 2), (69, .bipush 8, 2), (71, .if_icmp .ge 38, 3), (74, .aload 5, 2), (76, .iload 6, 2), (78, .iload 6, 2), (80, .iload_n 2, 1), (81, .if_icmp .ne 12, 3), (84, .aload_n 0, 1), (85, .getfield 11, 3), (88, .iload_n 3, 1), (89, .aaload, 1), (90, .goto 12, 3), (93, .aload_n 0, 1), (94, .getfield 16, 3), (97, .iload_n 1, 1), (98, .aaload, 1), (99, .iload 6, 2), (101, .aaload, 1), (102, .aastore, 1), (103, .iinc 6 1, 3), (106, .goto (-39), 3), (109, .aload_n 0, 1), (110, .getfield 16, 3), (113, .iload_n 1, 1), (114, .aload 5, 2), (116, .aastore, 1), (117, .aload_n 0, 1), (118, .iload 4, 2), (120, .ifCond .eq 7, 3), (123, .iconst 0, 1), (124, .goto 4, 3), (127, .iconst 1, 1), (128, .invokevirtual 92, 3), (131, .ireturn, 1)]
set_option maxRecDepth 100000 in
theorem DX10_tell_ok : ∀ q ∈ DX10_tell, decode cX10_tell q.1 = .ok q.2 := by decide +kernel
def DX10_become : List (Nat × Instr × Nat) := [(0, .aload_n 0, 1), (1, .getfield 16, 3), (4, .iload_n 1, 1), (5, .aload_n 2, 1), (6, .aastore, 1), (7, .aload_n 0, 1), (8, .aload_n 2, 1), (9, .invokestatic 141, 3), (12, .invokestatic 128, 3), (15, .invokevirtual 92, 3), (18, .ireturn, 1)]
set_option maxRecDepth 100000 in
theorem DX10_become_ok : ∀ q ∈ DX10_become, decode cX10_become q.1 = .ok q.2 := by decide +kernel
def DX10_take : List (Nat × Instr × Nat) := [(0, .aload_n 0, 1), (1, .iload_n 1, 1), (2, .invokestatic 135, 3), (5, .ifCond .eq 10, 3), (8, .iload_n 2, 1), (9, .invokestatic 135, 3), (12, .ifCond .ne 7, 3), (15, .iconst 1, 1), (16, .goto 4, 3), (19, .iconst 0, 1), (20, .invokevirtual 110, 3), (23, .ifCond .eq 7, 3), (26, .iconst 0, 1), (27, .goto 14, 3), (30, .aload_n 0, 1), (31, .iload_n 2, 1), (32, .aload_n 0, 1), (33, .getfield 16, 3), (36, .iload_n 1, 1), (37, .aaload, 1), (38, .invokevirtual 145, 3), (41, .ireturn, 1)]
set_option maxRecDepth 100000 in
theorem DX10_take_ok : ∀ q ∈ DX10_take, decode cX10_take q.1 = .ok q.2 := by decide +kernel
def DX10_withBehind : List (Nat × Instr × Nat) := [(0, .bipush 8, 2), (2, .anewarray 9, 3), (5, .astore_n 2, 1), (6, .iconst 0, 1), (7, .istore_n 3, 1), (8, .iload_n 3, 1), (9, .bipush 8, 2), (11, .if_icmp .ge 19, 3), (14, .aload_n 2, 1), (15, .iload_n 3, 1), (16, .aload_n 1, 1), (17, .aload_n 0, 1), (18, .iload_n 3, 1), (19, .aaload, 1), (20, .invokestatic 120, 3), (23, .aastore, 1), (24, .iinc 3 1, 3), (27, .goto (-19), 3), (30, .aload_n 2, 1), (31, .areturn, 1)]
set_option maxRecDepth 100000 in
theorem DX10_withBehind_ok : ∀ q ∈ DX10_withBehind, decode cX10_withBehind q.1 = .ok q.2 := by decide +kernel
def DX10_behind : List (Nat × Instr × Nat) := [(0, .aload_n 0, 1), (1, .iload_n 1, 1), (2, .invokestatic 135, 3), (5, .ifCond .eq 17, 3), (8, .iload_n 2, 1), (9, .invokestatic 135, 3), (12, .ifCond .eq 10, 3), (15, .iload_n 3, 1), (16, .invokestatic 135, 3), (19, .ifCond .ne 7, 3), (22, .iconst 1, 1), (23, .goto 4, 3), (26, .iconst 0, 1), (27, .invokevirtual 110, 3), (30, .ifCond .eq 5, 3), (33, .iconst 0, 1), (34, .ireturn, 1), (35, .aload_n 0, 1), (36, .getfield 16, 3), (39, .iload_n 1, 1), (40, .aaload, 1), (41, .aload_n 0, 1), (42, .getfield 16, 3), (45, .iload_n 2, 1), (46, .aaload, 1), (47, .invokestatic 149, 3), (50, .astore 4, 2), (52, .aload 4, 2), (54, .astore 5, 2), (56, .aload 5, 2), (58, .arraylength, 1), (59, .istore 6, 2), (61, .iconst 0, 1), (62, .istore 7, 2), (64, .iload 7, 2), (66, .iload 6, 2), (68, .if_icmp .ge 29, 3), (71, .aload 5, 2), (73, .iload 7, 2), (75, .aaload, 1), (76, .astore 8, 2), (78, .aload 8, 2), (80, .arraylength, 1), (81, .bipush 16, 2), (83, .if_icmp .le 8, 3), (86, .aload_n 0, 1), (87, .invokevirtual 88, 3), (90, .ireturn, 1), (91, .iinc 7 1, 3), (94, .goto (-30), 3), (97, .aload_n 0, 1), (98, .iload_n 3, 1), (99, .aload 4, 2), (101, .invokevirtual 145, 3), (104, .ireturn, 1)]
set_option maxRecDepth 100000 in
theorem DX10_behind_ok : ∀ q ∈ DX10_behind, decode cX10_behind q.1 = .ok q.2 := by decide +kernel
def DX10_alike : List (Nat × Instr × Nat) := [(0, .aload_n 0, 1), (1, .iload_n 1, 1), (2, .invokestatic 95, 3), (5, .ifCond .eq 17, 3), (8, .iload_n 2, 1), (9, .invokestatic 95, 3), (12, .ifCond .eq 10, 3), (15, .iload_n 3, 1), (16, .invokestatic 135, 3), (19, .ifCond .ne 7, 3), (22, .iconst 1, 1), (23, .goto 4, 3), (26, .iconst 0, 1), (27, .iload 4, 2), (29, .ifCond .lt 9, 3), (32, .iload 4, 2), (34, .iconst 1, 1), (35, .if_icmp .le 7, 3), (38, .iconst 1, 1), (39, .goto 4, 3), (42, .iconst 0, 1), (43, .invokevirtual 78, 3), (46, .ifCond .eq 5, 3), (49, .iconst 0, 1), (50, .ireturn, 1), (51, .aload_n 0, 1), (52, .getfield 11, 3), (55, .iload_n 1, 1), (56, .aaload, 1), (57, .aload_n 0, 1), (58, .getfield 11, 3), (61, .iload_n 2, 1), (62, .aaload, 1), (63, .iload 4, 2), (65, .invokestatic 153, 3), (68, .ifCond .ne 9, 3), (71, .aload_n 0, 1), (72, .iconst (-1), 1), (73, .invokevirtual 92, 3), (76, .ireturn, 1), (77, .iload 4, 2), (79, .ifCond .ne 28, 3), (82, .new 157, 3), (85, .dup, 1), (86, .aload_n 0, 1), (87, .getfield 11, 3), (90, .iload_n 1, 1), (91, .aaload, 1), (92, .aload_n 0, 1), (93, .getfield 11, 3), (96, .iload_n 2, 1), (97, .aaload, 1), (98, .invokespecial 159, 3), (101, .invokevirtual 162, 3), (104, .goto 25, 3), (107, .new 165, 3), (110, .dup, 1), (111, .aload_n 0, 1), (112, .getfield 11, 3), (115, .iload_n 1, 1), (116, .aaload, 1), (117, .aload_n 0, 1), (118, .getfield 11, 3), (121, .iload_n 2, 1), (122, .aaload, 1), (123, .invokespecial 167, 3), (126, .invokevirtual 168, 3), (129, .astore 5, 2), (131, .aload 5, 2), (133, .ifnonnull 10, 3), (136, .aload_n 0, 1), (137, .invokevirtual 88, 3), (140, .goto 10, 3), (143, .aload_n 0, 1), (144, .iload_n 3, 1), (145, .aload 5, 2), (147, .invokevirtual 145, 3), (150, .ireturn, 1)]
set_option maxRecDepth 100000 in
theorem DX10_alike_ok : ∀ q ∈ DX10_alike, decode cX10_alike q.1 = .ok q.2 := by decide +kernel
def DX10_match : List (Nat × Instr × Nat) := [(0, .aload_n 0, 1), (1, .iload_n 1, 1), (2, .invokestatic 95, 3), (5, .ifCond .eq 17, 3), (8, .iload_n 2, 1), (9, .invokestatic 95, 3), (12, .ifCond .eq 10, 3), (15, .iload_n 3, 1), (16, .invokestatic 135, 3), (19, .ifCond .ne 7, 3), (22, .iconst 1, 1), (23, .goto 4, 3), (26, .iconst 0, 1), (27, .invokevirtual 110, 3), (30, .ifCond .eq 5, 3), (33, .iconst 0, 1), (34, .ireturn, 1), (35, .aload_n 0, 1), (36, .getfield 11, 3), (39, .iload_n 1, 1), (40, .aaload, 1), (41, .aload_n 0, 1), (42, .getfield 11, 3), (45, .iload_n 2, 1), (46, .aaload, 1), (47, .invokestatic 169, 3), (50, .astore 4, 2), (52, .aload 4, 2), (54, .ifnonnull 11, 3), (57, .aload_n 0, 1), (58, .iconst (-1), 1), (59, .invokevirtual 92, 3), (62, .goto 10, 3), (65, .aload_n 0, 1), (66, .iload_n 3, 1), (67, .aload 4, 2), (69, .invokevirtual 145, 3), (72, .ireturn, 1)]
set_option maxRecDepth 100000 in
theorem DX10_match_ok : ∀ q ∈ DX10_match, decode cX10_match q.1 = .ok q.2 := by decide +kernel
def DX10_textOf : List (Nat × Instr × Nat) := [(0, .aload_n 0, 1), (1, .iload_n 1, 1), (2, .iaload, 1), (3, .istore_n 2, 1), (4, .iload_n 2, 1), (5, .bipush 10, 2), (7, .if_icmp .ge 27, 3), (10, .new 173, 3), (13, .dup, 1), (14, .invokespecial 175, 3), (17, .ldc 176, 2), (19, .invokevirtual 178, 3), (22, .bipush 97, 2), (24, .iload_n 2, 1), (25, .iadd, 1), (26, .i2c, 1), (27, .invokevirtual 182, 3), (30, .invokevirtual 185, 3), (33, .areturn, 1), (34, .new 173, 3), (37, .dup, 1), (38, .invokespecial 175, 3), (41, .iload_n 2, 1), (42, .bipush 16, 2), (44, .if_icmp .ge 31, 3), (47, .iload_n 2, 1), (48, .bipush 14, 2), (50, .if_icmp .ge 13, 3), (53, .bipush 75, 2), (55, .iload_n 2, 1), (56, .iadd, 1), (57, .bipush 10, 2), (59, .isub, 1), (60, .goto 25, 3), (63, .bipush 80, 2), (65, .iload_n 2, 1), (66, .iadd, 1), (67, .bipush 10, 2), (69, .isub, 1), (70, .iconst 4, 1), (71, .isub, 1), (72, .goto 13, 3), (75, .bipush 83, 2), (77, .iload_n 2, 1), (78, .iadd, 1), (79, .bipush 10, 2), (81, .isub, 1), (82, .bipush 6, 2), (84, .isub, 1), (85, .i2c, 1), (86, .invokevirtual 182, 3), (89, .astore_n 3, 1), (90, .iload_n 1, 1), (91, .iconst 1, 1), (92, .iadd, 1), (93, .istore 4, 2), (95, .iconst 0, 1), (96, .istore 5, 2), (98, .iload 5, 2), (100, .iload_n 2, 1), (101, .invokestatic 32, 3), (104, .if_icmp .ge 43, 3), (107, .aload_n 3, 1), (108, .iload 5, 2), (110, .ifCond .ne 8, 3), (113, .ldc 189, 2), (115, .goto 5, 3), (118, .ldc 191, 2), (120, .invokevirtual 178, 3), (123, .aload_n 0, 1), (124, .iload 4, 2), (126, .invokestatic 193, 3), (129, .invokevirtual 178, 3), (132, .pop, 1), (133, .aload_n 0, 1), (134, .iload 4, 2), (136, .invokestatic 36, 3), (139, .istore 4, 2), (141, .iinc 5 1, 3), (144, .goto (-46), 3), (147, .aload_n 3, 1), (148, .iload_n 2, 1), (149, .invokestatic 32, 3), (152, .ifCond .le 8, 3), (155, .ldc 197, 2), (157, .goto 5, 3), (160, .ldc 176, 2), (162, .invokevirtual 178, 3), (165, .invokevirtual 185, 3), (168, .areturn, 1)]
set_option maxRecDepth 100000 in
theorem DX10_textOf_ok : ∀ q ∈ DX10_textOf, decode cX10_textOf q.1 = .ok q.2 := by decide +kernel
def DX10_text : List (Nat × Instr × Nat) := [(0, .aload_n 0, 1), (1, .iload_n 1, 1), (2, .invokestatic 95, 3), (5, .ifCond .ne 7, 3), (8, .iconst 1, 1), (9, .goto 4, 3), (12, .iconst 0, 1), (13, .invokevirtual 110, 3), (16, .ifCond .eq 8, 3), (19, .ldc 176, 2), (21, .goto 13, 3), (24, .aload_n 0, 1), (25, .getfield 11, 3), (28, .iload_n 1, 1), (29, .aaload, 1), (30, .iconst 0, 1), (31, .invokestatic 193, 3), (34, .areturn, 1)]
set_option maxRecDepth 100000 in
theorem DX10_text_ok : ∀ q ∈ DX10_text, decode cX10_text q.1 = .ok q.2 := by decide +kernel
def DX10_size : List (Nat × Instr × Nat) := [(0, .aload_n 0, 1), (1, .iload_n 1, 1), (2, .invokestatic 95, 3), (5, .ifCond .ne 7, 3), (8, .iconst 1, 1), (9, .goto 4, 3), (12, .iconst 0, 1), (13, .invokevirtual 110, 3), (16, .ifCond .eq 7, 3), (19, .iconst 0, 1), (20, .goto 10, 3), (23, .aload_n 0, 1), (24, .getfield 11, 3), (27, .iload_n 1, 1), (28, .aaload, 1), (29, .arraylength, 1), (30, .ireturn, 1)]
set_option maxRecDepth 100000 in
theorem DX10_size_ok : ∀ q ∈ DX10_size, decode cX10_size q.1 = .ok q.2 := by decide +kernel
def DX10_depth : List (Nat × Instr × Nat) := [(0, .aload_n 0, 1), (1, .iload_n 1, 1), (2, .invokestatic 95, 3), (5, .ifCond .ne 7, 3), (8, .iconst 1, 1), (9, .goto 4, 3), (12, .iconst 0, 1), (13, .invokevirtual 110, 3), (16, .ifCond .eq 7, 3), (19, .iconst 0, 1), (20, .goto 13, 3), (23, .aload_n 0, 1), (24, .getfield 11, 3), (27, .iload_n 1, 1), (28, .aaload, 1), (29, .iconst 0, 1), (30, .invokestatic 63, 3), (33, .ireturn, 1)]
set_option maxRecDepth 100000 in
theorem DX10_depth_ok : ∀ q ∈ DX10_depth, decode cX10_depth q.1 = .ok q.2 := by decide +kernel
def DX10_sharedOf_ : List (Nat × Instr × Nat) := [(0, .iconst 1, 1), (1, .anewarray 9, 3), (4, .dup, 1), (5, .iconst 0, 1), (6, .aload_n 0, 1), (7, .aastore, 1), (8, .invokestatic 199, 3), (11, .ireturn, 1)]
set_option maxRecDepth 100000 in
theorem DX10_sharedOf__ok : ∀ q ∈ DX10_sharedOf_, decode cX10_sharedOf_ q.1 = .ok q.2 := by decide +kernel
def DX10_shared : List (Nat × Instr × Nat) := [(0, .aload_n 0, 1), (1, .iload_n 1, 1), (2, .invokestatic 95, 3), (5, .ifCond .ne 7, 3), (8, .iconst 1, 1), (9, .goto 4, 3), (12, .iconst 0, 1), (13, .invokevirtual 110, 3), (16, .ifCond .eq 7, 3), (19, .iconst 0, 1), (20, .goto 12, 3), (23, .aload_n 0, 1), (24, .getfield 11, 3), (27, .iload_n 1, 1), (28, .aaload, 1), (29, .invokestatic 202, 3), (32, .ireturn, 1)]
set_option maxRecDepth 100000 in
theorem DX10_shared_ok : ∀ q ∈ DX10_shared, decode cX10_shared q.1 = .ok q.2 := by decide +kernel
def DX10_letter : List (Nat × Instr × Nat) := [(0, .aload_n 0, 1), (1, .iload_n 1, 1), (2, .invokestatic 95, 3), (5, .ifCond .ne 7, 3), (8, .iconst 1, 1), (9, .goto 4, 3), (12, .iconst 0, 1), (13, .invokevirtual 110, 3), (16, .ifCond .eq 7, 3), (19, .iconst 0, 1), (20, .goto 25, 3), (23, .aload_n 0, 1), (24, .iload_n 1, 1), (25, .iload_n 2, 1), (26, .invokevirtual 113, 3), (29, .ifCond .eq 14, 3), (32, .aload_n 0, 1), (33, .getfield 11, 3), (36, .iload_n 1, 1), (37, .aaload, 1), (38, .iload_n 2, 1), (39, .iaload, 1), (40, .goto 5, 3), (43, .bipush (-9), 2), (45, .ireturn, 1)]
set_option maxRecDepth 100000 in
theorem DX10_letter_ok : ∀ q ∈ DX10_letter, decode cX10_letter q.1 = .ok q.2 := by decide +kernel
def DX10_sizeAt : List (Nat × Instr × Nat) := [(0, .aload_n 0, 1), (1, .iload_n 1, 1), (2, .invokestatic 95, 3), (5, .ifCond .ne 7, 3), (8, .iconst 1, 1), (9, .goto 4, 3), (12, .iconst 0, 1), (13, .invokevirtual 110, 3), (16, .ifCond .eq 7, 3), (19, .iconst 0, 1), (20, .goto 29, 3), (23, .aload_n 0, 1), (24, .iload_n 1, 1), (25, .iload_n 2, 1), (26, .invokevirtual 113, 3), (29, .ifCond .eq 18, 3), (32, .aload_n 0, 1), (33, .getfield 11, 3), (36, .iload_n 1, 1), (37, .aaload, 1), (38, .iload_n 2, 1), (39, .invokestatic 36, 3), (42, .iload_n 2, 1), (43, .isub, 1), (44, .goto 5, 3), (47, .bipush (-9), 2), (49, .ireturn, 1)]
set_option maxRecDepth 100000 in
theorem DX10_sizeAt_ok : ∀ q ∈ DX10_sizeAt, decode cX10_sizeAt q.1 = .ok q.2 := by decide +kernel
def DX10_count : List (Nat × Instr × Nat) := [(0, .aload_n 0, 1), (1, .iload_n 1, 1), (2, .invokestatic 95, 3), (5, .ifCond .ne 7, 3), (8, .iconst 1, 1), (9, .goto 4, 3), (12, .iconst 0, 1), (13, .iload_n 2, 1), (14, .invokestatic 99, 3), (17, .ifCond .ne 7, 3), (20, .iconst 1, 1), (21, .goto 4, 3), (24, .iconst 0, 1), (25, .invokevirtual 78, 3), (28, .ifCond .eq 7, 3), (31, .iconst 0, 1), (32, .goto 13, 3), (35, .aload_n 0, 1), (36, .getfield 11, 3), (39, .iload_n 1, 1), (40, .aaload, 1), (41, .iload_n 2, 1), (42, .invokestatic 117, 3), (45, .ireturn, 1)]
set_option maxRecDepth 100000 in
theorem DX10_count_ok : ∀ q ∈ DX10_count, decode cX10_count q.1 = .ok q.2 := by decide +kernel
def DX10_names : List (Nat × Instr × Nat) := [(0, .aload_n 0, 1), (1, .iload_n 1, 1), (2, .invokestatic 95, 3), (5, .ifCond .ne 7, 3), (8, .iconst 1, 1), (9, .goto 4, 3), (12, .iconst 0, 1), (13, .invokevirtual 110, 3), (16, .ifCond .eq 7, 3), (19, .iconst 0, 1), (20, .goto 12, 3), (23, .aload_n 0, 1), (24, .getfield 11, 3), (27, .iload_n 1, 1), (28, .aaload, 1), (29, .invokestatic 124, 3), (32, .ireturn, 1)]
set_option maxRecDepth 100000 in
theorem DX10_names_ok : ∀ q ∈ DX10_names, decode cX10_names q.1 = .ok q.2 := by decide +kernel
def DX10_find : List (Nat × Instr × Nat) := [(0, .aload_n 0, 1), (1, .iload_n 1, 1), (2, .invokestatic 95, 3), (5, .ifCond .eq 10, 3), (8, .iload_n 2, 1), (9, .invokestatic 95, 3), (12, .ifCond .ne 7, 3), (15, .iconst 1, 1), (16, .goto 4, 3), (19, .iconst 0, 1), (20, .invokevirtual 110, 3), (23, .ifCond .eq 5, 3), (26, .iconst 0, 1), (27, .ireturn, 1), (28, .iconst 0, 1), (29, .istore_n 3, 1), (30, .iload_n 3, 1), (31, .aload_n 0, 1), (32, .getfield 11, 3), (35, .iload_n 1, 1), (36, .aaload, 1), (37, .arraylength, 1), (38, .if_icmp .ge 31, 3), (41, .aload_n 0, 1), (42, .getfield 11, 3), (45, .iload_n 1, 1), (46, .aaload, 1), (47, .iload_n 3, 1), (48, .aload_n 0, 1), (49, .getfield 11, 3), (52, .iload_n 2, 1), (53, .aaload, 1), (54, .iconst 0, 1), (55, .invokestatic 70, 3), (58, .ifCond .eq 5, 3), (61, .iload_n 3, 1), (62, .ireturn, 1), (63, .iinc 3 1, 3), (66, .goto (-36), 3), (69, .iconst (-1), 1), (70, .ireturn, 1)]
set_option maxRecDepth 100000 in
theorem DX10_find_ok : ∀ q ∈ DX10_find, decode cX10_find q.1 = .ok q.2 := by decide +kernel
def DX10_differ : List (Nat × Instr × Nat) := [(0, .aload_n 0, 1), (1, .iload_n 1, 1), (2, .invokestatic 95, 3), (5, .ifCond .eq 10, 3), (8, .iload_n 2, 1), (9, .invokestatic 95, 3), (12, .ifCond .ne 7, 3), (15, .iconst 1, 1), (16, .goto 4, 3), (19, .iconst 0, 1), (20, .invokevirtual 110, 3), (23, .ifCond .eq 7, 3), (26, .iconst 0, 1), (27, .goto 18, 3), (30, .aload_n 0, 1), (31, .getfield 11, 3), (34, .iload_n 1, 1), (35, .aaload, 1), (36, .aload_n 0, 1), (37, .getfield 11, 3), (40, .iload_n 2, 1), (41, .aaload, 1), (42, .invokestatic 44, 3), (45, .ireturn, 1)]
set_option maxRecDepth 100000 in
theorem DX10_differ_ok : ∀ q ∈ DX10_differ, decode cX10_differ q.1 = .ok q.2 := by decide +kernel
def DX10_is : List (Nat × Instr × Nat) := [(0, .aload_n 0, 1), (1, .iload_n 1, 1), (2, .invokestatic 95, 3), (5, .ifCond .eq 10, 3), (8, .iload_n 2, 1), (9, .invokestatic 95, 3), (12, .ifCond .ne 7, 3), (15, .iconst 1, 1), (16, .goto 4, 3), (19, .iconst 0, 1), (20, .iload_n 3, 1), (21, .ifCond .lt 8, 3), (24, .iload_n 3, 1), (25, .iconst 2, 1), (26, .if_icmp .le 7, 3), (29, .iconst 1, 1), (30, .goto 4, 3), (33, .iconst 0, 1), (34, .invokevirtual 78, 3), (37, .ifCond .eq 5, 3), (40, .iconst 0, 1), (41, .ireturn, 1), (42, .iload_n 3, 1), (43, .iconst 2, 1), (44, .if_icmp .ne 27, 3), (47, .aload_n 0, 1), (48, .getfield 11, 3), (51, .iload_n 2, 1), (52, .aaload, 1), (53, .aload_n 0, 1), (54, .getfield 11, 3), (57, .iload_n 1, 1), (58, .aaload, 1), (59, .invokestatic 169, 3), (62, .ifnull 7, 3), (65, .iconst 1, 1), (66, .goto 4, 3), (69, .iconst 0, 1), (70, .ireturn, 1), (71, .iload_n 3, 1), (72, .ifCond .ne 21, 3), (75, .aload_n 0, 1), (76, .getfield 11, 3), (79, .iload_n 1, 1), (80, .aaload, 1), (81, .aload_n 0, 1), (82, .getfield 11, 3), (85, .iload_n 2, 1), (86, .aaload, 1), (87, .invokestatic 54, 3), (90, .goto 24, 3), (93, .aload_n 0, 1), (94, .getfield 11, 3), (97, .iload_n 1, 1), (98, .aaload, 1), (99, .invokestatic 131, 3), (102, .aload_n 0, 1), (103, .getfield 11, 3), (106, .iload_n 2, 1), (107, .aaload, 1), (108, .invokestatic 131, 3), (111, .invokestatic 54, 3), (114, .ireturn, 1)]
set_option maxRecDepth 100000 in
theorem DX10_is_ok : ∀ q ∈ DX10_is, decode cX10_is q.1 = .ok q.2 := by decide +kernel
def DX10_canBe : List (Nat × Instr × Nat) := [(0, .iload_n 2, 1), (1, .ifCond .ne 26, 3), (4, .new 157, 3), (7, .dup, 1), (8, .aload_n 0, 1), (9, .aload_n 1, 1), (10, .invokespecial 159, 3), (13, .getfield 204, 3), (16, .ifCond .ne 7, 3), (19, .iconst 1, 1), (20, .goto 19, 3), (23, .iconst 0, 1), (24, .goto 15, 3), (27, .new 165, 3), (30, .dup, 1), (31, .aload_n 0, 1), (32, .aload_n 1, 1), (33, .invokespecial 167, 3), (36, .getfield 207, 3), (39, .ireturn, 1)]
set_option maxRecDepth 100000 in
theorem DX10_canBe_ok : ∀ q ∈ DX10_canBe, decode cX10_canBe q.1 = .ok q.2 := by decide +kernel
def DX10_can : List (Nat × Instr × Nat) := [(0, .aload_n 0, 1), (1, .iload_n 1, 1), (2, .invokestatic 95, 3), (5, .ifCond .eq 10, 3), (8, .iload_n 2, 1), (9, .invokestatic 95, 3), (12, .ifCond .ne 7, 3), (15, .iconst 1, 1), (16, .goto 4, 3), (19, .iconst 0, 1), (20, .iload_n 3, 1), (21, .ifCond .lt 8, 3), (24, .iload_n 3, 1), (25, .iconst 1, 1), (26, .if_icmp .le 7, 3), (29, .iconst 1, 1), (30, .goto 4, 3), (33, .iconst 0, 1), (34, .invokevirtual 78, 3), (37, .ifCond .ne 26, 3), (40, .aload_n 0, 1), (41, .getfield 11, 3), (44, .iload_n 1, 1), (45, .aaload, 1), (46, .aload_n 0, 1), (47, .getfield 11, 3), (50, .iload_n 2, 1), (51, .aaload, 1), (52, .iload_n 3, 1), (53, .invokestatic 153, 3), (56, .ifCond .eq 7, 3), (59, .iconst 1, 1), (60, .goto 4, 3), (63, .iconst 0, 1), (64, .ireturn, 1)]
set_option maxRecDepth 100000 in
theorem DX10_can_ok : ∀ q ∈ DX10_can, decode cX10_can q.1 = .ok q.2 := by decide +kernel
def DX10_steps : List (Nat × Instr × Nat) := [(0, .aload_n 0, 1), (1, .iload_n 1, 1), (2, .invokestatic 95, 3), (5, .ifCond .eq 10, 3), (8, .iload_n 2, 1), (9, .invokestatic 95, 3), (12, .ifCond .ne 7, 3), (15, .iconst 1, 1), (16, .goto 4, 3), (19, .iconst 0, 1), (20, .invokevirtual 110, 3), (23, .ifCond .eq 7, 3), (26, .iconst 0, 1), (27, .goto 25, 3), (30, .new 157, 3), (33, .dup, 1), (34, .aload_n 0, 1), (35, .getfield 11, 3), (38, .iload_n 1, 1), (39, .aaload, 1), (40, .aload_n 0, 1), (41, .getfield 11, 3), (44, .iload_n 2, 1), (45, .aaload, 1), (46, .invokespecial 159, 3), (49, .getfield 211, 3), (52, .ireturn, 1)]
set_option maxRecDepth 100000 in
theorem DX10_steps_ok : ∀ q ∈ DX10_steps, decode cX10_steps q.1 = .ok q.2 := by decide +kernel
def DX10_why : List (Nat × Instr × Nat) := [(0, .aload_n 0, 1), (1, .iload_n 1, 1), (2, .invokestatic 95, 3), (5, .ifCond .eq 10, 3), (8, .iload_n 2, 1), (9, .invokestatic 95, 3), (12, .ifCond .ne 7, 3), (15, .iconst 1, 1), (16, .goto 4, 3), (19, .iconst 0, 1), (20, .invokevirtual 110, 3), (23, .ifCond .eq 7, 3), (26, .iconst 0, 1), (27, .goto 25, 3), (30, .new 157, 3), (33, .dup, 1), (34, .aload_n 0, 1), (35, .getfield 11, 3), (38, .iload_n 1, 1), (39, .aaload, 1), (40, .aload_n 0, 1), (41, .getfield 11, 3), (44, .iload_n 2, 1), (45, .aaload, 1), (46, .invokespecial 159, 3), (49, .getfield 204, 3), (52, .ireturn, 1)]
set_option maxRecDepth 100000 in
theorem DX10_why_ok : ∀ q ∈ DX10_why, decode cX10_why q.1 = .ok q.2 := by decide +kernel
def DX10_told : List (Nat × Instr × Nat) := [(0, .aload_n 0, 1), (1, .iload_n 1, 1), (2, .invokestatic 135, 3), (5, .ifCond .ne 7, 3), (8, .iconst 1, 1), (9, .goto 4, 3), (12, .iconst 0, 1), (13, .iload_n 2, 1), (14, .invokestatic 99, 3), (17, .ifCond .ne 7, 3), (20, .iconst 1, 1), (21, .goto 4, 3), (24, .iconst 0, 1), (25, .invokevirtual 78, 3), (28, .ifCond .eq 8, 3), (31, .ldc 176, 2), (33, .goto 15, 3), (36, .aload_n 0, 1), (37, .getfield 16, 3), (40, .iload_n 1, 1), (41, .aaload, 1), (42, .iload_n 2, 1), (43, .aaload, 1), (44, .iconst 0, 1), (45, .invokestatic 193, 3), (48, .areturn, 1)]
set_option maxRecDepth 100000 in
theorem DX10_told_ok : ∀ q ∈ DX10_told, decode cX10_told q.1 = .ok q.2 := by decide +kernel
def DX10_moved : List (Nat × Instr × Nat) := [(0, .aload_n 0, 1), (1, .iload_n 1, 1), (2, .invokestatic 135, 3), (5, .ifCond .ne 7, 3), (8, .iconst 1, 1), (9, .goto 4, 3), (12, .iconst 0, 1), (13, .invokevirtual 110, 3), (16, .ifCond .eq 7, 3), (19, .iconst 0, 1), (20, .goto 12, 3), (23, .aload_n 0, 1), (24, .getfield 16, 3), (27, .iload_n 1, 1), (28, .aaload, 1), (29, .invokestatic 141, 3), (32, .ireturn, 1)]
set_option maxRecDepth 100000 in
theorem DX10_moved_ok : ∀ q ∈ DX10_moved, decode cX10_moved q.1 = .ok q.2 := by decide +kernel
def DX10_makes : List (Nat × Instr × Nat) := [(0, .aload_n 0, 1), (1, .iload_n 1, 1), (2, .invokestatic 135, 3), (5, .ifCond .eq 17, 3), (8, .iload_n 2, 1), (9, .invokestatic 95, 3), (12, .ifCond .eq 10, 3), (15, .iload_n 3, 1), (16, .invokestatic 95, 3), (19, .ifCond .ne 7, 3), (22, .iconst 1, 1), (23, .goto 4, 3), (26, .iconst 0, 1), (27, .invokevirtual 110, 3), (30, .ifCond .ne 43, 3), (33, .aload_n 0, 1), (34, .getfield 16, 3), (37, .iload_n 1, 1), (38, .aaload, 1), (39, .aload_n 0, 1), (40, .getfield 11, 3), (43, .iload_n 2, 1), (44, .aaload, 1), (45, .invokestatic 120, 3), (48, .aload_n 0, 1), (49, .getfield 16, 3), (52, .iload_n 1, 1), (53, .aaload, 1), (54, .aload_n 0, 1), (55, .getfield 11, 3), (58, .iload_n 3, 1), (59, .aaload, 1), (60, .invokestatic 120, 3), (63, .invokestatic 54, 3), (66, .ifCond .eq 7, 3), (69, .iconst 1, 1), (70, .goto 4, 3), (73, .iconst 0, 1), (74, .ireturn, 1)]
set_option maxRecDepth 100000 in
theorem DX10_makes_ok : ∀ q ∈ DX10_makes, decode cX10_makes q.1 = .ok q.2 := by decide +kernel
def DX10_unlikeOf : List (Nat × Instr × Nat) := [(0, .iconst 0, 1), (1, .istore_n 2, 1), (2, .iload_n 2, 1), (3, .bipush 8, 2), (5, .if_icmp .ge 23, 3), (8, .aload_n 0, 1), (9, .iload_n 2, 1), (10, .aaload, 1), (11, .aload_n 1, 1), (12, .iload_n 2, 1), (13, .aaload, 1), (14, .invokestatic 54, 3), (17, .ifCond .ne 5, 3), (20, .iload_n 2, 1), (21, .ireturn, 1), (22, .iinc 2 1, 3), (25, .goto (-23), 3), (28, .iconst (-1), 1), (29, .ireturn, 1)]
set_option maxRecDepth 100000 in
theorem DX10_unlikeOf_ok : ∀ q ∈ DX10_unlikeOf, decode cX10_unlikeOf q.1 = .ok q.2 := by decide +kernel
def DX10_isSo : List (Nat × Instr × Nat) := [(0, .aload_n 0, 1), (1, .iload_n 1, 1), (2, .invokestatic 135, 3), (5, .ifCond .ne 7, 3), (8, .iconst 1, 1), (9, .goto 4, 3), (12, .iconst 0, 1), (13, .iload_n 2, 1), (14, .ifCond .lt 8, 3), (17, .iload_n 2, 1), (18, .iconst 1, 1), (19, .if_icmp .le 7, 3), (22, .iconst 1, 1), (23, .goto 4, 3), (26, .iconst 0, 1), (27, .invokevirtual 78, 3), (30, .ifCond .eq 5, 3), (33, .iconst 0, 1), (34, .ireturn, 1), (35, .aload_n 0, 1), (36, .getfield 16, 3), (39, .iload_n 1, 1), (40, .aaload, 1), (41, .astore_n 3, 1), (42, .iload_n 2, 1), (43, .ifCond .ne 21, 3), (46, .aload_n 3, 1), (47, .aload_n 3, 1), (48, .invokestatic 149, 3), (51, .aload_n 3, 1), (52, .invokestatic 214, 3), (55, .ifCond .ge 7, 3), (58, .iconst 1, 1), (59, .goto 4, 3), (62, .iconst 0, 1), (63, .ireturn, 1), (64, .iconst 0, 1), (65, .istore 4, 2), (67, .aload_n 3, 1), (68, .astore 5, 2), (70, .aload 5, 2), (72, .arraylength, 1), (73, .istore 6, 2), (75, .iconst 0, 1), (76, .istore 7, 2), (78, .iload 7, 2), (80, .iload 6, 2), (82, .if_icmp .ge 40, 3), (85, .aload 5, 2), (87, .iload 7, 2), (89, .aaload, 1), (90, .astore 8, 2), (92, .iload 4, 2), (94, .aload 8, 2), (96, .iconst 0, 1), (97, .iaload, 1), (98, .bipush 10, 2), (100, .if_icmp .ge 12, 3), (103, .iconst 1, 1), (104, .aload 8, 2), (106, .iconst 0, 1), (107, .iaload, 1), (108, .ishl, 1), (109, .goto 4, 3), (112, .iconst 0, 1), (113, .ior, 1), (114, .istore 4, 2), (116, .iinc 7 1, 3), (119, .goto (-41), 3), (122, .iload 4, 2), (124, .invokestatic 128, 3), (127, .bipush 8, 2), (129, .if_icmp .ne 7, 3), (132, .iconst 1, 1), (133, .goto 4, 3), (136, .iconst 0, 1), (137, .ireturn, 1)]
set_option maxRecDepth 100000 in
theorem DX10_isSo_ok : ∀ q ∈ DX10_isSo, decode cX10_isSo q.1 = .ok q.2 := by decide +kernel
def DX10_unlike : List (Nat × Instr × Nat) := [(0, .aload_n 0, 1), (1, .iload_n 1, 1), (2, .invokestatic 135, 3), (5, .ifCond .eq 10, 3), (8, .iload_n 2, 1), (9, .invokestatic 135, 3), (12, .ifCond .ne 7, 3), (15, .iconst 1, 1), (16, .goto 4, 3), (19, .iconst 0, 1), (20, .invokevirtual 110, 3), (23, .ifCond .eq 7, 3), (26, .iconst 0, 1), (27, .goto 18, 3), (30, .aload_n 0, 1), (31, .getfield 16, 3), (34, .iload_n 1, 1), (35, .aaload, 1), (36, .aload_n 0, 1), (37, .getfield 16, 3), (40, .iload_n 2, 1), (41, .aaload, 1), (42, .invokestatic 214, 3), (45, .ireturn, 1)]
set_option maxRecDepth 100000 in
theorem DX10_unlike_ok : ∀ q ∈ DX10_unlike, decode cX10_unlike q.1 = .ok q.2 := by decide +kernel
def DX10_weight : List (Nat × Instr × Nat) := [(0, .aload_n 0, 1), (1, .iload_n 1, 1), (2, .invokestatic 135, 3), (5, .ifCond .ne 7, 3), (8, .iconst 1, 1), (9, .goto 4, 3), (12, .iconst 0, 1), (13, .invokevirtual 110, 3), (16, .ifCond .eq 5, 3), (19, .iconst 0, 1), (20, .ireturn, 1), (21, .aload_n 0, 1), (22, .getfield 16, 3), (25, .iload_n 1, 1), (26, .aaload, 1), (27, .invokestatic 141, 3), (30, .istore_n 3, 1), (31, .iload_n 3, 1), (32, .invokestatic 128, 3), (35, .anewarray 9, 3), (38, .astore 4, 2), (40, .iconst 0, 1), (41, .istore 5, 2), (43, .iconst 0, 1), (44, .istore 6, 2), (46, .iconst 0, 1), (47, .istore 7, 2), (49, .iload 7, 2), (51, .bipush 8, 2), (53, .if_icmp .ge 53, 3), (56, .iload_n 3, 1), (57, .iload 7, 2), (59, .ishr, 1), (60, .iconst 1, 1), (61, .iand, 1), (62, .ifCond .ne 6, 3), (65, .goto 35, 3), (68, .aload 4, 2), (70, .iload 5, 2), (72, .iinc 5 1, 3), (75, .aload_n 0, 1), (76, .getfield 16, 3), (79, .iload_n 1, 1), (80, .aaload, 1), (81, .iload 7, 2), (83, .aaload, 1), (84, .aastore, 1), (85, .iload 6, 2), (87, .aload_n 0, 1), (88, .getfield 16, 3), (91, .iload_n 1, 1), (92, .aaload, 1), (93, .iload 7, 2), (95, .aaload, 1), (96, .arraylength, 1), (97, .iadd, 1), (98, .istore 6, 2), (100, .iinc 7 1, 3), (103, .goto (-54), 3), (106, .iload_n 2, 1), (107, .ifCond .eq 11, 3), (110, .aload 4, 2), (112, .invokestatic 199, 3), (115, .goto 5, 3), (118, .iload 6, 2), (120, .ireturn, 1)]
set_option maxRecDepth 100000 in
theorem DX10_weight_ok : ∀ q ∈ DX10_weight, decode cX10_weight q.1 = .ok q.2 := by decide +kernel
def DX10_told_ : List (Nat × Instr × Nat) := [(0, .iconst 0, 1), (1, .istore_n 2, 1), (2, .iload_n 1, 1), (3, .iconst 3, 1), (4, .if_icmp .ne 43, 3), (7, .aload_n 0, 1), (8, .getfield 11, 3), (11, .astore_n 3, 1), (12, .aload_n 3, 1), (13, .arraylength, 1), (14, .istore 4, 2), (16, .iconst 0, 1), (17, .istore 5, 2), (19, .iload 5, 2), (21, .iload 4, 2), (23, .if_icmp .ge 21, 3), (26, .aload_n 3, 1), (27, .iload 5, 2), (29, .aaload, 1), (30, .astore 6, 2), (32, .iload_n 2, 1), (33, .aload 6, 2), (35, .arraylength, 1), (36, .iadd, 1), (37, .istore_n 2, 1), (38, .iinc 5 1, 3), (41, .goto (-22), 3), (44, .goto 45, 3), (47, .aload_n 0, 1), (48, .getfield 16, 3), (51, .astore_n 3, 1), (52, .aload_n 3, 1), (53, .arraylength, 1), (54, .istore 4, 2), (56, .iconst 0, 1), (57, .istore 5, 2), (59, .iload 5, 2), (61, .iload 4, 2), (63, .if_icmp .ge 26, 3), (66, .aload_n 3, 1), (67, .iload 5, 2), (69, .aaload, 1), (70, .astore 6, 2), (72, .iload_n 2, 1), (73, .aload 6, 2), (75, .invokestatic 141, 3), (78, .invokestatic 128, 3), (81, .iadd, 1), (82, .istore_n 2, 1), (83, .iinc 5 1, 3), (86, .goto (-27), 3), (89, .iload_n 2, 1), (90, .ireturn, 1)]
set_option maxRecDepth 100000 in
theorem DX10_told__ok : ∀ q ∈ DX10_told_, decode cX10_told_ q.1 = .ok q.2 := by decide +kernel
def DX10_house : List (Nat × Instr × Nat) := [(0, .aload_n 0, 1), (1, .iload_n 1, 1), (2, .ifCond .lt 8, 3), (5, .iload_n 1, 1), (6, .iconst 4, 1), (7, .if_icmp .le 7, 3), (10, .iconst 1, 1), (11, .goto 4, 3), (14, .iconst 0, 1), (15, .invokevirtual 110, 3), (18, .ifCond .eq 7, 3), (21, .iconst 0, 1), (22, .goto 43, 3), (25, .iload_n 1, 1), (26, .ifCond .ne 10, 3), (29, .aload_n 0, 1), (30, .getfield 82, 3), (33, .goto 32, 3), (36, .iload_n 1, 1), (37, .iconst 1, 1), (38, .if_icmp .ne 10, 3), (41, .aload_n 0, 1), (42, .getfield 85, 3), (45, .goto 20, 3), (48, .iload_n 1, 1), (49, .iconst 2, 1), (50, .if_icmp .ne 10, 3), (53, .aload_n 0, 1), (54, .getfield 218, 3), (57, .goto 8, 3), (60, .aload_n 0, 1), (61, .iload_n 1, 1), (62, .invokevirtual 221, 3), (65, .ireturn, 1)]
set_option maxRecDepth 100000 in
theorem DX10_house_ok : ∀ q ∈ DX10_house, decode cX10_house q.1 = .ok q.2 := by decide +kernel
def DX10_knock : List (Nat × Instr × Nat) := [(0, .aload_n 0, 1), (1, .iconst 0, 1), (2, .putfield 28, 3), (5, .aload_n 0, 1), (6, .dup, 1), (7, .getfield 218, 3), (10, .iconst 1, 1), (11, .iadd, 1), (12, .putfield 218, 3), (15, .aload_n 0, 1), (16, .getfield 218, 3), (19, .ireturn, 1)]
set_option maxRecDepth 100000 in
theorem DX10_knock_ok : ∀ q ∈ DX10_knock, decode cX10_knock q.1 = .ok q.2 := by decide +kernel
def DX10_isSound : List (Nat × Instr × Nat) := [(0, .aload_n 0, 1), (1, .iconst 0, 1), (2, .putfield 28, 3), (5, .iconst 1, 1), (6, .ireturn, 1)]
set_option maxRecDepth 100000 in
theorem DX10_isSound_ok : ∀ q ∈ DX10_isSound, decode cX10_isSound q.1 = .ok q.2 := by decide +kernel
def DX10_add : List (Nat × Instr × Nat) := [(0, .lload_n 0, 1), (1, .ldc2_w 224, 3), (4, .lmul, 1), (5, .lload_n 2, 1), (6, .ladd, 1), (7, .lreturn, 1)]
set_option maxRecDepth 100000 in
theorem DX10_add_ok : ∀ q ∈ DX10_add, decode cX10_add q.1 = .ok q.2 := by decide +kernel
def DX10_added : List (Nat × Instr × Nat) := [(0, .lload_n 0, 1), (1, .lstore_n 3, 1), (2, .aload_n 2, 1), (3, .astore 5, 2), (5, .aload 5, 2), (7, .arraylength, 1), (8, .istore 6, 2), (10, .iconst 0, 1), (11, .istore 7, 2), (13, .iload 7, 2), (15, .iload 6, 2), (17, .if_icmp .ge 24, 3), (20, .aload 5, 2), (22, .iload 7, 2), (24, .iaload, 1), (25, .istore 8, 2), (27, .lload_n 3, 1), (28, .iload 8, 2), (30, .i2l, 1), (31, .invokestatic 226, 3), (34, .lstore_n 3, 1), (35, .iinc 7 1, 3), (38, .goto (-25), 3), (41, .lload_n 3, 1), (42, .lreturn, 1)]
set_option maxRecDepth 100000 in
theorem DX10_added_ok : ∀ q ∈ DX10_added, decode cX10_added q.1 = .ok q.2 := by decide +kernel
def DX10_digest : List (Nat × Instr × Nat) := [(0, .aload_n 0, 1), (1, .iconst 0, 1), (2, .putfield 28, 3), (5, .ldc2_w 230, 3), (8, .lstore_n 1, 1), (9, .aload_n 0, 1), (10, .getfield 11, 3), (13, .astore_n 3, 1), (14, .aload_n 3, 1), (15, .arraylength, 1), (16, .istore 4, 2), (18, .iconst 0, 1), (19, .istore 5, 2), (21, .iload 5, 2), (23, .iload 4, 2), (25, .if_icmp .ge 59, 3), (28, .aload_n 3, 1), (29, .iload 5, 2), (31, .aaload, 1), (32, .astore 6, 2), (34, .lload_n 1, 1), (35, .aload 6, 2), (37, .arraylength, 1), (38, .i2l, 1), (39, .invokestatic 226, 3), (42, .aload 6, 2), (44, .iconst 0, 1), (45, .invokestatic 63, 3), (48, .i2l, 1), (49, .invokestatic 226, 3), (52, .aload 6, 2), (54, .invokestatic 202, 3), (57, .i2l, 1), (58, .invokestatic 226, 3), (61, .lstore_n 1, 1), (62, .lload_n 1, 1), (63, .aload 6, 2), (65, .invokestatic 124, 3), (68, .i2l, 1), (69, .invokestatic 226, 3), (72, .aload 6, 2), (74, .invokestatic 232, 3), (77, .lstore_n 1, 1), (78, .iinc 5 1, 3), (81, .goto (-60), 3), (84, .aload_n 0, 1), (85, .getfield 16, 3), (88, .astore_n 3, 1), (89, .aload_n 3, 1), (90, .arraylength, 1), (91, .istore 4, 2), (93, .iconst 0, 1), (94, .istore 5, 2), (96, .iload 5, 2), (98, .iload 4, 2), (100, .if_icmp .ge 83, 3), (103, .aload_n 3, 1), (104, .iload 5, 2), (106, .aaload, 1), (107, .astore 6, 2), (109, .aload 6, 2), (111, .invokestatic 141, 3), (114, .istore 7, 2), (116, .lload_n 1, 1), (117, .iload 7, 2), (119, .i2l, 1), (120, .invokestatic 226, 3), (123, .lstore_n 1, 1), (124, .iconst 0, 1), (125, .istore 8, 2), (127, .iload 8, 2), (129, .bipush 8, 2), (131, .if_icmp .ge 46, 3), (134, .iload 7, 2), (136, .iload 8, 2), (138, .ishr, 1), (139, .iconst 1, 1), (140, .iand, 1), (141, .iconst 1, 1), (142, .if_icmp .ne 29, 3), (145, .lload_n 1, 1), (146, .iload 8, 2), (148, .i2l, 1), (149, .invokestatic 226, 3), (152, .aload 6, 2), (154, .iload 8, 2), (156, .aaload, 1), (157, .arraylength, 1), (158, .i2l, 1), (159, .invokestatic 226, 3), (162, .aload 6, 2), (164, .iload 8, 2), (166, .aaload, 1), (167, .invokestatic 232, 3), (170, .lstore_n 1, 1), (171, .iinc 8 1, 3), (174, .goto (-47), 3), (177, .iinc 5 1, 3), (180, .goto (-84), 3), (183, .new 157, 3), (186, .dup, 1), (187, .aload_n 0, 1), (188, .getfield 11, 3), (191, .iconst 0, 1), (192, .aaload, 1), (193, .aload_n 0, 1), (194, .getfield 11, 3), (197, .iconst 1, 1), (198, .aaload, 1), (199, .invokespecial 159, 3), (202, .astore_n 3, 1), (203, .lload_n 1, 1), (204, .aload_n 3, 1), (205, .getfield 211, 3), (208, .i2l, 1), (209, .invokestatic 226, 3), (212, .aload_n 3, 1), (213, .getfield 204, 3), (216, .i2l, 1), (217, .invokestatic 226, 3), (220, .lstore_n 1, 1), (221, .lload_n 1, 1), (222, .aload_n 0, 1), (223, .getfield 82, 3), (226, .i2l, 1), (227, .invokestatic 226, 3), (230, .aload_n 0, 1), (231, .getfield 85, 3), (234, .i2l, 1), (235, .invokestatic 226, 3), (238, .aload_n 0, 1), (239, .getfield 218, 3), (242, .i2l, 1), (243, .invokestatic 226, 3), (246, .lstore_n 1, 1), (247, .lload_n 1, 1), (248, .aload_n 0, 1), (249, .iconst 3, 1), (250, .invokevirtual 221, 3), (253, .i2l, 1), (254, .invokestatic 226, 3), (257, .aload_n 0, 1), (258, .iconst 4, 1), (259, .invokevirtual 221, 3), (262, .i2l, 1), (263, .invokestatic 226, 3), (266, .lconst 1, 1), (267, .invokestatic 226, 3), (270, .lreturn, 1)]
set_option maxRecDepth 100000 in
theorem DX10_digest_ok : ∀ q ∈ DX10_digest, decode cX10_digest q.1 = .ok q.2 := by decide +kernel
end
section
set_option maxRecDepth 100000 in
theorem liX10 : Cond.initialized RX10 ∈ WT := WT_of (List.mem_of_getElem? (i := 55) (by decide +kernel)) rfl
set_option maxRecDepth 100000 in
theorem liX8 : Cond.initialized RX8 ∈ WT := WT_of (List.mem_of_getElem? (i := 66) (by decide +kernel)) rfl
set_option maxRecDepth 100000 in
theorem liX9 : Cond.initialized RX9 ∈ WT := WT_of (List.mem_of_getElem? (i := 65) (by decide +kernel)) rfl
set_option maxRecDepth 100000 in
theorem lcX8_init : Cond.code yX8_init cX8_init 6 none ∈ WT := WT_of (List.mem_of_getElem? (i := 1552) (by decide +kernel)) rfl
theorem lkX8_init : LK yX8_init cX8_init 6 2 none := ⟨lcX8_init, liX8, ⟨by decide +kernel, by decide +kernel⟩, by decide +kernel⟩
set_option maxRecDepth 100000 in
theorem lmX8_init : Cond.instanceMethod yX8_init ∈ WT := WT_of (List.mem_of_getElem? (i := 1551) (by decide +kernel)) rfl
set_option maxRecDepth 100000 in
theorem lcX8_number : Cond.code yX8_number cX8_number 4 (some .int) ∈ WT := WT_of (List.mem_of_getElem? (i := 1565) (by decide +kernel)) rfl
theorem lkX8_number : LK yX8_number cX8_number 4 2 (some .int) := ⟨lcX8_number, liX8, ⟨by decide +kernel, by decide +kernel⟩, by decide +kernel⟩
set_option maxRecDepth 100000 in
theorem lmX8_number : Cond.instanceMethod yX8_number ∈ WT := WT_of (List.mem_of_getElem? (i := 1564) (by decide +kernel)) rfl
set_option maxRecDepth 100000 in
theorem lcX8_come : Cond.code yX8_come cX8_come 3 none ∈ WT := WT_of (List.mem_of_getElem? (i := 1559) (by decide +kernel)) rfl
theorem lkX8_come : LK yX8_come cX8_come 3 1 none := ⟨lcX8_come, liX8, ⟨by decide +kernel, by decide +kernel⟩, by decide +kernel⟩
set_option maxRecDepth 100000 in
theorem lmX8_come : Cond.instanceMethod yX8_come ∈ WT := WT_of (List.mem_of_getElem? (i := 1558) (by decide +kernel)) rfl
set_option maxRecDepth 100000 in
theorem lcX8_headed : Cond.code yX8_headed cX8_headed 3 (some .int) ∈ WT := WT_of (List.mem_of_getElem? (i := 1577) (by decide +kernel)) rfl
theorem lkX8_headed : LK yX8_headed cX8_headed 3 1 (some .int) := ⟨lcX8_headed, liX8, ⟨by decide +kernel, by decide +kernel⟩, by decide +kernel⟩
set_option maxRecDepth 100000 in
theorem lmX8_headed : Cond.instanceMethod yX8_headed ∈ WT := WT_of (List.mem_of_getElem? (i := 1576) (by decide +kernel)) rfl
set_option maxRecDepth 100000 in
theorem lcX8_join : Cond.code yX8_join cX8_join 8 none ∈ WT := WT_of (List.mem_of_getElem? (i := 1573) (by decide +kernel)) rfl
theorem lkX8_join : LK yX8_join cX8_join 8 2 none := ⟨lcX8_join, liX8, ⟨by decide +kernel, by decide +kernel⟩, by decide +kernel⟩
set_option maxRecDepth 100000 in
theorem lmX8_join : Cond.instanceMethod yX8_join ∈ WT := WT_of (List.mem_of_getElem? (i := 1572) (by decide +kernel)) rfl
set_option maxRecDepth 100000 in
theorem lcX8_isRound : Cond.code yX8_isRound cX8_isRound 4 (some .boolean) ∈ WT := WT_of (List.mem_of_getElem? (i := 1581) (by decide +kernel)) rfl
theorem lkX8_isRound : LK yX8_isRound cX8_isRound 4 0 (some .boolean) := ⟨lcX8_isRound, liX8, ⟨by decide +kernel, by decide +kernel⟩, by decide +kernel⟩
set_option maxRecDepth 100000 in
theorem lmX8_isRound : Cond.instanceMethod yX8_isRound ∈ WT := WT_of (List.mem_of_getElem? (i := 1580) (by decide +kernel)) rfl
set_option maxRecDepth 100000 in
theorem lcX8_isFree : Cond.code yX8_isFree cX8_isFree 4 (some .boolean) ∈ WT := WT_of (List.mem_of_getElem? (i := 1585) (by decide +kernel)) rfl
theorem lkX8_isFree : LK yX8_isFree cX8_isFree 4 2 (some .boolean) := ⟨lcX8_isFree, liX8, ⟨by decide +kernel, by decide +kernel⟩, by decide +kernel⟩
set_option maxRecDepth 100000 in
theorem lmX8_isFree : Cond.instanceMethod yX8_isFree ∈ WT := WT_of (List.mem_of_getElem? (i := 1584) (by decide +kernel)) rfl
set_option maxRecDepth 100000 in
theorem lcX8_whole : Cond.code yX8_whole cX8_whole 6 (some (.array .int)) ∈ WT := WT_of (List.mem_of_getElem? (i := 1623) (by decide +kernel)) rfl
theorem lkX8_whole : LK yX8_whole cX8_whole 6 1 (some (.array .int)) := ⟨lcX8_whole, liX8, ⟨by decide +kernel, by decide +kernel⟩, by decide +kernel⟩
set_option maxRecDepth 100000 in
theorem lmX8_whole : Cond.instanceMethod yX8_whole ∈ WT := WT_of (List.mem_of_getElem? (i := 1622) (by decide +kernel)) rfl
set_option maxRecDepth 100000 in
theorem lcX8_answer : Cond.code yX8_answer cX8_answer 4 (some (.array (.array .int))) ∈ WT := WT_of (List.mem_of_getElem? (i := 1618) (by decide +kernel)) rfl
theorem lkX8_answer : LK yX8_answer cX8_answer 4 0 (some (.array (.array .int))) := ⟨lcX8_answer, liX8, ⟨by decide +kernel, by decide +kernel⟩, by decide +kernel⟩
set_option maxRecDepth 100000 in
theorem lmX8_answer : Cond.instanceMethod yX8_answer ∈ WT := WT_of (List.mem_of_getElem? (i := 1616) (by decide +kernel)) rfl
set_option maxRecDepth 100000 in
theorem lvX8_answer : Cond.selects yX8_answer.cls yX8_answer yX8_answer ∈ WT := WT_of (List.mem_of_getElem? (i := 1617) (by decide +kernel)) rfl
set_option maxRecDepth 100000 in
theorem lcX9_init : Cond.code yX9_init cX9_init 3 none ∈ WT := WT_of (List.mem_of_getElem? (i := 1508) (by decide +kernel)) rfl
theorem lkX9_init : LK yX9_init cX9_init 3 2 none := ⟨lcX9_init, liX9, ⟨by decide +kernel, by decide +kernel⟩, by decide +kernel⟩
set_option maxRecDepth 100000 in
theorem lmX9_init : Cond.instanceMethod yX9_init ∈ WT := WT_of (List.mem_of_getElem? (i := 1507) (by decide +kernel)) rfl
set_option maxRecDepth 100000 in
theorem lcX9_deep : Cond.code yX9_deep cX9_deep 3 (some (.array .int)) ∈ WT := WT_of (List.mem_of_getElem? (i := 1518) (by decide +kernel)) rfl
theorem lkX9_deep : LK yX9_deep cX9_deep 3 1 (some (.array .int)) := ⟨lcX9_deep, liX9, ⟨by decide +kernel, by decide +kernel⟩, by decide +kernel⟩
set_option maxRecDepth 100000 in
theorem lmX9_deep : Cond.instanceMethod yX9_deep ∈ WT := WT_of (List.mem_of_getElem? (i := 1517) (by decide +kernel)) rfl
set_option maxRecDepth 100000 in
theorem lcX9_isWithin : Cond.code yX9_isWithin cX9_isWithin 6 (some .boolean) ∈ WT := WT_of (List.mem_of_getElem? (i := 1527) (by decide +kernel)) rfl
theorem lkX9_isWithin : LK yX9_isWithin cX9_isWithin 6 2 (some .boolean) := ⟨lcX9_isWithin, liX9, ⟨by decide +kernel, by decide +kernel⟩, by decide +kernel⟩
set_option maxRecDepth 100000 in
theorem lmX9_isWithin : Cond.instanceMethod yX9_isWithin ∈ WT := WT_of (List.mem_of_getElem? (i := 1526) (by decide +kernel)) rfl
set_option maxRecDepth 100000 in
theorem lcX9_go : Cond.code yX9_go cX9_go 7 none ∈ WT := WT_of (List.mem_of_getElem? (i := 1514) (by decide +kernel)) rfl
theorem lkX9_go : LK yX9_go cX9_go 7 2 none := ⟨lcX9_go, liX9, ⟨by decide +kernel, by decide +kernel⟩, by decide +kernel⟩
set_option maxRecDepth 100000 in
theorem lmX9_go : Cond.instanceMethod yX9_go ∈ WT := WT_of (List.mem_of_getElem? (i := 1513) (by decide +kernel)) rfl
set_option maxRecDepth 100000 in
theorem lcX9_bind : Cond.code yX9_bind cX9_bind 3 none ∈ WT := WT_of (List.mem_of_getElem? (i := 1523) (by decide +kernel)) rfl
theorem lkX9_bind : LK yX9_bind cX9_bind 3 2 none := ⟨lcX9_bind, liX9, ⟨by decide +kernel, by decide +kernel⟩, by decide +kernel⟩
set_option maxRecDepth 100000 in
theorem lmX9_bind : Cond.instanceMethod yX9_bind ∈ WT := WT_of (List.mem_of_getElem? (i := 1522) (by decide +kernel)) rfl
set_option maxRecDepth 100000 in
theorem lcX9_goOn : Cond.code yX9_goOn cX9_goOn 6 none ∈ WT := WT_of (List.mem_of_getElem? (i := 1532) (by decide +kernel)) rfl
theorem lkX9_goOn : LK yX9_goOn cX9_goOn 6 2 none := ⟨lcX9_goOn, liX9, ⟨by decide +kernel, by decide +kernel⟩, by decide +kernel⟩
set_option maxRecDepth 100000 in
theorem lmX9_goOn : Cond.instanceMethod yX9_goOn ∈ WT := WT_of (List.mem_of_getElem? (i := 1531) (by decide +kernel)) rfl
set_option maxRecDepth 100000 in
theorem lcX9_whole : Cond.code yX9_whole cX9_whole 4 (some (.array .int)) ∈ WT := WT_of (List.mem_of_getElem? (i := 1612) (by decide +kernel)) rfl
theorem lkX9_whole : LK yX9_whole cX9_whole 4 1 (some (.array .int)) := ⟨lcX9_whole, liX9, ⟨by decide +kernel, by decide +kernel⟩, by decide +kernel⟩
set_option maxRecDepth 100000 in
theorem lmX9_whole : Cond.instanceMethod yX9_whole ∈ WT := WT_of (List.mem_of_getElem? (i := 1610) (by decide +kernel)) rfl
set_option maxRecDepth 100000 in
theorem lvX9_whole : Cond.selects yX9_whole.cls yX9_whole yX9_whole ∈ WT := WT_of (List.mem_of_getElem? (i := 1611) (by decide +kernel)) rfl
set_option maxRecDepth 100000 in
theorem lcX9_answer : Cond.code yX9_answer cX9_answer 3 (some (.array (.array .int))) ∈ WT := WT_of (List.mem_of_getElem? (i := 1607) (by decide +kernel)) rfl
theorem lkX9_answer : LK yX9_answer cX9_answer 3 0 (some (.array (.array .int))) := ⟨lcX9_answer, liX9, ⟨by decide +kernel, by decide +kernel⟩, by decide +kernel⟩
set_option maxRecDepth 100000 in
theorem lmX9_answer : Cond.instanceMethod yX9_answer ∈ WT := WT_of (List.mem_of_getElem? (i := 1605) (by decide +kernel)) rfl
set_option maxRecDepth 100000 in
theorem lvX9_answer : Cond.selects yX9_answer.cls yX9_answer yX9_answer ∈ WT := WT_of (List.mem_of_getElem? (i := 1606) (by decide +kernel)) rfl
set_option maxRecDepth 100000 in
theorem lcX10_init : Cond.code yX10_init cX10_init 2 none ∈ WT := WT_of (List.mem_of_getElem? (i := 1322) (by decide +kernel)) rfl
theorem lkX10_init : LK yX10_init cX10_init 2 0 none := ⟨lcX10_init, liX10, ⟨by decide +kernel, by decide +kernel⟩, by decide +kernel⟩
set_option maxRecDepth 100000 in
theorem lmX10_init : Cond.instanceMethod yX10_init ∈ WT := WT_of (List.mem_of_getElem? (i := 1321) (by decide +kernel)) rfl
set_option maxRecDepth 100000 in
theorem lcX10_row : Cond.code yX10_row cX10_row 1 (some (.array .int)) ∈ WT := WT_of (List.mem_of_getElem? (i := 1330) (by decide +kernel)) rfl
theorem lkX10_row : LK yX10_row cX10_row 1 1 (some (.array .int)) := ⟨lcX10_row, liX10, ⟨by decide +kernel, by decide +kernel⟩, by decide +kernel⟩
set_option maxRecDepth 100000 in
theorem lsX10_row : Cond.static yX10_row ∈ WT := WT_of (List.mem_of_getElem? (i := 1329) (by decide +kernel)) rfl
set_option maxRecDepth 100000 in
theorem lcX10_none : Cond.code yX10_none cX10_none 2 (some (.array (.array .int))) ∈ WT := WT_of (List.mem_of_getElem? (i := 1333) (by decide +kernel)) rfl
theorem lkX10_none : LK yX10_none cX10_none 2 0 (some (.array (.array .int))) := ⟨lcX10_none, liX10, ⟨by decide +kernel, by decide +kernel⟩, by decide +kernel⟩
set_option maxRecDepth 100000 in
theorem lsX10_none : Cond.static yX10_none ∈ WT := WT_of (List.mem_of_getElem? (i := 1332) (by decide +kernel)) rfl
set_option maxRecDepth 100000 in
theorem lcX10_parts : Cond.code yX10_parts cX10_parts 1 (some .int) ∈ WT := WT_of (List.mem_of_getElem? (i := 1377) (by decide +kernel)) rfl
theorem lkX10_parts : LK yX10_parts cX10_parts 1 1 (some .int) := ⟨lcX10_parts, liX10, ⟨by decide +kernel, by decide +kernel⟩, by decide +kernel⟩
set_option maxRecDepth 100000 in
theorem lsX10_parts : Cond.static yX10_parts ∈ WT := WT_of (List.mem_of_getElem? (i := 1376) (by decide +kernel)) rfl
set_option maxRecDepth 100000 in
theorem lcX10_end : Cond.code yX10_end cX10_end 4 (some .int) ∈ WT := WT_of (List.mem_of_getElem? (i := 1421) (by decide +kernel)) rfl
theorem lkX10_end : LK yX10_end cX10_end 4 2 (some .int) := ⟨lcX10_end, liX10, ⟨by decide +kernel, by decide +kernel⟩, by decide +kernel⟩
set_option maxRecDepth 100000 in
theorem lsX10_end : Cond.static yX10_end ∈ WT := WT_of (List.mem_of_getElem? (i := 1420) (by decide +kernel)) rfl
set_option maxRecDepth 100000 in
theorem lcX10_piece : Cond.code yX10_piece cX10_piece 5 (some (.array .int)) ∈ WT := WT_of (List.mem_of_getElem? (i := 1424) (by decide +kernel)) rfl
theorem lkX10_piece : LK yX10_piece cX10_piece 5 3 (some (.array .int)) := ⟨lcX10_piece, liX10, ⟨by decide +kernel, by decide +kernel⟩, by decide +kernel⟩
set_option maxRecDepth 100000 in
theorem lsX10_piece : Cond.static yX10_piece ∈ WT := WT_of (List.mem_of_getElem? (i := 1423) (by decide +kernel)) rfl
set_option maxRecDepth 100000 in
theorem lcX10_at : Cond.code yX10_at cX10_at 2 (some (.array .int)) ∈ WT := WT_of (List.mem_of_getElem? (i := 1418) (by decide +kernel)) rfl
theorem lkX10_at : LK yX10_at cX10_at 2 2 (some (.array .int)) := ⟨lcX10_at, liX10, ⟨by decide +kernel, by decide +kernel⟩, by decide +kernel⟩
set_option maxRecDepth 100000 in
theorem lsX10_at : Cond.static yX10_at ∈ WT := WT_of (List.mem_of_getElem? (i := 1417) (by decide +kernel)) rfl
set_option maxRecDepth 100000 in
theorem lcX10_joined : Cond.code yX10_joined cX10_joined 4 (some (.array .int)) ∈ WT := WT_of (List.mem_of_getElem? (i := 1380) (by decide +kernel)) rfl
theorem lkX10_joined : LK yX10_joined cX10_joined 4 2 (some (.array .int)) := ⟨lcX10_joined, liX10, ⟨by decide +kernel, by decide +kernel⟩, by decide +kernel⟩
set_option maxRecDepth 100000 in
theorem lsX10_joined : Cond.static yX10_joined ∈ WT := WT_of (List.mem_of_getElem? (i := 1379) (by decide +kernel)) rfl
set_option maxRecDepth 100000 in
theorem lcX10_same : Cond.code yX10_same cX10_same 2 (some .boolean) ∈ WT := WT_of (List.mem_of_getElem? (i := 1403) (by decide +kernel)) rfl
theorem lkX10_same : LK yX10_same cX10_same 2 2 (some .boolean) := ⟨lcX10_same, liX10, ⟨by decide +kernel, by decide +kernel⟩, by decide +kernel⟩
set_option maxRecDepth 100000 in
theorem lsX10_same : Cond.static yX10_same ∈ WT := WT_of (List.mem_of_getElem? (i := 1402) (by decide +kernel)) rfl
set_option maxRecDepth 100000 in
theorem lcX10_isAt : Cond.code yX10_isAt cX10_isAt 6 (some .boolean) ∈ WT := WT_of (List.mem_of_getElem? (i := 1568) (by decide +kernel)) rfl
theorem lkX10_isAt : LK yX10_isAt cX10_isAt 6 4 (some .boolean) := ⟨lcX10_isAt, liX10, ⟨by decide +kernel, by decide +kernel⟩, by decide +kernel⟩
set_option maxRecDepth 100000 in
theorem lsX10_isAt : Cond.static yX10_isAt ∈ WT := WT_of (List.mem_of_getElem? (i := 1567) (by decide +kernel)) rfl
set_option maxRecDepth 100000 in
theorem lcX10_first : Cond.code yX10_first cX10_first 3 (some .int) ∈ WT := WT_of (List.mem_of_getElem? (i := 1406) (by decide +kernel)) rfl
theorem lkX10_first : LK yX10_first cX10_first 3 2 (some .int) := ⟨lcX10_first, liX10, ⟨by decide +kernel, by decide +kernel⟩, by decide +kernel⟩
set_option maxRecDepth 100000 in
theorem lsX10_first : Cond.static yX10_first ∈ WT := WT_of (List.mem_of_getElem? (i := 1405) (by decide +kernel)) rfl
set_option maxRecDepth 100000 in
theorem lcX10_used : Cond.code yX10_used cX10_used 14 (some (.array .int)) ∈ WT := WT_of (List.mem_of_getElem? (i := 1438) (by decide +kernel)) rfl
theorem lkX10_used : LK yX10_used cX10_used 14 2 (some (.array .int)) := ⟨lcX10_used, liX10, ⟨by decide +kernel, by decide +kernel⟩, by decide +kernel⟩
set_option maxRecDepth 100000 in
theorem lsX10_used : Cond.static yX10_used ∈ WT := WT_of (List.mem_of_getElem? (i := 1437) (by decide +kernel)) rfl
set_option maxRecDepth 100000 in
theorem lcX10_movedBy : Cond.code yX10_movedBy cX10_movedBy 3 (some .int) ∈ WT := WT_of (List.mem_of_getElem? (i := 1477) (by decide +kernel)) rfl
theorem lkX10_movedBy : LK yX10_movedBy cX10_movedBy 3 1 (some .int) := ⟨lcX10_movedBy, liX10, ⟨by decide +kernel, by decide +kernel⟩, by decide +kernel⟩
set_option maxRecDepth 100000 in
theorem lsX10_movedBy : Cond.static yX10_movedBy ∈ WT := WT_of (List.mem_of_getElem? (i := 1476) (by decide +kernel)) rfl
set_option maxRecDepth 100000 in
theorem lcX10_ones : Cond.code yX10_ones cX10_ones 1 (some .int) ∈ WT := WT_of (List.mem_of_getElem? (i := 1448) (by decide +kernel)) rfl
theorem lkX10_ones : LK yX10_ones cX10_ones 1 1 (some .int) := ⟨lcX10_ones, liX10, ⟨by decide +kernel, by decide +kernel⟩, by decide +kernel⟩
set_option maxRecDepth 100000 in
theorem lsX10_ones : Cond.static yX10_ones ∈ WT := WT_of (List.mem_of_getElem? (i := 1447) (by decide +kernel)) rfl
set_option maxRecDepth 100000 in
theorem lcX10_namesOf : Cond.code yX10_namesOf cX10_namesOf 6 (some .int) ∈ WT := WT_of (List.mem_of_getElem? (i := 1445) (by decide +kernel)) rfl
theorem lkX10_namesOf : LK yX10_namesOf cX10_namesOf 6 1 (some .int) := ⟨lcX10_namesOf, liX10, ⟨by decide +kernel, by decide +kernel⟩, by decide +kernel⟩
set_option maxRecDepth 100000 in
theorem lsX10_namesOf : Cond.static yX10_namesOf ∈ WT := WT_of (List.mem_of_getElem? (i := 1444) (by decide +kernel)) rfl
set_option maxRecDepth 100000 in
theorem lcX10_depthOf : Cond.code yX10_depthOf cX10_depthOf 5 (some .int) ∈ WT := WT_of (List.mem_of_getElem? (i := 1660) (by decide +kernel)) rfl
theorem lkX10_depthOf : LK yX10_depthOf cX10_depthOf 5 2 (some .int) := ⟨lcX10_depthOf, liX10, ⟨by decide +kernel, by decide +kernel⟩, by decide +kernel⟩
set_option maxRecDepth 100000 in
theorem lsX10_depthOf : Cond.static yX10_depthOf ∈ WT := WT_of (List.mem_of_getElem? (i := 1659) (by decide +kernel)) rfl
set_option maxRecDepth 100000 in
theorem lcX10_sharedOf : Cond.code yX10_sharedOf cX10_sharedOf 4 (some .int) ∈ WT := WT_of (List.mem_of_getElem? (i := 1670) (by decide +kernel)) rfl
theorem lkX10_sharedOf : LK yX10_sharedOf cX10_sharedOf 4 1 (some .int) := ⟨lcX10_sharedOf, liX10, ⟨by decide +kernel, by decide +kernel⟩, by decide +kernel⟩
set_option maxRecDepth 100000 in
theorem lsX10_sharedOf : Cond.static yX10_sharedOf ∈ WT := WT_of (List.mem_of_getElem? (i := 1669) (by decide +kernel)) rfl
set_option maxRecDepth 100000 in
theorem lcX10_isMet : Cond.code yX10_isMet cX10_isMet 5 (some .boolean) ∈ WT := WT_of (List.mem_of_getElem? (i := 1673) (by decide +kernel)) rfl
theorem lkX10_isMet : LK yX10_isMet cX10_isMet 5 3 (some .boolean) := ⟨lcX10_isMet, liX10, ⟨by decide +kernel, by decide +kernel⟩, by decide +kernel⟩
set_option maxRecDepth 100000 in
theorem lsX10_isMet : Cond.static yX10_isMet ∈ WT := WT_of (List.mem_of_getElem? (i := 1672) (by decide +kernel)) rfl
set_option maxRecDepth 100000 in
theorem lcX10_plainOf : Cond.code yX10_plainOf cX10_plainOf 5 (some (.array .int)) ∈ WT := WT_of (List.mem_of_getElem? (i := 1456) (by decide +kernel)) rfl
theorem lkX10_plainOf : LK yX10_plainOf cX10_plainOf 5 1 (some (.array .int)) := ⟨lcX10_plainOf, liX10, ⟨by decide +kernel, by decide +kernel⟩, by decide +kernel⟩
set_option maxRecDepth 100000 in
theorem lsX10_plainOf : Cond.static yX10_plainOf ∈ WT := WT_of (List.mem_of_getElem? (i := 1455) (by decide +kernel)) rfl
set_option maxRecDepth 100000 in
theorem lcX10_commonOf : Cond.code yX10_commonOf cX10_commonOf 11 (some (.array .int)) ∈ WT := WT_of (List.mem_of_getElem? (i := 1470) (by decide +kernel)) rfl
theorem lkX10_commonOf : LK yX10_commonOf cX10_commonOf 11 2 (some (.array .int)) := ⟨lcX10_commonOf, liX10, ⟨by decide +kernel, by decide +kernel⟩, by decide +kernel⟩
set_option maxRecDepth 100000 in
theorem lsX10_commonOf : Cond.static yX10_commonOf ∈ WT := WT_of (List.mem_of_getElem? (i := 1469) (by decide +kernel)) rfl
set_option maxRecDepth 100000 in
theorem lcX10_matched : Cond.code yX10_matched cX10_matched 9 (some (.array (.array .int))) ∈ WT := WT_of (List.mem_of_getElem? (i := 1633) (by decide +kernel)) rfl
theorem lkX10_matched : LK yX10_matched cX10_matched 9 2 (some (.array (.array .int))) := ⟨lcX10_matched, liX10, ⟨by decide +kernel, by decide +kernel⟩, by decide +kernel⟩
set_option maxRecDepth 100000 in
theorem lsX10_matched : Cond.static yX10_matched ∈ WT := WT_of (List.mem_of_getElem? (i := 1632) (by decide +kernel)) rfl
set_option maxRecDepth 100000 in
theorem lcX10_isSlot : Cond.code yX10_isSlot cX10_isSlot 1 (some .boolean) ∈ WT := WT_of (List.mem_of_getElem? (i := 1359) (by decide +kernel)) rfl
theorem lkX10_isSlot : LK yX10_isSlot cX10_isSlot 1 1 (some .boolean) := ⟨lcX10_isSlot, liX10, ⟨by decide +kernel, by decide +kernel⟩, by decide +kernel⟩
set_option maxRecDepth 100000 in
theorem lsX10_isSlot : Cond.static yX10_isSlot ∈ WT := WT_of (List.mem_of_getElem? (i := 1358) (by decide +kernel)) rfl
set_option maxRecDepth 100000 in
theorem lcX10_isAnswer : Cond.code yX10_isAnswer cX10_isAnswer 1 (some .boolean) ∈ WT := WT_of (List.mem_of_getElem? (i := 1463) (by decide +kernel)) rfl
theorem lkX10_isAnswer : LK yX10_isAnswer cX10_isAnswer 1 1 (some .boolean) := ⟨lcX10_isAnswer, liX10, ⟨by decide +kernel, by decide +kernel⟩, by decide +kernel⟩
set_option maxRecDepth 100000 in
theorem lsX10_isAnswer : Cond.static yX10_isAnswer ∈ WT := WT_of (List.mem_of_getElem? (i := 1462) (by decide +kernel)) rfl
set_option maxRecDepth 100000 in
theorem lcX10_isName : Cond.code yX10_isName cX10_isName 1 (some .boolean) ∈ WT := WT_of (List.mem_of_getElem? (i := 1362) (by decide +kernel)) rfl
theorem lkX10_isName : LK yX10_isName cX10_isName 1 1 (some .boolean) := ⟨lcX10_isName, liX10, ⟨by decide +kernel, by decide +kernel⟩, by decide +kernel⟩
set_option maxRecDepth 100000 in
theorem lsX10_isName : Cond.static yX10_isName ∈ WT := WT_of (List.mem_of_getElem? (i := 1361) (by decide +kernel)) rfl
set_option maxRecDepth 100000 in
theorem lcX10_isThrown : Cond.code yX10_isThrown cX10_isThrown 3 (some .boolean) ∈ WT := WT_of (List.mem_of_getElem? (i := 1366) (by decide +kernel)) rfl
theorem lkX10_isThrown : LK yX10_isThrown cX10_isThrown 3 2 (some .boolean) := ⟨lcX10_isThrown, liX10, ⟨by decide +kernel, by decide +kernel⟩, by decide +kernel⟩
set_option maxRecDepth 100000 in
theorem lmX10_isThrown : Cond.instanceMethod yX10_isThrown ∈ WT := WT_of (List.mem_of_getElem? (i := 1365) (by decide +kernel)) rfl
set_option maxRecDepth 100000 in
theorem lcX10_isThrown_ : Cond.code yX10_isThrown_ cX10_isThrown_ 2 (some .boolean) ∈ WT := WT_of (List.mem_of_getElem? (i := 1396) (by decide +kernel)) rfl
theorem lkX10_isThrown_ : LK yX10_isThrown_ cX10_isThrown_ 2 1 (some .boolean) := ⟨lcX10_isThrown_, liX10, ⟨by decide +kernel, by decide +kernel⟩, by decide +kernel⟩
set_option maxRecDepth 100000 in
theorem lmX10_isThrown_ : Cond.instanceMethod yX10_isThrown_ ∈ WT := WT_of (List.mem_of_getElem? (i := 1395) (by decide +kernel)) rfl
set_option maxRecDepth 100000 in
theorem lcX10_done : Cond.code yX10_done cX10_done 2 (some .int) ∈ WT := WT_of (List.mem_of_getElem? (i := 1370) (by decide +kernel)) rfl
theorem lkX10_done : LK yX10_done cX10_done 2 1 (some .int) := ⟨lcX10_done, liX10, ⟨by decide +kernel, by decide +kernel⟩, by decide +kernel⟩
set_option maxRecDepth 100000 in
theorem lmX10_done : Cond.instanceMethod yX10_done ∈ WT := WT_of (List.mem_of_getElem? (i := 1369) (by decide +kernel)) rfl
set_option maxRecDepth 100000 in
theorem lcX10_no : Cond.code yX10_no cX10_no 1 (some .int) ∈ WT := WT_of (List.mem_of_getElem? (i := 1388) (by decide +kernel)) rfl
theorem lkX10_no : LK yX10_no cX10_no 1 0 (some .int) := ⟨lcX10_no, liX10, ⟨by decide +kernel, by decide +kernel⟩, by decide +kernel⟩
set_option maxRecDepth 100000 in
theorem lmX10_no : Cond.instanceMethod yX10_no ∈ WT := WT_of (List.mem_of_getElem? (i := 1387) (by decide +kernel)) rfl
set_option maxRecDepth 100000 in
theorem lcX10_give : Cond.code yX10_give cX10_give 3 (some .int) ∈ WT := WT_of (List.mem_of_getElem? (i := 1384) (by decide +kernel)) rfl
theorem lkX10_give : LK yX10_give cX10_give 3 2 (some .int) := ⟨lcX10_give, liX10, ⟨by decide +kernel, by decide +kernel⟩, by decide +kernel⟩
set_option maxRecDepth 100000 in
theorem lmX10_give : Cond.instanceMethod yX10_give ∈ WT := WT_of (List.mem_of_getElem? (i := 1383) (by decide +kernel)) rfl
set_option maxRecDepth 100000 in
theorem lcX10_isPlace : Cond.code yX10_isPlace cX10_isPlace 3 (some .boolean) ∈ WT := WT_of (List.mem_of_getElem? (i := 1415) (by decide +kernel)) rfl
theorem lkX10_isPlace : LK yX10_isPlace cX10_isPlace 3 2 (some .boolean) := ⟨lcX10_isPlace, liX10, ⟨by decide +kernel, by decide +kernel⟩, by decide +kernel⟩
set_option maxRecDepth 100000 in
theorem lmX10_isPlace : Cond.instanceMethod yX10_isPlace ∈ WT := WT_of (List.mem_of_getElem? (i := 1414) (by decide +kernel)) rfl
set_option maxRecDepth 100000 in
theorem lcX10_name : Cond.code yX10_name cX10_name 4 (some .int) ∈ WT := WT_of (List.mem_of_getElem? (i := 1356) (by decide +kernel)) rfl
theorem lkX10_name : LK yX10_name cX10_name 4 2 (some .int) := ⟨lcX10_name, liX10, ⟨by decide +kernel, by decide +kernel⟩, by decide +kernel⟩
set_option maxRecDepth 100000 in
theorem lmX10_name : Cond.instanceMethod yX10_name ∈ WT := WT_of (List.mem_of_getElem? (i := 1354) (by decide +kernel)) rfl
set_option maxRecDepth 100000 in
theorem lvX10_name : Cond.selects yX10_name.cls yX10_name yX10_name ∈ WT := WT_of (List.mem_of_getElem? (i := 1355) (by decide +kernel)) rfl
set_option maxRecDepth 100000 in
theorem lcX10_head : Cond.code yX10_head cX10_head 9 (some .int) ∈ WT := WT_of (List.mem_of_getElem? (i := 1374) (by decide +kernel)) rfl
theorem lkX10_head : LK yX10_head cX10_head 9 5 (some .int) := ⟨lcX10_head, liX10, ⟨by decide +kernel, by decide +kernel⟩, by decide +kernel⟩
set_option maxRecDepth 100000 in
theorem lmX10_head : Cond.instanceMethod yX10_head ∈ WT := WT_of (List.mem_of_getElem? (i := 1372) (by decide +kernel)) rfl
set_option maxRecDepth 100000 in
theorem lvX10_head : Cond.selects yX10_head.cls yX10_head yX10_head ∈ WT := WT_of (List.mem_of_getElem? (i := 1373) (by decide +kernel)) rfl
set_option maxRecDepth 100000 in
theorem lcX10_copy : Cond.code yX10_copy cX10_copy 3 (some .int) ∈ WT := WT_of (List.mem_of_getElem? (i := 1392) (by decide +kernel)) rfl
theorem lkX10_copy : LK yX10_copy cX10_copy 3 2 (some .int) := ⟨lcX10_copy, liX10, ⟨by decide +kernel, by decide +kernel⟩, by decide +kernel⟩
set_option maxRecDepth 100000 in
theorem lmX10_copy : Cond.instanceMethod yX10_copy ∈ WT := WT_of (List.mem_of_getElem? (i := 1390) (by decide +kernel)) rfl
set_option maxRecDepth 100000 in
theorem lvX10_copy : Cond.selects yX10_copy.cls yX10_copy yX10_copy ∈ WT := WT_of (List.mem_of_getElem? (i := 1391) (by decide +kernel)) rfl
set_option maxRecDepth 100000 in
theorem lcX10_swap : Cond.code yX10_swap cX10_swap 5 (some .int) ∈ WT := WT_of (List.mem_of_getElem? (i := 1400) (by decide +kernel)) rfl
theorem lkX10_swap : LK yX10_swap cX10_swap 5 2 (some .int) := ⟨lcX10_swap, liX10, ⟨by decide +kernel, by decide +kernel⟩, by decide +kernel⟩
set_option maxRecDepth 100000 in
theorem lmX10_swap : Cond.instanceMethod yX10_swap ∈ WT := WT_of (List.mem_of_getElem? (i := 1398) (by decide +kernel)) rfl
set_option maxRecDepth 100000 in
theorem lvX10_swap : Cond.selects yX10_swap.cls yX10_swap yX10_swap ∈ WT := WT_of (List.mem_of_getElem? (i := 1399) (by decide +kernel)) rfl
set_option maxRecDepth 100000 in
theorem lcX10_part : Cond.code yX10_part cX10_part 4 (some .int) ∈ WT := WT_of (List.mem_of_getElem? (i := 1411) (by decide +kernel)) rfl
theorem lkX10_part : LK yX10_part cX10_part 4 3 (some .int) := ⟨lcX10_part, liX10, ⟨by decide +kernel, by decide +kernel⟩, by decide +kernel⟩
set_option maxRecDepth 100000 in
theorem lmX10_part : Cond.instanceMethod yX10_part ∈ WT := WT_of (List.mem_of_getElem? (i := 1409) (by decide +kernel)) rfl
set_option maxRecDepth 100000 in
theorem lvX10_part : Cond.selects yX10_part.cls yX10_part yX10_part ∈ WT := WT_of (List.mem_of_getElem? (i := 1410) (by decide +kernel)) rfl
set_option maxRecDepth 100000 in
theorem lcX10_graft : Cond.code yX10_graft cX10_graft 5 (some .int) ∈ WT := WT_of (List.mem_of_getElem? (i := 1428) (by decide +kernel)) rfl
theorem lkX10_graft : LK yX10_graft cX10_graft 5 3 (some .int) := ⟨lcX10_graft, liX10, ⟨by decide +kernel, by decide +kernel⟩, by decide +kernel⟩
set_option maxRecDepth 100000 in
theorem lmX10_graft : Cond.instanceMethod yX10_graft ∈ WT := WT_of (List.mem_of_getElem? (i := 1426) (by decide +kernel)) rfl
set_option maxRecDepth 100000 in
theorem lvX10_graft : Cond.selects yX10_graft.cls yX10_graft yX10_graft ∈ WT := WT_of (List.mem_of_getElem? (i := 1427) (by decide +kernel)) rfl
set_option maxRecDepth 100000 in
theorem lcX10_often : Cond.code yX10_often cX10_often 7 (some .int) ∈ WT := WT_of (List.mem_of_getElem? (i := 1435) (by decide +kernel)) rfl
theorem lkX10_often : LK yX10_often cX10_often 7 2 (some .int) := ⟨lcX10_often, liX10, ⟨by decide +kernel, by decide +kernel⟩, by decide +kernel⟩
set_option maxRecDepth 100000 in
theorem lsX10_often : Cond.static yX10_often ∈ WT := WT_of (List.mem_of_getElem? (i := 1434) (by decide +kernel)) rfl
set_option maxRecDepth 100000 in
theorem lcX10_put : Cond.code yX10_put cX10_put 7 (some .int) ∈ WT := WT_of (List.mem_of_getElem? (i := 1432) (by decide +kernel)) rfl
theorem lkX10_put : LK yX10_put cX10_put 7 3 (some .int) := ⟨lcX10_put, liX10, ⟨by decide +kernel, by decide +kernel⟩, by decide +kernel⟩
set_option maxRecDepth 100000 in
theorem lmX10_put : Cond.instanceMethod yX10_put ∈ WT := WT_of (List.mem_of_getElem? (i := 1430) (by decide +kernel)) rfl
set_option maxRecDepth 100000 in
theorem lvX10_put : Cond.selects yX10_put.cls yX10_put yX10_put ∈ WT := WT_of (List.mem_of_getElem? (i := 1431) (by decide +kernel)) rfl
set_option maxRecDepth 100000 in
theorem lcX10_shift : Cond.code yX10_shift cX10_shift 5 (some .int) ∈ WT := WT_of (List.mem_of_getElem? (i := 1442) (by decide +kernel)) rfl
theorem lkX10_shift : LK yX10_shift cX10_shift 5 2 (some .int) := ⟨lcX10_shift, liX10, ⟨by decide +kernel, by decide +kernel⟩, by decide +kernel⟩
set_option maxRecDepth 100000 in
theorem lmX10_shift : Cond.instanceMethod yX10_shift ∈ WT := WT_of (List.mem_of_getElem? (i := 1440) (by decide +kernel)) rfl
set_option maxRecDepth 100000 in
theorem lvX10_shift : Cond.selects yX10_shift.cls yX10_shift yX10_shift ∈ WT := WT_of (List.mem_of_getElem? (i := 1441) (by decide +kernel)) rfl
set_option maxRecDepth 100000 in
theorem lcX10_plain : Cond.code yX10_plain cX10_plain 2 (some .int) ∈ WT := WT_of (List.mem_of_getElem? (i := 1453) (by decide +kernel)) rfl
theorem lkX10_plain : LK yX10_plain cX10_plain 2 1 (some .int) := ⟨lcX10_plain, liX10, ⟨by decide +kernel, by decide +kernel⟩, by decide +kernel⟩
set_option maxRecDepth 100000 in
theorem lmX10_plain : Cond.instanceMethod yX10_plain ∈ WT := WT_of (List.mem_of_getElem? (i := 1451) (by decide +kernel)) rfl
set_option maxRecDepth 100000 in
theorem lvX10_plain : Cond.selects yX10_plain.cls yX10_plain yX10_plain ∈ WT := WT_of (List.mem_of_getElem? (i := 1452) (by decide +kernel)) rfl
set_option maxRecDepth 100000 in
theorem lcX10_use : Cond.code yX10_use cX10_use 4 (some .int) ∈ WT := WT_of (List.mem_of_getElem? (i := 1460) (by decide +kernel)) rfl
theorem lkX10_use : LK yX10_use cX10_use 4 3 (some .int) := ⟨lcX10_use, liX10, ⟨by decide +kernel, by decide +kernel⟩, by decide +kernel⟩
set_option maxRecDepth 100000 in
theorem lmX10_use : Cond.instanceMethod yX10_use ∈ WT := WT_of (List.mem_of_getElem? (i := 1458) (by decide +kernel)) rfl
set_option maxRecDepth 100000 in
theorem lvX10_use : Cond.selects yX10_use.cls yX10_use yX10_use ∈ WT := WT_of (List.mem_of_getElem? (i := 1459) (by decide +kernel)) rfl
set_option maxRecDepth 100000 in
theorem lcX10_common : Cond.code yX10_common cX10_common 4 (some .int) ∈ WT := WT_of (List.mem_of_getElem? (i := 1467) (by decide +kernel)) rfl
theorem lkX10_common : LK yX10_common cX10_common 4 3 (some .int) := ⟨lcX10_common, liX10, ⟨by decide +kernel, by decide +kernel⟩, by decide +kernel⟩
set_option maxRecDepth 100000 in
theorem lmX10_common : Cond.instanceMethod yX10_common ∈ WT := WT_of (List.mem_of_getElem? (i := 1465) (by decide +kernel)) rfl
set_option maxRecDepth 100000 in
theorem lvX10_common : Cond.selects yX10_common.cls yX10_common yX10_common ∈ WT := WT_of (List.mem_of_getElem? (i := 1466) (by decide +kernel)) rfl
set_option maxRecDepth 100000 in
theorem lcX10_forget : Cond.code yX10_forget cX10_forget 3 (some .int) ∈ WT := WT_of (List.mem_of_getElem? (i := 1474) (by decide +kernel)) rfl
theorem lkX10_forget : LK yX10_forget cX10_forget 3 1 (some .int) := ⟨lcX10_forget, liX10, ⟨by decide +kernel, by decide +kernel⟩, by decide +kernel⟩
set_option maxRecDepth 100000 in
theorem lmX10_forget : Cond.instanceMethod yX10_forget ∈ WT := WT_of (List.mem_of_getElem? (i := 1472) (by decide +kernel)) rfl
set_option maxRecDepth 100000 in
theorem lvX10_forget : Cond.selects yX10_forget.cls yX10_forget yX10_forget ∈ WT := WT_of (List.mem_of_getElem? (i := 1473) (by decide +kernel)) rfl
set_option maxRecDepth 100000 in
theorem lcX10_tell : Cond.code yX10_tell cX10_tell 7 (some .int) ∈ WT := WT_of (List.mem_of_getElem? (i := 1481) (by decide +kernel)) rfl
theorem lkX10_tell : LK yX10_tell cX10_tell 7 3 (some .int) := ⟨lcX10_tell, liX10, ⟨by decide +kernel, by decide +kernel⟩, by decide +kernel⟩
set_option maxRecDepth 100000 in
theorem lmX10_tell : Cond.instanceMethod yX10_tell ∈ WT := WT_of (List.mem_of_getElem? (i := 1479) (by decide +kernel)) rfl
set_option maxRecDepth 100000 in
theorem lvX10_tell : Cond.selects yX10_tell.cls yX10_tell yX10_tell ∈ WT := WT_of (List.mem_of_getElem? (i := 1480) (by decide +kernel)) rfl
set_option maxRecDepth 100000 in
theorem lcX10_become : Cond.code yX10_become cX10_become 3 (some .int) ∈ WT := WT_of (List.mem_of_getElem? (i := 1489) (by decide +kernel)) rfl
theorem lkX10_become : LK yX10_become cX10_become 3 2 (some .int) := ⟨lcX10_become, liX10, ⟨by decide +kernel, by decide +kernel⟩, by decide +kernel⟩
set_option maxRecDepth 100000 in
theorem lmX10_become : Cond.instanceMethod yX10_become ∈ WT := WT_of (List.mem_of_getElem? (i := 1488) (by decide +kernel)) rfl
set_option maxRecDepth 100000 in
theorem lcX10_take : Cond.code yX10_take cX10_take 3 (some .int) ∈ WT := WT_of (List.mem_of_getElem? (i := 1485) (by decide +kernel)) rfl
theorem lkX10_take : LK yX10_take cX10_take 3 2 (some .int) := ⟨lcX10_take, liX10, ⟨by decide +kernel, by decide +kernel⟩, by decide +kernel⟩
set_option maxRecDepth 100000 in
theorem lmX10_take : Cond.instanceMethod yX10_take ∈ WT := WT_of (List.mem_of_getElem? (i := 1483) (by decide +kernel)) rfl
set_option maxRecDepth 100000 in
theorem lvX10_take : Cond.selects yX10_take.cls yX10_take yX10_take ∈ WT := WT_of (List.mem_of_getElem? (i := 1484) (by decide +kernel)) rfl
set_option maxRecDepth 100000 in
theorem lcX10_withBehind : Cond.code yX10_withBehind cX10_withBehind 4 (some (.array (.array .int))) ∈ WT := WT_of (List.mem_of_getElem? (i := 1496) (by decide +kernel)) rfl
theorem lkX10_withBehind : LK yX10_withBehind cX10_withBehind 4 2 (some (.array (.array .int))) := ⟨lcX10_withBehind, liX10, ⟨by decide +kernel, by decide +kernel⟩, by decide +kernel⟩
set_option maxRecDepth 100000 in
theorem lsX10_withBehind : Cond.static yX10_withBehind ∈ WT := WT_of (List.mem_of_getElem? (i := 1495) (by decide +kernel)) rfl
set_option maxRecDepth 100000 in
theorem lcX10_behind : Cond.code yX10_behind cX10_behind 9 (some .int) ∈ WT := WT_of (List.mem_of_getElem? (i := 1493) (by decide +kernel)) rfl
theorem lkX10_behind : LK yX10_behind cX10_behind 9 3 (some .int) := ⟨lcX10_behind, liX10, ⟨by decide +kernel, by decide +kernel⟩, by decide +kernel⟩
set_option maxRecDepth 100000 in
theorem lmX10_behind : Cond.instanceMethod yX10_behind ∈ WT := WT_of (List.mem_of_getElem? (i := 1491) (by decide +kernel)) rfl
set_option maxRecDepth 100000 in
theorem lvX10_behind : Cond.selects yX10_behind.cls yX10_behind yX10_behind ∈ WT := WT_of (List.mem_of_getElem? (i := 1492) (by decide +kernel)) rfl
set_option maxRecDepth 100000 in
theorem lcX10_alike : Cond.code yX10_alike cX10_alike 6 (some .int) ∈ WT := WT_of (List.mem_of_getElem? (i := 1500) (by decide +kernel)) rfl
theorem lkX10_alike : LK yX10_alike cX10_alike 6 4 (some .int) := ⟨lcX10_alike, liX10, ⟨by decide +kernel, by decide +kernel⟩, by decide +kernel⟩
set_option maxRecDepth 100000 in
theorem lmX10_alike : Cond.instanceMethod yX10_alike ∈ WT := WT_of (List.mem_of_getElem? (i := 1498) (by decide +kernel)) rfl
set_option maxRecDepth 100000 in
theorem lvX10_alike : Cond.selects yX10_alike.cls yX10_alike yX10_alike ∈ WT := WT_of (List.mem_of_getElem? (i := 1499) (by decide +kernel)) rfl
set_option maxRecDepth 100000 in
theorem lcX10_match : Cond.code yX10_match cX10_match 5 (some .int) ∈ WT := WT_of (List.mem_of_getElem? (i := 1630) (by decide +kernel)) rfl
theorem lkX10_match : LK yX10_match cX10_match 5 3 (some .int) := ⟨lcX10_match, liX10, ⟨by decide +kernel, by decide +kernel⟩, by decide +kernel⟩
set_option maxRecDepth 100000 in
theorem lmX10_match : Cond.instanceMethod yX10_match ∈ WT := WT_of (List.mem_of_getElem? (i := 1628) (by decide +kernel)) rfl
set_option maxRecDepth 100000 in
theorem lvX10_match : Cond.selects yX10_match.cls yX10_match yX10_match ∈ WT := WT_of (List.mem_of_getElem? (i := 1629) (by decide +kernel)) rfl
set_option maxRecDepth 100000 in
theorem lcX10_textOf : Cond.code yX10_textOf cX10_textOf 6 (some (.object "java/lang/String")) ∈ WT := WT_of (List.mem_of_getElem? (i := 1641) (by decide +kernel)) rfl
theorem lkX10_textOf : LK yX10_textOf cX10_textOf 6 2 (some (.object "java/lang/String")) := ⟨lcX10_textOf, liX10, ⟨by decide +kernel, by decide +kernel⟩, by decide +kernel⟩
set_option maxRecDepth 100000 in
theorem lsX10_textOf : Cond.static yX10_textOf ∈ WT := WT_of (List.mem_of_getElem? (i := 1640) (by decide +kernel)) rfl
set_option maxRecDepth 100000 in
theorem lcX10_text : Cond.code yX10_text cX10_text 2 (some (.object "java/lang/String")) ∈ WT := WT_of (List.mem_of_getElem? (i := 1637) (by decide +kernel)) rfl
theorem lkX10_text : LK yX10_text cX10_text 2 1 (some (.object "java/lang/String")) := ⟨lcX10_text, liX10, ⟨by decide +kernel, by decide +kernel⟩, by decide +kernel⟩
set_option maxRecDepth 100000 in
theorem lmX10_text : Cond.instanceMethod yX10_text ∈ WT := WT_of (List.mem_of_getElem? (i := 1635) (by decide +kernel)) rfl
set_option maxRecDepth 100000 in
theorem lvX10_text : Cond.selects yX10_text.cls yX10_text yX10_text ∈ WT := WT_of (List.mem_of_getElem? (i := 1636) (by decide +kernel)) rfl
set_option maxRecDepth 100000 in
theorem lcX10_size : Cond.code yX10_size cX10_size 2 (some .int) ∈ WT := WT_of (List.mem_of_getElem? (i := 1653) (by decide +kernel)) rfl
theorem lkX10_size : LK yX10_size cX10_size 2 1 (some .int) := ⟨lcX10_size, liX10, ⟨by decide +kernel, by decide +kernel⟩, by decide +kernel⟩
set_option maxRecDepth 100000 in
theorem lmX10_size : Cond.instanceMethod yX10_size ∈ WT := WT_of (List.mem_of_getElem? (i := 1651) (by decide +kernel)) rfl
set_option maxRecDepth 100000 in
theorem lvX10_size : Cond.selects yX10_size.cls yX10_size yX10_size ∈ WT := WT_of (List.mem_of_getElem? (i := 1652) (by decide +kernel)) rfl
set_option maxRecDepth 100000 in
theorem lcX10_depth : Cond.code yX10_depth cX10_depth 2 (some .int) ∈ WT := WT_of (List.mem_of_getElem? (i := 1657) (by decide +kernel)) rfl
theorem lkX10_depth : LK yX10_depth cX10_depth 2 1 (some .int) := ⟨lcX10_depth, liX10, ⟨by decide +kernel, by decide +kernel⟩, by decide +kernel⟩
set_option maxRecDepth 100000 in
theorem lmX10_depth : Cond.instanceMethod yX10_depth ∈ WT := WT_of (List.mem_of_getElem? (i := 1655) (by decide +kernel)) rfl
set_option maxRecDepth 100000 in
theorem lvX10_depth : Cond.selects yX10_depth.cls yX10_depth yX10_depth ∈ WT := WT_of (List.mem_of_getElem? (i := 1656) (by decide +kernel)) rfl
set_option maxRecDepth 100000 in
theorem lcX10_sharedOf_ : Cond.code yX10_sharedOf_ cX10_sharedOf_ 1 (some .int) ∈ WT := WT_of (List.mem_of_getElem? (i := 1667) (by decide +kernel)) rfl
theorem lkX10_sharedOf_ : LK yX10_sharedOf_ cX10_sharedOf_ 1 1 (some .int) := ⟨lcX10_sharedOf_, liX10, ⟨by decide +kernel, by decide +kernel⟩, by decide +kernel⟩
set_option maxRecDepth 100000 in
theorem lsX10_sharedOf_ : Cond.static yX10_sharedOf_ ∈ WT := WT_of (List.mem_of_getElem? (i := 1666) (by decide +kernel)) rfl
set_option maxRecDepth 100000 in
theorem lcX10_shared : Cond.code yX10_shared cX10_shared 2 (some .int) ∈ WT := WT_of (List.mem_of_getElem? (i := 1664) (by decide +kernel)) rfl
theorem lkX10_shared : LK yX10_shared cX10_shared 2 1 (some .int) := ⟨lcX10_shared, liX10, ⟨by decide +kernel, by decide +kernel⟩, by decide +kernel⟩
set_option maxRecDepth 100000 in
theorem lmX10_shared : Cond.instanceMethod yX10_shared ∈ WT := WT_of (List.mem_of_getElem? (i := 1662) (by decide +kernel)) rfl
set_option maxRecDepth 100000 in
theorem lvX10_shared : Cond.selects yX10_shared.cls yX10_shared yX10_shared ∈ WT := WT_of (List.mem_of_getElem? (i := 1663) (by decide +kernel)) rfl
set_option maxRecDepth 100000 in
theorem lcX10_letter : Cond.code yX10_letter cX10_letter 3 (some .int) ∈ WT := WT_of (List.mem_of_getElem? (i := 1678) (by decide +kernel)) rfl
theorem lkX10_letter : LK yX10_letter cX10_letter 3 2 (some .int) := ⟨lcX10_letter, liX10, ⟨by decide +kernel, by decide +kernel⟩, by decide +kernel⟩
set_option maxRecDepth 100000 in
theorem lmX10_letter : Cond.instanceMethod yX10_letter ∈ WT := WT_of (List.mem_of_getElem? (i := 1676) (by decide +kernel)) rfl
set_option maxRecDepth 100000 in
theorem lvX10_letter : Cond.selects yX10_letter.cls yX10_letter yX10_letter ∈ WT := WT_of (List.mem_of_getElem? (i := 1677) (by decide +kernel)) rfl
set_option maxRecDepth 100000 in
theorem lcX10_sizeAt : Cond.code yX10_sizeAt cX10_sizeAt 3 (some .int) ∈ WT := WT_of (List.mem_of_getElem? (i := 1682) (by decide +kernel)) rfl
theorem lkX10_sizeAt : LK yX10_sizeAt cX10_sizeAt 3 2 (some .int) := ⟨lcX10_sizeAt, liX10, ⟨by decide +kernel, by decide +kernel⟩, by decide +kernel⟩
set_option maxRecDepth 100000 in
theorem lmX10_sizeAt : Cond.instanceMethod yX10_sizeAt ∈ WT := WT_of (List.mem_of_getElem? (i := 1680) (by decide +kernel)) rfl
set_option maxRecDepth 100000 in
theorem lvX10_sizeAt : Cond.selects yX10_sizeAt.cls yX10_sizeAt yX10_sizeAt ∈ WT := WT_of (List.mem_of_getElem? (i := 1681) (by decide +kernel)) rfl
set_option maxRecDepth 100000 in
theorem lcX10_count : Cond.code yX10_count cX10_count 3 (some .int) ∈ WT := WT_of (List.mem_of_getElem? (i := 1686) (by decide +kernel)) rfl
theorem lkX10_count : LK yX10_count cX10_count 3 2 (some .int) := ⟨lcX10_count, liX10, ⟨by decide +kernel, by decide +kernel⟩, by decide +kernel⟩
set_option maxRecDepth 100000 in
theorem lmX10_count : Cond.instanceMethod yX10_count ∈ WT := WT_of (List.mem_of_getElem? (i := 1684) (by decide +kernel)) rfl
set_option maxRecDepth 100000 in
theorem lvX10_count : Cond.selects yX10_count.cls yX10_count yX10_count ∈ WT := WT_of (List.mem_of_getElem? (i := 1685) (by decide +kernel)) rfl
set_option maxRecDepth 100000 in
theorem lcX10_names : Cond.code yX10_names cX10_names 2 (some .int) ∈ WT := WT_of (List.mem_of_getElem? (i := 1690) (by decide +kernel)) rfl
theorem lkX10_names : LK yX10_names cX10_names 2 1 (some .int) := ⟨lcX10_names, liX10, ⟨by decide +kernel, by decide +kernel⟩, by decide +kernel⟩
set_option maxRecDepth 100000 in
theorem lmX10_names : Cond.instanceMethod yX10_names ∈ WT := WT_of (List.mem_of_getElem? (i := 1688) (by decide +kernel)) rfl
set_option maxRecDepth 100000 in
theorem lvX10_names : Cond.selects yX10_names.cls yX10_names yX10_names ∈ WT := WT_of (List.mem_of_getElem? (i := 1689) (by decide +kernel)) rfl
set_option maxRecDepth 100000 in
theorem lcX10_find : Cond.code yX10_find cX10_find 4 (some .int) ∈ WT := WT_of (List.mem_of_getElem? (i := 1694) (by decide +kernel)) rfl
theorem lkX10_find : LK yX10_find cX10_find 4 2 (some .int) := ⟨lcX10_find, liX10, ⟨by decide +kernel, by decide +kernel⟩, by decide +kernel⟩
set_option maxRecDepth 100000 in
theorem lmX10_find : Cond.instanceMethod yX10_find ∈ WT := WT_of (List.mem_of_getElem? (i := 1692) (by decide +kernel)) rfl
set_option maxRecDepth 100000 in
theorem lvX10_find : Cond.selects yX10_find.cls yX10_find yX10_find ∈ WT := WT_of (List.mem_of_getElem? (i := 1693) (by decide +kernel)) rfl
set_option maxRecDepth 100000 in
theorem lcX10_differ : Cond.code yX10_differ cX10_differ 3 (some .int) ∈ WT := WT_of (List.mem_of_getElem? (i := 1698) (by decide +kernel)) rfl
theorem lkX10_differ : LK yX10_differ cX10_differ 3 2 (some .int) := ⟨lcX10_differ, liX10, ⟨by decide +kernel, by decide +kernel⟩, by decide +kernel⟩
set_option maxRecDepth 100000 in
theorem lmX10_differ : Cond.instanceMethod yX10_differ ∈ WT := WT_of (List.mem_of_getElem? (i := 1696) (by decide +kernel)) rfl
set_option maxRecDepth 100000 in
theorem lvX10_differ : Cond.selects yX10_differ.cls yX10_differ yX10_differ ∈ WT := WT_of (List.mem_of_getElem? (i := 1697) (by decide +kernel)) rfl
set_option maxRecDepth 100000 in
theorem lcX10_is : Cond.code yX10_is cX10_is 4 (some .boolean) ∈ WT := WT_of (List.mem_of_getElem? (i := 1702) (by decide +kernel)) rfl
theorem lkX10_is : LK yX10_is cX10_is 4 3 (some .boolean) := ⟨lcX10_is, liX10, ⟨by decide +kernel, by decide +kernel⟩, by decide +kernel⟩
set_option maxRecDepth 100000 in
theorem lmX10_is : Cond.instanceMethod yX10_is ∈ WT := WT_of (List.mem_of_getElem? (i := 1700) (by decide +kernel)) rfl
set_option maxRecDepth 100000 in
theorem lvX10_is : Cond.selects yX10_is.cls yX10_is yX10_is ∈ WT := WT_of (List.mem_of_getElem? (i := 1701) (by decide +kernel)) rfl
set_option maxRecDepth 100000 in
theorem lcX10_canBe : Cond.code yX10_canBe cX10_canBe 3 (some .boolean) ∈ WT := WT_of (List.mem_of_getElem? (i := 1503) (by decide +kernel)) rfl
theorem lkX10_canBe : LK yX10_canBe cX10_canBe 3 3 (some .boolean) := ⟨lcX10_canBe, liX10, ⟨by decide +kernel, by decide +kernel⟩, by decide +kernel⟩
set_option maxRecDepth 100000 in
theorem lsX10_canBe : Cond.static yX10_canBe ∈ WT := WT_of (List.mem_of_getElem? (i := 1502) (by decide +kernel)) rfl
set_option maxRecDepth 100000 in
theorem lcX10_can : Cond.code yX10_can cX10_can 4 (some .boolean) ∈ WT := WT_of (List.mem_of_getElem? (i := 1706) (by decide +kernel)) rfl
theorem lkX10_can : LK yX10_can cX10_can 4 3 (some .boolean) := ⟨lcX10_can, liX10, ⟨by decide +kernel, by decide +kernel⟩, by decide +kernel⟩
set_option maxRecDepth 100000 in
theorem lmX10_can : Cond.instanceMethod yX10_can ∈ WT := WT_of (List.mem_of_getElem? (i := 1704) (by decide +kernel)) rfl
set_option maxRecDepth 100000 in
theorem lvX10_can : Cond.selects yX10_can.cls yX10_can yX10_can ∈ WT := WT_of (List.mem_of_getElem? (i := 1705) (by decide +kernel)) rfl
set_option maxRecDepth 100000 in
theorem lcX10_steps : Cond.code yX10_steps cX10_steps 3 (some .int) ∈ WT := WT_of (List.mem_of_getElem? (i := 1710) (by decide +kernel)) rfl
theorem lkX10_steps : LK yX10_steps cX10_steps 3 2 (some .int) := ⟨lcX10_steps, liX10, ⟨by decide +kernel, by decide +kernel⟩, by decide +kernel⟩
set_option maxRecDepth 100000 in
theorem lmX10_steps : Cond.instanceMethod yX10_steps ∈ WT := WT_of (List.mem_of_getElem? (i := 1708) (by decide +kernel)) rfl
set_option maxRecDepth 100000 in
theorem lvX10_steps : Cond.selects yX10_steps.cls yX10_steps yX10_steps ∈ WT := WT_of (List.mem_of_getElem? (i := 1709) (by decide +kernel)) rfl
set_option maxRecDepth 100000 in
theorem lcX10_why : Cond.code yX10_why cX10_why 3 (some .int) ∈ WT := WT_of (List.mem_of_getElem? (i := 1714) (by decide +kernel)) rfl
theorem lkX10_why : LK yX10_why cX10_why 3 2 (some .int) := ⟨lcX10_why, liX10, ⟨by decide +kernel, by decide +kernel⟩, by decide +kernel⟩
set_option maxRecDepth 100000 in
theorem lmX10_why : Cond.instanceMethod yX10_why ∈ WT := WT_of (List.mem_of_getElem? (i := 1712) (by decide +kernel)) rfl
set_option maxRecDepth 100000 in
theorem lvX10_why : Cond.selects yX10_why.cls yX10_why yX10_why ∈ WT := WT_of (List.mem_of_getElem? (i := 1713) (by decide +kernel)) rfl
set_option maxRecDepth 100000 in
theorem lcX10_told : Cond.code yX10_told cX10_told 3 (some (.object "java/lang/String")) ∈ WT := WT_of (List.mem_of_getElem? (i := 1718) (by decide +kernel)) rfl
theorem lkX10_told : LK yX10_told cX10_told 3 2 (some (.object "java/lang/String")) := ⟨lcX10_told, liX10, ⟨by decide +kernel, by decide +kernel⟩, by decide +kernel⟩
set_option maxRecDepth 100000 in
theorem lmX10_told : Cond.instanceMethod yX10_told ∈ WT := WT_of (List.mem_of_getElem? (i := 1716) (by decide +kernel)) rfl
set_option maxRecDepth 100000 in
theorem lvX10_told : Cond.selects yX10_told.cls yX10_told yX10_told ∈ WT := WT_of (List.mem_of_getElem? (i := 1717) (by decide +kernel)) rfl
set_option maxRecDepth 100000 in
theorem lcX10_moved : Cond.code yX10_moved cX10_moved 2 (some .int) ∈ WT := WT_of (List.mem_of_getElem? (i := 1722) (by decide +kernel)) rfl
theorem lkX10_moved : LK yX10_moved cX10_moved 2 1 (some .int) := ⟨lcX10_moved, liX10, ⟨by decide +kernel, by decide +kernel⟩, by decide +kernel⟩
set_option maxRecDepth 100000 in
theorem lmX10_moved : Cond.instanceMethod yX10_moved ∈ WT := WT_of (List.mem_of_getElem? (i := 1720) (by decide +kernel)) rfl
set_option maxRecDepth 100000 in
theorem lvX10_moved : Cond.selects yX10_moved.cls yX10_moved yX10_moved ∈ WT := WT_of (List.mem_of_getElem? (i := 1721) (by decide +kernel)) rfl
set_option maxRecDepth 100000 in
theorem lcX10_makes : Cond.code yX10_makes cX10_makes 4 (some .boolean) ∈ WT := WT_of (List.mem_of_getElem? (i := 1726) (by decide +kernel)) rfl
theorem lkX10_makes : LK yX10_makes cX10_makes 4 3 (some .boolean) := ⟨lcX10_makes, liX10, ⟨by decide +kernel, by decide +kernel⟩, by decide +kernel⟩
set_option maxRecDepth 100000 in
theorem lmX10_makes : Cond.instanceMethod yX10_makes ∈ WT := WT_of (List.mem_of_getElem? (i := 1724) (by decide +kernel)) rfl
set_option maxRecDepth 100000 in
theorem lvX10_makes : Cond.selects yX10_makes.cls yX10_makes yX10_makes ∈ WT := WT_of (List.mem_of_getElem? (i := 1725) (by decide +kernel)) rfl
set_option maxRecDepth 100000 in
theorem lcX10_unlikeOf : Cond.code yX10_unlikeOf cX10_unlikeOf 3 (some .int) ∈ WT := WT_of (List.mem_of_getElem? (i := 1733) (by decide +kernel)) rfl
theorem lkX10_unlikeOf : LK yX10_unlikeOf cX10_unlikeOf 3 2 (some .int) := ⟨lcX10_unlikeOf, liX10, ⟨by decide +kernel, by decide +kernel⟩, by decide +kernel⟩
set_option maxRecDepth 100000 in
theorem lsX10_unlikeOf : Cond.static yX10_unlikeOf ∈ WT := WT_of (List.mem_of_getElem? (i := 1732) (by decide +kernel)) rfl
set_option maxRecDepth 100000 in
theorem lcX10_isSo : Cond.code yX10_isSo cX10_isSo 9 (some .boolean) ∈ WT := WT_of (List.mem_of_getElem? (i := 1730) (by decide +kernel)) rfl
theorem lkX10_isSo : LK yX10_isSo cX10_isSo 9 2 (some .boolean) := ⟨lcX10_isSo, liX10, ⟨by decide +kernel, by decide +kernel⟩, by decide +kernel⟩
set_option maxRecDepth 100000 in
theorem lmX10_isSo : Cond.instanceMethod yX10_isSo ∈ WT := WT_of (List.mem_of_getElem? (i := 1728) (by decide +kernel)) rfl
set_option maxRecDepth 100000 in
theorem lvX10_isSo : Cond.selects yX10_isSo.cls yX10_isSo yX10_isSo ∈ WT := WT_of (List.mem_of_getElem? (i := 1729) (by decide +kernel)) rfl
set_option maxRecDepth 100000 in
theorem lcX10_unlike : Cond.code yX10_unlike cX10_unlike 3 (some .int) ∈ WT := WT_of (List.mem_of_getElem? (i := 1737) (by decide +kernel)) rfl
theorem lkX10_unlike : LK yX10_unlike cX10_unlike 3 2 (some .int) := ⟨lcX10_unlike, liX10, ⟨by decide +kernel, by decide +kernel⟩, by decide +kernel⟩
set_option maxRecDepth 100000 in
theorem lmX10_unlike : Cond.instanceMethod yX10_unlike ∈ WT := WT_of (List.mem_of_getElem? (i := 1735) (by decide +kernel)) rfl
set_option maxRecDepth 100000 in
theorem lvX10_unlike : Cond.selects yX10_unlike.cls yX10_unlike yX10_unlike ∈ WT := WT_of (List.mem_of_getElem? (i := 1736) (by decide +kernel)) rfl
set_option maxRecDepth 100000 in
theorem lcX10_weight : Cond.code yX10_weight cX10_weight 8 (some .int) ∈ WT := WT_of (List.mem_of_getElem? (i := 1741) (by decide +kernel)) rfl
theorem lkX10_weight : LK yX10_weight cX10_weight 8 2 (some .int) := ⟨lcX10_weight, liX10, ⟨by decide +kernel, by decide +kernel⟩, by decide +kernel⟩
set_option maxRecDepth 100000 in
theorem lmX10_weight : Cond.instanceMethod yX10_weight ∈ WT := WT_of (List.mem_of_getElem? (i := 1739) (by decide +kernel)) rfl
set_option maxRecDepth 100000 in
theorem lvX10_weight : Cond.selects yX10_weight.cls yX10_weight yX10_weight ∈ WT := WT_of (List.mem_of_getElem? (i := 1740) (by decide +kernel)) rfl
set_option maxRecDepth 100000 in
theorem lcX10_told_ : Cond.code yX10_told_ cX10_told_ 7 (some .int) ∈ WT := WT_of (List.mem_of_getElem? (i := 1749) (by decide +kernel)) rfl
theorem lkX10_told_ : LK yX10_told_ cX10_told_ 7 1 (some .int) := ⟨lcX10_told_, liX10, ⟨by decide +kernel, by decide +kernel⟩, by decide +kernel⟩
set_option maxRecDepth 100000 in
theorem lmX10_told_ : Cond.instanceMethod yX10_told_ ∈ WT := WT_of (List.mem_of_getElem? (i := 1748) (by decide +kernel)) rfl
set_option maxRecDepth 100000 in
theorem lcX10_house : Cond.code yX10_house cX10_house 2 (some .int) ∈ WT := WT_of (List.mem_of_getElem? (i := 1745) (by decide +kernel)) rfl
theorem lkX10_house : LK yX10_house cX10_house 2 1 (some .int) := ⟨lcX10_house, liX10, ⟨by decide +kernel, by decide +kernel⟩, by decide +kernel⟩
set_option maxRecDepth 100000 in
theorem lmX10_house : Cond.instanceMethod yX10_house ∈ WT := WT_of (List.mem_of_getElem? (i := 1743) (by decide +kernel)) rfl
set_option maxRecDepth 100000 in
theorem lvX10_house : Cond.selects yX10_house.cls yX10_house yX10_house ∈ WT := WT_of (List.mem_of_getElem? (i := 1744) (by decide +kernel)) rfl
set_option maxRecDepth 100000 in
theorem lcX10_knock : Cond.code yX10_knock cX10_knock 1 (some .int) ∈ WT := WT_of (List.mem_of_getElem? (i := 1753) (by decide +kernel)) rfl
theorem lkX10_knock : LK yX10_knock cX10_knock 1 0 (some .int) := ⟨lcX10_knock, liX10, ⟨by decide +kernel, by decide +kernel⟩, by decide +kernel⟩
set_option maxRecDepth 100000 in
theorem lmX10_knock : Cond.instanceMethod yX10_knock ∈ WT := WT_of (List.mem_of_getElem? (i := 1751) (by decide +kernel)) rfl
set_option maxRecDepth 100000 in
theorem lvX10_knock : Cond.selects yX10_knock.cls yX10_knock yX10_knock ∈ WT := WT_of (List.mem_of_getElem? (i := 1752) (by decide +kernel)) rfl
set_option maxRecDepth 100000 in
theorem lcX10_isSound : Cond.code yX10_isSound cX10_isSound 1 (some .boolean) ∈ WT := WT_of (List.mem_of_getElem? (i := 1757) (by decide +kernel)) rfl
theorem lkX10_isSound : LK yX10_isSound cX10_isSound 1 0 (some .boolean) := ⟨lcX10_isSound, liX10, ⟨by decide +kernel, by decide +kernel⟩, by decide +kernel⟩
set_option maxRecDepth 100000 in
theorem lmX10_isSound : Cond.instanceMethod yX10_isSound ∈ WT := WT_of (List.mem_of_getElem? (i := 1755) (by decide +kernel)) rfl
set_option maxRecDepth 100000 in
theorem lvX10_isSound : Cond.selects yX10_isSound.cls yX10_isSound yX10_isSound ∈ WT := WT_of (List.mem_of_getElem? (i := 1756) (by decide +kernel)) rfl
set_option maxRecDepth 100000 in
theorem lcX10_add : Cond.code yX10_add cX10_add 4 (some .long) ∈ WT := WT_of (List.mem_of_getElem? (i := 1765) (by decide +kernel)) rfl
theorem lkX10_add : LK yX10_add cX10_add 4 2 (some .long) := ⟨lcX10_add, liX10, ⟨by decide +kernel, by decide +kernel⟩, by decide +kernel⟩
set_option maxRecDepth 100000 in
theorem lsX10_add : Cond.static yX10_add ∈ WT := WT_of (List.mem_of_getElem? (i := 1764) (by decide +kernel)) rfl
set_option maxRecDepth 100000 in
theorem lcX10_added : Cond.code yX10_added cX10_added 9 (some .long) ∈ WT := WT_of (List.mem_of_getElem? (i := 1769) (by decide +kernel)) rfl
theorem lkX10_added : LK yX10_added cX10_added 9 2 (some .long) := ⟨lcX10_added, liX10, ⟨by decide +kernel, by decide +kernel⟩, by decide +kernel⟩
set_option maxRecDepth 100000 in
theorem lsX10_added : Cond.static yX10_added ∈ WT := WT_of (List.mem_of_getElem? (i := 1768) (by decide +kernel)) rfl
set_option maxRecDepth 100000 in
theorem lcX10_digest : Cond.code yX10_digest cX10_digest 9 (some .long) ∈ WT := WT_of (List.mem_of_getElem? (i := 1761) (by decide +kernel)) rfl
theorem lkX10_digest : LK yX10_digest cX10_digest 9 0 (some .long) := ⟨lcX10_digest, liX10, ⟨by decide +kernel, by decide +kernel⟩, by decide +kernel⟩
set_option maxRecDepth 100000 in
theorem lmX10_digest : Cond.instanceMethod yX10_digest ∈ WT := WT_of (List.mem_of_getElem? (i := 1759) (by decide +kernel)) rfl
set_option maxRecDepth 100000 in
theorem lvX10_digest : Cond.selects yX10_digest.cls yX10_digest yX10_digest ∈ WT := WT_of (List.mem_of_getElem? (i := 1760) (by decide +kernel)) rfl
set_option maxRecDepth 100000 in
theorem mlX10_20 : Cond.methodLink RX10 20 yX10_row ∈ WT := WT_of (List.mem_of_getElem? (i := 1328) (by decide +kernel)) rfl
set_option maxRecDepth 100000 in
theorem mlX10_24 : Cond.methodLink RX10 24 yX10_none ∈ WT := WT_of (List.mem_of_getElem? (i := 1331) (by decide +kernel)) rfl
set_option maxRecDepth 100000 in
theorem mlX10_95 : Cond.methodLink RX10 95 yX10_isSlot ∈ WT := WT_of (List.mem_of_getElem? (i := 1357) (by decide +kernel)) rfl
set_option maxRecDepth 100000 in
theorem mlX10_99 : Cond.methodLink RX10 99 yX10_isName ∈ WT := WT_of (List.mem_of_getElem? (i := 1360) (by decide +kernel)) rfl
set_option maxRecDepth 100000 in
theorem mlX10_78 : Cond.methodLink RX10 78 yX10_isThrown ∈ WT := WT_of (List.mem_of_getElem? (i := 1363) (by decide +kernel)) rfl
set_option maxRecDepth 100000 in
theorem mlX10_92 : Cond.methodLink RX10 92 yX10_done ∈ WT := WT_of (List.mem_of_getElem? (i := 1367) (by decide +kernel)) rfl
set_option maxRecDepth 100000 in
theorem mlX10_32 : Cond.methodLink RX10 32 yX10_parts ∈ WT := WT_of (List.mem_of_getElem? (i := 1375) (by decide +kernel)) rfl
set_option maxRecDepth 100000 in
theorem mlX10_102 : Cond.methodLink RX10 102 yX10_joined ∈ WT := WT_of (List.mem_of_getElem? (i := 1378) (by decide +kernel)) rfl
set_option maxRecDepth 100000 in
theorem mlX10_106 : Cond.methodLink RX10 106 yX10_give ∈ WT := WT_of (List.mem_of_getElem? (i := 1381) (by decide +kernel)) rfl
set_option maxRecDepth 100000 in
theorem mlX10_88 : Cond.methodLink RX10 88 yX10_no ∈ WT := WT_of (List.mem_of_getElem? (i := 1385) (by decide +kernel)) rfl
set_option maxRecDepth 100000 in
theorem mlX10_110 : Cond.methodLink RX10 110 yX10_isThrown_ ∈ WT := WT_of (List.mem_of_getElem? (i := 1393) (by decide +kernel)) rfl
set_option maxRecDepth 100000 in
theorem mlX10_54 : Cond.methodLink RX10 54 yX10_same ∈ WT := WT_of (List.mem_of_getElem? (i := 1401) (by decide +kernel)) rfl
set_option maxRecDepth 100000 in
theorem mlX10_44 : Cond.methodLink RX10 44 yX10_first ∈ WT := WT_of (List.mem_of_getElem? (i := 1404) (by decide +kernel)) rfl
set_option maxRecDepth 100000 in
theorem mlX10_48 : Cond.methodLink RX10 48 yJ9_max_7cf53 ∈ WT := WT_of (List.mem_of_getElem? (i := 1407) (by decide +kernel)) rfl
set_option maxRecDepth 100000 in
theorem mlX10_113 : Cond.methodLink RX10 113 yX10_isPlace ∈ WT := WT_of (List.mem_of_getElem? (i := 1412) (by decide +kernel)) rfl
set_option maxRecDepth 100000 in
theorem mlX10_74 : Cond.methodLink RX10 74 yX10_at ∈ WT := WT_of (List.mem_of_getElem? (i := 1416) (by decide +kernel)) rfl
set_option maxRecDepth 100000 in
theorem mlX10_36 : Cond.methodLink RX10 36 yX10_end ∈ WT := WT_of (List.mem_of_getElem? (i := 1419) (by decide +kernel)) rfl
set_option maxRecDepth 100000 in
theorem mlX10_40 : Cond.methodLink RX10 40 yX10_piece ∈ WT := WT_of (List.mem_of_getElem? (i := 1422) (by decide +kernel)) rfl
set_option maxRecDepth 100000 in
theorem mlX10_117 : Cond.methodLink RX10 117 yX10_often ∈ WT := WT_of (List.mem_of_getElem? (i := 1433) (by decide +kernel)) rfl
set_option maxRecDepth 100000 in
theorem mlX10_120 : Cond.methodLink RX10 120 yX10_used ∈ WT := WT_of (List.mem_of_getElem? (i := 1436) (by decide +kernel)) rfl
set_option maxRecDepth 100000 in
theorem mlX10_124 : Cond.methodLink RX10 124 yX10_namesOf ∈ WT := WT_of (List.mem_of_getElem? (i := 1443) (by decide +kernel)) rfl
set_option maxRecDepth 100000 in
theorem mlX10_128 : Cond.methodLink RX10 128 yX10_ones ∈ WT := WT_of (List.mem_of_getElem? (i := 1446) (by decide +kernel)) rfl
set_option maxRecDepth 100000 in
theorem mlX10_58 : Cond.methodLink RX10 58 yJ6_bitCount_0f7a4 ∈ WT := WT_of (List.mem_of_getElem? (i := 1449) (by decide +kernel)) rfl
set_option maxRecDepth 100000 in
theorem mlX10_131 : Cond.methodLink RX10 131 yX10_plainOf ∈ WT := WT_of (List.mem_of_getElem? (i := 1454) (by decide +kernel)) rfl
set_option maxRecDepth 100000 in
theorem mlX10_135 : Cond.methodLink RX10 135 yX10_isAnswer ∈ WT := WT_of (List.mem_of_getElem? (i := 1461) (by decide +kernel)) rfl
set_option maxRecDepth 100000 in
theorem mlX10_138 : Cond.methodLink RX10 138 yX10_commonOf ∈ WT := WT_of (List.mem_of_getElem? (i := 1468) (by decide +kernel)) rfl
set_option maxRecDepth 100000 in
theorem mlX10_141 : Cond.methodLink RX10 141 yX10_movedBy ∈ WT := WT_of (List.mem_of_getElem? (i := 1475) (by decide +kernel)) rfl
set_option maxRecDepth 100000 in
theorem mlX10_145 : Cond.methodLink RX10 145 yX10_become ∈ WT := WT_of (List.mem_of_getElem? (i := 1486) (by decide +kernel)) rfl
set_option maxRecDepth 100000 in
theorem mlX10_149 : Cond.methodLink RX10 149 yX10_withBehind ∈ WT := WT_of (List.mem_of_getElem? (i := 1494) (by decide +kernel)) rfl
set_option maxRecDepth 100000 in
theorem mlX10_153 : Cond.methodLink RX10 153 yX10_canBe ∈ WT := WT_of (List.mem_of_getElem? (i := 1501) (by decide +kernel)) rfl
set_option maxRecDepth 100000 in
theorem mlX10_159 : Cond.methodLink RX10 159 yX9_init ∈ WT := WT_of (List.mem_of_getElem? (i := 1506) (by decide +kernel)) rfl
set_option maxRecDepth 100000 in
theorem mlX10_167 : Cond.methodLink RX10 167 yX8_init ∈ WT := WT_of (List.mem_of_getElem? (i := 1550) (by decide +kernel)) rfl
set_option maxRecDepth 100000 in
theorem mlX10_162 : Cond.methodLink RX10 162 yX9_answer ∈ WT := WT_of (List.mem_of_getElem? (i := 1604) (by decide +kernel)) rfl
set_option maxRecDepth 100000 in
theorem mlX10_168 : Cond.methodLink RX10 168 yX8_answer ∈ WT := WT_of (List.mem_of_getElem? (i := 1615) (by decide +kernel)) rfl
set_option maxRecDepth 100000 in
theorem mlX10_169 : Cond.methodLink RX10 169 yX10_matched ∈ WT := WT_of (List.mem_of_getElem? (i := 1631) (by decide +kernel)) rfl
set_option maxRecDepth 100000 in
theorem mlX10_193 : Cond.methodLink RX10 193 yX10_textOf ∈ WT := WT_of (List.mem_of_getElem? (i := 1639) (by decide +kernel)) rfl
set_option maxRecDepth 100000 in
theorem mlX10_175 : Cond.methodLink RX10 175 yJ4_init_da8c8 ∈ WT := WT_of (List.mem_of_getElem? (i := 1643) (by decide +kernel)) rfl
set_option maxRecDepth 100000 in
theorem mlX10_178 : Cond.methodLink RX10 178 yJ4_append_15ec4 ∈ WT := WT_of (List.mem_of_getElem? (i := 1644) (by decide +kernel)) rfl
set_option maxRecDepth 100000 in
theorem mlX10_182 : Cond.methodLink RX10 182 yJ4_append_cf468 ∈ WT := WT_of (List.mem_of_getElem? (i := 1645) (by decide +kernel)) rfl
set_option maxRecDepth 100000 in
theorem mlX10_185 : Cond.methodLink RX10 185 yJ4_toString_0e30d ∈ WT := WT_of (List.mem_of_getElem? (i := 1646) (by decide +kernel)) rfl
set_option maxRecDepth 100000 in
theorem mlX10_63 : Cond.methodLink RX10 63 yX10_depthOf ∈ WT := WT_of (List.mem_of_getElem? (i := 1658) (by decide +kernel)) rfl
set_option maxRecDepth 100000 in
theorem mlX10_202 : Cond.methodLink RX10 202 yX10_sharedOf_ ∈ WT := WT_of (List.mem_of_getElem? (i := 1665) (by decide +kernel)) rfl
set_option maxRecDepth 100000 in
theorem mlX10_199 : Cond.methodLink RX10 199 yX10_sharedOf ∈ WT := WT_of (List.mem_of_getElem? (i := 1668) (by decide +kernel)) rfl
set_option maxRecDepth 100000 in
theorem mlX10_66 : Cond.methodLink RX10 66 yX10_isMet ∈ WT := WT_of (List.mem_of_getElem? (i := 1671) (by decide +kernel)) rfl
set_option maxRecDepth 100000 in
theorem mlX10_70 : Cond.methodLink RX10 70 yX10_isAt ∈ WT := WT_of (List.mem_of_getElem? (i := 1674) (by decide +kernel)) rfl
set_option maxRecDepth 100000 in
theorem mlX10_214 : Cond.methodLink RX10 214 yX10_unlikeOf ∈ WT := WT_of (List.mem_of_getElem? (i := 1731) (by decide +kernel)) rfl
set_option maxRecDepth 100000 in
theorem mlX10_221 : Cond.methodLink RX10 221 yX10_told_ ∈ WT := WT_of (List.mem_of_getElem? (i := 1746) (by decide +kernel)) rfl
set_option maxRecDepth 100000 in
theorem mlX10_226 : Cond.methodLink RX10 226 yX10_add ∈ WT := WT_of (List.mem_of_getElem? (i := 1763) (by decide +kernel)) rfl
set_option maxRecDepth 100000 in
theorem mlX10_232 : Cond.methodLink RX10 232 yX10_added ∈ WT := WT_of (List.mem_of_getElem? (i := 1767) (by decide +kernel)) rfl
set_option maxRecDepth 100000 in
theorem mlX8_31 : Cond.methodLink RX8 31 yX8_come ∈ WT := WT_of (List.mem_of_getElem? (i := 1556) (by decide +kernel)) rfl
set_option maxRecDepth 100000 in
theorem mlX8_43 : Cond.methodLink RX8 43 yX8_number ∈ WT := WT_of (List.mem_of_getElem? (i := 1562) (by decide +kernel)) rfl
set_option maxRecDepth 100000 in
theorem mlX8_50 : Cond.methodLink RX8 50 yX8_join ∈ WT := WT_of (List.mem_of_getElem? (i := 1570) (by decide +kernel)) rfl
set_option maxRecDepth 100000 in
theorem mlX8_66 : Cond.methodLink RX8 66 yX8_headed ∈ WT := WT_of (List.mem_of_getElem? (i := 1574) (by decide +kernel)) rfl
set_option maxRecDepth 100000 in
theorem mlX8_54 : Cond.methodLink RX8 54 yX8_isRound ∈ WT := WT_of (List.mem_of_getElem? (i := 1578) (by decide +kernel)) rfl
set_option maxRecDepth 100000 in
theorem mlX8_69 : Cond.methodLink RX8 69 yX8_isFree ∈ WT := WT_of (List.mem_of_getElem? (i := 1582) (by decide +kernel)) rfl
set_option maxRecDepth 100000 in
theorem mlX8_83 : Cond.methodLink RX8 83 yX8_whole ∈ WT := WT_of (List.mem_of_getElem? (i := 1620) (by decide +kernel)) rfl
set_option maxRecDepth 100000 in
theorem mlX8_73 : Cond.methodLink RX8 73 yJ9_min_7cf53 ∈ WT := WT_of (List.mem_of_getElem? (i := 1624) (by decide +kernel)) rfl
set_option maxRecDepth 100000 in
theorem mlX9_17 : Cond.methodLink RX9 17 yX9_go ∈ WT := WT_of (List.mem_of_getElem? (i := 1511) (by decide +kernel)) rfl
set_option maxRecDepth 100000 in
theorem mlX9_32 : Cond.methodLink RX9 32 yX9_deep ∈ WT := WT_of (List.mem_of_getElem? (i := 1515) (by decide +kernel)) rfl
set_option maxRecDepth 100000 in
theorem mlX9_36 : Cond.methodLink RX9 36 yJ9_max_7cf53 ∈ WT := WT_of (List.mem_of_getElem? (i := 1519) (by decide +kernel)) rfl
set_option maxRecDepth 100000 in
theorem mlX9_42 : Cond.methodLink RX9 42 yX9_bind ∈ WT := WT_of (List.mem_of_getElem? (i := 1520) (by decide +kernel)) rfl
set_option maxRecDepth 100000 in
theorem mlX9_49 : Cond.methodLink RX9 49 yX9_isWithin ∈ WT := WT_of (List.mem_of_getElem? (i := 1524) (by decide +kernel)) rfl
set_option maxRecDepth 100000 in
theorem mlX9_46 : Cond.methodLink RX9 46 yX9_goOn ∈ WT := WT_of (List.mem_of_getElem? (i := 1529) (by decide +kernel)) rfl
set_option maxRecDepth 100000 in
theorem mlX9_77 : Cond.methodLink RX9 77 yX9_whole ∈ WT := WT_of (List.mem_of_getElem? (i := 1609) (by decide +kernel)) rfl
end
section
/-! THE REFERENCE'S SMALL METHODS -/
/-- room by the depth of calls -/
def rmD (d k n : Nat) : Room := { frames := d, cells := k, slots := n, locals := 40 * d }
def vI (x : Nat) : Value := .int (nI x)
/-- an array of small whole numbers -/
def IA (xs : List Nat) : AC := (100, xs.map vI)
theorem IA_get {xs : List Nat} {j x : Nat} (h : xs[j]? = some x) : (xs.map vI)[j]? = some (vI x) := by rw [List.getElem?_map, h]; rfl
theorem inA_nI {vs : List Value} {j : Nat} {v : Value} (hj : j < 2 ^ 31) (h : vs[j]? = some v) : inA (nI j) vs v := ⟨nI_pos hj, by rw [nI_clamp hj]; exact h⟩
/-- how many parts a letter has -/
def pF (x : Nat) : Nat := if x < 10 then 0 else (x - 10) / 2
/-- how many letters the first 'need' terms of a row take -/
def endL : Nat → List Nat → Option Nat
  | 0, _ => some 0
  | _ + 1, [] => none
  | n + 1, x :: r => (endL (n + pF x) r).map (· + 1)
theorem nI_10 : (Int8.ofInt 10).toInt32 = nI 10 := by decide +kernel
theorem nI_2 : Int32.ofInt 2 = nI 2 := by decide +kernel
theorem nI_1' : Int32.ofInt 1 = nI 1 := by decide +kernel
theorem nI_0' : Int32.ofInt 0 = nI 0 := by decide +kernel
theorem nI_sub {a b : Nat} (h : b ≤ a) : nI a - nI b = nI (a - b) := by
  have e : nI a = nI (a - b) + nI b := by rw [nI_add, Nat.sub_add_cancel h]
  rw [e, Int32.add_sub_cancel]
theorem nI_div {a b : Nat} (ha : a < 2 ^ 31) (hb : b < 2 ^ 31) (hb0 : 0 < b) : nI a / nI b = nI (a / b) := by
  have hd : a / b < 2 ^ 31 := Nat.lt_of_le_of_lt (Nat.div_le_self a b) ha
  apply Int32.toInt_inj.mp
  rw [Int32.toInt_div, nI_toInt ha, nI_toInt hb, nI_toInt hd, Int.tdiv_eq_ediv_of_nonneg (by omega), ← Int.natCast_ediv]
  generalize a / b = q at hd ⊢
  exact Int.bmod_eq_of_le (by omega) (by omega)
section WSL
variable {p : Program} {la : Launch} {e : Env} {R : Room} {s : State} {m : MethodId} {args : Array Value} {below : List Frame} {meth : Method} {c : Code} {Q : State → Prop} {D : va_G} {cA : Nat → ClassId} {B0 nL : Nat}
theorem WS.loc {pc k n : Nat} {l l' : List (Nat × Value)} {st : List Value} {h : AH} (ks : List Nat) (hl : lv_pick l ks = l') (kk : WS p la e R s m args below meth c Q D cA B0 nL pc l' st h k n) : WS p la e R s m args below meth c Q D cA B0 nL pc l st h k n :=
  fun H locs ls hH hls => kk H locs ls hH (lv_sub hls ks hl)
end WSL
section M1
variable {la : Launch} {D : va_G} {cA : Nat → ClassId} {B0 pa : Nat}
set_option maxHeartbeats 4000000 in
theorem c_parts (h : AH) {x : Nat} (hx : x < 2 ^ 20) : CT la D cA B0 pa yX10_parts cX10_parts 1 (some .int) (rmD 0 0 0) [vI x] h (fun v h' => v = some (vI (pF x)) ∧ h' = h) := by
  refine CT_of (by decide +kernel) (Nat.le_of_ble_eq_true rfl) ?_
  intro p e s m args below meth c X E hr hk hn
  have dk : ∀ {pc : Nat} {q : Instr × Nat}, lkd DX10_parts pc = some q → decode cX10_parts pc = .ok q := lkd_ok DX10_parts_ok
  repeat refine fst1_ok X (dk rfl) rfl ?_
  refine br_ok X (dk rfl) rfl (show ((3 : Nat) : Int) + 7 = ((10 : Nat) : Int) from rfl) (fun c1 => ?_) (fun c1 => ?_)
  · rw [nI_10] at c1
    have hge : 10 ≤ x := (nI_leI (by omega) (by omega)).mp c1
    repeat refine fst1_ok X (dk rfl) rfl ?_
    refine reti_ok X hr hk rfl (dk rfl) ⟨?_, rfl⟩ (Nat.le_refl _) (Nat.le_refl _)
    rw [nI_10, nI_2, nI_sub hge, nI_div (by omega) (by omega) (by omega)]
    simp [vI, pF, Nat.not_lt.mpr hge]
  · rw [nI_10] at c1
    have hlt : x < 10 := by
      rcases Nat.lt_or_ge x 10 with q | q
      · exact q
      · exact absurd ((nI_leI (by omega) (by omega)).mpr q) c1
    repeat refine fst1_ok X (dk rfl) rfl ?_
    refine br_ok X (dk rfl) rfl (show ((7 : Nat) : Int) + 9 = ((16 : Nat) : Int) from rfl) (fun _ => ?_) (fun q => absurd trivial q)
    refine reti_ok X hr hk rfl (dk rfl) ⟨?_, rfl⟩ (Nat.le_refl _) (Nat.le_refl _)
    simp [vI, pF, hlt, nI]
theorem pF_le (x : Nat) (hx : x < 2 ^ 20) : pF x < 2 ^ 20 := by unfold pF; split <;> omega
theorem nI_ngt0 {n : Nat} (h : n < 2 ^ 31) (c : ¬ nI n ≤ Int32.ofInt 0) : 0 < n := by
  rcases Nat.eq_zero_or_pos n with q | q
  · subst q; exact absurd (by decide) c
  · exact q
theorem nI_le0 {n : Nat} (h : n < 2 ^ 31) (c : nI n ≤ 0) : n = 0 := by
  rcases Nat.eq_zero_or_pos n with q | q
  · exact q
  · exact absurd c (nI_nle q h)
set_option maxHeartbeats 4000000 in
theorem c_end (h : AH) {a at' k : Nat} {xs : List Nat} (ha : h a = some (IA xs)) (hx : ∀ x ∈ xs, x < 2 ^ 10) (hn : xs.length < 2 ^ 10) (hk : endL 1 (xs.drop at') = some k) : CT la D cA B0 pa yX10_end cX10_end 4 (some .int) (rmD 1 0 0) [.ref a, vI at'] h (fun v h' => v = some (vI (at' + k)) ∧ h' = h) := by
  refine CT_of (by decide +kernel) (Nat.le_of_ble_eq_true rfl) ?_
  intro p e s m args below meth c X E hr hlk hnm
  have dk : ∀ {pc : Nat} {q : Instr × Nat}, lkd DX10_end pc = some q → decode cX10_end pc = .ok q := lkd_ok DX10_end_ok
  have loop : ∀ (ys : List Nat) (nd pl j : Nat), xs.drop pl = ys → endL nd ys = some j → pl + j = at' + k → nd + ys.length * 2 ^ 10 < 2 ^ 25 → WS p la e (rmD 1 0 0) s m args below meth c (MQ below (QC D cA B0 (fun v h' => v = some (vI (at' + k)) ∧ h' = h)) args s (rmD 1 0 0).cells (rmD 1 0 0).slots (fun q : Nat => B0 ≤ q)) D cA B0 4 4 [(3, vI nd), (2, vI pl), (0, .ref a), (1, vI at')] [] h 0 0 := by
    intro ys
    induction ys with
    | nil =>
      intro nd pl j hd hj hpj hb
      cases nd with
      | succ nd => simp [endL] at hj
      | zero =>
        simp only [endL, Option.some.injEq] at hj
        subst hj
        repeat refine fst1_ok X (dk rfl) rfl ?_
        refine br_ok X (dk rfl) rfl (show ((5 : Nat) : Int) + 20 = ((25 : Nat) : Int) from rfl) (fun c1 => ?_) (fun c1 => absurd (show nI 0 ≤ 0 by decide) c1)
        repeat refine fst1_ok X (dk rfl) rfl ?_
        exact reti_ok X hr hlk rfl (dk rfl) ⟨by rw [← hpj]; rfl, rfl⟩ (Nat.le_refl _) (Nat.le_refl _)
    | cons y r ih =>
      intro nd pl j hd hj hpj hb
      have hlt : pl < xs.length := by
        rcases Nat.lt_or_ge pl xs.length with q | q
        · exact q
        · rw [List.drop_eq_nil_of_le q] at hd; cases hd
      have hy : xs[pl]? = some y := by
        have := congrArg (fun l : List Nat => l[0]?) hd
        simpa using this
      have hr' : xs.drop (pl + 1) = r := by
        have := congrArg List.tail hd
        simpa using this
      have hyx : y < 2 ^ 10 := hx y (List.mem_of_getElem? hy)
      repeat refine fst1_ok X (dk rfl) rfl ?_
      cases nd with
      | zero =>
        simp only [endL, Option.some.injEq] at hj
        subst hj
        refine br_ok X (dk rfl) rfl (show ((5 : Nat) : Int) + 20 = ((25 : Nat) : Int) from rfl) (fun c1 => ?_) (fun c1 => absurd (show nI 0 ≤ 0 by decide) c1)
        repeat refine fst1_ok X (dk rfl) rfl ?_
        exact reti_ok X hr hlk rfl (dk rfl) ⟨by rw [← hpj]; rfl, rfl⟩ (Nat.le_refl _) (Nat.le_refl _)
      | succ nd =>
        have hln : (y :: r).length = r.length + 1 := rfl
        rw [hln] at hb
        refine br_ok X (dk rfl) rfl (show ((5 : Nat) : Int) + 20 = ((25 : Nat) : Int) from rfl) (fun c1 => absurd c1 (nI_nle (Nat.succ_pos nd) (by omega))) (fun c1 => ?_)
        simp only [endL, Option.map_eq_some_iff] at hj
        obtain ⟨j', hj', rfl⟩ := hj
        repeat refine fst1_ok X (dk rfl) rfl ?_
        refine ald_ok X (Or.inl ⟨rfl, rfl⟩) (dk rfl) ha (inA_nI (by omega) (IA_get hy)) ?_
        refine callS_ok (av := [vI y]) (r := [vI (nd + 1)]) X E (c_parts h (by omega)) lkX10_parts mlX10_32 lsX10_parts ⟨by decide, by decide⟩ ⟨by decide, by decide⟩ (Nat.le_of_ble_eq_true rfl) (dk rfl) ?_
        rintro v h' ⟨rfl, rfl⟩
        repeat refine fst1_ok X (dk rfl) rfl ?_
        refine br_ok X (dk rfl) rfl (show ((22 : Nat) : Int) + (-18) = ((4 : Nat) : Int) from rfl) (fun _ => ?_) (fun q => absurd trivial q)
        have hpF : pF y < 2 ^ 10 := by unfold pF; split <;> omega
        have e1 : nI (nd + 1) + (nI (pF y) - Int32.ofInt 1) = nI (nd + pF y) := by
          rw [nI_1', ← nI_add, show nI nd + nI 1 + (nI (pF y) - nI 1) = nI nd + nI (pF y) by rw [Int32.add_assoc, Int32.add_comm (nI 1), Int32.sub_add_cancel]]
          exact nI_add _ _
        have f1 : Value.int (nI (nd + 1) + (nI (pF y) - Int32.ofInt 1)) = vI (nd + pF y) := congrArg Value.int e1
        have e2 : nI pl + Int32.ofInt 1 = nI (pl + 1) := by rw [nI_1', nI_add]
        have f2 : Value.int (nI pl + Int32.ofInt 1) = vI (pl + 1) := congrArg Value.int e2
        refine WS.loc (l' := [(3, vI (nd + pF y)), (2, vI (pl + 1)), (0, .ref a), (1, vI at')]) [1, 0, 2, 3] (by rw [← f1, ← f2]; rfl) ?_
        exact ih (nd + pF y) (pl + 1) j' hr' hj' (by omega) (by omega)
  iterate 4 refine fst1_ok X (dk rfl) rfl ?_
  exact loop (xs.drop at') 1 at' k rfl hk rfl (by rw [List.length_drop]; omega)
end M1
end
section
/-! rows that are made and filled -/
set_option maxRecDepth 100000 in
theorem wi_int : Cond.arrayClass (newarray.typeOf .int) ∈ WT := WT_of (by decide +kernel) rfl
set_option maxRecDepth 100000 in
theorem wi_bool : Cond.arrayClass (newarray.typeOf .boolean) ∈ WT := WT_of (by decide +kernel) rfl
theorem hup_hup (h : AH) (q : Nat) (c c' : AC) : hup (hup h q c) q c' = hup h q c' := by
  funext b
  by_cases e : b = q <;> simp [hup, e]
def fillV (ys : List Nat) (j : Nat) : List Value := (ys.take j).map vI ++ List.replicate (ys.length - j) (.int 0)
theorem fill_0 (ys : List Nat) : fillV ys 0 = List.replicate ys.length (.int 0) := by simp [fillV]
theorem fill_end (ys : List Nat) : fillV ys ys.length = ys.map vI := by simp [fillV]
theorem fill_len (ys : List Nat) {j : Nat} (h : j ≤ ys.length) : (fillV ys j).length = ys.length := by simp [fillV]; omega
theorem fill_set {ys : List Nat} {j y : Nat} (h : ys[j]? = some y) : (fillV ys j).set j (vI y) = fillV ys (j + 1) := by
  have hl : j < ys.length := (List.getElem?_eq_some_iff.mp h).1
  have hy : ys[j] = y := (List.getElem?_eq_some_iff.mp h).2
  have e1 : ys.take (j + 1) = ys.take j ++ [y] := by rw [List.take_succ, h]; rfl
  have e2 : ys.length - j = (ys.length - (j + 1)) + 1 := by omega
  unfold fillV
  rw [e1, e2, List.replicate_succ, List.set_append_right _ _ (by simp; omega), List.map_append, List.append_assoc]
  have e3 : j - ((ys.take j).map vI).length = 0 := by simp; omega
  rw [e3]
  rfl
/-- a new array, nothing else -/
def newA (B0 : Nat) (h : AH) (ys : List Nat) (v : Option Value) (h' : AH) : Prop := ∃ q : Nat, v = some (.ref q) ∧ h q = none ∧ B0 ≤ q ∧ h' = hup h q (IA ys)
abbrev WR (p : Program) (la : Launch) (e : Env) (rm : Room) (s : State) (m : MethodId) (args : Array Value) (below : List Frame) (meth : Method) (c : Code) (D : va_G) (cA : Nat → ClassId) (B0 nL : Nat) (post : Option Value → AH → Prop)
    (pc : Nat) (l : List (Nat × Value)) (st : List Value) (h : AH) (k n : Nat) : Prop := WS p la e rm s m args below meth c (MQ below (QC D cA B0 post) args s rm.cells rm.slots (fun q : Nat => B0 ≤ q)) D cA B0 nL pc l st h k n
section M2
variable {p : Program} {la : Launch} {e : Env} {R : Room} {s : State} {m : MethodId} {args : Array Value} {below : List Frame} {meth : Method} {c : Code} {Q : State → Prop}
variable {D : va_G} {cA : Nat → ClassId} {B0 pa nL : Nat} {cc : ByteArray} {own : String} {pc k n : Nat} {l : List (Nat × Value)} {r : List Value} {h : AH}
theorem newI_ok (X : CX p s m args c D cA B0 nL cc own) {N : Nat} (hN : N ≤ 1000) (hd : decode cc pc = .ok (.newarray .int, 2)) (hr1 : k + 1 ≤ R.cells) (hr2 : n + N ≤ R.slots)
    (kk : ∀ q : Nat, h q = none → B0 ≤ q → WS p la e R s m args below meth c Q D cA B0 nL (pc + 2) l (.ref q :: r) (hup h q (100, List.replicate N (.int 0))) (k + 1) (n + N)) : WS p la e R s m args below meth c Q D cA B0 nL pc l (.int (nI N) :: r) h k n := by
  have e : (nI N).toNatClampNeg = N := nI_clamp (by omega)
  refine newa_ok X (Or.inl ⟨rfl, rfl⟩) wi_int hd (nI_pos (by omega)) (by rw [e]; exact hN) hr1 (by rw [e]; exact hr2) ?_
  rw [e]
  exact kk
/-- a store in an int array -/
theorem sti_ok (X : CX p s m args c D cA B0 nL cc own) {a : Nat} {vs : List Value} {j : Nat} {x : Int32} (hd : decode cc pc = .ok (.iastore, 1)) (ha : h a = some (100, vs)) (hj : j < vs.length) (hl : vs.length < 2 ^ 31)
    (kk : WS p la e R s m args below meth c Q D cA B0 nL (pc + 1) l r (hup h a (100, vs.set j (.int x))) k n) : WS p la e R s m args below meth c Q D cA B0 nL pc l (.int x :: .int (nI j) :: .ref a :: r) h k n := by
  have e : (nI j).toNatClampNeg = j := nI_clamp (by omega)
  refine ast_ok X (Or.inl ⟨rfl, rfl, x, rfl⟩) hd ha ⟨nI_pos (by omega), by rw [e]; exact hj⟩ ?_
  rw [e]
  exact kk
end M2
section M3
variable {la : Launch} {D : va_G} {cA : Nat → ClassId} {B0 pa : Nat}
set_option maxHeartbeats 4000000 in
theorem c_row (h : AH) (x : Nat) : CT la D cA B0 pa yX10_row cX10_row 1 (some (.array .int)) (rmD 0 1 1) [vI x] h (newA B0 h [x]) := by
  refine CT_of (by decide +kernel) (Nat.le_of_ble_eq_true rfl) ?_
  intro p e s m args below meth c X E hr hlk hnm
  have dk : ∀ {pc : Nat} {q : Instr × Nat}, lkd DX10_row pc = some q → decode cX10_row pc = .ok q := lkd_ok DX10_row_ok
  repeat refine fst1_ok X (dk rfl) rfl ?_
  refine newI_ok (N := 1) X (by decide) (dk rfl) (by decide) (by decide) (fun q hq hB => ?_)
  repeat refine fst1_ok X (dk rfl) rfl ?_
  refine sti_ok (j := 0) X (dk rfl) (hup_self _ _ _) (by decide) (by decide) ?_
  rw [hup_hup]
  exact reta_ok X hr hlk (Or.inr ⟨_, rfl⟩) (Or.inr ⟨_, rfl⟩) (dk rfl) ⟨q, rfl, hq, hB, rfl⟩ (Nat.le_refl _) (Nat.le_refl _)
set_option maxHeartbeats 4000000 in
theorem c_piece (h : AH) {a f t : Nat} {xs ys : List Nat} (ha : h a = some (IA xs)) (hft : f ≤ t) (ht : t ≤ xs.length) (hn : xs.length < 2 ^ 9) (hy : ys = (xs.drop f).take (t - f)) : CT la D cA B0 pa yX10_piece cX10_piece 5 (some (.array .int)) (rmD 0 1 (t - f)) [.ref a, vI f, vI t] h (newA B0 h ys) := by
  refine CT_of (by decide +kernel) (Nat.le_of_ble_eq_true rfl) ?_
  intro p e s m args below meth c X E hr hlk hnm
  have dk : ∀ {pc : Nat} {q : Instr × Nat}, lkd DX10_piece pc = some q → decode cX10_piece pc = .ok q := lkd_ok DX10_piece_ok
  have hyl : ys.length = t - f := by rw [hy]; simp; omega
  have hyj : ∀ j, j < t - f → ∃ y, ys[j]? = some y ∧ xs[f + j]? = some y := by
    intro j hj
    have h1 : f + j < xs.length := by omega
    refine ⟨xs[f + j], ?_, by simp [h1]⟩
    rw [hy, List.getElem?_take, if_pos hj, List.getElem?_drop]
    simp [h1]
  repeat refine fst1_ok X (dk rfl) rfl ?_
  rw [show nI t - nI f = nI (t - f) from nI_sub hft]
  refine newI_ok (N := t - f) X (by omega) (dk rfl) (by show 0 + 1 ≤ 1; omega) (by show 0 + (t - f) ≤ t - f; omega) (fun q hq hB => ?_)
  have haq : a ≠ q := fun z => by rw [z, hq] at ha; cases ha
  have loop : ∀ (d j : Nat), d = t - f - j → j ≤ t - f → WR p la e (rmD 0 1 (t - f)) s m args below meth c D cA B0 5 (newA B0 h ys) 9 [(4, vI j), (3, .ref q), (0, .ref a), (1, vI f), (2, vI t)] [] (hup h q (100, fillV ys j)) (0 + 1) (0 + (t - f)) := by
    intro d
    induction d with
    | zero =>
      intro j hd hj
      have hj2 : j = t - f := by omega
      subst hj2
      repeat refine fst1_ok X (dk rfl) rfl ?_
      refine alen_ok X (by decide) (dk rfl) (hup_self _ _ _) ?_
      rw [fill_len _ (by omega), hyl]
      refine br_ok X (dk rfl) rfl (show ((13 : Nat) : Int) + 19 = ((32 : Nat) : Int) from rfl) (fun c1 => ?_) (fun c1 => absurd (Int32.le_refl _) c1)
      repeat refine fst1_ok X (dk rfl) rfl ?_
      refine reta_ok X hr hlk (Or.inr ⟨_, rfl⟩) (Or.inr ⟨_, rfl⟩) (dk rfl) ⟨q, rfl, hq, hB, ?_⟩ (by show 0 + 1 ≤ 1; omega) (by show 0 + (t - f) ≤ t - f; omega)
      rw [← hyl, fill_end]
      rfl
    | succ d ih =>
      intro j hd hj
      obtain ⟨y, hy1, hy2⟩ := hyj j (by omega)
      repeat refine fst1_ok X (dk rfl) rfl ?_
      refine alen_ok X (by decide) (dk rfl) (hup_self _ _ _) ?_
      rw [fill_len _ (by omega), hyl]
      refine br_ok X (dk rfl) rfl (show ((13 : Nat) : Int) + 19 = ((32 : Nat) : Int) from rfl) (fun c1 => absurd c1 (nI_ge (by omega) (by omega))) (fun c1 => ?_)
      repeat refine fst1_ok X (dk rfl) rfl ?_
      rw [nI_add]
      refine ald_ok X (Or.inl ⟨rfl, rfl⟩) (dk rfl) (by rw [hup_ne _ _ haq]; exact ha) (inA_nI (by omega) (IA_get hy2)) ?_
      refine sti_ok X (dk rfl) (hup_self _ _ _) (by rw [fill_len _ (by omega)]; omega) (by rw [fill_len _ (by omega)]; omega) ?_
      rw [hup_hup, show Value.int (nI y) = vI y from rfl, fill_set hy1]
      repeat refine fst1_ok X (dk rfl) rfl ?_
      refine br_ok X (dk rfl) rfl (show ((29 : Nat) : Int) + (-20) = ((9 : Nat) : Int) from rfl) (fun _ => ?_) (fun q => absurd trivial q)
      have f2 : Value.int (nI j + Int32.ofInt 1) = vI (j + 1) := congrArg Value.int (by rw [nI_1', nI_add])
      refine WS.loc (l' := [(4, vI (j + 1)), (3, .ref q), (0, .ref a), (1, vI f), (2, vI t)]) [0, 1, 2, 3, 4] (by rw [← f2]; rfl) ?_
      exact ih (j + 1) (by omega) (by omega)
  iterate 3 refine fst1_ok X (dk rfl) rfl ?_
  have hl := loop (t - f) 0 (by omega) (by omega)
  rw [fill_0, hyl] at hl
  exact hl
end M3
end
section
def DJ6_bitCount_0f7a4 : List (Nat × Instr × Nat) := [(0, .iload_n 0, 1), (1, .iload_n 0, 1), (2, .iconst 1, 1), (3, .iushr, 1), (4, .ldc_w 265, 3), (7, .iand, 1), (8, .isub, 1), (9, .istore_n 0, 1), (10, .iload_n 0, 1), (11, .ldc_w 266, 3), (14, .iand, 1), (15, .iload_n 0, 1), (16, .iconst 2, 1), (17, .iushr, 1), (18, .ldc_w 266, 3), (21, .iand, 1), (22, .iadd, 1), (23, .istore_n 0, 1), (24, .iload_n 0, 1), (25, .iload_n 0, 1), (26, .iconst 4, 1), (27, .iushr, 1), (28, .iadd, 1), (29, .ldc_w 267, 3), (32, .iand, 1), (33, .istore_n 0, 1), (34, .iload_n 0, 1), (35, .iload_n 0, 1), (36, .bipush 8, 2), (38, .iushr, 1), (39, .iadd, 1), (40, .istore_n 0, 1), (41, .iload_n 0, 1), (42, .iload_n 0, 1), (43, .bipush 16, 2), (45, .iushr, 1), (46, .iadd, 1), (47, .istore_n 0, 1), (48, .iload_n 0, 1), (49, .bipush 63, 2), (51, .iand, 1), (52, .ireturn, 1)]
set_option maxRecDepth 100000 in
theorem DJ6_bitCount_0f7a4_ok : ∀ q ∈ DJ6_bitCount_0f7a4, decode cJ6_bitCount_0f7a4 q.1 = .ok q.2 := by decide +kernel
def DJ9_max_7cf53 : List (Nat × Instr × Nat) := [(0, .iload_n 0, 1), (1, .iload_n 1, 1), (2, .if_icmp .lt 7, 3), (5, .iload_n 0, 1), (6, .goto 4, 3), (9, .iload_n 1, 1), (10, .ireturn, 1)]
set_option maxRecDepth 100000 in
theorem DJ9_max_7cf53_ok : ∀ q ∈ DJ9_max_7cf53, decode cJ9_max_7cf53 q.1 = .ok q.2 := by decide +kernel
def DJ9_min_7cf53 : List (Nat × Instr × Nat) := [(0, .iload_n 0, 1), (1, .iload_n 1, 1), (2, .if_icmp .gt 7, 3), (5, .iload_n 0, 1), (6, .goto 4, 3), (9, .iload_n 1, 1), (10, .ireturn, 1)]
set_option maxRecDepth 100000 in
theorem DJ9_min_7cf53_ok : ∀ q ∈ DJ9_min_7cf53, decode cJ9_min_7cf53 q.1 = .ok q.2 := by decide +kernel
def DJ7_fill_53178 : List (Nat × Instr × Nat) := [(0, .iconst 0, 1), (1, .istore_n 2, 1), (2, .aload_n 0, 1), (3, .arraylength, 1), (4, .istore_n 3, 1), (5, .iload_n 2, 1), (6, .iload_n 3, 1), (7, .if_icmp .ge 13, 3), (10, .aload_n 0, 1), (11, .iload_n 2, 1), (12, .iload_n 1, 1), (13, .iastore, 1), (14, .iinc 2 1, 3), (17, .goto (-12), 3), (20, .return_, 1)]
set_option maxRecDepth 100000 in
theorem DJ7_fill_53178_ok : ∀ q ∈ DJ7_fill_53178, decode cJ7_fill_53178 q.1 = .ok q.2 := by decide +kernel
end
section
set_option maxRecDepth 100000 in
theorem liJ9 : Cond.initialized RJ9 ∈ WT := WT_of (List.mem_of_getElem? (i := 49) (by decide +kernel)) rfl
set_option maxRecDepth 100000 in
theorem liJ6 : Cond.initialized RJ6 ∈ WT := WT_of (List.mem_of_getElem? (i := 63) (by decide +kernel)) rfl
set_option maxRecDepth 100000 in
theorem liJ7 : Cond.initialized RJ7 ∈ WT := WT_of (List.mem_of_getElem? (i := 64) (by decide +kernel)) rfl
set_option maxRecDepth 100000 in
theorem lcJ6_bitCount_0f7a4 : Cond.code yJ6_bitCount_0f7a4 cJ6_bitCount_0f7a4 1 (some .int) ∈ WT := WT_of (List.mem_of_getElem? (i := 509) (by decide +kernel)) rfl
theorem lkJ6_bitCount_0f7a4 : LK yJ6_bitCount_0f7a4 cJ6_bitCount_0f7a4 1 1 (some .int) := ⟨lcJ6_bitCount_0f7a4, liJ6, ⟨by decide +kernel, by decide +kernel⟩, by decide +kernel⟩
set_option maxRecDepth 100000 in
theorem lsJ6_bitCount_0f7a4 : Cond.static yJ6_bitCount_0f7a4 ∈ WT := WT_of (List.mem_of_getElem? (i := 508) (by decide +kernel)) rfl
set_option maxRecDepth 100000 in
theorem lcJ9_max_7cf53 : Cond.code yJ9_max_7cf53 cJ9_max_7cf53 2 (some .int) ∈ WT := WT_of (List.mem_of_getElem? (i := 94) (by decide +kernel)) rfl
theorem lkJ9_max_7cf53 : LK yJ9_max_7cf53 cJ9_max_7cf53 2 2 (some .int) := ⟨lcJ9_max_7cf53, liJ9, ⟨by decide +kernel, by decide +kernel⟩, by decide +kernel⟩
set_option maxRecDepth 100000 in
theorem lsJ9_max_7cf53 : Cond.static yJ9_max_7cf53 ∈ WT := WT_of (List.mem_of_getElem? (i := 93) (by decide +kernel)) rfl
set_option maxRecDepth 100000 in
theorem lcJ9_min_7cf53 : Cond.code yJ9_min_7cf53 cJ9_min_7cf53 2 (some .int) ∈ WT := WT_of (List.mem_of_getElem? (i := 392) (by decide +kernel)) rfl
theorem lkJ9_min_7cf53 : LK yJ9_min_7cf53 cJ9_min_7cf53 2 2 (some .int) := ⟨lcJ9_min_7cf53, liJ9, ⟨by decide +kernel, by decide +kernel⟩, by decide +kernel⟩
set_option maxRecDepth 100000 in
theorem lsJ9_min_7cf53 : Cond.static yJ9_min_7cf53 ∈ WT := WT_of (List.mem_of_getElem? (i := 391) (by decide +kernel)) rfl
set_option maxRecDepth 100000 in
theorem lcJ7_fill_53178 : Cond.code yJ7_fill_53178 cJ7_fill_53178 4 none ∈ WT := WT_of (List.mem_of_getElem? (i := 277) (by decide +kernel)) rfl
theorem lkJ7_fill_53178 : LK yJ7_fill_53178 cJ7_fill_53178 4 2 none := ⟨lcJ7_fill_53178, liJ7, ⟨by decide +kernel, by decide +kernel⟩, by decide +kernel⟩
set_option maxRecDepth 100000 in
theorem lsJ7_fill_53178 : Cond.static yJ7_fill_53178 ∈ WT := WT_of (List.mem_of_getElem? (i := 276) (by decide +kernel)) rfl
set_option maxRecDepth 100000 in
theorem lcI_265 : Cond.constant RJ6 265 (1431655765 : Int32) ∈ WT := WT_of (List.mem_of_getElem? (i := 510) (by decide +kernel)) rfl
set_option maxRecDepth 100000 in
theorem lcI_266 : Cond.constant RJ6 266 (858993459 : Int32) ∈ WT := WT_of (List.mem_of_getElem? (i := 511) (by decide +kernel)) rfl
set_option maxRecDepth 100000 in
theorem lcI_267 : Cond.constant RJ6 267 (252645135 : Int32) ∈ WT := WT_of (List.mem_of_getElem? (i := 512) (by decide +kernel)) rfl
end
section
/-! more of the reference's small methods -/
section LDC
variable {p : Program} {la : Launch} {e : Env} {R : Room} {s : State} {m : MethodId} {args : Array Value} {below : List Frame} {meth : Method} {c : Code} {Q : State → Prop}
variable {D : va_G} {cA : Nat → ClassId} {B0 pa nL : Nat} {cc : ByteArray} {own : String} {pc k n : Nat} {l : List (Nat × Value)} {r : List Value} {h : AH}
theorem ldcw_ok (X : CX p s m args c D cA B0 nL cc own) {idx : Nat} {v : Int32} (hc : Cond.constant own idx v ∈ WT) (hd : decode cc pc = .ok (.ldc_w idx, 3))
    (kk : WS p la e R s m args below meth c Q D cA B0 nL (pc + 3) l (.int v :: r) h k n) : WS p la e R s m args below meth c Q D cA B0 nL pc l r h k n :=
  fun H locs ls hH hls => lv_ldcw X.1 X.2.1 X.2.2.2.1 (X.2.2.2.2.1 _ hc) hd (kk H locs ls hH hls)
theorem ldc_ok (X : CX p s m args c D cA B0 nL cc own) {idx : Nat} {v : Int32} (hc : Cond.constant own idx v ∈ WT) (hd : decode cc pc = .ok (.ldc idx, 2))
    (kk : WS p la e R s m args below meth c Q D cA B0 nL (pc + 2) l (.int v :: r) h k n) : WS p la e R s m args below meth c Q D cA B0 nL pc l r h k n :=
  fun H locs ls hH hls => lv_ldc X.1 X.2.1 X.2.2.2.1 (X.2.2.2.2.1 _ hc) hd (kk H locs ls hH hls)
theorem ldc2_ok (X : CX p s m args c D cA B0 nL cc own) {idx : Nat} {v : Int64} (hc : Cond.constantLong own idx v ∈ WT) (hd : decode cc pc = .ok (.ldc2_w idx, 3))
    (kk : WS p la e R s m args below meth c Q D cA B0 nL (pc + 3) l (.long v :: r) h k n) : WS p la e R s m args below meth c Q D cA B0 nL pc l r h k n :=
  fun H locs ls hH hls => lv_ldc2 X.1 X.2.1 X.2.2.2.1 (X.2.2.2.2.1 _ hc) hd (kk H locs ls hH hls)
end LDC
/-- the machine's own count of ones -/
def bcF (x : Int32) : Int32 :=
  let a := x - ((x.toUInt32 >>> ((Int32.ofInt 1).toUInt32 &&& Int32.toUInt32 31)).toInt32 &&& 1431655765)
  let b := (a &&& 858993459) + ((a.toUInt32 >>> ((Int32.ofInt 2).toUInt32 &&& Int32.toUInt32 31)).toInt32 &&& 858993459)
  let d := (b + (b.toUInt32 >>> ((Int32.ofInt 4).toUInt32 &&& Int32.toUInt32 31)).toInt32) &&& 252645135
  let f := d + (d.toUInt32 >>> ((Int8.ofInt 8).toInt32.toUInt32 &&& Int32.toUInt32 31)).toInt32
  let g := f + (f.toUInt32 >>> ((Int8.ofInt 16).toInt32.toUInt32 &&& Int32.toUInt32 31)).toInt32
  g &&& (Int8.ofInt 63).toInt32
section M4
variable {la : Launch} {D : va_G} {cA : Nat → ClassId} {B0 pa : Nat}
set_option maxHeartbeats 4000000 in
theorem c_bitCount (h : AH) (x : Int32) : CT la D cA B0 pa yJ6_bitCount_0f7a4 cJ6_bitCount_0f7a4 1 (some .int) (rmD 0 0 0) [.int x] h (fun v h' => v = some (.int (bcF x)) ∧ h' = h) := by
  refine CT_of (by decide +kernel) (Nat.le_of_ble_eq_true rfl) ?_
  intro p e s m args below meth c X E hr hlk hnm
  have dk : ∀ {pc : Nat} {q : Instr × Nat}, lkd DJ6_bitCount_0f7a4 pc = some q → decode cJ6_bitCount_0f7a4 pc = .ok q := lkd_ok DJ6_bitCount_0f7a4_ok
  repeat refine fst1_ok X (dk rfl) rfl ?_
  refine ldcw_ok X lcI_265 (dk rfl) ?_
  repeat refine fst1_ok X (dk rfl) rfl ?_
  refine ldcw_ok X lcI_266 (dk rfl) ?_
  repeat refine fst1_ok X (dk rfl) rfl ?_
  refine ldcw_ok X lcI_266 (dk rfl) ?_
  repeat refine fst1_ok X (dk rfl) rfl ?_
  refine ldcw_ok X lcI_267 (dk rfl) ?_
  repeat refine fst1_ok X (dk rfl) rfl ?_
  exact reti_ok X hr hlk rfl (dk rfl) ⟨rfl, rfl⟩ (Nat.le_refl _) (Nat.le_refl _)
theorem endL_le : ∀ {ys : List Nat} {n k : Nat}, endL n ys = some k → k ≤ ys.length
  | ys, 0, k, h => by simp [endL] at h; omega
  | [], n + 1, k, h => by simp [endL] at h
  | x :: r, n + 1, k, h => by
    simp only [endL, Option.map_eq_some_iff] at h
    obtain ⟨j, hj, rfl⟩ := h
    have := endL_le hj
    simp; omega
set_option maxHeartbeats 4000000 in
theorem c_at (h : AH) {a at' k : Nat} {xs : List Nat} (ha : h a = some (IA xs)) (hx : ∀ x ∈ xs, x < 2 ^ 10) (hn : xs.length < 2 ^ 9) (hk : endL 1 (xs.drop at') = some k) : CT la D cA B0 pa yX10_at cX10_at 2 (some (.array .int)) (rmD 2 1 k) [.ref a, vI at'] h (newA B0 h ((xs.drop at').take k)) := by
  refine CT_of (by decide +kernel) (Nat.le_of_ble_eq_true rfl) ?_
  intro p e s m args below meth c X E hr hlk hnm
  have dk : ∀ {pc : Nat} {q : Instr × Nat}, lkd DX10_at pc = some q → decode cX10_at pc = .ok q := lkd_ok DX10_at_ok
  have hle := endL_le hk
  have hat : at' < xs.length := by
    rcases Nat.lt_or_ge at' xs.length with q | q
    · exact q
    · rw [List.drop_eq_nil_of_le q] at hk; simp [endL] at hk
  rw [List.length_drop] at hle
  repeat refine fst1_ok X (dk rfl) rfl ?_
  refine callS_ok (av := [.ref a, vI at']) (r := [vI at', .ref a]) X E (c_end h ha hx (by omega) hk) lkX10_end mlX10_36 lsX10_end ⟨Nat.le_of_ble_eq_true rfl, Nat.le_of_ble_eq_true rfl⟩ ⟨Nat.le_of_ble_eq_true rfl, by show 0 + 0 ≤ k; omega⟩ (Nat.le_of_ble_eq_true rfl) (dk rfl) ?_
  rintro v h' ⟨rfl, rfl⟩
  refine callS_ok (rm := rmD 0 1 (at' + k - at')) (av := [.ref a, vI at', vI (at' + k)]) (r := []) X E (c_piece h' ha (Nat.le_add_right _ _) (by omega) hn (by rw [Nat.add_sub_cancel_left])) lkX10_piece mlX10_40 lsX10_piece ⟨Nat.le_of_ble_eq_true rfl, Nat.le_of_ble_eq_true rfl⟩ ⟨Nat.le_of_ble_eq_true rfl, by show 0 + 0 + (at' + k - at') ≤ k; omega⟩ (Nat.le_of_ble_eq_true rfl) (dk rfl) ?_
  rintro v h2 ⟨q, rfl, hq, hB, rfl⟩
  exact reta_ok X hr hlk (Or.inr ⟨_, rfl⟩) (Or.inr ⟨_, rfl⟩) (dk rfl) ⟨q, rfl, hq, hB, rfl⟩ (Nat.le_refl _) (by show 0 + 0 + (at' + k - at') ≤ k; omega)
end M4
end
section
/-! comparing rows -/
def diffAt : List Nat → List Nat → Option Nat
  | [], [] => none
  | [], _ :: _ => some 0
  | _ :: _, [] => some 0
  | x :: xs, y :: ys => if x = y then (diffAt xs ys).map (· + 1) else some 0
theorem diffAt_none : ∀ {xs ys : List Nat}, diffAt xs ys = none ↔ xs = ys
  | [], [] => by simp [diffAt]
  | [], _ :: _ => by simp [diffAt]
  | _ :: _, [] => by simp [diffAt]
  | x :: xs, y :: ys => by
    by_cases h : x = y
    · subst h
      simp [diffAt, diffAt_none (xs := xs) (ys := ys)]
    · simp [diffAt, h]
theorem diffAt_lt : ∀ {xs ys : List Nat} {j : Nat}, diffAt xs ys = some j → j < max xs.length ys.length
  | [], [], j, h => by simp [diffAt] at h
  | [], _ :: _, j, h => by simp [diffAt] at h; subst h; simp
  | _ :: _, [], j, h => by simp [diffAt] at h; subst h; simp
  | x :: xs, y :: ys, j, h => by
    by_cases e : x = y
    · simp only [diffAt, e, if_true, Option.map_eq_some_iff] at h
      obtain ⟨i, hi, rfl⟩ := h
      have := diffAt_lt hi
      simp only [List.length_cons]
      omega
    · simp [diffAt, e] at h
      subst h
      simp only [List.length_cons]
      omega
/-- a place, or NONE -/
def vP (o : Option Nat) : Value := match o with
  | some k => vI k
  | none => .int (Int32.ofInt (-1))
section MX
variable {p : Program} {la : Launch} {e : Env} {R : Room} {s : State} {m : MethodId} {args : Array Value} {below : List Frame} {meth : Method} {c : Code} {Q : State → Prop}
variable {D : va_G} {cA : Nat → ClassId} {B0 pa nL : Nat} {cc : ByteArray} {own : String} {pc k n : Nat} {l : List (Nat × Value)} {r : List Value} {h : AH}
theorem mmax_ok (X : CX p s m args c D cA B0 nL cc own) {idx x y : Nat} (hx : x < 2 ^ 20) (hy : y < 2 ^ 20) (hl : Cond.methodLink own idx yJ9_max_7cf53 ∈ WT) (hd : decode cc pc = .ok (.invokestatic idx, 3)) (hfr : 1 ≤ R.frames) (hlo : (r.map fun v => v.category).sum + 13 ≤ R.locals) (h1 : k ≤ R.cells) (h2 : n ≤ R.slots)
    (kk : WS p la e R s m args below meth c Q D cA B0 nL (pc + 3) l (vI (max x y) :: r) h k n) : WS p la e R s m args below meth c Q D cA B0 nL pc l (.int (nI y) :: .int (nI x) :: r) h k n := by
  intro H locs ls hH hls
  refine va_mmax X.1 X.2.1 (X.2.2.1.trans hls.1.symm) X.2.2.2.1 (X.2.2.2.2.1 _ hl) (X.2.2.2.2.1 _ lsJ9_max_7cf53) (X.2.2.2.2.1 _ liJ9) (X.2.2.2.2.1 _ lcJ9_max_7cf53) hfr hlo h1 h2 hd ?_
  have e : (if nI x < nI y then nI y else nI x) = nI (max x y) := by
    by_cases q : x < y
    · rw [if_pos ((nI_ltI (by omega) (by omega)).mpr q), Nat.max_eq_right (by omega)]
    · rw [if_neg (fun z => q ((nI_ltI (by omega) (by omega)).mp z)), Nat.max_eq_left (by omega)]
  rw [e]
  exact kk H locs ls hH hls
theorem mmin_ok (X : CX p s m args c D cA B0 nL cc own) {idx x y : Nat} (hx : x < 2 ^ 20) (hy : y < 2 ^ 20) (hl : Cond.methodLink own idx yJ9_min_7cf53 ∈ WT) (hd : decode cc pc = .ok (.invokestatic idx, 3)) (hfr : 1 ≤ R.frames) (hlo : (r.map fun v => v.category).sum + 13 ≤ R.locals) (h1 : k ≤ R.cells) (h2 : n ≤ R.slots)
    (kk : WS p la e R s m args below meth c Q D cA B0 nL (pc + 3) l (vI (min x y) :: r) h k n) : WS p la e R s m args below meth c Q D cA B0 nL pc l (.int (nI y) :: .int (nI x) :: r) h k n := by
  intro H locs ls hH hls
  refine va_mmin X.1 X.2.1 (X.2.2.1.trans hls.1.symm) X.2.2.2.1 (X.2.2.2.2.1 _ hl) (X.2.2.2.2.1 _ lsJ9_min_7cf53) (X.2.2.2.2.1 _ liJ9) (X.2.2.2.2.1 _ lcJ9_min_7cf53) hfr hlo h1 h2 hd ?_
  have e : (if nI y < nI x then nI y else nI x) = nI (min x y) := by
    by_cases q : y < x
    · rw [if_pos ((nI_ltI (by omega) (by omega)).mpr q), Nat.min_eq_right (by omega)]
    · rw [if_neg (fun z => q ((nI_ltI (by omega) (by omega)).mp z)), Nat.min_eq_left (by omega)]
  rw [e]
  exact kk H locs ls hH hls
end MX
theorem drop_cons {xs : List Nat} {j x : Nat} (h : xs[j]? = some x) : xs.drop j = x :: xs.drop (j + 1) := by
  obtain ⟨hl, rfl⟩ := List.getElem?_eq_some_iff.mp h
  exact List.drop_eq_getElem_cons hl
theorem nI_ge' {a b : Nat} (hb : b < 2 ^ 31) (ha : a < 2 ^ 31) (c : nI a ≤ nI b) : a ≤ b := (nI_leI ha hb).mp c
theorem nI_lt' {a b : Nat} (hb : b < 2 ^ 31) (ha : a < 2 ^ 31) (c : ¬ nI a ≤ nI b) : b < a := by
  rcases Nat.lt_or_ge b a with q | q
  · exact q
  · exact absurd ((nI_leI ha hb).mpr q) c
section M5
variable {la : Launch} {D : va_G} {cA : Nat → ClassId} {B0 pa : Nat}
set_option maxHeartbeats 8000000 in
theorem c_first (h : AH) {a b : Nat} {xs ys : List Nat} (ha : h a = some (IA xs)) (hb : h b = some (IA ys)) (hn : xs.length < 2 ^ 9) (hn2 : ys.length < 2 ^ 9) (hx : ∀ x ∈ xs, x < 2 ^ 10) (hy : ∀ x ∈ ys, x < 2 ^ 10) : CT la D cA B0 pa yX10_first cX10_first 3 (some .int) (rmD 1 0 0) [.ref a, .ref b] h (fun v h' => v = some (vP (diffAt xs ys)) ∧ h' = h) := by
  refine CT_of (by decide +kernel) (Nat.le_of_ble_eq_true rfl) ?_
  intro p e s m args below meth c X E hr hlk hnm
  have dk : ∀ {pc : Nat} {q : Instr × Nat}, lkd DX10_first pc = some q → decode cX10_first pc = .ok q := lkd_ok DX10_first_ok
  have la' : (xs.map vI).length = xs.length := List.length_map _
  have lb' : (ys.map vI).length = ys.length := List.length_map _
  have loop : ∀ (d j : Nat), d = max xs.length ys.length - j → j ≤ max xs.length ys.length → diffAt xs ys = (diffAt (xs.drop j) (ys.drop j)).map (· + j) → WR p la e (rmD 1 0 0) s m args below meth c D cA B0 3 (fun v h' => v = some (vP (diffAt xs ys)) ∧ h' = h) 2 [(2, vI j), (0, .ref a), (1, .ref b)] [] h 0 0 := by
    intro d
    induction d with
    | zero =>
      intro j hd hj hdf
      have h1 : xs.length ≤ j := by omega
      have h2 : ys.length ≤ j := by omega
      repeat refine fst1_ok X (dk rfl) rfl ?_
      refine alen_ok X (by decide) (dk rfl) ha ?_
      repeat refine fst1_ok X (dk rfl) rfl ?_
      refine alen_ok X (by decide) (dk rfl) hb ?_
      rw [la', lb']
      refine mmax_ok X (by omega) (by omega) mlX10_48 (dk rfl) (by decide) (Nat.le_of_ble_eq_true rfl) (by decide) (by decide) ?_
      refine br_ok X (dk rfl) rfl (show ((10 : Nat) : Int) + 32 = ((42 : Nat) : Int) from rfl) (fun c1 => ?_) (fun c1 => absurd (nI_le (by omega) (by omega)) c1)
      repeat refine fst1_ok X (dk rfl) rfl ?_
      refine reti_ok X hr hlk rfl (dk rfl) ⟨?_, rfl⟩ (Nat.le_refl _) (Nat.le_refl _)
      rw [hdf, List.drop_eq_nil_of_le h1, List.drop_eq_nil_of_le h2]
      rfl
    | succ d ih =>
      intro j hd hj hdf
      repeat refine fst1_ok X (dk rfl) rfl ?_
      refine alen_ok X (by decide) (dk rfl) ha ?_
      repeat refine fst1_ok X (dk rfl) rfl ?_
      refine alen_ok X (by decide) (dk rfl) hb ?_
      rw [la', lb']
      refine mmax_ok X (by omega) (by omega) mlX10_48 (dk rfl) (by decide) (Nat.le_of_ble_eq_true rfl) (by decide) (by decide) ?_
      refine br_ok X (dk rfl) rfl (show ((10 : Nat) : Int) + 32 = ((42 : Nat) : Int) from rfl) (fun c1 => absurd c1 (nI_ge (by omega) (by omega))) (fun c1 => ?_)
      repeat refine fst1_ok X (dk rfl) rfl ?_
      refine alen_ok X (by decide) (dk rfl) ha ?_
      rw [la']
      refine br_ok X (dk rfl) rfl (show ((16 : Nat) : Int) + 18 = ((34 : Nat) : Int) from rfl) (fun c2 => ?_) (fun c2 => ?_)
      · have h1 : xs.length ≤ j := nI_ge' (by omega) (by omega) c2
        obtain ⟨y, hy1⟩ : ∃ y, ys[j]? = some y := ⟨ys[j]'(by omega), by simp⟩
        repeat refine fst1_ok X (dk rfl) rfl ?_
        refine reti_ok X hr hlk rfl (dk rfl) ⟨?_, rfl⟩ (Nat.le_refl _) (Nat.le_refl _)
        rw [hdf, List.drop_eq_nil_of_le h1, drop_cons hy1]
        simp [diffAt, vP, vI]
      · have h1 : j < xs.length := nI_lt' (by omega) (by omega) c2
        obtain ⟨x, hx1⟩ : ∃ x, xs[j]? = some x := ⟨xs[j]'h1, by simp⟩
        repeat refine fst1_ok X (dk rfl) rfl ?_
        refine alen_ok X (by decide) (dk rfl) hb ?_
        rw [lb']
        refine br_ok X (dk rfl) rfl (show ((22 : Nat) : Int) + 12 = ((34 : Nat) : Int) from rfl) (fun c3 => ?_) (fun c3 => ?_)
        · have h2 : ys.length ≤ j := nI_ge' (by omega) (by omega) c3
          repeat refine fst1_ok X (dk rfl) rfl ?_
          refine reti_ok X hr hlk rfl (dk rfl) ⟨?_, rfl⟩ (Nat.le_refl _) (Nat.le_refl _)
          rw [hdf, List.drop_eq_nil_of_le h2, drop_cons hx1]
          simp [diffAt, vP, vI]
        · have h2 : j < ys.length := nI_lt' (by omega) (by omega) c3
          obtain ⟨y, hy1⟩ : ∃ y, ys[j]? = some y := ⟨ys[j]'h2, by simp⟩
          have hx2 := hx x (List.mem_of_getElem? hx1)
          have hy2 := hy y (List.mem_of_getElem? hy1)
          repeat refine fst1_ok X (dk rfl) rfl ?_
          refine ald_ok X (Or.inl ⟨rfl, rfl⟩) (dk rfl) ha (inA_nI (by omega) (IA_get hx1)) ?_
          repeat refine fst1_ok X (dk rfl) rfl ?_
          refine ald_ok X (Or.inl ⟨rfl, rfl⟩) (dk rfl) hb (inA_nI (by omega) (IA_get hy1)) ?_
          rw [drop_cons hx1, drop_cons hy1] at hdf
          refine br_ok X (dk rfl) rfl (show ((31 : Nat) : Int) + 5 = ((36 : Nat) : Int) from rfl) (fun c4 => ?_) (fun c4 => ?_)
          · have hxy : x = y := (nI_eq (by omega) (by omega)).mp c4
            subst hxy
            repeat refine fst1_ok X (dk rfl) rfl ?_
            refine br_ok X (dk rfl) rfl (show ((39 : Nat) : Int) + (-37) = ((2 : Nat) : Int) from rfl) (fun _ => ?_) (fun q => absurd trivial q)
            have f2 : Value.int (nI j + Int32.ofInt 1) = vI (j + 1) := congrArg Value.int (by rw [nI_1', nI_add])
            refine WS.loc (l' := [(2, vI (j + 1)), (0, .ref a), (1, .ref b)]) [0, 1, 2] (by rw [← f2]; rfl) ?_
            refine ih (j + 1) (by omega) (by omega) ?_
            rw [hdf]
            simp only [diffAt, if_true, Option.map_map]
            congr 1
            funext z
            simp only [Function.comp_apply]
            omega
          · have hxy : ¬ x = y := fun z => c4 (by rw [z])
            repeat refine fst1_ok X (dk rfl) rfl ?_
            refine reti_ok X hr hlk rfl (dk rfl) ⟨?_, rfl⟩ (Nat.le_refl _) (Nat.le_refl _)
            rw [hdf]
            simp [diffAt, hxy, vP, vI]
  iterate 2 refine fst1_ok X (dk rfl) rfl ?_
  exact loop _ 0 rfl (Nat.zero_le _) (by simp)
set_option maxHeartbeats 4000000 in
theorem c_same (h : AH) {a b : Nat} {xs ys : List Nat} (ha : h a = some (IA xs)) (hb : h b = some (IA ys)) (hn : xs.length < 2 ^ 9) (hn2 : ys.length < 2 ^ 9) (hx : ∀ x ∈ xs, x < 2 ^ 10) (hy : ∀ x ∈ ys, x < 2 ^ 10) : CT la D cA B0 pa yX10_same cX10_same 2 (some .boolean) (rmD 2 0 0) [.ref a, .ref b] h (fun v h' => v = some (.int (if xs = ys then 1 else 0)) ∧ h' = h) := by
  refine CT_of (by decide +kernel) (Nat.le_of_ble_eq_true rfl) ?_
  intro p e s m args below meth c X E hr hlk hnm
  have dk : ∀ {pc : Nat} {q : Instr × Nat}, lkd DX10_same pc = some q → decode cX10_same pc = .ok q := lkd_ok DX10_same_ok
  repeat refine fst1_ok X (dk rfl) rfl ?_
  refine callS_ok (av := [.ref a, .ref b]) (r := []) X E (c_first h ha hb hn hn2 hx hy) lkX10_first mlX10_44 lsX10_first ⟨Nat.le_of_ble_eq_true rfl, Nat.le_of_ble_eq_true rfl⟩ ⟨Nat.le_of_ble_eq_true rfl, Nat.le_of_ble_eq_true rfl⟩ (Nat.le_of_ble_eq_true rfl) (dk rfl) ?_
  rintro v h' ⟨rfl, rfl⟩
  cases hdf : diffAt xs ys with
  | none =>
    refine br_ok X (dk rfl) rfl (show ((5 : Nat) : Int) + 7 = ((12 : Nat) : Int) from rfl) (fun c1 => absurd c1 (by decide)) (fun c1 => ?_)
    repeat refine fst1_ok X (dk rfl) rfl ?_
    refine br_ok X (dk rfl) rfl (show ((9 : Nat) : Int) + 4 = ((13 : Nat) : Int) from rfl) (fun _ => ?_) (fun q => absurd trivial q)
    exact reti_ok X hr hlk rfl (dk rfl) ⟨by rw [if_pos (diffAt_none.mp hdf)]; rfl, rfl⟩ (Nat.le_refl _) (Nat.le_refl _)
  | some j =>
    have hj : j < 2 ^ 20 := by have := diffAt_lt hdf; omega
    refine br_ok X (dk rfl) rfl (show ((5 : Nat) : Int) + 7 = ((12 : Nat) : Int) from rfl) (fun c1 => ?_) (fun c1 => absurd (nI_pos' (by omega)) c1)
    repeat refine fst1_ok X (dk rfl) rfl ?_
    have hne : ¬ xs = ys := fun z => by rw [diffAt_none.mpr z] at hdf; cases hdf
    exact reti_ok X hr hlk rfl (dk rfl) ⟨by rw [if_neg hne]; rfl, rfl⟩ (Nat.le_refl _) (Nat.le_refl _)
end M5
end
section
/-! the term at a place, rows behind each other, rows of rows -/
def Ext (h h' : AH) : Prop := ∀ (a : Nat) (c : AC), h a = some c → h' a = some c
theorem Ext.rf (h : AH) : Ext h h := fun _ _ e => e
theorem Ext.trans {h1 h2 h3 : AH} (a : Ext h1 h2) (b : Ext h2 h3) : Ext h1 h3 := fun x c e => b x c (a x c e)
theorem Ext.new {h : AH} {q : Nat} (hq : h q = none) (c : AC) : Ext h (hup h q c) := fun a c' e => by
  rw [hup_ne _ _ (fun z => by rw [z, hq] at e; cases e)]
  exact e
theorem Ext.set {h h' : AH} {q : Nat} (E : Ext h h') (hq : h q = none) (c : AC) : Ext h (hup h' q c) := fun a c' e => by
  rw [hup_ne _ _ (fun z => by rw [z, hq] at e; cases e)]
  exact E a c' e
/-- an array of rows -/
def Ans (h : AH) (A : Nat) (rows : List (List Nat)) : Prop := ∃ as : List Nat, as.length = rows.length ∧ h A = some (105, as.map Value.ref) ∧ ∀ (k a : Nat) (r : List Nat), as[k]? = some a → rows[k]? = some r → h a = some (IA r)
theorem Ans.ext {h h' : AH} {A : Nat} {rows : List (List Nat)} (H : Ans h A rows) (E : Ext h h') : Ans h' A rows := by
  obtain ⟨as, h1, h2, h3⟩ := H
  exact ⟨as, h1, E _ _ h2, fun k a r e1 e2 => E _ _ (h3 k a r e1 e2)⟩
section M6
variable {la : Launch} {D : va_G} {cA : Nat → ClassId} {B0 pa : Nat}
set_option maxHeartbeats 8000000 in
theorem c_isAt (h : AH) {a b f g k1 k2 : Nat} {xs ys : List Nat} (ha : h a = some (IA xs)) (hb : h b = some (IA ys)) (hn : xs.length < 2 ^ 9) (hn2 : ys.length < 2 ^ 9) (hx : ∀ x ∈ xs, x < 2 ^ 10) (hy : ∀ x ∈ ys, x < 2 ^ 10) (hk1 : endL 1 (xs.drop f) = some k1) (hk2 : endL 1 (ys.drop g) = some k2) :
    CT la D cA B0 pa yX10_isAt cX10_isAt 6 (some .boolean) (rmD 2 0 0) [.ref a, vI f, .ref b, vI g] h (fun v h' => v = some (.int (if (xs.drop f).take k1 = (ys.drop g).take k2 then 1 else 0)) ∧ h' = h) := by
  refine CT_of (by decide +kernel) (Nat.le_of_ble_eq_true rfl) ?_
  intro p e s m args below meth c X E hr hlk hnm
  have dk : ∀ {pc : Nat} {q : Instr × Nat}, lkd DX10_isAt pc = some q → decode cX10_isAt pc = .ok q := lkd_ok DX10_isAt_ok
  have hle1 := endL_le hk1
  have hle2 := endL_le hk2
  have hf : f < xs.length := by
    rcases Nat.lt_or_ge f xs.length with q | q
    · exact q
    · rw [List.drop_eq_nil_of_le q] at hk1; simp [endL] at hk1
  have hg : g < ys.length := by
    rcases Nat.lt_or_ge g ys.length with q | q
    · exact q
    · rw [List.drop_eq_nil_of_le q] at hk2; simp [endL] at hk2
  rw [List.length_drop] at hle1 hle2
  repeat refine fst1_ok X (dk rfl) rfl ?_
  refine callS_ok (av := [.ref a, vI f]) (r := []) X E (c_end h ha hx (by omega) hk1) lkX10_end mlX10_36 lsX10_end ⟨Nat.le_of_ble_eq_true rfl, Nat.le_of_ble_eq_true rfl⟩ ⟨Nat.le_of_ble_eq_true rfl, Nat.le_of_ble_eq_true rfl⟩ (Nat.le_of_ble_eq_true rfl) (dk rfl) ?_
  rintro v h' ⟨rfl, rfl⟩
  repeat refine fst1_ok X (dk rfl) rfl ?_
  rw [show nI (f + k1) - nI f = nI k1 by rw [nI_sub (by omega), Nat.add_sub_cancel_left]]
  refine callS_ok (av := [.ref b, vI g]) (r := [vI k1]) X E (c_end h' hb hy (by omega) hk2) lkX10_end mlX10_36 lsX10_end ⟨Nat.le_of_ble_eq_true rfl, Nat.le_of_ble_eq_true rfl⟩ ⟨Nat.le_of_ble_eq_true rfl, Nat.le_of_ble_eq_true rfl⟩ (Nat.le_of_ble_eq_true rfl) (dk rfl) ?_
  rintro v h2 ⟨rfl, rfl⟩
  repeat refine fst1_ok X (dk rfl) rfl ?_
  rw [show nI (g + k2) - nI g = nI k2 by rw [nI_sub (by omega), Nat.add_sub_cancel_left]]
  refine br_ok X (dk rfl) rfl (show ((18 : Nat) : Int) + 5 = ((23 : Nat) : Int) from rfl) (fun c1 => ?_) (fun c1 => ?_)
  · have hkk : k1 = k2 := (nI_eq (by omega) (by omega)).mp c1
    subst hkk
    have loop : ∀ (d j : Nat), d = k1 - j → j ≤ k1 → ((xs.drop f).take k1 = (ys.drop g).take k1 ↔ ((xs.drop (f + j)).take (k1 - j) = (ys.drop (g + j)).take (k1 - j))) → WR p la e (rmD 2 0 0) s m args below meth c D cA B0 6 (fun v h' => v = some (.int (if (xs.drop f).take k1 = (ys.drop g).take k1 then 1 else 0)) ∧ h' = h2) 26 [(5, vI (f + j)), (4, vI (f + k1)), (0, .ref a), (1, vI f), (2, .ref b), (3, vI g)] [] h2 0 0 := by
      intro d
      induction d with
      | zero =>
        intro j hd hj hiff
        have hj2 : j = k1 := by omega
        subst hj2
        repeat refine fst1_ok X (dk rfl) rfl ?_
        refine br_ok X (dk rfl) rfl (show ((30 : Nat) : Int) + 26 = ((56 : Nat) : Int) from rfl) (fun c1 => ?_) (fun c1 => absurd (Int32.le_refl _) c1)
        repeat refine fst1_ok X (dk rfl) rfl ?_
        refine reti_ok X hr hlk rfl (dk rfl) ⟨?_, rfl⟩ (Nat.le_refl _) (Nat.le_refl _)
        rw [if_pos (hiff.mpr (by simp))]
        rfl
      | succ d ih =>
        intro j hd hj hiff
        obtain ⟨x, hx1⟩ : ∃ x, xs[f + j]? = some x := ⟨xs[f + j]'(by omega), by simp⟩
        obtain ⟨y, hy1⟩ : ∃ y, ys[g + j]? = some y := ⟨ys[g + j]'(by omega), by simp⟩
        have hx2 := hx x (List.mem_of_getElem? hx1)
        have hy2 := hy y (List.mem_of_getElem? hy1)
        repeat refine fst1_ok X (dk rfl) rfl ?_
        refine br_ok X (dk rfl) rfl (show ((30 : Nat) : Int) + 26 = ((56 : Nat) : Int) from rfl) (fun c1 => absurd c1 (nI_ge (by omega) (by omega))) (fun c1 => ?_)
        repeat refine fst1_ok X (dk rfl) rfl ?_
        refine ald_ok X (Or.inl ⟨rfl, rfl⟩) (dk rfl) ha (inA_nI (by omega) (IA_get hx1)) ?_
        repeat refine fst1_ok X (dk rfl) rfl ?_
        rw [show nI g + nI (f + j) - nI f = nI (g + j) by rw [nI_add, nI_sub (by omega)]; congr 1; omega]
        refine ald_ok X (Or.inl ⟨rfl, rfl⟩) (dk rfl) hb (inA_nI (by omega) (IA_get hy1)) ?_
        have e1 : k1 - j = (k1 - (j + 1)) + 1 := by omega
        rw [drop_cons hx1, drop_cons hy1, e1, List.take_succ_cons, List.take_succ_cons] at hiff
        refine br_ok X (dk rfl) rfl (show ((45 : Nat) : Int) + 5 = ((50 : Nat) : Int) from rfl) (fun c4 => ?_) (fun c4 => ?_)
        · have hxy : x = y := (nI_eq (by omega) (by omega)).mp c4
          subst hxy
          repeat refine fst1_ok X (dk rfl) rfl ?_
          refine br_ok X (dk rfl) rfl (show ((53 : Nat) : Int) + (-27) = ((26 : Nat) : Int) from rfl) (fun _ => ?_) (fun q => absurd trivial q)
          have f2 : Value.int (nI (f + j) + Int32.ofInt 1) = vI (f + (j + 1)) := congrArg Value.int (by rw [nI_1', nI_add]; rfl)
          refine WS.loc (l' := [(5, vI (f + (j + 1))), (4, vI (f + k1)), (0, .ref a), (1, vI f), (2, .ref b), (3, vI g)]) [0, 1, 2, 3, 4, 5] (by rw [← f2]; rfl) ?_
          refine ih (j + 1) (by omega) (by omega) (hiff.trans ?_)
          rw [List.cons.injEq]
          simp only [true_and]
          rfl
        · have hxy : ¬ x = y := fun z => c4 (by rw [z])
          repeat refine fst1_ok X (dk rfl) rfl ?_
          refine reti_ok X hr hlk rfl (dk rfl) ⟨?_, rfl⟩ (Nat.le_refl _) (Nat.le_refl _)
          rw [if_neg (fun z => by have := hiff.mp z; rw [List.cons.injEq] at this; exact hxy this.1)]
          rfl
    iterate 2 refine fst1_ok X (dk rfl) rfl ?_
    exact loop k1 0 rfl (Nat.zero_le _) (by simp)
  · have hne : ¬ k1 = k2 := fun z => c1 (by rw [z])
    repeat refine fst1_ok X (dk rfl) rfl ?_
    refine reti_ok X hr hlk rfl (dk rfl) ⟨?_, rfl⟩ (Nat.le_refl _) (Nat.le_refl _)
    rw [if_neg (fun z => by have := congrArg List.length z; simp at this; omega)]
    rfl
set_option maxHeartbeats 8000000 in
theorem c_joined (h : AH) {a b : Nat} {xs ys : List Nat} (ha : h a = some (IA xs)) (hb : h b = some (IA ys)) (hn : xs.length < 2 ^ 8) (hn2 : ys.length < 2 ^ 8) : CT la D cA B0 pa yX10_joined cX10_joined 4 (some (.array .int)) (rmD 0 1 (xs.length + ys.length)) [.ref a, .ref b] h (newA B0 h (xs ++ ys)) := by
  refine CT_of (by decide +kernel) (Nat.le_of_ble_eq_true rfl) ?_
  intro p e s m args below meth c X E hr hlk hnm
  have dk : ∀ {pc : Nat} {q : Instr × Nat}, lkd DX10_joined pc = some q → decode cX10_joined pc = .ok q := lkd_ok DX10_joined_ok
  have la' : (xs.map vI).length = xs.length := List.length_map _
  have lb' : (ys.map vI).length = ys.length := List.length_map _
  have ll : (xs ++ ys).length = xs.length + ys.length := List.length_append
  repeat refine fst1_ok X (dk rfl) rfl ?_
  refine alen_ok X (by decide) (dk rfl) ha ?_
  repeat refine fst1_ok X (dk rfl) rfl ?_
  refine alen_ok X (by decide) (dk rfl) hb ?_
  repeat refine fst1_ok X (dk rfl) rfl ?_
  rw [la', lb', nI_add]
  refine newI_ok (N := xs.length + ys.length) X (by omega) (dk rfl) (by show 0 + 1 ≤ 1; omega) (by show 0 + (xs.length + ys.length) ≤ xs.length + ys.length; omega) (fun q hq hB => ?_)
  have haq : a ≠ q := fun z => by rw [z, hq] at ha; cases ha
  have hbq : b ≠ q := fun z => by rw [z, hq] at hb; cases hb
  have loop : ∀ (d j : Nat), d = xs.length + ys.length - j → j ≤ xs.length + ys.length → WR p la e (rmD 0 1 (xs.length + ys.length)) s m args below meth c D cA B0 4 (newA B0 h (xs ++ ys)) 10 [(3, vI j), (2, .ref q), (0, .ref a), (1, .ref b)] [] (hup h q (100, fillV (xs ++ ys) j)) (0 + 1) (0 + (xs.length + ys.length)) := by
    intro d
    induction d with
    | zero =>
      intro j hd hj
      have hj2 : j = xs.length + ys.length := by omega
      subst hj2
      repeat refine fst1_ok X (dk rfl) rfl ?_
      refine alen_ok X (by decide) (dk rfl) (hup_self _ _ _) ?_
      rw [fill_len _ (by omega), ll]
      refine br_ok X (dk rfl) rfl (show ((13 : Nat) : Int) + 30 = ((43 : Nat) : Int) from rfl) (fun c1 => ?_) (fun c1 => absurd (Int32.le_refl _) c1)
      repeat refine fst1_ok X (dk rfl) rfl ?_
      refine reta_ok X hr hlk (Or.inr ⟨_, rfl⟩) (Or.inr ⟨_, rfl⟩) (dk rfl) ⟨q, rfl, hq, hB, ?_⟩ (by show 0 + 1 ≤ 1; omega) (by show 0 + (xs.length + ys.length) ≤ xs.length + ys.length; omega)
      rw [← ll, fill_end]
      rfl
    | succ d ih =>
      intro j hd hj
      obtain ⟨y, hy1⟩ : ∃ y, (xs ++ ys)[j]? = some y := ⟨(xs ++ ys)[j]'(by omega), by simp⟩
      have fin' : WR p la e (rmD 0 1 (xs.length + ys.length)) s m args below meth c D cA B0 4 (newA B0 h (xs ++ ys)) 36 [(3, vI j), (2, .ref q), (0, .ref a), (1, .ref b)] [vI y, vI j, .ref q] (hup h q (100, fillV (xs ++ ys) j)) (0 + 1) (0 + (xs.length + ys.length)) := by
        refine sti_ok X (dk rfl) (hup_self _ _ _) (by rw [fill_len _ (by omega)]; omega) (by rw [fill_len _ (by omega)]; omega) ?_
        rw [hup_hup, show Value.int (nI y) = vI y from rfl, fill_set hy1]
        repeat refine fst1_ok X (dk rfl) rfl ?_
        refine br_ok X (dk rfl) rfl (show ((40 : Nat) : Int) + (-30) = ((10 : Nat) : Int) from rfl) (fun _ => ?_) (fun q => absurd trivial q)
        have f2 : Value.int (nI j + Int32.ofInt 1) = vI (j + 1) := congrArg Value.int (by rw [nI_1', nI_add])
        refine WS.loc (l' := [(3, vI (j + 1)), (2, .ref q), (0, .ref a), (1, .ref b)]) [0, 1, 2, 3] (by rw [← f2]; rfl) ?_
        exact ih (j + 1) (by omega) (by omega)
      repeat refine fst1_ok X (dk rfl) rfl ?_
      refine alen_ok X (by decide) (dk rfl) (hup_self _ _ _) ?_
      rw [fill_len _ (by omega), ll]
      refine br_ok X (dk rfl) rfl (show ((13 : Nat) : Int) + 30 = ((43 : Nat) : Int) from rfl) (fun c1 => absurd c1 (nI_ge (by omega) (by omega))) (fun c1 => ?_)
      repeat refine fst1_ok X (dk rfl) rfl ?_
      refine alen_ok (kd := 100) (vs := xs.map vI) X (by decide) (dk rfl) (by rw [hup_ne _ _ haq]; exact ha) ?_
      rw [la']
      refine br_ok X (dk rfl) rfl (show ((21 : Nat) : Int) + 9 = ((30 : Nat) : Int) from rfl) (fun c2 => ?_) (fun c2 => ?_)
      · have h1 : xs.length ≤ j := nI_ge' (by omega) (by omega) c2
        rw [List.getElem?_append_right h1] at hy1
        repeat refine fst1_ok X (dk rfl) rfl ?_
        refine alen_ok (kd := 100) (vs := xs.map vI) X (by decide) (dk rfl) (by rw [hup_ne _ _ haq]; exact ha) ?_
        repeat refine fst1_ok X (dk rfl) rfl ?_
        rw [la', nI_sub h1]
        refine ald_ok X (Or.inl ⟨rfl, rfl⟩) (dk rfl) (by rw [hup_ne _ _ hbq]; exact hb) (inA_nI (by omega) (IA_get hy1)) ?_
        exact fin'
      · have h1 : j < xs.length := nI_lt' (by omega) (by omega) c2
        rw [List.getElem?_append_left h1] at hy1
        repeat refine fst1_ok X (dk rfl) rfl ?_
        refine ald_ok X (Or.inl ⟨rfl, rfl⟩) (dk rfl) (by rw [hup_ne _ _ haq]; exact ha) (inA_nI (by omega) (IA_get hy1)) ?_
        refine br_ok X (dk rfl) rfl (show ((27 : Nat) : Int) + 9 = ((36 : Nat) : Int) from rfl) (fun _ => ?_) (fun q => absurd trivial q)
        exact fin'
  iterate 3 refine fst1_ok X (dk rfl) rfl ?_
  have hl := loop _ 0 rfl (Nat.zero_le _)
  rw [fill_0, ll] at hl
  exact hl
end M6
end
section
/-! names of a row, how often a letter stands there, none, moved, used -/
theorem nI_or (a b : Nat) : nI a ||| nI b = nI (a ||| b) := by
  apply Int32.toBitVec_inj.mp
  show BitVec.ofNat 32 a ||| BitVec.ofNat 32 b = BitVec.ofNat 32 (a ||| b)
  apply BitVec.eq_of_getLsbD_eq
  intro i hi
  rw [BitVec.getLsbD_or, BitVec.getLsbD_ofNat, BitVec.getLsbD_ofNat, BitVec.getLsbD_ofNat, Nat.testBit_or]
  simp [hi]
theorem shl1 : ∀ x : Nat, x < 31 → Int32.ofInt 1 <<< (nI x &&& 31) = nI (2 ^ x) := by decide +kernel
def namesN (xs : List Nat) : Nat := xs.foldl (fun m x => if x < 10 then m ||| 2 ^ x else m) 0
theorem foldl_take_succ {α β : Type} (f : β → α → β) (b : β) {xs : List α} {j : Nat} {x : α} (h : xs[j]? = some x) : (xs.take (j + 1)).foldl f b = f ((xs.take j).foldl f b) x := by
  rw [List.take_succ, h, List.foldl_append]
  rfl
def oftenN (xs : List Nat) (y : Nat) : Nat := xs.foldl (fun m x => if x = y then m + 1 else m) 0
theorem oftenN_le (y : Nat) : ∀ (xs : List Nat) (b : Nat), xs.foldl (fun m x => if x = y then m + 1 else m) b ≤ b + xs.length
  | [], b => by simp
  | x :: r, b => by
    rw [List.foldl_cons, List.length_cons]
    have := oftenN_le y r (if x = y then b + 1 else b)
    have h2 : (if x = y then b + 1 else b) ≤ b + 1 := by split <;> omega
    omega
section M7
variable {la : Launch} {D : va_G} {cA : Nat → ClassId} {B0 pa : Nat}
set_option maxHeartbeats 8000000 in
theorem c_ones (h : AH) (x : Int32) : CT la D cA B0 pa yX10_ones cX10_ones 1 (some .int) (rmD 1 0 0) [.int x] h (fun v h' => v = some (.int (bcF x)) ∧ h' = h) := by
  refine CT_of (by decide +kernel) (Nat.le_of_ble_eq_true rfl) ?_
  intro p e s m args below meth c X E hr hlk hnm
  have dk : ∀ {pc : Nat} {q : Instr × Nat}, lkd DX10_ones pc = some q → decode cX10_ones pc = .ok q := lkd_ok DX10_ones_ok
  repeat refine fst1_ok X (dk rfl) rfl ?_
  refine callS_ok (av := [.int x]) (r := []) X E (c_bitCount h x) lkJ6_bitCount_0f7a4 mlX10_58 lsJ6_bitCount_0f7a4 ⟨Nat.le_of_ble_eq_true rfl, Nat.le_of_ble_eq_true rfl⟩ ⟨Nat.le_of_ble_eq_true rfl, Nat.le_of_ble_eq_true rfl⟩ (Nat.le_of_ble_eq_true rfl) (dk rfl) ?_
  rintro v h' ⟨rfl, rfl⟩
  exact reti_ok X hr hlk rfl (dk rfl) ⟨rfl, rfl⟩ (Nat.le_refl _) (Nat.le_refl _)
set_option maxHeartbeats 8000000 in
theorem c_namesOf (h : AH) {a : Nat} {xs : List Nat} (ha : h a = some (IA xs)) (hn : xs.length < 2 ^ 9) (hx : ∀ x ∈ xs, x < 2 ^ 10) : CT la D cA B0 pa yX10_namesOf cX10_namesOf 6 (some .int) (rmD 0 0 0) [.ref a] h (fun v h' => v = some (vI (namesN xs)) ∧ h' = h) := by
  refine CT_of (by decide +kernel) (Nat.le_of_ble_eq_true rfl) ?_
  intro p e s m args below meth c X E hr hlk hnm
  have dk : ∀ {pc : Nat} {q : Instr × Nat}, lkd DX10_namesOf pc = some q → decode cX10_namesOf pc = .ok q := lkd_ok DX10_namesOf_ok
  have la' : (xs.map vI).length = xs.length := List.length_map _
  repeat refine fst1_ok X (dk rfl) rfl ?_
  refine alen_ok X (by decide) (dk rfl) ha ?_
  rw [la']
  have loop : ∀ (d j : Nat), d = xs.length - j → j ≤ xs.length → ∀ (l : List (Nat × Value)), lv_pick l [0, 1, 2, 3, 4] = [(4, vI j), (3, vI xs.length), (2, .ref a), (1, vI ((xs.take j).foldl (fun m x => if x < 10 then m ||| 2 ^ x else m) 0)), (0, .ref a)] → WR p la e (rmD 0 0 0) s m args below meth c D cA B0 6 (fun v h' => v = some (vI (namesN xs)) ∧ h' = h) 10 l [] h 0 0 := by
    intro d
    induction d with
    | zero =>
      intro j hd hj l hl
      have hj2 : j = xs.length := by omega
      subst hj2
      refine WS.loc [0, 1, 2, 3, 4] hl ?_
      repeat refine fst1_ok X (dk rfl) rfl ?_
      refine br_ok X (dk rfl) rfl (show ((13 : Nat) : Int) + 33 = ((46 : Nat) : Int) from rfl) (fun c1 => ?_) (fun c1 => absurd (Int32.le_refl _) c1)
      repeat refine fst1_ok X (dk rfl) rfl ?_
      refine reti_ok X hr hlk rfl (dk rfl) ⟨?_, rfl⟩ (Nat.le_refl _) (Nat.le_refl _)
      rw [List.take_length]
      rfl
    | succ d ih =>
      intro j hd hj l hl
      obtain ⟨x, hx1⟩ : ∃ x, xs[j]? = some x := ⟨xs[j]'(by omega), by simp⟩
      have hx2 := hx x (List.mem_of_getElem? hx1)
      refine WS.loc [0, 1, 2, 3, 4] hl ?_
      repeat refine fst1_ok X (dk rfl) rfl ?_
      refine br_ok X (dk rfl) rfl (show ((13 : Nat) : Int) + 33 = ((46 : Nat) : Int) from rfl) (fun c1 => absurd c1 (nI_ge (by omega) (by omega))) (fun c1 => ?_)
      repeat refine fst1_ok X (dk rfl) rfl ?_
      refine ald_ok X (Or.inl ⟨rfl, rfl⟩) (dk rfl) ha (inA_nI (by omega) (IA_get hx1)) ?_
      repeat refine fst1_ok X (dk rfl) rfl ?_
      have f2 : Value.int (nI j + Int32.ofInt 1) = vI (j + 1) := congrArg Value.int (by rw [nI_1', nI_add])
      have hfs := foldl_take_succ (fun m x => if x < 10 then m ||| 2 ^ x else m) 0 hx1
      refine br_ok X (dk rfl) rfl (show ((27 : Nat) : Int) + 10 = ((37 : Nat) : Int) from rfl) (fun c2 => ?_) (fun c2 => ?_)
      · rw [nI_10] at c2
        have h1 : 10 ≤ x := nI_ge' (by omega) (by omega) c2
        rw [if_neg (by omega)] at hfs
        repeat refine fst1_ok X (dk rfl) rfl ?_
        refine br_ok X (dk rfl) rfl (show ((43 : Nat) : Int) + (-33) = ((10 : Nat) : Int) from rfl) (fun _ => ?_) (fun q => absurd trivial q)
        refine WS.loc (l' := [(4, vI (j + 1)), (3, vI xs.length), (2, .ref a), (1, vI ((xs.take (j + 1)).foldl (fun m x => if x < 10 then m ||| 2 ^ x else m) 0)), (0, .ref a)]) [0, 3, 4, 1, 5] (by
          rw [← f2, hfs, show vI ((xs.take j).foldl (fun m x => if x < 10 then m ||| 2 ^ x else m) 0) = Value.int (nI ((xs.take j).foldl (fun m x => if x < 10 then m ||| 2 ^ x else m) 0) ||| Int32.ofInt 0) by rw [nI_0', nI_or, Nat.or_zero]; rfl]
          rfl) ?_
        exact ih (j + 1) (by omega) (by omega) _ rfl
      · rw [nI_10] at c2
        have h1 : x < 10 := nI_lt' (by omega) (by omega) c2
        rw [if_pos h1] at hfs
        repeat refine fst1_ok X (dk rfl) rfl ?_
        refine br_ok X (dk rfl) rfl (show ((34 : Nat) : Int) + 4 = ((38 : Nat) : Int) from rfl) (fun _ => ?_) (fun q => absurd trivial q)
        repeat refine fst1_ok X (dk rfl) rfl ?_
        refine br_ok X (dk rfl) rfl (show ((43 : Nat) : Int) + (-33) = ((10 : Nat) : Int) from rfl) (fun _ => ?_) (fun q => absurd trivial q)
        refine WS.loc (l' := [(4, vI (j + 1)), (3, vI xs.length), (2, .ref a), (1, vI ((xs.take (j + 1)).foldl (fun m x => if x < 10 then m ||| 2 ^ x else m) 0)), (0, .ref a)]) [0, 3, 4, 1, 5] (by
          rw [← f2, hfs, show vI ((xs.take j).foldl (fun m x => if x < 10 then m ||| 2 ^ x else m) 0 ||| 2 ^ x) = Value.int (nI ((xs.take j).foldl (fun m x => if x < 10 then m ||| 2 ^ x else m) 0) ||| Int32.ofInt 1 <<< (nI x &&& 31)) by rw [shl1 x (by omega), nI_or]; rfl]
          rfl) ?_
        exact ih (j + 1) (by omega) (by omega) _ rfl
  iterate 3 refine fst1_ok X (dk rfl) rfl ?_
  exact loop _ 0 rfl (Nat.zero_le _) _ rfl
end M7
end
section
/-! rows of rows that are made -/
set_option maxRecDepth 100000 in
theorem cl10_9 : Cond.classLink RX10 9 (cnm (aty 105)) ∈ WT := by rw [aty105]; exact WT_of (by decide +kernel) rfl
def filR (as : List Nat) (N : Nat) : List Value := as.map Value.ref ++ List.replicate (N - as.length) .null
theorem filR_0 (N : Nat) : filR [] N = List.replicate N .null := by simp [filR]
theorem filR_len {as : List Nat} {N : Nat} (h : as.length ≤ N) : (filR as N).length = N := by simp [filR]; omega
theorem filR_end (as : List Nat) : filR as as.length = as.map Value.ref := by simp [filR]
theorem filR_set {as : List Nat} {N q : Nat} (h : as.length < N) : (filR as N).set as.length (.ref q) = filR (as ++ [q]) N := by
  have e2 : N - as.length = (N - (as.length + 1)) + 1 := by omega
  unfold filR
  rw [e2, List.replicate_succ, List.set_append_right _ _ (by simp), List.map_append, List.append_assoc, List.length_append]
  simp
section M8
variable {p : Program} {la : Launch} {e : Env} {R : Room} {s : State} {m : MethodId} {args : Array Value} {below : List Frame} {meth : Method} {c : Code} {Q : State → Prop}
variable {D : va_G} {cA : Nat → ClassId} {B0 pa nL : Nat} {cc : ByteArray} {own : String} {pc k n : Nat} {l : List (Nat × Value)} {r : List Value} {h : AH}
theorem newR_ok (X : CX p s m args c D cA B0 nL cc own) (E : EN D cA B0 pa s) {idx kd N : Nat} (hkd : 103 ≤ kd ∧ kd < 107) (hl : Cond.classLink own idx (cnm (aty kd)) ∈ WT) (hN : N ≤ 1000) (hd : decode cc pc = .ok (.anewarray idx, 3)) (hr1 : k + 1 ≤ R.cells) (hr2 : n + N ≤ R.slots)
    (kk : ∀ q : Nat, h q = none → B0 ≤ q → WS p la e R s m args below meth c Q D cA B0 nL (pc + 3) l (.ref q :: r) (hup h q (kd, List.replicate N .null)) (k + 1) (n + N)) : WS p la e R s m args below meth c Q D cA B0 nL pc l (.int (nI N) :: r) h k n := by
  have e : (nI N).toNatClampNeg = N := nI_clamp (by omega)
  have ho : (Cond.arrayOver (aty kd)).before args s = true := OV.moved (Vm.Alike.refl _) E.2.2.1 kd hkd.1 hkd.2
  refine anew_ok X hkd hl ho hd (nI_pos (by omega)) (by rw [e]; exact hN) hr1 (by rw [e]; exact hr2) ?_
  rw [e]
  exact kk
theorem str_ok (X : CX p s m args c D cA B0 nL cc own) {a j q : Nat} {vs fs : List Value} (hd : decode cc pc = .ok (.aastore, 1)) (ha : h a = some (105, vs)) (hq : h q = some (100, fs)) (hj : j < vs.length) (hl : vs.length < 2 ^ 31)
    (kk : WS p la e R s m args below meth c Q D cA B0 nL (pc + 1) l r (hup h a (105, vs.set j (.ref q))) k n) : WS p la e R s m args below meth c Q D cA B0 nL pc l (.ref q :: .int (nI j) :: .ref a :: r) h k n := by
  have e : (nI j).toNatClampNeg = j := nI_clamp (by omega)
  refine ast_ok X (Or.inr (Or.inr (Or.inr (Or.inr (Or.inl ⟨rfl, rfl, q, fs, rfl, hq⟩))))) hd ha ⟨nI_pos (by omega), by rw [e]; exact hj⟩ ?_
  rw [e]
  exact kk
theorem ldr_ok (X : CX p s m args c D cA B0 nL cc own) {a j q : Nat} {as : List Nat} (hd : decode cc pc = .ok (.aaload, 1)) (ha : h a = some (105, as.map Value.ref)) (hq : as[j]? = some q) (hl : as.length < 2 ^ 31)
    (kk : WS p la e R s m args below meth c Q D cA B0 nL (pc + 1) l (.ref q :: r) h k n) : WS p la e R s m args below meth c Q D cA B0 nL pc l (.int (nI j) :: .ref a :: r) h k n := by
  have hj : j < as.length := (List.getElem?_eq_some_iff.mp hq).1
  exact ald_ok X (Or.inr (Or.inr ⟨rfl, by decide⟩)) hd ha (inA_nI (by omega) (by rw [List.getElem?_map, hq]; rfl)) kk
end M8
theorem IA_hup_ext {h h' : AH} (E : Ext h h') {a : Nat} {c : AC} (ha : h a = some c) : h' a = some c := E _ _ ha
section M9
variable {la : Launch} {D : va_G} {cA : Nat → ClassId} {B0 pa : Nat}
/-- a new array of new rows -/
def newR (B0 : Nat) (h : AH) (rows : List (List Nat)) (v : Option Value) (h' : AH) : Prop := ∃ A : Nat, v = some (.ref A) ∧ h A = none ∧ B0 ≤ A ∧ Ext h h' ∧ Ans h' A rows
set_option maxHeartbeats 8000000 in
theorem c_none (h : AH) : CT la D cA B0 pa yX10_none cX10_none 2 (some (.array (.array .int))) (rmD 1 9 16) [] h (newR B0 h [[0], [1], [2], [3], [4], [5], [6], [7]]) := by
  refine CT_of (by decide +kernel) (Nat.le_of_ble_eq_true rfl) ?_
  intro p e s m args below meth c X E hr hlk hnm
  have dk : ∀ {pc : Nat} {q : Instr × Nat}, lkd DX10_none pc = some q → decode cX10_none pc = .ok q := lkd_ok DX10_none_ok
  repeat refine fst1_ok X (dk rfl) rfl ?_
  refine newR_ok (N := 8) (kd := 105) X E (by decide) cl10_9 (by decide) (dk rfl) (by decide) (by decide) (fun A hA hB => ?_)
  have loop : ∀ (d j : Nat), d = 8 - j → j ≤ 8 → ∀ (hj : AH) (as : List Nat), as.length = j → Ext h hj → hj A = some (105, filR as 8) → (∀ k a, as[k]? = some a → hj a = some (IA [k])) → WR p la e (rmD 1 9 16) s m args below meth c D cA B0 2 (newR B0 h [[0], [1], [2], [3], [4], [5], [6], [7]]) 8 [(1, vI j), (0, .ref A)] [] hj (1 + j) (8 + j) := by
    intro d
    induction d with
    | zero =>
      intro j hd hj hh as has hE hAs hrows
      have hj2 : j = 8 := by omega
      subst hj2
      repeat refine fst1_ok X (dk rfl) rfl ?_
      refine br_ok X (dk rfl) rfl (show ((11 : Nat) : Int) + 16 = ((27 : Nat) : Int) from rfl) (fun c1 => ?_) (fun c1 => absurd (by decide) c1)
      repeat refine fst1_ok X (dk rfl) rfl ?_
      refine reta_ok X hr hlk (Or.inr ⟨_, rfl⟩) (Or.inr ⟨_, rfl⟩) (dk rfl) ⟨A, rfl, hA, hB, hE, as, has, ?_, ?_⟩ (Nat.le_refl _) (Nat.le_refl _)
      · rw [hAs, ← has, filR_end]
      · intro k a r hk hr'
        rw [hrows k a hk]
        have hk8 : k < 8 := by rw [← has]; exact (List.getElem?_eq_some_iff.mp hk).1
        have : r = [k] := by
          match k, hk8, hr' with
          | 0, _, e => cases e; rfl
          | 1, _, e => cases e; rfl
          | 2, _, e => cases e; rfl
          | 3, _, e => cases e; rfl
          | 4, _, e => cases e; rfl
          | 5, _, e => cases e; rfl
          | 6, _, e => cases e; rfl
          | 7, _, e => cases e; rfl
        rw [this]
    | succ d ih =>
      intro j hd hj hh as has hE hAs hrows
      repeat refine fst1_ok X (dk rfl) rfl ?_
      refine br_ok X (dk rfl) rfl (show ((11 : Nat) : Int) + 16 = ((27 : Nat) : Int) from rfl) (fun c1 => absurd c1 (nI_ge (b := 8) (by omega) (by omega))) (fun c1 => ?_)
      repeat refine fst1_ok X (dk rfl) rfl ?_
      refine callS_ok (av := [vI j]) (r := [vI j, .ref A]) X E (c_row hh j) lkX10_row mlX10_20 lsX10_row ⟨Nat.le_of_ble_eq_true rfl, Nat.le_of_ble_eq_true rfl⟩ ⟨by show 1 + j + 1 ≤ 9; omega, by show 8 + j + 1 ≤ 16; omega⟩ (Nat.le_of_ble_eq_true rfl) (dk rfl) ?_
      rintro v h2 ⟨q, rfl, hq, hBq, rfl⟩
      have hAq : A ≠ q := fun z => by rw [z, hq] at hAs; cases hAs
      refine str_ok (j := j) X (dk rfl) (by rw [hup_ne _ _ hAq]; exact hAs) (hup_self _ _ _) (by rw [filR_len (by omega)]; omega) (by rw [filR_len (by omega)]; omega) ?_
      have e1 : (filR as 8).set j (.ref q) = filR (as ++ [q]) 8 := by rw [← has]; exact filR_set (by omega)
      rw [e1]
      repeat refine fst1_ok X (dk rfl) rfl ?_
      refine br_ok X (dk rfl) rfl (show ((24 : Nat) : Int) + (-16) = ((8 : Nat) : Int) from rfl) (fun _ => ?_) (fun q => absurd trivial q)
      have f2 : Value.int (nI j + Int32.ofInt 1) = vI (j + 1) := congrArg Value.int (by rw [nI_1', nI_add])
      refine WS.loc (l' := [(1, vI (j + 1)), (0, .ref A)]) [0, 1] (by rw [← f2]; rfl) ?_
      refine ih (j + 1) (by omega) (by omega) _ (as ++ [q]) (by simp [has]) ((hE.trans (Ext.new hq _)).set hA _) (hup_self _ _ _) ?_
      intro k a hk
      have hne : ∀ {a : Nat} {xs : List Nat}, hup hh q (IA [j]) a = some (IA xs) → a ≠ A := by
        intro a xs e z
        rw [z, hup_ne _ _ hAq, hAs] at e
        simp [IA] at e
      rcases Nat.lt_or_ge k as.length with hk2 | hk2
      · rw [List.getElem?_append_left hk2] at hk
        have e3 : hup hh q (IA [j]) a = some (IA [k]) := Ext.new hq _ _ _ (hrows k a hk)
        rw [hup_ne _ _ (hne e3), e3]
      · rw [List.getElem?_append_right hk2] at hk
        have hz : k - as.length < 1 := (List.getElem?_eq_some_iff.mp hk).1
        have hk3 : k = j := by omega
        rw [show k - as.length = 0 by omega] at hk
        cases hk
        have e3 : hup hh q (IA [j]) q = some (IA [j]) := hup_self _ _ _
        rw [hup_ne _ _ (hne e3), e3, hk3]
  iterate 3 refine fst1_ok X (dk rfl) rfl ?_
  exact loop 8 0 rfl (by omega) _ [] rfl (Ext.new hA _) (by rw [hup_self, filR_0]) (fun k a hk => by simp at hk)
end M9
end
section
/-! used: each name becomes what is told of it -/
/-- the locals of these numbers, in this order -/
def lsel (l : List (Nat × Value)) (ks : List Nat) : List (Nat × Value) := ks.filterMap (fun i => (lget l i).map (fun v => (i, v)))
section WSS
variable {p : Program} {la : Launch} {e : Env} {R : Room} {s : State} {m : MethodId} {args : Array Value} {below : List Frame} {meth : Method} {c : Code} {Q : State → Prop} {D : va_G} {cA : Nat → ClassId} {B0 nL : Nat}
theorem WS.sel {pc k n : Nat} {l l' : List (Nat × Value)} {st : List Value} {h : AH} (ks : List Nat) (hl : lsel l ks = l') (kk : WS p la e R s m args below meth c Q D cA B0 nL pc l' st h k n) : WS p la e R s m args below meth c Q D cA B0 nL pc l st h k n := by
  intro H locs ls hH hls
  refine kk H locs ls hH ⟨hls.1, hls.2.1, fun q hq => hls.2.2 q ?_⟩
  rw [← hl] at hq
  obtain ⟨i, -, hi⟩ := List.mem_filterMap.mp hq
  simp only [Option.map_eq_some_iff] at hi
  obtain ⟨v, hv, rfl⟩ := hi
  exact lget_mem l hv
theorem WS.widen {pc k n k' n' : Nat} {l : List (Nat × Value)} {st : List Value} {h : AH} (h1 : k ≤ k') (h2 : n ≤ n') (kk : WS p la e R s m args below meth c Q D cA B0 nL pc l st h k' n') : WS p la e R s m args below meth c Q D cA B0 nL pc l st h k n :=
  fun H locs ls hH hls => W.widen h1 h2 (kk H locs ls hH hls)
end WSS
def useL (rows : List (List Nat)) (x : Nat) : List Nat := if x < 10 then rows.getD x [] else [x]
def usedL (rows : List (List Nat)) (t : List Nat) : List Nat := t.flatMap (useL rows)
theorem usedL_take_succ (rows : List (List Nat)) {t : List Nat} {j x : Nat} (h : t[j]? = some x) : usedL rows (t.take (j + 1)) = usedL rows (t.take j) ++ useL rows x := by
  unfold usedL
  rw [List.take_succ, h, List.flatMap_append]
  simp
theorem usedL_split (rows : List (List Nat)) {t : List Nat} {j x : Nat} (h : t[j]? = some x) : usedL rows t = usedL rows (t.take j) ++ (useL rows x ++ usedL rows (t.drop (j + 1))) := by
  have h1 : t = t.take j ++ (x :: t.drop (j + 1)) := by rw [← drop_cons h, List.take_append_drop]
  unfold usedL
  rw [congrArg (List.flatMap (useL rows)) h1, List.flatMap_append, List.flatMap_cons]
theorem usedL_len_le (rows : List (List Nat)) (t : List Nat) (j : Nat) : (usedL rows (t.take j)).length ≤ (usedL rows t).length := by
  have h1 : t = t.take j ++ t.drop j := (List.take_append_drop j t).symm
  have : (usedL rows t).length = (usedL rows (t.take j)).length + (usedL rows (t.drop j)).length := by
    unfold usedL
    rw [congrArg (List.flatMap (useL rows)) h1, List.flatMap_append, List.length_append]
  omega
/-- a new row among other new rows -/
def newE (B0 : Nat) (h : AH) (ys : List Nat) (v : Option Value) (h' : AH) : Prop := ∃ q : Nat, v = some (.ref q) ∧ h q = none ∧ B0 ≤ q ∧ Ext h h' ∧ h' q = some (IA ys)
section M10
variable {la : Launch} {D : va_G} {cA : Nat → ClassId} {B0 pa : Nat}
set_option maxHeartbeats 16000000 in
theorem c_used (h : AH) {A t : Nat} {rows : List (List Nat)} {ts : List Nat} (hA : Ans h A rows) (ht : h t = some (IA ts)) (hn : ts.length < 2 ^ 9) (hrn : rows.length < 2 ^ 9) (hx : ∀ x ∈ ts, x < 2 ^ 10) (hxr : ∀ x ∈ ts, x < 10 → x < rows.length) (hun : (usedL rows ts).length < 2 ^ 9) :
    CT la D cA B0 pa yX10_used cX10_used 14 (some (.array .int)) (rmD 1 (1 + ts.length) ((usedL rows ts).length + ts.length)) [.ref A, .ref t] h (newE B0 h (usedL rows ts)) := by
  refine CT_of (by decide +kernel) (Nat.le_of_ble_eq_true rfl) ?_
  intro p e s m args below meth c X E hr hlk hnm
  have dk : ∀ {pc : Nat} {q : Instr × Nat}, lkd DX10_used pc = some q → decode cX10_used pc = .ok q := lkd_ok DX10_used_ok
  have lt' : (ts.map vI).length = ts.length := List.length_map _
  obtain ⟨as, has, hAs, hrows⟩ := hA
  -- the row that is told of a name
  have told : ∀ (x : Nat), x ∈ ts → x < 10 → ∃ a, as[x]? = some a ∧ h a = some (IA (useL rows x)) := by
    intro x hxm hx10
    have h1 := hxr x hxm hx10
    obtain ⟨a, ha⟩ : ∃ a, as[x]? = some a := ⟨as[x]'(by omega), by simp⟩
    obtain ⟨r, hr'⟩ : ∃ r, rows[x]? = some r := ⟨rows[x]'h1, by simp⟩
    refine ⟨a, ha, ?_⟩
    rw [hrows x a r ha hr']
    unfold useL
    rw [if_pos hx10, List.getD_eq_getElem?_getD, hr']
    rfl
  repeat refine fst1_ok X (dk rfl) rfl ?_
  refine alen_ok X (by decide) (dk rfl) ht ?_
  rw [lt']
  -- the second half, from the new array on
  have second : ∀ (l : List (Nat × Value)), lsel l [2, 0, 1] = [(2, vI (usedL rows ts).length), (0, .ref A), (1, .ref t)] → WR p la e (rmD 1 (1 + ts.length) ((usedL rows ts).length + ts.length)) s m args below meth c D cA B0 14 (newE B0 h (usedL rows ts)) 49 l [] h 0 0 := by
    intro l hl
    refine WS.sel [2, 0, 1] hl ?_
    repeat refine fst1_ok X (dk rfl) rfl ?_
    refine newI_ok (N := (usedL rows ts).length) X (by omega) (dk rfl) (by show 0 + 1 ≤ 1 + ts.length; omega) (by show 0 + (usedL rows ts).length ≤ (usedL rows ts).length + ts.length; omega) (fun q hq hB => ?_)
    have htq : t ≠ q := fun z => by rw [z, hq] at ht; cases ht
    have outer : ∀ (d j : Nat), d = ts.length - j → j ≤ ts.length → ∀ (hj : AH) (l : List (Nat × Value)), lsel l [7, 6, 5, 4, 3, 0, 1] = [(7, vI j), (6, vI ts.length), (5, .ref t), (4, vI (usedL rows (ts.take j)).length), (3, .ref q), (0, .ref A), (1, .ref t)] → Ext h hj → hj q = some (100, fillV (usedL rows ts) (usedL rows (ts.take j)).length) →
        WR p la e (rmD 1 (1 + ts.length) ((usedL rows ts).length + ts.length)) s m args below meth c D cA B0 14 (newE B0 h (usedL rows ts)) 67 l [] hj (1 + j) ((usedL rows ts).length + j) := by
      intro d
      induction d with
      | zero =>
        intro j hd hj hh l hl hE hq1
        have hj2 : j = ts.length := by omega
        subst hj2
        refine WS.sel [7, 6, 5, 4, 3, 0, 1] hl ?_
        repeat refine fst1_ok X (dk rfl) rfl ?_
        refine br_ok X (dk rfl) rfl (show ((71 : Nat) : Int) + 78 = ((149 : Nat) : Int) from rfl) (fun c1 => ?_) (fun c1 => absurd (Int32.le_refl _) c1)
        repeat refine fst1_ok X (dk rfl) rfl ?_
        refine reta_ok X hr hlk (Or.inr ⟨_, rfl⟩) (Or.inr ⟨_, rfl⟩) (dk rfl) ⟨q, rfl, hq, hB, hE, ?_⟩ (Nat.le_refl _) (Nat.le_refl _)
        rw [hq1, List.take_length, fill_end]
        rfl
      | succ d ih =>
        intro j hd hj hh l hl hE hq1
        obtain ⟨x, hx1⟩ : ∃ x, ts[j]? = some x := ⟨ts[j]'(by omega), by simp⟩
        have hxm := List.mem_of_getElem? hx1
        have hx2 := hx x hxm
        -- the inner loop, from the row u on
        have inner : ∀ (u : Nat) (h3 : AH) (l : List (Nat × Value)), lsel l [7, 6, 5, 4, 3, 0, 1] = [(7, vI j), (6, vI ts.length), (5, .ref t), (4, vI (usedL rows (ts.take j)).length), (3, .ref q), (0, .ref A), (1, .ref t)] → Ext h h3 → h3 q = some (100, fillV (usedL rows ts) (usedL rows (ts.take j)).length) → h3 u = some (IA (useL rows x)) → u ≠ q → ∀ kc kn : Nat, kc ≤ 1 + (j + 1) → kn ≤ (usedL rows ts).length + (j + 1) →
            WR p la e (rmD 1 (1 + ts.length) ((usedL rows ts).length + ts.length)) s m args below meth c D cA B0 14 (newE B0 h (usedL rows ts)) 100 l [.ref u] h3 kc kn := by
          intro u h3 l hl hE3 hq3 hu huq kc kn hkc hkn
          have hsp := usedL_split rows hx1
          have hus : (useL rows x).length ≤ (usedL rows ts).length := by rw [hsp]; simp; omega
          have hlu : ((useL rows x).map vI).length = (useL rows x).length := List.length_map _
          have hin : ∀ (d2 i : Nat), d2 = (useL rows x).length - i → i ≤ (useL rows x).length → ∀ (h4 : AH) (l : List (Nat × Value)), lsel l [12, 11, 10, 7, 6, 5, 4, 3, 0, 1] = [(12, vI i), (11, vI (useL rows x).length), (10, .ref u), (7, vI j), (6, vI ts.length), (5, .ref t), (4, vI ((usedL rows (ts.take j)).length + i)), (3, .ref q), (0, .ref A), (1, .ref t)] → Ext h h4 → h4 q = some (100, fillV (usedL rows ts) ((usedL rows (ts.take j)).length + i)) → h4 u = some (IA (useL rows x)) →
              WR p la e (rmD 1 (1 + ts.length) ((usedL rows ts).length + ts.length)) s m args below meth c D cA B0 14 (newE B0 h (usedL rows ts)) 114 l [] h4 kc kn := by
            intro d2
            induction d2 with
            | zero =>
              intro i hd2 hi h4 l hl hE4 hq4 hu4
              have hi2 : i = (useL rows x).length := by omega
              subst hi2
              refine WS.sel [12, 11, 10, 7, 6, 5, 4, 3, 0, 1] hl ?_
              repeat refine fst1_ok X (dk rfl) rfl ?_
              refine br_ok X (dk rfl) rfl (show ((118 : Nat) : Int) + 25 = ((143 : Nat) : Int) from rfl) (fun c1 => ?_) (fun c1 => absurd (Int32.le_refl _) c1)
              repeat refine fst1_ok X (dk rfl) rfl ?_
              refine br_ok X (dk rfl) rfl (show ((146 : Nat) : Int) + (-79) = ((67 : Nat) : Int) from rfl) (fun _ => ?_) (fun q => absurd trivial q)
              have f2 : Value.int (nI j + Int32.ofInt 1) = vI (j + 1) := congrArg Value.int (by rw [nI_1', nI_add])
              have f3 : (usedL rows (ts.take (j + 1))).length = (usedL rows (ts.take j)).length + (useL rows x).length := by rw [usedL_take_succ rows hx1, List.length_append]
              refine WS.sel (l' := [(7, vI (j + 1)), (6, vI ts.length), (5, .ref t), (4, vI (usedL rows (ts.take (j + 1))).length), (3, .ref q), (0, .ref A), (1, .ref t)]) [7, 6, 5, 4, 3, 0, 1] (by rw [← f2, f3]; rfl) ?_
              refine WS.widen hkc hkn ?_
              exact ih (j + 1) (by omega) (by omega) h4 _ rfl hE4 (by rw [f3]; exact hq4)
            | succ d2 ih2 =>
              intro i hd2 hi h4 l hl hE4 hq4 hu4
              obtain ⟨y, hy1⟩ : ∃ y, (useL rows x)[i]? = some y := ⟨(useL rows x)[i]'(by omega), by simp⟩
              have hy2 : (usedL rows ts)[(usedL rows (ts.take j)).length + i]? = some y := by
                rw [hsp, List.getElem?_append_right (by omega), Nat.add_sub_cancel_left, List.getElem?_append_left (by omega)]
                exact hy1
              have hlt : (usedL rows (ts.take j)).length + i < (usedL rows ts).length := (List.getElem?_eq_some_iff.mp hy2).1
              refine WS.sel [12, 11, 10, 7, 6, 5, 4, 3, 0, 1] hl ?_
              repeat refine fst1_ok X (dk rfl) rfl ?_
              refine br_ok X (dk rfl) rfl (show ((118 : Nat) : Int) + 25 = ((143 : Nat) : Int) from rfl) (fun c1 => absurd c1 (nI_ge (by omega) (by omega))) (fun c1 => ?_)
              repeat refine fst1_ok X (dk rfl) rfl ?_
              refine ald_ok X (Or.inl ⟨rfl, rfl⟩) (dk rfl) hu4 (inA_nI (by omega) (IA_get hy1)) ?_
              repeat refine fst1_ok X (dk rfl) rfl ?_
              refine sti_ok X (dk rfl) hq4 (by rw [fill_len _ (by omega)]; omega) (by rw [fill_len _ (by omega)]; omega) ?_
              rw [show Value.int (nI y) = vI y from rfl, fill_set hy2]
              repeat refine fst1_ok X (dk rfl) rfl ?_
              refine br_ok X (dk rfl) rfl (show ((140 : Nat) : Int) + (-26) = ((114 : Nat) : Int) from rfl) (fun _ => ?_) (fun q => absurd trivial q)
              have f2 : Value.int (nI i + Int32.ofInt 1) = vI (i + 1) := congrArg Value.int (by rw [nI_1', nI_add])
              have f3 : Value.int (nI ((usedL rows (ts.take j)).length + i) + Int32.ofInt 1) = vI ((usedL rows (ts.take j)).length + (i + 1)) := congrArg Value.int (by rw [nI_1', nI_add]; rfl)
              refine WS.sel (l' := [(12, vI (i + 1)), (11, vI (useL rows x).length), (10, .ref u), (7, vI j), (6, vI ts.length), (5, .ref t), (4, vI ((usedL rows (ts.take j)).length + (i + 1))), (3, .ref q), (0, .ref A), (1, .ref t)]) [12, 11, 10, 7, 6, 5, 4, 3, 0, 1] (by rw [← f2, ← f3]; rfl) ?_
              exact ih2 (i + 1) (by omega) (by omega) _ _ rfl (hE4.set hq _) (hup_self _ _ _) (by rw [hup_ne _ _ huq]; exact hu4)
          refine WS.sel [7, 6, 5, 4, 3, 0, 1] hl ?_
          repeat refine fst1_ok X (dk rfl) rfl ?_
          refine alen_ok X (by decide) (dk rfl) hu ?_
          rw [hlu]
          iterate 3 refine fst1_ok X (dk rfl) rfl ?_
          exact hin _ 0 rfl (Nat.zero_le _) h3 _ rfl hE3 hq3 hu
        refine WS.sel [7, 6, 5, 4, 3, 0, 1] hl ?_
        repeat refine fst1_ok X (dk rfl) rfl ?_
        refine br_ok X (dk rfl) rfl (show ((71 : Nat) : Int) + 78 = ((149 : Nat) : Int) from rfl) (fun c1 => absurd c1 (nI_ge (by omega) (by omega))) (fun c1 => ?_)
        repeat refine fst1_ok X (dk rfl) rfl ?_
        refine ald_ok X (Or.inl ⟨rfl, rfl⟩) (dk rfl) (hE _ _ ht) (inA_nI (by omega) (IA_get hx1)) ?_
        repeat refine fst1_ok X (dk rfl) rfl ?_
        refine br_ok X (dk rfl) rfl (show ((85 : Nat) : Int) + 10 = ((95 : Nat) : Int) from rfl) (fun c2 => ?_) (fun c2 => ?_)
        · rw [nI_10] at c2
          have h1 : 10 ≤ x := nI_ge' (by omega) (by omega) c2
          repeat refine fst1_ok X (dk rfl) rfl ?_
          refine callS_ok (av := [vI x]) (r := []) X E (c_row hh x) lkX10_row mlX10_20 lsX10_row ⟨Nat.le_of_ble_eq_true rfl, Nat.le_of_ble_eq_true rfl⟩ ⟨by show 1 + j + 1 ≤ 1 + ts.length; omega, by show (usedL rows ts).length + j + 1 ≤ (usedL rows ts).length + ts.length; omega⟩ (Nat.le_of_ble_eq_true rfl) (dk rfl) ?_
          rintro v h2 ⟨u, rfl, hu, hBu, rfl⟩
          have hqu : q ≠ u := fun z => by rw [z, hu] at hq1; cases hq1
          refine inner u _ _ rfl (hE.trans (Ext.new hu _)) (by rw [hup_ne _ _ hqu]; exact hq1) ?_ (Ne.symm hqu) _ _ (Nat.le_refl _) (Nat.le_refl _)
          rw [hup_self]
          unfold useL
          rw [if_neg (by omega)]
        · rw [nI_10] at c2
          have h1 : x < 10 := nI_lt' (by omega) (by omega) c2
          obtain ⟨a, ha, ha2⟩ := told x hxm h1
          repeat refine fst1_ok X (dk rfl) rfl ?_
          refine ldr_ok X (dk rfl) (hE _ _ hAs) ha (by omega) ?_
          refine br_ok X (dk rfl) rfl (show ((92 : Nat) : Int) + 8 = ((100 : Nat) : Int) from rfl) (fun _ => ?_) (fun q => absurd trivial q)
          exact inner a hh _ rfl hE hq1 (hE _ _ ha2) (fun z => by rw [z, hq] at ha2; cases ha2) _ _ (by omega) (by omega)
    iterate 3 refine fst1_ok X (dk rfl) rfl ?_
    repeat refine fst1_ok X (dk rfl) rfl ?_
    refine alen_ok (kd := 100) (vs := ts.map vI) X (by decide) (dk rfl) (by rw [hup_ne _ _ htq]; exact ht) ?_
    rw [lt']
    iterate 3 refine fst1_ok X (dk rfl) rfl ?_
    refine WS.widen (k' := 1 + 0) (n' := (usedL rows ts).length + 0) (by omega) (by omega) ?_
    refine outer _ 0 rfl (Nat.zero_le _) _ _ rfl (Ext.new hq _) ?_
    rw [hup_self, List.take_zero, show (usedL rows []).length = 0 from rfl, fill_0]
  have first : ∀ (d j : Nat), d = ts.length - j → j ≤ ts.length → ∀ (l : List (Nat × Value)), lsel l [5, 4, 3, 2, 0, 1] = [(5, vI j), (4, vI ts.length), (3, .ref t), (2, vI (usedL rows (ts.take j)).length), (0, .ref A), (1, .ref t)] →
      WR p la e (rmD 1 (1 + ts.length) ((usedL rows ts).length + ts.length)) s m args below meth c D cA B0 14 (newE B0 h (usedL rows ts)) 11 l [] h 0 0 := by
    intro d
    induction d with
    | zero =>
      intro j hd hj l hl
      have hj2 : j = ts.length := by omega
      subst hj2
      rw [List.take_length] at hl
      refine WS.sel [5, 4, 3, 2, 0, 1] hl ?_
      repeat refine fst1_ok X (dk rfl) rfl ?_
      refine br_ok X (dk rfl) rfl (show ((15 : Nat) : Int) + 34 = ((49 : Nat) : Int) from rfl) (fun c1 => ?_) (fun c1 => absurd (Int32.le_refl _) c1)
      exact second _ rfl
    | succ d ih =>
      intro j hd hj l hl
      obtain ⟨x, hx1⟩ : ∃ x, ts[j]? = some x := ⟨ts[j]'(by omega), by simp⟩
      have hxm := List.mem_of_getElem? hx1
      have hx2 := hx x hxm
      have f2 : Value.int (nI j + Int32.ofInt 1) = vI (j + 1) := congrArg Value.int (by rw [nI_1', nI_add])
      have f3 : (usedL rows (ts.take (j + 1))).length = (usedL rows (ts.take j)).length + (useL rows x).length := by rw [usedL_take_succ rows hx1, List.length_append]
      have back : ∀ (l : List (Nat × Value)), lsel l [5, 4, 3, 0, 1] = [(5, vI j), (4, vI ts.length), (3, .ref t), (0, .ref A), (1, .ref t)] → WR p la e (rmD 1 (1 + ts.length) ((usedL rows ts).length + ts.length)) s m args below meth c D cA B0 14 (newE B0 h (usedL rows ts)) 41 l [vI (useL rows x).length, vI (usedL rows (ts.take j)).length] h 0 0 := by
        intro l hl
        refine WS.sel [5, 4, 3, 0, 1] hl ?_
        repeat refine fst1_ok X (dk rfl) rfl ?_
        refine br_ok X (dk rfl) rfl (show ((46 : Nat) : Int) + (-35) = ((11 : Nat) : Int) from rfl) (fun _ => ?_) (fun q => absurd trivial q)
        refine WS.sel (l' := [(5, vI (j + 1)), (4, vI ts.length), (3, .ref t), (2, vI (usedL rows (ts.take (j + 1))).length), (0, .ref A), (1, .ref t)]) [5, 4, 3, 2, 0, 1] (by rw [← f2, f3, show vI ((usedL rows (ts.take j)).length + (useL rows x).length) = Value.int (nI (usedL rows (ts.take j)).length + nI (useL rows x).length) by rw [nI_add]; rfl]; rfl) ?_
        exact ih (j + 1) (by omega) (by omega) _ rfl
      refine WS.sel [5, 4, 3, 2, 0, 1] hl ?_
      repeat refine fst1_ok X (dk rfl) rfl ?_
      refine br_ok X (dk rfl) rfl (show ((15 : Nat) : Int) + 34 = ((49 : Nat) : Int) from rfl) (fun c1 => absurd c1 (nI_ge (by omega) (by omega))) (fun c1 => ?_)
      repeat refine fst1_ok X (dk rfl) rfl ?_
      refine ald_ok X (Or.inl ⟨rfl, rfl⟩) (dk rfl) ht (inA_nI (by omega) (IA_get hx1)) ?_
      repeat refine fst1_ok X (dk rfl) rfl ?_
      refine br_ok X (dk rfl) rfl (show ((29 : Nat) : Int) + 11 = ((40 : Nat) : Int) from rfl) (fun c2 => ?_) (fun c2 => ?_)
      · rw [nI_10] at c2
        have h1 : 10 ≤ x := nI_ge' (by omega) (by omega) c2
        have e1 : (useL rows x).length = 1 := by unfold useL; rw [if_neg (by omega)]; rfl
        rw [e1] at back
        refine fst1_ok X (dk rfl) rfl ?_
        rw [nI_1']
        exact back _ rfl
      · rw [nI_10] at c2
        have h1 : x < 10 := nI_lt' (by omega) (by omega) c2
        obtain ⟨a, ha, ha2⟩ := told x hxm h1
        repeat refine fst1_ok X (dk rfl) rfl ?_
        refine ldr_ok X (dk rfl) hAs ha (by omega) ?_
        refine alen_ok X (by decide) (dk rfl) ha2 ?_
        rw [show ((useL rows x).map vI).length = (useL rows x).length from List.length_map _]
        refine br_ok X (dk rfl) rfl (show ((37 : Nat) : Int) + 4 = ((41 : Nat) : Int) from rfl) (fun _ => ?_) (fun q => absurd trivial q)
        exact back _ rfl
  iterate 3 refine fst1_ok X (dk rfl) rfl ?_
  exact first _ 0 rfl (Nat.zero_le _) _ rfl
end M10
end
section
/-! rows that are terms -/
theorem endL_add : ∀ (xs : List Nat) (a b k : Nat), endL (a + b) xs = some k → ∃ k1, endL a xs = some k1 ∧ k1 ≤ k ∧ endL b (xs.drop k1) = some (k - k1)
  | xs, 0, b, k, h => ⟨0, by simp [endL], Nat.zero_le _, by simpa using h⟩
  | [], a + 1, b, k, h => by rw [show a + 1 + b = (a + b) + 1 by omega] at h; simp [endL] at h
  | x :: r, a + 1, b, k, h => by
    rw [show a + 1 + b = (a + b) + 1 by omega] at h
    simp only [endL, Option.map_eq_some_iff] at h
    obtain ⟨j, hj, rfl⟩ := h
    rw [show a + b + pF x = (a + pF x) + b by omega] at hj
    obtain ⟨k1, h1, h2, h3⟩ := endL_add r (a + pF x) b j hj
    refine ⟨k1 + 1, by simp [endL, h1], by omega, ?_⟩
    rw [List.drop_succ_cons, h3]
    congr 1
    omega
theorem endL_join : ∀ (xs : List Nat) (a b k1 k2 : Nat), endL a xs = some k1 → endL b (xs.drop k1) = some k2 → endL (a + b) xs = some (k1 + k2)
  | xs, 0, b, k1, k2, h1, h2 => by
    simp only [endL, Option.some.injEq] at h1
    subst h1
    simpa using h2
  | [], a + 1, b, k1, k2, h1, h2 => by simp [endL] at h1
  | x :: r, a + 1, b, k1, k2, h1, h2 => by
    simp only [endL, Option.map_eq_some_iff] at h1
    obtain ⟨j, hj, rfl⟩ := h1
    rw [List.drop_succ_cons] at h2
    have := endL_join r (a + pF x) b j k2 hj h2
    rw [show a + 1 + b = (a + b) + 1 by omega]
    simp only [endL]
    rw [show a + b + pF x = a + pF x + b by omega, this]
    simp only [Option.map_some]
    congr 1
    omega
theorem endL_take : ∀ (xs : List Nat) (n k : Nat), endL n xs = some k → endL n (xs.take k) = some k
  | xs, 0, k, h => by simp only [endL, Option.some.injEq] at h; subst h; simp [endL]
  | [], n + 1, k, h => by simp [endL] at h
  | x :: r, n + 1, k, h => by
    simp only [endL, Option.map_eq_some_iff] at h
    obtain ⟨j, hj, rfl⟩ := h
    simp [endL, endL_take r _ j hj]
theorem endL_app : ∀ (xs ys : List Nat) (n k : Nat), endL n xs = some k → endL n (xs ++ ys) = some k
  | xs, ys, 0, k, h => by simp only [endL, Option.some.injEq] at h; subst h; simp [endL]
  | [], ys, n + 1, k, h => by simp [endL] at h
  | x :: r, ys, n + 1, k, h => by
    simp only [endL, Option.map_eq_some_iff] at h
    obtain ⟨j, hj, rfl⟩ := h
    simp [endL, endL_app r ys _ j hj]
theorem endL_pos : ∀ {xs : List Nat} {n k : Nat}, endL (n + 1) xs = some k → 0 < k
  | [], n, k, h => by simp [endL] at h
  | x :: r, n, k, h => by
    simp only [endL, Option.map_eq_some_iff] at h
    obtain ⟨j, hj, rfl⟩ := h
    omega
/-- at each place of a row of whole terms stands a term -/
theorem endL_at : ∀ (xs : List Nat) (n j : Nat), endL n xs = some xs.length → j < xs.length → ∃ k, endL 1 (xs.drop j) = some k
  | [], n, j, h, hj => by simp at hj
  | x :: r, 0, j, h, hj => by simp [endL] at h
  | x :: r, n + 1, 0, h, hj => by
    rw [show n + 1 = 1 + n by omega] at h
    obtain ⟨k1, h1, -⟩ := endL_add (x :: r) 1 n _ h
    exact ⟨k1, by simpa using h1⟩
  | x :: r, n + 1, j + 1, h, hj => by
    simp only [endL, Option.map_eq_some_iff, List.length_cons] at h
    obtain ⟨i, hi, e⟩ := h
    have : i = r.length := by omega
    subst this
    rw [List.drop_succ_cons]
    exact endL_at r (n + pF x) j hi (by simpa using hj)
def okL (x : Nat) : Prop := x < 8 ∨ (10 ≤ x ∧ x < 18)
/-- a row that is a term -/
def TW (xs : List Nat) : Prop := endL 1 xs = some xs.length ∧ ∀ x ∈ xs, okL x
theorem okL.lt {x : Nat} (h : okL x) : x < 18 := by rcases h with h | h <;> omega
theorem TW.lt {xs : List Nat} (h : TW xs) : ∀ x ∈ xs, x < 2 ^ 10 := fun x hx => by have := (h.2 x hx).lt; omega
theorem TW.pos {xs : List Nat} (h : TW xs) : 0 < xs.length := endL_pos (n := 0) h.1
theorem TW.at {xs : List Nat} (h : TW xs) {j : Nat} (hj : j < xs.length) : ∃ k, endL 1 (xs.drop j) = some k ∧ 0 < k ∧ j + k ≤ xs.length ∧ TW ((xs.drop j).take k) := by
  obtain ⟨k, hk⟩ := endL_at xs 1 j h.1 hj
  have h1 := endL_le hk
  rw [List.length_drop] at h1
  refine ⟨k, hk, endL_pos (n := 0) hk, by omega, ?_, fun x hx => h.2 x (List.mem_of_mem_drop (List.mem_of_mem_take hx))⟩
  rw [endL_take _ _ _ hk]
  congr 1
  simp
  omega
theorem TW.name {x : Nat} (h : x < 8) : TW [x] := by
  refine ⟨?_, fun y hy => ?_⟩
  · have : pF x = 0 := by unfold pF; rw [if_pos (by omega)]
    simp [endL, this]
  · simp at hy; subst hy; exact Or.inl h
theorem TW.ne_nil {xs : List Nat} (h : TW xs) : xs ≠ [] := fun z => by have := h.pos; rw [z] at this; simp at this
/-- whole terms, one put in for each name -/
theorem endL_used (rows : List (List Nat)) (hrows : ∀ r ∈ rows, TW r) : ∀ (ts : List Nat) (n : Nat), endL n ts = some ts.length → (∀ x ∈ ts, okL x) → 8 ≤ rows.length → endL n (usedL rows ts) = some (usedL rows ts).length
  | [], 0, _, _, _ => by simp [endL, usedL]
  | [], n + 1, h, _, _ => by simp [endL] at h
  | x :: r, 0, h, _, _ => by simp [endL] at h
  | x :: r, n + 1, h, hx, h8 => by
    simp only [endL, Option.map_eq_some_iff, List.length_cons] at h
    obtain ⟨j, hj, e⟩ := h
    have hj2 : j = r.length := by omega
    subst hj2
    have ih := endL_used rows hrows r (n + pF x) hj (fun y hy => hx y (List.mem_cons_of_mem _ hy)) h8
    have hu : usedL rows (x :: r) = useL rows x ++ usedL rows r := by simp [usedL]
    rw [hu, List.length_append]
    rcases hx x List.mem_cons_self with h1 | h1
    · have hp : pF x = 0 := by unfold pF; rw [if_pos (by omega)]
      rw [hp, Nat.add_zero] at ih
      obtain ⟨rr, hr⟩ : ∃ rr, rows[x]? = some rr := ⟨rows[x]'(by omega), by simp⟩
      have hul : useL rows x = rr := by unfold useL; rw [if_pos (by omega), List.getD_eq_getElem?_getD, hr]; rfl
      have hT := hrows rr (List.mem_of_getElem? hr)
      rw [hul, show n + 1 = 1 + n by omega]
      exact endL_join _ 1 n rr.length _ (endL_app _ _ _ _ hT.1) (by rw [List.drop_left]; exact ih)
    · have hul : useL rows x = [x] := by unfold useL; rw [if_neg (by omega)]
      rw [hul]
      simp only [List.cons_append, List.nil_append, endL, ih, Option.map_some, List.length_singleton]
      congr 1
      omega
theorem TW.used {rows : List (List Nat)} {ts : List Nat} (hrows : ∀ r ∈ rows, TW r) (h8 : 8 ≤ rows.length) (h : TW ts) : TW (usedL rows ts) := by
  refine ⟨endL_used rows hrows ts 1 h.1 h.2 h8, fun x hx => ?_⟩
  unfold usedL at hx
  obtain ⟨y, hy, hx⟩ := List.mem_flatMap.mp hx
  unfold useL at hx
  split at hx
  · rename_i h10
    rw [List.getD_eq_getElem?_getD] at hx
    cases hr : rows[y]? with
    | none => rw [hr] at hx; simp at hx
    | some rr => rw [hr] at hx; exact (hrows rr (List.mem_of_getElem? hr)).2 x hx
  · simp at hx; subst hx; exact h.2 x hy
theorem usedL_len (rows : List (List Nat)) {M : Nat} (hM : ∀ r ∈ rows, r.length ≤ M) (h1 : 1 ≤ M) : ∀ ts : List Nat, (usedL rows ts).length ≤ M * ts.length
  | [] => by simp [usedL]
  | x :: r => by
    have hu : usedL rows (x :: r) = useL rows x ++ usedL rows r := by simp [usedL]
    have ih := usedL_len rows hM h1 r
    have h2 : (useL rows x).length ≤ M := by
      unfold useL
      split
      · rw [List.getD_eq_getElem?_getD]
        cases hr : rows[x]? with
        | none => simp
        | some rr => exact hM rr (List.mem_of_getElem? hr)
      · simpa using h1
    rw [hu, List.length_append, List.length_cons, Nat.mul_add]
    omega
end
section
/-! over answers: unlikeOf, movedBy, withBehind -/
/-- an answer: eight terms of at most 16 letters -/
def AO (rows : List (List Nat)) : Prop := rows.length = 8 ∧ ∀ r ∈ rows, TW r ∧ r.length ≤ 16
/-- eight terms, as they come from putting one answer into another one -/
def AW (rows : List (List Nat)) : Prop := rows.length = 8 ∧ ∀ r ∈ rows, TW r ∧ r.length ≤ 256
theorem AO.aw {rows : List (List Nat)} (h : AO rows) : AW rows := ⟨h.1, fun r hr => ⟨(h.2 r hr).1, by have := (h.2 r hr).2; omega⟩⟩
def movedN (rows : List (List Nat)) : Nat → Nat
  | 0 => 0
  | j + 1 => if rows[j]? = some [j] then movedN rows j else movedN rows j ||| 2 ^ j
theorem Ans.row {h : AH} {A : Nat} {rows : List (List Nat)} (hA : Ans h A rows) : ∃ as : List Nat, as.length = rows.length ∧ h A = some (105, as.map Value.ref) ∧ ∀ k, k < rows.length → ∃ a r, as[k]? = some a ∧ rows[k]? = some r ∧ h a = some (IA r) := by
  obtain ⟨as, h1, h2, h3⟩ := hA
  refine ⟨as, h1, h2, fun k hk => ⟨as[k]'(by omega), rows[k], by simp, by simp, h3 k _ _ (by simp) (by simp)⟩⟩
section M11
variable {la : Launch} {D : va_G} {cA : Nat → ClassId} {B0 pa : Nat}
set_option maxHeartbeats 8000000 in
theorem c_unlikeOf (h : AH) {A B : Nat} {r1 r2 : List (List Nat)} (hA : Ans h A r1) (hB : Ans h B r2) (o1 : AW r1) (o2 : AW r2) : CT la D cA B0 pa yX10_unlikeOf cX10_unlikeOf 3 (some .int) (rmD 3 0 0) [.ref A, .ref B] h (fun v h' => (∃ o : Option Nat, v = some (vP o) ∧ (∀ i, i < o.getD 8 → r1[i]? = r2[i]?) ∧ ∀ k, o = some k → k < 8 ∧ r1[k]? ≠ r2[k]?) ∧ h' = h) := by
  refine CT_of (by decide +kernel) (Nat.le_of_ble_eq_true rfl) ?_
  intro p e s m args below meth c X E hr hlk hnm
  have dk : ∀ {pc : Nat} {q : Instr × Nat}, lkd DX10_unlikeOf pc = some q → decode cX10_unlikeOf pc = .ok q := lkd_ok DX10_unlikeOf_ok
  obtain ⟨as, has, hAs, hra⟩ := hA.row
  obtain ⟨bs, hbs, hBs, hrb⟩ := hB.row
  have l1 := o1.1
  have l2 := o2.1
  have loop : ∀ (d j : Nat), d = 8 - j → j ≤ 8 → (∀ i, i < j → r1[i]? = r2[i]?) → WR p la e (rmD 3 0 0) s m args below meth c D cA B0 3 (fun v h' => (∃ o : Option Nat, v = some (vP o) ∧ (∀ i, i < o.getD 8 → r1[i]? = r2[i]?) ∧ ∀ k, o = some k → k < 8 ∧ r1[k]? ≠ r2[k]?) ∧ h' = h) 2 [(2, vI j), (0, .ref A), (1, .ref B)] [] h 0 0 := by
    intro d
    induction d with
    | zero =>
      intro j hd hj hi
      have hj2 : j = 8 := by omega
      subst hj2
      repeat refine fst1_ok X (dk rfl) rfl ?_
      refine br_ok X (dk rfl) rfl (show ((5 : Nat) : Int) + 23 = ((28 : Nat) : Int) from rfl) (fun c1 => ?_) (fun c1 => absurd (by decide) c1)
      repeat refine fst1_ok X (dk rfl) rfl ?_
      exact reti_ok X hr hlk rfl (dk rfl) ⟨⟨none, rfl, hi, fun k e => by cases e⟩, rfl⟩ (Nat.le_refl _) (Nat.le_refl _)
    | succ d ih =>
      intro j hd hj hi
      obtain ⟨a, x, ha1, ha2, ha3⟩ := hra j (by omega)
      obtain ⟨b, y, hb1, hb2, hb3⟩ := hrb j (by omega)
      have hx := o1.2 x (List.mem_of_getElem? ha2)
      have hy := o2.2 y (List.mem_of_getElem? hb2)
      repeat refine fst1_ok X (dk rfl) rfl ?_
      refine br_ok X (dk rfl) rfl (show ((5 : Nat) : Int) + 23 = ((28 : Nat) : Int) from rfl) (fun c1 => absurd c1 (nI_ge (b := 8) (by omega) (by omega))) (fun c1 => ?_)
      repeat refine fst1_ok X (dk rfl) rfl ?_
      refine ldr_ok X (dk rfl) hAs ha1 (by omega) ?_
      repeat refine fst1_ok X (dk rfl) rfl ?_
      refine ldr_ok X (dk rfl) hBs hb1 (by omega) ?_
      refine callS_ok (av := [.ref a, .ref b]) (r := []) X E (c_same h ha3 hb3 (by omega) (by omega) hx.1.lt hy.1.lt) lkX10_same mlX10_54 lsX10_same ⟨Nat.le_of_ble_eq_true rfl, Nat.le_of_ble_eq_true rfl⟩ ⟨Nat.le_of_ble_eq_true rfl, Nat.le_of_ble_eq_true rfl⟩ (Nat.le_of_ble_eq_true rfl) (dk rfl) ?_
      rintro v h' ⟨rfl, rfl⟩
      by_cases hxy : x = y
      · rw [if_pos hxy]
        refine br_ok X (dk rfl) rfl (show ((17 : Nat) : Int) + 5 = ((22 : Nat) : Int) from rfl) (fun c2 => ?_) (fun c2 => absurd (by decide) c2)
        repeat refine fst1_ok X (dk rfl) rfl ?_
        refine br_ok X (dk rfl) rfl (show ((25 : Nat) : Int) + (-23) = ((2 : Nat) : Int) from rfl) (fun _ => ?_) (fun q => absurd trivial q)
        have f2 : Value.int (nI j + Int32.ofInt 1) = vI (j + 1) := congrArg Value.int (by rw [nI_1', nI_add])
        refine WS.sel (l' := [(2, vI (j + 1)), (0, .ref A), (1, .ref B)]) [2, 0, 1] (by rw [← f2]; rfl) ?_
        refine ih (j + 1) (by omega) (by omega) (fun i hi2 => ?_)
        rcases Nat.lt_or_ge i j with q | q
        · exact hi i q
        · rw [show i = j by omega, ha2, hb2, hxy]
      · rw [if_neg hxy]
        refine br_ok X (dk rfl) rfl (show ((17 : Nat) : Int) + 5 = ((22 : Nat) : Int) from rfl) (fun c2 => absurd (by decide) c2) (fun c2 => ?_)
        repeat refine fst1_ok X (dk rfl) rfl ?_
        refine reti_ok X hr hlk rfl (dk rfl) ⟨⟨some j, rfl, hi, fun k e => ?_⟩, rfl⟩ (Nat.le_refl _) (Nat.le_refl _)
        cases e
        refine ⟨by omega, ?_⟩
        rw [ha2, hb2]
        exact fun z => hxy (Option.some.inj z)
  iterate 2 refine fst1_ok X (dk rfl) rfl ?_
  exact loop 8 0 rfl (by omega) (fun i hi => by omega)
set_option maxHeartbeats 8000000 in
theorem c_movedBy (h : AH) {A : Nat} {rows : List (List Nat)} (hA : Ans h A rows) (ho : AO rows) : CT la D cA B0 pa yX10_movedBy cX10_movedBy 3 (some .int) (rmD 3 8 8) [.ref A] h (fun v h' => v = some (vI (movedN rows 8)) ∧ Ext h h') := by
  refine CT_of (by decide +kernel) (Nat.le_of_ble_eq_true rfl) ?_
  intro p e s m args below meth c X E hr hlk hnm
  have dk : ∀ {pc : Nat} {q : Instr × Nat}, lkd DX10_movedBy pc = some q → decode cX10_movedBy pc = .ok q := lkd_ok DX10_movedBy_ok
  obtain ⟨as, has, hAs, hra⟩ := hA.row
  have l1 := ho.1
  have loop : ∀ (d j : Nat), d = 8 - j → j ≤ 8 → ∀ (hh : AH) (l : List (Nat × Value)), lsel l [2, 1, 0] = [(2, vI j), (1, vI (movedN rows j)), (0, .ref A)] → Ext h hh → WR p la e (rmD 3 8 8) s m args below meth c D cA B0 3 (fun v h' => v = some (vI (movedN rows 8)) ∧ Ext h h') 4 l [] hh (0 + j) (0 + j) := by
    intro d
    induction d with
    | zero =>
      intro j hd hj hh l hl hE
      have hj2 : j = 8 := by omega
      subst hj2
      refine WS.sel [2, 1, 0] hl ?_
      repeat refine fst1_ok X (dk rfl) rfl ?_
      refine br_ok X (dk rfl) rfl (show ((7 : Nat) : Int) + 32 = ((39 : Nat) : Int) from rfl) (fun c1 => ?_) (fun c1 => absurd (by decide) c1)
      repeat refine fst1_ok X (dk rfl) rfl ?_
      exact reti_ok X hr hlk rfl (dk rfl) ⟨rfl, hE⟩ (Nat.le_refl _) (Nat.le_refl _)
    | succ d ih =>
      intro j hd hj hh l hl hE
      obtain ⟨a, x, ha1, ha2, ha3⟩ := hra j (by omega)
      have hx := ho.2 x (List.mem_of_getElem? ha2)
      refine WS.sel [2, 1, 0] hl ?_
      repeat refine fst1_ok X (dk rfl) rfl ?_
      refine br_ok X (dk rfl) rfl (show ((7 : Nat) : Int) + 32 = ((39 : Nat) : Int) from rfl) (fun c1 => absurd c1 (nI_ge (b := 8) (by omega) (by omega))) (fun c1 => ?_)
      repeat refine fst1_ok X (dk rfl) rfl ?_
      refine ldr_ok X (dk rfl) (hE _ _ hAs) ha1 (by omega) ?_
      repeat refine fst1_ok X (dk rfl) rfl ?_
      refine callS_ok (av := [vI j]) (r := [.ref a, vI (movedN rows j)]) X E (c_row hh j) lkX10_row mlX10_20 lsX10_row ⟨Nat.le_of_ble_eq_true rfl, Nat.le_of_ble_eq_true rfl⟩ ⟨by show 0 + j + 1 ≤ 8; omega, by show 0 + j + 1 ≤ 8; omega⟩ (Nat.le_of_ble_eq_true rfl) (dk rfl) ?_
      rintro v h2 ⟨q, rfl, hq, hBq, rfl⟩
      have hE2 := Ext.new hq (IA [j])
      refine callS_ok (av := [.ref a, .ref q]) (r := [vI (movedN rows j)]) X E (c_same _ (hE2 _ _ (hE _ _ ha3)) (hup_self _ _ _) (by omega) (by simp) hx.1.lt (fun y hy => by simp at hy; omega)) lkX10_same mlX10_54 lsX10_same ⟨Nat.le_of_ble_eq_true rfl, Nat.le_of_ble_eq_true rfl⟩ ⟨by show 0 + j + 1 + 0 ≤ 8; omega, by show 0 + j + 1 + 0 ≤ 8; omega⟩ (Nat.le_of_ble_eq_true rfl) (dk rfl) ?_
      rintro v h' ⟨rfl, rfl⟩
      have f2 : Value.int (nI j + Int32.ofInt 1) = vI (j + 1) := congrArg Value.int (by rw [nI_1', nI_add])
      have back : ∀ (y : Nat), movedN rows (j + 1) = movedN rows j ||| y → WR p la e (rmD 3 8 8) s m args below meth c D cA B0 3 (fun v h' => v = some (vI (movedN rows 8)) ∧ Ext h h') 31 [(2, vI j), (1, vI (movedN rows j)), (0, .ref A)] [vI y, vI (movedN rows j)] (hup hh q (IA [j])) (0 + j + 1 + 0) (0 + j + 1 + 0) := by
        intro y hy
        repeat refine fst1_ok X (dk rfl) rfl ?_
        refine br_ok X (dk rfl) rfl (show ((36 : Nat) : Int) + (-32) = ((4 : Nat) : Int) from rfl) (fun _ => ?_) (fun q => absurd trivial q)
        refine WS.sel (l' := [(2, vI (j + 1)), (1, vI (movedN rows (j + 1))), (0, .ref A)]) [2, 1, 0] (by rw [← f2, hy, show vI (movedN rows j ||| y) = Value.int (nI (movedN rows j) ||| nI y) by rw [nI_or]; rfl]; rfl) ?_
        refine WS.widen (k' := 0 + (j + 1)) (n' := 0 + (j + 1)) (by omega) (by omega) ?_
        exact ih (j + 1) (by omega) (by omega) _ _ rfl (hE.trans hE2)
      by_cases hxy : x = [j]
      · rw [if_pos hxy]
        refine br_ok X (dk rfl) rfl (show ((21 : Nat) : Int) + 7 = ((28 : Nat) : Int) from rfl) (fun c2 => absurd c2 (by decide)) (fun c2 => ?_)
        repeat refine fst1_ok X (dk rfl) rfl ?_
        refine br_ok X (dk rfl) rfl (show ((25 : Nat) : Int) + 6 = ((31 : Nat) : Int) from rfl) (fun _ => ?_) (fun q => absurd trivial q)
        rw [nI_0']
        exact back 0 (by simp [movedN, ha2, hxy])
      · rw [if_neg hxy]
        refine br_ok X (dk rfl) rfl (show ((21 : Nat) : Int) + 7 = ((28 : Nat) : Int) from rfl) (fun c2 => ?_) (fun c2 => absurd rfl c2)
        iterate 3 refine fst1_ok X (dk rfl) rfl ?_
        rw [shl1 j (by omega)]
        exact back (2 ^ j) (by simp [movedN, ha2, hxy])
  iterate 4 refine fst1_ok X (dk rfl) rfl ?_
  exact loop 8 0 rfl (by omega) h _ rfl (Ext.rf h)
set_option maxHeartbeats 8000000 in
theorem c_withBehind (h : AH) {A B : Nat} {r1 r2 : List (List Nat)} (hA : Ans h A r1) (hB : Ans h B r2) (o1 : AO r1) (o2 : AO r2) : CT la D cA B0 pa yX10_withBehind cX10_withBehind 4 (some (.array (.array .int))) (rmD 2 137 2184) [.ref A, .ref B] h (newR B0 h (r1.map (usedL r2))) := by
  refine CT_of (by decide +kernel) (Nat.le_of_ble_eq_true rfl) ?_
  intro p e s m args below meth c X E hr hlk hnm
  have dk : ∀ {pc : Nat} {q : Instr × Nat}, lkd DX10_withBehind pc = some q → decode cX10_withBehind pc = .ok q := lkd_ok DX10_withBehind_ok
  obtain ⟨as, has, hAs, hra⟩ := hA.row
  have l1 := o1.1
  have l2 := o2.1
  repeat refine fst1_ok X (dk rfl) rfl ?_
  refine newR_ok (N := 8) (kd := 105) X E (by decide) cl10_9 (by decide) (dk rfl) (by decide) (by decide) (fun M hM hBM => ?_)
  have loop : ∀ (d j : Nat), d = 8 - j → j ≤ 8 → ∀ (hj : AH) (ms : List Nat), ms.length = j → Ext h hj → hj M = some (105, filR ms 8) → (∀ (k a : Nat) (r : List Nat), ms[k]? = some a → r1[k]? = some r → hj a = some (IA (usedL r2 r))) → WR p la e (rmD 2 137 2184) s m args below meth c D cA B0 4 (newR B0 h (r1.map (usedL r2))) 8 [(3, vI j), (2, .ref M), (0, .ref A), (1, .ref B)] [] hj (1 + 17 * j) (8 + 272 * j) := by
    intro d
    induction d with
    | zero =>
      intro j hd hj hh ms hms hE hMs hrows
      have hj2 : j = 8 := by omega
      subst hj2
      repeat refine fst1_ok X (dk rfl) rfl ?_
      refine br_ok X (dk rfl) rfl (show ((11 : Nat) : Int) + 19 = ((30 : Nat) : Int) from rfl) (fun c1 => ?_) (fun c1 => absurd (by decide) c1)
      repeat refine fst1_ok X (dk rfl) rfl ?_
      refine reta_ok X hr hlk (Or.inr ⟨_, rfl⟩) (Or.inr ⟨_, rfl⟩) (dk rfl) ⟨M, rfl, hM, hBM, hE, ms, by simp [hms, l1], ?_, ?_⟩ (Nat.le_refl _) (Nat.le_refl _)
      · rw [hMs, ← hms, filR_end]
      · intro k a r hk hr'
        rw [List.getElem?_map] at hr'
        cases hq : r1[k]? with
        | none => rw [hq] at hr'; cases hr'
        | some r0 =>
          rw [hq] at hr'
          cases hr'
          exact hrows k a r0 hk hq
    | succ d ih =>
      intro j hd hj hh ms hms hE hMs hrows
      obtain ⟨a, x, ha1, ha2, ha3⟩ := hra j (by omega)
      have hx := o1.2 x (List.mem_of_getElem? ha2)
      have hul := usedL_len r2 (M := 16) (fun r hr => (o2.2 r hr).2) (by decide) x
      repeat refine fst1_ok X (dk rfl) rfl ?_
      refine br_ok X (dk rfl) rfl (show ((11 : Nat) : Int) + 19 = ((30 : Nat) : Int) from rfl) (fun c1 => absurd c1 (nI_ge (b := 8) (by omega) (by omega))) (fun c1 => ?_)
      repeat refine fst1_ok X (dk rfl) rfl ?_
      refine ldr_ok X (dk rfl) (hE _ _ hAs) ha1 (by omega) ?_
      refine callS_ok (av := [.ref B, .ref a]) (r := [vI j, .ref M]) X E (c_used hh (hB.ext hE) (hE _ _ ha3) (by omega) (by omega) hx.1.lt (fun y hy hy10 => by rcases hx.1.2 y hy with q | q <;> omega) (by omega)) lkX10_used mlX10_120 lsX10_used ⟨Nat.le_of_ble_eq_true rfl, Nat.le_of_ble_eq_true rfl⟩ ⟨by show 1 + 17 * j + (1 + x.length) ≤ 137; omega, by show 8 + 272 * j + ((usedL r2 x).length + x.length) ≤ 2184; omega⟩ (Nat.le_of_ble_eq_true rfl) (dk rfl) ?_
      rintro v h2 ⟨q, rfl, hq, hBq, hE2, hq2⟩
      refine str_ok (j := j) X (dk rfl) (hE2 _ _ hMs) hq2 (by rw [filR_len (by omega)]; omega) (by rw [filR_len (by omega)]; omega) ?_
      have e1 : (filR ms 8).set j (.ref q) = filR (ms ++ [q]) 8 := by rw [← hms]; exact filR_set (by omega)
      rw [e1]
      repeat refine fst1_ok X (dk rfl) rfl ?_
      refine br_ok X (dk rfl) rfl (show ((27 : Nat) : Int) + (-19) = ((8 : Nat) : Int) from rfl) (fun _ => ?_) (fun q => absurd trivial q)
      have f2 : Value.int (nI j + Int32.ofInt 1) = vI (j + 1) := congrArg Value.int (by rw [nI_1', nI_add])
      refine WS.sel (l' := [(3, vI (j + 1)), (2, .ref M), (0, .ref A), (1, .ref B)]) [3, 2, 0, 1] (by rw [← f2]; rfl) ?_
      refine WS.widen (k' := 1 + 17 * (j + 1)) (n' := 8 + 272 * (j + 1)) (by show 1 + 17 * j + (1 + x.length) ≤ _; omega) (by show 8 + 272 * j + ((usedL r2 x).length + x.length) ≤ _; omega) ?_
      have hne : ∀ {a : Nat} {xs : List Nat}, h2 a = some (IA xs) → a ≠ M := by
        intro a xs e z
        rw [z, hE2 _ _ hMs] at e
        simp [IA] at e
      refine ih (j + 1) (by omega) (by omega) _ (ms ++ [q]) (by simp [hms]) ((hE.trans hE2).set hM _) (hup_self _ _ _) ?_
      intro k a r hk hr'
      rcases Nat.lt_or_ge k ms.length with hk2 | hk2
      · rw [List.getElem?_append_left hk2] at hk
        have e3 := hE2 _ _ (hrows k a r hk hr')
        rw [hup_ne _ _ (hne e3), e3]
      · rw [List.getElem?_append_right hk2] at hk
        have hz : k - ms.length < 1 := (List.getElem?_eq_some_iff.mp hk).1
        have hk3 : k = j := by omega
        rw [show k - ms.length = 0 by omega] at hk
        cases hk
        subst hk3
        rw [ha2] at hr'
        cases hr'
        rw [hup_ne _ _ (hne hq2), hq2]
  iterate 3 refine fst1_ok X (dk rfl) rfl ?_
  exact loop 8 0 rfl (by omega) _ [] rfl (Ext.new hM _) (by rw [hup_self, filR_0]) (fun k a r hk => by simp at hk)
end M11
end
section
/-! often, depthOf, isMet, sharedOf: what they answer is only said to be a number -/
def intP (h : AH) (v : Option Value) (h' : AH) : Prop := (∃ x : Int32, v = some (.int x)) ∧ h' = h
def booP (h : AH) (v : Option Value) (h' : AH) : Prop := (v = some (.int 0) ∨ v = some (.int 1)) ∧ h' = h
section M12
variable {la : Launch} {D : va_G} {cA : Nat → ClassId} {B0 pa : Nat}
set_option maxHeartbeats 8000000 in
theorem c_often (h : AH) {a : Nat} {xs : List Nat} (y : Int32) (ha : h a = some (IA xs)) (hn : xs.length < 2 ^ 9) : CT la D cA B0 pa yX10_often cX10_often 7 (some .int) (rmD 0 0 0) [.ref a, .int y] h (intP h) := by
  refine CT_of (by decide +kernel) (Nat.le_of_ble_eq_true rfl) ?_
  intro p e s m args below meth c X E hr hlk hnm
  have dk : ∀ {pc : Nat} {q : Instr × Nat}, lkd DX10_often pc = some q → decode cX10_often pc = .ok q := lkd_ok DX10_often_ok
  have la' : (xs.map vI).length = xs.length := List.length_map _
  repeat refine fst1_ok X (dk rfl) rfl ?_
  refine alen_ok X (by decide) (dk rfl) ha ?_
  rw [la']
  have loop : ∀ (d j : Nat), d = xs.length - j → j ≤ xs.length → ∀ (z : Int32) (l : List (Nat × Value)), lsel l [5, 4, 3, 2, 0, 1] = [(5, vI j), (4, vI xs.length), (3, .ref a), (2, .int z), (0, .ref a), (1, .int y)] → WR p la e (rmD 0 0 0) s m args below meth c D cA B0 7 (intP h) 11 l [] h 0 0 := by
    intro d
    induction d with
    | zero =>
      intro j hd hj z l hl
      have hj2 : j = xs.length := by omega
      subst hj2
      refine WS.sel [5, 4, 3, 2, 0, 1] hl ?_
      repeat refine fst1_ok X (dk rfl) rfl ?_
      refine br_ok X (dk rfl) rfl (show ((15 : Nat) : Int) + 29 = ((44 : Nat) : Int) from rfl) (fun c1 => ?_) (fun c1 => absurd (Int32.le_refl _) c1)
      repeat refine fst1_ok X (dk rfl) rfl ?_
      exact reti_ok X hr hlk rfl (dk rfl) ⟨⟨_, rfl⟩, rfl⟩ (Nat.le_refl _) (Nat.le_refl _)
    | succ d ih =>
      intro j hd hj z l hl
      obtain ⟨x, hx1⟩ : ∃ x, xs[j]? = some x := ⟨xs[j]'(by omega), by simp⟩
      refine WS.sel [5, 4, 3, 2, 0, 1] hl ?_
      repeat refine fst1_ok X (dk rfl) rfl ?_
      refine br_ok X (dk rfl) rfl (show ((15 : Nat) : Int) + 29 = ((44 : Nat) : Int) from rfl) (fun c1 => absurd c1 (nI_ge (by omega) (by omega))) (fun c1 => ?_)
      repeat refine fst1_ok X (dk rfl) rfl ?_
      refine ald_ok X (Or.inl ⟨rfl, rfl⟩) (dk rfl) ha (inA_nI (by omega) (IA_get hx1)) ?_
      have f2 : Value.int (nI j + Int32.ofInt 1) = vI (j + 1) := congrArg Value.int (by rw [nI_1', nI_add])
      have back : ∀ (w : Int32) (l : List (Nat × Value)), lsel l [5, 4, 3, 0, 1] = [(5, vI j), (4, vI xs.length), (3, .ref a), (0, .ref a), (1, .int y)] → WR p la e (rmD 0 0 0) s m args below meth c D cA B0 7 (intP h) 36 l [.int w, .int z] h 0 0 := by
        intro w l hl
        refine WS.sel [5, 4, 3, 0, 1] hl ?_
        repeat refine fst1_ok X (dk rfl) rfl ?_
        refine br_ok X (dk rfl) rfl (show ((41 : Nat) : Int) + (-30) = ((11 : Nat) : Int) from rfl) (fun _ => ?_) (fun q => absurd trivial q)
        refine WS.sel (l' := [(5, vI (j + 1)), (4, vI xs.length), (3, .ref a), (2, .int (z + w)), (0, .ref a), (1, .int y)]) [5, 4, 3, 2, 0, 1] (by rw [← f2]; rfl) ?_
        exact ih (j + 1) (by omega) (by omega) _ _ rfl
      repeat refine fst1_ok X (dk rfl) rfl ?_
      refine br_ok X (dk rfl) rfl (show ((28 : Nat) : Int) + 7 = ((35 : Nat) : Int) from rfl) (fun c2 => ?_) (fun c2 => ?_)
      · refine fst1_ok X (dk rfl) rfl ?_
        exact back _ _ rfl
      · refine fst1_ok X (dk rfl) rfl ?_
        refine br_ok X (dk rfl) rfl (show ((32 : Nat) : Int) + 4 = ((36 : Nat) : Int) from rfl) (fun _ => ?_) (fun q => absurd trivial q)
        exact back _ _ rfl
  iterate 3 refine fst1_ok X (dk rfl) rfl ?_
  exact loop _ 0 rfl (Nat.zero_le _) _ _ rfl
set_option maxHeartbeats 8000000 in
theorem c_depthOf (h : AH) {a : Nat} {xs : List Nat} (ha : h a = some (IA xs)) (hn : xs.length < 2 ^ 9) (hx : ∀ x ∈ xs, x < 2 ^ 10) : ∀ (f at' k : Nat), endL 1 (xs.drop at') = some k → k ≤ f → CT la D cA B0 pa yX10_depthOf cX10_depthOf 5 (some .int) (rmD (2 + f) 0 0) [.ref a, vI at'] h (fun v h' => (∃ d, v = some (vI d) ∧ d ≤ k) ∧ h' = h) := by
  intro f
  induction f with
  | zero => intro at' k hk hkf; have := endL_pos (n := 0) hk; omega
  | succ f ihf =>
    intro at' k hk hkf
    refine CT_of (by decide +kernel) (Nat.le_of_ble_eq_true rfl) ?_
    intro p e s m args below meth c X E hr hlk hnm
    have dk : ∀ {pc : Nat} {q : Instr × Nat}, lkd DX10_depthOf pc = some q → decode cX10_depthOf pc = .ok q := lkd_ok DX10_depthOf_ok
    have hat : at' < xs.length := by
      rcases Nat.lt_or_ge at' xs.length with q | q
      · exact q
      · rw [List.drop_eq_nil_of_le q] at hk; simp [endL] at hk
    obtain ⟨x, hx1⟩ : ∃ x, xs[at']? = some x := ⟨xs[at']'hat, by simp⟩
    have hx2 := hx x (List.mem_of_getElem? hx1)
    have hpF : pF x < 2 ^ 10 := by unfold pF; split <;> omega
    have hk' := hk
    rw [drop_cons hx1] at hk'
    simp only [endL, Option.map_eq_some_iff, Nat.zero_add] at hk'
    obtain ⟨k0, hk0, rfl⟩ := hk'
    have hle := endL_le hk
    rw [List.length_drop] at hle
    repeat refine fst1_ok X (dk rfl) rfl ?_
    refine ald_ok X (Or.inl ⟨rfl, rfl⟩) (dk rfl) ha (inA_nI (by omega) (IA_get hx1)) ?_
    refine callS_ok (av := [vI x]) (r := []) X E (c_parts h (by omega)) lkX10_parts mlX10_32 lsX10_parts ⟨by show 0 + 1 ≤ 2 + (f + 1); omega, by show 8 + (1 + 11) + 40 * 0 ≤ 40 * (2 + (f + 1)); omega⟩ ⟨Nat.le_of_ble_eq_true rfl, Nat.le_of_ble_eq_true rfl⟩ (Nat.le_of_ble_eq_true rfl) (dk rfl) ?_
    rintro v h' ⟨rfl, rfl⟩
    have loop : ∀ (nd pl j most : Nat), endL nd (xs.drop pl) = some j → pl + j = at' + (k0 + 1) → at' < pl → most ≤ k0 → nd < 2 ^ 10 → ∀ (l : List (Nat × Value)), lsel l [4, 3, 2, 0, 1] = [(4, vI nd), (3, vI pl), (2, vI most), (0, .ref a), (1, vI at')] → WR p la e (rmD (2 + (f + 1)) 0 0) s m args below meth c D cA B0 5 (fun v h'_1 => (∃ d, v = some (vI d) ∧ d ≤ k0 + 1) ∧ h'_1 = h') 14 l [] h' 0 0 := by
      intro nd
      induction nd with
      | zero =>
        intro pl j most hj hpj hpl hm hnd l hl
        refine WS.sel [4, 3, 2, 0, 1] hl ?_
        repeat refine fst1_ok X (dk rfl) rfl ?_
        refine br_ok X (dk rfl) rfl (show ((16 : Nat) : Int) + 25 = ((41 : Nat) : Int) from rfl) (fun c1 => ?_) (fun c1 => absurd (show nI 0 ≤ 0 by decide) c1)
        repeat refine fst1_ok X (dk rfl) rfl ?_
        refine reti_ok X hr hlk rfl (dk rfl) ⟨⟨most + 1, ?_, by omega⟩, rfl⟩ (Nat.le_refl _) (Nat.le_refl _)
        rw [nI_1', nI_add]
        rfl
      | succ nd ih =>
        intro pl j most hj hpj hpl hm hnd l hl
        rw [show nd + 1 = 1 + nd by omega] at hj
        obtain ⟨k1, hk1, hk1j, hk2⟩ := endL_add _ 1 nd j hj
        rw [List.drop_drop] at hk2
        have hk1p := endL_pos (n := 0) hk1
        have hple := endL_le hk1
        rw [List.length_drop] at hple
        have hplt : pl < xs.length := by
          rcases Nat.lt_or_ge pl xs.length with q | q
          · exact q
          · omega
        refine WS.sel [4, 3, 2, 0, 1] hl ?_
        repeat refine fst1_ok X (dk rfl) rfl ?_
        refine br_ok X (dk rfl) rfl (show ((16 : Nat) : Int) + 25 = ((41 : Nat) : Int) from rfl) (fun c1 => absurd c1 (nI_nle (Nat.succ_pos nd) (by omega))) (fun c1 => ?_)
        repeat refine fst1_ok X (dk rfl) rfl ?_
        refine callS_ok (av := [.ref a, vI pl]) (r := [vI most]) X E (ihf pl k1 hk1 (by omega)) lkX10_depthOf mlX10_63 lsX10_depthOf ⟨by show 2 + f + 1 ≤ 2 + (f + 1); omega, by show 8 + (5 + 11) + 40 * (2 + f) ≤ 40 * (2 + (f + 1)); omega⟩ ⟨Nat.le_of_ble_eq_true rfl, Nat.le_of_ble_eq_true rfl⟩ (Nat.le_of_ble_eq_true rfl) (dk rfl) ?_
        rintro v h2 ⟨⟨d1, rfl, hd1⟩, rfl⟩
        refine mmax_ok X (by omega) (by omega) mlX10_48 (dk rfl) (by show 1 ≤ 2 + (f + 1); omega) (by show 0 + 13 ≤ 40 * (2 + (f + 1)); omega) (Nat.le_of_ble_eq_true rfl) (Nat.le_of_ble_eq_true rfl) ?_
        repeat refine fst1_ok X (dk rfl) rfl ?_
        refine callS_ok (av := [.ref a, vI pl]) (r := []) X E (c_end h2 ha hx (by omega) hk1) lkX10_end mlX10_36 lsX10_end ⟨by show 1 + 1 ≤ 2 + (f + 1); omega, by show 8 + (4 + 11) + 40 * 1 ≤ 40 * (2 + (f + 1)); omega⟩ ⟨Nat.le_of_ble_eq_true rfl, Nat.le_of_ble_eq_true rfl⟩ (Nat.le_of_ble_eq_true rfl) (dk rfl) ?_
        rintro v h3 ⟨rfl, rfl⟩
        repeat refine fst1_ok X (dk rfl) rfl ?_
        refine br_ok X (dk rfl) rfl (show ((38 : Nat) : Int) + (-24) = ((14 : Nat) : Int) from rfl) (fun _ => ?_) (fun q => absurd trivial q)
        have f2 : Value.int (nI (nd + 1) + Int32.ofInt (-1)) = vI nd := congrArg Value.int (by rw [show Int32.ofInt (-1) = -1 by decide, ← Int32.sub_eq_add_neg]; exact nI_pred nd)
        refine WS.sel (l' := [(4, vI nd), (3, vI (pl + k1)), (2, vI (max most d1)), (0, .ref a), (1, vI at')]) [4, 3, 2, 0, 1] (by rw [← f2]; rfl) ?_
        exact ih (pl + k1) (j - k1) (max most d1) hk2 (by omega) (by omega) (by omega) (by omega) _ rfl
    iterate 1 refine fst1_ok X (dk rfl) rfl ?_
    refine loop (pF x) (at' + 1) k0 0 hk0 (by omega) (by omega) (Nat.zero_le _) hpF _ ?_
    rw [show vI (at' + 1) = Value.int (nI at' + Int32.ofInt 1) by rw [nI_1', nI_add]; rfl]
    rfl
end M12
end
section
/-! isMet, sharedOf -/
/-- rows of terms, any number of them -/
def RO (rows : List (List Nat)) : Prop := rows.length < 2 ^ 8 ∧ ∀ r ∈ rows, TW r ∧ r.length ≤ 16
section M13
variable {la : Launch} {D : va_G} {cA : Nat → ClassId} {B0 pa : Nat}
set_option maxHeartbeats 8000000 in
theorem c_isMet (h : AH) {A t pl : Nat} {rows : List (List Nat)} {rt : List Nat} (hA : Ans h A rows) (ho : RO rows) (ht : rows[t]? = some rt) (hp : pl < rt.length) : CT la D cA B0 pa yX10_isMet cX10_isMet 5 (some .boolean) (rmD 3 0 0) [.ref A, vI t, vI pl] h (booP h) := by
  refine CT_of (by decide +kernel) (Nat.le_of_ble_eq_true rfl) ?_
  intro p e s m args below meth c X E hr hlk hnm
  have dk : ∀ {pc : Nat} {q : Instr × Nat}, lkd DX10_isMet pc = some q → decode cX10_isMet pc = .ok q := lkd_ok DX10_isMet_ok
  obtain ⟨as, has, hAs, hra⟩ := hA.row
  have htl : t < rows.length := (List.getElem?_eq_some_iff.mp ht).1
  have hn := ho.1
  obtain ⟨at', rt', ht1, ht2, ht3⟩ := hra t htl
  cases ht.symm.trans ht2
  have hrt := ho.2 rt (List.mem_of_getElem? ht)
  obtain ⟨k2, hk2, -, -, -⟩ := hrt.1.at hp
  have outer : ∀ (d j : Nat), d = t + 1 - j → j ≤ t + 1 → ∀ (l : List (Nat × Value)), lsel l [3, 0, 1, 2] = [(3, vI j), (0, .ref A), (1, vI t), (2, vI pl)] → WR p la e (rmD 3 0 0) s m args below meth c D cA B0 5 (booP h) 2 l [] h 0 0 := by
    intro d
    induction d with
    | zero =>
      intro j hd hj l hl
      refine WS.sel [3, 0, 1, 2] hl ?_
      repeat refine fst1_ok X (dk rfl) rfl ?_
      refine br_ok X (dk rfl) rfl (show ((4 : Nat) : Int) + 53 = ((57 : Nat) : Int) from rfl) (fun c1 => ?_) (fun c1 => absurd (nI_lt (by omega) (by omega)) c1)
      repeat refine fst1_ok X (dk rfl) rfl ?_
      exact reti_ok X hr hlk rfl (dk rfl) ⟨Or.inl rfl, rfl⟩ (Nat.le_refl _) (Nat.le_refl _)
    | succ d ih =>
      intro j hd hj l hl
      obtain ⟨a, x, ha1, ha2, ha3⟩ := hra j (by omega)
      have hx := ho.2 x (List.mem_of_getElem? ha2)
      have f3 : Value.int (nI j + Int32.ofInt 1) = vI (j + 1) := congrArg Value.int (by rw [nI_1', nI_add])
      -- the bound of the inner loop
      have inner : ∀ (N : Nat), N ≤ x.length → (j = t → N = pl) → (j ≠ t → N = x.length) → ∀ (d2 i : Nat), d2 = N - i → i ≤ N → ∀ (l : List (Nat × Value)), lsel l [4, 3, 0, 1, 2] = [(4, vI i), (3, vI j), (0, .ref A), (1, vI t), (2, vI pl)] → WR p la e (rmD 3 0 0) s m args below meth c D cA B0 5 (booP h) 10 l [] h 0 0 := by
        intro N hN hN1 hN2 d2
        induction d2 with
        | zero =>
          intro i hd2 hi l hl
          have hi2 : i = N := by omega
          subst hi2
          have fin' : ∀ (l : List (Nat × Value)), lsel l [3, 0, 1, 2] = [(3, vI j), (0, .ref A), (1, vI t), (2, vI pl)] → WR p la e (rmD 3 0 0) s m args below meth c D cA B0 5 (booP h) 25 l [vI i, vI i] h 0 0 := by
            intro l hl
            refine WS.sel [3, 0, 1, 2] hl ?_
            refine br_ok X (dk rfl) rfl (show ((25 : Nat) : Int) + 26 = ((51 : Nat) : Int) from rfl) (fun c1 => ?_) (fun c1 => absurd (Int32.le_refl _) c1)
            repeat refine fst1_ok X (dk rfl) rfl ?_
            refine br_ok X (dk rfl) rfl (show ((54 : Nat) : Int) + (-52) = ((2 : Nat) : Int) from rfl) (fun _ => ?_) (fun q => absurd trivial q)
            refine WS.sel (l' := [(3, vI (j + 1)), (0, .ref A), (1, vI t), (2, vI pl)]) [3, 0, 1, 2] (by rw [← f3]; rfl) ?_
            exact ih (j + 1) (by omega) (by omega) _ rfl
          refine WS.sel [4, 3, 0, 1, 2] hl ?_
          repeat refine fst1_ok X (dk rfl) rfl ?_
          refine br_ok X (dk rfl) rfl (show ((14 : Nat) : Int) + 7 = ((21 : Nat) : Int) from rfl) (fun c2 => ?_) (fun c2 => ?_)
          · have hjt : j ≠ t := fun z => c2 (by rw [z])
            repeat refine fst1_ok X (dk rfl) rfl ?_
            refine ldr_ok X (dk rfl) hAs ha1 (by omega) ?_
            refine alen_ok X (by decide) (dk rfl) ha3 ?_
            rw [show (x.map vI).length = i by rw [List.length_map, hN2 hjt]]
            exact fin' _ rfl
          · have hjt : j = t := (nI_eq (by omega) (by omega)).mp (Decidable.not_not.mp c2)
            refine fst1_ok X (dk rfl) rfl ?_
            refine br_ok X (dk rfl) rfl (show ((18 : Nat) : Int) + 7 = ((25 : Nat) : Int) from rfl) (fun _ => ?_) (fun q => absurd trivial q)
            rw [show nI pl = nI i by rw [hN1 hjt]]
            exact fin' _ (by rw [hN1 hjt]; rfl)
        | succ d2 ih2 =>
          intro i hd2 hi l hl
          obtain ⟨k1, hk1, -, -, -⟩ := hx.1.at (j := i) (by omega)
          have go' : ∀ (l : List (Nat × Value)), lsel l [4, 3, 0, 1, 2] = [(4, vI i), (3, vI j), (0, .ref A), (1, vI t), (2, vI pl)] → WR p la e (rmD 3 0 0) s m args below meth c D cA B0 5 (booP h) 25 l [vI N, vI i] h 0 0 := by
            intro l hl
            refine WS.sel [4, 3, 0, 1, 2] hl ?_
            refine br_ok X (dk rfl) rfl (show ((25 : Nat) : Int) + 26 = ((51 : Nat) : Int) from rfl) (fun c1 => absurd c1 (nI_ge (by omega) (by omega))) (fun c1 => ?_)
            repeat refine fst1_ok X (dk rfl) rfl ?_
            refine ldr_ok X (dk rfl) hAs ha1 (by omega) ?_
            repeat refine fst1_ok X (dk rfl) rfl ?_
            refine ldr_ok X (dk rfl) hAs ht1 (by omega) ?_
            repeat refine fst1_ok X (dk rfl) rfl ?_
            refine callS_ok (av := [.ref a, vI i, .ref at', vI pl]) (r := []) X E (c_isAt h ha3 ht3 (by omega) (by omega) hx.1.lt hrt.1.lt hk1 hk2) lkX10_isAt mlX10_70 lsX10_isAt ⟨Nat.le_of_ble_eq_true rfl, Nat.le_of_ble_eq_true rfl⟩ ⟨Nat.le_of_ble_eq_true rfl, Nat.le_of_ble_eq_true rfl⟩ (Nat.le_of_ble_eq_true rfl) (dk rfl) ?_
            rintro v h' ⟨rfl, rfl⟩
            split
            · refine br_ok X (dk rfl) rfl (show ((40 : Nat) : Int) + 5 = ((45 : Nat) : Int) from rfl) (fun c2 => absurd c2 (by decide)) (fun c2 => ?_)
              repeat refine fst1_ok X (dk rfl) rfl ?_
              exact reti_ok X hr hlk rfl (dk rfl) ⟨Or.inr rfl, rfl⟩ (Nat.le_refl _) (Nat.le_refl _)
            · refine br_ok X (dk rfl) rfl (show ((40 : Nat) : Int) + 5 = ((45 : Nat) : Int) from rfl) (fun c2 => ?_) (fun c2 => absurd rfl c2)
              repeat refine fst1_ok X (dk rfl) rfl ?_
              refine br_ok X (dk rfl) rfl (show ((48 : Nat) : Int) + (-38) = ((10 : Nat) : Int) from rfl) (fun _ => ?_) (fun q => absurd trivial q)
              have f2 : Value.int (nI i + Int32.ofInt 1) = vI (i + 1) := congrArg Value.int (by rw [nI_1', nI_add])
              refine WS.sel (l' := [(4, vI (i + 1)), (3, vI j), (0, .ref A), (1, vI t), (2, vI pl)]) [4, 3, 0, 1, 2] (by rw [← f2]; rfl) ?_
              exact ih2 (i + 1) (by omega) (by omega) _ rfl
          refine WS.sel [4, 3, 0, 1, 2] hl ?_
          repeat refine fst1_ok X (dk rfl) rfl ?_
          refine br_ok X (dk rfl) rfl (show ((14 : Nat) : Int) + 7 = ((21 : Nat) : Int) from rfl) (fun c2 => ?_) (fun c2 => ?_)
          · have hjt : j ≠ t := fun z => c2 (by rw [z])
            repeat refine fst1_ok X (dk rfl) rfl ?_
            refine ldr_ok X (dk rfl) hAs ha1 (by omega) ?_
            refine alen_ok X (by decide) (dk rfl) ha3 ?_
            rw [show (x.map vI).length = N by rw [List.length_map, hN2 hjt]]
            exact go' _ rfl
          · have hjt : j = t := (nI_eq (by omega) (by omega)).mp (Decidable.not_not.mp c2)
            refine fst1_ok X (dk rfl) rfl ?_
            refine br_ok X (dk rfl) rfl (show ((18 : Nat) : Int) + 7 = ((25 : Nat) : Int) from rfl) (fun _ => ?_) (fun q => absurd trivial q)
            rw [show nI pl = nI N by rw [hN1 hjt]]
            exact go' _ rfl
      refine WS.sel [3, 0, 1, 2] hl ?_
      repeat refine fst1_ok X (dk rfl) rfl ?_
      refine br_ok X (dk rfl) rfl (show ((4 : Nat) : Int) + 53 = ((57 : Nat) : Int) from rfl) (fun c1 => absurd c1 (nI_nlt (by omega) (by omega))) (fun c1 => ?_)
      iterate 2 refine fst1_ok X (dk rfl) rfl ?_
      by_cases hjt : j = t
      · have hxr : x = rt := by rw [hjt, ht] at ha2; exact (Option.some.inj ha2).symm
        exact inner pl (by rw [hxr]; omega) (fun _ => rfl) (fun z => absurd hjt z) _ 0 rfl (Nat.zero_le _) _ rfl
      · exact inner x.length (Nat.le_refl _) (fun z => absurd z hjt) (fun _ => rfl) _ 0 rfl (Nat.zero_le _) _ rfl
  iterate 2 refine fst1_ok X (dk rfl) rfl ?_
  exact outer _ 0 rfl (Nat.zero_le _) _ rfl
set_option maxHeartbeats 8000000 in
theorem c_sharedOf (h : AH) {A : Nat} {rows : List (List Nat)} (hA : Ans h A rows) (ho : RO rows) : CT la D cA B0 pa yX10_sharedOf cX10_sharedOf 4 (some .int) (rmD 4 0 0) [.ref A] h (intP h) := by
  refine CT_of (by decide +kernel) (Nat.le_of_ble_eq_true rfl) ?_
  intro p e s m args below meth c X E hr hlk hnm
  have dk : ∀ {pc : Nat} {q : Instr × Nat}, lkd DX10_sharedOf pc = some q → decode cX10_sharedOf pc = .ok q := lkd_ok DX10_sharedOf_ok
  obtain ⟨as, has, hAs, hra⟩ := hA.row
  have hn := ho.1
  have outer : ∀ (d j : Nat), d = rows.length - j → j ≤ rows.length → ∀ (z : Int32) (l : List (Nat × Value)), lsel l [2, 1, 0] = [(2, vI j), (1, .int z), (0, .ref A)] → WR p la e (rmD 4 0 0) s m args below meth c D cA B0 4 (intP h) 4 l [] h 0 0 := by
    intro d
    induction d with
    | zero =>
      intro j hd hj z l hl
      have hj2 : j = rows.length := by omega
      subst hj2
      refine WS.sel [2, 1, 0] hl ?_
      repeat refine fst1_ok X (dk rfl) rfl ?_
      refine alen_ok X (by decide) (dk rfl) hAs ?_
      rw [show (as.map Value.ref).length = rows.length by rw [List.length_map, has]]
      refine br_ok X (dk rfl) rfl (show ((7 : Nat) : Int) + 42 = ((49 : Nat) : Int) from rfl) (fun c1 => ?_) (fun c1 => absurd (Int32.le_refl _) c1)
      repeat refine fst1_ok X (dk rfl) rfl ?_
      exact reti_ok X hr hlk rfl (dk rfl) ⟨⟨_, rfl⟩, rfl⟩ (Nat.le_refl _) (Nat.le_refl _)
    | succ d ih =>
      intro j hd hj z l hl
      obtain ⟨a, x, ha1, ha2, ha3⟩ := hra j (by omega)
      have hx := ho.2 x (List.mem_of_getElem? ha2)
      have inner : ∀ (d2 i : Nat), d2 = x.length - i → i ≤ x.length → ∀ (z : Int32) (l : List (Nat × Value)), lsel l [3, 2, 1, 0] = [(3, vI i), (2, vI j), (1, .int z), (0, .ref A)] → WR p la e (rmD 4 0 0) s m args below meth c D cA B0 4 (intP h) 12 l [] h 0 0 := by
        intro d2
        induction d2 with
        | zero =>
          intro i hd2 hi z l hl
          have hi2 : i = x.length := by omega
          subst hi2
          refine WS.sel [3, 2, 1, 0] hl ?_
          repeat refine fst1_ok X (dk rfl) rfl ?_
          refine ldr_ok X (dk rfl) hAs ha1 (by omega) ?_
          refine alen_ok X (by decide) (dk rfl) ha3 ?_
          rw [show (x.map vI).length = x.length from List.length_map _]
          refine br_ok X (dk rfl) rfl (show ((17 : Nat) : Int) + 26 = ((43 : Nat) : Int) from rfl) (fun c1 => ?_) (fun c1 => absurd (Int32.le_refl _) c1)
          repeat refine fst1_ok X (dk rfl) rfl ?_
          refine br_ok X (dk rfl) rfl (show ((46 : Nat) : Int) + (-42) = ((4 : Nat) : Int) from rfl) (fun _ => ?_) (fun q => absurd trivial q)
          have f2 : Value.int (nI j + Int32.ofInt 1) = vI (j + 1) := congrArg Value.int (by rw [nI_1', nI_add])
          refine WS.sel (l' := [(2, vI (j + 1)), (1, .int z), (0, .ref A)]) [2, 1, 0] (by rw [← f2]; rfl) ?_
          exact ih (j + 1) (by omega) (by omega) _ _ rfl
        | succ d2 ih2 =>
          intro i hd2 hi z l hl
          have f2 : Value.int (nI i + Int32.ofInt 1) = vI (i + 1) := congrArg Value.int (by rw [nI_1', nI_add])
          have back : ∀ (w : Int32) (l : List (Nat × Value)), lsel l [3, 2, 0] = [(3, vI i), (2, vI j), (0, .ref A)] → WR p la e (rmD 4 0 0) s m args below meth c D cA B0 4 (intP h) 35 l [.int w, .int z] h 0 0 := by
            intro w l hl
            refine WS.sel [3, 2, 0] hl ?_
            repeat refine fst1_ok X (dk rfl) rfl ?_
            refine br_ok X (dk rfl) rfl (show ((40 : Nat) : Int) + (-28) = ((12 : Nat) : Int) from rfl) (fun _ => ?_) (fun q => absurd trivial q)
            refine WS.sel (l' := [(3, vI (i + 1)), (2, vI j), (1, .int (z + w)), (0, .ref A)]) [3, 2, 1, 0] (by rw [← f2]; rfl) ?_
            exact ih2 (i + 1) (by omega) (by omega) _ _ rfl
          refine WS.sel [3, 2, 1, 0] hl ?_
          repeat refine fst1_ok X (dk rfl) rfl ?_
          refine ldr_ok X (dk rfl) hAs ha1 (by omega) ?_
          refine alen_ok X (by decide) (dk rfl) ha3 ?_
          rw [show (x.map vI).length = x.length from List.length_map _]
          refine br_ok X (dk rfl) rfl (show ((17 : Nat) : Int) + 26 = ((43 : Nat) : Int) from rfl) (fun c1 => absurd c1 (nI_ge (by omega) (by omega))) (fun c1 => ?_)
          repeat refine fst1_ok X (dk rfl) rfl ?_
          refine callS_ok (av := [.ref A, vI j, vI i]) (r := [.int z]) X E (c_isMet h hA ho ha2 (by omega)) lkX10_isMet mlX10_66 lsX10_isMet ⟨Nat.le_of_ble_eq_true rfl, Nat.le_of_ble_eq_true rfl⟩ ⟨Nat.le_of_ble_eq_true rfl, Nat.le_of_ble_eq_true rfl⟩ (Nat.le_of_ble_eq_true rfl) (dk rfl) ?_
          rintro v h' ⟨hv, rfl⟩
          rcases hv with rfl | rfl
          · refine br_ok X (dk rfl) rfl (show ((27 : Nat) : Int) + 7 = ((34 : Nat) : Int) from rfl) (fun c2 => ?_) (fun c2 => absurd rfl c2)
            refine fst1_ok X (dk rfl) rfl ?_
            exact back _ _ rfl
          · refine br_ok X (dk rfl) rfl (show ((27 : Nat) : Int) + 7 = ((34 : Nat) : Int) from rfl) (fun c2 => absurd c2 (by decide)) (fun c2 => ?_)
            refine fst1_ok X (dk rfl) rfl ?_
            refine br_ok X (dk rfl) rfl (show ((31 : Nat) : Int) + 4 = ((35 : Nat) : Int) from rfl) (fun _ => ?_) (fun q => absurd trivial q)
            exact back _ _ rfl
      refine WS.sel [2, 1, 0] hl ?_
      repeat refine fst1_ok X (dk rfl) rfl ?_
      refine alen_ok X (by decide) (dk rfl) hAs ?_
      rw [show (as.map Value.ref).length = rows.length by rw [List.length_map, has]]
      refine br_ok X (dk rfl) rfl (show ((7 : Nat) : Int) + 42 = ((49 : Nat) : Int) from rfl) (fun c1 => absurd c1 (nI_ge (by omega) (by omega))) (fun c1 => ?_)
      iterate 2 refine fst1_ok X (dk rfl) rfl ?_
      exact inner _ 0 rfl (Nat.zero_le _) _ _ rfl
  iterate 4 refine fst1_ok X (dk rfl) rfl ?_
  exact outer _ 0 rfl (Nat.zero_le _) _ _ rfl
end M13
end
section
/-! plainOf -/
def plainStep (st : List Nat × Nat × List Nat) (x : Nat) : List Nat × Nat × List Nat :=
  if 10 ≤ x then (st.1, st.2.1, st.2.2 ++ [x]) else if st.1.getD x 0 = 0 then (st.1.set x (st.2.1 + 1), st.2.1 + 1, st.2.2 ++ [st.2.1]) else (st.1, st.2.1, st.2.2 ++ [st.1.getD x 0 - 1])
def plainS (xs : List Nat) : List Nat × Nat × List Nat := xs.foldl plainStep (List.replicate 8 0, 0, [])
def plainL (xs : List Nat) : List Nat := (plainS xs).2.2
/-- how many places of a row aren't 0 -/
def nz (xs : List Nat) : Nat := (xs.filter (fun x => decide (x ≠ 0))).length
theorem nz_set : ∀ {xs : List Nat} {j v : Nat}, xs[j]? = some 0 → v ≠ 0 → nz (xs.set j v) = nz xs + 1
  | [], j, v, h, hv => by simp at h
  | x :: r, 0, v, h, hv => by
    simp only [List.getElem?_cons_zero, Option.some.injEq] at h
    subst h
    simp [nz, List.filter_cons, hv]
  | x :: r, j + 1, v, h, hv => by
    simp only [List.getElem?_cons_succ] at h
    have ih := nz_set (xs := r) h hv
    unfold nz at ih ⊢
    rw [List.set_cons_succ, List.filter_cons, List.filter_cons]
    split <;> simp only [List.length_cons, ih]
theorem nz_le (xs : List Nat) : nz xs ≤ xs.length := List.length_filter_le _ _
def PI (st : List Nat × Nat × List Nat) (n : Nat) : Prop := st.1.length = 8 ∧ st.2.1 = nz st.1 ∧ (∀ x ∈ st.1, x ≤ st.2.1) ∧ st.2.2.length = n
theorem plainS_succ {xs : List Nat} {j x : Nat} (h : xs[j]? = some x) : plainS (xs.take (j + 1)) = plainStep (plainS (xs.take j)) x := foldl_take_succ _ _ h
theorem getD_mem {xs : List Nat} {j : Nat} (h : j < xs.length) : ∃ y, xs[j]? = some y ∧ xs.getD j 0 = y ∧ y ∈ xs := ⟨xs[j], by simp [h], by simp [List.getD_eq_getElem?_getD, h], List.getElem_mem h⟩
theorem PI_step {st : List Nat × Nat × List Nat} {n x : Nat} (h : PI st n) (hx : okL x) : PI (plainStep st x) (n + 1) ∧ (plainStep st x).2.1 ≤ 8 ∧ ∃ y, (plainStep st x).2.2 = st.2.2 ++ [y] ∧ okL y ∧ pF y = pF x := by
  obtain ⟨h1, h2, h3, h4⟩ := h
  have h8 := nz_le st.1
  unfold plainStep
  by_cases hx10 : 10 ≤ x
  · rw [if_pos hx10]
    exact ⟨⟨h1, h2, h3, by simp [h4]⟩, by dsimp only; omega, x, rfl, hx, rfl⟩
  · rw [if_neg hx10]
    have hx8 : x < 8 := by rcases hx with q | q <;> omega
    obtain ⟨y, hy1, hy2, hy3⟩ := getD_mem (xs := st.1) (j := x) (by omega)
    have hpx : pF x = 0 := by unfold pF; rw [if_pos (by omega)]
    rw [hy2]
    by_cases hy0 : y = 0
    · subst hy0
      rw [if_pos rfl]
      have hn := nz_set (v := st.2.1 + 1) hy1 (by omega)
      have h9 := nz_le (st.1.set x (st.2.1 + 1))
      rw [hn, List.length_set] at h9
      refine ⟨⟨by simp [h1], by dsimp only; rw [hn]; omega, fun z hz => ?_, by simp [h4]⟩, by dsimp only; omega, st.2.1, rfl, Or.inl (by omega), ?_⟩
      · dsimp only at hz ⊢
        rcases List.mem_or_eq_of_mem_set hz with q | q
        · have := h3 z q; omega
        · omega
      · rw [hpx]; unfold pF; rw [if_pos (by omega)]
    · rw [if_neg hy0]
      have hle := h3 y hy3
      refine ⟨⟨h1, h2, h3, by simp [h4]⟩, by dsimp only; omega, y - 1, rfl, Or.inl (by omega), ?_⟩
      rw [hpx]; unfold pF; rw [if_pos (by omega)]
theorem plainS_ok {xs : List Nat} (hx : ∀ x ∈ xs, okL x) : ∀ j, j ≤ xs.length → PI (plainS (xs.take j)) j ∧ (plainS (xs.take j)).2.1 ≤ 8 ∧ (∀ y ∈ (plainS (xs.take j)).2.2, okL y) ∧ (plainS (xs.take j)).2.2.map pF = (xs.take j).map pF := by
  intro j
  induction j with
  | zero =>
    intro _
    refine ⟨⟨rfl, rfl, fun x hx => ?_, rfl⟩, Nat.zero_le _, fun y hy => ?_, rfl⟩
    · have : x = 0 := by simpa [plainS] using hx
      omega
    · simp [plainS] at hy
  | succ j ih =>
    intro hj
    obtain ⟨x, hx1⟩ : ∃ x, xs[j]? = some x := ⟨xs[j]'(by omega), by simp⟩
    obtain ⟨i1, i2, i3, i4⟩ := ih (by omega)
    obtain ⟨p1, p2, y, p3, p4, p5⟩ := PI_step i1 (hx x (List.mem_of_getElem? hx1))
    rw [plainS_succ hx1]
    refine ⟨p1, p2, fun z hz => ?_, ?_⟩
    · rw [p3] at hz
      rcases List.mem_append.mp hz with q | q
      · exact i3 z q
      · simp at q; subst q; exact p4
    · rw [p3, List.map_append, i4, List.take_succ, hx1, List.map_append]
      simp [p5]
theorem endL_pF : ∀ (xs ys : List Nat) (n : Nat), xs.map pF = ys.map pF → endL n xs = endL n ys
  | [], [], n, _ => rfl
  | [], y :: ys, n, h => by simp at h
  | x :: xs, [], n, h => by simp at h
  | x :: xs, y :: ys, 0, _ => by simp [endL]
  | x :: xs, y :: ys, n + 1, h => by
    simp only [List.map_cons, List.cons.injEq] at h
    simp only [endL, h.1, endL_pF xs ys _ h.2]
theorem TW.plain {xs : List Nat} (h : TW xs) : TW (plainL xs) ∧ (plainL xs).length = xs.length := by
  have := plainS_ok h.2 xs.length (Nat.le_refl _)
  rw [List.take_length] at this
  obtain ⟨i1, i2, i3, i4⟩ := this
  have hl : (plainL xs).length = xs.length := i1.2.2.2
  exact ⟨⟨by rw [hl, ← h.1]; exact endL_pF _ _ 1 i4, i3⟩, hl⟩
def fillO (out : List Nat) (n : Nat) : List Value := out.map vI ++ List.replicate (n - out.length) (.int 0)
theorem fillO_len {out : List Nat} {n : Nat} (h : out.length ≤ n) : (fillO out n).length = n := by simp [fillO]; omega
theorem fillO_set {out : List Nat} {n y : Nat} (h : out.length < n) : (fillO out n).set out.length (vI y) = fillO (out ++ [y]) n := by
  have e2 : n - out.length = (n - (out.length + 1)) + 1 := by omega
  unfold fillO
  rw [e2, List.replicate_succ, List.set_append_right _ _ (by simp), List.map_append, List.append_assoc, List.length_append]
  simp
theorem fillO_end (out : List Nat) : fillO out out.length = out.map vI := by simp [fillO]
section M14
variable {la : Launch} {D : va_G} {cA : Nat → ClassId} {B0 pa : Nat}
set_option maxHeartbeats 16000000 in
theorem c_plainOf (h : AH) {a : Nat} {xs : List Nat} (ha : h a = some (IA xs)) (hx : ∀ x ∈ xs, okL x) (hn : xs.length ≤ 16) : CT la D cA B0 pa yX10_plainOf cX10_plainOf 5 (some (.array .int)) (rmD 0 2 (8 + xs.length)) [.ref a] h (newE B0 h (plainL xs)) := by
  refine CT_of (by decide +kernel) (Nat.le_of_ble_eq_true rfl) ?_
  intro p e s m args below meth c X E hr hlk hnm
  have dk : ∀ {pc : Nat} {q : Instr × Nat}, lkd DX10_plainOf pc = some q → decode cX10_plainOf pc = .ok q := lkd_ok DX10_plainOf_ok
  have la' : (xs.map vI).length = xs.length := List.length_map _
  repeat refine fst1_ok X (dk rfl) rfl ?_
  refine newI_ok (N := 8) X (by decide) (dk rfl) (by show 0 + 1 ≤ 2; omega) (by show 0 + 8 ≤ 8 + xs.length; omega) (fun f hf hBf => ?_)
  have haf : a ≠ f := fun z => by rw [z, hf] at ha; cases ha
  repeat refine fst1_ok X (dk rfl) rfl ?_
  refine alen_ok (kd := 100) (vs := xs.map vI) X (by decide) (dk rfl) (by rw [hup_ne _ _ haf]; exact ha) ?_
  rw [la']
  refine newI_ok (N := xs.length) X (by omega) (dk rfl) (by show 0 + 1 + 1 ≤ 2; omega) (by show 0 + 8 + xs.length ≤ 8 + xs.length; omega) (fun q hq hB => ?_)
  have hfq : f ≠ q := fun z => by rw [z, hup_self] at hq; cases hq
  have hq0 : h q = none := by rw [hup_ne _ _ (Ne.symm hfq)] at hq; exact hq
  have haq : a ≠ q := fun z => by rw [z, hq0] at ha; cases ha
  have loop : ∀ (d j : Nat), d = xs.length - j → j ≤ xs.length → ∀ (hh : AH) (l : List (Nat × Value)), lsel l [4, 3, 2, 1, 0] = [(4, vI j), (3, vI (plainS (xs.take j)).2.1), (2, .ref q), (1, .ref f), (0, .ref a)] → Ext h hh → hh f = some (IA (plainS (xs.take j)).1) → hh q = some (100, fillO (plainS (xs.take j)).2.2 xs.length) → WR p la e (rmD 0 2 (8 + xs.length)) s m args below meth c D cA B0 5 (newE B0 h (plainL xs)) 15 l [] hh (0 + 1 + 1) (0 + 8 + xs.length) := by
    intro d
    induction d with
    | zero =>
      intro j hd hj hh l hl hE hf1 hq1
      have hj2 : j = xs.length := by omega
      subst hj2
      have hP := (plainS_ok hx xs.length (Nat.le_refl _)).1
      rw [List.take_length] at hq1 hP
      refine WS.sel [4, 3, 2, 1, 0] hl ?_
      repeat refine fst1_ok X (dk rfl) rfl ?_
      refine alen_ok X (by decide) (dk rfl) (hE _ _ ha) ?_
      rw [la']
      refine br_ok X (dk rfl) rfl (show ((19 : Nat) : Int) + 60 = ((79 : Nat) : Int) from rfl) (fun c1 => ?_) (fun c1 => absurd (Int32.le_refl _) c1)
      repeat refine fst1_ok X (dk rfl) rfl ?_
      refine reta_ok X hr hlk (Or.inr ⟨_, rfl⟩) (Or.inr ⟨_, rfl⟩) (dk rfl) ⟨q, rfl, hq0, hB, hE, ?_⟩ (Nat.le_refl _) (by show 0 + 8 + xs.length ≤ 8 + xs.length; omega)
      rw [hq1, ← hP.2.2.2, fillO_end]
      rfl
    | succ d ih =>
      intro j hd hj hh l hl hE hf1 hq1
      obtain ⟨x, hx1⟩ : ∃ x, xs[j]? = some x := ⟨xs[j]'(by omega), by simp⟩
      have hok := hx x (List.mem_of_getElem? hx1)
      have hx18 := hok.lt
      obtain ⟨hP, hP8, -, -⟩ := plainS_ok hx j (by omega)
      obtain ⟨hQ, hQ8, -⟩ := PI_step hP hok
      have hS := plainS_succ hx1
      generalize hst : plainS (xs.take j) = st at hP hP8 hQ hQ8 hS hl hf1 hq1
      have f2 : Value.int (nI j + Int32.ofInt 1) = vI (j + 1) := congrArg Value.int (by rw [nI_1', nI_add])
      have back : ∀ (h4 : AH) (l : List (Nat × Value)), lsel l [4, 3, 2, 1, 0] = [(4, vI j), (3, vI (plainStep st x).2.1), (2, .ref q), (1, .ref f), (0, .ref a)] → Ext h h4 → h4 f = some (IA (plainStep st x).1) → h4 q = some (100, fillO (plainStep st x).2.2 xs.length) → WR p la e (rmD 0 2 (8 + xs.length)) s m args below meth c D cA B0 5 (newE B0 h (plainL xs)) 73 l [] h4 (0 + 1 + 1) (0 + 8 + xs.length) := by
        intro h4 l hl hE4 hf4 hq4
        refine WS.sel [4, 3, 2, 1, 0] hl ?_
        repeat refine fst1_ok X (dk rfl) rfl ?_
        refine br_ok X (dk rfl) rfl (show ((76 : Nat) : Int) + (-61) = ((15 : Nat) : Int) from rfl) (fun _ => ?_) (fun q => absurd trivial q)
        refine WS.sel (l' := [(4, vI (j + 1)), (3, vI (plainStep st x).2.1), (2, .ref q), (1, .ref f), (0, .ref a)]) [4, 3, 2, 1, 0] (by rw [← f2]; rfl) ?_
        exact ih (j + 1) (by omega) (by omega) h4 _ (by rw [hS]; rfl) hE4 (by rw [hS]; exact hf4) (by rw [hS]; exact hq4)
      have hol : st.2.2.length = j := hP.2.2.2
      refine WS.sel [4, 3, 2, 1, 0] hl ?_
      repeat refine fst1_ok X (dk rfl) rfl ?_
      refine alen_ok X (by decide) (dk rfl) (hE _ _ ha) ?_
      rw [la']
      refine br_ok X (dk rfl) rfl (show ((19 : Nat) : Int) + 60 = ((79 : Nat) : Int) from rfl) (fun c1 => absurd c1 (nI_ge (by omega) (by omega))) (fun c1 => ?_)
      repeat refine fst1_ok X (dk rfl) rfl ?_
      refine ald_ok X (Or.inl ⟨rfl, rfl⟩) (dk rfl) (hE _ _ ha) (inA_nI (by omega) (IA_get hx1)) ?_
      refine sti_ok X (dk rfl) hq1 (by rw [fillO_len (by omega)]; omega) (by rw [fillO_len (by omega)]; omega) ?_
      have hE2 : Ext h (hup hh q (100, (fillO st.2.2 xs.length).set j (vI x))) := hE.set hq0 _
      repeat refine fst1_ok X (dk rfl) rfl ?_
      refine ald_ok X (Or.inl ⟨rfl, rfl⟩) (dk rfl) (hE2 _ _ ha) (inA_nI (by omega) (IA_get hx1)) ?_
      repeat refine fst1_ok X (dk rfl) rfl ?_
      refine br_ok X (dk rfl) rfl (show ((36 : Nat) : Int) + 6 = ((42 : Nat) : Int) from rfl) (fun c2 => ?_) (fun c2 => ?_)
      · rw [nI_10] at c2
        have hx10 : ¬ 10 ≤ x := by have := (nI_ltI (by omega) (by omega)).mp c2; omega
        have hx8 : x < 8 := by rcases hok with q | q <;> omega
        obtain ⟨y, hy1, hy2, hy3⟩ := getD_mem (xs := st.1) (j := x) (by rw [hP.1]; omega)
        have hyle := hP.2.2.1 y hy3
        have hf2 : hup hh q (100, (fillO st.2.2 xs.length).set j (vI x)) f = some (IA st.1) := by rw [hup_ne _ _ hfq]; exact hf1
        repeat refine fst1_ok X (dk rfl) rfl ?_
        refine ald_ok X (Or.inl ⟨rfl, rfl⟩) (dk rfl) (hE2 _ _ ha) (inA_nI (by omega) (IA_get hx1)) ?_
        refine ald_ok X (Or.inl ⟨rfl, rfl⟩) (dk rfl) hf2 (inA_nI (by omega) (IA_get hy1)) ?_
        -- behind the choice: made[k] = fresh[..] - 1
        have last : ∀ (h3 : AH) (z : Nat) (l : List (Nat × Value)), lsel l [4, 3, 2, 1, 0] = [(4, vI j), (3, vI (plainStep st x).2.1), (2, .ref q), (1, .ref f), (0, .ref a)] → Ext h h3 → h3 f = some (IA (plainStep st x).1) → (plainStep st x).1[x]? = some z → 1 ≤ z → z < 2 ^ 10 → (plainStep st x).2.2 = st.2.2 ++ [z - 1] → h3 q = some (100, (fillO st.2.2 xs.length).set j (vI x)) → WR p la e (rmD 0 2 (8 + xs.length)) s m args below meth c D cA B0 5 (newE B0 h (plainL xs)) 61 l [] h3 (0 + 1 + 1) (0 + 8 + xs.length) := by
          intro h3 z l hl hE3 hf3 hz hz1 hz2 ho hq3
          refine WS.sel [4, 3, 2, 1, 0] hl ?_
          repeat refine fst1_ok X (dk rfl) rfl ?_
          refine ald_ok X (Or.inl ⟨rfl, rfl⟩) (dk rfl) (hE3 _ _ ha) (inA_nI (by omega) (IA_get hx1)) ?_
          refine ald_ok X (Or.inl ⟨rfl, rfl⟩) (dk rfl) hf3 (inA_nI (by omega) (IA_get hz)) ?_
          repeat refine fst1_ok X (dk rfl) rfl ?_
          rw [nI_1', nI_sub hz1]
          refine sti_ok X (dk rfl) hq3 (by rw [List.length_set, fillO_len (by omega)]; omega) (by rw [List.length_set, fillO_len (by omega)]; omega) ?_
          refine back _ _ rfl (hE3.set hq0 _) (by rw [hup_ne _ _ hfq]; exact hf3) ?_
          rw [hup_self, List.set_set, ho, show Value.int (nI (z - 1)) = vI (z - 1) from rfl, ← fillO_set (by omega), hol]
        by_cases hy0 : y = 0
        · subst hy0
          have hstep : plainStep st x = (st.1.set x (st.2.1 + 1), st.2.1 + 1, st.2.2 ++ [st.2.1]) := by unfold plainStep; rw [if_neg hx10, hy2, if_pos rfl]
          rw [hstep] at last
          refine br_ok X (dk rfl) rfl (show ((48 : Nat) : Int) + 13 = ((61 : Nat) : Int) from rfl) (fun c3 => absurd rfl c3) (fun c3 => ?_)
          repeat refine fst1_ok X (dk rfl) rfl ?_
          refine ald_ok X (Or.inl ⟨rfl, rfl⟩) (dk rfl) (hE2 _ _ ha) (inA_nI (by omega) (IA_get hx1)) ?_
          repeat refine fst1_ok X (dk rfl) rfl ?_
          rw [show nI st.2.1 + Int32.ofInt 1 = nI (st.2.1 + 1) by rw [nI_1', nI_add]]
          refine sti_ok X (dk rfl) hf2 (by rw [List.length_map, hP.1]; omega) (by rw [List.length_map, hP.1]; omega) ?_
          refine last _ (st.2.1 + 1) _ rfl ?_ ?_ ?_ (by omega) (by omega) rfl ?_
          · exact hE2.set hf _
          · rw [hup_self, show Value.int (nI (st.2.1 + 1)) = vI (st.2.1 + 1) from rfl]
            unfold IA
            rw [List.map_set]
          · rw [List.getElem?_set_self (by rw [hP.1]; omega)]
          · rw [hup_ne _ _ (Ne.symm hfq), hup_self]
            rfl
        · have hstep : plainStep st x = (st.1, st.2.1, st.2.2 ++ [y - 1]) := by unfold plainStep; rw [if_neg hx10, hy2, if_neg hy0]
          rw [hstep] at last
          refine br_ok X (dk rfl) rfl (show ((48 : Nat) : Int) + 13 = ((61 : Nat) : Int) from rfl) (fun c3 => ?_) (fun c3 => absurd (nI_ne0 (by omega) (by omega)) c3)
          exact last _ y _ rfl hE2 hf2 hy1 (by omega) (by omega) rfl (by rw [hup_self]; rfl)
      · rw [nI_10] at c2
        have hx10 : 10 ≤ x := by
          rcases Nat.lt_or_ge x 10 with z | z
          · exact absurd ((nI_ltI (by omega) (by omega)).mpr z) c2
          · exact z
        have hstep : plainStep st x = (st.1, st.2.1, st.2.2 ++ [x]) := by unfold plainStep; rw [if_pos hx10]
        rw [hstep] at back
        refine br_ok X (dk rfl) rfl (show ((39 : Nat) : Int) + 34 = ((73 : Nat) : Int) from rfl) (fun _ => ?_) (fun q => absurd trivial q)
        refine back _ _ rfl hE2 (by rw [hup_ne _ _ hfq]; exact hf1) ?_
        rw [hup_self, ← fillO_set (by omega), hol]
        rfl
  iterate 5 refine fst1_ok X (dk rfl) rfl ?_
  refine loop _ 0 rfl (Nat.zero_le _) _ _ rfl ((Ext.new hf _).trans (Ext.new hq _)) ?_ ?_
  · rw [hup_ne _ _ hfq, hup_self]
    rfl
  · rw [hup_self]
    simp [fillO, plainS]
end M14
end
section
/-! commonOf -/
/-- the size of the term at a place -/
def tl (xs : List Nat) (a : Nat) : Nat := (endL 1 (xs.drop a)).getD 0
def sub' (xs : List Nat) (a : Nat) : List Nat := (xs.drop a).take (tl xs a)
/-- where a pair stands among the pairs, or their number -/
def idxP (q : List Nat × List Nat) : List (List Nat × List Nat) → Nat
  | [] => 0
  | x :: r => if x = q then 0 else idxP q r + 1
theorem idxP_le (q : List Nat × List Nat) : ∀ ps, idxP q ps ≤ ps.length
  | [] => Nat.le_refl _
  | x :: r => by
    have := idxP_le q r
    unfold idxP
    split
    · omega
    · simp only [List.length_cons]; omega
theorem idxP_lt (q : List Nat × List Nat) : ∀ (ps : List (List Nat × List Nat)) (i : Nat), i < idxP q ps → ∃ x, ps[i]? = some x ∧ x ≠ q
  | [], i, h => by simp [idxP] at h
  | x :: r, i, h => by
    unfold idxP at h
    split at h
    · omega
    · rename_i hx
      cases i with
      | zero => exact ⟨x, by simp, hx⟩
      | succ i =>
        obtain ⟨y, h1, h2⟩ := idxP_lt q r i (by omega)
        exact ⟨y, by simpa using h1, h2⟩
theorem idxP_eq (q : List Nat × List Nat) : ∀ (ps : List (List Nat × List Nat)), idxP q ps < ps.length → ps[idxP q ps]? = some q
  | [], h => by simp [idxP] at h
  | x :: r, h => by
    unfold idxP at h ⊢
    split
    · rename_i hx; simp [hx]
    · rename_i hx
      rw [if_neg hx] at h
      simp only [List.length_cons] at h
      simpa using idxP_eq q r (by omega)
def comF (one other : List Nat) : Nat → Nat → Nat → List (List Nat × List Nat) → List Nat → List (List Nat × List Nat) × List Nat
  | 0, _, _, ps, M => (ps, M)
  | n + 1, a, b, ps, M => match one[a]?, other[b]? with
    | some x, some y => if x = y ∧ 10 ≤ x then comF one other n (a + 1) (b + 1) ps (M ++ [x]) else
        comF one other n (a + tl one a) (b + tl other b) (if idxP (sub' one a, sub' other b) ps < ps.length then ps else ps ++ [(sub' one a, sub' other b)]) (M ++ [idxP (sub' one a, sub' other b) ps])
    | _, _ => (ps, M)
def comL (one other : List Nat) : List (List Nat × List Nat) × List Nat := comF one other 16 0 0 [] []
/-- what holds between the terms, the places and what is made -/
def CI (one other : List Nat) (a b : Nat) (ps : List (List Nat × List Nat)) (M : List Nat) (nd : Nat) : Prop :=
  endL nd (one.drop a) = some (one.length - a) ∧ endL nd (other.drop b) = some (other.length - b) ∧ a ≤ one.length ∧ b ≤ other.length ∧ M.length ≤ a ∧ ps.length ≤ M.length ∧
  (∀ q ∈ ps, TW q.1 ∧ q.1.length ≤ 16 ∧ TW q.2 ∧ q.2.length ≤ 16) ∧ (ps.length ≤ 8 → (∀ R k, endL nd R = some k → endL 1 (M ++ R) = some (M.length + k)) ∧ ∀ x ∈ M, okL x)
theorem endL_nil {n k : Nat} (h : endL n [] = some k) : n = 0 := by
  cases n with
  | zero => rfl
  | succ n => simp [endL] at h
theorem CI_head {one other : List Nat} {a b nd x : Nat} {ps : List (List Nat × List Nat)} {M : List Nat} (h : CI one other a b ps M nd) (ha : one[a]? = some x) (hb : other[b]? = some x) (hx : 10 ≤ x) (hx2 : x < 18) : ∃ nd', CI one other (a + 1) (b + 1) ps (M ++ [x]) nd' := by
  obtain ⟨h1, h2, h3, h4, h5, h6, h7, h8⟩ := h
  have la := (List.getElem?_eq_some_iff.mp ha).1
  have lb := (List.getElem?_eq_some_iff.mp hb).1
  rw [drop_cons ha] at h1
  rw [drop_cons hb] at h2
  cases nd with
  | zero => simp [endL] at h1; omega
  | succ n =>
    simp only [endL, Option.map_eq_some_iff] at h1 h2
    obtain ⟨k1, e1, e2⟩ := h1
    obtain ⟨k2, e3, e4⟩ := h2
    refine ⟨n + pF x, by rw [e1]; congr 1; omega, by rw [e3]; congr 1; omega, by omega, by omega, by simp; omega, by simp; omega, h7, fun q => ?_⟩
    obtain ⟨g1, g2⟩ := h8 q
    refine ⟨fun R k hR => ?_, fun y hy => ?_⟩
    · have := g1 (x :: R) (k + 1) (by simp [endL, hR])
      rw [List.append_assoc, List.singleton_append, this, List.length_append, List.length_singleton]
      congr 1
      omega
    · rcases List.mem_append.mp hy with z | z
      · exact g2 y z
      · simp at z; subst z; exact Or.inr ⟨hx, hx2⟩
theorem CI_name {one other : List Nat} {a b nd : Nat} {ps : List (List Nat × List Nat)} {M : List Nat} (h : CI one other a b ps M nd) (ho : TW one) (hp : TW other) (l1 : one.length ≤ 16) (l2 : other.length ≤ 16) (ha : a < one.length) :
    b < other.length ∧ endL 1 (one.drop a) = some (tl one a) ∧ endL 1 (other.drop b) = some (tl other b) ∧ 0 < tl one a ∧ 0 < tl other b ∧ a + tl one a ≤ one.length ∧ b + tl other b ≤ other.length ∧ TW (sub' one a) ∧ TW (sub' other b) ∧ (sub' one a).length = tl one a ∧ (sub' other b).length = tl other b ∧
    ∃ nd', CI one other (a + tl one a) (b + tl other b) (if idxP (sub' one a, sub' other b) ps < ps.length then ps else ps ++ [(sub' one a, sub' other b)]) (M ++ [idxP (sub' one a, sub' other b) ps]) nd' := by
  obtain ⟨h1, h2, h3, h4, h5, h6, h7, h8⟩ := h
  cases nd with
  | zero => simp [endL] at h1; omega
  | succ n =>
    have hb : b < other.length := by
      rcases Nat.lt_or_ge b other.length with q | q
      · exact q
      · rw [List.drop_eq_nil_of_le q] at h2; have := endL_nil h2; omega
    obtain ⟨k1, e1, e2, e3, e4⟩ := ho.at ha
    obtain ⟨k2, f1, f2, f3, f4⟩ := hp.at hb
    have t1 : tl one a = k1 := by unfold tl; rw [e1]; rfl
    have t2 : tl other b = k2 := by unfold tl; rw [f1]; rfl
    have s1 : (sub' one a).length = tl one a := by unfold sub'; rw [t1]; simp; omega
    have s2 : (sub' other b).length = tl other b := by unfold sub'; rw [t2]; simp; omega
    have w1 : TW (sub' one a) := by unfold sub'; rw [t1]; exact e4
    have w2 : TW (sub' other b) := by unfold sub'; rw [t2]; exact f4
    rw [show n + 1 = 1 + n by omega] at h1 h2
    obtain ⟨j1, g1, g2, g3⟩ := endL_add _ 1 n _ h1
    obtain ⟨j2, g4, g5, g6⟩ := endL_add _ 1 n _ h2
    cases e1.symm.trans g1
    cases f1.symm.trans g4
    rw [List.drop_drop] at g3 g6
    refine ⟨hb, by rw [t1]; exact e1, by rw [t2]; exact f1, by omega, by omega, by omega, by omega, w1, w2, s1, s2, n, ?_⟩
    have hidx := idxP_le (sub' one a, sub' other b) ps
    refine ⟨by rw [t1, g3]; congr 1; omega, by rw [t2, g6]; congr 1; omega, by omega, by omega, by simp; omega, ?_, fun q hq => ?_, fun hle => ?_⟩
    · split
      · simp; omega
      · simp; omega
    · split at hq
      · exact h7 q hq
      · rcases List.mem_append.mp hq with z | z
        · exact h7 q z
        · simp at z; subst z; exact ⟨w1, by show (sub' one a).length ≤ 16; omega, w2, by show (sub' other b).length ≤ 16; omega⟩
    · have hps : ps.length ≤ 8 ∧ idxP (sub' one a, sub' other b) ps < 8 := by
        split at hle
        · exact ⟨hle, by omega⟩
        · simp at hle; omega
      obtain ⟨c1, c2⟩ := h8 hps.1
      refine ⟨fun R k hR => ?_, fun y hy => ?_⟩
      · have hp0 : pF (idxP (sub' one a, sub' other b) ps) = 0 := by unfold pF; rw [if_pos (by omega)]
        have := c1 (idxP (sub' one a, sub' other b) ps :: R) (k + 1) (by simp [endL, hp0, hR])
        rw [List.append_assoc, List.singleton_append, this, List.length_append, List.length_singleton]
        congr 1
        omega
      · rcases List.mem_append.mp hy with z | z
        · exact c2 y z
        · simp at z; subst z; exact Or.inl hps.2
theorem CI_0 {one other : List Nat} (ho : TW one) (hp : TW other) : CI one other 0 0 [] [] 1 :=
  ⟨by simpa using ho.1, by simpa using hp.1, Nat.zero_le _, Nat.zero_le _, Nat.zero_le _, Nat.zero_le _, fun q hq => by simp at hq, fun _ => ⟨fun R k hR => by simpa using hR, fun x hx => by simp at hx⟩⟩
theorem comF_ok {one other : List Nat} (ho : TW one) (hp : TW other) (l1 : one.length ≤ 16) (l2 : other.length ≤ 16) : ∀ (n a b : Nat) (ps : List (List Nat × List Nat)) (M : List Nat) (nd : Nat), CI one other a b ps M nd → one.length ≤ n + a → ∃ nd' b', CI one other one.length b' (comF one other n a b ps M).1 (comF one other n a b ps M).2 nd'
  | 0, a, b, ps, M, nd, h, hn => by
    have : a = one.length := by have := h.2.2.1; omega
    subst this
    exact ⟨nd, b, h⟩
  | n + 1, a, b, ps, M, nd, h, hn => by
    unfold comF
    rcases Nat.lt_or_ge a one.length with ha | ha
    · obtain ⟨n1, n2, n3, n4, n5, -, -, -, -, -, -, nd', hci⟩ := CI_name h ho hp l1 l2 ha
      rw [List.getElem?_eq_getElem ha, List.getElem?_eq_getElem n1]
      dsimp only
      by_cases hxy : one[a] = other[b] ∧ 10 ≤ one[a]
      · rw [if_pos hxy]
        obtain ⟨nd2, h2⟩ := CI_head (x := one[a]) h (List.getElem?_eq_getElem ha) (by rw [List.getElem?_eq_getElem n1, hxy.1]) hxy.2 (ho.2 _ (List.getElem_mem ha)).lt
        exact comF_ok ho hp l1 l2 n (a + 1) (b + 1) ps _ nd2 h2 (by omega)
      · rw [if_neg hxy]
        exact comF_ok ho hp l1 l2 n _ _ _ _ nd' hci (by omega)
    · have hal : a = one.length := by have := h.2.2.1; omega
      subst hal
      rw [List.getElem?_eq_none (Nat.le_refl _)]
      exact ⟨nd, b, h⟩
theorem comL_ok {one other : List Nat} (ho : TW one) (hp : TW other) (l1 : one.length ≤ 16) (l2 : other.length ≤ 16) (h8 : (comL one other).1.length ≤ 8) : TW (comL one other).2 ∧ (comL one other).2.length ≤ 16 := by
  obtain ⟨nd, b, hc⟩ := comF_ok ho hp l1 l2 16 0 0 [] [] 1 (CI_0 ho hp) (by omega)
  obtain ⟨h1, h2, h3, h4, h5, h6, h7, h9⟩ := hc
  obtain ⟨g1, g2⟩ := h9 h8
  rw [List.drop_length] at h1
  have hnd := endL_nil h1
  subst hnd
  have := g1 [] 0 (by simp [endL])
  rw [List.append_nil, Nat.add_zero] at this
  exact ⟨⟨this, g2⟩, by show (comF one other 16 0 0 [] []).2.length ≤ 16; omega⟩
end
section
/-! commonOf: the walk -/
theorem filR_upd {as : List Nat} {N j q : Nat} (h : j < as.length) : (filR as N).set j (.ref q) = filR (as.set j q) N := by
  unfold filR
  rw [List.set_append_left _ _ (by simpa using h), List.map_set, List.length_set]
theorem filR_get {as : List Nat} {N j q : Nat} (h : as[j]? = some q) : (filR as N)[j]? = some (.ref q) := by
  have hl : j < as.length := (List.getElem?_eq_some_iff.mp h).1
  unfold filR
  rw [List.getElem?_append_left (by simpa using hl), List.getElem?_map, h]
  rfl
/-- the array of the pairs found so far -/
def PR (h : AH) (P Z : Nat) (ps : List (List Nat × List Nat)) : Prop := ∃ as : List Nat, as.length = 2 * ps.length ∧ h P = some (105, filR as 32) ∧ ∀ (i : Nat) (q : List Nat × List Nat), ps[i]? = some q → ∃ a b, as[2 * i]? = some a ∧ as[2 * i + 1]? = some b ∧ h a = some (IA q.1) ∧ h b = some (IA q.2) ∧ a ≠ Z ∧ b ≠ Z
theorem IA_ne {h : AH} {a P : Nat} {xs : List Nat} {vs : List Value} (ha : h a = some (IA xs)) (hP : h P = some (105, vs)) : a ≠ P := fun z => by rw [z, hP] at ha; simp [IA] at ha
theorem PR.ext {h h' : AH} {P Z : Nat} {ps : List (List Nat × List Nat)} (H : PR h P Z ps) (E : Ext h h') : PR h' P Z ps := by
  obtain ⟨as, h1, h2, h3⟩ := H
  refine ⟨as, h1, E _ _ h2, fun i q hq => ?_⟩
  obtain ⟨a, b, e1, e2, e3, e4, e5⟩ := h3 i q hq
  exact ⟨a, b, e1, e2, E _ _ e3, E _ _ e4, e5⟩
/-- both places of a pair are set -/
theorem PR.put {h : AH} {P Z a b j : Nat} {ps : List (List Nat × List Nat)} {q : List Nat × List Nat} (hZ : a ≠ Z ∧ b ≠ Z) (H : PR h P Z ps) (ha : h a = some (IA q.1)) (hb : h b = some (IA q.2)) (hj : j ≤ ps.length) (hl : j < 16) (h16' : ps.length ≤ 16) (hq : j < ps.length → ps[j]? = some q) :
    ∃ vs, h P = some (105, vs) ∧ vs.length = 32 ∧ PR (hup h P (105, (vs.set (2 * j) (.ref a)).set (2 * j + 1) (.ref b))) P Z (if j < ps.length then ps else ps ++ [q]) := by
  obtain ⟨as, h1, h2, h3⟩ := H
  have h16 : as.length ≤ 32 := by omega
  · refine ⟨_, h2, filR_len h16, ?_⟩
    by_cases hjl : j < ps.length
    · rw [if_pos hjl, filR_upd (by omega), filR_upd (by rw [List.length_set]; omega)]
      refine ⟨_, by simp [h1], hup_self _ _ _, fun i q' hq' => ?_⟩
      obtain ⟨a', b', e1, e2, e3, e4, e5⟩ := h3 i q' hq'
      by_cases hij : i = j
      · subst hij
        cases (hq hjl).symm.trans hq'
        refine ⟨a, b, ?_, ?_, ?_, ?_, hZ⟩
        · rw [List.getElem?_set_ne (by omega), List.getElem?_set_self (by omega)]
        · rw [List.getElem?_set_self (by rw [List.length_set]; omega)]
        · rw [hup_ne _ _ (IA_ne ha h2)]; exact ha
        · rw [hup_ne _ _ (IA_ne hb h2)]; exact hb
      · refine ⟨a', b', ?_, ?_, ?_, ?_, e5⟩
        · rw [List.getElem?_set_ne (by omega), List.getElem?_set_ne (by omega)]; exact e1
        · rw [List.getElem?_set_ne (by omega), List.getElem?_set_ne (by omega)]; exact e2
        · rw [hup_ne _ _ (IA_ne e3 h2)]; exact e3
        · rw [hup_ne _ _ (IA_ne e4 h2)]; exact e4
    · have hj2 : j = ps.length := by omega
      subst hj2
      have e1 : (filR as 32).set (2 * ps.length) (.ref a) = filR (as ++ [a]) 32 := by rw [← h1]; exact filR_set (by omega)
      have e2 : (filR (as ++ [a]) 32).set (2 * ps.length + 1) (.ref b) = filR (as ++ [a] ++ [b]) 32 := by
        have := filR_set (as := as ++ [a]) (N := 32) (q := b) (by simp; omega)
        rw [← this]
        congr 1
        simp [h1]
      rw [if_neg hjl, e1, e2]
      refine ⟨_, by simp [h1]; omega, hup_self _ _ _, fun i q' hq' => ?_⟩
      rcases Nat.lt_or_ge i ps.length with hi | hi
      · rw [List.getElem?_append_left hi] at hq'
        obtain ⟨a', b', e1, e2, e3, e4, e5⟩ := h3 i q' hq'
        refine ⟨a', b', ?_, ?_, ?_, ?_, e5⟩
        · rw [List.append_assoc, List.getElem?_append_left (by omega)]; exact e1
        · rw [List.append_assoc, List.getElem?_append_left (by omega)]; exact e2
        · rw [hup_ne _ _ (IA_ne e3 h2)]; exact e3
        · rw [hup_ne _ _ (IA_ne e4 h2)]; exact e4
      · rw [List.getElem?_append_right hi] at hq'
        have hz : i - ps.length < 1 := (List.getElem?_eq_some_iff.mp hq').1
        have hi2 : i = ps.length := by omega
        subst hi2
        rw [Nat.sub_self] at hq'
        cases hq'
        refine ⟨a, b, ?_, ?_, ?_, ?_, hZ⟩
        · rw [List.append_assoc, List.getElem?_append_right (by omega), h1, Nat.sub_self]; rfl
        · rw [List.append_assoc, List.getElem?_append_right (by omega), h1, show 2 * ps.length + 1 - 2 * ps.length = 1 by omega]; rfl
        · rw [hup_ne _ _ (IA_ne ha h2)]; exact ha
        · rw [hup_ne _ _ (IA_ne hb h2)]; exact hb
theorem nI_mul (a b : Nat) : nI a * nI b = nI (a * b) := by
  apply Int32.toBitVec_inj.mp
  show BitVec.ofNat 32 a * BitVec.ofNat 32 b = BitVec.ofNat 32 (a * b)
  apply BitVec.eq_of_toNat_eq
  simp [Nat.mul_mod]
theorem ld5_ok {p : Program} {la : Launch} {e : Env} {R : Room} {s : State} {m : MethodId} {args : Array Value} {below : List Frame} {meth : Method} {c : Code} {Q : State → Prop} {D : va_G} {cA : Nat → ClassId} {B0 nL : Nat} {cc : ByteArray} {own : String} {pc k n : Nat} {l : List (Nat × Value)} {r : List Value} {h : AH}
    (X : CX p s m args c D cA B0 nL cc own) {a j q : Nat} {vs : List Value} (hd : decode cc pc = .ok (.aaload, 1)) (ha : h a = some (105, vs)) (hq : vs[j]? = some (.ref q)) (hj : j < 2 ^ 31)
    (kk : WS p la e R s m args below meth c Q D cA B0 nL (pc + 1) l (.ref q :: r) h k n) : WS p la e R s m args below meth c Q D cA B0 nL pc l (.int (nI j) :: .ref a :: r) h k n :=
  ald_ok X (Or.inr (Or.inr ⟨rfl, by decide⟩)) hd ha (inA_nI hj hq) kk
/-- null, if there are more than eight names; else the row -/
def comP (B0 : Nat) (h : AH) (F : List (List Nat × List Nat) × List Nat) (v : Option Value) (h' : AH) : Prop := (8 < F.1.length ∧ v = some .null ∧ Ext h h') ∨ (F.1.length ≤ 8 ∧ newE B0 h F.2 v h')
section M15
variable {la : Launch} {D : va_G} {cA : Nat → ClassId} {B0 pa : Nat}
set_option maxHeartbeats 32000000 in
theorem c_commonOf (h : AH) {o t : Nat} {one other : List Nat} (ho : h o = some (IA one)) (ht : h t = some (IA other)) (wo : TW one) (wt : TW other) (l1 : one.length ≤ 16) (l2 : other.length ≤ 16) : CT la D cA B0 pa yX10_commonOf cX10_commonOf 11 (some (.array .int)) (rmD 3 35 96) [.ref o, .ref t] h (comP B0 h (comL one other)) := by
  refine CT_of (by decide +kernel) (Nat.le_of_ble_eq_true rfl) ?_
  intro p e s m args below meth c X E hr hlk hnm
  have dk : ∀ {pc : Nat} {q : Instr × Nat}, lkd DX10_commonOf pc = some q → decode cX10_commonOf pc = .ok q := lkd_ok DX10_commonOf_ok
  have lo : (one.map vI).length = one.length := List.length_map _
  repeat refine fst1_ok X (dk rfl) rfl ?_
  refine newR_ok (N := 32) (kd := 105) X E (by decide) cl10_9 (by decide) (dk rfl) (by decide) (by decide) (fun P hP hBP => ?_)
  repeat refine fst1_ok X (dk rfl) rfl ?_
  refine newI_ok (N := 16) X (by decide) (dk rfl) (by decide) (by decide) (fun q hq hB => ?_)
  have hPq : P ≠ q := fun z => by rw [z, hup_self] at hq; cases hq
  have hq0 : h q = none := by rw [hup_ne _ _ (Ne.symm hPq)] at hq; exact hq
  have done' : ∀ (b : Nat) (ps : List (List Nat × List Nat)) (M : List Nat) (nd : Nat), CI one other one.length b ps M nd → (ps, M) = comL one other → ∀ (hh : AH) (l : List (Nat × Value)), lsel l [7, 6, 5, 4, 3, 2, 0, 1] = [(7, vI b), (6, vI one.length), (5, vI M.length), (4, vI ps.length), (3, .ref q), (2, .ref P), (0, .ref o), (1, .ref t)] → Ext h hh → hh q = some (100, fillO M 16) →
      WR p la e (rmD 3 35 96) s m args below meth c D cA B0 11 (comP B0 h (comL one other)) 23 l [] hh (2 + 2 * M.length) (48 + one.length + b) := by
    intro b ps M nd hci hF hh l hl hE hq1
    obtain ⟨h1, h2, h3, h4, h5, h6, h7, h8⟩ := hci
    refine WS.sel [7, 6, 5, 4, 3, 2, 0, 1] hl ?_
    repeat refine fst1_ok X (dk rfl) rfl ?_
    refine alen_ok X (by decide) (dk rfl) (hE _ _ ho) ?_
    rw [lo]
    refine br_ok X (dk rfl) rfl (show ((27 : Nat) : Int) + 162 = ((189 : Nat) : Int) from rfl) (fun c1 => ?_) (fun c1 => absurd (Int32.le_refl _) c1)
    repeat refine fst1_ok X (dk rfl) rfl ?_
    refine br_ok X (dk rfl) rfl (show ((193 : Nat) : Int) + 7 = ((200 : Nat) : Int) from rfl) (fun c2 => ?_) (fun c2 => ?_)
    · have h8' : ps.length ≤ 8 := nI_ge' (b := 8) (by omega) (by omega) c2
      repeat refine fst1_ok X (dk rfl) rfl ?_
      rw [nI_0']
      -- piece(made, 0, size): the array holds more than M
      have hq2 : hh q = some (IA (M ++ List.replicate (16 - M.length) 0)) := by
        rw [hq1]
        simp [fillO, IA, vI, nI_0]
      refine callS_ok (rm := rmD 0 1 (M.length - 0)) (av := [.ref q, vI 0, vI M.length]) (r := []) X E (c_piece hh (f := 0) (t := M.length) (ys := M) hq2 (Nat.zero_le _) (by simp) (by simp; omega) (by simp)) lkX10_piece mlX10_40 lsX10_piece ⟨Nat.le_of_ble_eq_true rfl, Nat.le_of_ble_eq_true rfl⟩ ⟨by show 2 + 2 * M.length + 1 ≤ 35; omega, by show 48 + one.length + b + (M.length - 0) ≤ 96; omega⟩ (Nat.le_of_ble_eq_true rfl) (dk rfl) ?_
      rintro v h2 ⟨u, rfl, hu, hBu, rfl⟩
      refine reta_ok X hr hlk (Or.inr ⟨_, rfl⟩) (Or.inr ⟨_, rfl⟩) (dk rfl) ?_ (by show 2 + 2 * M.length + 1 ≤ 35; omega) (by show 48 + one.length + b + (M.length - 0) ≤ 96; omega)
      rw [← hF]
      refine Or.inr ⟨h8', u, rfl, ?_, hBu, hE.trans (Ext.new hu _), hup_self _ _ _⟩
      cases hz : h u with
      | none => rfl
      | some cz => rw [hE _ _ hz] at hu; cases hu
    · have h8' : 8 < ps.length := nI_lt' (b := 8) (by omega) (by omega) c2
      repeat refine fst1_ok X (dk rfl) rfl ?_
      refine br_ok X (dk rfl) rfl (show ((197 : Nat) : Int) + 10 = ((207 : Nat) : Int) from rfl) (fun _ => ?_) (fun q => absurd trivial q)
      refine reta_ok X hr hlk (Or.inr ⟨_, rfl⟩) (Or.inl rfl) (dk rfl) ?_ (by show 2 + 2 * M.length ≤ 35; omega) (by show 48 + one.length + b ≤ 96; omega)
      rw [← hF]
      exact Or.inl ⟨h8', rfl, hE⟩
  have loop : ∀ (n a b : Nat) (ps : List (List Nat × List Nat)) (M : List Nat) (nd : Nat), CI one other a b ps M nd → one.length ≤ n + a → comF one other n a b ps M = comL one other → ∀ (hh : AH) (l : List (Nat × Value)), lsel l [7, 6, 5, 4, 3, 2, 0, 1] = [(7, vI b), (6, vI a), (5, vI M.length), (4, vI ps.length), (3, .ref q), (2, .ref P), (0, .ref o), (1, .ref t)] → Ext h hh → PR hh P q ps → hh q = some (100, fillO M 16) →
      WR p la e (rmD 3 35 96) s m args below meth c D cA B0 11 (comP B0 h (comL one other)) 23 l [] hh (2 + 2 * M.length) (48 + a + b) := by
    intro n
    induction n with
    | zero =>
      intro a b ps M nd hci hn hF hh l hl hE hPR hq1
      have hal : a = one.length := by have := hci.2.2.1; omega
      subst hal
      exact done' b ps M nd hci hF hh l hl hE hq1
    | succ n ih =>
      intro a b ps M nd hci hn hF hh l hl hE hPR hq1
      rcases Nat.lt_or_ge a one.length with ha | ha
      · obtain ⟨n1, n2, n3, n4, n5, n6, n7, n8, n9, n10, n11, nd', hci'⟩ := CI_name hci wo wt l1 l2 ha
        have hci0 := hci
        obtain ⟨-, -, -, -, h5, h6, h7, -⟩ := hci0
        obtain ⟨x, hx1⟩ : ∃ x, one[a]? = some x := ⟨one[a], by simp [ha]⟩
        obtain ⟨y, hy1⟩ : ∃ y, other[b]? = some y := ⟨other[b], by simp [n1]⟩
        have hx18 := (wo.2 x (List.mem_of_getElem? hx1)).lt
        have hy18 := (wt.2 y (List.mem_of_getElem? hy1)).lt
        unfold comF at hF
        rw [hx1, hy1] at hF
        dsimp only at hF
        refine WS.sel [7, 6, 5, 4, 3, 2, 0, 1] hl ?_
        repeat refine fst1_ok X (dk rfl) rfl ?_
        refine alen_ok X (by decide) (dk rfl) (hE _ _ ho) ?_
        rw [lo]
        refine br_ok X (dk rfl) rfl (show ((27 : Nat) : Int) + 162 = ((189 : Nat) : Int) from rfl) (fun c1 => absurd c1 (nI_ge (by omega) (by omega))) (fun c1 => ?_)
        repeat refine fst1_ok X (dk rfl) rfl ?_
        refine ald_ok X (Or.inl ⟨rfl, rfl⟩) (dk rfl) (hE _ _ ho) (inA_nI (by omega) (IA_get hx1)) ?_
        repeat refine fst1_ok X (dk rfl) rfl ?_
        refine ald_ok X (Or.inl ⟨rfl, rfl⟩) (dk rfl) (hE _ _ ht) (inA_nI (by omega) (IA_get hy1)) ?_
        -- a name: from 70 on
        have named : ¬ (x = y ∧ 10 ≤ x) → ∀ (l : List (Nat × Value)), lsel l [7, 6, 5, 4, 3, 2, 0, 1] = [(7, vI b), (6, vI a), (5, vI M.length), (4, vI ps.length), (3, .ref q), (2, .ref P), (0, .ref o), (1, .ref t)] → WR p la e (rmD 3 35 96) s m args below meth c D cA B0 11 (comP B0 h (comL one other)) 70 l [] hh (2 + 2 * M.length) (48 + a + b) := by
          intro hne l hl
          rw [if_neg hne] at hF
          refine WS.sel [7, 6, 5, 4, 3, 2, 0, 1] hl ?_
          repeat refine fst1_ok X (dk rfl) rfl ?_
          refine callS_ok (av := [.ref o, vI a]) (r := []) X E (c_at hh (hE _ _ ho) wo.lt (by omega) n2) lkX10_at mlX10_74 lsX10_at ⟨Nat.le_of_ble_eq_true rfl, Nat.le_of_ble_eq_true rfl⟩ ⟨by show 2 + 2 * M.length + 1 ≤ 35; omega, by show 48 + a + b + tl one a ≤ 96; omega⟩ (Nat.le_of_ble_eq_true rfl) (dk rfl) ?_
          rintro v h1 ⟨u1, rfl, hu1, hBu1, rfl⟩
          have hE1 := hE.trans (Ext.new hu1 (IA (sub' one a)))
          repeat refine fst1_ok X (dk rfl) rfl ?_
          refine callS_ok (av := [.ref t, vI b]) (r := []) X E (c_at _ (hE1 _ _ ht) wt.lt (by omega) n3) lkX10_at mlX10_74 lsX10_at ⟨Nat.le_of_ble_eq_true rfl, Nat.le_of_ble_eq_true rfl⟩ ⟨by show 2 + 2 * M.length + 1 + 1 ≤ 35; omega, by show 48 + a + b + tl one a + tl other b ≤ 96; omega⟩ (Nat.le_of_ble_eq_true rfl) (dk rfl) ?_
          rintro v h2 ⟨u2, rfl, hu2, hBu2, rfl⟩
          have hX1 := Ext.new hu1 (IA (sub' one a))
          have hX2 := Ext.new hu2 (IA (sub' other b))
          have hE2 : Ext h (hup (hup hh u1 (IA (sub' one a))) u2 (IA (sub' other b))) := hE1.trans hX2
          have hu2' : hup hh u1 (IA (sub' one a)) u2 = none := hu2
          have hp2 : hup (hup hh u1 (IA (sub' one a))) u2 (IA (sub' other b)) u2 = some (IA (sub' other b)) := hup_self _ _ _
          have hp1 : hup (hup hh u1 (IA (sub' one a))) u2 (IA (sub' other b)) u1 = some (IA (sub' one a)) := hX2 _ _ (hup_self _ _ _)
          have hPR2 : PR (hup (hup hh u1 (IA (sub' one a))) u2 (IA (sub' other b))) P q ps := (hPR.ext hX1).ext hX2
          have hq2 : hup (hup hh u1 (IA (sub' one a))) u2 (IA (sub' other b)) q = some (100, fillO M 16) := hX2 _ _ (hX1 _ _ hq1)
          have hu1q : u1 ≠ q := fun z => by rw [z, hq1] at hu1; cases hu1
          have hu2q : u2 ≠ q := fun z => by rw [z, hX1 _ _ hq1] at hu2'; cases hu2'
          change WR p la e (rmD 3 35 96) s m args below meth c D cA B0 11 (comP B0 h (comL one other)) _ _ _ (hup (hup hh u1 (IA (sub' one a))) u2 (IA (sub' other b))) (2 + 2 * M.length + 1 + 1) (48 + a + b + tl one a + tl other b)
          generalize hup (hup hh u1 (IA (sub' one a))) u2 (IA (sub' other b)) = h3 at hE2 hp1 hp2 hPR2 hq2 ⊢
          have hidx := idxP_le (sub' one a, sub' other b) ps
          -- the place is found: from 132 on
          have found : ∀ (l : List (Nat × Value)), lsel l [10, 9, 8, 7, 6, 5, 4, 3, 2, 0, 1] = [(10, vI (idxP (sub' one a, sub' other b) ps)), (9, .ref u2), (8, .ref u1), (7, vI b), (6, vI a), (5, vI M.length), (4, vI ps.length), (3, .ref q), (2, .ref P), (0, .ref o), (1, .ref t)] → WR p la e (rmD 3 35 96) s m args below meth c D cA B0 11 (comP B0 h (comL one other)) 132 l [] h3 (2 + 2 * M.length + 1 + 1) (48 + a + b + tl one a + tl other b) := by
            intro l hl
            generalize hj : idxP (sub' one a, sub' other b) ps = j at hl hidx hF hci'
            obtain ⟨vs, hv1, hv2, hv3⟩ := PR.put (j := j) (q := (sub' one a, sub' other b)) ⟨hu1q, hu2q⟩ hPR2 hp1 hp2 hidx (by omega) (by omega) (fun z => by rw [← hj] at z ⊢; exact idxP_eq _ _ z)
            refine WS.sel [10, 9, 8, 7, 6, 5, 4, 3, 2, 0, 1] hl ?_
            repeat refine fst1_ok X (dk rfl) rfl ?_
            rw [nI_2, nI_mul]
            refine str_ok X (dk rfl) hv1 hp1 (by omega) (by omega) ?_
            repeat refine fst1_ok X (dk rfl) rfl ?_
            rw [nI_2, nI_mul, nI_1', nI_add]
            have hu2P := IA_ne hp2 hv1
            refine str_ok X (dk rfl) (hup_self _ _ _) (by rw [hup_ne _ _ hu2P]; exact hp2) (by rw [List.length_set]; omega) (by rw [List.length_set]; omega) ?_
            rw [hup_hup]
            repeat refine fst1_ok X (dk rfl) rfl ?_
            rw [nI_1', nI_add]
            refine mmax_ok X (by omega) (by omega) mlX10_48 (dk rfl) (by decide) (Nat.le_of_ble_eq_true rfl) (by show 2 + 2 * M.length + 1 + 1 ≤ 35; omega) (by show 48 + a + b + tl one a + tl other b ≤ 96; omega) ?_
            repeat refine fst1_ok X (dk rfl) rfl ?_
            have hPq2 : q ≠ P := Ne.symm hPq
            refine sti_ok X (dk rfl) (by rw [hup_ne _ _ hPq2]; exact hq2) (by rw [fillO_len (by omega)]; omega) (by rw [fillO_len (by omega)]; omega) ?_
            have hE5 : Ext h (hup (hup h3 P (105, (vs.set (2 * j) (.ref u1)).set (2 * j + 1) (.ref u2))) q (100, (fillO M 16).set M.length (.int (nI j)))) := (hE2.set hP _).set hq0 _
            repeat refine fst1_ok X (dk rfl) rfl ?_
            refine callS_ok (av := [.ref o, vI a]) (r := []) X E (c_end _ (hE5 _ _ ho) wo.lt (by omega) n2) lkX10_end mlX10_36 lsX10_end ⟨Nat.le_of_ble_eq_true rfl, Nat.le_of_ble_eq_true rfl⟩ ⟨by show 2 + 2 * M.length + 1 + 1 + 0 ≤ 35; omega, by show 48 + a + b + tl one a + tl other b + 0 ≤ 96; omega⟩ (Nat.le_of_ble_eq_true rfl) (dk rfl) ?_
            rintro v h6 ⟨rfl, hh6⟩
            subst hh6
            repeat refine fst1_ok X (dk rfl) rfl ?_
            refine callS_ok (av := [.ref t, vI b]) (r := []) X E (c_end _ (hE5 _ _ ht) wt.lt (by omega) n3) lkX10_end mlX10_36 lsX10_end ⟨Nat.le_of_ble_eq_true rfl, Nat.le_of_ble_eq_true rfl⟩ ⟨by show 2 + 2 * M.length + 1 + 1 + 0 + 0 ≤ 35; omega, by show 48 + a + b + tl one a + tl other b + 0 + 0 ≤ 96; omega⟩ (Nat.le_of_ble_eq_true rfl) (dk rfl) ?_
            rintro v h7 ⟨rfl, hh7⟩
            subst hh7
            repeat refine fst1_ok X (dk rfl) rfl ?_
            refine br_ok X (dk rfl) rfl (show ((186 : Nat) : Int) + (-163) = ((23 : Nat) : Int) from rfl) (fun _ => ?_) (fun q => absurd trivial q)
            have g1 : max ps.length (j + 1) = (if j < ps.length then ps else ps ++ [(sub' one a, sub' other b)]).length := by
              split
              · omega
              · simp; omega
            have g2 : Value.int (nI M.length + Int32.ofInt 1) = vI (M ++ [j]).length := congrArg Value.int (by rw [nI_1', nI_add, List.length_append, List.length_singleton])
            refine WS.sel (l' := [(7, vI (b + tl other b)), (6, vI (a + tl one a)), (5, vI (M ++ [j]).length), (4, vI (if j < ps.length then ps else ps ++ [(sub' one a, sub' other b)]).length), (3, .ref q), (2, .ref P), (0, .ref o), (1, .ref t)]) [7, 6, 5, 4, 3, 2, 0, 1] (by rw [← g1, ← g2]; rfl) ?_
            refine WS.widen (k' := 2 + 2 * (M ++ [j]).length) (n' := 48 + (a + tl one a) + (b + tl other b)) (by show 2 + 2 * M.length + 1 + 1 + 0 + 0 ≤ _; simp; omega) (by show 48 + a + b + tl one a + tl other b + 0 + 0 ≤ _; omega) ?_
            refine ih (a + tl one a) (b + tl other b) _ (M ++ [j]) nd' hci' (by omega) hF _ _ rfl hE5 ?_ ?_
            · obtain ⟨as, w1, w2, w3⟩ := hv3
              refine ⟨as, w1, by rw [hup_ne _ _ hPq]; exact w2, fun i z hz => ?_⟩
              obtain ⟨x1, x2, y1, y2, y3, y4, y5⟩ := w3 i z hz
              exact ⟨x1, x2, y1, y2, by rw [hup_ne _ _ y5.1]; exact y3, by rw [hup_ne _ _ y5.2]; exact y4, y5⟩
            · rw [hup_self, show Value.int (nI j) = vI j from rfl, fillO_set (by omega)]
          -- the search: at 89
          have search : ∀ (d nm : Nat), d = idxP (sub' one a, sub' other b) ps - nm → nm ≤ idxP (sub' one a, sub' other b) ps → ∀ (l : List (Nat × Value)), lsel l [10, 9, 8, 7, 6, 5, 4, 3, 2, 0, 1] = [(10, vI nm), (9, .ref u2), (8, .ref u1), (7, vI b), (6, vI a), (5, vI M.length), (4, vI ps.length), (3, .ref q), (2, .ref P), (0, .ref o), (1, .ref t)] → WR p la e (rmD 3 35 96) s m args below meth c D cA B0 11 (comP B0 h (comL one other)) 89 l [] h3 (2 + 2 * M.length + 1 + 1) (48 + a + b + tl one a + tl other b) := by
            obtain ⟨as, v1, v2, v3⟩ := hPR2
            intro d
            induction d with
            | zero =>
              intro nm hd hnm l hl
              have hnm2 : nm = idxP (sub' one a, sub' other b) ps := by omega
              refine WS.sel [10, 9, 8, 7, 6, 5, 4, 3, 2, 0, 1] hl ?_
              repeat refine fst1_ok X (dk rfl) rfl ?_
              refine br_ok X (dk rfl) rfl (show ((93 : Nat) : Int) + 39 = ((132 : Nat) : Int) from rfl) (fun c2 => ?_) (fun c2 => ?_)
              · exact found _ (by rw [hnm2]; rfl)
              · have hlt : nm < ps.length := nI_lt' (by omega) (by omega) c2
                have hpe := idxP_eq (sub' one a, sub' other b) ps (by omega)
                rw [← hnm2] at hpe
                obtain ⟨x1, x2, y1, y2, y3, y4, -⟩ := v3 nm _ hpe
                repeat refine fst1_ok X (dk rfl) rfl ?_
                rw [nI_2, nI_mul]
                refine ld5_ok X (dk rfl) v2 (filR_get y1) (by omega) ?_
                repeat refine fst1_ok X (dk rfl) rfl ?_
                refine callS_ok (av := [.ref x1, .ref u1]) (r := []) X E (c_same h3 y3 hp1 (by dsimp only; omega) (by omega) n8.lt n8.lt) lkX10_same mlX10_54 lsX10_same ⟨Nat.le_of_ble_eq_true rfl, Nat.le_of_ble_eq_true rfl⟩ ⟨by show 2 + 2 * M.length + 1 + 1 + 0 ≤ 35; omega, by show 48 + a + b + tl one a + tl other b + 0 ≤ 96; omega⟩ (Nat.le_of_ble_eq_true rfl) (dk rfl) ?_
                rintro v h6 ⟨rfl, rfl⟩
                rw [if_pos rfl]
                refine br_ok X (dk rfl) rfl (show ((107 : Nat) : Int) + 19 = ((126 : Nat) : Int) from rfl) (fun c3 => absurd c3 (by decide)) (fun c3 => ?_)
                repeat refine fst1_ok X (dk rfl) rfl ?_
                rw [nI_2, nI_mul, nI_1', nI_add]
                refine ld5_ok X (dk rfl) v2 (filR_get y2) (by omega) ?_
                repeat refine fst1_ok X (dk rfl) rfl ?_
                refine callS_ok (av := [.ref x2, .ref u2]) (r := []) X E (c_same h6 y4 hp2 (by dsimp only; omega) (by omega) n9.lt n9.lt) lkX10_same mlX10_54 lsX10_same ⟨Nat.le_of_ble_eq_true rfl, Nat.le_of_ble_eq_true rfl⟩ ⟨by show 2 + 2 * M.length + 1 + 1 + 0 + 0 ≤ 35; omega, by show 48 + a + b + tl one a + tl other b + 0 + 0 ≤ 96; omega⟩ (Nat.le_of_ble_eq_true rfl) (dk rfl) ?_
                rintro v h7 ⟨rfl, rfl⟩
                rw [if_pos rfl]
                refine br_ok X (dk rfl) rfl (show ((123 : Nat) : Int) + 9 = ((132 : Nat) : Int) from rfl) (fun c3 => ?_) (fun c3 => absurd (by decide) c3)
                exact found _ (by rw [hnm2]; rfl)
            | succ d ihs =>
              intro nm hd hnm l hl
              obtain ⟨z, hz, hzne⟩ := idxP_lt (sub' one a, sub' other b) ps nm (by omega)
              obtain ⟨x1, x2, y1, y2, y3, y4, -⟩ := v3 nm z hz
              have hzw := h7 z (List.mem_of_getElem? hz)
              have f2 : Value.int (nI nm + Int32.ofInt 1) = vI (nm + 1) := congrArg Value.int (by rw [nI_1', nI_add])
              have again : ∀ (l : List (Nat × Value)), lsel l [10, 9, 8, 7, 6, 5, 4, 3, 2, 0, 1] = [(10, vI nm), (9, .ref u2), (8, .ref u1), (7, vI b), (6, vI a), (5, vI M.length), (4, vI ps.length), (3, .ref q), (2, .ref P), (0, .ref o), (1, .ref t)] → WR p la e (rmD 3 35 96) s m args below meth c D cA B0 11 (comP B0 h (comL one other)) 126 l [] h3 (2 + 2 * M.length + 1 + 1) (48 + a + b + tl one a + tl other b) := by
                intro l hl
                refine WS.sel [10, 9, 8, 7, 6, 5, 4, 3, 2, 0, 1] hl ?_
                repeat refine fst1_ok X (dk rfl) rfl ?_
                refine br_ok X (dk rfl) rfl (show ((129 : Nat) : Int) + (-40) = ((89 : Nat) : Int) from rfl) (fun _ => ?_) (fun q => absurd trivial q)
                refine WS.sel (l' := [(10, vI (nm + 1)), (9, .ref u2), (8, .ref u1), (7, vI b), (6, vI a), (5, vI M.length), (4, vI ps.length), (3, .ref q), (2, .ref P), (0, .ref o), (1, .ref t)]) [10, 9, 8, 7, 6, 5, 4, 3, 2, 0, 1] (by rw [← f2]; rfl) ?_
                exact ihs (nm + 1) (by omega) (by omega) _ rfl
              refine WS.sel [10, 9, 8, 7, 6, 5, 4, 3, 2, 0, 1] hl ?_
              repeat refine fst1_ok X (dk rfl) rfl ?_
              refine br_ok X (dk rfl) rfl (show ((93 : Nat) : Int) + 39 = ((132 : Nat) : Int) from rfl) (fun c2 => absurd c2 (nI_ge (by omega) (by omega))) (fun c2 => ?_)
              repeat refine fst1_ok X (dk rfl) rfl ?_
              rw [nI_2, nI_mul]
              refine ld5_ok X (dk rfl) v2 (filR_get y1) (by omega) ?_
              repeat refine fst1_ok X (dk rfl) rfl ?_
              refine callS_ok (av := [.ref x1, .ref u1]) (r := []) X E (c_same h3 y3 hp1 (by omega) (by omega) hzw.1.lt n8.lt) lkX10_same mlX10_54 lsX10_same ⟨Nat.le_of_ble_eq_true rfl, Nat.le_of_ble_eq_true rfl⟩ ⟨by show 2 + 2 * M.length + 1 + 1 + 0 ≤ 35; omega, by show 48 + a + b + tl one a + tl other b + 0 ≤ 96; omega⟩ (Nat.le_of_ble_eq_true rfl) (dk rfl) ?_
              rintro v h6 ⟨rfl, rfl⟩
              by_cases hz1 : z.1 = sub' one a
              · rw [if_pos hz1]
                refine br_ok X (dk rfl) rfl (show ((107 : Nat) : Int) + 19 = ((126 : Nat) : Int) from rfl) (fun c3 => absurd c3 (by decide)) (fun c3 => ?_)
                repeat refine fst1_ok X (dk rfl) rfl ?_
                rw [nI_2, nI_mul, nI_1', nI_add]
                refine ld5_ok X (dk rfl) v2 (filR_get y2) (by omega) ?_
                repeat refine fst1_ok X (dk rfl) rfl ?_
                refine callS_ok (av := [.ref x2, .ref u2]) (r := []) X E (c_same h6 y4 hp2 (by omega) (by omega) hzw.2.2.1.lt n9.lt) lkX10_same mlX10_54 lsX10_same ⟨Nat.le_of_ble_eq_true rfl, Nat.le_of_ble_eq_true rfl⟩ ⟨by show 2 + 2 * M.length + 1 + 1 + 0 + 0 ≤ 35; omega, by show 48 + a + b + tl one a + tl other b + 0 + 0 ≤ 96; omega⟩ (Nat.le_of_ble_eq_true rfl) (dk rfl) ?_
                rintro v h7' ⟨rfl, rfl⟩
                have hz2 : ¬ z.2 = sub' other b := fun w => hzne (Prod.ext hz1 w)
                rw [if_neg hz2]
                refine br_ok X (dk rfl) rfl (show ((123 : Nat) : Int) + 9 = ((132 : Nat) : Int) from rfl) (fun c3 => absurd rfl c3) (fun c3 => ?_)
                exact again _ rfl
              · rw [if_neg hz1]
                refine br_ok X (dk rfl) rfl (show ((107 : Nat) : Int) + 19 = ((126 : Nat) : Int) from rfl) (fun c3 => ?_) (fun c3 => absurd rfl c3)
                exact again _ rfl
          iterate 3 refine fst1_ok X (dk rfl) rfl ?_
          exact search _ 0 rfl (Nat.zero_le _) _ rfl
        refine br_ok X (dk rfl) rfl (show ((38 : Nat) : Int) + 32 = ((70 : Nat) : Int) from rfl) (fun c2 => ?_) (fun c2 => ?_)
        · exact named (fun z => c2 (by rw [z.1])) _ rfl
        · have hxy : x = y := (nI_eq (by omega) (by omega)).mp (Decidable.not_not.mp c2)
          repeat refine fst1_ok X (dk rfl) rfl ?_
          refine ald_ok X (Or.inl ⟨rfl, rfl⟩) (dk rfl) (hE _ _ ho) (inA_nI (by omega) (IA_get hx1)) ?_
          repeat refine fst1_ok X (dk rfl) rfl ?_
          refine br_ok X (dk rfl) rfl (show ((47 : Nat) : Int) + 23 = ((70 : Nat) : Int) from rfl) (fun c3 => ?_) (fun c3 => ?_)
          · rw [nI_10] at c3
            have hlt : x < 10 := (nI_ltI (by omega) (by omega)).mp c3
            exact named (fun z => by omega) _ rfl
          · rw [nI_10] at c3
            have hge : 10 ≤ x := by
              rcases Nat.lt_or_ge x 10 with z | z
              · exact absurd ((nI_ltI (by omega) (by omega)).mpr z) c3
              · exact z
            subst hxy
            rw [if_pos ⟨rfl, hge⟩] at hF
            obtain ⟨nd2, hci2⟩ := CI_head hci hx1 hy1 hge hx18
            repeat refine fst1_ok X (dk rfl) rfl ?_
            refine ald_ok X (Or.inl ⟨rfl, rfl⟩) (dk rfl) (hE _ _ ho) (inA_nI (by omega) (IA_get hx1)) ?_
            refine sti_ok X (dk rfl) hq1 (by rw [fillO_len (by omega)]; omega) (by rw [fillO_len (by omega)]; omega) ?_
            repeat refine fst1_ok X (dk rfl) rfl ?_
            refine br_ok X (dk rfl) rfl (show ((67 : Nat) : Int) + (-44) = ((23 : Nat) : Int) from rfl) (fun _ => ?_) (fun q => absurd trivial q)
            have g1 : ∀ z : Nat, Value.int (nI z + Int32.ofInt 1) = vI (z + 1) := fun z => congrArg Value.int (by rw [nI_1', nI_add])
            have g2 : (M ++ [x]).length = M.length + 1 := by simp
            refine WS.sel (l' := [(7, vI (b + 1)), (6, vI (a + 1)), (5, vI (M ++ [x]).length), (4, vI ps.length), (3, .ref q), (2, .ref P), (0, .ref o), (1, .ref t)]) [7, 6, 5, 4, 3, 2, 0, 1] (by rw [g2, ← g1, ← g1, ← g1]; rfl) ?_
            refine WS.widen (k' := 2 + 2 * (M ++ [x]).length) (n' := 48 + (a + 1) + (b + 1)) (by rw [g2]; omega) (by omega) ?_
            refine ih (a + 1) (b + 1) ps (M ++ [x]) nd2 hci2 (by omega) hF _ _ rfl (hE.set hq0 _) ?_ (by rw [hup_self, show Value.int (nI x) = vI x from rfl, fillO_set (by omega)])
            obtain ⟨as, w1, w2, w3⟩ := hPR
            refine ⟨as, w1, by rw [hup_ne _ _ hPq]; exact w2, fun i z hz => ?_⟩
            obtain ⟨x1, x2, y1, y2, y3, y4, y5⟩ := w3 i z hz
            exact ⟨x1, x2, y1, y2, by rw [hup_ne _ _ y5.1]; exact y3, by rw [hup_ne _ _ y5.2]; exact y4, y5⟩
      · have hal : a = one.length := by have := hci.2.2.1; omega
        subst hal
        unfold comF at hF
        rw [List.getElem?_eq_none (Nat.le_refl _)] at hF
        exact done' b ps M nd hci hF hh l hl hE hq1
  iterate 9 refine fst1_ok X (dk rfl) rfl ?_
  refine loop 16 0 0 [] [] 1 (CI_0 wo wt) (by omega) rfl _ _ rfl ((Ext.new hP _).trans (Ext.new hq _)) ⟨[], rfl, by rw [hup_ne _ _ hPq, hup_self, filR_0], fun i z hz => by simp at hz⟩ ?_
  rw [hup_self]
  simp [fillO]
end M15
end
section
/-! matched -/
def matchF (onto : List Nat) : List Nat → Nat → List (Option (List Nat)) → Option (List (Option (List Nat)))
  | [], _, told => some told
  | x :: r, b, told => if onto.length ≤ b then none else if 10 ≤ x then (if onto[b]? = some x then matchF onto r (b + 1) told else none) else
      match told.getD x none with
      | some t => if t = sub' onto b then matchF onto r (b + tl onto b) (told.set x (some (sub' onto b))) else none
      | none => matchF onto r (b + tl onto b) (told.set x (some (sub' onto b)))
def restT (told : List (Option (List Nat))) : List (List Nat) := (List.range 8).map (fun k => (told.getD k none).getD [k])
def matchL (one onto : List Nat) : Option (List (List Nat)) := (matchF onto one 0 (List.replicate 8 none)).map restT
/-- what is told so far -/
def TO (h : AH) (T : Nat) (told : List (Option (List Nat))) : Prop := ∃ os : List (Option Nat), os.length = 8 ∧ told.length = 8 ∧ h T = some (105, os.map va_rf) ∧
  (∀ (k : Nat) (r : List Nat), told[k]? = some (some r) → ∃ a, os[k]? = some (some a) ∧ h a = some (IA r)) ∧ ∀ k : Nat, told[k]? = some none → os[k]? = some none
theorem TO.ext {h h' : AH} {T : Nat} {told : List (Option (List Nat))} (H : TO h T told) (E : Ext h h') : TO h' T told := by
  obtain ⟨os, h1, h2, h3, h4, h5⟩ := H
  refine ⟨os, h1, h2, E _ _ h3, fun k r hk => ?_, h5⟩
  obtain ⟨a, e1, e2⟩ := h4 k r hk
  exact ⟨a, e1, E _ _ e2⟩
theorem TO.put {h : AH} {T a x : Nat} {told : List (Option (List Nat))} {r : List Nat} (H : TO h T told) (ha : h a = some (IA r)) (hx : x < 8) :
    ∃ vs, h T = some (105, vs) ∧ vs.length = 8 ∧ TO (hup h T (105, vs.set x (.ref a))) T (told.set x (some r)) := by
  obtain ⟨os, h1, h2, h3, h4, h5⟩ := H
  refine ⟨_, h3, by rw [List.length_map, h1], os.set x (some a), by simp [h1], by simp [h2], ?_, fun k r' hk => ?_, fun k hk => ?_⟩
  · rw [hup_self, List.map_set]
    rfl
  · by_cases hkx : k = x
    · subst hkx
      rw [List.getElem?_set_self (by omega)] at hk
      cases hk
      exact ⟨a, List.getElem?_set_self (by omega), by rw [hup_ne _ _ (IA_ne ha h3)]; exact ha⟩
    · rw [List.getElem?_set_ne (Ne.symm hkx)] at hk
      obtain ⟨a', e1, e2⟩ := h4 k r' hk
      exact ⟨a', by rw [List.getElem?_set_ne (Ne.symm hkx)]; exact e1, by rw [hup_ne _ _ (IA_ne e2 h3)]; exact e2⟩
  · by_cases hkx : k = x
    · subst hkx
      rw [List.getElem?_set_self (by omega)] at hk
      cases hk
    · rw [List.getElem?_set_ne (Ne.symm hkx)] at hk ⊢
      exact h5 k hk
/-- what is told is terms -/
def TT (told : List (Option (List Nat))) : Prop := told.length = 8 ∧ ∀ r, some r ∈ told → TW r ∧ r.length ≤ 16
theorem sub_ok {xs : List Nat} (h : TW xs) (hl : xs.length ≤ 16) {b : Nat} (hb : b < xs.length) : endL 1 (xs.drop b) = some (tl xs b) ∧ 0 < tl xs b ∧ b + tl xs b ≤ xs.length ∧ TW (sub' xs b) ∧ (sub' xs b).length = tl xs b := by
  obtain ⟨k, e1, e2, e3, e4⟩ := h.at hb
  have t1 : tl xs b = k := by unfold tl; rw [e1]; rfl
  refine ⟨by rw [t1]; exact e1, by omega, by omega, by unfold sub'; rw [t1]; exact e4, ?_⟩
  unfold sub'
  rw [t1]
  simp
  omega
theorem TT.set {told : List (Option (List Nat))} (h : TT told) {x : Nat} {r : List Nat} (hr : TW r ∧ r.length ≤ 16) : TT (told.set x (some r)) := by
  refine ⟨by simp [h.1], fun r' hr' => ?_⟩
  rcases List.mem_or_eq_of_mem_set hr' with q | q
  · exact h.2 r' q
  · cases q; exact hr
theorem restT_AO {told : List (Option (List Nat))} (h : TT told) : AO (restT told) := by
  refine ⟨by simp [restT], fun r hr => ?_⟩
  unfold restT at hr
  obtain ⟨k, hk, rfl⟩ := List.mem_map.mp hr
  have hk8 : k < 8 := List.mem_range.mp hk
  have hkl : k < told.length := by rw [h.1]; exact hk8
  rw [List.getD_eq_getElem?_getD, List.getElem?_eq_getElem hkl]
  cases hz : told[k] with
  | none => exact ⟨TW.name hk8, by simp⟩
  | some r => exact h.2 r (by rw [← hz]; exact List.getElem_mem hkl)
/-- null, or a new array of new rows -/
def optR (B0 : Nat) (h : AH) (o : Option (List (List Nat))) (v : Option Value) (h' : AH) : Prop := match o with
  | none => v = some .null ∧ Ext h h'
  | some rows => newR B0 h rows v h'
section M16
variable {la : Launch} {D : va_G} {cA : Nat → ClassId} {B0 pa : Nat}
set_option maxHeartbeats 16000000 in
theorem c_matched (h : AH) {o t : Nat} {one onto : List Nat} (ho : h o = some (IA one)) (ht : h t = some (IA onto)) (wo : ∀ x ∈ one, okL x) (wt : TW onto) (l1 : one.length ≤ 16) (l2 : onto.length ≤ 16) : CT la D cA B0 pa yX10_matched cX10_matched 9 (some (.array (.array .int))) (rmD 3 25 32) [.ref o, .ref t] h (fun v h' => optR B0 h (matchL one onto) v h' ∧ ∀ rows, matchL one onto = some rows → AO rows) := by
  refine CT_of (by decide +kernel) (Nat.le_of_ble_eq_true rfl) ?_
  intro p e s m args below meth c X E hr hlk hnm
  have dk : ∀ {pc : Nat} {q : Instr × Nat}, lkd DX10_matched pc = some q → decode cX10_matched pc = .ok q := lkd_ok DX10_matched_ok
  have lo : (one.map vI).length = one.length := List.length_map _
  have lt' : (onto.map vI).length = onto.length := List.length_map _
  repeat refine fst1_ok X (dk rfl) rfl ?_
  refine newR_ok (N := 8) (kd := 105) X E (by decide) cl10_9 (by decide) (dk rfl) (by decide) (by decide) (fun T hT hBT => ?_)
  have hoT : o ≠ T := fun z => by rw [z, hT] at ho; cases ho
  repeat refine fst1_ok X (dk rfl) rfl ?_
  refine alen_ok (kd := 100) (vs := one.map vI) X (by decide) (dk rfl) (by rw [hup_ne _ _ hoT]; exact ho) ?_
  rw [lo]
  -- the names that are told of nothing: from 113 on
  have fill : ∀ (d j : Nat), d = 8 - j → j ≤ 8 → ∀ (told : List (Option (List Nat))), TT told → (∀ i, i < j → ∃ r, told[i]? = some (some r)) → matchL one onto = some (restT told) → ∀ (hh : AH) (l : List (Nat × Value)), lsel l [4, 2] = [(4, vI j), (2, .ref T)] → Ext h hh → TO hh T told → WR p la e (rmD 3 25 32) s m args below meth c D cA B0 9 (fun v h' => optR B0 h (matchL one onto) v h' ∧ ∀ rows, matchL one onto = some rows → AO rows) 113 l [] hh (17 + j) (24 + j) := by
    intro d
    induction d with
    | zero =>
      intro j hd hj told hTT hall hF hh l hl hE hTO
      have hj2 : j = 8 := by omega
      subst hj2
      refine WS.sel [4, 2] hl ?_
      repeat refine fst1_ok X (dk rfl) rfl ?_
      refine br_ok X (dk rfl) rfl (show ((117 : Nat) : Int) + 25 = ((142 : Nat) : Int) from rfl) (fun c1 => ?_) (fun c1 => absurd (by decide) c1)
      repeat refine fst1_ok X (dk rfl) rfl ?_
      refine reta_ok X hr hlk (Or.inr ⟨_, rfl⟩) (Or.inr ⟨_, rfl⟩) (dk rfl) ⟨?_, fun rows hrows => ?_⟩ (Nat.le_refl _) (Nat.le_refl _)
      · rw [hF]
        obtain ⟨os, h1, h2, h3, h4, h5⟩ := hTO
        have hos : ∀ i, i < 8 → ∃ r a, told[i]? = some (some r) ∧ os[i]? = some (some a) ∧ hh a = some (IA r) := by
          intro i hi
          obtain ⟨r, hr'⟩ := hall i hi
          obtain ⟨a, e1, e2⟩ := h4 i r hr'
          exact ⟨r, a, hr', e1, e2⟩
        have hmap : os.map va_rf = (os.map (fun z => z.getD 0)).map Value.ref := by
          rw [List.map_map]
          apply List.map_congr_left
          intro z hz
          obtain ⟨i, hi⟩ := List.getElem?_of_mem hz
          have hi8 : i < 8 := by rw [← h1]; exact (List.getElem?_eq_some_iff.mp hi).1
          obtain ⟨r, a, -, e1, -⟩ := hos i hi8
          cases hi.symm.trans e1
          rfl
        refine ⟨T, rfl, hT, hBT, hE, os.map (fun z => z.getD 0), by simp [restT, h1], by rw [h3, hmap], fun k a r hk hr' => ?_⟩
        have hk8 : k < 8 := by
          have := (List.getElem?_eq_some_iff.mp hk).1
          rw [List.length_map, h1] at this
          exact this
        obtain ⟨r0, a0, e0, e1, e2⟩ := hos k hk8
        rw [List.getElem?_map, e1] at hk
        cases hk
        have : r = r0 := by
          unfold restT at hr'
          rw [List.getElem?_map, List.getElem?_range hk8] at hr'
          simp only [Option.map_some, Option.some.injEq] at hr'
          rw [← hr', List.getD_eq_getElem?_getD, e0]
          rfl
        rw [this]
        exact e2
      · rw [hF] at hrows
        cases hrows
        exact restT_AO hTT
    | succ d ih =>
      intro j hd hj told hTT hall hF hh l hl hE hTO
      have hTO' := hTO
      obtain ⟨os, h1, h2, h3, h4, h5⟩ := hTO'
      have f2 : Value.int (nI j + Int32.ofInt 1) = vI (j + 1) := congrArg Value.int (by rw [nI_1', nI_add])
      obtain ⟨w, hw⟩ : ∃ w, told[j]? = some w := ⟨told[j]'(by omega), by simp⟩
      refine WS.sel [4, 2] hl ?_
      repeat refine fst1_ok X (dk rfl) rfl ?_
      refine br_ok X (dk rfl) rfl (show ((117 : Nat) : Int) + 25 = ((142 : Nat) : Int) from rfl) (fun c1 => absurd c1 (nI_ge (b := 8) (by omega) (by omega))) (fun c1 => ?_)
      repeat refine fst1_ok X (dk rfl) rfl ?_
      cases w with
      | some r =>
        obtain ⟨a, e1, e2⟩ := h4 j r hw
        refine ald_ok X (Or.inr (Or.inr ⟨rfl, by decide⟩)) (dk rfl) h3 (inA_nI (v := .ref a) (by omega) (by rw [List.getElem?_map, e1]; rfl)) ?_
        refine br_ok X (dk rfl) rfl (show ((124 : Nat) : Int) + 12 = ((136 : Nat) : Int) from rfl) (fun c2 => ?_) (fun c2 => absurd trivial c2)
        repeat refine fst1_ok X (dk rfl) rfl ?_
        refine br_ok X (dk rfl) rfl (show ((139 : Nat) : Int) + (-26) = ((113 : Nat) : Int) from rfl) (fun _ => ?_) (fun q => absurd trivial q)
        refine WS.sel (l' := [(4, vI (j + 1)), (2, .ref T)]) [4, 2] (by rw [← f2]; rfl) ?_
        refine WS.widen (k' := 17 + (j + 1)) (n' := 24 + (j + 1)) (by omega) (by omega) ?_
        refine ih (j + 1) (by omega) (by omega) told hTT (fun i hi => ?_) hF hh _ rfl hE hTO
        rcases Nat.lt_or_ge i j with q | q
        · exact hall i q
        · exact ⟨r, by rw [show i = j by omega]; exact hw⟩
      | none =>
        have e1 := h5 j hw
        refine ald_ok X (Or.inr (Or.inr ⟨rfl, by decide⟩)) (dk rfl) h3 (inA_nI (v := .null) (by omega) (by rw [List.getElem?_map, e1]; rfl)) ?_
        refine br_ok X (dk rfl) rfl (show ((124 : Nat) : Int) + 12 = ((136 : Nat) : Int) from rfl) (fun c2 => absurd c2 (fun z => z)) (fun c2 => ?_)
        repeat refine fst1_ok X (dk rfl) rfl ?_
        refine callS_ok (av := [vI j]) (r := [vI j, .ref T]) X E (c_row hh j) lkX10_row mlX10_20 lsX10_row ⟨Nat.le_of_ble_eq_true rfl, Nat.le_of_ble_eq_true rfl⟩ ⟨by show 17 + j + 1 ≤ 25; omega, by show 24 + j + 1 ≤ 32; omega⟩ (Nat.le_of_ble_eq_true rfl) (dk rfl) ?_
        rintro v h2 ⟨u, rfl, hu, hBu, rfl⟩
        have hX := Ext.new hu (IA [j])
        obtain ⟨vs, g1, g2, g3⟩ := (hTO.ext hX).put (x := j) (hup_self hh u (IA [j])) (by omega)
        refine str_ok X (dk rfl) g1 (hup_self _ _ _) (by omega) (by omega) ?_
        repeat refine fst1_ok X (dk rfl) rfl ?_
        refine br_ok X (dk rfl) rfl (show ((139 : Nat) : Int) + (-26) = ((113 : Nat) : Int) from rfl) (fun _ => ?_) (fun q => absurd trivial q)
        refine WS.sel (l' := [(4, vI (j + 1)), (2, .ref T)]) [4, 2] (by rw [← f2]; rfl) ?_
        refine ih (j + 1) (by omega) (by omega) (told.set j (some [j])) (hTT.set ⟨TW.name (by omega), by simp⟩) (fun i hi => ?_) ?_ _ _ rfl ((hE.trans hX).set hT _) g3
        · rcases Nat.lt_or_ge i j with q | q
          · rw [List.getElem?_set_ne (by omega)]; exact hall i q
          · exact ⟨[j], by rw [show i = j by omega, List.getElem?_set_self (by omega)]⟩
        · rw [hF]
          congr 1
          unfold restT
          apply List.map_congr_left
          intro k hk
          rw [List.getD_eq_getElem?_getD, List.getD_eq_getElem?_getD]
          by_cases hkj : k = j
          · subst hkj
            rw [hw, List.getElem?_set_self (by omega)]
            rfl
          · rw [List.getElem?_set_ne (Ne.symm hkj)]
  -- the letters: from 19 on
  have loop : ∀ (d j : Nat), d = one.length - j → j ≤ one.length → ∀ (b : Nat) (told : List (Option (List Nat))), b ≤ onto.length → TT told → matchL one onto = (matchF onto (one.drop j) b told).map restT → ∀ (hh : AH) (l : List (Nat × Value)), lsel l [6, 5, 4, 3, 2, 1] = [(6, vI j), (5, vI one.length), (4, .ref o), (3, vI b), (2, .ref T), (1, .ref t)] → Ext h hh → TO hh T told →
      WR p la e (rmD 3 25 32) s m args below meth c D cA B0 9 (fun v h' => optR B0 h (matchL one onto) v h' ∧ ∀ rows, matchL one onto = some rows → AO rows) 19 l [] hh (1 + j) (8 + b) := by
    intro d
    induction d with
    | zero =>
      intro j hd hj b told hb hTT hF hh l hl hE hTO
      have hj2 : j = one.length := by omega
      subst hj2
      rw [List.drop_length] at hF
      refine WS.sel [6, 5, 4, 3, 2, 1] hl ?_
      repeat refine fst1_ok X (dk rfl) rfl ?_
      refine br_ok X (dk rfl) rfl (show ((23 : Nat) : Int) + 87 = ((110 : Nat) : Int) from rfl) (fun c1 => ?_) (fun c1 => absurd (Int32.le_refl _) c1)
      iterate 2 refine fst1_ok X (dk rfl) rfl ?_
      refine WS.widen (k' := 17 + 0) (n' := 24 + 0) (by omega) (by omega) ?_
      exact fill 8 0 rfl (by omega) told hTT (fun i hi => by omega) hF hh _ rfl hE hTO
    | succ d ih =>
      intro j hd hj b told hb hTT hF hh l hl hE hTO
      obtain ⟨x, hx1⟩ : ∃ x, one[j]? = some x := ⟨one[j]'(by omega), by simp⟩
      have hok := wo x (List.mem_of_getElem? hx1)
      have hx18 := hok.lt
      rw [drop_cons hx1] at hF
      unfold matchF at hF
      have f2 : Value.int (nI j + Int32.ofInt 1) = vI (j + 1) := congrArg Value.int (by rw [nI_1', nI_add])
      -- the answer null
      have null' : matchL one onto = none → ∀ (pc : Nat) (l : List (Nat × Value)) (k n : Nat) (h4 : AH), lkd DX10_matched pc = some (.aconst_null, 1) → lkd DX10_matched (pc + 1) = some (.areturn, 1) → Ext h h4 → k ≤ 25 → n ≤ 32 → WR p la e (rmD 3 25 32) s m args below meth c D cA B0 9 (fun v h' => optR B0 h (matchL one onto) v h' ∧ ∀ rows, matchL one onto = some rows → AO rows) pc l [] h4 k n := by
        intro hN pc l k n h4 d1 d2 hE4 hk hn
        refine fst1_ok (l' := l) (st' := [.null]) X (dk d1) rfl ?_
        refine reta_ok X hr hlk (Or.inr ⟨_, rfl⟩) (Or.inl rfl) (dk d2) ⟨?_, fun rows hrows => by rw [hN] at hrows; cases hrows⟩ hk hn
        rw [hN]
        exact ⟨rfl, hE4⟩
      refine WS.sel [6, 5, 4, 3, 2, 1] hl ?_
      repeat refine fst1_ok X (dk rfl) rfl ?_
      refine br_ok X (dk rfl) rfl (show ((23 : Nat) : Int) + 87 = ((110 : Nat) : Int) from rfl) (fun c1 => absurd c1 (nI_ge (by omega) (by omega))) (fun c1 => ?_)
      repeat refine fst1_ok X (dk rfl) rfl ?_
      refine ald_ok X (Or.inl ⟨rfl, rfl⟩) (dk rfl) (hE _ _ ho) (inA_nI (by omega) (IA_get hx1)) ?_
      repeat refine fst1_ok X (dk rfl) rfl ?_
      refine alen_ok X (by decide) (dk rfl) (hE _ _ ht) ?_
      rw [lt']
      refine br_ok X (dk rfl) rfl (show ((36 : Nat) : Int) + 5 = ((41 : Nat) : Int) from rfl) (fun c2 => ?_) (fun c2 => ?_)
      · have hbl : b < onto.length := (nI_ltI (by omega) (by omega)).mp c2
        rw [if_neg (by omega)] at hF
        obtain ⟨g1, g2, g3, g4, g5⟩ := sub_ok wt l2 hbl
        obtain ⟨y, hy1⟩ : ∃ y, onto[b]? = some y := ⟨onto[b]'hbl, by simp⟩
        have hy18 := (wt.2 y (List.mem_of_getElem? hy1)).lt
        repeat refine fst1_ok X (dk rfl) rfl ?_
        refine br_ok X (dk rfl) rfl (show ((45 : Nat) : Int) + 19 = ((64 : Nat) : Int) from rfl) (fun c3 => ?_) (fun c3 => ?_)
        · rw [nI_10] at c3
          have hx10 : x < 10 := (nI_ltI (by omega) (by omega)).mp c3
          have hx8 : x < 8 := by rcases hok with q | q <;> omega
          rw [if_neg (by omega)] at hF
          repeat refine fst1_ok X (dk rfl) rfl ?_
          refine callS_ok (av := [.ref t, vI b]) (r := []) X E (c_at hh (hE _ _ ht) wt.lt (by omega) g1) lkX10_at mlX10_74 lsX10_at ⟨Nat.le_of_ble_eq_true rfl, Nat.le_of_ble_eq_true rfl⟩ ⟨by show 1 + j + 1 ≤ 25; omega, by show 8 + b + tl onto b ≤ 32; omega⟩ (Nat.le_of_ble_eq_true rfl) (dk rfl) ?_
          rintro v h1 ⟨u, rfl, hu, hBu, rfl⟩
          have hX := Ext.new hu (IA (sub' onto b))
          have hE1 : Ext h (hup hh u (IA (sub' onto b))) := hE.trans hX
          have hTO1 : TO (hup hh u (IA (sub' onto b))) T told := hTO.ext hX
          have hu1 : hup hh u (IA (sub' onto b)) u = some (IA (sub' onto b)) := hup_self _ _ _
          change WR p la e (rmD 3 25 32) s m args below meth c D cA B0 9 (fun v h' => optR B0 h (matchL one onto) v h' ∧ ∀ rows, matchL one onto = some rows → AO rows) _ _ _ (hup hh u (IA (sub' onto b))) (1 + j + 1) (8 + b + tl onto b)
          generalize hup hh u (IA (sub' onto b)) = h1 at hE1 hTO1 hu1 ⊢
          -- told[letter] = its; b = end(onto, b): from 92 on
          have put' : matchL one onto = (matchF onto (one.drop (j + 1)) (b + tl onto b) (told.set x (some (sub' onto b)))).map restT → ∀ (l : List (Nat × Value)), lsel l [8, 7, 6, 5, 4, 3, 2, 1] = [(8, .ref u), (7, vI x), (6, vI j), (5, vI one.length), (4, .ref o), (3, vI b), (2, .ref T), (1, .ref t)] → WR p la e (rmD 3 25 32) s m args below meth c D cA B0 9 (fun v h' => optR B0 h (matchL one onto) v h' ∧ ∀ rows, matchL one onto = some rows → AO rows) 92 l [] h1 (1 + j + 1) (8 + b + tl onto b) := by
            intro hF2 l hl
            obtain ⟨vs, w1, w2, w3⟩ := hTO1.put (x := x) hu1 hx8
            refine WS.sel [8, 7, 6, 5, 4, 3, 2, 1] hl ?_
            repeat refine fst1_ok X (dk rfl) rfl ?_
            refine str_ok X (dk rfl) w1 hu1 (by omega) (by omega) ?_
            have hE2 : Ext h (hup h1 T (105, vs.set x (.ref u))) := hE1.set hT _
            repeat refine fst1_ok X (dk rfl) rfl ?_
            refine callS_ok (av := [.ref t, vI b]) (r := []) X E (c_end _ (hE2 _ _ ht) wt.lt (by omega) g1) lkX10_end mlX10_36 lsX10_end ⟨Nat.le_of_ble_eq_true rfl, Nat.le_of_ble_eq_true rfl⟩ ⟨by show 1 + j + 1 + 0 ≤ 25; omega, by show 8 + b + tl onto b + 0 ≤ 32; omega⟩ (Nat.le_of_ble_eq_true rfl) (dk rfl) ?_
            rintro v h6 ⟨rfl, hh6⟩
            subst hh6
            repeat refine fst1_ok X (dk rfl) rfl ?_
            refine br_ok X (dk rfl) rfl (show ((107 : Nat) : Int) + (-88) = ((19 : Nat) : Int) from rfl) (fun _ => ?_) (fun q => absurd trivial q)
            refine WS.sel (l' := [(6, vI (j + 1)), (5, vI one.length), (4, .ref o), (3, vI (b + tl onto b)), (2, .ref T), (1, .ref t)]) [6, 5, 4, 3, 2, 1] (by rw [← f2]; rfl) ?_
            refine WS.widen (k' := 1 + (j + 1)) (n' := 8 + (b + tl onto b)) (by show 1 + j + 1 + 0 ≤ _; omega) (by show 8 + b + tl onto b + 0 ≤ _; omega) ?_
            exact ih (j + 1) (by omega) (by omega) (b + tl onto b) _ (by omega) (hTT.set ⟨g4, by omega⟩) hF2 _ _ rfl hE2 w3
          have hTO2 := hTO1
          obtain ⟨os, t1, t2, t3, t4, t5⟩ := hTO2
          obtain ⟨w, hw⟩ : ∃ w, told[x]? = some w := ⟨told[x]'(by omega), by simp⟩
          rw [List.getD_eq_getElem?_getD, hw] at hF
          repeat refine fst1_ok X (dk rfl) rfl ?_
          cases w with
          | none =>
            simp only [Option.getD_some] at hF
            refine ald_ok X (Or.inr (Or.inr ⟨rfl, by decide⟩)) (dk rfl) t3 (inA_nI (v := .null) (by omega) (by rw [List.getElem?_map, t5 x hw]; rfl)) ?_
            refine br_ok X (dk rfl) rfl (show ((75 : Nat) : Int) + 17 = ((92 : Nat) : Int) from rfl) (fun c4 => ?_) (fun c4 => absurd trivial c4)
            exact put' hF _ rfl
          | some r =>
            simp only [Option.getD_some] at hF
            obtain ⟨a, e1, e2⟩ := t4 x r hw
            have hrr := hTT.2 r (List.mem_of_getElem? hw)
            refine ald_ok X (Or.inr (Or.inr ⟨rfl, by decide⟩)) (dk rfl) t3 (inA_nI (v := .ref a) (by omega) (by rw [List.getElem?_map, e1]; rfl)) ?_
            refine br_ok X (dk rfl) rfl (show ((75 : Nat) : Int) + 17 = ((92 : Nat) : Int) from rfl) (fun c4 => absurd c4 (fun z => z)) (fun c4 => ?_)
            repeat refine fst1_ok X (dk rfl) rfl ?_
            refine ald_ok X (Or.inr (Or.inr ⟨rfl, by decide⟩)) (dk rfl) t3 (inA_nI (v := .ref a) (by omega) (by rw [List.getElem?_map, e1]; rfl)) ?_
            repeat refine fst1_ok X (dk rfl) rfl ?_
            refine callS_ok (av := [.ref a, .ref u]) (r := []) X E (c_same h1 e2 hu1 (by omega) (by omega) hrr.1.lt g4.lt) lkX10_same mlX10_54 lsX10_same ⟨Nat.le_of_ble_eq_true rfl, Nat.le_of_ble_eq_true rfl⟩ ⟨by show 1 + j + 1 + 0 ≤ 25; omega, by show 8 + b + tl onto b + 0 ≤ 32; omega⟩ (Nat.le_of_ble_eq_true rfl) (dk rfl) ?_
            rintro v h6 ⟨rfl, hh6⟩
            subst hh6
            by_cases hrs : r = sub' onto b
            · rw [if_pos hrs] at hF ⊢
              refine br_ok X (dk rfl) rfl (show ((87 : Nat) : Int) + 5 = ((92 : Nat) : Int) from rfl) (fun c5 => ?_) (fun c5 => absurd (by decide) c5)
              exact put' hF _ rfl
            · rw [if_neg hrs] at hF ⊢
              refine br_ok X (dk rfl) rfl (show ((87 : Nat) : Int) + 5 = ((92 : Nat) : Int) from rfl) (fun c5 => absurd rfl c5) (fun c5 => ?_)
              exact null' hF 90 _ _ _ _ rfl rfl hE1 (by show 1 + j + 1 + 0 ≤ 25; omega) (by show 8 + b + tl onto b + 0 ≤ 32; omega)
        · rw [nI_10] at c3
          have hx10 : 10 ≤ x := by
            rcases Nat.lt_or_ge x 10 with z | z
            · exact absurd ((nI_ltI (by omega) (by omega)).mpr z) c3
            · exact z
          rw [if_pos hx10, hy1] at hF
          repeat refine fst1_ok X (dk rfl) rfl ?_
          refine ald_ok X (Or.inl ⟨rfl, rfl⟩) (dk rfl) (hE _ _ ht) (inA_nI (by omega) (IA_get hy1)) ?_
          repeat refine fst1_ok X (dk rfl) rfl ?_
          refine br_ok X (dk rfl) rfl (show ((53 : Nat) : Int) + 5 = ((58 : Nat) : Int) from rfl) (fun c4 => ?_) (fun c4 => ?_)
          · have hyx : y = x := (nI_eq (by omega) (by omega)).mp c4
            rw [if_pos (by rw [hyx])] at hF
            repeat refine fst1_ok X (dk rfl) rfl ?_
            refine br_ok X (dk rfl) rfl (show ((61 : Nat) : Int) + 43 = ((104 : Nat) : Int) from rfl) (fun _ => ?_) (fun q => absurd trivial q)
            repeat refine fst1_ok X (dk rfl) rfl ?_
            refine br_ok X (dk rfl) rfl (show ((107 : Nat) : Int) + (-88) = ((19 : Nat) : Int) from rfl) (fun _ => ?_) (fun q => absurd trivial q)
            have f3 : Value.int (nI b + Int32.ofInt 1) = vI (b + 1) := congrArg Value.int (by rw [nI_1', nI_add])
            refine WS.sel (l' := [(6, vI (j + 1)), (5, vI one.length), (4, .ref o), (3, vI (b + 1)), (2, .ref T), (1, .ref t)]) [6, 5, 4, 3, 2, 1] (by rw [← f2, ← f3]; rfl) ?_
            refine WS.widen (k' := 1 + (j + 1)) (n' := 8 + (b + 1)) (by omega) (by omega) ?_
            exact ih (j + 1) (by omega) (by omega) (b + 1) told (by omega) hTT hF hh _ rfl hE hTO
          · have hyx : ¬ y = x := fun z => c4 (by rw [z])
            rw [if_neg (fun z => hyx (Option.some.inj z))] at hF
            exact null' hF 56 _ _ _ _ rfl rfl hE (by omega) (by omega)
      · have hbl : onto.length ≤ b := by
          rcases Nat.lt_or_ge b onto.length with z | z
          · exact absurd ((nI_ltI (by omega) (by omega)).mpr z) c2
          · exact z
        rw [if_pos hbl] at hF
        exact null' hF 39 _ _ _ _ rfl rfl hE (by omega) (by omega)
  iterate 3 refine fst1_ok X (dk rfl) rfl ?_
  refine loop _ 0 rfl (Nat.zero_le _) 0 (List.replicate 8 none) (Nat.zero_le _) ⟨rfl, fun r hr => by simp at hr⟩ rfl _ _ rfl (Ext.new hT _) ⟨List.replicate 8 none, rfl, rfl, hup_self _ _ _, fun k r hk => ?_, fun k hk => ?_⟩
  · rw [List.getElem?_replicate] at hk
    split at hk <;> cases hk
  · rw [List.getElem?_replicate] at hk ⊢
    split at hk
    · rename_i hk8
      rw [if_pos hk8]
    · cases hk
end M16
end
section
set_option maxRecDepth 100000 in
theorem cwX8 : ∀ w ∈ u_ws RX8 TX8 5, w ∈ WT := fun w h => WT_of ((show ∀ w ∈ u_ws RX8 TX8 5, w ∈ lw_tbl by decide +kernel) w h) ((show ∀ w ∈ u_ws RX8 TX8 5, goodWord w = true by decide +kernel) w h)
theorem ftX8_0 : FT 10 0 (.array (.array .int)) true := ⟨RX8, TX8, 5, rfl, by decide +kernel, rfl⟩
theorem ftX8_1 : FT 10 1 (.array .int) true := ⟨RX8, TX8, 5, rfl, by decide +kernel, rfl⟩
theorem ftX8_2 : FT 10 2 (.array .int) true := ⟨RX8, TX8, 5, rfl, by decide +kernel, rfl⟩
theorem ftX8_3 : FT 10 3 .int false := ⟨RX8, TX8, 5, rfl, by decide +kernel, rfl⟩
theorem ftX8_4 : FT 10 4 .boolean false := ⟨RX8, TX8, 5, rfl, by decide +kernel, rfl⟩
set_option maxRecDepth 100000 in
theorem cwX9 : ∀ w ∈ u_ws RX9 TX9 3, w ∈ WT := fun w h => WT_of ((show ∀ w ∈ u_ws RX9 TX9 3, w ∈ lw_tbl by decide +kernel) w h) ((show ∀ w ∈ u_ws RX9 TX9 3, goodWord w = true by decide +kernel) w h)
theorem ftX9_0 : FT 11 0 (.array (.array .int)) true := ⟨RX9, TX9, 3, rfl, by decide +kernel, rfl⟩
theorem ftX9_1 : FT 11 1 .int false := ⟨RX9, TX9, 3, rfl, by decide +kernel, rfl⟩
theorem ftX9_2 : FT 11 2 .int false := ⟨RX9, TX9, 3, rfl, by decide +kernel, rfl⟩
set_option maxRecDepth 100000 in
theorem cwX10 : ∀ w ∈ u_ws RX10 TX10 6, w ∈ WT := fun w h => WT_of ((show ∀ w ∈ u_ws RX10 TX10 6, w ∈ lw_tbl by decide +kernel) w h) ((show ∀ w ∈ u_ws RX10 TX10 6, goodWord w = true by decide +kernel) w h)
theorem ftX10_0 : FT 12 0 (.array (.array .int)) true := ⟨RX10, TX10, 6, rfl, by decide +kernel, rfl⟩
theorem ftX10_1 : FT 12 1 (.array (.array (.array .int))) true := ⟨RX10, TX10, 6, rfl, by decide +kernel, rfl⟩
theorem ftX10_2 : FT 12 2 .int false := ⟨RX10, TX10, 6, rfl, by decide +kernel, rfl⟩
theorem ftX10_3 : FT 12 3 .int false := ⟨RX10, TX10, 6, rfl, by decide +kernel, rfl⟩
theorem ftX10_4 : FT 12 4 .int false := ⟨RX10, TX10, 6, rfl, by decide +kernel, rfl⟩
theorem ftX10_5 : FT 12 5 .int false := ⟨RX10, TX10, 6, rfl, by decide +kernel, rfl⟩
set_option maxRecDepth 100000 in
theorem flX10_11 : FL RX10 11 12 0 := ⟨RX10, TX10, 6, tyX10, rfl, cwX10, by decide, WT_of (List.mem_of_getElem? (i := 1334) (by decide +kernel)) rfl, rfl, tyX10_ok, nmX10⟩
set_option maxRecDepth 100000 in
theorem flX10_16 : FL RX10 16 12 1 := ⟨RX10, TX10, 6, tyX10, rfl, cwX10, by decide, WT_of (List.mem_of_getElem? (i := 1335) (by decide +kernel)) rfl, rfl, tyX10_ok, nmX10⟩
set_option maxRecDepth 100000 in
theorem flX10_82 : FL RX10 82 12 2 := ⟨RX10, TX10, 6, tyX10, rfl, cwX10, by decide, WT_of (List.mem_of_getElem? (i := 1336) (by decide +kernel)) rfl, rfl, tyX10_ok, nmX10⟩
set_option maxRecDepth 100000 in
theorem flX10_85 : FL RX10 85 12 3 := ⟨RX10, TX10, 6, tyX10, rfl, cwX10, by decide, WT_of (List.mem_of_getElem? (i := 1337) (by decide +kernel)) rfl, rfl, tyX10_ok, nmX10⟩
set_option maxRecDepth 100000 in
theorem flX10_218 : FL RX10 218 12 4 := ⟨RX10, TX10, 6, tyX10, rfl, cwX10, by decide, WT_of (List.mem_of_getElem? (i := 1338) (by decide +kernel)) rfl, rfl, tyX10_ok, nmX10⟩
set_option maxRecDepth 100000 in
theorem flX10_28 : FL RX10 28 12 5 := ⟨RX10, TX10, 6, tyX10, rfl, cwX10, by decide, WT_of (List.mem_of_getElem? (i := 1339) (by decide +kernel)) rfl, rfl, tyX10_ok, nmX10⟩
set_option maxRecDepth 100000 in
theorem flX9_11 : FL RX9 11 11 0 := ⟨RX9, TX9, 3, tyX9, rfl, cwX9, by decide, WT_of (List.mem_of_getElem? (i := 1536) (by decide +kernel)) rfl, rfl, tyX9_ok, nmX9⟩
set_option maxRecDepth 100000 in
theorem flX9_29 : FL RX9 29 11 1 := ⟨RX9, TX9, 3, tyX9, rfl, cwX9, by decide, WT_of (List.mem_of_getElem? (i := 1537) (by decide +kernel)) rfl, rfl, tyX9_ok, nmX9⟩
set_option maxRecDepth 100000 in
theorem fnX10_211 : FLN RX10 211 11 1 := ⟨RX9, TX9, 3, "BranchmatchModel", rfl, cwX9, by decide, List.mem_of_getElem? (i := 1538) (by decide +kernel), rfl⟩
set_option maxRecDepth 100000 in
theorem flX9_25 : FL RX9 25 11 2 := ⟨RX9, TX9, 3, tyX9, rfl, cwX9, by decide, WT_of (List.mem_of_getElem? (i := 1539) (by decide +kernel)) rfl, rfl, tyX9_ok, nmX9⟩
set_option maxRecDepth 100000 in
theorem fnX10_204 : FLN RX10 204 11 2 := ⟨RX9, TX9, 3, "BranchmatchModel", rfl, cwX9, by decide, List.mem_of_getElem? (i := 1540) (by decide +kernel), rfl⟩
set_option maxRecDepth 100000 in
theorem flX8_11 : FL RX8 11 10 0 := ⟨RX8, TX8, 5, tyX8, rfl, cwX8, by decide, WT_of (List.mem_of_getElem? (i := 1586) (by decide +kernel)) rfl, rfl, tyX8_ok, nmX8⟩
set_option maxRecDepth 100000 in
theorem flX8_17 : FL RX8 17 10 1 := ⟨RX8, TX8, 5, tyX8, rfl, cwX8, by decide, WT_of (List.mem_of_getElem? (i := 1587) (by decide +kernel)) rfl, rfl, tyX8_ok, nmX8⟩
set_option maxRecDepth 100000 in
theorem flX8_20 : FL RX8 20 10 2 := ⟨RX8, TX8, 5, tyX8, rfl, cwX8, by decide, WT_of (List.mem_of_getElem? (i := 1588) (by decide +kernel)) rfl, rfl, tyX8_ok, nmX8⟩
set_option maxRecDepth 100000 in
theorem flX8_35 : FL RX8 35 10 3 := ⟨RX8, TX8, 5, tyX8, rfl, cwX8, by decide, WT_of (List.mem_of_getElem? (i := 1589) (by decide +kernel)) rfl, rfl, tyX8_ok, nmX8⟩
set_option maxRecDepth 100000 in
theorem flX8_23 : FL RX8 23 10 4 := ⟨RX8, TX8, 5, tyX8, rfl, cwX8, by decide, WT_of (List.mem_of_getElem? (i := 1590) (by decide +kernel)) rfl, rfl, tyX8_ok, nmX8⟩
set_option maxRecDepth 100000 in
theorem fnX10_207 : FLN RX10 207 10 4 := ⟨RX8, TX8, 5, "BranchmatchModel", rfl, cwX8, by decide, List.mem_of_getElem? (i := 1591) (by decide +kernel), rfl⟩
end
section
/-! private methods of the reference are their own -/
set_option maxRecDepth 100000 in
theorem lpX10_isThrown : Cond.selects yX10_isThrown.cls yX10_isThrown yX10_isThrown ∈ WT := WT_of (by decide +kernel) rfl
set_option maxRecDepth 100000 in
theorem lpX10_isThrown_ : Cond.selects yX10_isThrown_.cls yX10_isThrown_ yX10_isThrown_ ∈ WT := WT_of (by decide +kernel) rfl
set_option maxRecDepth 100000 in
theorem lpX10_done : Cond.selects yX10_done.cls yX10_done yX10_done ∈ WT := WT_of (by decide +kernel) rfl
set_option maxRecDepth 100000 in
theorem lpX10_no : Cond.selects yX10_no.cls yX10_no yX10_no ∈ WT := WT_of (by decide +kernel) rfl
set_option maxRecDepth 100000 in
theorem lpX10_give : Cond.selects yX10_give.cls yX10_give yX10_give ∈ WT := WT_of (by decide +kernel) rfl
set_option maxRecDepth 100000 in
theorem lpX10_isPlace : Cond.selects yX10_isPlace.cls yX10_isPlace yX10_isPlace ∈ WT := WT_of (by decide +kernel) rfl
set_option maxRecDepth 100000 in
theorem lpX10_become : Cond.selects yX10_become.cls yX10_become yX10_become ∈ WT := WT_of (by decide +kernel) rfl
set_option maxRecDepth 100000 in
theorem lpX10_told_ : Cond.selects yX10_told_.cls yX10_told_ yX10_told_ ∈ WT := WT_of (by decide +kernel) rfl
set_option maxRecDepth 100000 in
theorem lpX9_go : Cond.selects yX9_go.cls yX9_go yX9_go ∈ WT := WT_of (by decide +kernel) rfl
set_option maxRecDepth 100000 in
theorem lpX9_deep : Cond.selects yX9_deep.cls yX9_deep yX9_deep ∈ WT := WT_of (by decide +kernel) rfl
set_option maxRecDepth 100000 in
theorem lpX9_bind : Cond.selects yX9_bind.cls yX9_bind yX9_bind ∈ WT := WT_of (by decide +kernel) rfl
set_option maxRecDepth 100000 in
theorem lpX9_isWithin : Cond.selects yX9_isWithin.cls yX9_isWithin yX9_isWithin ∈ WT := WT_of (by decide +kernel) rfl
set_option maxRecDepth 100000 in
theorem lpX9_goOn : Cond.selects yX9_goOn.cls yX9_goOn yX9_goOn ∈ WT := WT_of (by decide +kernel) rfl
set_option maxRecDepth 100000 in
theorem lpX8_come : Cond.selects yX8_come.cls yX8_come yX8_come ∈ WT := WT_of (by decide +kernel) rfl
set_option maxRecDepth 100000 in
theorem lpX8_number : Cond.selects yX8_number.cls yX8_number yX8_number ∈ WT := WT_of (by decide +kernel) rfl
set_option maxRecDepth 100000 in
theorem lpX8_headed : Cond.selects yX8_headed.cls yX8_headed yX8_headed ∈ WT := WT_of (by decide +kernel) rfl
set_option maxRecDepth 100000 in
theorem lpX8_join : Cond.selects yX8_join.cls yX8_join yX8_join ∈ WT := WT_of (by decide +kernel) rfl
set_option maxRecDepth 100000 in
theorem lpX8_isRound : Cond.selects yX8_isRound.cls yX8_isRound yX8_isRound ∈ WT := WT_of (by decide +kernel) rfl
set_option maxRecDepth 100000 in
theorem lpX8_isFree : Cond.selects yX8_isFree.cls yX8_isFree yX8_isFree ∈ WT := WT_of (by decide +kernel) rfl
set_option maxRecDepth 100000 in
theorem lpX8_whole : Cond.selects yX8_whole.cls yX8_whole yX8_whole ∈ WT := WT_of (by decide +kernel) rfl
end
section
/-! the state of the reference, and its own small methods -/
def bI (b : Bool) : Int32 := bif b then Int32.ofInt 1 else Int32.ofInt 0
theorem bI_f : ¬ bI false ≠ 0 := by decide
theorem bI_f' : bI false = 0 := by decide
theorem bI_t : bI true ≠ 0 := by decide
theorem bI_n : ∀ b : Bool, narrow .boolean (.int (bI b)) = .int (bI b) := by decide
/-- a number of a range -/
def inN (N : Nat) (x : Int32) : Prop := ∃ j, j < N ∧ x = nI j
theorem inN_of {x : Int32} {N : Nat} (hN : N < 2 ^ 31) (h1 : ¬ x < 0) (h2 : ¬ nI N ≤ x) : inN N x := by
  obtain ⟨j, hj, rfl⟩ := nI_of h1
  exact ⟨j, nI_lt' hj hN h2, rfl⟩
/-- the reference's object o, its slots S, its answers A -/
def MD (h : AH) (o S A : Nat) (sl : List (List Nat)) (an : List (List (List Nat))) (a r kn th : Int32) : Prop :=
  h o = some (12, [.ref S, .ref A, .int a, .int r, .int kn, .int th]) ∧ Ans h S sl ∧ sl.length = 6 ∧ (∀ r ∈ sl, TW r ∧ r.length ≤ 16) ∧
    ∃ as : List Nat, as.length = 3 ∧ an.length = 3 ∧ h A = some (106, as.map Value.ref) ∧ S ∉ as ∧ ∀ (k b : Nat) (rows : List (List Nat)), as[k]? = some b → an[k]? = some rows → Ans h b rows ∧ AO rows
/-- outside the reference's own three cells all stays -/
def Fr (o S A : Nat) (h h' : AH) : Prop := ∀ (b : Nat) (c : AC), b ≠ o → b ≠ S → b ≠ A → h b = some c → h' b = some c
theorem Fr.rf {o S A : Nat} (h : AH) : Fr o S A h h := fun _ _ _ _ _ e => e
theorem Fr.trans {o S A : Nat} {h h1 h2 : AH} (a : Fr o S A h h1) (b : Fr o S A h1 h2) : Fr o S A h h2 := fun x c q1 q2 q3 e => b x c q1 q2 q3 (a x c q1 q2 q3 e)
theorem Fr.ext {o S A : Nat} {h h' : AH} (a : Ext h h') : Fr o S A h h' := fun x c _ _ _ e => a x c e
theorem Fr.set {o S A : Nat} {h h' : AH} (a : Fr o S A h h') {q : Nat} (hq : q = o ∨ q = S ∨ q = A) (c : AC) : Fr o S A h (hup h' q c) := fun x c' q1 q2 q3 e => by
  rw [hup_ne _ _ (by rcases hq with rfl | rfl | rfl <;> assumption)]
  exact a x c' q1 q2 q3 e
theorem Ans.kind {h : AH} {A : Nat} {rows : List (List Nat)} (H : Ans h A rows) : ∃ vs, h A = some (105, vs) := ⟨_, H.choose_spec.2.1⟩
theorem k_ne {h : AH} {a b : Nat} {k1 k2 : Nat} {v1 v2 : List Value} (h1 : h a = some (k1, v1)) (h2 : h b = some (k2, v2)) (hk : k1 ≠ k2) : a ≠ b := fun z => by
  rw [z, h2] at h1
  cases h1
  exact hk rfl
/-- an answer's array, under a change of a cell that isn't it and isn't a row -/
theorem Ans.hup {h : AH} {A q : Nat} {rows : List (List Nat)} (H : Ans h A rows) (hq : q ≠ A) {k : Nat} {vs : List Value} (hk : h q = some (k, vs)) (hn : k ≠ 100) (c : AC) : Ans (hup h q c) A rows := by
  obtain ⟨as, h1, h2, h3⟩ := H
  refine ⟨as, h1, by rw [hup_ne _ _ (Ne.symm hq)]; exact h2, fun k' a r e1 e2 => ?_⟩
  have h4 := h3 k' a r e1 e2
  rw [hup_ne _ _ (fun z => by rw [z, hk] at h4; cases h4; exact hn rfl)]
  exact h4
section MDs
variable {h : AH} {o S A : Nat} {sl : List (List Nat)} {an : List (List (List Nat))} {a r kn th : Int32}
theorem MD.obj (M : MD h o S A sl an a r kn th) : h o = some (12, [.ref S, .ref A, .int a, .int r, .int kn, .int th]) := M.1
theorem MD.ext (M : MD h o S A sl an a r kn th) {h' : AH} (E : Ext h h') : MD h' o S A sl an a r kn th := by
  obtain ⟨m1, m2, m3, m4, as, m5, m6, m7, m8, m9⟩ := M
  exact ⟨E _ _ m1, m2.ext E, m3, m4, as, m5, m6, E _ _ m7, m8, fun k b rows e1 e2 => ⟨(m9 k b rows e1 e2).1.ext E, (m9 k b rows e1 e2).2⟩⟩
theorem MD.fld (M : MD h o S A sl an a r kn th) (a' r' kn' th' : Int32) : MD (hup h o (12, [.ref S, .ref A, .int a', .int r', .int kn', .int th'])) o S A sl an a' r' kn' th' := by
  obtain ⟨m1, m2, m3, m4, as, m5, m6, m7, m8, m9⟩ := M
  obtain ⟨vs, hS⟩ := m2.kind
  refine ⟨hup_self _ _ _, m2.hup (k_ne m1 hS (by decide)) m1 (by decide) _, m3, m4, as, m5, m6, by rw [hup_ne _ _ (k_ne m7 m1 (by decide))]; exact m7, m8, fun k b rows e1 e2 => ?_⟩
  obtain ⟨n1, n2⟩ := m9 k b rows e1 e2
  obtain ⟨vs', hb⟩ := n1.kind
  exact ⟨n1.hup (k_ne m1 hb (by decide)) m1 (by decide) _, n2⟩
/-- the row of a slot -/
theorem MD.slot (M : MD h o S A sl an a r kn th) : ∃ ss : List Nat, ss.length = 6 ∧ h S = some (105, ss.map Value.ref) ∧ ∀ k, k < 6 → ∃ b r, ss[k]? = some b ∧ sl[k]? = some r ∧ h b = some (IA r) ∧ TW r ∧ r.length ≤ 16 := by
  obtain ⟨m1, m2, m3, m4, -⟩ := M
  obtain ⟨ss, h1, h2, h3⟩ := m2.row
  refine ⟨ss, by omega, h2, fun k hk => ?_⟩
  obtain ⟨b, r, e1, e2, e3⟩ := h3 k (by omega)
  exact ⟨b, r, e1, e2, e3, m4 r (List.mem_of_getElem? e2)⟩
/-- the rows of an answer -/
theorem MD.ans (M : MD h o S A sl an a r kn th) : ∃ as : List Nat, as.length = 3 ∧ h A = some (106, as.map Value.ref) ∧ ∀ k, k < 3 → ∃ b rows, as[k]? = some b ∧ an[k]? = some rows ∧ Ans h b rows ∧ AO rows ∧ b ≠ S := by
  obtain ⟨m1, m2, m3, m4, as, m5, m6, m7, m8, m9⟩ := M
  refine ⟨as, m5, m7, fun k hk => ?_⟩
  obtain ⟨b, hb⟩ : ∃ b, as[k]? = some b := ⟨as[k]'(by omega), by simp⟩
  obtain ⟨rows, hr⟩ : ∃ rows, an[k]? = some rows := ⟨an[k]'(by omega), by simp⟩
  obtain ⟨n1, n2⟩ := m9 k b rows hb hr
  exact ⟨b, rows, hb, hr, n1, n2, fun z => m8 (by rw [← z]; exact List.mem_of_getElem? hb)⟩
theorem MD.setS (M : MD h o S A sl an a r kn th) {k q : Nat} {x : List Nat} (hk : k < 6) (hq : h q = some (IA x)) (hx : TW x ∧ x.length ≤ 16) : ∃ vs, h S = some (105, vs) ∧ vs.length = 6 ∧ MD (hup h S (105, vs.set k (.ref q))) o S A (sl.set k x) an a r kn th := by
  obtain ⟨m1, ⟨ss, s1, s2, s3⟩, m3, m4, as, m5, m6, m7, m8, m9⟩ := M
  have hSo : o ≠ S := k_ne m1 s2 (by decide)
  have hSA : A ≠ S := k_ne m7 s2 (by decide)
  refine ⟨_, s2, by rw [List.length_map]; omega, by rw [hup_ne _ _ hSo]; exact m1, ⟨ss.set k q, by simp [s1], by rw [hup_self, List.map_set], fun i b y e1 e2 => ?_⟩, by simp [m3], fun y hy => ?_, as, m5, m6, by rw [hup_ne _ _ hSA]; exact m7, m8, fun i b rows e1 e2 => ?_⟩
  · by_cases hi : i = k
    · subst hi
      rw [List.getElem?_set_self (by omega)] at e1 e2
      cases e1
      cases e2
      rw [hup_ne _ _ (IA_ne hq s2)]
      exact hq
    · rw [List.getElem?_set_ne (Ne.symm hi)] at e1 e2
      have h4 := s3 i b y e1 e2
      rw [hup_ne _ _ (IA_ne h4 s2)]
      exact h4
  · rcases List.mem_or_eq_of_mem_set hy with z | z
    · exact m4 y z
    · rw [z]; exact hx
  · obtain ⟨n1, n2⟩ := m9 i b rows e1 e2
    exact ⟨n1.hup (fun z => m8 (by rw [z]; exact List.mem_of_getElem? e1)) s2 (by decide) _, n2⟩
theorem MD.setA (M : MD h o S A sl an a r kn th) {k q : Nat} {x : List (List Nat)} (hk : k < 3) (hq : Ans h q x) (hx : AO x) (hqS : q ≠ S) : ∃ vs, h A = some (106, vs) ∧ vs.length = 3 ∧ MD (hup h A (106, vs.set k (.ref q))) o S A sl (an.set k x) a r kn th := by
  obtain ⟨m1, m2, m3, m4, as, m5, m6, m7, m8, m9⟩ := M
  obtain ⟨vs, hS⟩ := m2.kind
  obtain ⟨vq, hq'⟩ := hq.kind
  have hAo : o ≠ A := k_ne m1 m7 (by decide)
  refine ⟨_, m7, by rw [List.length_map]; omega, by rw [hup_ne _ _ hAo]; exact m1, m2.hup (k_ne m7 hS (by decide)) m7 (by decide) _, m3, m4, as.set k q, by simp [m5], by simp [m6], by rw [hup_self, List.map_set], fun z => ?_, fun i b rows e1 e2 => ?_⟩
  · rcases List.mem_or_eq_of_mem_set z with y | y
    · exact m8 y
    · exact hqS y.symm
  · by_cases hi : i = k
    · subst hi
      rw [List.getElem?_set_self (by omega)] at e1 e2
      cases e1
      cases e2
      exact ⟨hq.hup (k_ne m7 hq' (by decide)) m7 (by decide) _, hx⟩
    · rw [List.getElem?_set_ne (Ne.symm hi)] at e1 e2
      obtain ⟨n1, n2⟩ := m9 i b rows e1 e2
      obtain ⟨vb, hb⟩ := n1.kind
      exact ⟨n1.hup (k_ne m7 hb (by decide)) m7 (by decide) _, n2⟩
end MDs
theorem IA_fr {o S A : Nat} {h h' : AH} {sl : List (List Nat)} {an : List (List (List Nat))} {a r kn th : Int32} (M : MD h o S A sl an a r kn th) (F : Fr o S A h h') {b : Nat} {x : List Nat} (hb : h b = some (IA x)) : h' b = some (IA x) := by
  obtain ⟨ss, -, s2, -⟩ := M.slot
  obtain ⟨as, -, a2, -⟩ := M.ans
  exact F b _ (k_ne hb M.obj (by decide)) (k_ne hb s2 (by decide)) (k_ne hb a2 (by decide)) hb
theorem Ans_fr {o S A : Nat} {h h' : AH} {sl : List (List Nat)} {an : List (List (List Nat))} {a r kn th : Int32} (M : MD h o S A sl an a r kn th) (F : Fr o S A h h') {b : Nat} {rows : List (List Nat)} (hb : Ans h b rows) (hS : b ≠ S) : Ans h' b rows := by
  obtain ⟨as, h1, h2, h3⟩ := hb
  obtain ⟨_, -, a2, -⟩ := M.ans
  exact ⟨as, h1, F b _ (k_ne h2 M.obj (by decide)) hS (k_ne h2 a2 (by decide)) h2, fun k a r e1 e2 => IA_fr M F (h3 k a r e1 e2)⟩
end
section
/-! guards and counters of the reference -/
section M37
variable {la : Launch} {D : va_G} {cA : Nat → ClassId} {B0 pa : Nat}
theorem c_isSlot (h : AH) (x : Int32) : CT la D cA B0 pa yX10_isSlot cX10_isSlot 1 (some .boolean) (rmD 0 0 0) [.int x] h (fun v h' => (∃ b : Bool, v = some (.int (bI b)) ∧ (b = true → inN 6 x)) ∧ h' = h) := by
  refine CT_of (by decide +kernel) (Nat.le_of_ble_eq_true rfl) ?_
  intro p e s m args below meth c X E hr hlk hnm
  have dk : ∀ {pc : Nat} {q : Instr × Nat}, lkd DX10_isSlot pc = some q → decode cX10_isSlot pc = .ok q := lkd_ok DX10_isSlot_ok
  have no' : ∀ (l : List (Nat × Value)), WR p la e (rmD 0 0 0) s m args below meth c D cA B0 1 (fun v h' => (∃ b : Bool, v = some (.int (bI b)) ∧ (b = true → inN 6 x)) ∧ h' = h) 14 l [] h 0 0 := by
    intro l
    refine fst1_ok (l' := l) (st' := [.int (bI false)]) X (dk rfl) rfl ?_
    exact reti_ok X hr hlk (bI_n _) (dk rfl) ⟨⟨false, rfl, fun z => by cases z⟩, rfl⟩ (Nat.le_refl _) (Nat.le_refl _)
  repeat refine fst1_ok X (dk rfl) rfl ?_
  refine br_ok X (dk rfl) rfl (show ((1 : Nat) : Int) + 13 = ((14 : Nat) : Int) from rfl) (fun _ => no' _) (fun c1 => ?_)
  repeat refine fst1_ok X (dk rfl) rfl ?_
  refine br_ok X (dk rfl) rfl (show ((7 : Nat) : Int) + 7 = ((14 : Nat) : Int) from rfl) (fun _ => no' _) (fun c2 => ?_)
  repeat refine fst1_ok X (dk rfl) rfl ?_
  refine br_ok X (dk rfl) rfl (show ((11 : Nat) : Int) + 4 = ((15 : Nat) : Int) from rfl) (fun _ => ?_) (fun q => absurd trivial q)
  exact reti_ok X hr hlk (bI_n true) (dk rfl) ⟨⟨true, rfl, fun _ => inN_of (by omega) c1 (by rw [show nI 6 = (Int8.ofInt 6).toInt32 by decide +kernel]; exact c2)⟩, rfl⟩ (Nat.le_refl _) (Nat.le_refl _)
theorem c_isName (h : AH) (x : Int32) : CT la D cA B0 pa yX10_isName cX10_isName 1 (some .boolean) (rmD 0 0 0) [.int x] h (fun v h' => (∃ b : Bool, v = some (.int (bI b)) ∧ (b = true → inN 8 x)) ∧ h' = h) := by
  refine CT_of (by decide +kernel) (Nat.le_of_ble_eq_true rfl) ?_
  intro p e s m args below meth c X E hr hlk hnm
  have dk : ∀ {pc : Nat} {q : Instr × Nat}, lkd DX10_isName pc = some q → decode cX10_isName pc = .ok q := lkd_ok DX10_isName_ok
  have no' : ∀ (l : List (Nat × Value)), WR p la e (rmD 0 0 0) s m args below meth c D cA B0 1 (fun v h' => (∃ b : Bool, v = some (.int (bI b)) ∧ (b = true → inN 8 x)) ∧ h' = h) 14 l [] h 0 0 := by
    intro l
    refine fst1_ok (l' := l) (st' := [.int (bI false)]) X (dk rfl) rfl ?_
    exact reti_ok X hr hlk (bI_n _) (dk rfl) ⟨⟨false, rfl, fun z => by cases z⟩, rfl⟩ (Nat.le_refl _) (Nat.le_refl _)
  repeat refine fst1_ok X (dk rfl) rfl ?_
  refine br_ok X (dk rfl) rfl (show ((1 : Nat) : Int) + 13 = ((14 : Nat) : Int) from rfl) (fun _ => no' _) (fun c1 => ?_)
  repeat refine fst1_ok X (dk rfl) rfl ?_
  refine br_ok X (dk rfl) rfl (show ((7 : Nat) : Int) + 7 = ((14 : Nat) : Int) from rfl) (fun _ => no' _) (fun c2 => ?_)
  repeat refine fst1_ok X (dk rfl) rfl ?_
  refine br_ok X (dk rfl) rfl (show ((11 : Nat) : Int) + 4 = ((15 : Nat) : Int) from rfl) (fun _ => ?_) (fun q => absurd trivial q)
  exact reti_ok X hr hlk (bI_n true) (dk rfl) ⟨⟨true, rfl, fun _ => inN_of (by omega) c1 (by rw [show nI 8 = (Int8.ofInt 8).toInt32 by decide +kernel]; exact c2)⟩, rfl⟩ (Nat.le_refl _) (Nat.le_refl _)
theorem c_isAnswer (h : AH) (x : Int32) : CT la D cA B0 pa yX10_isAnswer cX10_isAnswer 1 (some .boolean) (rmD 0 0 0) [.int x] h (fun v h' => (∃ b : Bool, v = some (.int (bI b)) ∧ (b = true → inN 3 x)) ∧ h' = h) := by
  refine CT_of (by decide +kernel) (Nat.le_of_ble_eq_true rfl) ?_
  intro p e s m args below meth c X E hr hlk hnm
  have dk : ∀ {pc : Nat} {q : Instr × Nat}, lkd DX10_isAnswer pc = some q → decode cX10_isAnswer pc = .ok q := lkd_ok DX10_isAnswer_ok
  have no' : ∀ (l : List (Nat × Value)), WR p la e (rmD 0 0 0) s m args below meth c D cA B0 1 (fun v h' => (∃ b : Bool, v = some (.int (bI b)) ∧ (b = true → inN 3 x)) ∧ h' = h) 13 l [] h 0 0 := by
    intro l
    refine fst1_ok (l' := l) (st' := [.int (bI false)]) X (dk rfl) rfl ?_
    exact reti_ok X hr hlk (bI_n _) (dk rfl) ⟨⟨false, rfl, fun z => by cases z⟩, rfl⟩ (Nat.le_refl _) (Nat.le_refl _)
  repeat refine fst1_ok X (dk rfl) rfl ?_
  refine br_ok X (dk rfl) rfl (show ((1 : Nat) : Int) + 12 = ((13 : Nat) : Int) from rfl) (fun _ => no' _) (fun c1 => ?_)
  repeat refine fst1_ok X (dk rfl) rfl ?_
  refine br_ok X (dk rfl) rfl (show ((6 : Nat) : Int) + 7 = ((13 : Nat) : Int) from rfl) (fun _ => no' _) (fun c2 => ?_)
  repeat refine fst1_ok X (dk rfl) rfl ?_
  refine br_ok X (dk rfl) rfl (show ((10 : Nat) : Int) + 4 = ((14 : Nat) : Int) from rfl) (fun _ => ?_) (fun q => absurd trivial q)
  exact reti_ok X hr hlk (bI_n true) (dk rfl) ⟨⟨true, rfl, fun _ => inN_of (by omega) c1 (by rw [show nI 3 = Int32.ofInt 3 by decide +kernel]; exact c2)⟩, rfl⟩ (Nat.le_refl _) (Nat.le_refl _)
variable {o S A : Nat} {sl : List (List Nat)} {an : List (List (List Nat))} {a r kn th : Int32}
/-- the reference changes its counters at most -/
def MC (o S A : Nat) (sl : List (List Nat)) (an : List (List (List Nat))) (kn : Int32) (h h' : AH) : Prop := (∃ a r th, MD h' o S A sl an a r kn th) ∧ Fr o S A h h'
theorem c_isThrown (h : AH) (M : MD h o S A sl an a r kn th) (b1 b2 : Bool) : CT la D cA B0 pa yX10_isThrown cX10_isThrown 3 (some .boolean) (rmD 0 0 0) [.ref o, .int (bI b1), .int (bI b2)] h (fun v h' => v = some (.int (bI (b1 || b2))) ∧ MC o S A sl an kn h h') := by
  refine CT_of (by decide +kernel) (Nat.le_of_ble_eq_true rfl) ?_
  intro p e s m args below meth c X E hr hlk hnm
  have dk : ∀ {pc : Nat} {q : Instr × Nat}, lkd DX10_isThrown pc = some q → decode cX10_isThrown pc = .ok q := lkd_ok DX10_isThrown_ok
  have fin' : ∀ (t : Int32) (l : List (Nat × Value)), lsel l [0] = [(0, .ref o)] → (t = 0 ∧ (b1 || b2) = false ∨ ¬ t ≤ 0 ∧ (b1 || b2) = true) → WR p la e (rmD 0 0 0) s m args below meth c D cA B0 3 (fun v h' => v = some (.int (bI (b1 || b2))) ∧ MC o S A sl an kn h h') 18 l [.int t, .ref o] h 0 0 := by
    intro t l hl ht
    refine WS.sel [0] hl ?_
    refine putf_ok X flX10_28 ftX10_5 (Or.inl rfl) rfl rfl (dk rfl) M.obj (Nat.le_of_ble_eq_true rfl) ?_
    repeat refine fst1_ok X (dk rfl) rfl ?_
    refine getf_ok X flX10_28 (dk rfl) (hup_self _ _ _) rfl ?_
    have hM : MC o S A sl an kn h (hup h o (12, [.ref S, .ref A, .int a, .int r, .int kn, .int t])) := ⟨⟨_, _, _, M.fld a r kn t⟩, (Fr.rf h).set (Or.inl rfl) _⟩
    rcases ht with ⟨rfl, hb⟩ | ⟨h1, hb⟩
    · rw [hb]
      refine br_ok X (dk rfl) rfl (show ((25 : Nat) : Int) + 7 = ((32 : Nat) : Int) from rfl) (fun _ => ?_) (fun q => absurd (by decide) q)
      repeat refine fst1_ok X (dk rfl) rfl ?_
      exact reti_ok X hr hlk (bI_n false) (dk rfl) ⟨rfl, hM⟩ (Nat.le_refl _) (Nat.le_refl _)
    · rw [hb]
      refine br_ok X (dk rfl) rfl (show ((25 : Nat) : Int) + 7 = ((32 : Nat) : Int) from rfl) (fun q => absurd q h1) (fun _ => ?_)
      repeat refine fst1_ok X (dk rfl) rfl ?_
      refine br_ok X (dk rfl) rfl (show ((29 : Nat) : Int) + 4 = ((33 : Nat) : Int) from rfl) (fun _ => ?_) (fun q => absurd trivial q)
      exact reti_ok X hr hlk (bI_n true) (dk rfl) ⟨rfl, hM⟩ (Nat.le_refl _) (Nat.le_refl _)
  repeat refine fst1_ok X (dk rfl) rfl ?_
  cases b1 with
  | true =>
    refine br_ok X (dk rfl) rfl (show ((2 : Nat) : Int) + 7 = ((9 : Nat) : Int) from rfl) (fun q => absurd q bI_t) (fun _ => ?_)
    repeat refine fst1_ok X (dk rfl) rfl ?_
    refine br_ok X (dk rfl) rfl (show ((6 : Nat) : Int) + 12 = ((18 : Nat) : Int) from rfl) (fun _ => ?_) (fun q => absurd trivial q)
    exact fin' _ _ rfl (Or.inr ⟨by decide, rfl⟩)
  | false =>
    refine br_ok X (dk rfl) rfl (show ((2 : Nat) : Int) + 7 = ((9 : Nat) : Int) from rfl) (fun _ => ?_) (fun q => absurd bI_f' q)
    repeat refine fst1_ok X (dk rfl) rfl ?_
    cases b2 with
    | true =>
      refine br_ok X (dk rfl) rfl (show ((10 : Nat) : Int) + 7 = ((17 : Nat) : Int) from rfl) (fun q => absurd q bI_t) (fun _ => ?_)
      repeat refine fst1_ok X (dk rfl) rfl ?_
      refine br_ok X (dk rfl) rfl (show ((14 : Nat) : Int) + 4 = ((18 : Nat) : Int) from rfl) (fun _ => ?_) (fun q => absurd trivial q)
      exact fin' _ _ rfl (Or.inr ⟨by decide, rfl⟩)
    | false =>
      refine br_ok X (dk rfl) rfl (show ((10 : Nat) : Int) + 7 = ((17 : Nat) : Int) from rfl) (fun _ => ?_) (fun q => absurd bI_f' q)
      refine fst1_ok X (dk rfl) rfl ?_
      exact fin' _ _ rfl (Or.inl ⟨by decide, rfl⟩)
theorem c_isThrown_ (h : AH) (M : MD h o S A sl an a r kn th) (b1 : Bool) : CT la D cA B0 pa yX10_isThrown_ cX10_isThrown_ 2 (some .boolean) (rmD 1 0 0) [.ref o, .int (bI b1)] h (fun v h' => v = some (.int (bI b1)) ∧ MC o S A sl an kn h h') := by
  refine CT_of (by decide +kernel) (Nat.le_of_ble_eq_true rfl) ?_
  intro p e s m args below meth c X E hr hlk hnm
  have dk : ∀ {pc : Nat} {q : Instr × Nat}, lkd DX10_isThrown_ pc = some q → decode cX10_isThrown_ pc = .ok q := lkd_ok DX10_isThrown__ok
  repeat refine fst1_ok X (dk rfl) rfl ?_
  refine callV_ok (ci := 12) (T := TX10) (N := 6) (av := [.int (bI b1), .int (bI false)]) (r := []) X E (c_isThrown h M b1 false) lkX10_isThrown mlX10_78 lmX10_isThrown lpX10_isThrown ⟨Nat.le_of_ble_eq_true rfl, Nat.le_of_ble_eq_true rfl⟩ ⟨Nat.le_of_ble_eq_true rfl, Nat.le_of_ble_eq_true rfl⟩ rfl M.obj (Nat.le_of_ble_eq_true rfl) (dk rfl) ?_
  rintro v h' ⟨rfl, hM⟩
  rw [Bool.or_false]
  exact reti_ok X hr hlk (bI_n b1) (dk rfl) ⟨rfl, hM⟩ (Nat.le_refl _) (Nat.le_refl _)
theorem c_done (h : AH) (M : MD h o S A sl an a r kn th) (x : Int32) : CT la D cA B0 pa yX10_done cX10_done 2 (some .int) (rmD 0 0 0) [.ref o, .int x] h (fun v h' => v = some (.int x) ∧ MC o S A sl an kn h h') := by
  refine CT_of (by decide +kernel) (Nat.le_of_ble_eq_true rfl) ?_
  intro p e s m args below meth c X E hr hlk hnm
  have dk : ∀ {pc : Nat} {q : Instr × Nat}, lkd DX10_done pc = some q → decode cX10_done pc = .ok q := lkd_ok DX10_done_ok
  repeat refine fst1_ok X (dk rfl) rfl ?_
  refine getf_ok X flX10_82 (dk rfl) M.obj rfl ?_
  repeat refine fst1_ok X (dk rfl) rfl ?_
  refine putf_ok X flX10_82 ftX10_2 (Or.inl rfl) rfl rfl (dk rfl) M.obj (Nat.le_of_ble_eq_true rfl) ?_
  repeat refine fst1_ok X (dk rfl) rfl ?_
  exact reti_ok X hr hlk rfl (dk rfl) ⟨rfl, ⟨_, _, _, M.fld _ r kn th⟩, (Fr.rf h).set (Or.inl rfl) _⟩ (Nat.le_refl _) (Nat.le_refl _)
theorem c_no (h : AH) (M : MD h o S A sl an a r kn th) : CT la D cA B0 pa yX10_no cX10_no 1 (some .int) (rmD 0 0 0) [.ref o] h (fun v h' => v = some (.int (Int8.ofInt (-9)).toInt32) ∧ MC o S A sl an kn h h') := by
  refine CT_of (by decide +kernel) (Nat.le_of_ble_eq_true rfl) ?_
  intro p e s m args below meth c X E hr hlk hnm
  have dk : ∀ {pc : Nat} {q : Instr × Nat}, lkd DX10_no pc = some q → decode cX10_no pc = .ok q := lkd_ok DX10_no_ok
  repeat refine fst1_ok X (dk rfl) rfl ?_
  refine getf_ok X flX10_85 (dk rfl) M.obj rfl ?_
  repeat refine fst1_ok X (dk rfl) rfl ?_
  refine putf_ok X flX10_85 ftX10_3 (Or.inl rfl) rfl rfl (dk rfl) M.obj (Nat.le_of_ble_eq_true rfl) ?_
  repeat refine fst1_ok X (dk rfl) rfl ?_
  exact reti_ok X hr hlk rfl (dk rfl) ⟨rfl, ⟨_, _, _, M.fld a _ kn th⟩, (Fr.rf h).set (Or.inl rfl) _⟩ (Nat.le_refl _) (Nat.le_refl _)
end M37
end
section
/-! guards at the walk, give, isPlace, become -/
section M38
variable {p : Program} {la : Launch} {e : Env} {R : Room} {s : State} {m : MethodId} {args : Array Value} {below : List Frame} {meth : Method} {c : Code} {Q : State → Prop}
variable {D : va_G} {cA : Nat → ClassId} {B0 pa nL : Nat} {cc : ByteArray} {own : String} {pc k n : Nat} {l : List (Nat × Value)} {r : List Value} {h : AH}
theorem isSlot_ok (X : CX p s m args c D cA B0 nL cc own) (E : EN D cA B0 pa s) {idx : Nat} {x : Int32} (hl : Cond.methodLink own idx yX10_isSlot ∈ WT) (hR : 1 ≤ R.frames ∧ 20 ≤ R.locals) (hf : k ≤ R.cells ∧ n ≤ R.slots) (hW : (r.map fun v => v.category).sum ≤ 8) (hd : decode cc pc = .ok (.invokestatic idx, 3))
    (kk : ∀ b : Bool, (b = true → inN 6 x) → WS p la e R s m args below meth c Q D cA B0 nL (pc + 3) l (.int (bI b) :: r) h k n) : WS p la e R s m args below meth c Q D cA B0 nL pc l (.int x :: r) h k n := by
  refine callS_ok (av := [.int x]) (r := r) X E (c_isSlot h x) lkX10_isSlot hl lsX10_isSlot hR hf hW hd ?_
  rintro v h' ⟨⟨b, rfl, hb⟩, rfl⟩
  exact kk b hb
theorem isName_ok (X : CX p s m args c D cA B0 nL cc own) (E : EN D cA B0 pa s) {idx : Nat} {x : Int32} (hl : Cond.methodLink own idx yX10_isName ∈ WT) (hR : 1 ≤ R.frames ∧ 20 ≤ R.locals) (hf : k ≤ R.cells ∧ n ≤ R.slots) (hW : (r.map fun v => v.category).sum ≤ 8) (hd : decode cc pc = .ok (.invokestatic idx, 3))
    (kk : ∀ b : Bool, (b = true → inN 8 x) → WS p la e R s m args below meth c Q D cA B0 nL (pc + 3) l (.int (bI b) :: r) h k n) : WS p la e R s m args below meth c Q D cA B0 nL pc l (.int x :: r) h k n := by
  refine callS_ok (av := [.int x]) (r := r) X E (c_isName h x) lkX10_isName hl lsX10_isName hR hf hW hd ?_
  rintro v h' ⟨⟨b, rfl, hb⟩, rfl⟩
  exact kk b hb
theorem isAnswer_ok (X : CX p s m args c D cA B0 nL cc own) (E : EN D cA B0 pa s) {idx : Nat} {x : Int32} (hl : Cond.methodLink own idx yX10_isAnswer ∈ WT) (hR : 1 ≤ R.frames ∧ 20 ≤ R.locals) (hf : k ≤ R.cells ∧ n ≤ R.slots) (hW : (r.map fun v => v.category).sum ≤ 8) (hd : decode cc pc = .ok (.invokestatic idx, 3))
    (kk : ∀ b : Bool, (b = true → inN 3 x) → WS p la e R s m args below meth c Q D cA B0 nL (pc + 3) l (.int (bI b) :: r) h k n) : WS p la e R s m args below meth c Q D cA B0 nL pc l (.int x :: r) h k n := by
  refine callS_ok (av := [.int x]) (r := r) X E (c_isAnswer h x) lkX10_isAnswer hl lsX10_isAnswer hR hf hW hd ?_
  rintro v h' ⟨⟨b, rfl, hb⟩, rfl⟩
  exact kk b hb
variable {o S A : Nat} {sl : List (List Nat)} {an : List (List (List Nat))} {a r' kn th : Int32}
/-- what a call of the reference leaves -/
def MI (o S A : Nat) (kn : Int32) (h h' : AH) : Prop := (∃ sl an a r th, MD h' o S A sl an a r kn th) ∧ Fr o S A h h'
def intR (o S A : Nat) (kn : Int32) (h : AH) (v : Option Value) (h' : AH) : Prop := (∃ x : Int32, v = some (.int x)) ∧ MI o S A kn h h'
def booR (o S A : Nat) (kn : Int32) (h : AH) (v : Option Value) (h' : AH) : Prop := (∃ b : Bool, v = some (.int (bI b))) ∧ MI o S A kn h h'
theorem MD.mi (M : MD h o S A sl an a r' kn th) : MI o S A kn h h := ⟨⟨_, _, _, _, _, M⟩, Fr.rf h⟩
theorem MC.mi {h' : AH} (M : MC o S A sl an kn h h') : MI o S A kn h h' := ⟨⟨_, _, M.1.choose_spec.choose_spec.choose_spec |> fun q => ⟨_, _, _, q⟩⟩, M.2⟩
theorem MI.trans {h1 h2 : AH} (F : Fr o S A h h1) (M : MI o S A kn h1 h2) : MI o S A kn h h2 := ⟨M.1, F.trans M.2⟩
theorem thr1_ok (X : CX p s m args c D cA B0 nL cc RX10) (E : EN D cA B0 pa s) (M : MD h o S A sl an a r' kn th) {b : Bool} (hR : 2 ≤ R.frames ∧ 61 ≤ R.locals) (hf : k ≤ R.cells ∧ n ≤ R.slots) (hW : (r.map fun v => v.category).sum ≤ 8) (hd : decode cc pc = .ok (.invokevirtual 110, 3))
    (kk : ∀ (h' : AH) (a r' th : Int32), MD h' o S A sl an a r' kn th → Fr o S A h h' → WS p la e R s m args below meth c Q D cA B0 nL (pc + 3) l (.int (bI b) :: r) h' k n) : WS p la e R s m args below meth c Q D cA B0 nL pc l (.int (bI b) :: .ref o :: r) h k n := by
  refine callV_ok (ci := 12) (T := TX10) (N := 6) (av := [.int (bI b)]) (r := r) X E (c_isThrown_ h M b) lkX10_isThrown_ mlX10_110 lmX10_isThrown_ lpX10_isThrown_ hR hf rfl M.obj hW hd ?_
  rintro v h' ⟨rfl, ⟨a', r'', th', M'⟩, F⟩
  exact kk h' a' r'' th' M' F
theorem thr2_ok (X : CX p s m args c D cA B0 nL cc RX10) (E : EN D cA B0 pa s) (M : MD h o S A sl an a r' kn th) {b1 b2 : Bool} (hR : 1 ≤ R.frames ∧ 22 ≤ R.locals) (hf : k ≤ R.cells ∧ n ≤ R.slots) (hW : (r.map fun v => v.category).sum ≤ 8) (hd : decode cc pc = .ok (.invokevirtual 78, 3))
    (kk : ∀ (h' : AH) (a r' th : Int32), MD h' o S A sl an a r' kn th → Fr o S A h h' → WS p la e R s m args below meth c Q D cA B0 nL (pc + 3) l (.int (bI (b1 || b2)) :: r) h' k n) : WS p la e R s m args below meth c Q D cA B0 nL pc l (.int (bI b2) :: .int (bI b1) :: .ref o :: r) h k n := by
  refine callV_ok (ci := 12) (T := TX10) (N := 6) (av := [.int (bI b1), .int (bI b2)]) (r := r) X E (c_isThrown h M b1 b2) lkX10_isThrown mlX10_78 lmX10_isThrown lpX10_isThrown hR hf rfl M.obj hW hd ?_
  rintro v h' ⟨rfl, ⟨a', r'', th', M'⟩, F⟩
  exact kk h' a' r'' th' M' F
theorem done_ok (X : CX p s m args c D cA B0 nL cc RX10) (E : EN D cA B0 pa s) (M : MD h o S A sl an a r' kn th) {x : Int32} (hR : 1 ≤ R.frames ∧ 21 ≤ R.locals) (hf : k ≤ R.cells ∧ n ≤ R.slots) (hW : (r.map fun v => v.category).sum ≤ 8) (hd : decode cc pc = .ok (.invokevirtual 92, 3))
    (kk : ∀ (h' : AH) (a r' th : Int32), MD h' o S A sl an a r' kn th → Fr o S A h h' → WS p la e R s m args below meth c Q D cA B0 nL (pc + 3) l (.int x :: r) h' k n) : WS p la e R s m args below meth c Q D cA B0 nL pc l (.int x :: .ref o :: r) h k n := by
  refine callV_ok (ci := 12) (T := TX10) (N := 6) (av := [.int x]) (r := r) X E (c_done h M x) lkX10_done mlX10_92 lmX10_done lpX10_done hR hf rfl M.obj hW hd ?_
  rintro v h' ⟨rfl, ⟨a', r'', th', M'⟩, F⟩
  exact kk h' a' r'' th' M' F
theorem no_ok (X : CX p s m args c D cA B0 nL cc RX10) (E : EN D cA B0 pa s) (M : MD h o S A sl an a r' kn th) (hR : 1 ≤ R.frames ∧ 20 ≤ R.locals) (hf : k ≤ R.cells ∧ n ≤ R.slots) (hW : (r.map fun v => v.category).sum ≤ 8) (hd : decode cc pc = .ok (.invokevirtual 88, 3))
    (kk : ∀ (h' : AH) (a r' th : Int32), MD h' o S A sl an a r' kn th → Fr o S A h h' → WS p la e R s m args below meth c Q D cA B0 nL (pc + 3) l (.int (Int8.ofInt (-9)).toInt32 :: r) h' k n) : WS p la e R s m args below meth c Q D cA B0 nL pc l (.ref o :: r) h k n := by
  refine callV_ok (ci := 12) (T := TX10) (N := 6) (av := []) (r := r) X E (c_no h M) lkX10_no mlX10_88 lmX10_no lpX10_no hR hf rfl M.obj hW hd ?_
  rintro v h' ⟨rfl, ⟨a', r'', th', M'⟩, F⟩
  exact kk h' a' r'' th' M' F
/-- a load from an array of arrays of rows -/
theorem lda_ok (X : CX p s m args c D cA B0 nL cc own) {a j q : Nat} {as : List Nat} (hd : decode cc pc = .ok (.aaload, 1)) (ha : h a = some (106, as.map Value.ref)) (hq : as[j]? = some q) (hl : as.length < 2 ^ 31)
    (kk : WS p la e R s m args below meth c Q D cA B0 nL (pc + 1) l (.ref q :: r) h k n) : WS p la e R s m args below meth c Q D cA B0 nL pc l (.int (nI j) :: .ref a :: r) h k n :=
  ald_ok X (Or.inr (Or.inr ⟨rfl, by decide⟩)) hd ha (inA_nI (v := .ref q) (by have := (List.getElem?_eq_some_iff.mp hq).1; omega) (by rw [List.getElem?_map, hq]; rfl)) kk
/-- a store into an array of arrays of rows -/
theorem sta_ok (X : CX p s m args c D cA B0 nL cc own) {a j q : Nat} {vs fs : List Value} (hd : decode cc pc = .ok (.aastore, 1)) (ha : h a = some (106, vs)) (hq : h q = some (105, fs)) (hj : j < vs.length) (hl : vs.length < 2 ^ 31)
    (kk : WS p la e R s m args below meth c Q D cA B0 nL (pc + 1) l r (hup h a (106, vs.set j (.ref q))) k n) : WS p la e R s m args below meth c Q D cA B0 nL pc l (.ref q :: .int (nI j) :: .ref a :: r) h k n := by
  have e : (nI j).toNatClampNeg = j := nI_clamp (by omega)
  refine ast_ok X (Or.inr (Or.inr (Or.inr (Or.inr (Or.inr ⟨rfl, rfl, q, fs, rfl, hq⟩))))) hd ha ⟨nI_pos (by omega), by rw [e]; exact hj⟩ ?_
  rw [e]
  exact kk
end M38
section M38b
variable {la : Launch} {D : va_G} {cA : Nat → ClassId} {B0 pa : Nat} {o S A : Nat} {sl : List (List Nat)} {an : List (List (List Nat))} {a r kn th : Int32}
theorem nI_16 : (Int8.ofInt 16).toInt32 = nI 16 := by decide +kernel
theorem c_give (h : AH) (M : MD h o S A sl an a r kn th) {k q : Nat} {x : List Nat} (hk : k < 6) (hq : h q = some (IA x)) (hx : TW x) (hn : x.length < 2 ^ 20) : CT la D cA B0 pa yX10_give cX10_give 3 (some .int) (rmD 1 0 0) [.ref o, vI k, .ref q] h (intR o S A kn h) := by
  refine CT_of (by decide +kernel) (Nat.le_of_ble_eq_true rfl) ?_
  intro p e s m args below meth c X E hr hlk hnm
  have dk : ∀ {pc : Nat} {q : Instr × Nat}, lkd DX10_give pc = some q → decode cX10_give pc = .ok q := lkd_ok DX10_give_ok
  have lx : (x.map vI).length = x.length := List.length_map _
  repeat refine fst1_ok X (dk rfl) rfl ?_
  refine br_ok X (dk rfl) rfl (show ((1 : Nat) : Int) + 10 = ((11 : Nat) : Int) from rfl) (fun q => absurd q (fun z => z)) (fun _ => ?_)
  refine fst1_ok X (dk rfl) rfl ?_
  refine alen_ok X (by decide) (dk rfl) hq ?_
  rw [lx]
  repeat refine fst1_ok X (dk rfl) rfl ?_
  refine br_ok X (dk rfl) rfl (show ((8 : Nat) : Int) + 8 = ((16 : Nat) : Int) from rfl) (fun c1 => ?_) (fun _ => ?_)
  · rw [nI_16] at c1
    have hl16 : x.length ≤ 16 := (nI_leI (by omega) (by omega)).mp c1
    repeat refine fst1_ok X (dk rfl) rfl ?_
    refine getf_ok X flX10_11 (dk rfl) M.obj rfl ?_
    repeat refine fst1_ok X (dk rfl) rfl ?_
    obtain ⟨vs, g1, g2, M1⟩ := M.setS hk hq ⟨hx, hl16⟩
    refine str_ok X (dk rfl) g1 hq (by omega) (by omega) ?_
    repeat refine fst1_ok X (dk rfl) rfl ?_
    refine alen_ok (kd := 100) (vs := x.map vI) X (by decide) (dk rfl) (by rw [hup_ne _ _ (IA_ne hq g1)]; exact hq) ?_
    refine done_ok X E M1 ⟨Nat.le_of_ble_eq_true rfl, Nat.le_of_ble_eq_true rfl⟩ ⟨Nat.le_of_ble_eq_true rfl, Nat.le_of_ble_eq_true rfl⟩ (Nat.le_of_ble_eq_true rfl) (dk rfl) (fun h' a' r'' th' M' F => ?_)
    exact reti_ok X hr hlk rfl (dk rfl) ⟨⟨_, rfl⟩, MI.trans ((Fr.rf h).set (Or.inr (Or.inl rfl)) _) ⟨⟨_, _, _, _, _, M'⟩, F⟩⟩ (Nat.le_refl _) (Nat.le_refl _)
  · repeat refine fst1_ok X (dk rfl) rfl ?_
    refine no_ok X E M ⟨Nat.le_of_ble_eq_true rfl, Nat.le_of_ble_eq_true rfl⟩ ⟨Nat.le_of_ble_eq_true rfl, Nat.le_of_ble_eq_true rfl⟩ (Nat.le_of_ble_eq_true rfl) (dk rfl) (fun h' a' r'' th' M' F => ?_)
    exact reti_ok X hr hlk rfl (dk rfl) ⟨⟨_, rfl⟩, ⟨_, _, _, _, _, M'⟩, F⟩ (Nat.le_refl _) (Nat.le_refl _)
theorem c_giveN (h : AH) (M : MD h o S A sl an a r kn th) (k : Int32) : CT la D cA B0 pa yX10_give cX10_give 3 (some .int) (rmD 1 0 0) [.ref o, .int k, .null] h (intR o S A kn h) := by
  refine CT_of (by decide +kernel) (Nat.le_of_ble_eq_true rfl) ?_
  intro p e s m args below meth c X E hr hlk hnm
  have dk : ∀ {pc : Nat} {q : Instr × Nat}, lkd DX10_give pc = some q → decode cX10_give pc = .ok q := lkd_ok DX10_give_ok
  repeat refine fst1_ok X (dk rfl) rfl ?_
  refine br_ok X (dk rfl) rfl (show ((1 : Nat) : Int) + 10 = ((11 : Nat) : Int) from rfl) (fun _ => ?_) (fun q => absurd trivial q)
  repeat refine fst1_ok X (dk rfl) rfl ?_
  refine no_ok X E M ⟨Nat.le_of_ble_eq_true rfl, Nat.le_of_ble_eq_true rfl⟩ ⟨Nat.le_of_ble_eq_true rfl, Nat.le_of_ble_eq_true rfl⟩ (Nat.le_of_ble_eq_true rfl) (dk rfl) (fun h' a' r'' th' M' F => ?_)
  exact reti_ok X hr hlk rfl (dk rfl) ⟨⟨_, rfl⟩, ⟨_, _, _, _, _, M'⟩, F⟩ (Nat.le_refl _) (Nat.le_refl _)
theorem c_isPlace (h : AH) (M : MD h o S A sl an a r kn th) {k : Nat} (hk : k < 6) (pl : Int32) : CT la D cA B0 pa yX10_isPlace cX10_isPlace 3 (some .boolean) (rmD 0 0 0) [.ref o, vI k, .int pl] h (fun v h' => (∃ b : Bool, v = some (.int (bI b)) ∧ (b = true → ∀ x, sl[k]? = some x → inN x.length pl)) ∧ h' = h) := by
  refine CT_of (by decide +kernel) (Nat.le_of_ble_eq_true rfl) ?_
  intro p e s m args below meth c X E hr hlk hnm
  have dk : ∀ {pc : Nat} {q : Instr × Nat}, lkd DX10_isPlace pc = some q → decode cX10_isPlace pc = .ok q := lkd_ok DX10_isPlace_ok
  obtain ⟨ss, s1, s2, s3⟩ := M.slot
  obtain ⟨b, x, e1, e2, e3, e4, e5⟩ := s3 k hk
  have lx : (x.map vI).length = x.length := List.length_map _
  have no' : ∀ (l : List (Nat × Value)), WR p la e (rmD 0 0 0) s m args below meth c D cA B0 3 (fun v h' => (∃ b : Bool, v = some (.int (bI b)) ∧ (b = true → ∀ x, sl[k]? = some x → inN x.length pl)) ∧ h' = h) 19 l [] h 0 0 := by
    intro l
    refine fst1_ok (l' := l) (st' := [.int (bI false)]) X (dk rfl) rfl ?_
    exact reti_ok X hr hlk (bI_n _) (dk rfl) ⟨⟨false, rfl, fun z => by cases z⟩, rfl⟩ (Nat.le_refl _) (Nat.le_refl _)
  repeat refine fst1_ok X (dk rfl) rfl ?_
  refine br_ok X (dk rfl) rfl (show ((1 : Nat) : Int) + 18 = ((19 : Nat) : Int) from rfl) (fun _ => no' _) (fun c1 => ?_)
  repeat refine fst1_ok X (dk rfl) rfl ?_
  refine getf_ok X flX10_11 (dk rfl) M.obj rfl ?_
  refine fst1_ok X (dk rfl) rfl ?_
  refine ldr_ok X (dk rfl) s2 e1 (by omega) ?_
  refine alen_ok X (by decide) (dk rfl) e3 ?_
  rw [lx]
  refine br_ok X (dk rfl) rfl (show ((12 : Nat) : Int) + 7 = ((19 : Nat) : Int) from rfl) (fun _ => no' _) (fun c2 => ?_)
  repeat refine fst1_ok X (dk rfl) rfl ?_
  refine br_ok X (dk rfl) rfl (show ((16 : Nat) : Int) + 4 = ((20 : Nat) : Int) from rfl) (fun _ => ?_) (fun q => absurd trivial q)
  exact reti_ok X hr hlk (bI_n true) (dk rfl) ⟨⟨true, rfl, fun _ y hy => by rw [Option.some.inj (hy.symm.trans e2)]; exact inN_of (by omega) c1 c2⟩, rfl⟩ (Nat.le_refl _) (Nat.le_refl _)
theorem c_become (h : AH) (M : MD h o S A sl an a r kn th) {k q : Nat} {x : List (List Nat)} (hk : k < 3) (hq : Ans h q x) (hx : AO x) (hqS : q ≠ S) : CT la D cA B0 pa yX10_become cX10_become 3 (some .int) (rmD 4 8 8) [.ref o, vI k, .ref q] h (intR o S A kn h) := by
  refine CT_of (by decide +kernel) (Nat.le_of_ble_eq_true rfl) ?_
  intro p e s m args below meth c X E hr hlk hnm
  have dk : ∀ {pc : Nat} {q : Instr × Nat}, lkd DX10_become pc = some q → decode cX10_become pc = .ok q := lkd_ok DX10_become_ok
  repeat refine fst1_ok X (dk rfl) rfl ?_
  refine getf_ok X flX10_16 (dk rfl) M.obj rfl ?_
  repeat refine fst1_ok X (dk rfl) rfl ?_
  obtain ⟨vs, g1, g2, M1⟩ := M.setA hk hq hx hqS
  obtain ⟨vq, hq'⟩ := hq.kind
  refine sta_ok X (dk rfl) g1 hq' (by omega) (by omega) ?_
  repeat refine fst1_ok X (dk rfl) rfl ?_
  refine callS_ok (av := [.ref q]) (r := [.ref o]) X E (c_movedBy _ (hq.hup (k_ne g1 hq' (by decide)) g1 (by decide) _) hx) lkX10_movedBy mlX10_141 lsX10_movedBy ⟨Nat.le_of_ble_eq_true rfl, Nat.le_of_ble_eq_true rfl⟩ ⟨Nat.le_of_ble_eq_true rfl, Nat.le_of_ble_eq_true rfl⟩ (Nat.le_of_ble_eq_true rfl) (dk rfl) ?_
  rintro v h1 ⟨rfl, E1⟩
  refine callS_ok (av := [vI (movedN x 8)]) (r := [.ref o]) X E (c_ones h1 (nI (movedN x 8))) lkX10_ones mlX10_128 lsX10_ones ⟨Nat.le_of_ble_eq_true rfl, Nat.le_of_ble_eq_true rfl⟩ ⟨Nat.le_of_ble_eq_true rfl, Nat.le_of_ble_eq_true rfl⟩ (Nat.le_of_ble_eq_true rfl) (dk rfl) ?_
  rintro v h2 ⟨rfl, rfl⟩
  refine done_ok X E (M1.ext E1) ⟨Nat.le_of_ble_eq_true rfl, Nat.le_of_ble_eq_true rfl⟩ ⟨Nat.le_of_ble_eq_true rfl, Nat.le_of_ble_eq_true rfl⟩ (Nat.le_of_ble_eq_true rfl) (dk rfl) (fun h' a' r'' th' M' F => ?_)
  exact reti_ok X hr hlk rfl (dk rfl) ⟨⟨_, rfl⟩, MI.trans (((Fr.rf h).set (Or.inr (Or.inr rfl)) _).trans (Fr.ext E1)) ⟨⟨_, _, _, _, _, M'⟩, F⟩⟩ (Nat.le_refl _) (Nat.le_refl _)
end M38b
end
section
/-! name, copy, swap, part -/
section M39
variable {la : Launch} {D : va_G} {cA : Nat → ClassId} {B0 pa : Nat} {o S A : Nat} {sl : List (List Nat)} {an : List (List (List Nat))} {a r kn th : Int32}
set_option maxHeartbeats 4000000 in
theorem c_name (h : AH) (M : MD h o S A sl an a r kn th) (x1 x2 : Int32) : CT la D cA B0 pa yX10_name cX10_name 4 (some .int) (rmD 2 1 1) [.ref o, .int x1, .int x2] h (intR o S A kn h) := by
  refine CT_of (by decide +kernel) (Nat.le_of_ble_eq_true rfl) ?_
  intro p e s m args below meth c X E hr hlk hnm
  have dk : ∀ {pc : Nat} {q : Instr × Nat}, lkd DX10_name pc = some q → decode cX10_name pc = .ok q := lkd_ok DX10_name_ok
  have mid2 : ∀ t1 t2 : Bool, (t1 = false → inN 6 x1) → (t2 = false → inN 8 x2) → WR p la e (rmD 2 1 1) s m args below meth c D cA B0 4 (intR o S A kn h) 25 (lv_args 0 [.ref o, .int x1, .int x2]) [.int (bI t2), .int (bI t1), .ref o] h 0 0 := by
    intro t1 t2 ht1 ht2
    refine thr2_ok X E M ⟨Nat.le_of_ble_eq_true rfl, Nat.le_of_ble_eq_true rfl⟩ ⟨Nat.le_of_ble_eq_true rfl, Nat.le_of_ble_eq_true rfl⟩ (Nat.le_of_ble_eq_true rfl) (dk rfl) (fun h1 a1 r1 th1 M1 F1 => ?_)
    cases hb : (t1 || t2) with
    | true =>
      refine br_ok X (dk rfl) rfl (show ((28 : Nat) : Int) + 5 = ((33 : Nat) : Int) from rfl) (fun q => absurd q bI_t) (fun _ => ?_)
      refine fst1_ok X (dk rfl) rfl ?_
      exact reti_ok X hr hlk rfl (dk rfl) ⟨⟨_, rfl⟩, ⟨_, _, _, _, _, M1⟩, F1⟩ (Nat.zero_le _) (Nat.zero_le _)
    | false =>
      refine br_ok X (dk rfl) rfl (show ((28 : Nat) : Int) + 5 = ((33 : Nat) : Int) from rfl) (fun _ => ?_) (fun q => absurd bI_f' q)
      obtain ⟨hb1, hb2⟩ := Bool.or_eq_false_iff.mp hb
      obtain ⟨j1, hj1, rfl⟩ := ht1 hb1
      obtain ⟨j2, hj2, rfl⟩ := ht2 hb2
      obtain ⟨ss, s1, s2, s3⟩ := M1.slot
      obtain ⟨as, a1, a2, a3⟩ := M1.ans
      obtain ⟨b1, y1, e1, f1, g1, w1, n1⟩ := s3 j1 hj1
      have ly1 : (y1.map vI).length = y1.length := List.length_map _
      repeat refine fst1_ok X (dk rfl) rfl ?_
      refine getf_ok X flX10_11 (dk rfl) M1.obj rfl ?_
      refine fst1_ok X (dk rfl) rfl ?_
      refine ldr_ok X (dk rfl) s2 e1 (by omega) ?_
      refine alen_ok X (by decide) (dk rfl) g1 ?_
      repeat refine fst1_ok X (dk rfl) rfl ?_
      refine getf_ok X flX10_11 (dk rfl) M1.obj rfl ?_
      repeat refine fst1_ok X (dk rfl) rfl ?_
      refine callS_ok (av := [vI j2]) (r := [vI j1, .ref S]) X E (c_row h1 j2) lkX10_row mlX10_20 lsX10_row ⟨Nat.le_of_ble_eq_true rfl, Nat.le_of_ble_eq_true rfl⟩ ⟨Nat.le_of_ble_eq_true rfl, Nat.le_of_ble_eq_true rfl⟩ (Nat.le_of_ble_eq_true rfl) (dk rfl) ?_
      rintro v h2 ⟨q, rfl, hq, hBq, rfl⟩
      have M2 := M1.ext (Ext.new hq (IA [j2]))
      obtain ⟨vs, k1, k2, M3⟩ := M2.setS hj1 (hup_self _ _ _) ⟨TW.name hj2, by simp⟩
      refine str_ok X (dk rfl) k1 (hup_self _ _ _) (by omega) (by omega) ?_
      repeat refine fst1_ok X (dk rfl) rfl ?_
      refine done_ok X E M3 ⟨Nat.le_of_ble_eq_true rfl, Nat.le_of_ble_eq_true rfl⟩ ⟨Nat.le_of_ble_eq_true rfl, Nat.le_of_ble_eq_true rfl⟩ (Nat.le_of_ble_eq_true rfl) (dk rfl) (fun h9 a9 r9 th9 M9 F9 => ?_)
      exact reti_ok X hr hlk rfl (dk rfl) ⟨⟨_, rfl⟩, MI.trans (F1.trans ((Fr.ext (Ext.new hq _)).set (Or.inr (Or.inl rfl)) _)) ⟨⟨_, _, _, _, _, M9⟩, F9⟩⟩ (Nat.le_of_ble_eq_true rfl) (Nat.le_of_ble_eq_true rfl)
  have mid1 : ∀ t1 : Bool, (t1 = false → inN 6 x1) → WR p la e (rmD 2 1 1) s m args below meth c D cA B0 4 (intR o S A kn h) 13 (lv_args 0 [.ref o, .int x1, .int x2]) [.int (bI t1), .ref o] h 0 0 := by
    intro t1 ht1
    have mid2 := fun t2 => mid2 t1 t2 ht1
    iterate 1 refine fst1_ok X (dk rfl) rfl ?_
    refine isName_ok X E mlX10_99 ⟨Nat.le_of_ble_eq_true rfl, Nat.le_of_ble_eq_true rfl⟩ ⟨Nat.le_of_ble_eq_true rfl, Nat.le_of_ble_eq_true rfl⟩ (Nat.le_of_ble_eq_true rfl) (dk rfl) (fun mid2b0 mid2h0 => ?_)
    cases mid2b0 with
    | false =>
      refine br_ok X (dk rfl) rfl (show ((17 : Nat) : Int) + 7 = ((24 : Nat) : Int) from rfl) (fun q => absurd q bI_f) (fun _ => ?_)
      refine fst1_ok X (dk rfl) rfl ?_
      refine br_ok X (dk rfl) rfl (show ((21 : Nat) : Int) + 4 = ((25 : Nat) : Int) from rfl) (fun _ => ?_) (fun q => absurd trivial q)
      exact mid2 true (fun z => by cases z)
    | true =>
      refine br_ok X (dk rfl) rfl (show ((17 : Nat) : Int) + 7 = ((24 : Nat) : Int) from rfl) (fun _ => ?_) (fun q => absurd bI_t q)
      refine fst1_ok X (dk rfl) rfl ?_
      exact mid2 false (fun _ => mid2h0 rfl)
  iterate 2 refine fst1_ok X (dk rfl) rfl ?_
  refine isSlot_ok X E mlX10_95 ⟨Nat.le_of_ble_eq_true rfl, Nat.le_of_ble_eq_true rfl⟩ ⟨Nat.le_of_ble_eq_true rfl, Nat.le_of_ble_eq_true rfl⟩ (Nat.le_of_ble_eq_true rfl) (dk rfl) (fun mid1b0 mid1h0 => ?_)
  cases mid1b0 with
  | false =>
    refine br_ok X (dk rfl) rfl (show ((5 : Nat) : Int) + 7 = ((12 : Nat) : Int) from rfl) (fun q => absurd q bI_f) (fun _ => ?_)
    refine fst1_ok X (dk rfl) rfl ?_
    refine br_ok X (dk rfl) rfl (show ((9 : Nat) : Int) + 4 = ((13 : Nat) : Int) from rfl) (fun _ => ?_) (fun q => absurd trivial q)
    exact mid1 true (fun z => by cases z)
  | true =>
    refine br_ok X (dk rfl) rfl (show ((5 : Nat) : Int) + 7 = ((12 : Nat) : Int) from rfl) (fun _ => ?_) (fun q => absurd bI_t q)
    refine fst1_ok X (dk rfl) rfl ?_
    exact mid1 false (fun _ => mid1h0 rfl)
set_option maxHeartbeats 4000000 in
theorem c_copy (h : AH) (M : MD h o S A sl an a r kn th) (x1 x2 : Int32) : CT la D cA B0 pa yX10_copy cX10_copy 3 (some .int) (rmD 2 0 0) [.ref o, .int x1, .int x2] h (intR o S A kn h) := by
  refine CT_of (by decide +kernel) (Nat.le_of_ble_eq_true rfl) ?_
  intro p e s m args below meth c X E hr hlk hnm
  have dk : ∀ {pc : Nat} {q : Instr × Nat}, lkd DX10_copy pc = some q → decode cX10_copy pc = .ok q := lkd_ok DX10_copy_ok
  have mid1 : ∀ t1 : Bool, (t1 = false → inN 6 x1 ∧ inN 6 x2) → WR p la e (rmD 2 0 0) s m args below meth c D cA B0 3 (intR o S A kn h) 20 (lv_args 0 [.ref o, .int x1, .int x2]) [.int (bI t1), .ref o] h 0 0 := by
    intro t1 ht1
    refine thr1_ok X E M ⟨Nat.le_of_ble_eq_true rfl, Nat.le_of_ble_eq_true rfl⟩ ⟨Nat.le_of_ble_eq_true rfl, Nat.le_of_ble_eq_true rfl⟩ (Nat.le_of_ble_eq_true rfl) (dk rfl) (fun h1 a1 r1 th1 M1 F1 => ?_)
    cases hb : t1 with
    | true =>
      refine br_ok X (dk rfl) rfl (show ((23 : Nat) : Int) + 7 = ((30 : Nat) : Int) from rfl) (fun q => absurd q bI_t) (fun _ => ?_)
      refine fst1_ok X (dk rfl) rfl ?_
      refine br_ok X (dk rfl) rfl (show ((27 : Nat) : Int) + 14 = ((41 : Nat) : Int) from rfl) (fun _ => ?_) (fun q => absurd trivial q)
      exact reti_ok X hr hlk rfl (dk rfl) ⟨⟨_, rfl⟩, ⟨_, _, _, _, _, M1⟩, F1⟩ (Nat.zero_le _) (Nat.zero_le _)
    | false =>
      refine br_ok X (dk rfl) rfl (show ((23 : Nat) : Int) + 7 = ((30 : Nat) : Int) from rfl) (fun _ => ?_) (fun q => absurd bI_f' q)
      obtain ⟨⟨j1, hj1, rfl⟩, ⟨j2, hj2, rfl⟩⟩ := ht1 hb
      obtain ⟨ss, s1, s2, s3⟩ := M1.slot
      obtain ⟨as, a1, a2, a3⟩ := M1.ans
      obtain ⟨b1, y1, e1, f1, g1, w1, n1⟩ := s3 j1 hj1
      have ly1 : (y1.map vI).length = y1.length := List.length_map _
      obtain ⟨b2, y2, e2, f2, g2, w2, n2⟩ := s3 j2 hj2
      have ly2 : (y2.map vI).length = y2.length := List.length_map _
      repeat refine fst1_ok X (dk rfl) rfl ?_
      refine getf_ok X flX10_11 (dk rfl) M1.obj rfl ?_
      refine fst1_ok X (dk rfl) rfl ?_
      refine ldr_ok X (dk rfl) s2 e1 (by omega) ?_
      refine callV_ok (ci := 12) (T := TX10) (N := 6) (av := [vI j2, .ref b1]) (r := []) X E (c_give h1 M1 hj2 g1 w1 (by omega)) lkX10_give mlX10_106 lmX10_give lpX10_give ⟨Nat.le_of_ble_eq_true rfl, Nat.le_of_ble_eq_true rfl⟩ ⟨Nat.le_of_ble_eq_true rfl, Nat.le_of_ble_eq_true rfl⟩ rfl M1.obj (Nat.le_of_ble_eq_true rfl) (dk rfl) ?_
      rintro v h9 ⟨⟨w9, rfl⟩, I9⟩
      exact reti_ok X hr hlk rfl (dk rfl) ⟨⟨_, rfl⟩, MI.trans (F1) I9⟩ (Nat.le_of_ble_eq_true rfl) (Nat.le_of_ble_eq_true rfl)
  iterate 2 refine fst1_ok X (dk rfl) rfl ?_
  refine isSlot_ok X E mlX10_95 ⟨Nat.le_of_ble_eq_true rfl, Nat.le_of_ble_eq_true rfl⟩ ⟨Nat.le_of_ble_eq_true rfl, Nat.le_of_ble_eq_true rfl⟩ (Nat.le_of_ble_eq_true rfl) (dk rfl) (fun mid1b0 mid1h0 => ?_)
  cases mid1b0 with
  | false =>
    refine br_ok X (dk rfl) rfl (show ((5 : Nat) : Int) + 10 = ((15 : Nat) : Int) from rfl) (fun _ => ?_) (fun q => absurd bI_f' q)
    refine fst1_ok X (dk rfl) rfl ?_
    refine br_ok X (dk rfl) rfl (show ((16 : Nat) : Int) + 4 = ((20 : Nat) : Int) from rfl) (fun _ => ?_) (fun q => absurd trivial q)
    exact mid1 true (fun z => by cases z)
  | true =>
    refine br_ok X (dk rfl) rfl (show ((5 : Nat) : Int) + 10 = ((15 : Nat) : Int) from rfl) (fun q => absurd q bI_t) (fun _ => ?_)
    iterate 1 refine fst1_ok X (dk rfl) rfl ?_
    refine isSlot_ok X E mlX10_95 ⟨Nat.le_of_ble_eq_true rfl, Nat.le_of_ble_eq_true rfl⟩ ⟨Nat.le_of_ble_eq_true rfl, Nat.le_of_ble_eq_true rfl⟩ (Nat.le_of_ble_eq_true rfl) (dk rfl) (fun mid1b1 mid1h1 => ?_)
    cases mid1b1 with
    | false =>
      refine br_ok X (dk rfl) rfl (show ((12 : Nat) : Int) + 7 = ((19 : Nat) : Int) from rfl) (fun q => absurd q bI_f) (fun _ => ?_)
      refine fst1_ok X (dk rfl) rfl ?_
      refine br_ok X (dk rfl) rfl (show ((16 : Nat) : Int) + 4 = ((20 : Nat) : Int) from rfl) (fun _ => ?_) (fun q => absurd trivial q)
      exact mid1 true (fun z => by cases z)
    | true =>
      refine br_ok X (dk rfl) rfl (show ((12 : Nat) : Int) + 7 = ((19 : Nat) : Int) from rfl) (fun _ => ?_) (fun q => absurd bI_t q)
      refine fst1_ok X (dk rfl) rfl ?_
      exact mid1 false (fun _ => ⟨mid1h0 rfl, mid1h1 rfl⟩)
set_option maxHeartbeats 4000000 in
theorem c_swap (h : AH) (M : MD h o S A sl an a r kn th) (x1 x2 : Int32) : CT la D cA B0 pa yX10_swap cX10_swap 5 (some .int) (rmD 3 0 0) [.ref o, .int x1, .int x2] h (intR o S A kn h) := by
  refine CT_of (by decide +kernel) (Nat.le_of_ble_eq_true rfl) ?_
  intro p e s m args below meth c X E hr hlk hnm
  have dk : ∀ {pc : Nat} {q : Instr × Nat}, lkd DX10_swap pc = some q → decode cX10_swap pc = .ok q := lkd_ok DX10_swap_ok
  have mid1 : ∀ t1 : Bool, (t1 = false → inN 6 x1 ∧ inN 6 x2) → WR p la e (rmD 3 0 0) s m args below meth c D cA B0 5 (intR o S A kn h) 20 (lv_args 0 [.ref o, .int x1, .int x2]) [.int (bI t1), .ref o] h 0 0 := by
    intro t1 ht1
    refine thr1_ok X E M ⟨Nat.le_of_ble_eq_true rfl, Nat.le_of_ble_eq_true rfl⟩ ⟨Nat.le_of_ble_eq_true rfl, Nat.le_of_ble_eq_true rfl⟩ (Nat.le_of_ble_eq_true rfl) (dk rfl) (fun h1 a1 r1 th1 M1 F1 => ?_)
    cases hb : t1 with
    | true =>
      refine br_ok X (dk rfl) rfl (show ((23 : Nat) : Int) + 5 = ((28 : Nat) : Int) from rfl) (fun q => absurd q bI_t) (fun _ => ?_)
      refine fst1_ok X (dk rfl) rfl ?_
      exact reti_ok X hr hlk rfl (dk rfl) ⟨⟨_, rfl⟩, ⟨_, _, _, _, _, M1⟩, F1⟩ (Nat.zero_le _) (Nat.zero_le _)
    | false =>
      refine br_ok X (dk rfl) rfl (show ((23 : Nat) : Int) + 5 = ((28 : Nat) : Int) from rfl) (fun _ => ?_) (fun q => absurd bI_f' q)
      obtain ⟨⟨j1, hj1, rfl⟩, ⟨j2, hj2, rfl⟩⟩ := ht1 hb
      obtain ⟨ss, s1, s2, s3⟩ := M1.slot
      obtain ⟨as, a1, a2, a3⟩ := M1.ans
      obtain ⟨b1, y1, e1, f1, g1, w1, n1⟩ := s3 j1 hj1
      have ly1 : (y1.map vI).length = y1.length := List.length_map _
      obtain ⟨b2, y2, e2, f2, g2, w2, n2⟩ := s3 j2 hj2
      have ly2 : (y2.map vI).length = y2.length := List.length_map _
      repeat refine fst1_ok X (dk rfl) rfl ?_
      refine getf_ok X flX10_11 (dk rfl) M1.obj rfl ?_
      refine fst1_ok X (dk rfl) rfl ?_
      refine ldr_ok X (dk rfl) s2 e1 (by omega) ?_
      repeat refine fst1_ok X (dk rfl) rfl ?_
      refine getf_ok X flX10_11 (dk rfl) M1.obj rfl ?_
      refine fst1_ok X (dk rfl) rfl ?_
      refine ldr_ok X (dk rfl) s2 e2 (by omega) ?_
      refine callS_ok (av := [.ref b1, .ref b2]) (r := []) X E (c_same h1 g1 g2 (by omega) (by omega) w1.lt w2.lt) lkX10_same mlX10_54 lsX10_same ⟨Nat.le_of_ble_eq_true rfl, Nat.le_of_ble_eq_true rfl⟩ ⟨Nat.le_of_ble_eq_true rfl, Nat.le_of_ble_eq_true rfl⟩ (Nat.le_of_ble_eq_true rfl) (dk rfl) ?_
      rintro v h2 ⟨rfl, rfl⟩
      generalize hz : (if y1 = y2 then (1 : Int32) else 0) = z
      repeat refine fst1_ok X (dk rfl) rfl ?_
      refine getf_ok X flX10_11 (dk rfl) M1.obj rfl ?_
      repeat refine fst1_ok X (dk rfl) rfl ?_
      refine getf_ok X flX10_11 (dk rfl) M1.obj rfl ?_
      refine fst1_ok X (dk rfl) rfl ?_
      refine ldr_ok X (dk rfl) s2 e2 (by omega) ?_
      obtain ⟨vs, k1, k2, M3⟩ := M1.setS hj1 g2 ⟨w2, n2⟩
      refine str_ok X (dk rfl) k1 g2 (by omega) (by omega) ?_
      repeat refine fst1_ok X (dk rfl) rfl ?_
      refine getf_ok X flX10_11 (dk rfl) M3.obj rfl ?_
      repeat refine fst1_ok X (dk rfl) rfl ?_
      have g1b : hup h2 S (105, vs.set j1 (.ref b2)) b1 = some (IA y1) := by rw [hup_ne _ _ (IA_ne g1 k1)]; exact g1
      obtain ⟨vs2, k3, k4, M4⟩ := M3.setS hj2 g1b ⟨w1, n1⟩
      refine str_ok X (dk rfl) k3 g1b (by omega) (by omega) ?_
      repeat refine fst1_ok X (dk rfl) rfl ?_
      have fin9 : ∀ (t : Int32) (l : List (Nat × Value)), WR p la e (rmD 3 0 0) s m args below meth c D cA B0 5 (intR o S A kn h) 77 l [.int t, .ref o] (hup (hup h2 S (105, vs.set j1 (.ref b2))) S (105, vs2.set j2 (.ref b1))) 0 0 := by
        intro t l
        refine done_ok X E M4 ⟨Nat.le_of_ble_eq_true rfl, Nat.le_of_ble_eq_true rfl⟩ ⟨Nat.le_of_ble_eq_true rfl, Nat.le_of_ble_eq_true rfl⟩ (Nat.le_of_ble_eq_true rfl) (dk rfl) (fun h9 a9 r9 th9 M9 F9 => ?_)
        exact reti_ok X hr hlk rfl (dk rfl) ⟨⟨_, rfl⟩, MI.trans ((F1.set (Or.inr (Or.inl rfl)) _).set (Or.inr (Or.inl rfl)) _) ⟨⟨_, _, _, _, _, M9⟩, F9⟩⟩ (Nat.le_of_ble_eq_true rfl) (Nat.le_of_ble_eq_true rfl)
      by_cases hz0 : z = 0
      · refine br_ok X (dk rfl) rfl (show ((69 : Nat) : Int) + 7 = ((76 : Nat) : Int) from rfl) (fun _ => ?_) (fun q => absurd hz0 q)
        refine fst1_ok X (dk rfl) rfl ?_
        exact fin9 _ _
      · refine br_ok X (dk rfl) rfl (show ((69 : Nat) : Int) + 7 = ((76 : Nat) : Int) from rfl) (fun q => absurd q hz0) (fun _ => ?_)
        refine fst1_ok X (dk rfl) rfl ?_
        refine br_ok X (dk rfl) rfl (show ((73 : Nat) : Int) + 4 = ((77 : Nat) : Int) from rfl) (fun _ => ?_) (fun q => absurd trivial q)
        exact fin9 _ _
  iterate 2 refine fst1_ok X (dk rfl) rfl ?_
  refine isSlot_ok X E mlX10_95 ⟨Nat.le_of_ble_eq_true rfl, Nat.le_of_ble_eq_true rfl⟩ ⟨Nat.le_of_ble_eq_true rfl, Nat.le_of_ble_eq_true rfl⟩ (Nat.le_of_ble_eq_true rfl) (dk rfl) (fun mid1b0 mid1h0 => ?_)
  cases mid1b0 with
  | false =>
    refine br_ok X (dk rfl) rfl (show ((5 : Nat) : Int) + 10 = ((15 : Nat) : Int) from rfl) (fun _ => ?_) (fun q => absurd bI_f' q)
    refine fst1_ok X (dk rfl) rfl ?_
    refine br_ok X (dk rfl) rfl (show ((16 : Nat) : Int) + 4 = ((20 : Nat) : Int) from rfl) (fun _ => ?_) (fun q => absurd trivial q)
    exact mid1 true (fun z => by cases z)
  | true =>
    refine br_ok X (dk rfl) rfl (show ((5 : Nat) : Int) + 10 = ((15 : Nat) : Int) from rfl) (fun q => absurd q bI_t) (fun _ => ?_)
    iterate 1 refine fst1_ok X (dk rfl) rfl ?_
    refine isSlot_ok X E mlX10_95 ⟨Nat.le_of_ble_eq_true rfl, Nat.le_of_ble_eq_true rfl⟩ ⟨Nat.le_of_ble_eq_true rfl, Nat.le_of_ble_eq_true rfl⟩ (Nat.le_of_ble_eq_true rfl) (dk rfl) (fun mid1b1 mid1h1 => ?_)
    cases mid1b1 with
    | false =>
      refine br_ok X (dk rfl) rfl (show ((12 : Nat) : Int) + 7 = ((19 : Nat) : Int) from rfl) (fun q => absurd q bI_f) (fun _ => ?_)
      refine fst1_ok X (dk rfl) rfl ?_
      refine br_ok X (dk rfl) rfl (show ((16 : Nat) : Int) + 4 = ((20 : Nat) : Int) from rfl) (fun _ => ?_) (fun q => absurd trivial q)
      exact mid1 true (fun z => by cases z)
    | true =>
      refine br_ok X (dk rfl) rfl (show ((12 : Nat) : Int) + 7 = ((19 : Nat) : Int) from rfl) (fun _ => ?_) (fun q => absurd bI_t q)
      refine fst1_ok X (dk rfl) rfl ?_
      exact mid1 false (fun _ => ⟨mid1h0 rfl, mid1h1 rfl⟩)
set_option maxHeartbeats 4000000 in
theorem c_part (h : AH) (M : MD h o S A sl an a r kn th) (x1 x2 x3 : Int32) : CT la D cA B0 pa yX10_part cX10_part 4 (some .int) (rmD 3 1 16) [.ref o, .int x1, .int x2, .int x3] h (intR o S A kn h) := by
  refine CT_of (by decide +kernel) (Nat.le_of_ble_eq_true rfl) ?_
  intro p e s m args below meth c X E hr hlk hnm
  have dk : ∀ {pc : Nat} {q : Instr × Nat}, lkd DX10_part pc = some q → decode cX10_part pc = .ok q := lkd_ok DX10_part_ok
  have mid1 : ∀ t1 : Bool, (t1 = false → inN 6 x1 ∧ inN 6 x3) → WR p la e (rmD 3 1 16) s m args below meth c D cA B0 4 (intR o S A kn h) 20 (lv_args 0 [.ref o, .int x1, .int x2, .int x3]) [.int (bI t1), .ref o] h 0 0 := by
    intro t1 ht1
    refine thr1_ok X E M ⟨Nat.le_of_ble_eq_true rfl, Nat.le_of_ble_eq_true rfl⟩ ⟨Nat.le_of_ble_eq_true rfl, Nat.le_of_ble_eq_true rfl⟩ (Nat.le_of_ble_eq_true rfl) (dk rfl) (fun h1 a1 r1 th1 M1 F1 => ?_)
    cases hb : t1 with
    | true =>
      refine br_ok X (dk rfl) rfl (show ((23 : Nat) : Int) + 5 = ((28 : Nat) : Int) from rfl) (fun q => absurd q bI_t) (fun _ => ?_)
      refine fst1_ok X (dk rfl) rfl ?_
      exact reti_ok X hr hlk rfl (dk rfl) ⟨⟨_, rfl⟩, ⟨_, _, _, _, _, M1⟩, F1⟩ (Nat.zero_le _) (Nat.zero_le _)
    | false =>
      refine br_ok X (dk rfl) rfl (show ((23 : Nat) : Int) + 5 = ((28 : Nat) : Int) from rfl) (fun _ => ?_) (fun q => absurd bI_f' q)
      obtain ⟨⟨j1, hj1, rfl⟩, ⟨j3, hj3, rfl⟩⟩ := ht1 hb
      obtain ⟨ss, s1, s2, s3⟩ := M1.slot
      obtain ⟨as, a1, a2, a3⟩ := M1.ans
      obtain ⟨b1, y1, e1, f1, g1, w1, n1⟩ := s3 j1 hj1
      have ly1 : (y1.map vI).length = y1.length := List.length_map _
      obtain ⟨b3, y3, e3, f3, g3, w3, n3⟩ := s3 j3 hj3
      have ly3 : (y3.map vI).length = y3.length := List.length_map _
      repeat refine fst1_ok X (dk rfl) rfl ?_
      refine callV_ok (ci := 12) (T := TX10) (N := 6) (av := [vI j1, .int x2]) (r := []) X E (c_isPlace h1 M1 hj1 x2) lkX10_isPlace mlX10_113 lmX10_isPlace lpX10_isPlace ⟨Nat.le_of_ble_eq_true rfl, Nat.le_of_ble_eq_true rfl⟩ ⟨Nat.le_of_ble_eq_true rfl, Nat.le_of_ble_eq_true rfl⟩ rfl M1.obj (Nat.le_of_ble_eq_true rfl) (dk rfl) ?_
      rintro v h2 ⟨⟨bp, rfl, hbp⟩, rfl⟩
      cases bp with
      | false =>
        refine br_ok X (dk rfl) rfl (show ((34 : Nat) : Int) + 21 = ((55 : Nat) : Int) from rfl) (fun _ => ?_) (fun q => absurd bI_f' q)
        repeat refine fst1_ok X (dk rfl) rfl ?_
        refine no_ok X E M1 ⟨Nat.le_of_ble_eq_true rfl, Nat.le_of_ble_eq_true rfl⟩ ⟨Nat.le_of_ble_eq_true rfl, Nat.le_of_ble_eq_true rfl⟩ (Nat.le_of_ble_eq_true rfl) (dk rfl) (fun h9 a9 r9 th9 M9 F9 => ?_)
        exact reti_ok X hr hlk rfl (dk rfl) ⟨⟨_, rfl⟩, MI.trans (F1) ⟨⟨_, _, _, _, _, M9⟩, F9⟩⟩ (Nat.le_of_ble_eq_true rfl) (Nat.le_of_ble_eq_true rfl)
      | true =>
        refine br_ok X (dk rfl) rfl (show ((34 : Nat) : Int) + 21 = ((55 : Nat) : Int) from rfl) (fun q => absurd q bI_t) (fun _ => ?_)
        obtain ⟨j2, hj2, rfl⟩ := hbp rfl y1 f1
        obtain ⟨k0, t1, t2, t3, t4⟩ := w1.at hj2
        repeat refine fst1_ok X (dk rfl) rfl ?_
        refine getf_ok X flX10_11 (dk rfl) M1.obj rfl ?_
        refine fst1_ok X (dk rfl) rfl ?_
        refine ldr_ok X (dk rfl) s2 e1 (by omega) ?_
        repeat refine fst1_ok X (dk rfl) rfl ?_
        refine callS_ok (av := [.ref b1, vI j2]) (r := [vI j3, .ref o]) X E (c_at h2 g1 w1.lt (by omega) t1) lkX10_at mlX10_74 lsX10_at ⟨Nat.le_of_ble_eq_true rfl, Nat.le_of_ble_eq_true rfl⟩ ⟨Nat.le_of_ble_eq_true rfl, by show 0 + k0 ≤ 16; omega⟩ (Nat.le_of_ble_eq_true rfl) (dk rfl) ?_
        rintro v h3 ⟨q, rfl, hq, hBq, rfl⟩
        have M2 := M1.ext (Ext.new hq (IA ((y1.drop j2).take k0)))
        refine callV_ok (ci := 12) (T := TX10) (N := 6) (av := [vI j3, .ref q]) (r := []) X E (c_give _ M2 hj3 (hup_self _ _ _) t4 (by rw [List.length_take, List.length_drop]; omega)) lkX10_give mlX10_106 lmX10_give lpX10_give ⟨Nat.le_of_ble_eq_true rfl, Nat.le_of_ble_eq_true rfl⟩ ⟨Nat.le_of_ble_eq_true rfl, by show 0 + k0 + 0 ≤ 16; omega⟩ rfl M2.obj (Nat.le_of_ble_eq_true rfl) (dk rfl) ?_
        rintro v h9 ⟨⟨w9, rfl⟩, I9⟩
        refine br_ok X (dk rfl) rfl (show ((52 : Nat) : Int) + 7 = ((59 : Nat) : Int) from rfl) (fun _ => ?_) (fun q => absurd trivial q)
        exact reti_ok X hr hlk rfl (dk rfl) ⟨⟨_, rfl⟩, MI.trans (F1.trans (Fr.ext (Ext.new hq _))) I9⟩ (Nat.le_of_ble_eq_true rfl) (by show 0 + k0 + 0 ≤ 16; omega)
  iterate 2 refine fst1_ok X (dk rfl) rfl ?_
  refine isSlot_ok X E mlX10_95 ⟨Nat.le_of_ble_eq_true rfl, Nat.le_of_ble_eq_true rfl⟩ ⟨Nat.le_of_ble_eq_true rfl, Nat.le_of_ble_eq_true rfl⟩ (Nat.le_of_ble_eq_true rfl) (dk rfl) (fun mid1b0 mid1h0 => ?_)
  cases mid1b0 with
  | false =>
    refine br_ok X (dk rfl) rfl (show ((5 : Nat) : Int) + 10 = ((15 : Nat) : Int) from rfl) (fun _ => ?_) (fun q => absurd bI_f' q)
    refine fst1_ok X (dk rfl) rfl ?_
    refine br_ok X (dk rfl) rfl (show ((16 : Nat) : Int) + 4 = ((20 : Nat) : Int) from rfl) (fun _ => ?_) (fun q => absurd trivial q)
    exact mid1 true (fun z => by cases z)
  | true =>
    refine br_ok X (dk rfl) rfl (show ((5 : Nat) : Int) + 10 = ((15 : Nat) : Int) from rfl) (fun q => absurd q bI_t) (fun _ => ?_)
    iterate 1 refine fst1_ok X (dk rfl) rfl ?_
    refine isSlot_ok X E mlX10_95 ⟨Nat.le_of_ble_eq_true rfl, Nat.le_of_ble_eq_true rfl⟩ ⟨Nat.le_of_ble_eq_true rfl, Nat.le_of_ble_eq_true rfl⟩ (Nat.le_of_ble_eq_true rfl) (dk rfl) (fun mid1b1 mid1h1 => ?_)
    cases mid1b1 with
    | false =>
      refine br_ok X (dk rfl) rfl (show ((12 : Nat) : Int) + 7 = ((19 : Nat) : Int) from rfl) (fun q => absurd q bI_f) (fun _ => ?_)
      refine fst1_ok X (dk rfl) rfl ?_
      refine br_ok X (dk rfl) rfl (show ((16 : Nat) : Int) + 4 = ((20 : Nat) : Int) from rfl) (fun _ => ?_) (fun q => absurd trivial q)
      exact mid1 true (fun z => by cases z)
    | true =>
      refine br_ok X (dk rfl) rfl (show ((12 : Nat) : Int) + 7 = ((19 : Nat) : Int) from rfl) (fun _ => ?_) (fun q => absurd bI_t q)
      refine fst1_ok X (dk rfl) rfl ?_
      exact mid1 false (fun _ => ⟨mid1h0 rfl, mid1h1 rfl⟩)
end M39
end
section
/-! terms grafted, shifted, put together -/
theorem endL_graft {z : List Nat} (hz : endL 1 z = some z.length) : ∀ (j : Nat) (xs : List Nat) (n k : Nat), endL n xs = some xs.length → j < xs.length → endL 1 (xs.drop j) = some k → endL n ((xs.take j ++ z) ++ xs.drop (j + k)) = some ((xs.take j ++ z) ++ xs.drop (j + k)).length
  | 0, xs, n, k, h, hj, hk => by
    cases n with
    | zero =>
      simp only [endL, Option.some.injEq] at h
      omega
    | succ n =>
      rw [List.drop_zero] at hk
      rw [Nat.add_comm n 1] at h ⊢
      obtain ⟨k1, h1, h2, h3⟩ := endL_add xs 1 n _ h
      rw [hk] at h1
      cases h1
      have e := endL_join (z ++ xs.drop k) 1 n z.length (xs.length - k) (endL_app _ _ _ _ hz) (by rw [List.drop_left]; exact h3)
      simp only [List.take_zero, List.nil_append, Nat.zero_add]
      rw [e]
      simp
  | j + 1, [], n, k, h, hj, hk => by simp at hj
  | j + 1, x :: r, 0, k, h, hj, hk => by simp [endL] at h
  | j + 1, x :: r, n + 1, k, h, hj, hk => by
    simp only [endL, Option.map_eq_some_iff, List.length_cons] at h
    obtain ⟨q, hq, hq2⟩ := h
    have hq3 : q = r.length := by omega
    subst hq3
    rw [List.drop_succ_cons] at hk
    have ih := endL_graft hz j r (n + pF x) k hq (by simpa using hj) hk
    rw [show j + 1 + k = (j + k) + 1 by omega, List.take_succ_cons, List.drop_succ_cons, List.cons_append, List.cons_append]
    simp only [endL]
    rw [ih]
    rfl
theorem TW.graft {xs z : List Nat} (hx : TW xs) (hz : TW z) {j k : Nat} (hj : j < xs.length) (hk : endL 1 (xs.drop j) = some k) : TW ((xs.take j ++ z) ++ xs.drop (j + k)) := by
  refine ⟨endL_graft hz.1 j xs 1 k hx.1 hj hk, fun x h => ?_⟩
  rcases List.mem_append.mp h with h | h
  · rcases List.mem_append.mp h with h | h
    · exact hx.2 x (List.mem_of_mem_take h)
    · exact hz.2 x h
  · exact hx.2 x (List.mem_of_mem_drop h)
/-- names go on by a number -/
def shL (by' : Nat) (x : Nat) : Nat := if x < 10 then (x + by') % 8 else x
theorem endL_map {f : Nat → Nat} : ∀ (xs : List Nat) (n : Nat), (∀ x ∈ xs, pF (f x) = pF x) → endL n (xs.map f) = endL n xs
  | xs, 0, h => by simp [endL]
  | [], n + 1, h => by simp [endL]
  | x :: r, n + 1, h => by
    rw [List.map_cons]
    simp only [endL]
    rw [h x List.mem_cons_self, endL_map r _ (fun y hy => h y (List.mem_cons_of_mem _ hy))]
theorem TW.shift {xs : List Nat} (h : TW xs) (b : Nat) : TW (xs.map (shL b)) := by
  refine ⟨?_, fun y hy => ?_⟩
  · rw [endL_map, List.length_map]
    · exact h.1
    · intro x hx
      unfold shL
      split
      · unfold pF
        rw [if_pos (by omega), if_pos (by omega)]
      · rfl
  · obtain ⟨x, hx, rfl⟩ := List.mem_map.mp hy
    have := h.2 x hx
    unfold shL
    split
    · exact Or.inl (by omega)
    · exact this
/-- a row that still wants m terms -/
def Wnt (M : List Nat) (m : Nat) : Prop := (∀ x ∈ M, okL x) ∧ ∀ (R : List Nat) (k : Nat), endL m R = some k → endL 1 (M ++ R) = some (M.length + k)
theorem Wnt.head {x : Nat} (h : okL x) : Wnt [x] (pF x) := by
  refine ⟨fun y hy => by simp at hy; rw [hy]; exact h, fun R k hk => ?_⟩
  rw [List.cons_append, List.nil_append]
  simp only [endL]
  rw [Nat.zero_add, hk]
  simp [Nat.add_comm]
theorem Wnt.more {M z : List Nat} {m : Nat} (h : Wnt M (m + 1)) (hz : TW z) : Wnt (M ++ z) m := by
  refine ⟨fun y hy => ?_, fun R k hk => ?_⟩
  · rcases List.mem_append.mp hy with q | q
    · exact h.1 y q
    · exact hz.2 y q
  · rw [List.append_assoc, h.2 (z ++ R) (z.length + k) ?_, List.length_append, Nat.add_assoc]
    rw [Nat.add_comm m 1]
    exact endL_join (z ++ R) 1 m z.length k (endL_app _ _ _ _ hz.1) (by rw [List.drop_left]; exact hk)
theorem Wnt.tw {M : List Nat} (h : Wnt M 0) : TW M := by
  refine ⟨?_, h.1⟩
  have := h.2 [] 0 (by simp [endL])
  rw [List.append_nil] at this
  exact this
end
section
/-! graft, put -/
theorem AnsPut {h : AH} {N : Nat} {rows : List (List Nat)} (H : Ans h N rows) {k q n : Nat} {x : List Nat} (hk : k < n) (hq : h q = some (IA x)) (hn : rows.length = n) : ∃ vs, h N = some (105, vs) ∧ vs.length = n ∧ Ans (hup h N (105, vs.set k (.ref q))) N (rows.set k x) := by
  obtain ⟨as, h1, h2, h3⟩ := H
  refine ⟨_, h2, by rw [List.length_map]; omega, as.set k q, by simp [h1], by rw [hup_self, List.map_set], fun i b y e1 e2 => ?_⟩
  by_cases hi : i = k
  · subst hi
    rw [List.getElem?_set_self (by omega)] at e1 e2
    cases e1
    cases e2
    rw [hup_ne _ _ (IA_ne hq h2)]
    exact hq
  · rw [List.getElem?_set_ne (Ne.symm hi)] at e1 e2
    have h4 := h3 i b y e1 e2
    rw [hup_ne _ _ (IA_ne h4 h2)]
    exact h4
theorem AO.set {rows : List (List Nat)} (H : AO rows) {k : Nat} {x : List Nat} (hx : TW x ∧ x.length ≤ 16) : AO (rows.set k x) := by
  refine ⟨by rw [List.length_set]; exact H.1, fun z hz => ?_⟩
  rcases List.mem_or_eq_of_mem_set hz with q | q
  · exact H.2 z q
  · rw [q]; exact hx
theorem AO_none : AO [[0], [1], [2], [3], [4], [5], [6], [7]] := by
  refine ⟨rfl, fun z hz => ?_⟩
  simp only [List.mem_cons, List.not_mem_nil, or_false] at hz
  rcases hz with rfl | rfl | rfl | rfl | rfl | rfl | rfl | rfl <;> exact ⟨TW.name (by omega), by decide⟩
section M39
variable {la : Launch} {D : va_G} {cA : Nat → ClassId} {B0 pa : Nat} {o S A : Nat} {sl : List (List Nat)} {an : List (List (List Nat))} {a r kn th : Int32}
set_option maxHeartbeats 4000000 in
theorem c_graft (h : AH) (M : MD h o S A sl an a r kn th) (x1 x2 x3 : Int32) : CT la D cA B0 pa yX10_graft cX10_graft 5 (some .int) (rmD 3 4 128) [.ref o, .int x1, .int x2, .int x3] h (intR o S A kn h) := by
  refine CT_of (by decide +kernel) (Nat.le_of_ble_eq_true rfl) ?_
  intro p e s m args below meth c X E hr hlk hnm
  have dk : ∀ {pc : Nat} {q : Instr × Nat}, lkd DX10_graft pc = some q → decode cX10_graft pc = .ok q := lkd_ok DX10_graft_ok
  have mid1 : ∀ t1 : Bool, (t1 = false → inN 6 x1 ∧ inN 6 x3) → WR p la e (rmD 3 4 128) s m args below meth c D cA B0 5 (intR o S A kn h) 20 (lv_args 0 [.ref o, .int x1, .int x2, .int x3]) [.int (bI t1), .ref o] h 0 0 := by
    intro t1 ht1
    refine thr1_ok X E M ⟨Nat.le_of_ble_eq_true rfl, Nat.le_of_ble_eq_true rfl⟩ ⟨Nat.le_of_ble_eq_true rfl, Nat.le_of_ble_eq_true rfl⟩ (Nat.le_of_ble_eq_true rfl) (dk rfl) (fun h1 a1 r1 th1 M1 F1 => ?_)
    cases hb : t1 with
    | true =>
      refine br_ok X (dk rfl) rfl (show ((23 : Nat) : Int) + 5 = ((28 : Nat) : Int) from rfl) (fun q => absurd q bI_t) (fun _ => ?_)
      refine fst1_ok X (dk rfl) rfl ?_
      exact reti_ok X hr hlk rfl (dk rfl) ⟨⟨_, rfl⟩, ⟨_, _, _, _, _, M1⟩, F1⟩ (Nat.zero_le _) (Nat.zero_le _)
    | false =>
      refine br_ok X (dk rfl) rfl (show ((23 : Nat) : Int) + 5 = ((28 : Nat) : Int) from rfl) (fun _ => ?_) (fun q => absurd bI_f' q)
      obtain ⟨⟨j1, hj1, rfl⟩, ⟨j3, hj3, rfl⟩⟩ := ht1 hb
      obtain ⟨ss, s1, s2, s3⟩ := M1.slot
      obtain ⟨as, a1, a2, a3⟩ := M1.ans
      obtain ⟨b1, y1, e1, f1, g1, w1, n1⟩ := s3 j1 hj1
      have ly1 : (y1.map vI).length = y1.length := List.length_map _
      obtain ⟨b3, y3, e3, f3, g3, w3, n3⟩ := s3 j3 hj3
      have ly3 : (y3.map vI).length = y3.length := List.length_map _
      repeat refine fst1_ok X (dk rfl) rfl ?_
      refine callV_ok (ci := 12) (T := TX10) (N := 6) (av := [vI j1, .int x2]) (r := []) X E (c_isPlace h1 M1 hj1 x2) lkX10_isPlace mlX10_113 lmX10_isPlace lpX10_isPlace ⟨Nat.le_of_ble_eq_true rfl, Nat.le_of_ble_eq_true rfl⟩ ⟨Nat.le_of_ble_eq_true rfl, Nat.le_of_ble_eq_true rfl⟩ rfl M1.obj (Nat.le_of_ble_eq_true rfl) (dk rfl) ?_
      rintro v h2 ⟨⟨bp, rfl, hbp⟩, rfl⟩
      cases bp with
      | false =>
        refine br_ok X (dk rfl) rfl (show ((34 : Nat) : Int) + 8 = ((42 : Nat) : Int) from rfl) (fun q => absurd q bI_f) (fun _ => ?_)
        repeat refine fst1_ok X (dk rfl) rfl ?_
        refine no_ok X E M1 ⟨Nat.le_of_ble_eq_true rfl, Nat.le_of_ble_eq_true rfl⟩ ⟨Nat.le_of_ble_eq_true rfl, Nat.le_of_ble_eq_true rfl⟩ (Nat.le_of_ble_eq_true rfl) (dk rfl) (fun h9 a9 r9 th9 M9 F9 => ?_)
        exact reti_ok X hr hlk rfl (dk rfl) ⟨⟨_, rfl⟩, MI.trans (F1) ⟨⟨_, _, _, _, _, M9⟩, F9⟩⟩ (Nat.le_of_ble_eq_true rfl) (Nat.le_of_ble_eq_true rfl)
      | true =>
        refine br_ok X (dk rfl) rfl (show ((34 : Nat) : Int) + 8 = ((42 : Nat) : Int) from rfl) (fun _ => ?_) (fun q => absurd bI_t q)
        obtain ⟨j2, hj2, rfl⟩ := hbp rfl y1 f1
        obtain ⟨k0, t1, t2, t3, t4⟩ := w1.at hj2
        repeat refine fst1_ok X (dk rfl) rfl ?_
        refine getf_ok X flX10_11 (dk rfl) M1.obj rfl ?_
        refine fst1_ok X (dk rfl) rfl ?_
        refine ldr_ok X (dk rfl) s2 e1 (by omega) ?_
        repeat refine fst1_ok X (dk rfl) rfl ?_
        refine callS_ok (av := [.ref b1, vI 0, vI j2]) (r := [vI j1, .ref o]) X E (c_piece h2 (f := 0) (t := j2) g1 (Nat.zero_le _) (by omega) (by omega) rfl) lkX10_piece mlX10_40 lsX10_piece ⟨Nat.le_of_ble_eq_true rfl, Nat.le_of_ble_eq_true rfl⟩ ⟨Nat.le_of_ble_eq_true rfl, by show 0 + (j2 - 0) ≤ 128; omega⟩ (Nat.le_of_ble_eq_true rfl) (dk rfl) ?_
        rintro v h3 ⟨q1, rfl, hq1, hB1, rfl⟩
        have X1 := Ext.new hq1 (IA ((y1.drop 0).take (j2 - 0)))
        have l1 : ((y1.drop 0).take (j2 - 0)).length = j2 := by rw [List.length_take, List.drop_zero]; omega
        refine WS.widen (k' := 1) (n' := j2) (Nat.le_of_ble_eq_true rfl) (by show 0 + 0 + (j2 - 0) ≤ j2; omega) ?_
        repeat refine fst1_ok X (dk rfl) rfl ?_
        refine getf_ok X flX10_11 (dk rfl) (X1 _ _ M1.obj) rfl ?_
        refine fst1_ok X (dk rfl) rfl ?_
        refine ldr_ok X (dk rfl) (X1 _ _ s2) e3 (by omega) ?_
        refine callS_ok (av := [.ref q1, .ref b3]) (r := [vI j1, .ref o]) X E (c_joined _ (hup_self _ _ _) (X1 _ _ g3) (by rw [l1]; omega) (by omega)) lkX10_joined mlX10_102 lsX10_joined ⟨Nat.le_of_ble_eq_true rfl, Nat.le_of_ble_eq_true rfl⟩ ⟨Nat.le_of_ble_eq_true rfl, by show j2 + (((y1.drop 0).take (j2 - 0)).length + y3.length) ≤ 128; rw [l1]; omega⟩ (Nat.le_of_ble_eq_true rfl) (dk rfl) ?_
        rintro v h3 ⟨q2, rfl, hq2, hB2, rfl⟩
        have X2 := X1.trans (Ext.new hq2 (IA ((y1.drop 0).take (j2 - 0) ++ y3)))
        refine WS.widen (k' := 2) (n' := 48) (Nat.le_of_ble_eq_true rfl) (by show j2 + (((y1.drop 0).take (j2 - 0)).length + y3.length) ≤ 48; rw [l1]; omega) ?_
        repeat refine fst1_ok X (dk rfl) rfl ?_
        refine callS_ok (av := [.ref b1, vI j2]) (r := [.ref b1, .ref q2, vI j1, .ref o]) X E (c_end _ (X2 _ _ g1) w1.lt (by omega) t1) lkX10_end mlX10_36 lsX10_end ⟨Nat.le_of_ble_eq_true rfl, Nat.le_of_ble_eq_true rfl⟩ ⟨Nat.le_of_ble_eq_true rfl, Nat.le_of_ble_eq_true rfl⟩ (Nat.le_of_ble_eq_true rfl) (dk rfl) ?_
        rintro v h3 ⟨rfl, rfl⟩
        repeat refine fst1_ok X (dk rfl) rfl ?_
        refine alen_ok X (by decide) (dk rfl) (X2 _ _ g1) ?_
        rw [ly1]
        refine callS_ok (av := [.ref b1, vI (j2 + k0), vI y1.length]) (r := [.ref q2, vI j1, .ref o]) X E (c_piece _ (X2 _ _ g1) (by omega) (Nat.le_refl _) (by omega) rfl) lkX10_piece mlX10_40 lsX10_piece ⟨Nat.le_of_ble_eq_true rfl, Nat.le_of_ble_eq_true rfl⟩ ⟨Nat.le_of_ble_eq_true rfl, by show 48 + (y1.length - (j2 + k0)) ≤ 128; omega⟩ (Nat.le_of_ble_eq_true rfl) (dk rfl) ?_
        rintro v h3 ⟨q3, rfl, hq3, hB3, rfl⟩
        refine WS.widen (k' := 3) (n' := 64) (Nat.le_of_ble_eq_true rfl) (by show 48 + (y1.length - (j2 + k0)) ≤ 64; omega) ?_
        have X3 := X2.trans (Ext.new hq3 (IA ((y1.drop (j2 + k0)).take (y1.length - (j2 + k0)))))
        have l3 : ((y1.drop (j2 + k0)).take (y1.length - (j2 + k0))).length = y1.length - (j2 + k0) := by rw [List.length_take, List.length_drop]; omega
        have l2 : ((y1.drop 0).take (j2 - 0) ++ y3).length = j2 + y3.length := by rw [List.length_append, l1]
        refine callS_ok (av := [.ref q2, .ref q3]) (r := [vI j1, .ref o]) X E (c_joined _ (Ext.new hq3 _ _ _ (hup_self _ _ _)) (hup_self _ _ _) (by rw [l2]; omega) (by rw [l3]; omega)) lkX10_joined mlX10_102 lsX10_joined ⟨Nat.le_of_ble_eq_true rfl, Nat.le_of_ble_eq_true rfl⟩ ⟨Nat.le_of_ble_eq_true rfl, by show 64 + (((y1.drop 0).take (j2 - 0) ++ y3).length + ((y1.drop (j2 + k0)).take (y1.length - (j2 + k0))).length) ≤ 128; rw [l2, l3]; omega⟩ (Nat.le_of_ble_eq_true rfl) (dk rfl) ?_
        rintro v h3 ⟨q4, rfl, hq4, hB4, rfl⟩
        refine WS.widen (k' := 4) (n' := 128) (Nat.le_of_ble_eq_true rfl) (by show 64 + (((y1.drop 0).take (j2 - 0) ++ y3).length + ((y1.drop (j2 + k0)).take (y1.length - (j2 + k0))).length) ≤ 128; rw [l2, l3]; omega) ?_
        have e8 : (y1.drop (j2 + k0)).take (y1.length - (j2 + k0)) = y1.drop (j2 + k0) := List.take_of_length_le (by rw [List.length_drop]; omega)
        have e9 : ((y1.drop 0).take (j2 - 0) ++ y3) ++ (y1.drop (j2 + k0)).take (y1.length - (j2 + k0)) = (y1.take j2 ++ y3) ++ y1.drop (j2 + k0) := by rw [e8, List.drop_zero, Nat.sub_zero]
        have X4 := X3.trans (Ext.new hq4 (IA (((y1.drop 0).take (j2 - 0) ++ y3) ++ (y1.drop (j2 + k0)).take (y1.length - (j2 + k0)))))
        have M2 := M1.ext X4
        refine callV_ok (ci := 12) (T := TX10) (N := 6) (av := [vI j1, .ref q4]) (r := []) X E (c_give _ M2 hj1 (hup_self _ _ _) (by rw [e9]; exact w1.graft w3 hj2 t1) (by rw [List.length_append, l2, l3]; omega)) lkX10_give mlX10_106 lmX10_give lpX10_give ⟨Nat.le_of_ble_eq_true rfl, Nat.le_of_ble_eq_true rfl⟩ ⟨Nat.le_of_ble_eq_true rfl, Nat.le_of_ble_eq_true rfl⟩ rfl M2.obj (Nat.le_of_ble_eq_true rfl) (dk rfl) ?_
        rintro v h9 ⟨⟨w9, rfl⟩, I9⟩
        exact reti_ok X hr hlk rfl (dk rfl) ⟨⟨_, rfl⟩, MI.trans (F1.trans (Fr.ext X4)) I9⟩ (Nat.le_of_ble_eq_true rfl) (Nat.le_of_ble_eq_true rfl)
  iterate 2 refine fst1_ok X (dk rfl) rfl ?_
  refine isSlot_ok X E mlX10_95 ⟨Nat.le_of_ble_eq_true rfl, Nat.le_of_ble_eq_true rfl⟩ ⟨Nat.le_of_ble_eq_true rfl, Nat.le_of_ble_eq_true rfl⟩ (Nat.le_of_ble_eq_true rfl) (dk rfl) (fun mid1b0 mid1h0 => ?_)
  cases mid1b0 with
  | false =>
    refine br_ok X (dk rfl) rfl (show ((5 : Nat) : Int) + 10 = ((15 : Nat) : Int) from rfl) (fun _ => ?_) (fun q => absurd bI_f' q)
    refine fst1_ok X (dk rfl) rfl ?_
    refine br_ok X (dk rfl) rfl (show ((16 : Nat) : Int) + 4 = ((20 : Nat) : Int) from rfl) (fun _ => ?_) (fun q => absurd trivial q)
    exact mid1 true (fun z => by cases z)
  | true =>
    refine br_ok X (dk rfl) rfl (show ((5 : Nat) : Int) + 10 = ((15 : Nat) : Int) from rfl) (fun q => absurd q bI_t) (fun _ => ?_)
    iterate 1 refine fst1_ok X (dk rfl) rfl ?_
    refine isSlot_ok X E mlX10_95 ⟨Nat.le_of_ble_eq_true rfl, Nat.le_of_ble_eq_true rfl⟩ ⟨Nat.le_of_ble_eq_true rfl, Nat.le_of_ble_eq_true rfl⟩ (Nat.le_of_ble_eq_true rfl) (dk rfl) (fun mid1b1 mid1h1 => ?_)
    cases mid1b1 with
    | false =>
      refine br_ok X (dk rfl) rfl (show ((12 : Nat) : Int) + 7 = ((19 : Nat) : Int) from rfl) (fun q => absurd q bI_f) (fun _ => ?_)
      refine fst1_ok X (dk rfl) rfl ?_
      refine br_ok X (dk rfl) rfl (show ((16 : Nat) : Int) + 4 = ((20 : Nat) : Int) from rfl) (fun _ => ?_) (fun q => absurd trivial q)
      exact mid1 true (fun z => by cases z)
    | true =>
      refine br_ok X (dk rfl) rfl (show ((12 : Nat) : Int) + 7 = ((19 : Nat) : Int) from rfl) (fun _ => ?_) (fun q => absurd bI_t q)
      refine fst1_ok X (dk rfl) rfl ?_
      exact mid1 false (fun _ => ⟨mid1h0 rfl, mid1h1 rfl⟩)
set_option maxHeartbeats 4000000 in
theorem c_put (h : AH) (M : MD h o S A sl an a r kn th) (x1 x2 x3 : Int32) : CT la D cA B0 pa yX10_put cX10_put 7 (some .int) (rmD 2 30 300) [.ref o, .int x1, .int x2, .int x3] h (intR o S A kn h) := by
  refine CT_of (by decide +kernel) (Nat.le_of_ble_eq_true rfl) ?_
  intro p e s m args below meth c X E hr hlk hnm
  have dk : ∀ {pc : Nat} {q : Instr × Nat}, lkd DX10_put pc = some q → decode cX10_put pc = .ok q := lkd_ok DX10_put_ok
  have mid2 : ∀ t1 t2 : Bool, (t1 = false → inN 6 x1 ∧ inN 6 x3) → (t2 = false → inN 8 x2) → WR p la e (rmD 2 30 300) s m args below meth c D cA B0 7 (intR o S A kn h) 32 (lv_args 0 [.ref o, .int x1, .int x2, .int x3]) [.int (bI t2), .int (bI t1), .ref o] h 0 0 := by
    intro t1 t2 ht1 ht2
    refine thr2_ok X E M ⟨Nat.le_of_ble_eq_true rfl, Nat.le_of_ble_eq_true rfl⟩ ⟨Nat.le_of_ble_eq_true rfl, Nat.le_of_ble_eq_true rfl⟩ (Nat.le_of_ble_eq_true rfl) (dk rfl) (fun h1 a1 r1 th1 M1 F1 => ?_)
    cases hb : (t1 || t2) with
    | true =>
      refine br_ok X (dk rfl) rfl (show ((35 : Nat) : Int) + 5 = ((40 : Nat) : Int) from rfl) (fun q => absurd q bI_t) (fun _ => ?_)
      refine fst1_ok X (dk rfl) rfl ?_
      exact reti_ok X hr hlk rfl (dk rfl) ⟨⟨_, rfl⟩, ⟨_, _, _, _, _, M1⟩, F1⟩ (Nat.zero_le _) (Nat.zero_le _)
    | false =>
      refine br_ok X (dk rfl) rfl (show ((35 : Nat) : Int) + 5 = ((40 : Nat) : Int) from rfl) (fun _ => ?_) (fun q => absurd bI_f' q)
      obtain ⟨hb1, hb2⟩ := Bool.or_eq_false_iff.mp hb
      obtain ⟨⟨j1, hj1, rfl⟩, ⟨j3, hj3, rfl⟩⟩ := ht1 hb1
      obtain ⟨j2, hj2, rfl⟩ := ht2 hb2
      obtain ⟨ss, s1, s2, s3⟩ := M1.slot
      obtain ⟨as, a1, a2, a3⟩ := M1.ans
      obtain ⟨b1, y1, e1, f1, g1, w1, n1⟩ := s3 j1 hj1
      have ly1 : (y1.map vI).length = y1.length := List.length_map _
      obtain ⟨b3, y3, e3, f3, g3, w3, n3⟩ := s3 j3 hj3
      have ly3 : (y3.map vI).length = y3.length := List.length_map _
      repeat refine fst1_ok X (dk rfl) rfl ?_
      refine getf_ok X flX10_11 (dk rfl) M1.obj rfl ?_
      refine fst1_ok X (dk rfl) rfl ?_
      refine ldr_ok X (dk rfl) s2 e1 (by omega) ?_
      repeat refine fst1_ok X (dk rfl) rfl ?_
      refine callS_ok (av := [.ref b1, vI j2]) (r := []) X E (c_often h1 (nI j2) g1 (by omega)) lkX10_often mlX10_117 lsX10_often ⟨Nat.le_of_ble_eq_true rfl, Nat.le_of_ble_eq_true rfl⟩ ⟨Nat.le_of_ble_eq_true rfl, Nat.le_of_ble_eq_true rfl⟩ (Nat.le_of_ble_eq_true rfl) (dk rfl) ?_
      rintro v h2 ⟨⟨w0, rfl⟩, rfl⟩
      repeat refine fst1_ok X (dk rfl) rfl ?_
      refine callS_ok (av := []) (r := []) X E (c_none h2) lkX10_none mlX10_24 lsX10_none ⟨Nat.le_of_ble_eq_true rfl, Nat.le_of_ble_eq_true rfl⟩ ⟨Nat.le_of_ble_eq_true rfl, Nat.le_of_ble_eq_true rfl⟩ (Nat.le_of_ble_eq_true rfl) (dk rfl) ?_
      rintro v h3 ⟨N, rfl, hN, hBN, XN, nN⟩
      repeat refine fst1_ok X (dk rfl) rfl ?_
      have M2 := M1.ext XN
      obtain ⟨ns, k1, k2, k3⟩ := nN
      have kl : ns.length = 8 := k1
      refine getf_ok X flX10_11 (dk rfl) M2.obj rfl ?_
      refine fst1_ok X (dk rfl) rfl ?_
      refine ldr_ok X (dk rfl) (XN _ _ s2) e3 (by omega) ?_
      refine str_ok X (dk rfl) k2 (XN _ _ g3) (by rw [List.length_map]; omega) (by rw [List.length_map]; omega) ?_
      have XA : Ext h2 (hup h3 N (105, (ns.map Value.ref).set j2 (.ref b3))) := XN.set hN _
      obtain ⟨vs0, p1, p2, nA⟩ := AnsPut ⟨ns, k1, k2, k3⟩ hj2 (XN _ _ g3) rfl
      cases k2.symm.trans p1
      have oA := AO_none.set (k := j2) ⟨w3, n3⟩
      generalize hrows : ([[0], [1], [2], [3], [4], [5], [6], [7]] : List (List Nat)).set j2 y3 = rows at nA oA
      have M3 := M1.ext XA
      repeat refine fst1_ok X (dk rfl) rfl ?_
      refine getf_ok X flX10_11 (dk rfl) M3.obj rfl ?_
      refine fst1_ok X (dk rfl) rfl ?_
      refine ldr_ok X (dk rfl) (XA _ _ s2) e1 (by omega) ?_
      have ul : (usedL rows y1).length ≤ 256 := by have := usedL_len rows (M := 16) (fun z hz => (oA.2 z hz).2) (by omega) y1; omega
      refine callS_ok (av := [.ref N, .ref b1]) (r := []) X E (c_used _ nA (XA _ _ g1) (by omega) (by rw [oA.1]; omega) w1.lt (fun z hz hz10 => by rw [oA.1]; rcases w1.2 z hz with q | q <;> omega) (by omega)) lkX10_used mlX10_120 lsX10_used ⟨Nat.le_of_ble_eq_true rfl, Nat.le_of_ble_eq_true rfl⟩ ⟨by show 9 + (1 + y1.length) ≤ 30; omega, by show 16 + ((usedL rows y1).length + y1.length) ≤ 300; omega⟩ (Nat.le_of_ble_eq_true rfl) (dk rfl) ?_
      rintro v h4 ⟨q, rfl, hq, hBq, XQ, hQ⟩
      have M4 := M3.ext XQ
      have XX := XA.trans XQ
      have tU := TW.used (rows := rows) (fun z hz => (oA.2 z hz).1) (by rw [oA.1]; omega) w1
      have lq : ((usedL rows y1).map vI).length = (usedL rows y1).length := List.length_map _
      refine WS.widen (k' := 30) (n' := 300) (by show 9 + (1 + y1.length) ≤ 30; omega) (by show 16 + ((usedL rows y1).length + y1.length) ≤ 300; omega) ?_
      repeat refine fst1_ok X (dk rfl) rfl ?_
      refine alen_ok X (by decide) (dk rfl) hQ ?_
      rw [lq]
      repeat refine fst1_ok X (dk rfl) rfl ?_
      refine br_ok X (dk rfl) rfl (show ((85 : Nat) : Int) + 8 = ((93 : Nat) : Int) from rfl) (fun c1 => ?_) (fun _ => ?_)
      · rw [nI_16] at c1
        have hl16 : (usedL rows y1).length ≤ 16 := (nI_leI (by omega) (by omega)).mp c1
        repeat refine fst1_ok X (dk rfl) rfl ?_
        refine getf_ok X flX10_11 (dk rfl) M4.obj rfl ?_
        repeat refine fst1_ok X (dk rfl) rfl ?_
        obtain ⟨vs, v1, v2, M5⟩ := M4.setS hj1 hQ ⟨tU, hl16⟩
        refine str_ok X (dk rfl) v1 hQ (by omega) (by omega) ?_
        repeat refine fst1_ok X (dk rfl) rfl ?_
        refine done_ok X E M5 ⟨Nat.le_of_ble_eq_true rfl, Nat.le_of_ble_eq_true rfl⟩ ⟨Nat.le_of_ble_eq_true rfl, Nat.le_of_ble_eq_true rfl⟩ (Nat.le_of_ble_eq_true rfl) (dk rfl) (fun h9 a9 r9 th9 M9 F9 => ?_)
        exact reti_ok X hr hlk rfl (dk rfl) ⟨⟨_, rfl⟩, MI.trans (F1.trans ((Fr.ext XX).set (Or.inr (Or.inl rfl)) _)) ⟨⟨_, _, _, _, _, M9⟩, F9⟩⟩ (Nat.le_of_ble_eq_true rfl) (Nat.le_of_ble_eq_true rfl)
      · repeat refine fst1_ok X (dk rfl) rfl ?_
        refine no_ok X E M4 ⟨Nat.le_of_ble_eq_true rfl, Nat.le_of_ble_eq_true rfl⟩ ⟨Nat.le_of_ble_eq_true rfl, Nat.le_of_ble_eq_true rfl⟩ (Nat.le_of_ble_eq_true rfl) (dk rfl) (fun h9 a9 r9 th9 M9 F9 => ?_)
        exact reti_ok X hr hlk rfl (dk rfl) ⟨⟨_, rfl⟩, MI.trans (F1.trans (Fr.ext XX)) ⟨⟨_, _, _, _, _, M9⟩, F9⟩⟩ (Nat.le_of_ble_eq_true rfl) (Nat.le_of_ble_eq_true rfl)
  have mid1 : ∀ t1 : Bool, (t1 = false → inN 6 x1 ∧ inN 6 x3) → WR p la e (rmD 2 30 300) s m args below meth c D cA B0 7 (intR o S A kn h) 20 (lv_args 0 [.ref o, .int x1, .int x2, .int x3]) [.int (bI t1), .ref o] h 0 0 := by
    intro t1 ht1
    have mid2 := fun t2 => mid2 t1 t2 ht1
    iterate 1 refine fst1_ok X (dk rfl) rfl ?_
    refine isName_ok X E mlX10_99 ⟨Nat.le_of_ble_eq_true rfl, Nat.le_of_ble_eq_true rfl⟩ ⟨Nat.le_of_ble_eq_true rfl, Nat.le_of_ble_eq_true rfl⟩ (Nat.le_of_ble_eq_true rfl) (dk rfl) (fun mid2b0 mid2h0 => ?_)
    cases mid2b0 with
    | false =>
      refine br_ok X (dk rfl) rfl (show ((24 : Nat) : Int) + 7 = ((31 : Nat) : Int) from rfl) (fun q => absurd q bI_f) (fun _ => ?_)
      refine fst1_ok X (dk rfl) rfl ?_
      refine br_ok X (dk rfl) rfl (show ((28 : Nat) : Int) + 4 = ((32 : Nat) : Int) from rfl) (fun _ => ?_) (fun q => absurd trivial q)
      exact mid2 true (fun z => by cases z)
    | true =>
      refine br_ok X (dk rfl) rfl (show ((24 : Nat) : Int) + 7 = ((31 : Nat) : Int) from rfl) (fun _ => ?_) (fun q => absurd bI_t q)
      refine fst1_ok X (dk rfl) rfl ?_
      exact mid2 false (fun _ => mid2h0 rfl)
  iterate 2 refine fst1_ok X (dk rfl) rfl ?_
  refine isSlot_ok X E mlX10_95 ⟨Nat.le_of_ble_eq_true rfl, Nat.le_of_ble_eq_true rfl⟩ ⟨Nat.le_of_ble_eq_true rfl, Nat.le_of_ble_eq_true rfl⟩ (Nat.le_of_ble_eq_true rfl) (dk rfl) (fun mid1b0 mid1h0 => ?_)
  cases mid1b0 with
  | false =>
    refine br_ok X (dk rfl) rfl (show ((5 : Nat) : Int) + 10 = ((15 : Nat) : Int) from rfl) (fun _ => ?_) (fun q => absurd bI_f' q)
    refine fst1_ok X (dk rfl) rfl ?_
    refine br_ok X (dk rfl) rfl (show ((16 : Nat) : Int) + 4 = ((20 : Nat) : Int) from rfl) (fun _ => ?_) (fun q => absurd trivial q)
    exact mid1 true (fun z => by cases z)
  | true =>
    refine br_ok X (dk rfl) rfl (show ((5 : Nat) : Int) + 10 = ((15 : Nat) : Int) from rfl) (fun q => absurd q bI_t) (fun _ => ?_)
    iterate 1 refine fst1_ok X (dk rfl) rfl ?_
    refine isSlot_ok X E mlX10_95 ⟨Nat.le_of_ble_eq_true rfl, Nat.le_of_ble_eq_true rfl⟩ ⟨Nat.le_of_ble_eq_true rfl, Nat.le_of_ble_eq_true rfl⟩ (Nat.le_of_ble_eq_true rfl) (dk rfl) (fun mid1b1 mid1h1 => ?_)
    cases mid1b1 with
    | false =>
      refine br_ok X (dk rfl) rfl (show ((12 : Nat) : Int) + 7 = ((19 : Nat) : Int) from rfl) (fun q => absurd q bI_f) (fun _ => ?_)
      refine fst1_ok X (dk rfl) rfl ?_
      refine br_ok X (dk rfl) rfl (show ((16 : Nat) : Int) + 4 = ((20 : Nat) : Int) from rfl) (fun _ => ?_) (fun q => absurd trivial q)
      exact mid1 true (fun z => by cases z)
    | true =>
      refine br_ok X (dk rfl) rfl (show ((12 : Nat) : Int) + 7 = ((19 : Nat) : Int) from rfl) (fun _ => ?_) (fun q => absurd bI_t q)
      refine fst1_ok X (dk rfl) rfl ?_
      exact mid1 false (fun _ => ⟨mid1h0 rfl, mid1h1 rfl⟩)
end M39
end
section
/-! plain, use, common, forget, take, match -/
section M39
variable {la : Launch} {D : va_G} {cA : Nat → ClassId} {B0 pa : Nat} {o S A : Nat} {sl : List (List Nat)} {an : List (List (List Nat))} {a r kn th : Int32}
set_option maxHeartbeats 4000000 in
theorem c_plain (h : AH) (M : MD h o S A sl an a r kn th) (x1 : Int32) : CT la D cA B0 pa yX10_plain cX10_plain 2 (some .int) (rmD 2 2 24) [.ref o, .int x1] h (intR o S A kn h) := by
  refine CT_of (by decide +kernel) (Nat.le_of_ble_eq_true rfl) ?_
  intro p e s m args below meth c X E hr hlk hnm
  have dk : ∀ {pc : Nat} {q : Instr × Nat}, lkd DX10_plain pc = some q → decode cX10_plain pc = .ok q := lkd_ok DX10_plain_ok
  have mid1 : ∀ t1 : Bool, (t1 = false → inN 6 x1) → WR p la e (rmD 2 2 24) s m args below meth c D cA B0 2 (intR o S A kn h) 13 (lv_args 0 [.ref o, .int x1]) [.int (bI t1), .ref o] h 0 0 := by
    intro t1 ht1
    refine thr1_ok X E M ⟨Nat.le_of_ble_eq_true rfl, Nat.le_of_ble_eq_true rfl⟩ ⟨Nat.le_of_ble_eq_true rfl, Nat.le_of_ble_eq_true rfl⟩ (Nat.le_of_ble_eq_true rfl) (dk rfl) (fun h1 a1 r1 th1 M1 F1 => ?_)
    cases hb : t1 with
    | true =>
      refine br_ok X (dk rfl) rfl (show ((16 : Nat) : Int) + 5 = ((21 : Nat) : Int) from rfl) (fun q => absurd q bI_t) (fun _ => ?_)
      refine fst1_ok X (dk rfl) rfl ?_
      exact reti_ok X hr hlk rfl (dk rfl) ⟨⟨_, rfl⟩, ⟨_, _, _, _, _, M1⟩, F1⟩ (Nat.zero_le _) (Nat.zero_le _)
    | false =>
      refine br_ok X (dk rfl) rfl (show ((16 : Nat) : Int) + 5 = ((21 : Nat) : Int) from rfl) (fun _ => ?_) (fun q => absurd bI_f' q)
      obtain ⟨j1, hj1, rfl⟩ := ht1 hb
      obtain ⟨ss, s1, s2, s3⟩ := M1.slot
      obtain ⟨as, a1, a2, a3⟩ := M1.ans
      obtain ⟨b1, y1, e1, f1, g1, w1, n1⟩ := s3 j1 hj1
      have ly1 : (y1.map vI).length = y1.length := List.length_map _
      repeat refine fst1_ok X (dk rfl) rfl ?_
      refine getf_ok X flX10_11 (dk rfl) M1.obj rfl ?_
      repeat refine fst1_ok X (dk rfl) rfl ?_
      refine getf_ok X flX10_11 (dk rfl) M1.obj rfl ?_
      refine fst1_ok X (dk rfl) rfl ?_
      refine ldr_ok X (dk rfl) s2 e1 (by omega) ?_
      refine callS_ok (av := [.ref b1]) (r := [vI j1, .ref S]) X E (c_plainOf h1 g1 w1.2 n1) lkX10_plainOf mlX10_131 lsX10_plainOf ⟨Nat.le_of_ble_eq_true rfl, Nat.le_of_ble_eq_true rfl⟩ ⟨Nat.le_of_ble_eq_true rfl, by show 0 + (8 + y1.length) ≤ 24; omega⟩ (Nat.le_of_ble_eq_true rfl) (dk rfl) ?_
      rintro v h2 ⟨q, rfl, hq, hBq, XQ, hQ⟩
      have M2 := M1.ext XQ
      obtain ⟨tp, lp⟩ := w1.plain
      obtain ⟨vs, v1, v2, M3⟩ := M2.setS hj1 hQ ⟨tp, by omega⟩
      refine str_ok X (dk rfl) v1 hQ (by omega) (by omega) ?_
      refine WS.widen (k' := 2) (n' := 24) (Nat.le_of_ble_eq_true rfl) (by show 0 + (8 + y1.length) ≤ 24; omega) ?_
      obtain ⟨ss2, u1, u2, u3⟩ := M3.slot
      obtain ⟨c1, z1, i1, i2, i3, i4, i5⟩ := u3 j1 hj1
      repeat refine fst1_ok X (dk rfl) rfl ?_
      refine getf_ok X flX10_11 (dk rfl) M3.obj rfl ?_
      refine fst1_ok X (dk rfl) rfl ?_
      refine ldr_ok X (dk rfl) u2 i1 (by omega) ?_
      refine callS_ok (av := [.ref c1]) (r := [.ref o]) X E (c_namesOf _ i3 (by omega) i4.lt) lkX10_namesOf mlX10_124 lsX10_namesOf ⟨Nat.le_of_ble_eq_true rfl, Nat.le_of_ble_eq_true rfl⟩ ⟨Nat.le_of_ble_eq_true rfl, Nat.le_of_ble_eq_true rfl⟩ (Nat.le_of_ble_eq_true rfl) (dk rfl) ?_
      rintro v h3 ⟨rfl, rfl⟩
      refine callS_ok (av := [vI (namesN z1)]) (r := [.ref o]) X E (c_ones _ (nI (namesN z1))) lkX10_ones mlX10_128 lsX10_ones ⟨Nat.le_of_ble_eq_true rfl, Nat.le_of_ble_eq_true rfl⟩ ⟨Nat.le_of_ble_eq_true rfl, Nat.le_of_ble_eq_true rfl⟩ (Nat.le_of_ble_eq_true rfl) (dk rfl) ?_
      rintro v h3 ⟨rfl, rfl⟩
      refine done_ok X E M3 ⟨Nat.le_of_ble_eq_true rfl, Nat.le_of_ble_eq_true rfl⟩ ⟨Nat.le_of_ble_eq_true rfl, Nat.le_of_ble_eq_true rfl⟩ (Nat.le_of_ble_eq_true rfl) (dk rfl) (fun h9 a9 r9 th9 M9 F9 => ?_)
      exact reti_ok X hr hlk rfl (dk rfl) ⟨⟨_, rfl⟩, MI.trans (F1.trans ((Fr.ext XQ).set (Or.inr (Or.inl rfl)) _)) ⟨⟨_, _, _, _, _, M9⟩, F9⟩⟩ (Nat.le_of_ble_eq_true rfl) (Nat.le_of_ble_eq_true rfl)
  iterate 2 refine fst1_ok X (dk rfl) rfl ?_
  refine isSlot_ok X E mlX10_95 ⟨Nat.le_of_ble_eq_true rfl, Nat.le_of_ble_eq_true rfl⟩ ⟨Nat.le_of_ble_eq_true rfl, Nat.le_of_ble_eq_true rfl⟩ (Nat.le_of_ble_eq_true rfl) (dk rfl) (fun mid1b0 mid1h0 => ?_)
  cases mid1b0 with
  | false =>
    refine br_ok X (dk rfl) rfl (show ((5 : Nat) : Int) + 7 = ((12 : Nat) : Int) from rfl) (fun q => absurd q bI_f) (fun _ => ?_)
    refine fst1_ok X (dk rfl) rfl ?_
    refine br_ok X (dk rfl) rfl (show ((9 : Nat) : Int) + 4 = ((13 : Nat) : Int) from rfl) (fun _ => ?_) (fun q => absurd trivial q)
    exact mid1 true (fun z => by cases z)
  | true =>
    refine br_ok X (dk rfl) rfl (show ((5 : Nat) : Int) + 7 = ((12 : Nat) : Int) from rfl) (fun _ => ?_) (fun q => absurd bI_t q)
    refine fst1_ok X (dk rfl) rfl ?_
    exact mid1 false (fun _ => mid1h0 rfl)
set_option maxHeartbeats 4000000 in
theorem c_use (h : AH) (M : MD h o S A sl an a r kn th) (x1 x2 x3 : Int32) : CT la D cA B0 pa yX10_use cX10_use 4 (some .int) (rmD 2 17 272) [.ref o, .int x1, .int x2, .int x3] h (intR o S A kn h) := by
  refine CT_of (by decide +kernel) (Nat.le_of_ble_eq_true rfl) ?_
  intro p e s m args below meth c X E hr hlk hnm
  have dk : ∀ {pc : Nat} {q : Instr × Nat}, lkd DX10_use pc = some q → decode cX10_use pc = .ok q := lkd_ok DX10_use_ok
  have mid1 : ∀ t1 : Bool, (t1 = false → inN 3 x1 ∧ inN 6 x2 ∧ inN 6 x3) → WR p la e (rmD 2 17 272) s m args below meth c D cA B0 4 (intR o S A kn h) 27 (lv_args 0 [.ref o, .int x1, .int x2, .int x3]) [.int (bI t1), .ref o] h 0 0 := by
    intro t1 ht1
    refine thr1_ok X E M ⟨Nat.le_of_ble_eq_true rfl, Nat.le_of_ble_eq_true rfl⟩ ⟨Nat.le_of_ble_eq_true rfl, Nat.le_of_ble_eq_true rfl⟩ (Nat.le_of_ble_eq_true rfl) (dk rfl) (fun h1 a1 r1 th1 M1 F1 => ?_)
    cases hb : t1 with
    | true =>
      refine br_ok X (dk rfl) rfl (show ((30 : Nat) : Int) + 7 = ((37 : Nat) : Int) from rfl) (fun q => absurd q bI_t) (fun _ => ?_)
      refine fst1_ok X (dk rfl) rfl ?_
      refine br_ok X (dk rfl) rfl (show ((34 : Nat) : Int) + 23 = ((57 : Nat) : Int) from rfl) (fun _ => ?_) (fun q => absurd trivial q)
      exact reti_ok X hr hlk rfl (dk rfl) ⟨⟨_, rfl⟩, ⟨_, _, _, _, _, M1⟩, F1⟩ (Nat.zero_le _) (Nat.zero_le _)
    | false =>
      refine br_ok X (dk rfl) rfl (show ((30 : Nat) : Int) + 7 = ((37 : Nat) : Int) from rfl) (fun _ => ?_) (fun q => absurd bI_f' q)
      obtain ⟨⟨j1, hj1, rfl⟩, ⟨j2, hj2, rfl⟩, ⟨j3, hj3, rfl⟩⟩ := ht1 hb
      obtain ⟨ss, s1, s2, s3⟩ := M1.slot
      obtain ⟨as, a1, a2, a3⟩ := M1.ans
      obtain ⟨b1, y1, e1, f1, g1, w1, n1⟩ := a3 j1 hj1
      obtain ⟨b2, y2, e2, f2, g2, w2, n2⟩ := s3 j2 hj2
      have ly2 : (y2.map vI).length = y2.length := List.length_map _
      obtain ⟨b3, y3, e3, f3, g3, w3, n3⟩ := s3 j3 hj3
      have ly3 : (y3.map vI).length = y3.length := List.length_map _
      repeat refine fst1_ok X (dk rfl) rfl ?_
      refine getf_ok X flX10_16 (dk rfl) M1.obj rfl ?_
      refine fst1_ok X (dk rfl) rfl ?_
      refine lda_ok X (dk rfl) a2 e1 (by omega) ?_
      repeat refine fst1_ok X (dk rfl) rfl ?_
      refine getf_ok X flX10_11 (dk rfl) M1.obj rfl ?_
      refine fst1_ok X (dk rfl) rfl ?_
      refine ldr_ok X (dk rfl) s2 e2 (by omega) ?_
      have ul : (usedL y1 y2).length ≤ 256 := by have := usedL_len y1 (M := 16) (fun z hz => (w1.2 z hz).2) (by omega) y2; omega
      refine callS_ok (av := [.ref b1, .ref b2]) (r := [vI j3, .ref o]) X E (c_used h1 g1 g2 (by omega) (by rw [w1.1]; omega) w2.lt (fun z hz hz10 => by rw [w1.1]; rcases w2.2 z hz with q | q <;> omega) (by omega)) lkX10_used mlX10_120 lsX10_used ⟨Nat.le_of_ble_eq_true rfl, Nat.le_of_ble_eq_true rfl⟩ ⟨by show 0 + (1 + y2.length) ≤ 17; omega, by show 0 + ((usedL y1 y2).length + y2.length) ≤ 272; omega⟩ (Nat.le_of_ble_eq_true rfl) (dk rfl) ?_
      rintro v h4 ⟨q, rfl, hq, hBq, XQ, hQ⟩
      refine WS.widen (k' := 17) (n' := 272) (by show 0 + (1 + y2.length) ≤ 17; omega) (by show 0 + ((usedL y1 y2).length + y2.length) ≤ 272; omega) ?_
      have tU := TW.used (rows := y1) (fun z hz => (w1.2 z hz).1) (by rw [w1.1]; omega) w2
      have M2 := M1.ext XQ
      refine callV_ok (ci := 12) (T := TX10) (N := 6) (av := [vI j3, .ref q]) (r := []) X E (c_give _ M2 hj3 hQ tU (by omega)) lkX10_give mlX10_106 lmX10_give lpX10_give ⟨Nat.le_of_ble_eq_true rfl, Nat.le_of_ble_eq_true rfl⟩ ⟨Nat.le_of_ble_eq_true rfl, Nat.le_of_ble_eq_true rfl⟩ rfl M2.obj (Nat.le_of_ble_eq_true rfl) (dk rfl) ?_
      rintro v h9 ⟨⟨w9, rfl⟩, I9⟩
      exact reti_ok X hr hlk rfl (dk rfl) ⟨⟨_, rfl⟩, MI.trans (F1.trans (Fr.ext XQ)) I9⟩ (Nat.le_of_ble_eq_true rfl) (Nat.le_of_ble_eq_true rfl)
  iterate 2 refine fst1_ok X (dk rfl) rfl ?_
  refine isAnswer_ok X E mlX10_135 ⟨Nat.le_of_ble_eq_true rfl, Nat.le_of_ble_eq_true rfl⟩ ⟨Nat.le_of_ble_eq_true rfl, Nat.le_of_ble_eq_true rfl⟩ (Nat.le_of_ble_eq_true rfl) (dk rfl) (fun mid1b0 mid1h0 => ?_)
  cases mid1b0 with
  | false =>
    refine br_ok X (dk rfl) rfl (show ((5 : Nat) : Int) + 17 = ((22 : Nat) : Int) from rfl) (fun _ => ?_) (fun q => absurd bI_f' q)
    refine fst1_ok X (dk rfl) rfl ?_
    refine br_ok X (dk rfl) rfl (show ((23 : Nat) : Int) + 4 = ((27 : Nat) : Int) from rfl) (fun _ => ?_) (fun q => absurd trivial q)
    exact mid1 true (fun z => by cases z)
  | true =>
    refine br_ok X (dk rfl) rfl (show ((5 : Nat) : Int) + 17 = ((22 : Nat) : Int) from rfl) (fun q => absurd q bI_t) (fun _ => ?_)
    iterate 1 refine fst1_ok X (dk rfl) rfl ?_
    refine isSlot_ok X E mlX10_95 ⟨Nat.le_of_ble_eq_true rfl, Nat.le_of_ble_eq_true rfl⟩ ⟨Nat.le_of_ble_eq_true rfl, Nat.le_of_ble_eq_true rfl⟩ (Nat.le_of_ble_eq_true rfl) (dk rfl) (fun mid1b1 mid1h1 => ?_)
    cases mid1b1 with
    | false =>
      refine br_ok X (dk rfl) rfl (show ((12 : Nat) : Int) + 10 = ((22 : Nat) : Int) from rfl) (fun _ => ?_) (fun q => absurd bI_f' q)
      refine fst1_ok X (dk rfl) rfl ?_
      refine br_ok X (dk rfl) rfl (show ((23 : Nat) : Int) + 4 = ((27 : Nat) : Int) from rfl) (fun _ => ?_) (fun q => absurd trivial q)
      exact mid1 true (fun z => by cases z)
    | true =>
      refine br_ok X (dk rfl) rfl (show ((12 : Nat) : Int) + 10 = ((22 : Nat) : Int) from rfl) (fun q => absurd q bI_t) (fun _ => ?_)
      iterate 1 refine fst1_ok X (dk rfl) rfl ?_
      refine isSlot_ok X E mlX10_95 ⟨Nat.le_of_ble_eq_true rfl, Nat.le_of_ble_eq_true rfl⟩ ⟨Nat.le_of_ble_eq_true rfl, Nat.le_of_ble_eq_true rfl⟩ (Nat.le_of_ble_eq_true rfl) (dk rfl) (fun mid1b2 mid1h2 => ?_)
      cases mid1b2 with
      | false =>
        refine br_ok X (dk rfl) rfl (show ((19 : Nat) : Int) + 7 = ((26 : Nat) : Int) from rfl) (fun q => absurd q bI_f) (fun _ => ?_)
        refine fst1_ok X (dk rfl) rfl ?_
        refine br_ok X (dk rfl) rfl (show ((23 : Nat) : Int) + 4 = ((27 : Nat) : Int) from rfl) (fun _ => ?_) (fun q => absurd trivial q)
        exact mid1 true (fun z => by cases z)
      | true =>
        refine br_ok X (dk rfl) rfl (show ((19 : Nat) : Int) + 7 = ((26 : Nat) : Int) from rfl) (fun _ => ?_) (fun q => absurd bI_t q)
        refine fst1_ok X (dk rfl) rfl ?_
        exact mid1 false (fun _ => ⟨mid1h0 rfl, mid1h1 rfl, mid1h2 rfl⟩)
set_option maxHeartbeats 4000000 in
theorem c_common (h : AH) (M : MD h o S A sl an a r kn th) (x1 x2 x3 : Int32) : CT la D cA B0 pa yX10_common cX10_common 4 (some .int) (rmD 4 35 96) [.ref o, .int x1, .int x2, .int x3] h (intR o S A kn h) := by
  refine CT_of (by decide +kernel) (Nat.le_of_ble_eq_true rfl) ?_
  intro p e s m args below meth c X E hr hlk hnm
  have dk : ∀ {pc : Nat} {q : Instr × Nat}, lkd DX10_common pc = some q → decode cX10_common pc = .ok q := lkd_ok DX10_common_ok
  have mid1 : ∀ t1 : Bool, (t1 = false → inN 6 x1 ∧ inN 6 x2 ∧ inN 6 x3) → WR p la e (rmD 4 35 96) s m args below meth c D cA B0 4 (intR o S A kn h) 27 (lv_args 0 [.ref o, .int x1, .int x2, .int x3]) [.int (bI t1), .ref o] h 0 0 := by
    intro t1 ht1
    refine thr1_ok X E M ⟨Nat.le_of_ble_eq_true rfl, Nat.le_of_ble_eq_true rfl⟩ ⟨Nat.le_of_ble_eq_true rfl, Nat.le_of_ble_eq_true rfl⟩ (Nat.le_of_ble_eq_true rfl) (dk rfl) (fun h1 a1 r1 th1 M1 F1 => ?_)
    cases hb : t1 with
    | true =>
      refine br_ok X (dk rfl) rfl (show ((30 : Nat) : Int) + 7 = ((37 : Nat) : Int) from rfl) (fun q => absurd q bI_t) (fun _ => ?_)
      refine fst1_ok X (dk rfl) rfl ?_
      refine br_ok X (dk rfl) rfl (show ((34 : Nat) : Int) + 23 = ((57 : Nat) : Int) from rfl) (fun _ => ?_) (fun q => absurd trivial q)
      exact reti_ok X hr hlk rfl (dk rfl) ⟨⟨_, rfl⟩, ⟨_, _, _, _, _, M1⟩, F1⟩ (Nat.zero_le _) (Nat.zero_le _)
    | false =>
      refine br_ok X (dk rfl) rfl (show ((30 : Nat) : Int) + 7 = ((37 : Nat) : Int) from rfl) (fun _ => ?_) (fun q => absurd bI_f' q)
      obtain ⟨⟨j1, hj1, rfl⟩, ⟨j2, hj2, rfl⟩, ⟨j3, hj3, rfl⟩⟩ := ht1 hb
      obtain ⟨ss, s1, s2, s3⟩ := M1.slot
      obtain ⟨as, a1, a2, a3⟩ := M1.ans
      obtain ⟨b1, y1, e1, f1, g1, w1, n1⟩ := s3 j1 hj1
      have ly1 : (y1.map vI).length = y1.length := List.length_map _
      obtain ⟨b2, y2, e2, f2, g2, w2, n2⟩ := s3 j2 hj2
      have ly2 : (y2.map vI).length = y2.length := List.length_map _
      obtain ⟨b3, y3, e3, f3, g3, w3, n3⟩ := s3 j3 hj3
      have ly3 : (y3.map vI).length = y3.length := List.length_map _
      repeat refine fst1_ok X (dk rfl) rfl ?_
      refine getf_ok X flX10_11 (dk rfl) M1.obj rfl ?_
      refine fst1_ok X (dk rfl) rfl ?_
      refine ldr_ok X (dk rfl) s2 e1 (by omega) ?_
      repeat refine fst1_ok X (dk rfl) rfl ?_
      refine getf_ok X flX10_11 (dk rfl) M1.obj rfl ?_
      refine fst1_ok X (dk rfl) rfl ?_
      refine ldr_ok X (dk rfl) s2 e2 (by omega) ?_
      refine callS_ok (av := [.ref b1, .ref b2]) (r := [vI j3, .ref o]) X E (c_commonOf h1 g1 g2 w1 w2 n1 n2) lkX10_commonOf mlX10_138 lsX10_commonOf ⟨Nat.le_of_ble_eq_true rfl, Nat.le_of_ble_eq_true rfl⟩ ⟨Nat.le_of_ble_eq_true rfl, Nat.le_of_ble_eq_true rfl⟩ (Nat.le_of_ble_eq_true rfl) (dk rfl) ?_
      rintro v h2 (⟨-, rfl, XQ⟩ | ⟨h8, q, rfl, hq, hBq, XQ, hQ⟩)
      · have M2 := M1.ext XQ
        refine callV_ok (ci := 12) (T := TX10) (N := 6) (av := [vI j3, .null]) (r := []) X E (c_giveN _ M2 (nI j3)) lkX10_give mlX10_106 lmX10_give lpX10_give ⟨Nat.le_of_ble_eq_true rfl, Nat.le_of_ble_eq_true rfl⟩ ⟨Nat.le_of_ble_eq_true rfl, Nat.le_of_ble_eq_true rfl⟩ rfl M2.obj (Nat.le_of_ble_eq_true rfl) (dk rfl) ?_
        rintro v h9 ⟨⟨w9, rfl⟩, I9⟩
        exact reti_ok X hr hlk rfl (dk rfl) ⟨⟨_, rfl⟩, MI.trans (F1.trans (Fr.ext XQ)) I9⟩ (Nat.le_of_ble_eq_true rfl) (Nat.le_of_ble_eq_true rfl)
      · have M2 := M1.ext XQ
        obtain ⟨tc, lc⟩ := comL_ok w1 w2 n1 n2 h8
        refine callV_ok (ci := 12) (T := TX10) (N := 6) (av := [vI j3, .ref q]) (r := []) X E (c_give _ M2 hj3 hQ tc (by omega)) lkX10_give mlX10_106 lmX10_give lpX10_give ⟨Nat.le_of_ble_eq_true rfl, Nat.le_of_ble_eq_true rfl⟩ ⟨Nat.le_of_ble_eq_true rfl, Nat.le_of_ble_eq_true rfl⟩ rfl M2.obj (Nat.le_of_ble_eq_true rfl) (dk rfl) ?_
        rintro v h9 ⟨⟨w9, rfl⟩, I9⟩
        exact reti_ok X hr hlk rfl (dk rfl) ⟨⟨_, rfl⟩, MI.trans (F1.trans (Fr.ext XQ)) I9⟩ (Nat.le_of_ble_eq_true rfl) (Nat.le_of_ble_eq_true rfl)
  iterate 2 refine fst1_ok X (dk rfl) rfl ?_
  refine isSlot_ok X E mlX10_95 ⟨Nat.le_of_ble_eq_true rfl, Nat.le_of_ble_eq_true rfl⟩ ⟨Nat.le_of_ble_eq_true rfl, Nat.le_of_ble_eq_true rfl⟩ (Nat.le_of_ble_eq_true rfl) (dk rfl) (fun mid1b0 mid1h0 => ?_)
  cases mid1b0 with
  | false =>
    refine br_ok X (dk rfl) rfl (show ((5 : Nat) : Int) + 17 = ((22 : Nat) : Int) from rfl) (fun _ => ?_) (fun q => absurd bI_f' q)
    refine fst1_ok X (dk rfl) rfl ?_
    refine br_ok X (dk rfl) rfl (show ((23 : Nat) : Int) + 4 = ((27 : Nat) : Int) from rfl) (fun _ => ?_) (fun q => absurd trivial q)
    exact mid1 true (fun z => by cases z)
  | true =>
    refine br_ok X (dk rfl) rfl (show ((5 : Nat) : Int) + 17 = ((22 : Nat) : Int) from rfl) (fun q => absurd q bI_t) (fun _ => ?_)
    iterate 1 refine fst1_ok X (dk rfl) rfl ?_
    refine isSlot_ok X E mlX10_95 ⟨Nat.le_of_ble_eq_true rfl, Nat.le_of_ble_eq_true rfl⟩ ⟨Nat.le_of_ble_eq_true rfl, Nat.le_of_ble_eq_true rfl⟩ (Nat.le_of_ble_eq_true rfl) (dk rfl) (fun mid1b1 mid1h1 => ?_)
    cases mid1b1 with
    | false =>
      refine br_ok X (dk rfl) rfl (show ((12 : Nat) : Int) + 10 = ((22 : Nat) : Int) from rfl) (fun _ => ?_) (fun q => absurd bI_f' q)
      refine fst1_ok X (dk rfl) rfl ?_
      refine br_ok X (dk rfl) rfl (show ((23 : Nat) : Int) + 4 = ((27 : Nat) : Int) from rfl) (fun _ => ?_) (fun q => absurd trivial q)
      exact mid1 true (fun z => by cases z)
    | true =>
      refine br_ok X (dk rfl) rfl (show ((12 : Nat) : Int) + 10 = ((22 : Nat) : Int) from rfl) (fun q => absurd q bI_t) (fun _ => ?_)
      iterate 1 refine fst1_ok X (dk rfl) rfl ?_
      refine isSlot_ok X E mlX10_95 ⟨Nat.le_of_ble_eq_true rfl, Nat.le_of_ble_eq_true rfl⟩ ⟨Nat.le_of_ble_eq_true rfl, Nat.le_of_ble_eq_true rfl⟩ (Nat.le_of_ble_eq_true rfl) (dk rfl) (fun mid1b2 mid1h2 => ?_)
      cases mid1b2 with
      | false =>
        refine br_ok X (dk rfl) rfl (show ((19 : Nat) : Int) + 7 = ((26 : Nat) : Int) from rfl) (fun q => absurd q bI_f) (fun _ => ?_)
        refine fst1_ok X (dk rfl) rfl ?_
        refine br_ok X (dk rfl) rfl (show ((23 : Nat) : Int) + 4 = ((27 : Nat) : Int) from rfl) (fun _ => ?_) (fun q => absurd trivial q)
        exact mid1 true (fun z => by cases z)
      | true =>
        refine br_ok X (dk rfl) rfl (show ((19 : Nat) : Int) + 7 = ((26 : Nat) : Int) from rfl) (fun _ => ?_) (fun q => absurd bI_t q)
        refine fst1_ok X (dk rfl) rfl ?_
        exact mid1 false (fun _ => ⟨mid1h0 rfl, mid1h1 rfl, mid1h2 rfl⟩)
set_option maxHeartbeats 4000000 in
theorem c_forget (h : AH) (M : MD h o S A sl an a r kn th) (x1 : Int32) : CT la D cA B0 pa yX10_forget cX10_forget 3 (some .int) (rmD 4 17 24) [.ref o, .int x1] h (intR o S A kn h) := by
  refine CT_of (by decide +kernel) (Nat.le_of_ble_eq_true rfl) ?_
  intro p e s m args below meth c X E hr hlk hnm
  have dk : ∀ {pc : Nat} {q : Instr × Nat}, lkd DX10_forget pc = some q → decode cX10_forget pc = .ok q := lkd_ok DX10_forget_ok
  have mid1 : ∀ t1 : Bool, (t1 = false → inN 3 x1) → WR p la e (rmD 4 17 24) s m args below meth c D cA B0 3 (intR o S A kn h) 13 (lv_args 0 [.ref o, .int x1]) [.int (bI t1), .ref o] h 0 0 := by
    intro t1 ht1
    refine thr1_ok X E M ⟨Nat.le_of_ble_eq_true rfl, Nat.le_of_ble_eq_true rfl⟩ ⟨Nat.le_of_ble_eq_true rfl, Nat.le_of_ble_eq_true rfl⟩ (Nat.le_of_ble_eq_true rfl) (dk rfl) (fun h1 a1 r1 th1 M1 F1 => ?_)
    cases hb : t1 with
    | true =>
      refine br_ok X (dk rfl) rfl (show ((16 : Nat) : Int) + 5 = ((21 : Nat) : Int) from rfl) (fun q => absurd q bI_t) (fun _ => ?_)
      refine fst1_ok X (dk rfl) rfl ?_
      exact reti_ok X hr hlk rfl (dk rfl) ⟨⟨_, rfl⟩, ⟨_, _, _, _, _, M1⟩, F1⟩ (Nat.zero_le _) (Nat.zero_le _)
    | false =>
      refine br_ok X (dk rfl) rfl (show ((16 : Nat) : Int) + 5 = ((21 : Nat) : Int) from rfl) (fun _ => ?_) (fun q => absurd bI_f' q)
      obtain ⟨j1, hj1, rfl⟩ := ht1 hb
      obtain ⟨ss, s1, s2, s3⟩ := M1.slot
      obtain ⟨as, a1, a2, a3⟩ := M1.ans
      obtain ⟨b1, y1, e1, f1, g1, w1, n1⟩ := a3 j1 hj1
      repeat refine fst1_ok X (dk rfl) rfl ?_
      refine getf_ok X flX10_16 (dk rfl) M1.obj rfl ?_
      refine fst1_ok X (dk rfl) rfl ?_
      refine lda_ok X (dk rfl) a2 e1 (by omega) ?_
      refine callS_ok (av := [.ref b1]) (r := []) X E (c_movedBy h1 g1 w1) lkX10_movedBy mlX10_141 lsX10_movedBy ⟨Nat.le_of_ble_eq_true rfl, Nat.le_of_ble_eq_true rfl⟩ ⟨Nat.le_of_ble_eq_true rfl, Nat.le_of_ble_eq_true rfl⟩ (Nat.le_of_ble_eq_true rfl) (dk rfl) ?_
      rintro v h2 ⟨rfl, E1⟩
      refine callS_ok (av := [vI (movedN y1 8)]) (r := []) X E (c_ones h2 (nI (movedN y1 8))) lkX10_ones mlX10_128 lsX10_ones ⟨Nat.le_of_ble_eq_true rfl, Nat.le_of_ble_eq_true rfl⟩ ⟨Nat.le_of_ble_eq_true rfl, Nat.le_of_ble_eq_true rfl⟩ (Nat.le_of_ble_eq_true rfl) (dk rfl) ?_
      rintro v h3 ⟨rfl, rfl⟩
      have M2 := M1.ext E1
      repeat refine fst1_ok X (dk rfl) rfl ?_
      refine getf_ok X flX10_16 (dk rfl) M2.obj rfl ?_
      refine fst1_ok X (dk rfl) rfl ?_
      refine callS_ok (av := []) (r := [vI j1, .ref A]) X E (c_none h3) lkX10_none mlX10_24 lsX10_none ⟨Nat.le_of_ble_eq_true rfl, Nat.le_of_ble_eq_true rfl⟩ ⟨Nat.le_of_ble_eq_true rfl, Nat.le_of_ble_eq_true rfl⟩ (Nat.le_of_ble_eq_true rfl) (dk rfl) ?_
      rintro v h4 ⟨N, rfl, hN, hBN, XN, nN⟩
      have M3 := M2.ext XN
      obtain ⟨vn, kn1⟩ := nN.kind
      have hNS : N ≠ S := fun z => by rw [z, E1 _ _ s2] at hN; cases hN
      obtain ⟨vs, v1, v2, M4⟩ := M3.setA hj1 nN AO_none hNS
      refine sta_ok X (dk rfl) v1 kn1 (by omega) (by omega) ?_
      repeat refine fst1_ok X (dk rfl) rfl ?_
      refine done_ok X E M4 ⟨Nat.le_of_ble_eq_true rfl, Nat.le_of_ble_eq_true rfl⟩ ⟨Nat.le_of_ble_eq_true rfl, Nat.le_of_ble_eq_true rfl⟩ (Nat.le_of_ble_eq_true rfl) (dk rfl) (fun h9 a9 r9 th9 M9 F9 => ?_)
      exact reti_ok X hr hlk rfl (dk rfl) ⟨⟨_, rfl⟩, MI.trans (F1.trans ((Fr.ext (E1.trans XN)).set (Or.inr (Or.inr rfl)) _)) ⟨⟨_, _, _, _, _, M9⟩, F9⟩⟩ (Nat.le_of_ble_eq_true rfl) (Nat.le_of_ble_eq_true rfl)
  iterate 2 refine fst1_ok X (dk rfl) rfl ?_
  refine isAnswer_ok X E mlX10_135 ⟨Nat.le_of_ble_eq_true rfl, Nat.le_of_ble_eq_true rfl⟩ ⟨Nat.le_of_ble_eq_true rfl, Nat.le_of_ble_eq_true rfl⟩ (Nat.le_of_ble_eq_true rfl) (dk rfl) (fun mid1b0 mid1h0 => ?_)
  cases mid1b0 with
  | false =>
    refine br_ok X (dk rfl) rfl (show ((5 : Nat) : Int) + 7 = ((12 : Nat) : Int) from rfl) (fun q => absurd q bI_f) (fun _ => ?_)
    refine fst1_ok X (dk rfl) rfl ?_
    refine br_ok X (dk rfl) rfl (show ((9 : Nat) : Int) + 4 = ((13 : Nat) : Int) from rfl) (fun _ => ?_) (fun q => absurd trivial q)
    exact mid1 true (fun z => by cases z)
  | true =>
    refine br_ok X (dk rfl) rfl (show ((5 : Nat) : Int) + 7 = ((12 : Nat) : Int) from rfl) (fun _ => ?_) (fun q => absurd bI_t q)
    refine fst1_ok X (dk rfl) rfl ?_
    exact mid1 false (fun _ => mid1h0 rfl)
set_option maxHeartbeats 4000000 in
theorem c_take (h : AH) (M : MD h o S A sl an a r kn th) (x1 x2 : Int32) : CT la D cA B0 pa yX10_take cX10_take 3 (some .int) (rmD 5 8 8) [.ref o, .int x1, .int x2] h (intR o S A kn h) := by
  refine CT_of (by decide +kernel) (Nat.le_of_ble_eq_true rfl) ?_
  intro p e s m args below meth c X E hr hlk hnm
  have dk : ∀ {pc : Nat} {q : Instr × Nat}, lkd DX10_take pc = some q → decode cX10_take pc = .ok q := lkd_ok DX10_take_ok
  have mid1 : ∀ t1 : Bool, (t1 = false → inN 3 x1 ∧ inN 3 x2) → WR p la e (rmD 5 8 8) s m args below meth c D cA B0 3 (intR o S A kn h) 20 (lv_args 0 [.ref o, .int x1, .int x2]) [.int (bI t1), .ref o] h 0 0 := by
    intro t1 ht1
    refine thr1_ok X E M ⟨Nat.le_of_ble_eq_true rfl, Nat.le_of_ble_eq_true rfl⟩ ⟨Nat.le_of_ble_eq_true rfl, Nat.le_of_ble_eq_true rfl⟩ (Nat.le_of_ble_eq_true rfl) (dk rfl) (fun h1 a1 r1 th1 M1 F1 => ?_)
    cases hb : t1 with
    | true =>
      refine br_ok X (dk rfl) rfl (show ((23 : Nat) : Int) + 7 = ((30 : Nat) : Int) from rfl) (fun q => absurd q bI_t) (fun _ => ?_)
      refine fst1_ok X (dk rfl) rfl ?_
      refine br_ok X (dk rfl) rfl (show ((27 : Nat) : Int) + 14 = ((41 : Nat) : Int) from rfl) (fun _ => ?_) (fun q => absurd trivial q)
      exact reti_ok X hr hlk rfl (dk rfl) ⟨⟨_, rfl⟩, ⟨_, _, _, _, _, M1⟩, F1⟩ (Nat.zero_le _) (Nat.zero_le _)
    | false =>
      refine br_ok X (dk rfl) rfl (show ((23 : Nat) : Int) + 7 = ((30 : Nat) : Int) from rfl) (fun _ => ?_) (fun q => absurd bI_f' q)
      obtain ⟨⟨j1, hj1, rfl⟩, ⟨j2, hj2, rfl⟩⟩ := ht1 hb
      obtain ⟨ss, s1, s2, s3⟩ := M1.slot
      obtain ⟨as, a1, a2, a3⟩ := M1.ans
      obtain ⟨b1, y1, e1, f1, g1, w1, n1⟩ := a3 j1 hj1
      obtain ⟨b2, y2, e2, f2, g2, w2, n2⟩ := a3 j2 hj2
      repeat refine fst1_ok X (dk rfl) rfl ?_
      refine getf_ok X flX10_16 (dk rfl) M1.obj rfl ?_
      refine fst1_ok X (dk rfl) rfl ?_
      refine lda_ok X (dk rfl) a2 e1 (by omega) ?_
      refine callV_ok (ci := 12) (T := TX10) (N := 6) (av := [vI j2, .ref b1]) (r := []) X E (c_become h1 M1 hj2 g1 w1 n1) lkX10_become mlX10_145 lmX10_become lpX10_become ⟨Nat.le_of_ble_eq_true rfl, Nat.le_of_ble_eq_true rfl⟩ ⟨Nat.le_of_ble_eq_true rfl, Nat.le_of_ble_eq_true rfl⟩ rfl M1.obj (Nat.le_of_ble_eq_true rfl) (dk rfl) ?_
      rintro v h9 ⟨⟨w9, rfl⟩, I9⟩
      exact reti_ok X hr hlk rfl (dk rfl) ⟨⟨_, rfl⟩, MI.trans (F1) I9⟩ (Nat.le_of_ble_eq_true rfl) (Nat.le_of_ble_eq_true rfl)
  iterate 2 refine fst1_ok X (dk rfl) rfl ?_
  refine isAnswer_ok X E mlX10_135 ⟨Nat.le_of_ble_eq_true rfl, Nat.le_of_ble_eq_true rfl⟩ ⟨Nat.le_of_ble_eq_true rfl, Nat.le_of_ble_eq_true rfl⟩ (Nat.le_of_ble_eq_true rfl) (dk rfl) (fun mid1b0 mid1h0 => ?_)
  cases mid1b0 with
  | false =>
    refine br_ok X (dk rfl) rfl (show ((5 : Nat) : Int) + 10 = ((15 : Nat) : Int) from rfl) (fun _ => ?_) (fun q => absurd bI_f' q)
    refine fst1_ok X (dk rfl) rfl ?_
    refine br_ok X (dk rfl) rfl (show ((16 : Nat) : Int) + 4 = ((20 : Nat) : Int) from rfl) (fun _ => ?_) (fun q => absurd trivial q)
    exact mid1 true (fun z => by cases z)
  | true =>
    refine br_ok X (dk rfl) rfl (show ((5 : Nat) : Int) + 10 = ((15 : Nat) : Int) from rfl) (fun q => absurd q bI_t) (fun _ => ?_)
    iterate 1 refine fst1_ok X (dk rfl) rfl ?_
    refine isAnswer_ok X E mlX10_135 ⟨Nat.le_of_ble_eq_true rfl, Nat.le_of_ble_eq_true rfl⟩ ⟨Nat.le_of_ble_eq_true rfl, Nat.le_of_ble_eq_true rfl⟩ (Nat.le_of_ble_eq_true rfl) (dk rfl) (fun mid1b1 mid1h1 => ?_)
    cases mid1b1 with
    | false =>
      refine br_ok X (dk rfl) rfl (show ((12 : Nat) : Int) + 7 = ((19 : Nat) : Int) from rfl) (fun q => absurd q bI_f) (fun _ => ?_)
      refine fst1_ok X (dk rfl) rfl ?_
      refine br_ok X (dk rfl) rfl (show ((16 : Nat) : Int) + 4 = ((20 : Nat) : Int) from rfl) (fun _ => ?_) (fun q => absurd trivial q)
      exact mid1 true (fun z => by cases z)
    | true =>
      refine br_ok X (dk rfl) rfl (show ((12 : Nat) : Int) + 7 = ((19 : Nat) : Int) from rfl) (fun _ => ?_) (fun q => absurd bI_t q)
      refine fst1_ok X (dk rfl) rfl ?_
      exact mid1 false (fun _ => ⟨mid1h0 rfl, mid1h1 rfl⟩)
set_option maxHeartbeats 4000000 in
theorem c_match (h : AH) (M : MD h o S A sl an a r kn th) (x1 x2 x3 : Int32) : CT la D cA B0 pa yX10_match cX10_match 5 (some .int) (rmD 5 33 40) [.ref o, .int x1, .int x2, .int x3] h (intR o S A kn h) := by
  refine CT_of (by decide +kernel) (Nat.le_of_ble_eq_true rfl) ?_
  intro p e s m args below meth c X E hr hlk hnm
  have dk : ∀ {pc : Nat} {q : Instr × Nat}, lkd DX10_match pc = some q → decode cX10_match pc = .ok q := lkd_ok DX10_match_ok
  have mid1 : ∀ t1 : Bool, (t1 = false → inN 6 x1 ∧ inN 6 x2 ∧ inN 3 x3) → WR p la e (rmD 5 33 40) s m args below meth c D cA B0 5 (intR o S A kn h) 27 (lv_args 0 [.ref o, .int x1, .int x2, .int x3]) [.int (bI t1), .ref o] h 0 0 := by
    intro t1 ht1
    refine thr1_ok X E M ⟨Nat.le_of_ble_eq_true rfl, Nat.le_of_ble_eq_true rfl⟩ ⟨Nat.le_of_ble_eq_true rfl, Nat.le_of_ble_eq_true rfl⟩ (Nat.le_of_ble_eq_true rfl) (dk rfl) (fun h1 a1 r1 th1 M1 F1 => ?_)
    cases hb : t1 with
    | true =>
      refine br_ok X (dk rfl) rfl (show ((30 : Nat) : Int) + 5 = ((35 : Nat) : Int) from rfl) (fun q => absurd q bI_t) (fun _ => ?_)
      refine fst1_ok X (dk rfl) rfl ?_
      exact reti_ok X hr hlk rfl (dk rfl) ⟨⟨_, rfl⟩, ⟨_, _, _, _, _, M1⟩, F1⟩ (Nat.zero_le _) (Nat.zero_le _)
    | false =>
      refine br_ok X (dk rfl) rfl (show ((30 : Nat) : Int) + 5 = ((35 : Nat) : Int) from rfl) (fun _ => ?_) (fun q => absurd bI_f' q)
      obtain ⟨⟨j1, hj1, rfl⟩, ⟨j2, hj2, rfl⟩, ⟨j3, hj3, rfl⟩⟩ := ht1 hb
      obtain ⟨ss, s1, s2, s3⟩ := M1.slot
      obtain ⟨as, a1, a2, a3⟩ := M1.ans
      obtain ⟨b1, y1, e1, f1, g1, w1, n1⟩ := s3 j1 hj1
      have ly1 : (y1.map vI).length = y1.length := List.length_map _
      obtain ⟨b2, y2, e2, f2, g2, w2, n2⟩ := s3 j2 hj2
      have ly2 : (y2.map vI).length = y2.length := List.length_map _
      obtain ⟨b3, y3, e3, f3, g3, w3, n3⟩ := a3 j3 hj3
      repeat refine fst1_ok X (dk rfl) rfl ?_
      refine getf_ok X flX10_11 (dk rfl) M1.obj rfl ?_
      refine fst1_ok X (dk rfl) rfl ?_
      refine ldr_ok X (dk rfl) s2 e1 (by omega) ?_
      repeat refine fst1_ok X (dk rfl) rfl ?_
      refine getf_ok X flX10_11 (dk rfl) M1.obj rfl ?_
      refine fst1_ok X (dk rfl) rfl ?_
      refine ldr_ok X (dk rfl) s2 e2 (by omega) ?_
      refine callS_ok (av := [.ref b1, .ref b2]) (r := []) X E (c_matched h1 g1 g2 w1.2 w2 n1 n2) lkX10_matched mlX10_169 lsX10_matched ⟨Nat.le_of_ble_eq_true rfl, Nat.le_of_ble_eq_true rfl⟩ ⟨Nat.le_of_ble_eq_true rfl, Nat.le_of_ble_eq_true rfl⟩ (Nat.le_of_ble_eq_true rfl) (dk rfl) ?_
      rintro v h2 ⟨hP, hAO⟩
      cases hm : matchL y1 y2 with
      | none =>
        rw [hm] at hP
        obtain ⟨rfl, XQ⟩ := hP
        repeat refine fst1_ok X (dk rfl) rfl ?_
        refine br_ok X (dk rfl) rfl (show ((54 : Nat) : Int) + 11 = ((65 : Nat) : Int) from rfl) (fun q => absurd q (fun z => z)) (fun _ => ?_)
        repeat refine fst1_ok X (dk rfl) rfl ?_
        have M2 := M1.ext XQ
        refine done_ok X E M2 ⟨Nat.le_of_ble_eq_true rfl, Nat.le_of_ble_eq_true rfl⟩ ⟨Nat.le_of_ble_eq_true rfl, Nat.le_of_ble_eq_true rfl⟩ (Nat.le_of_ble_eq_true rfl) (dk rfl) (fun h9 a9 r9 th9 M9 F9 => ?_)
        refine br_ok X (dk rfl) rfl (show ((62 : Nat) : Int) + 10 = ((72 : Nat) : Int) from rfl) (fun _ => ?_) (fun q => absurd trivial q)
        exact reti_ok X hr hlk rfl (dk rfl) ⟨⟨_, rfl⟩, MI.trans (F1.trans (Fr.ext XQ)) ⟨⟨_, _, _, _, _, M9⟩, F9⟩⟩ (Nat.le_of_ble_eq_true rfl) (Nat.le_of_ble_eq_true rfl)
      | some rows =>
        rw [hm] at hP
        obtain ⟨q, rfl, hq, hBq, XQ, nQ⟩ := hP
        have oQ := hAO rows hm
        repeat refine fst1_ok X (dk rfl) rfl ?_
        refine br_ok X (dk rfl) rfl (show ((54 : Nat) : Int) + 11 = ((65 : Nat) : Int) from rfl) (fun _ => ?_) (fun q => absurd trivial q)
        repeat refine fst1_ok X (dk rfl) rfl ?_
        have M2 := M1.ext XQ
        have hqS : q ≠ S := fun z => by rw [z, s2] at hq; cases hq
        refine callV_ok (ci := 12) (T := TX10) (N := 6) (av := [vI j3, .ref q]) (r := []) X E (c_become _ M2 hj3 nQ oQ hqS) lkX10_become mlX10_145 lmX10_become lpX10_become ⟨Nat.le_of_ble_eq_true rfl, Nat.le_of_ble_eq_true rfl⟩ ⟨Nat.le_of_ble_eq_true rfl, Nat.le_of_ble_eq_true rfl⟩ rfl M2.obj (Nat.le_of_ble_eq_true rfl) (dk rfl) ?_
        rintro v h9 ⟨⟨w9, rfl⟩, I9⟩
        exact reti_ok X hr hlk rfl (dk rfl) ⟨⟨_, rfl⟩, MI.trans (F1.trans (Fr.ext XQ)) I9⟩ (Nat.le_of_ble_eq_true rfl) (Nat.le_of_ble_eq_true rfl)
  iterate 2 refine fst1_ok X (dk rfl) rfl ?_
  refine isSlot_ok X E mlX10_95 ⟨Nat.le_of_ble_eq_true rfl, Nat.le_of_ble_eq_true rfl⟩ ⟨Nat.le_of_ble_eq_true rfl, Nat.le_of_ble_eq_true rfl⟩ (Nat.le_of_ble_eq_true rfl) (dk rfl) (fun mid1b0 mid1h0 => ?_)
  cases mid1b0 with
  | false =>
    refine br_ok X (dk rfl) rfl (show ((5 : Nat) : Int) + 17 = ((22 : Nat) : Int) from rfl) (fun _ => ?_) (fun q => absurd bI_f' q)
    refine fst1_ok X (dk rfl) rfl ?_
    refine br_ok X (dk rfl) rfl (show ((23 : Nat) : Int) + 4 = ((27 : Nat) : Int) from rfl) (fun _ => ?_) (fun q => absurd trivial q)
    exact mid1 true (fun z => by cases z)
  | true =>
    refine br_ok X (dk rfl) rfl (show ((5 : Nat) : Int) + 17 = ((22 : Nat) : Int) from rfl) (fun q => absurd q bI_t) (fun _ => ?_)
    iterate 1 refine fst1_ok X (dk rfl) rfl ?_
    refine isSlot_ok X E mlX10_95 ⟨Nat.le_of_ble_eq_true rfl, Nat.le_of_ble_eq_true rfl⟩ ⟨Nat.le_of_ble_eq_true rfl, Nat.le_of_ble_eq_true rfl⟩ (Nat.le_of_ble_eq_true rfl) (dk rfl) (fun mid1b1 mid1h1 => ?_)
    cases mid1b1 with
    | false =>
      refine br_ok X (dk rfl) rfl (show ((12 : Nat) : Int) + 10 = ((22 : Nat) : Int) from rfl) (fun _ => ?_) (fun q => absurd bI_f' q)
      refine fst1_ok X (dk rfl) rfl ?_
      refine br_ok X (dk rfl) rfl (show ((23 : Nat) : Int) + 4 = ((27 : Nat) : Int) from rfl) (fun _ => ?_) (fun q => absurd trivial q)
      exact mid1 true (fun z => by cases z)
    | true =>
      refine br_ok X (dk rfl) rfl (show ((12 : Nat) : Int) + 10 = ((22 : Nat) : Int) from rfl) (fun q => absurd q bI_t) (fun _ => ?_)
      iterate 1 refine fst1_ok X (dk rfl) rfl ?_
      refine isAnswer_ok X E mlX10_135 ⟨Nat.le_of_ble_eq_true rfl, Nat.le_of_ble_eq_true rfl⟩ ⟨Nat.le_of_ble_eq_true rfl, Nat.le_of_ble_eq_true rfl⟩ (Nat.le_of_ble_eq_true rfl) (dk rfl) (fun mid1b2 mid1h2 => ?_)
      cases mid1b2 with
      | false =>
        refine br_ok X (dk rfl) rfl (show ((19 : Nat) : Int) + 7 = ((26 : Nat) : Int) from rfl) (fun q => absurd q bI_f) (fun _ => ?_)
        refine fst1_ok X (dk rfl) rfl ?_
        refine br_ok X (dk rfl) rfl (show ((23 : Nat) : Int) + 4 = ((27 : Nat) : Int) from rfl) (fun _ => ?_) (fun q => absurd trivial q)
        exact mid1 true (fun z => by cases z)
      | true =>
        refine br_ok X (dk rfl) rfl (show ((19 : Nat) : Int) + 7 = ((26 : Nat) : Int) from rfl) (fun _ => ?_) (fun q => absurd bI_t q)
        refine fst1_ok X (dk rfl) rfl ?_
        exact mid1 false (fun _ => ⟨mid1h0 rfl, mid1h1 rfl, mid1h2 rfl⟩)
end M39
end
section
/-! shift, tell, behind -/
/-- a row, mapped up to a place -/
def mixL (f : Nat → Nat) (xs : List Nat) (j : Nat) : List Nat := (xs.take j).map f ++ xs.drop j
theorem mix_len {f : Nat → Nat} {xs : List Nat} {j : Nat} (h : j ≤ xs.length) : (mixL f xs j).length = xs.length := by
  unfold mixL
  rw [List.length_append, List.length_map, List.length_take, List.length_drop]
  omega
theorem mix_get {f : Nat → Nat} {xs : List Nat} {j x : Nat} (h : xs[j]? = some x) : (mixL f xs j)[j]? = some x := by
  have hj := (List.getElem?_eq_some_iff.mp h).1
  unfold mixL
  rw [List.getElem?_append_right (by rw [List.length_map, List.length_take]; omega), List.length_map, List.length_take, Nat.min_eq_left (by omega), Nat.sub_self, List.getElem?_drop, Nat.add_zero]
  exact h
theorem mix_succ {f : Nat → Nat} {xs : List Nat} {j x : Nat} (h : xs[j]? = some x) : mixL f xs (j + 1) = (xs.take j).map f ++ f x :: xs.drop (j + 1) := by
  unfold mixL
  rw [List.take_add_one, h]
  simp
theorem mix_set {f : Nat → Nat} {xs : List Nat} {j x : Nat} (h : xs[j]? = some x) : (mixL f xs j).set j (f x) = mixL f xs (j + 1) := by
  have hj := (List.getElem?_eq_some_iff.mp h).1
  rw [mix_succ h]
  unfold mixL
  rw [drop_cons h, List.set_append_right _ _ (by rw [List.length_map, List.length_take]; omega), List.length_map, List.length_take, Nat.min_eq_left (by omega), Nat.sub_self]
  rfl
theorem mix_same {f : Nat → Nat} {xs : List Nat} {j x : Nat} (h : xs[j]? = some x) (hf : f x = x) : mixL f xs j = mixL f xs (j + 1) := by
  rw [mix_succ h, hf]
  unfold mixL
  rw [drop_cons h]
theorem rem8 {x : Nat} (h : x < 100) : nI x - nI x / (Int8.ofInt 8).toInt32 * (Int8.ofInt 8).toInt32 = nI (x % 8) := by
  have : ∀ x : Nat, x < 100 → nI x - nI x / (Int8.ofInt 8).toInt32 * (Int8.ofInt 8).toInt32 = nI (x % 8) := by decide +kernel
  exact this x h
section M39
variable {la : Launch} {D : va_G} {cA : Nat → ClassId} {B0 pa : Nat} {o S A : Nat} {sl : List (List Nat)} {an : List (List (List Nat))} {a r kn th : Int32}
set_option maxHeartbeats 4000000 in
theorem c_shift (h : AH) (M : MD h o S A sl an a r kn th) (x1 x2 : Int32) : CT la D cA B0 pa yX10_shift cX10_shift 5 (some .int) (rmD 2 1 16) [.ref o, .int x1, .int x2] h (intR o S A kn h) := by
  refine CT_of (by decide +kernel) (Nat.le_of_ble_eq_true rfl) ?_
  intro p e s m args below meth c X E hr hlk hnm
  have dk : ∀ {pc : Nat} {q : Instr × Nat}, lkd DX10_shift pc = some q → decode cX10_shift pc = .ok q := lkd_ok DX10_shift_ok
  have mid2 : ∀ t1 t2 : Bool, (t1 = false → inN 6 x1) → (t2 = false → inN 8 x2) → WR p la e (rmD 2 1 16) s m args below meth c D cA B0 5 (intR o S A kn h) 25 (lv_args 0 [.ref o, .int x1, .int x2]) [.int (bI t2), .int (bI t1), .ref o] h 0 0 := by
    intro t1 t2 ht1 ht2
    refine thr2_ok X E M ⟨Nat.le_of_ble_eq_true rfl, Nat.le_of_ble_eq_true rfl⟩ ⟨Nat.le_of_ble_eq_true rfl, Nat.le_of_ble_eq_true rfl⟩ (Nat.le_of_ble_eq_true rfl) (dk rfl) (fun h1 a1 r1 th1 M1 F1 => ?_)
    cases hb : (t1 || t2) with
    | true =>
      refine br_ok X (dk rfl) rfl (show ((28 : Nat) : Int) + 5 = ((33 : Nat) : Int) from rfl) (fun q => absurd q bI_t) (fun _ => ?_)
      refine fst1_ok X (dk rfl) rfl ?_
      exact reti_ok X hr hlk rfl (dk rfl) ⟨⟨_, rfl⟩, ⟨_, _, _, _, _, M1⟩, F1⟩ (Nat.zero_le _) (Nat.zero_le _)
    | false =>
      refine br_ok X (dk rfl) rfl (show ((28 : Nat) : Int) + 5 = ((33 : Nat) : Int) from rfl) (fun _ => ?_) (fun q => absurd bI_f' q)
      obtain ⟨hb1, hb2⟩ := Bool.or_eq_false_iff.mp hb
      obtain ⟨j1, hj1, rfl⟩ := ht1 hb1
      obtain ⟨j2, hj2, rfl⟩ := ht2 hb2
      obtain ⟨ss, s1, s2, s3⟩ := M1.slot
      obtain ⟨as, a1, a2, a3⟩ := M1.ans
      obtain ⟨b1, y1, e1, f1, g1, w1, n1⟩ := s3 j1 hj1
      have ly1 : (y1.map vI).length = y1.length := List.length_map _
      repeat refine fst1_ok X (dk rfl) rfl ?_
      refine getf_ok X flX10_11 (dk rfl) M1.obj rfl ?_
      refine fst1_ok X (dk rfl) rfl ?_
      refine ldr_ok X (dk rfl) s2 e1 (by omega) ?_
      repeat refine fst1_ok X (dk rfl) rfl ?_
      refine getf_ok X flX10_11 (dk rfl) M1.obj rfl ?_
      refine fst1_ok X (dk rfl) rfl ?_
      refine ldr_ok X (dk rfl) s2 e1 (by omega) ?_
      refine alen_ok X (by decide) (dk rfl) g1 ?_
      rw [ly1]
      refine callS_ok (av := [.ref b1, vI 0, vI y1.length]) (r := []) X E (c_piece h1 (f := 0) (t := y1.length) g1 (Nat.zero_le _) (Nat.le_refl _) (by omega) rfl) lkX10_piece mlX10_40 lsX10_piece ⟨Nat.le_of_ble_eq_true rfl, Nat.le_of_ble_eq_true rfl⟩ ⟨Nat.le_of_ble_eq_true rfl, by show 0 + (y1.length - 0) ≤ 16; omega⟩ (Nat.le_of_ble_eq_true rfl) (dk rfl) ?_
      rintro v h2 ⟨q, rfl, hq, hBq, rfl⟩
      refine WS.widen (k' := 1) (n' := 16) (Nat.le_of_ble_eq_true rfl) (by show 0 + (y1.length - 0) ≤ 16; omega) ?_
      have e0 : (y1.drop 0).take (y1.length - 0) = mixL (shL j2) y1 0 := by unfold mixL; rw [List.drop_zero, Nat.sub_zero, List.take_length, List.take_zero, List.map_nil, List.nil_append]
      rw [e0]
      have loop : ∀ (d i : Nat), d = y1.length - i → i ≤ y1.length → ∀ (l : List (Nat × Value)), lsel l [4, 3, 2, 1, 0] = [(4, vI i), (3, .ref q), (2, vI j2), (1, vI j1), (0, .ref o)] → WR p la e (rmD 2 1 16) s m args below meth c D cA B0 5 (intR o S A kn h) 54 l [] (hup h1 q (IA (mixL (shL j2) y1 i))) 1 16 := by
        intro d
        induction d with
        | zero =>
          intro i hd hi l hl
          have hi2 : i = y1.length := by omega
          subst hi2
          refine WS.sel [4, 3, 2, 1, 0] hl ?_
          have eN : mixL (shL j2) y1 y1.length = y1.map (shL j2) := by unfold mixL; rw [List.take_length, List.drop_length, List.append_nil]
          rw [eN]
          have X2 := Ext.new hq (IA (y1.map (shL j2)))
          have M2 := M1.ext X2
          have tS := w1.shift j2
          repeat refine fst1_ok X (dk rfl) rfl ?_
          refine alen_ok (kd := 100) (vs := (y1.map (shL j2)).map vI) X (by decide) (dk rfl) (hup_self _ _ _) ?_
          rw [show ((y1.map (shL j2)).map vI).length = y1.length by simp]
          refine br_ok X (dk rfl) rfl (show ((58 : Nat) : Int) + 31 = ((89 : Nat) : Int) from rfl) (fun _ => ?_) (fun c1 => absurd (Int32.le_refl _) c1)
          repeat refine fst1_ok X (dk rfl) rfl ?_
          refine getf_ok X flX10_11 (dk rfl) M2.obj rfl ?_
          repeat refine fst1_ok X (dk rfl) rfl ?_
          obtain ⟨vs, v1, v2, M3⟩ := M2.setS hj1 (hup_self _ _ _) ⟨tS, by rw [List.length_map]; omega⟩
          refine str_ok X (dk rfl) v1 (hup_self _ _ _) (by omega) (by omega) ?_
          repeat refine fst1_ok X (dk rfl) rfl ?_
          refine callS_ok (av := [.ref q]) (r := [.ref o]) X E (c_namesOf _ (by rw [hup_ne _ _ (IA_ne (hup_self _ _ _) v1)]; exact hup_self _ _ _) (by rw [List.length_map]; omega) tS.lt) lkX10_namesOf mlX10_124 lsX10_namesOf ⟨Nat.le_of_ble_eq_true rfl, Nat.le_of_ble_eq_true rfl⟩ ⟨Nat.le_of_ble_eq_true rfl, Nat.le_of_ble_eq_true rfl⟩ (Nat.le_of_ble_eq_true rfl) (dk rfl) ?_
          rintro v h3 ⟨rfl, rfl⟩
          refine callS_ok (av := [vI (namesN (y1.map (shL j2)))]) (r := [.ref o]) X E (c_ones _ (nI (namesN (y1.map (shL j2))))) lkX10_ones mlX10_128 lsX10_ones ⟨Nat.le_of_ble_eq_true rfl, Nat.le_of_ble_eq_true rfl⟩ ⟨Nat.le_of_ble_eq_true rfl, Nat.le_of_ble_eq_true rfl⟩ (Nat.le_of_ble_eq_true rfl) (dk rfl) ?_
          rintro v h3 ⟨rfl, rfl⟩
          refine done_ok X E M3 ⟨Nat.le_of_ble_eq_true rfl, Nat.le_of_ble_eq_true rfl⟩ ⟨Nat.le_of_ble_eq_true rfl, Nat.le_of_ble_eq_true rfl⟩ (Nat.le_of_ble_eq_true rfl) (dk rfl) (fun h9 a9 r9 th9 M9 F9 => ?_)
          exact reti_ok X hr hlk rfl (dk rfl) ⟨⟨_, rfl⟩, MI.trans (F1.trans ((Fr.ext X2).set (Or.inr (Or.inl rfl)) _)) ⟨⟨_, _, _, _, _, M9⟩, F9⟩⟩ (Nat.le_of_ble_eq_true rfl) (Nat.le_of_ble_eq_true rfl)
        | succ d ih =>
          intro i hd hi l hl
          obtain ⟨x, hx⟩ : ∃ x, y1[i]? = some x := ⟨y1[i]'(by omega), by simp⟩
          have hx18 := (w1.2 x (List.mem_of_getElem? hx)).lt
          have lm : ((mixL (shL j2) y1 i).map vI).length = y1.length := by rw [List.length_map, mix_len (by omega)]
          have f2 : Value.int (nI i + Int32.ofInt 1) = vI (i + 1) := congrArg Value.int (by rw [nI_1', nI_add])
          have go9 : ∀ (l : List (Nat × Value)), lsel l [4, 3, 2, 1, 0] = [(4, vI i), (3, .ref q), (2, vI j2), (1, vI j1), (0, .ref o)] → WR p la e (rmD 2 1 16) s m args below meth c D cA B0 5 (intR o S A kn h) 83 l [] (hup h1 q (IA (mixL (shL j2) y1 (i + 1)))) 1 16 := by
            intro l hl
            refine WS.sel [4, 3, 2, 1, 0] hl ?_
            repeat refine fst1_ok X (dk rfl) rfl ?_
            refine br_ok X (dk rfl) rfl (show ((86 : Nat) : Int) + (-32) = ((54 : Nat) : Int) from rfl) (fun _ => ?_) (fun q => absurd trivial q)
            refine WS.sel (l' := [(4, vI (i + 1)), (3, .ref q), (2, vI j2), (1, vI j1), (0, .ref o)]) [4, 3, 2, 1, 0] (by rw [← f2]; rfl) ?_
            exact ih (i + 1) (by omega) (by omega) _ rfl
          refine WS.sel [4, 3, 2, 1, 0] hl ?_
          repeat refine fst1_ok X (dk rfl) rfl ?_
          refine alen_ok (kd := 100) (vs := (mixL (shL j2) y1 i).map vI) X (by decide) (dk rfl) (hup_self _ _ _) ?_
          rw [lm]
          refine br_ok X (dk rfl) rfl (show ((58 : Nat) : Int) + 31 = ((89 : Nat) : Int) from rfl) (fun c1 => absurd c1 (nI_ge (by omega) (by omega))) (fun _ => ?_)
          repeat refine fst1_ok X (dk rfl) rfl ?_
          refine ald_ok (kd := 100) (vs := (mixL (shL j2) y1 i).map vI) X (Or.inl ⟨rfl, rfl⟩) (dk rfl) (hup_self _ _ _) (inA_nI (by omega) (IA_get (mix_get hx))) ?_
          repeat refine fst1_ok X (dk rfl) rfl ?_
          refine br_ok X (dk rfl) rfl (show ((67 : Nat) : Int) + 16 = ((83 : Nat) : Int) from rfl) (fun c2 => ?_) (fun c2 => ?_)
          · rw [nI_10] at c2
            have hx10 : 10 ≤ x := nI_ge' (by omega) (by omega) c2
            rw [mix_same hx (show shL j2 x = x by unfold shL; rw [if_neg (by omega)])]
            exact go9 _ rfl
          · rw [nI_10] at c2
            have hx10 : x < 10 := nI_lt' (by omega) (by omega) c2
            repeat refine fst1_ok X (dk rfl) rfl ?_
            refine ald_ok (kd := 100) (vs := (mixL (shL j2) y1 i).map vI) X (Or.inl ⟨rfl, rfl⟩) (dk rfl) (hup_self _ _ _) (inA_nI (by omega) (IA_get (mix_get hx))) ?_
            repeat refine fst1_ok X (dk rfl) rfl ?_
            refine sti_ok X (dk rfl) (hup_self _ _ _) (by rw [lm]; omega) (by rw [lm]; omega) ?_
            rw [hup_hup, nI_add, rem8 (show x + j2 < 100 by omega), show Value.int (nI ((x + j2) % 8)) = vI (shL j2 x) by unfold shL; rw [if_pos hx10]; rfl, ← List.map_set, mix_set hx]
            exact go9 _ rfl
      iterate 3 refine fst1_ok X (dk rfl) rfl ?_
      exact loop _ 0 rfl (Nat.zero_le _) _ rfl
  have mid1 : ∀ t1 : Bool, (t1 = false → inN 6 x1) → WR p la e (rmD 2 1 16) s m args below meth c D cA B0 5 (intR o S A kn h) 13 (lv_args 0 [.ref o, .int x1, .int x2]) [.int (bI t1), .ref o] h 0 0 := by
    intro t1 ht1
    have mid2 := fun t2 => mid2 t1 t2 ht1
    iterate 1 refine fst1_ok X (dk rfl) rfl ?_
    refine isName_ok X E mlX10_99 ⟨Nat.le_of_ble_eq_true rfl, Nat.le_of_ble_eq_true rfl⟩ ⟨Nat.le_of_ble_eq_true rfl, Nat.le_of_ble_eq_true rfl⟩ (Nat.le_of_ble_eq_true rfl) (dk rfl) (fun mid2b0 mid2h0 => ?_)
    cases mid2b0 with
    | false =>
      refine br_ok X (dk rfl) rfl (show ((17 : Nat) : Int) + 7 = ((24 : Nat) : Int) from rfl) (fun q => absurd q bI_f) (fun _ => ?_)
      refine fst1_ok X (dk rfl) rfl ?_
      refine br_ok X (dk rfl) rfl (show ((21 : Nat) : Int) + 4 = ((25 : Nat) : Int) from rfl) (fun _ => ?_) (fun q => absurd trivial q)
      exact mid2 true (fun z => by cases z)
    | true =>
      refine br_ok X (dk rfl) rfl (show ((17 : Nat) : Int) + 7 = ((24 : Nat) : Int) from rfl) (fun _ => ?_) (fun q => absurd bI_t q)
      refine fst1_ok X (dk rfl) rfl ?_
      exact mid2 false (fun _ => mid2h0 rfl)
  iterate 2 refine fst1_ok X (dk rfl) rfl ?_
  refine isSlot_ok X E mlX10_95 ⟨Nat.le_of_ble_eq_true rfl, Nat.le_of_ble_eq_true rfl⟩ ⟨Nat.le_of_ble_eq_true rfl, Nat.le_of_ble_eq_true rfl⟩ (Nat.le_of_ble_eq_true rfl) (dk rfl) (fun mid1b0 mid1h0 => ?_)
  cases mid1b0 with
  | false =>
    refine br_ok X (dk rfl) rfl (show ((5 : Nat) : Int) + 7 = ((12 : Nat) : Int) from rfl) (fun q => absurd q bI_f) (fun _ => ?_)
    refine fst1_ok X (dk rfl) rfl ?_
    refine br_ok X (dk rfl) rfl (show ((9 : Nat) : Int) + 4 = ((13 : Nat) : Int) from rfl) (fun _ => ?_) (fun q => absurd trivial q)
    exact mid1 true (fun z => by cases z)
  | true =>
    refine br_ok X (dk rfl) rfl (show ((5 : Nat) : Int) + 7 = ((12 : Nat) : Int) from rfl) (fun _ => ?_) (fun q => absurd bI_t q)
    refine fst1_ok X (dk rfl) rfl ?_
    exact mid1 false (fun _ => mid1h0 rfl)
set_option maxHeartbeats 4000000 in
theorem c_tell (h : AH) (M : MD h o S A sl an a r kn th) (x1 x2 x3 : Int32) : CT la D cA B0 pa yX10_tell cX10_tell 7 (some .int) (rmD 3 9 16) [.ref o, .int x1, .int x2, .int x3] h (intR o S A kn h) := by
  refine CT_of (by decide +kernel) (Nat.le_of_ble_eq_true rfl) ?_
  intro p e s m args below meth c X E hr hlk hnm
  have dk : ∀ {pc : Nat} {q : Instr × Nat}, lkd DX10_tell pc = some q → decode cX10_tell pc = .ok q := lkd_ok DX10_tell_ok
  have mid2 : ∀ t1 t2 : Bool, (t1 = false → inN 3 x1 ∧ inN 6 x3) → (t2 = false → inN 8 x2) → WR p la e (rmD 3 9 16) s m args below meth c D cA B0 7 (intR o S A kn h) 32 (lv_args 0 [.ref o, .int x1, .int x2, .int x3]) [.int (bI t2), .int (bI t1), .ref o] h 0 0 := by
    intro t1 t2 ht1 ht2
    refine thr2_ok X E M ⟨Nat.le_of_ble_eq_true rfl, Nat.le_of_ble_eq_true rfl⟩ ⟨Nat.le_of_ble_eq_true rfl, Nat.le_of_ble_eq_true rfl⟩ (Nat.le_of_ble_eq_true rfl) (dk rfl) (fun h1 a1 r1 th1 M1 F1 => ?_)
    cases hb : (t1 || t2) with
    | true =>
      refine br_ok X (dk rfl) rfl (show ((35 : Nat) : Int) + 5 = ((40 : Nat) : Int) from rfl) (fun q => absurd q bI_t) (fun _ => ?_)
      refine fst1_ok X (dk rfl) rfl ?_
      exact reti_ok X hr hlk rfl (dk rfl) ⟨⟨_, rfl⟩, ⟨_, _, _, _, _, M1⟩, F1⟩ (Nat.zero_le _) (Nat.zero_le _)
    | false =>
      refine br_ok X (dk rfl) rfl (show ((35 : Nat) : Int) + 5 = ((40 : Nat) : Int) from rfl) (fun _ => ?_) (fun q => absurd bI_f' q)
      obtain ⟨hb1, hb2⟩ := Bool.or_eq_false_iff.mp hb
      obtain ⟨⟨j1, hj1, rfl⟩, ⟨j3, hj3, rfl⟩⟩ := ht1 hb1
      obtain ⟨j2, hj2, rfl⟩ := ht2 hb2
      obtain ⟨ss, s1, s2, s3⟩ := M1.slot
      obtain ⟨as, a1, a2, a3⟩ := M1.ans
      obtain ⟨b1, y1, e1, f1, g1, w1, n1⟩ := a3 j1 hj1
      obtain ⟨b3, y3, e3, f3, g3, w3, n3⟩ := s3 j3 hj3
      have ly3 : (y3.map vI).length = y3.length := List.length_map _
      repeat refine fst1_ok X (dk rfl) rfl ?_
      refine getf_ok X flX10_16 (dk rfl) M1.obj rfl ?_
      refine fst1_ok X (dk rfl) rfl ?_
      refine lda_ok X (dk rfl) a2 e1 (by omega) ?_
      obtain ⟨as1, as2, as3, as4⟩ := g1.row
      obtain ⟨c2, z2, i2, i3, i4⟩ := as4 j2 (by rw [w1.1]; omega)
      have oz := w1.2 z2 (List.mem_of_getElem? i3)
      refine fst1_ok X (dk rfl) rfl ?_
      refine ldr_ok X (dk rfl) as3 i2 (by rw [as2, w1.1]; decide) ?_
      repeat refine fst1_ok X (dk rfl) rfl ?_
      refine getf_ok X flX10_11 (dk rfl) M1.obj rfl ?_
      refine fst1_ok X (dk rfl) rfl ?_
      refine ldr_ok X (dk rfl) s2 e3 (by omega) ?_
      refine callS_ok (av := [.ref c2, .ref b3]) (r := []) X E (c_same h1 i4 g3 (by omega) (by omega) oz.1.lt w3.lt) lkX10_same mlX10_54 lsX10_same ⟨Nat.le_of_ble_eq_true rfl, Nat.le_of_ble_eq_true rfl⟩ ⟨Nat.le_of_ble_eq_true rfl, Nat.le_of_ble_eq_true rfl⟩ (Nat.le_of_ble_eq_true rfl) (dk rfl) ?_
      rintro v h2 ⟨rfl, rfl⟩
      generalize hz : (if z2 = y3 then (1 : Int32) else 0) = z
      repeat refine fst1_ok X (dk rfl) rfl ?_
      refine callS_ok (av := []) (r := []) X E (c_none h2) lkX10_none mlX10_24 lsX10_none ⟨Nat.le_of_ble_eq_true rfl, Nat.le_of_ble_eq_true rfl⟩ ⟨Nat.le_of_ble_eq_true rfl, Nat.le_of_ble_eq_true rfl⟩ (Nat.le_of_ble_eq_true rfl) (dk rfl) ?_
      rintro v h3 ⟨N, rfl, hN, hBN, XN, nN⟩
      have hNS : N ≠ S := fun z => by rw [z, s2] at hN; cases hN
      have fin9 : ∀ (t : Int32) (l : List (Nat × Value)) (hh : AH), MI o S A kn h hh → WR p la e (rmD 3 9 16) s m args below meth c D cA B0 7 (intR o S A kn h) 128 l [.int t, .ref o] hh 9 16 := by
        intro t l hh ⟨⟨sl9, an9, a8, r8, th8, M8⟩, F8⟩
        refine done_ok X E M8 ⟨Nat.le_of_ble_eq_true rfl, Nat.le_of_ble_eq_true rfl⟩ ⟨Nat.le_of_ble_eq_true rfl, Nat.le_of_ble_eq_true rfl⟩ (Nat.le_of_ble_eq_true rfl) (dk rfl) (fun h9 a9 r9 th9 M9 F9 => ?_)
        exact reti_ok X hr hlk rfl (dk rfl) ⟨⟨_, rfl⟩, MI.trans (F8) ⟨⟨_, _, _, _, _, M9⟩, F9⟩⟩ (Nat.le_of_ble_eq_true rfl) (Nat.le_of_ble_eq_true rfl)
      have loop : ∀ (d i : Nat), d = 8 - i → i ≤ 8 → ∀ (hh : AH) (rows : List (List Nat)) (l : List (Nat × Value)), lsel l [6, 5, 4, 3, 2, 1, 0] = [(6, vI i), (5, .ref N), (4, .int z), (3, vI j3), (2, vI j2), (1, vI j1), (0, .ref o)] → Ext h2 hh → Ans hh N rows → AO rows → WR p la e (rmD 3 9 16) s m args below meth c D cA B0 7 (intR o S A kn h) 67 l [] hh 9 16 := by
        intro d
        induction d with
        | zero =>
          intro i hd hi hh rows l hl XX nR oR
          have hi2 : i = 8 := by omega
          subst hi2
          have M2 := M1.ext XX
          obtain ⟨vn, kn1⟩ := nR.kind
          obtain ⟨vs, v1, v2, M3⟩ := M2.setA hj1 nR oR hNS
          refine WS.sel [6, 5, 4, 3, 2, 1, 0] hl ?_
          repeat refine fst1_ok X (dk rfl) rfl ?_
          refine br_ok X (dk rfl) rfl (show ((71 : Nat) : Int) + 38 = ((109 : Nat) : Int) from rfl) (fun _ => ?_) (fun c1 => absurd (by decide) c1)
          repeat refine fst1_ok X (dk rfl) rfl ?_
          refine getf_ok X flX10_16 (dk rfl) M2.obj rfl ?_
          repeat refine fst1_ok X (dk rfl) rfl ?_
          refine sta_ok X (dk rfl) v1 kn1 (by omega) (by omega) ?_
          repeat refine fst1_ok X (dk rfl) rfl ?_
          have I9 : MI o S A kn h (hup hh A (106, vs.set j1 (.ref N))) := ⟨⟨_, _, _, _, _, M3⟩, F1.trans ((Fr.ext XX).set (Or.inr (Or.inr rfl)) _)⟩
          by_cases hz0 : z = 0
          · refine br_ok X (dk rfl) rfl (show ((120 : Nat) : Int) + 7 = ((127 : Nat) : Int) from rfl) (fun _ => ?_) (fun q => absurd hz0 q)
            refine fst1_ok X (dk rfl) rfl ?_
            exact fin9 _ _ _ I9
          · refine br_ok X (dk rfl) rfl (show ((120 : Nat) : Int) + 7 = ((127 : Nat) : Int) from rfl) (fun q => absurd q hz0) (fun _ => ?_)
            refine fst1_ok X (dk rfl) rfl ?_
            refine br_ok X (dk rfl) rfl (show ((124 : Nat) : Int) + 4 = ((128 : Nat) : Int) from rfl) (fun _ => ?_) (fun q => absurd trivial q)
            exact fin9 _ _ _ I9
        | succ d ih =>
          intro i hd hi hh rows l hl XX nR oR
          have M2 := M1.ext XX
          have f2 : Value.int (nI i + Int32.ofInt 1) = vI (i + 1) := congrArg Value.int (by rw [nI_1', nI_add])
          have go9 : ∀ (u : Nat) (w : List Nat) (l : List (Nat × Value)), lsel l [6, 5, 4, 3, 2, 1, 0] = [(6, vI i), (5, .ref N), (4, .int z), (3, vI j3), (2, vI j2), (1, vI j1), (0, .ref o)] → hh u = some (IA w) → TW w ∧ w.length ≤ 16 → WR p la e (rmD 3 9 16) s m args below meth c D cA B0 7 (intR o S A kn h) 102 l [.ref u, vI i, .ref N] hh 9 16 := by
            intro u w l hl hu hw
            obtain ⟨vs0, p1, p2, nA⟩ := AnsPut nR (k := i) (n := 8) (by omega) hu oR.1
            refine WS.sel [6, 5, 4, 3, 2, 1, 0] hl ?_
            refine str_ok X (dk rfl) p1 hu (by omega) (by omega) ?_
            repeat refine fst1_ok X (dk rfl) rfl ?_
            refine br_ok X (dk rfl) rfl (show ((106 : Nat) : Int) + (-39) = ((67 : Nat) : Int) from rfl) (fun _ => ?_) (fun q => absurd trivial q)
            refine WS.sel (l' := [(6, vI (i + 1)), (5, .ref N), (4, .int z), (3, vI j3), (2, vI j2), (1, vI j1), (0, .ref o)]) [6, 5, 4, 3, 2, 1, 0] (by rw [← f2]; rfl) ?_
            exact ih (i + 1) (by omega) (by omega) _ _ _ rfl (XX.set hN _) nA (oR.set hw)
          refine WS.sel [6, 5, 4, 3, 2, 1, 0] hl ?_
          repeat refine fst1_ok X (dk rfl) rfl ?_
          refine br_ok X (dk rfl) rfl (show ((71 : Nat) : Int) + 38 = ((109 : Nat) : Int) from rfl) (fun c1 => absurd c1 (nI_ge (a := i) (b := 8) (by omega) (by omega))) (fun _ => ?_)
          repeat refine fst1_ok X (dk rfl) rfl ?_
          refine br_ok X (dk rfl) rfl (show ((81 : Nat) : Int) + 12 = ((93 : Nat) : Int) from rfl) (fun _ => ?_) (fun _ => ?_)
          · repeat refine fst1_ok X (dk rfl) rfl ?_
            refine getf_ok X flX10_16 (dk rfl) M2.obj rfl ?_
            refine fst1_ok X (dk rfl) rfl ?_
            refine lda_ok X (dk rfl) (XX _ _ a2) e1 (by omega) ?_
            obtain ⟨c5, z5, i5, i6, i7⟩ := as4 i (by rw [w1.1]; omega)
            refine fst1_ok X (dk rfl) rfl ?_
            refine ldr_ok X (dk rfl) (XX _ _ as3) i5 (by rw [as2, w1.1]; decide) ?_
            exact go9 c5 z5 _ rfl (XX _ _ i7) (w1.2 z5 (List.mem_of_getElem? i6))
          · repeat refine fst1_ok X (dk rfl) rfl ?_
            refine getf_ok X flX10_11 (dk rfl) M2.obj rfl ?_
            refine fst1_ok X (dk rfl) rfl ?_
            refine ldr_ok X (dk rfl) (XX _ _ s2) e3 (by omega) ?_
            refine br_ok X (dk rfl) rfl (show ((90 : Nat) : Int) + 12 = ((102 : Nat) : Int) from rfl) (fun _ => ?_) (fun q => absurd trivial q)
            exact go9 b3 y3 _ rfl (XX _ _ g3) ⟨w3, n3⟩
      iterate 3 refine fst1_ok X (dk rfl) rfl ?_
      exact loop 8 0 rfl (Nat.zero_le _) _ _ _ rfl XN nN AO_none
  have mid1 : ∀ t1 : Bool, (t1 = false → inN 3 x1 ∧ inN 6 x3) → WR p la e (rmD 3 9 16) s m args below meth c D cA B0 7 (intR o S A kn h) 20 (lv_args 0 [.ref o, .int x1, .int x2, .int x3]) [.int (bI t1), .ref o] h 0 0 := by
    intro t1 ht1
    have mid2 := fun t2 => mid2 t1 t2 ht1
    iterate 1 refine fst1_ok X (dk rfl) rfl ?_
    refine isName_ok X E mlX10_99 ⟨Nat.le_of_ble_eq_true rfl, Nat.le_of_ble_eq_true rfl⟩ ⟨Nat.le_of_ble_eq_true rfl, Nat.le_of_ble_eq_true rfl⟩ (Nat.le_of_ble_eq_true rfl) (dk rfl) (fun mid2b0 mid2h0 => ?_)
    cases mid2b0 with
    | false =>
      refine br_ok X (dk rfl) rfl (show ((24 : Nat) : Int) + 7 = ((31 : Nat) : Int) from rfl) (fun q => absurd q bI_f) (fun _ => ?_)
      refine fst1_ok X (dk rfl) rfl ?_
      refine br_ok X (dk rfl) rfl (show ((28 : Nat) : Int) + 4 = ((32 : Nat) : Int) from rfl) (fun _ => ?_) (fun q => absurd trivial q)
      exact mid2 true (fun z => by cases z)
    | true =>
      refine br_ok X (dk rfl) rfl (show ((24 : Nat) : Int) + 7 = ((31 : Nat) : Int) from rfl) (fun _ => ?_) (fun q => absurd bI_t q)
      refine fst1_ok X (dk rfl) rfl ?_
      exact mid2 false (fun _ => mid2h0 rfl)
  iterate 2 refine fst1_ok X (dk rfl) rfl ?_
  refine isAnswer_ok X E mlX10_135 ⟨Nat.le_of_ble_eq_true rfl, Nat.le_of_ble_eq_true rfl⟩ ⟨Nat.le_of_ble_eq_true rfl, Nat.le_of_ble_eq_true rfl⟩ (Nat.le_of_ble_eq_true rfl) (dk rfl) (fun mid1b0 mid1h0 => ?_)
  cases mid1b0 with
  | false =>
    refine br_ok X (dk rfl) rfl (show ((5 : Nat) : Int) + 10 = ((15 : Nat) : Int) from rfl) (fun _ => ?_) (fun q => absurd bI_f' q)
    refine fst1_ok X (dk rfl) rfl ?_
    refine br_ok X (dk rfl) rfl (show ((16 : Nat) : Int) + 4 = ((20 : Nat) : Int) from rfl) (fun _ => ?_) (fun q => absurd trivial q)
    exact mid1 true (fun z => by cases z)
  | true =>
    refine br_ok X (dk rfl) rfl (show ((5 : Nat) : Int) + 10 = ((15 : Nat) : Int) from rfl) (fun q => absurd q bI_t) (fun _ => ?_)
    iterate 1 refine fst1_ok X (dk rfl) rfl ?_
    refine isSlot_ok X E mlX10_95 ⟨Nat.le_of_ble_eq_true rfl, Nat.le_of_ble_eq_true rfl⟩ ⟨Nat.le_of_ble_eq_true rfl, Nat.le_of_ble_eq_true rfl⟩ (Nat.le_of_ble_eq_true rfl) (dk rfl) (fun mid1b1 mid1h1 => ?_)
    cases mid1b1 with
    | false =>
      refine br_ok X (dk rfl) rfl (show ((12 : Nat) : Int) + 7 = ((19 : Nat) : Int) from rfl) (fun q => absurd q bI_f) (fun _ => ?_)
      refine fst1_ok X (dk rfl) rfl ?_
      refine br_ok X (dk rfl) rfl (show ((16 : Nat) : Int) + 4 = ((20 : Nat) : Int) from rfl) (fun _ => ?_) (fun q => absurd trivial q)
      exact mid1 true (fun z => by cases z)
    | true =>
      refine br_ok X (dk rfl) rfl (show ((12 : Nat) : Int) + 7 = ((19 : Nat) : Int) from rfl) (fun _ => ?_) (fun q => absurd bI_t q)
      refine fst1_ok X (dk rfl) rfl ?_
      exact mid1 false (fun _ => ⟨mid1h0 rfl, mid1h1 rfl⟩)
set_option maxHeartbeats 4000000 in
theorem c_behind (h : AH) (M : MD h o S A sl an a r kn th) (x1 x2 x3 : Int32) : CT la D cA B0 pa yX10_behind cX10_behind 9 (some .int) (rmD 5 145 2192) [.ref o, .int x1, .int x2, .int x3] h (intR o S A kn h) := by
  refine CT_of (by decide +kernel) (Nat.le_of_ble_eq_true rfl) ?_
  intro p e s m args below meth c X E hr hlk hnm
  have dk : ∀ {pc : Nat} {q : Instr × Nat}, lkd DX10_behind pc = some q → decode cX10_behind pc = .ok q := lkd_ok DX10_behind_ok
  have mid1 : ∀ t1 : Bool, (t1 = false → inN 3 x1 ∧ inN 3 x2 ∧ inN 3 x3) → WR p la e (rmD 5 145 2192) s m args below meth c D cA B0 9 (intR o S A kn h) 27 (lv_args 0 [.ref o, .int x1, .int x2, .int x3]) [.int (bI t1), .ref o] h 0 0 := by
    intro t1 ht1
    refine thr1_ok X E M ⟨Nat.le_of_ble_eq_true rfl, Nat.le_of_ble_eq_true rfl⟩ ⟨Nat.le_of_ble_eq_true rfl, Nat.le_of_ble_eq_true rfl⟩ (Nat.le_of_ble_eq_true rfl) (dk rfl) (fun h1 a1 r1 th1 M1 F1 => ?_)
    cases hb : t1 with
    | true =>
      refine br_ok X (dk rfl) rfl (show ((30 : Nat) : Int) + 5 = ((35 : Nat) : Int) from rfl) (fun q => absurd q bI_t) (fun _ => ?_)
      refine fst1_ok X (dk rfl) rfl ?_
      exact reti_ok X hr hlk rfl (dk rfl) ⟨⟨_, rfl⟩, ⟨_, _, _, _, _, M1⟩, F1⟩ (Nat.zero_le _) (Nat.zero_le _)
    | false =>
      refine br_ok X (dk rfl) rfl (show ((30 : Nat) : Int) + 5 = ((35 : Nat) : Int) from rfl) (fun _ => ?_) (fun q => absurd bI_f' q)
      obtain ⟨⟨j1, hj1, rfl⟩, ⟨j2, hj2, rfl⟩, ⟨j3, hj3, rfl⟩⟩ := ht1 hb
      obtain ⟨ss, s1, s2, s3⟩ := M1.slot
      obtain ⟨as, a1, a2, a3⟩ := M1.ans
      obtain ⟨b1, y1, e1, f1, g1, w1, n1⟩ := a3 j1 hj1
      obtain ⟨b2, y2, e2, f2, g2, w2, n2⟩ := a3 j2 hj2
      obtain ⟨b3, y3, e3, f3, g3, w3, n3⟩ := a3 j3 hj3
      repeat refine fst1_ok X (dk rfl) rfl ?_
      refine getf_ok X flX10_16 (dk rfl) M1.obj rfl ?_
      refine fst1_ok X (dk rfl) rfl ?_
      refine lda_ok X (dk rfl) a2 e1 (by omega) ?_
      repeat refine fst1_ok X (dk rfl) rfl ?_
      refine getf_ok X flX10_16 (dk rfl) M1.obj rfl ?_
      refine fst1_ok X (dk rfl) rfl ?_
      refine lda_ok X (dk rfl) a2 e2 (by omega) ?_
      refine callS_ok (av := [.ref b1, .ref b2]) (r := []) X E (c_withBehind h1 g1 g2 w1 w2) lkX10_withBehind mlX10_149 lsX10_withBehind ⟨Nat.le_of_ble_eq_true rfl, Nat.le_of_ble_eq_true rfl⟩ ⟨Nat.le_of_ble_eq_true rfl, Nat.le_of_ble_eq_true rfl⟩ (Nat.le_of_ble_eq_true rfl) (dk rfl) ?_
      rintro v h2 ⟨N, rfl, hN, hBN, XN, nN⟩
      have hNS : N ≠ S := fun z => by rw [z, s2] at hN; cases hN
      have M2 := M1.ext XN
      obtain ⟨as1, as2, as3, as4⟩ := nN.row
      have lw : (y1.map (usedL y2)).length = 8 := by rw [List.length_map]; exact w1.1
      have tw : ∀ z ∈ y1.map (usedL y2), TW z ∧ z.length ≤ 256 := by
        intro z hz
        obtain ⟨t, ht, rfl⟩ := List.mem_map.mp hz
        have h5 := w1.2 t ht
        refine ⟨TW.used (fun z hz => (w2.2 z hz).1) (by rw [w2.1]; omega) h5.1, ?_⟩
        have := usedL_len y2 (M := 16) (fun z hz => (w2.2 z hz).2) (by omega) t
        omega
      generalize hrows : y1.map (usedL y2) = rows at nN as1 as2 as3 as4 lw tw
      have loop : ∀ (d i : Nat), d = 8 - i → i ≤ 8 → (∀ u z, u < i → rows[u]? = some z → z.length ≤ 16) → ∀ (l : List (Nat × Value)), lsel l [7, 6, 5, 4, 3, 0] = [(7, vI i), (6, vI 8), (5, .ref N), (4, .ref N), (3, vI j3), (0, .ref o)] → WR p la e (rmD 5 145 2192) s m args below meth c D cA B0 9 (intR o S A kn h) 64 l [] h2 137 2184 := by
        intro d
        induction d with
        | zero =>
          intro i hd hi hal l hl
          have hi2 : i = 8 := by omega
          subst hi2
          refine WS.sel [7, 6, 5, 4, 3, 0] hl ?_
          repeat refine fst1_ok X (dk rfl) rfl ?_
          refine br_ok X (dk rfl) rfl (show ((68 : Nat) : Int) + 29 = ((97 : Nat) : Int) from rfl) (fun _ => ?_) (fun c1 => absurd (Int32.le_refl _) c1)
          repeat refine fst1_ok X (dk rfl) rfl ?_
          have oN : AO rows := ⟨lw, fun z hz => ⟨(tw z hz).1, by obtain ⟨u, hu⟩ := List.getElem?_of_mem hz; exact hal u z (by have := (List.getElem?_eq_some_iff.mp hu).1; omega) hu⟩⟩
          refine callV_ok (ci := 12) (T := TX10) (N := 6) (av := [vI j3, .ref N]) (r := []) X E (c_become _ M2 hj3 nN oN hNS) lkX10_become mlX10_145 lmX10_become lpX10_become ⟨Nat.le_of_ble_eq_true rfl, Nat.le_of_ble_eq_true rfl⟩ ⟨Nat.le_of_ble_eq_true rfl, Nat.le_of_ble_eq_true rfl⟩ rfl M2.obj (Nat.le_of_ble_eq_true rfl) (dk rfl) ?_
          rintro v h9 ⟨⟨w9, rfl⟩, I9⟩
          exact reti_ok X hr hlk rfl (dk rfl) ⟨⟨_, rfl⟩, MI.trans (F1.trans (Fr.ext XN)) I9⟩ (Nat.le_of_ble_eq_true rfl) (Nat.le_of_ble_eq_true rfl)
        | succ d ih =>
          intro i hd hi hal l hl
          obtain ⟨c5, z5, i5, i6, i7⟩ := as4 i (by omega)
          have t5 := tw z5 (List.mem_of_getElem? i6)
          have f2 : Value.int (nI i + Int32.ofInt 1) = vI (i + 1) := congrArg Value.int (by rw [nI_1', nI_add])
          refine WS.sel [7, 6, 5, 4, 3, 0] hl ?_
          repeat refine fst1_ok X (dk rfl) rfl ?_
          refine br_ok X (dk rfl) rfl (show ((68 : Nat) : Int) + 29 = ((97 : Nat) : Int) from rfl) (fun c1 => absurd c1 (nI_ge (a := i) (b := 8) (by omega) (by omega))) (fun _ => ?_)
          repeat refine fst1_ok X (dk rfl) rfl ?_
          refine ldr_ok X (dk rfl) as3 i5 (by omega) ?_
          repeat refine fst1_ok X (dk rfl) rfl ?_
          refine alen_ok X (by decide) (dk rfl) i7 ?_
          rw [show (z5.map vI).length = z5.length from List.length_map _]
          repeat refine fst1_ok X (dk rfl) rfl ?_
          refine br_ok X (dk rfl) rfl (show ((83 : Nat) : Int) + 8 = ((91 : Nat) : Int) from rfl) (fun c2 => ?_) (fun _ => ?_)
          · rw [nI_16] at c2
            have l5 : z5.length ≤ 16 := (nI_leI (by omega) (by omega)).mp c2
            repeat refine fst1_ok X (dk rfl) rfl ?_
            refine br_ok X (dk rfl) rfl (show ((94 : Nat) : Int) + (-30) = ((64 : Nat) : Int) from rfl) (fun _ => ?_) (fun q => absurd trivial q)
            refine WS.sel (l' := [(7, vI (i + 1)), (6, vI 8), (5, .ref N), (4, .ref N), (3, vI j3), (0, .ref o)]) [7, 6, 5, 4, 3, 0] (by rw [← f2]; rfl) ?_
            refine ih (i + 1) (by omega) (by omega) (fun u z hu hz => ?_) _ rfl
            rcases Nat.lt_or_ge u i with q | q
            · exact hal u z q hz
            · rw [show u = i by omega, i6] at hz; cases hz; exact l5
          · repeat refine fst1_ok X (dk rfl) rfl ?_
            refine no_ok X E M2 ⟨Nat.le_of_ble_eq_true rfl, Nat.le_of_ble_eq_true rfl⟩ ⟨Nat.le_of_ble_eq_true rfl, Nat.le_of_ble_eq_true rfl⟩ (Nat.le_of_ble_eq_true rfl) (dk rfl) (fun h9 a9 r9 th9 M9 F9 => ?_)
            exact reti_ok X hr hlk rfl (dk rfl) ⟨⟨_, rfl⟩, MI.trans (F1.trans (Fr.ext XN)) ⟨⟨_, _, _, _, _, M9⟩, F9⟩⟩ (Nat.le_of_ble_eq_true rfl) (Nat.le_of_ble_eq_true rfl)
      iterate 4 refine fst1_ok X (dk rfl) rfl ?_
      refine alen_ok X (by decide) (dk rfl) as3 ?_
      rw [show (as1.map Value.ref).length = 8 by rw [List.length_map]; omega]
      iterate 3 refine fst1_ok X (dk rfl) rfl ?_
      exact loop 8 0 rfl (Nat.zero_le _) (fun u z hu _ => absurd hu (Nat.not_lt_zero _)) _ rfl
  iterate 2 refine fst1_ok X (dk rfl) rfl ?_
  refine isAnswer_ok X E mlX10_135 ⟨Nat.le_of_ble_eq_true rfl, Nat.le_of_ble_eq_true rfl⟩ ⟨Nat.le_of_ble_eq_true rfl, Nat.le_of_ble_eq_true rfl⟩ (Nat.le_of_ble_eq_true rfl) (dk rfl) (fun mid1b0 mid1h0 => ?_)
  cases mid1b0 with
  | false =>
    refine br_ok X (dk rfl) rfl (show ((5 : Nat) : Int) + 17 = ((22 : Nat) : Int) from rfl) (fun _ => ?_) (fun q => absurd bI_f' q)
    refine fst1_ok X (dk rfl) rfl ?_
    refine br_ok X (dk rfl) rfl (show ((23 : Nat) : Int) + 4 = ((27 : Nat) : Int) from rfl) (fun _ => ?_) (fun q => absurd trivial q)
    exact mid1 true (fun z => by cases z)
  | true =>
    refine br_ok X (dk rfl) rfl (show ((5 : Nat) : Int) + 17 = ((22 : Nat) : Int) from rfl) (fun q => absurd q bI_t) (fun _ => ?_)
    iterate 1 refine fst1_ok X (dk rfl) rfl ?_
    refine isAnswer_ok X E mlX10_135 ⟨Nat.le_of_ble_eq_true rfl, Nat.le_of_ble_eq_true rfl⟩ ⟨Nat.le_of_ble_eq_true rfl, Nat.le_of_ble_eq_true rfl⟩ (Nat.le_of_ble_eq_true rfl) (dk rfl) (fun mid1b1 mid1h1 => ?_)
    cases mid1b1 with
    | false =>
      refine br_ok X (dk rfl) rfl (show ((12 : Nat) : Int) + 10 = ((22 : Nat) : Int) from rfl) (fun _ => ?_) (fun q => absurd bI_f' q)
      refine fst1_ok X (dk rfl) rfl ?_
      refine br_ok X (dk rfl) rfl (show ((23 : Nat) : Int) + 4 = ((27 : Nat) : Int) from rfl) (fun _ => ?_) (fun q => absurd trivial q)
      exact mid1 true (fun z => by cases z)
    | true =>
      refine br_ok X (dk rfl) rfl (show ((12 : Nat) : Int) + 10 = ((22 : Nat) : Int) from rfl) (fun q => absurd q bI_t) (fun _ => ?_)
      iterate 1 refine fst1_ok X (dk rfl) rfl ?_
      refine isAnswer_ok X E mlX10_135 ⟨Nat.le_of_ble_eq_true rfl, Nat.le_of_ble_eq_true rfl⟩ ⟨Nat.le_of_ble_eq_true rfl, Nat.le_of_ble_eq_true rfl⟩ (Nat.le_of_ble_eq_true rfl) (dk rfl) (fun mid1b2 mid1h2 => ?_)
      cases mid1b2 with
      | false =>
        refine br_ok X (dk rfl) rfl (show ((19 : Nat) : Int) + 7 = ((26 : Nat) : Int) from rfl) (fun q => absurd q bI_f) (fun _ => ?_)
        refine fst1_ok X (dk rfl) rfl ?_
        refine br_ok X (dk rfl) rfl (show ((23 : Nat) : Int) + 4 = ((27 : Nat) : Int) from rfl) (fun _ => ?_) (fun q => absurd trivial q)
        exact mid1 true (fun z => by cases z)
      | true =>
        refine br_ok X (dk rfl) rfl (show ((19 : Nat) : Int) + 7 = ((26 : Nat) : Int) from rfl) (fun _ => ?_) (fun q => absurd bI_t q)
        refine fst1_ok X (dk rfl) rfl ?_
        exact mid1 false (fun _ => ⟨mid1h0 rfl, mid1h1 rfl, mid1h2 rfl⟩)
end M39
end
section
/-! what is asked of the reference -/
theorem inN_le {x : Int32} {K : Nat} (hK : K < 2 ^ 20) (h1 : ¬ x < 0) (h2 : x ≤ nI K) : inN (K + 1) x := by
  obtain ⟨j, hj, rfl⟩ := nI_of h1
  exact ⟨j, by have := (nI_leI hj (by omega)).mp h2; omega, rfl⟩
theorem ite_bI (c : Prop) [Decidable c] : (if c then (1 : Int32) else 0) = bI (decide c) := by
  by_cases h : c
  · rw [if_pos h, decide_eq_true h]; decide
  · rw [if_neg h, decide_eq_false h]; decide
section M39
variable {la : Launch} {D : va_G} {cA : Nat → ClassId} {B0 pa : Nat} {o S A : Nat} {sl : List (List Nat)} {an : List (List (List Nat))} {a r kn th : Int32}
set_option maxHeartbeats 4000000 in
theorem c_size (h : AH) (M : MD h o S A sl an a r kn th) (x1 : Int32) : CT la D cA B0 pa yX10_size cX10_size 2 (some .int) (rmD 2 0 0) [.ref o, .int x1] h (intR o S A kn h) := by
  refine CT_of (by decide +kernel) (Nat.le_of_ble_eq_true rfl) ?_
  intro p e s m args below meth c X E hr hlk hnm
  have dk : ∀ {pc : Nat} {q : Instr × Nat}, lkd DX10_size pc = some q → decode cX10_size pc = .ok q := lkd_ok DX10_size_ok
  have mid1 : ∀ t1 : Bool, (t1 = false → inN 6 x1) → WR p la e (rmD 2 0 0) s m args below meth c D cA B0 2 (intR o S A kn h) 13 (lv_args 0 [.ref o, .int x1]) [.int (bI t1), .ref o] h 0 0 := by
    intro t1 ht1
    refine thr1_ok X E M ⟨Nat.le_of_ble_eq_true rfl, Nat.le_of_ble_eq_true rfl⟩ ⟨Nat.le_of_ble_eq_true rfl, Nat.le_of_ble_eq_true rfl⟩ (Nat.le_of_ble_eq_true rfl) (dk rfl) (fun h1 a1 r1 th1 M1 F1 => ?_)
    cases hb : t1 with
    | true =>
      refine br_ok X (dk rfl) rfl (show ((16 : Nat) : Int) + 7 = ((23 : Nat) : Int) from rfl) (fun q => absurd q bI_t) (fun _ => ?_)
      refine fst1_ok X (dk rfl) rfl ?_
      refine br_ok X (dk rfl) rfl (show ((20 : Nat) : Int) + 10 = ((30 : Nat) : Int) from rfl) (fun _ => ?_) (fun q => absurd trivial q)
      exact reti_ok X hr hlk rfl (dk rfl) ⟨⟨_, rfl⟩, ⟨_, _, _, _, _, M1⟩, F1⟩ (Nat.zero_le _) (Nat.zero_le _)
    | false =>
      refine br_ok X (dk rfl) rfl (show ((16 : Nat) : Int) + 7 = ((23 : Nat) : Int) from rfl) (fun _ => ?_) (fun q => absurd bI_f' q)
      obtain ⟨j1, hj1, rfl⟩ := ht1 hb
      obtain ⟨ss, s1, s2, s3⟩ := M1.slot
      obtain ⟨as, a1, a2, a3⟩ := M1.ans
      obtain ⟨b1, y1, e1, f1, g1, w1, n1⟩ := s3 j1 hj1
      have ly1 : (y1.map vI).length = y1.length := List.length_map _
      repeat refine fst1_ok X (dk rfl) rfl ?_
      refine getf_ok X flX10_11 (dk rfl) M1.obj rfl ?_
      refine fst1_ok X (dk rfl) rfl ?_
      refine ldr_ok X (dk rfl) s2 e1 (by omega) ?_
      refine alen_ok X (by decide) (dk rfl) g1 ?_
      exact reti_ok X hr hlk rfl (dk rfl) ⟨⟨_, rfl⟩, ⟨_, _, _, _, _, M1⟩, F1⟩ (Nat.le_of_ble_eq_true rfl) (Nat.le_of_ble_eq_true rfl)
  iterate 2 refine fst1_ok X (dk rfl) rfl ?_
  refine isSlot_ok X E mlX10_95 ⟨Nat.le_of_ble_eq_true rfl, Nat.le_of_ble_eq_true rfl⟩ ⟨Nat.le_of_ble_eq_true rfl, Nat.le_of_ble_eq_true rfl⟩ (Nat.le_of_ble_eq_true rfl) (dk rfl) (fun mid1b0 mid1h0 => ?_)
  cases mid1b0 with
  | false =>
    refine br_ok X (dk rfl) rfl (show ((5 : Nat) : Int) + 7 = ((12 : Nat) : Int) from rfl) (fun q => absurd q bI_f) (fun _ => ?_)
    refine fst1_ok X (dk rfl) rfl ?_
    refine br_ok X (dk rfl) rfl (show ((9 : Nat) : Int) + 4 = ((13 : Nat) : Int) from rfl) (fun _ => ?_) (fun q => absurd trivial q)
    exact mid1 true (fun z => by cases z)
  | true =>
    refine br_ok X (dk rfl) rfl (show ((5 : Nat) : Int) + 7 = ((12 : Nat) : Int) from rfl) (fun _ => ?_) (fun q => absurd bI_t q)
    refine fst1_ok X (dk rfl) rfl ?_
    exact mid1 false (fun _ => mid1h0 rfl)
set_option maxHeartbeats 4000000 in
theorem c_depth (h : AH) (M : MD h o S A sl an a r kn th) (x1 : Int32) : CT la D cA B0 pa yX10_depth cX10_depth 2 (some .int) (rmD 19 0 0) [.ref o, .int x1] h (intR o S A kn h) := by
  refine CT_of (by decide +kernel) (Nat.le_of_ble_eq_true rfl) ?_
  intro p e s m args below meth c X E hr hlk hnm
  have dk : ∀ {pc : Nat} {q : Instr × Nat}, lkd DX10_depth pc = some q → decode cX10_depth pc = .ok q := lkd_ok DX10_depth_ok
  have mid1 : ∀ t1 : Bool, (t1 = false → inN 6 x1) → WR p la e (rmD 19 0 0) s m args below meth c D cA B0 2 (intR o S A kn h) 13 (lv_args 0 [.ref o, .int x1]) [.int (bI t1), .ref o] h 0 0 := by
    intro t1 ht1
    refine thr1_ok X E M ⟨Nat.le_of_ble_eq_true rfl, Nat.le_of_ble_eq_true rfl⟩ ⟨Nat.le_of_ble_eq_true rfl, Nat.le_of_ble_eq_true rfl⟩ (Nat.le_of_ble_eq_true rfl) (dk rfl) (fun h1 a1 r1 th1 M1 F1 => ?_)
    cases hb : t1 with
    | true =>
      refine br_ok X (dk rfl) rfl (show ((16 : Nat) : Int) + 7 = ((23 : Nat) : Int) from rfl) (fun q => absurd q bI_t) (fun _ => ?_)
      refine fst1_ok X (dk rfl) rfl ?_
      refine br_ok X (dk rfl) rfl (show ((20 : Nat) : Int) + 13 = ((33 : Nat) : Int) from rfl) (fun _ => ?_) (fun q => absurd trivial q)
      exact reti_ok X hr hlk rfl (dk rfl) ⟨⟨_, rfl⟩, ⟨_, _, _, _, _, M1⟩, F1⟩ (Nat.zero_le _) (Nat.zero_le _)
    | false =>
      refine br_ok X (dk rfl) rfl (show ((16 : Nat) : Int) + 7 = ((23 : Nat) : Int) from rfl) (fun _ => ?_) (fun q => absurd bI_f' q)
      obtain ⟨j1, hj1, rfl⟩ := ht1 hb
      obtain ⟨ss, s1, s2, s3⟩ := M1.slot
      obtain ⟨as, a1, a2, a3⟩ := M1.ans
      obtain ⟨b1, y1, e1, f1, g1, w1, n1⟩ := s3 j1 hj1
      have ly1 : (y1.map vI).length = y1.length := List.length_map _
      repeat refine fst1_ok X (dk rfl) rfl ?_
      refine getf_ok X flX10_11 (dk rfl) M1.obj rfl ?_
      refine fst1_ok X (dk rfl) rfl ?_
      refine ldr_ok X (dk rfl) s2 e1 (by omega) ?_
      repeat refine fst1_ok X (dk rfl) rfl ?_
      refine callS_ok (av := [.ref b1, vI 0]) (r := []) X E (c_depthOf h1 g1 (by omega) w1.lt 16 0 y1.length (by rw [List.drop_zero]; exact w1.1) n1) lkX10_depthOf mlX10_63 lsX10_depthOf ⟨Nat.le_of_ble_eq_true rfl, Nat.le_of_ble_eq_true rfl⟩ ⟨Nat.le_of_ble_eq_true rfl, Nat.le_of_ble_eq_true rfl⟩ (Nat.le_of_ble_eq_true rfl) (dk rfl) ?_
      rintro v h2 ⟨⟨d, rfl, hd⟩, rfl⟩
      exact reti_ok X hr hlk rfl (dk rfl) ⟨⟨_, rfl⟩, ⟨_, _, _, _, _, M1⟩, F1⟩ (Nat.le_of_ble_eq_true rfl) (Nat.le_of_ble_eq_true rfl)
  iterate 2 refine fst1_ok X (dk rfl) rfl ?_
  refine isSlot_ok X E mlX10_95 ⟨Nat.le_of_ble_eq_true rfl, Nat.le_of_ble_eq_true rfl⟩ ⟨Nat.le_of_ble_eq_true rfl, Nat.le_of_ble_eq_true rfl⟩ (Nat.le_of_ble_eq_true rfl) (dk rfl) (fun mid1b0 mid1h0 => ?_)
  cases mid1b0 with
  | false =>
    refine br_ok X (dk rfl) rfl (show ((5 : Nat) : Int) + 7 = ((12 : Nat) : Int) from rfl) (fun q => absurd q bI_f) (fun _ => ?_)
    refine fst1_ok X (dk rfl) rfl ?_
    refine br_ok X (dk rfl) rfl (show ((9 : Nat) : Int) + 4 = ((13 : Nat) : Int) from rfl) (fun _ => ?_) (fun q => absurd trivial q)
    exact mid1 true (fun z => by cases z)
  | true =>
    refine br_ok X (dk rfl) rfl (show ((5 : Nat) : Int) + 7 = ((12 : Nat) : Int) from rfl) (fun _ => ?_) (fun q => absurd bI_t q)
    refine fst1_ok X (dk rfl) rfl ?_
    exact mid1 false (fun _ => mid1h0 rfl)
set_option maxHeartbeats 4000000 in
theorem c_sharedOf_ (h : AH) {q : Nat} {x : List Nat} (hq : h q = some (IA x)) (hx : TW x ∧ x.length ≤ 16) : CT la D cA B0 pa yX10_sharedOf_ cX10_sharedOf_ 1 (some .int) (rmD 5 1 1) [.ref q] h (fun v h' => (∃ w : Int32, v = some (.int w)) ∧ Ext h h') := by
  refine CT_of (by decide +kernel) (Nat.le_of_ble_eq_true rfl) ?_
  intro p e s m args below meth c X E hr hlk hnm
  have dk : ∀ {pc : Nat} {q : Instr × Nat}, lkd DX10_sharedOf_ pc = some q → decode cX10_sharedOf_ pc = .ok q := lkd_ok DX10_sharedOf__ok
  refine fst1_ok X (dk rfl) rfl ?_
  refine newR_ok (N := 1) (kd := 105) X E (by decide) cl10_9 (by decide) (dk rfl) (by decide) (by decide) (fun T hT hBT => ?_)
  have hqT : q ≠ T := fun z => by rw [z, hT] at hq; cases hq
  repeat refine fst1_ok X (dk rfl) rfl ?_
  refine str_ok (j := 0) X (dk rfl) (hup_self _ _ _) (by rw [hup_ne _ _ hqT]; exact hq) (by simp) (by simp) ?_
  rw [hup_hup]
  have hA : Ans (hup h T (105, (List.replicate 1 Value.null).set 0 (.ref q))) T [x] := by
    refine ⟨[q], rfl, hup_self _ _ _, fun k a r e1 e2 => ?_⟩
    cases k with
    | zero => cases e1; cases e2; rw [hup_ne _ _ hqT]; exact hq
    | succ k => simp at e1
  refine callS_ok (av := [.ref T]) (r := []) X E (c_sharedOf _ hA ⟨by simp, fun r hr => by simp at hr; rw [hr]; exact hx⟩) lkX10_sharedOf mlX10_199 lsX10_sharedOf ⟨Nat.le_of_ble_eq_true rfl, Nat.le_of_ble_eq_true rfl⟩ ⟨Nat.le_of_ble_eq_true rfl, Nat.le_of_ble_eq_true rfl⟩ (Nat.le_of_ble_eq_true rfl) (dk rfl) ?_
  rintro v h2 ⟨⟨w, rfl⟩, rfl⟩
  exact reti_ok X hr hlk rfl (dk rfl) ⟨⟨_, rfl⟩, Ext.new hT _⟩ (Nat.le_of_ble_eq_true rfl) (Nat.le_of_ble_eq_true rfl)
set_option maxHeartbeats 4000000 in
theorem c_shared (h : AH) (M : MD h o S A sl an a r kn th) (x1 : Int32) : CT la D cA B0 pa yX10_shared cX10_shared 2 (some .int) (rmD 6 1 1) [.ref o, .int x1] h (intR o S A kn h) := by
  refine CT_of (by decide +kernel) (Nat.le_of_ble_eq_true rfl) ?_
  intro p e s m args below meth c X E hr hlk hnm
  have dk : ∀ {pc : Nat} {q : Instr × Nat}, lkd DX10_shared pc = some q → decode cX10_shared pc = .ok q := lkd_ok DX10_shared_ok
  have mid1 : ∀ t1 : Bool, (t1 = false → inN 6 x1) → WR p la e (rmD 6 1 1) s m args below meth c D cA B0 2 (intR o S A kn h) 13 (lv_args 0 [.ref o, .int x1]) [.int (bI t1), .ref o] h 0 0 := by
    intro t1 ht1
    refine thr1_ok X E M ⟨Nat.le_of_ble_eq_true rfl, Nat.le_of_ble_eq_true rfl⟩ ⟨Nat.le_of_ble_eq_true rfl, Nat.le_of_ble_eq_true rfl⟩ (Nat.le_of_ble_eq_true rfl) (dk rfl) (fun h1 a1 r1 th1 M1 F1 => ?_)
    cases hb : t1 with
    | true =>
      refine br_ok X (dk rfl) rfl (show ((16 : Nat) : Int) + 7 = ((23 : Nat) : Int) from rfl) (fun q => absurd q bI_t) (fun _ => ?_)
      refine fst1_ok X (dk rfl) rfl ?_
      refine br_ok X (dk rfl) rfl (show ((20 : Nat) : Int) + 12 = ((32 : Nat) : Int) from rfl) (fun _ => ?_) (fun q => absurd trivial q)
      exact reti_ok X hr hlk rfl (dk rfl) ⟨⟨_, rfl⟩, ⟨_, _, _, _, _, M1⟩, F1⟩ (Nat.zero_le _) (Nat.zero_le _)
    | false =>
      refine br_ok X (dk rfl) rfl (show ((16 : Nat) : Int) + 7 = ((23 : Nat) : Int) from rfl) (fun _ => ?_) (fun q => absurd bI_f' q)
      obtain ⟨j1, hj1, rfl⟩ := ht1 hb
      obtain ⟨ss, s1, s2, s3⟩ := M1.slot
      obtain ⟨as, a1, a2, a3⟩ := M1.ans
      obtain ⟨b1, y1, e1, f1, g1, w1, n1⟩ := s3 j1 hj1
      have ly1 : (y1.map vI).length = y1.length := List.length_map _
      repeat refine fst1_ok X (dk rfl) rfl ?_
      refine getf_ok X flX10_11 (dk rfl) M1.obj rfl ?_
      refine fst1_ok X (dk rfl) rfl ?_
      refine ldr_ok X (dk rfl) s2 e1 (by omega) ?_
      refine callS_ok (av := [.ref b1]) (r := []) X E (c_sharedOf_ h1 g1 ⟨w1, n1⟩) lkX10_sharedOf_ mlX10_202 lsX10_sharedOf_ ⟨Nat.le_of_ble_eq_true rfl, Nat.le_of_ble_eq_true rfl⟩ ⟨Nat.le_of_ble_eq_true rfl, Nat.le_of_ble_eq_true rfl⟩ (Nat.le_of_ble_eq_true rfl) (dk rfl) ?_
      rintro v h2 ⟨⟨d, rfl⟩, X2⟩
      exact reti_ok X hr hlk rfl (dk rfl) ⟨⟨_, rfl⟩, ⟨_, _, _, _, _, (M1.ext X2)⟩, F1.trans (Fr.ext X2)⟩ (Nat.le_of_ble_eq_true rfl) (Nat.le_of_ble_eq_true rfl)
  iterate 2 refine fst1_ok X (dk rfl) rfl ?_
  refine isSlot_ok X E mlX10_95 ⟨Nat.le_of_ble_eq_true rfl, Nat.le_of_ble_eq_true rfl⟩ ⟨Nat.le_of_ble_eq_true rfl, Nat.le_of_ble_eq_true rfl⟩ (Nat.le_of_ble_eq_true rfl) (dk rfl) (fun mid1b0 mid1h0 => ?_)
  cases mid1b0 with
  | false =>
    refine br_ok X (dk rfl) rfl (show ((5 : Nat) : Int) + 7 = ((12 : Nat) : Int) from rfl) (fun q => absurd q bI_f) (fun _ => ?_)
    refine fst1_ok X (dk rfl) rfl ?_
    refine br_ok X (dk rfl) rfl (show ((9 : Nat) : Int) + 4 = ((13 : Nat) : Int) from rfl) (fun _ => ?_) (fun q => absurd trivial q)
    exact mid1 true (fun z => by cases z)
  | true =>
    refine br_ok X (dk rfl) rfl (show ((5 : Nat) : Int) + 7 = ((12 : Nat) : Int) from rfl) (fun _ => ?_) (fun q => absurd bI_t q)
    refine fst1_ok X (dk rfl) rfl ?_
    exact mid1 false (fun _ => mid1h0 rfl)
set_option maxHeartbeats 4000000 in
theorem c_letter (h : AH) (M : MD h o S A sl an a r kn th) (x1 x2 : Int32) : CT la D cA B0 pa yX10_letter cX10_letter 3 (some .int) (rmD 2 0 0) [.ref o, .int x1, .int x2] h (intR o S A kn h) := by
  refine CT_of (by decide +kernel) (Nat.le_of_ble_eq_true rfl) ?_
  intro p e s m args below meth c X E hr hlk hnm
  have dk : ∀ {pc : Nat} {q : Instr × Nat}, lkd DX10_letter pc = some q → decode cX10_letter pc = .ok q := lkd_ok DX10_letter_ok
  have mid1 : ∀ t1 : Bool, (t1 = false → inN 6 x1) → WR p la e (rmD 2 0 0) s m args below meth c D cA B0 3 (intR o S A kn h) 13 (lv_args 0 [.ref o, .int x1, .int x2]) [.int (bI t1), .ref o] h 0 0 := by
    intro t1 ht1
    refine thr1_ok X E M ⟨Nat.le_of_ble_eq_true rfl, Nat.le_of_ble_eq_true rfl⟩ ⟨Nat.le_of_ble_eq_true rfl, Nat.le_of_ble_eq_true rfl⟩ (Nat.le_of_ble_eq_true rfl) (dk rfl) (fun h1 a1 r1 th1 M1 F1 => ?_)
    cases hb : t1 with
    | true =>
      refine br_ok X (dk rfl) rfl (show ((16 : Nat) : Int) + 7 = ((23 : Nat) : Int) from rfl) (fun q => absurd q bI_t) (fun _ => ?_)
      refine fst1_ok X (dk rfl) rfl ?_
      refine br_ok X (dk rfl) rfl (show ((20 : Nat) : Int) + 25 = ((45 : Nat) : Int) from rfl) (fun _ => ?_) (fun q => absurd trivial q)
      exact reti_ok X hr hlk rfl (dk rfl) ⟨⟨_, rfl⟩, ⟨_, _, _, _, _, M1⟩, F1⟩ (Nat.zero_le _) (Nat.zero_le _)
    | false =>
      refine br_ok X (dk rfl) rfl (show ((16 : Nat) : Int) + 7 = ((23 : Nat) : Int) from rfl) (fun _ => ?_) (fun q => absurd bI_f' q)
      obtain ⟨j1, hj1, rfl⟩ := ht1 hb
      obtain ⟨ss, s1, s2, s3⟩ := M1.slot
      obtain ⟨as, a1, a2, a3⟩ := M1.ans
      obtain ⟨b1, y1, e1, f1, g1, w1, n1⟩ := s3 j1 hj1
      have ly1 : (y1.map vI).length = y1.length := List.length_map _
      repeat refine fst1_ok X (dk rfl) rfl ?_
      refine callV_ok (ci := 12) (T := TX10) (N := 6) (av := [vI j1, .int x2]) (r := []) X E (c_isPlace h1 M1 hj1 x2) lkX10_isPlace mlX10_113 lmX10_isPlace lpX10_isPlace ⟨Nat.le_of_ble_eq_true rfl, Nat.le_of_ble_eq_true rfl⟩ ⟨Nat.le_of_ble_eq_true rfl, Nat.le_of_ble_eq_true rfl⟩ rfl M1.obj (Nat.le_of_ble_eq_true rfl) (dk rfl) ?_
      rintro v h2 ⟨⟨bp, rfl, hbp⟩, rfl⟩
      cases bp with
      | false =>
        refine br_ok X (dk rfl) rfl (show ((29 : Nat) : Int) + 14 = ((43 : Nat) : Int) from rfl) (fun _ => ?_) (fun q => absurd bI_f' q)
        refine fst1_ok X (dk rfl) rfl ?_
        exact reti_ok X hr hlk rfl (dk rfl) ⟨⟨_, rfl⟩, ⟨_, _, _, _, _, M1⟩, F1⟩ (Nat.le_of_ble_eq_true rfl) (Nat.le_of_ble_eq_true rfl)
      | true =>
        refine br_ok X (dk rfl) rfl (show ((29 : Nat) : Int) + 14 = ((43 : Nat) : Int) from rfl) (fun q => absurd q bI_t) (fun _ => ?_)
        obtain ⟨j2, hj2, rfl⟩ := hbp rfl y1 f1
        obtain ⟨x, hx⟩ : ∃ x, y1[j2]? = some x := ⟨y1[j2]'hj2, by simp⟩
        repeat refine fst1_ok X (dk rfl) rfl ?_
        refine getf_ok X flX10_11 (dk rfl) M1.obj rfl ?_
        refine fst1_ok X (dk rfl) rfl ?_
        refine ldr_ok X (dk rfl) s2 e1 (by omega) ?_
        refine fst1_ok X (dk rfl) rfl ?_
        refine ald_ok X (Or.inl ⟨rfl, rfl⟩) (dk rfl) g1 (inA_nI (by omega) (IA_get hx)) ?_
        refine br_ok X (dk rfl) rfl (show ((40 : Nat) : Int) + 5 = ((45 : Nat) : Int) from rfl) (fun _ => ?_) (fun q => absurd trivial q)
        exact reti_ok X hr hlk rfl (dk rfl) ⟨⟨_, rfl⟩, ⟨_, _, _, _, _, M1⟩, F1⟩ (Nat.le_of_ble_eq_true rfl) (Nat.le_of_ble_eq_true rfl)
  iterate 2 refine fst1_ok X (dk rfl) rfl ?_
  refine isSlot_ok X E mlX10_95 ⟨Nat.le_of_ble_eq_true rfl, Nat.le_of_ble_eq_true rfl⟩ ⟨Nat.le_of_ble_eq_true rfl, Nat.le_of_ble_eq_true rfl⟩ (Nat.le_of_ble_eq_true rfl) (dk rfl) (fun mid1b0 mid1h0 => ?_)
  cases mid1b0 with
  | false =>
    refine br_ok X (dk rfl) rfl (show ((5 : Nat) : Int) + 7 = ((12 : Nat) : Int) from rfl) (fun q => absurd q bI_f) (fun _ => ?_)
    refine fst1_ok X (dk rfl) rfl ?_
    refine br_ok X (dk rfl) rfl (show ((9 : Nat) : Int) + 4 = ((13 : Nat) : Int) from rfl) (fun _ => ?_) (fun q => absurd trivial q)
    exact mid1 true (fun z => by cases z)
  | true =>
    refine br_ok X (dk rfl) rfl (show ((5 : Nat) : Int) + 7 = ((12 : Nat) : Int) from rfl) (fun _ => ?_) (fun q => absurd bI_t q)
    refine fst1_ok X (dk rfl) rfl ?_
    exact mid1 false (fun _ => mid1h0 rfl)
set_option maxHeartbeats 4000000 in
theorem c_sizeAt (h : AH) (M : MD h o S A sl an a r kn th) (x1 x2 : Int32) : CT la D cA B0 pa yX10_sizeAt cX10_sizeAt 3 (some .int) (rmD 2 0 0) [.ref o, .int x1, .int x2] h (intR o S A kn h) := by
  refine CT_of (by decide +kernel) (Nat.le_of_ble_eq_true rfl) ?_
  intro p e s m args below meth c X E hr hlk hnm
  have dk : ∀ {pc : Nat} {q : Instr × Nat}, lkd DX10_sizeAt pc = some q → decode cX10_sizeAt pc = .ok q := lkd_ok DX10_sizeAt_ok
  have mid1 : ∀ t1 : Bool, (t1 = false → inN 6 x1) → WR p la e (rmD 2 0 0) s m args below meth c D cA B0 3 (intR o S A kn h) 13 (lv_args 0 [.ref o, .int x1, .int x2]) [.int (bI t1), .ref o] h 0 0 := by
    intro t1 ht1
    refine thr1_ok X E M ⟨Nat.le_of_ble_eq_true rfl, Nat.le_of_ble_eq_true rfl⟩ ⟨Nat.le_of_ble_eq_true rfl, Nat.le_of_ble_eq_true rfl⟩ (Nat.le_of_ble_eq_true rfl) (dk rfl) (fun h1 a1 r1 th1 M1 F1 => ?_)
    cases hb : t1 with
    | true =>
      refine br_ok X (dk rfl) rfl (show ((16 : Nat) : Int) + 7 = ((23 : Nat) : Int) from rfl) (fun q => absurd q bI_t) (fun _ => ?_)
      refine fst1_ok X (dk rfl) rfl ?_
      refine br_ok X (dk rfl) rfl (show ((20 : Nat) : Int) + 29 = ((49 : Nat) : Int) from rfl) (fun _ => ?_) (fun q => absurd trivial q)
      exact reti_ok X hr hlk rfl (dk rfl) ⟨⟨_, rfl⟩, ⟨_, _, _, _, _, M1⟩, F1⟩ (Nat.zero_le _) (Nat.zero_le _)
    | false =>
      refine br_ok X (dk rfl) rfl (show ((16 : Nat) : Int) + 7 = ((23 : Nat) : Int) from rfl) (fun _ => ?_) (fun q => absurd bI_f' q)
      obtain ⟨j1, hj1, rfl⟩ := ht1 hb
      obtain ⟨ss, s1, s2, s3⟩ := M1.slot
      obtain ⟨as, a1, a2, a3⟩ := M1.ans
      obtain ⟨b1, y1, e1, f1, g1, w1, n1⟩ := s3 j1 hj1
      have ly1 : (y1.map vI).length = y1.length := List.length_map _
      repeat refine fst1_ok X (dk rfl) rfl ?_
      refine callV_ok (ci := 12) (T := TX10) (N := 6) (av := [vI j1, .int x2]) (r := []) X E (c_isPlace h1 M1 hj1 x2) lkX10_isPlace mlX10_113 lmX10_isPlace lpX10_isPlace ⟨Nat.le_of_ble_eq_true rfl, Nat.le_of_ble_eq_true rfl⟩ ⟨Nat.le_of_ble_eq_true rfl, Nat.le_of_ble_eq_true rfl⟩ rfl M1.obj (Nat.le_of_ble_eq_true rfl) (dk rfl) ?_
      rintro v h2 ⟨⟨bp, rfl, hbp⟩, rfl⟩
      cases bp with
      | false =>
        refine br_ok X (dk rfl) rfl (show ((29 : Nat) : Int) + 18 = ((47 : Nat) : Int) from rfl) (fun _ => ?_) (fun q => absurd bI_f' q)
        refine fst1_ok X (dk rfl) rfl ?_
        exact reti_ok X hr hlk rfl (dk rfl) ⟨⟨_, rfl⟩, ⟨_, _, _, _, _, M1⟩, F1⟩ (Nat.le_of_ble_eq_true rfl) (Nat.le_of_ble_eq_true rfl)
      | true =>
        refine br_ok X (dk rfl) rfl (show ((29 : Nat) : Int) + 18 = ((47 : Nat) : Int) from rfl) (fun q => absurd q bI_t) (fun _ => ?_)
        obtain ⟨j2, hj2, rfl⟩ := hbp rfl y1 f1
        obtain ⟨k0, t1, t2, t3, t4⟩ := w1.at hj2
        repeat refine fst1_ok X (dk rfl) rfl ?_
        refine getf_ok X flX10_11 (dk rfl) M1.obj rfl ?_
        refine fst1_ok X (dk rfl) rfl ?_
        refine ldr_ok X (dk rfl) s2 e1 (by omega) ?_
        refine fst1_ok X (dk rfl) rfl ?_
        refine callS_ok (av := [.ref b1, vI j2]) (r := []) X E (c_end h2 g1 w1.lt (by omega) t1) lkX10_end mlX10_36 lsX10_end ⟨Nat.le_of_ble_eq_true rfl, Nat.le_of_ble_eq_true rfl⟩ ⟨Nat.le_of_ble_eq_true rfl, Nat.le_of_ble_eq_true rfl⟩ (Nat.le_of_ble_eq_true rfl) (dk rfl) ?_
        rintro v h3 ⟨rfl, rfl⟩
        repeat refine fst1_ok X (dk rfl) rfl ?_
        refine br_ok X (dk rfl) rfl (show ((44 : Nat) : Int) + 5 = ((49 : Nat) : Int) from rfl) (fun _ => ?_) (fun q => absurd trivial q)
        exact reti_ok X hr hlk rfl (dk rfl) ⟨⟨_, rfl⟩, ⟨_, _, _, _, _, M1⟩, F1⟩ (Nat.le_of_ble_eq_true rfl) (Nat.le_of_ble_eq_true rfl)
  iterate 2 refine fst1_ok X (dk rfl) rfl ?_
  refine isSlot_ok X E mlX10_95 ⟨Nat.le_of_ble_eq_true rfl, Nat.le_of_ble_eq_true rfl⟩ ⟨Nat.le_of_ble_eq_true rfl, Nat.le_of_ble_eq_true rfl⟩ (Nat.le_of_ble_eq_true rfl) (dk rfl) (fun mid1b0 mid1h0 => ?_)
  cases mid1b0 with
  | false =>
    refine br_ok X (dk rfl) rfl (show ((5 : Nat) : Int) + 7 = ((12 : Nat) : Int) from rfl) (fun q => absurd q bI_f) (fun _ => ?_)
    refine fst1_ok X (dk rfl) rfl ?_
    refine br_ok X (dk rfl) rfl (show ((9 : Nat) : Int) + 4 = ((13 : Nat) : Int) from rfl) (fun _ => ?_) (fun q => absurd trivial q)
    exact mid1 true (fun z => by cases z)
  | true =>
    refine br_ok X (dk rfl) rfl (show ((5 : Nat) : Int) + 7 = ((12 : Nat) : Int) from rfl) (fun _ => ?_) (fun q => absurd bI_t q)
    refine fst1_ok X (dk rfl) rfl ?_
    exact mid1 false (fun _ => mid1h0 rfl)
set_option maxHeartbeats 4000000 in
theorem c_count (h : AH) (M : MD h o S A sl an a r kn th) (x1 x2 : Int32) : CT la D cA B0 pa yX10_count cX10_count 3 (some .int) (rmD 2 0 0) [.ref o, .int x1, .int x2] h (intR o S A kn h) := by
  refine CT_of (by decide +kernel) (Nat.le_of_ble_eq_true rfl) ?_
  intro p e s m args below meth c X E hr hlk hnm
  have dk : ∀ {pc : Nat} {q : Instr × Nat}, lkd DX10_count pc = some q → decode cX10_count pc = .ok q := lkd_ok DX10_count_ok
  have mid2 : ∀ t1 t2 : Bool, (t1 = false → inN 6 x1) → (t2 = false → inN 8 x2) → WR p la e (rmD 2 0 0) s m args below meth c D cA B0 3 (intR o S A kn h) 25 (lv_args 0 [.ref o, .int x1, .int x2]) [.int (bI t2), .int (bI t1), .ref o] h 0 0 := by
    intro t1 t2 ht1 ht2
    refine thr2_ok X E M ⟨Nat.le_of_ble_eq_true rfl, Nat.le_of_ble_eq_true rfl⟩ ⟨Nat.le_of_ble_eq_true rfl, Nat.le_of_ble_eq_true rfl⟩ (Nat.le_of_ble_eq_true rfl) (dk rfl) (fun h1 a1 r1 th1 M1 F1 => ?_)
    cases hb : (t1 || t2) with
    | true =>
      refine br_ok X (dk rfl) rfl (show ((28 : Nat) : Int) + 7 = ((35 : Nat) : Int) from rfl) (fun q => absurd q bI_t) (fun _ => ?_)
      refine fst1_ok X (dk rfl) rfl ?_
      refine br_ok X (dk rfl) rfl (show ((32 : Nat) : Int) + 13 = ((45 : Nat) : Int) from rfl) (fun _ => ?_) (fun q => absurd trivial q)
      exact reti_ok X hr hlk rfl (dk rfl) ⟨⟨_, rfl⟩, ⟨_, _, _, _, _, M1⟩, F1⟩ (Nat.zero_le _) (Nat.zero_le _)
    | false =>
      refine br_ok X (dk rfl) rfl (show ((28 : Nat) : Int) + 7 = ((35 : Nat) : Int) from rfl) (fun _ => ?_) (fun q => absurd bI_f' q)
      obtain ⟨hb1, hb2⟩ := Bool.or_eq_false_iff.mp hb
      obtain ⟨j1, hj1, rfl⟩ := ht1 hb1
      obtain ⟨j2, hj2, rfl⟩ := ht2 hb2
      obtain ⟨ss, s1, s2, s3⟩ := M1.slot
      obtain ⟨as, a1, a2, a3⟩ := M1.ans
      obtain ⟨b1, y1, e1, f1, g1, w1, n1⟩ := s3 j1 hj1
      have ly1 : (y1.map vI).length = y1.length := List.length_map _
      repeat refine fst1_ok X (dk rfl) rfl ?_
      refine getf_ok X flX10_11 (dk rfl) M1.obj rfl ?_
      refine fst1_ok X (dk rfl) rfl ?_
      refine ldr_ok X (dk rfl) s2 e1 (by omega) ?_
      refine fst1_ok X (dk rfl) rfl ?_
      refine callS_ok (av := [.ref b1, vI j2]) (r := []) X E (c_often h1 (nI j2) g1 (by omega)) lkX10_often mlX10_117 lsX10_often ⟨Nat.le_of_ble_eq_true rfl, Nat.le_of_ble_eq_true rfl⟩ ⟨Nat.le_of_ble_eq_true rfl, Nat.le_of_ble_eq_true rfl⟩ (Nat.le_of_ble_eq_true rfl) (dk rfl) ?_
      rintro v h2 ⟨⟨w0, rfl⟩, rfl⟩
      exact reti_ok X hr hlk rfl (dk rfl) ⟨⟨_, rfl⟩, ⟨_, _, _, _, _, M1⟩, F1⟩ (Nat.le_of_ble_eq_true rfl) (Nat.le_of_ble_eq_true rfl)
  have mid1 : ∀ t1 : Bool, (t1 = false → inN 6 x1) → WR p la e (rmD 2 0 0) s m args below meth c D cA B0 3 (intR o S A kn h) 13 (lv_args 0 [.ref o, .int x1, .int x2]) [.int (bI t1), .ref o] h 0 0 := by
    intro t1 ht1
    have mid2 := fun t2 => mid2 t1 t2 ht1
    iterate 1 refine fst1_ok X (dk rfl) rfl ?_
    refine isName_ok X E mlX10_99 ⟨Nat.le_of_ble_eq_true rfl, Nat.le_of_ble_eq_true rfl⟩ ⟨Nat.le_of_ble_eq_true rfl, Nat.le_of_ble_eq_true rfl⟩ (Nat.le_of_ble_eq_true rfl) (dk rfl) (fun mid2b0 mid2h0 => ?_)
    cases mid2b0 with
    | false =>
      refine br_ok X (dk rfl) rfl (show ((17 : Nat) : Int) + 7 = ((24 : Nat) : Int) from rfl) (fun q => absurd q bI_f) (fun _ => ?_)
      refine fst1_ok X (dk rfl) rfl ?_
      refine br_ok X (dk rfl) rfl (show ((21 : Nat) : Int) + 4 = ((25 : Nat) : Int) from rfl) (fun _ => ?_) (fun q => absurd trivial q)
      exact mid2 true (fun z => by cases z)
    | true =>
      refine br_ok X (dk rfl) rfl (show ((17 : Nat) : Int) + 7 = ((24 : Nat) : Int) from rfl) (fun _ => ?_) (fun q => absurd bI_t q)
      refine fst1_ok X (dk rfl) rfl ?_
      exact mid2 false (fun _ => mid2h0 rfl)
  iterate 2 refine fst1_ok X (dk rfl) rfl ?_
  refine isSlot_ok X E mlX10_95 ⟨Nat.le_of_ble_eq_true rfl, Nat.le_of_ble_eq_true rfl⟩ ⟨Nat.le_of_ble_eq_true rfl, Nat.le_of_ble_eq_true rfl⟩ (Nat.le_of_ble_eq_true rfl) (dk rfl) (fun mid1b0 mid1h0 => ?_)
  cases mid1b0 with
  | false =>
    refine br_ok X (dk rfl) rfl (show ((5 : Nat) : Int) + 7 = ((12 : Nat) : Int) from rfl) (fun q => absurd q bI_f) (fun _ => ?_)
    refine fst1_ok X (dk rfl) rfl ?_
    refine br_ok X (dk rfl) rfl (show ((9 : Nat) : Int) + 4 = ((13 : Nat) : Int) from rfl) (fun _ => ?_) (fun q => absurd trivial q)
    exact mid1 true (fun z => by cases z)
  | true =>
    refine br_ok X (dk rfl) rfl (show ((5 : Nat) : Int) + 7 = ((12 : Nat) : Int) from rfl) (fun _ => ?_) (fun q => absurd bI_t q)
    refine fst1_ok X (dk rfl) rfl ?_
    exact mid1 false (fun _ => mid1h0 rfl)
set_option maxHeartbeats 4000000 in
theorem c_names (h : AH) (M : MD h o S A sl an a r kn th) (x1 : Int32) : CT la D cA B0 pa yX10_names cX10_names 2 (some .int) (rmD 2 0 0) [.ref o, .int x1] h (intR o S A kn h) := by
  refine CT_of (by decide +kernel) (Nat.le_of_ble_eq_true rfl) ?_
  intro p e s m args below meth c X E hr hlk hnm
  have dk : ∀ {pc : Nat} {q : Instr × Nat}, lkd DX10_names pc = some q → decode cX10_names pc = .ok q := lkd_ok DX10_names_ok
  have mid1 : ∀ t1 : Bool, (t1 = false → inN 6 x1) → WR p la e (rmD 2 0 0) s m args below meth c D cA B0 2 (intR o S A kn h) 13 (lv_args 0 [.ref o, .int x1]) [.int (bI t1), .ref o] h 0 0 := by
    intro t1 ht1
    refine thr1_ok X E M ⟨Nat.le_of_ble_eq_true rfl, Nat.le_of_ble_eq_true rfl⟩ ⟨Nat.le_of_ble_eq_true rfl, Nat.le_of_ble_eq_true rfl⟩ (Nat.le_of_ble_eq_true rfl) (dk rfl) (fun h1 a1 r1 th1 M1 F1 => ?_)
    cases hb : t1 with
    | true =>
      refine br_ok X (dk rfl) rfl (show ((16 : Nat) : Int) + 7 = ((23 : Nat) : Int) from rfl) (fun q => absurd q bI_t) (fun _ => ?_)
      refine fst1_ok X (dk rfl) rfl ?_
      refine br_ok X (dk rfl) rfl (show ((20 : Nat) : Int) + 12 = ((32 : Nat) : Int) from rfl) (fun _ => ?_) (fun q => absurd trivial q)
      exact reti_ok X hr hlk rfl (dk rfl) ⟨⟨_, rfl⟩, ⟨_, _, _, _, _, M1⟩, F1⟩ (Nat.zero_le _) (Nat.zero_le _)
    | false =>
      refine br_ok X (dk rfl) rfl (show ((16 : Nat) : Int) + 7 = ((23 : Nat) : Int) from rfl) (fun _ => ?_) (fun q => absurd bI_f' q)
      obtain ⟨j1, hj1, rfl⟩ := ht1 hb
      obtain ⟨ss, s1, s2, s3⟩ := M1.slot
      obtain ⟨as, a1, a2, a3⟩ := M1.ans
      obtain ⟨b1, y1, e1, f1, g1, w1, n1⟩ := s3 j1 hj1
      have ly1 : (y1.map vI).length = y1.length := List.length_map _
      repeat refine fst1_ok X (dk rfl) rfl ?_
      refine getf_ok X flX10_11 (dk rfl) M1.obj rfl ?_
      refine fst1_ok X (dk rfl) rfl ?_
      refine ldr_ok X (dk rfl) s2 e1 (by omega) ?_
      refine callS_ok (av := [.ref b1]) (r := []) X E (c_namesOf h1 g1 (by omega) w1.lt) lkX10_namesOf mlX10_124 lsX10_namesOf ⟨Nat.le_of_ble_eq_true rfl, Nat.le_of_ble_eq_true rfl⟩ ⟨Nat.le_of_ble_eq_true rfl, Nat.le_of_ble_eq_true rfl⟩ (Nat.le_of_ble_eq_true rfl) (dk rfl) ?_
      rintro v h2 ⟨rfl, rfl⟩
      exact reti_ok X hr hlk rfl (dk rfl) ⟨⟨_, rfl⟩, ⟨_, _, _, _, _, M1⟩, F1⟩ (Nat.le_of_ble_eq_true rfl) (Nat.le_of_ble_eq_true rfl)
  iterate 2 refine fst1_ok X (dk rfl) rfl ?_
  refine isSlot_ok X E mlX10_95 ⟨Nat.le_of_ble_eq_true rfl, Nat.le_of_ble_eq_true rfl⟩ ⟨Nat.le_of_ble_eq_true rfl, Nat.le_of_ble_eq_true rfl⟩ (Nat.le_of_ble_eq_true rfl) (dk rfl) (fun mid1b0 mid1h0 => ?_)
  cases mid1b0 with
  | false =>
    refine br_ok X (dk rfl) rfl (show ((5 : Nat) : Int) + 7 = ((12 : Nat) : Int) from rfl) (fun q => absurd q bI_f) (fun _ => ?_)
    refine fst1_ok X (dk rfl) rfl ?_
    refine br_ok X (dk rfl) rfl (show ((9 : Nat) : Int) + 4 = ((13 : Nat) : Int) from rfl) (fun _ => ?_) (fun q => absurd trivial q)
    exact mid1 true (fun z => by cases z)
  | true =>
    refine br_ok X (dk rfl) rfl (show ((5 : Nat) : Int) + 7 = ((12 : Nat) : Int) from rfl) (fun _ => ?_) (fun q => absurd bI_t q)
    refine fst1_ok X (dk rfl) rfl ?_
    exact mid1 false (fun _ => mid1h0 rfl)
set_option maxHeartbeats 4000000 in
theorem c_differ (h : AH) (M : MD h o S A sl an a r kn th) (x1 x2 : Int32) : CT la D cA B0 pa yX10_differ cX10_differ 3 (some .int) (rmD 2 0 0) [.ref o, .int x1, .int x2] h (intR o S A kn h) := by
  refine CT_of (by decide +kernel) (Nat.le_of_ble_eq_true rfl) ?_
  intro p e s m args below meth c X E hr hlk hnm
  have dk : ∀ {pc : Nat} {q : Instr × Nat}, lkd DX10_differ pc = some q → decode cX10_differ pc = .ok q := lkd_ok DX10_differ_ok
  have mid1 : ∀ t1 : Bool, (t1 = false → inN 6 x1 ∧ inN 6 x2) → WR p la e (rmD 2 0 0) s m args below meth c D cA B0 3 (intR o S A kn h) 20 (lv_args 0 [.ref o, .int x1, .int x2]) [.int (bI t1), .ref o] h 0 0 := by
    intro t1 ht1
    refine thr1_ok X E M ⟨Nat.le_of_ble_eq_true rfl, Nat.le_of_ble_eq_true rfl⟩ ⟨Nat.le_of_ble_eq_true rfl, Nat.le_of_ble_eq_true rfl⟩ (Nat.le_of_ble_eq_true rfl) (dk rfl) (fun h1 a1 r1 th1 M1 F1 => ?_)
    cases hb : t1 with
    | true =>
      refine br_ok X (dk rfl) rfl (show ((23 : Nat) : Int) + 7 = ((30 : Nat) : Int) from rfl) (fun q => absurd q bI_t) (fun _ => ?_)
      refine fst1_ok X (dk rfl) rfl ?_
      refine br_ok X (dk rfl) rfl (show ((27 : Nat) : Int) + 18 = ((45 : Nat) : Int) from rfl) (fun _ => ?_) (fun q => absurd trivial q)
      exact reti_ok X hr hlk rfl (dk rfl) ⟨⟨_, rfl⟩, ⟨_, _, _, _, _, M1⟩, F1⟩ (Nat.zero_le _) (Nat.zero_le _)
    | false =>
      refine br_ok X (dk rfl) rfl (show ((23 : Nat) : Int) + 7 = ((30 : Nat) : Int) from rfl) (fun _ => ?_) (fun q => absurd bI_f' q)
      obtain ⟨⟨j1, hj1, rfl⟩, ⟨j2, hj2, rfl⟩⟩ := ht1 hb
      obtain ⟨ss, s1, s2, s3⟩ := M1.slot
      obtain ⟨as, a1, a2, a3⟩ := M1.ans
      obtain ⟨b1, y1, e1, f1, g1, w1, n1⟩ := s3 j1 hj1
      have ly1 : (y1.map vI).length = y1.length := List.length_map _
      obtain ⟨b2, y2, e2, f2, g2, w2, n2⟩ := s3 j2 hj2
      have ly2 : (y2.map vI).length = y2.length := List.length_map _
      repeat refine fst1_ok X (dk rfl) rfl ?_
      refine getf_ok X flX10_11 (dk rfl) M1.obj rfl ?_
      refine fst1_ok X (dk rfl) rfl ?_
      refine ldr_ok X (dk rfl) s2 e1 (by omega) ?_
      repeat refine fst1_ok X (dk rfl) rfl ?_
      refine getf_ok X flX10_11 (dk rfl) M1.obj rfl ?_
      refine fst1_ok X (dk rfl) rfl ?_
      refine ldr_ok X (dk rfl) s2 e2 (by omega) ?_
      refine callS_ok (av := [.ref b1, .ref b2]) (r := []) X E (c_first h1 g1 g2 (by omega) (by omega) w1.lt w2.lt) lkX10_first mlX10_44 lsX10_first ⟨Nat.le_of_ble_eq_true rfl, Nat.le_of_ble_eq_true rfl⟩ ⟨Nat.le_of_ble_eq_true rfl, Nat.le_of_ble_eq_true rfl⟩ (Nat.le_of_ble_eq_true rfl) (dk rfl) ?_
      rintro v h2 ⟨rfl, rfl⟩
      cases hd : diffAt y1 y2 with
      | none =>
        exact reti_ok X hr hlk rfl (dk rfl) ⟨⟨_, rfl⟩, ⟨_, _, _, _, _, M1⟩, F1⟩ (Nat.le_of_ble_eq_true rfl) (Nat.le_of_ble_eq_true rfl)
      | some d =>
        exact reti_ok X hr hlk rfl (dk rfl) ⟨⟨_, rfl⟩, ⟨_, _, _, _, _, M1⟩, F1⟩ (Nat.le_of_ble_eq_true rfl) (Nat.le_of_ble_eq_true rfl)
  iterate 2 refine fst1_ok X (dk rfl) rfl ?_
  refine isSlot_ok X E mlX10_95 ⟨Nat.le_of_ble_eq_true rfl, Nat.le_of_ble_eq_true rfl⟩ ⟨Nat.le_of_ble_eq_true rfl, Nat.le_of_ble_eq_true rfl⟩ (Nat.le_of_ble_eq_true rfl) (dk rfl) (fun mid1b0 mid1h0 => ?_)
  cases mid1b0 with
  | false =>
    refine br_ok X (dk rfl) rfl (show ((5 : Nat) : Int) + 10 = ((15 : Nat) : Int) from rfl) (fun _ => ?_) (fun q => absurd bI_f' q)
    refine fst1_ok X (dk rfl) rfl ?_
    refine br_ok X (dk rfl) rfl (show ((16 : Nat) : Int) + 4 = ((20 : Nat) : Int) from rfl) (fun _ => ?_) (fun q => absurd trivial q)
    exact mid1 true (fun z => by cases z)
  | true =>
    refine br_ok X (dk rfl) rfl (show ((5 : Nat) : Int) + 10 = ((15 : Nat) : Int) from rfl) (fun q => absurd q bI_t) (fun _ => ?_)
    iterate 1 refine fst1_ok X (dk rfl) rfl ?_
    refine isSlot_ok X E mlX10_95 ⟨Nat.le_of_ble_eq_true rfl, Nat.le_of_ble_eq_true rfl⟩ ⟨Nat.le_of_ble_eq_true rfl, Nat.le_of_ble_eq_true rfl⟩ (Nat.le_of_ble_eq_true rfl) (dk rfl) (fun mid1b1 mid1h1 => ?_)
    cases mid1b1 with
    | false =>
      refine br_ok X (dk rfl) rfl (show ((12 : Nat) : Int) + 7 = ((19 : Nat) : Int) from rfl) (fun q => absurd q bI_f) (fun _ => ?_)
      refine fst1_ok X (dk rfl) rfl ?_
      refine br_ok X (dk rfl) rfl (show ((16 : Nat) : Int) + 4 = ((20 : Nat) : Int) from rfl) (fun _ => ?_) (fun q => absurd trivial q)
      exact mid1 true (fun z => by cases z)
    | true =>
      refine br_ok X (dk rfl) rfl (show ((12 : Nat) : Int) + 7 = ((19 : Nat) : Int) from rfl) (fun _ => ?_) (fun q => absurd bI_t q)
      refine fst1_ok X (dk rfl) rfl ?_
      exact mid1 false (fun _ => ⟨mid1h0 rfl, mid1h1 rfl⟩)
set_option maxHeartbeats 4000000 in
theorem c_moved (h : AH) (M : MD h o S A sl an a r kn th) (x1 : Int32) : CT la D cA B0 pa yX10_moved cX10_moved 2 (some .int) (rmD 4 8 8) [.ref o, .int x1] h (intR o S A kn h) := by
  refine CT_of (by decide +kernel) (Nat.le_of_ble_eq_true rfl) ?_
  intro p e s m args below meth c X E hr hlk hnm
  have dk : ∀ {pc : Nat} {q : Instr × Nat}, lkd DX10_moved pc = some q → decode cX10_moved pc = .ok q := lkd_ok DX10_moved_ok
  have mid1 : ∀ t1 : Bool, (t1 = false → inN 3 x1) → WR p la e (rmD 4 8 8) s m args below meth c D cA B0 2 (intR o S A kn h) 13 (lv_args 0 [.ref o, .int x1]) [.int (bI t1), .ref o] h 0 0 := by
    intro t1 ht1
    refine thr1_ok X E M ⟨Nat.le_of_ble_eq_true rfl, Nat.le_of_ble_eq_true rfl⟩ ⟨Nat.le_of_ble_eq_true rfl, Nat.le_of_ble_eq_true rfl⟩ (Nat.le_of_ble_eq_true rfl) (dk rfl) (fun h1 a1 r1 th1 M1 F1 => ?_)
    cases hb : t1 with
    | true =>
      refine br_ok X (dk rfl) rfl (show ((16 : Nat) : Int) + 7 = ((23 : Nat) : Int) from rfl) (fun q => absurd q bI_t) (fun _ => ?_)
      refine fst1_ok X (dk rfl) rfl ?_
      refine br_ok X (dk rfl) rfl (show ((20 : Nat) : Int) + 12 = ((32 : Nat) : Int) from rfl) (fun _ => ?_) (fun q => absurd trivial q)
      exact reti_ok X hr hlk rfl (dk rfl) ⟨⟨_, rfl⟩, ⟨_, _, _, _, _, M1⟩, F1⟩ (Nat.zero_le _) (Nat.zero_le _)
    | false =>
      refine br_ok X (dk rfl) rfl (show ((16 : Nat) : Int) + 7 = ((23 : Nat) : Int) from rfl) (fun _ => ?_) (fun q => absurd bI_f' q)
      obtain ⟨j1, hj1, rfl⟩ := ht1 hb
      obtain ⟨ss, s1, s2, s3⟩ := M1.slot
      obtain ⟨as, a1, a2, a3⟩ := M1.ans
      obtain ⟨b1, y1, e1, f1, g1, w1, n1⟩ := a3 j1 hj1
      repeat refine fst1_ok X (dk rfl) rfl ?_
      refine getf_ok X flX10_16 (dk rfl) M1.obj rfl ?_
      refine fst1_ok X (dk rfl) rfl ?_
      refine lda_ok X (dk rfl) a2 e1 (by omega) ?_
      refine callS_ok (av := [.ref b1]) (r := []) X E (c_movedBy h1 g1 w1) lkX10_movedBy mlX10_141 lsX10_movedBy ⟨Nat.le_of_ble_eq_true rfl, Nat.le_of_ble_eq_true rfl⟩ ⟨Nat.le_of_ble_eq_true rfl, Nat.le_of_ble_eq_true rfl⟩ (Nat.le_of_ble_eq_true rfl) (dk rfl) ?_
      rintro v h2 ⟨rfl, E1⟩
      exact reti_ok X hr hlk rfl (dk rfl) ⟨⟨_, rfl⟩, ⟨_, _, _, _, _, (M1.ext E1)⟩, F1.trans (Fr.ext E1)⟩ (Nat.le_of_ble_eq_true rfl) (Nat.le_of_ble_eq_true rfl)
  iterate 2 refine fst1_ok X (dk rfl) rfl ?_
  refine isAnswer_ok X E mlX10_135 ⟨Nat.le_of_ble_eq_true rfl, Nat.le_of_ble_eq_true rfl⟩ ⟨Nat.le_of_ble_eq_true rfl, Nat.le_of_ble_eq_true rfl⟩ (Nat.le_of_ble_eq_true rfl) (dk rfl) (fun mid1b0 mid1h0 => ?_)
  cases mid1b0 with
  | false =>
    refine br_ok X (dk rfl) rfl (show ((5 : Nat) : Int) + 7 = ((12 : Nat) : Int) from rfl) (fun q => absurd q bI_f) (fun _ => ?_)
    refine fst1_ok X (dk rfl) rfl ?_
    refine br_ok X (dk rfl) rfl (show ((9 : Nat) : Int) + 4 = ((13 : Nat) : Int) from rfl) (fun _ => ?_) (fun q => absurd trivial q)
    exact mid1 true (fun z => by cases z)
  | true =>
    refine br_ok X (dk rfl) rfl (show ((5 : Nat) : Int) + 7 = ((12 : Nat) : Int) from rfl) (fun _ => ?_) (fun q => absurd bI_t q)
    refine fst1_ok X (dk rfl) rfl ?_
    exact mid1 false (fun _ => mid1h0 rfl)
set_option maxHeartbeats 4000000 in
theorem c_unlike (h : AH) (M : MD h o S A sl an a r kn th) (x1 x2 : Int32) : CT la D cA B0 pa yX10_unlike cX10_unlike 3 (some .int) (rmD 4 0 0) [.ref o, .int x1, .int x2] h (intR o S A kn h) := by
  refine CT_of (by decide +kernel) (Nat.le_of_ble_eq_true rfl) ?_
  intro p e s m args below meth c X E hr hlk hnm
  have dk : ∀ {pc : Nat} {q : Instr × Nat}, lkd DX10_unlike pc = some q → decode cX10_unlike pc = .ok q := lkd_ok DX10_unlike_ok
  have mid1 : ∀ t1 : Bool, (t1 = false → inN 3 x1 ∧ inN 3 x2) → WR p la e (rmD 4 0 0) s m args below meth c D cA B0 3 (intR o S A kn h) 20 (lv_args 0 [.ref o, .int x1, .int x2]) [.int (bI t1), .ref o] h 0 0 := by
    intro t1 ht1
    refine thr1_ok X E M ⟨Nat.le_of_ble_eq_true rfl, Nat.le_of_ble_eq_true rfl⟩ ⟨Nat.le_of_ble_eq_true rfl, Nat.le_of_ble_eq_true rfl⟩ (Nat.le_of_ble_eq_true rfl) (dk rfl) (fun h1 a1 r1 th1 M1 F1 => ?_)
    cases hb : t1 with
    | true =>
      refine br_ok X (dk rfl) rfl (show ((23 : Nat) : Int) + 7 = ((30 : Nat) : Int) from rfl) (fun q => absurd q bI_t) (fun _ => ?_)
      refine fst1_ok X (dk rfl) rfl ?_
      refine br_ok X (dk rfl) rfl (show ((27 : Nat) : Int) + 18 = ((45 : Nat) : Int) from rfl) (fun _ => ?_) (fun q => absurd trivial q)
      exact reti_ok X hr hlk rfl (dk rfl) ⟨⟨_, rfl⟩, ⟨_, _, _, _, _, M1⟩, F1⟩ (Nat.zero_le _) (Nat.zero_le _)
    | false =>
      refine br_ok X (dk rfl) rfl (show ((23 : Nat) : Int) + 7 = ((30 : Nat) : Int) from rfl) (fun _ => ?_) (fun q => absurd bI_f' q)
      obtain ⟨⟨j1, hj1, rfl⟩, ⟨j2, hj2, rfl⟩⟩ := ht1 hb
      obtain ⟨ss, s1, s2, s3⟩ := M1.slot
      obtain ⟨as, a1, a2, a3⟩ := M1.ans
      obtain ⟨b1, y1, e1, f1, g1, w1, n1⟩ := a3 j1 hj1
      obtain ⟨b2, y2, e2, f2, g2, w2, n2⟩ := a3 j2 hj2
      repeat refine fst1_ok X (dk rfl) rfl ?_
      refine getf_ok X flX10_16 (dk rfl) M1.obj rfl ?_
      refine fst1_ok X (dk rfl) rfl ?_
      refine lda_ok X (dk rfl) a2 e1 (by omega) ?_
      repeat refine fst1_ok X (dk rfl) rfl ?_
      refine getf_ok X flX10_16 (dk rfl) M1.obj rfl ?_
      refine fst1_ok X (dk rfl) rfl ?_
      refine lda_ok X (dk rfl) a2 e2 (by omega) ?_
      refine callS_ok (av := [.ref b1, .ref b2]) (r := []) X E (c_unlikeOf h1 g1 g2 w1.aw w2.aw) lkX10_unlikeOf mlX10_214 lsX10_unlikeOf ⟨Nat.le_of_ble_eq_true rfl, Nat.le_of_ble_eq_true rfl⟩ ⟨Nat.le_of_ble_eq_true rfl, Nat.le_of_ble_eq_true rfl⟩ (Nat.le_of_ble_eq_true rfl) (dk rfl) ?_
      rintro v h2 ⟨⟨d, rfl, -, -⟩, rfl⟩
      cases d with
      | none =>
        exact reti_ok X hr hlk rfl (dk rfl) ⟨⟨_, rfl⟩, ⟨_, _, _, _, _, M1⟩, F1⟩ (Nat.le_of_ble_eq_true rfl) (Nat.le_of_ble_eq_true rfl)
      | some d =>
        exact reti_ok X hr hlk rfl (dk rfl) ⟨⟨_, rfl⟩, ⟨_, _, _, _, _, M1⟩, F1⟩ (Nat.le_of_ble_eq_true rfl) (Nat.le_of_ble_eq_true rfl)
  iterate 2 refine fst1_ok X (dk rfl) rfl ?_
  refine isAnswer_ok X E mlX10_135 ⟨Nat.le_of_ble_eq_true rfl, Nat.le_of_ble_eq_true rfl⟩ ⟨Nat.le_of_ble_eq_true rfl, Nat.le_of_ble_eq_true rfl⟩ (Nat.le_of_ble_eq_true rfl) (dk rfl) (fun mid1b0 mid1h0 => ?_)
  cases mid1b0 with
  | false =>
    refine br_ok X (dk rfl) rfl (show ((5 : Nat) : Int) + 10 = ((15 : Nat) : Int) from rfl) (fun _ => ?_) (fun q => absurd bI_f' q)
    refine fst1_ok X (dk rfl) rfl ?_
    refine br_ok X (dk rfl) rfl (show ((16 : Nat) : Int) + 4 = ((20 : Nat) : Int) from rfl) (fun _ => ?_) (fun q => absurd trivial q)
    exact mid1 true (fun z => by cases z)
  | true =>
    refine br_ok X (dk rfl) rfl (show ((5 : Nat) : Int) + 10 = ((15 : Nat) : Int) from rfl) (fun q => absurd q bI_t) (fun _ => ?_)
    iterate 1 refine fst1_ok X (dk rfl) rfl ?_
    refine isAnswer_ok X E mlX10_135 ⟨Nat.le_of_ble_eq_true rfl, Nat.le_of_ble_eq_true rfl⟩ ⟨Nat.le_of_ble_eq_true rfl, Nat.le_of_ble_eq_true rfl⟩ (Nat.le_of_ble_eq_true rfl) (dk rfl) (fun mid1b1 mid1h1 => ?_)
    cases mid1b1 with
    | false =>
      refine br_ok X (dk rfl) rfl (show ((12 : Nat) : Int) + 7 = ((19 : Nat) : Int) from rfl) (fun q => absurd q bI_f) (fun _ => ?_)
      refine fst1_ok X (dk rfl) rfl ?_
      refine br_ok X (dk rfl) rfl (show ((16 : Nat) : Int) + 4 = ((20 : Nat) : Int) from rfl) (fun _ => ?_) (fun q => absurd trivial q)
      exact mid1 true (fun z => by cases z)
    | true =>
      refine br_ok X (dk rfl) rfl (show ((12 : Nat) : Int) + 7 = ((19 : Nat) : Int) from rfl) (fun _ => ?_) (fun q => absurd bI_t q)
      refine fst1_ok X (dk rfl) rfl ?_
      exact mid1 false (fun _ => ⟨mid1h0 rfl, mid1h1 rfl⟩)
set_option maxHeartbeats 4000000 in
theorem c_find (h : AH) (M : MD h o S A sl an a r kn th) (x1 x2 : Int32) : CT la D cA B0 pa yX10_find cX10_find 4 (some .int) (rmD 3 0 0) [.ref o, .int x1, .int x2] h (intR o S A kn h) := by
  refine CT_of (by decide +kernel) (Nat.le_of_ble_eq_true rfl) ?_
  intro p e s m args below meth c X E hr hlk hnm
  have dk : ∀ {pc : Nat} {q : Instr × Nat}, lkd DX10_find pc = some q → decode cX10_find pc = .ok q := lkd_ok DX10_find_ok
  have mid1 : ∀ t1 : Bool, (t1 = false → inN 6 x1 ∧ inN 6 x2) → WR p la e (rmD 3 0 0) s m args below meth c D cA B0 4 (intR o S A kn h) 20 (lv_args 0 [.ref o, .int x1, .int x2]) [.int (bI t1), .ref o] h 0 0 := by
    intro t1 ht1
    refine thr1_ok X E M ⟨Nat.le_of_ble_eq_true rfl, Nat.le_of_ble_eq_true rfl⟩ ⟨Nat.le_of_ble_eq_true rfl, Nat.le_of_ble_eq_true rfl⟩ (Nat.le_of_ble_eq_true rfl) (dk rfl) (fun h1 a1 r1 th1 M1 F1 => ?_)
    cases hb : t1 with
    | true =>
      refine br_ok X (dk rfl) rfl (show ((23 : Nat) : Int) + 5 = ((28 : Nat) : Int) from rfl) (fun q => absurd q bI_t) (fun _ => ?_)
      refine fst1_ok X (dk rfl) rfl ?_
      exact reti_ok X hr hlk rfl (dk rfl) ⟨⟨_, rfl⟩, ⟨_, _, _, _, _, M1⟩, F1⟩ (Nat.zero_le _) (Nat.zero_le _)
    | false =>
      refine br_ok X (dk rfl) rfl (show ((23 : Nat) : Int) + 5 = ((28 : Nat) : Int) from rfl) (fun _ => ?_) (fun q => absurd bI_f' q)
      obtain ⟨⟨j1, hj1, rfl⟩, ⟨j2, hj2, rfl⟩⟩ := ht1 hb
      obtain ⟨ss, s1, s2, s3⟩ := M1.slot
      obtain ⟨as, a1, a2, a3⟩ := M1.ans
      obtain ⟨b1, y1, e1, f1, g1, w1, n1⟩ := s3 j1 hj1
      have ly1 : (y1.map vI).length = y1.length := List.length_map _
      obtain ⟨b2, y2, e2, f2, g2, w2, n2⟩ := s3 j2 hj2
      have ly2 : (y2.map vI).length = y2.length := List.length_map _
      have loop : ∀ (d i : Nat), d = y1.length - i → i ≤ y1.length → ∀ (l : List (Nat × Value)), lsel l [3, 2, 1, 0] = [(3, vI i), (2, vI j2), (1, vI j1), (0, .ref o)] → WR p la e (rmD 3 0 0) s m args below meth c D cA B0 4 (intR o S A kn h) 30 l [] h1 0 0 := by
        intro d
        induction d with
        | zero =>
          intro i hd hi l hl
          have hi2 : i = y1.length := by omega
          subst hi2
          refine WS.sel [3, 2, 1, 0] hl ?_
          repeat refine fst1_ok X (dk rfl) rfl ?_
          refine getf_ok X flX10_11 (dk rfl) M1.obj rfl ?_
          refine fst1_ok X (dk rfl) rfl ?_
          refine ldr_ok X (dk rfl) s2 e1 (by omega) ?_
          refine alen_ok X (by decide) (dk rfl) g1 ?_
          rw [ly1]
          refine br_ok X (dk rfl) rfl (show ((38 : Nat) : Int) + 31 = ((69 : Nat) : Int) from rfl) (fun _ => ?_) (fun c1 => absurd (Int32.le_refl _) c1)
          repeat refine fst1_ok X (dk rfl) rfl ?_
          exact reti_ok X hr hlk rfl (dk rfl) ⟨⟨_, rfl⟩, ⟨_, _, _, _, _, M1⟩, F1⟩ (Nat.le_of_ble_eq_true rfl) (Nat.le_of_ble_eq_true rfl)
        | succ d ih =>
          intro i hd hi l hl
          obtain ⟨k0, t1, t2, t3, t4⟩ := w1.at (j := i) (by omega)
          have f2 : Value.int (nI i + Int32.ofInt 1) = vI (i + 1) := congrArg Value.int (by rw [nI_1', nI_add])
          refine WS.sel [3, 2, 1, 0] hl ?_
          repeat refine fst1_ok X (dk rfl) rfl ?_
          refine getf_ok X flX10_11 (dk rfl) M1.obj rfl ?_
          refine fst1_ok X (dk rfl) rfl ?_
          refine ldr_ok X (dk rfl) s2 e1 (by omega) ?_
          refine alen_ok X (by decide) (dk rfl) g1 ?_
          rw [ly1]
          refine br_ok X (dk rfl) rfl (show ((38 : Nat) : Int) + 31 = ((69 : Nat) : Int) from rfl) (fun c1 => absurd c1 (nI_ge (by omega) (by omega))) (fun _ => ?_)
          repeat refine fst1_ok X (dk rfl) rfl ?_
          refine getf_ok X flX10_11 (dk rfl) M1.obj rfl ?_
          refine fst1_ok X (dk rfl) rfl ?_
          refine ldr_ok X (dk rfl) s2 e1 (by omega) ?_
          repeat refine fst1_ok X (dk rfl) rfl ?_
          refine getf_ok X flX10_11 (dk rfl) M1.obj rfl ?_
          refine fst1_ok X (dk rfl) rfl ?_
          refine ldr_ok X (dk rfl) s2 e2 (by omega) ?_
          refine fst1_ok X (dk rfl) rfl ?_
          refine callS_ok (av := [.ref b1, vI i, .ref b2, vI 0]) (r := []) X E (c_isAt h1 g1 g2 (by omega) (by omega) w1.lt w2.lt t1 (by rw [List.drop_zero]; exact w2.1)) lkX10_isAt mlX10_70 lsX10_isAt ⟨Nat.le_of_ble_eq_true rfl, Nat.le_of_ble_eq_true rfl⟩ ⟨Nat.le_of_ble_eq_true rfl, Nat.le_of_ble_eq_true rfl⟩ (Nat.le_of_ble_eq_true rfl) (dk rfl) ?_
          rintro v h2 ⟨rfl, rfl⟩
          rw [ite_bI]
          cases hz : decide ((y1.drop i).take k0 = (y2.drop 0).take y2.length) with
          | false =>
            refine br_ok X (dk rfl) rfl (show ((58 : Nat) : Int) + 5 = ((63 : Nat) : Int) from rfl) (fun _ => ?_) (fun q => absurd bI_f' q)
            repeat refine fst1_ok X (dk rfl) rfl ?_
            refine br_ok X (dk rfl) rfl (show ((66 : Nat) : Int) + (-36) = ((30 : Nat) : Int) from rfl) (fun _ => ?_) (fun q => absurd trivial q)
            refine WS.sel (l' := [(3, vI (i + 1)), (2, vI j2), (1, vI j1), (0, .ref o)]) [3, 2, 1, 0] (by rw [← f2]; rfl) ?_
            exact ih (i + 1) (by omega) (by omega) _ rfl
          | true =>
            refine br_ok X (dk rfl) rfl (show ((58 : Nat) : Int) + 5 = ((63 : Nat) : Int) from rfl) (fun q => absurd q bI_t) (fun _ => ?_)
            refine fst1_ok X (dk rfl) rfl ?_
            exact reti_ok X hr hlk rfl (dk rfl) ⟨⟨_, rfl⟩, ⟨_, _, _, _, _, M1⟩, F1⟩ (Nat.le_of_ble_eq_true rfl) (Nat.le_of_ble_eq_true rfl)
      iterate 2 refine fst1_ok X (dk rfl) rfl ?_
      exact loop _ 0 rfl (Nat.zero_le _) _ rfl
  iterate 2 refine fst1_ok X (dk rfl) rfl ?_
  refine isSlot_ok X E mlX10_95 ⟨Nat.le_of_ble_eq_true rfl, Nat.le_of_ble_eq_true rfl⟩ ⟨Nat.le_of_ble_eq_true rfl, Nat.le_of_ble_eq_true rfl⟩ (Nat.le_of_ble_eq_true rfl) (dk rfl) (fun mid1b0 mid1h0 => ?_)
  cases mid1b0 with
  | false =>
    refine br_ok X (dk rfl) rfl (show ((5 : Nat) : Int) + 10 = ((15 : Nat) : Int) from rfl) (fun _ => ?_) (fun q => absurd bI_f' q)
    refine fst1_ok X (dk rfl) rfl ?_
    refine br_ok X (dk rfl) rfl (show ((16 : Nat) : Int) + 4 = ((20 : Nat) : Int) from rfl) (fun _ => ?_) (fun q => absurd trivial q)
    exact mid1 true (fun z => by cases z)
  | true =>
    refine br_ok X (dk rfl) rfl (show ((5 : Nat) : Int) + 10 = ((15 : Nat) : Int) from rfl) (fun q => absurd q bI_t) (fun _ => ?_)
    iterate 1 refine fst1_ok X (dk rfl) rfl ?_
    refine isSlot_ok X E mlX10_95 ⟨Nat.le_of_ble_eq_true rfl, Nat.le_of_ble_eq_true rfl⟩ ⟨Nat.le_of_ble_eq_true rfl, Nat.le_of_ble_eq_true rfl⟩ (Nat.le_of_ble_eq_true rfl) (dk rfl) (fun mid1b1 mid1h1 => ?_)
    cases mid1b1 with
    | false =>
      refine br_ok X (dk rfl) rfl (show ((12 : Nat) : Int) + 7 = ((19 : Nat) : Int) from rfl) (fun q => absurd q bI_f) (fun _ => ?_)
      refine fst1_ok X (dk rfl) rfl ?_
      refine br_ok X (dk rfl) rfl (show ((16 : Nat) : Int) + 4 = ((20 : Nat) : Int) from rfl) (fun _ => ?_) (fun q => absurd trivial q)
      exact mid1 true (fun z => by cases z)
    | true =>
      refine br_ok X (dk rfl) rfl (show ((12 : Nat) : Int) + 7 = ((19 : Nat) : Int) from rfl) (fun _ => ?_) (fun q => absurd bI_t q)
      refine fst1_ok X (dk rfl) rfl ?_
      exact mid1 false (fun _ => ⟨mid1h0 rfl, mid1h1 rfl⟩)
end M39
end
section
/-! is, makes, isSo, told, knock, isSound, added, house -/
theorem cs10_224 : Cond.constantLong RX10 224 31 ∈ WT := WT_of (by decide +kernel) rfl
section M39
variable {la : Launch} {D : va_G} {cA : Nat → ClassId} {B0 pa : Nat} {o S A : Nat} {sl : List (List Nat)} {an : List (List (List Nat))} {a r kn th : Int32}
set_option maxHeartbeats 4000000 in
theorem c_is (h : AH) (M : MD h o S A sl an a r kn th) (x1 x2 x3 : Int32) : CT la D cA B0 pa yX10_is cX10_is 4 (some .boolean) (rmD 4 25 48) [.ref o, .int x1, .int x2, .int x3] h (booR o S A kn h) := by
  refine CT_of (by decide +kernel) (Nat.le_of_ble_eq_true rfl) ?_
  intro p e s m args below meth c X E hr hlk hnm
  have dk : ∀ {pc : Nat} {q : Instr × Nat}, lkd DX10_is pc = some q → decode cX10_is pc = .ok q := lkd_ok DX10_is_ok
  have mid2 : ∀ t1 t2 : Bool, (t1 = false → inN 6 x1 ∧ inN 6 x2) → (t2 = false → inN 3 x3) → WR p la e (rmD 4 25 48) s m args below meth c D cA B0 4 (booR o S A kn h) 34 (lv_args 0 [.ref o, .int x1, .int x2, .int x3]) [.int (bI t2), .int (bI t1), .ref o] h 0 0 := by
    intro t1 t2 ht1 ht2
    refine thr2_ok X E M ⟨Nat.le_of_ble_eq_true rfl, Nat.le_of_ble_eq_true rfl⟩ ⟨Nat.le_of_ble_eq_true rfl, Nat.le_of_ble_eq_true rfl⟩ (Nat.le_of_ble_eq_true rfl) (dk rfl) (fun h1 a1 r1 th1 M1 F1 => ?_)
    cases hb : (t1 || t2) with
    | true =>
      refine br_ok X (dk rfl) rfl (show ((37 : Nat) : Int) + 5 = ((42 : Nat) : Int) from rfl) (fun q => absurd q bI_t) (fun _ => ?_)
      refine fst1_ok X (dk rfl) rfl ?_
      exact reti_ok X hr hlk (bI_n false) (dk rfl) ⟨⟨false, rfl⟩, ⟨_, _, _, _, _, M1⟩, F1⟩ (Nat.zero_le _) (Nat.zero_le _)
    | false =>
      refine br_ok X (dk rfl) rfl (show ((37 : Nat) : Int) + 5 = ((42 : Nat) : Int) from rfl) (fun _ => ?_) (fun q => absurd bI_f' q)
      obtain ⟨hb1, hb2⟩ := Bool.or_eq_false_iff.mp hb
      obtain ⟨⟨j1, hj1, rfl⟩, ⟨j2, hj2, rfl⟩⟩ := ht1 hb1
      obtain ⟨j3, hj3, rfl⟩ := ht2 hb2
      obtain ⟨ss, s1, s2, s3⟩ := M1.slot
      obtain ⟨as, a1, a2, a3⟩ := M1.ans
      obtain ⟨b1, y1, e1, f1, g1, w1, n1⟩ := s3 j1 hj1
      have ly1 : (y1.map vI).length = y1.length := List.length_map _
      obtain ⟨b2, y2, e2, f2, g2, w2, n2⟩ := s3 j2 hj2
      have ly2 : (y2.map vI).length = y2.length := List.length_map _
      repeat refine fst1_ok X (dk rfl) rfl ?_
      refine br_ok X (dk rfl) rfl (show ((44 : Nat) : Int) + 27 = ((71 : Nat) : Int) from rfl) (fun _ => ?_) (fun _ => ?_)
      · repeat refine fst1_ok X (dk rfl) rfl ?_
        refine br_ok X (dk rfl) rfl (show ((72 : Nat) : Int) + 21 = ((93 : Nat) : Int) from rfl) (fun _ => ?_) (fun _ => ?_)
        · repeat refine fst1_ok X (dk rfl) rfl ?_
          refine getf_ok X flX10_11 (dk rfl) M1.obj rfl ?_
          refine fst1_ok X (dk rfl) rfl ?_
          refine ldr_ok X (dk rfl) s2 e1 (by omega) ?_
          refine callS_ok (av := [.ref b1]) (r := []) X E (c_plainOf h1 g1 w1.2 n1) lkX10_plainOf mlX10_131 lsX10_plainOf ⟨Nat.le_of_ble_eq_true rfl, Nat.le_of_ble_eq_true rfl⟩ ⟨Nat.le_of_ble_eq_true rfl, by show 0 + (8 + y1.length) ≤ 48; omega⟩ (Nat.le_of_ble_eq_true rfl) (dk rfl) ?_
          rintro v h2 ⟨q, rfl, hq, hBq, XQ, hQ⟩
          obtain ⟨tp1, lp1⟩ := w1.plain
          obtain ⟨tp2, lp2⟩ := w2.plain
          refine WS.widen (k' := 2) (n' := 24) (Nat.le_of_ble_eq_true rfl) (by show 0 + (8 + y1.length) ≤ 24; omega) ?_
          have M2 := M1.ext XQ
          repeat refine fst1_ok X (dk rfl) rfl ?_
          refine getf_ok X flX10_11 (dk rfl) M2.obj rfl ?_
          refine fst1_ok X (dk rfl) rfl ?_
          refine ldr_ok X (dk rfl) (XQ _ _ s2) e2 (by omega) ?_
          refine callS_ok (av := [.ref b2]) (r := [.ref q]) X E (c_plainOf h2 (XQ _ _ g2) w2.2 n2) lkX10_plainOf mlX10_131 lsX10_plainOf ⟨Nat.le_of_ble_eq_true rfl, Nat.le_of_ble_eq_true rfl⟩ ⟨Nat.le_of_ble_eq_true rfl, by show 24 + (8 + y2.length) ≤ 48; omega⟩ (Nat.le_of_ble_eq_true rfl) (dk rfl) ?_
          rintro v h3 ⟨q3, rfl, hq3, hBq3, XQ3, hQ3⟩
          refine WS.widen (k' := 4) (n' := 48) (Nat.le_of_ble_eq_true rfl) (by show 24 + (8 + y2.length) ≤ 48; omega) ?_
          have M3 := M2.ext XQ3
          refine callS_ok (av := [.ref q, .ref q3]) (r := []) X E (c_same h3 (XQ3 _ _ hQ) hQ3 (by omega) (by omega) tp1.lt tp2.lt) lkX10_same mlX10_54 lsX10_same ⟨Nat.le_of_ble_eq_true rfl, Nat.le_of_ble_eq_true rfl⟩ ⟨Nat.le_of_ble_eq_true rfl, Nat.le_of_ble_eq_true rfl⟩ (Nat.le_of_ble_eq_true rfl) (dk rfl) ?_
          rintro v h4 ⟨rfl, rfl⟩
          rw [ite_bI]
          exact reti_ok X hr hlk (bI_n _) (dk rfl) ⟨⟨_, rfl⟩, ⟨_, _, _, _, _, M3⟩, F1.trans (Fr.ext (XQ.trans XQ3))⟩ (Nat.le_of_ble_eq_true rfl) (Nat.le_of_ble_eq_true rfl)
        · repeat refine fst1_ok X (dk rfl) rfl ?_
          refine getf_ok X flX10_11 (dk rfl) M1.obj rfl ?_
          refine fst1_ok X (dk rfl) rfl ?_
          refine ldr_ok X (dk rfl) s2 e1 (by omega) ?_
          repeat refine fst1_ok X (dk rfl) rfl ?_
          refine getf_ok X flX10_11 (dk rfl) M1.obj rfl ?_
          refine fst1_ok X (dk rfl) rfl ?_
          refine ldr_ok X (dk rfl) s2 e2 (by omega) ?_
          refine callS_ok (av := [.ref b1, .ref b2]) (r := []) X E (c_same h1 g1 g2 (by omega) (by omega) w1.lt w2.lt) lkX10_same mlX10_54 lsX10_same ⟨Nat.le_of_ble_eq_true rfl, Nat.le_of_ble_eq_true rfl⟩ ⟨Nat.le_of_ble_eq_true rfl, Nat.le_of_ble_eq_true rfl⟩ (Nat.le_of_ble_eq_true rfl) (dk rfl) ?_
          rintro v h4 ⟨rfl, rfl⟩
          rw [ite_bI]
          refine br_ok X (dk rfl) rfl (show ((90 : Nat) : Int) + 24 = ((114 : Nat) : Int) from rfl) (fun _ => ?_) (fun q => absurd trivial q)
          exact reti_ok X hr hlk (bI_n _) (dk rfl) ⟨⟨_, rfl⟩, ⟨_, _, _, _, _, M1⟩, F1⟩ (Nat.le_of_ble_eq_true rfl) (Nat.le_of_ble_eq_true rfl)
      · repeat refine fst1_ok X (dk rfl) rfl ?_
        refine getf_ok X flX10_11 (dk rfl) M1.obj rfl ?_
        refine fst1_ok X (dk rfl) rfl ?_
        refine ldr_ok X (dk rfl) s2 e2 (by omega) ?_
        repeat refine fst1_ok X (dk rfl) rfl ?_
        refine getf_ok X flX10_11 (dk rfl) M1.obj rfl ?_
        refine fst1_ok X (dk rfl) rfl ?_
        refine ldr_ok X (dk rfl) s2 e1 (by omega) ?_
        refine callS_ok (av := [.ref b2, .ref b1]) (r := []) X E (c_matched h1 g2 g1 w2.2 w1 n2 n1) lkX10_matched mlX10_169 lsX10_matched ⟨Nat.le_of_ble_eq_true rfl, Nat.le_of_ble_eq_true rfl⟩ ⟨Nat.le_of_ble_eq_true rfl, Nat.le_of_ble_eq_true rfl⟩ (Nat.le_of_ble_eq_true rfl) (dk rfl) ?_
        rintro v h2 ⟨hP, -⟩
        cases hm : matchL y2 y1 with
        | none =>
          rw [hm] at hP
          obtain ⟨rfl, XQ⟩ := hP
          refine br_ok X (dk rfl) rfl (show ((62 : Nat) : Int) + 7 = ((69 : Nat) : Int) from rfl) (fun _ => ?_) (fun q => absurd trivial q)
          refine fst1_ok X (dk rfl) rfl ?_
          exact reti_ok X hr hlk (bI_n false) (dk rfl) ⟨⟨false, rfl⟩, ⟨_, _, _, _, _, (M1.ext XQ)⟩, F1.trans (Fr.ext XQ)⟩ (Nat.le_of_ble_eq_true rfl) (Nat.le_of_ble_eq_true rfl)
        | some rows =>
          rw [hm] at hP
          obtain ⟨q, rfl, hq, hBq, XQ, nQ⟩ := hP
          refine br_ok X (dk rfl) rfl (show ((62 : Nat) : Int) + 7 = ((69 : Nat) : Int) from rfl) (fun q => absurd q (fun z => z)) (fun _ => ?_)
          refine fst1_ok X (dk rfl) rfl ?_
          refine br_ok X (dk rfl) rfl (show ((66 : Nat) : Int) + 4 = ((70 : Nat) : Int) from rfl) (fun _ => ?_) (fun q => absurd trivial q)
          exact reti_ok X hr hlk (bI_n true) (dk rfl) ⟨⟨true, rfl⟩, ⟨_, _, _, _, _, (M1.ext XQ)⟩, F1.trans (Fr.ext XQ)⟩ (Nat.le_of_ble_eq_true rfl) (Nat.le_of_ble_eq_true rfl)
  have mid1 : ∀ t1 : Bool, (t1 = false → inN 6 x1 ∧ inN 6 x2) → WR p la e (rmD 4 25 48) s m args below meth c D cA B0 4 (booR o S A kn h) 20 (lv_args 0 [.ref o, .int x1, .int x2, .int x3]) [.int (bI t1), .ref o] h 0 0 := by
    intro t1 ht1
    have mid2 := fun t2 => mid2 t1 t2 ht1
    iterate 1 refine fst1_ok X (dk rfl) rfl ?_
    have mid2T : ∀ l : List (Nat × Value), l = (lv_args 0 [.ref o, .int x1, .int x2, .int x3]) → WR p la e (rmD 4 25 48) s m args below meth c D cA B0 4 (booR o S A kn h) 29 l [.int (bI t1), .ref o] h 0 0 := by
      intro l hl
      rw [hl]
      refine fst1_ok X (dk rfl) rfl ?_
      refine br_ok X (dk rfl) rfl (show ((30 : Nat) : Int) + 4 = ((34 : Nat) : Int) from rfl) (fun _ => ?_) (fun q => absurd trivial q)
      exact mid2 true (fun z => by cases z)
    refine br_ok X (dk rfl) rfl (show ((21 : Nat) : Int) + 8 = ((29 : Nat) : Int) from rfl) (fun _ => mid2T _ rfl) (fun c1 => ?_)
    iterate 2 refine fst1_ok X (dk rfl) rfl ?_
    refine br_ok X (dk rfl) rfl (show ((26 : Nat) : Int) + 7 = ((33 : Nat) : Int) from rfl) (fun c2 => ?_) (fun _ => mid2T _ rfl)
    refine fst1_ok X (dk rfl) rfl ?_
    exact mid2 false (fun _ => inN_le (K := 2) (by omega) c1 (by rw [show nI 2 = Int32.ofInt 2 by decide +kernel]; exact c2))
  iterate 2 refine fst1_ok X (dk rfl) rfl ?_
  refine isSlot_ok X E mlX10_95 ⟨Nat.le_of_ble_eq_true rfl, Nat.le_of_ble_eq_true rfl⟩ ⟨Nat.le_of_ble_eq_true rfl, Nat.le_of_ble_eq_true rfl⟩ (Nat.le_of_ble_eq_true rfl) (dk rfl) (fun mid1b0 mid1h0 => ?_)
  cases mid1b0 with
  | false =>
    refine br_ok X (dk rfl) rfl (show ((5 : Nat) : Int) + 10 = ((15 : Nat) : Int) from rfl) (fun _ => ?_) (fun q => absurd bI_f' q)
    refine fst1_ok X (dk rfl) rfl ?_
    refine br_ok X (dk rfl) rfl (show ((16 : Nat) : Int) + 4 = ((20 : Nat) : Int) from rfl) (fun _ => ?_) (fun q => absurd trivial q)
    exact mid1 true (fun z => by cases z)
  | true =>
    refine br_ok X (dk rfl) rfl (show ((5 : Nat) : Int) + 10 = ((15 : Nat) : Int) from rfl) (fun q => absurd q bI_t) (fun _ => ?_)
    iterate 1 refine fst1_ok X (dk rfl) rfl ?_
    refine isSlot_ok X E mlX10_95 ⟨Nat.le_of_ble_eq_true rfl, Nat.le_of_ble_eq_true rfl⟩ ⟨Nat.le_of_ble_eq_true rfl, Nat.le_of_ble_eq_true rfl⟩ (Nat.le_of_ble_eq_true rfl) (dk rfl) (fun mid1b1 mid1h1 => ?_)
    cases mid1b1 with
    | false =>
      refine br_ok X (dk rfl) rfl (show ((12 : Nat) : Int) + 7 = ((19 : Nat) : Int) from rfl) (fun q => absurd q bI_f) (fun _ => ?_)
      refine fst1_ok X (dk rfl) rfl ?_
      refine br_ok X (dk rfl) rfl (show ((16 : Nat) : Int) + 4 = ((20 : Nat) : Int) from rfl) (fun _ => ?_) (fun q => absurd trivial q)
      exact mid1 true (fun z => by cases z)
    | true =>
      refine br_ok X (dk rfl) rfl (show ((12 : Nat) : Int) + 7 = ((19 : Nat) : Int) from rfl) (fun _ => ?_) (fun q => absurd bI_t q)
      refine fst1_ok X (dk rfl) rfl ?_
      exact mid1 false (fun _ => ⟨mid1h0 rfl, mid1h1 rfl⟩)
set_option maxHeartbeats 4000000 in
theorem c_makes (h : AH) (M : MD h o S A sl an a r kn th) (x1 x2 x3 : Int32) : CT la D cA B0 pa yX10_makes cX10_makes 4 (some .boolean) (rmD 3 34 544) [.ref o, .int x1, .int x2, .int x3] h (booR o S A kn h) := by
  refine CT_of (by decide +kernel) (Nat.le_of_ble_eq_true rfl) ?_
  intro p e s m args below meth c X E hr hlk hnm
  have dk : ∀ {pc : Nat} {q : Instr × Nat}, lkd DX10_makes pc = some q → decode cX10_makes pc = .ok q := lkd_ok DX10_makes_ok
  have mid1 : ∀ t1 : Bool, (t1 = false → inN 3 x1 ∧ inN 6 x2 ∧ inN 6 x3) → WR p la e (rmD 3 34 544) s m args below meth c D cA B0 4 (booR o S A kn h) 27 (lv_args 0 [.ref o, .int x1, .int x2, .int x3]) [.int (bI t1), .ref o] h 0 0 := by
    intro t1 ht1
    refine thr1_ok X E M ⟨Nat.le_of_ble_eq_true rfl, Nat.le_of_ble_eq_true rfl⟩ ⟨Nat.le_of_ble_eq_true rfl, Nat.le_of_ble_eq_true rfl⟩ (Nat.le_of_ble_eq_true rfl) (dk rfl) (fun h1 a1 r1 th1 M1 F1 => ?_)
    cases hb : t1 with
    | true =>
      refine br_ok X (dk rfl) rfl (show ((30 : Nat) : Int) + 43 = ((73 : Nat) : Int) from rfl) (fun _ => ?_) (fun q => absurd bI_t q)
      refine fst1_ok X (dk rfl) rfl ?_
      exact reti_ok X hr hlk (bI_n false) (dk rfl) ⟨⟨false, rfl⟩, ⟨_, _, _, _, _, M1⟩, F1⟩ (Nat.zero_le _) (Nat.zero_le _)
    | false =>
      obtain ⟨⟨j1, hj1, rfl⟩, ⟨j2, hj2, rfl⟩, ⟨j3, hj3, rfl⟩⟩ := ht1 hb
      obtain ⟨ss, s1, s2, s3⟩ := M1.slot
      obtain ⟨as, a1, a2, a3⟩ := M1.ans
      obtain ⟨b1, y1, e1, f1, g1, w1, n1⟩ := a3 j1 hj1
      obtain ⟨b2, y2, e2, f2, g2, w2, n2⟩ := s3 j2 hj2
      have ly2 : (y2.map vI).length = y2.length := List.length_map _
      obtain ⟨b3, y3, e3, f3, g3, w3, n3⟩ := s3 j3 hj3
      have ly3 : (y3.map vI).length = y3.length := List.length_map _
      refine br_ok X (dk rfl) rfl (show ((30 : Nat) : Int) + 43 = ((73 : Nat) : Int) from rfl) (fun q => absurd q bI_f) (fun _ => ?_)
      repeat refine fst1_ok X (dk rfl) rfl ?_
      refine getf_ok X flX10_16 (dk rfl) M1.obj rfl ?_
      refine fst1_ok X (dk rfl) rfl ?_
      refine lda_ok X (dk rfl) a2 e1 (by omega) ?_
      repeat refine fst1_ok X (dk rfl) rfl ?_
      refine getf_ok X flX10_11 (dk rfl) M1.obj rfl ?_
      refine fst1_ok X (dk rfl) rfl ?_
      refine ldr_ok X (dk rfl) s2 e2 (by omega) ?_
      have ul2 : (usedL y1 y2).length ≤ 256 := by have := usedL_len y1 (M := 16) (fun z hz => (w1.2 z hz).2) (by omega) y2; omega
      have ul3 : (usedL y1 y3).length ≤ 256 := by have := usedL_len y1 (M := 16) (fun z hz => (w1.2 z hz).2) (by omega) y3; omega
      refine callS_ok (av := [.ref b1, .ref b2]) (r := []) X E (c_used h1 g1 g2 (by omega) (by rw [w1.1]; omega) w2.lt (fun z hz hz10 => by rw [w1.1]; rcases w2.2 z hz with q | q <;> omega) (by omega)) lkX10_used mlX10_120 lsX10_used ⟨Nat.le_of_ble_eq_true rfl, Nat.le_of_ble_eq_true rfl⟩ ⟨by show 0 + (1 + y2.length) ≤ 34; omega, by show 0 + ((usedL y1 y2).length + y2.length) ≤ 544; omega⟩ (Nat.le_of_ble_eq_true rfl) (dk rfl) ?_
      rintro v h4 ⟨q, rfl, hq, hBq, XQ, hQ⟩
      refine WS.widen (k' := 17) (n' := 272) (by show 0 + (1 + y2.length) ≤ 17; omega) (by show 0 + ((usedL y1 y2).length + y2.length) ≤ 272; omega) ?_
      have M2 := M1.ext XQ
      repeat refine fst1_ok X (dk rfl) rfl ?_
      refine getf_ok X flX10_16 (dk rfl) M2.obj rfl ?_
      refine fst1_ok X (dk rfl) rfl ?_
      refine lda_ok X (dk rfl) (XQ _ _ a2) e1 (by omega) ?_
      repeat refine fst1_ok X (dk rfl) rfl ?_
      refine getf_ok X flX10_11 (dk rfl) M2.obj rfl ?_
      refine fst1_ok X (dk rfl) rfl ?_
      refine ldr_ok X (dk rfl) (XQ _ _ s2) e3 (by omega) ?_
      refine callS_ok (av := [.ref b1, .ref b3]) (r := [.ref q]) X E (c_used h4 (g1.ext XQ) (XQ _ _ g3) (by omega) (by rw [w1.1]; omega) w3.lt (fun z hz hz10 => by rw [w1.1]; rcases w3.2 z hz with q | q <;> omega) (by omega)) lkX10_used mlX10_120 lsX10_used ⟨Nat.le_of_ble_eq_true rfl, Nat.le_of_ble_eq_true rfl⟩ ⟨by show 17 + (1 + y3.length) ≤ 34; omega, by show 272 + ((usedL y1 y3).length + y3.length) ≤ 544; omega⟩ (Nat.le_of_ble_eq_true rfl) (dk rfl) ?_
      rintro v h5 ⟨q5, rfl, hq5, hBq5, XQ5, hQ5⟩
      refine WS.widen (k' := 34) (n' := 544) (by show 17 + (1 + y3.length) ≤ 34; omega) (by show 272 + ((usedL y1 y3).length + y3.length) ≤ 544; omega) ?_
      have tU2 := TW.used (rows := y1) (fun z hz => (w1.2 z hz).1) (by rw [w1.1]; omega) w2
      have tU3 := TW.used (rows := y1) (fun z hz => (w1.2 z hz).1) (by rw [w1.1]; omega) w3
      refine callS_ok (av := [.ref q, .ref q5]) (r := []) X E (c_same h5 (XQ5 _ _ hQ) hQ5 (by omega) (by omega) tU2.lt tU3.lt) lkX10_same mlX10_54 lsX10_same ⟨Nat.le_of_ble_eq_true rfl, Nat.le_of_ble_eq_true rfl⟩ ⟨Nat.le_of_ble_eq_true rfl, Nat.le_of_ble_eq_true rfl⟩ (Nat.le_of_ble_eq_true rfl) (dk rfl) ?_
      rintro v h6 ⟨rfl, rfl⟩
      rw [ite_bI]
      cases hz : decide (usedL y1 y2 = usedL y1 y3) with
      | false =>
        refine br_ok X (dk rfl) rfl (show ((66 : Nat) : Int) + 7 = ((73 : Nat) : Int) from rfl) (fun _ => ?_) (fun q => absurd bI_f' q)
        refine fst1_ok X (dk rfl) rfl ?_
        exact reti_ok X hr hlk (bI_n false) (dk rfl) ⟨⟨false, rfl⟩, ⟨_, _, _, _, _, (M2.ext XQ5)⟩, F1.trans (Fr.ext (XQ.trans XQ5))⟩ (Nat.le_of_ble_eq_true rfl) (Nat.le_of_ble_eq_true rfl)
      | true =>
        refine br_ok X (dk rfl) rfl (show ((66 : Nat) : Int) + 7 = ((73 : Nat) : Int) from rfl) (fun q => absurd q bI_t) (fun _ => ?_)
        refine fst1_ok X (dk rfl) rfl ?_
        refine br_ok X (dk rfl) rfl (show ((70 : Nat) : Int) + 4 = ((74 : Nat) : Int) from rfl) (fun _ => ?_) (fun q => absurd trivial q)
        exact reti_ok X hr hlk (bI_n true) (dk rfl) ⟨⟨true, rfl⟩, ⟨_, _, _, _, _, (M2.ext XQ5)⟩, F1.trans (Fr.ext (XQ.trans XQ5))⟩ (Nat.le_of_ble_eq_true rfl) (Nat.le_of_ble_eq_true rfl)
  iterate 2 refine fst1_ok X (dk rfl) rfl ?_
  refine isAnswer_ok X E mlX10_135 ⟨Nat.le_of_ble_eq_true rfl, Nat.le_of_ble_eq_true rfl⟩ ⟨Nat.le_of_ble_eq_true rfl, Nat.le_of_ble_eq_true rfl⟩ (Nat.le_of_ble_eq_true rfl) (dk rfl) (fun mid1b0 mid1h0 => ?_)
  cases mid1b0 with
  | false =>
    refine br_ok X (dk rfl) rfl (show ((5 : Nat) : Int) + 17 = ((22 : Nat) : Int) from rfl) (fun _ => ?_) (fun q => absurd bI_f' q)
    refine fst1_ok X (dk rfl) rfl ?_
    refine br_ok X (dk rfl) rfl (show ((23 : Nat) : Int) + 4 = ((27 : Nat) : Int) from rfl) (fun _ => ?_) (fun q => absurd trivial q)
    exact mid1 true (fun z => by cases z)
  | true =>
    refine br_ok X (dk rfl) rfl (show ((5 : Nat) : Int) + 17 = ((22 : Nat) : Int) from rfl) (fun q => absurd q bI_t) (fun _ => ?_)
    iterate 1 refine fst1_ok X (dk rfl) rfl ?_
    refine isSlot_ok X E mlX10_95 ⟨Nat.le_of_ble_eq_true rfl, Nat.le_of_ble_eq_true rfl⟩ ⟨Nat.le_of_ble_eq_true rfl, Nat.le_of_ble_eq_true rfl⟩ (Nat.le_of_ble_eq_true rfl) (dk rfl) (fun mid1b1 mid1h1 => ?_)
    cases mid1b1 with
    | false =>
      refine br_ok X (dk rfl) rfl (show ((12 : Nat) : Int) + 10 = ((22 : Nat) : Int) from rfl) (fun _ => ?_) (fun q => absurd bI_f' q)
      refine fst1_ok X (dk rfl) rfl ?_
      refine br_ok X (dk rfl) rfl (show ((23 : Nat) : Int) + 4 = ((27 : Nat) : Int) from rfl) (fun _ => ?_) (fun q => absurd trivial q)
      exact mid1 true (fun z => by cases z)
    | true =>
      refine br_ok X (dk rfl) rfl (show ((12 : Nat) : Int) + 10 = ((22 : Nat) : Int) from rfl) (fun q => absurd q bI_t) (fun _ => ?_)
      iterate 1 refine fst1_ok X (dk rfl) rfl ?_
      refine isSlot_ok X E mlX10_95 ⟨Nat.le_of_ble_eq_true rfl, Nat.le_of_ble_eq_true rfl⟩ ⟨Nat.le_of_ble_eq_true rfl, Nat.le_of_ble_eq_true rfl⟩ (Nat.le_of_ble_eq_true rfl) (dk rfl) (fun mid1b2 mid1h2 => ?_)
      cases mid1b2 with
      | false =>
        refine br_ok X (dk rfl) rfl (show ((19 : Nat) : Int) + 7 = ((26 : Nat) : Int) from rfl) (fun q => absurd q bI_f) (fun _ => ?_)
        refine fst1_ok X (dk rfl) rfl ?_
        refine br_ok X (dk rfl) rfl (show ((23 : Nat) : Int) + 4 = ((27 : Nat) : Int) from rfl) (fun _ => ?_) (fun q => absurd trivial q)
        exact mid1 true (fun z => by cases z)
      | true =>
        refine br_ok X (dk rfl) rfl (show ((19 : Nat) : Int) + 7 = ((26 : Nat) : Int) from rfl) (fun _ => ?_) (fun q => absurd bI_t q)
        refine fst1_ok X (dk rfl) rfl ?_
        exact mid1 false (fun _ => ⟨mid1h0 rfl, mid1h1 rfl, mid1h2 rfl⟩)
set_option maxHeartbeats 4000000 in
theorem c_isSo (h : AH) (M : MD h o S A sl an a r kn th) (x1 x2 : Int32) : CT la D cA B0 pa yX10_isSo cX10_isSo 9 (some .boolean) (rmD 5 137 2184) [.ref o, .int x1, .int x2] h (booR o S A kn h) := by
  refine CT_of (by decide +kernel) (Nat.le_of_ble_eq_true rfl) ?_
  intro p e s m args below meth c X E hr hlk hnm
  have dk : ∀ {pc : Nat} {q : Instr × Nat}, lkd DX10_isSo pc = some q → decode cX10_isSo pc = .ok q := lkd_ok DX10_isSo_ok
  have mid2 : ∀ t1 t2 : Bool, (t1 = false → inN 3 x1) → (t2 = false → inN 2 x2) → WR p la e (rmD 5 137 2184) s m args below meth c D cA B0 9 (booR o S A kn h) 27 (lv_args 0 [.ref o, .int x1, .int x2]) [.int (bI t2), .int (bI t1), .ref o] h 0 0 := by
    intro t1 t2 ht1 ht2
    refine thr2_ok X E M ⟨Nat.le_of_ble_eq_true rfl, Nat.le_of_ble_eq_true rfl⟩ ⟨Nat.le_of_ble_eq_true rfl, Nat.le_of_ble_eq_true rfl⟩ (Nat.le_of_ble_eq_true rfl) (dk rfl) (fun h1 a1 r1 th1 M1 F1 => ?_)
    cases hb : (t1 || t2) with
    | true =>
      refine br_ok X (dk rfl) rfl (show ((30 : Nat) : Int) + 5 = ((35 : Nat) : Int) from rfl) (fun q => absurd q bI_t) (fun _ => ?_)
      refine fst1_ok X (dk rfl) rfl ?_
      exact reti_ok X hr hlk (bI_n false) (dk rfl) ⟨⟨false, rfl⟩, ⟨_, _, _, _, _, M1⟩, F1⟩ (Nat.zero_le _) (Nat.zero_le _)
    | false =>
      refine br_ok X (dk rfl) rfl (show ((30 : Nat) : Int) + 5 = ((35 : Nat) : Int) from rfl) (fun _ => ?_) (fun q => absurd bI_f' q)
      obtain ⟨hb1, hb2⟩ := Bool.or_eq_false_iff.mp hb
      obtain ⟨j1, hj1, rfl⟩ := ht1 hb1
      obtain ⟨j2, hj2, rfl⟩ := ht2 hb2
      obtain ⟨ss, s1, s2, s3⟩ := M1.slot
      obtain ⟨as, a1, a2, a3⟩ := M1.ans
      obtain ⟨b1, y1, e1, f1, g1, w1, n1⟩ := a3 j1 hj1
      repeat refine fst1_ok X (dk rfl) rfl ?_
      refine getf_ok X flX10_16 (dk rfl) M1.obj rfl ?_
      refine fst1_ok X (dk rfl) rfl ?_
      refine lda_ok X (dk rfl) a2 e1 (by omega) ?_
      have bl : y1.length = 8 := w1.1
      obtain ⟨as1, as2, as3, as4⟩ := g1.row
      iterate 2 refine fst1_ok X (dk rfl) rfl ?_
      refine br_ok X (dk rfl) rfl (show ((43 : Nat) : Int) + 21 = ((64 : Nat) : Int) from rfl) (fun _ => ?_) (fun _ => ?_)
      · have loop : ∀ (d i : Nat), d = 8 - i → i ≤ 8 → ∀ (z : Int32) (l : List (Nat × Value)), lsel l [7, 6, 5, 4] = [(7, vI i), (6, vI 8), (5, .ref b1), (4, .int z)] → WR p la e (rmD 5 137 2184) s m args below meth c D cA B0 9 (booR o S A kn h) 78 l [] h1 0 0 := by
          intro d
          induction d with
          | zero =>
            intro i hd hi z l hl
            have hi2 : i = 8 := by omega
            subst hi2
            refine WS.sel [7, 6, 5, 4] hl ?_
            repeat refine fst1_ok X (dk rfl) rfl ?_
            refine br_ok X (dk rfl) rfl (show ((82 : Nat) : Int) + 40 = ((122 : Nat) : Int) from rfl) (fun _ => ?_) (fun c1 => absurd (Int32.le_refl _) c1)
            repeat refine fst1_ok X (dk rfl) rfl ?_
            refine callS_ok (av := [.int z]) (r := []) X E (c_ones h1 z) lkX10_ones mlX10_128 lsX10_ones ⟨Nat.le_of_ble_eq_true rfl, Nat.le_of_ble_eq_true rfl⟩ ⟨Nat.le_of_ble_eq_true rfl, Nat.le_of_ble_eq_true rfl⟩ (Nat.le_of_ble_eq_true rfl) (dk rfl) ?_
            rintro v h3 ⟨rfl, rfl⟩
            refine fst1_ok X (dk rfl) rfl ?_
            refine br_ok X (dk rfl) rfl (show ((129 : Nat) : Int) + 7 = ((136 : Nat) : Int) from rfl) (fun _ => ?_) (fun _ => ?_)
            · refine fst1_ok X (dk rfl) rfl ?_
              exact reti_ok X hr hlk (bI_n false) (dk rfl) ⟨⟨false, rfl⟩, ⟨_, _, _, _, _, M1⟩, F1⟩ (Nat.le_of_ble_eq_true rfl) (Nat.le_of_ble_eq_true rfl)
            · refine fst1_ok X (dk rfl) rfl ?_
              refine br_ok X (dk rfl) rfl (show ((133 : Nat) : Int) + 4 = ((137 : Nat) : Int) from rfl) (fun _ => ?_) (fun q => absurd trivial q)
              exact reti_ok X hr hlk (bI_n true) (dk rfl) ⟨⟨true, rfl⟩, ⟨_, _, _, _, _, M1⟩, F1⟩ (Nat.le_of_ble_eq_true rfl) (Nat.le_of_ble_eq_true rfl)
          | succ d ih =>
            intro i hd hi z l hl
            obtain ⟨c5, z5, i5, i6, i7⟩ := as4 i (by omega)
            have t5 := w1.2 z5 (List.mem_of_getElem? i6)
            obtain ⟨x, hx⟩ : ∃ x, z5[0]? = some x := ⟨z5[0]'t5.1.pos, by simp⟩
            have f2 : Value.int (nI i + Int32.ofInt 1) = vI (i + 1) := congrArg Value.int (by rw [nI_1', nI_add])
            have go9 : ∀ (w z : Int32) (l : List (Nat × Value)), lsel l [7, 6, 5] = [(7, vI i), (6, vI 8), (5, .ref b1)] → WR p la e (rmD 5 137 2184) s m args below meth c D cA B0 9 (booR o S A kn h) 113 l [.int w, .int z] h1 0 0 := by
              intro w z l hl
              refine WS.sel [7, 6, 5] hl ?_
              repeat refine fst1_ok X (dk rfl) rfl ?_
              refine br_ok X (dk rfl) rfl (show ((119 : Nat) : Int) + (-41) = ((78 : Nat) : Int) from rfl) (fun _ => ?_) (fun q => absurd trivial q)
              refine WS.sel (l' := [(7, vI (i + 1)), (6, vI 8), (5, .ref b1), (4, .int (z ||| w))]) [7, 6, 5, 4] (by rw [← f2]; rfl) ?_
              exact ih (i + 1) (by omega) (by omega) _ _ rfl
            refine WS.sel [7, 6, 5, 4] hl ?_
            repeat refine fst1_ok X (dk rfl) rfl ?_
            refine br_ok X (dk rfl) rfl (show ((82 : Nat) : Int) + 40 = ((122 : Nat) : Int) from rfl) (fun c1 => absurd c1 (nI_ge (a := i) (b := 8) (by omega) (by omega))) (fun _ => ?_)
            repeat refine fst1_ok X (dk rfl) rfl ?_
            refine ldr_ok X (dk rfl) as3 i5 (by omega) ?_
            repeat refine fst1_ok X (dk rfl) rfl ?_
            refine ald_ok X (Or.inl ⟨rfl, rfl⟩) (dk rfl) i7 (inA_nI (j := 0) (by omega) (IA_get hx)) ?_
            refine fst1_ok X (dk rfl) rfl ?_
            refine br_ok X (dk rfl) rfl (show ((100 : Nat) : Int) + 12 = ((112 : Nat) : Int) from rfl) (fun _ => ?_) (fun _ => ?_)
            · refine fst1_ok X (dk rfl) rfl ?_
              exact go9 _ _ _ rfl
            · repeat refine fst1_ok X (dk rfl) rfl ?_
              refine ald_ok X (Or.inl ⟨rfl, rfl⟩) (dk rfl) i7 (inA_nI (j := 0) (by omega) (IA_get hx)) ?_
              refine fst1_ok X (dk rfl) rfl ?_
              refine br_ok X (dk rfl) rfl (show ((109 : Nat) : Int) + 4 = ((113 : Nat) : Int) from rfl) (fun _ => ?_) (fun q => absurd trivial q)
              exact go9 _ _ _ rfl
        iterate 5 refine fst1_ok X (dk rfl) rfl ?_
        refine alen_ok X (by decide) (dk rfl) as3 ?_
        rw [show (as1.map Value.ref).length = 8 by rw [List.length_map]; omega]
        iterate 3 refine fst1_ok X (dk rfl) rfl ?_
        exact loop 8 0 rfl (Nat.zero_le _) _ _ rfl
      · repeat refine fst1_ok X (dk rfl) rfl ?_
        refine callS_ok (av := [.ref b1, .ref b1]) (r := []) X E (c_withBehind h1 g1 g1 w1 w1) lkX10_withBehind mlX10_149 lsX10_withBehind ⟨Nat.le_of_ble_eq_true rfl, Nat.le_of_ble_eq_true rfl⟩ ⟨Nat.le_of_ble_eq_true rfl, Nat.le_of_ble_eq_true rfl⟩ (Nat.le_of_ble_eq_true rfl) (dk rfl) ?_
        rintro v h2 ⟨N, rfl, hN, hBN, XN, nN⟩
        have oN : AW (y1.map (usedL y1)) := by
          refine ⟨by rw [List.length_map]; exact w1.1, fun z hz => ?_⟩
          obtain ⟨t, ht, rfl⟩ := List.mem_map.mp hz
          have h5 := w1.2 t ht
          refine ⟨TW.used (fun z hz => (w1.2 z hz).1) (by rw [w1.1]; omega) h5.1, ?_⟩
          have := usedL_len y1 (M := 16) (fun z hz => (w1.2 z hz).2) (by omega) t
          omega
        repeat refine fst1_ok X (dk rfl) rfl ?_
        refine callS_ok (av := [.ref N, .ref b1]) (r := []) X E (c_unlikeOf h2 nN (g1.ext XN) oN w1.aw) lkX10_unlikeOf mlX10_214 lsX10_unlikeOf ⟨Nat.le_of_ble_eq_true rfl, Nat.le_of_ble_eq_true rfl⟩ ⟨Nat.le_of_ble_eq_true rfl, Nat.le_of_ble_eq_true rfl⟩ (Nat.le_of_ble_eq_true rfl) (dk rfl) ?_
        rintro v h3 ⟨⟨u, rfl, -, -⟩, rfl⟩
        have fin9 : ∀ (x : Int32) (l : List (Nat × Value)), WR p la e (rmD 5 137 2184) s m args below meth c D cA B0 9 (booR o S A kn h) 55 l [.int x] h3 137 2184 := by
          intro x l
          refine br_ok X (dk rfl) rfl (show ((55 : Nat) : Int) + 7 = ((62 : Nat) : Int) from rfl) (fun _ => ?_) (fun _ => ?_)
          · refine fst1_ok X (dk rfl) rfl ?_
            exact reti_ok X hr hlk (bI_n false) (dk rfl) ⟨⟨false, rfl⟩, ⟨_, _, _, _, _, (M1.ext XN)⟩, F1.trans (Fr.ext XN)⟩ (Nat.le_of_ble_eq_true rfl) (Nat.le_of_ble_eq_true rfl)
          · refine fst1_ok X (dk rfl) rfl ?_
            refine br_ok X (dk rfl) rfl (show ((59 : Nat) : Int) + 4 = ((63 : Nat) : Int) from rfl) (fun _ => ?_) (fun q => absurd trivial q)
            exact reti_ok X hr hlk (bI_n true) (dk rfl) ⟨⟨true, rfl⟩, ⟨_, _, _, _, _, (M1.ext XN)⟩, F1.trans (Fr.ext XN)⟩ (Nat.le_of_ble_eq_true rfl) (Nat.le_of_ble_eq_true rfl)
        cases u with
        | none => exact fin9 _ _
        | some u => exact fin9 _ _
  have mid1 : ∀ t1 : Bool, (t1 = false → inN 3 x1) → WR p la e (rmD 5 137 2184) s m args below meth c D cA B0 9 (booR o S A kn h) 13 (lv_args 0 [.ref o, .int x1, .int x2]) [.int (bI t1), .ref o] h 0 0 := by
    intro t1 ht1
    have mid2 := fun t2 => mid2 t1 t2 ht1
    iterate 1 refine fst1_ok X (dk rfl) rfl ?_
    have mid2T : ∀ l : List (Nat × Value), l = (lv_args 0 [.ref o, .int x1, .int x2]) → WR p la e (rmD 5 137 2184) s m args below meth c D cA B0 9 (booR o S A kn h) 22 l [.int (bI t1), .ref o] h 0 0 := by
      intro l hl
      rw [hl]
      refine fst1_ok X (dk rfl) rfl ?_
      refine br_ok X (dk rfl) rfl (show ((23 : Nat) : Int) + 4 = ((27 : Nat) : Int) from rfl) (fun _ => ?_) (fun q => absurd trivial q)
      exact mid2 true (fun z => by cases z)
    refine br_ok X (dk rfl) rfl (show ((14 : Nat) : Int) + 8 = ((22 : Nat) : Int) from rfl) (fun _ => mid2T _ rfl) (fun c1 => ?_)
    iterate 2 refine fst1_ok X (dk rfl) rfl ?_
    refine br_ok X (dk rfl) rfl (show ((19 : Nat) : Int) + 7 = ((26 : Nat) : Int) from rfl) (fun c2 => ?_) (fun _ => mid2T _ rfl)
    refine fst1_ok X (dk rfl) rfl ?_
    exact mid2 false (fun _ => inN_le (K := 1) (by omega) c1 (by rw [show nI 1 = Int32.ofInt 1 by decide +kernel]; exact c2))
  iterate 2 refine fst1_ok X (dk rfl) rfl ?_
  refine isAnswer_ok X E mlX10_135 ⟨Nat.le_of_ble_eq_true rfl, Nat.le_of_ble_eq_true rfl⟩ ⟨Nat.le_of_ble_eq_true rfl, Nat.le_of_ble_eq_true rfl⟩ (Nat.le_of_ble_eq_true rfl) (dk rfl) (fun mid1b0 mid1h0 => ?_)
  cases mid1b0 with
  | false =>
    refine br_ok X (dk rfl) rfl (show ((5 : Nat) : Int) + 7 = ((12 : Nat) : Int) from rfl) (fun q => absurd q bI_f) (fun _ => ?_)
    refine fst1_ok X (dk rfl) rfl ?_
    refine br_ok X (dk rfl) rfl (show ((9 : Nat) : Int) + 4 = ((13 : Nat) : Int) from rfl) (fun _ => ?_) (fun q => absurd trivial q)
    exact mid1 true (fun z => by cases z)
  | true =>
    refine br_ok X (dk rfl) rfl (show ((5 : Nat) : Int) + 7 = ((12 : Nat) : Int) from rfl) (fun _ => ?_) (fun q => absurd bI_t q)
    refine fst1_ok X (dk rfl) rfl ?_
    exact mid1 false (fun _ => mid1h0 rfl)
set_option maxHeartbeats 4000000 in
theorem c_told_ (h : AH) (M : MD h o S A sl an a r kn th) (x1 : Int32) : CT la D cA B0 pa yX10_told_ cX10_told_ 7 (some .int) (rmD 4 24 24) [.ref o, .int x1] h (intR o S A kn h) := by
  refine CT_of (by decide +kernel) (Nat.le_of_ble_eq_true rfl) ?_
  intro p e s m args below meth c X E hr hlk hnm
  have dk : ∀ {pc : Nat} {q : Instr × Nat}, lkd DX10_told_ pc = some q → decode cX10_told_ pc = .ok q := lkd_ok DX10_told__ok
  obtain ⟨ss, s1, s2, s3⟩ := M.slot
  obtain ⟨as, a1, a2, a3⟩ := M.ans
  have loopS : ∀ (d i : Nat), d = 6 - i → i ≤ 6 → ∀ (z : Int32) (l : List (Nat × Value)), lsel l [5, 4, 3, 2] = [(5, vI i), (4, vI 6), (3, .ref S), (2, .int z)] → WR p la e (rmD 4 24 24) s m args below meth c D cA B0 7 (intR o S A kn h) 19 l [] h 0 0 := by
    intro d
    induction d with
    | zero =>
      intro i hd hi z l hl
      have hi2 : i = 6 := by omega
      subst hi2
      refine WS.sel [5, 4, 3, 2] hl ?_
      repeat refine fst1_ok X (dk rfl) rfl ?_
      refine br_ok X (dk rfl) rfl (show ((23 : Nat) : Int) + 21 = ((44 : Nat) : Int) from rfl) (fun _ => ?_) (fun c1 => absurd (Int32.le_refl _) c1)
      refine br_ok X (dk rfl) rfl (show ((44 : Nat) : Int) + 45 = ((89 : Nat) : Int) from rfl) (fun _ => ?_) (fun q => absurd trivial q)
      repeat refine fst1_ok X (dk rfl) rfl ?_
      exact reti_ok X hr hlk rfl (dk rfl) ⟨⟨_, rfl⟩, M.mi⟩ (Nat.zero_le _) (Nat.zero_le _)
    | succ d ih =>
      intro i hd hi z l hl
      obtain ⟨b, x, e1, e2, e3, e4, e5⟩ := s3 i (by omega)
      have f2 : Value.int (nI i + Int32.ofInt 1) = vI (i + 1) := congrArg Value.int (by rw [nI_1', nI_add])
      refine WS.sel [5, 4, 3, 2] hl ?_
      repeat refine fst1_ok X (dk rfl) rfl ?_
      refine br_ok X (dk rfl) rfl (show ((23 : Nat) : Int) + 21 = ((44 : Nat) : Int) from rfl) (fun c1 => absurd c1 (nI_ge (a := i) (b := 6) (by omega) (by omega))) (fun _ => ?_)
      repeat refine fst1_ok X (dk rfl) rfl ?_
      refine ldr_ok X (dk rfl) s2 e1 (by omega) ?_
      repeat refine fst1_ok X (dk rfl) rfl ?_
      refine alen_ok X (by decide) (dk rfl) e3 ?_
      generalize nI (x.map vI).length = w
      repeat refine fst1_ok X (dk rfl) rfl ?_
      refine br_ok X (dk rfl) rfl (show ((41 : Nat) : Int) + (-22) = ((19 : Nat) : Int) from rfl) (fun _ => ?_) (fun q => absurd trivial q)
      refine WS.sel (l' := [(5, vI (i + 1)), (4, vI 6), (3, .ref S), (2, .int (z + w))]) [5, 4, 3, 2] (by rw [← f2]; rfl) ?_
      exact ih (i + 1) (by omega) (by omega) _ _ rfl
  have loopA : ∀ (d i : Nat), d = 3 - i → i ≤ 3 → ∀ (z : Int32) (hh : AH) (l : List (Nat × Value)), lsel l [5, 4, 3, 2] = [(5, vI i), (4, vI 3), (3, .ref A), (2, .int z)] → Ext h hh → WR p la e (rmD 4 24 24) s m args below meth c D cA B0 7 (intR o S A kn h) 59 l [] hh (8 * i) (8 * i) := by
    intro d
    induction d with
    | zero =>
      intro i hd hi z hh l hl XX
      have hi2 : i = 3 := by omega
      subst hi2
      refine WS.sel [5, 4, 3, 2] hl ?_
      repeat refine fst1_ok X (dk rfl) rfl ?_
      refine br_ok X (dk rfl) rfl (show ((63 : Nat) : Int) + 26 = ((89 : Nat) : Int) from rfl) (fun _ => ?_) (fun c1 => absurd (Int32.le_refl _) c1)
      repeat refine fst1_ok X (dk rfl) rfl ?_
      exact reti_ok X hr hlk rfl (dk rfl) ⟨⟨_, rfl⟩, ⟨_, _, _, _, _, M.ext XX⟩, Fr.ext XX⟩ (Nat.le_of_ble_eq_true rfl) (Nat.le_of_ble_eq_true rfl)
    | succ d ih =>
      intro i hd hi z hh l hl XX
      obtain ⟨b, x, e1, e2, e3, e4, e5⟩ := a3 i (by omega)
      have f2 : Value.int (nI i + Int32.ofInt 1) = vI (i + 1) := congrArg Value.int (by rw [nI_1', nI_add])
      refine WS.sel [5, 4, 3, 2] hl ?_
      repeat refine fst1_ok X (dk rfl) rfl ?_
      refine br_ok X (dk rfl) rfl (show ((63 : Nat) : Int) + 26 = ((89 : Nat) : Int) from rfl) (fun c1 => absurd c1 (nI_ge (a := i) (b := 3) (by omega) (by omega))) (fun _ => ?_)
      repeat refine fst1_ok X (dk rfl) rfl ?_
      refine lda_ok X (dk rfl) (XX _ _ a2) e1 (by omega) ?_
      repeat refine fst1_ok X (dk rfl) rfl ?_
      refine callS_ok (av := [.ref b]) (r := [.int z]) X E (c_movedBy hh (e3.ext XX) e4) lkX10_movedBy mlX10_141 lsX10_movedBy ⟨Nat.le_of_ble_eq_true rfl, Nat.le_of_ble_eq_true rfl⟩ ⟨by show 8 * i + 8 ≤ 24; omega, by show 8 * i + 8 ≤ 24; omega⟩ (Nat.le_of_ble_eq_true rfl) (dk rfl) ?_
      rintro v h2 ⟨rfl, E2⟩
      refine callS_ok (av := [vI (movedN x 8)]) (r := [.int z]) X E (c_ones h2 (nI (movedN x 8))) lkX10_ones mlX10_128 lsX10_ones ⟨Nat.le_of_ble_eq_true rfl, Nat.le_of_ble_eq_true rfl⟩ ⟨by show 8 * i + 8 ≤ 24; omega, by show 8 * i + 8 ≤ 24; omega⟩ (Nat.le_of_ble_eq_true rfl) (dk rfl) ?_
      rintro v h3 ⟨rfl, rfl⟩
      generalize bcF (nI (movedN x 8)) = w
      repeat refine fst1_ok X (dk rfl) rfl ?_
      refine br_ok X (dk rfl) rfl (show ((86 : Nat) : Int) + (-27) = ((59 : Nat) : Int) from rfl) (fun _ => ?_) (fun q => absurd trivial q)
      refine WS.sel (l' := [(5, vI (i + 1)), (4, vI 3), (3, .ref A), (2, .int (z + w))]) [5, 4, 3, 2] (by rw [← f2]; rfl) ?_
      refine WS.widen (k' := 8 * (i + 1)) (n' := 8 * (i + 1)) (by show 8 * i + 8 ≤ 8 * (i + 1); omega) (by show 8 * i + 8 ≤ 8 * (i + 1); omega) ?_
      exact ih (i + 1) (by omega) (by omega) _ _ _ rfl (XX.trans E2)
  repeat refine fst1_ok X (dk rfl) rfl ?_
  refine br_ok X (dk rfl) rfl (show ((4 : Nat) : Int) + 43 = ((47 : Nat) : Int) from rfl) (fun _ => ?_) (fun _ => ?_)
  · repeat refine fst1_ok X (dk rfl) rfl ?_
    refine getf_ok X flX10_16 (dk rfl) M.obj rfl ?_
    iterate 2 refine fst1_ok X (dk rfl) rfl ?_
    refine alen_ok X (by decide) (dk rfl) a2 ?_
    rw [show (as.map Value.ref).length = 3 by rw [List.length_map]; omega]
    iterate 3 refine fst1_ok X (dk rfl) rfl ?_
    exact loopA 3 0 rfl (Nat.zero_le _) _ _ _ rfl (Ext.rf h)
  · repeat refine fst1_ok X (dk rfl) rfl ?_
    refine getf_ok X flX10_11 (dk rfl) M.obj rfl ?_
    iterate 2 refine fst1_ok X (dk rfl) rfl ?_
    refine alen_ok X (by decide) (dk rfl) s2 ?_
    rw [show (ss.map Value.ref).length = 6 by rw [List.length_map]; omega]
    iterate 3 refine fst1_ok X (dk rfl) rfl ?_
    exact loopS 6 0 rfl (Nat.zero_le _) _ _ rfl
theorem c_knock (h : AH) (M : MD h o S A sl an a r kn th) : CT la D cA B0 pa yX10_knock cX10_knock 1 (some .int) (rmD 0 0 0) [.ref o] h (fun v h' => v = some (.int (kn + Int32.ofInt 1)) ∧ MI o S A (kn + Int32.ofInt 1) h h') := by
  refine CT_of (by decide +kernel) (Nat.le_of_ble_eq_true rfl) ?_
  intro p e s m args below meth c X E hr hlk hnm
  have dk : ∀ {pc : Nat} {q : Instr × Nat}, lkd DX10_knock pc = some q → decode cX10_knock pc = .ok q := lkd_ok DX10_knock_ok
  repeat refine fst1_ok X (dk rfl) rfl ?_
  refine putf_ok X flX10_28 ftX10_5 (Or.inl rfl) rfl rfl (dk rfl) M.obj (Nat.le_of_ble_eq_true rfl) ?_
  have M1 := M.fld a r kn (Int32.ofInt 0)
  repeat refine fst1_ok X (dk rfl) rfl ?_
  refine getf_ok X flX10_218 (dk rfl) M1.obj rfl ?_
  repeat refine fst1_ok X (dk rfl) rfl ?_
  refine putf_ok X flX10_218 ftX10_4 (Or.inl rfl) rfl rfl (dk rfl) M1.obj (Nat.le_of_ble_eq_true rfl) ?_
  have M2 := M1.fld a r (kn + Int32.ofInt 1) (Int32.ofInt 0)
  repeat refine fst1_ok X (dk rfl) rfl ?_
  refine getf_ok X flX10_218 (dk rfl) M2.obj rfl ?_
  exact reti_ok X hr hlk rfl (dk rfl) ⟨rfl, ⟨_, _, _, _, _, M2⟩, ((Fr.rf h).set (Or.inl rfl) _).set (Or.inl rfl) _⟩ (Nat.le_refl _) (Nat.le_refl _)
theorem c_isSound (h : AH) (M : MD h o S A sl an a r kn th) : CT la D cA B0 pa yX10_isSound cX10_isSound 1 (some .boolean) (rmD 0 0 0) [.ref o] h (booR o S A kn h) := by
  refine CT_of (by decide +kernel) (Nat.le_of_ble_eq_true rfl) ?_
  intro p e s m args below meth c X E hr hlk hnm
  have dk : ∀ {pc : Nat} {q : Instr × Nat}, lkd DX10_isSound pc = some q → decode cX10_isSound pc = .ok q := lkd_ok DX10_isSound_ok
  repeat refine fst1_ok X (dk rfl) rfl ?_
  refine putf_ok X flX10_28 ftX10_5 (Or.inl rfl) rfl rfl (dk rfl) M.obj (Nat.le_of_ble_eq_true rfl) ?_
  repeat refine fst1_ok X (dk rfl) rfl ?_
  exact reti_ok X hr hlk (bI_n true) (dk rfl) ⟨⟨true, rfl⟩, ⟨_, _, _, _, _, M.fld a r kn (Int32.ofInt 0)⟩, (Fr.rf h).set (Or.inl rfl) _⟩ (Nat.le_refl _) (Nat.le_refl _)
theorem c_add (h : AH) (d v : Int64) : CT la D cA B0 pa yX10_add cX10_add 4 (some .long) (rmD 0 0 0) [.long d, .long v] h (fun w h' => w = some (.long (d * 31 + v)) ∧ h' = h) := by
  refine CT_of (by decide +kernel) (Nat.le_of_ble_eq_true rfl) ?_
  intro p e s m args below meth c X E hr hlk hnm
  have dk : ∀ {pc : Nat} {q : Instr × Nat}, lkd DX10_add pc = some q → decode cX10_add pc = .ok q := lkd_ok DX10_add_ok
  repeat refine fst1_ok X (dk rfl) rfl ?_
  refine ldc2_ok X cs10_224 (dk rfl) ?_
  repeat refine fst1_ok X (dk rfl) rfl ?_
  exact retl_ok X hr hlk (dk rfl) ⟨rfl, rfl⟩ (Nat.le_refl _) (Nat.le_refl _)
set_option maxHeartbeats 4000000 in
theorem c_added (h : AH) (d0 : Int64) {q : Nat} {x : List Nat} (hq : h q = some (IA x)) (hn : x.length < 2 ^ 9) : CT la D cA B0 pa yX10_added cX10_added 9 (some .long) (rmD 1 0 0) [.long d0, .ref q] h (fun w h' => (∃ z : Int64, w = some (.long z)) ∧ h' = h) := by
  refine CT_of (by decide +kernel) (Nat.le_of_ble_eq_true rfl) ?_
  intro p e s m args below meth c X E hr hlk hnm
  have dk : ∀ {pc : Nat} {q : Instr × Nat}, lkd DX10_added pc = some q → decode cX10_added pc = .ok q := lkd_ok DX10_added_ok
  have lx : (x.map vI).length = x.length := List.length_map _
  have loop : ∀ (d i : Nat), d = x.length - i → i ≤ x.length → ∀ (z : Int64) (l : List (Nat × Value)), lsel l [7, 6, 5, 3] = [(7, vI i), (6, vI x.length), (5, .ref q), (3, .long z)] → WR p la e (rmD 1 0 0) s m args below meth c D cA B0 9 (fun w h' => (∃ z : Int64, w = some (.long z)) ∧ h' = h) 13 l [] h 0 0 := by
    intro d
    induction d with
    | zero =>
      intro i hd hi z l hl
      have hi2 : i = x.length := by omega
      subst hi2
      refine WS.sel [7, 6, 5, 3] hl ?_
      repeat refine fst1_ok X (dk rfl) rfl ?_
      refine br_ok X (dk rfl) rfl (show ((17 : Nat) : Int) + 24 = ((41 : Nat) : Int) from rfl) (fun _ => ?_) (fun c1 => absurd (Int32.le_refl _) c1)
      repeat refine fst1_ok X (dk rfl) rfl ?_
      exact retl_ok X hr hlk (dk rfl) ⟨⟨_, rfl⟩, rfl⟩ (Nat.le_refl _) (Nat.le_refl _)
    | succ d ih =>
      intro i hd hi z l hl
      obtain ⟨y, hy⟩ : ∃ y, x[i]? = some y := ⟨x[i]'(by omega), by simp⟩
      have f2 : Value.int (nI i + Int32.ofInt 1) = vI (i + 1) := congrArg Value.int (by rw [nI_1', nI_add])
      refine WS.sel [7, 6, 5, 3] hl ?_
      repeat refine fst1_ok X (dk rfl) rfl ?_
      refine br_ok X (dk rfl) rfl (show ((17 : Nat) : Int) + 24 = ((41 : Nat) : Int) from rfl) (fun c1 => absurd c1 (nI_ge (by omega) (by omega))) (fun _ => ?_)
      repeat refine fst1_ok X (dk rfl) rfl ?_
      refine ald_ok X (Or.inl ⟨rfl, rfl⟩) (dk rfl) hq (inA_nI (by omega) (IA_get hy)) ?_
      repeat refine fst1_ok X (dk rfl) rfl ?_
      refine callS_ok (av := [.long z, .long (nI y).toInt64]) (r := []) X E (c_add h z (nI y).toInt64) lkX10_add mlX10_226 lsX10_add ⟨Nat.le_of_ble_eq_true rfl, Nat.le_of_ble_eq_true rfl⟩ ⟨Nat.le_of_ble_eq_true rfl, Nat.le_of_ble_eq_true rfl⟩ (Nat.le_of_ble_eq_true rfl) (dk rfl) ?_
      rintro v h' ⟨rfl, rfl⟩
      generalize z * 31 + (nI y).toInt64 = w
      repeat refine fst1_ok X (dk rfl) rfl ?_
      refine br_ok X (dk rfl) rfl (show ((38 : Nat) : Int) + (-25) = ((13 : Nat) : Int) from rfl) (fun _ => ?_) (fun q => absurd trivial q)
      refine WS.sel (l' := [(7, vI (i + 1)), (6, vI x.length), (5, .ref q), (3, .long w)]) [7, 6, 5, 3] (by rw [← f2]; rfl) ?_
      exact ih (i + 1) (by omega) (by omega) _ _ rfl
  iterate 5 refine fst1_ok X (dk rfl) rfl ?_
  refine alen_ok X (by decide) (dk rfl) hq ?_
  rw [lx]
  iterate 3 refine fst1_ok X (dk rfl) rfl ?_
  exact loop _ 0 rfl (Nat.zero_le _) _ _ rfl
set_option maxHeartbeats 4000000 in
theorem c_house (h : AH) (M : MD h o S A sl an a r kn th) (x1 : Int32) : CT la D cA B0 pa yX10_house cX10_house 2 (some .int) (rmD 5 24 24) [.ref o, .int x1] h (intR o S A kn h) := by
  refine CT_of (by decide +kernel) (Nat.le_of_ble_eq_true rfl) ?_
  intro p e s m args below meth c X E hr hlk hnm
  have dk : ∀ {pc : Nat} {q : Instr × Nat}, lkd DX10_house pc = some q → decode cX10_house pc = .ok q := lkd_ok DX10_house_ok
  have mid1 : ∀ t1 : Bool, (t1 = false → inN 5 x1) → WR p la e (rmD 5 24 24) s m args below meth c D cA B0 2 (intR o S A kn h) 15 (lv_args 0 [.ref o, .int x1]) [.int (bI t1), .ref o] h 0 0 := by
    intro t1 ht1
    refine thr1_ok X E M ⟨Nat.le_of_ble_eq_true rfl, Nat.le_of_ble_eq_true rfl⟩ ⟨Nat.le_of_ble_eq_true rfl, Nat.le_of_ble_eq_true rfl⟩ (Nat.le_of_ble_eq_true rfl) (dk rfl) (fun h1 a1 r1 th1 M1 F1 => ?_)
    cases hb : t1 with
    | true =>
      refine br_ok X (dk rfl) rfl (show ((18 : Nat) : Int) + 7 = ((25 : Nat) : Int) from rfl) (fun q => absurd q bI_t) (fun _ => ?_)
      refine fst1_ok X (dk rfl) rfl ?_
      refine br_ok X (dk rfl) rfl (show ((22 : Nat) : Int) + 43 = ((65 : Nat) : Int) from rfl) (fun _ => ?_) (fun q => absurd trivial q)
      exact reti_ok X hr hlk rfl (dk rfl) ⟨⟨_, rfl⟩, ⟨_, _, _, _, _, M1⟩, F1⟩ (Nat.zero_le _) (Nat.zero_le _)
    | false =>
      refine br_ok X (dk rfl) rfl (show ((18 : Nat) : Int) + 7 = ((25 : Nat) : Int) from rfl) (fun _ => ?_) (fun q => absurd bI_f' q)
      obtain ⟨j1, hj1, rfl⟩ := ht1 hb
      obtain ⟨ss, s1, s2, s3⟩ := M1.slot
      obtain ⟨as, a1, a2, a3⟩ := M1.ans
      refine fst1_ok X (dk rfl) rfl ?_
      refine br_ok X (dk rfl) rfl (show ((26 : Nat) : Int) + 10 = ((36 : Nat) : Int) from rfl) (fun _ => ?_) (fun _ => ?_)
      · repeat refine fst1_ok X (dk rfl) rfl ?_
        refine br_ok X (dk rfl) rfl (show ((38 : Nat) : Int) + 10 = ((48 : Nat) : Int) from rfl) (fun _ => ?_) (fun _ => ?_)
        · repeat refine fst1_ok X (dk rfl) rfl ?_
          refine br_ok X (dk rfl) rfl (show ((50 : Nat) : Int) + 10 = ((60 : Nat) : Int) from rfl) (fun _ => ?_) (fun _ => ?_)
          · repeat refine fst1_ok X (dk rfl) rfl ?_
            refine callV_ok (ci := 12) (T := TX10) (N := 6) (av := [vI j1]) (r := []) X E (c_told_ h1 M1 (nI j1)) lkX10_told_ mlX10_221 lmX10_told_ lpX10_told_ ⟨Nat.le_of_ble_eq_true rfl, Nat.le_of_ble_eq_true rfl⟩ ⟨Nat.le_of_ble_eq_true rfl, Nat.le_of_ble_eq_true rfl⟩ rfl M1.obj (Nat.le_of_ble_eq_true rfl) (dk rfl) ?_
            rintro v h2 ⟨⟨w9, rfl⟩, I9⟩
            exact reti_ok X hr hlk rfl (dk rfl) ⟨⟨_, rfl⟩, MI.trans F1 I9⟩ (Nat.le_of_ble_eq_true rfl) (Nat.le_of_ble_eq_true rfl)
          · refine fst1_ok X (dk rfl) rfl ?_
            refine getf_ok X flX10_218 (dk rfl) M1.obj rfl ?_
            refine br_ok X (dk rfl) rfl (show ((57 : Nat) : Int) + 8 = ((65 : Nat) : Int) from rfl) (fun _ => ?_) (fun q => absurd trivial q)
            exact reti_ok X hr hlk rfl (dk rfl) ⟨⟨_, rfl⟩, ⟨_, _, _, _, _, M1⟩, F1⟩ (Nat.le_of_ble_eq_true rfl) (Nat.le_of_ble_eq_true rfl)
        · refine fst1_ok X (dk rfl) rfl ?_
          refine getf_ok X flX10_85 (dk rfl) M1.obj rfl ?_
          refine br_ok X (dk rfl) rfl (show ((45 : Nat) : Int) + 20 = ((65 : Nat) : Int) from rfl) (fun _ => ?_) (fun q => absurd trivial q)
          exact reti_ok X hr hlk rfl (dk rfl) ⟨⟨_, rfl⟩, ⟨_, _, _, _, _, M1⟩, F1⟩ (Nat.le_of_ble_eq_true rfl) (Nat.le_of_ble_eq_true rfl)
      · refine fst1_ok X (dk rfl) rfl ?_
        refine getf_ok X flX10_82 (dk rfl) M1.obj rfl ?_
        refine br_ok X (dk rfl) rfl (show ((33 : Nat) : Int) + 32 = ((65 : Nat) : Int) from rfl) (fun _ => ?_) (fun q => absurd trivial q)
        exact reti_ok X hr hlk rfl (dk rfl) ⟨⟨_, rfl⟩, ⟨_, _, _, _, _, M1⟩, F1⟩ (Nat.le_of_ble_eq_true rfl) (Nat.le_of_ble_eq_true rfl)
  iterate 2 refine fst1_ok X (dk rfl) rfl ?_
  have mid1T : ∀ l : List (Nat × Value), l = (lv_args 0 [.ref o, .int x1]) → WR p la e (rmD 5 24 24) s m args below meth c D cA B0 2 (intR o S A kn h) 10 l [.ref o] h 0 0 := by
    intro l hl
    rw [hl]
    refine fst1_ok X (dk rfl) rfl ?_
    refine br_ok X (dk rfl) rfl (show ((11 : Nat) : Int) + 4 = ((15 : Nat) : Int) from rfl) (fun _ => ?_) (fun q => absurd trivial q)
    exact mid1 true (fun z => by cases z)
  refine br_ok X (dk rfl) rfl (show ((2 : Nat) : Int) + 8 = ((10 : Nat) : Int) from rfl) (fun _ => mid1T _ rfl) (fun c1 => ?_)
  iterate 2 refine fst1_ok X (dk rfl) rfl ?_
  refine br_ok X (dk rfl) rfl (show ((7 : Nat) : Int) + 7 = ((14 : Nat) : Int) from rfl) (fun c2 => ?_) (fun _ => mid1T _ rfl)
  refine fst1_ok X (dk rfl) rfl ?_
  exact mid1 false (fun _ => inN_le (K := 4) (by omega) c1 (by rw [show nI 4 = Int32.ofInt 4 by decide +kernel]; exact c2))
end M39
end
section
/-! head, weight -/
theorem get3 {j1 j2 j3 n : Nat} (h1 : j1 < n) (h2 : j2 < n) (h3 : j3 < n) : ∀ i, i < 3 → ∃ j, [j1, j2, j3][i]? = some j ∧ j < n
  | 0, _ => ⟨j1, rfl, h1⟩
  | 1, _ => ⟨j2, rfl, h2⟩
  | 2, _ => ⟨j3, rfl, h3⟩
  | i + 3, h => by omega
/-- how many of the first places of a set are in it -/
def cntN (m : Nat) : Nat → Nat
  | 0 => 0
  | k + 1 => cntN m k + m >>> k % 2
theorem cnt_bc {m : Nat} (h : m < 256) : bcF (nI m) = nI (cntN m 8) ∧ cntN m 8 ≤ 8 := by
  have : ∀ m : Nat, m < 256 → bcF (nI m) = nI (cntN m 8) ∧ cntN m 8 ≤ 8 := by decide +kernel
  exact this m h
theorem bit8 {m k : Nat} (h : m < 256) (hk : k < 8) : (nI m >>> (nI k &&& 31)) &&& Int32.ofInt 1 = nI (m >>> k % 2) := by
  have : ∀ k : Nat, k < 8 → ∀ m : Nat, m < 256 → (nI m >>> (nI k &&& 31)) &&& Int32.ofInt 1 = nI (m >>> k % 2) := by decide +kernel
  exact this k hk m h
theorem movedN_lt (rows : List (List Nat)) : ∀ k : Nat, movedN rows k < 2 ^ k
  | 0 => by simp [movedN]
  | k + 1 => by
    have ih := movedN_lt rows k
    unfold movedN
    split
    · rw [Nat.pow_succ]; omega
    · exact Nat.or_lt_two_pow (by rw [Nat.pow_succ]; omega) (Nat.pow_lt_pow_right (by omega) (by omega))
theorem cnt_mono (m : Nat) {a : Nat} : ∀ {b : Nat}, a ≤ b → cntN m a ≤ cntN m b
  | 0, h => by rw [show a = 0 by omega]; exact Nat.le_refl _
  | b + 1, h => by
    by_cases e : a = b + 1
    · rw [e]; exact Nat.le_refl _
    · have := cnt_mono m (a := a) (b := b) (by omega)
      show cntN m a ≤ cntN m b + m >>> b % 2
      omega
section M39
variable {la : Launch} {D : va_G} {cA : Nat → ClassId} {B0 pa : Nat} {o S A : Nat} {sl : List (List Nat)} {an : List (List (List Nat))} {a r kn th : Int32}
set_option maxHeartbeats 4000000 in
theorem c_head (h : AH) (M : MD h o S A sl an a r kn th) (x1 x2 x3 x4 x5 : Int32) : CT la D cA B0 pa yX10_head cX10_head 9 (some .int) (rmD 2 5 200) [.ref o, .int x1, .int x2, .int x3, .int x4, .int x5] h (intR o S A kn h) := by
  refine CT_of (by decide +kernel) (Nat.le_of_ble_eq_true rfl) ?_
  intro p e s m args below meth c X E hr hlk hnm
  have dk : ∀ {pc : Nat} {q : Instr × Nat}, lkd DX10_head pc = some q → decode cX10_head pc = .ok q := lkd_ok DX10_head_ok
  have mid2 : ∀ t1 t2 : Bool, (t1 = false → inN 6 x1 ∧ inN 6 x3 ∧ inN 6 x4 ∧ inN 6 x5) → (t2 = false → inN 8 x2) → WR p la e (rmD 2 5 200) s m args below meth c D cA B0 9 (intR o S A kn h) 48 (lv_args 0 [.ref o, .int x1, .int x2, .int x3, .int x4, .int x5]) [.int (bI t2), .int (bI t1), .ref o] h 0 0 := by
    intro t1 t2 ht1 ht2
    refine thr2_ok X E M ⟨Nat.le_of_ble_eq_true rfl, Nat.le_of_ble_eq_true rfl⟩ ⟨Nat.le_of_ble_eq_true rfl, Nat.le_of_ble_eq_true rfl⟩ (Nat.le_of_ble_eq_true rfl) (dk rfl) (fun h1 a1 r1 th1 M1 F1 => ?_)
    cases hb : (t1 || t2) with
    | true =>
      refine br_ok X (dk rfl) rfl (show ((51 : Nat) : Int) + 5 = ((56 : Nat) : Int) from rfl) (fun q => absurd q bI_t) (fun _ => ?_)
      refine fst1_ok X (dk rfl) rfl ?_
      exact reti_ok X hr hlk rfl (dk rfl) ⟨⟨_, rfl⟩, ⟨_, _, _, _, _, M1⟩, F1⟩ (Nat.zero_le _) (Nat.zero_le _)
    | false =>
      refine br_ok X (dk rfl) rfl (show ((51 : Nat) : Int) + 5 = ((56 : Nat) : Int) from rfl) (fun _ => ?_) (fun q => absurd bI_f' q)
      obtain ⟨hb1, hb2⟩ := Bool.or_eq_false_iff.mp hb
      obtain ⟨⟨j1, hj1, rfl⟩, ⟨j3, hj3, rfl⟩, ⟨j4, hj4, rfl⟩, ⟨j5, hj5, rfl⟩⟩ := ht1 hb1
      obtain ⟨j2, hj2, rfl⟩ := ht2 hb2
      obtain ⟨ss, s1, s2, s3⟩ := M1.slot
      obtain ⟨as, a1, a2, a3⟩ := M1.ans
      obtain ⟨b1, y1, e1, f1, g1, w1, n1⟩ := s3 j1 hj1
      have ly1 : (y1.map vI).length = y1.length := List.length_map _
      obtain ⟨b3, y3, e3, f3, g3, w3, n3⟩ := s3 j3 hj3
      have ly3 : (y3.map vI).length = y3.length := List.length_map _
      obtain ⟨b4, y4, e4, f4, g4, w4, n4⟩ := s3 j4 hj4
      have ly4 : (y4.map vI).length = y4.length := List.length_map _
      obtain ⟨b5, y5, e5, f5, g5, w5, n5⟩ := s3 j5 hj5
      have ly5 : (y5.map vI).length = y5.length := List.length_map _
      refine fst1_ok X (dk rfl) rfl ?_
      refine newI_ok (N := 3) X (by decide) (dk rfl) (by decide) (by decide) (fun F hF hBF => ?_)
      repeat refine fst1_ok X (dk rfl) rfl ?_
      refine sti_ok (j := 0) X (dk rfl) (hup_self _ _ _) (by simp) (by simp) ?_
      rw [hup_hup]
      repeat refine fst1_ok X (dk rfl) rfl ?_
      refine sti_ok (j := 1) X (dk rfl) (hup_self _ _ _) (by simp) (by simp) ?_
      rw [hup_hup]
      repeat refine fst1_ok X (dk rfl) rfl ?_
      refine sti_ok (j := 2) X (dk rfl) (hup_self _ _ _) (by simp) (by simp) ?_
      rw [hup_hup]
      have eF : ((100, (((List.replicate 3 (Value.int 0)).set 0 (.int (nI j3))).set 1 (.int (nI j4))).set 2 (.int (nI j5))) : AC) = IA [j3, j4, j5] := rfl
      rw [eF]
      have XF := Ext.new hF (IA [j3, j4, j5])
      repeat refine fst1_ok X (dk rfl) rfl ?_
      rw [nI_10, nI_add]
      refine callS_ok (av := [vI (10 + j2)]) (r := []) X E (c_row _ (10 + j2)) lkX10_row mlX10_20 lsX10_row ⟨Nat.le_of_ble_eq_true rfl, Nat.le_of_ble_eq_true rfl⟩ ⟨Nat.le_of_ble_eq_true rfl, Nat.le_of_ble_eq_true rfl⟩ (Nat.le_of_ble_eq_true rfl) (dk rfl) ?_
      rintro v h2 ⟨u0, rfl, hu0, hBu0, rfl⟩
      have XR := XF.trans (Ext.new hu0 (IA [10 + j2]))
      have hF2 : hup (hup h1 F (IA [j3, j4, j5])) u0 (IA [10 + j2]) F = some (IA [j3, j4, j5]) := Ext.new hu0 _ _ _ (hup_self _ _ _)
      have p3 : pF (10 + j2) ≤ 3 := by unfold pF; rw [if_neg (by omega)]; omega
      have loop : ∀ (d i : Nat), d = pF (10 + j2) - i → i ≤ pF (10 + j2) → ∀ (hh : AH) (u : Nat) (W : List Nat) (l : List (Nat × Value)), lsel l [8, 7, 6, 2, 1, 0] = [(8, vI i), (7, .ref u), (6, .ref F), (2, vI j2), (1, vI j1), (0, .ref o)] → Ext h1 hh → hh F = some (IA [j3, j4, j5]) → hh u = some (IA W) → Wnt W (pF (10 + j2) - i) → W.length ≤ 1 + 16 * i → WR p la e (rmD 2 5 200) s m args below meth c D cA B0 9 (intR o S A kn h) 87 l [] hh (2 + i) (4 + 64 * i) := by
        intro d
        induction d with
        | zero =>
          intro i hd hi hh u W l hl XX hFh hu hW hlen
          have hi2 : i = pF (10 + j2) := by omega
          subst hi2
          have M2 := M1.ext XX
          rw [Nat.sub_self] at hW
          have tW := hW.tw
          refine WS.sel [8, 7, 6, 2, 1, 0] hl ?_
          repeat refine fst1_ok X (dk rfl) rfl ?_
          rw [nI_10, nI_add]
          refine callS_ok (av := [vI (10 + j2)]) (r := [vI (pF (10 + j2))]) X E (c_parts hh (x := 10 + j2) (by omega)) lkX10_parts mlX10_32 lsX10_parts ⟨Nat.le_of_ble_eq_true rfl, Nat.le_of_ble_eq_true rfl⟩ ⟨by show 2 + pF (10 + j2) + 0 ≤ 5; omega, by show 4 + 64 * pF (10 + j2) + 0 ≤ 200; omega⟩ (Nat.le_of_ble_eq_true rfl) (dk rfl) ?_
          rintro v h3 ⟨rfl, rfl⟩
          refine br_ok X (dk rfl) rfl (show ((96 : Nat) : Int) + 26 = ((122 : Nat) : Int) from rfl) (fun _ => ?_) (fun c1 => absurd (Int32.le_refl _) c1)
          repeat refine fst1_ok X (dk rfl) rfl ?_
          refine callV_ok (ci := 12) (T := TX10) (N := 6) (av := [vI j1, .ref u]) (r := []) X E (c_give _ M2 hj1 hu tW (by omega)) lkX10_give mlX10_106 lmX10_give lpX10_give ⟨Nat.le_of_ble_eq_true rfl, Nat.le_of_ble_eq_true rfl⟩ ⟨by show 2 + pF (10 + j2) + 0 + 0 ≤ 5; omega, by show 4 + 64 * pF (10 + j2) + 0 + 0 ≤ 200; omega⟩ rfl M2.obj (Nat.le_of_ble_eq_true rfl) (dk rfl) ?_
          rintro v h9 ⟨⟨w9, rfl⟩, I9⟩
          exact reti_ok X hr hlk rfl (dk rfl) ⟨⟨_, rfl⟩, MI.trans (F1.trans (Fr.ext XX)) I9⟩ (by show 2 + pF (10 + j2) + 0 + 0 ≤ 5; omega) (by show 4 + 64 * pF (10 + j2) + 0 + 0 ≤ 200; omega)
        | succ d ih =>
          intro i hd hi hh u W l hl XX hFh hu hW hlen
          have M2 := M1.ext XX
          obtain ⟨jj, q1, q2⟩ := get3 hj3 hj4 hj5 i (by omega)
          obtain ⟨bb, yy, v1, v2, v3, v4, v5⟩ := s3 jj q2
          have f2 : Value.int (nI i + Int32.ofInt 1) = vI (i + 1) := congrArg Value.int (by rw [nI_1', nI_add])
          refine WS.sel [8, 7, 6, 2, 1, 0] hl ?_
          repeat refine fst1_ok X (dk rfl) rfl ?_
          rw [nI_10, nI_add]
          refine callS_ok (av := [vI (10 + j2)]) (r := [vI i]) X E (c_parts hh (x := 10 + j2) (by omega)) lkX10_parts mlX10_32 lsX10_parts ⟨Nat.le_of_ble_eq_true rfl, Nat.le_of_ble_eq_true rfl⟩ ⟨by show 2 + i + 0 ≤ 5; omega, by show 4 + 64 * i + 0 ≤ 200; omega⟩ (Nat.le_of_ble_eq_true rfl) (dk rfl) ?_
          rintro v h3 ⟨rfl, rfl⟩
          refine br_ok X (dk rfl) rfl (show ((96 : Nat) : Int) + 26 = ((122 : Nat) : Int) from rfl) (fun c1 => absurd c1 (nI_ge (by omega) (by omega))) (fun _ => ?_)
          repeat refine fst1_ok X (dk rfl) rfl ?_
          refine getf_ok X flX10_11 (dk rfl) M2.obj rfl ?_
          repeat refine fst1_ok X (dk rfl) rfl ?_
          refine ald_ok (kd := 100) (vs := [j3, j4, j5].map vI) X (Or.inl ⟨rfl, rfl⟩) (dk rfl) hFh (inA_nI (by omega) (IA_get q1)) ?_
          refine ldr_ok X (dk rfl) (XX _ _ s2) v1 (by omega) ?_
          refine callS_ok (av := [.ref u, .ref bb]) (r := []) X E (c_joined _ hu (XX _ _ v3) (by omega) (by omega)) lkX10_joined mlX10_102 lsX10_joined ⟨Nat.le_of_ble_eq_true rfl, Nat.le_of_ble_eq_true rfl⟩ ⟨by show 2 + i + 0 + 1 ≤ 5; omega, by show 4 + 64 * i + 0 + (W.length + yy.length) ≤ 200; omega⟩ (Nat.le_of_ble_eq_true rfl) (dk rfl) ?_
          rintro v h3 ⟨u2, rfl, hu2, hBu2, rfl⟩
          have X2 := Ext.new hu2 (IA (W ++ yy))
          repeat refine fst1_ok X (dk rfl) rfl ?_
          refine br_ok X (dk rfl) rfl (show ((119 : Nat) : Int) + (-32) = ((87 : Nat) : Int) from rfl) (fun _ => ?_) (fun q => absurd trivial q)
          refine WS.widen (k' := 2 + (i + 1)) (n' := 4 + 64 * (i + 1)) (by show 2 + i + 0 + 1 ≤ 2 + (i + 1); omega) (by show 4 + 64 * i + 0 + (W.length + yy.length) ≤ 4 + 64 * (i + 1); omega) ?_
          refine WS.sel (l' := [(8, vI (i + 1)), (7, .ref u2), (6, .ref F), (2, vI j2), (1, vI j1), (0, .ref o)]) [8, 7, 6, 2, 1, 0] (by rw [← f2]; rfl) ?_
          refine ih (i + 1) (by omega) (by omega) _ _ _ _ rfl (XX.trans X2) (X2 _ _ hFh) (hup_self _ _ _) ?_ (by rw [List.length_append]; omega)
          rw [show pF (10 + j2) - i = (pF (10 + j2) - (i + 1)) + 1 by omega] at hW
          exact hW.more v4
      iterate 3 refine fst1_ok X (dk rfl) rfl ?_
      exact loop _ 0 rfl (Nat.zero_le _) _ _ _ _ rfl XR hF2 (hup_self _ _ _) (Wnt.head (Or.inr ⟨by omega, by omega⟩)) (by simp)
  have mid1 : ∀ t1 : Bool, (t1 = false → inN 6 x1 ∧ inN 6 x3 ∧ inN 6 x4 ∧ inN 6 x5) → WR p la e (rmD 2 5 200) s m args below meth c D cA B0 9 (intR o S A kn h) 36 (lv_args 0 [.ref o, .int x1, .int x2, .int x3, .int x4, .int x5]) [.int (bI t1), .ref o] h 0 0 := by
    intro t1 ht1
    have mid2 := fun t2 => mid2 t1 t2 ht1
    iterate 1 refine fst1_ok X (dk rfl) rfl ?_
    refine isName_ok X E mlX10_99 ⟨Nat.le_of_ble_eq_true rfl, Nat.le_of_ble_eq_true rfl⟩ ⟨Nat.le_of_ble_eq_true rfl, Nat.le_of_ble_eq_true rfl⟩ (Nat.le_of_ble_eq_true rfl) (dk rfl) (fun mid2b0 mid2h0 => ?_)
    cases mid2b0 with
    | false =>
      refine br_ok X (dk rfl) rfl (show ((40 : Nat) : Int) + 7 = ((47 : Nat) : Int) from rfl) (fun q => absurd q bI_f) (fun _ => ?_)
      refine fst1_ok X (dk rfl) rfl ?_
      refine br_ok X (dk rfl) rfl (show ((44 : Nat) : Int) + 4 = ((48 : Nat) : Int) from rfl) (fun _ => ?_) (fun q => absurd trivial q)
      exact mid2 true (fun z => by cases z)
    | true =>
      refine br_ok X (dk rfl) rfl (show ((40 : Nat) : Int) + 7 = ((47 : Nat) : Int) from rfl) (fun _ => ?_) (fun q => absurd bI_t q)
      refine fst1_ok X (dk rfl) rfl ?_
      exact mid2 false (fun _ => mid2h0 rfl)
  iterate 2 refine fst1_ok X (dk rfl) rfl ?_
  refine isSlot_ok X E mlX10_95 ⟨Nat.le_of_ble_eq_true rfl, Nat.le_of_ble_eq_true rfl⟩ ⟨Nat.le_of_ble_eq_true rfl, Nat.le_of_ble_eq_true rfl⟩ (Nat.le_of_ble_eq_true rfl) (dk rfl) (fun mid1b0 mid1h0 => ?_)
  cases mid1b0 with
  | false =>
    refine br_ok X (dk rfl) rfl (show ((5 : Nat) : Int) + 26 = ((31 : Nat) : Int) from rfl) (fun _ => ?_) (fun q => absurd bI_f' q)
    refine fst1_ok X (dk rfl) rfl ?_
    refine br_ok X (dk rfl) rfl (show ((32 : Nat) : Int) + 4 = ((36 : Nat) : Int) from rfl) (fun _ => ?_) (fun q => absurd trivial q)
    exact mid1 true (fun z => by cases z)
  | true =>
    refine br_ok X (dk rfl) rfl (show ((5 : Nat) : Int) + 26 = ((31 : Nat) : Int) from rfl) (fun q => absurd q bI_t) (fun _ => ?_)
    iterate 1 refine fst1_ok X (dk rfl) rfl ?_
    refine isSlot_ok X E mlX10_95 ⟨Nat.le_of_ble_eq_true rfl, Nat.le_of_ble_eq_true rfl⟩ ⟨Nat.le_of_ble_eq_true rfl, Nat.le_of_ble_eq_true rfl⟩ (Nat.le_of_ble_eq_true rfl) (dk rfl) (fun mid1b1 mid1h1 => ?_)
    cases mid1b1 with
    | false =>
      refine br_ok X (dk rfl) rfl (show ((12 : Nat) : Int) + 19 = ((31 : Nat) : Int) from rfl) (fun _ => ?_) (fun q => absurd bI_f' q)
      refine fst1_ok X (dk rfl) rfl ?_
      refine br_ok X (dk rfl) rfl (show ((32 : Nat) : Int) + 4 = ((36 : Nat) : Int) from rfl) (fun _ => ?_) (fun q => absurd trivial q)
      exact mid1 true (fun z => by cases z)
    | true =>
      refine br_ok X (dk rfl) rfl (show ((12 : Nat) : Int) + 19 = ((31 : Nat) : Int) from rfl) (fun q => absurd q bI_t) (fun _ => ?_)
      iterate 1 refine fst1_ok X (dk rfl) rfl ?_
      refine isSlot_ok X E mlX10_95 ⟨Nat.le_of_ble_eq_true rfl, Nat.le_of_ble_eq_true rfl⟩ ⟨Nat.le_of_ble_eq_true rfl, Nat.le_of_ble_eq_true rfl⟩ (Nat.le_of_ble_eq_true rfl) (dk rfl) (fun mid1b2 mid1h2 => ?_)
      cases mid1b2 with
      | false =>
        refine br_ok X (dk rfl) rfl (show ((20 : Nat) : Int) + 11 = ((31 : Nat) : Int) from rfl) (fun _ => ?_) (fun q => absurd bI_f' q)
        refine fst1_ok X (dk rfl) rfl ?_
        refine br_ok X (dk rfl) rfl (show ((32 : Nat) : Int) + 4 = ((36 : Nat) : Int) from rfl) (fun _ => ?_) (fun q => absurd trivial q)
        exact mid1 true (fun z => by cases z)
      | true =>
        refine br_ok X (dk rfl) rfl (show ((20 : Nat) : Int) + 11 = ((31 : Nat) : Int) from rfl) (fun q => absurd q bI_t) (fun _ => ?_)
        iterate 1 refine fst1_ok X (dk rfl) rfl ?_
        refine isSlot_ok X E mlX10_95 ⟨Nat.le_of_ble_eq_true rfl, Nat.le_of_ble_eq_true rfl⟩ ⟨Nat.le_of_ble_eq_true rfl, Nat.le_of_ble_eq_true rfl⟩ (Nat.le_of_ble_eq_true rfl) (dk rfl) (fun mid1b3 mid1h3 => ?_)
        cases mid1b3 with
        | false =>
          refine br_ok X (dk rfl) rfl (show ((28 : Nat) : Int) + 7 = ((35 : Nat) : Int) from rfl) (fun q => absurd q bI_f) (fun _ => ?_)
          refine fst1_ok X (dk rfl) rfl ?_
          refine br_ok X (dk rfl) rfl (show ((32 : Nat) : Int) + 4 = ((36 : Nat) : Int) from rfl) (fun _ => ?_) (fun q => absurd trivial q)
          exact mid1 true (fun z => by cases z)
        | true =>
          refine br_ok X (dk rfl) rfl (show ((28 : Nat) : Int) + 7 = ((35 : Nat) : Int) from rfl) (fun _ => ?_) (fun q => absurd bI_t q)
          refine fst1_ok X (dk rfl) rfl ?_
          exact mid1 false (fun _ => ⟨mid1h0 rfl, mid1h1 rfl, mid1h2 rfl, mid1h3 rfl⟩)
set_option maxHeartbeats 4000000 in
theorem c_weight (h : AH) (M : MD h o S A sl an a r kn th) (x1 x2 : Int32) : CT la D cA B0 pa yX10_weight cX10_weight 8 (some .int) (rmD 5 9 16) [.ref o, .int x1, .int x2] h (intR o S A kn h) := by
  refine CT_of (by decide +kernel) (Nat.le_of_ble_eq_true rfl) ?_
  intro p e s m args below meth c X E hr hlk hnm
  have dk : ∀ {pc : Nat} {q : Instr × Nat}, lkd DX10_weight pc = some q → decode cX10_weight pc = .ok q := lkd_ok DX10_weight_ok
  have mid1 : ∀ t1 : Bool, (t1 = false → inN 3 x1) → WR p la e (rmD 5 9 16) s m args below meth c D cA B0 8 (intR o S A kn h) 13 (lv_args 0 [.ref o, .int x1, .int x2]) [.int (bI t1), .ref o] h 0 0 := by
    intro t1 ht1
    refine thr1_ok X E M ⟨Nat.le_of_ble_eq_true rfl, Nat.le_of_ble_eq_true rfl⟩ ⟨Nat.le_of_ble_eq_true rfl, Nat.le_of_ble_eq_true rfl⟩ (Nat.le_of_ble_eq_true rfl) (dk rfl) (fun h1 a1 r1 th1 M1 F1 => ?_)
    cases hb : t1 with
    | true =>
      refine br_ok X (dk rfl) rfl (show ((16 : Nat) : Int) + 5 = ((21 : Nat) : Int) from rfl) (fun q => absurd q bI_t) (fun _ => ?_)
      refine fst1_ok X (dk rfl) rfl ?_
      exact reti_ok X hr hlk rfl (dk rfl) ⟨⟨_, rfl⟩, ⟨_, _, _, _, _, M1⟩, F1⟩ (Nat.zero_le _) (Nat.zero_le _)
    | false =>
      refine br_ok X (dk rfl) rfl (show ((16 : Nat) : Int) + 5 = ((21 : Nat) : Int) from rfl) (fun _ => ?_) (fun q => absurd bI_f' q)
      obtain ⟨j1, hj1, rfl⟩ := ht1 hb
      obtain ⟨ss, s1, s2, s3⟩ := M1.slot
      obtain ⟨as, a1, a2, a3⟩ := M1.ans
      obtain ⟨b1, y1, e1, f1, g1, w1, n1⟩ := a3 j1 hj1
      repeat refine fst1_ok X (dk rfl) rfl ?_
      refine getf_ok X flX10_16 (dk rfl) M1.obj rfl ?_
      refine fst1_ok X (dk rfl) rfl ?_
      refine lda_ok X (dk rfl) a2 e1 (by omega) ?_
      obtain ⟨as1, as2, as3, as4⟩ := g1.row
      refine callS_ok (av := [.ref b1]) (r := []) X E (c_movedBy h1 g1 w1) lkX10_movedBy mlX10_141 lsX10_movedBy ⟨Nat.le_of_ble_eq_true rfl, Nat.le_of_ble_eq_true rfl⟩ ⟨Nat.le_of_ble_eq_true rfl, Nat.le_of_ble_eq_true rfl⟩ (Nat.le_of_ble_eq_true rfl) (dk rfl) ?_
      rintro v h2 ⟨rfl, E1⟩
      have hm := movedN_lt y1 8
      generalize movedN y1 8 = mm at hm
      obtain ⟨hc1, hc2⟩ := cnt_bc (m := mm) (by omega)
      repeat refine fst1_ok X (dk rfl) rfl ?_
      refine callS_ok (av := [vI mm]) (r := []) X E (c_ones h2 (nI mm)) lkX10_ones mlX10_128 lsX10_ones ⟨Nat.le_of_ble_eq_true rfl, Nat.le_of_ble_eq_true rfl⟩ ⟨Nat.le_of_ble_eq_true rfl, Nat.le_of_ble_eq_true rfl⟩ (Nat.le_of_ble_eq_true rfl) (dk rfl) ?_
      rintro v h3 ⟨rfl, rfl⟩
      rw [hc1]
      refine newR_ok (N := cntN mm 8) (kd := 105) X E (by decide) cl10_9 (by omega) (dk rfl) (Nat.le_of_ble_eq_true rfl) (by show 8 + 0 + cntN mm 8 ≤ 16; omega) (fun F hF hBF => ?_)
      have M2 := M1.ext E1
      have e0 : ((105, List.replicate (cntN mm 8) Value.null) : AC) = (105, filR [] (cntN mm 8)) := by rw [filR_0]
      rw [e0]
      refine WS.widen (k' := 9) (n' := 16) (Nat.le_of_ble_eq_true rfl) (by show 8 + 0 + cntN mm 8 ≤ 16; omega) ?_
      have loop : ∀ (d i : Nat), d = 8 - i → i ≤ 8 → ∀ (hh : AH) (rs : List Nat) (rows : List (List Nat)) (z : Int32) (l : List (Nat × Value)), lsel l [7, 6, 5, 4, 3, 2, 1, 0] = [(7, vI i), (6, .int z), (5, vI (cntN mm i)), (4, .ref F), (3, vI mm), (2, .int x2), (1, vI j1), (0, .ref o)] → Ext h3 hh → rs.length = cntN mm i → rows.length = rs.length → hh F = some (105, filR rs (cntN mm 8)) → (∀ (k u : Nat) (w : List Nat), rs[k]? = some u → rows[k]? = some w → hh u = some (IA w)) → (∀ w ∈ rows, TW w ∧ w.length ≤ 16) → WR p la e (rmD 5 9 16) s m args below meth c D cA B0 8 (intR o S A kn h) 49 l [] hh 9 16 := by
        intro d
        induction d with
        | zero =>
          intro i hd hi hh rs rows z l hl XX h1l h2l hFh hrs hro
          have hi2 : i = 8 := by omega
          subst hi2
          have M3 := M2.ext XX
          refine WS.sel [7, 6, 5, 4, 3, 2, 1, 0] hl ?_
          repeat refine fst1_ok X (dk rfl) rfl ?_
          refine br_ok X (dk rfl) rfl (show ((53 : Nat) : Int) + 53 = ((106 : Nat) : Int) from rfl) (fun _ => ?_) (fun c1 => absurd (by decide) c1)
          repeat refine fst1_ok X (dk rfl) rfl ?_
          refine br_ok X (dk rfl) rfl (show ((107 : Nat) : Int) + 11 = ((118 : Nat) : Int) from rfl) (fun _ => ?_) (fun _ => ?_)
          · repeat refine fst1_ok X (dk rfl) rfl ?_
            exact reti_ok X hr hlk rfl (dk rfl) ⟨⟨_, rfl⟩, ⟨_, _, _, _, _, M3⟩, F1.trans (Fr.ext (E1.trans XX))⟩ (Nat.le_refl _) (Nat.le_refl _)
          · have hA : Ans hh F rows := ⟨rs, h2l.symm, by rw [hFh, ← h1l, filR_end], hrs⟩
            repeat refine fst1_ok X (dk rfl) rfl ?_
            refine callS_ok (av := [.ref F]) (r := []) X E (c_sharedOf hh hA ⟨by omega, hro⟩) lkX10_sharedOf mlX10_199 lsX10_sharedOf ⟨Nat.le_of_ble_eq_true rfl, Nat.le_of_ble_eq_true rfl⟩ ⟨Nat.le_of_ble_eq_true rfl, Nat.le_of_ble_eq_true rfl⟩ (Nat.le_of_ble_eq_true rfl) (dk rfl) ?_
            rintro v h4 ⟨⟨w, rfl⟩, rfl⟩
            refine br_ok X (dk rfl) rfl (show ((115 : Nat) : Int) + 5 = ((120 : Nat) : Int) from rfl) (fun _ => ?_) (fun q => absurd trivial q)
            exact reti_ok X hr hlk rfl (dk rfl) ⟨⟨_, rfl⟩, ⟨_, _, _, _, _, M3⟩, F1.trans (Fr.ext (E1.trans XX))⟩ (Nat.le_of_ble_eq_true rfl) (Nat.le_of_ble_eq_true rfl)
        | succ d ih =>
          intro i hd hi hh rs rows z l hl XX h1l h2l hFh hrs hro
          have M3 := M2.ext XX
          obtain ⟨c5, z5, i5, i6, i7⟩ := as4 i (by rw [w1.1]; omega)
          have t5 := w1.2 z5 (List.mem_of_getElem? i6)
          have f2 : Value.int (nI i + Int32.ofInt 1) = vI (i + 1) := congrArg Value.int (by rw [nI_1', nI_add])
          have cs : cntN mm (i + 1) = cntN mm i + mm >>> i % 2 := rfl
          have cm := cnt_mono mm (a := i + 1) (b := 8) (by omega)
          refine WS.sel [7, 6, 5, 4, 3, 2, 1, 0] hl ?_
          repeat refine fst1_ok X (dk rfl) rfl ?_
          refine br_ok X (dk rfl) rfl (show ((53 : Nat) : Int) + 53 = ((106 : Nat) : Int) from rfl) (fun c1 => absurd c1 (nI_ge (a := i) (b := 8) (by omega) (by omega))) (fun _ => ?_)
          repeat refine fst1_ok X (dk rfl) rfl ?_
          rw [bit8 (by omega) (by omega)]
          rcases Nat.mod_two_eq_zero_or_one (mm >>> i) with hb0 | hb0
          · rw [hb0]
            rw [hb0, Nat.add_zero] at cs
            refine br_ok X (dk rfl) rfl (show ((62 : Nat) : Int) + 6 = ((68 : Nat) : Int) from rfl) (fun c2 => absurd rfl c2) (fun _ => ?_)
            refine br_ok X (dk rfl) rfl (show ((65 : Nat) : Int) + 35 = ((100 : Nat) : Int) from rfl) (fun _ => ?_) (fun q => absurd trivial q)
            repeat refine fst1_ok X (dk rfl) rfl ?_
            refine br_ok X (dk rfl) rfl (show ((103 : Nat) : Int) + (-54) = ((49 : Nat) : Int) from rfl) (fun _ => ?_) (fun q => absurd trivial q)
            refine WS.sel (l' := [(7, vI (i + 1)), (6, .int z), (5, vI (cntN mm (i + 1))), (4, .ref F), (3, vI mm), (2, .int x2), (1, vI j1), (0, .ref o)]) [7, 6, 5, 4, 3, 2, 1, 0] (by rw [← f2, cs]; rfl) ?_
            exact ih (i + 1) (by omega) (by omega) _ rs rows _ _ rfl XX (by rw [cs]; exact h1l) h2l hFh hrs hro
          · rw [hb0]
            rw [hb0] at cs
            refine br_ok X (dk rfl) rfl (show ((62 : Nat) : Int) + 6 = ((68 : Nat) : Int) from rfl) (fun _ => ?_) (fun c2 => absurd (by decide) c2)
            repeat refine fst1_ok X (dk rfl) rfl ?_
            refine getf_ok X flX10_16 (dk rfl) M3.obj rfl ?_
            refine fst1_ok X (dk rfl) rfl ?_
            refine lda_ok X (dk rfl) (XX _ _ (E1 _ _ a2)) e1 (by omega) ?_
            refine fst1_ok X (dk rfl) rfl ?_
            refine ldr_ok X (dk rfl) (XX _ _ (E1 _ _ as3)) i5 (by rw [as2, w1.1]; decide) ?_
            have hc5 := XX _ _ (E1 _ _ i7)
            refine str_ok X (dk rfl) hFh hc5 (by rw [filR_len (by omega)]; omega) (by rw [filR_len (by omega)]; omega) ?_
            rw [show (filR rs (cntN mm 8)).set (cntN mm i) (.ref c5) = filR (rs ++ [c5]) (cntN mm 8) by rw [← h1l]; exact filR_set (by omega)]
            have XX2 : Ext h3 (hup hh F (105, filR (rs ++ [c5]) (cntN mm 8))) := XX.set hF _
            have M4 := M2.ext XX2
            have kF : ∀ (u : Nat) (w : List Nat), hh u = some (IA w) → hup hh F (105, filR (rs ++ [c5]) (cntN mm 8)) u = some (IA w) := fun u w hu => by rw [hup_ne _ _ (IA_ne hu hFh)]; exact hu
            repeat refine fst1_ok X (dk rfl) rfl ?_
            refine getf_ok X flX10_16 (dk rfl) M4.obj rfl ?_
            refine fst1_ok X (dk rfl) rfl ?_
            refine lda_ok X (dk rfl) (XX2 _ _ (E1 _ _ a2)) e1 (by omega) ?_
            refine fst1_ok X (dk rfl) rfl ?_
            refine ldr_ok X (dk rfl) (XX2 _ _ (E1 _ _ as3)) i5 (by rw [as2, w1.1]; decide) ?_
            refine alen_ok X (by decide) (dk rfl) (kF _ _ hc5) ?_
            generalize nI (z5.map vI).length = w5
            repeat refine fst1_ok X (dk rfl) rfl ?_
            refine br_ok X (dk rfl) rfl (show ((103 : Nat) : Int) + (-54) = ((49 : Nat) : Int) from rfl) (fun _ => ?_) (fun q => absurd trivial q)
            have f3 : Value.int (nI (cntN mm i) + Int32.ofInt 1) = vI (cntN mm (i + 1)) := congrArg Value.int (by rw [nI_1', nI_add, cs])
            refine WS.sel (l' := [(7, vI (i + 1)), (6, .int (z + w5)), (5, vI (cntN mm (i + 1))), (4, .ref F), (3, vI mm), (2, .int x2), (1, vI j1), (0, .ref o)]) [7, 6, 5, 4, 3, 2, 1, 0] (by rw [← f2, ← f3]; rfl) ?_
            refine ih (i + 1) (by omega) (by omega) _ (rs ++ [c5]) (rows ++ [z5]) _ _ rfl XX2 (by rw [List.length_append, cs, h1l]; rfl) (by simp [h2l]) (hup_self _ _ _) (fun k u w k1 k2 => ?_) (fun w hw => ?_)
            · rcases Nat.lt_or_ge k rs.length with q | q
              · rw [List.getElem?_append_left q] at k1
                rw [List.getElem?_append_left (by omega)] at k2
                exact kF _ _ (hrs k u w k1 k2)
              · have hk : k = rs.length := by have := (List.getElem?_eq_some_iff.mp k1).1; rw [List.length_append, List.length_singleton] at this; omega
                rw [hk, List.getElem?_concat_length] at k1
                rw [hk, ← h2l, List.getElem?_concat_length] at k2
                cases k1
                cases k2
                exact kF _ _ hc5
            · rcases List.mem_append.mp hw with q | q
              · exact hro w q
              · simp at q; rw [q]; exact t5
      iterate 7 refine fst1_ok X (dk rfl) rfl ?_
      exact loop 8 0 rfl (Nat.zero_le _) _ [] [] _ _ rfl (Ext.new hF _) rfl rfl (hup_self _ _ _) (fun k u w k1 => by simp at k1) (fun w hw => by simp at hw)
  iterate 2 refine fst1_ok X (dk rfl) rfl ?_
  refine isAnswer_ok X E mlX10_135 ⟨Nat.le_of_ble_eq_true rfl, Nat.le_of_ble_eq_true rfl⟩ ⟨Nat.le_of_ble_eq_true rfl, Nat.le_of_ble_eq_true rfl⟩ (Nat.le_of_ble_eq_true rfl) (dk rfl) (fun mid1b0 mid1h0 => ?_)
  cases mid1b0 with
  | false =>
    refine br_ok X (dk rfl) rfl (show ((5 : Nat) : Int) + 7 = ((12 : Nat) : Int) from rfl) (fun q => absurd q bI_f) (fun _ => ?_)
    refine fst1_ok X (dk rfl) rfl ?_
    refine br_ok X (dk rfl) rfl (show ((9 : Nat) : Int) + 4 = ((13 : Nat) : Int) from rfl) (fun _ => ?_) (fun q => absurd trivial q)
    exact mid1 true (fun z => by cases z)
  | true =>
    refine br_ok X (dk rfl) rfl (show ((5 : Nat) : Int) + 7 = ((12 : Nat) : Int) from rfl) (fun _ => ?_) (fun q => absurd bI_t q)
    refine fst1_ok X (dk rfl) rfl ?_
    exact mid1 false (fun _ => mid1h0 rfl)
end M39
end
section
theorem zz_look : True := by
  have := @c_weight
  have := @c_head
  have := @c_house
  have := @c_isSo
  trivial
theorem zz_bad : 1 = 2 := by
  exact c_weigh
end
