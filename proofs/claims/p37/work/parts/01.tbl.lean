-- ===== PART A: goes FIRST, ahead of the names: the tables' words, and 'selects' of the private methods out of them =====
theorem tb1_1 {w : Cond} (h : w ∈ tables_1_1) : w ∈ tables_1 := List.mem_append_left _ h
theorem tb1_2 {w : Cond} (h : w ∈ tables_1_2) : w ∈ tables_1 := List.mem_append_right _ (List.mem_append_left _ h)
theorem tb1_3 {w : Cond} (h : w ∈ tables_1_3) : w ∈ tables_1 := List.mem_append_right _ (List.mem_append_right _ (List.mem_append_left _ h))
theorem tb1_4 {w : Cond} (h : w ∈ tables_1_4) : w ∈ tables_1 := List.mem_append_right _ (List.mem_append_right _ (List.mem_append_right _ (List.mem_append_left _ h)))
theorem tb1_5 {w : Cond} (h : w ∈ tables_1_5) : w ∈ tables_1 := List.mem_append_right _ (List.mem_append_right _ (List.mem_append_right _ (List.mem_append_right _ (List.mem_append_left _ h))))
theorem tb1_6 {w : Cond} (h : w ∈ tables_1_6) : w ∈ tables_1 := List.mem_append_right _ (List.mem_append_right _ (List.mem_append_right _ (List.mem_append_right _ (List.mem_append_right _ (List.mem_append_left _ h)))))
theorem tb1_7 {w : Cond} (h : w ∈ tables_1_7) : w ∈ tables_1 := List.mem_append_right _ (List.mem_append_right _ (List.mem_append_right _ (List.mem_append_right _ (List.mem_append_right _ (List.mem_append_right _ (List.mem_append_left _ h))))))
theorem tb1_8 {w : Cond} (h : w ∈ tables_1_8) : w ∈ tables_1 := List.mem_append_right _ (List.mem_append_right _ (List.mem_append_right _ (List.mem_append_right _ (List.mem_append_right _ (List.mem_append_right _ (List.mem_append_right _ h))))))
/-- a private method of a class that the tables say can be made, by its rows of tables_1 -/
def lw_okq (q : MethodName × Nat) : Prop := (q.1.cls ≠ "java/lang/invoke/MethodHandle" ∧ q.1.cls ≠ "java/lang/invoke/VarHandle") ∧ Cond.instantiable q.1.cls q.2 ∈ tables_1 ∧ Cond.privateMethod q.1 ∈ tables_1 ∧ Cond.instanceMethod q.1 ∈ tables_1
set_option maxRecDepth 100000 in
theorem lw_p0 : lw_okq (⟨"Branchmatch$Steps", "takeStep", "()V"⟩, 5) := ⟨⟨by decide +kernel, by decide +kernel⟩, tb1_1 (List.mem_of_getElem? (i := 84) rfl), tb1_2 (List.mem_of_getElem? (i := 10) rfl), tb1_2 (List.mem_of_getElem? (i := 11) rfl)⟩
set_option maxRecDepth 100000 in
theorem lw_p1 : lw_okq (⟨"Branchmatch$Steps", "lookedUp", "(I)I"⟩, 5) := ⟨⟨by decide +kernel, by decide +kernel⟩, tb1_1 (List.mem_of_getElem? (i := 84) rfl), tb1_2 (List.mem_of_getElem? (i := 18) rfl), tb1_2 (List.mem_of_getElem? (i := 19) rfl)⟩
set_option maxRecDepth 100000 in
theorem lw_p2 : lw_okq (⟨"Branchmatch$Steps", "joinNames", "(II)V"⟩, 5) := ⟨⟨by decide +kernel, by decide +kernel⟩, tb1_1 (List.mem_of_getElem? (i := 84) rfl), tb1_2 (List.mem_of_getElem? (i := 34) rfl), tb1_2 (List.mem_of_getElem? (i := 35) rfl)⟩
set_option maxRecDepth 100000 in
theorem lw_p3 : lw_okq (⟨"Branchmatch$Steps", "standFor", "(II)V"⟩, 5) := ⟨⟨by decide +kernel, by decide +kernel⟩, tb1_1 (List.mem_of_getElem? (i := 84) rfl), tb1_2 (List.mem_of_getElem? (i := 38) rfl), tb1_2 (List.mem_of_getElem? (i := 39) rfl)⟩
set_option maxRecDepth 100000 in
theorem lw_p4 : lw_okq (⟨"Branchmatch$Classes", "classAt", "(I)I"⟩, 5) := ⟨⟨by decide +kernel, by decide +kernel⟩, tb1_1 (List.mem_of_getElem? (i := 124) rfl), tb1_2 (List.mem_of_getElem? (i := 86) rfl), tb1_2 (List.mem_of_getElem? (i := 87) rfl)⟩
set_option maxRecDepth 100000 in
theorem lw_p5 : lw_okq (⟨"Branchmatch$Classes", "join", "(II)Z"⟩, 5) := ⟨⟨by decide +kernel, by decide +kernel⟩, tb1_1 (List.mem_of_getElem? (i := 124) rfl), tb1_2 (List.mem_of_getElem? (i := 92) rfl), tb1_2 (List.mem_of_getElem? (i := 93) rfl)⟩
set_option maxRecDepth 100000 in
theorem lw_p6 : lw_okq (⟨"Branchmatch$Classes", "headAt", "(I)I"⟩, 5) := ⟨⟨by decide +kernel, by decide +kernel⟩, tb1_1 (List.mem_of_getElem? (i := 124) rfl), tb1_2 (List.mem_of_getElem? (i := 96) rfl), tb1_2 (List.mem_of_getElem? (i := 97) rfl)⟩
set_option maxRecDepth 100000 in
theorem lw_p7 : lw_okq (⟨"Branchmatch$Classes", "isNoneInItself", "()Z"⟩, 5) := ⟨⟨by decide +kernel, by decide +kernel⟩, tb1_1 (List.mem_of_getElem? (i := 124) rfl), tb1_2 (List.mem_of_getElem? (i := 101) rfl), tb1_2 (List.mem_of_getElem? (i := 102) rfl)⟩
set_option maxRecDepth 100000 in
theorem lw_p8 : lw_okq (⟨"Branchmatch$Classes", "isClear", "(IJ)Z"⟩, 5) := ⟨⟨by decide +kernel, by decide +kernel⟩, tb1_1 (List.mem_of_getElem? (i := 124) rfl), tb1_2 (List.mem_of_getElem? (i := 108) rfl), tb1_2 (List.mem_of_getElem? (i := 109) rfl)⟩
set_option maxRecDepth 100000 in
theorem lw_p9 : lw_okq (⟨"Branchmatch$Classes", "placeFor", "(I)I"⟩, 5) := ⟨⟨by decide +kernel, by decide +kernel⟩, tb1_1 (List.mem_of_getElem? (i := 124) rfl), tb1_2 (List.mem_of_getElem? (i := 137) rfl), tb1_2 (List.mem_of_getElem? (i := 138) rfl)⟩
set_option maxRecDepth 100000 in
theorem lw_p10 : lw_okq (⟨"Branchmatch", "areAnswersSound", "(LBranchmatch$Term;LBranchmatch$Term;)Z"⟩, 14) := ⟨⟨by decide +kernel, by decide +kernel⟩, tb1_1 (List.mem_of_getElem? (i := 30) rfl), tb1_2 (List.mem_of_getElem? (i := 146) rfl), tb1_2 (List.mem_of_getElem? (i := 147) rfl)⟩
set_option maxRecDepth 100000 in
theorem lw_p11 : lw_okq (⟨"Branchmatch", "isMadeAlikeBy", "(LBranchmatch$Answer;LBranchmatch$Term;LBranchmatch$Term;)Z"⟩, 14) := ⟨⟨by decide +kernel, by decide +kernel⟩, tb1_1 (List.mem_of_getElem? (i := 30) rfl), tb1_2 (List.mem_of_getElem? (i := 166) rfl), tb1_2 (List.mem_of_getElem? (i := 167) rfl)⟩
set_option maxRecDepth 100000 in
theorem lw_p12 : lw_okq (⟨"Branchmatch", "isCommonSound", "(LBranchmatch$Term;LBranchmatch$Term;)Z"⟩, 14) := ⟨⟨by decide +kernel, by decide +kernel⟩, tb1_1 (List.mem_of_getElem? (i := 30) rfl), tb1_2 (List.mem_of_getElem? (i := 174) rfl), tb1_2 (List.mem_of_getElem? (i := 175) rfl)⟩
set_option maxRecDepth 100000 in
theorem lw_p13 : lw_okq (⟨"Branchmatch$Shape", "nameFor", "(LBranchmatch$Term;ILBranchmatch$Term;I)I"⟩, 1) := ⟨⟨by decide +kernel, by decide +kernel⟩, tb1_1 (List.mem_of_getElem? (i := 150) rfl), tb1_2 (List.mem_of_getElem? (i := 188) rfl), tb1_2 (List.mem_of_getElem? (i := 189) rfl)⟩
set_option maxRecDepth 100000 in
theorem lw_p14 : lw_okq (⟨"Branchmatch$Answer", "tellUntoldOfThemselves", "()V"⟩, 1) := ⟨⟨by decide +kernel, by decide +kernel⟩, tb1_1 (List.mem_of_getElem? (i := 60) rfl), tb1_2 (List.mem_of_getElem? (i := 208) rfl), tb1_2 (List.mem_of_getElem? (i := 209) rfl)⟩
set_option maxRecDepth 100000 in
theorem lw_p15 : lw_okq (⟨"Branchmatch", "isPlainSound", "(LBranchmatch$Term;)Z"⟩, 14) := ⟨⟨by decide +kernel, by decide +kernel⟩, tb1_1 (List.mem_of_getElem? (i := 30) rfl), tb1_2 (List.mem_of_getElem? (i := 212) rfl), tb1_2 (List.mem_of_getElem? (i := 213) rfl)⟩
def lw_privs_1 : List (MethodName × Nat) := [(⟨"Branchmatch$Steps", "takeStep", "()V"⟩, 5), (⟨"Branchmatch$Steps", "lookedUp", "(I)I"⟩, 5), (⟨"Branchmatch$Steps", "joinNames", "(II)V"⟩, 5), (⟨"Branchmatch$Steps", "standFor", "(II)V"⟩, 5), (⟨"Branchmatch$Classes", "classAt", "(I)I"⟩, 5), (⟨"Branchmatch$Classes", "join", "(II)Z"⟩, 5), (⟨"Branchmatch$Classes", "headAt", "(I)I"⟩, 5), (⟨"Branchmatch$Classes", "isNoneInItself", "()Z"⟩, 5), (⟨"Branchmatch$Classes", "isClear", "(IJ)Z"⟩, 5), (⟨"Branchmatch$Classes", "placeFor", "(I)I"⟩, 5), (⟨"Branchmatch", "areAnswersSound", "(LBranchmatch$Term;LBranchmatch$Term;)Z"⟩, 14), (⟨"Branchmatch", "isMadeAlikeBy", "(LBranchmatch$Answer;LBranchmatch$Term;LBranchmatch$Term;)Z"⟩, 14), (⟨"Branchmatch", "isCommonSound", "(LBranchmatch$Term;LBranchmatch$Term;)Z"⟩, 14), (⟨"Branchmatch$Shape", "nameFor", "(LBranchmatch$Term;ILBranchmatch$Term;I)I"⟩, 1), (⟨"Branchmatch$Answer", "tellUntoldOfThemselves", "()V"⟩, 1), (⟨"Branchmatch", "isPlainSound", "(LBranchmatch$Term;)Z"⟩, 14)]
theorem lw_r1 : ∀ q ∈ lw_privs_1, lw_okq q := List.forall_mem_cons.mpr ⟨lw_p0, List.forall_mem_cons.mpr ⟨lw_p1, List.forall_mem_cons.mpr ⟨lw_p2, List.forall_mem_cons.mpr ⟨lw_p3, List.forall_mem_cons.mpr ⟨lw_p4, List.forall_mem_cons.mpr ⟨lw_p5, List.forall_mem_cons.mpr ⟨lw_p6, List.forall_mem_cons.mpr ⟨lw_p7, List.forall_mem_cons.mpr ⟨lw_p8, List.forall_mem_cons.mpr ⟨lw_p9, List.forall_mem_cons.mpr ⟨lw_p10, List.forall_mem_cons.mpr ⟨lw_p11, List.forall_mem_cons.mpr ⟨lw_p12, List.forall_mem_cons.mpr ⟨lw_p13, List.forall_mem_cons.mpr ⟨lw_p14, List.forall_mem_cons.mpr ⟨lw_p15, fun _ h => absurd h List.not_mem_nil⟩⟩⟩⟩⟩⟩⟩⟩⟩⟩⟩⟩⟩⟩⟩⟩
set_option maxRecDepth 100000 in
theorem lw_p16 : lw_okq (⟨"Branchmatch", "areSizesSound", "()Z"⟩, 14) := ⟨⟨by decide +kernel, by decide +kernel⟩, tb1_1 (List.mem_of_getElem? (i := 30) rfl), tb1_2 (List.mem_of_getElem? (i := 228) rfl), tb1_2 (List.mem_of_getElem? (i := 229) rfl)⟩
set_option maxRecDepth 100000 in
theorem lw_p17 : lw_okq (⟨"Branchmatch", "termOf", "(I)LBranchmatch$Term;"⟩, 14) := ⟨⟨by decide +kernel, by decide +kernel⟩, tb1_1 (List.mem_of_getElem? (i := 30) rfl), tb1_3 (List.mem_of_getElem? (i := 7) rfl), tb1_3 (List.mem_of_getElem? (i := 8) rfl)⟩
set_option maxRecDepth 100000 in
theorem lw_p18 : lw_okq (⟨"java/lang/Throwable", "fillInStackTrace", "(I)Ljava/lang/Throwable;"⟩, 6) := ⟨⟨by decide +kernel, by decide +kernel⟩, tb1_3 (List.mem_of_getElem? (i := 48) rfl), tb1_3 (List.mem_of_getElem? (i := 46) rfl), tb1_3 (List.mem_of_getElem? (i := 47) rfl)⟩
set_option maxRecDepth 100000 in
theorem lw_p19 : lw_okq (⟨"Branchmatch", "sizesTogether", "()I"⟩, 14) := ⟨⟨by decide +kernel, by decide +kernel⟩, tb1_1 (List.mem_of_getElem? (i := 30) rfl), tb1_3 (List.mem_of_getElem? (i := 162) rfl), tb1_3 (List.mem_of_getElem? (i := 163) rfl)⟩
set_option maxRecDepth 100000 in
theorem lw_p20 : lw_okq (⟨"Branchmatch", "movesTogether", "()I"⟩, 14) := ⟨⟨by decide +kernel, by decide +kernel⟩, tb1_1 (List.mem_of_getElem? (i := 30) rfl), tb1_3 (List.mem_of_getElem? (i := 166) rfl), tb1_3 (List.mem_of_getElem? (i := 167) rfl)⟩
set_option maxRecDepth 100000 in
theorem lw_p21 : lw_okq (⟨"Branchmatch", "did", "(I)I"⟩, 14) := ⟨⟨by decide +kernel, by decide +kernel⟩, tb1_1 (List.mem_of_getElem? (i := 30) rfl), tb1_3 (List.mem_of_getElem? (i := 204) rfl), tb1_3 (List.mem_of_getElem? (i := 205) rfl)⟩
set_option maxRecDepth 100000 in
theorem lw_p22 : lw_okq (⟨"Branchmatch", "putSpareInto", "(LBranchmatch$Term;)I"⟩, 14) := ⟨⟨by decide +kernel, by decide +kernel⟩, tb1_1 (List.mem_of_getElem? (i := 30) rfl), tb1_3 (List.mem_of_getElem? (i := 219) rfl), tb1_3 (List.mem_of_getElem? (i := 220) rfl)⟩
set_option maxRecDepth 100000 in
theorem lw_p23 : lw_okq (⟨"Branchmatch", "refuse", "()I"⟩, 14) := ⟨⟨by decide +kernel, by decide +kernel⟩, tb1_1 (List.mem_of_getElem? (i := 30) rfl), tb1_3 (List.mem_of_getElem? (i := 224) rfl), tb1_3 (List.mem_of_getElem? (i := 225) rfl)⟩
set_option maxRecDepth 100000 in
theorem lw_p24 : lw_okq (⟨"Branchmatch", "answerOf", "(I)LBranchmatch$Answer;"⟩, 14) := ⟨⟨by decide +kernel, by decide +kernel⟩, tb1_1 (List.mem_of_getElem? (i := 30) rfl), tb1_4 (List.mem_of_getElem? (i := 60) rfl), tb1_4 (List.mem_of_getElem? (i := 61) rfl)⟩
set_option maxRecDepth 100000 in
theorem lw_p25 : lw_okq (⟨"Branchmatch", "putSpareAnswerInto", "(LBranchmatch$Answer;)I"⟩, 14) := ⟨⟨by decide +kernel, by decide +kernel⟩, tb1_1 (List.mem_of_getElem? (i := 30) rfl), tb1_4 (List.mem_of_getElem? (i := 113) rfl), tb1_4 (List.mem_of_getElem? (i := 114) rfl)⟩
set_option maxRecDepth 100000 in
theorem lw_p26 : lw_okq (⟨"BranchmatchModel", "isThrown", "(ZZ)Z"⟩, 6) := ⟨⟨by decide +kernel, by decide +kernel⟩, tb1_6 (List.mem_of_getElem? (i := 73) rfl), tb1_6 (List.mem_of_getElem? (i := 122) rfl), tb1_6 (List.mem_of_getElem? (i := 123) rfl)⟩
set_option maxRecDepth 100000 in
theorem lw_p27 : lw_okq (⟨"BranchmatchModel", "done", "(I)I"⟩, 6) := ⟨⟨by decide +kernel, by decide +kernel⟩, tb1_6 (List.mem_of_getElem? (i := 73) rfl), tb1_6 (List.mem_of_getElem? (i := 126) rfl), tb1_6 (List.mem_of_getElem? (i := 127) rfl)⟩
set_option maxRecDepth 100000 in
theorem lw_p28 : lw_okq (⟨"BranchmatchModel", "give", "(I[I)I"⟩, 6) := ⟨⟨by decide +kernel, by decide +kernel⟩, tb1_6 (List.mem_of_getElem? (i := 73) rfl), tb1_6 (List.mem_of_getElem? (i := 140) rfl), tb1_6 (List.mem_of_getElem? (i := 141) rfl)⟩
set_option maxRecDepth 100000 in
theorem lw_p29 : lw_okq (⟨"BranchmatchModel", "no", "()I"⟩, 6) := ⟨⟨by decide +kernel, by decide +kernel⟩, tb1_6 (List.mem_of_getElem? (i := 73) rfl), tb1_6 (List.mem_of_getElem? (i := 144) rfl), tb1_6 (List.mem_of_getElem? (i := 145) rfl)⟩
set_option maxRecDepth 100000 in
theorem lw_p30 : lw_okq (⟨"BranchmatchModel", "isThrown", "(Z)Z"⟩, 6) := ⟨⟨by decide +kernel, by decide +kernel⟩, tb1_6 (List.mem_of_getElem? (i := 73) rfl), tb1_6 (List.mem_of_getElem? (i := 152) rfl), tb1_6 (List.mem_of_getElem? (i := 153) rfl)⟩
set_option maxRecDepth 100000 in
theorem lw_p31 : lw_okq (⟨"BranchmatchModel", "isPlace", "(II)Z"⟩, 6) := ⟨⟨by decide +kernel, by decide +kernel⟩, tb1_6 (List.mem_of_getElem? (i := 73) rfl), tb1_6 (List.mem_of_getElem? (i := 171) rfl), tb1_6 (List.mem_of_getElem? (i := 172) rfl)⟩
def lw_privs_2 : List (MethodName × Nat) := [(⟨"Branchmatch", "areSizesSound", "()Z"⟩, 14), (⟨"Branchmatch", "termOf", "(I)LBranchmatch$Term;"⟩, 14), (⟨"java/lang/Throwable", "fillInStackTrace", "(I)Ljava/lang/Throwable;"⟩, 6), (⟨"Branchmatch", "sizesTogether", "()I"⟩, 14), (⟨"Branchmatch", "movesTogether", "()I"⟩, 14), (⟨"Branchmatch", "did", "(I)I"⟩, 14), (⟨"Branchmatch", "putSpareInto", "(LBranchmatch$Term;)I"⟩, 14), (⟨"Branchmatch", "refuse", "()I"⟩, 14), (⟨"Branchmatch", "answerOf", "(I)LBranchmatch$Answer;"⟩, 14), (⟨"Branchmatch", "putSpareAnswerInto", "(LBranchmatch$Answer;)I"⟩, 14), (⟨"BranchmatchModel", "isThrown", "(ZZ)Z"⟩, 6), (⟨"BranchmatchModel", "done", "(I)I"⟩, 6), (⟨"BranchmatchModel", "give", "(I[I)I"⟩, 6), (⟨"BranchmatchModel", "no", "()I"⟩, 6), (⟨"BranchmatchModel", "isThrown", "(Z)Z"⟩, 6), (⟨"BranchmatchModel", "isPlace", "(II)Z"⟩, 6)]
theorem lw_r2 : ∀ q ∈ lw_privs_2, lw_okq q := List.forall_mem_cons.mpr ⟨lw_p16, List.forall_mem_cons.mpr ⟨lw_p17, List.forall_mem_cons.mpr ⟨lw_p18, List.forall_mem_cons.mpr ⟨lw_p19, List.forall_mem_cons.mpr ⟨lw_p20, List.forall_mem_cons.mpr ⟨lw_p21, List.forall_mem_cons.mpr ⟨lw_p22, List.forall_mem_cons.mpr ⟨lw_p23, List.forall_mem_cons.mpr ⟨lw_p24, List.forall_mem_cons.mpr ⟨lw_p25, List.forall_mem_cons.mpr ⟨lw_p26, List.forall_mem_cons.mpr ⟨lw_p27, List.forall_mem_cons.mpr ⟨lw_p28, List.forall_mem_cons.mpr ⟨lw_p29, List.forall_mem_cons.mpr ⟨lw_p30, List.forall_mem_cons.mpr ⟨lw_p31, fun _ h => absurd h List.not_mem_nil⟩⟩⟩⟩⟩⟩⟩⟩⟩⟩⟩⟩⟩⟩⟩⟩
set_option maxRecDepth 100000 in
theorem lw_p32 : lw_okq (⟨"BranchmatchModel", "become", "(I[[I)I"⟩, 6) := ⟨⟨by decide +kernel, by decide +kernel⟩, tb1_6 (List.mem_of_getElem? (i := 73) rfl), tb1_7 (List.mem_of_getElem? (i := 5) rfl), tb1_7 (List.mem_of_getElem? (i := 6) rfl)⟩
set_option maxRecDepth 100000 in
theorem lw_p33 : lw_okq (⟨"BranchmatchModel$Steps", "go", "([I[I)V"⟩, 3) := ⟨⟨by decide +kernel, by decide +kernel⟩, tb1_7 (List.mem_of_getElem? (i := 23) rfl), tb1_7 (List.mem_of_getElem? (i := 30) rfl), tb1_7 (List.mem_of_getElem? (i := 31) rfl)⟩
set_option maxRecDepth 100000 in
theorem lw_p34 : lw_okq (⟨"BranchmatchModel$Steps", "deep", "([I)[I"⟩, 3) := ⟨⟨by decide +kernel, by decide +kernel⟩, tb1_7 (List.mem_of_getElem? (i := 23) rfl), tb1_7 (List.mem_of_getElem? (i := 34) rfl), tb1_7 (List.mem_of_getElem? (i := 35) rfl)⟩
set_option maxRecDepth 100000 in
theorem lw_p35 : lw_okq (⟨"BranchmatchModel$Steps", "bind", "(I[I)V"⟩, 3) := ⟨⟨by decide +kernel, by decide +kernel⟩, tb1_7 (List.mem_of_getElem? (i := 23) rfl), tb1_7 (List.mem_of_getElem? (i := 39) rfl), tb1_7 (List.mem_of_getElem? (i := 40) rfl)⟩
set_option maxRecDepth 100000 in
theorem lw_p36 : lw_okq (⟨"BranchmatchModel$Steps", "isWithin", "(I[I)Z"⟩, 3) := ⟨⟨by decide +kernel, by decide +kernel⟩, tb1_7 (List.mem_of_getElem? (i := 23) rfl), tb1_7 (List.mem_of_getElem? (i := 43) rfl), tb1_7 (List.mem_of_getElem? (i := 44) rfl)⟩
set_option maxRecDepth 100000 in
theorem lw_p37 : lw_okq (⟨"BranchmatchModel$Steps", "goOn", "([I[I)V"⟩, 3) := ⟨⟨by decide +kernel, by decide +kernel⟩, tb1_7 (List.mem_of_getElem? (i := 23) rfl), tb1_7 (List.mem_of_getElem? (i := 48) rfl), tb1_7 (List.mem_of_getElem? (i := 49) rfl)⟩
set_option maxRecDepth 100000 in
theorem lw_p38 : lw_okq (⟨"BranchmatchModel$Classes", "come", "([I)V"⟩, 5) := ⟨⟨by decide +kernel, by decide +kernel⟩, tb1_7 (List.mem_of_getElem? (i := 67) rfl), tb1_7 (List.mem_of_getElem? (i := 75) rfl), tb1_7 (List.mem_of_getElem? (i := 76) rfl)⟩
set_option maxRecDepth 100000 in
theorem lw_p39 : lw_okq (⟨"BranchmatchModel$Classes", "number", "([II)I"⟩, 5) := ⟨⟨by decide +kernel, by decide +kernel⟩, tb1_7 (List.mem_of_getElem? (i := 67) rfl), tb1_7 (List.mem_of_getElem? (i := 81) rfl), tb1_7 (List.mem_of_getElem? (i := 82) rfl)⟩
set_option maxRecDepth 100000 in
theorem lw_p40 : lw_okq (⟨"BranchmatchModel$Classes", "join", "(II)V"⟩, 5) := ⟨⟨by decide +kernel, by decide +kernel⟩, tb1_7 (List.mem_of_getElem? (i := 67) rfl), tb1_7 (List.mem_of_getElem? (i := 89) rfl), tb1_7 (List.mem_of_getElem? (i := 90) rfl)⟩
set_option maxRecDepth 100000 in
theorem lw_p41 : lw_okq (⟨"BranchmatchModel$Classes", "headed", "(I)I"⟩, 5) := ⟨⟨by decide +kernel, by decide +kernel⟩, tb1_7 (List.mem_of_getElem? (i := 67) rfl), tb1_7 (List.mem_of_getElem? (i := 93) rfl), tb1_7 (List.mem_of_getElem? (i := 94) rfl)⟩
set_option maxRecDepth 100000 in
theorem lw_p42 : lw_okq (⟨"BranchmatchModel$Classes", "isRound", "()Z"⟩, 5) := ⟨⟨by decide +kernel, by decide +kernel⟩, tb1_7 (List.mem_of_getElem? (i := 67) rfl), tb1_7 (List.mem_of_getElem? (i := 97) rfl), tb1_7 (List.mem_of_getElem? (i := 98) rfl)⟩
set_option maxRecDepth 100000 in
theorem lw_p43 : lw_okq (⟨"BranchmatchModel$Classes", "isFree", "(I[Z)Z"⟩, 5) := ⟨⟨by decide +kernel, by decide +kernel⟩, tb1_7 (List.mem_of_getElem? (i := 67) rfl), tb1_7 (List.mem_of_getElem? (i := 101) rfl), tb1_7 (List.mem_of_getElem? (i := 102) rfl)⟩
set_option maxRecDepth 100000 in
theorem lw_p44 : lw_okq (⟨"BranchmatchModel$Classes", "whole", "(I)[I"⟩, 5) := ⟨⟨by decide +kernel, by decide +kernel⟩, tb1_7 (List.mem_of_getElem? (i := 67) rfl), tb1_7 (List.mem_of_getElem? (i := 139) rfl), tb1_7 (List.mem_of_getElem? (i := 140) rfl)⟩
set_option maxRecDepth 100000 in
theorem lw_p45 : lw_okq (⟨"BranchmatchModel", "told", "(I)I"⟩, 6) := ⟨⟨by decide +kernel, by decide +kernel⟩, tb1_6 (List.mem_of_getElem? (i := 73) rfl), tb1_8 (List.mem_of_getElem? (i := 25) rfl), tb1_8 (List.mem_of_getElem? (i := 26) rfl)⟩
def lw_privs_3 : List (MethodName × Nat) := [(⟨"BranchmatchModel", "become", "(I[[I)I"⟩, 6), (⟨"BranchmatchModel$Steps", "go", "([I[I)V"⟩, 3), (⟨"BranchmatchModel$Steps", "deep", "([I)[I"⟩, 3), (⟨"BranchmatchModel$Steps", "bind", "(I[I)V"⟩, 3), (⟨"BranchmatchModel$Steps", "isWithin", "(I[I)Z"⟩, 3), (⟨"BranchmatchModel$Steps", "goOn", "([I[I)V"⟩, 3), (⟨"BranchmatchModel$Classes", "come", "([I)V"⟩, 5), (⟨"BranchmatchModel$Classes", "number", "([II)I"⟩, 5), (⟨"BranchmatchModel$Classes", "join", "(II)V"⟩, 5), (⟨"BranchmatchModel$Classes", "headed", "(I)I"⟩, 5), (⟨"BranchmatchModel$Classes", "isRound", "()Z"⟩, 5), (⟨"BranchmatchModel$Classes", "isFree", "(I[Z)Z"⟩, 5), (⟨"BranchmatchModel$Classes", "whole", "(I)[I"⟩, 5), (⟨"BranchmatchModel", "told", "(I)I"⟩, 6)]
theorem lw_r3 : ∀ q ∈ lw_privs_3, lw_okq q := List.forall_mem_cons.mpr ⟨lw_p32, List.forall_mem_cons.mpr ⟨lw_p33, List.forall_mem_cons.mpr ⟨lw_p34, List.forall_mem_cons.mpr ⟨lw_p35, List.forall_mem_cons.mpr ⟨lw_p36, List.forall_mem_cons.mpr ⟨lw_p37, List.forall_mem_cons.mpr ⟨lw_p38, List.forall_mem_cons.mpr ⟨lw_p39, List.forall_mem_cons.mpr ⟨lw_p40, List.forall_mem_cons.mpr ⟨lw_p41, List.forall_mem_cons.mpr ⟨lw_p42, List.forall_mem_cons.mpr ⟨lw_p43, List.forall_mem_cons.mpr ⟨lw_p44, List.forall_mem_cons.mpr ⟨lw_p45, fun _ h => absurd h List.not_mem_nil⟩⟩⟩⟩⟩⟩⟩⟩⟩⟩⟩⟩⟩⟩
def lw_privs : List (MethodName × Nat) := lw_privs_1 ++ (lw_privs_2 ++ (lw_privs_3))
def lw_tbl : List Cond := k2_sels lw_privs ++ tables_1
set_option maxRecDepth 100000 in
theorem lw_privs_ok : ∀ q ∈ lw_privs, lw_okq q := by
  show ∀ q ∈ lw_privs_1 ++ (lw_privs_2 ++ (lw_privs_3)), lw_okq q
  exact List.forall_mem_append.mpr ⟨lw_r1, List.forall_mem_append.mpr ⟨lw_r2, lw_r3⟩⟩
