section U82linkC
/-! words of the class: code, links -/
set_option maxRecDepth 100000 in
theorem liX0 : Cond.initialized RX0 ∈ WT := WT_of (tbw_1 (List.mem_of_getElem? (i := 4) rfl)) rfl
set_option maxRecDepth 100000 in
theorem liX1 : Cond.initialized RX1 ∈ WT := WT_of (tbw_1 (List.mem_of_getElem? (i := 7) rfl)) rfl
set_option maxRecDepth 100000 in
theorem liX2 : Cond.initialized RX2 ∈ WT := WT_of (tbw_1 (List.mem_of_getElem? (i := 6) rfl)) rfl
set_option maxRecDepth 100000 in
theorem liX3 : Cond.initialized RX3 ∈ WT := WT_of (tbw_1 (List.mem_of_getElem? (i := 8) rfl)) rfl
set_option maxRecDepth 100000 in
theorem liX4 : Cond.initialized RX4 ∈ WT := WT_of (tbw_1 (List.mem_of_getElem? (i := 5) rfl)) rfl
set_option maxRecDepth 100000 in
theorem liX5 : Cond.initialized RX5 ∈ WT := WT_of (tbw_1 (List.mem_of_getElem? (i := 2) rfl)) rfl
set_option maxRecDepth 100000 in
theorem liX6 : Cond.initialized RX6 ∈ WT := WT_of (tbw_1 (List.mem_of_getElem? (i := 1) rfl)) rfl
set_option maxRecDepth 100000 in
theorem lcX0_init : Cond.code yX0_init cX0_init 2 none ∈ WT := WT_of (tbw_1 (List.mem_of_getElem? (i := 63) rfl)) rfl
theorem lkX0_init : LK yX0_init cX0_init 2 0 none := ⟨lcX0_init, liX0, ⟨by decide +kernel, by decide +kernel⟩, by decide +kernel⟩
set_option maxRecDepth 100000 in
theorem lmX0_init : Cond.instanceMethod yX0_init ∈ WT := WT_of (tbw_1 (List.mem_of_getElem? (i := 62) rfl)) rfl
set_option maxRecDepth 100000 in
theorem lcX0_of : Cond.code yX0_of cX0_of 2 (some (.object "Branchmatch$Term")) ∈ WT := WT_of (tbw_3 (List.mem_of_getElem? (i := 121) rfl)) rfl
theorem lkX0_of : LK yX0_of cX0_of 2 1 (some (.object "Branchmatch$Term")) := ⟨lcX0_of, liX0, ⟨by decide +kernel, by decide +kernel⟩, by decide +kernel⟩
set_option maxRecDepth 100000 in
theorem lmX0_of : Cond.instanceMethod yX0_of ∈ WT := WT_of (tbw_3 (List.mem_of_getElem? (i := 119) rfl)) rfl
set_option maxRecDepth 100000 in
theorem lvX0_of : Cond.selects yX0_of.cls yX0_of yX0_of ∈ WT := WT_of (tbw_3 (List.mem_of_getElem? (i := 120) rfl)) rfl
set_option maxRecDepth 100000 in
theorem lcX0_moves : Cond.code yX0_moves cX0_moves 2 (some .boolean) ∈ WT := WT_of (tbw_3 (List.mem_of_getElem? (i := 116) rfl)) rfl
theorem lkX0_moves : LK yX0_moves cX0_moves 2 1 (some .boolean) := ⟨lcX0_moves, liX0, ⟨by decide +kernel, by decide +kernel⟩, by decide +kernel⟩
set_option maxRecDepth 100000 in
theorem lmX0_moves : Cond.instanceMethod yX0_moves ∈ WT := WT_of (tbw_3 (List.mem_of_getElem? (i := 114) rfl)) rfl
set_option maxRecDepth 100000 in
theorem lvX0_moves : Cond.selects yX0_moves.cls yX0_moves yX0_moves ∈ WT := WT_of (tbw_3 (List.mem_of_getElem? (i := 115) rfl)) rfl
set_option maxRecDepth 100000 in
theorem lcX0_movedNames : Cond.code yX0_movedNames cX0_movedNames 3 (some .int) ∈ WT := WT_of (tbw_3 (List.mem_of_getElem? (i := 112) rfl)) rfl
theorem lkX0_movedNames : LK yX0_movedNames cX0_movedNames 3 0 (some .int) := ⟨lcX0_movedNames, liX0, ⟨by decide +kernel, by decide +kernel⟩, by decide +kernel⟩
set_option maxRecDepth 100000 in
theorem lmX0_movedNames : Cond.instanceMethod yX0_movedNames ∈ WT := WT_of (tbw_3 (List.mem_of_getElem? (i := 110) rfl)) rfl
set_option maxRecDepth 100000 in
theorem lvX0_movedNames : Cond.selects yX0_movedNames.cls yX0_movedNames yX0_movedNames ∈ WT := WT_of (tbw_3 (List.mem_of_getElem? (i := 111) rfl)) rfl
set_option maxRecDepth 100000 in
theorem lcX0_movedCount : Cond.code yX0_movedCount cX0_movedCount 1 (some .int) ∈ WT := WT_of (tbw_3 (List.mem_of_getElem? (i := 172) rfl)) rfl
theorem lkX0_movedCount : LK yX0_movedCount cX0_movedCount 1 0 (some .int) := ⟨lcX0_movedCount, liX0, ⟨by decide +kernel, by decide +kernel⟩, by decide +kernel⟩
set_option maxRecDepth 100000 in
theorem lmX0_movedCount : Cond.instanceMethod yX0_movedCount ∈ WT := WT_of (tbw_3 (List.mem_of_getElem? (i := 170) rfl)) rfl
set_option maxRecDepth 100000 in
theorem lvX0_movedCount : Cond.selects yX0_movedCount.cls yX0_movedCount yX0_movedCount ∈ WT := WT_of (tbw_3 (List.mem_of_getElem? (i := 171) rfl)) rfl
set_option maxRecDepth 100000 in
theorem lcX0_moveNone : Cond.code yX0_moveNone cX0_moveNone 2 none ∈ WT := WT_of (tbw_4 (List.mem_of_getElem? (i := 81) rfl)) rfl
theorem lkX0_moveNone : LK yX0_moveNone cX0_moveNone 2 0 none := ⟨lcX0_moveNone, liX0, ⟨by decide +kernel, by decide +kernel⟩, by decide +kernel⟩
set_option maxRecDepth 100000 in
theorem lmX0_moveNone : Cond.instanceMethod yX0_moveNone ∈ WT := WT_of (tbw_4 (List.mem_of_getElem? (i := 79) rfl)) rfl
set_option maxRecDepth 100000 in
theorem lvX0_moveNone : Cond.selects yX0_moveNone.cls yX0_moveNone yX0_moveNone ∈ WT := WT_of (tbw_4 (List.mem_of_getElem? (i := 80) rfl)) rfl
set_option maxRecDepth 100000 in
theorem lcX0_becomeAs : Cond.code yX0_becomeAs cX0_becomeAs 3 none ∈ WT := WT_of (tbw_4 (List.mem_of_getElem? (i := 99) rfl)) rfl
theorem lkX0_becomeAs : LK yX0_becomeAs cX0_becomeAs 3 1 none := ⟨lcX0_becomeAs, liX0, ⟨by decide +kernel, by decide +kernel⟩, by decide +kernel⟩
set_option maxRecDepth 100000 in
theorem lmX0_becomeAs : Cond.instanceMethod yX0_becomeAs ∈ WT := WT_of (tbw_4 (List.mem_of_getElem? (i := 97) rfl)) rfl
set_option maxRecDepth 100000 in
theorem lvX0_becomeAs : Cond.selects yX0_becomeAs.cls yX0_becomeAs yX0_becomeAs ∈ WT := WT_of (tbw_4 (List.mem_of_getElem? (i := 98) rfl)) rfl
set_option maxRecDepth 100000 in
theorem lcX0_becomeBoth : Cond.code yX0_becomeBoth cX0_becomeBoth 4 none ∈ WT := WT_of (tbw_4 (List.mem_of_getElem? (i := 111) rfl)) rfl
theorem lkX0_becomeBoth : LK yX0_becomeBoth cX0_becomeBoth 4 2 none := ⟨lcX0_becomeBoth, liX0, ⟨by decide +kernel, by decide +kernel⟩, by decide +kernel⟩
set_option maxRecDepth 100000 in
theorem lmX0_becomeBoth : Cond.instanceMethod yX0_becomeBoth ∈ WT := WT_of (tbw_4 (List.mem_of_getElem? (i := 109) rfl)) rfl
set_option maxRecDepth 100000 in
theorem lvX0_becomeBoth : Cond.selects yX0_becomeBoth.cls yX0_becomeBoth yX0_becomeBoth ∈ WT := WT_of (tbw_4 (List.mem_of_getElem? (i := 110) rfl)) rfl
set_option maxRecDepth 100000 in
theorem lcX0_addUsed : Cond.code yX0_addUsed cX0_addUsed 7 none ∈ WT := WT_of (tbw_2 (List.mem_of_getElem? (i := 127) rfl)) rfl
theorem lkX0_addUsed : LK yX0_addUsed cX0_addUsed 7 4 none := ⟨lcX0_addUsed, liX0, ⟨by decide +kernel, by decide +kernel⟩, by decide +kernel⟩
set_option maxRecDepth 100000 in
theorem lmX0_addUsed : Cond.instanceMethod yX0_addUsed ∈ WT := WT_of (tbw_2 (List.mem_of_getElem? (i := 125) rfl)) rfl
set_option maxRecDepth 100000 in
theorem lvX0_addUsed : Cond.selects yX0_addUsed.cls yX0_addUsed yX0_addUsed ∈ WT := WT_of (tbw_2 (List.mem_of_getElem? (i := 126) rfl)) rfl
set_option maxRecDepth 100000 in
theorem lcX0_addMoved : Cond.code yX0_addMoved cX0_addMoved 3 none ∈ WT := WT_of (tbw_6 (List.mem_of_getElem? (i := 67) rfl)) rfl
theorem lkX0_addMoved : LK yX0_addMoved cX0_addMoved 3 1 none := ⟨lcX0_addMoved, liX0, ⟨by decide +kernel, by decide +kernel⟩, by decide +kernel⟩
set_option maxRecDepth 100000 in
theorem lmX0_addMoved : Cond.instanceMethod yX0_addMoved ∈ WT := WT_of (tbw_6 (List.mem_of_getElem? (i := 65) rfl)) rfl
set_option maxRecDepth 100000 in
theorem lvX0_addMoved : Cond.selects yX0_addMoved.cls yX0_addMoved yX0_addMoved ∈ WT := WT_of (tbw_6 (List.mem_of_getElem? (i := 66) rfl)) rfl
set_option maxRecDepth 100000 in
theorem lcX0_isTooLong : Cond.code yX0_isTooLong cX0_isTooLong 5 (some .boolean) ∈ WT := WT_of (tbw_2 (List.mem_of_getElem? (i := 152) rfl)) rfl
theorem lkX0_isTooLong : LK yX0_isTooLong cX0_isTooLong 5 0 (some .boolean) := ⟨lcX0_isTooLong, liX0, ⟨by decide +kernel, by decide +kernel⟩, by decide +kernel⟩
set_option maxRecDepth 100000 in
theorem lmX0_isTooLong : Cond.instanceMethod yX0_isTooLong ∈ WT := WT_of (tbw_2 (List.mem_of_getElem? (i := 150) rfl)) rfl
set_option maxRecDepth 100000 in
theorem lvX0_isTooLong : Cond.selects yX0_isTooLong.cls yX0_isTooLong yX0_isTooLong ∈ WT := WT_of (tbw_2 (List.mem_of_getElem? (i := 151) rfl)) rfl
set_option maxRecDepth 100000 in
theorem lcX0_firstUnlike : Cond.code yX0_firstUnlike cX0_firstUnlike 3 (some .int) ∈ WT := WT_of (tbw_2 (List.mem_of_getElem? (i := 160) rfl)) rfl
theorem lkX0_firstUnlike : LK yX0_firstUnlike cX0_firstUnlike 3 1 (some .int) := ⟨lcX0_firstUnlike, liX0, ⟨by decide +kernel, by decide +kernel⟩, by decide +kernel⟩
set_option maxRecDepth 100000 in
theorem lmX0_firstUnlike : Cond.instanceMethod yX0_firstUnlike ∈ WT := WT_of (tbw_2 (List.mem_of_getElem? (i := 158) rfl)) rfl
set_option maxRecDepth 100000 in
theorem lvX0_firstUnlike : Cond.selects yX0_firstUnlike.cls yX0_firstUnlike yX0_firstUnlike ∈ WT := WT_of (tbw_2 (List.mem_of_getElem? (i := 159) rfl)) rfl
set_option maxRecDepth 100000 in
theorem lcX0_renamesOnly : Cond.code yX0_renamesOnly cX0_renamesOnly 6 (some .boolean) ∈ WT := WT_of (tbw_6 (List.mem_of_getElem? (i := 48) rfl)) rfl
theorem lkX0_renamesOnly : LK yX0_renamesOnly cX0_renamesOnly 6 0 (some .boolean) := ⟨lcX0_renamesOnly, liX0, ⟨by decide +kernel, by decide +kernel⟩, by decide +kernel⟩
set_option maxRecDepth 100000 in
theorem lmX0_renamesOnly : Cond.instanceMethod yX0_renamesOnly ∈ WT := WT_of (tbw_6 (List.mem_of_getElem? (i := 46) rfl)) rfl
set_option maxRecDepth 100000 in
theorem lvX0_renamesOnly : Cond.selects yX0_renamesOnly.cls yX0_renamesOnly yX0_renamesOnly ∈ WT := WT_of (tbw_6 (List.mem_of_getElem? (i := 47) rfl)) rfl
set_option maxRecDepth 100000 in
theorem lcX0_becomeMatch : Cond.code yX0_becomeMatch cX0_becomeMatch 7 (some .boolean) ∈ WT := WT_of (tbw_2 (List.mem_of_getElem? (i := 200) rfl)) rfl
theorem lkX0_becomeMatch : LK yX0_becomeMatch cX0_becomeMatch 7 2 (some .boolean) := ⟨lcX0_becomeMatch, liX0, ⟨by decide +kernel, by decide +kernel⟩, by decide +kernel⟩
set_option maxRecDepth 100000 in
theorem lmX0_becomeMatch : Cond.instanceMethod yX0_becomeMatch ∈ WT := WT_of (tbw_2 (List.mem_of_getElem? (i := 198) rfl)) rfl
set_option maxRecDepth 100000 in
theorem lvX0_becomeMatch : Cond.selects yX0_becomeMatch.cls yX0_becomeMatch yX0_becomeMatch ∈ WT := WT_of (tbw_2 (List.mem_of_getElem? (i := 199) rfl)) rfl
set_option maxRecDepth 100000 in
theorem lcX0_tellUntoldOfThemselves : Cond.code yX0_tellUntoldOfThemselves cX0_tellUntoldOfThemselves 2 none ∈ WT := WT_of (tbw_2 (List.mem_of_getElem? (i := 210) rfl)) rfl
theorem lkX0_tellUntoldOfThemselves : LK yX0_tellUntoldOfThemselves cX0_tellUntoldOfThemselves 2 0 none := ⟨lcX0_tellUntoldOfThemselves, liX0, ⟨by decide +kernel, by decide +kernel⟩, by decide +kernel⟩
set_option maxRecDepth 100000 in
theorem lmX0_tellUntoldOfThemselves : Cond.instanceMethod yX0_tellUntoldOfThemselves ∈ WT := WT_of (tbw_2 (List.mem_of_getElem? (i := 209) rfl)) rfl
set_option maxRecDepth 100000 in
theorem lcX0_becomeWholeOf : Cond.code yX0_becomeWholeOf cX0_becomeWholeOf 8 none ∈ WT := WT_of (tbw_2 (List.mem_of_getElem? (i := 120) rfl)) rfl
theorem lkX0_becomeWholeOf : LK yX0_becomeWholeOf cX0_becomeWholeOf 8 2 none := ⟨lcX0_becomeWholeOf, liX0, ⟨by decide +kernel, by decide +kernel⟩, by decide +kernel⟩
set_option maxRecDepth 100000 in
theorem lmX0_becomeWholeOf : Cond.instanceMethod yX0_becomeWholeOf ∈ WT := WT_of (tbw_2 (List.mem_of_getElem? (i := 118) rfl)) rfl
set_option maxRecDepth 100000 in
theorem lvX0_becomeWholeOf : Cond.selects yX0_becomeWholeOf.cls yX0_becomeWholeOf yX0_becomeWholeOf ∈ WT := WT_of (tbw_2 (List.mem_of_getElem? (i := 119) rfl)) rfl
set_option maxRecDepth 100000 in
theorem lcX1_init : Cond.code yX1_init cX1_init 1 none ∈ WT := WT_of (tbw_1 (List.mem_of_getElem? (i := 127) rfl)) rfl
theorem lkX1_init : LK yX1_init cX1_init 1 0 none := ⟨lcX1_init, liX1, ⟨by decide +kernel, by decide +kernel⟩, by decide +kernel⟩
set_option maxRecDepth 100000 in
theorem lmX1_init : Cond.instanceMethod yX1_init ∈ WT := WT_of (tbw_1 (List.mem_of_getElem? (i := 126) rfl)) rfl
set_option maxRecDepth 100000 in
theorem lcX1_makeAlike : Cond.code yX1_makeAlike cX1_makeAlike 8 (some .boolean) ∈ WT := WT_of (tbw_2 (List.mem_of_getElem? (i := 65) rfl)) rfl
theorem lkX1_makeAlike : LK yX1_makeAlike cX1_makeAlike 8 2 (some .boolean) := ⟨lcX1_makeAlike, liX1, ⟨by decide +kernel, by decide +kernel⟩, by decide +kernel⟩
set_option maxRecDepth 100000 in
theorem lmX1_makeAlike : Cond.instanceMethod yX1_makeAlike ∈ WT := WT_of (tbw_2 (List.mem_of_getElem? (i := 63) rfl)) rfl
set_option maxRecDepth 100000 in
theorem lvX1_makeAlike : Cond.selects yX1_makeAlike.cls yX1_makeAlike yX1_makeAlike ∈ WT := WT_of (tbw_2 (List.mem_of_getElem? (i := 64) rfl)) rfl
set_option maxRecDepth 100000 in
theorem lcX1_tellInto : Cond.code yX1_tellInto cX1_tellInto 3 none ∈ WT := WT_of (tbw_2 (List.mem_of_getElem? (i := 135) rfl)) rfl
theorem lkX1_tellInto : LK yX1_tellInto cX1_tellInto 3 1 none := ⟨lcX1_tellInto, liX1, ⟨by decide +kernel, by decide +kernel⟩, by decide +kernel⟩
set_option maxRecDepth 100000 in
theorem lmX1_tellInto : Cond.instanceMethod yX1_tellInto ∈ WT := WT_of (tbw_2 (List.mem_of_getElem? (i := 133) rfl)) rfl
set_option maxRecDepth 100000 in
theorem lvX1_tellInto : Cond.selects yX1_tellInto.cls yX1_tellInto yX1_tellInto ∈ WT := WT_of (tbw_2 (List.mem_of_getElem? (i := 134) rfl)) rfl
set_option maxRecDepth 100000 in
theorem lcX1_classAt : Cond.code yX1_classAt cX1_classAt 2 (some .int) ∈ WT := WT_of (tbw_2 (List.mem_of_getElem? (i := 88) rfl)) rfl
theorem lkX1_classAt : LK yX1_classAt cX1_classAt 2 1 (some .int) := ⟨lcX1_classAt, liX1, ⟨by decide +kernel, by decide +kernel⟩, by decide +kernel⟩
set_option maxRecDepth 100000 in
theorem lmX1_classAt : Cond.instanceMethod yX1_classAt ∈ WT := WT_of (tbw_2 (List.mem_of_getElem? (i := 87) rfl)) rfl
set_option maxRecDepth 100000 in
theorem lcX1_headAt : Cond.code yX1_headAt cX1_headAt 2 (some .int) ∈ WT := WT_of (tbw_2 (List.mem_of_getElem? (i := 98) rfl)) rfl
theorem lkX1_headAt : LK yX1_headAt cX1_headAt 2 1 (some .int) := ⟨lcX1_headAt, liX1, ⟨by decide +kernel, by decide +kernel⟩, by decide +kernel⟩
set_option maxRecDepth 100000 in
theorem lmX1_headAt : Cond.instanceMethod yX1_headAt ∈ WT := WT_of (tbw_2 (List.mem_of_getElem? (i := 97) rfl)) rfl
set_option maxRecDepth 100000 in
theorem lcX1_join : Cond.code yX1_join cX1_join 6 (some .boolean) ∈ WT := WT_of (tbw_2 (List.mem_of_getElem? (i := 94) rfl)) rfl
theorem lkX1_join : LK yX1_join cX1_join 6 2 (some .boolean) := ⟨lcX1_join, liX1, ⟨by decide +kernel, by decide +kernel⟩, by decide +kernel⟩
set_option maxRecDepth 100000 in
theorem lmX1_join : Cond.instanceMethod yX1_join ∈ WT := WT_of (tbw_2 (List.mem_of_getElem? (i := 93) rfl)) rfl
set_option maxRecDepth 100000 in
theorem lcX1_isNoneInItself : Cond.code yX1_isNoneInItself cX1_isNoneInItself 7 (some .boolean) ∈ WT := WT_of (tbw_2 (List.mem_of_getElem? (i := 103) rfl)) rfl
theorem lkX1_isNoneInItself : LK yX1_isNoneInItself cX1_isNoneInItself 7 0 (some .boolean) := ⟨lcX1_isNoneInItself, liX1, ⟨by decide +kernel, by decide +kernel⟩, by decide +kernel⟩
set_option maxRecDepth 100000 in
theorem lmX1_isNoneInItself : Cond.instanceMethod yX1_isNoneInItself ∈ WT := WT_of (tbw_2 (List.mem_of_getElem? (i := 102) rfl)) rfl
set_option maxRecDepth 100000 in
theorem lcX1_isClear : Cond.code yX1_isClear cX1_isClear 7 (some .boolean) ∈ WT := WT_of (tbw_2 (List.mem_of_getElem? (i := 110) rfl)) rfl
theorem lkX1_isClear : LK yX1_isClear cX1_isClear 7 2 (some .boolean) := ⟨lcX1_isClear, liX1, ⟨by decide +kernel, by decide +kernel⟩, by decide +kernel⟩
set_option maxRecDepth 100000 in
theorem lmX1_isClear : Cond.instanceMethod yX1_isClear ∈ WT := WT_of (tbw_2 (List.mem_of_getElem? (i := 109) rfl)) rfl
set_option maxRecDepth 100000 in
theorem lcX1_placeFor : Cond.code yX1_placeFor cX1_placeFor 6 (some .int) ∈ WT := WT_of (tbw_2 (List.mem_of_getElem? (i := 139) rfl)) rfl
theorem lkX1_placeFor : LK yX1_placeFor cX1_placeFor 6 1 (some .int) := ⟨lcX1_placeFor, liX1, ⟨by decide +kernel, by decide +kernel⟩, by decide +kernel⟩
set_option maxRecDepth 100000 in
theorem lmX1_placeFor : Cond.instanceMethod yX1_placeFor ∈ WT := WT_of (tbw_2 (List.mem_of_getElem? (i := 138) rfl)) rfl
set_option maxRecDepth 100000 in
theorem lcX2_init : Cond.code yX2_init cX2_init 1 none ∈ WT := WT_of (tbw_1 (List.mem_of_getElem? (i := 95) rfl)) rfl
theorem lkX2_init : LK yX2_init cX2_init 1 0 none := ⟨lcX2_init, liX2, ⟨by decide +kernel, by decide +kernel⟩, by decide +kernel⟩
set_option maxRecDepth 100000 in
theorem lmX2_init : Cond.instanceMethod yX2_init ∈ WT := WT_of (tbw_1 (List.mem_of_getElem? (i := 94) rfl)) rfl
set_option maxRecDepth 100000 in
theorem lcX2_empty : Cond.code yX2_empty cX2_empty 1 none ∈ WT := WT_of (tbw_1 (List.mem_of_getElem? (i := 235) rfl)) rfl
theorem lkX2_empty : LK yX2_empty cX2_empty 1 0 none := ⟨lcX2_empty, liX2, ⟨by decide +kernel, by decide +kernel⟩, by decide +kernel⟩
set_option maxRecDepth 100000 in
theorem lmX2_empty : Cond.instanceMethod yX2_empty ∈ WT := WT_of (tbw_1 (List.mem_of_getElem? (i := 233) rfl)) rfl
set_option maxRecDepth 100000 in
theorem lvX2_empty : Cond.selects yX2_empty.cls yX2_empty yX2_empty ∈ WT := WT_of (tbw_1 (List.mem_of_getElem? (i := 234) rfl)) rfl
set_option maxRecDepth 100000 in
theorem lcX2_length : Cond.code yX2_length cX2_length 1 (some .int) ∈ WT := WT_of (tbw_2 (List.mem_of_getElem? (i := 8) rfl)) rfl
theorem lkX2_length : LK yX2_length cX2_length 1 0 (some .int) := ⟨lcX2_length, liX2, ⟨by decide +kernel, by decide +kernel⟩, by decide +kernel⟩
set_option maxRecDepth 100000 in
theorem lmX2_length : Cond.instanceMethod yX2_length ∈ WT := WT_of (tbw_2 (List.mem_of_getElem? (i := 6) rfl)) rfl
set_option maxRecDepth 100000 in
theorem lvX2_length : Cond.selects yX2_length.cls yX2_length yX2_length ∈ WT := WT_of (tbw_2 (List.mem_of_getElem? (i := 7) rfl)) rfl
set_option maxRecDepth 100000 in
theorem lcX2_add : Cond.code yX2_add cX2_add 3 none ∈ WT := WT_of (tbw_2 (List.mem_of_getElem? (i := 3) rfl)) rfl
theorem lkX2_add : LK yX2_add cX2_add 3 2 none := ⟨lcX2_add, liX2, ⟨by decide +kernel, by decide +kernel⟩, by decide +kernel⟩
set_option maxRecDepth 100000 in
theorem lmX2_add : Cond.instanceMethod yX2_add ∈ WT := WT_of (tbw_2 (List.mem_of_getElem? (i := 1) rfl)) rfl
set_option maxRecDepth 100000 in
theorem lvX2_add : Cond.selects yX2_add.cls yX2_add yX2_add ∈ WT := WT_of (tbw_2 (List.mem_of_getElem? (i := 2) rfl)) rfl
set_option maxRecDepth 100000 in
theorem lcX2_oneAt : Cond.code yX2_oneAt cX2_oneAt 2 (some .int) ∈ WT := WT_of (tbw_2 (List.mem_of_getElem? (i := 16) rfl)) rfl
theorem lkX2_oneAt : LK yX2_oneAt cX2_oneAt 2 1 (some .int) := ⟨lcX2_oneAt, liX2, ⟨by decide +kernel, by decide +kernel⟩, by decide +kernel⟩
set_option maxRecDepth 100000 in
theorem lmX2_oneAt : Cond.instanceMethod yX2_oneAt ∈ WT := WT_of (tbw_2 (List.mem_of_getElem? (i := 14) rfl)) rfl
set_option maxRecDepth 100000 in
theorem lvX2_oneAt : Cond.selects yX2_oneAt.cls yX2_oneAt yX2_oneAt ∈ WT := WT_of (tbw_2 (List.mem_of_getElem? (i := 15) rfl)) rfl
set_option maxRecDepth 100000 in
theorem lcX2_otherAt : Cond.code yX2_otherAt cX2_otherAt 2 (some .int) ∈ WT := WT_of (tbw_2 (List.mem_of_getElem? (i := 28) rfl)) rfl
theorem lkX2_otherAt : LK yX2_otherAt cX2_otherAt 2 1 (some .int) := ⟨lcX2_otherAt, liX2, ⟨by decide +kernel, by decide +kernel⟩, by decide +kernel⟩
set_option maxRecDepth 100000 in
theorem lmX2_otherAt : Cond.instanceMethod yX2_otherAt ∈ WT := WT_of (tbw_2 (List.mem_of_getElem? (i := 26) rfl)) rfl
set_option maxRecDepth 100000 in
theorem lvX2_otherAt : Cond.selects yX2_otherAt.cls yX2_otherAt yX2_otherAt ∈ WT := WT_of (tbw_2 (List.mem_of_getElem? (i := 27) rfl)) rfl
set_option maxRecDepth 100000 in
theorem lcX2_dropNext : Cond.code yX2_dropNext cX2_dropNext 1 none ∈ WT := WT_of (tbw_2 (List.mem_of_getElem? (i := 32) rfl)) rfl
theorem lkX2_dropNext : LK yX2_dropNext cX2_dropNext 1 0 none := ⟨lcX2_dropNext, liX2, ⟨by decide +kernel, by decide +kernel⟩, by decide +kernel⟩
set_option maxRecDepth 100000 in
theorem lmX2_dropNext : Cond.instanceMethod yX2_dropNext ∈ WT := WT_of (tbw_2 (List.mem_of_getElem? (i := 30) rfl)) rfl
set_option maxRecDepth 100000 in
theorem lvX2_dropNext : Cond.selects yX2_dropNext.cls yX2_dropNext yX2_dropNext ∈ WT := WT_of (tbw_2 (List.mem_of_getElem? (i := 31) rfl)) rfl
set_option maxRecDepth 100000 in
theorem lcX2_addParts : Cond.code yX2_addParts cX2_addParts 8 none ∈ WT := WT_of (tbw_2 (List.mem_of_getElem? (i := 58) rfl)) rfl
theorem lkX2_addParts : LK yX2_addParts cX2_addParts 8 3 none := ⟨lcX2_addParts, liX2, ⟨by decide +kernel, by decide +kernel⟩, by decide +kernel⟩
set_option maxRecDepth 100000 in
theorem lmX2_addParts : Cond.instanceMethod yX2_addParts ∈ WT := WT_of (tbw_2 (List.mem_of_getElem? (i := 56) rfl)) rfl
set_option maxRecDepth 100000 in
theorem lvX2_addParts : Cond.selects yX2_addParts.cls yX2_addParts yX2_addParts ∈ WT := WT_of (tbw_2 (List.mem_of_getElem? (i := 57) rfl)) rfl
set_option maxRecDepth 100000 in
theorem lcX3_init : Cond.code yX3_init cX3_init 1 none ∈ WT := WT_of (tbw_1 (List.mem_of_getElem? (i := 153) rfl)) rfl
theorem lkX3_init : LK yX3_init cX3_init 1 0 none := ⟨lcX3_init, liX3, ⟨by decide +kernel, by decide +kernel⟩, by decide +kernel⟩
set_option maxRecDepth 100000 in
theorem lmX3_init : Cond.instanceMethod yX3_init ∈ WT := WT_of (tbw_1 (List.mem_of_getElem? (i := 152) rfl)) rfl
set_option maxRecDepth 100000 in
theorem lcX3_drawInto : Cond.code yX3_drawInto cX3_drawInto 8 (some .boolean) ∈ WT := WT_of (tbw_2 (List.mem_of_getElem? (i := 180) rfl)) rfl
theorem lkX3_drawInto : LK yX3_drawInto cX3_drawInto 8 3 (some .boolean) := ⟨lcX3_drawInto, liX3, ⟨by decide +kernel, by decide +kernel⟩, by decide +kernel⟩
set_option maxRecDepth 100000 in
theorem lmX3_drawInto : Cond.instanceMethod yX3_drawInto ∈ WT := WT_of (tbw_2 (List.mem_of_getElem? (i := 178) rfl)) rfl
set_option maxRecDepth 100000 in
theorem lvX3_drawInto : Cond.selects yX3_drawInto.cls yX3_drawInto yX3_drawInto ∈ WT := WT_of (tbw_2 (List.mem_of_getElem? (i := 179) rfl)) rfl
set_option maxRecDepth 100000 in
theorem lcX3_nameFor : Cond.code yX3_nameFor cX3_nameFor 6 (some .int) ∈ WT := WT_of (tbw_2 (List.mem_of_getElem? (i := 190) rfl)) rfl
theorem lkX3_nameFor : LK yX3_nameFor cX3_nameFor 6 4 (some .int) := ⟨lcX3_nameFor, liX3, ⟨by decide +kernel, by decide +kernel⟩, by decide +kernel⟩
set_option maxRecDepth 100000 in
theorem lmX3_nameFor : Cond.instanceMethod yX3_nameFor ∈ WT := WT_of (tbw_2 (List.mem_of_getElem? (i := 189) rfl)) rfl
set_option maxRecDepth 100000 in
theorem lcX4_init : Cond.code yX4_init cX4_init 1 none ∈ WT := WT_of (tbw_1 (List.mem_of_getElem? (i := 87) rfl)) rfl
theorem lkX4_init : LK yX4_init cX4_init 1 0 none := ⟨lcX4_init, liX4, ⟨by decide +kernel, by decide +kernel⟩, by decide +kernel⟩
set_option maxRecDepth 100000 in
theorem lmX4_init : Cond.instanceMethod yX4_init ∈ WT := WT_of (tbw_1 (List.mem_of_getElem? (i := 86) rfl)) rfl
set_option maxRecDepth 100000 in
theorem lcX4_makeAlike : Cond.code yX4_makeAlike cX4_makeAlike 4 (some .boolean) ∈ WT := WT_of (tbw_1 (List.mem_of_getElem? (i := 216) rfl)) rfl
theorem lkX4_makeAlike : LK yX4_makeAlike cX4_makeAlike 4 2 (some .boolean) := ⟨lcX4_makeAlike, liX4, ⟨by decide +kernel, by decide +kernel⟩, by decide +kernel⟩
set_option maxRecDepth 100000 in
theorem lmX4_makeAlike : Cond.instanceMethod yX4_makeAlike ∈ WT := WT_of (tbw_1 (List.mem_of_getElem? (i := 214) rfl)) rfl
set_option maxRecDepth 100000 in
theorem lvX4_makeAlike : Cond.selects yX4_makeAlike.cls yX4_makeAlike yX4_makeAlike ∈ WT := WT_of (tbw_1 (List.mem_of_getElem? (i := 215) rfl)) rfl
set_option maxRecDepth 100000 in
theorem lcX4_tellInto : Cond.code yX4_tellInto cX4_tellInto 2 none ∈ WT := WT_of (tbw_2 (List.mem_of_getElem? (i := 116) rfl)) rfl
theorem lkX4_tellInto : LK yX4_tellInto cX4_tellInto 2 1 none := ⟨lcX4_tellInto, liX4, ⟨by decide +kernel, by decide +kernel⟩, by decide +kernel⟩
set_option maxRecDepth 100000 in
theorem lmX4_tellInto : Cond.instanceMethod yX4_tellInto ∈ WT := WT_of (tbw_2 (List.mem_of_getElem? (i := 114) rfl)) rfl
set_option maxRecDepth 100000 in
theorem lvX4_tellInto : Cond.selects yX4_tellInto.cls yX4_tellInto yX4_tellInto ∈ WT := WT_of (tbw_2 (List.mem_of_getElem? (i := 115) rfl)) rfl
set_option maxRecDepth 100000 in
theorem lcX4_stepsTaken : Cond.code yX4_stepsTaken cX4_stepsTaken 1 (some .int) ∈ WT := WT_of (tbw_3 (List.mem_of_getElem? (i := 145) rfl)) rfl
theorem lkX4_stepsTaken : LK yX4_stepsTaken cX4_stepsTaken 1 0 (some .int) := ⟨lcX4_stepsTaken, liX4, ⟨by decide +kernel, by decide +kernel⟩, by decide +kernel⟩
set_option maxRecDepth 100000 in
theorem lmX4_stepsTaken : Cond.instanceMethod yX4_stepsTaken ∈ WT := WT_of (tbw_3 (List.mem_of_getElem? (i := 143) rfl)) rfl
set_option maxRecDepth 100000 in
theorem lvX4_stepsTaken : Cond.selects yX4_stepsTaken.cls yX4_stepsTaken yX4_stepsTaken ∈ WT := WT_of (tbw_3 (List.mem_of_getElem? (i := 144) rfl)) rfl
set_option maxRecDepth 100000 in
theorem lcX4_howEnded : Cond.code yX4_howEnded cX4_howEnded 1 (some .int) ∈ WT := WT_of (tbw_3 (List.mem_of_getElem? (i := 153) rfl)) rfl
theorem lkX4_howEnded : LK yX4_howEnded cX4_howEnded 1 0 (some .int) := ⟨lcX4_howEnded, liX4, ⟨by decide +kernel, by decide +kernel⟩, by decide +kernel⟩
set_option maxRecDepth 100000 in
theorem lmX4_howEnded : Cond.instanceMethod yX4_howEnded ∈ WT := WT_of (tbw_3 (List.mem_of_getElem? (i := 151) rfl)) rfl
set_option maxRecDepth 100000 in
theorem lvX4_howEnded : Cond.selects yX4_howEnded.cls yX4_howEnded yX4_howEnded ∈ WT := WT_of (tbw_3 (List.mem_of_getElem? (i := 152) rfl)) rfl
set_option maxRecDepth 100000 in
theorem lcX4_takeStep : Cond.code yX4_takeStep cX4_takeStep 6 none ∈ WT := WT_of (tbw_2 (List.mem_of_getElem? (i := 12) rfl)) rfl
theorem lkX4_takeStep : LK yX4_takeStep cX4_takeStep 6 0 none := ⟨lcX4_takeStep, liX4, ⟨by decide +kernel, by decide +kernel⟩, by decide +kernel⟩
set_option maxRecDepth 100000 in
theorem lmX4_takeStep : Cond.instanceMethod yX4_takeStep ∈ WT := WT_of (tbw_2 (List.mem_of_getElem? (i := 11) rfl)) rfl
set_option maxRecDepth 100000 in
theorem lcX4_lookedUp : Cond.code yX4_lookedUp cX4_lookedUp 5 (some .int) ∈ WT := WT_of (tbw_2 (List.mem_of_getElem? (i := 20) rfl)) rfl
theorem lkX4_lookedUp : LK yX4_lookedUp cX4_lookedUp 5 1 (some .int) := ⟨lcX4_lookedUp, liX4, ⟨by decide +kernel, by decide +kernel⟩, by decide +kernel⟩
set_option maxRecDepth 100000 in
theorem lmX4_lookedUp : Cond.instanceMethod yX4_lookedUp ∈ WT := WT_of (tbw_2 (List.mem_of_getElem? (i := 19) rfl)) rfl
set_option maxRecDepth 100000 in
theorem lcX4_joinNames : Cond.code yX4_joinNames cX4_joinNames 5 none ∈ WT := WT_of (tbw_2 (List.mem_of_getElem? (i := 36) rfl)) rfl
theorem lkX4_joinNames : LK yX4_joinNames cX4_joinNames 5 2 none := ⟨lcX4_joinNames, liX4, ⟨by decide +kernel, by decide +kernel⟩, by decide +kernel⟩
set_option maxRecDepth 100000 in
theorem lmX4_joinNames : Cond.instanceMethod yX4_joinNames ∈ WT := WT_of (tbw_2 (List.mem_of_getElem? (i := 35) rfl)) rfl
set_option maxRecDepth 100000 in
theorem lcX4_standFor : Cond.code yX4_standFor cX4_standFor 6 none ∈ WT := WT_of (tbw_2 (List.mem_of_getElem? (i := 40) rfl)) rfl
theorem lkX4_standFor : LK yX4_standFor cX4_standFor 6 2 none := ⟨lcX4_standFor, liX4, ⟨by decide +kernel, by decide +kernel⟩, by decide +kernel⟩
set_option maxRecDepth 100000 in
theorem lmX4_standFor : Cond.instanceMethod yX4_standFor ∈ WT := WT_of (tbw_2 (List.mem_of_getElem? (i := 39) rfl)) rfl
set_option maxRecDepth 100000 in
theorem lcX5_init : Cond.code yX5_init cX5_init 2 none ∈ WT := WT_of (tbw_1 (List.mem_of_getElem? (i := 44) rfl)) rfl
theorem lkX5_init : LK yX5_init cX5_init 2 1 none := ⟨lcX5_init, liX5, ⟨by decide +kernel, by decide +kernel⟩, by decide +kernel⟩
set_option maxRecDepth 100000 in
theorem lmX5_init : Cond.instanceMethod yX5_init ∈ WT := WT_of (tbw_1 (List.mem_of_getElem? (i := 43) rfl)) rfl
set_option maxRecDepth 100000 in
theorem lcX5_empty : Cond.code yX5_empty cX5_empty 1 none ∈ WT := WT_of (tbw_1 (List.mem_of_getElem? (i := 74) rfl)) rfl
theorem lkX5_empty : LK yX5_empty cX5_empty 1 0 none := ⟨lcX5_empty, liX5, ⟨by decide +kernel, by decide +kernel⟩, by decide +kernel⟩
set_option maxRecDepth 100000 in
theorem lmX5_empty : Cond.instanceMethod yX5_empty ∈ WT := WT_of (tbw_1 (List.mem_of_getElem? (i := 72) rfl)) rfl
set_option maxRecDepth 100000 in
theorem lvX5_empty : Cond.selects yX5_empty.cls yX5_empty yX5_empty ∈ WT := WT_of (tbw_1 (List.mem_of_getElem? (i := 73) rfl)) rfl
set_option maxRecDepth 100000 in
theorem lcX5_add : Cond.code yX5_add cX5_add 2 none ∈ WT := WT_of (tbw_1 (List.mem_of_getElem? (i := 78) rfl)) rfl
theorem lkX5_add : LK yX5_add cX5_add 2 1 none := ⟨lcX5_add, liX5, ⟨by decide +kernel, by decide +kernel⟩, by decide +kernel⟩
set_option maxRecDepth 100000 in
theorem lmX5_add : Cond.instanceMethod yX5_add ∈ WT := WT_of (tbw_1 (List.mem_of_getElem? (i := 76) rfl)) rfl
set_option maxRecDepth 100000 in
theorem lvX5_add : Cond.selects yX5_add.cls yX5_add yX5_add ∈ WT := WT_of (tbw_1 (List.mem_of_getElem? (i := 77) rfl)) rfl
set_option maxRecDepth 100000 in
theorem lcX5_addRow : Cond.code yX5_addRow cX5_addRow 5 none ∈ WT := WT_of (tbw_2 (List.mem_of_getElem? (i := 205) rfl)) rfl
theorem lkX5_addRow : LK yX5_addRow cX5_addRow 5 3 none := ⟨lcX5_addRow, liX5, ⟨by decide +kernel, by decide +kernel⟩, by decide +kernel⟩
set_option maxRecDepth 100000 in
theorem lmX5_addRow : Cond.instanceMethod yX5_addRow ∈ WT := WT_of (tbw_2 (List.mem_of_getElem? (i := 203) rfl)) rfl
set_option maxRecDepth 100000 in
theorem lvX5_addRow : Cond.selects yX5_addRow.cls yX5_addRow yX5_addRow ∈ WT := WT_of (tbw_2 (List.mem_of_getElem? (i := 204) rfl)) rfl
set_option maxRecDepth 100000 in
theorem lcX5_addTerm : Cond.code yX5_addTerm cX5_addTerm 3 none ∈ WT := WT_of (tbw_1 (List.mem_of_getElem? (i := 224) rfl)) rfl
theorem lkX5_addTerm : LK yX5_addTerm cX5_addTerm 3 1 none := ⟨lcX5_addTerm, liX5, ⟨by decide +kernel, by decide +kernel⟩, by decide +kernel⟩
set_option maxRecDepth 100000 in
theorem lmX5_addTerm : Cond.instanceMethod yX5_addTerm ∈ WT := WT_of (tbw_1 (List.mem_of_getElem? (i := 222) rfl)) rfl
set_option maxRecDepth 100000 in
theorem lvX5_addTerm : Cond.selects yX5_addTerm.cls yX5_addTerm yX5_addTerm ∈ WT := WT_of (tbw_1 (List.mem_of_getElem? (i := 223) rfl)) rfl
set_option maxRecDepth 100000 in
theorem lcX5_becomeName : Cond.code yX5_becomeName cX5_becomeName 2 none ∈ WT := WT_of (tbw_1 (List.mem_of_getElem? (i := 70) rfl)) rfl
theorem lkX5_becomeName : LK yX5_becomeName cX5_becomeName 2 1 none := ⟨lcX5_becomeName, liX5, ⟨by decide +kernel, by decide +kernel⟩, by decide +kernel⟩
set_option maxRecDepth 100000 in
theorem lmX5_becomeName : Cond.instanceMethod yX5_becomeName ∈ WT := WT_of (tbw_1 (List.mem_of_getElem? (i := 68) rfl)) rfl
set_option maxRecDepth 100000 in
theorem lvX5_becomeName : Cond.selects yX5_becomeName.cls yX5_becomeName yX5_becomeName ∈ WT := WT_of (tbw_1 (List.mem_of_getElem? (i := 69) rfl)) rfl
set_option maxRecDepth 100000 in
theorem lcX5_becomeAs : Cond.code yX5_becomeAs cX5_becomeAs 2 none ∈ WT := WT_of (tbw_3 (List.mem_of_getElem? (i := 230) rfl)) rfl
theorem lkX5_becomeAs : LK yX5_becomeAs cX5_becomeAs 2 1 none := ⟨lcX5_becomeAs, liX5, ⟨by decide +kernel, by decide +kernel⟩, by decide +kernel⟩
set_option maxRecDepth 100000 in
theorem lmX5_becomeAs : Cond.instanceMethod yX5_becomeAs ∈ WT := WT_of (tbw_3 (List.mem_of_getElem? (i := 228) rfl)) rfl
set_option maxRecDepth 100000 in
theorem lvX5_becomeAs : Cond.selects yX5_becomeAs.cls yX5_becomeAs yX5_becomeAs ∈ WT := WT_of (tbw_3 (List.mem_of_getElem? (i := 229) rfl)) rfl
set_option maxRecDepth 100000 in
theorem lcX5_becomePlainOf : Cond.code yX5_becomePlainOf cX5_becomePlainOf 4 none ∈ WT := WT_of (tbw_2 (List.mem_of_getElem? (i := 218) rfl)) rfl
theorem lkX5_becomePlainOf : LK yX5_becomePlainOf cX5_becomePlainOf 4 1 none := ⟨lcX5_becomePlainOf, liX5, ⟨by decide +kernel, by decide +kernel⟩, by decide +kernel⟩
set_option maxRecDepth 100000 in
theorem lmX5_becomePlainOf : Cond.instanceMethod yX5_becomePlainOf ∈ WT := WT_of (tbw_2 (List.mem_of_getElem? (i := 216) rfl)) rfl
set_option maxRecDepth 100000 in
theorem lvX5_becomePlainOf : Cond.selects yX5_becomePlainOf.cls yX5_becomePlainOf yX5_becomePlainOf ∈ WT := WT_of (tbw_2 (List.mem_of_getElem? (i := 217) rfl)) rfl
set_option maxRecDepth 100000 in
theorem lcX5_length : Cond.code yX5_length cX5_length 1 (some .int) ∈ WT := WT_of (tbw_1 (List.mem_of_getElem? (i := 239) rfl)) rfl
theorem lkX5_length : LK yX5_length cX5_length 1 0 (some .int) := ⟨lcX5_length, liX5, ⟨by decide +kernel, by decide +kernel⟩, by decide +kernel⟩
set_option maxRecDepth 100000 in
theorem lmX5_length : Cond.instanceMethod yX5_length ∈ WT := WT_of (tbw_1 (List.mem_of_getElem? (i := 237) rfl)) rfl
set_option maxRecDepth 100000 in
theorem lvX5_length : Cond.selects yX5_length.cls yX5_length yX5_length ∈ WT := WT_of (tbw_1 (List.mem_of_getElem? (i := 238) rfl)) rfl
set_option maxRecDepth 100000 in
theorem lcX5_isTooLong : Cond.code yX5_isTooLong cX5_isTooLong 1 (some .boolean) ∈ WT := WT_of (tbw_2 (List.mem_of_getElem? (i := 156) rfl)) rfl
theorem lkX5_isTooLong : LK yX5_isTooLong cX5_isTooLong 1 0 (some .boolean) := ⟨lcX5_isTooLong, liX5, ⟨by decide +kernel, by decide +kernel⟩, by decide +kernel⟩
set_option maxRecDepth 100000 in
theorem lmX5_isTooLong : Cond.instanceMethod yX5_isTooLong ∈ WT := WT_of (tbw_2 (List.mem_of_getElem? (i := 154) rfl)) rfl
set_option maxRecDepth 100000 in
theorem lvX5_isTooLong : Cond.selects yX5_isTooLong.cls yX5_isTooLong yX5_isTooLong ∈ WT := WT_of (tbw_2 (List.mem_of_getElem? (i := 155) rfl)) rfl
set_option maxRecDepth 100000 in
theorem lcX5_hasPlace : Cond.code yX5_hasPlace cX5_hasPlace 2 (some .boolean) ∈ WT := WT_of (tbw_4 (List.mem_of_getElem? (i := 15) rfl)) rfl
theorem lkX5_hasPlace : LK yX5_hasPlace cX5_hasPlace 2 1 (some .boolean) := ⟨lcX5_hasPlace, liX5, ⟨by decide +kernel, by decide +kernel⟩, by decide +kernel⟩
set_option maxRecDepth 100000 in
theorem lmX5_hasPlace : Cond.instanceMethod yX5_hasPlace ∈ WT := WT_of (tbw_4 (List.mem_of_getElem? (i := 13) rfl)) rfl
set_option maxRecDepth 100000 in
theorem lvX5_hasPlace : Cond.selects yX5_hasPlace.cls yX5_hasPlace yX5_hasPlace ∈ WT := WT_of (tbw_4 (List.mem_of_getElem? (i := 14) rfl)) rfl
set_option maxRecDepth 100000 in
theorem lcX5_letterAt : Cond.code yX5_letterAt cX5_letterAt 2 (some .int) ∈ WT := WT_of (tbw_1 (List.mem_of_getElem? (i := 228) rfl)) rfl
theorem lkX5_letterAt : LK yX5_letterAt cX5_letterAt 2 1 (some .int) := ⟨lcX5_letterAt, liX5, ⟨by decide +kernel, by decide +kernel⟩, by decide +kernel⟩
set_option maxRecDepth 100000 in
theorem lmX5_letterAt : Cond.instanceMethod yX5_letterAt ∈ WT := WT_of (tbw_1 (List.mem_of_getElem? (i := 226) rfl)) rfl
set_option maxRecDepth 100000 in
theorem lvX5_letterAt : Cond.selects yX5_letterAt.cls yX5_letterAt yX5_letterAt ∈ WT := WT_of (tbw_1 (List.mem_of_getElem? (i := 227) rfl)) rfl
set_option maxRecDepth 100000 in
theorem lcX5_endOf : Cond.code yX5_endOf cX5_endOf 4 (some .int) ∈ WT := WT_of (tbw_2 (List.mem_of_getElem? (i := 44) rfl)) rfl
theorem lkX5_endOf : LK yX5_endOf cX5_endOf 4 1 (some .int) := ⟨lcX5_endOf, liX5, ⟨by decide +kernel, by decide +kernel⟩, by decide +kernel⟩
set_option maxRecDepth 100000 in
theorem lmX5_endOf : Cond.instanceMethod yX5_endOf ∈ WT := WT_of (tbw_2 (List.mem_of_getElem? (i := 42) rfl)) rfl
set_option maxRecDepth 100000 in
theorem lvX5_endOf : Cond.selects yX5_endOf.cls yX5_endOf yX5_endOf ∈ WT := WT_of (tbw_2 (List.mem_of_getElem? (i := 43) rfl)) rfl
set_option maxRecDepth 100000 in
theorem lcX5_closedBehind : Cond.code yX5_closedBehind cX5_closedBehind 4 (some .int) ∈ WT := WT_of (tbw_3 (List.mem_of_getElem? (i := 88) rfl)) rfl
theorem lkX5_closedBehind : LK yX5_closedBehind cX5_closedBehind 4 1 (some .int) := ⟨lcX5_closedBehind, liX5, ⟨by decide +kernel, by decide +kernel⟩, by decide +kernel⟩
set_option maxRecDepth 100000 in
theorem lmX5_closedBehind : Cond.instanceMethod yX5_closedBehind ∈ WT := WT_of (tbw_3 (List.mem_of_getElem? (i := 86) rfl)) rfl
set_option maxRecDepth 100000 in
theorem lvX5_closedBehind : Cond.selects yX5_closedBehind.cls yX5_closedBehind yX5_closedBehind ∈ WT := WT_of (tbw_3 (List.mem_of_getElem? (i := 87) rfl)) rfl
set_option maxRecDepth 100000 in
theorem lcX5_levels : Cond.code yX5_levels cX5_levels 4 (some .int) ∈ WT := WT_of (tbw_3 (List.mem_of_getElem? (i := 84) rfl)) rfl
theorem lkX5_levels : LK yX5_levels cX5_levels 4 0 (some .int) := ⟨lcX5_levels, liX5, ⟨by decide +kernel, by decide +kernel⟩, by decide +kernel⟩
set_option maxRecDepth 100000 in
theorem lmX5_levels : Cond.instanceMethod yX5_levels ∈ WT := WT_of (tbw_3 (List.mem_of_getElem? (i := 82) rfl)) rfl
set_option maxRecDepth 100000 in
theorem lvX5_levels : Cond.selects yX5_levels.cls yX5_levels yX5_levels ∈ WT := WT_of (tbw_3 (List.mem_of_getElem? (i := 83) rfl)) rfl
set_option maxRecDepth 100000 in
theorem lcX5_isLikeAt : Cond.code yX5_isLikeAt cX5_isLikeAt 7 (some .boolean) ∈ WT := WT_of (tbw_2 (List.mem_of_getElem? (i := 74) rfl)) rfl
theorem lkX5_isLikeAt : LK yX5_isLikeAt cX5_isLikeAt 7 3 (some .boolean) := ⟨lcX5_isLikeAt, liX5, ⟨by decide +kernel, by decide +kernel⟩, by decide +kernel⟩
set_option maxRecDepth 100000 in
theorem lmX5_isLikeAt : Cond.instanceMethod yX5_isLikeAt ∈ WT := WT_of (tbw_2 (List.mem_of_getElem? (i := 72) rfl)) rfl
set_option maxRecDepth 100000 in
theorem lvX5_isLikeAt : Cond.selects yX5_isLikeAt.cls yX5_isLikeAt yX5_isLikeAt ∈ WT := WT_of (tbw_2 (List.mem_of_getElem? (i := 73) rfl)) rfl
set_option maxRecDepth 100000 in
theorem lcX5_isLike : Cond.code yX5_isLike cX5_isLike 2 (some .boolean) ∈ WT := WT_of (tbw_2 (List.mem_of_getElem? (i := 164) rfl)) rfl
theorem lkX5_isLike : LK yX5_isLike cX5_isLike 2 1 (some .boolean) := ⟨lcX5_isLike, liX5, ⟨by decide +kernel, by decide +kernel⟩, by decide +kernel⟩
set_option maxRecDepth 100000 in
theorem lmX5_isLike : Cond.instanceMethod yX5_isLike ∈ WT := WT_of (tbw_2 (List.mem_of_getElem? (i := 162) rfl)) rfl
set_option maxRecDepth 100000 in
theorem lvX5_isLike : Cond.selects yX5_isLike.cls yX5_isLike yX5_isLike ∈ WT := WT_of (tbw_2 (List.mem_of_getElem? (i := 163) rfl)) rfl
set_option maxRecDepth 100000 in
theorem lcX5_firstLike : Cond.code yX5_firstLike cX5_firstLike 3 (some .int) ∈ WT := WT_of (tbw_2 (List.mem_of_getElem? (i := 70) rfl)) rfl
theorem lkX5_firstLike : LK yX5_firstLike cX5_firstLike 3 1 (some .int) := ⟨lcX5_firstLike, liX5, ⟨by decide +kernel, by decide +kernel⟩, by decide +kernel⟩
set_option maxRecDepth 100000 in
theorem lmX5_firstLike : Cond.instanceMethod yX5_firstLike ∈ WT := WT_of (tbw_2 (List.mem_of_getElem? (i := 68) rfl)) rfl
set_option maxRecDepth 100000 in
theorem lvX5_firstLike : Cond.selects yX5_firstLike.cls yX5_firstLike yX5_firstLike ∈ WT := WT_of (tbw_2 (List.mem_of_getElem? (i := 69) rfl)) rfl
set_option maxRecDepth 100000 in
theorem lcX5_unlikePlaces : Cond.code yX5_unlikePlaces cX5_unlikePlaces 3 (some .int) ∈ WT := WT_of (tbw_2 (List.mem_of_getElem? (i := 234) rfl)) rfl
theorem lkX5_unlikePlaces : LK yX5_unlikePlaces cX5_unlikePlaces 3 0 (some .int) := ⟨lcX5_unlikePlaces, liX5, ⟨by decide +kernel, by decide +kernel⟩, by decide +kernel⟩
set_option maxRecDepth 100000 in
theorem lmX5_unlikePlaces : Cond.instanceMethod yX5_unlikePlaces ∈ WT := WT_of (tbw_2 (List.mem_of_getElem? (i := 232) rfl)) rfl
set_option maxRecDepth 100000 in
theorem lvX5_unlikePlaces : Cond.selects yX5_unlikePlaces.cls yX5_unlikePlaces yX5_unlikePlaces ∈ WT := WT_of (tbw_2 (List.mem_of_getElem? (i := 233) rfl)) rfl
set_option maxRecDepth 100000 in
theorem lcX5_firstPlaceOf : Cond.code yX5_firstPlaceOf cX5_firstPlaceOf 3 (some .int) ∈ WT := WT_of (tbw_2 (List.mem_of_getElem? (i := 143) rfl)) rfl
theorem lkX5_firstPlaceOf : LK yX5_firstPlaceOf cX5_firstPlaceOf 3 1 (some .int) := ⟨lcX5_firstPlaceOf, liX5, ⟨by decide +kernel, by decide +kernel⟩, by decide +kernel⟩
set_option maxRecDepth 100000 in
theorem lmX5_firstPlaceOf : Cond.instanceMethod yX5_firstPlaceOf ∈ WT := WT_of (tbw_2 (List.mem_of_getElem? (i := 141) rfl)) rfl
set_option maxRecDepth 100000 in
theorem lvX5_firstPlaceOf : Cond.selects yX5_firstPlaceOf.cls yX5_firstPlaceOf yX5_firstPlaceOf ∈ WT := WT_of (tbw_2 (List.mem_of_getElem? (i := 142) rfl)) rfl
set_option maxRecDepth 100000 in
theorem lcX5_placesOf : Cond.code yX5_placesOf cX5_placesOf 4 (some .int) ∈ WT := WT_of (tbw_4 (List.mem_of_getElem? (i := 35) rfl)) rfl
theorem lkX5_placesOf : LK yX5_placesOf cX5_placesOf 4 1 (some .int) := ⟨lcX5_placesOf, liX5, ⟨by decide +kernel, by decide +kernel⟩, by decide +kernel⟩
set_option maxRecDepth 100000 in
theorem lmX5_placesOf : Cond.instanceMethod yX5_placesOf ∈ WT := WT_of (tbw_4 (List.mem_of_getElem? (i := 33) rfl)) rfl
set_option maxRecDepth 100000 in
theorem lvX5_placesOf : Cond.selects yX5_placesOf.cls yX5_placesOf yX5_placesOf ∈ WT := WT_of (tbw_4 (List.mem_of_getElem? (i := 34) rfl)) rfl
set_option maxRecDepth 100000 in
theorem lcX5_namesIn : Cond.code yX5_namesIn cX5_namesIn 6 (some .int) ∈ WT := WT_of (tbw_2 (List.mem_of_getElem? (i := 53) rfl)) rfl
theorem lkX5_namesIn : LK yX5_namesIn cX5_namesIn 6 2 (some .int) := ⟨lcX5_namesIn, liX5, ⟨by decide +kernel, by decide +kernel⟩, by decide +kernel⟩
set_option maxRecDepth 100000 in
theorem lmX5_namesIn : Cond.instanceMethod yX5_namesIn ∈ WT := WT_of (tbw_2 (List.mem_of_getElem? (i := 51) rfl)) rfl
set_option maxRecDepth 100000 in
theorem lvX5_namesIn : Cond.selects yX5_namesIn.cls yX5_namesIn yX5_namesIn ∈ WT := WT_of (tbw_2 (List.mem_of_getElem? (i := 52) rfl)) rfl
set_option maxRecDepth 100000 in
theorem lcX5_allNames : Cond.code yX5_allNames cX5_allNames 1 (some .int) ∈ WT := WT_of (tbw_3 (List.mem_of_getElem? (i := 101) rfl)) rfl
theorem lkX5_allNames : LK yX5_allNames cX5_allNames 1 0 (some .int) := ⟨lcX5_allNames, liX5, ⟨by decide +kernel, by decide +kernel⟩, by decide +kernel⟩
set_option maxRecDepth 100000 in
theorem lmX5_allNames : Cond.instanceMethod yX5_allNames ∈ WT := WT_of (tbw_3 (List.mem_of_getElem? (i := 99) rfl)) rfl
set_option maxRecDepth 100000 in
theorem lvX5_allNames : Cond.selects yX5_allNames.cls yX5_allNames yX5_allNames ∈ WT := WT_of (tbw_3 (List.mem_of_getElem? (i := 100) rfl)) rfl
set_option maxRecDepth 100000 in
theorem lcX5_becomeBoth : Cond.code yX5_becomeBoth cX5_becomeBoth 3 none ∈ WT := WT_of (tbw_1 (List.mem_of_getElem? (i := 220) rfl)) rfl
theorem lkX5_becomeBoth : LK yX5_becomeBoth cX5_becomeBoth 3 2 none := ⟨lcX5_becomeBoth, liX5, ⟨by decide +kernel, by decide +kernel⟩, by decide +kernel⟩
set_option maxRecDepth 100000 in
theorem lmX5_becomeBoth : Cond.instanceMethod yX5_becomeBoth ∈ WT := WT_of (tbw_1 (List.mem_of_getElem? (i := 218) rfl)) rfl
set_option maxRecDepth 100000 in
theorem lvX5_becomeBoth : Cond.selects yX5_becomeBoth.cls yX5_becomeBoth yX5_becomeBoth ∈ WT := WT_of (tbw_1 (List.mem_of_getElem? (i := 219) rfl)) rfl
set_option maxRecDepth 100000 in
theorem lcX6_init : Cond.code yX6_init cX6_init 2 none ∈ WT := WT_of (tbw_1 (List.mem_of_getElem? (i := 33) rfl)) rfl
theorem lkX6_init : LK yX6_init cX6_init 2 0 none := ⟨lcX6_init, liX6, ⟨by decide +kernel, by decide +kernel⟩, by decide +kernel⟩
set_option maxRecDepth 100000 in
theorem lmX6_init : Cond.instanceMethod yX6_init ∈ WT := WT_of (tbw_1 (List.mem_of_getElem? (i := 32) rfl)) rfl
set_option maxRecDepth 100000 in
theorem lcX6_name : Cond.code yX6_name cX6_name 5 (some .int) ∈ WT := WT_of (tbw_3 (List.mem_of_getElem? (i := 197) rfl)) rfl
theorem lkX6_name : LK yX6_name cX6_name 5 2 (some .int) := ⟨lcX6_name, liX6, ⟨by decide +kernel, by decide +kernel⟩, by decide +kernel⟩
set_option maxRecDepth 100000 in
theorem lmX6_name : Cond.instanceMethod yX6_name ∈ WT := WT_of (tbw_3 (List.mem_of_getElem? (i := 195) rfl)) rfl
set_option maxRecDepth 100000 in
theorem lvX6_name : Cond.selects yX6_name.cls yX6_name yX6_name ∈ WT := WT_of (tbw_3 (List.mem_of_getElem? (i := 196) rfl)) rfl
set_option maxRecDepth 100000 in
theorem lcX6_head : Cond.code yX6_head cX6_head 12 (some .int) ∈ WT := WT_of (tbw_3 (List.mem_of_getElem? (i := 213) rfl)) rfl
theorem lkX6_head : LK yX6_head cX6_head 12 5 (some .int) := ⟨lcX6_head, liX6, ⟨by decide +kernel, by decide +kernel⟩, by decide +kernel⟩
set_option maxRecDepth 100000 in
theorem lmX6_head : Cond.instanceMethod yX6_head ∈ WT := WT_of (tbw_3 (List.mem_of_getElem? (i := 211) rfl)) rfl
set_option maxRecDepth 100000 in
theorem lvX6_head : Cond.selects yX6_head.cls yX6_head yX6_head ∈ WT := WT_of (tbw_3 (List.mem_of_getElem? (i := 212) rfl)) rfl
set_option maxRecDepth 100000 in
theorem lcX6_copy : Cond.code yX6_copy cX6_copy 5 (some .int) ∈ WT := WT_of (tbw_3 (List.mem_of_getElem? (i := 237) rfl)) rfl
theorem lkX6_copy : LK yX6_copy cX6_copy 5 2 (some .int) := ⟨lcX6_copy, liX6, ⟨by decide +kernel, by decide +kernel⟩, by decide +kernel⟩
set_option maxRecDepth 100000 in
theorem lmX6_copy : Cond.instanceMethod yX6_copy ∈ WT := WT_of (tbw_3 (List.mem_of_getElem? (i := 235) rfl)) rfl
set_option maxRecDepth 100000 in
theorem lvX6_copy : Cond.selects yX6_copy.cls yX6_copy yX6_copy ∈ WT := WT_of (tbw_3 (List.mem_of_getElem? (i := 236) rfl)) rfl
set_option maxRecDepth 100000 in
theorem lcX6_swap : Cond.code yX6_swap cX6_swap 6 (some .int) ∈ WT := WT_of (tbw_4 (List.mem_of_getElem? (i := 4) rfl)) rfl
theorem lkX6_swap : LK yX6_swap cX6_swap 6 2 (some .int) := ⟨lcX6_swap, liX6, ⟨by decide +kernel, by decide +kernel⟩, by decide +kernel⟩
set_option maxRecDepth 100000 in
theorem lmX6_swap : Cond.instanceMethod yX6_swap ∈ WT := WT_of (tbw_4 (List.mem_of_getElem? (i := 2) rfl)) rfl
set_option maxRecDepth 100000 in
theorem lvX6_swap : Cond.selects yX6_swap.cls yX6_swap yX6_swap ∈ WT := WT_of (tbw_4 (List.mem_of_getElem? (i := 3) rfl)) rfl
set_option maxRecDepth 100000 in
theorem lcX6_part : Cond.code yX6_part cX6_part 6 (some .int) ∈ WT := WT_of (tbw_4 (List.mem_of_getElem? (i := 11) rfl)) rfl
theorem lkX6_part : LK yX6_part cX6_part 6 3 (some .int) := ⟨lcX6_part, liX6, ⟨by decide +kernel, by decide +kernel⟩, by decide +kernel⟩
set_option maxRecDepth 100000 in
theorem lmX6_part : Cond.instanceMethod yX6_part ∈ WT := WT_of (tbw_4 (List.mem_of_getElem? (i := 9) rfl)) rfl
set_option maxRecDepth 100000 in
theorem lvX6_part : Cond.selects yX6_part.cls yX6_part yX6_part ∈ WT := WT_of (tbw_4 (List.mem_of_getElem? (i := 10) rfl)) rfl
set_option maxRecDepth 100000 in
theorem lcX6_graft : Cond.code yX6_graft cX6_graft 6 (some .int) ∈ WT := WT_of (tbw_4 (List.mem_of_getElem? (i := 24) rfl)) rfl
theorem lkX6_graft : LK yX6_graft cX6_graft 6 3 (some .int) := ⟨lcX6_graft, liX6, ⟨by decide +kernel, by decide +kernel⟩, by decide +kernel⟩
set_option maxRecDepth 100000 in
theorem lmX6_graft : Cond.instanceMethod yX6_graft ∈ WT := WT_of (tbw_4 (List.mem_of_getElem? (i := 22) rfl)) rfl
set_option maxRecDepth 100000 in
theorem lvX6_graft : Cond.selects yX6_graft.cls yX6_graft yX6_graft ∈ WT := WT_of (tbw_4 (List.mem_of_getElem? (i := 23) rfl)) rfl
set_option maxRecDepth 100000 in
theorem lcX6_put : Cond.code yX6_put cX6_put 8 (some .int) ∈ WT := WT_of (tbw_4 (List.mem_of_getElem? (i := 31) rfl)) rfl
theorem lkX6_put : LK yX6_put cX6_put 8 3 (some .int) := ⟨lcX6_put, liX6, ⟨by decide +kernel, by decide +kernel⟩, by decide +kernel⟩
set_option maxRecDepth 100000 in
theorem lmX6_put : Cond.instanceMethod yX6_put ∈ WT := WT_of (tbw_4 (List.mem_of_getElem? (i := 29) rfl)) rfl
set_option maxRecDepth 100000 in
theorem lvX6_put : Cond.selects yX6_put.cls yX6_put yX6_put ∈ WT := WT_of (tbw_4 (List.mem_of_getElem? (i := 30) rfl)) rfl
set_option maxRecDepth 100000 in
theorem lcX6_shift : Cond.code yX6_shift cX6_shift 6 (some .int) ∈ WT := WT_of (tbw_4 (List.mem_of_getElem? (i := 42) rfl)) rfl
theorem lkX6_shift : LK yX6_shift cX6_shift 6 2 (some .int) := ⟨lcX6_shift, liX6, ⟨by decide +kernel, by decide +kernel⟩, by decide +kernel⟩
set_option maxRecDepth 100000 in
theorem lmX6_shift : Cond.instanceMethod yX6_shift ∈ WT := WT_of (tbw_4 (List.mem_of_getElem? (i := 40) rfl)) rfl
set_option maxRecDepth 100000 in
theorem lvX6_shift : Cond.selects yX6_shift.cls yX6_shift yX6_shift ∈ WT := WT_of (tbw_4 (List.mem_of_getElem? (i := 41) rfl)) rfl
set_option maxRecDepth 100000 in
theorem lcX6_plain : Cond.code yX6_plain cX6_plain 3 (some .int) ∈ WT := WT_of (tbw_4 (List.mem_of_getElem? (i := 51) rfl)) rfl
theorem lkX6_plain : LK yX6_plain cX6_plain 3 1 (some .int) := ⟨lcX6_plain, liX6, ⟨by decide +kernel, by decide +kernel⟩, by decide +kernel⟩
set_option maxRecDepth 100000 in
theorem lmX6_plain : Cond.instanceMethod yX6_plain ∈ WT := WT_of (tbw_4 (List.mem_of_getElem? (i := 49) rfl)) rfl
set_option maxRecDepth 100000 in
theorem lvX6_plain : Cond.selects yX6_plain.cls yX6_plain yX6_plain ∈ WT := WT_of (tbw_4 (List.mem_of_getElem? (i := 50) rfl)) rfl
set_option maxRecDepth 100000 in
theorem lcX6_use : Cond.code yX6_use cX6_use 7 (some .int) ∈ WT := WT_of (tbw_4 (List.mem_of_getElem? (i := 58) rfl)) rfl
theorem lkX6_use : LK yX6_use cX6_use 7 3 (some .int) := ⟨lcX6_use, liX6, ⟨by decide +kernel, by decide +kernel⟩, by decide +kernel⟩
set_option maxRecDepth 100000 in
theorem lmX6_use : Cond.instanceMethod yX6_use ∈ WT := WT_of (tbw_4 (List.mem_of_getElem? (i := 56) rfl)) rfl
set_option maxRecDepth 100000 in
theorem lvX6_use : Cond.selects yX6_use.cls yX6_use yX6_use ∈ WT := WT_of (tbw_4 (List.mem_of_getElem? (i := 57) rfl)) rfl
set_option maxRecDepth 100000 in
theorem lcX6_common : Cond.code yX6_common cX6_common 7 (some .int) ∈ WT := WT_of (tbw_4 (List.mem_of_getElem? (i := 70) rfl)) rfl
theorem lkX6_common : LK yX6_common cX6_common 7 3 (some .int) := ⟨lcX6_common, liX6, ⟨by decide +kernel, by decide +kernel⟩, by decide +kernel⟩
set_option maxRecDepth 100000 in
theorem lmX6_common : Cond.instanceMethod yX6_common ∈ WT := WT_of (tbw_4 (List.mem_of_getElem? (i := 68) rfl)) rfl
set_option maxRecDepth 100000 in
theorem lvX6_common : Cond.selects yX6_common.cls yX6_common yX6_common ∈ WT := WT_of (tbw_4 (List.mem_of_getElem? (i := 69) rfl)) rfl
set_option maxRecDepth 100000 in
theorem lcX6_forget : Cond.code yX6_forget cX6_forget 4 (some .int) ∈ WT := WT_of (tbw_4 (List.mem_of_getElem? (i := 77) rfl)) rfl
theorem lkX6_forget : LK yX6_forget cX6_forget 4 1 (some .int) := ⟨lcX6_forget, liX6, ⟨by decide +kernel, by decide +kernel⟩, by decide +kernel⟩
set_option maxRecDepth 100000 in
theorem lmX6_forget : Cond.instanceMethod yX6_forget ∈ WT := WT_of (tbw_4 (List.mem_of_getElem? (i := 75) rfl)) rfl
set_option maxRecDepth 100000 in
theorem lvX6_forget : Cond.selects yX6_forget.cls yX6_forget yX6_forget ∈ WT := WT_of (tbw_4 (List.mem_of_getElem? (i := 76) rfl)) rfl
set_option maxRecDepth 100000 in
theorem lcX6_tell : Cond.code yX6_tell cX6_tell 8 (some .int) ∈ WT := WT_of (tbw_4 (List.mem_of_getElem? (i := 88) rfl)) rfl
theorem lkX6_tell : LK yX6_tell cX6_tell 8 3 (some .int) := ⟨lcX6_tell, liX6, ⟨by decide +kernel, by decide +kernel⟩, by decide +kernel⟩
set_option maxRecDepth 100000 in
theorem lmX6_tell : Cond.instanceMethod yX6_tell ∈ WT := WT_of (tbw_4 (List.mem_of_getElem? (i := 86) rfl)) rfl
set_option maxRecDepth 100000 in
theorem lvX6_tell : Cond.selects yX6_tell.cls yX6_tell yX6_tell ∈ WT := WT_of (tbw_4 (List.mem_of_getElem? (i := 87) rfl)) rfl
set_option maxRecDepth 100000 in
theorem lcX6_take : Cond.code yX6_take cX6_take 5 (some .int) ∈ WT := WT_of (tbw_4 (List.mem_of_getElem? (i := 95) rfl)) rfl
theorem lkX6_take : LK yX6_take cX6_take 5 2 (some .int) := ⟨lcX6_take, liX6, ⟨by decide +kernel, by decide +kernel⟩, by decide +kernel⟩
set_option maxRecDepth 100000 in
theorem lmX6_take : Cond.instanceMethod yX6_take ∈ WT := WT_of (tbw_4 (List.mem_of_getElem? (i := 93) rfl)) rfl
set_option maxRecDepth 100000 in
theorem lvX6_take : Cond.selects yX6_take.cls yX6_take yX6_take ∈ WT := WT_of (tbw_4 (List.mem_of_getElem? (i := 94) rfl)) rfl
set_option maxRecDepth 100000 in
theorem lcX6_behind : Cond.code yX6_behind cX6_behind 7 (some .int) ∈ WT := WT_of (tbw_4 (List.mem_of_getElem? (i := 107) rfl)) rfl
theorem lkX6_behind : LK yX6_behind cX6_behind 7 3 (some .int) := ⟨lcX6_behind, liX6, ⟨by decide +kernel, by decide +kernel⟩, by decide +kernel⟩
set_option maxRecDepth 100000 in
theorem lmX6_behind : Cond.instanceMethod yX6_behind ∈ WT := WT_of (tbw_4 (List.mem_of_getElem? (i := 105) rfl)) rfl
set_option maxRecDepth 100000 in
theorem lvX6_behind : Cond.selects yX6_behind.cls yX6_behind yX6_behind ∈ WT := WT_of (tbw_4 (List.mem_of_getElem? (i := 106) rfl)) rfl
set_option maxRecDepth 100000 in
theorem lcX6_alike : Cond.code yX6_alike cX6_alike 9 (some .int) ∈ WT := WT_of (tbw_4 (List.mem_of_getElem? (i := 122) rfl)) rfl
theorem lkX6_alike : LK yX6_alike cX6_alike 9 4 (some .int) := ⟨lcX6_alike, liX6, ⟨by decide +kernel, by decide +kernel⟩, by decide +kernel⟩
set_option maxRecDepth 100000 in
theorem lmX6_alike : Cond.instanceMethod yX6_alike ∈ WT := WT_of (tbw_4 (List.mem_of_getElem? (i := 120) rfl)) rfl
set_option maxRecDepth 100000 in
theorem lvX6_alike : Cond.selects yX6_alike.cls yX6_alike yX6_alike ∈ WT := WT_of (tbw_4 (List.mem_of_getElem? (i := 121) rfl)) rfl
set_option maxRecDepth 100000 in
theorem lcX6_match : Cond.code yX6_match cX6_match 7 (some .int) ∈ WT := WT_of (tbw_4 (List.mem_of_getElem? (i := 130) rfl)) rfl
theorem lkX6_match : LK yX6_match cX6_match 7 3 (some .int) := ⟨lcX6_match, liX6, ⟨by decide +kernel, by decide +kernel⟩, by decide +kernel⟩
set_option maxRecDepth 100000 in
theorem lmX6_match : Cond.instanceMethod yX6_match ∈ WT := WT_of (tbw_4 (List.mem_of_getElem? (i := 128) rfl)) rfl
set_option maxRecDepth 100000 in
theorem lvX6_match : Cond.selects yX6_match.cls yX6_match yX6_match ∈ WT := WT_of (tbw_4 (List.mem_of_getElem? (i := 129) rfl)) rfl
set_option maxRecDepth 100000 in
theorem lcX6_text : Cond.code yX6_text cX6_text 2 (some (.object "java/lang/String")) ∈ WT := WT_of (tbw_4 (List.mem_of_getElem? (i := 137) rfl)) rfl
theorem lkX6_text : LK yX6_text cX6_text 2 1 (some (.object "java/lang/String")) := ⟨lcX6_text, liX6, ⟨by decide +kernel, by decide +kernel⟩, by decide +kernel⟩
set_option maxRecDepth 100000 in
theorem lmX6_text : Cond.instanceMethod yX6_text ∈ WT := WT_of (tbw_4 (List.mem_of_getElem? (i := 135) rfl)) rfl
set_option maxRecDepth 100000 in
theorem lvX6_text : Cond.selects yX6_text.cls yX6_text yX6_text ∈ WT := WT_of (tbw_4 (List.mem_of_getElem? (i := 136) rfl)) rfl
set_option maxRecDepth 100000 in
theorem lcX6_size : Cond.code yX6_size cX6_size 2 (some .int) ∈ WT := WT_of (tbw_3 (List.mem_of_getElem? (i := 5) rfl)) rfl
theorem lkX6_size : LK yX6_size cX6_size 2 1 (some .int) := ⟨lcX6_size, liX6, ⟨by decide +kernel, by decide +kernel⟩, by decide +kernel⟩
set_option maxRecDepth 100000 in
theorem lmX6_size : Cond.instanceMethod yX6_size ∈ WT := WT_of (tbw_3 (List.mem_of_getElem? (i := 3) rfl)) rfl
set_option maxRecDepth 100000 in
theorem lvX6_size : Cond.selects yX6_size.cls yX6_size yX6_size ∈ WT := WT_of (tbw_3 (List.mem_of_getElem? (i := 4) rfl)) rfl
set_option maxRecDepth 100000 in
theorem lcX6_depth : Cond.code yX6_depth cX6_depth 2 (some .int) ∈ WT := WT_of (tbw_3 (List.mem_of_getElem? (i := 80) rfl)) rfl
theorem lkX6_depth : LK yX6_depth cX6_depth 2 1 (some .int) := ⟨lcX6_depth, liX6, ⟨by decide +kernel, by decide +kernel⟩, by decide +kernel⟩
set_option maxRecDepth 100000 in
theorem lmX6_depth : Cond.instanceMethod yX6_depth ∈ WT := WT_of (tbw_3 (List.mem_of_getElem? (i := 78) rfl)) rfl
set_option maxRecDepth 100000 in
theorem lvX6_depth : Cond.selects yX6_depth.cls yX6_depth yX6_depth ∈ WT := WT_of (tbw_3 (List.mem_of_getElem? (i := 79) rfl)) rfl
set_option maxRecDepth 100000 in
theorem lcX6_shared : Cond.code yX6_shared cX6_shared 2 (some .int) ∈ WT := WT_of (tbw_3 (List.mem_of_getElem? (i := 93) rfl)) rfl
theorem lkX6_shared : LK yX6_shared cX6_shared 2 1 (some .int) := ⟨lcX6_shared, liX6, ⟨by decide +kernel, by decide +kernel⟩, by decide +kernel⟩
set_option maxRecDepth 100000 in
theorem lmX6_shared : Cond.instanceMethod yX6_shared ∈ WT := WT_of (tbw_3 (List.mem_of_getElem? (i := 91) rfl)) rfl
set_option maxRecDepth 100000 in
theorem lvX6_shared : Cond.selects yX6_shared.cls yX6_shared yX6_shared ∈ WT := WT_of (tbw_3 (List.mem_of_getElem? (i := 92) rfl)) rfl
set_option maxRecDepth 100000 in
theorem lcX6_letter : Cond.code yX6_letter cX6_letter 3 (some .int) ∈ WT := WT_of (tbw_5 (List.mem_of_getElem? (i := 200) rfl)) rfl
theorem lkX6_letter : LK yX6_letter cX6_letter 3 2 (some .int) := ⟨lcX6_letter, liX6, ⟨by decide +kernel, by decide +kernel⟩, by decide +kernel⟩
set_option maxRecDepth 100000 in
theorem lmX6_letter : Cond.instanceMethod yX6_letter ∈ WT := WT_of (tbw_5 (List.mem_of_getElem? (i := 198) rfl)) rfl
set_option maxRecDepth 100000 in
theorem lvX6_letter : Cond.selects yX6_letter.cls yX6_letter yX6_letter ∈ WT := WT_of (tbw_5 (List.mem_of_getElem? (i := 199) rfl)) rfl
set_option maxRecDepth 100000 in
theorem lcX6_sizeAt : Cond.code yX6_sizeAt cX6_sizeAt 4 (some .int) ∈ WT := WT_of (tbw_5 (List.mem_of_getElem? (i := 207) rfl)) rfl
theorem lkX6_sizeAt : LK yX6_sizeAt cX6_sizeAt 4 2 (some .int) := ⟨lcX6_sizeAt, liX6, ⟨by decide +kernel, by decide +kernel⟩, by decide +kernel⟩
set_option maxRecDepth 100000 in
theorem lmX6_sizeAt : Cond.instanceMethod yX6_sizeAt ∈ WT := WT_of (tbw_5 (List.mem_of_getElem? (i := 205) rfl)) rfl
set_option maxRecDepth 100000 in
theorem lvX6_sizeAt : Cond.selects yX6_sizeAt.cls yX6_sizeAt yX6_sizeAt ∈ WT := WT_of (tbw_5 (List.mem_of_getElem? (i := 206) rfl)) rfl
set_option maxRecDepth 100000 in
theorem lcX6_count : Cond.code yX6_count cX6_count 4 (some .int) ∈ WT := WT_of (tbw_5 (List.mem_of_getElem? (i := 214) rfl)) rfl
theorem lkX6_count : LK yX6_count cX6_count 4 2 (some .int) := ⟨lcX6_count, liX6, ⟨by decide +kernel, by decide +kernel⟩, by decide +kernel⟩
set_option maxRecDepth 100000 in
theorem lmX6_count : Cond.instanceMethod yX6_count ∈ WT := WT_of (tbw_5 (List.mem_of_getElem? (i := 212) rfl)) rfl
set_option maxRecDepth 100000 in
theorem lvX6_count : Cond.selects yX6_count.cls yX6_count yX6_count ∈ WT := WT_of (tbw_5 (List.mem_of_getElem? (i := 213) rfl)) rfl
set_option maxRecDepth 100000 in
theorem lcX6_names : Cond.code yX6_names cX6_names 2 (some .int) ∈ WT := WT_of (tbw_3 (List.mem_of_getElem? (i := 97) rfl)) rfl
theorem lkX6_names : LK yX6_names cX6_names 2 1 (some .int) := ⟨lcX6_names, liX6, ⟨by decide +kernel, by decide +kernel⟩, by decide +kernel⟩
set_option maxRecDepth 100000 in
theorem lmX6_names : Cond.instanceMethod yX6_names ∈ WT := WT_of (tbw_3 (List.mem_of_getElem? (i := 95) rfl)) rfl
set_option maxRecDepth 100000 in
theorem lvX6_names : Cond.selects yX6_names.cls yX6_names yX6_names ∈ WT := WT_of (tbw_3 (List.mem_of_getElem? (i := 96) rfl)) rfl
set_option maxRecDepth 100000 in
theorem lcX6_find : Cond.code yX6_find cX6_find 6 (some .int) ∈ WT := WT_of (tbw_5 (List.mem_of_getElem? (i := 225) rfl)) rfl
theorem lkX6_find : LK yX6_find cX6_find 6 2 (some .int) := ⟨lcX6_find, liX6, ⟨by decide +kernel, by decide +kernel⟩, by decide +kernel⟩
set_option maxRecDepth 100000 in
theorem lmX6_find : Cond.instanceMethod yX6_find ∈ WT := WT_of (tbw_5 (List.mem_of_getElem? (i := 223) rfl)) rfl
set_option maxRecDepth 100000 in
theorem lvX6_find : Cond.selects yX6_find.cls yX6_find yX6_find ∈ WT := WT_of (tbw_5 (List.mem_of_getElem? (i := 224) rfl)) rfl
set_option maxRecDepth 100000 in
theorem lcX6_differ : Cond.code yX6_differ cX6_differ 6 (some .int) ∈ WT := WT_of (tbw_5 (List.mem_of_getElem? (i := 233) rfl)) rfl
theorem lkX6_differ : LK yX6_differ cX6_differ 6 2 (some .int) := ⟨lcX6_differ, liX6, ⟨by decide +kernel, by decide +kernel⟩, by decide +kernel⟩
set_option maxRecDepth 100000 in
theorem lmX6_differ : Cond.instanceMethod yX6_differ ∈ WT := WT_of (tbw_5 (List.mem_of_getElem? (i := 231) rfl)) rfl
set_option maxRecDepth 100000 in
theorem lvX6_differ : Cond.selects yX6_differ.cls yX6_differ yX6_differ ∈ WT := WT_of (tbw_5 (List.mem_of_getElem? (i := 232) rfl)) rfl
set_option maxRecDepth 100000 in
theorem lcX6_is : Cond.code yX6_is cX6_is 6 (some .boolean) ∈ WT := WT_of (tbw_6 (List.mem_of_getElem? (i := 0) rfl)) rfl
theorem lkX6_is : LK yX6_is cX6_is 6 3 (some .boolean) := ⟨lcX6_is, liX6, ⟨by decide +kernel, by decide +kernel⟩, by decide +kernel⟩
set_option maxRecDepth 100000 in
theorem lmX6_is : Cond.instanceMethod yX6_is ∈ WT := WT_of (tbw_5 (List.mem_of_getElem? (i := 238) rfl)) rfl
set_option maxRecDepth 100000 in
theorem lvX6_is : Cond.selects yX6_is.cls yX6_is yX6_is ∈ WT := WT_of (tbw_5 (List.mem_of_getElem? (i := 239) rfl)) rfl
set_option maxRecDepth 100000 in
theorem lcX6_can : Cond.code yX6_can cX6_can 6 (some .boolean) ∈ WT := WT_of (tbw_6 (List.mem_of_getElem? (i := 8) rfl)) rfl
theorem lkX6_can : LK yX6_can cX6_can 6 3 (some .boolean) := ⟨lcX6_can, liX6, ⟨by decide +kernel, by decide +kernel⟩, by decide +kernel⟩
set_option maxRecDepth 100000 in
theorem lmX6_can : Cond.instanceMethod yX6_can ∈ WT := WT_of (tbw_6 (List.mem_of_getElem? (i := 6) rfl)) rfl
set_option maxRecDepth 100000 in
theorem lvX6_can : Cond.selects yX6_can.cls yX6_can yX6_can ∈ WT := WT_of (tbw_6 (List.mem_of_getElem? (i := 7) rfl)) rfl
set_option maxRecDepth 100000 in
theorem lcX6_steps : Cond.code yX6_steps cX6_steps 5 (some .int) ∈ WT := WT_of (tbw_3 (List.mem_of_getElem? (i := 141) rfl)) rfl
theorem lkX6_steps : LK yX6_steps cX6_steps 5 2 (some .int) := ⟨lcX6_steps, liX6, ⟨by decide +kernel, by decide +kernel⟩, by decide +kernel⟩
set_option maxRecDepth 100000 in
theorem lmX6_steps : Cond.instanceMethod yX6_steps ∈ WT := WT_of (tbw_3 (List.mem_of_getElem? (i := 139) rfl)) rfl
set_option maxRecDepth 100000 in
theorem lvX6_steps : Cond.selects yX6_steps.cls yX6_steps yX6_steps ∈ WT := WT_of (tbw_3 (List.mem_of_getElem? (i := 140) rfl)) rfl
set_option maxRecDepth 100000 in
theorem lcX6_why : Cond.code yX6_why cX6_why 5 (some .int) ∈ WT := WT_of (tbw_3 (List.mem_of_getElem? (i := 149) rfl)) rfl
theorem lkX6_why : LK yX6_why cX6_why 5 2 (some .int) := ⟨lcX6_why, liX6, ⟨by decide +kernel, by decide +kernel⟩, by decide +kernel⟩
set_option maxRecDepth 100000 in
theorem lmX6_why : Cond.instanceMethod yX6_why ∈ WT := WT_of (tbw_3 (List.mem_of_getElem? (i := 147) rfl)) rfl
set_option maxRecDepth 100000 in
theorem lvX6_why : Cond.selects yX6_why.cls yX6_why yX6_why ∈ WT := WT_of (tbw_3 (List.mem_of_getElem? (i := 148) rfl)) rfl
set_option maxRecDepth 100000 in
theorem lcX6_told : Cond.code yX6_told cX6_told 3 (some (.object "java/lang/String")) ∈ WT := WT_of (tbw_6 (List.mem_of_getElem? (i := 23) rfl)) rfl
theorem lkX6_told : LK yX6_told cX6_told 3 2 (some (.object "java/lang/String")) := ⟨lcX6_told, liX6, ⟨by decide +kernel, by decide +kernel⟩, by decide +kernel⟩
set_option maxRecDepth 100000 in
theorem lmX6_told : Cond.instanceMethod yX6_told ∈ WT := WT_of (tbw_6 (List.mem_of_getElem? (i := 21) rfl)) rfl
set_option maxRecDepth 100000 in
theorem lvX6_told : Cond.selects yX6_told.cls yX6_told yX6_told ∈ WT := WT_of (tbw_6 (List.mem_of_getElem? (i := 22) rfl)) rfl
set_option maxRecDepth 100000 in
theorem lcX6_moved : Cond.code yX6_moved cX6_moved 2 (some .int) ∈ WT := WT_of (tbw_6 (List.mem_of_getElem? (i := 30) rfl)) rfl
theorem lkX6_moved : LK yX6_moved cX6_moved 2 1 (some .int) := ⟨lcX6_moved, liX6, ⟨by decide +kernel, by decide +kernel⟩, by decide +kernel⟩
set_option maxRecDepth 100000 in
theorem lmX6_moved : Cond.instanceMethod yX6_moved ∈ WT := WT_of (tbw_6 (List.mem_of_getElem? (i := 28) rfl)) rfl
set_option maxRecDepth 100000 in
theorem lvX6_moved : Cond.selects yX6_moved.cls yX6_moved yX6_moved ∈ WT := WT_of (tbw_6 (List.mem_of_getElem? (i := 29) rfl)) rfl
set_option maxRecDepth 100000 in
theorem lcX6_makes : Cond.code yX6_makes cX6_makes 7 (some .boolean) ∈ WT := WT_of (tbw_6 (List.mem_of_getElem? (i := 37) rfl)) rfl
theorem lkX6_makes : LK yX6_makes cX6_makes 7 3 (some .boolean) := ⟨lcX6_makes, liX6, ⟨by decide +kernel, by decide +kernel⟩, by decide +kernel⟩
set_option maxRecDepth 100000 in
theorem lmX6_makes : Cond.instanceMethod yX6_makes ∈ WT := WT_of (tbw_6 (List.mem_of_getElem? (i := 35) rfl)) rfl
set_option maxRecDepth 100000 in
theorem lvX6_makes : Cond.selects yX6_makes.cls yX6_makes yX6_makes ∈ WT := WT_of (tbw_6 (List.mem_of_getElem? (i := 36) rfl)) rfl
set_option maxRecDepth 100000 in
theorem lcX6_isSo : Cond.code yX6_isSo cX6_isSo 4 (some .boolean) ∈ WT := WT_of (tbw_6 (List.mem_of_getElem? (i := 44) rfl)) rfl
theorem lkX6_isSo : LK yX6_isSo cX6_isSo 4 2 (some .boolean) := ⟨lcX6_isSo, liX6, ⟨by decide +kernel, by decide +kernel⟩, by decide +kernel⟩
set_option maxRecDepth 100000 in
theorem lmX6_isSo : Cond.instanceMethod yX6_isSo ∈ WT := WT_of (tbw_6 (List.mem_of_getElem? (i := 42) rfl)) rfl
set_option maxRecDepth 100000 in
theorem lvX6_isSo : Cond.selects yX6_isSo.cls yX6_isSo yX6_isSo ∈ WT := WT_of (tbw_6 (List.mem_of_getElem? (i := 43) rfl)) rfl
set_option maxRecDepth 100000 in
theorem lcX6_unlike : Cond.code yX6_unlike cX6_unlike 5 (some .int) ∈ WT := WT_of (tbw_6 (List.mem_of_getElem? (i := 56) rfl)) rfl
theorem lkX6_unlike : LK yX6_unlike cX6_unlike 5 2 (some .int) := ⟨lcX6_unlike, liX6, ⟨by decide +kernel, by decide +kernel⟩, by decide +kernel⟩
set_option maxRecDepth 100000 in
theorem lmX6_unlike : Cond.instanceMethod yX6_unlike ∈ WT := WT_of (tbw_6 (List.mem_of_getElem? (i := 54) rfl)) rfl
set_option maxRecDepth 100000 in
theorem lvX6_unlike : Cond.selects yX6_unlike.cls yX6_unlike yX6_unlike ∈ WT := WT_of (tbw_6 (List.mem_of_getElem? (i := 55) rfl)) rfl
set_option maxRecDepth 100000 in
theorem lcX6_weight : Cond.code yX6_weight cX6_weight 4 (some .int) ∈ WT := WT_of (tbw_6 (List.mem_of_getElem? (i := 63) rfl)) rfl
theorem lkX6_weight : LK yX6_weight cX6_weight 4 2 (some .int) := ⟨lcX6_weight, liX6, ⟨by decide +kernel, by decide +kernel⟩, by decide +kernel⟩
set_option maxRecDepth 100000 in
theorem lmX6_weight : Cond.instanceMethod yX6_weight ∈ WT := WT_of (tbw_6 (List.mem_of_getElem? (i := 61) rfl)) rfl
set_option maxRecDepth 100000 in
theorem lvX6_weight : Cond.selects yX6_weight.cls yX6_weight yX6_weight ∈ WT := WT_of (tbw_6 (List.mem_of_getElem? (i := 62) rfl)) rfl
set_option maxRecDepth 100000 in
theorem lcX6_house : Cond.code yX6_house cX6_house 2 (some .int) ∈ WT := WT_of (tbw_3 (List.mem_of_getElem? (i := 157) rfl)) rfl
theorem lkX6_house : LK yX6_house cX6_house 2 1 (some .int) := ⟨lcX6_house, liX6, ⟨by decide +kernel, by decide +kernel⟩, by decide +kernel⟩
set_option maxRecDepth 100000 in
theorem lmX6_house : Cond.instanceMethod yX6_house ∈ WT := WT_of (tbw_3 (List.mem_of_getElem? (i := 155) rfl)) rfl
set_option maxRecDepth 100000 in
theorem lvX6_house : Cond.selects yX6_house.cls yX6_house yX6_house ∈ WT := WT_of (tbw_3 (List.mem_of_getElem? (i := 156) rfl)) rfl
set_option maxRecDepth 100000 in
theorem lcX6_knock : Cond.code yX6_knock cX6_knock 1 (some .int) ∈ WT := WT_of (tbw_1 (List.mem_of_getElem? (i := 208) rfl)) rfl
theorem lkX6_knock : LK yX6_knock cX6_knock 1 0 (some .int) := ⟨lcX6_knock, liX6, ⟨by decide +kernel, by decide +kernel⟩, by decide +kernel⟩
set_option maxRecDepth 100000 in
theorem lmX6_knock : Cond.instanceMethod yX6_knock ∈ WT := WT_of (tbw_1 (List.mem_of_getElem? (i := 206) rfl)) rfl
set_option maxRecDepth 100000 in
theorem lvX6_knock : Cond.selects yX6_knock.cls yX6_knock yX6_knock ∈ WT := WT_of (tbw_1 (List.mem_of_getElem? (i := 207) rfl)) rfl
set_option maxRecDepth 100000 in
theorem lcX6_isSound : Cond.code yX6_isSound cX6_isSound 5 (some .boolean) ∈ WT := WT_of (tbw_1 (List.mem_of_getElem? (i := 212) rfl)) rfl
theorem lkX6_isSound : LK yX6_isSound cX6_isSound 5 0 (some .boolean) := ⟨lcX6_isSound, liX6, ⟨by decide +kernel, by decide +kernel⟩, by decide +kernel⟩
set_option maxRecDepth 100000 in
theorem lmX6_isSound : Cond.instanceMethod yX6_isSound ∈ WT := WT_of (tbw_1 (List.mem_of_getElem? (i := 210) rfl)) rfl
set_option maxRecDepth 100000 in
theorem lvX6_isSound : Cond.selects yX6_isSound.cls yX6_isSound yX6_isSound ∈ WT := WT_of (tbw_1 (List.mem_of_getElem? (i := 211) rfl)) rfl
set_option maxRecDepth 100000 in
theorem lcX6_digest : Cond.code yX6_digest cX6_digest 4 (some .long) ∈ WT := WT_of (tbw_2 (List.mem_of_getElem? (i := 239) rfl)) rfl
theorem lkX6_digest : LK yX6_digest cX6_digest 4 0 (some .long) := ⟨lcX6_digest, liX6, ⟨by decide +kernel, by decide +kernel⟩, by decide +kernel⟩
set_option maxRecDepth 100000 in
theorem lmX6_digest : Cond.instanceMethod yX6_digest ∈ WT := WT_of (tbw_2 (List.mem_of_getElem? (i := 237) rfl)) rfl
set_option maxRecDepth 100000 in
theorem lvX6_digest : Cond.selects yX6_digest.cls yX6_digest yX6_digest ∈ WT := WT_of (tbw_2 (List.mem_of_getElem? (i := 238) rfl)) rfl
set_option maxRecDepth 100000 in
theorem lcX6_termOf : Cond.code yX6_termOf cX6_termOf 2 (some (.object "Branchmatch$Term")) ∈ WT := WT_of (tbw_3 (List.mem_of_getElem? (i := 9) rfl)) rfl
theorem lkX6_termOf : LK yX6_termOf cX6_termOf 2 1 (some (.object "Branchmatch$Term")) := ⟨lcX6_termOf, liX6, ⟨by decide +kernel, by decide +kernel⟩, by decide +kernel⟩
set_option maxRecDepth 100000 in
theorem lmX6_termOf : Cond.instanceMethod yX6_termOf ∈ WT := WT_of (tbw_3 (List.mem_of_getElem? (i := 8) rfl)) rfl
set_option maxRecDepth 100000 in
theorem lcX6_answerOf : Cond.code yX6_answerOf cX6_answerOf 2 (some (.object "Branchmatch$Answer")) ∈ WT := WT_of (tbw_4 (List.mem_of_getElem? (i := 62) rfl)) rfl
theorem lkX6_answerOf : LK yX6_answerOf cX6_answerOf 2 1 (some (.object "Branchmatch$Answer")) := ⟨lcX6_answerOf, liX6, ⟨by decide +kernel, by decide +kernel⟩, by decide +kernel⟩
set_option maxRecDepth 100000 in
theorem lmX6_answerOf : Cond.instanceMethod yX6_answerOf ∈ WT := WT_of (tbw_4 (List.mem_of_getElem? (i := 61) rfl)) rfl
set_option maxRecDepth 100000 in
theorem lcX6_needName : Cond.code yX6_needName cX6_needName 1 none ∈ WT := WT_of (tbw_3 (List.mem_of_getElem? (i := 200) rfl)) rfl
theorem lkX6_needName : LK yX6_needName cX6_needName 1 1 none := ⟨lcX6_needName, liX6, ⟨by decide +kernel, by decide +kernel⟩, by decide +kernel⟩
set_option maxRecDepth 100000 in
theorem lsX6_needName : Cond.static yX6_needName ∈ WT := WT_of (tbw_3 (List.mem_of_getElem? (i := 199) rfl)) rfl
set_option maxRecDepth 100000 in
theorem lcX6_did : Cond.code yX6_did cX6_did 2 (some .int) ∈ WT := WT_of (tbw_3 (List.mem_of_getElem? (i := 206) rfl)) rfl
theorem lkX6_did : LK yX6_did cX6_did 2 1 (some .int) := ⟨lcX6_did, liX6, ⟨by decide +kernel, by decide +kernel⟩, by decide +kernel⟩
set_option maxRecDepth 100000 in
theorem lmX6_did : Cond.instanceMethod yX6_did ∈ WT := WT_of (tbw_3 (List.mem_of_getElem? (i := 205) rfl)) rfl
set_option maxRecDepth 100000 in
theorem lcX6_refuse : Cond.code yX6_refuse cX6_refuse 1 (some .int) ∈ WT := WT_of (tbw_3 (List.mem_of_getElem? (i := 226) rfl)) rfl
theorem lkX6_refuse : LK yX6_refuse cX6_refuse 1 0 (some .int) := ⟨lcX6_refuse, liX6, ⟨by decide +kernel, by decide +kernel⟩, by decide +kernel⟩
set_option maxRecDepth 100000 in
theorem lmX6_refuse : Cond.instanceMethod yX6_refuse ∈ WT := WT_of (tbw_3 (List.mem_of_getElem? (i := 225) rfl)) rfl
set_option maxRecDepth 100000 in
theorem lcX6_putSpareInto : Cond.code yX6_putSpareInto cX6_putSpareInto 2 (some .int) ∈ WT := WT_of (tbw_3 (List.mem_of_getElem? (i := 221) rfl)) rfl
theorem lkX6_putSpareInto : LK yX6_putSpareInto cX6_putSpareInto 2 1 (some .int) := ⟨lcX6_putSpareInto, liX6, ⟨by decide +kernel, by decide +kernel⟩, by decide +kernel⟩
set_option maxRecDepth 100000 in
theorem lmX6_putSpareInto : Cond.instanceMethod yX6_putSpareInto ∈ WT := WT_of (tbw_3 (List.mem_of_getElem? (i := 220) rfl)) rfl
set_option maxRecDepth 100000 in
theorem lcX6_putSpareAnswerInto : Cond.code yX6_putSpareAnswerInto cX6_putSpareAnswerInto 2 (some .int) ∈ WT := WT_of (tbw_4 (List.mem_of_getElem? (i := 115) rfl)) rfl
theorem lkX6_putSpareAnswerInto : LK yX6_putSpareAnswerInto cX6_putSpareAnswerInto 2 1 (some .int) := ⟨lcX6_putSpareAnswerInto, liX6, ⟨by decide +kernel, by decide +kernel⟩, by decide +kernel⟩
set_option maxRecDepth 100000 in
theorem lmX6_putSpareAnswerInto : Cond.instanceMethod yX6_putSpareAnswerInto ∈ WT := WT_of (tbw_4 (List.mem_of_getElem? (i := 114) rfl)) rfl
set_option maxRecDepth 100000 in
theorem lcX6_isMadeAlikeBy : Cond.code yX6_isMadeAlikeBy cX6_isMadeAlikeBy 4 (some .boolean) ∈ WT := WT_of (tbw_2 (List.mem_of_getElem? (i := 168) rfl)) rfl
theorem lkX6_isMadeAlikeBy : LK yX6_isMadeAlikeBy cX6_isMadeAlikeBy 4 3 (some .boolean) := ⟨lcX6_isMadeAlikeBy, liX6, ⟨by decide +kernel, by decide +kernel⟩, by decide +kernel⟩
set_option maxRecDepth 100000 in
theorem lmX6_isMadeAlikeBy : Cond.instanceMethod yX6_isMadeAlikeBy ∈ WT := WT_of (tbw_2 (List.mem_of_getElem? (i := 167) rfl)) rfl
set_option maxRecDepth 100000 in
theorem lcX6_sizesTogether : Cond.code yX6_sizesTogether cX6_sizesTogether 6 (some .int) ∈ WT := WT_of (tbw_3 (List.mem_of_getElem? (i := 164) rfl)) rfl
theorem lkX6_sizesTogether : LK yX6_sizesTogether cX6_sizesTogether 6 0 (some .int) := ⟨lcX6_sizesTogether, liX6, ⟨by decide +kernel, by decide +kernel⟩, by decide +kernel⟩
set_option maxRecDepth 100000 in
theorem lmX6_sizesTogether : Cond.instanceMethod yX6_sizesTogether ∈ WT := WT_of (tbw_3 (List.mem_of_getElem? (i := 163) rfl)) rfl
set_option maxRecDepth 100000 in
theorem lcX6_movesTogether : Cond.code yX6_movesTogether cX6_movesTogether 6 (some .int) ∈ WT := WT_of (tbw_3 (List.mem_of_getElem? (i := 168) rfl)) rfl
theorem lkX6_movesTogether : LK yX6_movesTogether cX6_movesTogether 6 0 (some .int) := ⟨lcX6_movesTogether, liX6, ⟨by decide +kernel, by decide +kernel⟩, by decide +kernel⟩
set_option maxRecDepth 100000 in
theorem lmX6_movesTogether : Cond.instanceMethod yX6_movesTogether ∈ WT := WT_of (tbw_3 (List.mem_of_getElem? (i := 167) rfl)) rfl
set_option maxRecDepth 100000 in
theorem lcX6_areAnswersSound : Cond.code yX6_areAnswersSound cX6_areAnswersSound 3 (some .boolean) ∈ WT := WT_of (tbw_2 (List.mem_of_getElem? (i := 148) rfl)) rfl
theorem lkX6_areAnswersSound : LK yX6_areAnswersSound cX6_areAnswersSound 3 2 (some .boolean) := ⟨lcX6_areAnswersSound, liX6, ⟨by decide +kernel, by decide +kernel⟩, by decide +kernel⟩
set_option maxRecDepth 100000 in
theorem lmX6_areAnswersSound : Cond.instanceMethod yX6_areAnswersSound ∈ WT := WT_of (tbw_2 (List.mem_of_getElem? (i := 147) rfl)) rfl
set_option maxRecDepth 100000 in
theorem lcX6_isCommonSound : Cond.code yX6_isCommonSound cX6_isCommonSound 3 (some .boolean) ∈ WT := WT_of (tbw_2 (List.mem_of_getElem? (i := 176) rfl)) rfl
theorem lkX6_isCommonSound : LK yX6_isCommonSound cX6_isCommonSound 3 2 (some .boolean) := ⟨lcX6_isCommonSound, liX6, ⟨by decide +kernel, by decide +kernel⟩, by decide +kernel⟩
set_option maxRecDepth 100000 in
theorem lmX6_isCommonSound : Cond.instanceMethod yX6_isCommonSound ∈ WT := WT_of (tbw_2 (List.mem_of_getElem? (i := 175) rfl)) rfl
set_option maxRecDepth 100000 in
theorem lcX6_isPlainSound : Cond.code yX6_isPlainSound cX6_isPlainSound 2 (some .boolean) ∈ WT := WT_of (tbw_2 (List.mem_of_getElem? (i := 214) rfl)) rfl
theorem lkX6_isPlainSound : LK yX6_isPlainSound cX6_isPlainSound 2 1 (some .boolean) := ⟨lcX6_isPlainSound, liX6, ⟨by decide +kernel, by decide +kernel⟩, by decide +kernel⟩
set_option maxRecDepth 100000 in
theorem lmX6_isPlainSound : Cond.instanceMethod yX6_isPlainSound ∈ WT := WT_of (tbw_2 (List.mem_of_getElem? (i := 213) rfl)) rfl
set_option maxRecDepth 100000 in
theorem lcX6_areSizesSound : Cond.code yX6_areSizesSound cX6_areSizesSound 5 (some .boolean) ∈ WT := WT_of (tbw_2 (List.mem_of_getElem? (i := 230) rfl)) rfl
theorem lkX6_areSizesSound : LK yX6_areSizesSound cX6_areSizesSound 5 0 (some .boolean) := ⟨lcX6_areSizesSound, liX6, ⟨by decide +kernel, by decide +kernel⟩, by decide +kernel⟩
set_option maxRecDepth 100000 in
theorem lmX6_areSizesSound : Cond.instanceMethod yX6_areSizesSound ∈ WT := WT_of (tbw_2 (List.mem_of_getElem? (i := 229) rfl)) rfl
set_option maxRecDepth 100000 in
theorem lcX6_withLetters : Cond.code yX6_withLetters cX6_withLetters 6 (some .long) ∈ WT := WT_of (tbw_3 (List.mem_of_getElem? (i := 104) rfl)) rfl
theorem lkX6_withLetters : LK yX6_withLetters cX6_withLetters 6 2 (some .long) := ⟨lcX6_withLetters, liX6, ⟨by decide +kernel, by decide +kernel⟩, by decide +kernel⟩
set_option maxRecDepth 100000 in
theorem lsX6_withLetters : Cond.static yX6_withLetters ∈ WT := WT_of (tbw_3 (List.mem_of_getElem? (i := 103) rfl)) rfl
set_option maxRecDepth 100000 in
theorem lcX6_withAnswer : Cond.code yX6_withAnswer cX6_withAnswer 6 (some .long) ∈ WT := WT_of (tbw_3 (List.mem_of_getElem? (i := 108) rfl)) rfl
theorem lkX6_withAnswer : LK yX6_withAnswer cX6_withAnswer 6 2 (some .long) := ⟨lcX6_withAnswer, liX6, ⟨by decide +kernel, by decide +kernel⟩, by decide +kernel⟩
set_option maxRecDepth 100000 in
theorem lsX6_withAnswer : Cond.static yX6_withAnswer ∈ WT := WT_of (tbw_3 (List.mem_of_getElem? (i := 107) rfl)) rfl
set_option maxRecDepth 100000 in
theorem lcX6_isName : Cond.code yX6_isName cX6_isName 1 (some .boolean) ∈ WT := WT_of (tbw_2 (List.mem_of_getElem? (i := 24) rfl)) rfl
theorem lkX6_isName : LK yX6_isName cX6_isName 1 1 (some .boolean) := ⟨lcX6_isName, liX6, ⟨by decide +kernel, by decide +kernel⟩, by decide +kernel⟩
set_option maxRecDepth 100000 in
theorem lsX6_isName : Cond.static yX6_isName ∈ WT := WT_of (tbw_2 (List.mem_of_getElem? (i := 23) rfl)) rfl
set_option maxRecDepth 100000 in
theorem lcX6_isHead : Cond.code yX6_isHead cX6_isHead 1 (some .boolean) ∈ WT := WT_of (tbw_2 (List.mem_of_getElem? (i := 78) rfl)) rfl
theorem lkX6_isHead : LK yX6_isHead cX6_isHead 1 1 (some .boolean) := ⟨lcX6_isHead, liX6, ⟨by decide +kernel, by decide +kernel⟩, by decide +kernel⟩
set_option maxRecDepth 100000 in
theorem lsX6_isHead : Cond.static yX6_isHead ∈ WT := WT_of (tbw_2 (List.mem_of_getElem? (i := 77) rfl)) rfl
set_option maxRecDepth 100000 in
theorem lcX6_partsOf : Cond.code yX6_partsOf cX6_partsOf 1 (some .int) ∈ WT := WT_of (tbw_2 (List.mem_of_getElem? (i := 47) rfl)) rfl
theorem lkX6_partsOf : LK yX6_partsOf cX6_partsOf 1 1 (some .int) := ⟨lcX6_partsOf, liX6, ⟨by decide +kernel, by decide +kernel⟩, by decide +kernel⟩
set_option maxRecDepth 100000 in
theorem lsX6_partsOf : Cond.static yX6_partsOf ∈ WT := WT_of (tbw_2 (List.mem_of_getElem? (i := 46) rfl)) rfl
set_option maxRecDepth 100000 in
theorem lcX6_signOf : Cond.code yX6_signOf cX6_signOf 2 (some .char) ∈ WT := WT_of (tbw_4 (List.mem_of_getElem? (i := 174) rfl)) rfl
theorem lkX6_signOf : LK yX6_signOf cX6_signOf 2 1 (some .char) := ⟨lcX6_signOf, liX6, ⟨by decide +kernel, by decide +kernel⟩, by decide +kernel⟩
set_option maxRecDepth 100000 in
theorem lsX6_signOf : Cond.static yX6_signOf ∈ WT := WT_of (tbw_4 (List.mem_of_getElem? (i := 173) rfl)) rfl
set_option maxRecDepth 100000 in
theorem lcX6_written : Cond.code yX6_written cX6_written 6 (some (.object "java/lang/String")) ∈ WT := WT_of (tbw_4 (List.mem_of_getElem? (i := 140) rfl)) rfl
theorem lkX6_written : LK yX6_written cX6_written 6 1 (some (.object "java/lang/String")) := ⟨lcX6_written, liX6, ⟨by decide +kernel, by decide +kernel⟩, by decide +kernel⟩
set_option maxRecDepth 100000 in
theorem lsX6_written : Cond.static yX6_written ∈ WT := WT_of (tbw_4 (List.mem_of_getElem? (i := 139) rfl)) rfl
set_option maxRecDepth 100000 in
theorem mlX0_17 : Cond.methodLink RX0 17 yX5_init ∈ WT := WT_of (tbw_1 (List.mem_of_getElem? (i := 66) rfl)) rfl
set_option maxRecDepth 100000 in
theorem mlX0_20 : Cond.methodLink RX0 20 yX5_becomeName ∈ WT := WT_of (tbw_1 (List.mem_of_getElem? (i := 67) rfl)) rfl
set_option maxRecDepth 100000 in
theorem mlX0_81 : Cond.methodLink RX0 81 yX5_endOf ∈ WT := WT_of (tbw_2 (List.mem_of_getElem? (i := 121) rfl)) rfl
set_option maxRecDepth 100000 in
theorem mlX0_95 : Cond.methodLink RX0 95 yX5_namesIn ∈ WT := WT_of (tbw_2 (List.mem_of_getElem? (i := 122) rfl)) rfl
set_option maxRecDepth 100000 in
theorem mlX0_57 : Cond.methodLink RX0 57 yX5_empty ∈ WT := WT_of (tbw_2 (List.mem_of_getElem? (i := 123) rfl)) rfl
set_option maxRecDepth 100000 in
theorem mlX0_60 : Cond.methodLink RX0 60 yX0_addUsed ∈ WT := WT_of (tbw_2 (List.mem_of_getElem? (i := 124) rfl)) rfl
set_option maxRecDepth 100000 in
theorem mlX0_38 : Cond.methodLink RX0 38 yX5_letterAt ∈ WT := WT_of (tbw_2 (List.mem_of_getElem? (i := 128) rfl)) rfl
set_option maxRecDepth 100000 in
theorem mlX0_64 : Cond.methodLink RX0 64 yX5_addTerm ∈ WT := WT_of (tbw_2 (List.mem_of_getElem? (i := 130) rfl)) rfl
set_option maxRecDepth 100000 in
theorem mlX0_67 : Cond.methodLink RX0 67 yX5_add ∈ WT := WT_of (tbw_2 (List.mem_of_getElem? (i := 131) rfl)) rfl
set_option maxRecDepth 100000 in
theorem mlX0_70 : Cond.methodLink RX0 70 yX5_isTooLong ∈ WT := WT_of (tbw_2 (List.mem_of_getElem? (i := 153) rfl)) rfl
set_option maxRecDepth 100000 in
theorem mlX0_74 : Cond.methodLink RX0 74 yX5_isLike ∈ WT := WT_of (tbw_2 (List.mem_of_getElem? (i := 161) rfl)) rfl
set_option maxRecDepth 100000 in
theorem mlX0_34 : Cond.methodLink RX0 34 yX5_length ∈ WT := WT_of (tbw_2 (List.mem_of_getElem? (i := 201) rfl)) rfl
set_option maxRecDepth 100000 in
theorem mlX0_84 : Cond.methodLink RX0 84 yX5_addRow ∈ WT := WT_of (tbw_2 (List.mem_of_getElem? (i := 202) rfl)) rfl
set_option maxRecDepth 100000 in
theorem mlX0_88 : Cond.methodLink RX0 88 yX5_isLikeAt ∈ WT := WT_of (tbw_2 (List.mem_of_getElem? (i := 206) rfl)) rfl
set_option maxRecDepth 100000 in
theorem mlX0_92 : Cond.methodLink RX0 92 yX0_tellUntoldOfThemselves ∈ WT := WT_of (tbw_2 (List.mem_of_getElem? (i := 207) rfl)) rfl
set_option maxRecDepth 100000 in
theorem mlX0_42 : Cond.methodLink RX0 42 yX0_moves ∈ WT := WT_of (tbw_3 (List.mem_of_getElem? (i := 113) rfl)) rfl
set_option maxRecDepth 100000 in
theorem mlX0_45 : Cond.methodLink RX0 45 yX0_movedNames ∈ WT := WT_of (tbw_3 (List.mem_of_getElem? (i := 173) rfl)) rfl
set_option maxRecDepth 100000 in
theorem mlX0_48 : Cond.methodLink RX0 48 yJ6_bitCount_0f7a4 ∈ WT := WT_of (tbw_3 (List.mem_of_getElem? (i := 174) rfl)) rfl
set_option maxRecDepth 100000 in
theorem mlX0_53 : Cond.methodLink RX0 53 yX5_becomeAs ∈ WT := WT_of (tbw_4 (List.mem_of_getElem? (i := 100) rfl)) rfl
set_option maxRecDepth 100000 in
theorem mlX0_78 : Cond.methodLink RX0 78 yX5_allNames ∈ WT := WT_of (tbw_6 (List.mem_of_getElem? (i := 49) rfl)) rfl
set_option maxRecDepth 100000 in
theorem mlX1_13 : Cond.methodLink RX1 13 yX5_init ∈ WT := WT_of (tbw_1 (List.mem_of_getElem? (i := 130) rfl)) rfl
set_option maxRecDepth 100000 in
theorem mlX1_37 : Cond.methodLink RX1 37 yX5_becomeBoth ∈ WT := WT_of (tbw_2 (List.mem_of_getElem? (i := 66) rfl)) rfl
set_option maxRecDepth 100000 in
theorem mlX1_41 : Cond.methodLink RX1 41 yX5_firstLike ∈ WT := WT_of (tbw_2 (List.mem_of_getElem? (i := 67) rfl)) rfl
set_option maxRecDepth 100000 in
theorem mlX1_45 : Cond.methodLink RX1 45 yX5_letterAt ∈ WT := WT_of (tbw_2 (List.mem_of_getElem? (i := 75) rfl)) rfl
set_option maxRecDepth 100000 in
theorem mlX1_52 : Cond.methodLink RX1 52 yX2_empty ∈ WT := WT_of (tbw_2 (List.mem_of_getElem? (i := 79) rfl)) rfl
set_option maxRecDepth 100000 in
theorem mlX1_55 : Cond.methodLink RX1 55 yX5_length ∈ WT := WT_of (tbw_2 (List.mem_of_getElem? (i := 80) rfl)) rfl
set_option maxRecDepth 100000 in
theorem mlX1_59 : Cond.methodLink RX1 59 yX2_add ∈ WT := WT_of (tbw_2 (List.mem_of_getElem? (i := 81) rfl)) rfl
set_option maxRecDepth 100000 in
theorem mlX1_64 : Cond.methodLink RX1 64 yX2_length ∈ WT := WT_of (tbw_2 (List.mem_of_getElem? (i := 83) rfl)) rfl
set_option maxRecDepth 100000 in
theorem mlX1_65 : Cond.methodLink RX1 65 yX2_oneAt ∈ WT := WT_of (tbw_2 (List.mem_of_getElem? (i := 84) rfl)) rfl
set_option maxRecDepth 100000 in
theorem mlX1_68 : Cond.methodLink RX1 68 yX1_classAt ∈ WT := WT_of (tbw_2 (List.mem_of_getElem? (i := 85) rfl)) rfl
set_option maxRecDepth 100000 in
theorem mlX1_71 : Cond.methodLink RX1 71 yX2_otherAt ∈ WT := WT_of (tbw_2 (List.mem_of_getElem? (i := 89) rfl)) rfl
set_option maxRecDepth 100000 in
theorem mlX1_74 : Cond.methodLink RX1 74 yX2_dropNext ∈ WT := WT_of (tbw_2 (List.mem_of_getElem? (i := 90) rfl)) rfl
set_option maxRecDepth 100000 in
theorem mlX1_77 : Cond.methodLink RX1 77 yX1_join ∈ WT := WT_of (tbw_2 (List.mem_of_getElem? (i := 91) rfl)) rfl
set_option maxRecDepth 100000 in
theorem mlX1_94 : Cond.methodLink RX1 94 yX1_headAt ∈ WT := WT_of (tbw_2 (List.mem_of_getElem? (i := 95) rfl)) rfl
set_option maxRecDepth 100000 in
theorem mlX1_97 : Cond.methodLink RX1 97 yX2_addParts ∈ WT := WT_of (tbw_2 (List.mem_of_getElem? (i := 99) rfl)) rfl
set_option maxRecDepth 100000 in
theorem mlX1_81 : Cond.methodLink RX1 81 yX1_isNoneInItself ∈ WT := WT_of (tbw_2 (List.mem_of_getElem? (i := 100) rfl)) rfl
set_option maxRecDepth 100000 in
theorem mlX1_101 : Cond.methodLink RX1 101 yJ9_min_7cf53 ∈ WT := WT_of (tbw_2 (List.mem_of_getElem? (i := 104) rfl)) rfl
set_option maxRecDepth 100000 in
theorem mlX1_107 : Cond.methodLink RX1 107 yX1_isClear ∈ WT := WT_of (tbw_2 (List.mem_of_getElem? (i := 107) rfl)) rfl
set_option maxRecDepth 100000 in
theorem mlX1_114 : Cond.methodLink RX1 114 yX5_endOf ∈ WT := WT_of (tbw_2 (List.mem_of_getElem? (i := 112) rfl)) rfl
set_option maxRecDepth 100000 in
theorem mlX1_85 : Cond.methodLink RX1 85 yX1_placeFor ∈ WT := WT_of (tbw_2 (List.mem_of_getElem? (i := 136) rfl)) rfl
set_option maxRecDepth 100000 in
theorem mlX1_117 : Cond.methodLink RX1 117 yX5_firstPlaceOf ∈ WT := WT_of (tbw_2 (List.mem_of_getElem? (i := 140) rfl)) rfl
set_option maxRecDepth 100000 in
theorem mlX1_88 : Cond.methodLink RX1 88 yX0_becomeWholeOf ∈ WT := WT_of (tbw_2 (List.mem_of_getElem? (i := 144) rfl)) rfl
set_option maxRecDepth 100000 in
theorem mlX2_22 : Cond.methodLink RX2 22 yX5_letterAt ∈ WT := WT_of (tbw_2 (List.mem_of_getElem? (i := 59) rfl)) rfl
set_option maxRecDepth 100000 in
theorem mlX2_31 : Cond.methodLink RX2 31 yX5_endOf ∈ WT := WT_of (tbw_2 (List.mem_of_getElem? (i := 61) rfl)) rfl
set_option maxRecDepth 100000 in
theorem mlX3_18 : Cond.methodLink RX3 18 yX2_empty ∈ WT := WT_of (tbw_2 (List.mem_of_getElem? (i := 181) rfl)) rfl
set_option maxRecDepth 100000 in
theorem mlX3_21 : Cond.methodLink RX3 21 yX5_empty ∈ WT := WT_of (tbw_2 (List.mem_of_getElem? (i := 182) rfl)) rfl
set_option maxRecDepth 100000 in
theorem mlX3_24 : Cond.methodLink RX3 24 yX5_length ∈ WT := WT_of (tbw_2 (List.mem_of_getElem? (i := 183) rfl)) rfl
set_option maxRecDepth 100000 in
theorem mlX3_28 : Cond.methodLink RX3 28 yX5_letterAt ∈ WT := WT_of (tbw_2 (List.mem_of_getElem? (i := 184) rfl)) rfl
set_option maxRecDepth 100000 in
theorem mlX3_36 : Cond.methodLink RX3 36 yX5_add ∈ WT := WT_of (tbw_2 (List.mem_of_getElem? (i := 186) rfl)) rfl
set_option maxRecDepth 100000 in
theorem mlX3_40 : Cond.methodLink RX3 40 yX3_nameFor ∈ WT := WT_of (tbw_2 (List.mem_of_getElem? (i := 187) rfl)) rfl
set_option maxRecDepth 100000 in
theorem mlX3_47 : Cond.methodLink RX3 47 yX2_length ∈ WT := WT_of (tbw_2 (List.mem_of_getElem? (i := 191) rfl)) rfl
set_option maxRecDepth 100000 in
theorem mlX3_48 : Cond.methodLink RX3 48 yX2_oneAt ∈ WT := WT_of (tbw_2 (List.mem_of_getElem? (i := 192) rfl)) rfl
set_option maxRecDepth 100000 in
theorem mlX3_51 : Cond.methodLink RX3 51 yX5_isLikeAt ∈ WT := WT_of (tbw_2 (List.mem_of_getElem? (i := 193) rfl)) rfl
set_option maxRecDepth 100000 in
theorem mlX3_55 : Cond.methodLink RX3 55 yX2_otherAt ∈ WT := WT_of (tbw_2 (List.mem_of_getElem? (i := 194) rfl)) rfl
set_option maxRecDepth 100000 in
theorem mlX3_58 : Cond.methodLink RX3 58 yX2_add ∈ WT := WT_of (tbw_2 (List.mem_of_getElem? (i := 195) rfl)) rfl
set_option maxRecDepth 100000 in
theorem mlX3_44 : Cond.methodLink RX3 44 yX5_endOf ∈ WT := WT_of (tbw_2 (List.mem_of_getElem? (i := 196) rfl)) rfl
set_option maxRecDepth 100000 in
theorem mlX4_11 : Cond.methodLink RX4 11 yX5_init ∈ WT := WT_of (tbw_1 (List.mem_of_getElem? (i := 90) rfl)) rfl
set_option maxRecDepth 100000 in
theorem mlX4_31 : Cond.methodLink RX4 31 yX5_becomeBoth ∈ WT := WT_of (tbw_1 (List.mem_of_getElem? (i := 217) rfl)) rfl
set_option maxRecDepth 100000 in
theorem mlX4_35 : Cond.methodLink RX4 35 yJ7_fill_53178 ∈ WT := WT_of (tbw_1 (List.mem_of_getElem? (i := 229) rfl)) rfl
set_option maxRecDepth 100000 in
theorem mlX4_41 : Cond.methodLink RX4 41 yX2_empty ∈ WT := WT_of (tbw_1 (List.mem_of_getElem? (i := 232) rfl)) rfl
set_option maxRecDepth 100000 in
theorem mlX4_44 : Cond.methodLink RX4 44 yX5_length ∈ WT := WT_of (tbw_1 (List.mem_of_getElem? (i := 236) rfl)) rfl
set_option maxRecDepth 100000 in
theorem mlX4_48 : Cond.methodLink RX4 48 yX2_add ∈ WT := WT_of (tbw_2 (List.mem_of_getElem? (i := 0) rfl)) rfl
set_option maxRecDepth 100000 in
theorem mlX4_60 : Cond.methodLink RX4 60 yX2_length ∈ WT := WT_of (tbw_2 (List.mem_of_getElem? (i := 5) rfl)) rfl
set_option maxRecDepth 100000 in
theorem mlX4_61 : Cond.methodLink RX4 61 yX4_takeStep ∈ WT := WT_of (tbw_2 (List.mem_of_getElem? (i := 9) rfl)) rfl
set_option maxRecDepth 100000 in
theorem mlX4_70 : Cond.methodLink RX4 70 yX2_oneAt ∈ WT := WT_of (tbw_2 (List.mem_of_getElem? (i := 13) rfl)) rfl
set_option maxRecDepth 100000 in
theorem mlX4_74 : Cond.methodLink RX4 74 yX4_lookedUp ∈ WT := WT_of (tbw_2 (List.mem_of_getElem? (i := 17) rfl)) rfl
set_option maxRecDepth 100000 in
theorem mlX4_83 : Cond.methodLink RX4 83 yX5_letterAt ∈ WT := WT_of (tbw_2 (List.mem_of_getElem? (i := 21) rfl)) rfl
set_option maxRecDepth 100000 in
theorem mlX4_77 : Cond.methodLink RX4 77 yX2_otherAt ∈ WT := WT_of (tbw_2 (List.mem_of_getElem? (i := 25) rfl)) rfl
set_option maxRecDepth 100000 in
theorem mlX4_80 : Cond.methodLink RX4 80 yX2_dropNext ∈ WT := WT_of (tbw_2 (List.mem_of_getElem? (i := 29) rfl)) rfl
set_option maxRecDepth 100000 in
theorem mlX4_90 : Cond.methodLink RX4 90 yX4_joinNames ∈ WT := WT_of (tbw_2 (List.mem_of_getElem? (i := 33) rfl)) rfl
set_option maxRecDepth 100000 in
theorem mlX4_93 : Cond.methodLink RX4 93 yX4_standFor ∈ WT := WT_of (tbw_2 (List.mem_of_getElem? (i := 37) rfl)) rfl
set_option maxRecDepth 100000 in
theorem mlX4_100 : Cond.methodLink RX4 100 yX5_endOf ∈ WT := WT_of (tbw_2 (List.mem_of_getElem? (i := 41) rfl)) rfl
set_option maxRecDepth 100000 in
theorem mlX4_103 : Cond.methodLink RX4 103 yX5_namesIn ∈ WT := WT_of (tbw_2 (List.mem_of_getElem? (i := 50) rfl)) rfl
set_option maxRecDepth 100000 in
theorem mlX4_96 : Cond.methodLink RX4 96 yX2_addParts ∈ WT := WT_of (tbw_2 (List.mem_of_getElem? (i := 55) rfl)) rfl
set_option maxRecDepth 100000 in
theorem mlX4_64 : Cond.methodLink RX4 64 yX0_becomeWholeOf ∈ WT := WT_of (tbw_2 (List.mem_of_getElem? (i := 117) rfl)) rfl
set_option maxRecDepth 100000 in
theorem mlX5_9 : Cond.methodLink RX5 9 yJ9_max_7cf53 ∈ WT := WT_of (tbw_1 (List.mem_of_getElem? (i := 46) rfl)) rfl
set_option maxRecDepth 100000 in
theorem mlX5_37 : Cond.methodLink RX5 37 yX5_empty ∈ WT := WT_of (tbw_1 (List.mem_of_getElem? (i := 71) rfl)) rfl
set_option maxRecDepth 100000 in
theorem mlX5_33 : Cond.methodLink RX5 33 yX5_add ∈ WT := WT_of (tbw_1 (List.mem_of_getElem? (i := 75) rfl)) rfl
set_option maxRecDepth 100000 in
theorem mlX5_40 : Cond.methodLink RX5 40 yX5_addTerm ∈ WT := WT_of (tbw_1 (List.mem_of_getElem? (i := 221) rfl)) rfl
set_option maxRecDepth 100000 in
theorem mlX5_29 : Cond.methodLink RX5 29 yX5_letterAt ∈ WT := WT_of (tbw_1 (List.mem_of_getElem? (i := 225) rfl)) rfl
set_option maxRecDepth 100000 in
theorem mlX5_68 : Cond.methodLink RX5 68 yX5_isLikeAt ∈ WT := WT_of (tbw_2 (List.mem_of_getElem? (i := 71) rfl)) rfl
set_option maxRecDepth 100000 in
theorem mlX5_48 : Cond.methodLink RX5 48 yX5_firstPlaceOf ∈ WT := WT_of (tbw_2 (List.mem_of_getElem? (i := 219) rfl)) rfl
set_option maxRecDepth 100000 in
theorem mlX5_51 : Cond.methodLink RX5 51 yX5_namesIn ∈ WT := WT_of (tbw_2 (List.mem_of_getElem? (i := 220) rfl)) rfl
set_option maxRecDepth 100000 in
theorem mlX5_54 : Cond.methodLink RX5 54 yJ6_bitCount_0f7a4 ∈ WT := WT_of (tbw_2 (List.mem_of_getElem? (i := 221) rfl)) rfl
set_option maxRecDepth 100000 in
theorem mlX5_72 : Cond.methodLink RX5 72 yX5_firstLike ∈ WT := WT_of (tbw_2 (List.mem_of_getElem? (i := 235) rfl)) rfl
set_option maxRecDepth 100000 in
theorem mlX5_65 : Cond.methodLink RX5 65 yX5_closedBehind ∈ WT := WT_of (tbw_3 (List.mem_of_getElem? (i := 85) rfl)) rfl
set_option maxRecDepth 100000 in
theorem mlX5_62 : Cond.methodLink RX5 62 yX5_endOf ∈ WT := WT_of (tbw_3 (List.mem_of_getElem? (i := 89) rfl)) rfl
set_option maxRecDepth 100000 in
theorem mlX6_21 : Cond.methodLink RX6 21 yX5_init ∈ WT := WT_of (tbw_1 (List.mem_of_getElem? (i := 42) rfl)) rfl
set_option maxRecDepth 100000 in
theorem mlX6_37 : Cond.methodLink RX6 37 yX0_init ∈ WT := WT_of (tbw_1 (List.mem_of_getElem? (i := 61) rfl)) rfl
set_option maxRecDepth 100000 in
theorem mlX6_66 : Cond.methodLink RX6 66 yX5_becomeName ∈ WT := WT_of (tbw_1 (List.mem_of_getElem? (i := 161) rfl)) rfl
set_option maxRecDepth 100000 in
theorem mlX6_185 : Cond.methodLink RX6 185 yX4_makeAlike ∈ WT := WT_of (tbw_1 (List.mem_of_getElem? (i := 213) rfl)) rfl
set_option maxRecDepth 100000 in
theorem mlX6_189 : Cond.methodLink RX6 189 yX1_makeAlike ∈ WT := WT_of (tbw_2 (List.mem_of_getElem? (i := 62) rfl)) rfl
set_option maxRecDepth 100000 in
theorem mlX6_190 : Cond.methodLink RX6 190 yX4_tellInto ∈ WT := WT_of (tbw_2 (List.mem_of_getElem? (i := 113) rfl)) rfl
set_option maxRecDepth 100000 in
theorem mlX6_193 : Cond.methodLink RX6 193 yX1_tellInto ∈ WT := WT_of (tbw_2 (List.mem_of_getElem? (i := 132) rfl)) rfl
set_option maxRecDepth 100000 in
theorem mlX6_257 : Cond.methodLink RX6 257 yX6_areAnswersSound ∈ WT := WT_of (tbw_2 (List.mem_of_getElem? (i := 145) rfl)) rfl
set_option maxRecDepth 100000 in
theorem mlX6_230 : Cond.methodLink RX6 230 yX0_isTooLong ∈ WT := WT_of (tbw_2 (List.mem_of_getElem? (i := 149) rfl)) rfl
set_option maxRecDepth 100000 in
theorem mlX6_233 : Cond.methodLink RX6 233 yX0_firstUnlike ∈ WT := WT_of (tbw_2 (List.mem_of_getElem? (i := 157) rfl)) rfl
set_option maxRecDepth 100000 in
theorem mlX6_222 : Cond.methodLink RX6 222 yX6_isMadeAlikeBy ∈ WT := WT_of (tbw_2 (List.mem_of_getElem? (i := 165) rfl)) rfl
set_option maxRecDepth 100000 in
theorem mlX6_94 : Cond.methodLink RX6 94 yX5_empty ∈ WT := WT_of (tbw_2 (List.mem_of_getElem? (i := 169) rfl)) rfl
set_option maxRecDepth 100000 in
theorem mlX6_76 : Cond.methodLink RX6 76 yX5_length ∈ WT := WT_of (tbw_2 (List.mem_of_getElem? (i := 170) rfl)) rfl
set_option maxRecDepth 100000 in
theorem mlX6_155 : Cond.methodLink RX6 155 yX0_addUsed ∈ WT := WT_of (tbw_2 (List.mem_of_getElem? (i := 171) rfl)) rfl
set_option maxRecDepth 100000 in
theorem mlX6_111 : Cond.methodLink RX6 111 yX5_isLike ∈ WT := WT_of (tbw_2 (List.mem_of_getElem? (i := 172) rfl)) rfl
set_option maxRecDepth 100000 in
theorem mlX6_260 : Cond.methodLink RX6 260 yX6_isCommonSound ∈ WT := WT_of (tbw_2 (List.mem_of_getElem? (i := 173) rfl)) rfl
set_option maxRecDepth 100000 in
theorem mlX6_159 : Cond.methodLink RX6 159 yX3_drawInto ∈ WT := WT_of (tbw_2 (List.mem_of_getElem? (i := 177) rfl)) rfl
set_option maxRecDepth 100000 in
theorem mlX6_194 : Cond.methodLink RX6 194 yX0_becomeMatch ∈ WT := WT_of (tbw_2 (List.mem_of_getElem? (i := 197) rfl)) rfl
set_option maxRecDepth 100000 in
theorem mlX6_263 : Cond.methodLink RX6 263 yX6_isPlainSound ∈ WT := WT_of (tbw_2 (List.mem_of_getElem? (i := 211) rfl)) rfl
set_option maxRecDepth 100000 in
theorem mlX6_148 : Cond.methodLink RX6 148 yX5_becomePlainOf ∈ WT := WT_of (tbw_2 (List.mem_of_getElem? (i := 215) rfl)) rfl
set_option maxRecDepth 100000 in
theorem mlX6_266 : Cond.methodLink RX6 266 yX6_areSizesSound ∈ WT := WT_of (tbw_2 (List.mem_of_getElem? (i := 227) rfl)) rfl
set_option maxRecDepth 100000 in
theorem mlX6_204 : Cond.methodLink RX6 204 yX5_unlikePlaces ∈ WT := WT_of (tbw_2 (List.mem_of_getElem? (i := 231) rfl)) rfl
set_option maxRecDepth 100000 in
theorem mlX6_273 : Cond.methodLink RX6 273 yX6_size ∈ WT := WT_of (tbw_3 (List.mem_of_getElem? (i := 2) rfl)) rfl
set_option maxRecDepth 100000 in
theorem mlX6_69 : Cond.methodLink RX6 69 yX6_termOf ∈ WT := WT_of (tbw_3 (List.mem_of_getElem? (i := 6) rfl)) rfl
set_option maxRecDepth 100000 in
theorem mlX6_276 : Cond.methodLink RX6 276 yX6_depth ∈ WT := WT_of (tbw_3 (List.mem_of_getElem? (i := 77) rfl)) rfl
set_option maxRecDepth 100000 in
theorem mlX6_201 : Cond.methodLink RX6 201 yX5_levels ∈ WT := WT_of (tbw_3 (List.mem_of_getElem? (i := 81) rfl)) rfl
set_option maxRecDepth 100000 in
theorem mlX6_279 : Cond.methodLink RX6 279 yX6_shared ∈ WT := WT_of (tbw_3 (List.mem_of_getElem? (i := 90) rfl)) rfl
set_option maxRecDepth 100000 in
theorem mlX6_282 : Cond.methodLink RX6 282 yX6_names ∈ WT := WT_of (tbw_3 (List.mem_of_getElem? (i := 94) rfl)) rfl
set_option maxRecDepth 100000 in
theorem mlX6_140 : Cond.methodLink RX6 140 yX5_allNames ∈ WT := WT_of (tbw_3 (List.mem_of_getElem? (i := 98) rfl)) rfl
set_option maxRecDepth 100000 in
theorem mlX6_285 : Cond.methodLink RX6 285 yX6_withLetters ∈ WT := WT_of (tbw_3 (List.mem_of_getElem? (i := 102) rfl)) rfl
set_option maxRecDepth 100000 in
theorem mlX6_132 : Cond.methodLink RX6 132 yX5_letterAt ∈ WT := WT_of (tbw_3 (List.mem_of_getElem? (i := 105) rfl)) rfl
set_option maxRecDepth 100000 in
theorem mlX6_289 : Cond.methodLink RX6 289 yX6_withAnswer ∈ WT := WT_of (tbw_3 (List.mem_of_getElem? (i := 106) rfl)) rfl
set_option maxRecDepth 100000 in
theorem mlX6_219 : Cond.methodLink RX6 219 yX0_movedNames ∈ WT := WT_of (tbw_3 (List.mem_of_getElem? (i := 109) rfl)) rfl
set_option maxRecDepth 100000 in
theorem mlX6_316 : Cond.methodLink RX6 316 yX0_moves ∈ WT := WT_of (tbw_3 (List.mem_of_getElem? (i := 117) rfl)) rfl
set_option maxRecDepth 100000 in
theorem mlX6_169 : Cond.methodLink RX6 169 yX0_of ∈ WT := WT_of (tbw_3 (List.mem_of_getElem? (i := 118) rfl)) rfl
set_option maxRecDepth 100000 in
theorem mlX6_293 : Cond.methodLink RX6 293 yX6_steps ∈ WT := WT_of (tbw_3 (List.mem_of_getElem? (i := 138) rfl)) rfl
set_option maxRecDepth 100000 in
theorem mlX6_213 : Cond.methodLink RX6 213 yX4_stepsTaken ∈ WT := WT_of (tbw_3 (List.mem_of_getElem? (i := 142) rfl)) rfl
set_option maxRecDepth 100000 in
theorem mlX6_297 : Cond.methodLink RX6 297 yX6_why ∈ WT := WT_of (tbw_3 (List.mem_of_getElem? (i := 146) rfl)) rfl
set_option maxRecDepth 100000 in
theorem mlX6_216 : Cond.methodLink RX6 216 yX4_howEnded ∈ WT := WT_of (tbw_3 (List.mem_of_getElem? (i := 150) rfl)) rfl
set_option maxRecDepth 100000 in
theorem mlX6_300 : Cond.methodLink RX6 300 yX6_house ∈ WT := WT_of (tbw_3 (List.mem_of_getElem? (i := 154) rfl)) rfl
set_option maxRecDepth 100000 in
theorem mlX6_251 : Cond.methodLink RX6 251 yX6_sizesTogether ∈ WT := WT_of (tbw_3 (List.mem_of_getElem? (i := 161) rfl)) rfl
set_option maxRecDepth 100000 in
theorem mlX6_254 : Cond.methodLink RX6 254 yX6_movesTogether ∈ WT := WT_of (tbw_3 (List.mem_of_getElem? (i := 165) rfl)) rfl
set_option maxRecDepth 100000 in
theorem mlX6_163 : Cond.methodLink RX6 163 yX0_movedCount ∈ WT := WT_of (tbw_3 (List.mem_of_getElem? (i := 169) rfl)) rfl
set_option maxRecDepth 100000 in
theorem mlX6_303 : Cond.methodLink RX6 303 yX6_isSound ∈ WT := WT_of (tbw_3 (List.mem_of_getElem? (i := 175) rfl)) rfl
set_option maxRecDepth 100000 in
theorem mlX6_73 : Cond.methodLink RX6 73 yX6_needName ∈ WT := WT_of (tbw_3 (List.mem_of_getElem? (i := 198) rfl)) rfl
set_option maxRecDepth 100000 in
theorem mlX6_137 : Cond.methodLink RX6 137 yX6_isName ∈ WT := WT_of (tbw_3 (List.mem_of_getElem? (i := 201) rfl)) rfl
set_option maxRecDepth 100000 in
theorem mlX6_80 : Cond.methodLink RX6 80 yX6_did ∈ WT := WT_of (tbw_3 (List.mem_of_getElem? (i := 203) rfl)) rfl
set_option maxRecDepth 100000 in
theorem mlX6_91 : Cond.methodLink RX6 91 yX6_partsOf ∈ WT := WT_of (tbw_3 (List.mem_of_getElem? (i := 215) rfl)) rfl
set_option maxRecDepth 100000 in
theorem mlX6_97 : Cond.methodLink RX6 97 yX5_add ∈ WT := WT_of (tbw_3 (List.mem_of_getElem? (i := 216) rfl)) rfl
set_option maxRecDepth 100000 in
theorem mlX6_100 : Cond.methodLink RX6 100 yX5_addTerm ∈ WT := WT_of (tbw_3 (List.mem_of_getElem? (i := 217) rfl)) rfl
set_option maxRecDepth 100000 in
theorem mlX6_104 : Cond.methodLink RX6 104 yX6_putSpareInto ∈ WT := WT_of (tbw_3 (List.mem_of_getElem? (i := 218) rfl)) rfl
set_option maxRecDepth 100000 in
theorem mlX6_315 : Cond.methodLink RX6 315 yX5_isTooLong ∈ WT := WT_of (tbw_3 (List.mem_of_getElem? (i := 222) rfl)) rfl
set_option maxRecDepth 100000 in
theorem mlX6_119 : Cond.methodLink RX6 119 yX6_refuse ∈ WT := WT_of (tbw_3 (List.mem_of_getElem? (i := 223) rfl)) rfl
set_option maxRecDepth 100000 in
theorem mlX6_108 : Cond.methodLink RX6 108 yX5_becomeAs ∈ WT := WT_of (tbw_3 (List.mem_of_getElem? (i := 227) rfl)) rfl
set_option maxRecDepth 100000 in
theorem mlX6_115 : Cond.methodLink RX6 115 yX5_hasPlace ∈ WT := WT_of (tbw_4 (List.mem_of_getElem? (i := 12) rfl)) rfl
set_option maxRecDepth 100000 in
theorem mlX6_122 : Cond.methodLink RX6 122 yX5_endOf ∈ WT := WT_of (tbw_4 (List.mem_of_getElem? (i := 16) rfl)) rfl
set_option maxRecDepth 100000 in
theorem mlX6_125 : Cond.methodLink RX6 125 yX5_addRow ∈ WT := WT_of (tbw_4 (List.mem_of_getElem? (i := 17) rfl)) rfl
set_option maxRecDepth 100000 in
theorem mlX6_129 : Cond.methodLink RX6 129 yX5_placesOf ∈ WT := WT_of (tbw_4 (List.mem_of_getElem? (i := 32) rfl)) rfl
set_option maxRecDepth 100000 in
theorem mlX6_143 : Cond.methodLink RX6 143 yJ6_bitCount_0f7a4 ∈ WT := WT_of (tbw_4 (List.mem_of_getElem? (i := 44) rfl)) rfl
set_option maxRecDepth 100000 in
theorem mlX6_151 : Cond.methodLink RX6 151 yX6_answerOf ∈ WT := WT_of (tbw_4 (List.mem_of_getElem? (i := 59) rfl)) rfl
set_option maxRecDepth 100000 in
theorem mlX6_166 : Cond.methodLink RX6 166 yX0_moveNone ∈ WT := WT_of (tbw_4 (List.mem_of_getElem? (i := 78) rfl)) rfl
set_option maxRecDepth 100000 in
theorem mlX6_172 : Cond.methodLink RX6 172 yX0_becomeAs ∈ WT := WT_of (tbw_4 (List.mem_of_getElem? (i := 96) rfl)) rfl
set_option maxRecDepth 100000 in
theorem mlX6_175 : Cond.methodLink RX6 175 yX0_becomeBoth ∈ WT := WT_of (tbw_4 (List.mem_of_getElem? (i := 108) rfl)) rfl
set_option maxRecDepth 100000 in
theorem mlX6_179 : Cond.methodLink RX6 179 yX6_putSpareAnswerInto ∈ WT := WT_of (tbw_4 (List.mem_of_getElem? (i := 112) rfl)) rfl
set_option maxRecDepth 100000 in
theorem mlX6_197 : Cond.methodLink RX6 197 yX6_written ∈ WT := WT_of (tbw_4 (List.mem_of_getElem? (i := 138) rfl)) rfl
set_option maxRecDepth 100000 in
theorem mlX6_334 : Cond.methodLink RX6 334 yJ4_init_da8c8 ∈ WT := WT_of (tbw_4 (List.mem_of_getElem? (i := 143) rfl)) rfl
set_option maxRecDepth 100000 in
theorem mlX6_335 : Cond.methodLink RX6 335 yX6_signOf ∈ WT := WT_of (tbw_4 (List.mem_of_getElem? (i := 172) rfl)) rfl
set_option maxRecDepth 100000 in
theorem mlX6_325 : Cond.methodLink RX6 325 yJ0_length_8abf5 ∈ WT := WT_of (tbw_4 (List.mem_of_getElem? (i := 176) rfl)) rfl
set_option maxRecDepth 100000 in
theorem mlX6_328 : Cond.methodLink RX6 328 yJ0_charAt_5068e ∈ WT := WT_of (tbw_4 (List.mem_of_getElem? (i := 185) rfl)) rfl
set_option maxRecDepth 100000 in
theorem mlX6_338 : Cond.methodLink RX6 338 yJ4_append_cf468 ∈ WT := WT_of (tbw_4 (List.mem_of_getElem? (i := 223) rfl)) rfl
set_option maxRecDepth 100000 in
theorem mlX6_342 : Cond.methodLink RX6 342 yX5_closedBehind ∈ WT := WT_of (tbw_5 (List.mem_of_getElem? (i := 54) rfl)) rfl
set_option maxRecDepth 100000 in
theorem mlX6_345 : Cond.methodLink RX6 345 yJ4_toString_0e30d ∈ WT := WT_of (tbw_5 (List.mem_of_getElem? (i := 55) rfl)) rfl
set_option maxRecDepth 100000 in
theorem mlX6_207 : Cond.methodLink RX6 207 yX5_isLikeAt ∈ WT := WT_of (tbw_5 (List.mem_of_getElem? (i := 226) rfl)) rfl
set_option maxRecDepth 100000 in
theorem mlX6_226 : Cond.methodLink RX6 226 yX0_renamesOnly ∈ WT := WT_of (tbw_6 (List.mem_of_getElem? (i := 45) rfl)) rfl
set_option maxRecDepth 100000 in
theorem mlX6_236 : Cond.methodLink RX6 236 yX0_addMoved ∈ WT := WT_of (tbw_6 (List.mem_of_getElem? (i := 64) rfl)) rfl
theorem lpX0_of : Cond.selects yX0_of.cls yX0_of yX0_of ∈ WT := lvX0_of
theorem lpX0_moves : Cond.selects yX0_moves.cls yX0_moves yX0_moves ∈ WT := lvX0_moves
theorem lpX0_movedNames : Cond.selects yX0_movedNames.cls yX0_movedNames yX0_movedNames ∈ WT := lvX0_movedNames
theorem lpX0_movedCount : Cond.selects yX0_movedCount.cls yX0_movedCount yX0_movedCount ∈ WT := lvX0_movedCount
theorem lpX0_moveNone : Cond.selects yX0_moveNone.cls yX0_moveNone yX0_moveNone ∈ WT := lvX0_moveNone
theorem lpX0_becomeAs : Cond.selects yX0_becomeAs.cls yX0_becomeAs yX0_becomeAs ∈ WT := lvX0_becomeAs
theorem lpX0_becomeBoth : Cond.selects yX0_becomeBoth.cls yX0_becomeBoth yX0_becomeBoth ∈ WT := lvX0_becomeBoth
theorem lpX0_addUsed : Cond.selects yX0_addUsed.cls yX0_addUsed yX0_addUsed ∈ WT := lvX0_addUsed
theorem lpX0_addMoved : Cond.selects yX0_addMoved.cls yX0_addMoved yX0_addMoved ∈ WT := lvX0_addMoved
theorem lpX0_isTooLong : Cond.selects yX0_isTooLong.cls yX0_isTooLong yX0_isTooLong ∈ WT := lvX0_isTooLong
theorem lpX0_firstUnlike : Cond.selects yX0_firstUnlike.cls yX0_firstUnlike yX0_firstUnlike ∈ WT := lvX0_firstUnlike
theorem lpX0_renamesOnly : Cond.selects yX0_renamesOnly.cls yX0_renamesOnly yX0_renamesOnly ∈ WT := lvX0_renamesOnly
theorem lpX0_becomeMatch : Cond.selects yX0_becomeMatch.cls yX0_becomeMatch yX0_becomeMatch ∈ WT := lvX0_becomeMatch
set_option maxRecDepth 100000 in
theorem lpX0_tellUntoldOfThemselves : Cond.selects yX0_tellUntoldOfThemselves.cls yX0_tellUntoldOfThemselves yX0_tellUntoldOfThemselves ∈ WT := WT_of (by decide +kernel) rfl
theorem lpX0_becomeWholeOf : Cond.selects yX0_becomeWholeOf.cls yX0_becomeWholeOf yX0_becomeWholeOf ∈ WT := lvX0_becomeWholeOf
theorem lpX1_makeAlike : Cond.selects yX1_makeAlike.cls yX1_makeAlike yX1_makeAlike ∈ WT := lvX1_makeAlike
theorem lpX1_tellInto : Cond.selects yX1_tellInto.cls yX1_tellInto yX1_tellInto ∈ WT := lvX1_tellInto
set_option maxRecDepth 100000 in
theorem lpX1_classAt : Cond.selects yX1_classAt.cls yX1_classAt yX1_classAt ∈ WT := WT_of (by decide +kernel) rfl
set_option maxRecDepth 100000 in
theorem lpX1_headAt : Cond.selects yX1_headAt.cls yX1_headAt yX1_headAt ∈ WT := WT_of (by decide +kernel) rfl
set_option maxRecDepth 100000 in
theorem lpX1_join : Cond.selects yX1_join.cls yX1_join yX1_join ∈ WT := WT_of (by decide +kernel) rfl
set_option maxRecDepth 100000 in
theorem lpX1_isNoneInItself : Cond.selects yX1_isNoneInItself.cls yX1_isNoneInItself yX1_isNoneInItself ∈ WT := WT_of (by decide +kernel) rfl
set_option maxRecDepth 100000 in
theorem lpX1_isClear : Cond.selects yX1_isClear.cls yX1_isClear yX1_isClear ∈ WT := WT_of (by decide +kernel) rfl
set_option maxRecDepth 100000 in
theorem lpX1_placeFor : Cond.selects yX1_placeFor.cls yX1_placeFor yX1_placeFor ∈ WT := WT_of (by decide +kernel) rfl
theorem lpX2_empty : Cond.selects yX2_empty.cls yX2_empty yX2_empty ∈ WT := lvX2_empty
theorem lpX2_length : Cond.selects yX2_length.cls yX2_length yX2_length ∈ WT := lvX2_length
theorem lpX2_add : Cond.selects yX2_add.cls yX2_add yX2_add ∈ WT := lvX2_add
theorem lpX2_oneAt : Cond.selects yX2_oneAt.cls yX2_oneAt yX2_oneAt ∈ WT := lvX2_oneAt
theorem lpX2_otherAt : Cond.selects yX2_otherAt.cls yX2_otherAt yX2_otherAt ∈ WT := lvX2_otherAt
theorem lpX2_dropNext : Cond.selects yX2_dropNext.cls yX2_dropNext yX2_dropNext ∈ WT := lvX2_dropNext
theorem lpX2_addParts : Cond.selects yX2_addParts.cls yX2_addParts yX2_addParts ∈ WT := lvX2_addParts
theorem lpX3_drawInto : Cond.selects yX3_drawInto.cls yX3_drawInto yX3_drawInto ∈ WT := lvX3_drawInto
set_option maxRecDepth 100000 in
theorem lpX3_nameFor : Cond.selects yX3_nameFor.cls yX3_nameFor yX3_nameFor ∈ WT := WT_of (by decide +kernel) rfl
theorem lpX4_makeAlike : Cond.selects yX4_makeAlike.cls yX4_makeAlike yX4_makeAlike ∈ WT := lvX4_makeAlike
theorem lpX4_tellInto : Cond.selects yX4_tellInto.cls yX4_tellInto yX4_tellInto ∈ WT := lvX4_tellInto
theorem lpX4_stepsTaken : Cond.selects yX4_stepsTaken.cls yX4_stepsTaken yX4_stepsTaken ∈ WT := lvX4_stepsTaken
theorem lpX4_howEnded : Cond.selects yX4_howEnded.cls yX4_howEnded yX4_howEnded ∈ WT := lvX4_howEnded
set_option maxRecDepth 100000 in
theorem lpX4_takeStep : Cond.selects yX4_takeStep.cls yX4_takeStep yX4_takeStep ∈ WT := WT_of (by decide +kernel) rfl
set_option maxRecDepth 100000 in
theorem lpX4_lookedUp : Cond.selects yX4_lookedUp.cls yX4_lookedUp yX4_lookedUp ∈ WT := WT_of (by decide +kernel) rfl
set_option maxRecDepth 100000 in
theorem lpX4_joinNames : Cond.selects yX4_joinNames.cls yX4_joinNames yX4_joinNames ∈ WT := WT_of (by decide +kernel) rfl
set_option maxRecDepth 100000 in
theorem lpX4_standFor : Cond.selects yX4_standFor.cls yX4_standFor yX4_standFor ∈ WT := WT_of (by decide +kernel) rfl
theorem lpX5_empty : Cond.selects yX5_empty.cls yX5_empty yX5_empty ∈ WT := lvX5_empty
theorem lpX5_add : Cond.selects yX5_add.cls yX5_add yX5_add ∈ WT := lvX5_add
theorem lpX5_addRow : Cond.selects yX5_addRow.cls yX5_addRow yX5_addRow ∈ WT := lvX5_addRow
theorem lpX5_addTerm : Cond.selects yX5_addTerm.cls yX5_addTerm yX5_addTerm ∈ WT := lvX5_addTerm
theorem lpX5_becomeName : Cond.selects yX5_becomeName.cls yX5_becomeName yX5_becomeName ∈ WT := lvX5_becomeName
theorem lpX5_becomeAs : Cond.selects yX5_becomeAs.cls yX5_becomeAs yX5_becomeAs ∈ WT := lvX5_becomeAs
theorem lpX5_becomePlainOf : Cond.selects yX5_becomePlainOf.cls yX5_becomePlainOf yX5_becomePlainOf ∈ WT := lvX5_becomePlainOf
theorem lpX5_length : Cond.selects yX5_length.cls yX5_length yX5_length ∈ WT := lvX5_length
theorem lpX5_isTooLong : Cond.selects yX5_isTooLong.cls yX5_isTooLong yX5_isTooLong ∈ WT := lvX5_isTooLong
theorem lpX5_hasPlace : Cond.selects yX5_hasPlace.cls yX5_hasPlace yX5_hasPlace ∈ WT := lvX5_hasPlace
theorem lpX5_letterAt : Cond.selects yX5_letterAt.cls yX5_letterAt yX5_letterAt ∈ WT := lvX5_letterAt
theorem lpX5_endOf : Cond.selects yX5_endOf.cls yX5_endOf yX5_endOf ∈ WT := lvX5_endOf
theorem lpX5_closedBehind : Cond.selects yX5_closedBehind.cls yX5_closedBehind yX5_closedBehind ∈ WT := lvX5_closedBehind
theorem lpX5_levels : Cond.selects yX5_levels.cls yX5_levels yX5_levels ∈ WT := lvX5_levels
theorem lpX5_isLikeAt : Cond.selects yX5_isLikeAt.cls yX5_isLikeAt yX5_isLikeAt ∈ WT := lvX5_isLikeAt
theorem lpX5_isLike : Cond.selects yX5_isLike.cls yX5_isLike yX5_isLike ∈ WT := lvX5_isLike
theorem lpX5_firstLike : Cond.selects yX5_firstLike.cls yX5_firstLike yX5_firstLike ∈ WT := lvX5_firstLike
theorem lpX5_unlikePlaces : Cond.selects yX5_unlikePlaces.cls yX5_unlikePlaces yX5_unlikePlaces ∈ WT := lvX5_unlikePlaces
theorem lpX5_firstPlaceOf : Cond.selects yX5_firstPlaceOf.cls yX5_firstPlaceOf yX5_firstPlaceOf ∈ WT := lvX5_firstPlaceOf
theorem lpX5_placesOf : Cond.selects yX5_placesOf.cls yX5_placesOf yX5_placesOf ∈ WT := lvX5_placesOf
theorem lpX5_namesIn : Cond.selects yX5_namesIn.cls yX5_namesIn yX5_namesIn ∈ WT := lvX5_namesIn
theorem lpX5_allNames : Cond.selects yX5_allNames.cls yX5_allNames yX5_allNames ∈ WT := lvX5_allNames
theorem lpX5_becomeBoth : Cond.selects yX5_becomeBoth.cls yX5_becomeBoth yX5_becomeBoth ∈ WT := lvX5_becomeBoth
theorem lpX6_name : Cond.selects yX6_name.cls yX6_name yX6_name ∈ WT := lvX6_name
theorem lpX6_head : Cond.selects yX6_head.cls yX6_head yX6_head ∈ WT := lvX6_head
theorem lpX6_copy : Cond.selects yX6_copy.cls yX6_copy yX6_copy ∈ WT := lvX6_copy
theorem lpX6_swap : Cond.selects yX6_swap.cls yX6_swap yX6_swap ∈ WT := lvX6_swap
theorem lpX6_part : Cond.selects yX6_part.cls yX6_part yX6_part ∈ WT := lvX6_part
theorem lpX6_graft : Cond.selects yX6_graft.cls yX6_graft yX6_graft ∈ WT := lvX6_graft
theorem lpX6_put : Cond.selects yX6_put.cls yX6_put yX6_put ∈ WT := lvX6_put
theorem lpX6_shift : Cond.selects yX6_shift.cls yX6_shift yX6_shift ∈ WT := lvX6_shift
theorem lpX6_plain : Cond.selects yX6_plain.cls yX6_plain yX6_plain ∈ WT := lvX6_plain
theorem lpX6_use : Cond.selects yX6_use.cls yX6_use yX6_use ∈ WT := lvX6_use
theorem lpX6_common : Cond.selects yX6_common.cls yX6_common yX6_common ∈ WT := lvX6_common
theorem lpX6_forget : Cond.selects yX6_forget.cls yX6_forget yX6_forget ∈ WT := lvX6_forget
theorem lpX6_tell : Cond.selects yX6_tell.cls yX6_tell yX6_tell ∈ WT := lvX6_tell
theorem lpX6_take : Cond.selects yX6_take.cls yX6_take yX6_take ∈ WT := lvX6_take
theorem lpX6_behind : Cond.selects yX6_behind.cls yX6_behind yX6_behind ∈ WT := lvX6_behind
theorem lpX6_alike : Cond.selects yX6_alike.cls yX6_alike yX6_alike ∈ WT := lvX6_alike
theorem lpX6_match : Cond.selects yX6_match.cls yX6_match yX6_match ∈ WT := lvX6_match
theorem lpX6_text : Cond.selects yX6_text.cls yX6_text yX6_text ∈ WT := lvX6_text
theorem lpX6_size : Cond.selects yX6_size.cls yX6_size yX6_size ∈ WT := lvX6_size
theorem lpX6_depth : Cond.selects yX6_depth.cls yX6_depth yX6_depth ∈ WT := lvX6_depth
theorem lpX6_shared : Cond.selects yX6_shared.cls yX6_shared yX6_shared ∈ WT := lvX6_shared
theorem lpX6_letter : Cond.selects yX6_letter.cls yX6_letter yX6_letter ∈ WT := lvX6_letter
theorem lpX6_sizeAt : Cond.selects yX6_sizeAt.cls yX6_sizeAt yX6_sizeAt ∈ WT := lvX6_sizeAt
theorem lpX6_count : Cond.selects yX6_count.cls yX6_count yX6_count ∈ WT := lvX6_count
theorem lpX6_names : Cond.selects yX6_names.cls yX6_names yX6_names ∈ WT := lvX6_names
theorem lpX6_find : Cond.selects yX6_find.cls yX6_find yX6_find ∈ WT := lvX6_find
theorem lpX6_differ : Cond.selects yX6_differ.cls yX6_differ yX6_differ ∈ WT := lvX6_differ
theorem lpX6_is : Cond.selects yX6_is.cls yX6_is yX6_is ∈ WT := lvX6_is
theorem lpX6_can : Cond.selects yX6_can.cls yX6_can yX6_can ∈ WT := lvX6_can
theorem lpX6_steps : Cond.selects yX6_steps.cls yX6_steps yX6_steps ∈ WT := lvX6_steps
theorem lpX6_why : Cond.selects yX6_why.cls yX6_why yX6_why ∈ WT := lvX6_why
theorem lpX6_told : Cond.selects yX6_told.cls yX6_told yX6_told ∈ WT := lvX6_told
theorem lpX6_moved : Cond.selects yX6_moved.cls yX6_moved yX6_moved ∈ WT := lvX6_moved
theorem lpX6_makes : Cond.selects yX6_makes.cls yX6_makes yX6_makes ∈ WT := lvX6_makes
theorem lpX6_isSo : Cond.selects yX6_isSo.cls yX6_isSo yX6_isSo ∈ WT := lvX6_isSo
theorem lpX6_unlike : Cond.selects yX6_unlike.cls yX6_unlike yX6_unlike ∈ WT := lvX6_unlike
theorem lpX6_weight : Cond.selects yX6_weight.cls yX6_weight yX6_weight ∈ WT := lvX6_weight
theorem lpX6_house : Cond.selects yX6_house.cls yX6_house yX6_house ∈ WT := lvX6_house
theorem lpX6_knock : Cond.selects yX6_knock.cls yX6_knock yX6_knock ∈ WT := lvX6_knock
theorem lpX6_isSound : Cond.selects yX6_isSound.cls yX6_isSound yX6_isSound ∈ WT := lvX6_isSound
theorem lpX6_digest : Cond.selects yX6_digest.cls yX6_digest yX6_digest ∈ WT := lvX6_digest
set_option maxRecDepth 100000 in
theorem lpX6_termOf : Cond.selects yX6_termOf.cls yX6_termOf yX6_termOf ∈ WT := WT_of (by decide +kernel) rfl
set_option maxRecDepth 100000 in
theorem lpX6_answerOf : Cond.selects yX6_answerOf.cls yX6_answerOf yX6_answerOf ∈ WT := WT_of (by decide +kernel) rfl
set_option maxRecDepth 100000 in
theorem lpX6_did : Cond.selects yX6_did.cls yX6_did yX6_did ∈ WT := WT_of (by decide +kernel) rfl
set_option maxRecDepth 100000 in
theorem lpX6_refuse : Cond.selects yX6_refuse.cls yX6_refuse yX6_refuse ∈ WT := WT_of (by decide +kernel) rfl
set_option maxRecDepth 100000 in
theorem lpX6_putSpareInto : Cond.selects yX6_putSpareInto.cls yX6_putSpareInto yX6_putSpareInto ∈ WT := WT_of (by decide +kernel) rfl
set_option maxRecDepth 100000 in
theorem lpX6_putSpareAnswerInto : Cond.selects yX6_putSpareAnswerInto.cls yX6_putSpareAnswerInto yX6_putSpareAnswerInto ∈ WT := WT_of (by decide +kernel) rfl
set_option maxRecDepth 100000 in
theorem lpX6_isMadeAlikeBy : Cond.selects yX6_isMadeAlikeBy.cls yX6_isMadeAlikeBy yX6_isMadeAlikeBy ∈ WT := WT_of (by decide +kernel) rfl
set_option maxRecDepth 100000 in
theorem lpX6_sizesTogether : Cond.selects yX6_sizesTogether.cls yX6_sizesTogether yX6_sizesTogether ∈ WT := WT_of (by decide +kernel) rfl
set_option maxRecDepth 100000 in
theorem lpX6_movesTogether : Cond.selects yX6_movesTogether.cls yX6_movesTogether yX6_movesTogether ∈ WT := WT_of (by decide +kernel) rfl
set_option maxRecDepth 100000 in
theorem lpX6_areAnswersSound : Cond.selects yX6_areAnswersSound.cls yX6_areAnswersSound yX6_areAnswersSound ∈ WT := WT_of (by decide +kernel) rfl
set_option maxRecDepth 100000 in
theorem lpX6_isCommonSound : Cond.selects yX6_isCommonSound.cls yX6_isCommonSound yX6_isCommonSound ∈ WT := WT_of (by decide +kernel) rfl
set_option maxRecDepth 100000 in
theorem lpX6_isPlainSound : Cond.selects yX6_isPlainSound.cls yX6_isPlainSound yX6_isPlainSound ∈ WT := WT_of (by decide +kernel) rfl
set_option maxRecDepth 100000 in
theorem lpX6_areSizesSound : Cond.selects yX6_areSizesSound.cls yX6_areSizesSound yX6_areSizesSound ∈ WT := WT_of (by decide +kernel) rfl
end U82linkC
section U83fldC
/-! words of the class: nest, fields -/
set_option maxRecDepth 100000 in
theorem mnX6_47 : Cond.methodLinkNest RX6 47 yX4_init "Branchmatch" ∈ lw_tbl := tbw_1 (List.mem_of_getElem? (i := 85) rfl)
set_option maxRecDepth 100000 in
theorem mnX4_26 : Cond.methodLinkNest RX4 26 yX2_init "Branchmatch" ∈ lw_tbl := tbw_1 (List.mem_of_getElem? (i := 93) rfl)
set_option maxRecDepth 100000 in
theorem mnX6_54 : Cond.methodLinkNest RX6 54 yX1_init "Branchmatch" ∈ lw_tbl := tbw_1 (List.mem_of_getElem? (i := 125) rfl)
set_option maxRecDepth 100000 in
theorem mnX1_32 : Cond.methodLinkNest RX1 32 yX2_init "Branchmatch" ∈ lw_tbl := tbw_1 (List.mem_of_getElem? (i := 132) rfl)
set_option maxRecDepth 100000 in
theorem mnX6_61 : Cond.methodLinkNest RX6 61 yX3_init "Branchmatch" ∈ lw_tbl := tbw_1 (List.mem_of_getElem? (i := 151) rfl)
set_option maxRecDepth 100000 in
theorem mnX3_11 : Cond.methodLinkNest RX3 11 yX2_init "Branchmatch" ∈ lw_tbl := tbw_1 (List.mem_of_getElem? (i := 156) rfl)
set_option maxRecDepth 100000 in
theorem mnX4_86 : Cond.methodLinkNest RX4 86 yX6_isName "Branchmatch" ∈ lw_tbl := tbw_2 (List.mem_of_getElem? (i := 22) rfl)
set_option maxRecDepth 100000 in
theorem mnX5_59 : Cond.methodLinkNest RX5 59 yX6_partsOf "Branchmatch" ∈ lw_tbl := tbw_2 (List.mem_of_getElem? (i := 45) rfl)
set_option maxRecDepth 100000 in
theorem mnX5_44 : Cond.methodLinkNest RX5 44 yX6_isName "Branchmatch" ∈ lw_tbl := tbw_2 (List.mem_of_getElem? (i := 54) rfl)
set_option maxRecDepth 100000 in
theorem mnX2_28 : Cond.methodLinkNest RX2 28 yX6_partsOf "Branchmatch" ∈ lw_tbl := tbw_2 (List.mem_of_getElem? (i := 60) rfl)
set_option maxRecDepth 100000 in
theorem mnX1_48 : Cond.methodLinkNest RX1 48 yX6_isHead "Branchmatch" ∈ lw_tbl := tbw_2 (List.mem_of_getElem? (i := 76) rfl)
set_option maxRecDepth 100000 in
theorem mnX1_111 : Cond.methodLinkNest RX1 111 yX6_partsOf "Branchmatch" ∈ lw_tbl := tbw_2 (List.mem_of_getElem? (i := 111) rfl)
set_option maxRecDepth 100000 in
theorem mnX0_23 : Cond.methodLinkNest RX0 23 yX6_isName "Branchmatch" ∈ lw_tbl := tbw_2 (List.mem_of_getElem? (i := 129) rfl)
set_option maxRecDepth 100000 in
theorem mnX3_32 : Cond.methodLinkNest RX3 32 yX6_isHead "Branchmatch" ∈ lw_tbl := tbw_2 (List.mem_of_getElem? (i := 185) rfl)
set_option maxRecDepth 100000 in
theorem cwX0 : ∀ w ∈ u_ws RX0 TX0 1, w ∈ WT := fun w h => WT_of ((show ∀ w ∈ u_ws RX0 TX0 1, w ∈ lw_tbl by decide +kernel) w h) ((show ∀ w ∈ u_ws RX0 TX0 1, goodWord w = true by decide +kernel) w h)
theorem ftX0_0 : FT 2 0 (.array (.object "Branchmatch$Term")) true := ⟨RX0, TX0, 1, rfl, by decide +kernel, rfl⟩
set_option maxRecDepth 100000 in
theorem cwX1 : ∀ w ∈ u_ws RX1 TX1 5, w ∈ WT := fun w h => WT_of ((show ∀ w ∈ u_ws RX1 TX1 5, w ∈ lw_tbl by decide +kernel) w h) ((show ∀ w ∈ u_ws RX1 TX1 5, goodWord w = true by decide +kernel) w h)
theorem ftX1_0 : FT 3 0 (.object "Branchmatch$Term") true := ⟨RX1, TX1, 5, rfl, by decide +kernel, rfl⟩
theorem ftX1_1 : FT 3 1 (.array .int) true := ⟨RX1, TX1, 5, rfl, by decide +kernel, rfl⟩
theorem ftX1_2 : FT 3 2 (.array .int) true := ⟨RX1, TX1, 5, rfl, by decide +kernel, rfl⟩
theorem ftX1_3 : FT 3 3 (.array .int) true := ⟨RX1, TX1, 5, rfl, by decide +kernel, rfl⟩
theorem ftX1_4 : FT 3 4 (.object "Branchmatch$Pairs") true := ⟨RX1, TX1, 5, rfl, by decide +kernel, rfl⟩
set_option maxRecDepth 100000 in
theorem cwX2 : ∀ w ∈ u_ws RX2 TX2 3, w ∈ WT := fun w h => WT_of ((show ∀ w ∈ u_ws RX2 TX2 3, w ∈ lw_tbl by decide +kernel) w h) ((show ∀ w ∈ u_ws RX2 TX2 3, goodWord w = true by decide +kernel) w h)
theorem ftX2_0 : FT 4 0 (.array .int) true := ⟨RX2, TX2, 3, rfl, by decide +kernel, rfl⟩
theorem ftX2_1 : FT 4 1 (.array .int) true := ⟨RX2, TX2, 3, rfl, by decide +kernel, rfl⟩
theorem ftX2_2 : FT 4 2 .int false := ⟨RX2, TX2, 3, rfl, by decide +kernel, rfl⟩
set_option maxRecDepth 100000 in
theorem cwX3 : ∀ w ∈ u_ws RX3 TX3 1, w ∈ WT := fun w h => WT_of ((show ∀ w ∈ u_ws RX3 TX3 1, w ∈ lw_tbl by decide +kernel) w h) ((show ∀ w ∈ u_ws RX3 TX3 1, goodWord w = true by decide +kernel) w h)
theorem ftX3_0 : FT 5 0 (.object "Branchmatch$Pairs") true := ⟨RX3, TX3, 1, rfl, by decide +kernel, rfl⟩
set_option maxRecDepth 100000 in
theorem cwX4 : ∀ w ∈ u_ws RX4 TX4 5, w ∈ WT := fun w h => WT_of ((show ∀ w ∈ u_ws RX4 TX4 5, w ∈ lw_tbl by decide +kernel) w h) ((show ∀ w ∈ u_ws RX4 TX4 5, goodWord w = true by decide +kernel) w h)
theorem ftX4_0 : FT 6 0 (.object "Branchmatch$Term") true := ⟨RX4, TX4, 5, rfl, by decide +kernel, rfl⟩
theorem ftX4_1 : FT 6 1 (.array .int) true := ⟨RX4, TX4, 5, rfl, by decide +kernel, rfl⟩
theorem ftX4_2 : FT 6 2 (.object "Branchmatch$Pairs") true := ⟨RX4, TX4, 5, rfl, by decide +kernel, rfl⟩
theorem ftX4_3 : FT 6 3 .int false := ⟨RX4, TX4, 5, rfl, by decide +kernel, rfl⟩
theorem ftX4_4 : FT 6 4 .int false := ⟨RX4, TX4, 5, rfl, by decide +kernel, rfl⟩
set_option maxRecDepth 100000 in
theorem cwX5 : ∀ w ∈ u_ws RX5 TX5 3, w ∈ WT := fun w h => WT_of ((show ∀ w ∈ u_ws RX5 TX5 3, w ∈ lw_tbl by decide +kernel) w h) ((show ∀ w ∈ u_ws RX5 TX5 3, goodWord w = true by decide +kernel) w h)
theorem ftX5_0 : FT 7 0 (.array .int) true := ⟨RX5, TX5, 3, rfl, by decide +kernel, rfl⟩
theorem ftX5_1 : FT 7 1 .int false := ⟨RX5, TX5, 3, rfl, by decide +kernel, rfl⟩
theorem ftX5_2 : FT 7 2 .boolean false := ⟨RX5, TX5, 3, rfl, by decide +kernel, rfl⟩
set_option maxRecDepth 100000 in
theorem cwX6 : ∀ w ∈ u_ws RX6 TX6 14, w ∈ WT := fun w h => WT_of ((show ∀ w ∈ u_ws RX6 TX6 14, w ∈ lw_tbl by decide +kernel) w h) ((show ∀ w ∈ u_ws RX6 TX6 14, goodWord w = true by decide +kernel) w h)
theorem ftX6_0 : FT 8 0 (.array (.object "Branchmatch$Term")) true := ⟨RX6, TX6, 14, rfl, by decide +kernel, rfl⟩
theorem ftX6_1 : FT 8 1 (.array (.object "Branchmatch$Answer")) true := ⟨RX6, TX6, 14, rfl, by decide +kernel, rfl⟩
theorem ftX6_2 : FT 8 2 .int false := ⟨RX6, TX6, 14, rfl, by decide +kernel, rfl⟩
theorem ftX6_3 : FT 8 3 .int false := ⟨RX6, TX6, 14, rfl, by decide +kernel, rfl⟩
theorem ftX6_4 : FT 8 4 .int false := ⟨RX6, TX6, 14, rfl, by decide +kernel, rfl⟩
theorem ftX6_5 : FT 8 5 (.object "Branchmatch$Term") true := ⟨RX6, TX6, 14, rfl, by decide +kernel, rfl⟩
theorem ftX6_6 : FT 8 6 (.object "Branchmatch$Term") true := ⟨RX6, TX6, 14, rfl, by decide +kernel, rfl⟩
theorem ftX6_7 : FT 8 7 (.object "Branchmatch$Term") true := ⟨RX6, TX6, 14, rfl, by decide +kernel, rfl⟩
theorem ftX6_8 : FT 8 8 (.object "Branchmatch$Term") true := ⟨RX6, TX6, 14, rfl, by decide +kernel, rfl⟩
theorem ftX6_9 : FT 8 9 (.object "Branchmatch$Answer") true := ⟨RX6, TX6, 14, rfl, by decide +kernel, rfl⟩
theorem ftX6_10 : FT 8 10 (.object "Branchmatch$Answer") true := ⟨RX6, TX6, 14, rfl, by decide +kernel, rfl⟩
theorem ftX6_11 : FT 8 11 (.object "Branchmatch$Steps") true := ⟨RX6, TX6, 14, rfl, by decide +kernel, rfl⟩
theorem ftX6_12 : FT 8 12 (.object "Branchmatch$Classes") true := ⟨RX6, TX6, 14, rfl, by decide +kernel, rfl⟩
theorem ftX6_13 : FT 8 13 (.object "Branchmatch$Shape") true := ⟨RX6, TX6, 14, rfl, by decide +kernel, rfl⟩
set_option maxRecDepth 100000 in
theorem flX5_15 : FL RX5 15 7 0 := ⟨RX5, TX5, 3, tyX5, rfl, cwX5, by decide, WT_of (tbw_1 (List.mem_of_getElem? (i := 49) rfl)) rfl, rfl, tyX5_ok, nmX5⟩
set_option maxRecDepth 100000 in
theorem flX5_21 : FL RX5 21 7 1 := ⟨RX5, TX5, 3, tyX5, rfl, cwX5, by decide, WT_of (tbw_1 (List.mem_of_getElem? (i := 50) rfl)) rfl, rfl, tyX5_ok, nmX5⟩
set_option maxRecDepth 100000 in
theorem flX5_25 : FL RX5 25 7 2 := ⟨RX5, TX5, 3, tyX5, rfl, cwX5, by decide, WT_of (tbw_1 (List.mem_of_getElem? (i := 51) rfl)) rfl, rfl, tyX5_ok, nmX5⟩
set_option maxRecDepth 100000 in
theorem flX0_11 : FL RX0 11 2 0 := ⟨RX0, TX0, 1, tyX0, rfl, cwX0, by decide, WT_of (tbw_1 (List.mem_of_getElem? (i := 79) rfl)) rfl, rfl, tyX0_ok, nmX0⟩
set_option maxRecDepth 100000 in
theorem flX2_11 : FL RX2 11 4 0 := ⟨RX2, TX2, 3, tyX2, rfl, cwX2, by decide, WT_of (tbw_1 (List.mem_of_getElem? (i := 97) rfl)) rfl, rfl, tyX2_ok, nmX2⟩
set_option maxRecDepth 100000 in
theorem flX2_15 : FL RX2 15 4 1 := ⟨RX2, TX2, 3, tyX2, rfl, cwX2, by decide, WT_of (tbw_1 (List.mem_of_getElem? (i := 98) rfl)) rfl, rfl, tyX2_ok, nmX2⟩
set_option maxRecDepth 100000 in
theorem flX2_18 : FL RX2 18 4 2 := ⟨RX2, TX2, 3, tyX2, rfl, cwX2, by decide, WT_of (tbw_1 (List.mem_of_getElem? (i := 99) rfl)) rfl, rfl, tyX2_ok, nmX2⟩
set_option maxRecDepth 100000 in
theorem flX4_14 : FL RX4 14 6 0 := ⟨RX4, TX4, 5, tyX4, rfl, cwX4, by decide, WT_of (tbw_1 (List.mem_of_getElem? (i := 107) rfl)) rfl, rfl, tyX4_ok, nmX4⟩
set_option maxRecDepth 100000 in
theorem flX4_20 : FL RX4 20 6 1 := ⟨RX4, TX4, 5, tyX4, rfl, cwX4, by decide, WT_of (tbw_1 (List.mem_of_getElem? (i := 108) rfl)) rfl, rfl, tyX4_ok, nmX4⟩
set_option maxRecDepth 100000 in
theorem flX4_27 : FL RX4 27 6 2 := ⟨RX4, TX4, 5, tyX4, rfl, cwX4, by decide, WT_of (tbw_1 (List.mem_of_getElem? (i := 109) rfl)) rfl, rfl, tyX4_ok, nmX4⟩
set_option maxRecDepth 100000 in
theorem flX4_52 : FL RX4 52 6 3 := ⟨RX4, TX4, 5, tyX4, rfl, cwX4, by decide, WT_of (tbw_1 (List.mem_of_getElem? (i := 110) rfl)) rfl, rfl, tyX4_ok, nmX4⟩
set_option maxRecDepth 100000 in
theorem flX4_56 : FL RX4 56 6 4 := ⟨RX4, TX4, 5, tyX4, rfl, cwX4, by decide, WT_of (tbw_1 (List.mem_of_getElem? (i := 111) rfl)) rfl, rfl, tyX4_ok, nmX4⟩
set_option maxRecDepth 100000 in
theorem flX1_16 : FL RX1 16 3 0 := ⟨RX1, TX1, 5, tyX1, rfl, cwX1, by decide, WT_of (tbw_1 (List.mem_of_getElem? (i := 133) rfl)) rfl, rfl, tyX1_ok, nmX1⟩
set_option maxRecDepth 100000 in
theorem flX1_20 : FL RX1 20 3 1 := ⟨RX1, TX1, 5, tyX1, rfl, cwX1, by decide, WT_of (tbw_1 (List.mem_of_getElem? (i := 134) rfl)) rfl, rfl, tyX1_ok, nmX1⟩
set_option maxRecDepth 100000 in
theorem flX1_24 : FL RX1 24 3 2 := ⟨RX1, TX1, 5, tyX1, rfl, cwX1, by decide, WT_of (tbw_1 (List.mem_of_getElem? (i := 135) rfl)) rfl, rfl, tyX1_ok, nmX1⟩
set_option maxRecDepth 100000 in
theorem flX1_27 : FL RX1 27 3 3 := ⟨RX1, TX1, 5, tyX1, rfl, cwX1, by decide, WT_of (tbw_1 (List.mem_of_getElem? (i := 136) rfl)) rfl, rfl, tyX1_ok, nmX1⟩
set_option maxRecDepth 100000 in
theorem flX1_33 : FL RX1 33 3 4 := ⟨RX1, TX1, 5, tyX1, rfl, cwX1, by decide, WT_of (tbw_1 (List.mem_of_getElem? (i := 137) rfl)) rfl, rfl, tyX1_ok, nmX1⟩
set_option maxRecDepth 100000 in
theorem flX3_12 : FL RX3 12 5 0 := ⟨RX3, TX3, 1, tyX3, rfl, cwX3, by decide, WT_of (tbw_1 (List.mem_of_getElem? (i := 157) rfl)) rfl, rfl, tyX3_ok, nmX3⟩
set_option maxRecDepth 100000 in
theorem flX6_11 : FL RX6 11 8 0 := ⟨RX6, TX6, 14, tyX6, rfl, cwX6, by decide, WT_of (tbw_1 (List.mem_of_getElem? (i := 162) rfl)) rfl, rfl, tyX6_ok, nmX6⟩
set_option maxRecDepth 100000 in
theorem flX6_17 : FL RX6 17 8 1 := ⟨RX6, TX6, 14, tyX6, rfl, cwX6, by decide, WT_of (tbw_1 (List.mem_of_getElem? (i := 163) rfl)) rfl, rfl, tyX6_ok, nmX6⟩
set_option maxRecDepth 100000 in
theorem flX6_241 : FL RX6 241 8 2 := ⟨RX6, TX6, 14, tyX6, rfl, cwX6, by decide, WT_of (tbw_1 (List.mem_of_getElem? (i := 164) rfl)) rfl, rfl, tyX6_ok, nmX6⟩
set_option maxRecDepth 100000 in
theorem flX6_245 : FL RX6 245 8 3 := ⟨RX6, TX6, 14, tyX6, rfl, cwX6, by decide, WT_of (tbw_1 (List.mem_of_getElem? (i := 165) rfl)) rfl, rfl, tyX6_ok, nmX6⟩
set_option maxRecDepth 100000 in
theorem flX6_248 : FL RX6 248 8 4 := ⟨RX6, TX6, 14, tyX6, rfl, cwX6, by decide, WT_of (tbw_1 (List.mem_of_getElem? (i := 166) rfl)) rfl, rfl, tyX6_ok, nmX6⟩
set_option maxRecDepth 100000 in
theorem flX6_24 : FL RX6 24 8 5 := ⟨RX6, TX6, 14, tyX6, rfl, cwX6, by decide, WT_of (tbw_1 (List.mem_of_getElem? (i := 167) rfl)) rfl, rfl, tyX6_ok, nmX6⟩
set_option maxRecDepth 100000 in
theorem flX6_28 : FL RX6 28 8 6 := ⟨RX6, TX6, 14, tyX6, rfl, cwX6, by decide, WT_of (tbw_1 (List.mem_of_getElem? (i := 168) rfl)) rfl, rfl, tyX6_ok, nmX6⟩
set_option maxRecDepth 100000 in
theorem flX6_31 : FL RX6 31 8 7 := ⟨RX6, TX6, 14, tyX6, rfl, cwX6, by decide, WT_of (tbw_1 (List.mem_of_getElem? (i := 169) rfl)) rfl, rfl, tyX6_ok, nmX6⟩
set_option maxRecDepth 100000 in
theorem flX6_34 : FL RX6 34 8 8 := ⟨RX6, TX6, 14, tyX6, rfl, cwX6, by decide, WT_of (tbw_1 (List.mem_of_getElem? (i := 170) rfl)) rfl, rfl, tyX6_ok, nmX6⟩
set_option maxRecDepth 100000 in
theorem flX6_38 : FL RX6 38 8 9 := ⟨RX6, TX6, 14, tyX6, rfl, cwX6, by decide, WT_of (tbw_1 (List.mem_of_getElem? (i := 171) rfl)) rfl, rfl, tyX6_ok, nmX6⟩
set_option maxRecDepth 100000 in
theorem flX6_42 : FL RX6 42 8 10 := ⟨RX6, TX6, 14, tyX6, rfl, cwX6, by decide, WT_of (tbw_1 (List.mem_of_getElem? (i := 172) rfl)) rfl, rfl, tyX6_ok, nmX6⟩
set_option maxRecDepth 100000 in
theorem flX6_48 : FL RX6 48 8 11 := ⟨RX6, TX6, 14, tyX6, rfl, cwX6, by decide, WT_of (tbw_1 (List.mem_of_getElem? (i := 173) rfl)) rfl, rfl, tyX6_ok, nmX6⟩
set_option maxRecDepth 100000 in
theorem flX6_55 : FL RX6 55 8 12 := ⟨RX6, TX6, 14, tyX6, rfl, cwX6, by decide, WT_of (tbw_1 (List.mem_of_getElem? (i := 174) rfl)) rfl, rfl, tyX6_ok, nmX6⟩
set_option maxRecDepth 100000 in
theorem flX6_62 : FL RX6 62 8 13 := ⟨RX6, TX6, 14, tyX6, rfl, cwX6, by decide, WT_of (tbw_1 (List.mem_of_getElem? (i := 175) rfl)) rfl, rfl, tyX6_ok, nmX6⟩
end U83fldC
section U84ty
/-! THE CLASS, weakly: a type for each of its cells; what its methods keep -/
abbrev TY : Type := Nat → Option (AC → Prop)
/-- the kinds of the class's cells -/
def ck (k : Nat) : Bool := (Nat.ble 2 k && Nat.ble k 8) || k == 103 || k == 104 || k == 107
def Tyg (Γ : TY) (h : AH) : Prop := ∀ (a : Nat) (φ : AC → Prop), Γ a = some φ → ∃ c, h a = some c ∧ φ c
/-- cells without a type stay -/
def Kds (Γ : TY) (h h' : AH) : Prop := ∀ (a : Nat) (c : AC), h a = some c → Γ a = none → h' a = some c
def TI (Γ : TY) (h h' : AH) : Prop := Tyg Γ h' ∧ Kds Γ h h'
theorem TI.rf {Γ : TY} {h : AH} (I : Tyg Γ h) : TI Γ h h := ⟨I, fun _ _ e _ => e⟩
theorem TI.trans {Γ : TY} {h h1 h2 : AH} (a : TI Γ h h1) (b : TI Γ h1 h2) : TI Γ h h2 := ⟨b.1, fun x c e k => b.2 x c (a.2 x c e k) k⟩
theorem Tyg.put {Γ : TY} {h : AH} (I : Tyg Γ h) {a : Nat} {φ : AC → Prop} (g : Γ a = some φ) {c : AC} (hc : φ c) : Tyg Γ (hup h a c) := by
  intro b ψ hb
  by_cases e : b = a
  · subst e
    rw [g] at hb
    cases hb
    exact ⟨c, hup_self _ _ _, hc⟩
  · rw [hup_ne _ _ e]
    exact I b ψ hb
theorem TI.put {Γ : TY} {h h1 : AH} (J : TI Γ h h1) {a : Nat} {φ : AC → Prop} (g : Γ a = some φ) {c c0 : AC} (h0 : h1 a = some c0) (hc : φ c) (hk : ck c0.1 = true) : TI Γ h (hup h1 a c) := by
  refine ⟨J.1.put g hc, fun b d e k => ?_⟩
  rw [hup_ne _ _ (fun z => by rw [z, g] at k; cases k)]
  exact J.2 b d e k
/-- letters that a text can be made of -/
def LR (x : Int32) : Prop := -97 ≤ x.toInt ∧ x.toInt ≤ 158
theorem LR_nI {n : Nat} (h : n ≤ 158) : LR (nI n) := by
  have e : (nI n).toInt = (n : Int) := by
    show (Int32.ofNat n).toInt = _
    exact Int32.toInt_ofNat_of_lt (by omega)
  exact ⟨by omega, by omega⟩
theorem LR_9 : LR (Int8.ofInt (-9)).toInt32 := ⟨by decide +kernel, by decide +kernel⟩
def letφ (L : Nat) : AC → Prop := fun c => ∃ xs : List Int32, c = (107, xs.map Value.int) ∧ xs.length = L ∧ ∀ x ∈ xs, LR x
def rowφ (L : Nat) : AC → Prop := fun c => ∃ xs : List Int32, c = (107, xs.map Value.int) ∧ xs.length = L
def termφ (q L : Nat) : AC → Prop := fun c => ∃ (f : Nat) (t : Bool), c = (7, [.ref q, vI f, .int (bI t)]) ∧ f ≤ L
def isφ (c0 : AC) : AC → Prop := fun c => c = c0
def pairφ (a b : Nat) : AC → Prop := fun c => ∃ w : Nat, c = (4, [.ref a, .ref b, vI w]) ∧ w ≤ 128
def stepφ (b st pr : Nat) : AC → Prop := fun c => ∃ t e : Int32, c = (6, [.ref b, .ref st, .ref pr, .int t, .int e])
/-- a term with room for L letters -/
def TermT (Γ : TY) (b L : Nat) : Prop := L ≤ 256 ∧ ∃ q, Γ b = some (termφ q L) ∧ Γ q = some (letφ L)
def PairsT (Γ : TY) (b : Nat) : Prop := ∃ a1 a2, Γ b = some (pairφ a1 a2) ∧ Γ a1 = some (rowφ 128) ∧ Γ a2 = some (rowφ 128)
def AnsT (Γ : TY) (b : Nat) : Prop := ∃ (arr : Nat) (ts : List Nat), Γ b = some (isφ (2, [.ref arr])) ∧ Γ arr = some (isφ (103, ts.map Value.ref)) ∧ ts.length = 8 ∧ ∀ t ∈ ts, TermT Γ t 16
def StepsT (Γ : TY) (b : Nat) : Prop := ∃ bo st pr, Γ b = some (stepφ bo st pr) ∧ TermT Γ bo 32 ∧ Γ st = some (rowφ 8) ∧ PairsT Γ pr
def ClassT (Γ : TY) (b : Nat) : Prop := ∃ bo co ho st pr, Γ b = some (isφ (3, [.ref bo, .ref co, .ref ho, .ref st, .ref pr])) ∧ TermT Γ bo 32 ∧ Γ co = some (rowφ 32) ∧ Γ ho = some (rowφ 32) ∧ Γ st = some (rowφ 8) ∧ PairsT Γ pr
def ShapeT (Γ : TY) (b : Nat) : Prop := ∃ pr, Γ b = some (isφ (5, [.ref pr])) ∧ PairsT Γ pr
theorem rw_open {Γ : TY} {h : AH} (I : Tyg Γ h) {q L : Nat} (g : Γ q = some (rowφ L)) : ∃ xs : List Int32, h q = some (107, xs.map Value.int) ∧ xs.length = L := by
  obtain ⟨c, hc, xs, rfl, h1⟩ := I _ _ g
  exact ⟨xs, hc, h1⟩
theorem pr_open {Γ : TY} {h : AH} (I : Tyg Γ h) {b x y : Nat} (g : Γ b = some (pairφ x y)) : ∃ w : Nat, h b = some (4, [.ref x, .ref y, vI w]) ∧ w ≤ 128 := by
  obtain ⟨c, hc, w, rfl, h1⟩ := I _ _ g
  exact ⟨w, hc, h1⟩
theorem st_open {Γ : TY} {h : AH} (I : Tyg Γ h) {b x y z : Nat} (g : Γ b = some (stepφ x y z)) : ∃ t e : Int32, h b = some (6, [.ref x, .ref y, .ref z, .int t, .int e]) := by
  obtain ⟨c, hc, t, e, rfl⟩ := I _ _ g
  exact ⟨t, e, hc⟩
theorem is_open {Γ : TY} {h : AH} (I : Tyg Γ h) {b : Nat} {c0 : AC} (g : Γ b = some (isφ c0)) : h b = some c0 := by
  obtain ⟨c, hc, rfl⟩ := I _ _ g
  exact hc
theorem rowφ_set {L : Nat} {xs : List Int32} (h1 : xs.length = L) (j : Nat) (v : Int32) : rowφ L (107, (xs.set j v).map Value.int) := ⟨_, rfl, by rw [List.length_set]; exact h1⟩
/-- a loop that counts up, a loop that counts down -/
theorem loopUp {P : Int32 → Prop} (st : ∀ j : Int32, (∀ y : Int32, j < y → P (j + Int32.ofInt 1)) → P j) (j : Int32) : P j := by
  have key : ∀ (n : Nat) (j : Int32), (2147483647 - j.toInt).toNat ≤ n → P j := by
    intro n
    induction n with
    | zero =>
      intro j hj
      refine st j (fun y hy => ?_)
      have h1 := Int32.lt_iff_toInt_lt.mp hy
      have h2 := Int32.toInt_lt y
      omega
    | succ n ih =>
      intro j hj
      refine st j (fun y hy => ih _ ?_)
      have h1 := Int32.lt_iff_toInt_lt.mp hy
      have h2 := Int32.toInt_lt y
      have h3 := Int32.le_toInt j
      have e : (j + Int32.ofInt 1).toInt = j.toInt + 1 := by
        rw [Int32.toInt_add, show (Int32.ofInt 1).toInt = 1 by decide]
        exact Int.bmod_eq_of_le (by omega) (by omega)
      omega
  exact key _ j (Nat.le_refl _)
theorem loopDn {P : Int32 → Prop} (st : ∀ j : Int32, (∀ y : Int32, y < j → P (j + Int32.ofInt (-1))) → P j) (j : Int32) : P j := by
  have key : ∀ (n : Nat) (j : Int32), (j.toInt + 2147483648).toNat ≤ n → P j := by
    intro n
    induction n with
    | zero =>
      intro j hj
      refine st j (fun y hy => ?_)
      have h1 := Int32.lt_iff_toInt_lt.mp hy
      have h2 := Int32.le_toInt y
      omega
    | succ n ih =>
      intro j hj
      refine st j (fun y hy => ih _ ?_)
      have h1 := Int32.lt_iff_toInt_lt.mp hy
      have h2 := Int32.le_toInt y
      have h3 := Int32.toInt_lt j
      have e : (j + Int32.ofInt (-1)).toInt = j.toInt - 1 := by
        rw [Int32.toInt_add, show (Int32.ofInt (-1)).toInt = -1 by decide]
        exact Int.bmod_eq_of_le (by omega) (by omega)
      omega
  exact key _ j (Nat.le_refl _)
theorem nlt_of {x y : Int32} (h : ¬ y ≤ x) : x < y := Int32.not_le.mp h
/-- an index that was tested -/
theorem ix_ok {j : Int32} {n : Nat} (hn : n < 2 ^ 31) (h1 : ¬ j < 0) (h2 : ¬ nI n ≤ j) : j.toNatClampNeg < n := by
  obtain ⟨k, hk, rfl⟩ := nI_of h1
  rw [nI_clamp hk]
  exact nI_lt' hk hn h2
section ARR7
variable {p : Program} {la : Launch} {e : Env} {R : Room} {s : State} {m : MethodId} {args : Array Value} {below : List Frame} {meth : Method} {c : Code} {Q : State → Prop}
variable {D : va_G} {cA : Nat → ClassId} {B0 nL : Nat} {cc : ByteArray} {own : String} {pc k n : Nat} {l : List (Nat × Value)} {r : List Value} {h : AH}
theorem ald7_ok (X : CX p s m args c D cA B0 nL cc own) {a : Nat} {xs : List Int32} {j : Int32} (hd : decode cc pc = .ok (.iaload, 1)) (ha : h a = some (107, xs.map Value.int)) (hj : ¬ j < 0) (hl : j.toNatClampNeg < xs.length)
    (kk : ∀ x, x ∈ xs → WS p la e R s m args below meth c Q D cA B0 nL (pc + 1) l (.int x :: r) h k n) : WS p la e R s m args below meth c Q D cA B0 nL pc l (.int j :: .ref a :: r) h k n := by
  obtain ⟨hx, hb, hml, hown, hts, hK, hB⟩ := X
  intro H locs ls hH hls
  obtain ⟨hk7, hc⟩ := (hH.1 a _ ha).2.2 (by show ¬ 107 < 100; omega)
  have hlt : j.toNatClampNeg < (xs.map Value.int).length := by rw [List.length_map]; exact hl
  have hin : ¬ (j < 0 ∨ (arrV (cA 107) (xs.map Value.int).length (vp_V (xs.map Value.int))).slots.size ≤ j.toNatClampNeg) := by
    rw [arrV_size]; rintro (q | q)
    · exact hj q
    · omega
  have hv : (arrV (cA 107) (xs.map Value.int).length (vp_V (xs.map Value.int))).slots[j.toNatClampNeg]? = some (.int (xs[j.toNatClampNeg]'hl)) := by rw [arrV_read _ _ hlt, vp_V_get (v := .int (xs[j.toNatClampNeg]'hl)) (by simp)]
  exact W.iald hx hb hc (hK.arr (k := 107) (by omega) (by omega) _ _) (fun q => by cases q) hin hv rfl rfl hd (kk _ (List.getElem_mem hl) H locs ls hH hls)
theorem alen7_ok (X : CX p s m args c D cA B0 nL cc own) {a L : Nat} {xs : List Int32} (hd : decode cc pc = .ok (.arraylength, 1)) (ha : h a = some (107, xs.map Value.int)) (hl : xs.length = L)
    (kk : WS p la e R s m args below meth c Q D cA B0 nL (pc + 1) l (vI L :: r) h k n) : WS p la e R s m args below meth c Q D cA B0 nL pc l (.ref a :: r) h k n := by
  refine alen_ok X (by decide) hd ha ?_
  rw [List.length_map, hl]
  exact kk
set_option maxHeartbeats 2000000 in
theorem ast7_ok (X : CX p s m args c D cA B0 nL cc own) {a : Nat} {xs : List Int32} {j v : Int32} (hd : decode cc pc = .ok (.iastore, 1)) (ha : h a = some (107, xs.map Value.int)) (hj : ¬ j < 0) (hl : j.toNatClampNeg < xs.length)
    (kk : WS p la e R s m args below meth c Q D cA B0 nL (pc + 1) l r (hup h a (107, (xs.set j.toNatClampNeg v).map Value.int)) k n) : WS p la e R s m args below meth c Q D cA B0 nL pc l (.int v :: .int j :: .ref a :: r) h k n := by
  obtain ⟨hx, hb, hml, hown, hts, hK, hB⟩ := X
  intro H locs ls hH hls
  have hnl : ¬ 107 < 100 := by omega
  obtain ⟨hk7, hc⟩ := (hH.1 a _ ha).2.2 hnl
  have hlt : j.toNatClampNeg < (xs.map Value.int).length := by rw [List.length_map]; exact hl
  have hin : ¬ (j < 0 ∨ (arrV (cA 107) (xs.map Value.int).length (vp_V (xs.map Value.int))).slots.size ≤ j.toNatClampNeg) := by
    rw [arrV_size]; rintro (q | q)
    · exact hj q
    · omega
  refine W.iast hx hb hc (hK.arr (k := 107) (by omega) (by omega) _ _) (fun q => by cases q) hin rfl rfl hd (fun H1 e1 e2 e3 => ?_)
  refine kk H1 _ ls ⟨hH.1.put ha ⟨fun z => absurd z hnl, fun _ => ⟨hk7, ?_⟩⟩ e3, hH.2.put e2 e3 (hH.1 a _ ha).1⟩ hls
  rw [e1, arrV_store, setV hlt, List.map_set]
/-- a new row of numbers of the class -/
theorem newa7_ok (X : CX p s m args c D cA B0 nL cc own) {j : Int32} (hw : Cond.arrayClass .int ∈ WT) (hd : decode cc pc = .ok (.newarray .int, 2)) (hj : ¬ j < 0) (hj2 : j.toNatClampNeg ≤ 1000) (hr1 : k + 1 ≤ R.cells) (hr2 : n + j.toNatClampNeg ≤ R.slots)
    (kk : ∀ q : Nat, h q = none → B0 ≤ q → WS p la e R s m args below meth c Q D cA B0 nL (pc + 2) l (.ref q :: r) (hup h q (107, (List.replicate j.toNatClampNeg (0 : Int32)).map Value.int)) (k + 1) (n + j.toNatClampNeg)) : WS p la e R s m args below meth c Q D cA B0 nL pc l (.int j :: r) h k n := by
  obtain ⟨hx, hb, hml, hown, hts, hK, hB⟩ := X
  intro H locs ls hH hls
  have hBH : B0 ≤ H.size := Nat.le_trans hB hH.2.1
  refine va_newaK (atype := .int) hx hb (hts _ hw) rfl hd rfl hj rfl (by show j.toNatClampNeg * 4 ≤ 536870912; omega) hr1 hr2 rfl fun H1 cA' e1 z1 o1 hAr hNm => ?_
  refine kk H.size (hH.1.fresh) hBH H1 _ ls ⟨hH.1.push hBH ⟨fun z => absurd z (show ¬ 107 < 100 by omega), fun _ => ⟨(show 107 < 108 by omega), ?_⟩⟩ o1, Nat.le_trans hH.2.1 (by omega), fun x h1 h2 => (o1 x (Nat.lt_of_lt_of_le h1 hH.2.1)).trans (hH.2.2.1 x h1 h2), hH.2.2.2⟩ hls
  have hcA : cA' = cA 107 := by
    obtain ⟨_, _, -, -, k3, -⟩ := hK.2 107 (by decide) (by decide)
    exact Option.some.inj (hNm.symm.trans k3)
  rw [e1, hcA]
  show some (arrV (cA 107) j.toNatClampNeg fun _ => Value.int 0) = some (arrV (cA 107) ((List.replicate j.toNatClampNeg (0 : Int32)).map Value.int).length (vp_V ((List.replicate j.toNatClampNeg (0 : Int32)).map Value.int)))
  rw [List.length_map, List.length_replicate]
  congr 1
  unfold arrV
  congr 2
  funext q
  rw [vp_V_get (v := .int 0)]
  simp
/-- an entry of a row of references -/
theorem aldr_ok (X : CX p s m args c D cA B0 nL cc own) {a kd j q : Nat} {as : List Nat} (hkd : kd = 103 ∨ kd = 104) (hd : decode cc pc = .ok (.aaload, 1)) (ha : h a = some (kd, as.map Value.ref)) (hj : j < 2 ^ 31) (hq : as[j]? = some q)
    (kk : WS p la e R s m args below meth c Q D cA B0 nL (pc + 1) l (.ref q :: r) h k n) : WS p la e R s m args below meth c Q D cA B0 nL pc l (vI j :: .ref a :: r) h k n :=
  ald_ok X (Or.inr (Or.inr ⟨rfl, by omega, by omega⟩)) hd ha (inA_nI (v := .ref q) hj (by rw [List.getElem?_map, hq]; rfl)) kk
end ARR7
end U84ty
