section U15linkM
set_option maxRecDepth 100000 in
theorem liX10 : Cond.initialized RX10 ∈ WT := WT_of (tbw_1 (List.mem_of_getElem? (i := 9) rfl)) rfl
set_option maxRecDepth 100000 in
theorem liX8 : Cond.initialized RX8 ∈ WT := WT_of (tbw_1 (List.mem_of_getElem? (i := 20) rfl)) rfl
set_option maxRecDepth 100000 in
theorem liX9 : Cond.initialized RX9 ∈ WT := WT_of (tbw_1 (List.mem_of_getElem? (i := 19) rfl)) rfl
set_option maxRecDepth 100000 in
theorem lcX8_init : Cond.code yX8_init cX8_init 6 none ∈ WT := WT_of (tbw_7 (List.mem_of_getElem? (i := 70) rfl)) rfl
theorem lkX8_init : LK yX8_init cX8_init 6 2 none := ⟨lcX8_init, liX8, ⟨by decide +kernel, by decide +kernel⟩, by decide +kernel⟩
set_option maxRecDepth 100000 in
theorem lmX8_init : Cond.instanceMethod yX8_init ∈ WT := WT_of (tbw_7 (List.mem_of_getElem? (i := 69) rfl)) rfl
set_option maxRecDepth 100000 in
theorem lcX8_number : Cond.code yX8_number cX8_number 4 (some .int) ∈ WT := WT_of (tbw_7 (List.mem_of_getElem? (i := 83) rfl)) rfl
theorem lkX8_number : LK yX8_number cX8_number 4 2 (some .int) := ⟨lcX8_number, liX8, ⟨by decide +kernel, by decide +kernel⟩, by decide +kernel⟩
set_option maxRecDepth 100000 in
theorem lmX8_number : Cond.instanceMethod yX8_number ∈ WT := WT_of (tbw_7 (List.mem_of_getElem? (i := 82) rfl)) rfl
set_option maxRecDepth 100000 in
theorem lcX8_come : Cond.code yX8_come cX8_come 3 none ∈ WT := WT_of (tbw_7 (List.mem_of_getElem? (i := 77) rfl)) rfl
theorem lkX8_come : LK yX8_come cX8_come 3 1 none := ⟨lcX8_come, liX8, ⟨by decide +kernel, by decide +kernel⟩, by decide +kernel⟩
set_option maxRecDepth 100000 in
theorem lmX8_come : Cond.instanceMethod yX8_come ∈ WT := WT_of (tbw_7 (List.mem_of_getElem? (i := 76) rfl)) rfl
set_option maxRecDepth 100000 in
theorem lcX8_headed : Cond.code yX8_headed cX8_headed 3 (some .int) ∈ WT := WT_of (tbw_7 (List.mem_of_getElem? (i := 95) rfl)) rfl
theorem lkX8_headed : LK yX8_headed cX8_headed 3 1 (some .int) := ⟨lcX8_headed, liX8, ⟨by decide +kernel, by decide +kernel⟩, by decide +kernel⟩
set_option maxRecDepth 100000 in
theorem lmX8_headed : Cond.instanceMethod yX8_headed ∈ WT := WT_of (tbw_7 (List.mem_of_getElem? (i := 94) rfl)) rfl
set_option maxRecDepth 100000 in
theorem lcX8_join : Cond.code yX8_join cX8_join 8 none ∈ WT := WT_of (tbw_7 (List.mem_of_getElem? (i := 91) rfl)) rfl
theorem lkX8_join : LK yX8_join cX8_join 8 2 none := ⟨lcX8_join, liX8, ⟨by decide +kernel, by decide +kernel⟩, by decide +kernel⟩
set_option maxRecDepth 100000 in
theorem lmX8_join : Cond.instanceMethod yX8_join ∈ WT := WT_of (tbw_7 (List.mem_of_getElem? (i := 90) rfl)) rfl
set_option maxRecDepth 100000 in
theorem lcX8_isRound : Cond.code yX8_isRound cX8_isRound 4 (some .boolean) ∈ WT := WT_of (tbw_7 (List.mem_of_getElem? (i := 99) rfl)) rfl
theorem lkX8_isRound : LK yX8_isRound cX8_isRound 4 0 (some .boolean) := ⟨lcX8_isRound, liX8, ⟨by decide +kernel, by decide +kernel⟩, by decide +kernel⟩
set_option maxRecDepth 100000 in
theorem lmX8_isRound : Cond.instanceMethod yX8_isRound ∈ WT := WT_of (tbw_7 (List.mem_of_getElem? (i := 98) rfl)) rfl
set_option maxRecDepth 100000 in
theorem lcX8_isFree : Cond.code yX8_isFree cX8_isFree 4 (some .boolean) ∈ WT := WT_of (tbw_7 (List.mem_of_getElem? (i := 103) rfl)) rfl
theorem lkX8_isFree : LK yX8_isFree cX8_isFree 4 2 (some .boolean) := ⟨lcX8_isFree, liX8, ⟨by decide +kernel, by decide +kernel⟩, by decide +kernel⟩
set_option maxRecDepth 100000 in
theorem lmX8_isFree : Cond.instanceMethod yX8_isFree ∈ WT := WT_of (tbw_7 (List.mem_of_getElem? (i := 102) rfl)) rfl
set_option maxRecDepth 100000 in
theorem lcX8_whole : Cond.code yX8_whole cX8_whole 6 (some (.array .int)) ∈ WT := WT_of (tbw_7 (List.mem_of_getElem? (i := 141) rfl)) rfl
theorem lkX8_whole : LK yX8_whole cX8_whole 6 1 (some (.array .int)) := ⟨lcX8_whole, liX8, ⟨by decide +kernel, by decide +kernel⟩, by decide +kernel⟩
set_option maxRecDepth 100000 in
theorem lmX8_whole : Cond.instanceMethod yX8_whole ∈ WT := WT_of (tbw_7 (List.mem_of_getElem? (i := 140) rfl)) rfl
set_option maxRecDepth 100000 in
theorem lcX8_answer : Cond.code yX8_answer cX8_answer 4 (some (.array (.array .int))) ∈ WT := WT_of (tbw_7 (List.mem_of_getElem? (i := 136) rfl)) rfl
theorem lkX8_answer : LK yX8_answer cX8_answer 4 0 (some (.array (.array .int))) := ⟨lcX8_answer, liX8, ⟨by decide +kernel, by decide +kernel⟩, by decide +kernel⟩
set_option maxRecDepth 100000 in
theorem lmX8_answer : Cond.instanceMethod yX8_answer ∈ WT := WT_of (tbw_7 (List.mem_of_getElem? (i := 134) rfl)) rfl
set_option maxRecDepth 100000 in
theorem lcX9_init : Cond.code yX9_init cX9_init 3 none ∈ WT := WT_of (tbw_7 (List.mem_of_getElem? (i := 26) rfl)) rfl
theorem lkX9_init : LK yX9_init cX9_init 3 2 none := ⟨lcX9_init, liX9, ⟨by decide +kernel, by decide +kernel⟩, by decide +kernel⟩
set_option maxRecDepth 100000 in
theorem lmX9_init : Cond.instanceMethod yX9_init ∈ WT := WT_of (tbw_7 (List.mem_of_getElem? (i := 25) rfl)) rfl
set_option maxRecDepth 100000 in
theorem lcX9_deep : Cond.code yX9_deep cX9_deep 3 (some (.array .int)) ∈ WT := WT_of (tbw_7 (List.mem_of_getElem? (i := 36) rfl)) rfl
theorem lkX9_deep : LK yX9_deep cX9_deep 3 1 (some (.array .int)) := ⟨lcX9_deep, liX9, ⟨by decide +kernel, by decide +kernel⟩, by decide +kernel⟩
set_option maxRecDepth 100000 in
theorem lmX9_deep : Cond.instanceMethod yX9_deep ∈ WT := WT_of (tbw_7 (List.mem_of_getElem? (i := 35) rfl)) rfl
set_option maxRecDepth 100000 in
theorem lcX9_isWithin : Cond.code yX9_isWithin cX9_isWithin 6 (some .boolean) ∈ WT := WT_of (tbw_7 (List.mem_of_getElem? (i := 45) rfl)) rfl
theorem lkX9_isWithin : LK yX9_isWithin cX9_isWithin 6 2 (some .boolean) := ⟨lcX9_isWithin, liX9, ⟨by decide +kernel, by decide +kernel⟩, by decide +kernel⟩
set_option maxRecDepth 100000 in
theorem lmX9_isWithin : Cond.instanceMethod yX9_isWithin ∈ WT := WT_of (tbw_7 (List.mem_of_getElem? (i := 44) rfl)) rfl
set_option maxRecDepth 100000 in
theorem lcX9_go : Cond.code yX9_go cX9_go 7 none ∈ WT := WT_of (tbw_7 (List.mem_of_getElem? (i := 32) rfl)) rfl
theorem lkX9_go : LK yX9_go cX9_go 7 2 none := ⟨lcX9_go, liX9, ⟨by decide +kernel, by decide +kernel⟩, by decide +kernel⟩
set_option maxRecDepth 100000 in
theorem lmX9_go : Cond.instanceMethod yX9_go ∈ WT := WT_of (tbw_7 (List.mem_of_getElem? (i := 31) rfl)) rfl
set_option maxRecDepth 100000 in
theorem lcX9_bind : Cond.code yX9_bind cX9_bind 3 none ∈ WT := WT_of (tbw_7 (List.mem_of_getElem? (i := 41) rfl)) rfl
theorem lkX9_bind : LK yX9_bind cX9_bind 3 2 none := ⟨lcX9_bind, liX9, ⟨by decide +kernel, by decide +kernel⟩, by decide +kernel⟩
set_option maxRecDepth 100000 in
theorem lmX9_bind : Cond.instanceMethod yX9_bind ∈ WT := WT_of (tbw_7 (List.mem_of_getElem? (i := 40) rfl)) rfl
set_option maxRecDepth 100000 in
theorem lcX9_goOn : Cond.code yX9_goOn cX9_goOn 6 none ∈ WT := WT_of (tbw_7 (List.mem_of_getElem? (i := 50) rfl)) rfl
theorem lkX9_goOn : LK yX9_goOn cX9_goOn 6 2 none := ⟨lcX9_goOn, liX9, ⟨by decide +kernel, by decide +kernel⟩, by decide +kernel⟩
set_option maxRecDepth 100000 in
theorem lmX9_goOn : Cond.instanceMethod yX9_goOn ∈ WT := WT_of (tbw_7 (List.mem_of_getElem? (i := 49) rfl)) rfl
set_option maxRecDepth 100000 in
theorem lcX9_whole : Cond.code yX9_whole cX9_whole 4 (some (.array .int)) ∈ WT := WT_of (tbw_7 (List.mem_of_getElem? (i := 130) rfl)) rfl
theorem lkX9_whole : LK yX9_whole cX9_whole 4 1 (some (.array .int)) := ⟨lcX9_whole, liX9, ⟨by decide +kernel, by decide +kernel⟩, by decide +kernel⟩
set_option maxRecDepth 100000 in
theorem lmX9_whole : Cond.instanceMethod yX9_whole ∈ WT := WT_of (tbw_7 (List.mem_of_getElem? (i := 128) rfl)) rfl
set_option maxRecDepth 100000 in
theorem lvX9_whole : Cond.selects yX9_whole.cls yX9_whole yX9_whole ∈ WT := WT_of (tbw_7 (List.mem_of_getElem? (i := 129) rfl)) rfl
set_option maxRecDepth 100000 in
theorem lcX9_answer : Cond.code yX9_answer cX9_answer 3 (some (.array (.array .int))) ∈ WT := WT_of (tbw_7 (List.mem_of_getElem? (i := 125) rfl)) rfl
theorem lkX9_answer : LK yX9_answer cX9_answer 3 0 (some (.array (.array .int))) := ⟨lcX9_answer, liX9, ⟨by decide +kernel, by decide +kernel⟩, by decide +kernel⟩
set_option maxRecDepth 100000 in
theorem lmX9_answer : Cond.instanceMethod yX9_answer ∈ WT := WT_of (tbw_7 (List.mem_of_getElem? (i := 123) rfl)) rfl
set_option maxRecDepth 100000 in
theorem lcX10_init : Cond.code yX10_init cX10_init 2 none ∈ WT := WT_of (tbw_6 (List.mem_of_getElem? (i := 76) rfl)) rfl
theorem lkX10_init : LK yX10_init cX10_init 2 0 none := ⟨lcX10_init, liX10, ⟨by decide +kernel, by decide +kernel⟩, by decide +kernel⟩
set_option maxRecDepth 100000 in
theorem lmX10_init : Cond.instanceMethod yX10_init ∈ WT := WT_of (tbw_6 (List.mem_of_getElem? (i := 75) rfl)) rfl
set_option maxRecDepth 100000 in
theorem lcX10_row : Cond.code yX10_row cX10_row 1 (some (.array .int)) ∈ WT := WT_of (tbw_6 (List.mem_of_getElem? (i := 84) rfl)) rfl
theorem lkX10_row : LK yX10_row cX10_row 1 1 (some (.array .int)) := ⟨lcX10_row, liX10, ⟨by decide +kernel, by decide +kernel⟩, by decide +kernel⟩
set_option maxRecDepth 100000 in
theorem lsX10_row : Cond.static yX10_row ∈ WT := WT_of (tbw_6 (List.mem_of_getElem? (i := 83) rfl)) rfl
set_option maxRecDepth 100000 in
theorem lcX10_none : Cond.code yX10_none cX10_none 2 (some (.array (.array .int))) ∈ WT := WT_of (tbw_6 (List.mem_of_getElem? (i := 87) rfl)) rfl
theorem lkX10_none : LK yX10_none cX10_none 2 0 (some (.array (.array .int))) := ⟨lcX10_none, liX10, ⟨by decide +kernel, by decide +kernel⟩, by decide +kernel⟩
set_option maxRecDepth 100000 in
theorem lsX10_none : Cond.static yX10_none ∈ WT := WT_of (tbw_6 (List.mem_of_getElem? (i := 86) rfl)) rfl
set_option maxRecDepth 100000 in
theorem lcX10_parts : Cond.code yX10_parts cX10_parts 1 (some .int) ∈ WT := WT_of (tbw_6 (List.mem_of_getElem? (i := 135) rfl)) rfl
theorem lkX10_parts : LK yX10_parts cX10_parts 1 1 (some .int) := ⟨lcX10_parts, liX10, ⟨by decide +kernel, by decide +kernel⟩, by decide +kernel⟩
set_option maxRecDepth 100000 in
theorem lsX10_parts : Cond.static yX10_parts ∈ WT := WT_of (tbw_6 (List.mem_of_getElem? (i := 134) rfl)) rfl
set_option maxRecDepth 100000 in
theorem lcX10_end : Cond.code yX10_end cX10_end 4 (some .int) ∈ WT := WT_of (tbw_6 (List.mem_of_getElem? (i := 179) rfl)) rfl
theorem lkX10_end : LK yX10_end cX10_end 4 2 (some .int) := ⟨lcX10_end, liX10, ⟨by decide +kernel, by decide +kernel⟩, by decide +kernel⟩
set_option maxRecDepth 100000 in
theorem lsX10_end : Cond.static yX10_end ∈ WT := WT_of (tbw_6 (List.mem_of_getElem? (i := 178) rfl)) rfl
set_option maxRecDepth 100000 in
theorem lcX10_piece : Cond.code yX10_piece cX10_piece 5 (some (.array .int)) ∈ WT := WT_of (tbw_6 (List.mem_of_getElem? (i := 182) rfl)) rfl
theorem lkX10_piece : LK yX10_piece cX10_piece 5 3 (some (.array .int)) := ⟨lcX10_piece, liX10, ⟨by decide +kernel, by decide +kernel⟩, by decide +kernel⟩
set_option maxRecDepth 100000 in
theorem lsX10_piece : Cond.static yX10_piece ∈ WT := WT_of (tbw_6 (List.mem_of_getElem? (i := 181) rfl)) rfl
set_option maxRecDepth 100000 in
theorem lcX10_at : Cond.code yX10_at cX10_at 2 (some (.array .int)) ∈ WT := WT_of (tbw_6 (List.mem_of_getElem? (i := 176) rfl)) rfl
theorem lkX10_at : LK yX10_at cX10_at 2 2 (some (.array .int)) := ⟨lcX10_at, liX10, ⟨by decide +kernel, by decide +kernel⟩, by decide +kernel⟩
set_option maxRecDepth 100000 in
theorem lsX10_at : Cond.static yX10_at ∈ WT := WT_of (tbw_6 (List.mem_of_getElem? (i := 175) rfl)) rfl
set_option maxRecDepth 100000 in
theorem lcX10_joined : Cond.code yX10_joined cX10_joined 4 (some (.array .int)) ∈ WT := WT_of (tbw_6 (List.mem_of_getElem? (i := 138) rfl)) rfl
theorem lkX10_joined : LK yX10_joined cX10_joined 4 2 (some (.array .int)) := ⟨lcX10_joined, liX10, ⟨by decide +kernel, by decide +kernel⟩, by decide +kernel⟩
set_option maxRecDepth 100000 in
theorem lsX10_joined : Cond.static yX10_joined ∈ WT := WT_of (tbw_6 (List.mem_of_getElem? (i := 137) rfl)) rfl
set_option maxRecDepth 100000 in
theorem lcX10_same : Cond.code yX10_same cX10_same 2 (some .boolean) ∈ WT := WT_of (tbw_6 (List.mem_of_getElem? (i := 161) rfl)) rfl
theorem lkX10_same : LK yX10_same cX10_same 2 2 (some .boolean) := ⟨lcX10_same, liX10, ⟨by decide +kernel, by decide +kernel⟩, by decide +kernel⟩
set_option maxRecDepth 100000 in
theorem lsX10_same : Cond.static yX10_same ∈ WT := WT_of (tbw_6 (List.mem_of_getElem? (i := 160) rfl)) rfl
set_option maxRecDepth 100000 in
theorem lcX10_isAt : Cond.code yX10_isAt cX10_isAt 6 (some .boolean) ∈ WT := WT_of (tbw_7 (List.mem_of_getElem? (i := 86) rfl)) rfl
theorem lkX10_isAt : LK yX10_isAt cX10_isAt 6 4 (some .boolean) := ⟨lcX10_isAt, liX10, ⟨by decide +kernel, by decide +kernel⟩, by decide +kernel⟩
set_option maxRecDepth 100000 in
theorem lsX10_isAt : Cond.static yX10_isAt ∈ WT := WT_of (tbw_7 (List.mem_of_getElem? (i := 85) rfl)) rfl
set_option maxRecDepth 100000 in
theorem lcX10_first : Cond.code yX10_first cX10_first 3 (some .int) ∈ WT := WT_of (tbw_6 (List.mem_of_getElem? (i := 164) rfl)) rfl
theorem lkX10_first : LK yX10_first cX10_first 3 2 (some .int) := ⟨lcX10_first, liX10, ⟨by decide +kernel, by decide +kernel⟩, by decide +kernel⟩
set_option maxRecDepth 100000 in
theorem lsX10_first : Cond.static yX10_first ∈ WT := WT_of (tbw_6 (List.mem_of_getElem? (i := 163) rfl)) rfl
set_option maxRecDepth 100000 in
theorem lcX10_used : Cond.code yX10_used cX10_used 14 (some (.array .int)) ∈ WT := WT_of (tbw_6 (List.mem_of_getElem? (i := 196) rfl)) rfl
theorem lkX10_used : LK yX10_used cX10_used 14 2 (some (.array .int)) := ⟨lcX10_used, liX10, ⟨by decide +kernel, by decide +kernel⟩, by decide +kernel⟩
set_option maxRecDepth 100000 in
theorem lsX10_used : Cond.static yX10_used ∈ WT := WT_of (tbw_6 (List.mem_of_getElem? (i := 195) rfl)) rfl
set_option maxRecDepth 100000 in
theorem lcX10_movedBy : Cond.code yX10_movedBy cX10_movedBy 3 (some .int) ∈ WT := WT_of (tbw_6 (List.mem_of_getElem? (i := 235) rfl)) rfl
theorem lkX10_movedBy : LK yX10_movedBy cX10_movedBy 3 1 (some .int) := ⟨lcX10_movedBy, liX10, ⟨by decide +kernel, by decide +kernel⟩, by decide +kernel⟩
set_option maxRecDepth 100000 in
theorem lsX10_movedBy : Cond.static yX10_movedBy ∈ WT := WT_of (tbw_6 (List.mem_of_getElem? (i := 234) rfl)) rfl
set_option maxRecDepth 100000 in
theorem lcX10_ones : Cond.code yX10_ones cX10_ones 1 (some .int) ∈ WT := WT_of (tbw_6 (List.mem_of_getElem? (i := 206) rfl)) rfl
theorem lkX10_ones : LK yX10_ones cX10_ones 1 1 (some .int) := ⟨lcX10_ones, liX10, ⟨by decide +kernel, by decide +kernel⟩, by decide +kernel⟩
set_option maxRecDepth 100000 in
theorem lsX10_ones : Cond.static yX10_ones ∈ WT := WT_of (tbw_6 (List.mem_of_getElem? (i := 205) rfl)) rfl
set_option maxRecDepth 100000 in
theorem lcX10_namesOf : Cond.code yX10_namesOf cX10_namesOf 6 (some .int) ∈ WT := WT_of (tbw_6 (List.mem_of_getElem? (i := 203) rfl)) rfl
theorem lkX10_namesOf : LK yX10_namesOf cX10_namesOf 6 1 (some .int) := ⟨lcX10_namesOf, liX10, ⟨by decide +kernel, by decide +kernel⟩, by decide +kernel⟩
set_option maxRecDepth 100000 in
theorem lsX10_namesOf : Cond.static yX10_namesOf ∈ WT := WT_of (tbw_6 (List.mem_of_getElem? (i := 202) rfl)) rfl
set_option maxRecDepth 100000 in
theorem lcX10_depthOf : Cond.code yX10_depthOf cX10_depthOf 5 (some .int) ∈ WT := WT_of (tbw_7 (List.mem_of_getElem? (i := 178) rfl)) rfl
theorem lkX10_depthOf : LK yX10_depthOf cX10_depthOf 5 2 (some .int) := ⟨lcX10_depthOf, liX10, ⟨by decide +kernel, by decide +kernel⟩, by decide +kernel⟩
set_option maxRecDepth 100000 in
theorem lsX10_depthOf : Cond.static yX10_depthOf ∈ WT := WT_of (tbw_7 (List.mem_of_getElem? (i := 177) rfl)) rfl
set_option maxRecDepth 100000 in
theorem lcX10_sharedOf : Cond.code yX10_sharedOf cX10_sharedOf 4 (some .int) ∈ WT := WT_of (tbw_7 (List.mem_of_getElem? (i := 188) rfl)) rfl
theorem lkX10_sharedOf : LK yX10_sharedOf cX10_sharedOf 4 1 (some .int) := ⟨lcX10_sharedOf, liX10, ⟨by decide +kernel, by decide +kernel⟩, by decide +kernel⟩
set_option maxRecDepth 100000 in
theorem lsX10_sharedOf : Cond.static yX10_sharedOf ∈ WT := WT_of (tbw_7 (List.mem_of_getElem? (i := 187) rfl)) rfl
set_option maxRecDepth 100000 in
theorem lcX10_isMet : Cond.code yX10_isMet cX10_isMet 5 (some .boolean) ∈ WT := WT_of (tbw_7 (List.mem_of_getElem? (i := 191) rfl)) rfl
theorem lkX10_isMet : LK yX10_isMet cX10_isMet 5 3 (some .boolean) := ⟨lcX10_isMet, liX10, ⟨by decide +kernel, by decide +kernel⟩, by decide +kernel⟩
set_option maxRecDepth 100000 in
theorem lsX10_isMet : Cond.static yX10_isMet ∈ WT := WT_of (tbw_7 (List.mem_of_getElem? (i := 190) rfl)) rfl
set_option maxRecDepth 100000 in
theorem lcX10_plainOf : Cond.code yX10_plainOf cX10_plainOf 5 (some (.array .int)) ∈ WT := WT_of (tbw_6 (List.mem_of_getElem? (i := 214) rfl)) rfl
theorem lkX10_plainOf : LK yX10_plainOf cX10_plainOf 5 1 (some (.array .int)) := ⟨lcX10_plainOf, liX10, ⟨by decide +kernel, by decide +kernel⟩, by decide +kernel⟩
set_option maxRecDepth 100000 in
theorem lsX10_plainOf : Cond.static yX10_plainOf ∈ WT := WT_of (tbw_6 (List.mem_of_getElem? (i := 213) rfl)) rfl
set_option maxRecDepth 100000 in
theorem lcX10_commonOf : Cond.code yX10_commonOf cX10_commonOf 11 (some (.array .int)) ∈ WT := WT_of (tbw_6 (List.mem_of_getElem? (i := 228) rfl)) rfl
theorem lkX10_commonOf : LK yX10_commonOf cX10_commonOf 11 2 (some (.array .int)) := ⟨lcX10_commonOf, liX10, ⟨by decide +kernel, by decide +kernel⟩, by decide +kernel⟩
set_option maxRecDepth 100000 in
theorem lsX10_commonOf : Cond.static yX10_commonOf ∈ WT := WT_of (tbw_6 (List.mem_of_getElem? (i := 227) rfl)) rfl
set_option maxRecDepth 100000 in
theorem lcX10_matched : Cond.code yX10_matched cX10_matched 9 (some (.array (.array .int))) ∈ WT := WT_of (tbw_7 (List.mem_of_getElem? (i := 151) rfl)) rfl
theorem lkX10_matched : LK yX10_matched cX10_matched 9 2 (some (.array (.array .int))) := ⟨lcX10_matched, liX10, ⟨by decide +kernel, by decide +kernel⟩, by decide +kernel⟩
set_option maxRecDepth 100000 in
theorem lsX10_matched : Cond.static yX10_matched ∈ WT := WT_of (tbw_7 (List.mem_of_getElem? (i := 150) rfl)) rfl
set_option maxRecDepth 100000 in
theorem lcX10_isSlot : Cond.code yX10_isSlot cX10_isSlot 1 (some .boolean) ∈ WT := WT_of (tbw_6 (List.mem_of_getElem? (i := 117) rfl)) rfl
theorem lkX10_isSlot : LK yX10_isSlot cX10_isSlot 1 1 (some .boolean) := ⟨lcX10_isSlot, liX10, ⟨by decide +kernel, by decide +kernel⟩, by decide +kernel⟩
set_option maxRecDepth 100000 in
theorem lsX10_isSlot : Cond.static yX10_isSlot ∈ WT := WT_of (tbw_6 (List.mem_of_getElem? (i := 116) rfl)) rfl
set_option maxRecDepth 100000 in
theorem lcX10_isAnswer : Cond.code yX10_isAnswer cX10_isAnswer 1 (some .boolean) ∈ WT := WT_of (tbw_6 (List.mem_of_getElem? (i := 221) rfl)) rfl
theorem lkX10_isAnswer : LK yX10_isAnswer cX10_isAnswer 1 1 (some .boolean) := ⟨lcX10_isAnswer, liX10, ⟨by decide +kernel, by decide +kernel⟩, by decide +kernel⟩
set_option maxRecDepth 100000 in
theorem lsX10_isAnswer : Cond.static yX10_isAnswer ∈ WT := WT_of (tbw_6 (List.mem_of_getElem? (i := 220) rfl)) rfl
set_option maxRecDepth 100000 in
theorem lcX10_isName : Cond.code yX10_isName cX10_isName 1 (some .boolean) ∈ WT := WT_of (tbw_6 (List.mem_of_getElem? (i := 120) rfl)) rfl
theorem lkX10_isName : LK yX10_isName cX10_isName 1 1 (some .boolean) := ⟨lcX10_isName, liX10, ⟨by decide +kernel, by decide +kernel⟩, by decide +kernel⟩
set_option maxRecDepth 100000 in
theorem lsX10_isName : Cond.static yX10_isName ∈ WT := WT_of (tbw_6 (List.mem_of_getElem? (i := 119) rfl)) rfl
set_option maxRecDepth 100000 in
theorem lcX10_isThrown : Cond.code yX10_isThrown cX10_isThrown 3 (some .boolean) ∈ WT := WT_of (tbw_6 (List.mem_of_getElem? (i := 124) rfl)) rfl
theorem lkX10_isThrown : LK yX10_isThrown cX10_isThrown 3 2 (some .boolean) := ⟨lcX10_isThrown, liX10, ⟨by decide +kernel, by decide +kernel⟩, by decide +kernel⟩
set_option maxRecDepth 100000 in
theorem lmX10_isThrown : Cond.instanceMethod yX10_isThrown ∈ WT := WT_of (tbw_6 (List.mem_of_getElem? (i := 123) rfl)) rfl
set_option maxRecDepth 100000 in
theorem lcX10_isThrown_ : Cond.code yX10_isThrown_ cX10_isThrown_ 2 (some .boolean) ∈ WT := WT_of (tbw_6 (List.mem_of_getElem? (i := 154) rfl)) rfl
theorem lkX10_isThrown_ : LK yX10_isThrown_ cX10_isThrown_ 2 1 (some .boolean) := ⟨lcX10_isThrown_, liX10, ⟨by decide +kernel, by decide +kernel⟩, by decide +kernel⟩
set_option maxRecDepth 100000 in
theorem lmX10_isThrown_ : Cond.instanceMethod yX10_isThrown_ ∈ WT := WT_of (tbw_6 (List.mem_of_getElem? (i := 153) rfl)) rfl
set_option maxRecDepth 100000 in
theorem lcX10_done : Cond.code yX10_done cX10_done 2 (some .int) ∈ WT := WT_of (tbw_6 (List.mem_of_getElem? (i := 128) rfl)) rfl
theorem lkX10_done : LK yX10_done cX10_done 2 1 (some .int) := ⟨lcX10_done, liX10, ⟨by decide +kernel, by decide +kernel⟩, by decide +kernel⟩
set_option maxRecDepth 100000 in
theorem lmX10_done : Cond.instanceMethod yX10_done ∈ WT := WT_of (tbw_6 (List.mem_of_getElem? (i := 127) rfl)) rfl
set_option maxRecDepth 100000 in
theorem lcX10_no : Cond.code yX10_no cX10_no 1 (some .int) ∈ WT := WT_of (tbw_6 (List.mem_of_getElem? (i := 146) rfl)) rfl
theorem lkX10_no : LK yX10_no cX10_no 1 0 (some .int) := ⟨lcX10_no, liX10, ⟨by decide +kernel, by decide +kernel⟩, by decide +kernel⟩
set_option maxRecDepth 100000 in
theorem lmX10_no : Cond.instanceMethod yX10_no ∈ WT := WT_of (tbw_6 (List.mem_of_getElem? (i := 145) rfl)) rfl
set_option maxRecDepth 100000 in
theorem lcX10_give : Cond.code yX10_give cX10_give 3 (some .int) ∈ WT := WT_of (tbw_6 (List.mem_of_getElem? (i := 142) rfl)) rfl
theorem lkX10_give : LK yX10_give cX10_give 3 2 (some .int) := ⟨lcX10_give, liX10, ⟨by decide +kernel, by decide +kernel⟩, by decide +kernel⟩
set_option maxRecDepth 100000 in
theorem lmX10_give : Cond.instanceMethod yX10_give ∈ WT := WT_of (tbw_6 (List.mem_of_getElem? (i := 141) rfl)) rfl
set_option maxRecDepth 100000 in
theorem lcX10_isPlace : Cond.code yX10_isPlace cX10_isPlace 3 (some .boolean) ∈ WT := WT_of (tbw_6 (List.mem_of_getElem? (i := 173) rfl)) rfl
theorem lkX10_isPlace : LK yX10_isPlace cX10_isPlace 3 2 (some .boolean) := ⟨lcX10_isPlace, liX10, ⟨by decide +kernel, by decide +kernel⟩, by decide +kernel⟩
set_option maxRecDepth 100000 in
theorem lmX10_isPlace : Cond.instanceMethod yX10_isPlace ∈ WT := WT_of (tbw_6 (List.mem_of_getElem? (i := 172) rfl)) rfl
set_option maxRecDepth 100000 in
theorem lcX10_name : Cond.code yX10_name cX10_name 4 (some .int) ∈ WT := WT_of (tbw_6 (List.mem_of_getElem? (i := 114) rfl)) rfl
theorem lkX10_name : LK yX10_name cX10_name 4 2 (some .int) := ⟨lcX10_name, liX10, ⟨by decide +kernel, by decide +kernel⟩, by decide +kernel⟩
set_option maxRecDepth 100000 in
theorem lmX10_name : Cond.instanceMethod yX10_name ∈ WT := WT_of (tbw_6 (List.mem_of_getElem? (i := 112) rfl)) rfl
set_option maxRecDepth 100000 in
theorem lvX10_name : Cond.selects yX10_name.cls yX10_name yX10_name ∈ WT := WT_of (tbw_6 (List.mem_of_getElem? (i := 113) rfl)) rfl
set_option maxRecDepth 100000 in
theorem lcX10_head : Cond.code yX10_head cX10_head 9 (some .int) ∈ WT := WT_of (tbw_6 (List.mem_of_getElem? (i := 132) rfl)) rfl
theorem lkX10_head : LK yX10_head cX10_head 9 5 (some .int) := ⟨lcX10_head, liX10, ⟨by decide +kernel, by decide +kernel⟩, by decide +kernel⟩
set_option maxRecDepth 100000 in
theorem lmX10_head : Cond.instanceMethod yX10_head ∈ WT := WT_of (tbw_6 (List.mem_of_getElem? (i := 130) rfl)) rfl
set_option maxRecDepth 100000 in
theorem lvX10_head : Cond.selects yX10_head.cls yX10_head yX10_head ∈ WT := WT_of (tbw_6 (List.mem_of_getElem? (i := 131) rfl)) rfl
set_option maxRecDepth 100000 in
theorem lcX10_copy : Cond.code yX10_copy cX10_copy 3 (some .int) ∈ WT := WT_of (tbw_6 (List.mem_of_getElem? (i := 150) rfl)) rfl
theorem lkX10_copy : LK yX10_copy cX10_copy 3 2 (some .int) := ⟨lcX10_copy, liX10, ⟨by decide +kernel, by decide +kernel⟩, by decide +kernel⟩
set_option maxRecDepth 100000 in
theorem lmX10_copy : Cond.instanceMethod yX10_copy ∈ WT := WT_of (tbw_6 (List.mem_of_getElem? (i := 148) rfl)) rfl
set_option maxRecDepth 100000 in
theorem lvX10_copy : Cond.selects yX10_copy.cls yX10_copy yX10_copy ∈ WT := WT_of (tbw_6 (List.mem_of_getElem? (i := 149) rfl)) rfl
set_option maxRecDepth 100000 in
theorem lcX10_swap : Cond.code yX10_swap cX10_swap 5 (some .int) ∈ WT := WT_of (tbw_6 (List.mem_of_getElem? (i := 158) rfl)) rfl
theorem lkX10_swap : LK yX10_swap cX10_swap 5 2 (some .int) := ⟨lcX10_swap, liX10, ⟨by decide +kernel, by decide +kernel⟩, by decide +kernel⟩
set_option maxRecDepth 100000 in
theorem lmX10_swap : Cond.instanceMethod yX10_swap ∈ WT := WT_of (tbw_6 (List.mem_of_getElem? (i := 156) rfl)) rfl
set_option maxRecDepth 100000 in
theorem lvX10_swap : Cond.selects yX10_swap.cls yX10_swap yX10_swap ∈ WT := WT_of (tbw_6 (List.mem_of_getElem? (i := 157) rfl)) rfl
set_option maxRecDepth 100000 in
theorem lcX10_part : Cond.code yX10_part cX10_part 4 (some .int) ∈ WT := WT_of (tbw_6 (List.mem_of_getElem? (i := 169) rfl)) rfl
theorem lkX10_part : LK yX10_part cX10_part 4 3 (some .int) := ⟨lcX10_part, liX10, ⟨by decide +kernel, by decide +kernel⟩, by decide +kernel⟩
set_option maxRecDepth 100000 in
theorem lmX10_part : Cond.instanceMethod yX10_part ∈ WT := WT_of (tbw_6 (List.mem_of_getElem? (i := 167) rfl)) rfl
set_option maxRecDepth 100000 in
theorem lvX10_part : Cond.selects yX10_part.cls yX10_part yX10_part ∈ WT := WT_of (tbw_6 (List.mem_of_getElem? (i := 168) rfl)) rfl
set_option maxRecDepth 100000 in
theorem lcX10_graft : Cond.code yX10_graft cX10_graft 5 (some .int) ∈ WT := WT_of (tbw_6 (List.mem_of_getElem? (i := 186) rfl)) rfl
theorem lkX10_graft : LK yX10_graft cX10_graft 5 3 (some .int) := ⟨lcX10_graft, liX10, ⟨by decide +kernel, by decide +kernel⟩, by decide +kernel⟩
set_option maxRecDepth 100000 in
theorem lmX10_graft : Cond.instanceMethod yX10_graft ∈ WT := WT_of (tbw_6 (List.mem_of_getElem? (i := 184) rfl)) rfl
set_option maxRecDepth 100000 in
theorem lvX10_graft : Cond.selects yX10_graft.cls yX10_graft yX10_graft ∈ WT := WT_of (tbw_6 (List.mem_of_getElem? (i := 185) rfl)) rfl
set_option maxRecDepth 100000 in
theorem lcX10_often : Cond.code yX10_often cX10_often 7 (some .int) ∈ WT := WT_of (tbw_6 (List.mem_of_getElem? (i := 193) rfl)) rfl
theorem lkX10_often : LK yX10_often cX10_often 7 2 (some .int) := ⟨lcX10_often, liX10, ⟨by decide +kernel, by decide +kernel⟩, by decide +kernel⟩
set_option maxRecDepth 100000 in
theorem lsX10_often : Cond.static yX10_often ∈ WT := WT_of (tbw_6 (List.mem_of_getElem? (i := 192) rfl)) rfl
set_option maxRecDepth 100000 in
theorem lcX10_put : Cond.code yX10_put cX10_put 7 (some .int) ∈ WT := WT_of (tbw_6 (List.mem_of_getElem? (i := 190) rfl)) rfl
theorem lkX10_put : LK yX10_put cX10_put 7 3 (some .int) := ⟨lcX10_put, liX10, ⟨by decide +kernel, by decide +kernel⟩, by decide +kernel⟩
set_option maxRecDepth 100000 in
theorem lmX10_put : Cond.instanceMethod yX10_put ∈ WT := WT_of (tbw_6 (List.mem_of_getElem? (i := 188) rfl)) rfl
set_option maxRecDepth 100000 in
theorem lvX10_put : Cond.selects yX10_put.cls yX10_put yX10_put ∈ WT := WT_of (tbw_6 (List.mem_of_getElem? (i := 189) rfl)) rfl
set_option maxRecDepth 100000 in
theorem lcX10_shift : Cond.code yX10_shift cX10_shift 5 (some .int) ∈ WT := WT_of (tbw_6 (List.mem_of_getElem? (i := 200) rfl)) rfl
theorem lkX10_shift : LK yX10_shift cX10_shift 5 2 (some .int) := ⟨lcX10_shift, liX10, ⟨by decide +kernel, by decide +kernel⟩, by decide +kernel⟩
set_option maxRecDepth 100000 in
theorem lmX10_shift : Cond.instanceMethod yX10_shift ∈ WT := WT_of (tbw_6 (List.mem_of_getElem? (i := 198) rfl)) rfl
set_option maxRecDepth 100000 in
theorem lvX10_shift : Cond.selects yX10_shift.cls yX10_shift yX10_shift ∈ WT := WT_of (tbw_6 (List.mem_of_getElem? (i := 199) rfl)) rfl
set_option maxRecDepth 100000 in
theorem lcX10_plain : Cond.code yX10_plain cX10_plain 2 (some .int) ∈ WT := WT_of (tbw_6 (List.mem_of_getElem? (i := 211) rfl)) rfl
theorem lkX10_plain : LK yX10_plain cX10_plain 2 1 (some .int) := ⟨lcX10_plain, liX10, ⟨by decide +kernel, by decide +kernel⟩, by decide +kernel⟩
set_option maxRecDepth 100000 in
theorem lmX10_plain : Cond.instanceMethod yX10_plain ∈ WT := WT_of (tbw_6 (List.mem_of_getElem? (i := 209) rfl)) rfl
set_option maxRecDepth 100000 in
theorem lvX10_plain : Cond.selects yX10_plain.cls yX10_plain yX10_plain ∈ WT := WT_of (tbw_6 (List.mem_of_getElem? (i := 210) rfl)) rfl
set_option maxRecDepth 100000 in
theorem lcX10_use : Cond.code yX10_use cX10_use 4 (some .int) ∈ WT := WT_of (tbw_6 (List.mem_of_getElem? (i := 218) rfl)) rfl
theorem lkX10_use : LK yX10_use cX10_use 4 3 (some .int) := ⟨lcX10_use, liX10, ⟨by decide +kernel, by decide +kernel⟩, by decide +kernel⟩
set_option maxRecDepth 100000 in
theorem lmX10_use : Cond.instanceMethod yX10_use ∈ WT := WT_of (tbw_6 (List.mem_of_getElem? (i := 216) rfl)) rfl
set_option maxRecDepth 100000 in
theorem lvX10_use : Cond.selects yX10_use.cls yX10_use yX10_use ∈ WT := WT_of (tbw_6 (List.mem_of_getElem? (i := 217) rfl)) rfl
set_option maxRecDepth 100000 in
theorem lcX10_common : Cond.code yX10_common cX10_common 4 (some .int) ∈ WT := WT_of (tbw_6 (List.mem_of_getElem? (i := 225) rfl)) rfl
theorem lkX10_common : LK yX10_common cX10_common 4 3 (some .int) := ⟨lcX10_common, liX10, ⟨by decide +kernel, by decide +kernel⟩, by decide +kernel⟩
set_option maxRecDepth 100000 in
theorem lmX10_common : Cond.instanceMethod yX10_common ∈ WT := WT_of (tbw_6 (List.mem_of_getElem? (i := 223) rfl)) rfl
set_option maxRecDepth 100000 in
theorem lvX10_common : Cond.selects yX10_common.cls yX10_common yX10_common ∈ WT := WT_of (tbw_6 (List.mem_of_getElem? (i := 224) rfl)) rfl
set_option maxRecDepth 100000 in
theorem lcX10_forget : Cond.code yX10_forget cX10_forget 3 (some .int) ∈ WT := WT_of (tbw_6 (List.mem_of_getElem? (i := 232) rfl)) rfl
theorem lkX10_forget : LK yX10_forget cX10_forget 3 1 (some .int) := ⟨lcX10_forget, liX10, ⟨by decide +kernel, by decide +kernel⟩, by decide +kernel⟩
set_option maxRecDepth 100000 in
theorem lmX10_forget : Cond.instanceMethod yX10_forget ∈ WT := WT_of (tbw_6 (List.mem_of_getElem? (i := 230) rfl)) rfl
set_option maxRecDepth 100000 in
theorem lvX10_forget : Cond.selects yX10_forget.cls yX10_forget yX10_forget ∈ WT := WT_of (tbw_6 (List.mem_of_getElem? (i := 231) rfl)) rfl
set_option maxRecDepth 100000 in
theorem lcX10_tell : Cond.code yX10_tell cX10_tell 7 (some .int) ∈ WT := WT_of (tbw_6 (List.mem_of_getElem? (i := 239) rfl)) rfl
theorem lkX10_tell : LK yX10_tell cX10_tell 7 3 (some .int) := ⟨lcX10_tell, liX10, ⟨by decide +kernel, by decide +kernel⟩, by decide +kernel⟩
set_option maxRecDepth 100000 in
theorem lmX10_tell : Cond.instanceMethod yX10_tell ∈ WT := WT_of (tbw_6 (List.mem_of_getElem? (i := 237) rfl)) rfl
set_option maxRecDepth 100000 in
theorem lvX10_tell : Cond.selects yX10_tell.cls yX10_tell yX10_tell ∈ WT := WT_of (tbw_6 (List.mem_of_getElem? (i := 238) rfl)) rfl
set_option maxRecDepth 100000 in
theorem lcX10_become : Cond.code yX10_become cX10_become 3 (some .int) ∈ WT := WT_of (tbw_7 (List.mem_of_getElem? (i := 7) rfl)) rfl
theorem lkX10_become : LK yX10_become cX10_become 3 2 (some .int) := ⟨lcX10_become, liX10, ⟨by decide +kernel, by decide +kernel⟩, by decide +kernel⟩
set_option maxRecDepth 100000 in
theorem lmX10_become : Cond.instanceMethod yX10_become ∈ WT := WT_of (tbw_7 (List.mem_of_getElem? (i := 6) rfl)) rfl
set_option maxRecDepth 100000 in
theorem lcX10_take : Cond.code yX10_take cX10_take 3 (some .int) ∈ WT := WT_of (tbw_7 (List.mem_of_getElem? (i := 3) rfl)) rfl
theorem lkX10_take : LK yX10_take cX10_take 3 2 (some .int) := ⟨lcX10_take, liX10, ⟨by decide +kernel, by decide +kernel⟩, by decide +kernel⟩
set_option maxRecDepth 100000 in
theorem lmX10_take : Cond.instanceMethod yX10_take ∈ WT := WT_of (tbw_7 (List.mem_of_getElem? (i := 1) rfl)) rfl
set_option maxRecDepth 100000 in
theorem lvX10_take : Cond.selects yX10_take.cls yX10_take yX10_take ∈ WT := WT_of (tbw_7 (List.mem_of_getElem? (i := 2) rfl)) rfl
set_option maxRecDepth 100000 in
theorem lcX10_withBehind : Cond.code yX10_withBehind cX10_withBehind 4 (some (.array (.array .int))) ∈ WT := WT_of (tbw_7 (List.mem_of_getElem? (i := 14) rfl)) rfl
theorem lkX10_withBehind : LK yX10_withBehind cX10_withBehind 4 2 (some (.array (.array .int))) := ⟨lcX10_withBehind, liX10, ⟨by decide +kernel, by decide +kernel⟩, by decide +kernel⟩
set_option maxRecDepth 100000 in
theorem lsX10_withBehind : Cond.static yX10_withBehind ∈ WT := WT_of (tbw_7 (List.mem_of_getElem? (i := 13) rfl)) rfl
set_option maxRecDepth 100000 in
theorem lcX10_behind : Cond.code yX10_behind cX10_behind 9 (some .int) ∈ WT := WT_of (tbw_7 (List.mem_of_getElem? (i := 11) rfl)) rfl
theorem lkX10_behind : LK yX10_behind cX10_behind 9 3 (some .int) := ⟨lcX10_behind, liX10, ⟨by decide +kernel, by decide +kernel⟩, by decide +kernel⟩
set_option maxRecDepth 100000 in
theorem lmX10_behind : Cond.instanceMethod yX10_behind ∈ WT := WT_of (tbw_7 (List.mem_of_getElem? (i := 9) rfl)) rfl
set_option maxRecDepth 100000 in
theorem lvX10_behind : Cond.selects yX10_behind.cls yX10_behind yX10_behind ∈ WT := WT_of (tbw_7 (List.mem_of_getElem? (i := 10) rfl)) rfl
set_option maxRecDepth 100000 in
theorem lcX10_alike : Cond.code yX10_alike cX10_alike 6 (some .int) ∈ WT := WT_of (tbw_7 (List.mem_of_getElem? (i := 18) rfl)) rfl
theorem lkX10_alike : LK yX10_alike cX10_alike 6 4 (some .int) := ⟨lcX10_alike, liX10, ⟨by decide +kernel, by decide +kernel⟩, by decide +kernel⟩
set_option maxRecDepth 100000 in
theorem lmX10_alike : Cond.instanceMethod yX10_alike ∈ WT := WT_of (tbw_7 (List.mem_of_getElem? (i := 16) rfl)) rfl
set_option maxRecDepth 100000 in
theorem lvX10_alike : Cond.selects yX10_alike.cls yX10_alike yX10_alike ∈ WT := WT_of (tbw_7 (List.mem_of_getElem? (i := 17) rfl)) rfl
set_option maxRecDepth 100000 in
theorem lcX10_match : Cond.code yX10_match cX10_match 5 (some .int) ∈ WT := WT_of (tbw_7 (List.mem_of_getElem? (i := 148) rfl)) rfl
theorem lkX10_match : LK yX10_match cX10_match 5 3 (some .int) := ⟨lcX10_match, liX10, ⟨by decide +kernel, by decide +kernel⟩, by decide +kernel⟩
set_option maxRecDepth 100000 in
theorem lmX10_match : Cond.instanceMethod yX10_match ∈ WT := WT_of (tbw_7 (List.mem_of_getElem? (i := 146) rfl)) rfl
set_option maxRecDepth 100000 in
theorem lvX10_match : Cond.selects yX10_match.cls yX10_match yX10_match ∈ WT := WT_of (tbw_7 (List.mem_of_getElem? (i := 147) rfl)) rfl
set_option maxRecDepth 100000 in
theorem lcX10_textOf : Cond.code yX10_textOf cX10_textOf 6 (some (.object "java/lang/String")) ∈ WT := WT_of (tbw_7 (List.mem_of_getElem? (i := 159) rfl)) rfl
theorem lkX10_textOf : LK yX10_textOf cX10_textOf 6 2 (some (.object "java/lang/String")) := ⟨lcX10_textOf, liX10, ⟨by decide +kernel, by decide +kernel⟩, by decide +kernel⟩
set_option maxRecDepth 100000 in
theorem lsX10_textOf : Cond.static yX10_textOf ∈ WT := WT_of (tbw_7 (List.mem_of_getElem? (i := 158) rfl)) rfl
set_option maxRecDepth 100000 in
theorem lcX10_text : Cond.code yX10_text cX10_text 2 (some (.object "java/lang/String")) ∈ WT := WT_of (tbw_7 (List.mem_of_getElem? (i := 155) rfl)) rfl
theorem lkX10_text : LK yX10_text cX10_text 2 1 (some (.object "java/lang/String")) := ⟨lcX10_text, liX10, ⟨by decide +kernel, by decide +kernel⟩, by decide +kernel⟩
set_option maxRecDepth 100000 in
theorem lmX10_text : Cond.instanceMethod yX10_text ∈ WT := WT_of (tbw_7 (List.mem_of_getElem? (i := 153) rfl)) rfl
set_option maxRecDepth 100000 in
theorem lvX10_text : Cond.selects yX10_text.cls yX10_text yX10_text ∈ WT := WT_of (tbw_7 (List.mem_of_getElem? (i := 154) rfl)) rfl
set_option maxRecDepth 100000 in
theorem lcX10_size : Cond.code yX10_size cX10_size 2 (some .int) ∈ WT := WT_of (tbw_7 (List.mem_of_getElem? (i := 171) rfl)) rfl
theorem lkX10_size : LK yX10_size cX10_size 2 1 (some .int) := ⟨lcX10_size, liX10, ⟨by decide +kernel, by decide +kernel⟩, by decide +kernel⟩
set_option maxRecDepth 100000 in
theorem lmX10_size : Cond.instanceMethod yX10_size ∈ WT := WT_of (tbw_7 (List.mem_of_getElem? (i := 169) rfl)) rfl
set_option maxRecDepth 100000 in
theorem lvX10_size : Cond.selects yX10_size.cls yX10_size yX10_size ∈ WT := WT_of (tbw_7 (List.mem_of_getElem? (i := 170) rfl)) rfl
set_option maxRecDepth 100000 in
theorem lcX10_depth : Cond.code yX10_depth cX10_depth 2 (some .int) ∈ WT := WT_of (tbw_7 (List.mem_of_getElem? (i := 175) rfl)) rfl
theorem lkX10_depth : LK yX10_depth cX10_depth 2 1 (some .int) := ⟨lcX10_depth, liX10, ⟨by decide +kernel, by decide +kernel⟩, by decide +kernel⟩
set_option maxRecDepth 100000 in
theorem lmX10_depth : Cond.instanceMethod yX10_depth ∈ WT := WT_of (tbw_7 (List.mem_of_getElem? (i := 173) rfl)) rfl
set_option maxRecDepth 100000 in
theorem lvX10_depth : Cond.selects yX10_depth.cls yX10_depth yX10_depth ∈ WT := WT_of (tbw_7 (List.mem_of_getElem? (i := 174) rfl)) rfl
set_option maxRecDepth 100000 in
theorem lcX10_sharedOf_ : Cond.code yX10_sharedOf_ cX10_sharedOf_ 1 (some .int) ∈ WT := WT_of (tbw_7 (List.mem_of_getElem? (i := 185) rfl)) rfl
theorem lkX10_sharedOf_ : LK yX10_sharedOf_ cX10_sharedOf_ 1 1 (some .int) := ⟨lcX10_sharedOf_, liX10, ⟨by decide +kernel, by decide +kernel⟩, by decide +kernel⟩
set_option maxRecDepth 100000 in
theorem lsX10_sharedOf_ : Cond.static yX10_sharedOf_ ∈ WT := WT_of (tbw_7 (List.mem_of_getElem? (i := 184) rfl)) rfl
set_option maxRecDepth 100000 in
theorem lcX10_shared : Cond.code yX10_shared cX10_shared 2 (some .int) ∈ WT := WT_of (tbw_7 (List.mem_of_getElem? (i := 182) rfl)) rfl
theorem lkX10_shared : LK yX10_shared cX10_shared 2 1 (some .int) := ⟨lcX10_shared, liX10, ⟨by decide +kernel, by decide +kernel⟩, by decide +kernel⟩
set_option maxRecDepth 100000 in
theorem lmX10_shared : Cond.instanceMethod yX10_shared ∈ WT := WT_of (tbw_7 (List.mem_of_getElem? (i := 180) rfl)) rfl
set_option maxRecDepth 100000 in
theorem lvX10_shared : Cond.selects yX10_shared.cls yX10_shared yX10_shared ∈ WT := WT_of (tbw_7 (List.mem_of_getElem? (i := 181) rfl)) rfl
set_option maxRecDepth 100000 in
theorem lcX10_letter : Cond.code yX10_letter cX10_letter 3 (some .int) ∈ WT := WT_of (tbw_7 (List.mem_of_getElem? (i := 196) rfl)) rfl
theorem lkX10_letter : LK yX10_letter cX10_letter 3 2 (some .int) := ⟨lcX10_letter, liX10, ⟨by decide +kernel, by decide +kernel⟩, by decide +kernel⟩
set_option maxRecDepth 100000 in
theorem lmX10_letter : Cond.instanceMethod yX10_letter ∈ WT := WT_of (tbw_7 (List.mem_of_getElem? (i := 194) rfl)) rfl
set_option maxRecDepth 100000 in
theorem lvX10_letter : Cond.selects yX10_letter.cls yX10_letter yX10_letter ∈ WT := WT_of (tbw_7 (List.mem_of_getElem? (i := 195) rfl)) rfl
set_option maxRecDepth 100000 in
theorem lcX10_sizeAt : Cond.code yX10_sizeAt cX10_sizeAt 3 (some .int) ∈ WT := WT_of (tbw_7 (List.mem_of_getElem? (i := 200) rfl)) rfl
theorem lkX10_sizeAt : LK yX10_sizeAt cX10_sizeAt 3 2 (some .int) := ⟨lcX10_sizeAt, liX10, ⟨by decide +kernel, by decide +kernel⟩, by decide +kernel⟩
set_option maxRecDepth 100000 in
theorem lmX10_sizeAt : Cond.instanceMethod yX10_sizeAt ∈ WT := WT_of (tbw_7 (List.mem_of_getElem? (i := 198) rfl)) rfl
set_option maxRecDepth 100000 in
theorem lvX10_sizeAt : Cond.selects yX10_sizeAt.cls yX10_sizeAt yX10_sizeAt ∈ WT := WT_of (tbw_7 (List.mem_of_getElem? (i := 199) rfl)) rfl
set_option maxRecDepth 100000 in
theorem lcX10_count : Cond.code yX10_count cX10_count 3 (some .int) ∈ WT := WT_of (tbw_7 (List.mem_of_getElem? (i := 204) rfl)) rfl
theorem lkX10_count : LK yX10_count cX10_count 3 2 (some .int) := ⟨lcX10_count, liX10, ⟨by decide +kernel, by decide +kernel⟩, by decide +kernel⟩
set_option maxRecDepth 100000 in
theorem lmX10_count : Cond.instanceMethod yX10_count ∈ WT := WT_of (tbw_7 (List.mem_of_getElem? (i := 202) rfl)) rfl
set_option maxRecDepth 100000 in
theorem lvX10_count : Cond.selects yX10_count.cls yX10_count yX10_count ∈ WT := WT_of (tbw_7 (List.mem_of_getElem? (i := 203) rfl)) rfl
set_option maxRecDepth 100000 in
theorem lcX10_names : Cond.code yX10_names cX10_names 2 (some .int) ∈ WT := WT_of (tbw_7 (List.mem_of_getElem? (i := 208) rfl)) rfl
theorem lkX10_names : LK yX10_names cX10_names 2 1 (some .int) := ⟨lcX10_names, liX10, ⟨by decide +kernel, by decide +kernel⟩, by decide +kernel⟩
set_option maxRecDepth 100000 in
theorem lmX10_names : Cond.instanceMethod yX10_names ∈ WT := WT_of (tbw_7 (List.mem_of_getElem? (i := 206) rfl)) rfl
set_option maxRecDepth 100000 in
theorem lvX10_names : Cond.selects yX10_names.cls yX10_names yX10_names ∈ WT := WT_of (tbw_7 (List.mem_of_getElem? (i := 207) rfl)) rfl
set_option maxRecDepth 100000 in
theorem lcX10_find : Cond.code yX10_find cX10_find 4 (some .int) ∈ WT := WT_of (tbw_7 (List.mem_of_getElem? (i := 212) rfl)) rfl
theorem lkX10_find : LK yX10_find cX10_find 4 2 (some .int) := ⟨lcX10_find, liX10, ⟨by decide +kernel, by decide +kernel⟩, by decide +kernel⟩
set_option maxRecDepth 100000 in
theorem lmX10_find : Cond.instanceMethod yX10_find ∈ WT := WT_of (tbw_7 (List.mem_of_getElem? (i := 210) rfl)) rfl
set_option maxRecDepth 100000 in
theorem lvX10_find : Cond.selects yX10_find.cls yX10_find yX10_find ∈ WT := WT_of (tbw_7 (List.mem_of_getElem? (i := 211) rfl)) rfl
set_option maxRecDepth 100000 in
theorem lcX10_differ : Cond.code yX10_differ cX10_differ 3 (some .int) ∈ WT := WT_of (tbw_7 (List.mem_of_getElem? (i := 216) rfl)) rfl
theorem lkX10_differ : LK yX10_differ cX10_differ 3 2 (some .int) := ⟨lcX10_differ, liX10, ⟨by decide +kernel, by decide +kernel⟩, by decide +kernel⟩
set_option maxRecDepth 100000 in
theorem lmX10_differ : Cond.instanceMethod yX10_differ ∈ WT := WT_of (tbw_7 (List.mem_of_getElem? (i := 214) rfl)) rfl
set_option maxRecDepth 100000 in
theorem lvX10_differ : Cond.selects yX10_differ.cls yX10_differ yX10_differ ∈ WT := WT_of (tbw_7 (List.mem_of_getElem? (i := 215) rfl)) rfl
set_option maxRecDepth 100000 in
theorem lcX10_is : Cond.code yX10_is cX10_is 4 (some .boolean) ∈ WT := WT_of (tbw_7 (List.mem_of_getElem? (i := 220) rfl)) rfl
theorem lkX10_is : LK yX10_is cX10_is 4 3 (some .boolean) := ⟨lcX10_is, liX10, ⟨by decide +kernel, by decide +kernel⟩, by decide +kernel⟩
set_option maxRecDepth 100000 in
theorem lmX10_is : Cond.instanceMethod yX10_is ∈ WT := WT_of (tbw_7 (List.mem_of_getElem? (i := 218) rfl)) rfl
set_option maxRecDepth 100000 in
theorem lvX10_is : Cond.selects yX10_is.cls yX10_is yX10_is ∈ WT := WT_of (tbw_7 (List.mem_of_getElem? (i := 219) rfl)) rfl
set_option maxRecDepth 100000 in
theorem lcX10_canBe : Cond.code yX10_canBe cX10_canBe 3 (some .boolean) ∈ WT := WT_of (tbw_7 (List.mem_of_getElem? (i := 21) rfl)) rfl
theorem lkX10_canBe : LK yX10_canBe cX10_canBe 3 3 (some .boolean) := ⟨lcX10_canBe, liX10, ⟨by decide +kernel, by decide +kernel⟩, by decide +kernel⟩
set_option maxRecDepth 100000 in
theorem lsX10_canBe : Cond.static yX10_canBe ∈ WT := WT_of (tbw_7 (List.mem_of_getElem? (i := 20) rfl)) rfl
set_option maxRecDepth 100000 in
theorem lcX10_can : Cond.code yX10_can cX10_can 4 (some .boolean) ∈ WT := WT_of (tbw_7 (List.mem_of_getElem? (i := 224) rfl)) rfl
theorem lkX10_can : LK yX10_can cX10_can 4 3 (some .boolean) := ⟨lcX10_can, liX10, ⟨by decide +kernel, by decide +kernel⟩, by decide +kernel⟩
set_option maxRecDepth 100000 in
theorem lmX10_can : Cond.instanceMethod yX10_can ∈ WT := WT_of (tbw_7 (List.mem_of_getElem? (i := 222) rfl)) rfl
set_option maxRecDepth 100000 in
theorem lvX10_can : Cond.selects yX10_can.cls yX10_can yX10_can ∈ WT := WT_of (tbw_7 (List.mem_of_getElem? (i := 223) rfl)) rfl
set_option maxRecDepth 100000 in
theorem lcX10_steps : Cond.code yX10_steps cX10_steps 3 (some .int) ∈ WT := WT_of (tbw_7 (List.mem_of_getElem? (i := 228) rfl)) rfl
theorem lkX10_steps : LK yX10_steps cX10_steps 3 2 (some .int) := ⟨lcX10_steps, liX10, ⟨by decide +kernel, by decide +kernel⟩, by decide +kernel⟩
set_option maxRecDepth 100000 in
theorem lmX10_steps : Cond.instanceMethod yX10_steps ∈ WT := WT_of (tbw_7 (List.mem_of_getElem? (i := 226) rfl)) rfl
set_option maxRecDepth 100000 in
theorem lvX10_steps : Cond.selects yX10_steps.cls yX10_steps yX10_steps ∈ WT := WT_of (tbw_7 (List.mem_of_getElem? (i := 227) rfl)) rfl
set_option maxRecDepth 100000 in
theorem lcX10_why : Cond.code yX10_why cX10_why 3 (some .int) ∈ WT := WT_of (tbw_7 (List.mem_of_getElem? (i := 232) rfl)) rfl
theorem lkX10_why : LK yX10_why cX10_why 3 2 (some .int) := ⟨lcX10_why, liX10, ⟨by decide +kernel, by decide +kernel⟩, by decide +kernel⟩
set_option maxRecDepth 100000 in
theorem lmX10_why : Cond.instanceMethod yX10_why ∈ WT := WT_of (tbw_7 (List.mem_of_getElem? (i := 230) rfl)) rfl
set_option maxRecDepth 100000 in
theorem lvX10_why : Cond.selects yX10_why.cls yX10_why yX10_why ∈ WT := WT_of (tbw_7 (List.mem_of_getElem? (i := 231) rfl)) rfl
set_option maxRecDepth 100000 in
theorem lcX10_told : Cond.code yX10_told cX10_told 3 (some (.object "java/lang/String")) ∈ WT := WT_of (tbw_7 (List.mem_of_getElem? (i := 236) rfl)) rfl
theorem lkX10_told : LK yX10_told cX10_told 3 2 (some (.object "java/lang/String")) := ⟨lcX10_told, liX10, ⟨by decide +kernel, by decide +kernel⟩, by decide +kernel⟩
set_option maxRecDepth 100000 in
theorem lmX10_told : Cond.instanceMethod yX10_told ∈ WT := WT_of (tbw_7 (List.mem_of_getElem? (i := 234) rfl)) rfl
set_option maxRecDepth 100000 in
theorem lvX10_told : Cond.selects yX10_told.cls yX10_told yX10_told ∈ WT := WT_of (tbw_7 (List.mem_of_getElem? (i := 235) rfl)) rfl
set_option maxRecDepth 100000 in
theorem lcX10_moved : Cond.code yX10_moved cX10_moved 2 (some .int) ∈ WT := WT_of (tbw_8 (List.mem_of_getElem? (i := 0) rfl)) rfl
theorem lkX10_moved : LK yX10_moved cX10_moved 2 1 (some .int) := ⟨lcX10_moved, liX10, ⟨by decide +kernel, by decide +kernel⟩, by decide +kernel⟩
set_option maxRecDepth 100000 in
theorem lmX10_moved : Cond.instanceMethod yX10_moved ∈ WT := WT_of (tbw_7 (List.mem_of_getElem? (i := 238) rfl)) rfl
set_option maxRecDepth 100000 in
theorem lvX10_moved : Cond.selects yX10_moved.cls yX10_moved yX10_moved ∈ WT := WT_of (tbw_7 (List.mem_of_getElem? (i := 239) rfl)) rfl
set_option maxRecDepth 100000 in
theorem lcX10_makes : Cond.code yX10_makes cX10_makes 4 (some .boolean) ∈ WT := WT_of (tbw_8 (List.mem_of_getElem? (i := 4) rfl)) rfl
theorem lkX10_makes : LK yX10_makes cX10_makes 4 3 (some .boolean) := ⟨lcX10_makes, liX10, ⟨by decide +kernel, by decide +kernel⟩, by decide +kernel⟩
set_option maxRecDepth 100000 in
theorem lmX10_makes : Cond.instanceMethod yX10_makes ∈ WT := WT_of (tbw_8 (List.mem_of_getElem? (i := 2) rfl)) rfl
set_option maxRecDepth 100000 in
theorem lvX10_makes : Cond.selects yX10_makes.cls yX10_makes yX10_makes ∈ WT := WT_of (tbw_8 (List.mem_of_getElem? (i := 3) rfl)) rfl
set_option maxRecDepth 100000 in
theorem lcX10_unlikeOf : Cond.code yX10_unlikeOf cX10_unlikeOf 3 (some .int) ∈ WT := WT_of (tbw_8 (List.mem_of_getElem? (i := 11) rfl)) rfl
theorem lkX10_unlikeOf : LK yX10_unlikeOf cX10_unlikeOf 3 2 (some .int) := ⟨lcX10_unlikeOf, liX10, ⟨by decide +kernel, by decide +kernel⟩, by decide +kernel⟩
set_option maxRecDepth 100000 in
theorem lsX10_unlikeOf : Cond.static yX10_unlikeOf ∈ WT := WT_of (tbw_8 (List.mem_of_getElem? (i := 10) rfl)) rfl
set_option maxRecDepth 100000 in
theorem lcX10_isSo : Cond.code yX10_isSo cX10_isSo 9 (some .boolean) ∈ WT := WT_of (tbw_8 (List.mem_of_getElem? (i := 8) rfl)) rfl
theorem lkX10_isSo : LK yX10_isSo cX10_isSo 9 2 (some .boolean) := ⟨lcX10_isSo, liX10, ⟨by decide +kernel, by decide +kernel⟩, by decide +kernel⟩
set_option maxRecDepth 100000 in
theorem lmX10_isSo : Cond.instanceMethod yX10_isSo ∈ WT := WT_of (tbw_8 (List.mem_of_getElem? (i := 6) rfl)) rfl
set_option maxRecDepth 100000 in
theorem lvX10_isSo : Cond.selects yX10_isSo.cls yX10_isSo yX10_isSo ∈ WT := WT_of (tbw_8 (List.mem_of_getElem? (i := 7) rfl)) rfl
set_option maxRecDepth 100000 in
theorem lcX10_unlike : Cond.code yX10_unlike cX10_unlike 3 (some .int) ∈ WT := WT_of (tbw_8 (List.mem_of_getElem? (i := 15) rfl)) rfl
theorem lkX10_unlike : LK yX10_unlike cX10_unlike 3 2 (some .int) := ⟨lcX10_unlike, liX10, ⟨by decide +kernel, by decide +kernel⟩, by decide +kernel⟩
set_option maxRecDepth 100000 in
theorem lmX10_unlike : Cond.instanceMethod yX10_unlike ∈ WT := WT_of (tbw_8 (List.mem_of_getElem? (i := 13) rfl)) rfl
set_option maxRecDepth 100000 in
theorem lvX10_unlike : Cond.selects yX10_unlike.cls yX10_unlike yX10_unlike ∈ WT := WT_of (tbw_8 (List.mem_of_getElem? (i := 14) rfl)) rfl
set_option maxRecDepth 100000 in
theorem lcX10_weight : Cond.code yX10_weight cX10_weight 8 (some .int) ∈ WT := WT_of (tbw_8 (List.mem_of_getElem? (i := 19) rfl)) rfl
theorem lkX10_weight : LK yX10_weight cX10_weight 8 2 (some .int) := ⟨lcX10_weight, liX10, ⟨by decide +kernel, by decide +kernel⟩, by decide +kernel⟩
set_option maxRecDepth 100000 in
theorem lmX10_weight : Cond.instanceMethod yX10_weight ∈ WT := WT_of (tbw_8 (List.mem_of_getElem? (i := 17) rfl)) rfl
set_option maxRecDepth 100000 in
theorem lvX10_weight : Cond.selects yX10_weight.cls yX10_weight yX10_weight ∈ WT := WT_of (tbw_8 (List.mem_of_getElem? (i := 18) rfl)) rfl
set_option maxRecDepth 100000 in
theorem lcX10_told_ : Cond.code yX10_told_ cX10_told_ 7 (some .int) ∈ WT := WT_of (tbw_8 (List.mem_of_getElem? (i := 27) rfl)) rfl
theorem lkX10_told_ : LK yX10_told_ cX10_told_ 7 1 (some .int) := ⟨lcX10_told_, liX10, ⟨by decide +kernel, by decide +kernel⟩, by decide +kernel⟩
set_option maxRecDepth 100000 in
theorem lmX10_told_ : Cond.instanceMethod yX10_told_ ∈ WT := WT_of (tbw_8 (List.mem_of_getElem? (i := 26) rfl)) rfl
set_option maxRecDepth 100000 in
theorem lcX10_house : Cond.code yX10_house cX10_house 2 (some .int) ∈ WT := WT_of (tbw_8 (List.mem_of_getElem? (i := 23) rfl)) rfl
theorem lkX10_house : LK yX10_house cX10_house 2 1 (some .int) := ⟨lcX10_house, liX10, ⟨by decide +kernel, by decide +kernel⟩, by decide +kernel⟩
set_option maxRecDepth 100000 in
theorem lmX10_house : Cond.instanceMethod yX10_house ∈ WT := WT_of (tbw_8 (List.mem_of_getElem? (i := 21) rfl)) rfl
set_option maxRecDepth 100000 in
theorem lvX10_house : Cond.selects yX10_house.cls yX10_house yX10_house ∈ WT := WT_of (tbw_8 (List.mem_of_getElem? (i := 22) rfl)) rfl
set_option maxRecDepth 100000 in
theorem lcX10_knock : Cond.code yX10_knock cX10_knock 1 (some .int) ∈ WT := WT_of (tbw_8 (List.mem_of_getElem? (i := 31) rfl)) rfl
theorem lkX10_knock : LK yX10_knock cX10_knock 1 0 (some .int) := ⟨lcX10_knock, liX10, ⟨by decide +kernel, by decide +kernel⟩, by decide +kernel⟩
set_option maxRecDepth 100000 in
theorem lmX10_knock : Cond.instanceMethod yX10_knock ∈ WT := WT_of (tbw_8 (List.mem_of_getElem? (i := 29) rfl)) rfl
set_option maxRecDepth 100000 in
theorem lvX10_knock : Cond.selects yX10_knock.cls yX10_knock yX10_knock ∈ WT := WT_of (tbw_8 (List.mem_of_getElem? (i := 30) rfl)) rfl
set_option maxRecDepth 100000 in
theorem lcX10_isSound : Cond.code yX10_isSound cX10_isSound 1 (some .boolean) ∈ WT := WT_of (tbw_8 (List.mem_of_getElem? (i := 35) rfl)) rfl
theorem lkX10_isSound : LK yX10_isSound cX10_isSound 1 0 (some .boolean) := ⟨lcX10_isSound, liX10, ⟨by decide +kernel, by decide +kernel⟩, by decide +kernel⟩
set_option maxRecDepth 100000 in
theorem lmX10_isSound : Cond.instanceMethod yX10_isSound ∈ WT := WT_of (tbw_8 (List.mem_of_getElem? (i := 33) rfl)) rfl
set_option maxRecDepth 100000 in
theorem lvX10_isSound : Cond.selects yX10_isSound.cls yX10_isSound yX10_isSound ∈ WT := WT_of (tbw_8 (List.mem_of_getElem? (i := 34) rfl)) rfl
set_option maxRecDepth 100000 in
theorem lcX10_add : Cond.code yX10_add cX10_add 4 (some .long) ∈ WT := WT_of (tbw_8 (List.mem_of_getElem? (i := 43) rfl)) rfl
theorem lkX10_add : LK yX10_add cX10_add 4 2 (some .long) := ⟨lcX10_add, liX10, ⟨by decide +kernel, by decide +kernel⟩, by decide +kernel⟩
set_option maxRecDepth 100000 in
theorem lsX10_add : Cond.static yX10_add ∈ WT := WT_of (tbw_8 (List.mem_of_getElem? (i := 42) rfl)) rfl
set_option maxRecDepth 100000 in
theorem lcX10_added : Cond.code yX10_added cX10_added 9 (some .long) ∈ WT := WT_of (tbw_8 (List.mem_of_getElem? (i := 47) rfl)) rfl
theorem lkX10_added : LK yX10_added cX10_added 9 2 (some .long) := ⟨lcX10_added, liX10, ⟨by decide +kernel, by decide +kernel⟩, by decide +kernel⟩
set_option maxRecDepth 100000 in
theorem lsX10_added : Cond.static yX10_added ∈ WT := WT_of (tbw_8 (List.mem_of_getElem? (i := 46) rfl)) rfl
set_option maxRecDepth 100000 in
theorem lcX10_digest : Cond.code yX10_digest cX10_digest 9 (some .long) ∈ WT := WT_of (tbw_8 (List.mem_of_getElem? (i := 39) rfl)) rfl
theorem lkX10_digest : LK yX10_digest cX10_digest 9 0 (some .long) := ⟨lcX10_digest, liX10, ⟨by decide +kernel, by decide +kernel⟩, by decide +kernel⟩
set_option maxRecDepth 100000 in
theorem lmX10_digest : Cond.instanceMethod yX10_digest ∈ WT := WT_of (tbw_8 (List.mem_of_getElem? (i := 37) rfl)) rfl
set_option maxRecDepth 100000 in
theorem lvX10_digest : Cond.selects yX10_digest.cls yX10_digest yX10_digest ∈ WT := WT_of (tbw_8 (List.mem_of_getElem? (i := 38) rfl)) rfl
set_option maxRecDepth 100000 in
theorem mlX10_20 : Cond.methodLink RX10 20 yX10_row ∈ WT := WT_of (tbw_6 (List.mem_of_getElem? (i := 82) rfl)) rfl
set_option maxRecDepth 100000 in
theorem mlX10_24 : Cond.methodLink RX10 24 yX10_none ∈ WT := WT_of (tbw_6 (List.mem_of_getElem? (i := 85) rfl)) rfl
set_option maxRecDepth 100000 in
theorem mlX10_95 : Cond.methodLink RX10 95 yX10_isSlot ∈ WT := WT_of (tbw_6 (List.mem_of_getElem? (i := 115) rfl)) rfl
set_option maxRecDepth 100000 in
theorem mlX10_99 : Cond.methodLink RX10 99 yX10_isName ∈ WT := WT_of (tbw_6 (List.mem_of_getElem? (i := 118) rfl)) rfl
set_option maxRecDepth 100000 in
theorem mlX10_78 : Cond.methodLink RX10 78 yX10_isThrown ∈ WT := WT_of (tbw_6 (List.mem_of_getElem? (i := 121) rfl)) rfl
set_option maxRecDepth 100000 in
theorem mlX10_92 : Cond.methodLink RX10 92 yX10_done ∈ WT := WT_of (tbw_6 (List.mem_of_getElem? (i := 125) rfl)) rfl
set_option maxRecDepth 100000 in
theorem mlX10_32 : Cond.methodLink RX10 32 yX10_parts ∈ WT := WT_of (tbw_6 (List.mem_of_getElem? (i := 133) rfl)) rfl
set_option maxRecDepth 100000 in
theorem mlX10_102 : Cond.methodLink RX10 102 yX10_joined ∈ WT := WT_of (tbw_6 (List.mem_of_getElem? (i := 136) rfl)) rfl
set_option maxRecDepth 100000 in
theorem mlX10_106 : Cond.methodLink RX10 106 yX10_give ∈ WT := WT_of (tbw_6 (List.mem_of_getElem? (i := 139) rfl)) rfl
set_option maxRecDepth 100000 in
theorem mlX10_88 : Cond.methodLink RX10 88 yX10_no ∈ WT := WT_of (tbw_6 (List.mem_of_getElem? (i := 143) rfl)) rfl
set_option maxRecDepth 100000 in
theorem mlX10_110 : Cond.methodLink RX10 110 yX10_isThrown_ ∈ WT := WT_of (tbw_6 (List.mem_of_getElem? (i := 151) rfl)) rfl
set_option maxRecDepth 100000 in
theorem mlX10_54 : Cond.methodLink RX10 54 yX10_same ∈ WT := WT_of (tbw_6 (List.mem_of_getElem? (i := 159) rfl)) rfl
set_option maxRecDepth 100000 in
theorem mlX10_44 : Cond.methodLink RX10 44 yX10_first ∈ WT := WT_of (tbw_6 (List.mem_of_getElem? (i := 162) rfl)) rfl
set_option maxRecDepth 100000 in
theorem mlX10_48 : Cond.methodLink RX10 48 yJ9_max_7cf53 ∈ WT := WT_of (tbw_6 (List.mem_of_getElem? (i := 165) rfl)) rfl
set_option maxRecDepth 100000 in
theorem mlX10_113 : Cond.methodLink RX10 113 yX10_isPlace ∈ WT := WT_of (tbw_6 (List.mem_of_getElem? (i := 170) rfl)) rfl
set_option maxRecDepth 100000 in
theorem mlX10_74 : Cond.methodLink RX10 74 yX10_at ∈ WT := WT_of (tbw_6 (List.mem_of_getElem? (i := 174) rfl)) rfl
set_option maxRecDepth 100000 in
theorem mlX10_36 : Cond.methodLink RX10 36 yX10_end ∈ WT := WT_of (tbw_6 (List.mem_of_getElem? (i := 177) rfl)) rfl
set_option maxRecDepth 100000 in
theorem mlX10_40 : Cond.methodLink RX10 40 yX10_piece ∈ WT := WT_of (tbw_6 (List.mem_of_getElem? (i := 180) rfl)) rfl
set_option maxRecDepth 100000 in
theorem mlX10_117 : Cond.methodLink RX10 117 yX10_often ∈ WT := WT_of (tbw_6 (List.mem_of_getElem? (i := 191) rfl)) rfl
set_option maxRecDepth 100000 in
theorem mlX10_120 : Cond.methodLink RX10 120 yX10_used ∈ WT := WT_of (tbw_6 (List.mem_of_getElem? (i := 194) rfl)) rfl
set_option maxRecDepth 100000 in
theorem mlX10_124 : Cond.methodLink RX10 124 yX10_namesOf ∈ WT := WT_of (tbw_6 (List.mem_of_getElem? (i := 201) rfl)) rfl
set_option maxRecDepth 100000 in
theorem mlX10_128 : Cond.methodLink RX10 128 yX10_ones ∈ WT := WT_of (tbw_6 (List.mem_of_getElem? (i := 204) rfl)) rfl
set_option maxRecDepth 100000 in
theorem mlX10_58 : Cond.methodLink RX10 58 yJ6_bitCount_0f7a4 ∈ WT := WT_of (tbw_6 (List.mem_of_getElem? (i := 207) rfl)) rfl
set_option maxRecDepth 100000 in
theorem mlX10_131 : Cond.methodLink RX10 131 yX10_plainOf ∈ WT := WT_of (tbw_6 (List.mem_of_getElem? (i := 212) rfl)) rfl
set_option maxRecDepth 100000 in
theorem mlX10_135 : Cond.methodLink RX10 135 yX10_isAnswer ∈ WT := WT_of (tbw_6 (List.mem_of_getElem? (i := 219) rfl)) rfl
set_option maxRecDepth 100000 in
theorem mlX10_138 : Cond.methodLink RX10 138 yX10_commonOf ∈ WT := WT_of (tbw_6 (List.mem_of_getElem? (i := 226) rfl)) rfl
set_option maxRecDepth 100000 in
theorem mlX10_141 : Cond.methodLink RX10 141 yX10_movedBy ∈ WT := WT_of (tbw_6 (List.mem_of_getElem? (i := 233) rfl)) rfl
set_option maxRecDepth 100000 in
theorem mlX10_145 : Cond.methodLink RX10 145 yX10_become ∈ WT := WT_of (tbw_7 (List.mem_of_getElem? (i := 4) rfl)) rfl
set_option maxRecDepth 100000 in
theorem mlX10_149 : Cond.methodLink RX10 149 yX10_withBehind ∈ WT := WT_of (tbw_7 (List.mem_of_getElem? (i := 12) rfl)) rfl
set_option maxRecDepth 100000 in
theorem mlX10_153 : Cond.methodLink RX10 153 yX10_canBe ∈ WT := WT_of (tbw_7 (List.mem_of_getElem? (i := 19) rfl)) rfl
set_option maxRecDepth 100000 in
theorem mlX10_159 : Cond.methodLink RX10 159 yX9_init ∈ WT := WT_of (tbw_7 (List.mem_of_getElem? (i := 24) rfl)) rfl
set_option maxRecDepth 100000 in
theorem mlX10_167 : Cond.methodLink RX10 167 yX8_init ∈ WT := WT_of (tbw_7 (List.mem_of_getElem? (i := 68) rfl)) rfl
set_option maxRecDepth 100000 in
theorem mlX10_162 : Cond.methodLink RX10 162 yX9_answer ∈ WT := WT_of (tbw_7 (List.mem_of_getElem? (i := 122) rfl)) rfl
set_option maxRecDepth 100000 in
theorem mlX10_168 : Cond.methodLink RX10 168 yX8_answer ∈ WT := WT_of (tbw_7 (List.mem_of_getElem? (i := 133) rfl)) rfl
set_option maxRecDepth 100000 in
theorem mlX10_169 : Cond.methodLink RX10 169 yX10_matched ∈ WT := WT_of (tbw_7 (List.mem_of_getElem? (i := 149) rfl)) rfl
set_option maxRecDepth 100000 in
theorem mlX10_193 : Cond.methodLink RX10 193 yX10_textOf ∈ WT := WT_of (tbw_7 (List.mem_of_getElem? (i := 157) rfl)) rfl
set_option maxRecDepth 100000 in
theorem mlX10_175 : Cond.methodLink RX10 175 yJ4_init_da8c8 ∈ WT := WT_of (tbw_7 (List.mem_of_getElem? (i := 161) rfl)) rfl
set_option maxRecDepth 100000 in
theorem mlX10_178 : Cond.methodLink RX10 178 yJ4_append_15ec4 ∈ WT := WT_of (tbw_7 (List.mem_of_getElem? (i := 162) rfl)) rfl
set_option maxRecDepth 100000 in
theorem mlX10_182 : Cond.methodLink RX10 182 yJ4_append_cf468 ∈ WT := WT_of (tbw_7 (List.mem_of_getElem? (i := 163) rfl)) rfl
set_option maxRecDepth 100000 in
theorem mlX10_185 : Cond.methodLink RX10 185 yJ4_toString_0e30d ∈ WT := WT_of (tbw_7 (List.mem_of_getElem? (i := 164) rfl)) rfl
set_option maxRecDepth 100000 in
theorem mlX10_63 : Cond.methodLink RX10 63 yX10_depthOf ∈ WT := WT_of (tbw_7 (List.mem_of_getElem? (i := 176) rfl)) rfl
set_option maxRecDepth 100000 in
theorem mlX10_202 : Cond.methodLink RX10 202 yX10_sharedOf_ ∈ WT := WT_of (tbw_7 (List.mem_of_getElem? (i := 183) rfl)) rfl
set_option maxRecDepth 100000 in
theorem mlX10_199 : Cond.methodLink RX10 199 yX10_sharedOf ∈ WT := WT_of (tbw_7 (List.mem_of_getElem? (i := 186) rfl)) rfl
set_option maxRecDepth 100000 in
theorem mlX10_66 : Cond.methodLink RX10 66 yX10_isMet ∈ WT := WT_of (tbw_7 (List.mem_of_getElem? (i := 189) rfl)) rfl
set_option maxRecDepth 100000 in
theorem mlX10_70 : Cond.methodLink RX10 70 yX10_isAt ∈ WT := WT_of (tbw_7 (List.mem_of_getElem? (i := 192) rfl)) rfl
set_option maxRecDepth 100000 in
theorem mlX10_214 : Cond.methodLink RX10 214 yX10_unlikeOf ∈ WT := WT_of (tbw_8 (List.mem_of_getElem? (i := 9) rfl)) rfl
set_option maxRecDepth 100000 in
theorem mlX10_221 : Cond.methodLink RX10 221 yX10_told_ ∈ WT := WT_of (tbw_8 (List.mem_of_getElem? (i := 24) rfl)) rfl
set_option maxRecDepth 100000 in
theorem mlX10_226 : Cond.methodLink RX10 226 yX10_add ∈ WT := WT_of (tbw_8 (List.mem_of_getElem? (i := 41) rfl)) rfl
set_option maxRecDepth 100000 in
theorem mlX10_232 : Cond.methodLink RX10 232 yX10_added ∈ WT := WT_of (tbw_8 (List.mem_of_getElem? (i := 45) rfl)) rfl
set_option maxRecDepth 100000 in
theorem mlX8_31 : Cond.methodLink RX8 31 yX8_come ∈ WT := WT_of (tbw_7 (List.mem_of_getElem? (i := 74) rfl)) rfl
set_option maxRecDepth 100000 in
theorem mlX8_43 : Cond.methodLink RX8 43 yX8_number ∈ WT := WT_of (tbw_7 (List.mem_of_getElem? (i := 80) rfl)) rfl
set_option maxRecDepth 100000 in
theorem mlX8_50 : Cond.methodLink RX8 50 yX8_join ∈ WT := WT_of (tbw_7 (List.mem_of_getElem? (i := 88) rfl)) rfl
set_option maxRecDepth 100000 in
theorem mlX8_66 : Cond.methodLink RX8 66 yX8_headed ∈ WT := WT_of (tbw_7 (List.mem_of_getElem? (i := 92) rfl)) rfl
set_option maxRecDepth 100000 in
theorem mlX8_54 : Cond.methodLink RX8 54 yX8_isRound ∈ WT := WT_of (tbw_7 (List.mem_of_getElem? (i := 96) rfl)) rfl
set_option maxRecDepth 100000 in
theorem mlX8_69 : Cond.methodLink RX8 69 yX8_isFree ∈ WT := WT_of (tbw_7 (List.mem_of_getElem? (i := 100) rfl)) rfl
set_option maxRecDepth 100000 in
theorem mlX8_83 : Cond.methodLink RX8 83 yX8_whole ∈ WT := WT_of (tbw_7 (List.mem_of_getElem? (i := 138) rfl)) rfl
set_option maxRecDepth 100000 in
theorem mlX8_73 : Cond.methodLink RX8 73 yJ9_min_7cf53 ∈ WT := WT_of (tbw_7 (List.mem_of_getElem? (i := 142) rfl)) rfl
set_option maxRecDepth 100000 in
theorem mlX9_17 : Cond.methodLink RX9 17 yX9_go ∈ WT := WT_of (tbw_7 (List.mem_of_getElem? (i := 29) rfl)) rfl
set_option maxRecDepth 100000 in
theorem mlX9_32 : Cond.methodLink RX9 32 yX9_deep ∈ WT := WT_of (tbw_7 (List.mem_of_getElem? (i := 33) rfl)) rfl
set_option maxRecDepth 100000 in
theorem mlX9_36 : Cond.methodLink RX9 36 yJ9_max_7cf53 ∈ WT := WT_of (tbw_7 (List.mem_of_getElem? (i := 37) rfl)) rfl
set_option maxRecDepth 100000 in
theorem mlX9_42 : Cond.methodLink RX9 42 yX9_bind ∈ WT := WT_of (tbw_7 (List.mem_of_getElem? (i := 38) rfl)) rfl
set_option maxRecDepth 100000 in
theorem mlX9_49 : Cond.methodLink RX9 49 yX9_isWithin ∈ WT := WT_of (tbw_7 (List.mem_of_getElem? (i := 42) rfl)) rfl
set_option maxRecDepth 100000 in
theorem mlX9_46 : Cond.methodLink RX9 46 yX9_goOn ∈ WT := WT_of (tbw_7 (List.mem_of_getElem? (i := 47) rfl)) rfl
set_option maxRecDepth 100000 in
theorem mlX9_77 : Cond.methodLink RX9 77 yX9_whole ∈ WT := WT_of (tbw_7 (List.mem_of_getElem? (i := 127) rfl)) rfl
end U15linkM
section U16m1
/-! THE REFERENCE'S SMALL METHODS -/
/-- room by the depth of calls -/
def rmD (d k n : Nat) : Room := { frames := d, cells := k, slots := n, locals := 40 * d }
def vI (x : Nat) : Value := .int (nI x)
/-- an array of small whole numbers -/
def IA (xs : List Nat) : AC := (100, xs.map vI)
theorem IA_get {xs : List Nat} {j x : Nat} (h : xs[j]? = some x) : (xs.map vI)[j]? = some (vI x) := by rw [List.getElem?_map, h]; rfl
theorem inA_nI {vs : List Value} {j : Nat} {v : Value} (hj : j < 2 ^ 31) (h : vs[j]? = some v) : inA (nI j) vs v := ⟨nI_pos hj, by rw [nI_clamp hj]; exact h⟩
/-- how many parts a letter has -/
def pF (x : Nat) : Nat := if x < 10 then 0 else (x - 10) / 2
/-- how many letters the first 'need' terms of a row take -/
def endL : Nat → List Nat → Option Nat
  | 0, _ => some 0
  | _ + 1, [] => none
  | n + 1, x :: r => (endL (n + pF x) r).map (· + 1)
theorem nI_10 : (Int8.ofInt 10).toInt32 = nI 10 := by decide +kernel
theorem nI_2 : Int32.ofInt 2 = nI 2 := by decide +kernel
theorem nI_1' : Int32.ofInt 1 = nI 1 := by decide +kernel
theorem nI_0' : Int32.ofInt 0 = nI 0 := by decide +kernel
theorem nI_sub {a b : Nat} (h : b ≤ a) : nI a - nI b = nI (a - b) := by
  have e : nI a = nI (a - b) + nI b := by rw [nI_add, Nat.sub_add_cancel h]
  rw [e, Int32.add_sub_cancel]
theorem nI_div {a b : Nat} (ha : a < 2 ^ 31) (hb : b < 2 ^ 31) (hb0 : 0 < b) : nI a / nI b = nI (a / b) := by
  have hd : a / b < 2 ^ 31 := Nat.lt_of_le_of_lt (Nat.div_le_self a b) ha
  apply Int32.toInt_inj.mp
  rw [Int32.toInt_div, nI_toInt ha, nI_toInt hb, nI_toInt hd, Int.tdiv_eq_ediv_of_nonneg (by omega), ← Int.natCast_ediv]
  generalize a / b = q at hd ⊢
  exact Int.bmod_eq_of_le (by omega) (by omega)
section WSL
variable {p : Program} {la : Launch} {e : Env} {R : Room} {s : State} {m : MethodId} {args : Array Value} {below : List Frame} {meth : Method} {c : Code} {Q : State → Prop} {D : va_G} {cA : Nat → ClassId} {B0 nL : Nat}
theorem WS.loc {pc k n : Nat} {l l' : List (Nat × Value)} {st : List Value} {h : AH} (ks : List Nat) (hl : lv_pick l ks = l') (kk : WS p la e R s m args below meth c Q D cA B0 nL pc l' st h k n) : WS p la e R s m args below meth c Q D cA B0 nL pc l st h k n :=
  fun H locs ls hH hls => kk H locs ls hH (lv_sub hls ks hl)
end WSL
section M1
variable {la : Launch} {D : va_G} {cA : Nat → ClassId} {B0 pa : Nat}
set_option maxHeartbeats 4000000 in
theorem c_parts (h : AH) {x : Nat} (hx : x < 2 ^ 20) : CT la D cA B0 pa yX10_parts cX10_parts 1 (some .int) (rmD 0 0 0) [vI x] h (fun v h' => v = some (vI (pF x)) ∧ h' = h) := by
  refine CT_of (by decide +kernel) (Nat.le_of_ble_eq_true rfl) ?_
  intro p e s m args below meth c X E hr hk hn
  have dk : ∀ {pc : Nat} {q : Instr × Nat}, lkd DX10_parts pc = some q → decode cX10_parts pc = .ok q := lkd_ok DX10_parts_ok
  repeat refine fst1_ok X (dk rfl) rfl ?_
  refine br_ok X (dk rfl) rfl (show ((3 : Nat) : Int) + 7 = ((10 : Nat) : Int) from rfl) (fun c1 => ?_) (fun c1 => ?_)
  · rw [nI_10] at c1
    have hge : 10 ≤ x := (nI_leI (by omega) (by omega)).mp c1
    repeat refine fst1_ok X (dk rfl) rfl ?_
    refine reti_ok X hr hk rfl (dk rfl) ⟨?_, rfl⟩ (Nat.le_refl _) (Nat.le_refl _)
    rw [nI_10, nI_2, nI_sub hge, nI_div (by omega) (by omega) (by omega)]
    simp [vI, pF, Nat.not_lt.mpr hge]
  · rw [nI_10] at c1
    have hlt : x < 10 := by
      rcases Nat.lt_or_ge x 10 with q | q
      · exact q
      · exact absurd ((nI_leI (by omega) (by omega)).mpr q) c1
    repeat refine fst1_ok X (dk rfl) rfl ?_
    refine br_ok X (dk rfl) rfl (show ((7 : Nat) : Int) + 9 = ((16 : Nat) : Int) from rfl) (fun _ => ?_) (fun q => absurd trivial q)
    refine reti_ok X hr hk rfl (dk rfl) ⟨?_, rfl⟩ (Nat.le_refl _) (Nat.le_refl _)
    simp [vI, pF, hlt, nI]
theorem pF_le (x : Nat) (hx : x < 2 ^ 20) : pF x < 2 ^ 20 := by unfold pF; split <;> omega
theorem nI_ngt0 {n : Nat} (h : n < 2 ^ 31) (c : ¬ nI n ≤ Int32.ofInt 0) : 0 < n := by
  rcases Nat.eq_zero_or_pos n with q | q
  · subst q; exact absurd (by decide) c
  · exact q
theorem nI_le0 {n : Nat} (h : n < 2 ^ 31) (c : nI n ≤ 0) : n = 0 := by
  rcases Nat.eq_zero_or_pos n with q | q
  · exact q
  · exact absurd c (nI_nle q h)
set_option maxHeartbeats 4000000 in
theorem c_end (h : AH) {a at' k : Nat} {xs : List Nat} (ha : h a = some (IA xs)) (hx : ∀ x ∈ xs, x < 2 ^ 10) (hn : xs.length < 2 ^ 10) (hk : endL 1 (xs.drop at') = some k) : CT la D cA B0 pa yX10_end cX10_end 4 (some .int) (rmD 1 0 0) [.ref a, vI at'] h (fun v h' => v = some (vI (at' + k)) ∧ h' = h) := by
  refine CT_of (by decide +kernel) (Nat.le_of_ble_eq_true rfl) ?_
  intro p e s m args below meth c X E hr hlk hnm
  have dk : ∀ {pc : Nat} {q : Instr × Nat}, lkd DX10_end pc = some q → decode cX10_end pc = .ok q := lkd_ok DX10_end_ok
  have loop : ∀ (ys : List Nat) (nd pl j : Nat), xs.drop pl = ys → endL nd ys = some j → pl + j = at' + k → nd + ys.length * 2 ^ 10 < 2 ^ 25 → WS p la e (rmD 1 0 0) s m args below meth c (MQ below (QC D cA B0 (fun v h' => v = some (vI (at' + k)) ∧ h' = h)) args s (rmD 1 0 0).cells (rmD 1 0 0).slots (fun q : Nat => B0 ≤ q)) D cA B0 4 4 [(3, vI nd), (2, vI pl), (0, .ref a), (1, vI at')] [] h 0 0 := by
    intro ys
    induction ys with
    | nil =>
      intro nd pl j hd hj hpj hb
      cases nd with
      | succ nd => simp [endL] at hj
      | zero =>
        simp only [endL, Option.some.injEq] at hj
        subst hj
        repeat refine fst1_ok X (dk rfl) rfl ?_
        refine br_ok X (dk rfl) rfl (show ((5 : Nat) : Int) + 20 = ((25 : Nat) : Int) from rfl) (fun c1 => ?_) (fun c1 => absurd (show nI 0 ≤ 0 by decide) c1)
        repeat refine fst1_ok X (dk rfl) rfl ?_
        exact reti_ok X hr hlk rfl (dk rfl) ⟨by rw [← hpj]; rfl, rfl⟩ (Nat.le_refl _) (Nat.le_refl _)
    | cons y r ih =>
      intro nd pl j hd hj hpj hb
      have hlt : pl < xs.length := by
        rcases Nat.lt_or_ge pl xs.length with q | q
        · exact q
        · rw [List.drop_eq_nil_of_le q] at hd; cases hd
      have hy : xs[pl]? = some y := by
        have := congrArg (fun l : List Nat => l[0]?) hd
        simpa using this
      have hr' : xs.drop (pl + 1) = r := by
        have := congrArg List.tail hd
        simpa using this
      have hyx : y < 2 ^ 10 := hx y (List.mem_of_getElem? hy)
      repeat refine fst1_ok X (dk rfl) rfl ?_
      cases nd with
      | zero =>
        simp only [endL, Option.some.injEq] at hj
        subst hj
        refine br_ok X (dk rfl) rfl (show ((5 : Nat) : Int) + 20 = ((25 : Nat) : Int) from rfl) (fun c1 => ?_) (fun c1 => absurd (show nI 0 ≤ 0 by decide) c1)
        repeat refine fst1_ok X (dk rfl) rfl ?_
        exact reti_ok X hr hlk rfl (dk rfl) ⟨by rw [← hpj]; rfl, rfl⟩ (Nat.le_refl _) (Nat.le_refl _)
      | succ nd =>
        have hln : (y :: r).length = r.length + 1 := rfl
        rw [hln] at hb
        refine br_ok X (dk rfl) rfl (show ((5 : Nat) : Int) + 20 = ((25 : Nat) : Int) from rfl) (fun c1 => absurd c1 (nI_nle (Nat.succ_pos nd) (by omega))) (fun c1 => ?_)
        simp only [endL, Option.map_eq_some_iff] at hj
        obtain ⟨j', hj', rfl⟩ := hj
        repeat refine fst1_ok X (dk rfl) rfl ?_
        refine ald_ok X (Or.inl ⟨rfl, rfl⟩) (dk rfl) ha (inA_nI (by omega) (IA_get hy)) ?_
        refine callS_ok (av := [vI y]) (r := [vI (nd + 1)]) X E (c_parts h (by omega)) lkX10_parts mlX10_32 lsX10_parts ⟨by decide, by decide⟩ ⟨by decide, by decide⟩ (Nat.le_of_ble_eq_true rfl) (dk rfl) ?_
        rintro v h' ⟨rfl, rfl⟩
        repeat refine fst1_ok X (dk rfl) rfl ?_
        refine br_ok X (dk rfl) rfl (show ((22 : Nat) : Int) + (-18) = ((4 : Nat) : Int) from rfl) (fun _ => ?_) (fun q => absurd trivial q)
        have hpF : pF y < 2 ^ 10 := by unfold pF; split <;> omega
        have e1 : nI (nd + 1) + (nI (pF y) - Int32.ofInt 1) = nI (nd + pF y) := by
          rw [nI_1', ← nI_add, show nI nd + nI 1 + (nI (pF y) - nI 1) = nI nd + nI (pF y) by rw [Int32.add_assoc, Int32.add_comm (nI 1), Int32.sub_add_cancel]]
          exact nI_add _ _
        have f1 : Value.int (nI (nd + 1) + (nI (pF y) - Int32.ofInt 1)) = vI (nd + pF y) := congrArg Value.int e1
        have e2 : nI pl + Int32.ofInt 1 = nI (pl + 1) := by rw [nI_1', nI_add]
        have f2 : Value.int (nI pl + Int32.ofInt 1) = vI (pl + 1) := congrArg Value.int e2
        refine WS.loc (l' := [(3, vI (nd + pF y)), (2, vI (pl + 1)), (0, .ref a), (1, vI at')]) [1, 0, 2, 3] (by rw [← f1, ← f2]; rfl) ?_
        exact ih (nd + pF y) (pl + 1) j' hr' hj' (by omega) (by omega)
  iterate 4 refine fst1_ok X (dk rfl) rfl ?_
  exact loop (xs.drop at') 1 at' k rfl hk rfl (by rw [List.length_drop]; omega)
end M1
end U16m1
section U17m2
/-! rows that are made and filled -/
set_option maxRecDepth 100000 in
theorem wi_int : Cond.arrayClass (newarray.typeOf .int) ∈ WT := WT_of (by decide +kernel) rfl
set_option maxRecDepth 100000 in
theorem wi_bool : Cond.arrayClass (newarray.typeOf .boolean) ∈ WT := WT_of (by decide +kernel) rfl
theorem hup_hup (h : AH) (q : Nat) (c c' : AC) : hup (hup h q c) q c' = hup h q c' := by
  funext b
  by_cases e : b = q <;> simp [hup, e]
def fillV (ys : List Nat) (j : Nat) : List Value := (ys.take j).map vI ++ List.replicate (ys.length - j) (.int 0)
theorem fill_0 (ys : List Nat) : fillV ys 0 = List.replicate ys.length (.int 0) := by simp [fillV]
theorem fill_end (ys : List Nat) : fillV ys ys.length = ys.map vI := by simp [fillV]
theorem fill_len (ys : List Nat) {j : Nat} (h : j ≤ ys.length) : (fillV ys j).length = ys.length := by simp [fillV]; omega
theorem fill_set {ys : List Nat} {j y : Nat} (h : ys[j]? = some y) : (fillV ys j).set j (vI y) = fillV ys (j + 1) := by
  have hl : j < ys.length := (List.getElem?_eq_some_iff.mp h).1
  have hy : ys[j] = y := (List.getElem?_eq_some_iff.mp h).2
  have e1 : ys.take (j + 1) = ys.take j ++ [y] := by rw [List.take_succ, h]; rfl
  have e2 : ys.length - j = (ys.length - (j + 1)) + 1 := by omega
  unfold fillV
  rw [e1, e2, List.replicate_succ, List.set_append_right _ _ (by simp; omega), List.map_append, List.append_assoc]
  have e3 : j - ((ys.take j).map vI).length = 0 := by simp; omega
  rw [e3]
  rfl
/-- a new array, nothing else -/
def newA (B0 : Nat) (h : AH) (ys : List Nat) (v : Option Value) (h' : AH) : Prop := ∃ q : Nat, v = some (.ref q) ∧ h q = none ∧ B0 ≤ q ∧ h' = hup h q (IA ys)
abbrev WR (p : Program) (la : Launch) (e : Env) (rm : Room) (s : State) (m : MethodId) (args : Array Value) (below : List Frame) (meth : Method) (c : Code) (D : va_G) (cA : Nat → ClassId) (B0 nL : Nat) (post : Option Value → AH → Prop)
    (pc : Nat) (l : List (Nat × Value)) (st : List Value) (h : AH) (k n : Nat) : Prop := WS p la e rm s m args below meth c (MQ below (QC D cA B0 post) args s rm.cells rm.slots (fun q : Nat => B0 ≤ q)) D cA B0 nL pc l st h k n
section M2
variable {p : Program} {la : Launch} {e : Env} {R : Room} {s : State} {m : MethodId} {args : Array Value} {below : List Frame} {meth : Method} {c : Code} {Q : State → Prop}
variable {D : va_G} {cA : Nat → ClassId} {B0 pa nL : Nat} {cc : ByteArray} {own : String} {pc k n : Nat} {l : List (Nat × Value)} {r : List Value} {h : AH}
theorem newI_ok (X : CX p s m args c D cA B0 nL cc own) {N : Nat} (hN : N ≤ 1000) (hd : decode cc pc = .ok (.newarray .int, 2)) (hr1 : k + 1 ≤ R.cells) (hr2 : n + N ≤ R.slots)
    (kk : ∀ q : Nat, h q = none → B0 ≤ q → WS p la e R s m args below meth c Q D cA B0 nL (pc + 2) l (.ref q :: r) (hup h q (100, List.replicate N (.int 0))) (k + 1) (n + N)) : WS p la e R s m args below meth c Q D cA B0 nL pc l (.int (nI N) :: r) h k n := by
  have e : (nI N).toNatClampNeg = N := nI_clamp (by omega)
  refine newa_ok X (Or.inl ⟨rfl, rfl⟩) wi_int hd (nI_pos (by omega)) (by rw [e]; exact hN) hr1 (by rw [e]; exact hr2) ?_
  rw [e]
  exact kk
/-- a store in an int array -/
theorem sti_ok (X : CX p s m args c D cA B0 nL cc own) {a : Nat} {vs : List Value} {j : Nat} {x : Int32} (hd : decode cc pc = .ok (.iastore, 1)) (ha : h a = some (100, vs)) (hj : j < vs.length) (hl : vs.length < 2 ^ 31)
    (kk : WS p la e R s m args below meth c Q D cA B0 nL (pc + 1) l r (hup h a (100, vs.set j (.int x))) k n) : WS p la e R s m args below meth c Q D cA B0 nL pc l (.int x :: .int (nI j) :: .ref a :: r) h k n := by
  have e : (nI j).toNatClampNeg = j := nI_clamp (by omega)
  refine ast_ok X (Or.inl ⟨rfl, rfl, x, rfl⟩) hd ha ⟨nI_pos (by omega), by rw [e]; exact hj⟩ ?_
  rw [e]
  exact kk
end M2
section M3
variable {la : Launch} {D : va_G} {cA : Nat → ClassId} {B0 pa : Nat}
set_option maxHeartbeats 4000000 in
theorem c_row (h : AH) (x : Nat) : CT la D cA B0 pa yX10_row cX10_row 1 (some (.array .int)) (rmD 0 1 1) [vI x] h (newA B0 h [x]) := by
  refine CT_of (by decide +kernel) (Nat.le_of_ble_eq_true rfl) ?_
  intro p e s m args below meth c X E hr hlk hnm
  have dk : ∀ {pc : Nat} {q : Instr × Nat}, lkd DX10_row pc = some q → decode cX10_row pc = .ok q := lkd_ok DX10_row_ok
  repeat refine fst1_ok X (dk rfl) rfl ?_
  refine newI_ok (N := 1) X (by decide) (dk rfl) (by decide) (by decide) (fun q hq hB => ?_)
  repeat refine fst1_ok X (dk rfl) rfl ?_
  refine sti_ok (j := 0) X (dk rfl) (hup_self _ _ _) (by decide) (by decide) ?_
  rw [hup_hup]
  exact reta_ok X hr hlk (Or.inr ⟨_, rfl⟩) (Or.inr ⟨_, rfl⟩) (dk rfl) ⟨q, rfl, hq, hB, rfl⟩ (Nat.le_refl _) (Nat.le_refl _)
set_option maxHeartbeats 4000000 in
theorem c_piece (h : AH) {a f t : Nat} {xs ys : List Nat} (ha : h a = some (IA xs)) (hft : f ≤ t) (ht : t ≤ xs.length) (hn : xs.length < 2 ^ 9) (hy : ys = (xs.drop f).take (t - f)) : CT la D cA B0 pa yX10_piece cX10_piece 5 (some (.array .int)) (rmD 0 1 (t - f)) [.ref a, vI f, vI t] h (newA B0 h ys) := by
  refine CT_of (by decide +kernel) (Nat.le_of_ble_eq_true rfl) ?_
  intro p e s m args below meth c X E hr hlk hnm
  have dk : ∀ {pc : Nat} {q : Instr × Nat}, lkd DX10_piece pc = some q → decode cX10_piece pc = .ok q := lkd_ok DX10_piece_ok
  have hyl : ys.length = t - f := by rw [hy]; simp; omega
  have hyj : ∀ j, j < t - f → ∃ y, ys[j]? = some y ∧ xs[f + j]? = some y := by
    intro j hj
    have h1 : f + j < xs.length := by omega
    refine ⟨xs[f + j], ?_, by simp [h1]⟩
    rw [hy, List.getElem?_take, if_pos hj, List.getElem?_drop]
    simp [h1]
  repeat refine fst1_ok X (dk rfl) rfl ?_
  rw [show nI t - nI f = nI (t - f) from nI_sub hft]
  refine newI_ok (N := t - f) X (by omega) (dk rfl) (by show 0 + 1 ≤ 1; omega) (by show 0 + (t - f) ≤ t - f; omega) (fun q hq hB => ?_)
  have haq : a ≠ q := fun z => by rw [z, hq] at ha; cases ha
  have loop : ∀ (d j : Nat), d = t - f - j → j ≤ t - f → WR p la e (rmD 0 1 (t - f)) s m args below meth c D cA B0 5 (newA B0 h ys) 9 [(4, vI j), (3, .ref q), (0, .ref a), (1, vI f), (2, vI t)] [] (hup h q (100, fillV ys j)) (0 + 1) (0 + (t - f)) := by
    intro d
    induction d with
    | zero =>
      intro j hd hj
      have hj2 : j = t - f := by omega
      subst hj2
      repeat refine fst1_ok X (dk rfl) rfl ?_
      refine alen_ok X (by decide) (dk rfl) (hup_self _ _ _) ?_
      rw [fill_len _ (by omega), hyl]
      refine br_ok X (dk rfl) rfl (show ((13 : Nat) : Int) + 19 = ((32 : Nat) : Int) from rfl) (fun c1 => ?_) (fun c1 => absurd (Int32.le_refl _) c1)
      repeat refine fst1_ok X (dk rfl) rfl ?_
      refine reta_ok X hr hlk (Or.inr ⟨_, rfl⟩) (Or.inr ⟨_, rfl⟩) (dk rfl) ⟨q, rfl, hq, hB, ?_⟩ (by show 0 + 1 ≤ 1; omega) (by show 0 + (t - f) ≤ t - f; omega)
      rw [← hyl, fill_end]
      rfl
    | succ d ih =>
      intro j hd hj
      obtain ⟨y, hy1, hy2⟩ := hyj j (by omega)
      repeat refine fst1_ok X (dk rfl) rfl ?_
      refine alen_ok X (by decide) (dk rfl) (hup_self _ _ _) ?_
      rw [fill_len _ (by omega), hyl]
      refine br_ok X (dk rfl) rfl (show ((13 : Nat) : Int) + 19 = ((32 : Nat) : Int) from rfl) (fun c1 => absurd c1 (nI_ge (by omega) (by omega))) (fun c1 => ?_)
      repeat refine fst1_ok X (dk rfl) rfl ?_
      rw [nI_add]
      refine ald_ok X (Or.inl ⟨rfl, rfl⟩) (dk rfl) (by rw [hup_ne _ _ haq]; exact ha) (inA_nI (by omega) (IA_get hy2)) ?_
      refine sti_ok X (dk rfl) (hup_self _ _ _) (by rw [fill_len _ (by omega)]; omega) (by rw [fill_len _ (by omega)]; omega) ?_
      rw [hup_hup, show Value.int (nI y) = vI y from rfl, fill_set hy1]
      repeat refine fst1_ok X (dk rfl) rfl ?_
      refine br_ok X (dk rfl) rfl (show ((29 : Nat) : Int) + (-20) = ((9 : Nat) : Int) from rfl) (fun _ => ?_) (fun q => absurd trivial q)
      have f2 : Value.int (nI j + Int32.ofInt 1) = vI (j + 1) := congrArg Value.int (by rw [nI_1', nI_add])
      refine WS.loc (l' := [(4, vI (j + 1)), (3, .ref q), (0, .ref a), (1, vI f), (2, vI t)]) [0, 1, 2, 3, 4] (by rw [← f2]; rfl) ?_
      exact ih (j + 1) (by omega) (by omega)
  iterate 3 refine fst1_ok X (dk rfl) rfl ?_
  have hl := loop (t - f) 0 (by omega) (by omega)
  rw [fill_0, hyl] at hl
  exact hl
end M3
end U17m2
section U18codeJ
def DJ6_bitCount_0f7a4 : List (Nat × Instr × Nat) := [(0, .iload_n 0, 1), (1, .iload_n 0, 1), (2, .iconst 1, 1), (3, .iushr, 1), (4, .ldc_w 265, 3), (7, .iand, 1), (8, .isub, 1), (9, .istore_n 0, 1), (10, .iload_n 0, 1), (11, .ldc_w 266, 3), (14, .iand, 1), (15, .iload_n 0, 1), (16, .iconst 2, 1), (17, .iushr, 1), (18, .ldc_w 266, 3), (21, .iand, 1), (22, .iadd, 1), (23, .istore_n 0, 1), (24, .iload_n 0, 1), (25, .iload_n 0, 1), (26, .iconst 4, 1), (27, .iushr, 1), (28, .iadd, 1), (29, .ldc_w 267, 3), (32, .iand, 1), (33, .istore_n 0, 1), (34, .iload_n 0, 1), (35, .iload_n 0, 1), (36, .bipush 8, 2), (38, .iushr, 1), (39, .iadd, 1), (40, .istore_n 0, 1), (41, .iload_n 0, 1), (42, .iload_n 0, 1), (43, .bipush 16, 2), (45, .iushr, 1), (46, .iadd, 1), (47, .istore_n 0, 1), (48, .iload_n 0, 1), (49, .bipush 63, 2), (51, .iand, 1), (52, .ireturn, 1)]
set_option maxRecDepth 100000 in
theorem DJ6_bitCount_0f7a4_ok : ∀ q ∈ DJ6_bitCount_0f7a4, decode cJ6_bitCount_0f7a4 q.1 = .ok q.2 := ck_ok (by decide +kernel)
def DJ7_fill_53178 : List (Nat × Instr × Nat) := [(0, .iconst 0, 1), (1, .istore_n 2, 1), (2, .aload_n 0, 1), (3, .arraylength, 1), (4, .istore_n 3, 1), (5, .iload_n 2, 1), (6, .iload_n 3, 1), (7, .if_icmp .ge 13, 3), (10, .aload_n 0, 1), (11, .iload_n 2, 1), (12, .iload_n 1, 1), (13, .iastore, 1), (14, .iinc 2 1, 3), (17, .goto (-12), 3), (20, .return_, 1)]
set_option maxRecDepth 100000 in
theorem DJ7_fill_53178_ok : ∀ q ∈ DJ7_fill_53178, decode cJ7_fill_53178 q.1 = .ok q.2 := ck_ok (by decide +kernel)
end U18codeJ
section U19linkJ
set_option maxRecDepth 100000 in
theorem liJ9 : Cond.initialized RJ9 ∈ WT := WT_of (tbw_1 (List.mem_of_getElem? (i := 3) rfl)) rfl
set_option maxRecDepth 100000 in
theorem liJ6 : Cond.initialized RJ6 ∈ WT := WT_of (tbw_1 (List.mem_of_getElem? (i := 17) rfl)) rfl
set_option maxRecDepth 100000 in
theorem liJ7 : Cond.initialized RJ7 ∈ WT := WT_of (tbw_1 (List.mem_of_getElem? (i := 18) rfl)) rfl
set_option maxRecDepth 100000 in
theorem lcJ6_bitCount_0f7a4 : Cond.code yJ6_bitCount_0f7a4 cJ6_bitCount_0f7a4 1 (some .int) ∈ WT := WT_of (tbw_2 (List.mem_of_getElem? (i := 223) rfl)) rfl
theorem lkJ6_bitCount_0f7a4 : LK yJ6_bitCount_0f7a4 cJ6_bitCount_0f7a4 1 1 (some .int) := ⟨lcJ6_bitCount_0f7a4, liJ6, ⟨by decide +kernel, by decide +kernel⟩, by decide +kernel⟩
set_option maxRecDepth 100000 in
theorem lsJ6_bitCount_0f7a4 : Cond.static yJ6_bitCount_0f7a4 ∈ WT := WT_of (tbw_2 (List.mem_of_getElem? (i := 222) rfl)) rfl
set_option maxRecDepth 100000 in
theorem lcJ9_max_7cf53 : Cond.code yJ9_max_7cf53 cJ9_max_7cf53 2 (some .int) ∈ WT := WT_of (tbw_1 (List.mem_of_getElem? (i := 48) rfl)) rfl
set_option maxRecDepth 100000 in
theorem lsJ9_max_7cf53 : Cond.static yJ9_max_7cf53 ∈ WT := WT_of (tbw_1 (List.mem_of_getElem? (i := 47) rfl)) rfl
set_option maxRecDepth 100000 in
theorem lcJ9_min_7cf53 : Cond.code yJ9_min_7cf53 cJ9_min_7cf53 2 (some .int) ∈ WT := WT_of (tbw_2 (List.mem_of_getElem? (i := 106) rfl)) rfl
set_option maxRecDepth 100000 in
theorem lsJ9_min_7cf53 : Cond.static yJ9_min_7cf53 ∈ WT := WT_of (tbw_2 (List.mem_of_getElem? (i := 105) rfl)) rfl
set_option maxRecDepth 100000 in
theorem lcJ7_fill_53178 : Cond.code yJ7_fill_53178 cJ7_fill_53178 4 none ∈ WT := WT_of (tbw_1 (List.mem_of_getElem? (i := 231) rfl)) rfl
theorem lkJ7_fill_53178 : LK yJ7_fill_53178 cJ7_fill_53178 4 2 none := ⟨lcJ7_fill_53178, liJ7, ⟨by decide +kernel, by decide +kernel⟩, by decide +kernel⟩
set_option maxRecDepth 100000 in
theorem lsJ7_fill_53178 : Cond.static yJ7_fill_53178 ∈ WT := WT_of (tbw_1 (List.mem_of_getElem? (i := 230) rfl)) rfl
set_option maxRecDepth 100000 in
theorem lcI_265 : Cond.constant RJ6 265 (1431655765 : Int32) ∈ WT := WT_of (tbw_2 (List.mem_of_getElem? (i := 224) rfl)) rfl
set_option maxRecDepth 100000 in
theorem lcI_266 : Cond.constant RJ6 266 (858993459 : Int32) ∈ WT := WT_of (tbw_2 (List.mem_of_getElem? (i := 225) rfl)) rfl
set_option maxRecDepth 100000 in
theorem lcI_267 : Cond.constant RJ6 267 (252645135 : Int32) ∈ WT := WT_of (tbw_2 (List.mem_of_getElem? (i := 226) rfl)) rfl
end U19linkJ
section U20m3
/-! more of the reference's small methods -/
section LDC
variable {p : Program} {la : Launch} {e : Env} {R : Room} {s : State} {m : MethodId} {args : Array Value} {below : List Frame} {meth : Method} {c : Code} {Q : State → Prop}
variable {D : va_G} {cA : Nat → ClassId} {B0 pa nL : Nat} {cc : ByteArray} {own : String} {pc k n : Nat} {l : List (Nat × Value)} {r : List Value} {h : AH}
theorem ldcw_ok (X : CX p s m args c D cA B0 nL cc own) {idx : Nat} {v : Int32} (hc : Cond.constant own idx v ∈ WT) (hd : decode cc pc = .ok (.ldc_w idx, 3))
    (kk : WS p la e R s m args below meth c Q D cA B0 nL (pc + 3) l (.int v :: r) h k n) : WS p la e R s m args below meth c Q D cA B0 nL pc l r h k n :=
  fun H locs ls hH hls => lv_ldcw X.1 X.2.1 X.2.2.2.1 (X.2.2.2.2.1 _ hc) hd (kk H locs ls hH hls)
theorem ldc_ok (X : CX p s m args c D cA B0 nL cc own) {idx : Nat} {v : Int32} (hc : Cond.constant own idx v ∈ WT) (hd : decode cc pc = .ok (.ldc idx, 2))
    (kk : WS p la e R s m args below meth c Q D cA B0 nL (pc + 2) l (.int v :: r) h k n) : WS p la e R s m args below meth c Q D cA B0 nL pc l r h k n :=
  fun H locs ls hH hls => lv_ldc X.1 X.2.1 X.2.2.2.1 (X.2.2.2.2.1 _ hc) hd (kk H locs ls hH hls)
theorem ldc2_ok (X : CX p s m args c D cA B0 nL cc own) {idx : Nat} {v : Int64} (hc : Cond.constantLong own idx v ∈ WT) (hd : decode cc pc = .ok (.ldc2_w idx, 3))
    (kk : WS p la e R s m args below meth c Q D cA B0 nL (pc + 3) l (.long v :: r) h k n) : WS p la e R s m args below meth c Q D cA B0 nL pc l r h k n :=
  fun H locs ls hH hls => lv_ldc2 X.1 X.2.1 X.2.2.2.1 (X.2.2.2.2.1 _ hc) hd (kk H locs ls hH hls)
end LDC
/-- the machine's own count of ones -/
def bcF (x : Int32) : Int32 :=
  let a := x - ((x.toUInt32 >>> ((Int32.ofInt 1).toUInt32 &&& Int32.toUInt32 31)).toInt32 &&& 1431655765)
  let b := (a &&& 858993459) + ((a.toUInt32 >>> ((Int32.ofInt 2).toUInt32 &&& Int32.toUInt32 31)).toInt32 &&& 858993459)
  let d := (b + (b.toUInt32 >>> ((Int32.ofInt 4).toUInt32 &&& Int32.toUInt32 31)).toInt32) &&& 252645135
  let f := d + (d.toUInt32 >>> ((Int8.ofInt 8).toInt32.toUInt32 &&& Int32.toUInt32 31)).toInt32
  let g := f + (f.toUInt32 >>> ((Int8.ofInt 16).toInt32.toUInt32 &&& Int32.toUInt32 31)).toInt32
  g &&& (Int8.ofInt 63).toInt32
section M4
variable {la : Launch} {D : va_G} {cA : Nat → ClassId} {B0 pa : Nat}
set_option maxHeartbeats 4000000 in
theorem c_bitCount (h : AH) (x : Int32) : CT la D cA B0 pa yJ6_bitCount_0f7a4 cJ6_bitCount_0f7a4 1 (some .int) (rmD 0 0 0) [.int x] h (fun v h' => v = some (.int (bcF x)) ∧ h' = h) := by
  refine CT_of (by decide +kernel) (Nat.le_of_ble_eq_true rfl) ?_
  intro p e s m args below meth c X E hr hlk hnm
  have dk : ∀ {pc : Nat} {q : Instr × Nat}, lkd DJ6_bitCount_0f7a4 pc = some q → decode cJ6_bitCount_0f7a4 pc = .ok q := lkd_ok DJ6_bitCount_0f7a4_ok
  repeat refine fst1_ok X (dk rfl) rfl ?_
  refine ldcw_ok X lcI_265 (dk rfl) ?_
  repeat refine fst1_ok X (dk rfl) rfl ?_
  refine ldcw_ok X lcI_266 (dk rfl) ?_
  repeat refine fst1_ok X (dk rfl) rfl ?_
  refine ldcw_ok X lcI_266 (dk rfl) ?_
  repeat refine fst1_ok X (dk rfl) rfl ?_
  refine ldcw_ok X lcI_267 (dk rfl) ?_
  repeat refine fst1_ok X (dk rfl) rfl ?_
  exact reti_ok X hr hlk rfl (dk rfl) ⟨rfl, rfl⟩ (Nat.le_refl _) (Nat.le_refl _)
theorem endL_le : ∀ {ys : List Nat} {n k : Nat}, endL n ys = some k → k ≤ ys.length
  | ys, 0, k, h => by simp [endL] at h; omega
  | [], n + 1, k, h => by simp [endL] at h
  | x :: r, n + 1, k, h => by
    simp only [endL, Option.map_eq_some_iff] at h
    obtain ⟨j, hj, rfl⟩ := h
    have := endL_le hj
    simp; omega
set_option maxHeartbeats 4000000 in
theorem c_at (h : AH) {a at' k : Nat} {xs : List Nat} (ha : h a = some (IA xs)) (hx : ∀ x ∈ xs, x < 2 ^ 10) (hn : xs.length < 2 ^ 9) (hk : endL 1 (xs.drop at') = some k) : CT la D cA B0 pa yX10_at cX10_at 2 (some (.array .int)) (rmD 2 1 k) [.ref a, vI at'] h (newA B0 h ((xs.drop at').take k)) := by
  refine CT_of (by decide +kernel) (Nat.le_of_ble_eq_true rfl) ?_
  intro p e s m args below meth c X E hr hlk hnm
  have dk : ∀ {pc : Nat} {q : Instr × Nat}, lkd DX10_at pc = some q → decode cX10_at pc = .ok q := lkd_ok DX10_at_ok
  have hle := endL_le hk
  have hat : at' < xs.length := by
    rcases Nat.lt_or_ge at' xs.length with q | q
    · exact q
    · rw [List.drop_eq_nil_of_le q] at hk; simp [endL] at hk
  rw [List.length_drop] at hle
  repeat refine fst1_ok X (dk rfl) rfl ?_
  refine callS_ok (av := [.ref a, vI at']) (r := [vI at', .ref a]) X E (c_end h ha hx (by omega) hk) lkX10_end mlX10_36 lsX10_end ⟨Nat.le_of_ble_eq_true rfl, Nat.le_of_ble_eq_true rfl⟩ ⟨Nat.le_of_ble_eq_true rfl, by show 0 + 0 ≤ k; omega⟩ (Nat.le_of_ble_eq_true rfl) (dk rfl) ?_
  rintro v h' ⟨rfl, rfl⟩
  refine callS_ok (rm := rmD 0 1 (at' + k - at')) (av := [.ref a, vI at', vI (at' + k)]) (r := []) X E (c_piece h' ha (Nat.le_add_right _ _) (by omega) hn (by rw [Nat.add_sub_cancel_left])) lkX10_piece mlX10_40 lsX10_piece ⟨Nat.le_of_ble_eq_true rfl, Nat.le_of_ble_eq_true rfl⟩ ⟨Nat.le_of_ble_eq_true rfl, by show 0 + 0 + (at' + k - at') ≤ k; omega⟩ (Nat.le_of_ble_eq_true rfl) (dk rfl) ?_
  rintro v h2 ⟨q, rfl, hq, hB, rfl⟩
  exact reta_ok X hr hlk (Or.inr ⟨_, rfl⟩) (Or.inr ⟨_, rfl⟩) (dk rfl) ⟨q, rfl, hq, hB, rfl⟩ (Nat.le_refl _) (by show 0 + 0 + (at' + k - at') ≤ k; omega)
end M4
end U20m3
section U21m4
/-! comparing rows -/
def diffAt : List Nat → List Nat → Option Nat
  | [], [] => none
  | [], _ :: _ => some 0
  | _ :: _, [] => some 0
  | x :: xs, y :: ys => if x = y then (diffAt xs ys).map (· + 1) else some 0
theorem diffAt_none : ∀ {xs ys : List Nat}, diffAt xs ys = none ↔ xs = ys
  | [], [] => by simp [diffAt]
  | [], _ :: _ => by simp [diffAt]
  | _ :: _, [] => by simp [diffAt]
  | x :: xs, y :: ys => by
    by_cases h : x = y
    · subst h
      simp [diffAt, diffAt_none (xs := xs) (ys := ys)]
    · simp [diffAt, h]
theorem diffAt_lt : ∀ {xs ys : List Nat} {j : Nat}, diffAt xs ys = some j → j < max xs.length ys.length
  | [], [], j, h => by simp [diffAt] at h
  | [], _ :: _, j, h => by simp [diffAt] at h; subst h; simp
  | _ :: _, [], j, h => by simp [diffAt] at h; subst h; simp
  | x :: xs, y :: ys, j, h => by
    by_cases e : x = y
    · simp only [diffAt, e, if_true, Option.map_eq_some_iff] at h
      obtain ⟨i, hi, rfl⟩ := h
      have := diffAt_lt hi
      simp only [List.length_cons]
      omega
    · simp [diffAt, e] at h
      subst h
      simp only [List.length_cons]
      omega
/-- a place, or NONE -/
def vP (o : Option Nat) : Value := match o with
  | some k => vI k
  | none => .int (Int32.ofInt (-1))
section MX
variable {p : Program} {la : Launch} {e : Env} {R : Room} {s : State} {m : MethodId} {args : Array Value} {below : List Frame} {meth : Method} {c : Code} {Q : State → Prop}
variable {D : va_G} {cA : Nat → ClassId} {B0 pa nL : Nat} {cc : ByteArray} {own : String} {pc k n : Nat} {l : List (Nat × Value)} {r : List Value} {h : AH}
theorem mmax_ok (X : CX p s m args c D cA B0 nL cc own) {idx x y : Nat} (hx : x < 2 ^ 20) (hy : y < 2 ^ 20) (hl : Cond.methodLink own idx yJ9_max_7cf53 ∈ WT) (hd : decode cc pc = .ok (.invokestatic idx, 3)) (hfr : 1 ≤ R.frames) (hlo : (r.map fun v => v.category).sum + 13 ≤ R.locals) (h1 : k ≤ R.cells) (h2 : n ≤ R.slots)
    (kk : WS p la e R s m args below meth c Q D cA B0 nL (pc + 3) l (vI (max x y) :: r) h k n) : WS p la e R s m args below meth c Q D cA B0 nL pc l (.int (nI y) :: .int (nI x) :: r) h k n := by
  intro H locs ls hH hls
  refine va_mmax X.1 X.2.1 (X.2.2.1.trans hls.1.symm) X.2.2.2.1 (X.2.2.2.2.1 _ hl) (X.2.2.2.2.1 _ lsJ9_max_7cf53) (X.2.2.2.2.1 _ liJ9) (X.2.2.2.2.1 _ lcJ9_max_7cf53) hfr hlo h1 h2 hd ?_
  have e : (if nI x < nI y then nI y else nI x) = nI (max x y) := by
    by_cases q : x < y
    · rw [if_pos ((nI_ltI (by omega) (by omega)).mpr q), Nat.max_eq_right (by omega)]
    · rw [if_neg (fun z => q ((nI_ltI (by omega) (by omega)).mp z)), Nat.max_eq_left (by omega)]
  rw [e]
  exact kk H locs ls hH hls
theorem mmin_ok (X : CX p s m args c D cA B0 nL cc own) {idx x y : Nat} (hx : x < 2 ^ 20) (hy : y < 2 ^ 20) (hl : Cond.methodLink own idx yJ9_min_7cf53 ∈ WT) (hd : decode cc pc = .ok (.invokestatic idx, 3)) (hfr : 1 ≤ R.frames) (hlo : (r.map fun v => v.category).sum + 13 ≤ R.locals) (h1 : k ≤ R.cells) (h2 : n ≤ R.slots)
    (kk : WS p la e R s m args below meth c Q D cA B0 nL (pc + 3) l (vI (min x y) :: r) h k n) : WS p la e R s m args below meth c Q D cA B0 nL pc l (.int (nI y) :: .int (nI x) :: r) h k n := by
  intro H locs ls hH hls
  refine va_mmin X.1 X.2.1 (X.2.2.1.trans hls.1.symm) X.2.2.2.1 (X.2.2.2.2.1 _ hl) (X.2.2.2.2.1 _ lsJ9_min_7cf53) (X.2.2.2.2.1 _ liJ9) (X.2.2.2.2.1 _ lcJ9_min_7cf53) hfr hlo h1 h2 hd ?_
  have e : (if nI y < nI x then nI y else nI x) = nI (min x y) := by
    by_cases q : y < x
    · rw [if_pos ((nI_ltI (by omega) (by omega)).mpr q), Nat.min_eq_right (by omega)]
    · rw [if_neg (fun z => q ((nI_ltI (by omega) (by omega)).mp z)), Nat.min_eq_left (by omega)]
  rw [e]
  exact kk H locs ls hH hls
end MX
theorem drop_cons {xs : List Nat} {j x : Nat} (h : xs[j]? = some x) : xs.drop j = x :: xs.drop (j + 1) := by
  obtain ⟨hl, rfl⟩ := List.getElem?_eq_some_iff.mp h
  exact List.drop_eq_getElem_cons hl
theorem nI_ge' {a b : Nat} (hb : b < 2 ^ 31) (ha : a < 2 ^ 31) (c : nI a ≤ nI b) : a ≤ b := (nI_leI ha hb).mp c
theorem nI_lt' {a b : Nat} (hb : b < 2 ^ 31) (ha : a < 2 ^ 31) (c : ¬ nI a ≤ nI b) : b < a := by
  rcases Nat.lt_or_ge b a with q | q
  · exact q
  · exact absurd ((nI_leI ha hb).mpr q) c
section M5
variable {la : Launch} {D : va_G} {cA : Nat → ClassId} {B0 pa : Nat}
set_option maxHeartbeats 8000000 in
theorem c_first (h : AH) {a b : Nat} {xs ys : List Nat} (ha : h a = some (IA xs)) (hb : h b = some (IA ys)) (hn : xs.length < 2 ^ 9) (hn2 : ys.length < 2 ^ 9) (hx : ∀ x ∈ xs, x < 2 ^ 10) (hy : ∀ x ∈ ys, x < 2 ^ 10) : CT la D cA B0 pa yX10_first cX10_first 3 (some .int) (rmD 1 0 0) [.ref a, .ref b] h (fun v h' => v = some (vP (diffAt xs ys)) ∧ h' = h) := by
  refine CT_of (by decide +kernel) (Nat.le_of_ble_eq_true rfl) ?_
  intro p e s m args below meth c X E hr hlk hnm
  have dk : ∀ {pc : Nat} {q : Instr × Nat}, lkd DX10_first pc = some q → decode cX10_first pc = .ok q := lkd_ok DX10_first_ok
  have la' : (xs.map vI).length = xs.length := List.length_map _
  have lb' : (ys.map vI).length = ys.length := List.length_map _
  have loop : ∀ (d j : Nat), d = max xs.length ys.length - j → j ≤ max xs.length ys.length → diffAt xs ys = (diffAt (xs.drop j) (ys.drop j)).map (· + j) → WR p la e (rmD 1 0 0) s m args below meth c D cA B0 3 (fun v h' => v = some (vP (diffAt xs ys)) ∧ h' = h) 2 [(2, vI j), (0, .ref a), (1, .ref b)] [] h 0 0 := by
    intro d
    induction d with
    | zero =>
      intro j hd hj hdf
      have h1 : xs.length ≤ j := by omega
      have h2 : ys.length ≤ j := by omega
      repeat refine fst1_ok X (dk rfl) rfl ?_
      refine alen_ok X (by decide) (dk rfl) ha ?_
      repeat refine fst1_ok X (dk rfl) rfl ?_
      refine alen_ok X (by decide) (dk rfl) hb ?_
      rw [la', lb']
      refine mmax_ok X (by omega) (by omega) mlX10_48 (dk rfl) (by decide) (Nat.le_of_ble_eq_true rfl) (by decide) (by decide) ?_
      refine br_ok X (dk rfl) rfl (show ((10 : Nat) : Int) + 32 = ((42 : Nat) : Int) from rfl) (fun c1 => ?_) (fun c1 => absurd (nI_le (by omega) (by omega)) c1)
      repeat refine fst1_ok X (dk rfl) rfl ?_
      refine reti_ok X hr hlk rfl (dk rfl) ⟨?_, rfl⟩ (Nat.le_refl _) (Nat.le_refl _)
      rw [hdf, List.drop_eq_nil_of_le h1, List.drop_eq_nil_of_le h2]
      rfl
    | succ d ih =>
      intro j hd hj hdf
      repeat refine fst1_ok X (dk rfl) rfl ?_
      refine alen_ok X (by decide) (dk rfl) ha ?_
      repeat refine fst1_ok X (dk rfl) rfl ?_
      refine alen_ok X (by decide) (dk rfl) hb ?_
      rw [la', lb']
      refine mmax_ok X (by omega) (by omega) mlX10_48 (dk rfl) (by decide) (Nat.le_of_ble_eq_true rfl) (by decide) (by decide) ?_
      refine br_ok X (dk rfl) rfl (show ((10 : Nat) : Int) + 32 = ((42 : Nat) : Int) from rfl) (fun c1 => absurd c1 (nI_ge (by omega) (by omega))) (fun c1 => ?_)
      repeat refine fst1_ok X (dk rfl) rfl ?_
      refine alen_ok X (by decide) (dk rfl) ha ?_
      rw [la']
      refine br_ok X (dk rfl) rfl (show ((16 : Nat) : Int) + 18 = ((34 : Nat) : Int) from rfl) (fun c2 => ?_) (fun c2 => ?_)
      · have h1 : xs.length ≤ j := nI_ge' (by omega) (by omega) c2
        obtain ⟨y, hy1⟩ : ∃ y, ys[j]? = some y := ⟨ys[j]'(by omega), by simp⟩
        repeat refine fst1_ok X (dk rfl) rfl ?_
        refine reti_ok X hr hlk rfl (dk rfl) ⟨?_, rfl⟩ (Nat.le_refl _) (Nat.le_refl _)
        rw [hdf, List.drop_eq_nil_of_le h1, drop_cons hy1]
        simp [diffAt, vP, vI]
      · have h1 : j < xs.length := nI_lt' (by omega) (by omega) c2
        obtain ⟨x, hx1⟩ : ∃ x, xs[j]? = some x := ⟨xs[j]'h1, by simp⟩
        repeat refine fst1_ok X (dk rfl) rfl ?_
        refine alen_ok X (by decide) (dk rfl) hb ?_
        rw [lb']
        refine br_ok X (dk rfl) rfl (show ((22 : Nat) : Int) + 12 = ((34 : Nat) : Int) from rfl) (fun c3 => ?_) (fun c3 => ?_)
        · have h2 : ys.length ≤ j := nI_ge' (by omega) (by omega) c3
          repeat refine fst1_ok X (dk rfl) rfl ?_
          refine reti_ok X hr hlk rfl (dk rfl) ⟨?_, rfl⟩ (Nat.le_refl _) (Nat.le_refl _)
          rw [hdf, List.drop_eq_nil_of_le h2, drop_cons hx1]
          simp [diffAt, vP, vI]
        · have h2 : j < ys.length := nI_lt' (by omega) (by omega) c3
          obtain ⟨y, hy1⟩ : ∃ y, ys[j]? = some y := ⟨ys[j]'h2, by simp⟩
          have hx2 := hx x (List.mem_of_getElem? hx1)
          have hy2 := hy y (List.mem_of_getElem? hy1)
          repeat refine fst1_ok X (dk rfl) rfl ?_
          refine ald_ok X (Or.inl ⟨rfl, rfl⟩) (dk rfl) ha (inA_nI (by omega) (IA_get hx1)) ?_
          repeat refine fst1_ok X (dk rfl) rfl ?_
          refine ald_ok X (Or.inl ⟨rfl, rfl⟩) (dk rfl) hb (inA_nI (by omega) (IA_get hy1)) ?_
          rw [drop_cons hx1, drop_cons hy1] at hdf
          refine br_ok X (dk rfl) rfl (show ((31 : Nat) : Int) + 5 = ((36 : Nat) : Int) from rfl) (fun c4 => ?_) (fun c4 => ?_)
          · have hxy : x = y := (nI_eq (by omega) (by omega)).mp c4
            subst hxy
            repeat refine fst1_ok X (dk rfl) rfl ?_
            refine br_ok X (dk rfl) rfl (show ((39 : Nat) : Int) + (-37) = ((2 : Nat) : Int) from rfl) (fun _ => ?_) (fun q => absurd trivial q)
            have f2 : Value.int (nI j + Int32.ofInt 1) = vI (j + 1) := congrArg Value.int (by rw [nI_1', nI_add])
            refine WS.loc (l' := [(2, vI (j + 1)), (0, .ref a), (1, .ref b)]) [0, 1, 2] (by rw [← f2]; rfl) ?_
            refine ih (j + 1) (by omega) (by omega) ?_
            rw [hdf]
            simp only [diffAt, if_true, Option.map_map]
            congr 1
            funext z
            simp only [Function.comp_apply]
            omega
          · have hxy : ¬ x = y := fun z => c4 (by rw [z])
            repeat refine fst1_ok X (dk rfl) rfl ?_
            refine reti_ok X hr hlk rfl (dk rfl) ⟨?_, rfl⟩ (Nat.le_refl _) (Nat.le_refl _)
            rw [hdf]
            simp [diffAt, hxy, vP, vI]
  iterate 2 refine fst1_ok X (dk rfl) rfl ?_
  exact loop _ 0 rfl (Nat.zero_le _) (by simp)
set_option maxHeartbeats 4000000 in
theorem c_same (h : AH) {a b : Nat} {xs ys : List Nat} (ha : h a = some (IA xs)) (hb : h b = some (IA ys)) (hn : xs.length < 2 ^ 9) (hn2 : ys.length < 2 ^ 9) (hx : ∀ x ∈ xs, x < 2 ^ 10) (hy : ∀ x ∈ ys, x < 2 ^ 10) : CT la D cA B0 pa yX10_same cX10_same 2 (some .boolean) (rmD 2 0 0) [.ref a, .ref b] h (fun v h' => v = some (.int (if xs = ys then 1 else 0)) ∧ h' = h) := by
  refine CT_of (by decide +kernel) (Nat.le_of_ble_eq_true rfl) ?_
  intro p e s m args below meth c X E hr hlk hnm
  have dk : ∀ {pc : Nat} {q : Instr × Nat}, lkd DX10_same pc = some q → decode cX10_same pc = .ok q := lkd_ok DX10_same_ok
  repeat refine fst1_ok X (dk rfl) rfl ?_
  refine callS_ok (av := [.ref a, .ref b]) (r := []) X E (c_first h ha hb hn hn2 hx hy) lkX10_first mlX10_44 lsX10_first ⟨Nat.le_of_ble_eq_true rfl, Nat.le_of_ble_eq_true rfl⟩ ⟨Nat.le_of_ble_eq_true rfl, Nat.le_of_ble_eq_true rfl⟩ (Nat.le_of_ble_eq_true rfl) (dk rfl) ?_
  rintro v h' ⟨rfl, rfl⟩
  cases hdf : diffAt xs ys with
  | none =>
    refine br_ok X (dk rfl) rfl (show ((5 : Nat) : Int) + 7 = ((12 : Nat) : Int) from rfl) (fun c1 => absurd c1 (by decide)) (fun c1 => ?_)
    repeat refine fst1_ok X (dk rfl) rfl ?_
    refine br_ok X (dk rfl) rfl (show ((9 : Nat) : Int) + 4 = ((13 : Nat) : Int) from rfl) (fun _ => ?_) (fun q => absurd trivial q)
    exact reti_ok X hr hlk rfl (dk rfl) ⟨by rw [if_pos (diffAt_none.mp hdf)]; rfl, rfl⟩ (Nat.le_refl _) (Nat.le_refl _)
  | some j =>
    have hj : j < 2 ^ 20 := by have := diffAt_lt hdf; omega
    refine br_ok X (dk rfl) rfl (show ((5 : Nat) : Int) + 7 = ((12 : Nat) : Int) from rfl) (fun c1 => ?_) (fun c1 => absurd (nI_pos' (by omega)) c1)
    repeat refine fst1_ok X (dk rfl) rfl ?_
    have hne : ¬ xs = ys := fun z => by rw [diffAt_none.mpr z] at hdf; cases hdf
    exact reti_ok X hr hlk rfl (dk rfl) ⟨by rw [if_neg hne]; rfl, rfl⟩ (Nat.le_refl _) (Nat.le_refl _)
end M5
end U21m4
section U22m5
/-! the term at a place, rows behind each other, rows of rows -/
def Ext (h h' : AH) : Prop := ∀ (a : Nat) (c : AC), h a = some c → h' a = some c
theorem Ext.rf (h : AH) : Ext h h := fun _ _ e => e
theorem Ext.trans {h1 h2 h3 : AH} (a : Ext h1 h2) (b : Ext h2 h3) : Ext h1 h3 := fun x c e => b x c (a x c e)
theorem Ext.new {h : AH} {q : Nat} (hq : h q = none) (c : AC) : Ext h (hup h q c) := fun a c' e => by
  rw [hup_ne _ _ (fun z => by rw [z, hq] at e; cases e)]
  exact e
theorem Ext.set {h h' : AH} {q : Nat} (E : Ext h h') (hq : h q = none) (c : AC) : Ext h (hup h' q c) := fun a c' e => by
  rw [hup_ne _ _ (fun z => by rw [z, hq] at e; cases e)]
  exact E a c' e
/-- an array of rows -/
def Ans (h : AH) (A : Nat) (rows : List (List Nat)) : Prop := ∃ as : List Nat, as.length = rows.length ∧ h A = some (105, as.map Value.ref) ∧ ∀ (k a : Nat) (r : List Nat), as[k]? = some a → rows[k]? = some r → h a = some (IA r)
theorem Ans.ext {h h' : AH} {A : Nat} {rows : List (List Nat)} (H : Ans h A rows) (E : Ext h h') : Ans h' A rows := by
  obtain ⟨as, h1, h2, h3⟩ := H
  exact ⟨as, h1, E _ _ h2, fun k a r e1 e2 => E _ _ (h3 k a r e1 e2)⟩
section M6
variable {la : Launch} {D : va_G} {cA : Nat → ClassId} {B0 pa : Nat}
set_option maxHeartbeats 8000000 in
theorem c_isAt (h : AH) {a b f g k1 k2 : Nat} {xs ys : List Nat} (ha : h a = some (IA xs)) (hb : h b = some (IA ys)) (hn : xs.length < 2 ^ 9) (hn2 : ys.length < 2 ^ 9) (hx : ∀ x ∈ xs, x < 2 ^ 10) (hy : ∀ x ∈ ys, x < 2 ^ 10) (hk1 : endL 1 (xs.drop f) = some k1) (hk2 : endL 1 (ys.drop g) = some k2) :
    CT la D cA B0 pa yX10_isAt cX10_isAt 6 (some .boolean) (rmD 2 0 0) [.ref a, vI f, .ref b, vI g] h (fun v h' => v = some (.int (if (xs.drop f).take k1 = (ys.drop g).take k2 then 1 else 0)) ∧ h' = h) := by
  refine CT_of (by decide +kernel) (Nat.le_of_ble_eq_true rfl) ?_
  intro p e s m args below meth c X E hr hlk hnm
  have dk : ∀ {pc : Nat} {q : Instr × Nat}, lkd DX10_isAt pc = some q → decode cX10_isAt pc = .ok q := lkd_ok DX10_isAt_ok
  have hle1 := endL_le hk1
  have hle2 := endL_le hk2
  have hf : f < xs.length := by
    rcases Nat.lt_or_ge f xs.length with q | q
    · exact q
    · rw [List.drop_eq_nil_of_le q] at hk1; simp [endL] at hk1
  have hg : g < ys.length := by
    rcases Nat.lt_or_ge g ys.length with q | q
    · exact q
    · rw [List.drop_eq_nil_of_le q] at hk2; simp [endL] at hk2
  rw [List.length_drop] at hle1 hle2
  repeat refine fst1_ok X (dk rfl) rfl ?_
  refine callS_ok (av := [.ref a, vI f]) (r := []) X E (c_end h ha hx (by omega) hk1) lkX10_end mlX10_36 lsX10_end ⟨Nat.le_of_ble_eq_true rfl, Nat.le_of_ble_eq_true rfl⟩ ⟨Nat.le_of_ble_eq_true rfl, Nat.le_of_ble_eq_true rfl⟩ (Nat.le_of_ble_eq_true rfl) (dk rfl) ?_
  rintro v h' ⟨rfl, rfl⟩
  repeat refine fst1_ok X (dk rfl) rfl ?_
  rw [show nI (f + k1) - nI f = nI k1 by rw [nI_sub (by omega), Nat.add_sub_cancel_left]]
  refine callS_ok (av := [.ref b, vI g]) (r := [vI k1]) X E (c_end h' hb hy (by omega) hk2) lkX10_end mlX10_36 lsX10_end ⟨Nat.le_of_ble_eq_true rfl, Nat.le_of_ble_eq_true rfl⟩ ⟨Nat.le_of_ble_eq_true rfl, Nat.le_of_ble_eq_true rfl⟩ (Nat.le_of_ble_eq_true rfl) (dk rfl) ?_
  rintro v h2 ⟨rfl, rfl⟩
  repeat refine fst1_ok X (dk rfl) rfl ?_
  rw [show nI (g + k2) - nI g = nI k2 by rw [nI_sub (by omega), Nat.add_sub_cancel_left]]
  refine br_ok X (dk rfl) rfl (show ((18 : Nat) : Int) + 5 = ((23 : Nat) : Int) from rfl) (fun c1 => ?_) (fun c1 => ?_)
  · have hkk : k1 = k2 := (nI_eq (by omega) (by omega)).mp c1
    subst hkk
    have loop : ∀ (d j : Nat), d = k1 - j → j ≤ k1 → ((xs.drop f).take k1 = (ys.drop g).take k1 ↔ ((xs.drop (f + j)).take (k1 - j) = (ys.drop (g + j)).take (k1 - j))) → WR p la e (rmD 2 0 0) s m args below meth c D cA B0 6 (fun v h' => v = some (.int (if (xs.drop f).take k1 = (ys.drop g).take k1 then 1 else 0)) ∧ h' = h2) 26 [(5, vI (f + j)), (4, vI (f + k1)), (0, .ref a), (1, vI f), (2, .ref b), (3, vI g)] [] h2 0 0 := by
      intro d
      induction d with
      | zero =>
        intro j hd hj hiff
        have hj2 : j = k1 := by omega
        subst hj2
        repeat refine fst1_ok X (dk rfl) rfl ?_
        refine br_ok X (dk rfl) rfl (show ((30 : Nat) : Int) + 26 = ((56 : Nat) : Int) from rfl) (fun c1 => ?_) (fun c1 => absurd (Int32.le_refl _) c1)
        repeat refine fst1_ok X (dk rfl) rfl ?_
        refine reti_ok X hr hlk rfl (dk rfl) ⟨?_, rfl⟩ (Nat.le_refl _) (Nat.le_refl _)
        rw [if_pos (hiff.mpr (by simp))]
        rfl
      | succ d ih =>
        intro j hd hj hiff
        obtain ⟨x, hx1⟩ : ∃ x, xs[f + j]? = some x := ⟨xs[f + j]'(by omega), by simp⟩
        obtain ⟨y, hy1⟩ : ∃ y, ys[g + j]? = some y := ⟨ys[g + j]'(by omega), by simp⟩
        have hx2 := hx x (List.mem_of_getElem? hx1)
        have hy2 := hy y (List.mem_of_getElem? hy1)
        repeat refine fst1_ok X (dk rfl) rfl ?_
        refine br_ok X (dk rfl) rfl (show ((30 : Nat) : Int) + 26 = ((56 : Nat) : Int) from rfl) (fun c1 => absurd c1 (nI_ge (by omega) (by omega))) (fun c1 => ?_)
        repeat refine fst1_ok X (dk rfl) rfl ?_
        refine ald_ok X (Or.inl ⟨rfl, rfl⟩) (dk rfl) ha (inA_nI (by omega) (IA_get hx1)) ?_
        repeat refine fst1_ok X (dk rfl) rfl ?_
        rw [show nI g + nI (f + j) - nI f = nI (g + j) by rw [nI_add, nI_sub (by omega)]; congr 1; omega]
        refine ald_ok X (Or.inl ⟨rfl, rfl⟩) (dk rfl) hb (inA_nI (by omega) (IA_get hy1)) ?_
        have e1 : k1 - j = (k1 - (j + 1)) + 1 := by omega
        rw [drop_cons hx1, drop_cons hy1, e1, List.take_succ_cons, List.take_succ_cons] at hiff
        refine br_ok X (dk rfl) rfl (show ((45 : Nat) : Int) + 5 = ((50 : Nat) : Int) from rfl) (fun c4 => ?_) (fun c4 => ?_)
        · have hxy : x = y := (nI_eq (by omega) (by omega)).mp c4
          subst hxy
          repeat refine fst1_ok X (dk rfl) rfl ?_
          refine br_ok X (dk rfl) rfl (show ((53 : Nat) : Int) + (-27) = ((26 : Nat) : Int) from rfl) (fun _ => ?_) (fun q => absurd trivial q)
          have f2 : Value.int (nI (f + j) + Int32.ofInt 1) = vI (f + (j + 1)) := congrArg Value.int (by rw [nI_1', nI_add]; rfl)
          refine WS.loc (l' := [(5, vI (f + (j + 1))), (4, vI (f + k1)), (0, .ref a), (1, vI f), (2, .ref b), (3, vI g)]) [0, 1, 2, 3, 4, 5] (by rw [← f2]; rfl) ?_
          refine ih (j + 1) (by omega) (by omega) (hiff.trans ?_)
          rw [List.cons.injEq]
          simp only [true_and]
          rfl
        · have hxy : ¬ x = y := fun z => c4 (by rw [z])
          repeat refine fst1_ok X (dk rfl) rfl ?_
          refine reti_ok X hr hlk rfl (dk rfl) ⟨?_, rfl⟩ (Nat.le_refl _) (Nat.le_refl _)
          rw [if_neg (fun z => by have := hiff.mp z; rw [List.cons.injEq] at this; exact hxy this.1)]
          rfl
    iterate 2 refine fst1_ok X (dk rfl) rfl ?_
    exact loop k1 0 rfl (Nat.zero_le _) (by simp)
  · have hne : ¬ k1 = k2 := fun z => c1 (by rw [z])
    repeat refine fst1_ok X (dk rfl) rfl ?_
    refine reti_ok X hr hlk rfl (dk rfl) ⟨?_, rfl⟩ (Nat.le_refl _) (Nat.le_refl _)
    rw [if_neg (fun z => by have := congrArg List.length z; simp at this; omega)]
    rfl
set_option maxHeartbeats 8000000 in
theorem c_joined (h : AH) {a b : Nat} {xs ys : List Nat} (ha : h a = some (IA xs)) (hb : h b = some (IA ys)) (hn : xs.length < 2 ^ 8) (hn2 : ys.length < 2 ^ 8) : CT la D cA B0 pa yX10_joined cX10_joined 4 (some (.array .int)) (rmD 0 1 (xs.length + ys.length)) [.ref a, .ref b] h (newA B0 h (xs ++ ys)) := by
  refine CT_of (by decide +kernel) (Nat.le_of_ble_eq_true rfl) ?_
  intro p e s m args below meth c X E hr hlk hnm
  have dk : ∀ {pc : Nat} {q : Instr × Nat}, lkd DX10_joined pc = some q → decode cX10_joined pc = .ok q := lkd_ok DX10_joined_ok
  have la' : (xs.map vI).length = xs.length := List.length_map _
  have lb' : (ys.map vI).length = ys.length := List.length_map _
  have ll : (xs ++ ys).length = xs.length + ys.length := List.length_append
  repeat refine fst1_ok X (dk rfl) rfl ?_
  refine alen_ok X (by decide) (dk rfl) ha ?_
  repeat refine fst1_ok X (dk rfl) rfl ?_
  refine alen_ok X (by decide) (dk rfl) hb ?_
  repeat refine fst1_ok X (dk rfl) rfl ?_
  rw [la', lb', nI_add]
  refine newI_ok (N := xs.length + ys.length) X (by omega) (dk rfl) (by show 0 + 1 ≤ 1; omega) (by show 0 + (xs.length + ys.length) ≤ xs.length + ys.length; omega) (fun q hq hB => ?_)
  have haq : a ≠ q := fun z => by rw [z, hq] at ha; cases ha
  have hbq : b ≠ q := fun z => by rw [z, hq] at hb; cases hb
  have loop : ∀ (d j : Nat), d = xs.length + ys.length - j → j ≤ xs.length + ys.length → WR p la e (rmD 0 1 (xs.length + ys.length)) s m args below meth c D cA B0 4 (newA B0 h (xs ++ ys)) 10 [(3, vI j), (2, .ref q), (0, .ref a), (1, .ref b)] [] (hup h q (100, fillV (xs ++ ys) j)) (0 + 1) (0 + (xs.length + ys.length)) := by
    intro d
    induction d with
    | zero =>
      intro j hd hj
      have hj2 : j = xs.length + ys.length := by omega
      subst hj2
      repeat refine fst1_ok X (dk rfl) rfl ?_
      refine alen_ok X (by decide) (dk rfl) (hup_self _ _ _) ?_
      rw [fill_len _ (by omega), ll]
      refine br_ok X (dk rfl) rfl (show ((13 : Nat) : Int) + 30 = ((43 : Nat) : Int) from rfl) (fun c1 => ?_) (fun c1 => absurd (Int32.le_refl _) c1)
      repeat refine fst1_ok X (dk rfl) rfl ?_
      refine reta_ok X hr hlk (Or.inr ⟨_, rfl⟩) (Or.inr ⟨_, rfl⟩) (dk rfl) ⟨q, rfl, hq, hB, ?_⟩ (by show 0 + 1 ≤ 1; omega) (by show 0 + (xs.length + ys.length) ≤ xs.length + ys.length; omega)
      rw [← ll, fill_end]
      rfl
    | succ d ih =>
      intro j hd hj
      obtain ⟨y, hy1⟩ : ∃ y, (xs ++ ys)[j]? = some y := ⟨(xs ++ ys)[j]'(by omega), by simp⟩
      have fin' : WR p la e (rmD 0 1 (xs.length + ys.length)) s m args below meth c D cA B0 4 (newA B0 h (xs ++ ys)) 36 [(3, vI j), (2, .ref q), (0, .ref a), (1, .ref b)] [vI y, vI j, .ref q] (hup h q (100, fillV (xs ++ ys) j)) (0 + 1) (0 + (xs.length + ys.length)) := by
        refine sti_ok X (dk rfl) (hup_self _ _ _) (by rw [fill_len _ (by omega)]; omega) (by rw [fill_len _ (by omega)]; omega) ?_
        rw [hup_hup, show Value.int (nI y) = vI y from rfl, fill_set hy1]
        repeat refine fst1_ok X (dk rfl) rfl ?_
        refine br_ok X (dk rfl) rfl (show ((40 : Nat) : Int) + (-30) = ((10 : Nat) : Int) from rfl) (fun _ => ?_) (fun q => absurd trivial q)
        have f2 : Value.int (nI j + Int32.ofInt 1) = vI (j + 1) := congrArg Value.int (by rw [nI_1', nI_add])
        refine WS.loc (l' := [(3, vI (j + 1)), (2, .ref q), (0, .ref a), (1, .ref b)]) [0, 1, 2, 3] (by rw [← f2]; rfl) ?_
        exact ih (j + 1) (by omega) (by omega)
      repeat refine fst1_ok X (dk rfl) rfl ?_
      refine alen_ok X (by decide) (dk rfl) (hup_self _ _ _) ?_
      rw [fill_len _ (by omega), ll]
      refine br_ok X (dk rfl) rfl (show ((13 : Nat) : Int) + 30 = ((43 : Nat) : Int) from rfl) (fun c1 => absurd c1 (nI_ge (by omega) (by omega))) (fun c1 => ?_)
      repeat refine fst1_ok X (dk rfl) rfl ?_
      refine alen_ok (kd := 100) (vs := xs.map vI) X (by decide) (dk rfl) (by rw [hup_ne _ _ haq]; exact ha) ?_
      rw [la']
      refine br_ok X (dk rfl) rfl (show ((21 : Nat) : Int) + 9 = ((30 : Nat) : Int) from rfl) (fun c2 => ?_) (fun c2 => ?_)
      · have h1 : xs.length ≤ j := nI_ge' (by omega) (by omega) c2
        rw [List.getElem?_append_right h1] at hy1
        repeat refine fst1_ok X (dk rfl) rfl ?_
        refine alen_ok (kd := 100) (vs := xs.map vI) X (by decide) (dk rfl) (by rw [hup_ne _ _ haq]; exact ha) ?_
        repeat refine fst1_ok X (dk rfl) rfl ?_
        rw [la', nI_sub h1]
        refine ald_ok X (Or.inl ⟨rfl, rfl⟩) (dk rfl) (by rw [hup_ne _ _ hbq]; exact hb) (inA_nI (by omega) (IA_get hy1)) ?_
        exact fin'
      · have h1 : j < xs.length := nI_lt' (by omega) (by omega) c2
        rw [List.getElem?_append_left h1] at hy1
        repeat refine fst1_ok X (dk rfl) rfl ?_
        refine ald_ok X (Or.inl ⟨rfl, rfl⟩) (dk rfl) (by rw [hup_ne _ _ haq]; exact ha) (inA_nI (by omega) (IA_get hy1)) ?_
        refine br_ok X (dk rfl) rfl (show ((27 : Nat) : Int) + 9 = ((36 : Nat) : Int) from rfl) (fun _ => ?_) (fun q => absurd trivial q)
        exact fin'
  iterate 3 refine fst1_ok X (dk rfl) rfl ?_
  have hl := loop _ 0 rfl (Nat.zero_le _)
  rw [fill_0, ll] at hl
  exact hl
end M6
end U22m5
section U23m6
/-! names of a row, how often a letter stands there, none, moved, used -/
theorem nI_or (a b : Nat) : nI a ||| nI b = nI (a ||| b) := by
  apply Int32.toBitVec_inj.mp
  show BitVec.ofNat 32 a ||| BitVec.ofNat 32 b = BitVec.ofNat 32 (a ||| b)
  apply BitVec.eq_of_getLsbD_eq
  intro i hi
  rw [BitVec.getLsbD_or, BitVec.getLsbD_ofNat, BitVec.getLsbD_ofNat, BitVec.getLsbD_ofNat, Nat.testBit_or]
  simp [hi]
theorem shl1 : ∀ x : Nat, x < 31 → Int32.ofInt 1 <<< (nI x &&& 31) = nI (2 ^ x) := by decide +kernel
def namesN (xs : List Nat) : Nat := xs.foldl (fun m x => if x < 10 then m ||| 2 ^ x else m) 0
theorem foldl_take_succ {α β : Type} (f : β → α → β) (b : β) {xs : List α} {j : Nat} {x : α} (h : xs[j]? = some x) : (xs.take (j + 1)).foldl f b = f ((xs.take j).foldl f b) x := by
  rw [List.take_succ, h, List.foldl_append]
  rfl
def oftenN (xs : List Nat) (y : Nat) : Nat := xs.foldl (fun m x => if x = y then m + 1 else m) 0
section M7
variable {la : Launch} {D : va_G} {cA : Nat → ClassId} {B0 pa : Nat}
set_option maxHeartbeats 8000000 in
theorem c_ones (h : AH) (x : Int32) : CT la D cA B0 pa yX10_ones cX10_ones 1 (some .int) (rmD 1 0 0) [.int x] h (fun v h' => v = some (.int (bcF x)) ∧ h' = h) := by
  refine CT_of (by decide +kernel) (Nat.le_of_ble_eq_true rfl) ?_
  intro p e s m args below meth c X E hr hlk hnm
  have dk : ∀ {pc : Nat} {q : Instr × Nat}, lkd DX10_ones pc = some q → decode cX10_ones pc = .ok q := lkd_ok DX10_ones_ok
  repeat refine fst1_ok X (dk rfl) rfl ?_
  refine callS_ok (av := [.int x]) (r := []) X E (c_bitCount h x) lkJ6_bitCount_0f7a4 mlX10_58 lsJ6_bitCount_0f7a4 ⟨Nat.le_of_ble_eq_true rfl, Nat.le_of_ble_eq_true rfl⟩ ⟨Nat.le_of_ble_eq_true rfl, Nat.le_of_ble_eq_true rfl⟩ (Nat.le_of_ble_eq_true rfl) (dk rfl) ?_
  rintro v h' ⟨rfl, rfl⟩
  exact reti_ok X hr hlk rfl (dk rfl) ⟨rfl, rfl⟩ (Nat.le_refl _) (Nat.le_refl _)
set_option maxHeartbeats 8000000 in
theorem c_namesOf (h : AH) {a : Nat} {xs : List Nat} (ha : h a = some (IA xs)) (hn : xs.length < 2 ^ 9) (hx : ∀ x ∈ xs, x < 2 ^ 10) : CT la D cA B0 pa yX10_namesOf cX10_namesOf 6 (some .int) (rmD 0 0 0) [.ref a] h (fun v h' => v = some (vI (namesN xs)) ∧ h' = h) := by
  refine CT_of (by decide +kernel) (Nat.le_of_ble_eq_true rfl) ?_
  intro p e s m args below meth c X E hr hlk hnm
  have dk : ∀ {pc : Nat} {q : Instr × Nat}, lkd DX10_namesOf pc = some q → decode cX10_namesOf pc = .ok q := lkd_ok DX10_namesOf_ok
  have la' : (xs.map vI).length = xs.length := List.length_map _
  repeat refine fst1_ok X (dk rfl) rfl ?_
  refine alen_ok X (by decide) (dk rfl) ha ?_
  rw [la']
  have loop : ∀ (d j : Nat), d = xs.length - j → j ≤ xs.length → ∀ (l : List (Nat × Value)), lv_pick l [0, 1, 2, 3, 4] = [(4, vI j), (3, vI xs.length), (2, .ref a), (1, vI ((xs.take j).foldl (fun m x => if x < 10 then m ||| 2 ^ x else m) 0)), (0, .ref a)] → WR p la e (rmD 0 0 0) s m args below meth c D cA B0 6 (fun v h' => v = some (vI (namesN xs)) ∧ h' = h) 10 l [] h 0 0 := by
    intro d
    induction d with
    | zero =>
      intro j hd hj l hl
      have hj2 : j = xs.length := by omega
      subst hj2
      refine WS.loc [0, 1, 2, 3, 4] hl ?_
      repeat refine fst1_ok X (dk rfl) rfl ?_
      refine br_ok X (dk rfl) rfl (show ((13 : Nat) : Int) + 33 = ((46 : Nat) : Int) from rfl) (fun c1 => ?_) (fun c1 => absurd (Int32.le_refl _) c1)
      repeat refine fst1_ok X (dk rfl) rfl ?_
      refine reti_ok X hr hlk rfl (dk rfl) ⟨?_, rfl⟩ (Nat.le_refl _) (Nat.le_refl _)
      rw [List.take_length]
      rfl
    | succ d ih =>
      intro j hd hj l hl
      obtain ⟨x, hx1⟩ : ∃ x, xs[j]? = some x := ⟨xs[j]'(by omega), by simp⟩
      have hx2 := hx x (List.mem_of_getElem? hx1)
      refine WS.loc [0, 1, 2, 3, 4] hl ?_
      repeat refine fst1_ok X (dk rfl) rfl ?_
      refine br_ok X (dk rfl) rfl (show ((13 : Nat) : Int) + 33 = ((46 : Nat) : Int) from rfl) (fun c1 => absurd c1 (nI_ge (by omega) (by omega))) (fun c1 => ?_)
      repeat refine fst1_ok X (dk rfl) rfl ?_
      refine ald_ok X (Or.inl ⟨rfl, rfl⟩) (dk rfl) ha (inA_nI (by omega) (IA_get hx1)) ?_
      repeat refine fst1_ok X (dk rfl) rfl ?_
      have f2 : Value.int (nI j + Int32.ofInt 1) = vI (j + 1) := congrArg Value.int (by rw [nI_1', nI_add])
      have hfs := foldl_take_succ (fun m x => if x < 10 then m ||| 2 ^ x else m) 0 hx1
      refine br_ok X (dk rfl) rfl (show ((27 : Nat) : Int) + 10 = ((37 : Nat) : Int) from rfl) (fun c2 => ?_) (fun c2 => ?_)
      · rw [nI_10] at c2
        have h1 : 10 ≤ x := nI_ge' (by omega) (by omega) c2
        rw [if_neg (by omega)] at hfs
        repeat refine fst1_ok X (dk rfl) rfl ?_
        refine br_ok X (dk rfl) rfl (show ((43 : Nat) : Int) + (-33) = ((10 : Nat) : Int) from rfl) (fun _ => ?_) (fun q => absurd trivial q)
        refine WS.loc (l' := [(4, vI (j + 1)), (3, vI xs.length), (2, .ref a), (1, vI ((xs.take (j + 1)).foldl (fun m x => if x < 10 then m ||| 2 ^ x else m) 0)), (0, .ref a)]) [0, 3, 4, 1, 5] (by
          rw [← f2, hfs, show vI ((xs.take j).foldl (fun m x => if x < 10 then m ||| 2 ^ x else m) 0) = Value.int (nI ((xs.take j).foldl (fun m x => if x < 10 then m ||| 2 ^ x else m) 0) ||| Int32.ofInt 0) by rw [nI_0', nI_or, Nat.or_zero]; rfl]
          rfl) ?_
        exact ih (j + 1) (by omega) (by omega) _ rfl
      · rw [nI_10] at c2
        have h1 : x < 10 := nI_lt' (by omega) (by omega) c2
        rw [if_pos h1] at hfs
        repeat refine fst1_ok X (dk rfl) rfl ?_
        refine br_ok X (dk rfl) rfl (show ((34 : Nat) : Int) + 4 = ((38 : Nat) : Int) from rfl) (fun _ => ?_) (fun q => absurd trivial q)
        repeat refine fst1_ok X (dk rfl) rfl ?_
        refine br_ok X (dk rfl) rfl (show ((43 : Nat) : Int) + (-33) = ((10 : Nat) : Int) from rfl) (fun _ => ?_) (fun q => absurd trivial q)
        refine WS.loc (l' := [(4, vI (j + 1)), (3, vI xs.length), (2, .ref a), (1, vI ((xs.take (j + 1)).foldl (fun m x => if x < 10 then m ||| 2 ^ x else m) 0)), (0, .ref a)]) [0, 3, 4, 1, 5] (by
          rw [← f2, hfs, show vI ((xs.take j).foldl (fun m x => if x < 10 then m ||| 2 ^ x else m) 0 ||| 2 ^ x) = Value.int (nI ((xs.take j).foldl (fun m x => if x < 10 then m ||| 2 ^ x else m) 0) ||| Int32.ofInt 1 <<< (nI x &&& 31)) by rw [shl1 x (by omega), nI_or]; rfl]
          rfl) ?_
        exact ih (j + 1) (by omega) (by omega) _ rfl
  iterate 3 refine fst1_ok X (dk rfl) rfl ?_
  exact loop _ 0 rfl (Nat.zero_le _) _ rfl
end M7
end U23m6
section U24m7
/-! rows of rows that are made -/
set_option maxRecDepth 100000 in
theorem cl10_9 : Cond.classLink RX10 9 (cnm (aty 105)) ∈ WT := by rw [aty105]; exact WT_of (tbw_6 (List.mem_of_getElem? (i := 78) rfl)) rfl
def filR (as : List Nat) (N : Nat) : List Value := as.map Value.ref ++ List.replicate (N - as.length) .null
theorem filR_0 (N : Nat) : filR [] N = List.replicate N .null := by simp [filR]
theorem filR_len {as : List Nat} {N : Nat} (h : as.length ≤ N) : (filR as N).length = N := by simp [filR]; omega
theorem filR_end (as : List Nat) : filR as as.length = as.map Value.ref := by simp [filR]
theorem filR_set {as : List Nat} {N q : Nat} (h : as.length < N) : (filR as N).set as.length (.ref q) = filR (as ++ [q]) N := by
  have e2 : N - as.length = (N - (as.length + 1)) + 1 := by omega
  unfold filR
  rw [e2, List.replicate_succ, List.set_append_right _ _ (by simp), List.map_append, List.append_assoc, List.length_append]
  simp
section M8
variable {p : Program} {la : Launch} {e : Env} {R : Room} {s : State} {m : MethodId} {args : Array Value} {below : List Frame} {meth : Method} {c : Code} {Q : State → Prop}
variable {D : va_G} {cA : Nat → ClassId} {B0 pa nL : Nat} {cc : ByteArray} {own : String} {pc k n : Nat} {l : List (Nat × Value)} {r : List Value} {h : AH}
theorem newR_ok (X : CX p s m args c D cA B0 nL cc own) (E : EN D cA B0 pa s) {idx kd N : Nat} (hkd : 103 ≤ kd ∧ kd < 107) (hl : Cond.classLink own idx (cnm (aty kd)) ∈ WT) (hN : N ≤ 1000) (hd : decode cc pc = .ok (.anewarray idx, 3)) (hr1 : k + 1 ≤ R.cells) (hr2 : n + N ≤ R.slots)
    (kk : ∀ q : Nat, h q = none → B0 ≤ q → WS p la e R s m args below meth c Q D cA B0 nL (pc + 3) l (.ref q :: r) (hup h q (kd, List.replicate N .null)) (k + 1) (n + N)) : WS p la e R s m args below meth c Q D cA B0 nL pc l (.int (nI N) :: r) h k n := by
  have e : (nI N).toNatClampNeg = N := nI_clamp (by omega)
  have ho : (Cond.arrayOver (aty kd)).before args s = true := OV.moved (Vm.Alike.refl _) E.2.2.1 kd hkd.1 hkd.2
  refine anew_ok X hkd hl ho hd (nI_pos (by omega)) (by rw [e]; exact hN) hr1 (by rw [e]; exact hr2) ?_
  rw [e]
  exact kk
theorem str_ok (X : CX p s m args c D cA B0 nL cc own) {a j q : Nat} {vs fs : List Value} (hd : decode cc pc = .ok (.aastore, 1)) (ha : h a = some (105, vs)) (hq : h q = some (100, fs)) (hj : j < vs.length) (hl : vs.length < 2 ^ 31)
    (kk : WS p la e R s m args below meth c Q D cA B0 nL (pc + 1) l r (hup h a (105, vs.set j (.ref q))) k n) : WS p la e R s m args below meth c Q D cA B0 nL pc l (.ref q :: .int (nI j) :: .ref a :: r) h k n := by
  have e : (nI j).toNatClampNeg = j := nI_clamp (by omega)
  refine ast_ok X (Or.inr (Or.inr (Or.inr (Or.inr (Or.inl ⟨rfl, rfl, q, fs, rfl, hq⟩))))) hd ha ⟨nI_pos (by omega), by rw [e]; exact hj⟩ ?_
  rw [e]
  exact kk
theorem ldr_ok (X : CX p s m args c D cA B0 nL cc own) {a j q : Nat} {as : List Nat} (hd : decode cc pc = .ok (.aaload, 1)) (ha : h a = some (105, as.map Value.ref)) (hq : as[j]? = some q) (hl : as.length < 2 ^ 31)
    (kk : WS p la e R s m args below meth c Q D cA B0 nL (pc + 1) l (.ref q :: r) h k n) : WS p la e R s m args below meth c Q D cA B0 nL pc l (.int (nI j) :: .ref a :: r) h k n := by
  have hj : j < as.length := (List.getElem?_eq_some_iff.mp hq).1
  exact ald_ok X (Or.inr (Or.inr ⟨rfl, by decide⟩)) hd ha (inA_nI (by omega) (by rw [List.getElem?_map, hq]; rfl)) kk
end M8
section M9
variable {la : Launch} {D : va_G} {cA : Nat → ClassId} {B0 pa : Nat}
/-- a new array of new rows -/
def newR (B0 : Nat) (h : AH) (rows : List (List Nat)) (v : Option Value) (h' : AH) : Prop := ∃ A : Nat, v = some (.ref A) ∧ h A = none ∧ B0 ≤ A ∧ Ext h h' ∧ Ans h' A rows
set_option maxHeartbeats 8000000 in
theorem c_none (h : AH) : CT la D cA B0 pa yX10_none cX10_none 2 (some (.array (.array .int))) (rmD 1 9 16) [] h (newR B0 h [[0], [1], [2], [3], [4], [5], [6], [7]]) := by
  refine CT_of (by decide +kernel) (Nat.le_of_ble_eq_true rfl) ?_
  intro p e s m args below meth c X E hr hlk hnm
  have dk : ∀ {pc : Nat} {q : Instr × Nat}, lkd DX10_none pc = some q → decode cX10_none pc = .ok q := lkd_ok DX10_none_ok
  repeat refine fst1_ok X (dk rfl) rfl ?_
  refine newR_ok (N := 8) (kd := 105) X E (by decide) cl10_9 (by decide) (dk rfl) (by decide) (by decide) (fun A hA hB => ?_)
  have loop : ∀ (d j : Nat), d = 8 - j → j ≤ 8 → ∀ (hj : AH) (as : List Nat), as.length = j → Ext h hj → hj A = some (105, filR as 8) → (∀ k a, as[k]? = some a → hj a = some (IA [k])) → WR p la e (rmD 1 9 16) s m args below meth c D cA B0 2 (newR B0 h [[0], [1], [2], [3], [4], [5], [6], [7]]) 8 [(1, vI j), (0, .ref A)] [] hj (1 + j) (8 + j) := by
    intro d
    induction d with
    | zero =>
      intro j hd hj hh as has hE hAs hrows
      have hj2 : j = 8 := by omega
      subst hj2
      repeat refine fst1_ok X (dk rfl) rfl ?_
      refine br_ok X (dk rfl) rfl (show ((11 : Nat) : Int) + 16 = ((27 : Nat) : Int) from rfl) (fun c1 => ?_) (fun c1 => absurd (by decide) c1)
      repeat refine fst1_ok X (dk rfl) rfl ?_
      refine reta_ok X hr hlk (Or.inr ⟨_, rfl⟩) (Or.inr ⟨_, rfl⟩) (dk rfl) ⟨A, rfl, hA, hB, hE, as, has, ?_, ?_⟩ (Nat.le_refl _) (Nat.le_refl _)
      · rw [hAs, ← has, filR_end]
      · intro k a r hk hr'
        rw [hrows k a hk]
        have hk8 : k < 8 := by rw [← has]; exact (List.getElem?_eq_some_iff.mp hk).1
        have : r = [k] := by
          match k, hk8, hr' with
          | 0, _, e => cases e; rfl
          | 1, _, e => cases e; rfl
          | 2, _, e => cases e; rfl
          | 3, _, e => cases e; rfl
          | 4, _, e => cases e; rfl
          | 5, _, e => cases e; rfl
          | 6, _, e => cases e; rfl
          | 7, _, e => cases e; rfl
        rw [this]
    | succ d ih =>
      intro j hd hj hh as has hE hAs hrows
      repeat refine fst1_ok X (dk rfl) rfl ?_
      refine br_ok X (dk rfl) rfl (show ((11 : Nat) : Int) + 16 = ((27 : Nat) : Int) from rfl) (fun c1 => absurd c1 (nI_ge (b := 8) (by omega) (by omega))) (fun c1 => ?_)
      repeat refine fst1_ok X (dk rfl) rfl ?_
      refine callS_ok (av := [vI j]) (r := [vI j, .ref A]) X E (c_row hh j) lkX10_row mlX10_20 lsX10_row ⟨Nat.le_of_ble_eq_true rfl, Nat.le_of_ble_eq_true rfl⟩ ⟨by show 1 + j + 1 ≤ 9; omega, by show 8 + j + 1 ≤ 16; omega⟩ (Nat.le_of_ble_eq_true rfl) (dk rfl) ?_
      rintro v h2 ⟨q, rfl, hq, hBq, rfl⟩
      have hAq : A ≠ q := fun z => by rw [z, hq] at hAs; cases hAs
      refine str_ok (j := j) X (dk rfl) (by rw [hup_ne _ _ hAq]; exact hAs) (hup_self _ _ _) (by rw [filR_len (by omega)]; omega) (by rw [filR_len (by omega)]; omega) ?_
      have e1 : (filR as 8).set j (.ref q) = filR (as ++ [q]) 8 := by rw [← has]; exact filR_set (by omega)
      rw [e1]
      repeat refine fst1_ok X (dk rfl) rfl ?_
      refine br_ok X (dk rfl) rfl (show ((24 : Nat) : Int) + (-16) = ((8 : Nat) : Int) from rfl) (fun _ => ?_) (fun q => absurd trivial q)
      have f2 : Value.int (nI j + Int32.ofInt 1) = vI (j + 1) := congrArg Value.int (by rw [nI_1', nI_add])
      refine WS.loc (l' := [(1, vI (j + 1)), (0, .ref A)]) [0, 1] (by rw [← f2]; rfl) ?_
      refine ih (j + 1) (by omega) (by omega) _ (as ++ [q]) (by simp [has]) ((hE.trans (Ext.new hq _)).set hA _) (hup_self _ _ _) ?_
      intro k a hk
      have hne : ∀ {a : Nat} {xs : List Nat}, hup hh q (IA [j]) a = some (IA xs) → a ≠ A := by
        intro a xs e z
        rw [z, hup_ne _ _ hAq, hAs] at e
        simp [IA] at e
      rcases Nat.lt_or_ge k as.length with hk2 | hk2
      · rw [List.getElem?_append_left hk2] at hk
        have e3 : hup hh q (IA [j]) a = some (IA [k]) := Ext.new hq _ _ _ (hrows k a hk)
        rw [hup_ne _ _ (hne e3), e3]
      · rw [List.getElem?_append_right hk2] at hk
        have hz : k - as.length < 1 := (List.getElem?_eq_some_iff.mp hk).1
        have hk3 : k = j := by omega
        rw [show k - as.length = 0 by omega] at hk
        cases hk
        have e3 : hup hh q (IA [j]) q = some (IA [j]) := hup_self _ _ _
        rw [hup_ne _ _ (hne e3), e3, hk3]
  iterate 3 refine fst1_ok X (dk rfl) rfl ?_
  exact loop 8 0 rfl (by omega) _ [] rfl (Ext.new hA _) (by rw [hup_self, filR_0]) (fun k a hk => by simp at hk)
end M9
end U24m7
section U25m8
/-! used: each name becomes what is told of it -/
/-- the locals of these numbers, in this order -/
def lsel (l : List (Nat × Value)) (ks : List Nat) : List (Nat × Value) := ks.filterMap (fun i => (lget l i).map (fun v => (i, v)))
section WSS
variable {p : Program} {la : Launch} {e : Env} {R : Room} {s : State} {m : MethodId} {args : Array Value} {below : List Frame} {meth : Method} {c : Code} {Q : State → Prop} {D : va_G} {cA : Nat → ClassId} {B0 nL : Nat}
theorem WS.sel {pc k n : Nat} {l l' : List (Nat × Value)} {st : List Value} {h : AH} (ks : List Nat) (hl : lsel l ks = l') (kk : WS p la e R s m args below meth c Q D cA B0 nL pc l' st h k n) : WS p la e R s m args below meth c Q D cA B0 nL pc l st h k n := by
  intro H locs ls hH hls
  refine kk H locs ls hH ⟨hls.1, hls.2.1, fun q hq => hls.2.2 q ?_⟩
  rw [← hl] at hq
  obtain ⟨i, -, hi⟩ := List.mem_filterMap.mp hq
  simp only [Option.map_eq_some_iff] at hi
  obtain ⟨v, hv, rfl⟩ := hi
  exact lget_mem l hv
theorem WS.widen {pc k n k' n' : Nat} {l : List (Nat × Value)} {st : List Value} {h : AH} (h1 : k ≤ k') (h2 : n ≤ n') (kk : WS p la e R s m args below meth c Q D cA B0 nL pc l st h k' n') : WS p la e R s m args below meth c Q D cA B0 nL pc l st h k n :=
  fun H locs ls hH hls => W.widen h1 h2 (kk H locs ls hH hls)
end WSS
def useL (rows : List (List Nat)) (x : Nat) : List Nat := if x < 10 then rows.getD x [] else [x]
def usedL (rows : List (List Nat)) (t : List Nat) : List Nat := t.flatMap (useL rows)
theorem usedL_take_succ (rows : List (List Nat)) {t : List Nat} {j x : Nat} (h : t[j]? = some x) : usedL rows (t.take (j + 1)) = usedL rows (t.take j) ++ useL rows x := by
  unfold usedL
  rw [List.take_succ, h, List.flatMap_append]
  simp
theorem usedL_split (rows : List (List Nat)) {t : List Nat} {j x : Nat} (h : t[j]? = some x) : usedL rows t = usedL rows (t.take j) ++ (useL rows x ++ usedL rows (t.drop (j + 1))) := by
  have h1 : t = t.take j ++ (x :: t.drop (j + 1)) := by rw [← drop_cons h, List.take_append_drop]
  unfold usedL
  rw [congrArg (List.flatMap (useL rows)) h1, List.flatMap_append, List.flatMap_cons]
/-- a new row among other new rows -/
def newE (B0 : Nat) (h : AH) (ys : List Nat) (v : Option Value) (h' : AH) : Prop := ∃ q : Nat, v = some (.ref q) ∧ h q = none ∧ B0 ≤ q ∧ Ext h h' ∧ h' q = some (IA ys)
section M10
variable {la : Launch} {D : va_G} {cA : Nat → ClassId} {B0 pa : Nat}
set_option maxHeartbeats 16000000 in
theorem c_used (h : AH) {A t : Nat} {rows : List (List Nat)} {ts : List Nat} (hA : Ans h A rows) (ht : h t = some (IA ts)) (hn : ts.length < 2 ^ 9) (hrn : rows.length < 2 ^ 9) (hx : ∀ x ∈ ts, x < 2 ^ 10) (hxr : ∀ x ∈ ts, x < 10 → x < rows.length) (hun : (usedL rows ts).length < 2 ^ 9) :
    CT la D cA B0 pa yX10_used cX10_used 14 (some (.array .int)) (rmD 1 (1 + ts.length) ((usedL rows ts).length + ts.length)) [.ref A, .ref t] h (newE B0 h (usedL rows ts)) := by
  refine CT_of (by decide +kernel) (Nat.le_of_ble_eq_true rfl) ?_
  intro p e s m args below meth c X E hr hlk hnm
  have dk : ∀ {pc : Nat} {q : Instr × Nat}, lkd DX10_used pc = some q → decode cX10_used pc = .ok q := lkd_ok DX10_used_ok
  have lt' : (ts.map vI).length = ts.length := List.length_map _
  obtain ⟨as, has, hAs, hrows⟩ := hA
  -- the row that is told of a name
  have told : ∀ (x : Nat), x ∈ ts → x < 10 → ∃ a, as[x]? = some a ∧ h a = some (IA (useL rows x)) := by
    intro x hxm hx10
    have h1 := hxr x hxm hx10
    obtain ⟨a, ha⟩ : ∃ a, as[x]? = some a := ⟨as[x]'(by omega), by simp⟩
    obtain ⟨r, hr'⟩ : ∃ r, rows[x]? = some r := ⟨rows[x]'h1, by simp⟩
    refine ⟨a, ha, ?_⟩
    rw [hrows x a r ha hr']
    unfold useL
    rw [if_pos hx10, List.getD_eq_getElem?_getD, hr']
    rfl
  repeat refine fst1_ok X (dk rfl) rfl ?_
  refine alen_ok X (by decide) (dk rfl) ht ?_
  rw [lt']
  -- the second half, from the new array on
  have second : ∀ (l : List (Nat × Value)), lsel l [2, 0, 1] = [(2, vI (usedL rows ts).length), (0, .ref A), (1, .ref t)] → WR p la e (rmD 1 (1 + ts.length) ((usedL rows ts).length + ts.length)) s m args below meth c D cA B0 14 (newE B0 h (usedL rows ts)) 49 l [] h 0 0 := by
    intro l hl
    refine WS.sel [2, 0, 1] hl ?_
    repeat refine fst1_ok X (dk rfl) rfl ?_
    refine newI_ok (N := (usedL rows ts).length) X (by omega) (dk rfl) (by show 0 + 1 ≤ 1 + ts.length; omega) (by show 0 + (usedL rows ts).length ≤ (usedL rows ts).length + ts.length; omega) (fun q hq hB => ?_)
    have htq : t ≠ q := fun z => by rw [z, hq] at ht; cases ht
    have outer : ∀ (d j : Nat), d = ts.length - j → j ≤ ts.length → ∀ (hj : AH) (l : List (Nat × Value)), lsel l [7, 6, 5, 4, 3, 0, 1] = [(7, vI j), (6, vI ts.length), (5, .ref t), (4, vI (usedL rows (ts.take j)).length), (3, .ref q), (0, .ref A), (1, .ref t)] → Ext h hj → hj q = some (100, fillV (usedL rows ts) (usedL rows (ts.take j)).length) →
        WR p la e (rmD 1 (1 + ts.length) ((usedL rows ts).length + ts.length)) s m args below meth c D cA B0 14 (newE B0 h (usedL rows ts)) 67 l [] hj (1 + j) ((usedL rows ts).length + j) := by
      intro d
      induction d with
      | zero =>
        intro j hd hj hh l hl hE hq1
        have hj2 : j = ts.length := by omega
        subst hj2
        refine WS.sel [7, 6, 5, 4, 3, 0, 1] hl ?_
        repeat refine fst1_ok X (dk rfl) rfl ?_
        refine br_ok X (dk rfl) rfl (show ((71 : Nat) : Int) + 78 = ((149 : Nat) : Int) from rfl) (fun c1 => ?_) (fun c1 => absurd (Int32.le_refl _) c1)
        repeat refine fst1_ok X (dk rfl) rfl ?_
        refine reta_ok X hr hlk (Or.inr ⟨_, rfl⟩) (Or.inr ⟨_, rfl⟩) (dk rfl) ⟨q, rfl, hq, hB, hE, ?_⟩ (Nat.le_refl _) (Nat.le_refl _)
        rw [hq1, List.take_length, fill_end]
        rfl
      | succ d ih =>
        intro j hd hj hh l hl hE hq1
        obtain ⟨x, hx1⟩ : ∃ x, ts[j]? = some x := ⟨ts[j]'(by omega), by simp⟩
        have hxm := List.mem_of_getElem? hx1
        have hx2 := hx x hxm
        -- the inner loop, from the row u on
        have inner : ∀ (u : Nat) (h3 : AH) (l : List (Nat × Value)), lsel l [7, 6, 5, 4, 3, 0, 1] = [(7, vI j), (6, vI ts.length), (5, .ref t), (4, vI (usedL rows (ts.take j)).length), (3, .ref q), (0, .ref A), (1, .ref t)] → Ext h h3 → h3 q = some (100, fillV (usedL rows ts) (usedL rows (ts.take j)).length) → h3 u = some (IA (useL rows x)) → u ≠ q → ∀ kc kn : Nat, kc ≤ 1 + (j + 1) → kn ≤ (usedL rows ts).length + (j + 1) →
            WR p la e (rmD 1 (1 + ts.length) ((usedL rows ts).length + ts.length)) s m args below meth c D cA B0 14 (newE B0 h (usedL rows ts)) 100 l [.ref u] h3 kc kn := by
          intro u h3 l hl hE3 hq3 hu huq kc kn hkc hkn
          have hsp := usedL_split rows hx1
          have hus : (useL rows x).length ≤ (usedL rows ts).length := by rw [hsp]; simp; omega
          have hlu : ((useL rows x).map vI).length = (useL rows x).length := List.length_map _
          have hin : ∀ (d2 i : Nat), d2 = (useL rows x).length - i → i ≤ (useL rows x).length → ∀ (h4 : AH) (l : List (Nat × Value)), lsel l [12, 11, 10, 7, 6, 5, 4, 3, 0, 1] = [(12, vI i), (11, vI (useL rows x).length), (10, .ref u), (7, vI j), (6, vI ts.length), (5, .ref t), (4, vI ((usedL rows (ts.take j)).length + i)), (3, .ref q), (0, .ref A), (1, .ref t)] → Ext h h4 → h4 q = some (100, fillV (usedL rows ts) ((usedL rows (ts.take j)).length + i)) → h4 u = some (IA (useL rows x)) →
              WR p la e (rmD 1 (1 + ts.length) ((usedL rows ts).length + ts.length)) s m args below meth c D cA B0 14 (newE B0 h (usedL rows ts)) 114 l [] h4 kc kn := by
            intro d2
            induction d2 with
            | zero =>
              intro i hd2 hi h4 l hl hE4 hq4 hu4
              have hi2 : i = (useL rows x).length := by omega
              subst hi2
              refine WS.sel [12, 11, 10, 7, 6, 5, 4, 3, 0, 1] hl ?_
              repeat refine fst1_ok X (dk rfl) rfl ?_
              refine br_ok X (dk rfl) rfl (show ((118 : Nat) : Int) + 25 = ((143 : Nat) : Int) from rfl) (fun c1 => ?_) (fun c1 => absurd (Int32.le_refl _) c1)
              repeat refine fst1_ok X (dk rfl) rfl ?_
              refine br_ok X (dk rfl) rfl (show ((146 : Nat) : Int) + (-79) = ((67 : Nat) : Int) from rfl) (fun _ => ?_) (fun q => absurd trivial q)
              have f2 : Value.int (nI j + Int32.ofInt 1) = vI (j + 1) := congrArg Value.int (by rw [nI_1', nI_add])
              have f3 : (usedL rows (ts.take (j + 1))).length = (usedL rows (ts.take j)).length + (useL rows x).length := by rw [usedL_take_succ rows hx1, List.length_append]
              refine WS.sel (l' := [(7, vI (j + 1)), (6, vI ts.length), (5, .ref t), (4, vI (usedL rows (ts.take (j + 1))).length), (3, .ref q), (0, .ref A), (1, .ref t)]) [7, 6, 5, 4, 3, 0, 1] (by rw [← f2, f3]; rfl) ?_
              refine WS.widen hkc hkn ?_
              exact ih (j + 1) (by omega) (by omega) h4 _ rfl hE4 (by rw [f3]; exact hq4)
            | succ d2 ih2 =>
              intro i hd2 hi h4 l hl hE4 hq4 hu4
              obtain ⟨y, hy1⟩ : ∃ y, (useL rows x)[i]? = some y := ⟨(useL rows x)[i]'(by omega), by simp⟩
              have hy2 : (usedL rows ts)[(usedL rows (ts.take j)).length + i]? = some y := by
                rw [hsp, List.getElem?_append_right (by omega), Nat.add_sub_cancel_left, List.getElem?_append_left (by omega)]
                exact hy1
              have hlt : (usedL rows (ts.take j)).length + i < (usedL rows ts).length := (List.getElem?_eq_some_iff.mp hy2).1
              refine WS.sel [12, 11, 10, 7, 6, 5, 4, 3, 0, 1] hl ?_
              repeat refine fst1_ok X (dk rfl) rfl ?_
              refine br_ok X (dk rfl) rfl (show ((118 : Nat) : Int) + 25 = ((143 : Nat) : Int) from rfl) (fun c1 => absurd c1 (nI_ge (by omega) (by omega))) (fun c1 => ?_)
              repeat refine fst1_ok X (dk rfl) rfl ?_
              refine ald_ok X (Or.inl ⟨rfl, rfl⟩) (dk rfl) hu4 (inA_nI (by omega) (IA_get hy1)) ?_
              repeat refine fst1_ok X (dk rfl) rfl ?_
              refine sti_ok X (dk rfl) hq4 (by rw [fill_len _ (by omega)]; omega) (by rw [fill_len _ (by omega)]; omega) ?_
              rw [show Value.int (nI y) = vI y from rfl, fill_set hy2]
              repeat refine fst1_ok X (dk rfl) rfl ?_
              refine br_ok X (dk rfl) rfl (show ((140 : Nat) : Int) + (-26) = ((114 : Nat) : Int) from rfl) (fun _ => ?_) (fun q => absurd trivial q)
              have f2 : Value.int (nI i + Int32.ofInt 1) = vI (i + 1) := congrArg Value.int (by rw [nI_1', nI_add])
              have f3 : Value.int (nI ((usedL rows (ts.take j)).length + i) + Int32.ofInt 1) = vI ((usedL rows (ts.take j)).length + (i + 1)) := congrArg Value.int (by rw [nI_1', nI_add]; rfl)
              refine WS.sel (l' := [(12, vI (i + 1)), (11, vI (useL rows x).length), (10, .ref u), (7, vI j), (6, vI ts.length), (5, .ref t), (4, vI ((usedL rows (ts.take j)).length + (i + 1))), (3, .ref q), (0, .ref A), (1, .ref t)]) [12, 11, 10, 7, 6, 5, 4, 3, 0, 1] (by rw [← f2, ← f3]; rfl) ?_
              exact ih2 (i + 1) (by omega) (by omega) _ _ rfl (hE4.set hq _) (hup_self _ _ _) (by rw [hup_ne _ _ huq]; exact hu4)
          refine WS.sel [7, 6, 5, 4, 3, 0, 1] hl ?_
          repeat refine fst1_ok X (dk rfl) rfl ?_
          refine alen_ok X (by decide) (dk rfl) hu ?_
          rw [hlu]
          iterate 3 refine fst1_ok X (dk rfl) rfl ?_
          exact hin _ 0 rfl (Nat.zero_le _) h3 _ rfl hE3 hq3 hu
        refine WS.sel [7, 6, 5, 4, 3, 0, 1] hl ?_
        repeat refine fst1_ok X (dk rfl) rfl ?_
        refine br_ok X (dk rfl) rfl (show ((71 : Nat) : Int) + 78 = ((149 : Nat) : Int) from rfl) (fun c1 => absurd c1 (nI_ge (by omega) (by omega))) (fun c1 => ?_)
        repeat refine fst1_ok X (dk rfl) rfl ?_
        refine ald_ok X (Or.inl ⟨rfl, rfl⟩) (dk rfl) (hE _ _ ht) (inA_nI (by omega) (IA_get hx1)) ?_
        repeat refine fst1_ok X (dk rfl) rfl ?_
        refine br_ok X (dk rfl) rfl (show ((85 : Nat) : Int) + 10 = ((95 : Nat) : Int) from rfl) (fun c2 => ?_) (fun c2 => ?_)
        · rw [nI_10] at c2
          have h1 : 10 ≤ x := nI_ge' (by omega) (by omega) c2
          repeat refine fst1_ok X (dk rfl) rfl ?_
          refine callS_ok (av := [vI x]) (r := []) X E (c_row hh x) lkX10_row mlX10_20 lsX10_row ⟨Nat.le_of_ble_eq_true rfl, Nat.le_of_ble_eq_true rfl⟩ ⟨by show 1 + j + 1 ≤ 1 + ts.length; omega, by show (usedL rows ts).length + j + 1 ≤ (usedL rows ts).length + ts.length; omega⟩ (Nat.le_of_ble_eq_true rfl) (dk rfl) ?_
          rintro v h2 ⟨u, rfl, hu, hBu, rfl⟩
          have hqu : q ≠ u := fun z => by rw [z, hu] at hq1; cases hq1
          refine inner u _ _ rfl (hE.trans (Ext.new hu _)) (by rw [hup_ne _ _ hqu]; exact hq1) ?_ (Ne.symm hqu) _ _ (Nat.le_refl _) (Nat.le_refl _)
          rw [hup_self]
          unfold useL
          rw [if_neg (by omega)]
        · rw [nI_10] at c2
          have h1 : x < 10 := nI_lt' (by omega) (by omega) c2
          obtain ⟨a, ha, ha2⟩ := told x hxm h1
          repeat refine fst1_ok X (dk rfl) rfl ?_
          refine ldr_ok X (dk rfl) (hE _ _ hAs) ha (by omega) ?_
          refine br_ok X (dk rfl) rfl (show ((92 : Nat) : Int) + 8 = ((100 : Nat) : Int) from rfl) (fun _ => ?_) (fun q => absurd trivial q)
          exact inner a hh _ rfl hE hq1 (hE _ _ ha2) (fun z => by rw [z, hq] at ha2; cases ha2) _ _ (by omega) (by omega)
    iterate 3 refine fst1_ok X (dk rfl) rfl ?_
    repeat refine fst1_ok X (dk rfl) rfl ?_
    refine alen_ok (kd := 100) (vs := ts.map vI) X (by decide) (dk rfl) (by rw [hup_ne _ _ htq]; exact ht) ?_
    rw [lt']
    iterate 3 refine fst1_ok X (dk rfl) rfl ?_
    refine WS.widen (k' := 1 + 0) (n' := (usedL rows ts).length + 0) (by omega) (by omega) ?_
    refine outer _ 0 rfl (Nat.zero_le _) _ _ rfl (Ext.new hq _) ?_
    rw [hup_self, List.take_zero, show (usedL rows []).length = 0 from rfl, fill_0]
  have first : ∀ (d j : Nat), d = ts.length - j → j ≤ ts.length → ∀ (l : List (Nat × Value)), lsel l [5, 4, 3, 2, 0, 1] = [(5, vI j), (4, vI ts.length), (3, .ref t), (2, vI (usedL rows (ts.take j)).length), (0, .ref A), (1, .ref t)] →
      WR p la e (rmD 1 (1 + ts.length) ((usedL rows ts).length + ts.length)) s m args below meth c D cA B0 14 (newE B0 h (usedL rows ts)) 11 l [] h 0 0 := by
    intro d
    induction d with
    | zero =>
      intro j hd hj l hl
      have hj2 : j = ts.length := by omega
      subst hj2
      rw [List.take_length] at hl
      refine WS.sel [5, 4, 3, 2, 0, 1] hl ?_
      repeat refine fst1_ok X (dk rfl) rfl ?_
      refine br_ok X (dk rfl) rfl (show ((15 : Nat) : Int) + 34 = ((49 : Nat) : Int) from rfl) (fun c1 => ?_) (fun c1 => absurd (Int32.le_refl _) c1)
      exact second _ rfl
    | succ d ih =>
      intro j hd hj l hl
      obtain ⟨x, hx1⟩ : ∃ x, ts[j]? = some x := ⟨ts[j]'(by omega), by simp⟩
      have hxm := List.mem_of_getElem? hx1
      have hx2 := hx x hxm
      have f2 : Value.int (nI j + Int32.ofInt 1) = vI (j + 1) := congrArg Value.int (by rw [nI_1', nI_add])
      have f3 : (usedL rows (ts.take (j + 1))).length = (usedL rows (ts.take j)).length + (useL rows x).length := by rw [usedL_take_succ rows hx1, List.length_append]
      have back : ∀ (l : List (Nat × Value)), lsel l [5, 4, 3, 0, 1] = [(5, vI j), (4, vI ts.length), (3, .ref t), (0, .ref A), (1, .ref t)] → WR p la e (rmD 1 (1 + ts.length) ((usedL rows ts).length + ts.length)) s m args below meth c D cA B0 14 (newE B0 h (usedL rows ts)) 41 l [vI (useL rows x).length, vI (usedL rows (ts.take j)).length] h 0 0 := by
        intro l hl
        refine WS.sel [5, 4, 3, 0, 1] hl ?_
        repeat refine fst1_ok X (dk rfl) rfl ?_
        refine br_ok X (dk rfl) rfl (show ((46 : Nat) : Int) + (-35) = ((11 : Nat) : Int) from rfl) (fun _ => ?_) (fun q => absurd trivial q)
        refine WS.sel (l' := [(5, vI (j + 1)), (4, vI ts.length), (3, .ref t), (2, vI (usedL rows (ts.take (j + 1))).length), (0, .ref A), (1, .ref t)]) [5, 4, 3, 2, 0, 1] (by rw [← f2, f3, show vI ((usedL rows (ts.take j)).length + (useL rows x).length) = Value.int (nI (usedL rows (ts.take j)).length + nI (useL rows x).length) by rw [nI_add]; rfl]; rfl) ?_
        exact ih (j + 1) (by omega) (by omega) _ rfl
      refine WS.sel [5, 4, 3, 2, 0, 1] hl ?_
      repeat refine fst1_ok X (dk rfl) rfl ?_
      refine br_ok X (dk rfl) rfl (show ((15 : Nat) : Int) + 34 = ((49 : Nat) : Int) from rfl) (fun c1 => absurd c1 (nI_ge (by omega) (by omega))) (fun c1 => ?_)
      repeat refine fst1_ok X (dk rfl) rfl ?_
      refine ald_ok X (Or.inl ⟨rfl, rfl⟩) (dk rfl) ht (inA_nI (by omega) (IA_get hx1)) ?_
      repeat refine fst1_ok X (dk rfl) rfl ?_
      refine br_ok X (dk rfl) rfl (show ((29 : Nat) : Int) + 11 = ((40 : Nat) : Int) from rfl) (fun c2 => ?_) (fun c2 => ?_)
      · rw [nI_10] at c2
        have h1 : 10 ≤ x := nI_ge' (by omega) (by omega) c2
        have e1 : (useL rows x).length = 1 := by unfold useL; rw [if_neg (by omega)]; rfl
        rw [e1] at back
        refine fst1_ok X (dk rfl) rfl ?_
        rw [nI_1']
        exact back _ rfl
      · rw [nI_10] at c2
        have h1 : x < 10 := nI_lt' (by omega) (by omega) c2
        obtain ⟨a, ha, ha2⟩ := told x hxm h1
        repeat refine fst1_ok X (dk rfl) rfl ?_
        refine ldr_ok X (dk rfl) hAs ha (by omega) ?_
        refine alen_ok X (by decide) (dk rfl) ha2 ?_
        rw [show ((useL rows x).map vI).length = (useL rows x).length from List.length_map _]
        refine br_ok X (dk rfl) rfl (show ((37 : Nat) : Int) + 4 = ((41 : Nat) : Int) from rfl) (fun _ => ?_) (fun q => absurd trivial q)
        exact back _ rfl
  iterate 3 refine fst1_ok X (dk rfl) rfl ?_
  exact first _ 0 rfl (Nat.zero_le _) _ rfl
end M10
end U25m8
