set_option maxRecDepth 100000 in
theorem liX10 : Cond.initialized RX10 ∈ WT := WT_of (tbw_1 (List.mem_of_getElem? (i := 9) rfl)) rfl
set_option maxRecDepth 100000 in
theorem liX8 : Cond.initialized RX8 ∈ WT := WT_of (tbw_1 (List.mem_of_getElem? (i := 20) rfl)) rfl
set_option maxRecDepth 100000 in
theorem liX9 : Cond.initialized RX9 ∈ WT := WT_of (tbw_1 (List.mem_of_getElem? (i := 19) rfl)) rfl
set_option maxRecDepth 100000 in
theorem lcX8_init : Cond.code yX8_init cX8_init 6 none ∈ WT := WT_of (tbw_7 (List.mem_of_getElem? (i := 70) rfl)) rfl
theorem lkX8_init : LK yX8_init cX8_init 6 2 none := ⟨lcX8_init, liX8, ⟨by decide +kernel, by decide +kernel⟩, by decide +kernel⟩
set_option maxRecDepth 100000 in
theorem lmX8_init : Cond.instanceMethod yX8_init ∈ WT := WT_of (tbw_7 (List.mem_of_getElem? (i := 69) rfl)) rfl
set_option maxRecDepth 100000 in
theorem lcX8_number : Cond.code yX8_number cX8_number 4 (some .int) ∈ WT := WT_of (tbw_7 (List.mem_of_getElem? (i := 83) rfl)) rfl
theorem lkX8_number : LK yX8_number cX8_number 4 2 (some .int) := ⟨lcX8_number, liX8, ⟨by decide +kernel, by decide +kernel⟩, by decide +kernel⟩
set_option maxRecDepth 100000 in
theorem lmX8_number : Cond.instanceMethod yX8_number ∈ WT := WT_of (tbw_7 (List.mem_of_getElem? (i := 82) rfl)) rfl
set_option maxRecDepth 100000 in
theorem lcX8_come : Cond.code yX8_come cX8_come 3 none ∈ WT := WT_of (tbw_7 (List.mem_of_getElem? (i := 77) rfl)) rfl
theorem lkX8_come : LK yX8_come cX8_come 3 1 none := ⟨lcX8_come, liX8, ⟨by decide +kernel, by decide +kernel⟩, by decide +kernel⟩
set_option maxRecDepth 100000 in
theorem lmX8_come : Cond.instanceMethod yX8_come ∈ WT := WT_of (tbw_7 (List.mem_of_getElem? (i := 76) rfl)) rfl
set_option maxRecDepth 100000 in
theorem lcX8_headed : Cond.code yX8_headed cX8_headed 3 (some .int) ∈ WT := WT_of (tbw_7 (List.mem_of_getElem? (i := 95) rfl)) rfl
theorem lkX8_headed : LK yX8_headed cX8_headed 3 1 (some .int) := ⟨lcX8_headed, liX8, ⟨by decide +kernel, by decide +kernel⟩, by decide +kernel⟩
set_option maxRecDepth 100000 in
theorem lmX8_headed : Cond.instanceMethod yX8_headed ∈ WT := WT_of (tbw_7 (List.mem_of_getElem? (i := 94) rfl)) rfl
set_option maxRecDepth 100000 in
theorem lcX8_join : Cond.code yX8_join cX8_join 8 none ∈ WT := WT_of (tbw_7 (List.mem_of_getElem? (i := 91) rfl)) rfl
theorem lkX8_join : LK yX8_join cX8_join 8 2 none := ⟨lcX8_join, liX8, ⟨by decide +kernel, by decide +kernel⟩, by decide +kernel⟩
set_option maxRecDepth 100000 in
theorem lmX8_join : Cond.instanceMethod yX8_join ∈ WT := WT_of (tbw_7 (List.mem_of_getElem? (i := 90) rfl)) rfl
set_option maxRecDepth 100000 in
theorem lcX8_isRound : Cond.code yX8_isRound cX8_isRound 4 (some .boolean) ∈ WT := WT_of (tbw_7 (List.mem_of_getElem? (i := 99) rfl)) rfl
theorem lkX8_isRound : LK yX8_isRound cX8_isRound 4 0 (some .boolean) := ⟨lcX8_isRound, liX8, ⟨by decide +kernel, by decide +kernel⟩, by decide +kernel⟩
set_option maxRecDepth 100000 in
theorem lmX8_isRound : Cond.instanceMethod yX8_isRound ∈ WT := WT_of (tbw_7 (List.mem_of_getElem? (i := 98) rfl)) rfl
set_option maxRecDepth 100000 in
theorem lcX8_isFree : Cond.code yX8_isFree cX8_isFree 4 (some .boolean) ∈ WT := WT_of (tbw_7 (List.mem_of_getElem? (i := 103) rfl)) rfl
theorem lkX8_isFree : LK yX8_isFree cX8_isFree 4 2 (some .boolean) := ⟨lcX8_isFree, liX8, ⟨by decide +kernel, by decide +kernel⟩, by decide +kernel⟩
set_option maxRecDepth 100000 in
theorem lmX8_isFree : Cond.instanceMethod yX8_isFree ∈ WT := WT_of (tbw_7 (List.mem_of_getElem? (i := 102) rfl)) rfl
set_option maxRecDepth 100000 in
theorem lcX8_whole : Cond.code yX8_whole cX8_whole 6 (some (.array .int)) ∈ WT := WT_of (tbw_7 (List.mem_of_getElem? (i := 141) rfl)) rfl
theorem lkX8_whole : LK yX8_whole cX8_whole 6 1 (some (.array .int)) := ⟨lcX8_whole, liX8, ⟨by decide +kernel, by decide +kernel⟩, by decide +kernel⟩
set_option maxRecDepth 100000 in
theorem lmX8_whole : Cond.instanceMethod yX8_whole ∈ WT := WT_of (tbw_7 (List.mem_of_getElem? (i := 140) rfl)) rfl
set_option maxRecDepth 100000 in
theorem lcX8_answer : Cond.code yX8_answer cX8_answer 4 (some (.array (.array .int))) ∈ WT := WT_of (tbw_7 (List.mem_of_getElem? (i := 136) rfl)) rfl
theorem lkX8_answer : LK yX8_answer cX8_answer 4 0 (some (.array (.array .int))) := ⟨lcX8_answer, liX8, ⟨by decide +kernel, by decide +kernel⟩, by decide +kernel⟩
set_option maxRecDepth 100000 in
theorem lmX8_answer : Cond.instanceMethod yX8_answer ∈ WT := WT_of (tbw_7 (List.mem_of_getElem? (i := 134) rfl)) rfl
set_option maxRecDepth 100000 in
theorem lcX9_init : Cond.code yX9_init cX9_init 3 none ∈ WT := WT_of (tbw_7 (List.mem_of_getElem? (i := 26) rfl)) rfl
theorem lkX9_init : LK yX9_init cX9_init 3 2 none := ⟨lcX9_init, liX9, ⟨by decide +kernel, by decide +kernel⟩, by decide +kernel⟩
set_option maxRecDepth 100000 in
theorem lmX9_init : Cond.instanceMethod yX9_init ∈ WT := WT_of (tbw_7 (List.mem_of_getElem? (i := 25) rfl)) rfl
set_option maxRecDepth 100000 in
theorem lcX9_deep : Cond.code yX9_deep cX9_deep 3 (some (.array .int)) ∈ WT := WT_of (tbw_7 (List.mem_of_getElem? (i := 36) rfl)) rfl
theorem lkX9_deep : LK yX9_deep cX9_deep 3 1 (some (.array .int)) := ⟨lcX9_deep, liX9, ⟨by decide +kernel, by decide +kernel⟩, by decide +kernel⟩
set_option maxRecDepth 100000 in
theorem lmX9_deep : Cond.instanceMethod yX9_deep ∈ WT := WT_of (tbw_7 (List.mem_of_getElem? (i := 35) rfl)) rfl
set_option maxRecDepth 100000 in
theorem lcX9_isWithin : Cond.code yX9_isWithin cX9_isWithin 6 (some .boolean) ∈ WT := WT_of (tbw_7 (List.mem_of_getElem? (i := 45) rfl)) rfl
theorem lkX9_isWithin : LK yX9_isWithin cX9_isWithin 6 2 (some .boolean) := ⟨lcX9_isWithin, liX9, ⟨by decide +kernel, by decide +kernel⟩, by decide +kernel⟩
set_option maxRecDepth 100000 in
theorem lmX9_isWithin : Cond.instanceMethod yX9_isWithin ∈ WT := WT_of (tbw_7 (List.mem_of_getElem? (i := 44) rfl)) rfl
set_option maxRecDepth 100000 in
theorem lcX9_go : Cond.code yX9_go cX9_go 7 none ∈ WT := WT_of (tbw_7 (List.mem_of_getElem? (i := 32) rfl)) rfl
theorem lkX9_go : LK yX9_go cX9_go 7 2 none := ⟨lcX9_go, liX9, ⟨by decide +kernel, by decide +kernel⟩, by decide +kernel⟩
set_option maxRecDepth 100000 in
theorem lmX9_go : Cond.instanceMethod yX9_go ∈ WT := WT_of (tbw_7 (List.mem_of_getElem? (i := 31) rfl)) rfl
set_option maxRecDepth 100000 in
theorem lcX9_bind : Cond.code yX9_bind cX9_bind 3 none ∈ WT := WT_of (tbw_7 (List.mem_of_getElem? (i := 41) rfl)) rfl
theorem lkX9_bind : LK yX9_bind cX9_bind 3 2 none := ⟨lcX9_bind, liX9, ⟨by decide +kernel, by decide +kernel⟩, by decide +kernel⟩
set_option maxRecDepth 100000 in
theorem lmX9_bind : Cond.instanceMethod yX9_bind ∈ WT := WT_of (tbw_7 (List.mem_of_getElem? (i := 40) rfl)) rfl
set_option maxRecDepth 100000 in
theorem lcX9_goOn : Cond.code yX9_goOn cX9_goOn 6 none ∈ WT := WT_of (tbw_7 (List.mem_of_getElem? (i := 50) rfl)) rfl
theorem lkX9_goOn : LK yX9_goOn cX9_goOn 6 2 none := ⟨lcX9_goOn, liX9, ⟨by decide +kernel, by decide +kernel⟩, by decide +kernel⟩
set_option maxRecDepth 100000 in
theorem lmX9_goOn : Cond.instanceMethod yX9_goOn ∈ WT := WT_of (tbw_7 (List.mem_of_getElem? (i := 49) rfl)) rfl
set_option maxRecDepth 100000 in
theorem lcX9_whole : Cond.code yX9_whole cX9_whole 4 (some (.array .int)) ∈ WT := WT_of (tbw_7 (List.mem_of_getElem? (i := 130) rfl)) rfl
theorem lkX9_whole : LK yX9_whole cX9_whole 4 1 (some (.array .int)) := ⟨lcX9_whole, liX9, ⟨by decide +kernel, by decide +kernel⟩, by decide +kernel⟩
set_option maxRecDepth 100000 in
theorem lmX9_whole : Cond.instanceMethod yX9_whole ∈ WT := WT_of (tbw_7 (List.mem_of_getElem? (i := 128) rfl)) rfl
set_option maxRecDepth 100000 in
theorem lvX9_whole : Cond.selects yX9_whole.cls yX9_whole yX9_whole ∈ WT := WT_of (tbw_7 (List.mem_of_getElem? (i := 129) rfl)) rfl
set_option maxRecDepth 100000 in
theorem lcX9_answer : Cond.code yX9_answer cX9_answer 3 (some (.array (.array .int))) ∈ WT := WT_of (tbw_7 (List.mem_of_getElem? (i := 125) rfl)) rfl
theorem lkX9_answer : LK yX9_answer cX9_answer 3 0 (some (.array (.array .int))) := ⟨lcX9_answer, liX9, ⟨by decide +kernel, by decide +kernel⟩, by decide +kernel⟩
set_option maxRecDepth 100000 in
theorem lmX9_answer : Cond.instanceMethod yX9_answer ∈ WT := WT_of (tbw_7 (List.mem_of_getElem? (i := 123) rfl)) rfl
set_option maxRecDepth 100000 in
theorem lcX10_init : Cond.code yX10_init cX10_init 2 none ∈ WT := WT_of (tbw_6 (List.mem_of_getElem? (i := 76) rfl)) rfl
theorem lkX10_init : LK yX10_init cX10_init 2 0 none := ⟨lcX10_init, liX10, ⟨by decide +kernel, by decide +kernel⟩, by decide +kernel⟩
set_option maxRecDepth 100000 in
theorem lmX10_init : Cond.instanceMethod yX10_init ∈ WT := WT_of (tbw_6 (List.mem_of_getElem? (i := 75) rfl)) rfl
set_option maxRecDepth 100000 in
theorem lcX10_row : Cond.code yX10_row cX10_row 1 (some (.array .int)) ∈ WT := WT_of (tbw_6 (List.mem_of_getElem? (i := 84) rfl)) rfl
theorem lkX10_row : LK yX10_row cX10_row 1 1 (some (.array .int)) := ⟨lcX10_row, liX10, ⟨by decide +kernel, by decide +kernel⟩, by decide +kernel⟩
set_option maxRecDepth 100000 in
theorem lsX10_row : Cond.static yX10_row ∈ WT := WT_of (tbw_6 (List.mem_of_getElem? (i := 83) rfl)) rfl
set_option maxRecDepth 100000 in
theorem lcX10_none : Cond.code yX10_none cX10_none 2 (some (.array (.array .int))) ∈ WT := WT_of (tbw_6 (List.mem_of_getElem? (i := 87) rfl)) rfl
theorem lkX10_none : LK yX10_none cX10_none 2 0 (some (.array (.array .int))) := ⟨lcX10_none, liX10, ⟨by decide +kernel, by decide +kernel⟩, by decide +kernel⟩
set_option maxRecDepth 100000 in
theorem lsX10_none : Cond.static yX10_none ∈ WT := WT_of (tbw_6 (List.mem_of_getElem? (i := 86) rfl)) rfl
set_option maxRecDepth 100000 in
theorem lcX10_parts : Cond.code yX10_parts cX10_parts 1 (some .int) ∈ WT := WT_of (tbw_6 (List.mem_of_getElem? (i := 135) rfl)) rfl
theorem lkX10_parts : LK yX10_parts cX10_parts 1 1 (some .int) := ⟨lcX10_parts, liX10, ⟨by decide +kernel, by decide +kernel⟩, by decide +kernel⟩
set_option maxRecDepth 100000 in
theorem lsX10_parts : Cond.static yX10_parts ∈ WT := WT_of (tbw_6 (List.mem_of_getElem? (i := 134) rfl)) rfl
set_option maxRecDepth 100000 in
theorem lcX10_end : Cond.code yX10_end cX10_end 4 (some .int) ∈ WT := WT_of (tbw_6 (List.mem_of_getElem? (i := 179) rfl)) rfl
theorem lkX10_end : LK yX10_end cX10_end 4 2 (some .int) := ⟨lcX10_end, liX10, ⟨by decide +kernel, by decide +kernel⟩, by decide +kernel⟩
set_option maxRecDepth 100000 in
theorem lsX10_end : Cond.static yX10_end ∈ WT := WT_of (tbw_6 (List.mem_of_getElem? (i := 178) rfl)) rfl
set_option maxRecDepth 100000 in
theorem lcX10_piece : Cond.code yX10_piece cX10_piece 5 (some (.array .int)) ∈ WT := WT_of (tbw_6 (List.mem_of_getElem? (i := 182) rfl)) rfl
theorem lkX10_piece : LK yX10_piece cX10_piece 5 3 (some (.array .int)) := ⟨lcX10_piece, liX10, ⟨by decide +kernel, by decide +kernel⟩, by decide +kernel⟩
set_option maxRecDepth 100000 in
theorem lsX10_piece : Cond.static yX10_piece ∈ WT := WT_of (tbw_6 (List.mem_of_getElem? (i := 181) rfl)) rfl
set_option maxRecDepth 100000 in
theorem lcX10_at : Cond.code yX10_at cX10_at 2 (some (.array .int)) ∈ WT := WT_of (tbw_6 (List.mem_of_getElem? (i := 176) rfl)) rfl
theorem lkX10_at : LK yX10_at cX10_at 2 2 (some (.array .int)) := ⟨lcX10_at, liX10, ⟨by decide +kernel, by decide +kernel⟩, by decide +kernel⟩
set_option maxRecDepth 100000 in
theorem lsX10_at : Cond.static yX10_at ∈ WT := WT_of (tbw_6 (List.mem_of_getElem? (i := 175) rfl)) rfl
set_option maxRecDepth 100000 in
theorem lcX10_joined : Cond.code yX10_joined cX10_joined 4 (some (.array .int)) ∈ WT := WT_of (tbw_6 (List.mem_of_getElem? (i := 138) rfl)) rfl
theorem lkX10_joined : LK yX10_joined cX10_joined 4 2 (some (.array .int)) := ⟨lcX10_joined, liX10, ⟨by decide +kernel, by decide +kernel⟩, by decide +kernel⟩
set_option maxRecDepth 100000 in
theorem lsX10_joined : Cond.static yX10_joined ∈ WT := WT_of (tbw_6 (List.mem_of_getElem? (i := 137) rfl)) rfl
set_option maxRecDepth 100000 in
theorem lcX10_same : Cond.code yX10_same cX10_same 2 (some .boolean) ∈ WT := WT_of (tbw_6 (List.mem_of_getElem? (i := 161) rfl)) rfl
theorem lkX10_same : LK yX10_same cX10_same 2 2 (some .boolean) := ⟨lcX10_same, liX10, ⟨by decide +kernel, by decide +kernel⟩, by decide +kernel⟩
set_option maxRecDepth 100000 in
theorem lsX10_same : Cond.static yX10_same ∈ WT := WT_of (tbw_6 (List.mem_of_getElem? (i := 160) rfl)) rfl
set_option maxRecDepth 100000 in
theorem lcX10_isAt : Cond.code yX10_isAt cX10_isAt 6 (some .boolean) ∈ WT := WT_of (tbw_7 (List.mem_of_getElem? (i := 86) rfl)) rfl
theorem lkX10_isAt : LK yX10_isAt cX10_isAt 6 4 (some .boolean) := ⟨lcX10_isAt, liX10, ⟨by decide +kernel, by decide +kernel⟩, by decide +kernel⟩
set_option maxRecDepth 100000 in
theorem lsX10_isAt : Cond.static yX10_isAt ∈ WT := WT_of (tbw_7 (List.mem_of_getElem? (i := 85) rfl)) rfl
set_option maxRecDepth 100000 in
theorem lcX10_first : Cond.code yX10_first cX10_first 3 (some .int) ∈ WT := WT_of (tbw_6 (List.mem_of_getElem? (i := 164) rfl)) rfl
theorem lkX10_first : LK yX10_first cX10_first 3 2 (some .int) := ⟨lcX10_first, liX10, ⟨by decide +kernel, by decide +kernel⟩, by decide +kernel⟩
set_option maxRecDepth 100000 in
theorem lsX10_first : Cond.static yX10_first ∈ WT := WT_of (tbw_6 (List.mem_of_getElem? (i := 163) rfl)) rfl
set_option maxRecDepth 100000 in
theorem lcX10_used : Cond.code yX10_used cX10_used 14 (some (.array .int)) ∈ WT := WT_of (tbw_6 (List.mem_of_getElem? (i := 196) rfl)) rfl
theorem lkX10_used : LK yX10_used cX10_used 14 2 (some (.array .int)) := ⟨lcX10_used, liX10, ⟨by decide +kernel, by decide +kernel⟩, by decide +kernel⟩
set_option maxRecDepth 100000 in
theorem lsX10_used : Cond.static yX10_used ∈ WT := WT_of (tbw_6 (List.mem_of_getElem? (i := 195) rfl)) rfl
set_option maxRecDepth 100000 in
theorem lcX10_movedBy : Cond.code yX10_movedBy cX10_movedBy 3 (some .int) ∈ WT := WT_of (tbw_6 (List.mem_of_getElem? (i := 235) rfl)) rfl
theorem lkX10_movedBy : LK yX10_movedBy cX10_movedBy 3 1 (some .int) := ⟨lcX10_movedBy, liX10, ⟨by decide +kernel, by decide +kernel⟩, by decide +kernel⟩
set_option maxRecDepth 100000 in
theorem lsX10_movedBy : Cond.static yX10_movedBy ∈ WT := WT_of (tbw_6 (List.mem_of_getElem? (i := 234) rfl)) rfl
set_option maxRecDepth 100000 in
theorem lcX10_ones : Cond.code yX10_ones cX10_ones 1 (some .int) ∈ WT := WT_of (tbw_6 (List.mem_of_getElem? (i := 206) rfl)) rfl
theorem lkX10_ones : LK yX10_ones cX10_ones 1 1 (some .int) := ⟨lcX10_ones, liX10, ⟨by decide +kernel, by decide +kernel⟩, by decide +kernel⟩
set_option maxRecDepth 100000 in
theorem lsX10_ones : Cond.static yX10_ones ∈ WT := WT_of (tbw_6 (List.mem_of_getElem? (i := 205) rfl)) rfl
set_option maxRecDepth 100000 in
theorem lcX10_namesOf : Cond.code yX10_namesOf cX10_namesOf 6 (some .int) ∈ WT := WT_of (tbw_6 (List.mem_of_getElem? (i := 203) rfl)) rfl
theorem lkX10_namesOf : LK yX10_namesOf cX10_namesOf 6 1 (some .int) := ⟨lcX10_namesOf, liX10, ⟨by decide +kernel, by decide +kernel⟩, by decide +kernel⟩
set_option maxRecDepth 100000 in
theorem lsX10_namesOf : Cond.static yX10_namesOf ∈ WT := WT_of (tbw_6 (List.mem_of_getElem? (i := 202) rfl)) rfl
set_option maxRecDepth 100000 in
theorem lcX10_depthOf : Cond.code yX10_depthOf cX10_depthOf 5 (some .int) ∈ WT := WT_of (tbw_7 (List.mem_of_getElem? (i := 178) rfl)) rfl
theorem lkX10_depthOf : LK yX10_depthOf cX10_depthOf 5 2 (some .int) := ⟨lcX10_depthOf, liX10, ⟨by decide +kernel, by decide +kernel⟩, by decide +kernel⟩
set_option maxRecDepth 100000 in
theorem lsX10_depthOf : Cond.static yX10_depthOf ∈ WT := WT_of (tbw_7 (List.mem_of_getElem? (i := 177) rfl)) rfl
set_option maxRecDepth 100000 in
theorem lcX10_sharedOf : Cond.code yX10_sharedOf cX10_sharedOf 4 (some .int) ∈ WT := WT_of (tbw_7 (List.mem_of_getElem? (i := 188) rfl)) rfl
theorem lkX10_sharedOf : LK yX10_sharedOf cX10_sharedOf 4 1 (some .int) := ⟨lcX10_sharedOf, liX10, ⟨by decide +kernel, by decide +kernel⟩, by decide +kernel⟩
set_option maxRecDepth 100000 in
theorem lsX10_sharedOf : Cond.static yX10_sharedOf ∈ WT := WT_of (tbw_7 (List.mem_of_getElem? (i := 187) rfl)) rfl
set_option maxRecDepth 100000 in
theorem lcX10_isMet : Cond.code yX10_isMet cX10_isMet 5 (some .boolean) ∈ WT := WT_of (tbw_7 (List.mem_of_getElem? (i := 191) rfl)) rfl
theorem lkX10_isMet : LK yX10_isMet cX10_isMet 5 3 (some .boolean) := ⟨lcX10_isMet, liX10, ⟨by decide +kernel, by decide +kernel⟩, by decide +kernel⟩
set_option maxRecDepth 100000 in
theorem lsX10_isMet : Cond.static yX10_isMet ∈ WT := WT_of (tbw_7 (List.mem_of_getElem? (i := 190) rfl)) rfl
set_option maxRecDepth 100000 in
theorem lcX10_plainOf : Cond.code yX10_plainOf cX10_plainOf 5 (some (.array .int)) ∈ WT := WT_of (tbw_6 (List.mem_of_getElem? (i := 214) rfl)) rfl
theorem lkX10_plainOf : LK yX10_plainOf cX10_plainOf 5 1 (some (.array .int)) := ⟨lcX10_plainOf, liX10, ⟨by decide +kernel, by decide +kernel⟩, by decide +kernel⟩
set_option maxRecDepth 100000 in
theorem lsX10_plainOf : Cond.static yX10_plainOf ∈ WT := WT_of (tbw_6 (List.mem_of_getElem? (i := 213) rfl)) rfl
set_option maxRecDepth 100000 in
theorem lcX10_commonOf : Cond.code yX10_commonOf cX10_commonOf 11 (some (.array .int)) ∈ WT := WT_of (tbw_6 (List.mem_of_getElem? (i := 228) rfl)) rfl
theorem lkX10_commonOf : LK yX10_commonOf cX10_commonOf 11 2 (some (.array .int)) := ⟨lcX10_commonOf, liX10, ⟨by decide +kernel, by decide +kernel⟩, by decide +kernel⟩
set_option maxRecDepth 100000 in
theorem lsX10_commonOf : Cond.static yX10_commonOf ∈ WT := WT_of (tbw_6 (List.mem_of_getElem? (i := 227) rfl)) rfl
set_option maxRecDepth 100000 in
theorem lcX10_matched : Cond.code yX10_matched cX10_matched 9 (some (.array (.array .int))) ∈ WT := WT_of (tbw_7 (List.mem_of_getElem? (i := 151) rfl)) rfl
theorem lkX10_matched : LK yX10_matched cX10_matched 9 2 (some (.array (.array .int))) := ⟨lcX10_matched, liX10, ⟨by decide +kernel, by decide +kernel⟩, by decide +kernel⟩
set_option maxRecDepth 100000 in
theorem lsX10_matched : Cond.static yX10_matched ∈ WT := WT_of (tbw_7 (List.mem_of_getElem? (i := 150) rfl)) rfl
set_option maxRecDepth 100000 in
theorem lcX10_isSlot : Cond.code yX10_isSlot cX10_isSlot 1 (some .boolean) ∈ WT := WT_of (tbw_6 (List.mem_of_getElem? (i := 117) rfl)) rfl
theorem lkX10_isSlot : LK yX10_isSlot cX10_isSlot 1 1 (some .boolean) := ⟨lcX10_isSlot, liX10, ⟨by decide +kernel, by decide +kernel⟩, by decide +kernel⟩
set_option maxRecDepth 100000 in
theorem lsX10_isSlot : Cond.static yX10_isSlot ∈ WT := WT_of (tbw_6 (List.mem_of_getElem? (i := 116) rfl)) rfl
set_option maxRecDepth 100000 in
theorem lcX10_isAnswer : Cond.code yX10_isAnswer cX10_isAnswer 1 (some .boolean) ∈ WT := WT_of (tbw_6 (List.mem_of_getElem? (i := 221) rfl)) rfl
theorem lkX10_isAnswer : LK yX10_isAnswer cX10_isAnswer 1 1 (some .boolean) := ⟨lcX10_isAnswer, liX10, ⟨by decide +kernel, by decide +kernel⟩, by decide +kernel⟩
set_option maxRecDepth 100000 in
theorem lsX10_isAnswer : Cond.static yX10_isAnswer ∈ WT := WT_of (tbw_6 (List.mem_of_getElem? (i := 220) rfl)) rfl
set_option maxRecDepth 100000 in
theorem lcX10_isName : Cond.code yX10_isName cX10_isName 1 (some .boolean) ∈ WT := WT_of (tbw_6 (List.mem_of_getElem? (i := 120) rfl)) rfl
theorem lkX10_isName : LK yX10_isName cX10_isName 1 1 (some .boolean) := ⟨lcX10_isName, liX10, ⟨by decide +kernel, by decide +kernel⟩, by decide +kernel⟩
set_option maxRecDepth 100000 in
theorem lsX10_isName : Cond.static yX10_isName ∈ WT := WT_of (tbw_6 (List.mem_of_getElem? (i := 119) rfl)) rfl
set_option maxRecDepth 100000 in
theorem lcX10_isThrown : Cond.code yX10_isThrown cX10_isThrown 3 (some .boolean) ∈ WT := WT_of (tbw_6 (List.mem_of_getElem? (i := 124) rfl)) rfl
theorem lkX10_isThrown : LK yX10_isThrown cX10_isThrown 3 2 (some .boolean) := ⟨lcX10_isThrown, liX10, ⟨by decide +kernel, by decide +kernel⟩, by decide +kernel⟩
set_option maxRecDepth 100000 in
theorem lmX10_isThrown : Cond.instanceMethod yX10_isThrown ∈ WT := WT_of (tbw_6 (List.mem_of_getElem? (i := 123) rfl)) rfl
set_option maxRecDepth 100000 in
theorem lcX10_isThrown_ : Cond.code yX10_isThrown_ cX10_isThrown_ 2 (some .boolean) ∈ WT := WT_of (tbw_6 (List.mem_of_getElem? (i := 154) rfl)) rfl
theorem lkX10_isThrown_ : LK yX10_isThrown_ cX10_isThrown_ 2 1 (some .boolean) := ⟨lcX10_isThrown_, liX10, ⟨by decide +kernel, by decide +kernel⟩, by decide +kernel⟩
set_option maxRecDepth 100000 in
theorem lmX10_isThrown_ : Cond.instanceMethod yX10_isThrown_ ∈ WT := WT_of (tbw_6 (List.mem_of_getElem? (i := 153) rfl)) rfl
set_option maxRecDepth 100000 in
theorem lcX10_done : Cond.code yX10_done cX10_done 2 (some .int) ∈ WT := WT_of (tbw_6 (List.mem_of_getElem? (i := 128) rfl)) rfl
theorem lkX10_done : LK yX10_done cX10_done 2 1 (some .int) := ⟨lcX10_done, liX10, ⟨by decide +kernel, by decide +kernel⟩, by decide +kernel⟩
set_option maxRecDepth 100000 in
theorem lmX10_done : Cond.instanceMethod yX10_done ∈ WT := WT_of (tbw_6 (List.mem_of_getElem? (i := 127) rfl)) rfl
set_option maxRecDepth 100000 in
theorem lcX10_no : Cond.code yX10_no cX10_no 1 (some .int) ∈ WT := WT_of (tbw_6 (List.mem_of_getElem? (i := 146) rfl)) rfl
theorem lkX10_no : LK yX10_no cX10_no 1 0 (some .int) := ⟨lcX10_no, liX10, ⟨by decide +kernel, by decide +kernel⟩, by decide +kernel⟩
set_option maxRecDepth 100000 in
theorem lmX10_no : Cond.instanceMethod yX10_no ∈ WT := WT_of (tbw_6 (List.mem_of_getElem? (i := 145) rfl)) rfl
set_option maxRecDepth 100000 in
theorem lcX10_give : Cond.code yX10_give cX10_give 3 (some .int) ∈ WT := WT_of (tbw_6 (List.mem_of_getElem? (i := 142) rfl)) rfl
theorem lkX10_give : LK yX10_give cX10_give 3 2 (some .int) := ⟨lcX10_give, liX10, ⟨by decide +kernel, by decide +kernel⟩, by decide +kernel⟩
set_option maxRecDepth 100000 in
theorem lmX10_give : Cond.instanceMethod yX10_give ∈ WT := WT_of (tbw_6 (List.mem_of_getElem? (i := 141) rfl)) rfl
set_option maxRecDepth 100000 in
theorem lcX10_isPlace : Cond.code yX10_isPlace cX10_isPlace 3 (some .boolean) ∈ WT := WT_of (tbw_6 (List.mem_of_getElem? (i := 173) rfl)) rfl
theorem lkX10_isPlace : LK yX10_isPlace cX10_isPlace 3 2 (some .boolean) := ⟨lcX10_isPlace, liX10, ⟨by decide +kernel, by decide +kernel⟩, by decide +kernel⟩
set_option maxRecDepth 100000 in
theorem lmX10_isPlace : Cond.instanceMethod yX10_isPlace ∈ WT := WT_of (tbw_6 (List.mem_of_getElem? (i := 172) rfl)) rfl
set_option maxRecDepth 100000 in
theorem lcX10_name : Cond.code yX10_name cX10_name 4 (some .int) ∈ WT := WT_of (tbw_6 (List.mem_of_getElem? (i := 114) rfl)) rfl
theorem lkX10_name : LK yX10_name cX10_name 4 2 (some .int) := ⟨lcX10_name, liX10, ⟨by decide +kernel, by decide +kernel⟩, by decide +kernel⟩
set_option maxRecDepth 100000 in
theorem lmX10_name : Cond.instanceMethod yX10_name ∈ WT := WT_of (tbw_6 (List.mem_of_getElem? (i := 112) rfl)) rfl
set_option maxRecDepth 100000 in
theorem lvX10_name : Cond.selects yX10_name.cls yX10_name yX10_name ∈ WT := WT_of (tbw_6 (List.mem_of_getElem? (i := 113) rfl)) rfl
set_option maxRecDepth 100000 in
theorem lcX10_head : Cond.code yX10_head cX10_head 9 (some .int) ∈ WT := WT_of (tbw_6 (List.mem_of_getElem? (i := 132) rfl)) rfl
theorem lkX10_head : LK yX10_head cX10_head 9 5 (some .int) := ⟨lcX10_head, liX10, ⟨by decide +kernel, by decide +kernel⟩, by decide +kernel⟩
set_option maxRecDepth 100000 in
theorem lmX10_head : Cond.instanceMethod yX10_head ∈ WT := WT_of (tbw_6 (List.mem_of_getElem? (i := 130) rfl)) rfl
set_option maxRecDepth 100000 in
theorem lvX10_head : Cond.selects yX10_head.cls yX10_head yX10_head ∈ WT := WT_of (tbw_6 (List.mem_of_getElem? (i := 131) rfl)) rfl
set_option maxRecDepth 100000 in
theorem lcX10_copy : Cond.code yX10_copy cX10_copy 3 (some .int) ∈ WT := WT_of (tbw_6 (List.mem_of_getElem? (i := 150) rfl)) rfl
theorem lkX10_copy : LK yX10_copy cX10_copy 3 2 (some .int) := ⟨lcX10_copy, liX10, ⟨by decide +kernel, by decide +kernel⟩, by decide +kernel⟩
set_option maxRecDepth 100000 in
theorem lmX10_copy : Cond.instanceMethod yX10_copy ∈ WT := WT_of (tbw_6 (List.mem_of_getElem? (i := 148) rfl)) rfl
set_option maxRecDepth 100000 in
theorem lvX10_copy : Cond.selects yX10_copy.cls yX10_copy yX10_copy ∈ WT := WT_of (tbw_6 (List.mem_of_getElem? (i := 149) rfl)) rfl
set_option maxRecDepth 100000 in
theorem lcX10_swap : Cond.code yX10_swap cX10_swap 5 (some .int) ∈ WT := WT_of (tbw_6 (List.mem_of_getElem? (i := 158) rfl)) rfl
theorem lkX10_swap : LK yX10_swap cX10_swap 5 2 (some .int) := ⟨lcX10_swap, liX10, ⟨by decide +kernel, by decide +kernel⟩, by decide +kernel⟩
set_option maxRecDepth 100000 in
theorem lmX10_swap : Cond.instanceMethod yX10_swap ∈ WT := WT_of (tbw_6 (List.mem_of_getElem? (i := 156) rfl)) rfl
set_option maxRecDepth 100000 in
theorem lvX10_swap : Cond.selects yX10_swap.cls yX10_swap yX10_swap ∈ WT := WT_of (tbw_6 (List.mem_of_getElem? (i := 157) rfl)) rfl
set_option maxRecDepth 100000 in
theorem lcX10_part : Cond.code yX10_part cX10_part 4 (some .int) ∈ WT := WT_of (tbw_6 (List.mem_of_getElem? (i := 169) rfl)) rfl
theorem lkX10_part : LK yX10_part cX10_part 4 3 (some .int) := ⟨lcX10_part, liX10, ⟨by decide +kernel, by decide +kernel⟩, by decide +kernel⟩
set_option maxRecDepth 100000 in
theorem lmX10_part : Cond.instanceMethod yX10_part ∈ WT := WT_of (tbw_6 (List.mem_of_getElem? (i := 167) rfl)) rfl
set_option maxRecDepth 100000 in
theorem lvX10_part : Cond.selects yX10_part.cls yX10_part yX10_part ∈ WT := WT_of (tbw_6 (List.mem_of_getElem? (i := 168) rfl)) rfl
set_option maxRecDepth 100000 in
theorem lcX10_graft : Cond.code yX10_graft cX10_graft 5 (some .int) ∈ WT := WT_of (tbw_6 (List.mem_of_getElem? (i := 186) rfl)) rfl
theorem lkX10_graft : LK yX10_graft cX10_graft 5 3 (some .int) := ⟨lcX10_graft, liX10, ⟨by decide +kernel, by decide +kernel⟩, by decide +kernel⟩
set_option maxRecDepth 100000 in
theorem lmX10_graft : Cond.instanceMethod yX10_graft ∈ WT := WT_of (tbw_6 (List.mem_of_getElem? (i := 184) rfl)) rfl
set_option maxRecDepth 100000 in
theorem lvX10_graft : Cond.selects yX10_graft.cls yX10_graft yX10_graft ∈ WT := WT_of (tbw_6 (List.mem_of_getElem? (i := 185) rfl)) rfl
set_option maxRecDepth 100000 in
theorem lcX10_often : Cond.code yX10_often cX10_often 7 (some .int) ∈ WT := WT_of (tbw_6 (List.mem_of_getElem? (i := 193) rfl)) rfl
theorem lkX10_often : LK yX10_often cX10_often 7 2 (some .int) := ⟨lcX10_often, liX10, ⟨by decide +kernel, by decide +kernel⟩, by decide +kernel⟩
set_option maxRecDepth 100000 in
theorem lsX10_often : Cond.static yX10_often ∈ WT := WT_of (tbw_6 (List.mem_of_getElem? (i := 192) rfl)) rfl
set_option maxRecDepth 100000 in
theorem lcX10_put : Cond.code yX10_put cX10_put 7 (some .int) ∈ WT := WT_of (tbw_6 (List.mem_of_getElem? (i := 190) rfl)) rfl
theorem lkX10_put : LK yX10_put cX10_put 7 3 (some .int) := ⟨lcX10_put, liX10, ⟨by decide +kernel, by decide +kernel⟩, by decide +kernel⟩
set_option maxRecDepth 100000 in
theorem lmX10_put : Cond.instanceMethod yX10_put ∈ WT := WT_of (tbw_6 (List.mem_of_getElem? (i := 188) rfl)) rfl
set_option maxRecDepth 100000 in
theorem lvX10_put : Cond.selects yX10_put.cls yX10_put yX10_put ∈ WT := WT_of (tbw_6 (List.mem_of_getElem? (i := 189) rfl)) rfl
set_option maxRecDepth 100000 in
theorem lcX10_shift : Cond.code yX10_shift cX10_shift 5 (some .int) ∈ WT := WT_of (tbw_6 (List.mem_of_getElem? (i := 200) rfl)) rfl
theorem lkX10_shift : LK yX10_shift cX10_shift 5 2 (some .int) := ⟨lcX10_shift, liX10, ⟨by decide +kernel, by decide +kernel⟩, by decide +kernel⟩
set_option maxRecDepth 100000 in
theorem lmX10_shift : Cond.instanceMethod yX10_shift ∈ WT := WT_of (tbw_6 (List.mem_of_getElem? (i := 198) rfl)) rfl
set_option maxRecDepth 100000 in
theorem lvX10_shift : Cond.selects yX10_shift.cls yX10_shift yX10_shift ∈ WT := WT_of (tbw_6 (List.mem_of_getElem? (i := 199) rfl)) rfl
set_option maxRecDepth 100000 in
theorem lcX10_plain : Cond.code yX10_plain cX10_plain 2 (some .int) ∈ WT := WT_of (tbw_6 (List.mem_of_getElem? (i := 211) rfl)) rfl
theorem lkX10_plain : LK yX10_plain cX10_plain 2 1 (some .int) := ⟨lcX10_plain, liX10, ⟨by decide +kernel, by decide +kernel⟩, by decide +kernel⟩
set_option maxRecDepth 100000 in
theorem lmX10_plain : Cond.instanceMethod yX10_plain ∈ WT := WT_of (tbw_6 (List.mem_of_getElem? (i := 209) rfl)) rfl
set_option maxRecDepth 100000 in
theorem lvX10_plain : Cond.selects yX10_plain.cls yX10_plain yX10_plain ∈ WT := WT_of (tbw_6 (List.mem_of_getElem? (i := 210) rfl)) rfl
set_option maxRecDepth 100000 in
theorem lcX10_use : Cond.code yX10_use cX10_use 4 (some .int) ∈ WT := WT_of (tbw_6 (List.mem_of_getElem? (i := 218) rfl)) rfl
theorem lkX10_use : LK yX10_use cX10_use 4 3 (some .int) := ⟨lcX10_use, liX10, ⟨by decide +kernel, by decide +kernel⟩, by decide +kernel⟩
set_option maxRecDepth 100000 in
theorem lmX10_use : Cond.instanceMethod yX10_use ∈ WT := WT_of (tbw_6 (List.mem_of_getElem? (i := 216) rfl)) rfl
set_option maxRecDepth 100000 in
theorem lvX10_use : Cond.selects yX10_use.cls yX10_use yX10_use ∈ WT := WT_of (tbw_6 (List.mem_of_getElem? (i := 217) rfl)) rfl
set_option maxRecDepth 100000 in
theorem lcX10_common : Cond.code yX10_common cX10_common 4 (some .int) ∈ WT := WT_of (tbw_6 (List.mem_of_getElem? (i := 225) rfl)) rfl
theorem lkX10_common : LK yX10_common cX10_common 4 3 (some .int) := ⟨lcX10_common, liX10, ⟨by decide +kernel, by decide +kernel⟩, by decide +kernel⟩
set_option maxRecDepth 100000 in
theorem lmX10_common : Cond.instanceMethod yX10_common ∈ WT := WT_of (tbw_6 (List.mem_of_getElem? (i := 223) rfl)) rfl
set_option maxRecDepth 100000 in
theorem lvX10_common : Cond.selects yX10_common.cls yX10_common yX10_common ∈ WT := WT_of (tbw_6 (List.mem_of_getElem? (i := 224) rfl)) rfl
set_option maxRecDepth 100000 in
theorem lcX10_forget : Cond.code yX10_forget cX10_forget 3 (some .int) ∈ WT := WT_of (tbw_6 (List.mem_of_getElem? (i := 232) rfl)) rfl
theorem lkX10_forget : LK yX10_forget cX10_forget 3 1 (some .int) := ⟨lcX10_forget, liX10, ⟨by decide +kernel, by decide +kernel⟩, by decide +kernel⟩
set_option maxRecDepth 100000 in
theorem lmX10_forget : Cond.instanceMethod yX10_forget ∈ WT := WT_of (tbw_6 (List.mem_of_getElem? (i := 230) rfl)) rfl
set_option maxRecDepth 100000 in
theorem lvX10_forget : Cond.selects yX10_forget.cls yX10_forget yX10_forget ∈ WT := WT_of (tbw_6 (List.mem_of_getElem? (i := 231) rfl)) rfl
set_option maxRecDepth 100000 in
theorem lcX10_tell : Cond.code yX10_tell cX10_tell 7 (some .int) ∈ WT := WT_of (tbw_6 (List.mem_of_getElem? (i := 239) rfl)) rfl
theorem lkX10_tell : LK yX10_tell cX10_tell 7 3 (some .int) := ⟨lcX10_tell, liX10, ⟨by decide +kernel, by decide +kernel⟩, by decide +kernel⟩
set_option maxRecDepth 100000 in
theorem lmX10_tell : Cond.instanceMethod yX10_tell ∈ WT := WT_of (tbw_6 (List.mem_of_getElem? (i := 237) rfl)) rfl
set_option maxRecDepth 100000 in
theorem lvX10_tell : Cond.selects yX10_tell.cls yX10_tell yX10_tell ∈ WT := WT_of (tbw_6 (List.mem_of_getElem? (i := 238) rfl)) rfl
set_option maxRecDepth 100000 in
theorem lcX10_become : Cond.code yX10_become cX10_become 3 (some .int) ∈ WT := WT_of (tbw_7 (List.mem_of_getElem? (i := 7) rfl)) rfl
theorem lkX10_become : LK yX10_become cX10_become 3 2 (some .int) := ⟨lcX10_become, liX10, ⟨by decide +kernel, by decide +kernel⟩, by decide +kernel⟩
set_option maxRecDepth 100000 in
theorem lmX10_become : Cond.instanceMethod yX10_become ∈ WT := WT_of (tbw_7 (List.mem_of_getElem? (i := 6) rfl)) rfl
set_option maxRecDepth 100000 in
theorem lcX10_take : Cond.code yX10_take cX10_take 3 (some .int) ∈ WT := WT_of (tbw_7 (List.mem_of_getElem? (i := 3) rfl)) rfl
theorem lkX10_take : LK yX10_take cX10_take 3 2 (some .int) := ⟨lcX10_take, liX10, ⟨by decide +kernel, by decide +kernel⟩, by decide +kernel⟩
set_option maxRecDepth 100000 in
theorem lmX10_take : Cond.instanceMethod yX10_take ∈ WT := WT_of (tbw_7 (List.mem_of_getElem? (i := 1) rfl)) rfl
set_option maxRecDepth 100000 in
theorem lvX10_take : Cond.selects yX10_take.cls yX10_take yX10_take ∈ WT := WT_of (tbw_7 (List.mem_of_getElem? (i := 2) rfl)) rfl
set_option maxRecDepth 100000 in
theorem lcX10_withBehind : Cond.code yX10_withBehind cX10_withBehind 4 (some (.array (.array .int))) ∈ WT := WT_of (tbw_7 (List.mem_of_getElem? (i := 14) rfl)) rfl
theorem lkX10_withBehind : LK yX10_withBehind cX10_withBehind 4 2 (some (.array (.array .int))) := ⟨lcX10_withBehind, liX10, ⟨by decide +kernel, by decide +kernel⟩, by decide +kernel⟩
set_option maxRecDepth 100000 in
theorem lsX10_withBehind : Cond.static yX10_withBehind ∈ WT := WT_of (tbw_7 (List.mem_of_getElem? (i := 13) rfl)) rfl
set_option maxRecDepth 100000 in
theorem lcX10_behind : Cond.code yX10_behind cX10_behind 9 (some .int) ∈ WT := WT_of (tbw_7 (List.mem_of_getElem? (i := 11) rfl)) rfl
theorem lkX10_behind : LK yX10_behind cX10_behind 9 3 (some .int) := ⟨lcX10_behind, liX10, ⟨by decide +kernel, by decide +kernel⟩, by decide +kernel⟩
set_option maxRecDepth 100000 in
theorem lmX10_behind : Cond.instanceMethod yX10_behind ∈ WT := WT_of (tbw_7 (List.mem_of_getElem? (i := 9) rfl)) rfl
set_option maxRecDepth 100000 in
theorem lvX10_behind : Cond.selects yX10_behind.cls yX10_behind yX10_behind ∈ WT := WT_of (tbw_7 (List.mem_of_getElem? (i := 10) rfl)) rfl
set_option maxRecDepth 100000 in
theorem lcX10_alike : Cond.code yX10_alike cX10_alike 6 (some .int) ∈ WT := WT_of (tbw_7 (List.mem_of_getElem? (i := 18) rfl)) rfl
theorem lkX10_alike : LK yX10_alike cX10_alike 6 4 (some .int) := ⟨lcX10_alike, liX10, ⟨by decide +kernel, by decide +kernel⟩, by decide +kernel⟩
set_option maxRecDepth 100000 in
theorem lmX10_alike : Cond.instanceMethod yX10_alike ∈ WT := WT_of (tbw_7 (List.mem_of_getElem? (i := 16) rfl)) rfl
set_option maxRecDepth 100000 in
theorem lvX10_alike : Cond.selects yX10_alike.cls yX10_alike yX10_alike ∈ WT := WT_of (tbw_7 (List.mem_of_getElem? (i := 17) rfl)) rfl
set_option maxRecDepth 100000 in
theorem lcX10_match : Cond.code yX10_match cX10_match 5 (some .int) ∈ WT := WT_of (tbw_7 (List.mem_of_getElem? (i := 148) rfl)) rfl
theorem lkX10_match : LK yX10_match cX10_match 5 3 (some .int) := ⟨lcX10_match, liX10, ⟨by decide +kernel, by decide +kernel⟩, by decide +kernel⟩
set_option maxRecDepth 100000 in
theorem lmX10_match : Cond.instanceMethod yX10_match ∈ WT := WT_of (tbw_7 (List.mem_of_getElem? (i := 146) rfl)) rfl
set_option maxRecDepth 100000 in
theorem lvX10_match : Cond.selects yX10_match.cls yX10_match yX10_match ∈ WT := WT_of (tbw_7 (List.mem_of_getElem? (i := 147) rfl)) rfl
set_option maxRecDepth 100000 in
theorem lcX10_textOf : Cond.code yX10_textOf cX10_textOf 6 (some (.object "java/lang/String")) ∈ WT := WT_of (tbw_7 (List.mem_of_getElem? (i := 159) rfl)) rfl
theorem lkX10_textOf : LK yX10_textOf cX10_textOf 6 2 (some (.object "java/lang/String")) := ⟨lcX10_textOf, liX10, ⟨by decide +kernel, by decide +kernel⟩, by decide +kernel⟩
set_option maxRecDepth 100000 in
theorem lsX10_textOf : Cond.static yX10_textOf ∈ WT := WT_of (tbw_7 (List.mem_of_getElem? (i := 158) rfl)) rfl
set_option maxRecDepth 100000 in
theorem lcX10_text : Cond.code yX10_text cX10_text 2 (some (.object "java/lang/String")) ∈ WT := WT_of (tbw_7 (List.mem_of_getElem? (i := 155) rfl)) rfl
theorem lkX10_text : LK yX10_text cX10_text 2 1 (some (.object "java/lang/String")) := ⟨lcX10_text, liX10, ⟨by decide +kernel, by decide +kernel⟩, by decide +kernel⟩
set_option maxRecDepth 100000 in
theorem lmX10_text : Cond.instanceMethod yX10_text ∈ WT := WT_of (tbw_7 (List.mem_of_getElem? (i := 153) rfl)) rfl
set_option maxRecDepth 100000 in
theorem lvX10_text : Cond.selects yX10_text.cls yX10_text yX10_text ∈ WT := WT_of (tbw_7 (List.mem_of_getElem? (i := 154) rfl)) rfl
set_option maxRecDepth 100000 in
theorem lcX10_size : Cond.code yX10_size cX10_size 2 (some .int) ∈ WT := WT_of (tbw_7 (List.mem_of_getElem? (i := 171) rfl)) rfl
theorem lkX10_size : LK yX10_size cX10_size 2 1 (some .int) := ⟨lcX10_size, liX10, ⟨by decide +kernel, by decide +kernel⟩, by decide +kernel⟩
set_option maxRecDepth 100000 in
theorem lmX10_size : Cond.instanceMethod yX10_size ∈ WT := WT_of (tbw_7 (List.mem_of_getElem? (i := 169) rfl)) rfl
set_option maxRecDepth 100000 in
theorem lvX10_size : Cond.selects yX10_size.cls yX10_size yX10_size ∈ WT := WT_of (tbw_7 (List.mem_of_getElem? (i := 170) rfl)) rfl
set_option maxRecDepth 100000 in
theorem lcX10_depth : Cond.code yX10_depth cX10_depth 2 (some .int) ∈ WT := WT_of (tbw_7 (List.mem_of_getElem? (i := 175) rfl)) rfl
theorem lkX10_depth : LK yX10_depth cX10_depth 2 1 (some .int) := ⟨lcX10_depth, liX10, ⟨by decide +kernel, by decide +kernel⟩, by decide +kernel⟩
set_option maxRecDepth 100000 in
theorem lmX10_depth : Cond.instanceMethod yX10_depth ∈ WT := WT_of (tbw_7 (List.mem_of_getElem? (i := 173) rfl)) rfl
set_option maxRecDepth 100000 in
theorem lvX10_depth : Cond.selects yX10_depth.cls yX10_depth yX10_depth ∈ WT := WT_of (tbw_7 (List.mem_of_getElem? (i := 174) rfl)) rfl
set_option maxRecDepth 100000 in
theorem lcX10_sharedOf_ : Cond.code yX10_sharedOf_ cX10_sharedOf_ 1 (some .int) ∈ WT := WT_of (tbw_7 (List.mem_of_getElem? (i := 185) rfl)) rfl
theorem lkX10_sharedOf_ : LK yX10_sharedOf_ cX10_sharedOf_ 1 1 (some .int) := ⟨lcX10_sharedOf_, liX10, ⟨by decide +kernel, by decide +kernel⟩, by decide +kernel⟩
set_option maxRecDepth 100000 in
theorem lsX10_sharedOf_ : Cond.static yX10_sharedOf_ ∈ WT := WT_of (tbw_7 (List.mem_of_getElem? (i := 184) rfl)) rfl
set_option maxRecDepth 100000 in
theorem lcX10_shared : Cond.code yX10_shared cX10_shared 2 (some .int) ∈ WT := WT_of (tbw_7 (List.mem_of_getElem? (i := 182) rfl)) rfl
theorem lkX10_shared : LK yX10_shared cX10_shared 2 1 (some .int) := ⟨lcX10_shared, liX10, ⟨by decide +kernel, by decide +kernel⟩, by decide +kernel⟩
set_option maxRecDepth 100000 in
theorem lmX10_shared : Cond.instanceMethod yX10_shared ∈ WT := WT_of (tbw_7 (List.mem_of_getElem? (i := 180) rfl)) rfl
set_option maxRecDepth 100000 in
theorem lvX10_shared : Cond.selects yX10_shared.cls yX10_shared yX10_shared ∈ WT := WT_of (tbw_7 (List.mem_of_getElem? (i := 181) rfl)) rfl
set_option maxRecDepth 100000 in
theorem lcX10_letter : Cond.code yX10_letter cX10_letter 3 (some .int) ∈ WT := WT_of (tbw_7 (List.mem_of_getElem? (i := 196) rfl)) rfl
theorem lkX10_letter : LK yX10_letter cX10_letter 3 2 (some .int) := ⟨lcX10_letter, liX10, ⟨by decide +kernel, by decide +kernel⟩, by decide +kernel⟩
set_option maxRecDepth 100000 in
theorem lmX10_letter : Cond.instanceMethod yX10_letter ∈ WT := WT_of (tbw_7 (List.mem_of_getElem? (i := 194) rfl)) rfl
set_option maxRecDepth 100000 in
theorem lvX10_letter : Cond.selects yX10_letter.cls yX10_letter yX10_letter ∈ WT := WT_of (tbw_7 (List.mem_of_getElem? (i := 195) rfl)) rfl
set_option maxRecDepth 100000 in
theorem lcX10_sizeAt : Cond.code yX10_sizeAt cX10_sizeAt 3 (some .int) ∈ WT := WT_of (tbw_7 (List.mem_of_getElem? (i := 200) rfl)) rfl
theorem lkX10_sizeAt : LK yX10_sizeAt cX10_sizeAt 3 2 (some .int) := ⟨lcX10_sizeAt, liX10, ⟨by decide +kernel, by decide +kernel⟩, by decide +kernel⟩
set_option maxRecDepth 100000 in
theorem lmX10_sizeAt : Cond.instanceMethod yX10_sizeAt ∈ WT := WT_of (tbw_7 (List.mem_of_getElem? (i := 198) rfl)) rfl
set_option maxRecDepth 100000 in
theorem lvX10_sizeAt : Cond.selects yX10_sizeAt.cls yX10_sizeAt yX10_sizeAt ∈ WT := WT_of (tbw_7 (List.mem_of_getElem? (i := 199) rfl)) rfl
set_option maxRecDepth 100000 in
theorem lcX10_count : Cond.code yX10_count cX10_count 3 (some .int) ∈ WT := WT_of (tbw_7 (List.mem_of_getElem? (i := 204) rfl)) rfl
theorem lkX10_count : LK yX10_count cX10_count 3 2 (some .int) := ⟨lcX10_count, liX10, ⟨by decide +kernel, by decide +kernel⟩, by decide +kernel⟩
set_option maxRecDepth 100000 in
theorem lmX10_count : Cond.instanceMethod yX10_count ∈ WT := WT_of (tbw_7 (List.mem_of_getElem? (i := 202) rfl)) rfl
set_option maxRecDepth 100000 in
theorem lvX10_count : Cond.selects yX10_count.cls yX10_count yX10_count ∈ WT := WT_of (tbw_7 (List.mem_of_getElem? (i := 203) rfl)) rfl
set_option maxRecDepth 100000 in
theorem lcX10_names : Cond.code yX10_names cX10_names 2 (some .int) ∈ WT := WT_of (tbw_7 (List.mem_of_getElem? (i := 208) rfl)) rfl
theorem lkX10_names : LK yX10_names cX10_names 2 1 (some .int) := ⟨lcX10_names, liX10, ⟨by decide +kernel, by decide +kernel⟩, by decide +kernel⟩
set_option maxRecDepth 100000 in
theorem lmX10_names : Cond.instanceMethod yX10_names ∈ WT := WT_of (tbw_7 (List.mem_of_getElem? (i := 206) rfl)) rfl
set_option maxRecDepth 100000 in
theorem lvX10_names : Cond.selects yX10_names.cls yX10_names yX10_names ∈ WT := WT_of (tbw_7 (List.mem_of_getElem? (i := 207) rfl)) rfl
set_option maxRecDepth 100000 in
theorem lcX10_find : Cond.code yX10_find cX10_find 4 (some .int) ∈ WT := WT_of (tbw_7 (List.mem_of_getElem? (i := 212) rfl)) rfl
theorem lkX10_find : LK yX10_find cX10_find 4 2 (some .int) := ⟨lcX10_find, liX10, ⟨by decide +kernel, by decide +kernel⟩, by decide +kernel⟩
set_option maxRecDepth 100000 in
theorem lmX10_find : Cond.instanceMethod yX10_find ∈ WT := WT_of (tbw_7 (List.mem_of_getElem? (i := 210) rfl)) rfl
set_option maxRecDepth 100000 in
theorem lvX10_find : Cond.selects yX10_find.cls yX10_find yX10_find ∈ WT := WT_of (tbw_7 (List.mem_of_getElem? (i := 211) rfl)) rfl
set_option maxRecDepth 100000 in
theorem lcX10_differ : Cond.code yX10_differ cX10_differ 3 (some .int) ∈ WT := WT_of (tbw_7 (List.mem_of_getElem? (i := 216) rfl)) rfl
theorem lkX10_differ : LK yX10_differ cX10_differ 3 2 (some .int) := ⟨lcX10_differ, liX10, ⟨by decide +kernel, by decide +kernel⟩, by decide +kernel⟩
set_option maxRecDepth 100000 in
theorem lmX10_differ : Cond.instanceMethod yX10_differ ∈ WT := WT_of (tbw_7 (List.mem_of_getElem? (i := 214) rfl)) rfl
set_option maxRecDepth 100000 in
theorem lvX10_differ : Cond.selects yX10_differ.cls yX10_differ yX10_differ ∈ WT := WT_of (tbw_7 (List.mem_of_getElem? (i := 215) rfl)) rfl
set_option maxRecDepth 100000 in
theorem lcX10_is : Cond.code yX10_is cX10_is 4 (some .boolean) ∈ WT := WT_of (tbw_7 (List.mem_of_getElem? (i := 220) rfl)) rfl
theorem lkX10_is : LK yX10_is cX10_is 4 3 (some .boolean) := ⟨lcX10_is, liX10, ⟨by decide +kernel, by decide +kernel⟩, by decide +kernel⟩
set_option maxRecDepth 100000 in
theorem lmX10_is : Cond.instanceMethod yX10_is ∈ WT := WT_of (tbw_7 (List.mem_of_getElem? (i := 218) rfl)) rfl
set_option maxRecDepth 100000 in
theorem lvX10_is : Cond.selects yX10_is.cls yX10_is yX10_is ∈ WT := WT_of (tbw_7 (List.mem_of_getElem? (i := 219) rfl)) rfl
set_option maxRecDepth 100000 in
theorem lcX10_canBe : Cond.code yX10_canBe cX10_canBe 3 (some .boolean) ∈ WT := WT_of (tbw_7 (List.mem_of_getElem? (i := 21) rfl)) rfl
theorem lkX10_canBe : LK yX10_canBe cX10_canBe 3 3 (some .boolean) := ⟨lcX10_canBe, liX10, ⟨by decide +kernel, by decide +kernel⟩, by decide +kernel⟩
set_option maxRecDepth 100000 in
theorem lsX10_canBe : Cond.static yX10_canBe ∈ WT := WT_of (tbw_7 (List.mem_of_getElem? (i := 20) rfl)) rfl
set_option maxRecDepth 100000 in
theorem lcX10_can : Cond.code yX10_can cX10_can 4 (some .boolean) ∈ WT := WT_of (tbw_7 (List.mem_of_getElem? (i := 224) rfl)) rfl
theorem lkX10_can : LK yX10_can cX10_can 4 3 (some .boolean) := ⟨lcX10_can, liX10, ⟨by decide +kernel, by decide +kernel⟩, by decide +kernel⟩
set_option maxRecDepth 100000 in
theorem lmX10_can : Cond.instanceMethod yX10_can ∈ WT := WT_of (tbw_7 (List.mem_of_getElem? (i := 222) rfl)) rfl
set_option maxRecDepth 100000 in
theorem lvX10_can : Cond.selects yX10_can.cls yX10_can yX10_can ∈ WT := WT_of (tbw_7 (List.mem_of_getElem? (i := 223) rfl)) rfl
set_option maxRecDepth 100000 in
theorem lcX10_steps : Cond.code yX10_steps cX10_steps 3 (some .int) ∈ WT := WT_of (tbw_7 (List.mem_of_getElem? (i := 228) rfl)) rfl
theorem lkX10_steps : LK yX10_steps cX10_steps 3 2 (some .int) := ⟨lcX10_steps, liX10, ⟨by decide +kernel, by decide +kernel⟩, by decide +kernel⟩
set_option maxRecDepth 100000 in
theorem lmX10_steps : Cond.instanceMethod yX10_steps ∈ WT := WT_of (tbw_7 (List.mem_of_getElem? (i := 226) rfl)) rfl
set_option maxRecDepth 100000 in
theorem lvX10_steps : Cond.selects yX10_steps.cls yX10_steps yX10_steps ∈ WT := WT_of (tbw_7 (List.mem_of_getElem? (i := 227) rfl)) rfl
set_option maxRecDepth 100000 in
theorem lcX10_why : Cond.code yX10_why cX10_why 3 (some .int) ∈ WT := WT_of (tbw_7 (List.mem_of_getElem? (i := 232) rfl)) rfl
theorem lkX10_why : LK yX10_why cX10_why 3 2 (some .int) := ⟨lcX10_why, liX10, ⟨by decide +kernel, by decide +kernel⟩, by decide +kernel⟩
set_option maxRecDepth 100000 in
theorem lmX10_why : Cond.instanceMethod yX10_why ∈ WT := WT_of (tbw_7 (List.mem_of_getElem? (i := 230) rfl)) rfl
set_option maxRecDepth 100000 in
theorem lvX10_why : Cond.selects yX10_why.cls yX10_why yX10_why ∈ WT := WT_of (tbw_7 (List.mem_of_getElem? (i := 231) rfl)) rfl
set_option maxRecDepth 100000 in
theorem lcX10_told : Cond.code yX10_told cX10_told 3 (some (.object "java/lang/String")) ∈ WT := WT_of (tbw_7 (List.mem_of_getElem? (i := 236) rfl)) rfl
theorem lkX10_told : LK yX10_told cX10_told 3 2 (some (.object "java/lang/String")) := ⟨lcX10_told, liX10, ⟨by decide +kernel, by decide +kernel⟩, by decide +kernel⟩
set_option maxRecDepth 100000 in
theorem lmX10_told : Cond.instanceMethod yX10_told ∈ WT := WT_of (tbw_7 (List.mem_of_getElem? (i := 234) rfl)) rfl
set_option maxRecDepth 100000 in
theorem lvX10_told : Cond.selects yX10_told.cls yX10_told yX10_told ∈ WT := WT_of (tbw_7 (List.mem_of_getElem? (i := 235) rfl)) rfl
set_option maxRecDepth 100000 in
theorem lcX10_moved : Cond.code yX10_moved cX10_moved 2 (some .int) ∈ WT := WT_of (tbw_8 (List.mem_of_getElem? (i := 0) rfl)) rfl
theorem lkX10_moved : LK yX10_moved cX10_moved 2 1 (some .int) := ⟨lcX10_moved, liX10, ⟨by decide +kernel, by decide +kernel⟩, by decide +kernel⟩
set_option maxRecDepth 100000 in
theorem lmX10_moved : Cond.instanceMethod yX10_moved ∈ WT := WT_of (tbw_7 (List.mem_of_getElem? (i := 238) rfl)) rfl
set_option maxRecDepth 100000 in
theorem lvX10_moved : Cond.selects yX10_moved.cls yX10_moved yX10_moved ∈ WT := WT_of (tbw_7 (List.mem_of_getElem? (i := 239) rfl)) rfl
set_option maxRecDepth 100000 in
theorem lcX10_makes : Cond.code yX10_makes cX10_makes 4 (some .boolean) ∈ WT := WT_of (tbw_8 (List.mem_of_getElem? (i := 4) rfl)) rfl
theorem lkX10_makes : LK yX10_makes cX10_makes 4 3 (some .boolean) := ⟨lcX10_makes, liX10, ⟨by decide +kernel, by decide +kernel⟩, by decide +kernel⟩
set_option maxRecDepth 100000 in
theorem lmX10_makes : Cond.instanceMethod yX10_makes ∈ WT := WT_of (tbw_8 (List.mem_of_getElem? (i := 2) rfl)) rfl
set_option maxRecDepth 100000 in
theorem lvX10_makes : Cond.selects yX10_makes.cls yX10_makes yX10_makes ∈ WT := WT_of (tbw_8 (List.mem_of_getElem? (i := 3) rfl)) rfl
set_option maxRecDepth 100000 in
theorem lcX10_unlikeOf : Cond.code yX10_unlikeOf cX10_unlikeOf 3 (some .int) ∈ WT := WT_of (tbw_8 (List.mem_of_getElem? (i := 11) rfl)) rfl
theorem lkX10_unlikeOf : LK yX10_unlikeOf cX10_unlikeOf 3 2 (some .int) := ⟨lcX10_unlikeOf, liX10, ⟨by decide +kernel, by decide +kernel⟩, by decide +kernel⟩
set_option maxRecDepth 100000 in
theorem lsX10_unlikeOf : Cond.static yX10_unlikeOf ∈ WT := WT_of (tbw_8 (List.mem_of_getElem? (i := 10) rfl)) rfl
set_option maxRecDepth 100000 in
theorem lcX10_isSo : Cond.code yX10_isSo cX10_isSo 9 (some .boolean) ∈ WT := WT_of (tbw_8 (List.mem_of_getElem? (i := 8) rfl)) rfl
theorem lkX10_isSo : LK yX10_isSo cX10_isSo 9 2 (some .boolean) := ⟨lcX10_isSo, liX10, ⟨by decide +kernel, by decide +kernel⟩, by decide +kernel⟩
set_option maxRecDepth 100000 in
theorem lmX10_isSo : Cond.instanceMethod yX10_isSo ∈ WT := WT_of (tbw_8 (List.mem_of_getElem? (i := 6) rfl)) rfl
set_option maxRecDepth 100000 in
theorem lvX10_isSo : Cond.selects yX10_isSo.cls yX10_isSo yX10_isSo ∈ WT := WT_of (tbw_8 (List.mem_of_getElem? (i := 7) rfl)) rfl
set_option maxRecDepth 100000 in
theorem lcX10_unlike : Cond.code yX10_unlike cX10_unlike 3 (some .int) ∈ WT := WT_of (tbw_8 (List.mem_of_getElem? (i := 15) rfl)) rfl
theorem lkX10_unlike : LK yX10_unlike cX10_unlike 3 2 (some .int) := ⟨lcX10_unlike, liX10, ⟨by decide +kernel, by decide +kernel⟩, by decide +kernel⟩
set_option maxRecDepth 100000 in
theorem lmX10_unlike : Cond.instanceMethod yX10_unlike ∈ WT := WT_of (tbw_8 (List.mem_of_getElem? (i := 13) rfl)) rfl
set_option maxRecDepth 100000 in
theorem lvX10_unlike : Cond.selects yX10_unlike.cls yX10_unlike yX10_unlike ∈ WT := WT_of (tbw_8 (List.mem_of_getElem? (i := 14) rfl)) rfl
set_option maxRecDepth 100000 in
theorem lcX10_weight : Cond.code yX10_weight cX10_weight 8 (some .int) ∈ WT := WT_of (tbw_8 (List.mem_of_getElem? (i := 19) rfl)) rfl
theorem lkX10_weight : LK yX10_weight cX10_weight 8 2 (some .int) := ⟨lcX10_weight, liX10, ⟨by decide +kernel, by decide +kernel⟩, by decide +kernel⟩
set_option maxRecDepth 100000 in
theorem lmX10_weight : Cond.instanceMethod yX10_weight ∈ WT := WT_of (tbw_8 (List.mem_of_getElem? (i := 17) rfl)) rfl
set_option maxRecDepth 100000 in
theorem lvX10_weight : Cond.selects yX10_weight.cls yX10_weight yX10_weight ∈ WT := WT_of (tbw_8 (List.mem_of_getElem? (i := 18) rfl)) rfl
set_option maxRecDepth 100000 in
theorem lcX10_told_ : Cond.code yX10_told_ cX10_told_ 7 (some .int) ∈ WT := WT_of (tbw_8 (List.mem_of_getElem? (i := 27) rfl)) rfl
theorem lkX10_told_ : LK yX10_told_ cX10_told_ 7 1 (some .int) := ⟨lcX10_told_, liX10, ⟨by decide +kernel, by decide +kernel⟩, by decide +kernel⟩
set_option maxRecDepth 100000 in
theorem lmX10_told_ : Cond.instanceMethod yX10_told_ ∈ WT := WT_of (tbw_8 (List.mem_of_getElem? (i := 26) rfl)) rfl
set_option maxRecDepth 100000 in
theorem lcX10_house : Cond.code yX10_house cX10_house 2 (some .int) ∈ WT := WT_of (tbw_8 (List.mem_of_getElem? (i := 23) rfl)) rfl
theorem lkX10_house : LK yX10_house cX10_house 2 1 (some .int) := ⟨lcX10_house, liX10, ⟨by decide +kernel, by decide +kernel⟩, by decide +kernel⟩
set_option maxRecDepth 100000 in
theorem lmX10_house : Cond.instanceMethod yX10_house ∈ WT := WT_of (tbw_8 (List.mem_of_getElem? (i := 21) rfl)) rfl
set_option maxRecDepth 100000 in
theorem lvX10_house : Cond.selects yX10_house.cls yX10_house yX10_house ∈ WT := WT_of (tbw_8 (List.mem_of_getElem? (i := 22) rfl)) rfl
set_option maxRecDepth 100000 in
theorem lcX10_knock : Cond.code yX10_knock cX10_knock 1 (some .int) ∈ WT := WT_of (tbw_8 (List.mem_of_getElem? (i := 31) rfl)) rfl
theorem lkX10_knock : LK yX10_knock cX10_knock 1 0 (some .int) := ⟨lcX10_knock, liX10, ⟨by decide +kernel, by decide +kernel⟩, by decide +kernel⟩
set_option maxRecDepth 100000 in
theorem lmX10_knock : Cond.instanceMethod yX10_knock ∈ WT := WT_of (tbw_8 (List.mem_of_getElem? (i := 29) rfl)) rfl
set_option maxRecDepth 100000 in
theorem lvX10_knock : Cond.selects yX10_knock.cls yX10_knock yX10_knock ∈ WT := WT_of (tbw_8 (List.mem_of_getElem? (i := 30) rfl)) rfl
set_option maxRecDepth 100000 in
theorem lcX10_isSound : Cond.code yX10_isSound cX10_isSound 1 (some .boolean) ∈ WT := WT_of (tbw_8 (List.mem_of_getElem? (i := 35) rfl)) rfl
theorem lkX10_isSound : LK yX10_isSound cX10_isSound 1 0 (some .boolean) := ⟨lcX10_isSound, liX10, ⟨by decide +kernel, by decide +kernel⟩, by decide +kernel⟩
set_option maxRecDepth 100000 in
theorem lmX10_isSound : Cond.instanceMethod yX10_isSound ∈ WT := WT_of (tbw_8 (List.mem_of_getElem? (i := 33) rfl)) rfl
set_option maxRecDepth 100000 in
theorem lvX10_isSound : Cond.selects yX10_isSound.cls yX10_isSound yX10_isSound ∈ WT := WT_of (tbw_8 (List.mem_of_getElem? (i := 34) rfl)) rfl
set_option maxRecDepth 100000 in
theorem lcX10_add : Cond.code yX10_add cX10_add 4 (some .long) ∈ WT := WT_of (tbw_8 (List.mem_of_getElem? (i := 43) rfl)) rfl
theorem lkX10_add : LK yX10_add cX10_add 4 2 (some .long) := ⟨lcX10_add, liX10, ⟨by decide +kernel, by decide +kernel⟩, by decide +kernel⟩
set_option maxRecDepth 100000 in
theorem lsX10_add : Cond.static yX10_add ∈ WT := WT_of (tbw_8 (List.mem_of_getElem? (i := 42) rfl)) rfl
set_option maxRecDepth 100000 in
theorem lcX10_added : Cond.code yX10_added cX10_added 9 (some .long) ∈ WT := WT_of (tbw_8 (List.mem_of_getElem? (i := 47) rfl)) rfl
theorem lkX10_added : LK yX10_added cX10_added 9 2 (some .long) := ⟨lcX10_added, liX10, ⟨by decide +kernel, by decide +kernel⟩, by decide +kernel⟩
set_option maxRecDepth 100000 in
theorem lsX10_added : Cond.static yX10_added ∈ WT := WT_of (tbw_8 (List.mem_of_getElem? (i := 46) rfl)) rfl
set_option maxRecDepth 100000 in
theorem lcX10_digest : Cond.code yX10_digest cX10_digest 9 (some .long) ∈ WT := WT_of (tbw_8 (List.mem_of_getElem? (i := 39) rfl)) rfl
theorem lkX10_digest : LK yX10_digest cX10_digest 9 0 (some .long) := ⟨lcX10_digest, liX10, ⟨by decide +kernel, by decide +kernel⟩, by decide +kernel⟩
set_option maxRecDepth 100000 in
theorem lmX10_digest : Cond.instanceMethod yX10_digest ∈ WT := WT_of (tbw_8 (List.mem_of_getElem? (i := 37) rfl)) rfl
set_option maxRecDepth 100000 in
theorem lvX10_digest : Cond.selects yX10_digest.cls yX10_digest yX10_digest ∈ WT := WT_of (tbw_8 (List.mem_of_getElem? (i := 38) rfl)) rfl
set_option maxRecDepth 100000 in
theorem mlX10_20 : Cond.methodLink RX10 20 yX10_row ∈ WT := WT_of (tbw_6 (List.mem_of_getElem? (i := 82) rfl)) rfl
set_option maxRecDepth 100000 in
theorem mlX10_24 : Cond.methodLink RX10 24 yX10_none ∈ WT := WT_of (tbw_6 (List.mem_of_getElem? (i := 85) rfl)) rfl
set_option maxRecDepth 100000 in
theorem mlX10_95 : Cond.methodLink RX10 95 yX10_isSlot ∈ WT := WT_of (tbw_6 (List.mem_of_getElem? (i := 115) rfl)) rfl
set_option maxRecDepth 100000 in
theorem mlX10_99 : Cond.methodLink RX10 99 yX10_isName ∈ WT := WT_of (tbw_6 (List.mem_of_getElem? (i := 118) rfl)) rfl
set_option maxRecDepth 100000 in
theorem mlX10_78 : Cond.methodLink RX10 78 yX10_isThrown ∈ WT := WT_of (tbw_6 (List.mem_of_getElem? (i := 121) rfl)) rfl
set_option maxRecDepth 100000 in
theorem mlX10_92 : Cond.methodLink RX10 92 yX10_done ∈ WT := WT_of (tbw_6 (List.mem_of_getElem? (i := 125) rfl)) rfl
set_option maxRecDepth 100000 in
theorem mlX10_32 : Cond.methodLink RX10 32 yX10_parts ∈ WT := WT_of (tbw_6 (List.mem_of_getElem? (i := 133) rfl)) rfl
set_option maxRecDepth 100000 in
theorem mlX10_102 : Cond.methodLink RX10 102 yX10_joined ∈ WT := WT_of (tbw_6 (List.mem_of_getElem? (i := 136) rfl)) rfl
set_option maxRecDepth 100000 in
theorem mlX10_106 : Cond.methodLink RX10 106 yX10_give ∈ WT := WT_of (tbw_6 (List.mem_of_getElem? (i := 139) rfl)) rfl
set_option maxRecDepth 100000 in
theorem mlX10_88 : Cond.methodLink RX10 88 yX10_no ∈ WT := WT_of (tbw_6 (List.mem_of_getElem? (i := 143) rfl)) rfl
set_option maxRecDepth 100000 in
theorem mlX10_110 : Cond.methodLink RX10 110 yX10_isThrown_ ∈ WT := WT_of (tbw_6 (List.mem_of_getElem? (i := 151) rfl)) rfl
set_option maxRecDepth 100000 in
theorem mlX10_54 : Cond.methodLink RX10 54 yX10_same ∈ WT := WT_of (tbw_6 (List.mem_of_getElem? (i := 159) rfl)) rfl
set_option maxRecDepth 100000 in
theorem mlX10_44 : Cond.methodLink RX10 44 yX10_first ∈ WT := WT_of (tbw_6 (List.mem_of_getElem? (i := 162) rfl)) rfl
set_option maxRecDepth 100000 in
theorem mlX10_48 : Cond.methodLink RX10 48 yJ9_max_7cf53 ∈ WT := WT_of (tbw_6 (List.mem_of_getElem? (i := 165) rfl)) rfl
set_option maxRecDepth 100000 in
theorem mlX10_113 : Cond.methodLink RX10 113 yX10_isPlace ∈ WT := WT_of (tbw_6 (List.mem_of_getElem? (i := 170) rfl)) rfl
set_option maxRecDepth 100000 in
theorem mlX10_74 : Cond.methodLink RX10 74 yX10_at ∈ WT := WT_of (tbw_6 (List.mem_of_getElem? (i := 174) rfl)) rfl
set_option maxRecDepth 100000 in
theorem mlX10_36 : Cond.methodLink RX10 36 yX10_end ∈ WT := WT_of (tbw_6 (List.mem_of_getElem? (i := 177) rfl)) rfl
set_option maxRecDepth 100000 in
theorem mlX10_40 : Cond.methodLink RX10 40 yX10_piece ∈ WT := WT_of (tbw_6 (List.mem_of_getElem? (i := 180) rfl)) rfl
set_option maxRecDepth 100000 in
theorem mlX10_117 : Cond.methodLink RX10 117 yX10_often ∈ WT := WT_of (tbw_6 (List.mem_of_getElem? (i := 191) rfl)) rfl
set_option maxRecDepth 100000 in
theorem mlX10_120 : Cond.methodLink RX10 120 yX10_used ∈ WT := WT_of (tbw_6 (List.mem_of_getElem? (i := 194) rfl)) rfl
set_option maxRecDepth 100000 in
theorem mlX10_124 : Cond.methodLink RX10 124 yX10_namesOf ∈ WT := WT_of (tbw_6 (List.mem_of_getElem? (i := 201) rfl)) rfl
set_option maxRecDepth 100000 in
theorem mlX10_128 : Cond.methodLink RX10 128 yX10_ones ∈ WT := WT_of (tbw_6 (List.mem_of_getElem? (i := 204) rfl)) rfl
set_option maxRecDepth 100000 in
theorem mlX10_58 : Cond.methodLink RX10 58 yJ6_bitCount_0f7a4 ∈ WT := WT_of (tbw_6 (List.mem_of_getElem? (i := 207) rfl)) rfl
set_option maxRecDepth 100000 in
theorem mlX10_131 : Cond.methodLink RX10 131 yX10_plainOf ∈ WT := WT_of (tbw_6 (List.mem_of_getElem? (i := 212) rfl)) rfl
set_option maxRecDepth 100000 in
theorem mlX10_135 : Cond.methodLink RX10 135 yX10_isAnswer ∈ WT := WT_of (tbw_6 (List.mem_of_getElem? (i := 219) rfl)) rfl
set_option maxRecDepth 100000 in
theorem mlX10_138 : Cond.methodLink RX10 138 yX10_commonOf ∈ WT := WT_of (tbw_6 (List.mem_of_getElem? (i := 226) rfl)) rfl
set_option maxRecDepth 100000 in
theorem mlX10_141 : Cond.methodLink RX10 141 yX10_movedBy ∈ WT := WT_of (tbw_6 (List.mem_of_getElem? (i := 233) rfl)) rfl
set_option maxRecDepth 100000 in
theorem mlX10_145 : Cond.methodLink RX10 145 yX10_become ∈ WT := WT_of (tbw_7 (List.mem_of_getElem? (i := 4) rfl)) rfl
set_option maxRecDepth 100000 in
theorem mlX10_149 : Cond.methodLink RX10 149 yX10_withBehind ∈ WT := WT_of (tbw_7 (List.mem_of_getElem? (i := 12) rfl)) rfl
set_option maxRecDepth 100000 in
theorem mlX10_153 : Cond.methodLink RX10 153 yX10_canBe ∈ WT := WT_of (tbw_7 (List.mem_of_getElem? (i := 19) rfl)) rfl
set_option maxRecDepth 100000 in
theorem mlX10_159 : Cond.methodLink RX10 159 yX9_init ∈ WT := WT_of (tbw_7 (List.mem_of_getElem? (i := 24) rfl)) rfl
set_option maxRecDepth 100000 in
theorem mlX10_167 : Cond.methodLink RX10 167 yX8_init ∈ WT := WT_of (tbw_7 (List.mem_of_getElem? (i := 68) rfl)) rfl
set_option maxRecDepth 100000 in
theorem mlX10_162 : Cond.methodLink RX10 162 yX9_answer ∈ WT := WT_of (tbw_7 (List.mem_of_getElem? (i := 122) rfl)) rfl
set_option maxRecDepth 100000 in
theorem mlX10_168 : Cond.methodLink RX10 168 yX8_answer ∈ WT := WT_of (tbw_7 (List.mem_of_getElem? (i := 133) rfl)) rfl
set_option maxRecDepth 100000 in
theorem mlX10_169 : Cond.methodLink RX10 169 yX10_matched ∈ WT := WT_of (tbw_7 (List.mem_of_getElem? (i := 149) rfl)) rfl
set_option maxRecDepth 100000 in
theorem mlX10_193 : Cond.methodLink RX10 193 yX10_textOf ∈ WT := WT_of (tbw_7 (List.mem_of_getElem? (i := 157) rfl)) rfl
set_option maxRecDepth 100000 in
theorem mlX10_175 : Cond.methodLink RX10 175 yJ4_init_da8c8 ∈ WT := WT_of (tbw_7 (List.mem_of_getElem? (i := 161) rfl)) rfl
set_option maxRecDepth 100000 in
theorem mlX10_178 : Cond.methodLink RX10 178 yJ4_append_15ec4 ∈ WT := WT_of (tbw_7 (List.mem_of_getElem? (i := 162) rfl)) rfl
set_option maxRecDepth 100000 in
theorem mlX10_182 : Cond.methodLink RX10 182 yJ4_append_cf468 ∈ WT := WT_of (tbw_7 (List.mem_of_getElem? (i := 163) rfl)) rfl
set_option maxRecDepth 100000 in
theorem mlX10_185 : Cond.methodLink RX10 185 yJ4_toString_0e30d ∈ WT := WT_of (tbw_7 (List.mem_of_getElem? (i := 164) rfl)) rfl
set_option maxRecDepth 100000 in
theorem mlX10_63 : Cond.methodLink RX10 63 yX10_depthOf ∈ WT := WT_of (tbw_7 (List.mem_of_getElem? (i := 176) rfl)) rfl
set_option maxRecDepth 100000 in
theorem mlX10_202 : Cond.methodLink RX10 202 yX10_sharedOf_ ∈ WT := WT_of (tbw_7 (List.mem_of_getElem? (i := 183) rfl)) rfl
set_option maxRecDepth 100000 in
theorem mlX10_199 : Cond.methodLink RX10 199 yX10_sharedOf ∈ WT := WT_of (tbw_7 (List.mem_of_getElem? (i := 186) rfl)) rfl
set_option maxRecDepth 100000 in
theorem mlX10_66 : Cond.methodLink RX10 66 yX10_isMet ∈ WT := WT_of (tbw_7 (List.mem_of_getElem? (i := 189) rfl)) rfl
set_option maxRecDepth 100000 in
theorem mlX10_70 : Cond.methodLink RX10 70 yX10_isAt ∈ WT := WT_of (tbw_7 (List.mem_of_getElem? (i := 192) rfl)) rfl
set_option maxRecDepth 100000 in
theorem mlX10_214 : Cond.methodLink RX10 214 yX10_unlikeOf ∈ WT := WT_of (tbw_8 (List.mem_of_getElem? (i := 9) rfl)) rfl
set_option maxRecDepth 100000 in
theorem mlX10_221 : Cond.methodLink RX10 221 yX10_told_ ∈ WT := WT_of (tbw_8 (List.mem_of_getElem? (i := 24) rfl)) rfl
set_option maxRecDepth 100000 in
theorem mlX10_226 : Cond.methodLink RX10 226 yX10_add ∈ WT := WT_of (tbw_8 (List.mem_of_getElem? (i := 41) rfl)) rfl
set_option maxRecDepth 100000 in
theorem mlX10_232 : Cond.methodLink RX10 232 yX10_added ∈ WT := WT_of (tbw_8 (List.mem_of_getElem? (i := 45) rfl)) rfl
set_option maxRecDepth 100000 in
theorem mlX8_31 : Cond.methodLink RX8 31 yX8_come ∈ WT := WT_of (tbw_7 (List.mem_of_getElem? (i := 74) rfl)) rfl
set_option maxRecDepth 100000 in
theorem mlX8_43 : Cond.methodLink RX8 43 yX8_number ∈ WT := WT_of (tbw_7 (List.mem_of_getElem? (i := 80) rfl)) rfl
set_option maxRecDepth 100000 in
theorem mlX8_50 : Cond.methodLink RX8 50 yX8_join ∈ WT := WT_of (tbw_7 (List.mem_of_getElem? (i := 88) rfl)) rfl
set_option maxRecDepth 100000 in
theorem mlX8_66 : Cond.methodLink RX8 66 yX8_headed ∈ WT := WT_of (tbw_7 (List.mem_of_getElem? (i := 92) rfl)) rfl
set_option maxRecDepth 100000 in
theorem mlX8_54 : Cond.methodLink RX8 54 yX8_isRound ∈ WT := WT_of (tbw_7 (List.mem_of_getElem? (i := 96) rfl)) rfl
set_option maxRecDepth 100000 in
theorem mlX8_69 : Cond.methodLink RX8 69 yX8_isFree ∈ WT := WT_of (tbw_7 (List.mem_of_getElem? (i := 100) rfl)) rfl
set_option maxRecDepth 100000 in
theorem mlX8_83 : Cond.methodLink RX8 83 yX8_whole ∈ WT := WT_of (tbw_7 (List.mem_of_getElem? (i := 138) rfl)) rfl
set_option maxRecDepth 100000 in
theorem mlX8_73 : Cond.methodLink RX8 73 yJ9_min_7cf53 ∈ WT := WT_of (tbw_7 (List.mem_of_getElem? (i := 142) rfl)) rfl
set_option maxRecDepth 100000 in
theorem mlX9_17 : Cond.methodLink RX9 17 yX9_go ∈ WT := WT_of (tbw_7 (List.mem_of_getElem? (i := 29) rfl)) rfl
set_option maxRecDepth 100000 in
theorem mlX9_32 : Cond.methodLink RX9 32 yX9_deep ∈ WT := WT_of (tbw_7 (List.mem_of_getElem? (i := 33) rfl)) rfl
set_option maxRecDepth 100000 in
theorem mlX9_36 : Cond.methodLink RX9 36 yJ9_max_7cf53 ∈ WT := WT_of (tbw_7 (List.mem_of_getElem? (i := 37) rfl)) rfl
set_option maxRecDepth 100000 in
theorem mlX9_42 : Cond.methodLink RX9 42 yX9_bind ∈ WT := WT_of (tbw_7 (List.mem_of_getElem? (i := 38) rfl)) rfl
set_option maxRecDepth 100000 in
theorem mlX9_49 : Cond.methodLink RX9 49 yX9_isWithin ∈ WT := WT_of (tbw_7 (List.mem_of_getElem? (i := 42) rfl)) rfl
set_option maxRecDepth 100000 in
theorem mlX9_46 : Cond.methodLink RX9 46 yX9_goOn ∈ WT := WT_of (tbw_7 (List.mem_of_getElem? (i := 47) rfl)) rfl
set_option maxRecDepth 100000 in
theorem mlX9_77 : Cond.methodLink RX9 77 yX9_whole ∈ WT := WT_of (tbw_7 (List.mem_of_getElem? (i := 127) rfl)) rfl
