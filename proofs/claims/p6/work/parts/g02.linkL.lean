/-! words of the law (printed by wip/p40/genL1.py) -/
set_option maxRecDepth 100000 in
theorem liL : Cond.initialized RL ∈ WT := WT_of (tbw_1 (List.mem_of_getElem? (i := 0) rfl)) rfl
set_option maxRecDepth 100000 in
theorem liX7 : Cond.initialized RX7 ∈ WT := WT_of (tbw_1 (List.mem_of_getElem? (i := 10) rfl)) rfl
set_option maxRecDepth 100000 in
theorem lwL_name : Cond.codeWith yL_name cL_name 5 (some .int) [(0, 11, 14, 19), (0, 11, 18, 21)] ∈ WT := WT_of (tbw_3 (List.mem_of_getElem? (i := 191) rfl)) rfl
set_option maxRecDepth 100000 in
theorem lsL_name : Cond.static yL_name ∈ WT := WT_of (tbw_3 (List.mem_of_getElem? (i := 190) rfl)) rfl
set_option maxRecDepth 100000 in
theorem lwL_head : Cond.codeWith yL_head cL_head 8 (some .int) [(0, 17, 20, 19), (0, 17, 24, 21)] ∈ WT := WT_of (tbw_3 (List.mem_of_getElem? (i := 209) rfl)) rfl
set_option maxRecDepth 100000 in
theorem lsL_head : Cond.static yL_head ∈ WT := WT_of (tbw_3 (List.mem_of_getElem? (i := 208) rfl)) rfl
set_option maxRecDepth 100000 in
theorem lwL_copy : Cond.codeWith yL_copy cL_copy 5 (some .int) [(0, 11, 14, 19)] ∈ WT := WT_of (tbw_3 (List.mem_of_getElem? (i := 233) rfl)) rfl
set_option maxRecDepth 100000 in
theorem lsL_copy : Cond.static yL_copy ∈ WT := WT_of (tbw_3 (List.mem_of_getElem? (i := 232) rfl)) rfl
set_option maxRecDepth 100000 in
theorem lwL_swap : Cond.codeWith yL_swap cL_swap 5 (some .int) [(0, 11, 14, 19)] ∈ WT := WT_of (tbw_4 (List.mem_of_getElem? (i := 0) rfl)) rfl
set_option maxRecDepth 100000 in
theorem lsL_swap : Cond.static yL_swap ∈ WT := WT_of (tbw_3 (List.mem_of_getElem? (i := 239) rfl)) rfl
set_option maxRecDepth 100000 in
theorem lwL_part : Cond.codeWith yL_part cL_part 6 (some .int) [(0, 13, 16, 19)] ∈ WT := WT_of (tbw_4 (List.mem_of_getElem? (i := 7) rfl)) rfl
set_option maxRecDepth 100000 in
theorem lsL_part : Cond.static yL_part ∈ WT := WT_of (tbw_4 (List.mem_of_getElem? (i := 6) rfl)) rfl
set_option maxRecDepth 100000 in
theorem lwL_graft : Cond.codeWith yL_graft cL_graft 6 (some .int) [(0, 13, 16, 19)] ∈ WT := WT_of (tbw_4 (List.mem_of_getElem? (i := 20) rfl)) rfl
set_option maxRecDepth 100000 in
theorem lsL_graft : Cond.static yL_graft ∈ WT := WT_of (tbw_4 (List.mem_of_getElem? (i := 19) rfl)) rfl
set_option maxRecDepth 100000 in
theorem lwL_put : Cond.codeWith yL_put cL_put 6 (some .int) [(0, 13, 16, 19), (0, 13, 20, 21)] ∈ WT := WT_of (tbw_4 (List.mem_of_getElem? (i := 27) rfl)) rfl
set_option maxRecDepth 100000 in
theorem lsL_put : Cond.static yL_put ∈ WT := WT_of (tbw_4 (List.mem_of_getElem? (i := 26) rfl)) rfl
set_option maxRecDepth 100000 in
theorem lwL_shift : Cond.codeWith yL_shift cL_shift 5 (some .int) [(0, 11, 14, 19), (0, 11, 18, 21)] ∈ WT := WT_of (tbw_4 (List.mem_of_getElem? (i := 38) rfl)) rfl
set_option maxRecDepth 100000 in
theorem lsL_shift : Cond.static yL_shift ∈ WT := WT_of (tbw_4 (List.mem_of_getElem? (i := 37) rfl)) rfl
set_option maxRecDepth 100000 in
theorem lwL_plain : Cond.codeWith yL_plain cL_plain 4 (some .int) [(0, 10, 13, 19)] ∈ WT := WT_of (tbw_4 (List.mem_of_getElem? (i := 47) rfl)) rfl
set_option maxRecDepth 100000 in
theorem lsL_plain : Cond.static yL_plain ∈ WT := WT_of (tbw_4 (List.mem_of_getElem? (i := 46) rfl)) rfl
set_option maxRecDepth 100000 in
theorem lwL_use : Cond.codeWith yL_use cL_use 6 (some .int) [(0, 13, 16, 19)] ∈ WT := WT_of (tbw_4 (List.mem_of_getElem? (i := 54) rfl)) rfl
set_option maxRecDepth 100000 in
theorem lsL_use : Cond.static yL_use ∈ WT := WT_of (tbw_4 (List.mem_of_getElem? (i := 53) rfl)) rfl
set_option maxRecDepth 100000 in
theorem lwL_common : Cond.codeWith yL_common cL_common 6 (some .int) [(0, 13, 16, 19)] ∈ WT := WT_of (tbw_4 (List.mem_of_getElem? (i := 66) rfl)) rfl
set_option maxRecDepth 100000 in
theorem lsL_common : Cond.static yL_common ∈ WT := WT_of (tbw_4 (List.mem_of_getElem? (i := 65) rfl)) rfl
set_option maxRecDepth 100000 in
theorem lwL_forget : Cond.codeWith yL_forget cL_forget 4 (some .int) [(0, 10, 13, 19)] ∈ WT := WT_of (tbw_4 (List.mem_of_getElem? (i := 73) rfl)) rfl
set_option maxRecDepth 100000 in
theorem lsL_forget : Cond.static yL_forget ∈ WT := WT_of (tbw_4 (List.mem_of_getElem? (i := 72) rfl)) rfl
set_option maxRecDepth 100000 in
theorem lwL_tell : Cond.codeWith yL_tell cL_tell 6 (some .int) [(0, 13, 16, 19), (0, 13, 20, 21)] ∈ WT := WT_of (tbw_4 (List.mem_of_getElem? (i := 84) rfl)) rfl
set_option maxRecDepth 100000 in
theorem lsL_tell : Cond.static yL_tell ∈ WT := WT_of (tbw_4 (List.mem_of_getElem? (i := 83) rfl)) rfl
set_option maxRecDepth 100000 in
theorem lwL_take : Cond.codeWith yL_take cL_take 5 (some .int) [(0, 11, 14, 19)] ∈ WT := WT_of (tbw_4 (List.mem_of_getElem? (i := 91) rfl)) rfl
set_option maxRecDepth 100000 in
theorem lsL_take : Cond.static yL_take ∈ WT := WT_of (tbw_4 (List.mem_of_getElem? (i := 90) rfl)) rfl
set_option maxRecDepth 100000 in
theorem lwL_behind : Cond.codeWith yL_behind cL_behind 6 (some .int) [(0, 13, 16, 19)] ∈ WT := WT_of (tbw_4 (List.mem_of_getElem? (i := 103) rfl)) rfl
set_option maxRecDepth 100000 in
theorem lsL_behind : Cond.static yL_behind ∈ WT := WT_of (tbw_4 (List.mem_of_getElem? (i := 102) rfl)) rfl
set_option maxRecDepth 100000 in
theorem lwL_alike : Cond.codeWith yL_alike cL_alike 7 (some .int) [(0, 15, 18, 19), (0, 15, 22, 21)] ∈ WT := WT_of (tbw_4 (List.mem_of_getElem? (i := 118) rfl)) rfl
set_option maxRecDepth 100000 in
theorem lsL_alike : Cond.static yL_alike ∈ WT := WT_of (tbw_4 (List.mem_of_getElem? (i := 117) rfl)) rfl
set_option maxRecDepth 100000 in
theorem lwL_match : Cond.codeWith yL_match cL_match 6 (some .int) [(0, 13, 16, 19)] ∈ WT := WT_of (tbw_4 (List.mem_of_getElem? (i := 126) rfl)) rfl
set_option maxRecDepth 100000 in
theorem lsL_match : Cond.static yL_match ∈ WT := WT_of (tbw_4 (List.mem_of_getElem? (i := 125) rfl)) rfl
set_option maxRecDepth 100000 in
theorem lwL_text : Cond.codeWith yL_text cL_text 4 (some .int) [(0, 9, 12, 19)] ∈ WT := WT_of (tbw_4 (List.mem_of_getElem? (i := 133) rfl)) rfl
set_option maxRecDepth 100000 in
theorem lsL_text : Cond.static yL_text ∈ WT := WT_of (tbw_4 (List.mem_of_getElem? (i := 132) rfl)) rfl
set_option maxRecDepth 100000 in
theorem lwL_size : Cond.codeWith yL_size cL_size 4 (some .int) [(0, 10, 13, 19)] ∈ WT := WT_of (tbw_5 (List.mem_of_getElem? (i := 184) rfl)) rfl
set_option maxRecDepth 100000 in
theorem lsL_size : Cond.static yL_size ∈ WT := WT_of (tbw_5 (List.mem_of_getElem? (i := 183) rfl)) rfl
set_option maxRecDepth 100000 in
theorem lwL_depth : Cond.codeWith yL_depth cL_depth 4 (some .int) [(0, 10, 13, 19)] ∈ WT := WT_of (tbw_5 (List.mem_of_getElem? (i := 188) rfl)) rfl
set_option maxRecDepth 100000 in
theorem lsL_depth : Cond.static yL_depth ∈ WT := WT_of (tbw_5 (List.mem_of_getElem? (i := 187) rfl)) rfl
set_option maxRecDepth 100000 in
theorem lwL_shared : Cond.codeWith yL_shared cL_shared 4 (some .int) [(0, 10, 13, 19)] ∈ WT := WT_of (tbw_5 (List.mem_of_getElem? (i := 192) rfl)) rfl
set_option maxRecDepth 100000 in
theorem lsL_shared : Cond.static yL_shared ∈ WT := WT_of (tbw_5 (List.mem_of_getElem? (i := 191) rfl)) rfl
set_option maxRecDepth 100000 in
theorem lwL_letter : Cond.codeWith yL_letter cL_letter 5 (some .int) [(0, 11, 14, 19)] ∈ WT := WT_of (tbw_5 (List.mem_of_getElem? (i := 196) rfl)) rfl
set_option maxRecDepth 100000 in
theorem lsL_letter : Cond.static yL_letter ∈ WT := WT_of (tbw_5 (List.mem_of_getElem? (i := 195) rfl)) rfl
set_option maxRecDepth 100000 in
theorem lwL_sizeAt : Cond.codeWith yL_sizeAt cL_sizeAt 5 (some .int) [(0, 11, 14, 19)] ∈ WT := WT_of (tbw_5 (List.mem_of_getElem? (i := 203) rfl)) rfl
set_option maxRecDepth 100000 in
theorem lsL_sizeAt : Cond.static yL_sizeAt ∈ WT := WT_of (tbw_5 (List.mem_of_getElem? (i := 202) rfl)) rfl
set_option maxRecDepth 100000 in
theorem lwL_count : Cond.codeWith yL_count cL_count 5 (some .int) [(0, 11, 14, 19), (0, 11, 18, 21)] ∈ WT := WT_of (tbw_5 (List.mem_of_getElem? (i := 210) rfl)) rfl
set_option maxRecDepth 100000 in
theorem lsL_count : Cond.static yL_count ∈ WT := WT_of (tbw_5 (List.mem_of_getElem? (i := 209) rfl)) rfl
set_option maxRecDepth 100000 in
theorem lwL_names : Cond.codeWith yL_names cL_names 4 (some .int) [(0, 10, 13, 19)] ∈ WT := WT_of (tbw_5 (List.mem_of_getElem? (i := 217) rfl)) rfl
set_option maxRecDepth 100000 in
theorem lsL_names : Cond.static yL_names ∈ WT := WT_of (tbw_5 (List.mem_of_getElem? (i := 216) rfl)) rfl
set_option maxRecDepth 100000 in
theorem lwL_find : Cond.codeWith yL_find cL_find 5 (some .int) [(0, 11, 14, 19)] ∈ WT := WT_of (tbw_5 (List.mem_of_getElem? (i := 221) rfl)) rfl
set_option maxRecDepth 100000 in
theorem lsL_find : Cond.static yL_find ∈ WT := WT_of (tbw_5 (List.mem_of_getElem? (i := 220) rfl)) rfl
set_option maxRecDepth 100000 in
theorem lwL_differ : Cond.codeWith yL_differ cL_differ 5 (some .int) [(0, 11, 14, 19)] ∈ WT := WT_of (tbw_5 (List.mem_of_getElem? (i := 229) rfl)) rfl
set_option maxRecDepth 100000 in
theorem lsL_differ : Cond.static yL_differ ∈ WT := WT_of (tbw_5 (List.mem_of_getElem? (i := 228) rfl)) rfl
set_option maxRecDepth 100000 in
theorem lwL_is : Cond.codeWith yL_is cL_is 6 (some .int) [(0, 20, 23, 19), (0, 20, 27, 21)] ∈ WT := WT_of (tbw_5 (List.mem_of_getElem? (i := 236) rfl)) rfl
set_option maxRecDepth 100000 in
theorem lsL_is : Cond.static yL_is ∈ WT := WT_of (tbw_5 (List.mem_of_getElem? (i := 235) rfl)) rfl
set_option maxRecDepth 100000 in
theorem lwL_can : Cond.codeWith yL_can cL_can 6 (some .int) [(0, 20, 23, 19), (0, 20, 27, 21)] ∈ WT := WT_of (tbw_6 (List.mem_of_getElem? (i := 4) rfl)) rfl
set_option maxRecDepth 100000 in
theorem lsL_can : Cond.static yL_can ∈ WT := WT_of (tbw_6 (List.mem_of_getElem? (i := 3) rfl)) rfl
set_option maxRecDepth 100000 in
theorem lwL_steps : Cond.codeWith yL_steps cL_steps 5 (some .int) [(0, 11, 14, 19)] ∈ WT := WT_of (tbw_6 (List.mem_of_getElem? (i := 11) rfl)) rfl
set_option maxRecDepth 100000 in
theorem lsL_steps : Cond.static yL_steps ∈ WT := WT_of (tbw_6 (List.mem_of_getElem? (i := 10) rfl)) rfl
set_option maxRecDepth 100000 in
theorem lwL_why : Cond.codeWith yL_why cL_why 5 (some .int) [(0, 11, 14, 19)] ∈ WT := WT_of (tbw_6 (List.mem_of_getElem? (i := 15) rfl)) rfl
set_option maxRecDepth 100000 in
theorem lsL_why : Cond.static yL_why ∈ WT := WT_of (tbw_6 (List.mem_of_getElem? (i := 14) rfl)) rfl
set_option maxRecDepth 100000 in
theorem lwL_told : Cond.codeWith yL_told cL_told 5 (some .int) [(0, 10, 13, 19), (0, 10, 17, 21)] ∈ WT := WT_of (tbw_6 (List.mem_of_getElem? (i := 19) rfl)) rfl
set_option maxRecDepth 100000 in
theorem lsL_told : Cond.static yL_told ∈ WT := WT_of (tbw_6 (List.mem_of_getElem? (i := 18) rfl)) rfl
set_option maxRecDepth 100000 in
theorem lwL_moved : Cond.codeWith yL_moved cL_moved 4 (some .int) [(0, 10, 13, 19)] ∈ WT := WT_of (tbw_6 (List.mem_of_getElem? (i := 26) rfl)) rfl
set_option maxRecDepth 100000 in
theorem lsL_moved : Cond.static yL_moved ∈ WT := WT_of (tbw_6 (List.mem_of_getElem? (i := 25) rfl)) rfl
set_option maxRecDepth 100000 in
theorem lwL_makes : Cond.codeWith yL_makes cL_makes 6 (some .int) [(0, 20, 23, 19)] ∈ WT := WT_of (tbw_6 (List.mem_of_getElem? (i := 33) rfl)) rfl
set_option maxRecDepth 100000 in
theorem lsL_makes : Cond.static yL_makes ∈ WT := WT_of (tbw_6 (List.mem_of_getElem? (i := 32) rfl)) rfl
set_option maxRecDepth 100000 in
theorem lwL_isSo : Cond.codeWith yL_isSo cL_isSo 5 (some .int) [(0, 18, 21, 19), (0, 18, 25, 21)] ∈ WT := WT_of (tbw_6 (List.mem_of_getElem? (i := 40) rfl)) rfl
set_option maxRecDepth 100000 in
theorem lsL_isSo : Cond.static yL_isSo ∈ WT := WT_of (tbw_6 (List.mem_of_getElem? (i := 39) rfl)) rfl
set_option maxRecDepth 100000 in
theorem lwL_unlike : Cond.codeWith yL_unlike cL_unlike 5 (some .int) [(0, 11, 14, 19)] ∈ WT := WT_of (tbw_6 (List.mem_of_getElem? (i := 52) rfl)) rfl
set_option maxRecDepth 100000 in
theorem lsL_unlike : Cond.static yL_unlike ∈ WT := WT_of (tbw_6 (List.mem_of_getElem? (i := 51) rfl)) rfl
set_option maxRecDepth 100000 in
theorem lwL_weight : Cond.codeWith yL_weight cL_weight 5 (some .int) [(0, 11, 14, 19)] ∈ WT := WT_of (tbw_6 (List.mem_of_getElem? (i := 59) rfl)) rfl
set_option maxRecDepth 100000 in
theorem lsL_weight : Cond.static yL_weight ∈ WT := WT_of (tbw_6 (List.mem_of_getElem? (i := 58) rfl)) rfl
set_option maxRecDepth 100000 in
theorem lwL_house : Cond.codeWith yL_house cL_house 4 (some .int) [(0, 10, 13, 21)] ∈ WT := WT_of (tbw_6 (List.mem_of_getElem? (i := 70) rfl)) rfl
set_option maxRecDepth 100000 in
theorem lsL_house : Cond.static yL_house ∈ WT := WT_of (tbw_6 (List.mem_of_getElem? (i := 69) rfl)) rfl
set_option maxRecDepth 100000 in
theorem mlL_147 : Cond.methodLink RL 147 yX6_init ∈ WT := WT_of (tbw_1 (List.mem_of_getElem? (i := 31) rfl)) rfl
set_option maxRecDepth 100000 in
theorem mlL_278 : Cond.methodLink RL 278 yX6_knock ∈ WT := WT_of (tbw_1 (List.mem_of_getElem? (i := 205) rfl)) rfl
set_option maxRecDepth 100000 in
theorem mlL_282 : Cond.methodLink RL 282 yX6_isSound ∈ WT := WT_of (tbw_1 (List.mem_of_getElem? (i := 209) rfl)) rfl
set_option maxRecDepth 100000 in
theorem mlL_287 : Cond.methodLink RL 287 yX6_digest ∈ WT := WT_of (tbw_2 (List.mem_of_getElem? (i := 236) rfl)) rfl
set_option maxRecDepth 100000 in
theorem mlL_152 : Cond.methodLink RL 152 yL_name ∈ WT := WT_of (tbw_3 (List.mem_of_getElem? (i := 189) rfl)) rfl
set_option maxRecDepth 100000 in
theorem mlL_7 : Cond.methodLink RL 7 yX6_name ∈ WT := WT_of (tbw_3 (List.mem_of_getElem? (i := 194) rfl)) rfl
set_option maxRecDepth 100000 in
theorem mlL_158 : Cond.methodLink RL 158 yL_head ∈ WT := WT_of (tbw_3 (List.mem_of_getElem? (i := 207) rfl)) rfl
set_option maxRecDepth 100000 in
theorem mlL_23 : Cond.methodLink RL 23 yX6_head ∈ WT := WT_of (tbw_3 (List.mem_of_getElem? (i := 210) rfl)) rfl
set_option maxRecDepth 100000 in
theorem mlL_162 : Cond.methodLink RL 162 yL_copy ∈ WT := WT_of (tbw_3 (List.mem_of_getElem? (i := 231) rfl)) rfl
set_option maxRecDepth 100000 in
theorem mlL_27 : Cond.methodLink RL 27 yX6_copy ∈ WT := WT_of (tbw_3 (List.mem_of_getElem? (i := 234) rfl)) rfl
set_option maxRecDepth 100000 in
theorem mlL_165 : Cond.methodLink RL 165 yL_swap ∈ WT := WT_of (tbw_3 (List.mem_of_getElem? (i := 238) rfl)) rfl
set_option maxRecDepth 100000 in
theorem mlL_30 : Cond.methodLink RL 30 yX6_swap ∈ WT := WT_of (tbw_4 (List.mem_of_getElem? (i := 1) rfl)) rfl
set_option maxRecDepth 100000 in
theorem mlL_168 : Cond.methodLink RL 168 yL_part ∈ WT := WT_of (tbw_4 (List.mem_of_getElem? (i := 5) rfl)) rfl
set_option maxRecDepth 100000 in
theorem mlL_33 : Cond.methodLink RL 33 yX6_part ∈ WT := WT_of (tbw_4 (List.mem_of_getElem? (i := 8) rfl)) rfl
set_option maxRecDepth 100000 in
theorem mlL_176 : Cond.methodLink RL 176 yL_graft ∈ WT := WT_of (tbw_4 (List.mem_of_getElem? (i := 18) rfl)) rfl
set_option maxRecDepth 100000 in
theorem mlL_37 : Cond.methodLink RL 37 yX6_graft ∈ WT := WT_of (tbw_4 (List.mem_of_getElem? (i := 21) rfl)) rfl
set_option maxRecDepth 100000 in
theorem mlL_179 : Cond.methodLink RL 179 yL_put ∈ WT := WT_of (tbw_4 (List.mem_of_getElem? (i := 25) rfl)) rfl
set_option maxRecDepth 100000 in
theorem mlL_40 : Cond.methodLink RL 40 yX6_put ∈ WT := WT_of (tbw_4 (List.mem_of_getElem? (i := 28) rfl)) rfl
set_option maxRecDepth 100000 in
theorem mlL_182 : Cond.methodLink RL 182 yL_shift ∈ WT := WT_of (tbw_4 (List.mem_of_getElem? (i := 36) rfl)) rfl
set_option maxRecDepth 100000 in
theorem mlL_43 : Cond.methodLink RL 43 yX6_shift ∈ WT := WT_of (tbw_4 (List.mem_of_getElem? (i := 39) rfl)) rfl
set_option maxRecDepth 100000 in
theorem mlL_185 : Cond.methodLink RL 185 yL_plain ∈ WT := WT_of (tbw_4 (List.mem_of_getElem? (i := 45) rfl)) rfl
set_option maxRecDepth 100000 in
theorem mlL_46 : Cond.methodLink RL 46 yX6_plain ∈ WT := WT_of (tbw_4 (List.mem_of_getElem? (i := 48) rfl)) rfl
set_option maxRecDepth 100000 in
theorem mlL_189 : Cond.methodLink RL 189 yL_use ∈ WT := WT_of (tbw_4 (List.mem_of_getElem? (i := 52) rfl)) rfl
set_option maxRecDepth 100000 in
theorem mlL_50 : Cond.methodLink RL 50 yX6_use ∈ WT := WT_of (tbw_4 (List.mem_of_getElem? (i := 55) rfl)) rfl
set_option maxRecDepth 100000 in
theorem mlL_192 : Cond.methodLink RL 192 yL_common ∈ WT := WT_of (tbw_4 (List.mem_of_getElem? (i := 64) rfl)) rfl
set_option maxRecDepth 100000 in
theorem mlL_53 : Cond.methodLink RL 53 yX6_common ∈ WT := WT_of (tbw_4 (List.mem_of_getElem? (i := 67) rfl)) rfl
set_option maxRecDepth 100000 in
theorem mlL_195 : Cond.methodLink RL 195 yL_forget ∈ WT := WT_of (tbw_4 (List.mem_of_getElem? (i := 71) rfl)) rfl
set_option maxRecDepth 100000 in
theorem mlL_56 : Cond.methodLink RL 56 yX6_forget ∈ WT := WT_of (tbw_4 (List.mem_of_getElem? (i := 74) rfl)) rfl
set_option maxRecDepth 100000 in
theorem mlL_198 : Cond.methodLink RL 198 yL_tell ∈ WT := WT_of (tbw_4 (List.mem_of_getElem? (i := 82) rfl)) rfl
set_option maxRecDepth 100000 in
theorem mlL_59 : Cond.methodLink RL 59 yX6_tell ∈ WT := WT_of (tbw_4 (List.mem_of_getElem? (i := 85) rfl)) rfl
set_option maxRecDepth 100000 in
theorem mlL_201 : Cond.methodLink RL 201 yL_take ∈ WT := WT_of (tbw_4 (List.mem_of_getElem? (i := 89) rfl)) rfl
set_option maxRecDepth 100000 in
theorem mlL_62 : Cond.methodLink RL 62 yX6_take ∈ WT := WT_of (tbw_4 (List.mem_of_getElem? (i := 92) rfl)) rfl
set_option maxRecDepth 100000 in
theorem mlL_204 : Cond.methodLink RL 204 yL_behind ∈ WT := WT_of (tbw_4 (List.mem_of_getElem? (i := 101) rfl)) rfl
set_option maxRecDepth 100000 in
theorem mlL_65 : Cond.methodLink RL 65 yX6_behind ∈ WT := WT_of (tbw_4 (List.mem_of_getElem? (i := 104) rfl)) rfl
set_option maxRecDepth 100000 in
theorem mlL_207 : Cond.methodLink RL 207 yL_alike ∈ WT := WT_of (tbw_4 (List.mem_of_getElem? (i := 116) rfl)) rfl
set_option maxRecDepth 100000 in
theorem mlL_68 : Cond.methodLink RL 68 yX6_alike ∈ WT := WT_of (tbw_4 (List.mem_of_getElem? (i := 119) rfl)) rfl
set_option maxRecDepth 100000 in
theorem mlL_211 : Cond.methodLink RL 211 yL_match ∈ WT := WT_of (tbw_4 (List.mem_of_getElem? (i := 124) rfl)) rfl
set_option maxRecDepth 100000 in
theorem mlL_72 : Cond.methodLink RL 72 yX6_match ∈ WT := WT_of (tbw_4 (List.mem_of_getElem? (i := 127) rfl)) rfl
set_option maxRecDepth 100000 in
theorem mlL_214 : Cond.methodLink RL 214 yL_text ∈ WT := WT_of (tbw_4 (List.mem_of_getElem? (i := 131) rfl)) rfl
set_option maxRecDepth 100000 in
theorem mlL_75 : Cond.methodLink RL 75 yX6_text ∈ WT := WT_of (tbw_4 (List.mem_of_getElem? (i := 134) rfl)) rfl
set_option maxRecDepth 100000 in
theorem mlL_217 : Cond.methodLink RL 217 yL_size ∈ WT := WT_of (tbw_5 (List.mem_of_getElem? (i := 182) rfl)) rfl
set_option maxRecDepth 100000 in
theorem mlL_83 : Cond.methodLink RL 83 yX6_size ∈ WT := WT_of (tbw_5 (List.mem_of_getElem? (i := 185) rfl)) rfl
set_option maxRecDepth 100000 in
theorem mlL_220 : Cond.methodLink RL 220 yL_depth ∈ WT := WT_of (tbw_5 (List.mem_of_getElem? (i := 186) rfl)) rfl
set_option maxRecDepth 100000 in
theorem mlL_86 : Cond.methodLink RL 86 yX6_depth ∈ WT := WT_of (tbw_5 (List.mem_of_getElem? (i := 189) rfl)) rfl
set_option maxRecDepth 100000 in
theorem mlL_223 : Cond.methodLink RL 223 yL_shared ∈ WT := WT_of (tbw_5 (List.mem_of_getElem? (i := 190) rfl)) rfl
set_option maxRecDepth 100000 in
theorem mlL_89 : Cond.methodLink RL 89 yX6_shared ∈ WT := WT_of (tbw_5 (List.mem_of_getElem? (i := 193) rfl)) rfl
set_option maxRecDepth 100000 in
theorem mlL_226 : Cond.methodLink RL 226 yL_letter ∈ WT := WT_of (tbw_5 (List.mem_of_getElem? (i := 194) rfl)) rfl
set_option maxRecDepth 100000 in
theorem mlL_92 : Cond.methodLink RL 92 yX6_letter ∈ WT := WT_of (tbw_5 (List.mem_of_getElem? (i := 197) rfl)) rfl
set_option maxRecDepth 100000 in
theorem mlL_229 : Cond.methodLink RL 229 yL_sizeAt ∈ WT := WT_of (tbw_5 (List.mem_of_getElem? (i := 201) rfl)) rfl
set_option maxRecDepth 100000 in
theorem mlL_95 : Cond.methodLink RL 95 yX6_sizeAt ∈ WT := WT_of (tbw_5 (List.mem_of_getElem? (i := 204) rfl)) rfl
set_option maxRecDepth 100000 in
theorem mlL_232 : Cond.methodLink RL 232 yL_count ∈ WT := WT_of (tbw_5 (List.mem_of_getElem? (i := 208) rfl)) rfl
set_option maxRecDepth 100000 in
theorem mlL_98 : Cond.methodLink RL 98 yX6_count ∈ WT := WT_of (tbw_5 (List.mem_of_getElem? (i := 211) rfl)) rfl
set_option maxRecDepth 100000 in
theorem mlL_235 : Cond.methodLink RL 235 yL_names ∈ WT := WT_of (tbw_5 (List.mem_of_getElem? (i := 215) rfl)) rfl
set_option maxRecDepth 100000 in
theorem mlL_101 : Cond.methodLink RL 101 yX6_names ∈ WT := WT_of (tbw_5 (List.mem_of_getElem? (i := 218) rfl)) rfl
set_option maxRecDepth 100000 in
theorem mlL_238 : Cond.methodLink RL 238 yL_find ∈ WT := WT_of (tbw_5 (List.mem_of_getElem? (i := 219) rfl)) rfl
set_option maxRecDepth 100000 in
theorem mlL_104 : Cond.methodLink RL 104 yX6_find ∈ WT := WT_of (tbw_5 (List.mem_of_getElem? (i := 222) rfl)) rfl
set_option maxRecDepth 100000 in
theorem mlL_241 : Cond.methodLink RL 241 yL_differ ∈ WT := WT_of (tbw_5 (List.mem_of_getElem? (i := 227) rfl)) rfl
set_option maxRecDepth 100000 in
theorem mlL_107 : Cond.methodLink RL 107 yX6_differ ∈ WT := WT_of (tbw_5 (List.mem_of_getElem? (i := 230) rfl)) rfl
set_option maxRecDepth 100000 in
theorem mlL_244 : Cond.methodLink RL 244 yL_is ∈ WT := WT_of (tbw_5 (List.mem_of_getElem? (i := 234) rfl)) rfl
set_option maxRecDepth 100000 in
theorem mlL_110 : Cond.methodLink RL 110 yX6_is ∈ WT := WT_of (tbw_5 (List.mem_of_getElem? (i := 237) rfl)) rfl
set_option maxRecDepth 100000 in
theorem mlL_247 : Cond.methodLink RL 247 yL_can ∈ WT := WT_of (tbw_6 (List.mem_of_getElem? (i := 2) rfl)) rfl
set_option maxRecDepth 100000 in
theorem mlL_114 : Cond.methodLink RL 114 yX6_can ∈ WT := WT_of (tbw_6 (List.mem_of_getElem? (i := 5) rfl)) rfl
set_option maxRecDepth 100000 in
theorem mlL_250 : Cond.methodLink RL 250 yL_steps ∈ WT := WT_of (tbw_6 (List.mem_of_getElem? (i := 9) rfl)) rfl
set_option maxRecDepth 100000 in
theorem mlL_117 : Cond.methodLink RL 117 yX6_steps ∈ WT := WT_of (tbw_6 (List.mem_of_getElem? (i := 12) rfl)) rfl
set_option maxRecDepth 100000 in
theorem mlL_253 : Cond.methodLink RL 253 yL_why ∈ WT := WT_of (tbw_6 (List.mem_of_getElem? (i := 13) rfl)) rfl
set_option maxRecDepth 100000 in
theorem mlL_120 : Cond.methodLink RL 120 yX6_why ∈ WT := WT_of (tbw_6 (List.mem_of_getElem? (i := 16) rfl)) rfl
set_option maxRecDepth 100000 in
theorem mlL_256 : Cond.methodLink RL 256 yL_told ∈ WT := WT_of (tbw_6 (List.mem_of_getElem? (i := 17) rfl)) rfl
set_option maxRecDepth 100000 in
theorem mlL_123 : Cond.methodLink RL 123 yX6_told ∈ WT := WT_of (tbw_6 (List.mem_of_getElem? (i := 20) rfl)) rfl
set_option maxRecDepth 100000 in
theorem mlL_259 : Cond.methodLink RL 259 yL_moved ∈ WT := WT_of (tbw_6 (List.mem_of_getElem? (i := 24) rfl)) rfl
set_option maxRecDepth 100000 in
theorem mlL_127 : Cond.methodLink RL 127 yX6_moved ∈ WT := WT_of (tbw_6 (List.mem_of_getElem? (i := 27) rfl)) rfl
set_option maxRecDepth 100000 in
theorem mlL_262 : Cond.methodLink RL 262 yL_makes ∈ WT := WT_of (tbw_6 (List.mem_of_getElem? (i := 31) rfl)) rfl
set_option maxRecDepth 100000 in
theorem mlL_130 : Cond.methodLink RL 130 yX6_makes ∈ WT := WT_of (tbw_6 (List.mem_of_getElem? (i := 34) rfl)) rfl
set_option maxRecDepth 100000 in
theorem mlL_265 : Cond.methodLink RL 265 yL_isSo ∈ WT := WT_of (tbw_6 (List.mem_of_getElem? (i := 38) rfl)) rfl
set_option maxRecDepth 100000 in
theorem mlL_133 : Cond.methodLink RL 133 yX6_isSo ∈ WT := WT_of (tbw_6 (List.mem_of_getElem? (i := 41) rfl)) rfl
set_option maxRecDepth 100000 in
theorem mlL_268 : Cond.methodLink RL 268 yL_unlike ∈ WT := WT_of (tbw_6 (List.mem_of_getElem? (i := 50) rfl)) rfl
set_option maxRecDepth 100000 in
theorem mlL_137 : Cond.methodLink RL 137 yX6_unlike ∈ WT := WT_of (tbw_6 (List.mem_of_getElem? (i := 53) rfl)) rfl
set_option maxRecDepth 100000 in
theorem mlL_271 : Cond.methodLink RL 271 yL_weight ∈ WT := WT_of (tbw_6 (List.mem_of_getElem? (i := 57) rfl)) rfl
set_option maxRecDepth 100000 in
theorem mlL_140 : Cond.methodLink RL 140 yX6_weight ∈ WT := WT_of (tbw_6 (List.mem_of_getElem? (i := 60) rfl)) rfl
set_option maxRecDepth 100000 in
theorem mlL_275 : Cond.methodLink RL 275 yL_house ∈ WT := WT_of (tbw_6 (List.mem_of_getElem? (i := 68) rfl)) rfl
set_option maxRecDepth 100000 in
theorem mlL_144 : Cond.methodLink RL 144 yX6_house ∈ WT := WT_of (tbw_6 (List.mem_of_getElem? (i := 71) rfl)) rfl
set_option maxRecDepth 100000 in
theorem mlL_150 : Cond.methodLink RL 150 yX10_init ∈ WT := WT_of (tbw_6 (List.mem_of_getElem? (i := 74) rfl)) rfl
set_option maxRecDepth 100000 in
theorem mlL_172 : Cond.methodLink RL 172 yX10_thrown ∈ WT := WT_of (tbw_6 (List.mem_of_getElem? (i := 107) rfl)) rfl
set_option maxRecDepth 100000 in
theorem mlL_157 : Cond.methodLink RL 157 yX10_name ∈ WT := WT_of (tbw_6 (List.mem_of_getElem? (i := 111) rfl)) rfl
set_option maxRecDepth 100000 in
theorem mlL_161 : Cond.methodLink RL 161 yX10_head ∈ WT := WT_of (tbw_6 (List.mem_of_getElem? (i := 129) rfl)) rfl
set_option maxRecDepth 100000 in
theorem mlL_164 : Cond.methodLink RL 164 yX10_copy ∈ WT := WT_of (tbw_6 (List.mem_of_getElem? (i := 147) rfl)) rfl
set_option maxRecDepth 100000 in
theorem mlL_167 : Cond.methodLink RL 167 yX10_swap ∈ WT := WT_of (tbw_6 (List.mem_of_getElem? (i := 155) rfl)) rfl
set_option maxRecDepth 100000 in
theorem mlL_171 : Cond.methodLink RL 171 yX10_part ∈ WT := WT_of (tbw_6 (List.mem_of_getElem? (i := 166) rfl)) rfl
set_option maxRecDepth 100000 in
theorem mlL_178 : Cond.methodLink RL 178 yX10_graft ∈ WT := WT_of (tbw_6 (List.mem_of_getElem? (i := 183) rfl)) rfl
set_option maxRecDepth 100000 in
theorem mlL_181 : Cond.methodLink RL 181 yX10_put ∈ WT := WT_of (tbw_6 (List.mem_of_getElem? (i := 187) rfl)) rfl
set_option maxRecDepth 100000 in
theorem mlL_184 : Cond.methodLink RL 184 yX10_shift ∈ WT := WT_of (tbw_6 (List.mem_of_getElem? (i := 197) rfl)) rfl
set_option maxRecDepth 100000 in
theorem mlL_188 : Cond.methodLink RL 188 yX10_plain ∈ WT := WT_of (tbw_6 (List.mem_of_getElem? (i := 208) rfl)) rfl
set_option maxRecDepth 100000 in
theorem mlL_191 : Cond.methodLink RL 191 yX10_use ∈ WT := WT_of (tbw_6 (List.mem_of_getElem? (i := 215) rfl)) rfl
set_option maxRecDepth 100000 in
theorem mlL_194 : Cond.methodLink RL 194 yX10_common ∈ WT := WT_of (tbw_6 (List.mem_of_getElem? (i := 222) rfl)) rfl
set_option maxRecDepth 100000 in
theorem mlL_197 : Cond.methodLink RL 197 yX10_forget ∈ WT := WT_of (tbw_6 (List.mem_of_getElem? (i := 229) rfl)) rfl
set_option maxRecDepth 100000 in
theorem mlL_200 : Cond.methodLink RL 200 yX10_tell ∈ WT := WT_of (tbw_6 (List.mem_of_getElem? (i := 236) rfl)) rfl
set_option maxRecDepth 100000 in
theorem mlL_203 : Cond.methodLink RL 203 yX10_take ∈ WT := WT_of (tbw_7 (List.mem_of_getElem? (i := 0) rfl)) rfl
set_option maxRecDepth 100000 in
theorem mlL_206 : Cond.methodLink RL 206 yX10_behind ∈ WT := WT_of (tbw_7 (List.mem_of_getElem? (i := 8) rfl)) rfl
set_option maxRecDepth 100000 in
theorem mlL_210 : Cond.methodLink RL 210 yX10_alike ∈ WT := WT_of (tbw_7 (List.mem_of_getElem? (i := 15) rfl)) rfl
set_option maxRecDepth 100000 in
theorem mlL_213 : Cond.methodLink RL 213 yX10_match ∈ WT := WT_of (tbw_7 (List.mem_of_getElem? (i := 145) rfl)) rfl
set_option maxRecDepth 100000 in
theorem mlL_216 : Cond.methodLink RL 216 yX10_text ∈ WT := WT_of (tbw_7 (List.mem_of_getElem? (i := 152) rfl)) rfl
set_option maxRecDepth 100000 in
theorem mlL_219 : Cond.methodLink RL 219 yX10_size ∈ WT := WT_of (tbw_7 (List.mem_of_getElem? (i := 168) rfl)) rfl
set_option maxRecDepth 100000 in
theorem mlL_222 : Cond.methodLink RL 222 yX10_depth ∈ WT := WT_of (tbw_7 (List.mem_of_getElem? (i := 172) rfl)) rfl
set_option maxRecDepth 100000 in
theorem mlL_225 : Cond.methodLink RL 225 yX10_shared ∈ WT := WT_of (tbw_7 (List.mem_of_getElem? (i := 179) rfl)) rfl
set_option maxRecDepth 100000 in
theorem mlL_228 : Cond.methodLink RL 228 yX10_letter ∈ WT := WT_of (tbw_7 (List.mem_of_getElem? (i := 193) rfl)) rfl
set_option maxRecDepth 100000 in
theorem mlL_231 : Cond.methodLink RL 231 yX10_sizeAt ∈ WT := WT_of (tbw_7 (List.mem_of_getElem? (i := 197) rfl)) rfl
set_option maxRecDepth 100000 in
theorem mlL_234 : Cond.methodLink RL 234 yX10_count ∈ WT := WT_of (tbw_7 (List.mem_of_getElem? (i := 201) rfl)) rfl
set_option maxRecDepth 100000 in
theorem mlL_237 : Cond.methodLink RL 237 yX10_names ∈ WT := WT_of (tbw_7 (List.mem_of_getElem? (i := 205) rfl)) rfl
set_option maxRecDepth 100000 in
theorem mlL_240 : Cond.methodLink RL 240 yX10_find ∈ WT := WT_of (tbw_7 (List.mem_of_getElem? (i := 209) rfl)) rfl
set_option maxRecDepth 100000 in
theorem mlL_243 : Cond.methodLink RL 243 yX10_differ ∈ WT := WT_of (tbw_7 (List.mem_of_getElem? (i := 213) rfl)) rfl
set_option maxRecDepth 100000 in
theorem mlL_246 : Cond.methodLink RL 246 yX10_is ∈ WT := WT_of (tbw_7 (List.mem_of_getElem? (i := 217) rfl)) rfl
set_option maxRecDepth 100000 in
theorem mlL_249 : Cond.methodLink RL 249 yX10_can ∈ WT := WT_of (tbw_7 (List.mem_of_getElem? (i := 221) rfl)) rfl
set_option maxRecDepth 100000 in
theorem mlL_252 : Cond.methodLink RL 252 yX10_steps ∈ WT := WT_of (tbw_7 (List.mem_of_getElem? (i := 225) rfl)) rfl
set_option maxRecDepth 100000 in
theorem mlL_255 : Cond.methodLink RL 255 yX10_why ∈ WT := WT_of (tbw_7 (List.mem_of_getElem? (i := 229) rfl)) rfl
set_option maxRecDepth 100000 in
theorem mlL_258 : Cond.methodLink RL 258 yX10_told ∈ WT := WT_of (tbw_7 (List.mem_of_getElem? (i := 233) rfl)) rfl
set_option maxRecDepth 100000 in
theorem mlL_261 : Cond.methodLink RL 261 yX10_moved ∈ WT := WT_of (tbw_7 (List.mem_of_getElem? (i := 237) rfl)) rfl
set_option maxRecDepth 100000 in
theorem mlL_264 : Cond.methodLink RL 264 yX10_makes ∈ WT := WT_of (tbw_8 (List.mem_of_getElem? (i := 1) rfl)) rfl
set_option maxRecDepth 100000 in
theorem mlL_267 : Cond.methodLink RL 267 yX10_isSo ∈ WT := WT_of (tbw_8 (List.mem_of_getElem? (i := 5) rfl)) rfl
set_option maxRecDepth 100000 in
theorem mlL_270 : Cond.methodLink RL 270 yX10_unlike ∈ WT := WT_of (tbw_8 (List.mem_of_getElem? (i := 12) rfl)) rfl
set_option maxRecDepth 100000 in
theorem mlL_274 : Cond.methodLink RL 274 yX10_weight ∈ WT := WT_of (tbw_8 (List.mem_of_getElem? (i := 16) rfl)) rfl
set_option maxRecDepth 100000 in
theorem mlL_277 : Cond.methodLink RL 277 yX10_house ∈ WT := WT_of (tbw_8 (List.mem_of_getElem? (i := 20) rfl)) rfl
set_option maxRecDepth 100000 in
theorem mlL_281 : Cond.methodLink RL 281 yX10_knock ∈ WT := WT_of (tbw_8 (List.mem_of_getElem? (i := 28) rfl)) rfl
set_option maxRecDepth 100000 in
theorem mlL_286 : Cond.methodLink RL 286 yX10_isSound ∈ WT := WT_of (tbw_8 (List.mem_of_getElem? (i := 32) rfl)) rfl
set_option maxRecDepth 100000 in
theorem mlL_291 : Cond.methodLink RL 291 yX10_digest ∈ WT := WT_of (tbw_8 (List.mem_of_getElem? (i := 36) rfl)) rfl
set_option maxRecDepth 100000 in
theorem clL_19 : Cond.classLink RL 19 ioobe ∈ WT := WT_of (tbw_3 (List.mem_of_getElem? (i := 192) rfl)) rfl
set_option maxRecDepth 100000 in
theorem clL_21 : Cond.classLink RL 21 iae ∈ WT := WT_of (tbw_3 (List.mem_of_getElem? (i := 193) rfl)) rfl
set_option maxRecDepth 100000 in
theorem cstI : Cond.castable ioobe ioobe ∈ lw_tbl := tbw_3 (List.mem_of_getElem? (i := 12) rfl)
set_option maxRecDepth 100000 in
theorem cstA : Cond.castable iae iae ∈ lw_tbl := tbw_3 (List.mem_of_getElem? (i := 124) rfl)
set_option maxRecDepth 100000 in
theorem mnL_151 : Cond.methodLinkNest RL 151 yX7_init "BranchmatchLaw" ∈ lw_tbl := tbw_3 (List.mem_of_getElem? (i := 178) rfl)
set_option maxRecDepth 100000 in
theorem fnL_13 : Cond.fieldLinkNest RL 13 RX7 (TX7 0).2.1 (TX7 0).2.2.1 "BranchmatchLaw" ∈ lw_tbl := tbw_3 (List.mem_of_getElem? (i := 182) rfl)
set_option maxRecDepth 100000 in
theorem fnL_79 : Cond.fieldLinkNest RL 79 RX7 (TX7 1).2.1 (TX7 1).2.2.1 "BranchmatchLaw" ∈ lw_tbl := tbw_3 (List.mem_of_getElem? (i := 183) rfl)
set_option maxRecDepth 100000 in
theorem lmX7_init : Cond.instanceMethod yX7_init ∈ WT := WT_of (tbw_3 (List.mem_of_getElem? (i := 179) rfl)) rfl
set_option maxRecDepth 100000 in
theorem lcX7_init : Cond.code yX7_init cX7_init 1 none ∈ WT := WT_of (tbw_3 (List.mem_of_getElem? (i := 180) rfl)) rfl
theorem lkX7_init : LK yX7_init cX7_init 1 0 none := ⟨lcX7_init, liX7, ⟨by decide +kernel, by decide +kernel⟩, by decide +kernel⟩
set_option maxRecDepth 100000 in
theorem ml7_obj : Cond.methodLink RX7 1 Lib.objectInit ∈ WT := WT_of (tbw_3 (List.mem_of_getElem? (i := 181) rfl)) rfl
set_option maxRecDepth 100000 in
theorem cwX7 : ∀ w ∈ u_ws RX7 TX7 2, w ∈ WT := fun w h => WT_of ((show ∀ w ∈ u_ws RX7 TX7 2, w ∈ lw_tbl by decide +kernel) w h) ((show ∀ w ∈ u_ws RX7 TX7 2, goodWord w = true by decide +kernel) w h)
set_option maxRecDepth 100000 in
theorem ncL_8 : NC RL 8 8 [.null, .null, .int 0, .int 0, .int 0, .null, .null, .null, .null, .null, .null, .null, .null, .null] := by
  refine ⟨RX6, TX6, 14, tyX6, rfl, cwX6, tyX6_ok, rfl, fun j hj => ?_, WT_of (by decide +kernel) rfl, WT_of (by decide +kernel) rfl, liX6⟩
  match j, hj with
  | 0, _ => rfl
  | 1, _ => rfl
  | 2, _ => rfl
  | 3, _ => rfl
  | 4, _ => rfl
  | 5, _ => rfl
  | 6, _ => rfl
  | 7, _ => rfl
  | 8, _ => rfl
  | 9, _ => rfl
  | 10, _ => rfl
  | 11, _ => rfl
  | 12, _ => rfl
  | 13, _ => rfl
set_option maxRecDepth 100000 in
theorem ncL_148 : NC RL 148 12 [.null, .null, .int 0, .int 0, .int 0, .int 0] := by
  refine ⟨RX10, TX10, 6, tyX10, rfl, cwX10, tyX10_ok, rfl, fun j hj => ?_, WT_of (by decide +kernel) rfl, WT_of (by decide +kernel) rfl, liX10⟩
  match j, hj with
  | 0, _ => rfl
  | 1, _ => rfl
  | 2, _ => rfl
  | 3, _ => rfl
  | 4, _ => rfl
  | 5, _ => rfl
set_option maxRecDepth 100000 in
theorem ncL_14 : NC RL 14 9 [.long 0, .null] := by
  refine ⟨RX7, TX7, 2, tyX7, rfl, cwX7, tyX7_ok, rfl, fun j hj => ?_, WT_of (by decide +kernel) rfl, WT_of (by decide +kernel) rfl, liX7⟩
  match j, hj with
  | 0, _ => rfl
  | 1, _ => rfl
