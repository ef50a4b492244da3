/-! words of the text methods: code, links -/
set_option maxRecDepth 100000 in
theorem liJ0 : Cond.initialized RJ0 ∈ WT := WT_of (tbw_1 (List.mem_of_getElem? (i := 23) rfl)) rfl
set_option maxRecDepth 100000 in
theorem liJ1 : Cond.initialized RJ1 ∈ WT := WT_of (tbw_1 (List.mem_of_getElem? (i := 25) rfl)) rfl
set_option maxRecDepth 100000 in
theorem liJ3 : Cond.initialized RJ3 ∈ WT := WT_of (tbw_1 (List.mem_of_getElem? (i := 26) rfl)) rfl
set_option maxRecDepth 100000 in
theorem liJ4 : Cond.initialized RJ4 ∈ WT := WT_of (tbw_1 (List.mem_of_getElem? (i := 22) rfl)) rfl
set_option maxRecDepth 100000 in
theorem liJ5 : Cond.initialized RJ5 ∈ WT := WT_of (tbw_1 (List.mem_of_getElem? (i := 21) rfl)) rfl
set_option maxRecDepth 100000 in
theorem liJ8 : Cond.initialized RJ8 ∈ WT := WT_of (tbw_1 (List.mem_of_getElem? (i := 27) rfl)) rfl
set_option maxRecDepth 100000 in
theorem lcJ5_init_d00df : Cond.code yJ5_init_d00df cJ5_init_d00df 2 none ∈ WT := WT_of (tbw_4 (List.mem_of_getElem? (i := 148) rfl)) rfl
theorem lkJ5_init_d00df : LK yJ5_init_d00df cJ5_init_d00df 2 1 none := ⟨lcJ5_init_d00df, liJ5, ⟨by decide +kernel, by decide +kernel⟩, by decide +kernel⟩
set_option maxRecDepth 100000 in
theorem lmJ5_init_d00df : Cond.instanceMethod yJ5_init_d00df ∈ WT := WT_of (tbw_4 (List.mem_of_getElem? (i := 147) rfl)) rfl
set_option maxRecDepth 100000 in
theorem lcJ5_length_8abf5 : Cond.code yJ5_length_8abf5 cJ5_length_8abf5 1 (some .int) ∈ WT := WT_of (tbw_5 (List.mem_of_getElem? (i := 80) rfl)) rfl
theorem lkJ5_length_8abf5 : LK yJ5_length_8abf5 cJ5_length_8abf5 1 0 (some .int) := ⟨lcJ5_length_8abf5, liJ5, ⟨by decide +kernel, by decide +kernel⟩, by decide +kernel⟩
set_option maxRecDepth 100000 in
theorem lmJ5_length_8abf5 : Cond.instanceMethod yJ5_length_8abf5 ∈ WT := WT_of (tbw_5 (List.mem_of_getElem? (i := 74) rfl)) rfl
set_option maxRecDepth 100000 in
theorem lcJ5_ensureCapacityInternal_d00df : Cond.code yJ5_ensureCapacityInternal_d00df cJ5_ensureCapacityInternal_d00df 3 none ∈ WT := WT_of (tbw_4 (List.mem_of_getElem? (i := 233) rfl)) rfl
theorem lkJ5_ensureCapacityInternal_d00df : LK yJ5_ensureCapacityInternal_d00df cJ5_ensureCapacityInternal_d00df 3 1 none := ⟨lcJ5_ensureCapacityInternal_d00df, liJ5, ⟨by decide +kernel, by decide +kernel⟩, by decide +kernel⟩
set_option maxRecDepth 100000 in
theorem lmJ5_ensureCapacityInternal_d00df : Cond.instanceMethod yJ5_ensureCapacityInternal_d00df ∈ WT := WT_of (tbw_4 (List.mem_of_getElem? (i := 232) rfl)) rfl
set_option maxRecDepth 100000 in
theorem lcJ5_newCapacity_0f7a4 : Cond.code yJ5_newCapacity_0f7a4 cJ5_newCapacity_0f7a4 6 (some .int) ∈ WT := WT_of (tbw_4 (List.mem_of_getElem? (i := 237) rfl)) rfl
theorem lkJ5_newCapacity_0f7a4 : LK yJ5_newCapacity_0f7a4 cJ5_newCapacity_0f7a4 6 1 (some .int) := ⟨lcJ5_newCapacity_0f7a4, liJ5, ⟨by decide +kernel, by decide +kernel⟩, by decide +kernel⟩
set_option maxRecDepth 100000 in
theorem lmJ5_newCapacity_0f7a4 : Cond.instanceMethod yJ5_newCapacity_0f7a4 ∈ WT := WT_of (tbw_4 (List.mem_of_getElem? (i := 236) rfl)) rfl
set_option maxRecDepth 100000 in
theorem lcJ5_append_cf1ce : Cond.code yJ5_append_cf1ce cJ5_append_cf1ce 3 (some (.object "java/lang/AbstractStringBuilder")) ∈ WT := WT_of (tbw_5 (List.mem_of_getElem? (i := 135) rfl)) rfl
theorem lkJ5_append_cf1ce : LK yJ5_append_cf1ce cJ5_append_cf1ce 3 1 (some (.object "java/lang/AbstractStringBuilder")) := ⟨lcJ5_append_cf1ce, liJ5, ⟨by decide +kernel, by decide +kernel⟩, by decide +kernel⟩
set_option maxRecDepth 100000 in
theorem lmJ5_append_cf1ce : Cond.instanceMethod yJ5_append_cf1ce ∈ WT := WT_of (tbw_5 (List.mem_of_getElem? (i := 134) rfl)) rfl
set_option maxRecDepth 100000 in
theorem lcJ5_append_3fe6f : Cond.code yJ5_append_3fe6f cJ5_append_3fe6f 2 (some (.object "java/lang/AbstractStringBuilder")) ∈ WT := WT_of (tbw_4 (List.mem_of_getElem? (i := 229) rfl)) rfl
theorem lkJ5_append_3fe6f : LK yJ5_append_3fe6f cJ5_append_3fe6f 2 1 (some (.object "java/lang/AbstractStringBuilder")) := ⟨lcJ5_append_3fe6f, liJ5, ⟨by decide +kernel, by decide +kernel⟩, by decide +kernel⟩
set_option maxRecDepth 100000 in
theorem lmJ5_append_3fe6f : Cond.instanceMethod yJ5_append_3fe6f ∈ WT := WT_of (tbw_4 (List.mem_of_getElem? (i := 228) rfl)) rfl
set_option maxRecDepth 100000 in
theorem lcJ5_getValue_6d5f1 : Cond.code yJ5_getValue_6d5f1 cJ5_getValue_6d5f1 1 (some (.array .byte)) ∈ WT := WT_of (tbw_5 (List.mem_of_getElem? (i := 72) rfl)) rfl
theorem lkJ5_getValue_6d5f1 : LK yJ5_getValue_6d5f1 cJ5_getValue_6d5f1 1 0 (some (.array .byte)) := ⟨lcJ5_getValue_6d5f1, liJ5, ⟨by decide +kernel, by decide +kernel⟩, by decide +kernel⟩
set_option maxRecDepth 100000 in
theorem lmJ5_getValue_6d5f1 : Cond.instanceMethod yJ5_getValue_6d5f1 ∈ WT := WT_of (tbw_5 (List.mem_of_getElem? (i := 69) rfl)) rfl
set_option maxRecDepth 100000 in
theorem lcJ5_isLatin1_aae02 : Cond.code yJ5_isLatin1_aae02 cJ5_isLatin1_aae02 1 (some .boolean) ∈ WT := WT_of (tbw_5 (List.mem_of_getElem? (i := 25) rfl)) rfl
theorem lkJ5_isLatin1_aae02 : LK yJ5_isLatin1_aae02 cJ5_isLatin1_aae02 1 0 (some .boolean) := ⟨lcJ5_isLatin1_aae02, liJ5, ⟨by decide +kernel, by decide +kernel⟩, by decide +kernel⟩
set_option maxRecDepth 100000 in
theorem lmJ5_isLatin1_aae02 : Cond.instanceMethod yJ5_isLatin1_aae02 ∈ WT := WT_of (tbw_5 (List.mem_of_getElem? (i := 22) rfl)) rfl
set_option maxRecDepth 100000 in
theorem lcJ5_inflateIfNeededFor_a7421 : Cond.code yJ5_inflateIfNeededFor_a7421 cJ5_inflateIfNeededFor_a7421 2 none ∈ WT := WT_of (tbw_5 (List.mem_of_getElem? (i := 151) rfl)) rfl
theorem lkJ5_inflateIfNeededFor_a7421 : LK yJ5_inflateIfNeededFor_a7421 cJ5_inflateIfNeededFor_a7421 2 1 none := ⟨lcJ5_inflateIfNeededFor_a7421, liJ5, ⟨by decide +kernel, by decide +kernel⟩, by decide +kernel⟩
set_option maxRecDepth 100000 in
theorem lmJ5_inflateIfNeededFor_a7421 : Cond.instanceMethod yJ5_inflateIfNeededFor_a7421 ∈ WT := WT_of (tbw_5 (List.mem_of_getElem? (i := 150) rfl)) rfl
set_option maxRecDepth 100000 in
theorem lcJ5_putStringAt_47b60 : Cond.code yJ5_putStringAt_47b60 cJ5_putStringAt_47b60 3 none ∈ WT := WT_of (tbw_5 (List.mem_of_getElem? (i := 147) rfl)) rfl
theorem lkJ5_putStringAt_47b60 : LK yJ5_putStringAt_47b60 cJ5_putStringAt_47b60 3 2 none := ⟨lcJ5_putStringAt_47b60, liJ5, ⟨by decide +kernel, by decide +kernel⟩, by decide +kernel⟩
set_option maxRecDepth 100000 in
theorem lmJ5_putStringAt_47b60 : Cond.instanceMethod yJ5_putStringAt_47b60 ∈ WT := WT_of (tbw_5 (List.mem_of_getElem? (i := 146) rfl)) rfl
set_option maxRecDepth 100000 in
theorem lcJ0_init_81219 : Cond.code yJ0_init_81219 cJ0_init_81219 2 none ∈ WT := WT_of (tbw_5 (List.mem_of_getElem? (i := 63) rfl)) rfl
theorem lkJ0_init_81219 : LK yJ0_init_81219 cJ0_init_81219 2 1 none := ⟨lcJ0_init_81219, liJ0, ⟨by decide +kernel, by decide +kernel⟩, by decide +kernel⟩
set_option maxRecDepth 100000 in
theorem lmJ0_init_81219 : Cond.instanceMethod yJ0_init_81219 ∈ WT := WT_of (tbw_5 (List.mem_of_getElem? (i := 62) rfl)) rfl
set_option maxRecDepth 100000 in
theorem lcJ0_length_8abf5 : Cond.code yJ0_length_8abf5 cJ0_length_8abf5 1 (some .int) ∈ WT := WT_of (tbw_4 (List.mem_of_getElem? (i := 179) rfl)) rfl
theorem lkJ0_length_8abf5 : LK yJ0_length_8abf5 cJ0_length_8abf5 1 0 (some .int) := ⟨lcJ0_length_8abf5, liJ0, ⟨by decide +kernel, by decide +kernel⟩, by decide +kernel⟩
set_option maxRecDepth 100000 in
theorem lmJ0_length_8abf5 : Cond.instanceMethod yJ0_length_8abf5 ∈ WT := WT_of (tbw_4 (List.mem_of_getElem? (i := 177) rfl)) rfl
set_option maxRecDepth 100000 in
theorem lvJ0_length_8abf5 : Cond.selects yJ0_length_8abf5.cls yJ0_length_8abf5 yJ0_length_8abf5 ∈ WT := WT_of (tbw_4 (List.mem_of_getElem? (i := 178) rfl)) rfl
set_option maxRecDepth 100000 in
theorem lcJ0_charAt_5068e : Cond.code yJ0_charAt_5068e cJ0_charAt_5068e 2 (some .char) ∈ WT := WT_of (tbw_4 (List.mem_of_getElem? (i := 188) rfl)) rfl
theorem lkJ0_charAt_5068e : LK yJ0_charAt_5068e cJ0_charAt_5068e 2 1 (some .char) := ⟨lcJ0_charAt_5068e, liJ0, ⟨by decide +kernel, by decide +kernel⟩, by decide +kernel⟩
set_option maxRecDepth 100000 in
theorem lmJ0_charAt_5068e : Cond.instanceMethod yJ0_charAt_5068e ∈ WT := WT_of (tbw_4 (List.mem_of_getElem? (i := 186) rfl)) rfl
set_option maxRecDepth 100000 in
theorem lvJ0_charAt_5068e : Cond.selects yJ0_charAt_5068e.cls yJ0_charAt_5068e yJ0_charAt_5068e ∈ WT := WT_of (tbw_4 (List.mem_of_getElem? (i := 187) rfl)) rfl
set_option maxRecDepth 100000 in
theorem lcJ0_getBytes_840e7 : Cond.code yJ0_getBytes_840e7 cJ0_getBytes_840e7 4 none ∈ WT := WT_of (tbw_5 (List.mem_of_getElem? (i := 156) rfl)) rfl
theorem lkJ0_getBytes_840e7 : LK yJ0_getBytes_840e7 cJ0_getBytes_840e7 4 3 none := ⟨lcJ0_getBytes_840e7, liJ0, ⟨by decide +kernel, by decide +kernel⟩, by decide +kernel⟩
set_option maxRecDepth 100000 in
theorem lmJ0_getBytes_840e7 : Cond.instanceMethod yJ0_getBytes_840e7 ∈ WT := WT_of (tbw_5 (List.mem_of_getElem? (i := 154) rfl)) rfl
set_option maxRecDepth 100000 in
theorem lvJ0_getBytes_840e7 : Cond.selects yJ0_getBytes_840e7.cls yJ0_getBytes_840e7 yJ0_getBytes_840e7 ∈ WT := WT_of (tbw_5 (List.mem_of_getElem? (i := 155) rfl)) rfl
set_option maxRecDepth 100000 in
theorem lcJ0_init_db425 : Cond.code yJ0_init_db425 cJ0_init_db425 5 none ∈ WT := WT_of (tbw_5 (List.mem_of_getElem? (i := 66) rfl)) rfl
theorem lkJ0_init_db425 : LK yJ0_init_db425 cJ0_init_db425 5 2 none := ⟨lcJ0_init_db425, liJ0, ⟨by decide +kernel, by decide +kernel⟩, by decide +kernel⟩
set_option maxRecDepth 100000 in
theorem lmJ0_init_db425 : Cond.instanceMethod yJ0_init_db425 ∈ WT := WT_of (tbw_5 (List.mem_of_getElem? (i := 65) rfl)) rfl
set_option maxRecDepth 100000 in
theorem lcJ0_coder_7d493 : Cond.code yJ0_coder_7d493 cJ0_coder_7d493 1 (some .byte) ∈ WT := WT_of (tbw_4 (List.mem_of_getElem? (i := 183) rfl)) rfl
theorem lkJ0_coder_7d493 : LK yJ0_coder_7d493 cJ0_coder_7d493 1 0 (some .byte) := ⟨lcJ0_coder_7d493, liJ0, ⟨by decide +kernel, by decide +kernel⟩, by decide +kernel⟩
set_option maxRecDepth 100000 in
theorem lmJ0_coder_7d493 : Cond.instanceMethod yJ0_coder_7d493 ∈ WT := WT_of (tbw_4 (List.mem_of_getElem? (i := 181) rfl)) rfl
set_option maxRecDepth 100000 in
theorem lvJ0_coder_7d493 : Cond.selects yJ0_coder_7d493.cls yJ0_coder_7d493 yJ0_coder_7d493 ∈ WT := WT_of (tbw_4 (List.mem_of_getElem? (i := 182) rfl)) rfl
set_option maxRecDepth 100000 in
theorem lcJ0_isLatin1_aae02 : Cond.code yJ0_isLatin1_aae02 cJ0_isLatin1_aae02 1 (some .boolean) ∈ WT := WT_of (tbw_4 (List.mem_of_getElem? (i := 192) rfl)) rfl
theorem lkJ0_isLatin1_aae02 : LK yJ0_isLatin1_aae02 cJ0_isLatin1_aae02 1 0 (some .boolean) := ⟨lcJ0_isLatin1_aae02, liJ0, ⟨by decide +kernel, by decide +kernel⟩, by decide +kernel⟩
set_option maxRecDepth 100000 in
theorem lmJ0_isLatin1_aae02 : Cond.instanceMethod yJ0_isLatin1_aae02 ∈ WT := WT_of (tbw_4 (List.mem_of_getElem? (i := 190) rfl)) rfl
set_option maxRecDepth 100000 in
theorem lvJ0_isLatin1_aae02 : Cond.selects yJ0_isLatin1_aae02.cls yJ0_isLatin1_aae02 yJ0_isLatin1_aae02 ∈ WT := WT_of (tbw_4 (List.mem_of_getElem? (i := 191) rfl)) rfl
set_option maxRecDepth 100000 in
theorem lcJ0_checkIndex_df160 : Cond.code yJ0_checkIndex_df160 cJ0_checkIndex_df160 2 none ∈ WT := WT_of (tbw_4 (List.mem_of_getElem? (i := 198) rfl)) rfl
theorem lkJ0_checkIndex_df160 : LK yJ0_checkIndex_df160 cJ0_checkIndex_df160 2 2 none := ⟨lcJ0_checkIndex_df160, liJ0, ⟨by decide +kernel, by decide +kernel⟩, by decide +kernel⟩
set_option maxRecDepth 100000 in
theorem lsJ0_checkIndex_df160 : Cond.static yJ0_checkIndex_df160 ∈ WT := WT_of (tbw_4 (List.mem_of_getElem? (i := 197) rfl)) rfl
set_option maxRecDepth 100000 in
theorem lcJ4_init_da8c8 : Cond.code yJ4_init_da8c8 cJ4_init_da8c8 1 none ∈ WT := WT_of (tbw_4 (List.mem_of_getElem? (i := 145) rfl)) rfl
theorem lkJ4_init_da8c8 : LK yJ4_init_da8c8 cJ4_init_da8c8 1 0 none := ⟨lcJ4_init_da8c8, liJ4, ⟨by decide +kernel, by decide +kernel⟩, by decide +kernel⟩
set_option maxRecDepth 100000 in
theorem lmJ4_init_da8c8 : Cond.instanceMethod yJ4_init_da8c8 ∈ WT := WT_of (tbw_4 (List.mem_of_getElem? (i := 144) rfl)) rfl
set_option maxRecDepth 100000 in
theorem lcJ4_append_15ec4 : Cond.code yJ4_append_15ec4 cJ4_append_15ec4 2 (some (.object "java/lang/StringBuilder")) ∈ WT := WT_of (tbw_5 (List.mem_of_getElem? (i := 132) rfl)) rfl
theorem lkJ4_append_15ec4 : LK yJ4_append_15ec4 cJ4_append_15ec4 2 1 (some (.object "java/lang/StringBuilder")) := ⟨lcJ4_append_15ec4, liJ4, ⟨by decide +kernel, by decide +kernel⟩, by decide +kernel⟩
set_option maxRecDepth 100000 in
theorem lmJ4_append_15ec4 : Cond.instanceMethod yJ4_append_15ec4 ∈ WT := WT_of (tbw_5 (List.mem_of_getElem? (i := 130) rfl)) rfl
set_option maxRecDepth 100000 in
theorem lvJ4_append_15ec4 : Cond.selects yJ4_append_15ec4.cls yJ4_append_15ec4 yJ4_append_15ec4 ∈ WT := WT_of (tbw_5 (List.mem_of_getElem? (i := 131) rfl)) rfl
set_option maxRecDepth 100000 in
theorem lcJ4_append_cf468 : Cond.code yJ4_append_cf468 cJ4_append_cf468 2 (some (.object "java/lang/StringBuilder")) ∈ WT := WT_of (tbw_4 (List.mem_of_getElem? (i := 226) rfl)) rfl
theorem lkJ4_append_cf468 : LK yJ4_append_cf468 cJ4_append_cf468 2 1 (some (.object "java/lang/StringBuilder")) := ⟨lcJ4_append_cf468, liJ4, ⟨by decide +kernel, by decide +kernel⟩, by decide +kernel⟩
set_option maxRecDepth 100000 in
theorem lmJ4_append_cf468 : Cond.instanceMethod yJ4_append_cf468 ∈ WT := WT_of (tbw_4 (List.mem_of_getElem? (i := 224) rfl)) rfl
set_option maxRecDepth 100000 in
theorem lvJ4_append_cf468 : Cond.selects yJ4_append_cf468.cls yJ4_append_cf468 yJ4_append_cf468 ∈ WT := WT_of (tbw_4 (List.mem_of_getElem? (i := 225) rfl)) rfl
set_option maxRecDepth 100000 in
theorem lcJ4_toString_0e30d : Cond.code yJ4_toString_0e30d cJ4_toString_0e30d 1 (some (.object "java/lang/String")) ∈ WT := WT_of (tbw_5 (List.mem_of_getElem? (i := 58) rfl)) rfl
theorem lkJ4_toString_0e30d : LK yJ4_toString_0e30d cJ4_toString_0e30d 1 0 (some (.object "java/lang/String")) := ⟨lcJ4_toString_0e30d, liJ4, ⟨by decide +kernel, by decide +kernel⟩, by decide +kernel⟩
set_option maxRecDepth 100000 in
theorem lmJ4_toString_0e30d : Cond.instanceMethod yJ4_toString_0e30d ∈ WT := WT_of (tbw_5 (List.mem_of_getElem? (i := 56) rfl)) rfl
set_option maxRecDepth 100000 in
theorem lvJ4_toString_0e30d : Cond.selects yJ4_toString_0e30d.cls yJ4_toString_0e30d yJ4_toString_0e30d ∈ WT := WT_of (tbw_5 (List.mem_of_getElem? (i := 57) rfl)) rfl
set_option maxRecDepth 100000 in
theorem lcJ4_length_8abf5 : Cond.code yJ4_length_8abf5 cJ4_length_8abf5 1 (some .int) ∈ WT := WT_of (tbw_5 (List.mem_of_getElem? (i := 78) rfl)) rfl
theorem lkJ4_length_8abf5 : LK yJ4_length_8abf5 cJ4_length_8abf5 1 0 (some .int) := ⟨lcJ4_length_8abf5, liJ4, ⟨by decide +kernel, by decide +kernel⟩, by decide +kernel⟩
set_option maxRecDepth 100000 in
theorem lmJ4_length_8abf5 : Cond.instanceMethod yJ4_length_8abf5 ∈ WT := WT_of (tbw_5 (List.mem_of_getElem? (i := 77) rfl)) rfl
set_option maxRecDepth 100000 in
theorem lcJ1_charAt_3b067 : Cond.code yJ1_charAt_3b067 cJ1_charAt_3b067 2 (some .char) ∈ WT := WT_of (tbw_4 (List.mem_of_getElem? (i := 195) rfl)) rfl
theorem lkJ1_charAt_3b067 : LK yJ1_charAt_3b067 cJ1_charAt_3b067 2 2 (some .char) := ⟨lcJ1_charAt_3b067, liJ1, ⟨by decide +kernel, by decide +kernel⟩, by decide +kernel⟩
set_option maxRecDepth 100000 in
theorem lsJ1_charAt_3b067 : Cond.static yJ1_charAt_3b067 ∈ WT := WT_of (tbw_4 (List.mem_of_getElem? (i := 194) rfl)) rfl
set_option maxRecDepth 100000 in
theorem lcJ1_canEncode_fc78d : Cond.code yJ1_canEncode_fc78d cJ1_canEncode_fc78d 1 (some .boolean) ∈ WT := WT_of (tbw_5 (List.mem_of_getElem? (i := 28) rfl)) rfl
theorem lkJ1_canEncode_fc78d : LK yJ1_canEncode_fc78d cJ1_canEncode_fc78d 1 1 (some .boolean) := ⟨lcJ1_canEncode_fc78d, liJ1, ⟨by decide +kernel, by decide +kernel⟩, by decide +kernel⟩
set_option maxRecDepth 100000 in
theorem lsJ1_canEncode_fc78d : Cond.static yJ1_canEncode_fc78d ∈ WT := WT_of (tbw_5 (List.mem_of_getElem? (i := 27) rfl)) rfl
set_option maxRecDepth 100000 in
theorem lcJ7_copyOf_9075b : Cond.code yJ7_copyOf_9075b cJ7_copyOf_9075b 3 (some (.array .byte)) ∈ WT := WT_of (tbw_5 (List.mem_of_getElem? (i := 9) rfl)) rfl
theorem lkJ7_copyOf_9075b : LK yJ7_copyOf_9075b cJ7_copyOf_9075b 3 2 (some (.array .byte)) := ⟨lcJ7_copyOf_9075b, liJ7, ⟨by decide +kernel, by decide +kernel⟩, by decide +kernel⟩
set_option maxRecDepth 100000 in
theorem lsJ7_copyOf_9075b : Cond.static yJ7_copyOf_9075b ∈ WT := WT_of (tbw_5 (List.mem_of_getElem? (i := 8) rfl)) rfl
set_option maxRecDepth 100000 in
theorem lcJ7_checkLength_df160 : Cond.code yJ7_checkLength_df160 cJ7_checkLength_df160 2 none ∈ WT := WT_of (tbw_5 (List.mem_of_getElem? (i := 90) rfl)) rfl
theorem lkJ7_checkLength_df160 : LK yJ7_checkLength_df160 cJ7_checkLength_df160 2 2 none := ⟨lcJ7_checkLength_df160, liJ7, ⟨by decide +kernel, by decide +kernel⟩, by decide +kernel⟩
set_option maxRecDepth 100000 in
theorem lsJ7_checkLength_df160 : Cond.static yJ7_checkLength_df160 ∈ WT := WT_of (tbw_5 (List.mem_of_getElem? (i := 89) rfl)) rfl
set_option maxRecDepth 100000 in
theorem lcJ7_copyOfRange_39247 : Cond.code yJ7_copyOfRange_39247 cJ7_copyOfRange_39247 3 (some (.array .byte)) ∈ WT := WT_of (tbw_5 (List.mem_of_getElem? (i := 84) rfl)) rfl
theorem lkJ7_copyOfRange_39247 : LK yJ7_copyOfRange_39247 cJ7_copyOfRange_39247 3 3 (some (.array .byte)) := ⟨lcJ7_copyOfRange_39247, liJ7, ⟨by decide +kernel, by decide +kernel⟩, by decide +kernel⟩
set_option maxRecDepth 100000 in
theorem lsJ7_copyOfRange_39247 : Cond.static yJ7_copyOfRange_39247 ∈ WT := WT_of (tbw_5 (List.mem_of_getElem? (i := 83) rfl)) rfl
set_option maxRecDepth 100000 in
theorem lcJ7_copyOfRangeByte_39247 : Cond.code yJ7_copyOfRangeByte_39247 cJ7_copyOfRangeByte_39247 5 (some (.array .byte)) ∈ WT := WT_of (tbw_5 (List.mem_of_getElem? (i := 87) rfl)) rfl
theorem lkJ7_copyOfRangeByte_39247 : LK yJ7_copyOfRangeByte_39247 cJ7_copyOfRangeByte_39247 5 3 (some (.array .byte)) := ⟨lcJ7_copyOfRangeByte_39247, liJ7, ⟨by decide +kernel, by decide +kernel⟩, by decide +kernel⟩
set_option maxRecDepth 100000 in
theorem lsJ7_copyOfRangeByte_39247 : Cond.static yJ7_copyOfRangeByte_39247 ∈ WT := WT_of (tbw_5 (List.mem_of_getElem? (i := 86) rfl)) rfl
set_option maxRecDepth 100000 in
theorem lcJ8_newLength_cabcc : Cond.code yJ8_newLength_cabcc cJ8_newLength_cabcc 4 (some .int) ∈ WT := WT_of (tbw_5 (List.mem_of_getElem? (i := 0) rfl)) rfl
theorem lkJ8_newLength_cabcc : LK yJ8_newLength_cabcc cJ8_newLength_cabcc 4 3 (some .int) := ⟨lcJ8_newLength_cabcc, liJ8, ⟨by decide +kernel, by decide +kernel⟩, by decide +kernel⟩
set_option maxRecDepth 100000 in
theorem lsJ8_newLength_cabcc : Cond.static yJ8_newLength_cabcc ∈ WT := WT_of (tbw_4 (List.mem_of_getElem? (i := 239) rfl)) rfl
set_option maxRecDepth 100000 in
theorem lcJ3_checkIndex_8e157 : Cond.code yJ3_checkIndex_8e157 cJ3_checkIndex_8e157 3 (some .int) ∈ WT := WT_of (tbw_4 (List.mem_of_getElem? (i := 203) rfl)) rfl
theorem lkJ3_checkIndex_8e157 : LK yJ3_checkIndex_8e157 cJ3_checkIndex_8e157 3 3 (some .int) := ⟨lcJ3_checkIndex_8e157, liJ3, ⟨by decide +kernel, by decide +kernel⟩, by decide +kernel⟩
set_option maxRecDepth 100000 in
theorem lsJ3_checkIndex_8e157 : Cond.static yJ3_checkIndex_8e157 ∈ WT := WT_of (tbw_4 (List.mem_of_getElem? (i := 202) rfl)) rfl
set_option maxRecDepth 100000 in
theorem mlJ0_335 : Cond.methodLink RJ0 335 yJ0_coder_7d493 ∈ WT := WT_of (tbw_4 (List.mem_of_getElem? (i := 180) rfl)) rfl
set_option maxRecDepth 100000 in
theorem mlJ0_492 : Cond.methodLink RJ0 492 yJ0_isLatin1_aae02 ∈ WT := WT_of (tbw_4 (List.mem_of_getElem? (i := 189) rfl)) rfl
set_option maxRecDepth 100000 in
theorem mlJ0_495 : Cond.methodLink RJ0 495 yJ1_charAt_3b067 ∈ WT := WT_of (tbw_4 (List.mem_of_getElem? (i := 193) rfl)) rfl
set_option maxRecDepth 100000 in
theorem mlJ0_1059 : Cond.methodLink RJ0 1059 yJ3_checkIndex_8e157 ∈ WT := WT_of (tbw_4 (List.mem_of_getElem? (i := 201) rfl)) rfl
set_option maxRecDepth 100000 in
theorem mlJ0_489 : Cond.methodLink RJ0 489 yJ0_init_db425 ∈ WT := WT_of (tbw_5 (List.mem_of_getElem? (i := 64) rfl)) rfl
set_option maxRecDepth 100000 in
theorem mlJ0_552 : Cond.methodLink RJ0 552 yJ5_getValue_6d5f1 ∈ WT := WT_of (tbw_5 (List.mem_of_getElem? (i := 68) rfl)) rfl
set_option maxRecDepth 100000 in
theorem mlJ0_549 : Cond.methodLink RJ0 549 yJ5_length_8abf5 ∈ WT := WT_of (tbw_5 (List.mem_of_getElem? (i := 73) rfl)) rfl
set_option maxRecDepth 100000 in
theorem mlJ0_1047 : Cond.methodLink RJ0 1047 yJ5_isLatin1_aae02 ∈ WT := WT_of (tbw_5 (List.mem_of_getElem? (i := 81) rfl)) rfl
set_option maxRecDepth 100000 in
theorem mlJ0_54 : Cond.methodLink RJ0 54 yJ7_copyOfRange_39247 ∈ WT := WT_of (tbw_5 (List.mem_of_getElem? (i := 82) rfl)) rfl
set_option maxRecDepth 100000 in
theorem mlJ1_9 : Cond.methodLink RJ1 9 yJ0_checkIndex_df160 ∈ WT := WT_of (tbw_4 (List.mem_of_getElem? (i := 196) rfl)) rfl
set_option maxRecDepth 100000 in
theorem mlJ4_1 : Cond.methodLink RJ4 1 yJ5_init_d00df ∈ WT := WT_of (tbw_4 (List.mem_of_getElem? (i := 146) rfl)) rfl
set_option maxRecDepth 100000 in
theorem mlJ4_50 : Cond.methodLink RJ4 50 yJ5_append_3fe6f ∈ WT := WT_of (tbw_4 (List.mem_of_getElem? (i := 227) rfl)) rfl
set_option maxRecDepth 100000 in
theorem mlJ4_137 : Cond.methodLink RJ4 137 yJ0_init_81219 ∈ WT := WT_of (tbw_5 (List.mem_of_getElem? (i := 61) rfl)) rfl
set_option maxRecDepth 100000 in
theorem mlJ4_343 : Cond.methodLink RJ4 343 yJ5_length_8abf5 ∈ WT := WT_of (tbw_5 (List.mem_of_getElem? (i := 79) rfl)) rfl
set_option maxRecDepth 100000 in
theorem mlJ4_29 : Cond.methodLink RJ4 29 yJ5_append_cf1ce ∈ WT := WT_of (tbw_5 (List.mem_of_getElem? (i := 133) rfl)) rfl
set_option maxRecDepth 100000 in
theorem mlJ5_100 : Cond.methodLink RJ5 100 yJ5_ensureCapacityInternal_d00df ∈ WT := WT_of (tbw_4 (List.mem_of_getElem? (i := 230) rfl)) rfl
set_option maxRecDepth 100000 in
theorem mlJ5_104 : Cond.methodLink RJ5 104 yJ5_newCapacity_0f7a4 ∈ WT := WT_of (tbw_4 (List.mem_of_getElem? (i := 234) rfl)) rfl
set_option maxRecDepth 100000 in
theorem mlJ5_114 : Cond.methodLink RJ5 114 yJ8_newLength_cabcc ∈ WT := WT_of (tbw_4 (List.mem_of_getElem? (i := 238) rfl)) rfl
set_option maxRecDepth 100000 in
theorem mlJ5_108 : Cond.methodLink RJ5 108 yJ7_copyOf_9075b ∈ WT := WT_of (tbw_5 (List.mem_of_getElem? (i := 7) rfl)) rfl
set_option maxRecDepth 100000 in
theorem mlJ5_83 : Cond.methodLink RJ5 83 yJ5_isLatin1_aae02 ∈ WT := WT_of (tbw_5 (List.mem_of_getElem? (i := 21) rfl)) rfl
set_option maxRecDepth 100000 in
theorem mlJ5_191 : Cond.methodLink RJ5 191 yJ1_canEncode_fc78d ∈ WT := WT_of (tbw_5 (List.mem_of_getElem? (i := 26) rfl)) rfl
set_option maxRecDepth 100000 in
theorem mlJ5_32 : Cond.methodLink RJ5 32 yJ0_length_8abf5 ∈ WT := WT_of (tbw_5 (List.mem_of_getElem? (i := 143) rfl)) rfl
set_option maxRecDepth 100000 in
theorem mlJ5_208 : Cond.methodLink RJ5 208 yJ5_putStringAt_47b60 ∈ WT := WT_of (tbw_5 (List.mem_of_getElem? (i := 144) rfl)) rfl
set_option maxRecDepth 100000 in
theorem mlJ5_397 : Cond.methodLink RJ5 397 yJ5_inflateIfNeededFor_a7421 ∈ WT := WT_of (tbw_5 (List.mem_of_getElem? (i := 148) rfl)) rfl
set_option maxRecDepth 100000 in
theorem mlJ5_40 : Cond.methodLink RJ5 40 yJ0_coder_7d493 ∈ WT := WT_of (tbw_5 (List.mem_of_getElem? (i := 152) rfl)) rfl
set_option maxRecDepth 100000 in
theorem mlJ5_399 : Cond.methodLink RJ5 399 yJ0_getBytes_840e7 ∈ WT := WT_of (tbw_5 (List.mem_of_getElem? (i := 153) rfl)) rfl
set_option maxRecDepth 100000 in
theorem mlJ7_304 : Cond.methodLink RJ7 304 yJ9_min_7cf53 ∈ WT := WT_of (tbw_5 (List.mem_of_getElem? (i := 17) rfl)) rfl
set_option maxRecDepth 100000 in
theorem mlJ7_339 : Cond.methodLink RJ7 339 yJ7_copyOfRangeByte_39247 ∈ WT := WT_of (tbw_5 (List.mem_of_getElem? (i := 85) rfl)) rfl
set_option maxRecDepth 100000 in
theorem mlJ7_343 : Cond.methodLink RJ7 343 yJ7_checkLength_df160 ∈ WT := WT_of (tbw_5 (List.mem_of_getElem? (i := 88) rfl)) rfl
set_option maxRecDepth 100000 in
theorem mlJ8_194 : Cond.methodLink RJ8 194 yJ9_max_7cf53 ∈ WT := WT_of (tbw_5 (List.mem_of_getElem? (i := 1) rfl)) rfl
