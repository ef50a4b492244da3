set_option maxRecDepth 100000 in
theorem liJ9 : Cond.initialized RJ9 ∈ WT := WT_of (tbw_1 (List.mem_of_getElem? (i := 3) rfl)) rfl
set_option maxRecDepth 100000 in
theorem liJ6 : Cond.initialized RJ6 ∈ WT := WT_of (tbw_1 (List.mem_of_getElem? (i := 17) rfl)) rfl
set_option maxRecDepth 100000 in
theorem liJ7 : Cond.initialized RJ7 ∈ WT := WT_of (tbw_1 (List.mem_of_getElem? (i := 18) rfl)) rfl
set_option maxRecDepth 100000 in
theorem lcJ6_bitCount_0f7a4 : Cond.code yJ6_bitCount_0f7a4 cJ6_bitCount_0f7a4 1 (some .int) ∈ WT := WT_of (tbw_2 (List.mem_of_getElem? (i := 223) rfl)) rfl
theorem lkJ6_bitCount_0f7a4 : LK yJ6_bitCount_0f7a4 cJ6_bitCount_0f7a4 1 1 (some .int) := ⟨lcJ6_bitCount_0f7a4, liJ6, ⟨by decide +kernel, by decide +kernel⟩, by decide +kernel⟩
set_option maxRecDepth 100000 in
theorem lsJ6_bitCount_0f7a4 : Cond.static yJ6_bitCount_0f7a4 ∈ WT := WT_of (tbw_2 (List.mem_of_getElem? (i := 222) rfl)) rfl
set_option maxRecDepth 100000 in
theorem lcJ9_max_7cf53 : Cond.code yJ9_max_7cf53 cJ9_max_7cf53 2 (some .int) ∈ WT := WT_of (tbw_1 (List.mem_of_getElem? (i := 48) rfl)) rfl
set_option maxRecDepth 100000 in
theorem lsJ9_max_7cf53 : Cond.static yJ9_max_7cf53 ∈ WT := WT_of (tbw_1 (List.mem_of_getElem? (i := 47) rfl)) rfl
set_option maxRecDepth 100000 in
theorem lcJ9_min_7cf53 : Cond.code yJ9_min_7cf53 cJ9_min_7cf53 2 (some .int) ∈ WT := WT_of (tbw_2 (List.mem_of_getElem? (i := 106) rfl)) rfl
set_option maxRecDepth 100000 in
theorem lsJ9_min_7cf53 : Cond.static yJ9_min_7cf53 ∈ WT := WT_of (tbw_2 (List.mem_of_getElem? (i := 105) rfl)) rfl
set_option maxRecDepth 100000 in
theorem lcJ7_fill_53178 : Cond.code yJ7_fill_53178 cJ7_fill_53178 4 none ∈ WT := WT_of (tbw_1 (List.mem_of_getElem? (i := 231) rfl)) rfl
theorem lkJ7_fill_53178 : LK yJ7_fill_53178 cJ7_fill_53178 4 2 none := ⟨lcJ7_fill_53178, liJ7, ⟨by decide +kernel, by decide +kernel⟩, by decide +kernel⟩
set_option maxRecDepth 100000 in
theorem lsJ7_fill_53178 : Cond.static yJ7_fill_53178 ∈ WT := WT_of (tbw_1 (List.mem_of_getElem? (i := 230) rfl)) rfl
set_option maxRecDepth 100000 in
theorem lcI_265 : Cond.constant RJ6 265 (1431655765 : Int32) ∈ WT := WT_of (tbw_2 (List.mem_of_getElem? (i := 224) rfl)) rfl
set_option maxRecDepth 100000 in
theorem lcI_266 : Cond.constant RJ6 266 (858993459 : Int32) ∈ WT := WT_of (tbw_2 (List.mem_of_getElem? (i := 225) rfl)) rfl
set_option maxRecDepth 100000 in
theorem lcI_267 : Cond.constant RJ6 267 (252645135 : Int32) ∈ WT := WT_of (tbw_2 (List.mem_of_getElem? (i := 226) rfl)) rfl
