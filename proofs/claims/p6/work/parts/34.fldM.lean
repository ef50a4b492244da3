set_option maxRecDepth 100000 in
theorem cwX8 : ∀ w ∈ u_ws RX8 TX8 5, w ∈ WT := fun w h => WT_of ((show ∀ w ∈ u_ws RX8 TX8 5, w ∈ lw_tbl by decide +kernel) w h) ((show ∀ w ∈ u_ws RX8 TX8 5, goodWord w = true by decide +kernel) w h)
theorem ftX8_0 : FT 10 0 (.array (.array .int)) true := ⟨RX8, TX8, 5, rfl, by decide +kernel, rfl⟩
theorem ftX8_1 : FT 10 1 (.array .int) true := ⟨RX8, TX8, 5, rfl, by decide +kernel, rfl⟩
theorem ftX8_2 : FT 10 2 (.array .int) true := ⟨RX8, TX8, 5, rfl, by decide +kernel, rfl⟩
theorem ftX8_3 : FT 10 3 .int false := ⟨RX8, TX8, 5, rfl, by decide +kernel, rfl⟩
theorem ftX8_4 : FT 10 4 .boolean false := ⟨RX8, TX8, 5, rfl, by decide +kernel, rfl⟩
set_option maxRecDepth 100000 in
theorem cwX9 : ∀ w ∈ u_ws RX9 TX9 3, w ∈ WT := fun w h => WT_of ((show ∀ w ∈ u_ws RX9 TX9 3, w ∈ lw_tbl by decide +kernel) w h) ((show ∀ w ∈ u_ws RX9 TX9 3, goodWord w = true by decide +kernel) w h)
theorem ftX9_0 : FT 11 0 (.array (.array .int)) true := ⟨RX9, TX9, 3, rfl, by decide +kernel, rfl⟩
theorem ftX9_1 : FT 11 1 .int false := ⟨RX9, TX9, 3, rfl, by decide +kernel, rfl⟩
theorem ftX9_2 : FT 11 2 .int false := ⟨RX9, TX9, 3, rfl, by decide +kernel, rfl⟩
set_option maxRecDepth 100000 in
theorem cwX10 : ∀ w ∈ u_ws RX10 TX10 6, w ∈ WT := fun w h => WT_of ((show ∀ w ∈ u_ws RX10 TX10 6, w ∈ lw_tbl by decide +kernel) w h) ((show ∀ w ∈ u_ws RX10 TX10 6, goodWord w = true by decide +kernel) w h)
theorem ftX10_0 : FT 12 0 (.array (.array .int)) true := ⟨RX10, TX10, 6, rfl, by decide +kernel, rfl⟩
theorem ftX10_1 : FT 12 1 (.array (.array (.array .int))) true := ⟨RX10, TX10, 6, rfl, by decide +kernel, rfl⟩
theorem ftX10_2 : FT 12 2 .int false := ⟨RX10, TX10, 6, rfl, by decide +kernel, rfl⟩
theorem ftX10_3 : FT 12 3 .int false := ⟨RX10, TX10, 6, rfl, by decide +kernel, rfl⟩
theorem ftX10_4 : FT 12 4 .int false := ⟨RX10, TX10, 6, rfl, by decide +kernel, rfl⟩
theorem ftX10_5 : FT 12 5 .int false := ⟨RX10, TX10, 6, rfl, by decide +kernel, rfl⟩
set_option maxRecDepth 100000 in
theorem flX10_11 : FL RX10 11 12 0 := ⟨RX10, TX10, 6, tyX10, rfl, cwX10, by decide, WT_of (tbw_6 (List.mem_of_getElem? (i := 88) rfl)) rfl, rfl, tyX10_ok, nmX10⟩
set_option maxRecDepth 100000 in
theorem flX10_16 : FL RX10 16 12 1 := ⟨RX10, TX10, 6, tyX10, rfl, cwX10, by decide, WT_of (tbw_6 (List.mem_of_getElem? (i := 89) rfl)) rfl, rfl, tyX10_ok, nmX10⟩
set_option maxRecDepth 100000 in
theorem flX10_82 : FL RX10 82 12 2 := ⟨RX10, TX10, 6, tyX10, rfl, cwX10, by decide, WT_of (tbw_6 (List.mem_of_getElem? (i := 90) rfl)) rfl, rfl, tyX10_ok, nmX10⟩
set_option maxRecDepth 100000 in
theorem flX10_85 : FL RX10 85 12 3 := ⟨RX10, TX10, 6, tyX10, rfl, cwX10, by decide, WT_of (tbw_6 (List.mem_of_getElem? (i := 91) rfl)) rfl, rfl, tyX10_ok, nmX10⟩
set_option maxRecDepth 100000 in
theorem flX10_218 : FL RX10 218 12 4 := ⟨RX10, TX10, 6, tyX10, rfl, cwX10, by decide, WT_of (tbw_6 (List.mem_of_getElem? (i := 92) rfl)) rfl, rfl, tyX10_ok, nmX10⟩
set_option maxRecDepth 100000 in
theorem flX10_28 : FL RX10 28 12 5 := ⟨RX10, TX10, 6, tyX10, rfl, cwX10, by decide, WT_of (tbw_6 (List.mem_of_getElem? (i := 93) rfl)) rfl, rfl, tyX10_ok, nmX10⟩
set_option maxRecDepth 100000 in
theorem flX9_11 : FL RX9 11 11 0 := ⟨RX9, TX9, 3, tyX9, rfl, cwX9, by decide, WT_of (tbw_7 (List.mem_of_getElem? (i := 54) rfl)) rfl, rfl, tyX9_ok, nmX9⟩
set_option maxRecDepth 100000 in
theorem flX9_29 : FL RX9 29 11 1 := ⟨RX9, TX9, 3, tyX9, rfl, cwX9, by decide, WT_of (tbw_7 (List.mem_of_getElem? (i := 55) rfl)) rfl, rfl, tyX9_ok, nmX9⟩
set_option maxRecDepth 100000 in
theorem fnX10_211 : FLN RX10 211 11 1 := ⟨RX9, TX9, 3, "BranchmatchModel", rfl, cwX9, by decide, tbw_7 (List.mem_of_getElem? (i := 56) rfl), rfl⟩
set_option maxRecDepth 100000 in
theorem flX9_25 : FL RX9 25 11 2 := ⟨RX9, TX9, 3, tyX9, rfl, cwX9, by decide, WT_of (tbw_7 (List.mem_of_getElem? (i := 57) rfl)) rfl, rfl, tyX9_ok, nmX9⟩
set_option maxRecDepth 100000 in
theorem fnX10_204 : FLN RX10 204 11 2 := ⟨RX9, TX9, 3, "BranchmatchModel", rfl, cwX9, by decide, tbw_7 (List.mem_of_getElem? (i := 58) rfl), rfl⟩
set_option maxRecDepth 100000 in
theorem flX8_11 : FL RX8 11 10 0 := ⟨RX8, TX8, 5, tyX8, rfl, cwX8, by decide, WT_of (tbw_7 (List.mem_of_getElem? (i := 104) rfl)) rfl, rfl, tyX8_ok, nmX8⟩
set_option maxRecDepth 100000 in
theorem flX8_17 : FL RX8 17 10 1 := ⟨RX8, TX8, 5, tyX8, rfl, cwX8, by decide, WT_of (tbw_7 (List.mem_of_getElem? (i := 105) rfl)) rfl, rfl, tyX8_ok, nmX8⟩
set_option maxRecDepth 100000 in
theorem flX8_20 : FL RX8 20 10 2 := ⟨RX8, TX8, 5, tyX8, rfl, cwX8, by decide, WT_of (tbw_7 (List.mem_of_getElem? (i := 106) rfl)) rfl, rfl, tyX8_ok, nmX8⟩
set_option maxRecDepth 100000 in
theorem flX8_35 : FL RX8 35 10 3 := ⟨RX8, TX8, 5, tyX8, rfl, cwX8, by decide, WT_of (tbw_7 (List.mem_of_getElem? (i := 107) rfl)) rfl, rfl, tyX8_ok, nmX8⟩
set_option maxRecDepth 100000 in
theorem flX8_23 : FL RX8 23 10 4 := ⟨RX8, TX8, 5, tyX8, rfl, cwX8, by decide, WT_of (tbw_7 (List.mem_of_getElem? (i := 108) rfl)) rfl, rfl, tyX8_ok, nmX8⟩
set_option maxRecDepth 100000 in
theorem fnX10_207 : FLN RX10 207 10 4 := ⟨RX8, TX8, 5, "BranchmatchModel", rfl, cwX8, by decide, tbw_7 (List.mem_of_getElem? (i := 109) rfl), rfl⟩
