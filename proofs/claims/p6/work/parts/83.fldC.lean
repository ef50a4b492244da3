/-! words of the class: nest, fields -/
set_option maxRecDepth 100000 in
theorem mnX6_47 : Cond.methodLinkNest RX6 47 yX4_init "Branchmatch" ∈ lw_tbl := tbw_1 (List.mem_of_getElem? (i := 85) rfl)
set_option maxRecDepth 100000 in
theorem mnX4_26 : Cond.methodLinkNest RX4 26 yX2_init "Branchmatch" ∈ lw_tbl := tbw_1 (List.mem_of_getElem? (i := 93) rfl)
set_option maxRecDepth 100000 in
theorem mnX6_54 : Cond.methodLinkNest RX6 54 yX1_init "Branchmatch" ∈ lw_tbl := tbw_1 (List.mem_of_getElem? (i := 125) rfl)
set_option maxRecDepth 100000 in
theorem mnX1_32 : Cond.methodLinkNest RX1 32 yX2_init "Branchmatch" ∈ lw_tbl := tbw_1 (List.mem_of_getElem? (i := 132) rfl)
set_option maxRecDepth 100000 in
theorem mnX6_61 : Cond.methodLinkNest RX6 61 yX3_init "Branchmatch" ∈ lw_tbl := tbw_1 (List.mem_of_getElem? (i := 151) rfl)
set_option maxRecDepth 100000 in
theorem mnX3_11 : Cond.methodLinkNest RX3 11 yX2_init "Branchmatch" ∈ lw_tbl := tbw_1 (List.mem_of_getElem? (i := 156) rfl)
set_option maxRecDepth 100000 in
theorem mnX4_86 : Cond.methodLinkNest RX4 86 yX6_isName "Branchmatch" ∈ lw_tbl := tbw_2 (List.mem_of_getElem? (i := 22) rfl)
set_option maxRecDepth 100000 in
theorem mnX5_59 : Cond.methodLinkNest RX5 59 yX6_partsOf "Branchmatch" ∈ lw_tbl := tbw_2 (List.mem_of_getElem? (i := 45) rfl)
set_option maxRecDepth 100000 in
theorem mnX5_44 : Cond.methodLinkNest RX5 44 yX6_isName "Branchmatch" ∈ lw_tbl := tbw_2 (List.mem_of_getElem? (i := 54) rfl)
set_option maxRecDepth 100000 in
theorem mnX2_28 : Cond.methodLinkNest RX2 28 yX6_partsOf "Branchmatch" ∈ lw_tbl := tbw_2 (List.mem_of_getElem? (i := 60) rfl)
set_option maxRecDepth 100000 in
theorem mnX1_48 : Cond.methodLinkNest RX1 48 yX6_isHead "Branchmatch" ∈ lw_tbl := tbw_2 (List.mem_of_getElem? (i := 76) rfl)
set_option maxRecDepth 100000 in
theorem mnX1_111 : Cond.methodLinkNest RX1 111 yX6_partsOf "Branchmatch" ∈ lw_tbl := tbw_2 (List.mem_of_getElem? (i := 111) rfl)
set_option maxRecDepth 100000 in
theorem mnX0_23 : Cond.methodLinkNest RX0 23 yX6_isName "Branchmatch" ∈ lw_tbl := tbw_2 (List.mem_of_getElem? (i := 129) rfl)
set_option maxRecDepth 100000 in
theorem mnX3_32 : Cond.methodLinkNest RX3 32 yX6_isHead "Branchmatch" ∈ lw_tbl := tbw_2 (List.mem_of_getElem? (i := 185) rfl)
set_option maxRecDepth 100000 in
theorem cwX0 : ∀ w ∈ u_ws RX0 TX0 1, w ∈ WT := fun w h => WT_of ((show ∀ w ∈ u_ws RX0 TX0 1, w ∈ lw_tbl by decide +kernel) w h) ((show ∀ w ∈ u_ws RX0 TX0 1, goodWord w = true by decide +kernel) w h)
theorem ftX0_0 : FT 2 0 (.array (.object "Branchmatch$Term")) true := ⟨RX0, TX0, 1, rfl, by decide +kernel, rfl⟩
set_option maxRecDepth 100000 in
theorem cwX1 : ∀ w ∈ u_ws RX1 TX1 5, w ∈ WT := fun w h => WT_of ((show ∀ w ∈ u_ws RX1 TX1 5, w ∈ lw_tbl by decide +kernel) w h) ((show ∀ w ∈ u_ws RX1 TX1 5, goodWord w = true by decide +kernel) w h)
theorem ftX1_0 : FT 3 0 (.object "Branchmatch$Term") true := ⟨RX1, TX1, 5, rfl, by decide +kernel, rfl⟩
theorem ftX1_1 : FT 3 1 (.array .int) true := ⟨RX1, TX1, 5, rfl, by decide +kernel, rfl⟩
theorem ftX1_2 : FT 3 2 (.array .int) true := ⟨RX1, TX1, 5, rfl, by decide +kernel, rfl⟩
theorem ftX1_3 : FT 3 3 (.array .int) true := ⟨RX1, TX1, 5, rfl, by decide +kernel, rfl⟩
theorem ftX1_4 : FT 3 4 (.object "Branchmatch$Pairs") true := ⟨RX1, TX1, 5, rfl, by decide +kernel, rfl⟩
set_option maxRecDepth 100000 in
theorem cwX2 : ∀ w ∈ u_ws RX2 TX2 3, w ∈ WT := fun w h => WT_of ((show ∀ w ∈ u_ws RX2 TX2 3, w ∈ lw_tbl by decide +kernel) w h) ((show ∀ w ∈ u_ws RX2 TX2 3, goodWord w = true by decide +kernel) w h)
theorem ftX2_0 : FT 4 0 (.array .int) true := ⟨RX2, TX2, 3, rfl, by decide +kernel, rfl⟩
theorem ftX2_1 : FT 4 1 (.array .int) true := ⟨RX2, TX2, 3, rfl, by decide +kernel, rfl⟩
theorem ftX2_2 : FT 4 2 .int false := ⟨RX2, TX2, 3, rfl, by decide +kernel, rfl⟩
set_option maxRecDepth 100000 in
theorem cwX3 : ∀ w ∈ u_ws RX3 TX3 1, w ∈ WT := fun w h => WT_of ((show ∀ w ∈ u_ws RX3 TX3 1, w ∈ lw_tbl by decide +kernel) w h) ((show ∀ w ∈ u_ws RX3 TX3 1, goodWord w = true by decide +kernel) w h)
theorem ftX3_0 : FT 5 0 (.object "Branchmatch$Pairs") true := ⟨RX3, TX3, 1, rfl, by decide +kernel, rfl⟩
set_option maxRecDepth 100000 in
theorem cwX4 : ∀ w ∈ u_ws RX4 TX4 5, w ∈ WT := fun w h => WT_of ((show ∀ w ∈ u_ws RX4 TX4 5, w ∈ lw_tbl by decide +kernel) w h) ((show ∀ w ∈ u_ws RX4 TX4 5, goodWord w = true by decide +kernel) w h)
theorem ftX4_0 : FT 6 0 (.object "Branchmatch$Term") true := ⟨RX4, TX4, 5, rfl, by decide +kernel, rfl⟩
theorem ftX4_1 : FT 6 1 (.array .int) true := ⟨RX4, TX4, 5, rfl, by decide +kernel, rfl⟩
theorem ftX4_2 : FT 6 2 (.object "Branchmatch$Pairs") true := ⟨RX4, TX4, 5, rfl, by decide +kernel, rfl⟩
theorem ftX4_3 : FT 6 3 .int false := ⟨RX4, TX4, 5, rfl, by decide +kernel, rfl⟩
theorem ftX4_4 : FT 6 4 .int false := ⟨RX4, TX4, 5, rfl, by decide +kernel, rfl⟩
set_option maxRecDepth 100000 in
theorem cwX5 : ∀ w ∈ u_ws RX5 TX5 3, w ∈ WT := fun w h => WT_of ((show ∀ w ∈ u_ws RX5 TX5 3, w ∈ lw_tbl by decide +kernel) w h) ((show ∀ w ∈ u_ws RX5 TX5 3, goodWord w = true by decide +kernel) w h)
theorem ftX5_0 : FT 7 0 (.array .int) true := ⟨RX5, TX5, 3, rfl, by decide +kernel, rfl⟩
theorem ftX5_1 : FT 7 1 .int false := ⟨RX5, TX5, 3, rfl, by decide +kernel, rfl⟩
theorem ftX5_2 : FT 7 2 .boolean false := ⟨RX5, TX5, 3, rfl, by decide +kernel, rfl⟩
set_option maxRecDepth 100000 in
theorem cwX6 : ∀ w ∈ u_ws RX6 TX6 14, w ∈ WT := fun w h => WT_of ((show ∀ w ∈ u_ws RX6 TX6 14, w ∈ lw_tbl by decide +kernel) w h) ((show ∀ w ∈ u_ws RX6 TX6 14, goodWord w = true by decide +kernel) w h)
theorem ftX6_0 : FT 8 0 (.array (.object "Branchmatch$Term")) true := ⟨RX6, TX6, 14, rfl, by decide +kernel, rfl⟩
theorem ftX6_1 : FT 8 1 (.array (.object "Branchmatch$Answer")) true := ⟨RX6, TX6, 14, rfl, by decide +kernel, rfl⟩
theorem ftX6_2 : FT 8 2 .int false := ⟨RX6, TX6, 14, rfl, by decide +kernel, rfl⟩
theorem ftX6_3 : FT 8 3 .int false := ⟨RX6, TX6, 14, rfl, by decide +kernel, rfl⟩
theorem ftX6_4 : FT 8 4 .int false := ⟨RX6, TX6, 14, rfl, by decide +kernel, rfl⟩
theorem ftX6_5 : FT 8 5 (.object "Branchmatch$Term") true := ⟨RX6, TX6, 14, rfl, by decide +kernel, rfl⟩
theorem ftX6_6 : FT 8 6 (.object "Branchmatch$Term") true := ⟨RX6, TX6, 14, rfl, by decide +kernel, rfl⟩
theorem ftX6_7 : FT 8 7 (.object "Branchmatch$Term") true := ⟨RX6, TX6, 14, rfl, by decide +kernel, rfl⟩
theorem ftX6_8 : FT 8 8 (.object "Branchmatch$Term") true := ⟨RX6, TX6, 14, rfl, by decide +kernel, rfl⟩
theorem ftX6_9 : FT 8 9 (.object "Branchmatch$Answer") true := ⟨RX6, TX6, 14, rfl, by decide +kernel, rfl⟩
theorem ftX6_10 : FT 8 10 (.object "Branchmatch$Answer") true := ⟨RX6, TX6, 14, rfl, by decide +kernel, rfl⟩
theorem ftX6_11 : FT 8 11 (.object "Branchmatch$Steps") true := ⟨RX6, TX6, 14, rfl, by decide +kernel, rfl⟩
theorem ftX6_12 : FT 8 12 (.object "Branchmatch$Classes") true := ⟨RX6, TX6, 14, rfl, by decide +kernel, rfl⟩
theorem ftX6_13 : FT 8 13 (.object "Branchmatch$Shape") true := ⟨RX6, TX6, 14, rfl, by decide +kernel, rfl⟩
set_option maxRecDepth 100000 in
theorem flX5_15 : FL RX5 15 7 0 := ⟨RX5, TX5, 3, tyX5, rfl, cwX5, by decide, WT_of (tbw_1 (List.mem_of_getElem? (i := 49) rfl)) rfl, rfl, tyX5_ok, nmX5⟩
set_option maxRecDepth 100000 in
theorem flX5_21 : FL RX5 21 7 1 := ⟨RX5, TX5, 3, tyX5, rfl, cwX5, by decide, WT_of (tbw_1 (List.mem_of_getElem? (i := 50) rfl)) rfl, rfl, tyX5_ok, nmX5⟩
set_option maxRecDepth 100000 in
theorem flX5_25 : FL RX5 25 7 2 := ⟨RX5, TX5, 3, tyX5, rfl, cwX5, by decide, WT_of (tbw_1 (List.mem_of_getElem? (i := 51) rfl)) rfl, rfl, tyX5_ok, nmX5⟩
set_option maxRecDepth 100000 in
theorem flX0_11 : FL RX0 11 2 0 := ⟨RX0, TX0, 1, tyX0, rfl, cwX0, by decide, WT_of (tbw_1 (List.mem_of_getElem? (i := 79) rfl)) rfl, rfl, tyX0_ok, nmX0⟩
set_option maxRecDepth 100000 in
theorem flX2_11 : FL RX2 11 4 0 := ⟨RX2, TX2, 3, tyX2, rfl, cwX2, by decide, WT_of (tbw_1 (List.mem_of_getElem? (i := 97) rfl)) rfl, rfl, tyX2_ok, nmX2⟩
set_option maxRecDepth 100000 in
theorem flX2_15 : FL RX2 15 4 1 := ⟨RX2, TX2, 3, tyX2, rfl, cwX2, by decide, WT_of (tbw_1 (List.mem_of_getElem? (i := 98) rfl)) rfl, rfl, tyX2_ok, nmX2⟩
set_option maxRecDepth 100000 in
theorem flX2_18 : FL RX2 18 4 2 := ⟨RX2, TX2, 3, tyX2, rfl, cwX2, by decide, WT_of (tbw_1 (List.mem_of_getElem? (i := 99) rfl)) rfl, rfl, tyX2_ok, nmX2⟩
set_option maxRecDepth 100000 in
theorem flX4_14 : FL RX4 14 6 0 := ⟨RX4, TX4, 5, tyX4, rfl, cwX4, by decide, WT_of (tbw_1 (List.mem_of_getElem? (i := 107) rfl)) rfl, rfl, tyX4_ok, nmX4⟩
set_option maxRecDepth 100000 in
theorem flX4_20 : FL RX4 20 6 1 := ⟨RX4, TX4, 5, tyX4, rfl, cwX4, by decide, WT_of (tbw_1 (List.mem_of_getElem? (i := 108) rfl)) rfl, rfl, tyX4_ok, nmX4⟩
set_option maxRecDepth 100000 in
theorem flX4_27 : FL RX4 27 6 2 := ⟨RX4, TX4, 5, tyX4, rfl, cwX4, by decide, WT_of (tbw_1 (List.mem_of_getElem? (i := 109) rfl)) rfl, rfl, tyX4_ok, nmX4⟩
set_option maxRecDepth 100000 in
theorem flX4_52 : FL RX4 52 6 3 := ⟨RX4, TX4, 5, tyX4, rfl, cwX4, by decide, WT_of (tbw_1 (List.mem_of_getElem? (i := 110) rfl)) rfl, rfl, tyX4_ok, nmX4⟩
set_option maxRecDepth 100000 in
theorem flX4_56 : FL RX4 56 6 4 := ⟨RX4, TX4, 5, tyX4, rfl, cwX4, by decide, WT_of (tbw_1 (List.mem_of_getElem? (i := 111) rfl)) rfl, rfl, tyX4_ok, nmX4⟩
set_option maxRecDepth 100000 in
theorem flX1_16 : FL RX1 16 3 0 := ⟨RX1, TX1, 5, tyX1, rfl, cwX1, by decide, WT_of (tbw_1 (List.mem_of_getElem? (i := 133) rfl)) rfl, rfl, tyX1_ok, nmX1⟩
set_option maxRecDepth 100000 in
theorem flX1_20 : FL RX1 20 3 1 := ⟨RX1, TX1, 5, tyX1, rfl, cwX1, by decide, WT_of (tbw_1 (List.mem_of_getElem? (i := 134) rfl)) rfl, rfl, tyX1_ok, nmX1⟩
set_option maxRecDepth 100000 in
theorem flX1_24 : FL RX1 24 3 2 := ⟨RX1, TX1, 5, tyX1, rfl, cwX1, by decide, WT_of (tbw_1 (List.mem_of_getElem? (i := 135) rfl)) rfl, rfl, tyX1_ok, nmX1⟩
set_option maxRecDepth 100000 in
theorem flX1_27 : FL RX1 27 3 3 := ⟨RX1, TX1, 5, tyX1, rfl, cwX1, by decide, WT_of (tbw_1 (List.mem_of_getElem? (i := 136) rfl)) rfl, rfl, tyX1_ok, nmX1⟩
set_option maxRecDepth 100000 in
theorem flX1_33 : FL RX1 33 3 4 := ⟨RX1, TX1, 5, tyX1, rfl, cwX1, by decide, WT_of (tbw_1 (List.mem_of_getElem? (i := 137) rfl)) rfl, rfl, tyX1_ok, nmX1⟩
set_option maxRecDepth 100000 in
theorem flX3_12 : FL RX3 12 5 0 := ⟨RX3, TX3, 1, tyX3, rfl, cwX3, by decide, WT_of (tbw_1 (List.mem_of_getElem? (i := 157) rfl)) rfl, rfl, tyX3_ok, nmX3⟩
set_option maxRecDepth 100000 in
theorem flX6_11 : FL RX6 11 8 0 := ⟨RX6, TX6, 14, tyX6, rfl, cwX6, by decide, WT_of (tbw_1 (List.mem_of_getElem? (i := 162) rfl)) rfl, rfl, tyX6_ok, nmX6⟩
set_option maxRecDepth 100000 in
theorem flX6_17 : FL RX6 17 8 1 := ⟨RX6, TX6, 14, tyX6, rfl, cwX6, by decide, WT_of (tbw_1 (List.mem_of_getElem? (i := 163) rfl)) rfl, rfl, tyX6_ok, nmX6⟩
set_option maxRecDepth 100000 in
theorem flX6_241 : FL RX6 241 8 2 := ⟨RX6, TX6, 14, tyX6, rfl, cwX6, by decide, WT_of (tbw_1 (List.mem_of_getElem? (i := 164) rfl)) rfl, rfl, tyX6_ok, nmX6⟩
set_option maxRecDepth 100000 in
theorem flX6_245 : FL RX6 245 8 3 := ⟨RX6, TX6, 14, tyX6, rfl, cwX6, by decide, WT_of (tbw_1 (List.mem_of_getElem? (i := 165) rfl)) rfl, rfl, tyX6_ok, nmX6⟩
set_option maxRecDepth 100000 in
theorem flX6_248 : FL RX6 248 8 4 := ⟨RX6, TX6, 14, tyX6, rfl, cwX6, by decide, WT_of (tbw_1 (List.mem_of_getElem? (i := 166) rfl)) rfl, rfl, tyX6_ok, nmX6⟩
set_option maxRecDepth 100000 in
theorem flX6_24 : FL RX6 24 8 5 := ⟨RX6, TX6, 14, tyX6, rfl, cwX6, by decide, WT_of (tbw_1 (List.mem_of_getElem? (i := 167) rfl)) rfl, rfl, tyX6_ok, nmX6⟩
set_option maxRecDepth 100000 in
theorem flX6_28 : FL RX6 28 8 6 := ⟨RX6, TX6, 14, tyX6, rfl, cwX6, by decide, WT_of (tbw_1 (List.mem_of_getElem? (i := 168) rfl)) rfl, rfl, tyX6_ok, nmX6⟩
set_option maxRecDepth 100000 in
theorem flX6_31 : FL RX6 31 8 7 := ⟨RX6, TX6, 14, tyX6, rfl, cwX6, by decide, WT_of (tbw_1 (List.mem_of_getElem? (i := 169) rfl)) rfl, rfl, tyX6_ok, nmX6⟩
set_option maxRecDepth 100000 in
theorem flX6_34 : FL RX6 34 8 8 := ⟨RX6, TX6, 14, tyX6, rfl, cwX6, by decide, WT_of (tbw_1 (List.mem_of_getElem? (i := 170) rfl)) rfl, rfl, tyX6_ok, nmX6⟩
set_option maxRecDepth 100000 in
theorem flX6_38 : FL RX6 38 8 9 := ⟨RX6, TX6, 14, tyX6, rfl, cwX6, by decide, WT_of (tbw_1 (List.mem_of_getElem? (i := 171) rfl)) rfl, rfl, tyX6_ok, nmX6⟩
set_option maxRecDepth 100000 in
theorem flX6_42 : FL RX6 42 8 10 := ⟨RX6, TX6, 14, tyX6, rfl, cwX6, by decide, WT_of (tbw_1 (List.mem_of_getElem? (i := 172) rfl)) rfl, rfl, tyX6_ok, nmX6⟩
set_option maxRecDepth 100000 in
theorem flX6_48 : FL RX6 48 8 11 := ⟨RX6, TX6, 14, tyX6, rfl, cwX6, by decide, WT_of (tbw_1 (List.mem_of_getElem? (i := 173) rfl)) rfl, rfl, tyX6_ok, nmX6⟩
set_option maxRecDepth 100000 in
theorem flX6_55 : FL RX6 55 8 12 := ⟨RX6, TX6, 14, tyX6, rfl, cwX6, by decide, WT_of (tbw_1 (List.mem_of_getElem? (i := 174) rfl)) rfl, rfl, tyX6_ok, nmX6⟩
set_option maxRecDepth 100000 in
theorem flX6_62 : FL RX6 62 8 13 := ⟨RX6, TX6, 14, tyX6, rfl, cwX6, by decide, WT_of (tbw_1 (List.mem_of_getElem? (i := 175) rfl)) rfl, rfl, tyX6_ok, nmX6⟩
