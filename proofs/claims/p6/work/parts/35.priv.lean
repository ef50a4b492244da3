/-! private methods of the reference are their own -/
set_option maxRecDepth 100000 in
theorem lpX10_isThrown : Cond.selects yX10_isThrown.cls yX10_isThrown yX10_isThrown ∈ WT := WT_of (by decide +kernel) rfl
set_option maxRecDepth 100000 in
theorem lpX10_isThrown_ : Cond.selects yX10_isThrown_.cls yX10_isThrown_ yX10_isThrown_ ∈ WT := WT_of (by decide +kernel) rfl
set_option maxRecDepth 100000 in
theorem lpX10_done : Cond.selects yX10_done.cls yX10_done yX10_done ∈ WT := WT_of (by decide +kernel) rfl
set_option maxRecDepth 100000 in
theorem lpX10_no : Cond.selects yX10_no.cls yX10_no yX10_no ∈ WT := WT_of (by decide +kernel) rfl
set_option maxRecDepth 100000 in
theorem lpX10_give : Cond.selects yX10_give.cls yX10_give yX10_give ∈ WT := WT_of (by decide +kernel) rfl
set_option maxRecDepth 100000 in
theorem lpX10_isPlace : Cond.selects yX10_isPlace.cls yX10_isPlace yX10_isPlace ∈ WT := WT_of (by decide +kernel) rfl
set_option maxRecDepth 100000 in
theorem lpX10_become : Cond.selects yX10_become.cls yX10_become yX10_become ∈ WT := WT_of (by decide +kernel) rfl
set_option maxRecDepth 100000 in
theorem lpX10_told_ : Cond.selects yX10_told_.cls yX10_told_ yX10_told_ ∈ WT := WT_of (by decide +kernel) rfl
set_option maxRecDepth 100000 in
theorem lpX9_go : Cond.selects yX9_go.cls yX9_go yX9_go ∈ WT := WT_of (by decide +kernel) rfl
set_option maxRecDepth 100000 in
theorem lpX9_deep : Cond.selects yX9_deep.cls yX9_deep yX9_deep ∈ WT := WT_of (by decide +kernel) rfl
set_option maxRecDepth 100000 in
theorem lpX9_bind : Cond.selects yX9_bind.cls yX9_bind yX9_bind ∈ WT := WT_of (by decide +kernel) rfl
set_option maxRecDepth 100000 in
theorem lpX9_isWithin : Cond.selects yX9_isWithin.cls yX9_isWithin yX9_isWithin ∈ WT := WT_of (by decide +kernel) rfl
set_option maxRecDepth 100000 in
theorem lpX9_goOn : Cond.selects yX9_goOn.cls yX9_goOn yX9_goOn ∈ WT := WT_of (by decide +kernel) rfl
set_option maxRecDepth 100000 in
theorem lpX8_come : Cond.selects yX8_come.cls yX8_come yX8_come ∈ WT := WT_of (by decide +kernel) rfl
set_option maxRecDepth 100000 in
theorem lpX8_number : Cond.selects yX8_number.cls yX8_number yX8_number ∈ WT := WT_of (by decide +kernel) rfl
set_option maxRecDepth 100000 in
theorem lpX8_headed : Cond.selects yX8_headed.cls yX8_headed yX8_headed ∈ WT := WT_of (by decide +kernel) rfl
set_option maxRecDepth 100000 in
theorem lpX8_join : Cond.selects yX8_join.cls yX8_join yX8_join ∈ WT := WT_of (by decide +kernel) rfl
set_option maxRecDepth 100000 in
theorem lpX8_isRound : Cond.selects yX8_isRound.cls yX8_isRound yX8_isRound ∈ WT := WT_of (by decide +kernel) rfl
set_option maxRecDepth 100000 in
theorem lpX8_isFree : Cond.selects yX8_isFree.cls yX8_isFree yX8_isFree ∈ WT := WT_of (by decide +kernel) rfl
set_option maxRecDepth 100000 in
theorem lpX8_whole : Cond.selects yX8_whole.cls yX8_whole yX8_whole ∈ WT := WT_of (by decide +kernel) rfl
