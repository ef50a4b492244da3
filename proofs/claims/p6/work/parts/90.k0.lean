/-! the class, weakly: answers (printed by wip/p40/cl0.py) -/
def chEx : List String := ["java/lang/RuntimeException", "java/lang/Exception"]
set_option maxRecDepth 100000 in
theorem xwX0_31 : XW RX0 27 31 iae chEx := ⟨⟨by decide +kernel, by decide +kernel⟩, WT_of (tbw_3 (List.mem_of_getElem? (i := 122) rfl)) rfl, WT_of (tbw_1 (List.mem_of_getElem? (i := 15) rfl)) rfl, have h : ∀ w ∈ vx_atS RX0 31 iae chEx, (w ∈ tables_1_3 ∨ w ∈ tables_1_1 ∨ w ∈ tables_1_5 ∨ w ∈ tables_1_8) ∧ (goodWord w || isNest w) = true := (by decide +kernel); fun w hw => ⟨(fun q => Or.elim q tbw_3 (fun q => Or.elim q tbw_1 (fun q => Or.elim q tbw_5 tbw_8))) (h w hw).1, (h w hw).2⟩⟩
set_option maxRecDepth 100000 in
theorem xwX6_88 : XW RX6 84 88 iae chEx := ⟨⟨by decide +kernel, by decide +kernel⟩, WT_of (tbw_3 (List.mem_of_getElem? (i := 158) rfl)) rfl, WT_of (tbw_1 (List.mem_of_getElem? (i := 15) rfl)) rfl, have h : ∀ w ∈ vx_atS RX6 88 iae chEx, (w ∈ tables_1_3 ∨ w ∈ tables_1_1 ∨ w ∈ tables_1_5 ∨ w ∈ tables_1_8) ∧ (goodWord w || isNest w) = true := (by decide +kernel); fun w hw => ⟨(fun q => Or.elim q tbw_3 (fun q => Or.elim q tbw_1 (fun q => Or.elim q tbw_5 tbw_8))) (h w hw).1, (h w hw).2⟩⟩
set_option maxRecDepth 100000 in
theorem xwX6_310 : XW RX6 306 310 ioobe chEx := ⟨⟨by decide +kernel, by decide +kernel⟩, WT_of (tbw_3 (List.mem_of_getElem? (i := 10) rfl)) rfl, WT_of (tbw_1 (List.mem_of_getElem? (i := 14) rfl)) rfl, have h : ∀ w ∈ vx_atS RX6 310 ioobe chEx, (w ∈ tables_1_3 ∨ w ∈ tables_1_1 ∨ w ∈ tables_1_5 ∨ w ∈ tables_1_8) ∧ (goodWord w || isNest w) = true := (by decide +kernel); fun w hw => ⟨(fun q => Or.elim q tbw_3 (fun q => Or.elim q tbw_1 (fun q => Or.elim q tbw_5 tbw_8))) (h w hw).1, (h w hw).2⟩⟩
section M90
variable {la : Launch} {D : va_G} {cA : Nat → ClassId} {B0 pa : Nat} {Γ : TY}
end M90
