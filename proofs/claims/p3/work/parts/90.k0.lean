/-! the class, weakly: answers (printed by wip/p40/cl0.py) -/
def chEx : List String := ["java/lang/RuntimeException", "java/lang/Exception"]
set_option maxRecDepth 100000 in
theorem xwX0_31 : XW RX0 27 31 iae chEx := ⟨⟨by decide +kernel, by decide +kernel⟩, WT_of (by decide +kernel) rfl, WT_of (by decide +kernel) rfl, show ∀ w ∈ vx_atS RX0 31 iae chEx, w ∈ lw_tbl ∧ (goodWord w || isNest w) = true by decide +kernel⟩
set_option maxRecDepth 100000 in
theorem xwX6_88 : XW RX6 84 88 iae chEx := ⟨⟨by decide +kernel, by decide +kernel⟩, WT_of (by decide +kernel) rfl, WT_of (by decide +kernel) rfl, show ∀ w ∈ vx_atS RX6 88 iae chEx, w ∈ lw_tbl ∧ (goodWord w || isNest w) = true by decide +kernel⟩
set_option maxRecDepth 100000 in
theorem xwX6_310 : XW RX6 306 310 ioobe chEx := ⟨⟨by decide +kernel, by decide +kernel⟩, WT_of (by decide +kernel) rfl, WT_of (by decide +kernel) rfl, show ∀ w ∈ vx_atS RX6 310 ioobe chEx, w ∈ lw_tbl ∧ (goodWord w || isNest w) = true by decide +kernel⟩
section M90
variable {la : Launch} {D : va_G} {cA : Nat → ClassId} {B0 pa : Nat} {Γ : TY}
end M90
