/-! digest -/
theorem cs10_230 : Cond.constantLong RX10 230 8024 ∈ WT := WT_of (tbw_8 (List.mem_of_getElem? (i := 40) rfl)) rfl
section M81
variable {la : Launch} {D : va_G} {cA : Nat → ClassId} {B0 pa : Nat}
variable {o S A : Nat} {sl : List (List Nat)} {an : List (List (List Nat))} {a r kn th : Int32}
end M81
