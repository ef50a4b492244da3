/-! guards and counters of the reference -/
section M37
variable {la : Launch} {D : va_G} {cA : Nat → ClassId} {B0 pa : Nat}
variable {o S A : Nat} {sl : List (List Nat)} {an : List (List (List Nat))} {a r kn th : Int32}
/-- the reference changes its counters at most -/
def MC (o S A : Nat) (sl : List (List Nat)) (an : List (List (List Nat))) (kn : Int32) (h h' : AH) : Prop := (∃ a r th, MD h' o S A sl an a r kn th) ∧ Fr o S A h h'
end M37
