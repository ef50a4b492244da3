/-! the constructor of the reference; steps, why, under a bound -/
theorem cl10_15 : Cond.classLink RX10 15 (cnm (aty 106)) ∈ WT := by rw [aty106]; exact WT_of (tbw_6 (List.mem_of_getElem? (i := 80) rfl)) rfl
theorem nc10_157 : NC RX10 157 11 [.null, .int 0, .int 0] := by
  refine ⟨RX9, TX9, 3, tyX9, rfl, cwX9, tyX9_ok, rfl, fun j hj => ?_, WT_of (by decide +kernel) rfl, WT_of (by decide +kernel) rfl, liX9⟩
  match j, hj with
  | 0, _ => rfl
  | 1, _ => rfl
  | 2, _ => rfl
/-- what a bound on the steps says: fuel, cells and slots are enough for any two terms -/
def GoB (F C N : Nat) : Prop := ∀ one other : List Nat, (TW one ∧ one.length ≤ 16) → (TW other ∧ other.length ≤ 16) → ∃ G : GS, goF F one other none8 0 0 = some G ∧ G.2.2.2.1 ≤ C ∧ G.2.2.2.2 ≤ N
theorem Fo.ext {q : Nat} {h h' : AH} (hq : h q = none) (F : Fo q h h') : Ext h h' := fun b c e => F b c (fun z => by rw [z, hq] at e; cases e) e
section M39
variable {la : Launch} {D : va_G} {cA : Nat → ClassId} {B0 pa : Nat} {o S A : Nat} {sl : List (List Nat)} {an : List (List (List Nat))} {a r kn th : Int32}
end M39
