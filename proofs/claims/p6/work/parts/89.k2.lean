/-! the class, weakly: pairs (printed by wip/p40/cl0.py) -/
section M89
variable {la : Launch} {D : va_G} {cA : Nat → ClassId} {B0 pa : Nat} {Γ : TY}
end M89
theorem spot_ix {w p i : Nat} (hp : p ≤ 3) (hw : w + p ≤ 128) (hi : i < p) : ¬ (nI (w + i) : Int32) < 0 ∧ (nI (w + i)).toNatClampNeg < 128 := ⟨nI_pos (by omega), by rw [nI_clamp (by omega)]; omega⟩
section M89b
variable {la : Launch} {D : va_G} {cA : Nat → ClassId} {B0 pa : Nat} {Γ : TY}
end M89b
