/-! the reference's isSound, exactly (printed by wip/q/genR7.py) -/
section R33
variable {la : Launch} {D : va_G} {cA : Nat → ClassId} {B0 pa : Nat} {o S A : Nat} {sl : List (List Nat)} {an : List (List (List Nat))} {da dr kn th : Int32}
theorem RF.x_isSound (h : AH) (M : MD h o S A sl an da dr kn th) : CT la D cA B0 pa yX10_isSound cX10_isSound 1 (some .boolean) (rmD 0 0 0) [.ref o] h (fun v h' => v = some (.int (bI true)) ∧ RF.MI o S A sl an da dr kn h h') := by
  refine CT_of (by decide +kernel) (Nat.le_of_ble_eq_true rfl) ?_
  intro p e s m args below meth c X E hr hlk hnm
  have dk : ∀ {pc : Nat} {q : Instr × Nat}, lkd DX10_isSound pc = some q → decode cX10_isSound pc = .ok q := lkd_ok DX10_isSound_ok
  repeat refine fst1_ok X (dk rfl) rfl ?_
  refine putf_ok X flX10_28 ftX10_5 (Or.inl rfl) rfl rfl (dk rfl) M.obj (Nat.le_of_ble_eq_true rfl) ?_
  repeat refine fst1_ok X (dk rfl) rfl ?_
  exact reti_ok X hr hlk (bI_n true) (dk rfl) ⟨rfl, ⟨_, M.fld da dr kn (Int32.ofInt 0)⟩, (Fr.rf h).set (Or.inl rfl) _⟩ (Nat.le_refl _) (Nat.le_refl _)
end R33
