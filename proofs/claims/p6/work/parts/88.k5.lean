/-! the class, weakly: names, heads, terms (printed by wip/p40/cl5.py) -/
section M88
variable {la : Launch} {D : va_G} {cA : Nat → ClassId} {B0 pa : Nat} {Γ : TY}
set_option maxHeartbeats 4000000 in
theorem c6_isName (h : AH) (I : Tyg Γ h) (x0 : Int32) : CT la D cA B0 pa yX6_isName cX6_isName 1 (some .boolean) (rmD 0 0 0) [.int (x0)] h (RdO (fun v => ∃ b : Bool, v = some (.int (bI b)) ∧ (b = true → inN 8 x0) ∧ (b = false → ¬ inN 8 x0)) h) := by
  refine CT_of (by decide +kernel) (Nat.le_of_ble_eq_true rfl) ?_
  intro p e s m args below meth c X E hr hlk hnm
  have dk : ∀ {pc : Nat} {q : Instr × Nat}, lkd DX6_isName pc = some q → decode cX6_isName pc = .ok q := lkd_ok DX6_isName_ok
  refine fst1_ok X (dk rfl) rfl ?_
  refine br_ok X (dk rfl) rfl (show ((1 : Nat) : Int) + 13 = ((14 : Nat) : Int) from rfl) (fun c1 => ?_) (fun c2 => ?_)
  · refine fst1_ok X (dk rfl) rfl ?_
    exact reti_ok X hr hlk (bI_n false) (dk rfl) ⟨⟨false, rfl, (fun z => by cases z), (fun _ z => inN_pos z (by decide) c1)⟩, rfl⟩ (Nat.le_of_ble_eq_true rfl) (Nat.le_of_ble_eq_true rfl)
  · iterate 2 refine fst1_ok X (dk rfl) rfl ?_
    refine br_ok X (dk rfl) rfl (show ((7 : Nat) : Int) + 7 = ((14 : Nat) : Int) from rfl) (fun c3 => ?_) (fun c4 => ?_)
    · refine fst1_ok X (dk rfl) rfl ?_
      exact reti_ok X hr hlk (bI_n false) (dk rfl) ⟨⟨false, rfl, (fun z => by cases z), (fun _ z => absurd (inN_lt z (by decide)) (Int32.not_lt.mpr (by rw [show nI 8 = (Int8.ofInt 8).toInt32 by decide +kernel]; exact c3)))⟩, rfl⟩ (Nat.le_of_ble_eq_true rfl) (Nat.le_of_ble_eq_true rfl)
    · refine fst1_ok X (dk rfl) rfl ?_
      refine br_ok X (dk rfl) rfl (show ((11 : Nat) : Int) + 4 = ((15 : Nat) : Int) from rfl) (fun _ => ?_) (fun q => absurd trivial q)
      exact reti_ok X hr hlk (bI_n true) (dk rfl) ⟨⟨true, rfl, fun _ => inN_of (N := 8) (by decide) c2 (by rw [show nI 8 = (Int8.ofInt 8).toInt32 by decide +kernel]; exact c4), (fun z => by cases z)⟩, rfl⟩ (Nat.le_of_ble_eq_true rfl) (Nat.le_of_ble_eq_true rfl)
set_option maxHeartbeats 4000000 in
theorem c6_isHead (h : AH) (I : Tyg Γ h) (x0 : Int32) : CT la D cA B0 pa yX6_isHead cX6_isHead 1 (some .boolean) (rmD 0 0 0) [.int (x0)] h (RdO bP h) := by
  refine CT_of (by decide +kernel) (Nat.le_of_ble_eq_true rfl) ?_
  intro p e s m args below meth c X E hr hlk hnm
  have dk : ∀ {pc : Nat} {q : Instr × Nat}, lkd DX6_isHead pc = some q → decode cX6_isHead pc = .ok q := lkd_ok DX6_isHead_ok
  iterate 2 refine fst1_ok X (dk rfl) rfl ?_
  refine br_ok X (dk rfl) rfl (show ((3 : Nat) : Int) + 13 = ((16 : Nat) : Int) from rfl) (fun c1 => ?_) (fun c2 => ?_)
  · refine fst1_ok X (dk rfl) rfl ?_
    exact reti_ok X hr hlk (bI_n false) (dk rfl) ⟨⟨false, rfl⟩, rfl⟩ (Nat.le_of_ble_eq_true rfl) (Nat.le_of_ble_eq_true rfl)
  · iterate 2 refine fst1_ok X (dk rfl) rfl ?_
    refine br_ok X (dk rfl) rfl (show ((9 : Nat) : Int) + 7 = ((16 : Nat) : Int) from rfl) (fun c3 => ?_) (fun c4 => ?_)
    · refine fst1_ok X (dk rfl) rfl ?_
      exact reti_ok X hr hlk (bI_n false) (dk rfl) ⟨⟨false, rfl⟩, rfl⟩ (Nat.le_of_ble_eq_true rfl) (Nat.le_of_ble_eq_true rfl)
    · refine fst1_ok X (dk rfl) rfl ?_
      refine br_ok X (dk rfl) rfl (show ((13 : Nat) : Int) + 4 = ((17 : Nat) : Int) from rfl) (fun _ => ?_) (fun q => absurd trivial q)
      exact reti_ok X hr hlk (bI_n true) (dk rfl) ⟨⟨true, rfl⟩, rfl⟩ (Nat.le_of_ble_eq_true rfl) (Nat.le_of_ble_eq_true rfl)
end M88
