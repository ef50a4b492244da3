/-! the class, weakly: steps (printed by wip/p40/cl4.py) -/
section M92
variable {la : Launch} {D : va_G} {cA : Nat → ClassId} {B0 pa : Nat} {Γ : TY}
set_option maxHeartbeats 4000000 in
theorem cJ7_fill (h : AH) (I : Tyg Γ h) {o0 L0 : Nat} (T0 : Γ o0 = some (rowφ L0)) (x1 : Int32) (hL : L0 < 2 ^ 20) : CT la D cA B0 pa yJ7_fill_53178 cJ7_fill_53178 4 none (rmD 0 0 0) [.ref o0, .int (x1)] h (WrO Γ voidP h) := by
  refine CT_of (by decide +kernel) (Nat.le_of_ble_eq_true rfl) ?_
  intro p e s m args below meth c X E hr hlk hnm
  have dk : ∀ {pc : Nat} {q : Instr × Nat}, lkd DJ7_fill_53178 pc = some q → decode cJ7_fill_53178 pc = .ok q := lkd_ok DJ7_fill_53178_ok
  have hL0 : L0 < 2 ^ 20 := hL
  have L5 : ∀ j1 : Nat, j1 ≤ L0 → ∀ (h5 : AH) (J6 : TI Γ h h5) (l : List (Nat × Value)), lsel l [3, 2, 1, 0] = [(3, vI L0), (2, vI j1), (1, .int (x1)), (0, .ref o0)] → WR p la e (rmD 0 0 0) s m args below meth c D cA B0 4 (WrO Γ voidP h) 5 l [] h5 0 0 := by
    refine loopN (fun j1 hj1 ih5 => ?_)
    intro h5 J6 l hl
    refine WS.sel [3, 2, 1, 0] hl ?_
    iterate 2 refine fst1_ok X (dk rfl) rfl ?_
    refine br_ok X (dk rfl) rfl (show ((7 : Nat) : Int) + 13 = ((20 : Nat) : Int) from rfl) (fun c7 => ?_) (fun c8 => ?_)
    · exact retv_ok X hr hlk (dk rfl) ⟨rfl, J6⟩ (Nat.le_of_ble_eq_true rfl) (Nat.le_of_ble_eq_true rfl)
    · iterate 3 refine fst1_ok X (dk rfl) rfl ?_
      obtain ⟨xs9, hx10, hn11⟩ := rw_open J6.1 T0
      refine astT_ok X (dk rfl) hx10 (nI_pos (by omega)) (by rw [hn11]; exact ix_ok (by omega) (nI_pos (by omega)) c8) J6 T0 (rowφ_set hn11 _ _) (fun h12 J13 ho14 => ?_)
      refine fst1_ok X (dk rfl) rfl ?_
      refine br_ok X (dk rfl) rfl (show ((17 : Nat) : Int) + (-12) = ((5 : Nat) : Int) from rfl) (fun _ => ?_) (fun q => absurd trivial q)
      exact ih5 (nat_lt (K := L0) (by omega) c8) h12 J13 _ (by rw [← vI_succ j1]; rfl)
  iterate 3 refine fst1_ok X (dk rfl) rfl ?_
  obtain ⟨xs15, hx16, hn17⟩ := rw_open (TI.rf I).1 T0
  refine alen7_ok X (dk rfl) hx16 hn17 ?_
  refine fst1_ok X (dk rfl) rfl ?_
  exact L5 0 (by omega) h (TI.rf I) _ rfl
end M92
