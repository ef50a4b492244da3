/-! what is asked of the reference -/
theorem inN_le {x : Int32} {K : Nat} (hK : K < 2 ^ 20) (h1 : ¬ x < 0) (h2 : x ≤ nI K) : inN (K + 1) x := by
  obtain ⟨j, hj, rfl⟩ := nI_of h1
  exact ⟨j, by have := (nI_leI hj (by omega)).mp h2; omega, rfl⟩
theorem ite_bI (c : Prop) [Decidable c] : (if c then (1 : Int32) else 0) = bI (decide c) := by
  by_cases h : c
  · rw [if_pos h, decide_eq_true h]; decide
  · rw [if_neg h, decide_eq_false h]; decide
section M39
variable {la : Launch} {D : va_G} {cA : Nat → ClassId} {B0 pa : Nat} {o S A : Nat} {sl : List (List Nat)} {an : List (List (List Nat))} {a r kn th : Int32}
set_option maxHeartbeats 4000000 in
theorem c_sharedOf_ (h : AH) {q : Nat} {x : List Nat} (hq : h q = some (IA x)) (hx : TW x ∧ x.length ≤ 16) : CT la D cA B0 pa yX10_sharedOf_ cX10_sharedOf_ 1 (some .int) (rmD 5 1 1) [.ref q] h (fun v h' => (∃ w : Int32, v = some (.int w)) ∧ Ext h h') := by
  refine CT_of (by decide +kernel) (Nat.le_of_ble_eq_true rfl) ?_
  intro p e s m args below meth c X E hr hlk hnm
  have dk : ∀ {pc : Nat} {q : Instr × Nat}, lkd DX10_sharedOf_ pc = some q → decode cX10_sharedOf_ pc = .ok q := lkd_ok DX10_sharedOf__ok
  refine fst1_ok X (dk rfl) rfl ?_
  refine newR_ok (N := 1) (kd := 105) X E (by decide) cl10_9 (by decide) (dk rfl) (by decide) (by decide) (fun T hT hBT => ?_)
  have hqT : q ≠ T := fun z => by rw [z, hT] at hq; cases hq
  repeat refine fst1_ok X (dk rfl) rfl ?_
  refine str_ok (j := 0) X (dk rfl) (hup_self _ _ _) (by rw [hup_ne _ _ hqT]; exact hq) (by simp) (by simp) ?_
  rw [hup_hup]
  have hA : Ans (hup h T (105, (List.replicate 1 Value.null).set 0 (.ref q))) T [x] := by
    refine ⟨[q], rfl, hup_self _ _ _, fun k a r e1 e2 => ?_⟩
    cases k with
    | zero => cases e1; cases e2; rw [hup_ne _ _ hqT]; exact hq
    | succ k => simp at e1
  refine callS_ok (av := [.ref T]) (r := []) X E (c_sharedOf _ hA ⟨by simp, fun r hr => by simp at hr; rw [hr]; exact hx⟩) lkX10_sharedOf mlX10_199 lsX10_sharedOf ⟨Nat.le_of_ble_eq_true rfl, Nat.le_of_ble_eq_true rfl⟩ ⟨Nat.le_of_ble_eq_true rfl, Nat.le_of_ble_eq_true rfl⟩ (Nat.le_of_ble_eq_true rfl) (dk rfl) ?_
  rintro v h2 ⟨⟨w, rfl⟩, rfl⟩
  exact reti_ok X hr hlk rfl (dk rfl) ⟨⟨_, rfl⟩, Ext.new hT _⟩ (Nat.le_of_ble_eq_true rfl) (Nat.le_of_ble_eq_true rfl)
end M39
