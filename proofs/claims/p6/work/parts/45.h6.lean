/-! is, makes, isSo, told, knock, isSound, added, house -/
theorem cs10_224 : Cond.constantLong RX10 224 31 ∈ WT := WT_of (tbw_8 (List.mem_of_getElem? (i := 44) rfl)) rfl
section M39
variable {la : Launch} {D : va_G} {cA : Nat → ClassId} {B0 pa : Nat} {o S A : Nat} {sl : List (List Nat)} {an : List (List (List Nat))} {a r kn th : Int32}
theorem c_add (h : AH) (d v : Int64) : CT la D cA B0 pa yX10_add cX10_add 4 (some .long) (rmD 0 0 0) [.long d, .long v] h (fun w h' => w = some (.long (d * 31 + v)) ∧ h' = h) := by
  refine CT_of (by decide +kernel) (Nat.le_of_ble_eq_true rfl) ?_
  intro p e s m args below meth c X E hr hlk hnm
  have dk : ∀ {pc : Nat} {q : Instr × Nat}, lkd DX10_add pc = some q → decode cX10_add pc = .ok q := lkd_ok DX10_add_ok
  repeat refine fst1_ok X (dk rfl) rfl ?_
  refine ldc2_ok X cs10_224 (dk rfl) ?_
  repeat refine fst1_ok X (dk rfl) rfl ?_
  exact retl_ok X hr hlk (dk rfl) ⟨rfl, rfl⟩ (Nat.le_refl _) (Nat.le_refl _)
set_option maxHeartbeats 4000000 in
theorem c_added (h : AH) (d0 : Int64) {q : Nat} {x : List Nat} (hq : h q = some (IA x)) (hn : x.length < 2 ^ 9) : CT la D cA B0 pa yX10_added cX10_added 9 (some .long) (rmD 1 0 0) [.long d0, .ref q] h (fun w h' => (∃ z : Int64, w = some (.long z)) ∧ h' = h) := by
  refine CT_of (by decide +kernel) (Nat.le_of_ble_eq_true rfl) ?_
  intro p e s m args below meth c X E hr hlk hnm
  have dk : ∀ {pc : Nat} {q : Instr × Nat}, lkd DX10_added pc = some q → decode cX10_added pc = .ok q := lkd_ok DX10_added_ok
  have lx : (x.map vI).length = x.length := List.length_map _
  have loop : ∀ (d i : Nat), d = x.length - i → i ≤ x.length → ∀ (z : Int64) (l : List (Nat × Value)), lsel l [7, 6, 5, 3] = [(7, vI i), (6, vI x.length), (5, .ref q), (3, .long z)] → WR p la e (rmD 1 0 0) s m args below meth c D cA B0 9 (fun w h' => (∃ z : Int64, w = some (.long z)) ∧ h' = h) 13 l [] h 0 0 := by
    intro d
    induction d with
    | zero =>
      intro i hd hi z l hl
      have hi2 : i = x.length := by omega
      subst hi2
      refine WS.sel [7, 6, 5, 3] hl ?_
      repeat refine fst1_ok X (dk rfl) rfl ?_
      refine br_ok X (dk rfl) rfl (show ((17 : Nat) : Int) + 24 = ((41 : Nat) : Int) from rfl) (fun _ => ?_) (fun c1 => absurd (Int32.le_refl _) c1)
      repeat refine fst1_ok X (dk rfl) rfl ?_
      exact retl_ok X hr hlk (dk rfl) ⟨⟨_, rfl⟩, rfl⟩ (Nat.le_refl _) (Nat.le_refl _)
    | succ d ih =>
      intro i hd hi z l hl
      obtain ⟨y, hy⟩ : ∃ y, x[i]? = some y := ⟨x[i]'(by omega), by simp⟩
      have f2 : Value.int (nI i + Int32.ofInt 1) = vI (i + 1) := congrArg Value.int (by rw [nI_1', nI_add])
      refine WS.sel [7, 6, 5, 3] hl ?_
      repeat refine fst1_ok X (dk rfl) rfl ?_
      refine br_ok X (dk rfl) rfl (show ((17 : Nat) : Int) + 24 = ((41 : Nat) : Int) from rfl) (fun c1 => absurd c1 (nI_ge (by omega) (by omega))) (fun _ => ?_)
      repeat refine fst1_ok X (dk rfl) rfl ?_
      refine ald_ok X (Or.inl ⟨rfl, rfl⟩) (dk rfl) hq (inA_nI (by omega) (IA_get hy)) ?_
      repeat refine fst1_ok X (dk rfl) rfl ?_
      refine callS_ok (av := [.long z, .long (nI y).toInt64]) (r := []) X E (c_add h z (nI y).toInt64) lkX10_add mlX10_226 lsX10_add ⟨Nat.le_of_ble_eq_true rfl, Nat.le_of_ble_eq_true rfl⟩ ⟨Nat.le_of_ble_eq_true rfl, Nat.le_of_ble_eq_true rfl⟩ (Nat.le_of_ble_eq_true rfl) (dk rfl) ?_
      rintro v h' ⟨rfl, rfl⟩
      generalize z * 31 + (nI y).toInt64 = w
      repeat refine fst1_ok X (dk rfl) rfl ?_
      refine br_ok X (dk rfl) rfl (show ((38 : Nat) : Int) + (-25) = ((13 : Nat) : Int) from rfl) (fun _ => ?_) (fun q => absurd trivial q)
      refine WS.sel (l' := [(7, vI (i + 1)), (6, vI x.length), (5, .ref q), (3, .long w)]) [7, 6, 5, 3] (by rw [← f2]; rfl) ?_
      exact ih (i + 1) (by omega) (by omega) _ _ rfl
  iterate 5 refine fst1_ok X (dk rfl) rfl ?_
  refine alen_ok X (by decide) (dk rfl) hq ?_
  rw [lx]
  iterate 3 refine fst1_ok X (dk rfl) rfl ?_
  exact loop _ 0 rfl (Nat.zero_le _) _ _ rfl
end M39
