/-! guards and counters of the reference -/
section M37
variable {la : Launch} {D : va_G} {cA : Nat → ClassId} {B0 pa : Nat}
theorem c_isSlot (h : AH) (x : Int32) : CT la D cA B0 pa yX10_isSlot cX10_isSlot 1 (some .boolean) (rmD 0 0 0) [.int x] h (fun v h' => (∃ b : Bool, v = some (.int (bI b)) ∧ (b = true → inN 6 x)) ∧ h' = h) := by
  refine CT_of (by decide +kernel) (Nat.le_of_ble_eq_true rfl) ?_
  intro p e s m args below meth c X E hr hlk hnm
  have dk : ∀ {pc : Nat} {q : Instr × Nat}, lkd DX10_isSlot pc = some q → decode cX10_isSlot pc = .ok q := lkd_ok DX10_isSlot_ok
  have no' : ∀ (l : List (Nat × Value)), WR p la e (rmD 0 0 0) s m args below meth c D cA B0 1 (fun v h' => (∃ b : Bool, v = some (.int (bI b)) ∧ (b = true → inN 6 x)) ∧ h' = h) 14 l [] h 0 0 := by
    intro l
    refine fst1_ok (l' := l) (st' := [.int (bI false)]) X (dk rfl) rfl ?_
    exact reti_ok X hr hlk (bI_n _) (dk rfl) ⟨⟨false, rfl, fun z => by cases z⟩, rfl⟩ (Nat.le_refl _) (Nat.le_refl _)
  repeat refine fst1_ok X (dk rfl) rfl ?_
  refine br_ok X (dk rfl) rfl (show ((1 : Nat) : Int) + 13 = ((14 : Nat) : Int) from rfl) (fun _ => no' _) (fun c1 => ?_)
  repeat refine fst1_ok X (dk rfl) rfl ?_
  refine br_ok X (dk rfl) rfl (show ((7 : Nat) : Int) + 7 = ((14 : Nat) : Int) from rfl) (fun _ => no' _) (fun c2 => ?_)
  repeat refine fst1_ok X (dk rfl) rfl ?_
  refine br_ok X (dk rfl) rfl (show ((11 : Nat) : Int) + 4 = ((15 : Nat) : Int) from rfl) (fun _ => ?_) (fun q => absurd trivial q)
  exact reti_ok X hr hlk (bI_n true) (dk rfl) ⟨⟨true, rfl, fun _ => inN_of (by omega) c1 (by rw [show nI 6 = (Int8.ofInt 6).toInt32 by decide +kernel]; exact c2)⟩, rfl⟩ (Nat.le_refl _) (Nat.le_refl _)
theorem c_isName (h : AH) (x : Int32) : CT la D cA B0 pa yX10_isName cX10_isName 1 (some .boolean) (rmD 0 0 0) [.int x] h (fun v h' => (∃ b : Bool, v = some (.int (bI b)) ∧ (b = true → inN 8 x)) ∧ h' = h) := by
  refine CT_of (by decide +kernel) (Nat.le_of_ble_eq_true rfl) ?_
  intro p e s m args below meth c X E hr hlk hnm
  have dk : ∀ {pc : Nat} {q : Instr × Nat}, lkd DX10_isName pc = some q → decode cX10_isName pc = .ok q := lkd_ok DX10_isName_ok
  have no' : ∀ (l : List (Nat × Value)), WR p la e (rmD 0 0 0) s m args below meth c D cA B0 1 (fun v h' => (∃ b : Bool, v = some (.int (bI b)) ∧ (b = true → inN 8 x)) ∧ h' = h) 14 l [] h 0 0 := by
    intro l
    refine fst1_ok (l' := l) (st' := [.int (bI false)]) X (dk rfl) rfl ?_
    exact reti_ok X hr hlk (bI_n _) (dk rfl) ⟨⟨false, rfl, fun z => by cases z⟩, rfl⟩ (Nat.le_refl _) (Nat.le_refl _)
  repeat refine fst1_ok X (dk rfl) rfl ?_
  refine br_ok X (dk rfl) rfl (show ((1 : Nat) : Int) + 13 = ((14 : Nat) : Int) from rfl) (fun _ => no' _) (fun c1 => ?_)
  repeat refine fst1_ok X (dk rfl) rfl ?_
  refine br_ok X (dk rfl) rfl (show ((7 : Nat) : Int) + 7 = ((14 : Nat) : Int) from rfl) (fun _ => no' _) (fun c2 => ?_)
  repeat refine fst1_ok X (dk rfl) rfl ?_
  refine br_ok X (dk rfl) rfl (show ((11 : Nat) : Int) + 4 = ((15 : Nat) : Int) from rfl) (fun _ => ?_) (fun q => absurd trivial q)
  exact reti_ok X hr hlk (bI_n true) (dk rfl) ⟨⟨true, rfl, fun _ => inN_of (by omega) c1 (by rw [show nI 8 = (Int8.ofInt 8).toInt32 by decide +kernel]; exact c2)⟩, rfl⟩ (Nat.le_refl _) (Nat.le_refl _)
theorem c_isAnswer (h : AH) (x : Int32) : CT la D cA B0 pa yX10_isAnswer cX10_isAnswer 1 (some .boolean) (rmD 0 0 0) [.int x] h (fun v h' => (∃ b : Bool, v = some (.int (bI b)) ∧ (b = true → inN 3 x)) ∧ h' = h) := by
  refine CT_of (by decide +kernel) (Nat.le_of_ble_eq_true rfl) ?_
  intro p e s m args below meth c X E hr hlk hnm
  have dk : ∀ {pc : Nat} {q : Instr × Nat}, lkd DX10_isAnswer pc = some q → decode cX10_isAnswer pc = .ok q := lkd_ok DX10_isAnswer_ok
  have no' : ∀ (l : List (Nat × Value)), WR p la e (rmD 0 0 0) s m args below meth c D cA B0 1 (fun v h' => (∃ b : Bool, v = some (.int (bI b)) ∧ (b = true → inN 3 x)) ∧ h' = h) 13 l [] h 0 0 := by
    intro l
    refine fst1_ok (l' := l) (st' := [.int (bI false)]) X (dk rfl) rfl ?_
    exact reti_ok X hr hlk (bI_n _) (dk rfl) ⟨⟨false, rfl, fun z => by cases z⟩, rfl⟩ (Nat.le_refl _) (Nat.le_refl _)
  repeat refine fst1_ok X (dk rfl) rfl ?_
  refine br_ok X (dk rfl) rfl (show ((1 : Nat) : Int) + 12 = ((13 : Nat) : Int) from rfl) (fun _ => no' _) (fun c1 => ?_)
  repeat refine fst1_ok X (dk rfl) rfl ?_
  refine br_ok X (dk rfl) rfl (show ((6 : Nat) : Int) + 7 = ((13 : Nat) : Int) from rfl) (fun _ => no' _) (fun c2 => ?_)
  repeat refine fst1_ok X (dk rfl) rfl ?_
  refine br_ok X (dk rfl) rfl (show ((10 : Nat) : Int) + 4 = ((14 : Nat) : Int) from rfl) (fun _ => ?_) (fun q => absurd trivial q)
  exact reti_ok X hr hlk (bI_n true) (dk rfl) ⟨⟨true, rfl, fun _ => inN_of (by omega) c1 (by rw [show nI 3 = Int32.ofInt 3 by decide +kernel]; exact c2)⟩, rfl⟩ (Nat.le_refl _) (Nat.le_refl _)
variable {o S A : Nat} {sl : List (List Nat)} {an : List (List (List Nat))} {a r kn th : Int32}
/-- the reference changes its counters at most -/
def MC (o S A : Nat) (sl : List (List Nat)) (an : List (List (List Nat))) (kn : Int32) (h h' : AH) : Prop := (∃ a r th, MD h' o S A sl an a r kn th) ∧ Fr o S A h h'
theorem c_isThrown (h : AH) (M : MD h o S A sl an a r kn th) (b1 b2 : Bool) : CT la D cA B0 pa yX10_isThrown cX10_isThrown 3 (some .boolean) (rmD 0 0 0) [.ref o, .int (bI b1), .int (bI b2)] h (fun v h' => v = some (.int (bI (b1 || b2))) ∧ MC o S A sl an kn h h') := by
  refine CT_of (by decide +kernel) (Nat.le_of_ble_eq_true rfl) ?_
  intro p e s m args below meth c X E hr hlk hnm
  have dk : ∀ {pc : Nat} {q : Instr × Nat}, lkd DX10_isThrown pc = some q → decode cX10_isThrown pc = .ok q := lkd_ok DX10_isThrown_ok
  have fin' : ∀ (t : Int32) (l : List (Nat × Value)), lsel l [0] = [(0, .ref o)] → (t = 0 ∧ (b1 || b2) = false ∨ ¬ t ≤ 0 ∧ (b1 || b2) = true) → WR p la e (rmD 0 0 0) s m args below meth c D cA B0 3 (fun v h' => v = some (.int (bI (b1 || b2))) ∧ MC o S A sl an kn h h') 18 l [.int t, .ref o] h 0 0 := by
    intro t l hl ht
    refine WS.sel [0] hl ?_
    refine putf_ok X flX10_28 ftX10_5 (Or.inl rfl) rfl rfl (dk rfl) M.obj (Nat.le_of_ble_eq_true rfl) ?_
    repeat refine fst1_ok X (dk rfl) rfl ?_
    refine getf_ok X flX10_28 (dk rfl) (hup_self _ _ _) rfl ?_
    have hM : MC o S A sl an kn h (hup h o (12, [.ref S, .ref A, .int a, .int r, .int kn, .int t])) := ⟨⟨_, _, _, M.fld a r kn t⟩, (Fr.rf h).set (Or.inl rfl) _⟩
    rcases ht with ⟨rfl, hb⟩ | ⟨h1, hb⟩
    · rw [hb]
      refine br_ok X (dk rfl) rfl (show ((25 : Nat) : Int) + 7 = ((32 : Nat) : Int) from rfl) (fun _ => ?_) (fun q => absurd (by decide) q)
      repeat refine fst1_ok X (dk rfl) rfl ?_
      exact reti_ok X hr hlk (bI_n false) (dk rfl) ⟨rfl, hM⟩ (Nat.le_refl _) (Nat.le_refl _)
    · rw [hb]
      refine br_ok X (dk rfl) rfl (show ((25 : Nat) : Int) + 7 = ((32 : Nat) : Int) from rfl) (fun q => absurd q h1) (fun _ => ?_)
      repeat refine fst1_ok X (dk rfl) rfl ?_
      refine br_ok X (dk rfl) rfl (show ((29 : Nat) : Int) + 4 = ((33 : Nat) : Int) from rfl) (fun _ => ?_) (fun q => absurd trivial q)
      exact reti_ok X hr hlk (bI_n true) (dk rfl) ⟨rfl, hM⟩ (Nat.le_refl _) (Nat.le_refl _)
  repeat refine fst1_ok X (dk rfl) rfl ?_
  cases b1 with
  | true =>
    refine br_ok X (dk rfl) rfl (show ((2 : Nat) : Int) + 7 = ((9 : Nat) : Int) from rfl) (fun q => absurd q bI_t) (fun _ => ?_)
    repeat refine fst1_ok X (dk rfl) rfl ?_
    refine br_ok X (dk rfl) rfl (show ((6 : Nat) : Int) + 12 = ((18 : Nat) : Int) from rfl) (fun _ => ?_) (fun q => absurd trivial q)
    exact fin' _ _ rfl (Or.inr ⟨by decide, rfl⟩)
  | false =>
    refine br_ok X (dk rfl) rfl (show ((2 : Nat) : Int) + 7 = ((9 : Nat) : Int) from rfl) (fun _ => ?_) (fun q => absurd bI_f' q)
    repeat refine fst1_ok X (dk rfl) rfl ?_
    cases b2 with
    | true =>
      refine br_ok X (dk rfl) rfl (show ((10 : Nat) : Int) + 7 = ((17 : Nat) : Int) from rfl) (fun q => absurd q bI_t) (fun _ => ?_)
      repeat refine fst1_ok X (dk rfl) rfl ?_
      refine br_ok X (dk rfl) rfl (show ((14 : Nat) : Int) + 4 = ((18 : Nat) : Int) from rfl) (fun _ => ?_) (fun q => absurd trivial q)
      exact fin' _ _ rfl (Or.inr ⟨by decide, rfl⟩)
    | false =>
      refine br_ok X (dk rfl) rfl (show ((10 : Nat) : Int) + 7 = ((17 : Nat) : Int) from rfl) (fun _ => ?_) (fun q => absurd bI_f' q)
      refine fst1_ok X (dk rfl) rfl ?_
      exact fin' _ _ rfl (Or.inl ⟨by decide, rfl⟩)
theorem c_isThrown_ (h : AH) (M : MD h o S A sl an a r kn th) (b1 : Bool) : CT la D cA B0 pa yX10_isThrown_ cX10_isThrown_ 2 (some .boolean) (rmD 1 0 0) [.ref o, .int (bI b1)] h (fun v h' => v = some (.int (bI b1)) ∧ MC o S A sl an kn h h') := by
  refine CT_of (by decide +kernel) (Nat.le_of_ble_eq_true rfl) ?_
  intro p e s m args below meth c X E hr hlk hnm
  have dk : ∀ {pc : Nat} {q : Instr × Nat}, lkd DX10_isThrown_ pc = some q → decode cX10_isThrown_ pc = .ok q := lkd_ok DX10_isThrown__ok
  repeat refine fst1_ok X (dk rfl) rfl ?_
  refine callV_ok (ci := 12) (T := TX10) (N := 6) (av := [.int (bI b1), .int (bI false)]) (r := []) X E (c_isThrown h M b1 false) lkX10_isThrown mlX10_78 lmX10_isThrown lpX10_isThrown ⟨Nat.le_of_ble_eq_true rfl, Nat.le_of_ble_eq_true rfl⟩ ⟨Nat.le_of_ble_eq_true rfl, Nat.le_of_ble_eq_true rfl⟩ rfl M.obj (Nat.le_of_ble_eq_true rfl) (dk rfl) ?_
  rintro v h' ⟨rfl, hM⟩
  rw [Bool.or_false]
  exact reti_ok X hr hlk (bI_n b1) (dk rfl) ⟨rfl, hM⟩ (Nat.le_refl _) (Nat.le_refl _)
theorem c_done (h : AH) (M : MD h o S A sl an a r kn th) (x : Int32) : CT la D cA B0 pa yX10_done cX10_done 2 (some .int) (rmD 0 0 0) [.ref o, .int x] h (fun v h' => v = some (.int x) ∧ MC o S A sl an kn h h') := by
  refine CT_of (by decide +kernel) (Nat.le_of_ble_eq_true rfl) ?_
  intro p e s m args below meth c X E hr hlk hnm
  have dk : ∀ {pc : Nat} {q : Instr × Nat}, lkd DX10_done pc = some q → decode cX10_done pc = .ok q := lkd_ok DX10_done_ok
  repeat refine fst1_ok X (dk rfl) rfl ?_
  refine getf_ok X flX10_82 (dk rfl) M.obj rfl ?_
  repeat refine fst1_ok X (dk rfl) rfl ?_
  refine putf_ok X flX10_82 ftX10_2 (Or.inl rfl) rfl rfl (dk rfl) M.obj (Nat.le_of_ble_eq_true rfl) ?_
  repeat refine fst1_ok X (dk rfl) rfl ?_
  exact reti_ok X hr hlk rfl (dk rfl) ⟨rfl, ⟨_, _, _, M.fld _ r kn th⟩, (Fr.rf h).set (Or.inl rfl) _⟩ (Nat.le_refl _) (Nat.le_refl _)
theorem c_no (h : AH) (M : MD h o S A sl an a r kn th) : CT la D cA B0 pa yX10_no cX10_no 1 (some .int) (rmD 0 0 0) [.ref o] h (fun v h' => v = some (.int (Int8.ofInt (-9)).toInt32) ∧ MC o S A sl an kn h h') := by
  refine CT_of (by decide +kernel) (Nat.le_of_ble_eq_true rfl) ?_
  intro p e s m args below meth c X E hr hlk hnm
  have dk : ∀ {pc : Nat} {q : Instr × Nat}, lkd DX10_no pc = some q → decode cX10_no pc = .ok q := lkd_ok DX10_no_ok
  repeat refine fst1_ok X (dk rfl) rfl ?_
  refine getf_ok X flX10_85 (dk rfl) M.obj rfl ?_
  repeat refine fst1_ok X (dk rfl) rfl ?_
  refine putf_ok X flX10_85 ftX10_3 (Or.inl rfl) rfl rfl (dk rfl) M.obj (Nat.le_of_ble_eq_true rfl) ?_
  repeat refine fst1_ok X (dk rfl) rfl ?_
  exact reti_ok X hr hlk rfl (dk rfl) ⟨rfl, ⟨_, _, _, M.fld a _ kn th⟩, (Fr.rf h).set (Or.inl rfl) _⟩ (Nat.le_refl _) (Nat.le_refl _)
end M37
