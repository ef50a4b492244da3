/-! names of a row, how often a letter stands there, none, moved, used -/
theorem nI_or (a b : Nat) : nI a ||| nI b = nI (a ||| b) := by
  apply Int32.toBitVec_inj.mp
  show BitVec.ofNat 32 a ||| BitVec.ofNat 32 b = BitVec.ofNat 32 (a ||| b)
  apply BitVec.eq_of_getLsbD_eq
  intro i hi
  rw [BitVec.getLsbD_or, BitVec.getLsbD_ofNat, BitVec.getLsbD_ofNat, BitVec.getLsbD_ofNat, Nat.testBit_or]
  simp [hi]
theorem shl1 : ∀ x : Nat, x < 31 → Int32.ofInt 1 <<< (nI x &&& 31) = nI (2 ^ x) := by decide +kernel
def namesN (xs : List Nat) : Nat := xs.foldl (fun m x => if x < 10 then m ||| 2 ^ x else m) 0
theorem foldl_take_succ {α β : Type} (f : β → α → β) (b : β) {xs : List α} {j : Nat} {x : α} (h : xs[j]? = some x) : (xs.take (j + 1)).foldl f b = f ((xs.take j).foldl f b) x := by
  rw [List.take_succ, h, List.foldl_append]
  rfl
def oftenN (xs : List Nat) (y : Nat) : Nat := xs.foldl (fun m x => if x = y then m + 1 else m) 0
section M7
variable {la : Launch} {D : va_G} {cA : Nat → ClassId} {B0 pa : Nat}
set_option maxHeartbeats 8000000 in
theorem c_ones (h : AH) (x : Int32) : CT la D cA B0 pa yX10_ones cX10_ones 1 (some .int) (rmD 1 0 0) [.int x] h (fun v h' => v = some (.int (bcF x)) ∧ h' = h) := by
  refine CT_of (by decide +kernel) (Nat.le_of_ble_eq_true rfl) ?_
  intro p e s m args below meth c X E hr hlk hnm
  have dk : ∀ {pc : Nat} {q : Instr × Nat}, lkd DX10_ones pc = some q → decode cX10_ones pc = .ok q := lkd_ok DX10_ones_ok
  repeat refine fst1_ok X (dk rfl) rfl ?_
  refine callS_ok (av := [.int x]) (r := []) X E (c_bitCount h x) lkJ6_bitCount_0f7a4 mlX10_58 lsJ6_bitCount_0f7a4 ⟨Nat.le_of_ble_eq_true rfl, Nat.le_of_ble_eq_true rfl⟩ ⟨Nat.le_of_ble_eq_true rfl, Nat.le_of_ble_eq_true rfl⟩ (Nat.le_of_ble_eq_true rfl) (dk rfl) ?_
  rintro v h' ⟨rfl, rfl⟩
  exact reti_ok X hr hlk rfl (dk rfl) ⟨rfl, rfl⟩ (Nat.le_refl _) (Nat.le_refl _)
set_option maxHeartbeats 8000000 in
theorem c_namesOf (h : AH) {a : Nat} {xs : List Nat} (ha : h a = some (IA xs)) (hn : xs.length < 2 ^ 9) (hx : ∀ x ∈ xs, x < 2 ^ 10) : CT la D cA B0 pa yX10_namesOf cX10_namesOf 6 (some .int) (rmD 0 0 0) [.ref a] h (fun v h' => v = some (vI (namesN xs)) ∧ h' = h) := by
  refine CT_of (by decide +kernel) (Nat.le_of_ble_eq_true rfl) ?_
  intro p e s m args below meth c X E hr hlk hnm
  have dk : ∀ {pc : Nat} {q : Instr × Nat}, lkd DX10_namesOf pc = some q → decode cX10_namesOf pc = .ok q := lkd_ok DX10_namesOf_ok
  have la' : (xs.map vI).length = xs.length := List.length_map _
  repeat refine fst1_ok X (dk rfl) rfl ?_
  refine alen_ok X (by decide) (dk rfl) ha ?_
  rw [la']
  have loop : ∀ (d j : Nat), d = xs.length - j → j ≤ xs.length → ∀ (l : List (Nat × Value)), lv_pick l [0, 1, 2, 3, 4] = [(4, vI j), (3, vI xs.length), (2, .ref a), (1, vI ((xs.take j).foldl (fun m x => if x < 10 then m ||| 2 ^ x else m) 0)), (0, .ref a)] → WR p la e (rmD 0 0 0) s m args below meth c D cA B0 6 (fun v h' => v = some (vI (namesN xs)) ∧ h' = h) 10 l [] h 0 0 := by
    intro d
    induction d with
    | zero =>
      intro j hd hj l hl
      have hj2 : j = xs.length := by omega
      subst hj2
      refine WS.loc [0, 1, 2, 3, 4] hl ?_
      repeat refine fst1_ok X (dk rfl) rfl ?_
      refine br_ok X (dk rfl) rfl (show ((13 : Nat) : Int) + 33 = ((46 : Nat) : Int) from rfl) (fun c1 => ?_) (fun c1 => absurd (Int32.le_refl _) c1)
      repeat refine fst1_ok X (dk rfl) rfl ?_
      refine reti_ok X hr hlk rfl (dk rfl) ⟨?_, rfl⟩ (Nat.le_refl _) (Nat.le_refl _)
      rw [List.take_length]
      rfl
    | succ d ih =>
      intro j hd hj l hl
      obtain ⟨x, hx1⟩ : ∃ x, xs[j]? = some x := ⟨xs[j]'(by omega), by simp⟩
      have hx2 := hx x (List.mem_of_getElem? hx1)
      refine WS.loc [0, 1, 2, 3, 4] hl ?_
      repeat refine fst1_ok X (dk rfl) rfl ?_
      refine br_ok X (dk rfl) rfl (show ((13 : Nat) : Int) + 33 = ((46 : Nat) : Int) from rfl) (fun c1 => absurd c1 (nI_ge (by omega) (by omega))) (fun c1 => ?_)
      repeat refine fst1_ok X (dk rfl) rfl ?_
      refine ald_ok X (Or.inl ⟨rfl, rfl⟩) (dk rfl) ha (inA_nI (by omega) (IA_get hx1)) ?_
      repeat refine fst1_ok X (dk rfl) rfl ?_
      have f2 : Value.int (nI j + Int32.ofInt 1) = vI (j + 1) := congrArg Value.int (by rw [nI_1', nI_add])
      have hfs := foldl_take_succ (fun m x => if x < 10 then m ||| 2 ^ x else m) 0 hx1
      refine br_ok X (dk rfl) rfl (show ((27 : Nat) : Int) + 10 = ((37 : Nat) : Int) from rfl) (fun c2 => ?_) (fun c2 => ?_)
      · rw [nI_10] at c2
        have h1 : 10 ≤ x := nI_ge' (by omega) (by omega) c2
        rw [if_neg (by omega)] at hfs
        repeat refine fst1_ok X (dk rfl) rfl ?_
        refine br_ok X (dk rfl) rfl (show ((43 : Nat) : Int) + (-33) = ((10 : Nat) : Int) from rfl) (fun _ => ?_) (fun q => absurd trivial q)
        refine WS.loc (l' := [(4, vI (j + 1)), (3, vI xs.length), (2, .ref a), (1, vI ((xs.take (j + 1)).foldl (fun m x => if x < 10 then m ||| 2 ^ x else m) 0)), (0, .ref a)]) [0, 3, 4, 1, 5] (by
          rw [← f2, hfs, show vI ((xs.take j).foldl (fun m x => if x < 10 then m ||| 2 ^ x else m) 0) = Value.int (nI ((xs.take j).foldl (fun m x => if x < 10 then m ||| 2 ^ x else m) 0) ||| Int32.ofInt 0) by rw [nI_0', nI_or, Nat.or_zero]; rfl]
          rfl) ?_
        exact ih (j + 1) (by omega) (by omega) _ rfl
      · rw [nI_10] at c2
        have h1 : x < 10 := nI_lt' (by omega) (by omega) c2
        rw [if_pos h1] at hfs
        repeat refine fst1_ok X (dk rfl) rfl ?_
        refine br_ok X (dk rfl) rfl (show ((34 : Nat) : Int) + 4 = ((38 : Nat) : Int) from rfl) (fun _ => ?_) (fun q => absurd trivial q)
        repeat refine fst1_ok X (dk rfl) rfl ?_
        refine br_ok X (dk rfl) rfl (show ((43 : Nat) : Int) + (-33) = ((10 : Nat) : Int) from rfl) (fun _ => ?_) (fun q => absurd trivial q)
        refine WS.loc (l' := [(4, vI (j + 1)), (3, vI xs.length), (2, .ref a), (1, vI ((xs.take (j + 1)).foldl (fun m x => if x < 10 then m ||| 2 ^ x else m) 0)), (0, .ref a)]) [0, 3, 4, 1, 5] (by
          rw [← f2, hfs, show vI ((xs.take j).foldl (fun m x => if x < 10 then m ||| 2 ^ x else m) 0 ||| 2 ^ x) = Value.int (nI ((xs.take j).foldl (fun m x => if x < 10 then m ||| 2 ^ x else m) 0) ||| Int32.ofInt 1 <<< (nI x &&& 31)) by rw [shl1 x (by omega), nI_or]; rfl]
          rfl) ?_
        exact ih (j + 1) (by omega) (by omega) _ rfl
  iterate 3 refine fst1_ok X (dk rfl) rfl ?_
  exact loop _ 0 rfl (Nat.zero_le _) _ rfl
end M7
