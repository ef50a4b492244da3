/-! isMet, sharedOf -/
/-- rows of terms, any number of them -/
def RO (rows : List (List Nat)) : Prop := rows.length < 2 ^ 8 ∧ ∀ r ∈ rows, TW r ∧ r.length ≤ 16
section M13
variable {la : Launch} {D : va_G} {cA : Nat → ClassId} {B0 pa : Nat}
set_option maxHeartbeats 8000000 in
theorem c_isMet (h : AH) {A t pl : Nat} {rows : List (List Nat)} {rt : List Nat} (hA : Ans h A rows) (ho : RO rows) (ht : rows[t]? = some rt) (hp : pl < rt.length) : CT la D cA B0 pa yX10_isMet cX10_isMet 5 (some .boolean) (rmD 3 0 0) [.ref A, vI t, vI pl] h (booP h) := by
  refine CT_of (by decide +kernel) (Nat.le_of_ble_eq_true rfl) ?_
  intro p e s m args below meth c X E hr hlk hnm
  have dk : ∀ {pc : Nat} {q : Instr × Nat}, lkd DX10_isMet pc = some q → decode cX10_isMet pc = .ok q := lkd_ok DX10_isMet_ok
  obtain ⟨as, has, hAs, hra⟩ := hA.row
  have htl : t < rows.length := (List.getElem?_eq_some_iff.mp ht).1
  have hn := ho.1
  obtain ⟨at', rt', ht1, ht2, ht3⟩ := hra t htl
  cases ht.symm.trans ht2
  have hrt := ho.2 rt (List.mem_of_getElem? ht)
  obtain ⟨k2, hk2, -, -, -⟩ := hrt.1.at hp
  have outer : ∀ (d j : Nat), d = t + 1 - j → j ≤ t + 1 → ∀ (l : List (Nat × Value)), lsel l [3, 0, 1, 2] = [(3, vI j), (0, .ref A), (1, vI t), (2, vI pl)] → WR p la e (rmD 3 0 0) s m args below meth c D cA B0 5 (booP h) 2 l [] h 0 0 := by
    intro d
    induction d with
    | zero =>
      intro j hd hj l hl
      refine WS.sel [3, 0, 1, 2] hl ?_
      repeat refine fst1_ok X (dk rfl) rfl ?_
      refine br_ok X (dk rfl) rfl (show ((4 : Nat) : Int) + 53 = ((57 : Nat) : Int) from rfl) (fun c1 => ?_) (fun c1 => absurd (nI_lt (by omega) (by omega)) c1)
      repeat refine fst1_ok X (dk rfl) rfl ?_
      exact reti_ok X hr hlk rfl (dk rfl) ⟨Or.inl rfl, rfl⟩ (Nat.le_refl _) (Nat.le_refl _)
    | succ d ih =>
      intro j hd hj l hl
      obtain ⟨a, x, ha1, ha2, ha3⟩ := hra j (by omega)
      have hx := ho.2 x (List.mem_of_getElem? ha2)
      have f3 : Value.int (nI j + Int32.ofInt 1) = vI (j + 1) := congrArg Value.int (by rw [nI_1', nI_add])
      -- the bound of the inner loop
      have inner : ∀ (N : Nat), N ≤ x.length → (j = t → N = pl) → (j ≠ t → N = x.length) → ∀ (d2 i : Nat), d2 = N - i → i ≤ N → ∀ (l : List (Nat × Value)), lsel l [4, 3, 0, 1, 2] = [(4, vI i), (3, vI j), (0, .ref A), (1, vI t), (2, vI pl)] → WR p la e (rmD 3 0 0) s m args below meth c D cA B0 5 (booP h) 10 l [] h 0 0 := by
        intro N hN hN1 hN2 d2
        induction d2 with
        | zero =>
          intro i hd2 hi l hl
          have hi2 : i = N := by omega
          subst hi2
          have fin' : ∀ (l : List (Nat × Value)), lsel l [3, 0, 1, 2] = [(3, vI j), (0, .ref A), (1, vI t), (2, vI pl)] → WR p la e (rmD 3 0 0) s m args below meth c D cA B0 5 (booP h) 25 l [vI i, vI i] h 0 0 := by
            intro l hl
            refine WS.sel [3, 0, 1, 2] hl ?_
            refine br_ok X (dk rfl) rfl (show ((25 : Nat) : Int) + 26 = ((51 : Nat) : Int) from rfl) (fun c1 => ?_) (fun c1 => absurd (Int32.le_refl _) c1)
            repeat refine fst1_ok X (dk rfl) rfl ?_
            refine br_ok X (dk rfl) rfl (show ((54 : Nat) : Int) + (-52) = ((2 : Nat) : Int) from rfl) (fun _ => ?_) (fun q => absurd trivial q)
            refine WS.sel (l' := [(3, vI (j + 1)), (0, .ref A), (1, vI t), (2, vI pl)]) [3, 0, 1, 2] (by rw [← f3]; rfl) ?_
            exact ih (j + 1) (by omega) (by omega) _ rfl
          refine WS.sel [4, 3, 0, 1, 2] hl ?_
          repeat refine fst1_ok X (dk rfl) rfl ?_
          refine br_ok X (dk rfl) rfl (show ((14 : Nat) : Int) + 7 = ((21 : Nat) : Int) from rfl) (fun c2 => ?_) (fun c2 => ?_)
          · have hjt : j ≠ t := fun z => c2 (by rw [z])
            repeat refine fst1_ok X (dk rfl) rfl ?_
            refine ldr_ok X (dk rfl) hAs ha1 (by omega) ?_
            refine alen_ok X (by decide) (dk rfl) ha3 ?_
            rw [show (x.map vI).length = i by rw [List.length_map, hN2 hjt]]
            exact fin' _ rfl
          · have hjt : j = t := (nI_eq (by omega) (by omega)).mp (Decidable.not_not.mp c2)
            refine fst1_ok X (dk rfl) rfl ?_
            refine br_ok X (dk rfl) rfl (show ((18 : Nat) : Int) + 7 = ((25 : Nat) : Int) from rfl) (fun _ => ?_) (fun q => absurd trivial q)
            rw [show nI pl = nI i by rw [hN1 hjt]]
            exact fin' _ (by rw [hN1 hjt]; rfl)
        | succ d2 ih2 =>
          intro i hd2 hi l hl
          obtain ⟨k1, hk1, -, -, -⟩ := hx.1.at (j := i) (by omega)
          have go' : ∀ (l : List (Nat × Value)), lsel l [4, 3, 0, 1, 2] = [(4, vI i), (3, vI j), (0, .ref A), (1, vI t), (2, vI pl)] → WR p la e (rmD 3 0 0) s m args below meth c D cA B0 5 (booP h) 25 l [vI N, vI i] h 0 0 := by
            intro l hl
            refine WS.sel [4, 3, 0, 1, 2] hl ?_
            refine br_ok X (dk rfl) rfl (show ((25 : Nat) : Int) + 26 = ((51 : Nat) : Int) from rfl) (fun c1 => absurd c1 (nI_ge (by omega) (by omega))) (fun c1 => ?_)
            repeat refine fst1_ok X (dk rfl) rfl ?_
            refine ldr_ok X (dk rfl) hAs ha1 (by omega) ?_
            repeat refine fst1_ok X (dk rfl) rfl ?_
            refine ldr_ok X (dk rfl) hAs ht1 (by omega) ?_
            repeat refine fst1_ok X (dk rfl) rfl ?_
            refine callS_ok (av := [.ref a, vI i, .ref at', vI pl]) (r := []) X E (c_isAt h ha3 ht3 (by omega) (by omega) hx.1.lt hrt.1.lt hk1 hk2) lkX10_isAt mlX10_70 lsX10_isAt ⟨Nat.le_of_ble_eq_true rfl, Nat.le_of_ble_eq_true rfl⟩ ⟨Nat.le_of_ble_eq_true rfl, Nat.le_of_ble_eq_true rfl⟩ (Nat.le_of_ble_eq_true rfl) (dk rfl) ?_
            rintro v h' ⟨rfl, rfl⟩
            split
            · refine br_ok X (dk rfl) rfl (show ((40 : Nat) : Int) + 5 = ((45 : Nat) : Int) from rfl) (fun c2 => absurd c2 (by decide)) (fun c2 => ?_)
              repeat refine fst1_ok X (dk rfl) rfl ?_
              exact reti_ok X hr hlk rfl (dk rfl) ⟨Or.inr rfl, rfl⟩ (Nat.le_refl _) (Nat.le_refl _)
            · refine br_ok X (dk rfl) rfl (show ((40 : Nat) : Int) + 5 = ((45 : Nat) : Int) from rfl) (fun c2 => ?_) (fun c2 => absurd rfl c2)
              repeat refine fst1_ok X (dk rfl) rfl ?_
              refine br_ok X (dk rfl) rfl (show ((48 : Nat) : Int) + (-38) = ((10 : Nat) : Int) from rfl) (fun _ => ?_) (fun q => absurd trivial q)
              have f2 : Value.int (nI i + Int32.ofInt 1) = vI (i + 1) := congrArg Value.int (by rw [nI_1', nI_add])
              refine WS.sel (l' := [(4, vI (i + 1)), (3, vI j), (0, .ref A), (1, vI t), (2, vI pl)]) [4, 3, 0, 1, 2] (by rw [← f2]; rfl) ?_
              exact ih2 (i + 1) (by omega) (by omega) _ rfl
          refine WS.sel [4, 3, 0, 1, 2] hl ?_
          repeat refine fst1_ok X (dk rfl) rfl ?_
          refine br_ok X (dk rfl) rfl (show ((14 : Nat) : Int) + 7 = ((21 : Nat) : Int) from rfl) (fun c2 => ?_) (fun c2 => ?_)
          · have hjt : j ≠ t := fun z => c2 (by rw [z])
            repeat refine fst1_ok X (dk rfl) rfl ?_
            refine ldr_ok X (dk rfl) hAs ha1 (by omega) ?_
            refine alen_ok X (by decide) (dk rfl) ha3 ?_
            rw [show (x.map vI).length = N by rw [List.length_map, hN2 hjt]]
            exact go' _ rfl
          · have hjt : j = t := (nI_eq (by omega) (by omega)).mp (Decidable.not_not.mp c2)
            refine fst1_ok X (dk rfl) rfl ?_
            refine br_ok X (dk rfl) rfl (show ((18 : Nat) : Int) + 7 = ((25 : Nat) : Int) from rfl) (fun _ => ?_) (fun q => absurd trivial q)
            rw [show nI pl = nI N by rw [hN1 hjt]]
            exact go' _ rfl
      refine WS.sel [3, 0, 1, 2] hl ?_
      repeat refine fst1_ok X (dk rfl) rfl ?_
      refine br_ok X (dk rfl) rfl (show ((4 : Nat) : Int) + 53 = ((57 : Nat) : Int) from rfl) (fun c1 => absurd c1 (nI_nlt (by omega) (by omega))) (fun c1 => ?_)
      iterate 2 refine fst1_ok X (dk rfl) rfl ?_
      by_cases hjt : j = t
      · have hxr : x = rt := by rw [hjt, ht] at ha2; exact (Option.some.inj ha2).symm
        exact inner pl (by rw [hxr]; omega) (fun _ => rfl) (fun z => absurd hjt z) _ 0 rfl (Nat.zero_le _) _ rfl
      · exact inner x.length (Nat.le_refl _) (fun z => absurd z hjt) (fun _ => rfl) _ 0 rfl (Nat.zero_le _) _ rfl
  iterate 2 refine fst1_ok X (dk rfl) rfl ?_
  exact outer _ 0 rfl (Nat.zero_le _) _ rfl
set_option maxHeartbeats 8000000 in
theorem c_sharedOf (h : AH) {A : Nat} {rows : List (List Nat)} (hA : Ans h A rows) (ho : RO rows) : CT la D cA B0 pa yX10_sharedOf cX10_sharedOf 4 (some .int) (rmD 4 0 0) [.ref A] h (intP h) := by
  refine CT_of (by decide +kernel) (Nat.le_of_ble_eq_true rfl) ?_
  intro p e s m args below meth c X E hr hlk hnm
  have dk : ∀ {pc : Nat} {q : Instr × Nat}, lkd DX10_sharedOf pc = some q → decode cX10_sharedOf pc = .ok q := lkd_ok DX10_sharedOf_ok
  obtain ⟨as, has, hAs, hra⟩ := hA.row
  have hn := ho.1
  have outer : ∀ (d j : Nat), d = rows.length - j → j ≤ rows.length → ∀ (z : Int32) (l : List (Nat × Value)), lsel l [2, 1, 0] = [(2, vI j), (1, .int z), (0, .ref A)] → WR p la e (rmD 4 0 0) s m args below meth c D cA B0 4 (intP h) 4 l [] h 0 0 := by
    intro d
    induction d with
    | zero =>
      intro j hd hj z l hl
      have hj2 : j = rows.length := by omega
      subst hj2
      refine WS.sel [2, 1, 0] hl ?_
      repeat refine fst1_ok X (dk rfl) rfl ?_
      refine alen_ok X (by decide) (dk rfl) hAs ?_
      rw [show (as.map Value.ref).length = rows.length by rw [List.length_map, has]]
      refine br_ok X (dk rfl) rfl (show ((7 : Nat) : Int) + 42 = ((49 : Nat) : Int) from rfl) (fun c1 => ?_) (fun c1 => absurd (Int32.le_refl _) c1)
      repeat refine fst1_ok X (dk rfl) rfl ?_
      exact reti_ok X hr hlk rfl (dk rfl) ⟨⟨_, rfl⟩, rfl⟩ (Nat.le_refl _) (Nat.le_refl _)
    | succ d ih =>
      intro j hd hj z l hl
      obtain ⟨a, x, ha1, ha2, ha3⟩ := hra j (by omega)
      have hx := ho.2 x (List.mem_of_getElem? ha2)
      have inner : ∀ (d2 i : Nat), d2 = x.length - i → i ≤ x.length → ∀ (z : Int32) (l : List (Nat × Value)), lsel l [3, 2, 1, 0] = [(3, vI i), (2, vI j), (1, .int z), (0, .ref A)] → WR p la e (rmD 4 0 0) s m args below meth c D cA B0 4 (intP h) 12 l [] h 0 0 := by
        intro d2
        induction d2 with
        | zero =>
          intro i hd2 hi z l hl
          have hi2 : i = x.length := by omega
          subst hi2
          refine WS.sel [3, 2, 1, 0] hl ?_
          repeat refine fst1_ok X (dk rfl) rfl ?_
          refine ldr_ok X (dk rfl) hAs ha1 (by omega) ?_
          refine alen_ok X (by decide) (dk rfl) ha3 ?_
          rw [show (x.map vI).length = x.length from List.length_map _]
          refine br_ok X (dk rfl) rfl (show ((17 : Nat) : Int) + 26 = ((43 : Nat) : Int) from rfl) (fun c1 => ?_) (fun c1 => absurd (Int32.le_refl _) c1)
          repeat refine fst1_ok X (dk rfl) rfl ?_
          refine br_ok X (dk rfl) rfl (show ((46 : Nat) : Int) + (-42) = ((4 : Nat) : Int) from rfl) (fun _ => ?_) (fun q => absurd trivial q)
          have f2 : Value.int (nI j + Int32.ofInt 1) = vI (j + 1) := congrArg Value.int (by rw [nI_1', nI_add])
          refine WS.sel (l' := [(2, vI (j + 1)), (1, .int z), (0, .ref A)]) [2, 1, 0] (by rw [← f2]; rfl) ?_
          exact ih (j + 1) (by omega) (by omega) _ _ rfl
        | succ d2 ih2 =>
          intro i hd2 hi z l hl
          have f2 : Value.int (nI i + Int32.ofInt 1) = vI (i + 1) := congrArg Value.int (by rw [nI_1', nI_add])
          have back : ∀ (w : Int32) (l : List (Nat × Value)), lsel l [3, 2, 0] = [(3, vI i), (2, vI j), (0, .ref A)] → WR p la e (rmD 4 0 0) s m args below meth c D cA B0 4 (intP h) 35 l [.int w, .int z] h 0 0 := by
            intro w l hl
            refine WS.sel [3, 2, 0] hl ?_
            repeat refine fst1_ok X (dk rfl) rfl ?_
            refine br_ok X (dk rfl) rfl (show ((40 : Nat) : Int) + (-28) = ((12 : Nat) : Int) from rfl) (fun _ => ?_) (fun q => absurd trivial q)
            refine WS.sel (l' := [(3, vI (i + 1)), (2, vI j), (1, .int (z + w)), (0, .ref A)]) [3, 2, 1, 0] (by rw [← f2]; rfl) ?_
            exact ih2 (i + 1) (by omega) (by omega) _ _ rfl
          refine WS.sel [3, 2, 1, 0] hl ?_
          repeat refine fst1_ok X (dk rfl) rfl ?_
          refine ldr_ok X (dk rfl) hAs ha1 (by omega) ?_
          refine alen_ok X (by decide) (dk rfl) ha3 ?_
          rw [show (x.map vI).length = x.length from List.length_map _]
          refine br_ok X (dk rfl) rfl (show ((17 : Nat) : Int) + 26 = ((43 : Nat) : Int) from rfl) (fun c1 => absurd c1 (nI_ge (by omega) (by omega))) (fun c1 => ?_)
          repeat refine fst1_ok X (dk rfl) rfl ?_
          refine callS_ok (av := [.ref A, vI j, vI i]) (r := [.int z]) X E (c_isMet h hA ho ha2 (by omega)) lkX10_isMet mlX10_66 lsX10_isMet ⟨Nat.le_of_ble_eq_true rfl, Nat.le_of_ble_eq_true rfl⟩ ⟨Nat.le_of_ble_eq_true rfl, Nat.le_of_ble_eq_true rfl⟩ (Nat.le_of_ble_eq_true rfl) (dk rfl) ?_
          rintro v h' ⟨hv, rfl⟩
          rcases hv with rfl | rfl
          · refine br_ok X (dk rfl) rfl (show ((27 : Nat) : Int) + 7 = ((34 : Nat) : Int) from rfl) (fun c2 => ?_) (fun c2 => absurd rfl c2)
            refine fst1_ok X (dk rfl) rfl ?_
            exact back _ _ rfl
          · refine br_ok X (dk rfl) rfl (show ((27 : Nat) : Int) + 7 = ((34 : Nat) : Int) from rfl) (fun c2 => absurd c2 (by decide)) (fun c2 => ?_)
            refine fst1_ok X (dk rfl) rfl ?_
            refine br_ok X (dk rfl) rfl (show ((31 : Nat) : Int) + 4 = ((35 : Nat) : Int) from rfl) (fun _ => ?_) (fun q => absurd trivial q)
            exact back _ _ rfl
      refine WS.sel [2, 1, 0] hl ?_
      repeat refine fst1_ok X (dk rfl) rfl ?_
      refine alen_ok X (by decide) (dk rfl) hAs ?_
      rw [show (as.map Value.ref).length = rows.length by rw [List.length_map, has]]
      refine br_ok X (dk rfl) rfl (show ((7 : Nat) : Int) + 42 = ((49 : Nat) : Int) from rfl) (fun c1 => absurd c1 (nI_ge (by omega) (by omega))) (fun c1 => ?_)
      iterate 2 refine fst1_ok X (dk rfl) rfl ?_
      exact inner _ 0 rfl (Nat.zero_le _) _ _ rfl
  iterate 4 refine fst1_ok X (dk rfl) rfl ?_
  exact outer _ 0 rfl (Nat.zero_le _) _ _ rfl
end M13
