/-! the class, weakly: names, heads, terms (printed by wip/p40/cl5.py) -/
section M88
variable {la : Launch} {D : va_G} {cA : Nat → ClassId} {B0 pa : Nat} {Γ : TY}
set_option maxHeartbeats 4000000 in
theorem c6_isName (h : AH) (I : Tyg Γ h) (x0 : Int32) : CT la D cA B0 pa yX6_isName cX6_isName 1 (some .boolean) (rmD 0 0 0) [.int (x0)] h (RdO (fun v => ∃ b : Bool, v = some (.int (bI b)) ∧ (b = true → inN 8 x0)) h) := by
  refine CT_of (by decide +kernel) (Nat.le_of_ble_eq_true rfl) ?_
  intro p e s m args below meth c X E hr hlk hnm
  have dk : ∀ {pc : Nat} {q : Instr × Nat}, lkd DX6_isName pc = some q → decode cX6_isName pc = .ok q := lkd_ok DX6_isName_ok
  refine fst1_ok X (dk rfl) rfl ?_
  refine br_ok X (dk rfl) rfl (show ((1 : Nat) : Int) + 13 = ((14 : Nat) : Int) from rfl) (fun c1 => ?_) (fun c2 => ?_)
  · refine fst1_ok X (dk rfl) rfl ?_
    exact reti_ok X hr hlk (bI_n false) (dk rfl) ⟨⟨false, rfl, fun z => by cases z⟩, rfl⟩ (Nat.le_of_ble_eq_true rfl) (Nat.le_of_ble_eq_true rfl)
  · iterate 2 refine fst1_ok X (dk rfl) rfl ?_
    refine br_ok X (dk rfl) rfl (show ((7 : Nat) : Int) + 7 = ((14 : Nat) : Int) from rfl) (fun c3 => ?_) (fun c4 => ?_)
    · refine fst1_ok X (dk rfl) rfl ?_
      exact reti_ok X hr hlk (bI_n false) (dk rfl) ⟨⟨false, rfl, fun z => by cases z⟩, rfl⟩ (Nat.le_of_ble_eq_true rfl) (Nat.le_of_ble_eq_true rfl)
    · refine fst1_ok X (dk rfl) rfl ?_
      refine br_ok X (dk rfl) rfl (show ((11 : Nat) : Int) + 4 = ((15 : Nat) : Int) from rfl) (fun _ => ?_) (fun q => absurd trivial q)
      exact reti_ok X hr hlk (bI_n true) (dk rfl) ⟨⟨true, rfl, fun _ => inN_of (N := 8) (by decide) c2 c4⟩, rfl⟩ (Nat.le_of_ble_eq_true rfl) (Nat.le_of_ble_eq_true rfl)
set_option maxHeartbeats 4000000 in
theorem c6_isHead (h : AH) (I : Tyg Γ h) (x0 : Int32) : CT la D cA B0 pa yX6_isHead cX6_isHead 1 (some .boolean) (rmD 0 0 0) [.int (x0)] h (RdO bP h) := by
  refine CT_of (by decide +kernel) (Nat.le_of_ble_eq_true rfl) ?_
  intro p e s m args below meth c X E hr hlk hnm
  have dk : ∀ {pc : Nat} {q : Instr × Nat}, lkd DX6_isHead pc = some q → decode cX6_isHead pc = .ok q := lkd_ok DX6_isHead_ok
  iterate 2 refine fst1_ok X (dk rfl) rfl ?_
  refine br_ok X (dk rfl) rfl (show ((3 : Nat) : Int) + 13 = ((16 : Nat) : Int) from rfl) (fun c1 => ?_) (fun c2 => ?_)
  · refine fst1_ok X (dk rfl) rfl ?_
    exact reti_ok X hr hlk (bI_n false) (dk rfl) ⟨⟨false, rfl⟩, rfl⟩ (Nat.le_of_ble_eq_true rfl) (Nat.le_of_ble_eq_true rfl)
  · iterate 2 refine fst1_ok X (dk rfl) rfl ?_
    refine br_ok X (dk rfl) rfl (show ((9 : Nat) : Int) + 7 = ((16 : Nat) : Int) from rfl) (fun c3 => ?_) (fun c4 => ?_)
    · refine fst1_ok X (dk rfl) rfl ?_
      exact reti_ok X hr hlk (bI_n false) (dk rfl) ⟨⟨false, rfl⟩, rfl⟩ (Nat.le_of_ble_eq_true rfl) (Nat.le_of_ble_eq_true rfl)
    · refine fst1_ok X (dk rfl) rfl ?_
      refine br_ok X (dk rfl) rfl (show ((13 : Nat) : Int) + 4 = ((17 : Nat) : Int) from rfl) (fun _ => ?_) (fun q => absurd trivial q)
      exact reti_ok X hr hlk (bI_n true) (dk rfl) ⟨⟨true, rfl⟩, rfl⟩ (Nat.le_of_ble_eq_true rfl) (Nat.le_of_ble_eq_true rfl)
set_option maxHeartbeats 4000000 in
theorem c5_length (h : AH) (I : Tyg Γ h) {o0 L0 : Nat} (T0 : TermT Γ o0 L0) : CT la D cA B0 pa yX5_length cX5_length 1 (some .int) (rmD 0 0 0) [.ref o0] h (RdO (nP L0) h) := by
  refine CT_of (by decide +kernel) (Nat.le_of_ble_eq_true rfl) ?_
  intro p e s m args below meth c X E hr hlk hnm
  have dk : ∀ {pc : Nat} {q : Instr × Nat}, lkd DX5_length pc = some q → decode cX5_length pc = .ok q := lkd_ok DX5_length_ok
  obtain ⟨hL2, q1, gb3, gl4⟩ := id T0
  refine fst1_ok X (dk rfl) rfl ?_
  obtain ⟨f5, t6, hx7, hf8⟩ := tm_open (TI.rf I).1 gb3
  refine getf_ok X flX5_21 (dk rfl) hx7 rfl ?_
  exact reti_ok X hr hlk rfl (dk rfl) ⟨⟨_, hf8, rfl⟩, rfl⟩ (Nat.le_of_ble_eq_true rfl) (Nat.le_of_ble_eq_true rfl)
set_option maxHeartbeats 4000000 in
theorem c5_isTooLong (h : AH) (I : Tyg Γ h) {o0 L0 : Nat} (T0 : TermT Γ o0 L0) : CT la D cA B0 pa yX5_isTooLong cX5_isTooLong 1 (some .boolean) (rmD 0 0 0) [.ref o0] h (RdO bP h) := by
  refine CT_of (by decide +kernel) (Nat.le_of_ble_eq_true rfl) ?_
  intro p e s m args below meth c X E hr hlk hnm
  have dk : ∀ {pc : Nat} {q : Instr × Nat}, lkd DX5_isTooLong pc = some q → decode cX5_isTooLong pc = .ok q := lkd_ok DX5_isTooLong_ok
  obtain ⟨hL2, q1, gb3, gl4⟩ := id T0
  refine fst1_ok X (dk rfl) rfl ?_
  obtain ⟨f5, t6, hx7, hf8⟩ := tm_open (TI.rf I).1 gb3
  refine getf_ok X flX5_25 (dk rfl) hx7 rfl ?_
  exact reti_ok X hr hlk (bI_n t6) (dk rfl) ⟨⟨t6, rfl⟩, rfl⟩ (Nat.le_of_ble_eq_true rfl) (Nat.le_of_ble_eq_true rfl)
set_option maxHeartbeats 4000000 in
theorem c5_hasPlace (h : AH) (I : Tyg Γ h) {o0 L0 : Nat} (T0 : TermT Γ o0 L0) (x1 : Int32) : CT la D cA B0 pa yX5_hasPlace cX5_hasPlace 2 (some .boolean) (rmD 0 0 0) [.ref o0, .int (x1)] h (RdO bP h) := by
  refine CT_of (by decide +kernel) (Nat.le_of_ble_eq_true rfl) ?_
  intro p e s m args below meth c X E hr hlk hnm
  have dk : ∀ {pc : Nat} {q : Instr × Nat}, lkd DX5_hasPlace pc = some q → decode cX5_hasPlace pc = .ok q := lkd_ok DX5_hasPlace_ok
  obtain ⟨hL2, q1, gb3, gl4⟩ := id T0
  refine fst1_ok X (dk rfl) rfl ?_
  refine br_ok X (dk rfl) rfl (show ((1 : Nat) : Int) + 15 = ((16 : Nat) : Int) from rfl) (fun c5 => ?_) (fun c6 => ?_)
  · refine fst1_ok X (dk rfl) rfl ?_
    exact reti_ok X hr hlk (bI_n false) (dk rfl) ⟨⟨false, rfl⟩, rfl⟩ (Nat.le_of_ble_eq_true rfl) (Nat.le_of_ble_eq_true rfl)
  · iterate 2 refine fst1_ok X (dk rfl) rfl ?_
    obtain ⟨f7, t8, hx9, hf10⟩ := tm_open (TI.rf I).1 gb3
    refine getf_ok X flX5_21 (dk rfl) hx9 rfl ?_
    refine br_ok X (dk rfl) rfl (show ((9 : Nat) : Int) + 7 = ((16 : Nat) : Int) from rfl) (fun c11 => ?_) (fun c12 => ?_)
    · refine fst1_ok X (dk rfl) rfl ?_
      exact reti_ok X hr hlk (bI_n false) (dk rfl) ⟨⟨false, rfl⟩, rfl⟩ (Nat.le_of_ble_eq_true rfl) (Nat.le_of_ble_eq_true rfl)
    · refine fst1_ok X (dk rfl) rfl ?_
      refine br_ok X (dk rfl) rfl (show ((13 : Nat) : Int) + 4 = ((17 : Nat) : Int) from rfl) (fun _ => ?_) (fun q => absurd trivial q)
      exact reti_ok X hr hlk (bI_n true) (dk rfl) ⟨⟨true, rfl⟩, rfl⟩ (Nat.le_of_ble_eq_true rfl) (Nat.le_of_ble_eq_true rfl)
set_option maxHeartbeats 4000000 in
theorem c5_letterAt (h : AH) (I : Tyg Γ h) {o0 L0 : Nat} (T0 : TermT Γ o0 L0) (x1 : Int32) : CT la D cA B0 pa yX5_letterAt cX5_letterAt 2 (some .int) (rmD 0 0 0) [.ref o0, .int (x1)] h (RdO lP h) := by
  refine CT_of (by decide +kernel) (Nat.le_of_ble_eq_true rfl) ?_
  intro p e s m args below meth c X E hr hlk hnm
  have dk : ∀ {pc : Nat} {q : Instr × Nat}, lkd DX5_letterAt pc = some q → decode cX5_letterAt pc = .ok q := lkd_ok DX5_letterAt_ok
  obtain ⟨hL2, q1, gb3, gl4⟩ := id T0
  refine fst1_ok X (dk rfl) rfl ?_
  refine br_ok X (dk rfl) rfl (show ((1 : Nat) : Int) + 29 = ((30 : Nat) : Int) from rfl) (fun c5 => ?_) (fun c6 => ?_)
  · refine fst1_ok X (dk rfl) rfl ?_
    exact reti_ok X hr hlk rfl (dk rfl) ⟨⟨_, LR_9, rfl⟩, rfl⟩ (Nat.le_of_ble_eq_true rfl) (Nat.le_of_ble_eq_true rfl)
  · iterate 2 refine fst1_ok X (dk rfl) rfl ?_
    obtain ⟨f7, t8, hx9, hf10⟩ := tm_open (TI.rf I).1 gb3
    refine getf_ok X flX5_21 (dk rfl) hx9 rfl ?_
    refine br_ok X (dk rfl) rfl (show ((9 : Nat) : Int) + 21 = ((30 : Nat) : Int) from rfl) (fun c11 => ?_) (fun c12 => ?_)
    · refine fst1_ok X (dk rfl) rfl ?_
      exact reti_ok X hr hlk rfl (dk rfl) ⟨⟨_, LR_9, rfl⟩, rfl⟩ (Nat.le_of_ble_eq_true rfl) (Nat.le_of_ble_eq_true rfl)
    · iterate 2 refine fst1_ok X (dk rfl) rfl ?_
      refine getf_ok X flX5_15 (dk rfl) hx9 rfl ?_
      obtain ⟨xs13, hx14, hn15, hr16⟩ := lt_open (TI.rf I).1 gl4
      refine alen7_ok X (dk rfl) hx14 hn15 ?_
      refine br_ok X (dk rfl) rfl (show ((18 : Nat) : Int) + 12 = ((30 : Nat) : Int) from rfl) (fun c17 => ?_) (fun c18 => ?_)
      · refine fst1_ok X (dk rfl) rfl ?_
        exact reti_ok X hr hlk rfl (dk rfl) ⟨⟨_, LR_9, rfl⟩, rfl⟩ (Nat.le_of_ble_eq_true rfl) (Nat.le_of_ble_eq_true rfl)
      · refine fst1_ok X (dk rfl) rfl ?_
        refine getf_ok X flX5_15 (dk rfl) hx9 rfl ?_
        refine fst1_ok X (dk rfl) rfl ?_
        refine ald7_ok X (dk rfl) hx14 c6 (by rw [hn15]; exact ix_ok (by omega) c6 c18) (fun x19 hm20 => ?_)
        refine br_ok X (dk rfl) rfl (show ((27 : Nat) : Int) + 5 = ((32 : Nat) : Int) from rfl) (fun _ => ?_) (fun q => absurd trivial q)
        exact reti_ok X hr hlk rfl (dk rfl) ⟨⟨_, (hr16 _ hm20), rfl⟩, rfl⟩ (Nat.le_of_ble_eq_true rfl) (Nat.le_of_ble_eq_true rfl)
set_option maxHeartbeats 4000000 in
theorem c5_empty (h : AH) (I : Tyg Γ h) {o0 L0 : Nat} (T0 : TermT Γ o0 L0) : CT la D cA B0 pa yX5_empty cX5_empty 1 none (rmD 0 0 0) [.ref o0] h (WrO Γ voidP h) := by
  refine CT_of (by decide +kernel) (Nat.le_of_ble_eq_true rfl) ?_
  intro p e s m args below meth c X E hr hlk hnm
  have dk : ∀ {pc : Nat} {q : Instr × Nat}, lkd DX5_empty pc = some q → decode cX5_empty pc = .ok q := lkd_ok DX5_empty_ok
  obtain ⟨hL2, q1, gb3, gl4⟩ := id T0
  iterate 2 refine fst1_ok X (dk rfl) rfl ?_
  obtain ⟨f5, t6, hx7, hf8⟩ := tm_open (TI.rf I).1 gb3
  refine putT_ok X flX5_21 ftX5_1 rfl rfl (dk rfl) hx7 (Nat.le_of_ble_eq_true rfl) (TI.rf I) gb3 rfl (tm_zero hf8) (fun h9 J10 hx11 ho12 => ?_)
  iterate 2 refine fst1_ok X (dk rfl) rfl ?_
  refine putT_ok X flX5_25 ftX5_2 (by decide +kernel) (by decide +kernel) (dk rfl) hx11 (Nat.le_of_ble_eq_true rfl) J10 gb3 rfl tm_long00 (fun h13 J14 hx15 ho16 => ?_)
  exact retv_ok X hr hlk (dk rfl) ⟨rfl, J14⟩ (Nat.le_of_ble_eq_true rfl) (Nat.le_of_ble_eq_true rfl)
set_option maxHeartbeats 4000000 in
theorem c5_add (h : AH) (I : Tyg Γ h) {o0 L0 : Nat} (T0 : TermT Γ o0 L0) (x1 : Int32) (hx1 : LR x1) : CT la D cA B0 pa yX5_add cX5_add 2 none (rmD 0 0 0) [.ref o0, .int (x1)] h (WrO Γ voidP h) := by
  refine CT_of (by decide +kernel) (Nat.le_of_ble_eq_true rfl) ?_
  intro p e s m args below meth c X E hr hlk hnm
  have dk : ∀ {pc : Nat} {q : Instr × Nat}, lkd DX5_add pc = some q → decode cX5_add pc = .ok q := lkd_ok DX5_add_ok
  obtain ⟨hL2, q1, gb3, gl4⟩ := id T0
  refine fst1_ok X (dk rfl) rfl ?_
  obtain ⟨f5, t6, hx7, hf8⟩ := tm_open (TI.rf I).1 gb3
  refine getf_ok X flX5_21 (dk rfl) hx7 rfl ?_
  refine br_ok X (dk rfl) rfl (show ((4 : Nat) : Int) + 38 = ((42 : Nat) : Int) from rfl) (fun c9 => ?_) (fun c10 => ?_)
  · iterate 2 refine fst1_ok X (dk rfl) rfl ?_
    refine putT_ok X flX5_25 ftX5_2 (by decide +kernel) (by decide +kernel) (dk rfl) hx7 (Nat.le_of_ble_eq_true rfl) (TI.rf I) gb3 rfl (tm_long1 hf8) (fun h11 J12 hx13 ho14 => ?_)
    exact retv_ok X hr hlk (dk rfl) ⟨rfl, J12⟩ (Nat.le_of_ble_eq_true rfl) (Nat.le_of_ble_eq_true rfl)
  · refine fst1_ok X (dk rfl) rfl ?_
    refine getf_ok X flX5_21 (dk rfl) hx7 rfl ?_
    refine fst1_ok X (dk rfl) rfl ?_
    refine getf_ok X flX5_15 (dk rfl) hx7 rfl ?_
    obtain ⟨xs15, hx16, hn17, hr18⟩ := lt_open (TI.rf I).1 gl4
    refine alen7_ok X (dk rfl) hx16 hn17 ?_
    refine br_ok X (dk rfl) rfl (show ((16 : Nat) : Int) + 26 = ((42 : Nat) : Int) from rfl) (fun c19 => ?_) (fun c20 => ?_)
    · iterate 2 refine fst1_ok X (dk rfl) rfl ?_
      refine putT_ok X flX5_25 ftX5_2 (by decide +kernel) (by decide +kernel) (dk rfl) hx7 (Nat.le_of_ble_eq_true rfl) (TI.rf I) gb3 rfl (tm_long1 hf8) (fun h21 J22 hx23 ho24 => ?_)
      have hx25 := (ho24 q1 (k_ne hx16 hx7 (by decide))).trans hx16
      exact retv_ok X hr hlk (dk rfl) ⟨rfl, J22⟩ (Nat.le_of_ble_eq_true rfl) (Nat.le_of_ble_eq_true rfl)
    · refine fst1_ok X (dk rfl) rfl ?_
      refine getf_ok X flX5_15 (dk rfl) hx7 rfl ?_
      refine fst1_ok X (dk rfl) rfl ?_
      refine getf_ok X flX5_21 (dk rfl) hx7 rfl ?_
      refine fst1_ok X (dk rfl) rfl ?_
      refine astT_ok X (dk rfl) hx16 (nI_pos (by omega)) (by rw [hn17]; exact ix_ok (by omega) (nI_pos (by omega)) c20) (TI.rf I) gl4 (letφ_set hn17 hr18 _ hx1) (fun h26 J27 ho28 => ?_)
      have hx29 := (ho28 o0 (k_ne hx7 hx16 (by decide))).trans hx7
      iterate 2 refine fst1_ok X (dk rfl) rfl ?_
      refine getf_ok X flX5_21 (dk rfl) hx29 rfl ?_
      iterate 2 refine fst1_ok X (dk rfl) rfl ?_
      refine putT_ok X flX5_21 ftX5_1 rfl rfl (dk rfl) hx29 (Nat.le_of_ble_eq_true rfl) J27 gb3 rfl (tm_more (nat_lt (by omega) c20)) (fun h30 J31 hx32 ho33 => ?_)
      refine br_ok X (dk rfl) rfl (show ((39 : Nat) : Int) + 8 = ((47 : Nat) : Int) from rfl) (fun _ => ?_) (fun q => absurd trivial q)
      exact retv_ok X hr hlk (dk rfl) ⟨rfl, J31⟩ (Nat.le_of_ble_eq_true rfl) (Nat.le_of_ble_eq_true rfl)
set_option maxHeartbeats 4000000 in
theorem c5_addRow (h : AH) (I : Tyg Γ h) {o0 L0 : Nat} (T0 : TermT Γ o0 L0) {o1 L1 : Nat} (T1 : TermT Γ o1 L1) (x2 : Int32) (x3 : Int32) : CT la D cA B0 pa yX5_addRow cX5_addRow 5 none (rmD 1 0 0) [.ref o0, .ref o1, .int (x2), .int (x3)] h (WrO Γ voidP h) := by
  refine CT_of (by decide +kernel) (Nat.le_of_ble_eq_true rfl) ?_
  intro p e s m args below meth c X E hr hlk hnm
  have dk : ∀ {pc : Nat} {q : Instr × Nat}, lkd DX5_addRow pc = some q → decode cX5_addRow pc = .ok q := lkd_ok DX5_addRow_ok
  obtain ⟨hL2, q1, gb3, gl4⟩ := id T0
  obtain ⟨hL6, q5, gb7, gl8⟩ := id T1
  have L3 : ∀ j4 : Int32, ∀ (h1 : AH) (J1 : TI Γ h h1) (l : List (Nat × Value)), lsel l [4, 3, 1, 0] = [(4, .int (j4)), (3, .int (x3)), (1, .ref o1), (0, .ref o0)] → WR p la e (rmD 1 0 0) s m args below meth c D cA B0 5 (WrO Γ voidP h) 3 l [] h1 0 0 := by
    refine loopUp (fun j4 ih => ?_)
    intro h1 J1 l hl
    refine WS.sel [4, 3, 1, 0] hl ?_
    iterate 2 refine fst1_ok X (dk rfl) rfl ?_
    refine br_ok X (dk rfl) rfl (show ((6 : Nat) : Int) + 19 = ((25 : Nat) : Int) from rfl) (fun c9 => ?_) (fun c10 => ?_)
    · exact retv_ok X hr hlk (dk rfl) ⟨rfl, J1⟩ (Nat.le_of_ble_eq_true rfl) (Nat.le_of_ble_eq_true rfl)
    · iterate 3 refine fst1_ok X (dk rfl) rfl ?_
      refine callVR_ok (ci := 7) (T := TX5) (N := 3) (av := [.int _]) (r := [_]) X E (c5_letterAt _ J1.1 T1 _) lkX5_letterAt mlX5_29 lmX5_letterAt lpX5_letterAt ⟨Nat.le_of_ble_eq_true rfl, Nat.le_of_ble_eq_true rfl⟩ ⟨Nat.le_of_ble_eq_true rfl, Nat.le_of_ble_eq_true rfl⟩ rfl (tm_cell J1.1 gb7) (Nat.le_of_ble_eq_true rfl) (dk rfl) ?_
      rintro _ ⟨x11, hx12, rfl⟩
      refine callVW_ok (ci := 7) (T := TX5) (N := 3) (av := [.int _]) (r := []) X E J1 (c5_add _ J1.1 T0 _ hx12) lkX5_add mlX5_33 lmX5_add lpX5_add ⟨Nat.le_of_ble_eq_true rfl, Nat.le_of_ble_eq_true rfl⟩ ⟨Nat.le_of_ble_eq_true rfl, Nat.le_of_ble_eq_true rfl⟩ rfl (tm_cell J1.1 gb3) (Nat.le_of_ble_eq_true rfl) (dk rfl) ?_
      rintro _ h13 rfl J14
      refine fst1_ok X (dk rfl) rfl ?_
      refine br_ok X (dk rfl) rfl (show ((22 : Nat) : Int) + (-19) = ((3 : Nat) : Int) from rfl) (fun _ => ?_) (fun q => absurd trivial q)
      exact ih _ (nlt_of c10) h13 J14 _ rfl
  iterate 2 refine fst1_ok X (dk rfl) rfl ?_
  exact L3 _ h (TI.rf I) _ rfl
end M88
