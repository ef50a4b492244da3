/-! the class, weakly, over types that keep contents: steps (printed by wip/p20/genFZ.py from wip/p40/cl4.py) -/
section M92
variable {la : Launch} {D : va_G} {cA : Nat → ClassId} {B0 pa : Nat} {Γ : TY}
set_option maxHeartbeats 4000000 in
theorem FZ.c4_stepsTaken (h : AH) (I : Tyg Γ h) {o0 : Nat} (T0 : StepsT Γ o0) : CT la D cA B0 pa yX4_stepsTaken cX4_stepsTaken 1 (some .int) (rmD 0 0 0) [.ref o0] h (RdO iP h) := by
  refine CT_of (by decide +kernel) (Nat.le_of_ble_eq_true rfl) ?_
  intro p e s m args below meth c X E hr hlk hnm
  have dk : ∀ {pc : Nat} {q : Instr × Nat}, lkd DX4_stepsTaken pc = some q → decode cX4_stepsTaken pc = .ok q := lkd_ok DX4_stepsTaken_ok
  obtain ⟨bo1, st2, pr3, gb4, tb5, gs6, tp7⟩ := id T0
  refine fst1_ok X (dk rfl) rfl ?_
  obtain ⟨t9, e10, hx8⟩ := st_open (TI.rf I).1 gb4
  refine getf_ok X flX4_52 (dk rfl) hx8 rfl ?_
  exact reti_ok X hr hlk rfl (dk rfl) ⟨⟨_, rfl⟩, rfl⟩ (Nat.le_of_ble_eq_true rfl) (Nat.le_of_ble_eq_true rfl)
set_option maxHeartbeats 4000000 in
theorem FZ.c4_howEnded (h : AH) (I : Tyg Γ h) {o0 : Nat} (T0 : StepsT Γ o0) : CT la D cA B0 pa yX4_howEnded cX4_howEnded 1 (some .int) (rmD 0 0 0) [.ref o0] h (RdO iP h) := by
  refine CT_of (by decide +kernel) (Nat.le_of_ble_eq_true rfl) ?_
  intro p e s m args below meth c X E hr hlk hnm
  have dk : ∀ {pc : Nat} {q : Instr × Nat}, lkd DX4_howEnded pc = some q → decode cX4_howEnded pc = .ok q := lkd_ok DX4_howEnded_ok
  obtain ⟨bo1, st2, pr3, gb4, tb5, gs6, tp7⟩ := id T0
  refine fst1_ok X (dk rfl) rfl ?_
  obtain ⟨t9, e10, hx8⟩ := st_open (TI.rf I).1 gb4
  refine getf_ok X flX4_56 (dk rfl) hx8 rfl ?_
  exact reti_ok X hr hlk rfl (dk rfl) ⟨⟨_, rfl⟩, rfl⟩ (Nat.le_of_ble_eq_true rfl) (Nat.le_of_ble_eq_true rfl)
set_option maxHeartbeats 4000000 in
theorem FZ.c4_tellInto (h : AH) (I : Tyg Γ h) {o0 : Nat} (T0 : StepsT Γ o0) {o1 : Nat} (T1 : AnsG true Γ o1) : CT la D cA B0 pa yX4_tellInto cX4_tellInto 2 none (rmD 4 0 0) [.ref o0, .ref o1] h (WrO Γ voidP h) := by
  refine CT_of (by decide +kernel) (Nat.le_of_ble_eq_true rfl) ?_
  intro p e s m args below meth c X E hr hlk hnm
  have dk : ∀ {pc : Nat} {q : Instr × Nat}, lkd DX4_tellInto pc = some q → decode cX4_tellInto pc = .ok q := lkd_ok DX4_tellInto_ok
  obtain ⟨bo1, st2, pr3, gb4, tb5, gs6, tp7⟩ := id T0
  obtain ⟨ar8, ts9, gb10, ga11, tl12, tt13⟩ := id T1
  iterate 2 refine fst1_ok X (dk rfl) rfl ?_
  obtain ⟨t15, e16, hx14⟩ := st_open (TI.rf I).1 gb4
  refine getf_ok X flX4_14 (dk rfl) hx14 rfl ?_
  refine fst1_ok X (dk rfl) rfl ?_
  refine getf_ok X flX4_20 (dk rfl) hx14 rfl ?_
  refine callVW_ok (ci := 2) (T := TX0) (N := 1) (av := [.ref _, .ref _]) (r := []) X E (TI.rf I) (c0_becomeWholeOf _ (TI.rf I).1 T1 tb5 gs6) lkX0_becomeWholeOf mlX4_64 lmX0_becomeWholeOf lpX0_becomeWholeOf ⟨Nat.le_of_ble_eq_true rfl, Nat.le_of_ble_eq_true rfl⟩ ⟨Nat.le_of_ble_eq_true rfl, Nat.le_of_ble_eq_true rfl⟩ rfl (is_cell (TI.rf I).1 gb10) (Nat.le_of_ble_eq_true rfl) (dk rfl) ?_
  rintro _ h17 rfl J18
  exact retv_ok X hr hlk (dk rfl) ⟨rfl, J18⟩ (Nat.le_of_ble_eq_true rfl) (Nat.le_of_ble_eq_true rfl)
set_option maxHeartbeats 4000000 in
theorem FZ.c4_lookedUp (h : AH) (I : Tyg Γ h) {o0 : Nat} (T0 : StepsT Γ o0) (x1 : Int32) : CT la D cA B0 pa yX4_lookedUp cX4_lookedUp 5 (some .int) (rmD 1 0 0) [.ref o0, .int (x1)] h (RdO iP h) := by
  refine CT_of (by decide +kernel) (Nat.le_of_ble_eq_true rfl) ?_
  intro p e s m args below meth c X E hr hlk hnm
  have dk : ∀ {pc : Nat} {q : Instr × Nat}, lkd DX4_lookedUp pc = some q → decode cX4_lookedUp pc = .ok q := lkd_ok DX4_lookedUp_ok
  obtain ⟨bo1, st2, pr3, gb4, tb5, gs6, tp7⟩ := id T0
  have L4 : ∀ j8 : Int32, ∀ (y9 : Int32) (l : List (Nat × Value)), lsel l [3, 2, 0] = [(3, .int (j8)), (2, .int (y9)), (0, .ref o0)] → WR p la e (rmD 1 0 0) s m args below meth c D cA B0 5 (RdO iP h) 4 l [] h 0 0 := by
    refine loopUp (fun j8 ih4 => ?_)
    intro y9 l hl
    refine WS.sel [3, 2, 0] hl ?_
    iterate 2 refine fst1_ok X (dk rfl) rfl ?_
    refine br_ok X (dk rfl) rfl (show ((7 : Nat) : Int) + 48 = ((55 : Nat) : Int) from rfl) (fun c11 => ?_) (fun c12 => ?_)
    · refine fst1_ok X (dk rfl) rfl ?_
      exact reti_ok X hr hlk rfl (dk rfl) ⟨⟨_, rfl⟩, rfl⟩ (Nat.le_of_ble_eq_true rfl) (Nat.le_of_ble_eq_true rfl)
    · refine fst1_ok X (dk rfl) rfl ?_
      obtain ⟨t14, e15, hx13⟩ := st_open (TI.rf I).1 gb4
      refine getf_ok X flX4_14 (dk rfl) hx13 rfl ?_
      refine fst1_ok X (dk rfl) rfl ?_
      obtain ⟨hL17, q16, gb18, gl19⟩ := id tb5
      refine callVR_ok (ci := 7) (T := TX5) (N := 3) (av := [.int _]) (r := []) X E (c5_letterAt _ (TI.rf I).1 tb5 _) lkX5_letterAt mlX4_83 lmX5_letterAt lpX5_letterAt ⟨Nat.le_of_ble_eq_true rfl, Nat.le_of_ble_eq_true rfl⟩ ⟨Nat.le_of_ble_eq_true rfl, Nat.le_of_ble_eq_true rfl⟩ rfl (tm_cell (TI.rf I).1 gb18) (Nat.le_of_ble_eq_true rfl) (dk rfl) ?_
      rintro _ ⟨x20, hx21, rfl⟩
      iterate 2 refine fst1_ok X (dk rfl) rfl ?_
      refine callNR_ok (av := [.int _]) (r := []) X E (c6_isName _ (TI.rf I).1 _) lkX6_isName mnX4_86 lsX6_isName ⟨Nat.le_of_ble_eq_true rfl, Nat.le_of_ble_eq_true rfl⟩ ⟨Nat.le_of_ble_eq_true rfl, Nat.le_of_ble_eq_true rfl⟩ (Nat.le_of_ble_eq_true rfl) (dk rfl) ?_
      rintro _ ⟨b22, rfl, hb23, hn24⟩
      refine br_ok X (dk rfl) rfl (show ((25 : Nat) : Int) + 14 = ((39 : Nat) : Int) from rfl) (fun c25 => ?_) (fun c26 => ?_)
      · refine fst1_ok X (dk rfl) rfl ?_
        exact reti_ok X hr hlk rfl (dk rfl) ⟨⟨_, rfl⟩, rfl⟩ (Nat.le_of_ble_eq_true rfl) (Nat.le_of_ble_eq_true rfl)
      · refine fst1_ok X (dk rfl) rfl ?_
        refine getf_ok X flX4_20 (dk rfl) hx13 rfl ?_
        refine fst1_ok X (dk rfl) rfl ?_
        obtain ⟨xs27, hx28, hn29⟩ := rw_open (TI.rf I).1 gs6
        refine ald7_ok X (dk rfl) hx28 (inN_pos (hb23 (bI_nz c26)) (by decide)) (by rw [hn29]; exact inN_ix (hb23 (bI_nz c26)) (by decide)) (fun x30 hm31 => ?_)
        refine fst1_ok X (dk rfl) rfl ?_
        refine br_ok X (dk rfl) rfl (show ((36 : Nat) : Int) + 5 = ((41 : Nat) : Int) from rfl) (fun c32 => ?_) (fun c33 => ?_)
        · refine fst1_ok X (dk rfl) rfl ?_
          refine getf_ok X flX4_20 (dk rfl) hx13 rfl ?_
          refine fst1_ok X (dk rfl) rfl ?_
          refine ald7_ok X (dk rfl) hx28 (inN_pos (hb23 (bI_nz c26)) (by decide)) (by rw [hn29]; exact inN_ix (hb23 (bI_nz c26)) (by decide)) (fun x34 hm35 => ?_)
          iterate 2 refine fst1_ok X (dk rfl) rfl ?_
          refine br_ok X (dk rfl) rfl (show ((52 : Nat) : Int) + (-48) = ((4 : Nat) : Int) from rfl) (fun _ => ?_) (fun q => absurd trivial q)
          exact ih4 _ (nlt_of c12) _ _ rfl
        · refine fst1_ok X (dk rfl) rfl ?_
          exact reti_ok X hr hlk rfl (dk rfl) ⟨⟨_, rfl⟩, rfl⟩ (Nat.le_of_ble_eq_true rfl) (Nat.le_of_ble_eq_true rfl)
  iterate 4 refine fst1_ok X (dk rfl) rfl ?_
  exact L4 _ _ _ rfl
set_option maxHeartbeats 4000000 in
theorem FZ.c4_joinNames (h : AH) (I : Tyg Γ h) {o0 : Nat} (T0 : StepsT Γ o0) (x1 : Int32) (x2 : Int32) : CT la D cA B0 pa yX4_joinNames cX4_joinNames 5 none (rmD 1 0 0) [.ref o0, .int (x1), .int (x2)] h (WrO Γ voidP h) := by
  refine CT_of (by decide +kernel) (Nat.le_of_ble_eq_true rfl) ?_
  intro p e s m args below meth c X E hr hlk hnm
  have dk : ∀ {pc : Nat} {q : Instr × Nat}, lkd DX4_joinNames pc = some q → decode cX4_joinNames pc = .ok q := lkd_ok DX4_joinNames_ok
  obtain ⟨bo1, st2, pr3, gb4, tb5, gs6, tp7⟩ := id T0
  refine fst1_ok X (dk rfl) rfl ?_
  obtain ⟨t9, e10, hx8⟩ := st_open (TI.rf I).1 gb4
  refine getf_ok X flX4_14 (dk rfl) hx8 rfl ?_
  refine fst1_ok X (dk rfl) rfl ?_
  obtain ⟨hL12, q11, gb13, gl14⟩ := id tb5
  refine callVR_ok (ci := 7) (T := TX5) (N := 3) (av := [.int _]) (r := []) X E (c5_letterAt _ (TI.rf I).1 tb5 _) lkX5_letterAt mlX4_83 lmX5_letterAt lpX5_letterAt ⟨Nat.le_of_ble_eq_true rfl, Nat.le_of_ble_eq_true rfl⟩ ⟨Nat.le_of_ble_eq_true rfl, Nat.le_of_ble_eq_true rfl⟩ rfl (tm_cell (TI.rf I).1 gb13) (Nat.le_of_ble_eq_true rfl) (dk rfl) ?_
  rintro _ ⟨x15, hx16, rfl⟩
  iterate 2 refine fst1_ok X (dk rfl) rfl ?_
  refine getf_ok X flX4_14 (dk rfl) hx8 rfl ?_
  refine fst1_ok X (dk rfl) rfl ?_
  refine callVR_ok (ci := 7) (T := TX5) (N := 3) (av := [.int _]) (r := []) X E (c5_letterAt _ (TI.rf I).1 tb5 _) lkX5_letterAt mlX4_83 lmX5_letterAt lpX5_letterAt ⟨Nat.le_of_ble_eq_true rfl, Nat.le_of_ble_eq_true rfl⟩ ⟨Nat.le_of_ble_eq_true rfl, Nat.le_of_ble_eq_true rfl⟩ rfl (tm_cell (TI.rf I).1 gb13) (Nat.le_of_ble_eq_true rfl) (dk rfl) ?_
  rintro _ ⟨x17, hx18, rfl⟩
  iterate 2 refine fst1_ok X (dk rfl) rfl ?_
  refine callNR_ok (av := [.int _]) (r := []) X E (c6_isName _ (TI.rf I).1 _) lkX6_isName mnX4_86 lsX6_isName ⟨Nat.le_of_ble_eq_true rfl, Nat.le_of_ble_eq_true rfl⟩ ⟨Nat.le_of_ble_eq_true rfl, Nat.le_of_ble_eq_true rfl⟩ (Nat.le_of_ble_eq_true rfl) (dk rfl) ?_
  rintro _ ⟨b19, rfl, hb20, hn21⟩
  refine br_ok X (dk rfl) rfl (show ((23 : Nat) : Int) + 19 = ((42 : Nat) : Int) from rfl) (fun c22 => ?_) (fun c23 => ?_)
  · refine fst1_ok X (dk rfl) rfl ?_
    refine callNR_ok (av := [.int _]) (r := []) X E (c6_isName _ (TI.rf I).1 _) lkX6_isName mnX4_86 lsX6_isName ⟨Nat.le_of_ble_eq_true rfl, Nat.le_of_ble_eq_true rfl⟩ ⟨Nat.le_of_ble_eq_true rfl, Nat.le_of_ble_eq_true rfl⟩ (Nat.le_of_ble_eq_true rfl) (dk rfl) ?_
    rintro _ ⟨b24, rfl, hb25, hn26⟩
    refine br_ok X (dk rfl) rfl (show ((47 : Nat) : Int) + 17 = ((64 : Nat) : Int) from rfl) (fun c27 => ?_) (fun c28 => ?_)
    · exact retv_ok X hr hlk (dk rfl) ⟨rfl, (TI.rf I)⟩ (Nat.le_of_ble_eq_true rfl) (Nat.le_of_ble_eq_true rfl)
    · iterate 2 refine fst1_ok X (dk rfl) rfl ?_
      refine br_ok X (dk rfl) rfl (show ((53 : Nat) : Int) + 11 = ((64 : Nat) : Int) from rfl) (fun c29 => ?_) (fun c30 => ?_)
      · exact retv_ok X hr hlk (dk rfl) ⟨rfl, (TI.rf I)⟩ (Nat.le_of_ble_eq_true rfl) (Nat.le_of_ble_eq_true rfl)
      · refine fst1_ok X (dk rfl) rfl ?_
        refine getf_ok X flX4_20 (dk rfl) hx8 rfl ?_
        iterate 2 refine fst1_ok X (dk rfl) rfl ?_
        obtain ⟨xs31, hx32, hn33⟩ := rw_open (TI.rf I).1 gs6
        refine astT_ok X (dk rfl) hx32 (inN_pos (hb25 (bI_nz c28)) (by decide)) (by rw [hn33]; exact inN_ix (hb25 (bI_nz c28)) (by decide)) (TI.rf I) gs6 (rowφ_set hn33 _ _) (fun h34 J35 ho36 => ?_)
        have hx37 := (ho36 o0 (k_ne hx8 hx32 (by decide))).trans hx8
        exact retv_ok X hr hlk (dk rfl) ⟨rfl, J35⟩ (Nat.le_of_ble_eq_true rfl) (Nat.le_of_ble_eq_true rfl)
  · iterate 2 refine fst1_ok X (dk rfl) rfl ?_
    refine br_ok X (dk rfl) rfl (show ((29 : Nat) : Int) + 13 = ((42 : Nat) : Int) from rfl) (fun c38 => ?_) (fun c39 => ?_)
    · refine fst1_ok X (dk rfl) rfl ?_
      refine callNR_ok (av := [.int _]) (r := []) X E (c6_isName _ (TI.rf I).1 _) lkX6_isName mnX4_86 lsX6_isName ⟨Nat.le_of_ble_eq_true rfl, Nat.le_of_ble_eq_true rfl⟩ ⟨Nat.le_of_ble_eq_true rfl, Nat.le_of_ble_eq_true rfl⟩ (Nat.le_of_ble_eq_true rfl) (dk rfl) ?_
      rintro _ ⟨b40, rfl, hb41, hn42⟩
      refine br_ok X (dk rfl) rfl (show ((47 : Nat) : Int) + 17 = ((64 : Nat) : Int) from rfl) (fun c43 => ?_) (fun c44 => ?_)
      · exact retv_ok X hr hlk (dk rfl) ⟨rfl, (TI.rf I)⟩ (Nat.le_of_ble_eq_true rfl) (Nat.le_of_ble_eq_true rfl)
      · iterate 2 refine fst1_ok X (dk rfl) rfl ?_
        refine br_ok X (dk rfl) rfl (show ((53 : Nat) : Int) + 11 = ((64 : Nat) : Int) from rfl) (fun c45 => ?_) (fun c46 => ?_)
        · exact retv_ok X hr hlk (dk rfl) ⟨rfl, (TI.rf I)⟩ (Nat.le_of_ble_eq_true rfl) (Nat.le_of_ble_eq_true rfl)
        · refine fst1_ok X (dk rfl) rfl ?_
          refine getf_ok X flX4_20 (dk rfl) hx8 rfl ?_
          iterate 2 refine fst1_ok X (dk rfl) rfl ?_
          obtain ⟨xs47, hx48, hn49⟩ := rw_open (TI.rf I).1 gs6
          refine astT_ok X (dk rfl) hx48 (inN_pos (hb41 (bI_nz c44)) (by decide)) (by rw [hn49]; exact inN_ix (hb41 (bI_nz c44)) (by decide)) (TI.rf I) gs6 (rowφ_set hn49 _ _) (fun h50 J51 ho52 => ?_)
          have hx53 := (ho52 o0 (k_ne hx8 hx48 (by decide))).trans hx8
          exact retv_ok X hr hlk (dk rfl) ⟨rfl, J51⟩ (Nat.le_of_ble_eq_true rfl) (Nat.le_of_ble_eq_true rfl)
    · refine fst1_ok X (dk rfl) rfl ?_
      refine getf_ok X flX4_20 (dk rfl) hx8 rfl ?_
      iterate 2 refine fst1_ok X (dk rfl) rfl ?_
      obtain ⟨xs54, hx55, hn56⟩ := rw_open (TI.rf I).1 gs6
      refine astT_ok X (dk rfl) hx55 (inN_pos (hb20 (bI_nz c23)) (by decide)) (by rw [hn56]; exact inN_ix (hb20 (bI_nz c23)) (by decide)) (TI.rf I) gs6 (rowφ_set hn56 _ _) (fun h57 J58 ho59 => ?_)
      have hx60 := (ho59 o0 (k_ne hx8 hx55 (by decide))).trans hx8
      refine br_ok X (dk rfl) rfl (show ((39 : Nat) : Int) + 25 = ((64 : Nat) : Int) from rfl) (fun _ => ?_) (fun q => absurd trivial q)
      exact retv_ok X hr hlk (dk rfl) ⟨rfl, J58⟩ (Nat.le_of_ble_eq_true rfl) (Nat.le_of_ble_eq_true rfl)
set_option maxHeartbeats 4000000 in
theorem FZ.c4_standFor (h : AH) (I : Tyg Γ h) {o0 : Nat} (T0 : StepsT Γ o0) (x1 : Int32) (x2 : Int32) : CT la D cA B0 pa yX4_standFor cX4_standFor 6 none (rmD 2 0 0) [.ref o0, .int (x1), .int (x2)] h (WrO Γ voidP h) := by
  refine CT_of (by decide +kernel) (Nat.le_of_ble_eq_true rfl) ?_
  intro p e s m args below meth c X E hr hlk hnm
  have dk : ∀ {pc : Nat} {q : Instr × Nat}, lkd DX4_standFor pc = some q → decode cX4_standFor pc = .ok q := lkd_ok DX4_standFor_ok
  obtain ⟨bo1, st2, pr3, gb4, tb5, gs6, tp7⟩ := id T0
  have L20 : ∀ j8 : Int32, ∀ (y9 : Int32) (h13 : AH) (J14 : TI Γ h h13) (l : List (Nat × Value)), lsel l [4, 3, 2, 1, 0] = [(4, .int (j8)), (3, .int (y9)), (2, .int (x2)), (1, .int (x1)), (0, .ref o0)] → WR p la e (rmD 2 0 0) s m args below meth c D cA B0 6 (WrO Γ voidP h) 20 l [] h13 0 0 := by
    refine loopUp (fun j8 ih20 => ?_)
    intro y9 h13 J14 l hl
    refine WS.sel [4, 3, 2, 1, 0] hl ?_
    iterate 2 refine fst1_ok X (dk rfl) rfl ?_
    refine br_ok X (dk rfl) rfl (show ((24 : Nat) : Int) + 77 = ((101 : Nat) : Int) from rfl) (fun c15 => ?_) (fun c16 => ?_)
    · iterate 6 refine fst1_ok X (dk rfl) rfl ?_
      refine br_ok X (dk rfl) rfl (show ((107 : Nat) : Int) + 11 = ((118 : Nat) : Int) from rfl) (fun c17 => ?_) (fun c18 => ?_)
      · refine fst1_ok X (dk rfl) rfl ?_
        refine callNR_ok (av := [.int _]) (r := []) X E (c6_isName _ J14.1 _) lkX6_isName mnX4_86 lsX6_isName ⟨Nat.le_of_ble_eq_true rfl, Nat.le_of_ble_eq_true rfl⟩ ⟨Nat.le_of_ble_eq_true rfl, Nat.le_of_ble_eq_true rfl⟩ (Nat.le_of_ble_eq_true rfl) (dk rfl) ?_
        rintro _ ⟨b19, rfl, hb20, hn21⟩
        refine br_ok X (dk rfl) rfl (show ((122 : Nat) : Int) + 10 = ((132 : Nat) : Int) from rfl) (fun c22 => ?_) (fun c23 => ?_)
        · exact retv_ok X hr hlk (dk rfl) ⟨rfl, J14⟩ (Nat.le_of_ble_eq_true rfl) (Nat.le_of_ble_eq_true rfl)
        · refine fst1_ok X (dk rfl) rfl ?_
          obtain ⟨t25, e26, hx24⟩ := st_open J14.1 gb4
          refine getf_ok X flX4_20 (dk rfl) hx24 rfl ?_
          iterate 2 refine fst1_ok X (dk rfl) rfl ?_
          obtain ⟨xs27, hx28, hn29⟩ := rw_open J14.1 gs6
          refine astT_ok X (dk rfl) hx28 (inN_pos (hb20 (bI_nz c23)) (by decide)) (by rw [hn29]; exact inN_ix (hb20 (bI_nz c23)) (by decide)) J14 gs6 (rowφ_set hn29 _ _) (fun h30 J31 ho32 => ?_)
          have hx33 := (ho32 o0 (k_ne hx24 hx28 (by decide))).trans hx24
          exact retv_ok X hr hlk (dk rfl) ⟨rfl, J31⟩ (Nat.le_of_ble_eq_true rfl) (Nat.le_of_ble_eq_true rfl)
      · iterate 2 refine fst1_ok X (dk rfl) rfl ?_
        obtain ⟨t35, e36, hx34⟩ := st_open J14.1 gb4
        refine putT_ok X flX4_56 ftX4_4 rfl rfl (dk rfl) hx34 (Nat.le_of_ble_eq_true rfl) J14 gb4 rfl (st_set4 _) (fun h37 J38 hx39 ho40 => ?_)
        refine br_ok X (dk rfl) rfl (show ((115 : Nat) : Int) + 17 = ((132 : Nat) : Int) from rfl) (fun _ => ?_) (fun q => absurd trivial q)
        exact retv_ok X hr hlk (dk rfl) ⟨rfl, J38⟩ (Nat.le_of_ble_eq_true rfl) (Nat.le_of_ble_eq_true rfl)
    · iterate 2 refine fst1_ok X (dk rfl) rfl ?_
      have L30 : ∀ j41 : Nat, j41 ≤ 8 → ∀ (y43 : Int32) (h47 : AH) (J48 : TI Γ h h47) (l : List (Nat × Value)), lsel l [5, 4, 3, 2, 1, 0] = [(5, vI j41), (4, .int (j8)), (3, .int (y43)), (2, .int (x2)), (1, .int (x1)), (0, .ref o0)] → WR p la e (rmD 2 0 0) s m args below meth c D cA B0 6 (WrO Γ voidP h) 30 l [] h47 0 0 := by
        refine loopN (fun j41 hj41 ih30 => ?_)
        intro y43 h47 J48 l hl
        refine WS.sel [5, 4, 3, 2, 1, 0] hl ?_
        iterate 2 refine fst1_ok X (dk rfl) rfl ?_
        refine br_ok X (dk rfl) rfl (show ((34 : Nat) : Int) + 61 = ((95 : Nat) : Int) from rfl) (fun c49 => ?_) (fun c50 => ?_)
        · refine fst1_ok X (dk rfl) rfl ?_
          refine br_ok X (dk rfl) rfl (show ((98 : Nat) : Int) + (-78) = ((20 : Nat) : Int) from rfl) (fun _ => ?_) (fun q => absurd trivial q)
          exact ih20 _ (nlt_of c16) _ h47 J48 _ rfl
        · iterate 6 refine fst1_ok X (dk rfl) rfl ?_
          refine br_ok X (dk rfl) rfl (show ((44 : Nat) : Int) + 45 = ((89 : Nat) : Int) from rfl) (fun c51 => ?_) (fun c52 => ?_)
          · refine fst1_ok X (dk rfl) rfl ?_
            refine br_ok X (dk rfl) rfl (show ((92 : Nat) : Int) + (-62) = ((30 : Nat) : Int) from rfl) (fun _ => ?_) (fun q => absurd trivial q)
            exact ih30 (nat_lt (K := 8) (by omega) (by rw [show nI 8 = (Int8.ofInt 8).toInt32 by decide +kernel]; exact c50)) _ h47 J48 _ (by rw [← vI_succ j41]; rfl)
          · refine fst1_ok X (dk rfl) rfl ?_
            obtain ⟨t54, e55, hx53⟩ := st_open J48.1 gb4
            refine getf_ok X flX4_20 (dk rfl) hx53 rfl ?_
            refine fst1_ok X (dk rfl) rfl ?_
            obtain ⟨xs56, hx57, hn58⟩ := rw_open J48.1 gs6
            refine ald7_ok X (dk rfl) hx57 (nI_pos (by omega)) (by rw [hn58]; exact ix_ok (by omega) (nI_pos (by omega)) (by rw [show nI 8 = (Int8.ofInt 8).toInt32 by decide +kernel]; exact c50)) (fun x59 hm60 => ?_)
            refine fst1_ok X (dk rfl) rfl ?_
            refine br_ok X (dk rfl) rfl (show ((55 : Nat) : Int) + 34 = ((89 : Nat) : Int) from rfl) (fun c61 => ?_) (fun c62 => ?_)
            · refine fst1_ok X (dk rfl) rfl ?_
              refine br_ok X (dk rfl) rfl (show ((92 : Nat) : Int) + (-62) = ((30 : Nat) : Int) from rfl) (fun _ => ?_) (fun q => absurd trivial q)
              exact ih30 (nat_lt (K := 8) (by omega) (by rw [show nI 8 = (Int8.ofInt 8).toInt32 by decide +kernel]; exact c50)) _ h47 J48 _ (by rw [← vI_succ j41]; rfl)
            · iterate 2 refine fst1_ok X (dk rfl) rfl ?_
              refine getf_ok X flX4_14 (dk rfl) hx53 rfl ?_
              refine fst1_ok X (dk rfl) rfl ?_
              refine getf_ok X flX4_20 (dk rfl) hx53 rfl ?_
              refine fst1_ok X (dk rfl) rfl ?_
              refine ald7_ok X (dk rfl) hx57 (nI_pos (by omega)) (by rw [hn58]; exact ix_ok (by omega) (nI_pos (by omega)) (by rw [show nI 8 = (Int8.ofInt 8).toInt32 by decide +kernel]; exact c50)) (fun x63 hm64 => ?_)
              refine fst1_ok X (dk rfl) rfl ?_
              refine getf_ok X flX4_14 (dk rfl) hx53 rfl ?_
              refine fst1_ok X (dk rfl) rfl ?_
              refine getf_ok X flX4_20 (dk rfl) hx53 rfl ?_
              refine fst1_ok X (dk rfl) rfl ?_
              refine ald7_ok X (dk rfl) hx57 (nI_pos (by omega)) (by rw [hn58]; exact ix_ok (by omega) (nI_pos (by omega)) (by rw [show nI 8 = (Int8.ofInt 8).toInt32 by decide +kernel]; exact c50)) (fun x65 hm66 => ?_)
              obtain ⟨hL68, q67, gb69, gl70⟩ := id tb5
              refine callVR_ok (ci := 7) (T := TX5) (N := 3) (av := [.int _]) (r := [_, _, _]) X E (c5_endOf _ J48.1 tb5 _) lkX5_endOf mlX4_100 lmX5_endOf lpX5_endOf ⟨Nat.le_of_ble_eq_true rfl, Nat.le_of_ble_eq_true rfl⟩ ⟨Nat.le_of_ble_eq_true rfl, Nat.le_of_ble_eq_true rfl⟩ rfl (tm_cell J48.1 gb69) (Nat.le_of_ble_eq_true rfl) (dk rfl) ?_
              rintro _ ⟨x71, rfl⟩
              refine callVR_ok (ci := 7) (T := TX5) (N := 3) (av := [.int _, .int _]) (r := [_]) X E (c5_namesIn _ J48.1 tb5 _ _) lkX5_namesIn mlX4_103 lmX5_namesIn lpX5_namesIn ⟨Nat.le_of_ble_eq_true rfl, Nat.le_of_ble_eq_true rfl⟩ ⟨Nat.le_of_ble_eq_true rfl, Nat.le_of_ble_eq_true rfl⟩ rfl (tm_cell J48.1 gb69) (Nat.le_of_ble_eq_true rfl) (dk rfl) ?_
              rintro _ ⟨x72, rfl⟩
              iterate 3 refine fst1_ok X (dk rfl) rfl ?_
              refine br_ok X (dk rfl) rfl (show ((92 : Nat) : Int) + (-62) = ((30 : Nat) : Int) from rfl) (fun _ => ?_) (fun q => absurd trivial q)
              exact ih30 (nat_lt (K := 8) (by omega) (by rw [show nI 8 = (Int8.ofInt 8).toInt32 by decide +kernel]; exact c50)) _ h47 J48 _ (by rw [← vI_succ j41]; rfl)
      exact L30 0 (by omega) _ h13 J14 _ rfl
  refine fst1_ok X (dk rfl) rfl ?_
  obtain ⟨t74, e75, hx73⟩ := st_open (TI.rf I).1 gb4
  refine getf_ok X flX4_14 (dk rfl) hx73 rfl ?_
  iterate 2 refine fst1_ok X (dk rfl) rfl ?_
  refine getf_ok X flX4_14 (dk rfl) hx73 rfl ?_
  refine fst1_ok X (dk rfl) rfl ?_
  obtain ⟨hL77, q76, gb78, gl79⟩ := id tb5
  refine callVR_ok (ci := 7) (T := TX5) (N := 3) (av := [.int _]) (r := [_, _]) X E (c5_endOf _ (TI.rf I).1 tb5 _) lkX5_endOf mlX4_100 lmX5_endOf lpX5_endOf ⟨Nat.le_of_ble_eq_true rfl, Nat.le_of_ble_eq_true rfl⟩ ⟨Nat.le_of_ble_eq_true rfl, Nat.le_of_ble_eq_true rfl⟩ rfl (tm_cell (TI.rf I).1 gb78) (Nat.le_of_ble_eq_true rfl) (dk rfl) ?_
  rintro _ ⟨x80, rfl⟩
  refine callVR_ok (ci := 7) (T := TX5) (N := 3) (av := [.int _, .int _]) (r := []) X E (c5_namesIn _ (TI.rf I).1 tb5 _ _) lkX5_namesIn mlX4_103 lmX5_namesIn lpX5_namesIn ⟨Nat.le_of_ble_eq_true rfl, Nat.le_of_ble_eq_true rfl⟩ ⟨Nat.le_of_ble_eq_true rfl, Nat.le_of_ble_eq_true rfl⟩ rfl (tm_cell (TI.rf I).1 gb78) (Nat.le_of_ble_eq_true rfl) (dk rfl) ?_
  rintro _ ⟨x81, rfl⟩
  iterate 3 refine fst1_ok X (dk rfl) rfl ?_
  exact L20 _ _ h (TI.rf I) _ rfl
set_option maxHeartbeats 4000000 in
theorem FZ.c4_takeStep (h : AH) (I : Tyg Γ h) {o0 : Nat} (T0 : StepsT Γ o0) : CT la D cA B0 pa yX4_takeStep cX4_takeStep 6 none (rmD 3 0 0) [.ref o0] h (WrO Γ voidP h) := by
  refine CT_of (by decide +kernel) (Nat.le_of_ble_eq_true rfl) ?_
  intro p e s m args below meth c X E hr hlk hnm
  have dk : ∀ {pc : Nat} {q : Instr × Nat}, lkd DX4_takeStep pc = some q → decode cX4_takeStep pc = .ok q := lkd_ok DX4_takeStep_ok
  obtain ⟨bo1, st2, pr3, gb4, tb5, gs6, tp7⟩ := id T0
  iterate 2 refine fst1_ok X (dk rfl) rfl ?_
  obtain ⟨t9, e10, hx8⟩ := st_open (TI.rf I).1 gb4
  refine getf_ok X flX4_52 (dk rfl) hx8 rfl ?_
  iterate 2 refine fst1_ok X (dk rfl) rfl ?_
  refine putT_ok X flX4_52 ftX4_3 rfl rfl (dk rfl) hx8 (Nat.le_of_ble_eq_true rfl) (TI.rf I) gb4 rfl (st_set3 _) (fun h11 J12 hx13 ho14 => ?_)
  refine fst1_ok X (dk rfl) rfl ?_
  refine getf_ok X flX4_27 (dk rfl) hx13 rfl ?_
  obtain ⟨a15, a16, gb17, g18, g19⟩ := id tp7
  refine callVR_ok (ci := 4) (T := TX2) (N := 3) (av := []) (r := []) X E (c2_length _ J12.1 tp7) lkX2_length mlX4_60 lmX2_length lpX2_length ⟨Nat.le_of_ble_eq_true rfl, Nat.le_of_ble_eq_true rfl⟩ ⟨Nat.le_of_ble_eq_true rfl, Nat.le_of_ble_eq_true rfl⟩ rfl (pr_cell J12.1 gb17) (Nat.le_of_ble_eq_true rfl) (dk rfl) ?_
  rintro _ ⟨n20, hn21, rfl⟩
  iterate 5 refine fst1_ok X (dk rfl) rfl ?_
  refine getf_ok X flX4_27 (dk rfl) hx13 rfl ?_
  refine fst1_ok X (dk rfl) rfl ?_
  refine callVR_ok (ci := 4) (T := TX2) (N := 3) (av := [.int _]) (r := [_]) X E (c2_oneAt _ J12.1 tp7 _) lkX2_oneAt mlX4_70 lmX2_oneAt lpX2_oneAt ⟨Nat.le_of_ble_eq_true rfl, Nat.le_of_ble_eq_true rfl⟩ ⟨Nat.le_of_ble_eq_true rfl, Nat.le_of_ble_eq_true rfl⟩ rfl (pr_cell J12.1 gb17) (Nat.le_of_ble_eq_true rfl) (dk rfl) ?_
  rintro _ ⟨x22, rfl⟩
  refine callVR_ok (ci := 6) (T := TX4) (N := 5) (av := [.int _]) (r := []) X E (c4_lookedUp _ J12.1 T0 _) lkX4_lookedUp mlX4_74 lmX4_lookedUp lpX4_lookedUp ⟨Nat.le_of_ble_eq_true rfl, Nat.le_of_ble_eq_true rfl⟩ ⟨Nat.le_of_ble_eq_true rfl, Nat.le_of_ble_eq_true rfl⟩ rfl (st_cell J12.1 gb4) (Nat.le_of_ble_eq_true rfl) (dk rfl) ?_
  rintro _ ⟨x23, rfl⟩
  iterate 3 refine fst1_ok X (dk rfl) rfl ?_
  refine getf_ok X flX4_27 (dk rfl) hx13 rfl ?_
  refine fst1_ok X (dk rfl) rfl ?_
  refine callVR_ok (ci := 4) (T := TX2) (N := 3) (av := [.int _]) (r := [_]) X E (c2_otherAt _ J12.1 tp7 _) lkX2_otherAt mlX4_77 lmX2_otherAt lpX2_otherAt ⟨Nat.le_of_ble_eq_true rfl, Nat.le_of_ble_eq_true rfl⟩ ⟨Nat.le_of_ble_eq_true rfl, Nat.le_of_ble_eq_true rfl⟩ rfl (pr_cell J12.1 gb17) (Nat.le_of_ble_eq_true rfl) (dk rfl) ?_
  rintro _ ⟨x24, rfl⟩
  refine callVR_ok (ci := 6) (T := TX4) (N := 5) (av := [.int _]) (r := []) X E (c4_lookedUp _ J12.1 T0 _) lkX4_lookedUp mlX4_74 lmX4_lookedUp lpX4_lookedUp ⟨Nat.le_of_ble_eq_true rfl, Nat.le_of_ble_eq_true rfl⟩ ⟨Nat.le_of_ble_eq_true rfl, Nat.le_of_ble_eq_true rfl⟩ rfl (st_cell J12.1 gb4) (Nat.le_of_ble_eq_true rfl) (dk rfl) ?_
  rintro _ ⟨x25, rfl⟩
  iterate 2 refine fst1_ok X (dk rfl) rfl ?_
  refine getf_ok X flX4_27 (dk rfl) hx13 rfl ?_
  refine callVW_ok (ci := 4) (T := TX2) (N := 3) (av := []) (r := []) X E J12 (c2_dropNext _ J12.1 tp7) lkX2_dropNext mlX4_80 lmX2_dropNext lpX2_dropNext ⟨Nat.le_of_ble_eq_true rfl, Nat.le_of_ble_eq_true rfl⟩ ⟨Nat.le_of_ble_eq_true rfl, Nat.le_of_ble_eq_true rfl⟩ rfl (pr_cell J12.1 gb17) (Nat.le_of_ble_eq_true rfl) (dk rfl) ?_
  rintro _ h26 rfl J27
  refine fst1_ok X (dk rfl) rfl ?_
  obtain ⟨t29, e30, hx28⟩ := st_open J27.1 gb4
  refine getf_ok X flX4_14 (dk rfl) hx28 rfl ?_
  refine fst1_ok X (dk rfl) rfl ?_
  obtain ⟨hL32, q31, gb33, gl34⟩ := id tb5
  refine callVR_ok (ci := 7) (T := TX5) (N := 3) (av := [.int _]) (r := []) X E (c5_letterAt _ J27.1 tb5 _) lkX5_letterAt mlX4_83 lmX5_letterAt lpX5_letterAt ⟨Nat.le_of_ble_eq_true rfl, Nat.le_of_ble_eq_true rfl⟩ ⟨Nat.le_of_ble_eq_true rfl, Nat.le_of_ble_eq_true rfl⟩ rfl (tm_cell J27.1 gb33) (Nat.le_of_ble_eq_true rfl) (dk rfl) ?_
  rintro _ ⟨x35, hx36, rfl⟩
  iterate 2 refine fst1_ok X (dk rfl) rfl ?_
  refine getf_ok X flX4_14 (dk rfl) hx28 rfl ?_
  refine fst1_ok X (dk rfl) rfl ?_
  refine callVR_ok (ci := 7) (T := TX5) (N := 3) (av := [.int _]) (r := []) X E (c5_letterAt _ J27.1 tb5 _) lkX5_letterAt mlX4_83 lmX5_letterAt lpX5_letterAt ⟨Nat.le_of_ble_eq_true rfl, Nat.le_of_ble_eq_true rfl⟩ ⟨Nat.le_of_ble_eq_true rfl, Nat.le_of_ble_eq_true rfl⟩ rfl (tm_cell J27.1 gb33) (Nat.le_of_ble_eq_true rfl) (dk rfl) ?_
  rintro _ ⟨x37, hx38, rfl⟩
  iterate 2 refine fst1_ok X (dk rfl) rfl ?_
  refine callNR_ok (av := [.int _]) (r := []) X E (c6_isName _ J27.1 _) lkX6_isName mnX4_86 lsX6_isName ⟨Nat.le_of_ble_eq_true rfl, Nat.le_of_ble_eq_true rfl⟩ ⟨Nat.le_of_ble_eq_true rfl, Nat.le_of_ble_eq_true rfl⟩ (Nat.le_of_ble_eq_true rfl) (dk rfl) ?_
  rintro _ ⟨b39, rfl, hb40, hn41⟩
  refine br_ok X (dk rfl) rfl (show ((78 : Nat) : Int) + 20 = ((98 : Nat) : Int) from rfl) (fun c42 => ?_) (fun c43 => ?_)
  · refine fst1_ok X (dk rfl) rfl ?_
    refine callNR_ok (av := [.int _]) (r := []) X E (c6_isName _ J27.1 _) lkX6_isName mnX4_86 lsX6_isName ⟨Nat.le_of_ble_eq_true rfl, Nat.le_of_ble_eq_true rfl⟩ ⟨Nat.le_of_ble_eq_true rfl, Nat.le_of_ble_eq_true rfl⟩ (Nat.le_of_ble_eq_true rfl) (dk rfl) ?_
    rintro _ ⟨b44, rfl, hb45, hn46⟩
    refine br_ok X (dk rfl) rfl (show ((103 : Nat) : Int) + 13 = ((116 : Nat) : Int) from rfl) (fun c47 => ?_) (fun c48 => ?_)
    · refine fst1_ok X (dk rfl) rfl ?_
      refine callNR_ok (av := [.int _]) (r := []) X E (c6_isName _ J27.1 _) lkX6_isName mnX4_86 lsX6_isName ⟨Nat.le_of_ble_eq_true rfl, Nat.le_of_ble_eq_true rfl⟩ ⟨Nat.le_of_ble_eq_true rfl, Nat.le_of_ble_eq_true rfl⟩ (Nat.le_of_ble_eq_true rfl) (dk rfl) ?_
      rintro _ ⟨b49, rfl, hb50, hn51⟩
      refine br_ok X (dk rfl) rfl (show ((121 : Nat) : Int) + 13 = ((134 : Nat) : Int) from rfl) (fun c52 => ?_) (fun c53 => ?_)
      · iterate 2 refine fst1_ok X (dk rfl) rfl ?_
        refine br_ok X (dk rfl) rfl (show ((138 : Nat) : Int) + 11 = ((149 : Nat) : Int) from rfl) (fun c54 => ?_) (fun c55 => ?_)
        · refine fst1_ok X (dk rfl) rfl ?_
          refine getf_ok X flX4_27 (dk rfl) hx28 rfl ?_
          refine fst1_ok X (dk rfl) rfl ?_
          refine getf_ok X flX4_14 (dk rfl) hx28 rfl ?_
          iterate 2 refine fst1_ok X (dk rfl) rfl ?_
          refine callVW_ok (ci := 4) (T := TX2) (N := 3) (av := [.ref _, .int _, .int _]) (r := []) X E J27 (c2_addParts _ J27.1 tp7 tb5 _ _) lkX2_addParts mlX4_96 lmX2_addParts lpX2_addParts ⟨Nat.le_of_ble_eq_true rfl, Nat.le_of_ble_eq_true rfl⟩ ⟨Nat.le_of_ble_eq_true rfl, Nat.le_of_ble_eq_true rfl⟩ rfl (pr_cell J27.1 gb17) (Nat.le_of_ble_eq_true rfl) (dk rfl) ?_
          rintro _ h56 rfl J57
          exact retv_ok X hr hlk (dk rfl) ⟨rfl, J57⟩ (Nat.le_of_ble_eq_true rfl) (Nat.le_of_ble_eq_true rfl)
        · iterate 2 refine fst1_ok X (dk rfl) rfl ?_
          refine putT_ok X flX4_56 ftX4_4 rfl rfl (dk rfl) hx28 (Nat.le_of_ble_eq_true rfl) J27 gb4 rfl (st_set4 _) (fun h58 J59 hx60 ho61 => ?_)
          refine br_ok X (dk rfl) rfl (show ((146 : Nat) : Int) + 16 = ((162 : Nat) : Int) from rfl) (fun _ => ?_) (fun q => absurd trivial q)
          exact retv_ok X hr hlk (dk rfl) ⟨rfl, J59⟩ (Nat.le_of_ble_eq_true rfl) (Nat.le_of_ble_eq_true rfl)
      · iterate 3 refine fst1_ok X (dk rfl) rfl ?_
        refine callVW_ok (ci := 6) (T := TX4) (N := 5) (av := [.int _, .int _]) (r := []) X E J27 (c4_standFor _ J27.1 T0 _ _) lkX4_standFor mlX4_93 lmX4_standFor lpX4_standFor ⟨Nat.le_of_ble_eq_true rfl, Nat.le_of_ble_eq_true rfl⟩ ⟨Nat.le_of_ble_eq_true rfl, Nat.le_of_ble_eq_true rfl⟩ rfl (st_cell J27.1 gb4) (Nat.le_of_ble_eq_true rfl) (dk rfl) ?_
        rintro _ h62 rfl J63
        refine br_ok X (dk rfl) rfl (show ((131 : Nat) : Int) + 31 = ((162 : Nat) : Int) from rfl) (fun _ => ?_) (fun q => absurd trivial q)
        exact retv_ok X hr hlk (dk rfl) ⟨rfl, J63⟩ (Nat.le_of_ble_eq_true rfl) (Nat.le_of_ble_eq_true rfl)
    · iterate 3 refine fst1_ok X (dk rfl) rfl ?_
      refine callVW_ok (ci := 6) (T := TX4) (N := 5) (av := [.int _, .int _]) (r := []) X E J27 (c4_standFor _ J27.1 T0 _ _) lkX4_standFor mlX4_93 lmX4_standFor lpX4_standFor ⟨Nat.le_of_ble_eq_true rfl, Nat.le_of_ble_eq_true rfl⟩ ⟨Nat.le_of_ble_eq_true rfl, Nat.le_of_ble_eq_true rfl⟩ rfl (st_cell J27.1 gb4) (Nat.le_of_ble_eq_true rfl) (dk rfl) ?_
      rintro _ h64 rfl J65
      refine br_ok X (dk rfl) rfl (show ((113 : Nat) : Int) + 49 = ((162 : Nat) : Int) from rfl) (fun _ => ?_) (fun q => absurd trivial q)
      exact retv_ok X hr hlk (dk rfl) ⟨rfl, J65⟩ (Nat.le_of_ble_eq_true rfl) (Nat.le_of_ble_eq_true rfl)
  · refine fst1_ok X (dk rfl) rfl ?_
    refine callNR_ok (av := [.int _]) (r := []) X E (c6_isName _ J27.1 _) lkX6_isName mnX4_86 lsX6_isName ⟨Nat.le_of_ble_eq_true rfl, Nat.le_of_ble_eq_true rfl⟩ ⟨Nat.le_of_ble_eq_true rfl, Nat.le_of_ble_eq_true rfl⟩ (Nat.le_of_ble_eq_true rfl) (dk rfl) ?_
    rintro _ ⟨b66, rfl, hb67, hn68⟩
    refine br_ok X (dk rfl) rfl (show ((86 : Nat) : Int) + 12 = ((98 : Nat) : Int) from rfl) (fun c69 => ?_) (fun c70 => ?_)
    · refine fst1_ok X (dk rfl) rfl ?_
      refine callNR_ok (av := [.int _]) (r := []) X E (c6_isName _ J27.1 _) lkX6_isName mnX4_86 lsX6_isName ⟨Nat.le_of_ble_eq_true rfl, Nat.le_of_ble_eq_true rfl⟩ ⟨Nat.le_of_ble_eq_true rfl, Nat.le_of_ble_eq_true rfl⟩ (Nat.le_of_ble_eq_true rfl) (dk rfl) ?_
      rintro _ ⟨b71, rfl, hb72, hn73⟩
      refine br_ok X (dk rfl) rfl (show ((103 : Nat) : Int) + 13 = ((116 : Nat) : Int) from rfl) (fun c74 => ?_) (fun c75 => ?_)
      · refine fst1_ok X (dk rfl) rfl ?_
        refine callNR_ok (av := [.int _]) (r := []) X E (c6_isName _ J27.1 _) lkX6_isName mnX4_86 lsX6_isName ⟨Nat.le_of_ble_eq_true rfl, Nat.le_of_ble_eq_true rfl⟩ ⟨Nat.le_of_ble_eq_true rfl, Nat.le_of_ble_eq_true rfl⟩ (Nat.le_of_ble_eq_true rfl) (dk rfl) ?_
        rintro _ ⟨b76, rfl, hb77, hn78⟩
        refine br_ok X (dk rfl) rfl (show ((121 : Nat) : Int) + 13 = ((134 : Nat) : Int) from rfl) (fun c79 => ?_) (fun c80 => ?_)
        · iterate 2 refine fst1_ok X (dk rfl) rfl ?_
          refine br_ok X (dk rfl) rfl (show ((138 : Nat) : Int) + 11 = ((149 : Nat) : Int) from rfl) (fun c81 => ?_) (fun c82 => ?_)
          · refine fst1_ok X (dk rfl) rfl ?_
            refine getf_ok X flX4_27 (dk rfl) hx28 rfl ?_
            refine fst1_ok X (dk rfl) rfl ?_
            refine getf_ok X flX4_14 (dk rfl) hx28 rfl ?_
            iterate 2 refine fst1_ok X (dk rfl) rfl ?_
            refine callVW_ok (ci := 4) (T := TX2) (N := 3) (av := [.ref _, .int _, .int _]) (r := []) X E J27 (c2_addParts _ J27.1 tp7 tb5 _ _) lkX2_addParts mlX4_96 lmX2_addParts lpX2_addParts ⟨Nat.le_of_ble_eq_true rfl, Nat.le_of_ble_eq_true rfl⟩ ⟨Nat.le_of_ble_eq_true rfl, Nat.le_of_ble_eq_true rfl⟩ rfl (pr_cell J27.1 gb17) (Nat.le_of_ble_eq_true rfl) (dk rfl) ?_
            rintro _ h83 rfl J84
            exact retv_ok X hr hlk (dk rfl) ⟨rfl, J84⟩ (Nat.le_of_ble_eq_true rfl) (Nat.le_of_ble_eq_true rfl)
          · iterate 2 refine fst1_ok X (dk rfl) rfl ?_
            refine putT_ok X flX4_56 ftX4_4 rfl rfl (dk rfl) hx28 (Nat.le_of_ble_eq_true rfl) J27 gb4 rfl (st_set4 _) (fun h85 J86 hx87 ho88 => ?_)
            refine br_ok X (dk rfl) rfl (show ((146 : Nat) : Int) + 16 = ((162 : Nat) : Int) from rfl) (fun _ => ?_) (fun q => absurd trivial q)
            exact retv_ok X hr hlk (dk rfl) ⟨rfl, J86⟩ (Nat.le_of_ble_eq_true rfl) (Nat.le_of_ble_eq_true rfl)
        · iterate 3 refine fst1_ok X (dk rfl) rfl ?_
          refine callVW_ok (ci := 6) (T := TX4) (N := 5) (av := [.int _, .int _]) (r := []) X E J27 (c4_standFor _ J27.1 T0 _ _) lkX4_standFor mlX4_93 lmX4_standFor lpX4_standFor ⟨Nat.le_of_ble_eq_true rfl, Nat.le_of_ble_eq_true rfl⟩ ⟨Nat.le_of_ble_eq_true rfl, Nat.le_of_ble_eq_true rfl⟩ rfl (st_cell J27.1 gb4) (Nat.le_of_ble_eq_true rfl) (dk rfl) ?_
          rintro _ h89 rfl J90
          refine br_ok X (dk rfl) rfl (show ((131 : Nat) : Int) + 31 = ((162 : Nat) : Int) from rfl) (fun _ => ?_) (fun q => absurd trivial q)
          exact retv_ok X hr hlk (dk rfl) ⟨rfl, J90⟩ (Nat.le_of_ble_eq_true rfl) (Nat.le_of_ble_eq_true rfl)
      · iterate 3 refine fst1_ok X (dk rfl) rfl ?_
        refine callVW_ok (ci := 6) (T := TX4) (N := 5) (av := [.int _, .int _]) (r := []) X E J27 (c4_standFor _ J27.1 T0 _ _) lkX4_standFor mlX4_93 lmX4_standFor lpX4_standFor ⟨Nat.le_of_ble_eq_true rfl, Nat.le_of_ble_eq_true rfl⟩ ⟨Nat.le_of_ble_eq_true rfl, Nat.le_of_ble_eq_true rfl⟩ rfl (st_cell J27.1 gb4) (Nat.le_of_ble_eq_true rfl) (dk rfl) ?_
        rintro _ h91 rfl J92
        refine br_ok X (dk rfl) rfl (show ((113 : Nat) : Int) + 49 = ((162 : Nat) : Int) from rfl) (fun _ => ?_) (fun q => absurd trivial q)
        exact retv_ok X hr hlk (dk rfl) ⟨rfl, J92⟩ (Nat.le_of_ble_eq_true rfl) (Nat.le_of_ble_eq_true rfl)
    · iterate 3 refine fst1_ok X (dk rfl) rfl ?_
      refine callVW_ok (ci := 6) (T := TX4) (N := 5) (av := [.int _, .int _]) (r := []) X E J27 (c4_joinNames _ J27.1 T0 _ _) lkX4_joinNames mlX4_90 lmX4_joinNames lpX4_joinNames ⟨Nat.le_of_ble_eq_true rfl, Nat.le_of_ble_eq_true rfl⟩ ⟨Nat.le_of_ble_eq_true rfl, Nat.le_of_ble_eq_true rfl⟩ rfl (st_cell J27.1 gb4) (Nat.le_of_ble_eq_true rfl) (dk rfl) ?_
      rintro _ h93 rfl J94
      refine br_ok X (dk rfl) rfl (show ((95 : Nat) : Int) + 67 = ((162 : Nat) : Int) from rfl) (fun _ => ?_) (fun q => absurd trivial q)
      exact retv_ok X hr hlk (dk rfl) ⟨rfl, J94⟩ (Nat.le_of_ble_eq_true rfl) (Nat.le_of_ble_eq_true rfl)
set_option maxHeartbeats 4000000 in
theorem FZ.c4_makeAlike (h : AH) (I : Tyg Γ h) {o0 : Nat} (T0 : StepsT Γ o0) {o1 L1 : Nat} {w1 : Bool} (T1 : TermG w1 Γ o1 L1) {o2 L2 : Nat} {w2 : Bool} (T2 : TermG w2 Γ o2 L2) : CT la D cA B0 pa yX4_makeAlike cX4_makeAlike 4 (some .boolean) (rmD 4 0 0) [.ref o0, .ref o1, .ref o2] h (WrO Γ bP h) := by
  refine CT_of (by decide +kernel) (Nat.le_of_ble_eq_true rfl) ?_
  intro p e s m args below meth c X E hr hlk hnm
  have dk : ∀ {pc : Nat} {q : Instr × Nat}, lkd DX4_makeAlike pc = some q → decode cX4_makeAlike pc = .ok q := lkd_ok DX4_makeAlike_ok
  obtain ⟨bo1, st2, pr3, gb4, tb5, gs6, tp7⟩ := id T0
  obtain ⟨hL9, q8, gb10, gl11⟩ := id T1
  obtain ⟨hL13, q12, gb14, gl15⟩ := id T2
  have L48 : ∀ j16 : Int32, ∀ (h18 : AH) (J19 : TI Γ h h18) (l : List (Nat × Value)), lsel l [3, 0] = [(3, .int (j16)), (0, .ref o0)] → WR p la e (rmD 4 0 0) s m args below meth c D cA B0 4 (WrO Γ bP h) 48 l [] h18 0 0 := by
    refine loopUp (fun j16 ih48 => ?_)
    intro h18 J19 l hl
    refine WS.sel [3, 0] hl ?_
    refine fst1_ok X (dk rfl) rfl ?_
    refine ldc_ok X csX4_59 (dk rfl) ?_
    refine br_ok X (dk rfl) rfl (show ((51 : Nat) : Int) + 30 = ((81 : Nat) : Int) from rfl) (fun c20 => ?_) (fun c21 => ?_)
    · refine fst1_ok X (dk rfl) rfl ?_
      obtain ⟨t23, e24, hx22⟩ := st_open J19.1 gb4
      refine getf_ok X flX4_56 (dk rfl) hx22 rfl ?_
      refine br_ok X (dk rfl) rfl (show ((85 : Nat) : Int) + 7 = ((92 : Nat) : Int) from rfl) (fun c25 => ?_) (fun c26 => ?_)
      · refine fst1_ok X (dk rfl) rfl ?_
        exact reti_ok X hr hlk (bI_n false) (dk rfl) ⟨⟨false, rfl⟩, J19⟩ (Nat.le_of_ble_eq_true rfl) (Nat.le_of_ble_eq_true rfl)
      · refine fst1_ok X (dk rfl) rfl ?_
        refine br_ok X (dk rfl) rfl (show ((89 : Nat) : Int) + 4 = ((93 : Nat) : Int) from rfl) (fun _ => ?_) (fun q => absurd trivial q)
        exact reti_ok X hr hlk (bI_n true) (dk rfl) ⟨⟨true, rfl⟩, J19⟩ (Nat.le_of_ble_eq_true rfl) (Nat.le_of_ble_eq_true rfl)
    · refine fst1_ok X (dk rfl) rfl ?_
      obtain ⟨t28, e29, hx27⟩ := st_open J19.1 gb4
      refine getf_ok X flX4_27 (dk rfl) hx27 rfl ?_
      obtain ⟨a30, a31, gb32, g33, g34⟩ := id tp7
      refine callVR_ok (ci := 4) (T := TX2) (N := 3) (av := []) (r := []) X E (c2_length _ J19.1 tp7) lkX2_length mlX4_60 lmX2_length lpX2_length ⟨Nat.le_of_ble_eq_true rfl, Nat.le_of_ble_eq_true rfl⟩ ⟨Nat.le_of_ble_eq_true rfl, Nat.le_of_ble_eq_true rfl⟩ rfl (pr_cell J19.1 gb32) (Nat.le_of_ble_eq_true rfl) (dk rfl) ?_
      rintro _ ⟨n35, hn36, rfl⟩
      refine br_ok X (dk rfl) rfl (show ((61 : Nat) : Int) + 20 = ((81 : Nat) : Int) from rfl) (fun c37 => ?_) (fun c38 => ?_)
      · refine fst1_ok X (dk rfl) rfl ?_
        refine getf_ok X flX4_56 (dk rfl) hx27 rfl ?_
        refine br_ok X (dk rfl) rfl (show ((85 : Nat) : Int) + 7 = ((92 : Nat) : Int) from rfl) (fun c39 => ?_) (fun c40 => ?_)
        · refine fst1_ok X (dk rfl) rfl ?_
          exact reti_ok X hr hlk (bI_n false) (dk rfl) ⟨⟨false, rfl⟩, J19⟩ (Nat.le_of_ble_eq_true rfl) (Nat.le_of_ble_eq_true rfl)
        · refine fst1_ok X (dk rfl) rfl ?_
          refine br_ok X (dk rfl) rfl (show ((89 : Nat) : Int) + 4 = ((93 : Nat) : Int) from rfl) (fun _ => ?_) (fun q => absurd trivial q)
          exact reti_ok X hr hlk (bI_n true) (dk rfl) ⟨⟨true, rfl⟩, J19⟩ (Nat.le_of_ble_eq_true rfl) (Nat.le_of_ble_eq_true rfl)
      · refine fst1_ok X (dk rfl) rfl ?_
        refine getf_ok X flX4_56 (dk rfl) hx27 rfl ?_
        refine br_ok X (dk rfl) rfl (show ((68 : Nat) : Int) + 13 = ((81 : Nat) : Int) from rfl) (fun c41 => ?_) (fun c42 => ?_)
        · refine fst1_ok X (dk rfl) rfl ?_
          refine getf_ok X flX4_56 (dk rfl) hx27 rfl ?_
          refine br_ok X (dk rfl) rfl (show ((85 : Nat) : Int) + 7 = ((92 : Nat) : Int) from rfl) (fun c43 => ?_) (fun c44 => ?_)
          · refine fst1_ok X (dk rfl) rfl ?_
            exact reti_ok X hr hlk (bI_n false) (dk rfl) ⟨⟨false, rfl⟩, J19⟩ (Nat.le_of_ble_eq_true rfl) (Nat.le_of_ble_eq_true rfl)
          · refine fst1_ok X (dk rfl) rfl ?_
            refine br_ok X (dk rfl) rfl (show ((89 : Nat) : Int) + 4 = ((93 : Nat) : Int) from rfl) (fun _ => ?_) (fun q => absurd trivial q)
            exact reti_ok X hr hlk (bI_n true) (dk rfl) ⟨⟨true, rfl⟩, J19⟩ (Nat.le_of_ble_eq_true rfl) (Nat.le_of_ble_eq_true rfl)
        · refine fst1_ok X (dk rfl) rfl ?_
          refine callVW_ok (ci := 6) (T := TX4) (N := 5) (av := []) (r := []) X E J19 (c4_takeStep _ J19.1 T0) lkX4_takeStep mlX4_61 lmX4_takeStep lpX4_takeStep ⟨Nat.le_of_ble_eq_true rfl, Nat.le_of_ble_eq_true rfl⟩ ⟨Nat.le_of_ble_eq_true rfl, Nat.le_of_ble_eq_true rfl⟩ rfl (st_cell J19.1 gb4) (Nat.le_of_ble_eq_true rfl) (dk rfl) ?_
          rintro _ h45 rfl J46
          refine fst1_ok X (dk rfl) rfl ?_
          refine br_ok X (dk rfl) rfl (show ((78 : Nat) : Int) + (-30) = ((48 : Nat) : Int) from rfl) (fun _ => ?_) (fun q => absurd trivial q)
          exact ih48 _ (nlt_of c21) h45 J46 _ rfl
  refine fst1_ok X (dk rfl) rfl ?_
  obtain ⟨t48, e49, hx47⟩ := st_open (TI.rf I).1 gb4
  refine getf_ok X flX4_14 (dk rfl) hx47 rfl ?_
  iterate 2 refine fst1_ok X (dk rfl) rfl ?_
  obtain ⟨hL51, q50, gb52, gl53⟩ := id tb5
  refine callVW_ok (ci := 7) (T := TX5) (N := 3) (av := [.ref _, .ref _]) (r := []) X E (TI.rf I) (c5_becomeBoth _ (TI.rf I).1 tb5 T1 T2) lkX5_becomeBoth mlX4_31 lmX5_becomeBoth lpX5_becomeBoth ⟨Nat.le_of_ble_eq_true rfl, Nat.le_of_ble_eq_true rfl⟩ ⟨Nat.le_of_ble_eq_true rfl, Nat.le_of_ble_eq_true rfl⟩ rfl (tm_cell (TI.rf I).1 gb52) (Nat.le_of_ble_eq_true rfl) (dk rfl) ?_
  rintro _ h54 rfl J55
  refine fst1_ok X (dk rfl) rfl ?_
  obtain ⟨t57, e58, hx56⟩ := st_open J55.1 gb4
  refine getf_ok X flX4_20 (dk rfl) hx56 rfl ?_
  refine fst1_ok X (dk rfl) rfl ?_
  refine callSW_ok (av := [.ref _, .int _]) (r := []) X E J55 (cJ7_fill _ J55.1 gs6 _ (by decide)) lkJ7_fill_53178 mlX4_35 lsJ7_fill_53178 ⟨Nat.le_of_ble_eq_true rfl, Nat.le_of_ble_eq_true rfl⟩ ⟨Nat.le_of_ble_eq_true rfl, Nat.le_of_ble_eq_true rfl⟩ (Nat.le_of_ble_eq_true rfl) (dk rfl) ?_
  rintro _ h59 rfl J60
  refine fst1_ok X (dk rfl) rfl ?_
  obtain ⟨t62, e63, hx61⟩ := st_open J60.1 gb4
  refine getf_ok X flX4_27 (dk rfl) hx61 rfl ?_
  obtain ⟨a64, a65, gb66, g67, g68⟩ := id tp7
  refine callVW_ok (ci := 4) (T := TX2) (N := 3) (av := []) (r := []) X E J60 (c2_empty _ J60.1 tp7) lkX2_empty mlX4_41 lmX2_empty lpX2_empty ⟨Nat.le_of_ble_eq_true rfl, Nat.le_of_ble_eq_true rfl⟩ ⟨Nat.le_of_ble_eq_true rfl, Nat.le_of_ble_eq_true rfl⟩ rfl (pr_cell J60.1 gb66) (Nat.le_of_ble_eq_true rfl) (dk rfl) ?_
  rintro _ h69 rfl J70
  refine fst1_ok X (dk rfl) rfl ?_
  obtain ⟨t72, e73, hx71⟩ := st_open J70.1 gb4
  refine getf_ok X flX4_27 (dk rfl) hx71 rfl ?_
  iterate 2 refine fst1_ok X (dk rfl) rfl ?_
  refine callVR_ok (ci := 7) (T := TX5) (N := 3) (av := []) (r := [_, _]) X E (c5_length _ J70.1 T1) lkX5_length mlX4_44 lmX5_length lpX5_length ⟨Nat.le_of_ble_eq_true rfl, Nat.le_of_ble_eq_true rfl⟩ ⟨Nat.le_of_ble_eq_true rfl, Nat.le_of_ble_eq_true rfl⟩ rfl (tm_cell J70.1 gb10) (Nat.le_of_ble_eq_true rfl) (dk rfl) ?_
  rintro _ ⟨n74, hn75, rfl⟩
  refine callVW_ok (ci := 4) (T := TX2) (N := 3) (av := [.int _, .int _]) (r := []) X E J70 (c2_add _ J70.1 tp7 _ _) lkX2_add mlX4_48 lmX2_add lpX2_add ⟨Nat.le_of_ble_eq_true rfl, Nat.le_of_ble_eq_true rfl⟩ ⟨Nat.le_of_ble_eq_true rfl, Nat.le_of_ble_eq_true rfl⟩ rfl (pr_cell J70.1 gb66) (Nat.le_of_ble_eq_true rfl) (dk rfl) ?_
  rintro _ h76 rfl J77
  iterate 2 refine fst1_ok X (dk rfl) rfl ?_
  obtain ⟨t79, e80, hx78⟩ := st_open J77.1 gb4
  refine putT_ok X flX4_52 ftX4_3 rfl rfl (dk rfl) hx78 (Nat.le_of_ble_eq_true rfl) J77 gb4 rfl (st_set3 _) (fun h81 J82 hx83 ho84 => ?_)
  iterate 2 refine fst1_ok X (dk rfl) rfl ?_
  refine putT_ok X flX4_56 ftX4_4 rfl rfl (dk rfl) hx83 (Nat.le_of_ble_eq_true rfl) J82 gb4 rfl (st_set4 _) (fun h85 J86 hx87 ho88 => ?_)
  iterate 2 refine fst1_ok X (dk rfl) rfl ?_
  exact L48 _ h85 J86 _ rfl
end M92
