/-! the class, weakly, over types that keep contents: classes (printed by wip/p20/genFZ.py from wip/p40/cl4.py) -/
section M93
variable {la : Launch} {D : va_G} {cA : Nat → ClassId} {B0 pa : Nat} {Γ : TY}
set_option maxHeartbeats 4000000 in
theorem FZ.c1_classAt (h : AH) (I : Tyg Γ h) {o0 : Nat} (T0 : ClassT Γ o0) (x1 : Int32) : CT la D cA B0 pa yX1_classAt cX1_classAt 2 (some .int) (rmD 0 0 0) [.ref o0, .int (x1)] h (RdO iP h) := by
  refine CT_of (by decide +kernel) (Nat.le_of_ble_eq_true rfl) ?_
  intro p e s m args below meth c X E hr hlk hnm
  have dk : ∀ {pc : Nat} {q : Instr × Nat}, lkd DX1_classAt pc = some q → decode cX1_classAt pc = .ok q := lkd_ok DX1_classAt_ok
  obtain ⟨bo1, co2, ho3, st4, pr5, gb6, tb7, gc8, gh9, gs10, tp11⟩ := id T0
  refine fst1_ok X (dk rfl) rfl ?_
  refine br_ok X (dk rfl) rfl (show ((1 : Nat) : Int) + 18 = ((19 : Nat) : Int) from rfl) (fun c12 => ?_) (fun c13 => ?_)
  · refine fst1_ok X (dk rfl) rfl ?_
    exact reti_ok X hr hlk rfl (dk rfl) ⟨⟨_, rfl⟩, rfl⟩ (Nat.le_of_ble_eq_true rfl) (Nat.le_of_ble_eq_true rfl)
  · iterate 2 refine fst1_ok X (dk rfl) rfl ?_
    refine br_ok X (dk rfl) rfl (show ((7 : Nat) : Int) + 12 = ((19 : Nat) : Int) from rfl) (fun c14 => ?_) (fun c15 => ?_)
    · refine fst1_ok X (dk rfl) rfl ?_
      exact reti_ok X hr hlk rfl (dk rfl) ⟨⟨_, rfl⟩, rfl⟩ (Nat.le_of_ble_eq_true rfl) (Nat.le_of_ble_eq_true rfl)
    · refine fst1_ok X (dk rfl) rfl ?_
      have hx16 := is_open (TI.rf I).1 gb6
      refine getf_ok X flX1_20 (dk rfl) hx16 rfl ?_
      refine fst1_ok X (dk rfl) rfl ?_
      obtain ⟨xs17, hx18, hn19⟩ := rw_open (TI.rf I).1 gc8
      refine ald7_ok X (dk rfl) hx18 c13 (by rw [hn19]; exact ix_ok (by omega) c13 (by rw [show nI 32 = (Int8.ofInt 32).toInt32 by decide +kernel]; exact c15)) (fun x20 hm21 => ?_)
      refine br_ok X (dk rfl) rfl (show ((16 : Nat) : Int) + 4 = ((20 : Nat) : Int) from rfl) (fun _ => ?_) (fun q => absurd trivial q)
      exact reti_ok X hr hlk rfl (dk rfl) ⟨⟨_, rfl⟩, rfl⟩ (Nat.le_of_ble_eq_true rfl) (Nat.le_of_ble_eq_true rfl)
set_option maxHeartbeats 4000000 in
theorem FZ.c1_headAt (h : AH) (I : Tyg Γ h) {o0 : Nat} (T0 : ClassT Γ o0) (x1 : Int32) : CT la D cA B0 pa yX1_headAt cX1_headAt 2 (some .int) (rmD 0 0 0) [.ref o0, .int (x1)] h (RdO iP h) := by
  refine CT_of (by decide +kernel) (Nat.le_of_ble_eq_true rfl) ?_
  intro p e s m args below meth c X E hr hlk hnm
  have dk : ∀ {pc : Nat} {q : Instr × Nat}, lkd DX1_headAt pc = some q → decode cX1_headAt pc = .ok q := lkd_ok DX1_headAt_ok
  obtain ⟨bo1, co2, ho3, st4, pr5, gb6, tb7, gc8, gh9, gs10, tp11⟩ := id T0
  refine fst1_ok X (dk rfl) rfl ?_
  refine br_ok X (dk rfl) rfl (show ((1 : Nat) : Int) + 18 = ((19 : Nat) : Int) from rfl) (fun c12 => ?_) (fun c13 => ?_)
  · refine fst1_ok X (dk rfl) rfl ?_
    exact reti_ok X hr hlk rfl (dk rfl) ⟨⟨_, rfl⟩, rfl⟩ (Nat.le_of_ble_eq_true rfl) (Nat.le_of_ble_eq_true rfl)
  · iterate 2 refine fst1_ok X (dk rfl) rfl ?_
    refine br_ok X (dk rfl) rfl (show ((7 : Nat) : Int) + 12 = ((19 : Nat) : Int) from rfl) (fun c14 => ?_) (fun c15 => ?_)
    · refine fst1_ok X (dk rfl) rfl ?_
      exact reti_ok X hr hlk rfl (dk rfl) ⟨⟨_, rfl⟩, rfl⟩ (Nat.le_of_ble_eq_true rfl) (Nat.le_of_ble_eq_true rfl)
    · refine fst1_ok X (dk rfl) rfl ?_
      have hx16 := is_open (TI.rf I).1 gb6
      refine getf_ok X flX1_24 (dk rfl) hx16 rfl ?_
      refine fst1_ok X (dk rfl) rfl ?_
      obtain ⟨xs17, hx18, hn19⟩ := rw_open (TI.rf I).1 gh9
      refine ald7_ok X (dk rfl) hx18 c13 (by rw [hn19]; exact ix_ok (by omega) c13 (by rw [show nI 32 = (Int8.ofInt 32).toInt32 by decide +kernel]; exact c15)) (fun x20 hm21 => ?_)
      refine br_ok X (dk rfl) rfl (show ((16 : Nat) : Int) + 4 = ((20 : Nat) : Int) from rfl) (fun _ => ?_) (fun q => absurd trivial q)
      exact reti_ok X hr hlk rfl (dk rfl) ⟨⟨_, rfl⟩, rfl⟩ (Nat.le_of_ble_eq_true rfl) (Nat.le_of_ble_eq_true rfl)
set_option maxHeartbeats 4000000 in
theorem FZ.c1_join (h : AH) (I : Tyg Γ h) {o0 : Nat} (T0 : ClassT Γ o0) (x1 : Int32) (x2 : Int32) : CT la D cA B0 pa yX1_join cX1_join 6 (some .boolean) (rmD 3 0 0) [.ref o0, .int (x1), .int (x2)] h (WrO Γ bP h) := by
  refine CT_of (by decide +kernel) (Nat.le_of_ble_eq_true rfl) ?_
  intro p e s m args below meth c X E hr hlk hnm
  have dk : ∀ {pc : Nat} {q : Instr × Nat}, lkd DX1_join pc = some q → decode cX1_join pc = .ok q := lkd_ok DX1_join_ok
  obtain ⟨bo1, co2, ho3, st4, pr5, gb6, tb7, gc8, gh9, gs10, tp11⟩ := id T0
  have L63 : ∀ j12 : Nat, j12 ≤ 32 → ∀ (y13 : Int32) (y14 : Int32) (h18 : AH) (J19 : TI Γ h h18) (l : List (Nat × Value)), lsel l [5, 4, 3, 2, 1, 0] = [(5, vI j12), (4, .int (y13)), (3, .int (y14)), (2, .int (x2)), (1, .int (x1)), (0, .ref o0)] → WR p la e (rmD 3 0 0) s m args below meth c D cA B0 6 (WrO Γ bP h) 63 l [] h18 0 0 := by
    refine loopN (fun j12 hj12 ih63 => ?_)
    intro y13 y14 h18 J19 l hl
    refine WS.sel [5, 4, 3, 2, 1, 0] hl ?_
    iterate 2 refine fst1_ok X (dk rfl) rfl ?_
    refine br_ok X (dk rfl) rfl (show ((67 : Nat) : Int) + 28 = ((95 : Nat) : Int) from rfl) (fun c20 => ?_) (fun c21 => ?_)
    · refine fst1_ok X (dk rfl) rfl ?_
      refine br_ok X (dk rfl) rfl (show ((96 : Nat) : Int) + 22 = ((118 : Nat) : Int) from rfl) (fun c22 => ?_) (fun c23 => ?_)
      · refine fst1_ok X (dk rfl) rfl ?_
        exact reti_ok X hr hlk (bI_n true) (dk rfl) ⟨⟨true, rfl⟩, J19⟩ (Nat.le_of_ble_eq_true rfl) (Nat.le_of_ble_eq_true rfl)
      · iterate 2 refine fst1_ok X (dk rfl) rfl ?_
        refine br_ok X (dk rfl) rfl (show ((102 : Nat) : Int) + 16 = ((118 : Nat) : Int) from rfl) (fun c24 => ?_) (fun c25 => ?_)
        · refine fst1_ok X (dk rfl) rfl ?_
          exact reti_ok X hr hlk (bI_n true) (dk rfl) ⟨⟨true, rfl⟩, J19⟩ (Nat.le_of_ble_eq_true rfl) (Nat.le_of_ble_eq_true rfl)
        · iterate 2 refine fst1_ok X (dk rfl) rfl ?_
          refine br_ok X (dk rfl) rfl (show ((107 : Nat) : Int) + 11 = ((118 : Nat) : Int) from rfl) (fun c26 => ?_) (fun c27 => ?_)
          · refine fst1_ok X (dk rfl) rfl ?_
            exact reti_ok X hr hlk (bI_n true) (dk rfl) ⟨⟨true, rfl⟩, J19⟩ (Nat.le_of_ble_eq_true rfl) (Nat.le_of_ble_eq_true rfl)
          · refine fst1_ok X (dk rfl) rfl ?_
            have hx28 := is_open J19.1 gb6
            refine getf_ok X flX1_24 (dk rfl) hx28 rfl ?_
            iterate 2 refine fst1_ok X (dk rfl) rfl ?_
            obtain ⟨xs29, hx30, hn31⟩ := rw_open J19.1 gh9
            refine astT_ok X (dk rfl) hx30 c23 (by rw [hn31]; exact ix_ok (by omega) c23 (by rw [show nI 32 = (Int8.ofInt 32).toInt32 by decide +kernel]; exact c25)) J19 gh9 (rowφ_set hn31 _ _) (fun h32 J33 ho34 => ?_)
            have hx35 := (ho34 o0 (k_ne hx28 hx30 (by decide))).trans hx28
            refine fst1_ok X (dk rfl) rfl ?_
            exact reti_ok X hr hlk (bI_n true) (dk rfl) ⟨⟨true, rfl⟩, J33⟩ (Nat.le_of_ble_eq_true rfl) (Nat.le_of_ble_eq_true rfl)
    · refine fst1_ok X (dk rfl) rfl ?_
      have hx36 := is_open J19.1 gb6
      refine getf_ok X flX1_20 (dk rfl) hx36 rfl ?_
      refine fst1_ok X (dk rfl) rfl ?_
      obtain ⟨xs37, hx38, hn39⟩ := rw_open J19.1 gc8
      refine ald7_ok X (dk rfl) hx38 (nI_pos (by omega)) (by rw [hn39]; exact ix_ok (by omega) (nI_pos (by omega)) (by rw [show nI 32 = (Int8.ofInt 32).toInt32 by decide +kernel]; exact c21)) (fun x40 hm41 => ?_)
      refine fst1_ok X (dk rfl) rfl ?_
      refine br_ok X (dk rfl) rfl (show ((78 : Nat) : Int) + 11 = ((89 : Nat) : Int) from rfl) (fun c42 => ?_) (fun c43 => ?_)
      · refine fst1_ok X (dk rfl) rfl ?_
        refine br_ok X (dk rfl) rfl (show ((92 : Nat) : Int) + (-29) = ((63 : Nat) : Int) from rfl) (fun _ => ?_) (fun q => absurd trivial q)
        exact ih63 (nat_lt (K := 32) (by omega) (by rw [show nI 32 = (Int8.ofInt 32).toInt32 by decide +kernel]; exact c21)) _ _ h18 J19 _ (by rw [← vI_succ j12]; rfl)
      · refine fst1_ok X (dk rfl) rfl ?_
        refine getf_ok X flX1_20 (dk rfl) hx36 rfl ?_
        iterate 2 refine fst1_ok X (dk rfl) rfl ?_
        refine astT_ok X (dk rfl) hx38 (nI_pos (by omega)) (by rw [hn39]; exact ix_ok (by omega) (nI_pos (by omega)) (by rw [show nI 32 = (Int8.ofInt 32).toInt32 by decide +kernel]; exact c21)) J19 gc8 (rowφ_set hn39 _ _) (fun h44 J45 ho46 => ?_)
        have hx47 := (ho46 o0 (k_ne hx36 hx38 (by decide))).trans hx36
        refine fst1_ok X (dk rfl) rfl ?_
        refine br_ok X (dk rfl) rfl (show ((92 : Nat) : Int) + (-29) = ((63 : Nat) : Int) from rfl) (fun _ => ?_) (fun q => absurd trivial q)
        exact ih63 (nat_lt (K := 32) (by omega) (by rw [show nI 32 = (Int8.ofInt 32).toInt32 by decide +kernel]; exact c21)) _ _ h44 J45 _ (by rw [← vI_succ j12]; rfl)
  iterate 2 refine fst1_ok X (dk rfl) rfl ?_
  refine callVR_ok (ci := 3) (T := TX1) (N := 5) (av := [.int _]) (r := []) X E (c1_headAt _ (TI.rf I).1 T0 _) lkX1_headAt mlX1_94 lmX1_headAt lpX1_headAt ⟨Nat.le_of_ble_eq_true rfl, Nat.le_of_ble_eq_true rfl⟩ ⟨Nat.le_of_ble_eq_true rfl, Nat.le_of_ble_eq_true rfl⟩ rfl (is_cell (TI.rf I).1 gb6) (Nat.le_of_ble_eq_true rfl) (dk rfl) ?_
  rintro _ ⟨x48, rfl⟩
  iterate 3 refine fst1_ok X (dk rfl) rfl ?_
  refine callVR_ok (ci := 3) (T := TX1) (N := 5) (av := [.int _]) (r := []) X E (c1_headAt _ (TI.rf I).1 T0 _) lkX1_headAt mlX1_94 lmX1_headAt lpX1_headAt ⟨Nat.le_of_ble_eq_true rfl, Nat.le_of_ble_eq_true rfl⟩ ⟨Nat.le_of_ble_eq_true rfl, Nat.le_of_ble_eq_true rfl⟩ rfl (is_cell (TI.rf I).1 gb6) (Nat.le_of_ble_eq_true rfl) (dk rfl) ?_
  rintro _ ⟨x49, rfl⟩
  iterate 3 refine fst1_ok X (dk rfl) rfl ?_
  refine br_ok X (dk rfl) rfl (show ((15 : Nat) : Int) + 45 = ((60 : Nat) : Int) from rfl) (fun c50 => ?_) (fun c51 => ?_)
  · iterate 2 refine fst1_ok X (dk rfl) rfl ?_
    exact L63 0 (by omega) _ _ h (TI.rf I) _ rfl
  · iterate 2 refine fst1_ok X (dk rfl) rfl ?_
    refine br_ok X (dk rfl) rfl (show ((21 : Nat) : Int) + 39 = ((60 : Nat) : Int) from rfl) (fun c52 => ?_) (fun c53 => ?_)
    · iterate 2 refine fst1_ok X (dk rfl) rfl ?_
      exact L63 0 (by omega) _ _ h (TI.rf I) _ rfl
    · refine fst1_ok X (dk rfl) rfl ?_
      have hx54 := is_open (TI.rf I).1 gb6
      refine getf_ok X flX1_16 (dk rfl) hx54 rfl ?_
      refine fst1_ok X (dk rfl) rfl ?_
      obtain ⟨hL56, q55, gb57, gl58⟩ := id tb7
      refine callVR_ok (ci := 7) (T := TX5) (N := 3) (av := [.int _]) (r := []) X E (c5_letterAt _ (TI.rf I).1 tb7 _) lkX5_letterAt mlX1_45 lmX5_letterAt lpX5_letterAt ⟨Nat.le_of_ble_eq_true rfl, Nat.le_of_ble_eq_true rfl⟩ ⟨Nat.le_of_ble_eq_true rfl, Nat.le_of_ble_eq_true rfl⟩ rfl (tm_cell (TI.rf I).1 gb57) (Nat.le_of_ble_eq_true rfl) (dk rfl) ?_
      rintro _ ⟨x59, hx60, rfl⟩
      refine fst1_ok X (dk rfl) rfl ?_
      refine getf_ok X flX1_16 (dk rfl) hx54 rfl ?_
      refine fst1_ok X (dk rfl) rfl ?_
      refine callVR_ok (ci := 7) (T := TX5) (N := 3) (av := [.int _]) (r := [_]) X E (c5_letterAt _ (TI.rf I).1 tb7 _) lkX5_letterAt mlX1_45 lmX5_letterAt lpX5_letterAt ⟨Nat.le_of_ble_eq_true rfl, Nat.le_of_ble_eq_true rfl⟩ ⟨Nat.le_of_ble_eq_true rfl, Nat.le_of_ble_eq_true rfl⟩ rfl (tm_cell (TI.rf I).1 gb57) (Nat.le_of_ble_eq_true rfl) (dk rfl) ?_
      rintro _ ⟨x61, hx62, rfl⟩
      refine br_ok X (dk rfl) rfl (show ((41 : Nat) : Int) + 5 = ((46 : Nat) : Int) from rfl) (fun c63 => ?_) (fun c64 => ?_)
      · refine fst1_ok X (dk rfl) rfl ?_
        refine getf_ok X flX1_33 (dk rfl) hx54 rfl ?_
        refine fst1_ok X (dk rfl) rfl ?_
        refine getf_ok X flX1_16 (dk rfl) hx54 rfl ?_
        iterate 2 refine fst1_ok X (dk rfl) rfl ?_
        obtain ⟨a65, a66, gb67, g68, g69⟩ := id tp11
        refine callVW_ok (ci := 4) (T := TX2) (N := 3) (av := [.ref _, .int _, .int _]) (r := []) X E (TI.rf I) (c2_addParts _ (TI.rf I).1 tp11 tb7 _ _) lkX2_addParts mlX1_97 lmX2_addParts lpX2_addParts ⟨Nat.le_of_ble_eq_true rfl, Nat.le_of_ble_eq_true rfl⟩ ⟨Nat.le_of_ble_eq_true rfl, Nat.le_of_ble_eq_true rfl⟩ rfl (pr_cell (TI.rf I).1 gb67) (Nat.le_of_ble_eq_true rfl) (dk rfl) ?_
        rintro _ h70 rfl J71
        iterate 2 refine fst1_ok X (dk rfl) rfl ?_
        exact L63 0 (by omega) _ _ h70 J71 _ rfl
      · refine fst1_ok X (dk rfl) rfl ?_
        exact reti_ok X hr hlk (bI_n false) (dk rfl) ⟨⟨false, rfl⟩, (TI.rf I)⟩ (Nat.le_of_ble_eq_true rfl) (Nat.le_of_ble_eq_true rfl)
set_option maxHeartbeats 4000000 in
theorem FZ.c1_isClear (h : AH) (I : Tyg Γ h) {o0 : Nat} (T0 : ClassT Γ o0) (x1 : Int32) (x2 : Int64) : CT la D cA B0 pa yX1_isClear cX1_isClear 7 (some .boolean) (rmD 2 0 0) [.ref o0, .int (x1), .long (x2)] h (RdO bP h) := by
  refine CT_of (by decide +kernel) (Nat.le_of_ble_eq_true rfl) ?_
  intro p e s m args below meth c X E hr hlk hnm
  have dk : ∀ {pc : Nat} {q : Instr × Nat}, lkd DX1_isClear pc = some q → decode cX1_isClear pc = .ok q := lkd_ok DX1_isClear_ok
  obtain ⟨bo1, co2, ho3, st4, pr5, gb6, tb7, gc8, gh9, gs10, tp11⟩ := id T0
  have L35 : ∀ j12 : Int32, ∀ (y13 : Int32) (l : List (Nat × Value)), lsel l [6, 5, 2, 0] = [(6, .int (j12)), (5, .int (y13)), (2, .long (x2)), (0, .ref o0)] → WR p la e (rmD 2 0 0) s m args below meth c D cA B0 7 (RdO bP h) 35 l [] h 0 0 := by
    refine loopDn (fun j12 ih35 => ?_)
    intro y13 l hl
    refine WS.sel [6, 5, 2, 0] hl ?_
    refine fst1_ok X (dk rfl) rfl ?_
    refine br_ok X (dk rfl) rfl (show ((37 : Nat) : Int) + 37 = ((74 : Nat) : Int) from rfl) (fun c16 => ?_) (fun c17 => ?_)
    · refine fst1_ok X (dk rfl) rfl ?_
      exact reti_ok X hr hlk (bI_n true) (dk rfl) ⟨⟨true, rfl⟩, rfl⟩ (Nat.le_of_ble_eq_true rfl) (Nat.le_of_ble_eq_true rfl)
    · iterate 3 refine fst1_ok X (dk rfl) rfl ?_
      refine callVR_ok (ci := 3) (T := TX1) (N := 5) (av := [.int _]) (r := [_]) X E (c1_classAt _ (TI.rf I).1 T0 _) lkX1_classAt mlX1_68 lmX1_classAt lpX1_classAt ⟨Nat.le_of_ble_eq_true rfl, Nat.le_of_ble_eq_true rfl⟩ ⟨Nat.le_of_ble_eq_true rfl, Nat.le_of_ble_eq_true rfl⟩ rfl (is_cell (TI.rf I).1 gb6) (Nat.le_of_ble_eq_true rfl) (dk rfl) ?_
      rintro _ ⟨x18, rfl⟩
      iterate 4 refine fst1_ok X (dk rfl) rfl ?_
      refine lcmpx_ok X (dk rfl) (fun z19 => ?_)
      refine br_ok X (dk rfl) rfl (show ((52 : Nat) : Int) + 5 = ((57 : Nat) : Int) from rfl) (fun c20 => ?_) (fun c21 => ?_)
      · refine fst1_ok X (dk rfl) rfl ?_
        have hx22 := is_open (TI.rf I).1 gb6
        refine getf_ok X flX1_16 (dk rfl) hx22 rfl ?_
        refine fst1_ok X (dk rfl) rfl ?_
        obtain ⟨hL24, q23, gb25, gl26⟩ := id tb7
        refine callVR_ok (ci := 7) (T := TX5) (N := 3) (av := [.int _]) (r := []) X E (c5_endOf _ (TI.rf I).1 tb7 _) lkX5_endOf mlX1_114 lmX5_endOf lpX5_endOf ⟨Nat.le_of_ble_eq_true rfl, Nat.le_of_ble_eq_true rfl⟩ ⟨Nat.le_of_ble_eq_true rfl, Nat.le_of_ble_eq_true rfl⟩ rfl (tm_cell (TI.rf I).1 gb25) (Nat.le_of_ble_eq_true rfl) (dk rfl) ?_
        rintro _ ⟨x27, rfl⟩
        iterate 2 refine fst1_ok X (dk rfl) rfl ?_
        refine br_ok X (dk rfl) rfl (show ((71 : Nat) : Int) + (-36) = ((35 : Nat) : Int) from rfl) (fun _ => ?_) (fun q => absurd trivial q)
        exact ih35 _ (nlt_of c17) _ _ rfl
      · refine fst1_ok X (dk rfl) rfl ?_
        exact reti_ok X hr hlk (bI_n false) (dk rfl) ⟨⟨false, rfl⟩, rfl⟩ (Nat.le_of_ble_eq_true rfl) (Nat.le_of_ble_eq_true rfl)
  iterate 2 refine fst1_ok X (dk rfl) rfl ?_
  refine callVR_ok (ci := 3) (T := TX1) (N := 5) (av := [.int _]) (r := []) X E (c1_headAt _ (TI.rf I).1 T0 _) lkX1_headAt mlX1_94 lmX1_headAt lpX1_headAt ⟨Nat.le_of_ble_eq_true rfl, Nat.le_of_ble_eq_true rfl⟩ ⟨Nat.le_of_ble_eq_true rfl, Nat.le_of_ble_eq_true rfl⟩ rfl (is_cell (TI.rf I).1 gb6) (Nat.le_of_ble_eq_true rfl) (dk rfl) ?_
  rintro _ ⟨x28, rfl⟩
  iterate 3 refine fst1_ok X (dk rfl) rfl ?_
  refine br_ok X (dk rfl) rfl (show ((10 : Nat) : Int) + 5 = ((15 : Nat) : Int) from rfl) (fun c29 => ?_) (fun c30 => ?_)
  · iterate 5 refine fst1_ok X (dk rfl) rfl ?_
    have hx31 := is_open (TI.rf I).1 gb6
    refine getf_ok X flX1_16 (dk rfl) hx31 rfl ?_
    refine fst1_ok X (dk rfl) rfl ?_
    obtain ⟨hL33, q32, gb34, gl35⟩ := id tb7
    refine callVR_ok (ci := 7) (T := TX5) (N := 3) (av := [.int _]) (r := []) X E (c5_letterAt _ (TI.rf I).1 tb7 _) lkX5_letterAt mlX1_45 lmX5_letterAt lpX5_letterAt ⟨Nat.le_of_ble_eq_true rfl, Nat.le_of_ble_eq_true rfl⟩ ⟨Nat.le_of_ble_eq_true rfl, Nat.le_of_ble_eq_true rfl⟩ rfl (tm_cell (TI.rf I).1 gb34) (Nat.le_of_ble_eq_true rfl) (dk rfl) ?_
    rintro _ ⟨x36, hx37, rfl⟩
    refine callNR_ok (av := [.int _]) (r := []) X E (c6_partsOf _ (TI.rf I).1 _) lkX6_partsOf mnX1_111 lsX6_partsOf ⟨Nat.le_of_ble_eq_true rfl, Nat.le_of_ble_eq_true rfl⟩ ⟨Nat.le_of_ble_eq_true rfl, Nat.le_of_ble_eq_true rfl⟩ (Nat.le_of_ble_eq_true rfl) (dk rfl) ?_
    rintro _ ⟨n38, hn39, rfl⟩
    refine fst1_ok X (dk rfl) rfl ?_
    exact L35 _ _ _ rfl
  · refine fst1_ok X (dk rfl) rfl ?_
    exact reti_ok X hr hlk (bI_n true) (dk rfl) ⟨⟨true, rfl⟩, rfl⟩ (Nat.le_of_ble_eq_true rfl) (Nat.le_of_ble_eq_true rfl)
set_option maxHeartbeats 4000000 in
theorem FZ.c1_isNoneInItself (h : AH) (I : Tyg Γ h) {o0 : Nat} (T0 : ClassT Γ o0) : CT la D cA B0 pa yX1_isNoneInItself cX1_isNoneInItself 7 (some .boolean) (rmD 3 0 0) [.ref o0] h (RdO bP h) := by
  refine CT_of (by decide +kernel) (Nat.le_of_ble_eq_true rfl) ?_
  intro p e s m args below meth c X E hr hlk hnm
  have dk : ∀ {pc : Nat} {q : Instr × Nat}, lkd DX1_isNoneInItself pc = some q → decode cX1_isNoneInItself pc = .ok q := lkd_ok DX1_isNoneInItself_ok
  obtain ⟨bo1, co2, ho3, st4, pr5, gb6, tb7, gc8, gh9, gs10, tp11⟩ := id T0
  have L21 : ∀ j12 : Int32, ∀ (y13 : Int32) (y14 : Nat) (hy14 : y14 ≤ 32) (y15 : Int64) (l : List (Nat × Value)), lsel l [5, 4, 3, 1, 0] = [(5, .int (j12)), (4, .int (y13)), (3, vI y14), (1, .long (y15)), (0, .ref o0)] → WR p la e (rmD 3 0 0) s m args below meth c D cA B0 7 (RdO bP h) 21 l [] h 0 0 := by
    refine loopUp (fun j12 ih21 => ?_)
    intro y13 y14 hy14 y15 l hl
    refine WS.sel [5, 4, 3, 1, 0] hl ?_
    iterate 2 refine fst1_ok X (dk rfl) rfl ?_
    refine br_ok X (dk rfl) rfl (show ((25 : Nat) : Int) + 65 = ((90 : Nat) : Int) from rfl) (fun c17 => ?_) (fun c18 => ?_)
    · refine fst1_ok X (dk rfl) rfl ?_
      refine br_ok X (dk rfl) rfl (show ((92 : Nat) : Int) + 7 = ((99 : Nat) : Int) from rfl) (fun c19 => ?_) (fun c20 => ?_)
      · refine fst1_ok X (dk rfl) rfl ?_
        exact reti_ok X hr hlk (bI_n false) (dk rfl) ⟨⟨false, rfl⟩, rfl⟩ (Nat.le_of_ble_eq_true rfl) (Nat.le_of_ble_eq_true rfl)
      · refine fst1_ok X (dk rfl) rfl ?_
        refine br_ok X (dk rfl) rfl (show ((96 : Nat) : Int) + 4 = ((100 : Nat) : Int) from rfl) (fun _ => ?_) (fun q => absurd trivial q)
        exact reti_ok X hr hlk (bI_n true) (dk rfl) ⟨⟨true, rfl⟩, rfl⟩ (Nat.le_of_ble_eq_true rfl) (Nat.le_of_ble_eq_true rfl)
    · refine fst1_ok X (dk rfl) rfl ?_
      refine br_ok X (dk rfl) rfl (show ((30 : Nat) : Int) + 60 = ((90 : Nat) : Int) from rfl) (fun c21 => ?_) (fun c22 => ?_)
      · refine fst1_ok X (dk rfl) rfl ?_
        refine br_ok X (dk rfl) rfl (show ((92 : Nat) : Int) + 7 = ((99 : Nat) : Int) from rfl) (fun c23 => ?_) (fun c24 => ?_)
        · refine fst1_ok X (dk rfl) rfl ?_
          exact reti_ok X hr hlk (bI_n false) (dk rfl) ⟨⟨false, rfl⟩, rfl⟩ (Nat.le_of_ble_eq_true rfl) (Nat.le_of_ble_eq_true rfl)
        · refine fst1_ok X (dk rfl) rfl ?_
          refine br_ok X (dk rfl) rfl (show ((96 : Nat) : Int) + 4 = ((100 : Nat) : Int) from rfl) (fun _ => ?_) (fun q => absurd trivial q)
          exact reti_ok X hr hlk (bI_n true) (dk rfl) ⟨⟨true, rfl⟩, rfl⟩ (Nat.le_of_ble_eq_true rfl) (Nat.le_of_ble_eq_true rfl)
      · iterate 4 refine fst1_ok X (dk rfl) rfl ?_
        have L39 : ∀ j25 : Nat, j25 ≤ y14 → ∀ (y27 : Int32) (y29 : Int64) (l : List (Nat × Value)), lsel l [6, 5, 4, 3, 1, 0] = [(6, vI j25), (5, .int (j12)), (4, .int (y27)), (3, vI y14), (1, .long (y29)), (0, .ref o0)] → WR p la e (rmD 3 0 0) s m args below meth c D cA B0 7 (RdO bP h) 39 l [] h 0 0 := by
          refine loopN (fun j25 hj25 ih39 => ?_)
          intro y27 y29 l hl
          refine WS.sel [6, 5, 4, 3, 1, 0] hl ?_
          iterate 2 refine fst1_ok X (dk rfl) rfl ?_
          refine br_ok X (dk rfl) rfl (show ((42 : Nat) : Int) + 42 = ((84 : Nat) : Int) from rfl) (fun c31 => ?_) (fun c32 => ?_)
          · refine fst1_ok X (dk rfl) rfl ?_
            refine br_ok X (dk rfl) rfl (show ((87 : Nat) : Int) + (-66) = ((21 : Nat) : Int) from rfl) (fun _ => ?_) (fun q => absurd trivial q)
            exact ih21 _ (nlt_of c18) _ y14 (by omega) _ _ rfl
          · iterate 2 refine fst1_ok X (dk rfl) rfl ?_
            have hx33 := is_open (TI.rf I).1 gb6
            refine getf_ok X flX1_20 (dk rfl) hx33 rfl ?_
            refine fst1_ok X (dk rfl) rfl ?_
            obtain ⟨xs34, hx35, hn36⟩ := rw_open (TI.rf I).1 gc8
            refine ald7_ok X (dk rfl) hx35 (nI_pos (by omega)) (by rw [hn36, nI_clamp (by omega)]; have := nat_lt (K := y14) (by omega) c32; omega) (fun x37 hm38 => ?_)
            refine fst1_ok X (dk rfl) rfl ?_
            refine callVR_ok (ci := 3) (T := TX1) (N := 5) (av := [.int _, .long _]) (r := []) X E (c1_isClear _ (TI.rf I).1 T0 _ _) lkX1_isClear mlX1_107 lmX1_isClear lpX1_isClear ⟨Nat.le_of_ble_eq_true rfl, Nat.le_of_ble_eq_true rfl⟩ ⟨Nat.le_of_ble_eq_true rfl, Nat.le_of_ble_eq_true rfl⟩ rfl (is_cell (TI.rf I).1 gb6) (Nat.le_of_ble_eq_true rfl) (dk rfl) ?_
            rintro _ ⟨b39, rfl⟩
            refine br_ok X (dk rfl) rfl (show ((57 : Nat) : Int) + 18 = ((75 : Nat) : Int) from rfl) (fun c40 => ?_) (fun c41 => ?_)
            · iterate 2 refine fst1_ok X (dk rfl) rfl ?_
              refine br_ok X (dk rfl) rfl (show ((81 : Nat) : Int) + (-42) = ((39 : Nat) : Int) from rfl) (fun _ => ?_) (fun q => absurd trivial q)
              exact ih39 (nat_lt (K := y14) (by omega) c32) _ _ _ (by rw [← vI_succ j25]; rfl)
            · iterate 3 refine fst1_ok X (dk rfl) rfl ?_
              refine getf_ok X flX1_20 (dk rfl) hx33 rfl ?_
              refine fst1_ok X (dk rfl) rfl ?_
              refine ald7_ok X (dk rfl) hx35 (nI_pos (by omega)) (by rw [hn36, nI_clamp (by omega)]; have := nat_lt (K := y14) (by omega) c32; omega) (fun x42 hm43 => ?_)
              iterate 3 refine fst1_ok X (dk rfl) rfl ?_
              refine br_ok X (dk rfl) rfl (show ((72 : Nat) : Int) + 6 = ((78 : Nat) : Int) from rfl) (fun _ => ?_) (fun q => absurd trivial q)
              refine fst1_ok X (dk rfl) rfl ?_
              refine br_ok X (dk rfl) rfl (show ((81 : Nat) : Int) + (-42) = ((39 : Nat) : Int) from rfl) (fun _ => ?_) (fun q => absurd trivial q)
              exact ih39 (nat_lt (K := y14) (by omega) c32) _ _ _ (by rw [← vI_succ j25]; rfl)
        exact L39 0 (by omega) _ _ _ rfl
  iterate 3 refine fst1_ok X (dk rfl) rfl ?_
  have hx44 := is_open (TI.rf I).1 gb6
  refine getf_ok X flX1_16 (dk rfl) hx44 rfl ?_
  obtain ⟨hL46, q45, gb47, gl48⟩ := id tb7
  refine callVR_ok (ci := 7) (T := TX5) (N := 3) (av := []) (r := []) X E (c5_length _ (TI.rf I).1 tb7) lkX5_length mlX1_55 lmX5_length lpX5_length ⟨Nat.le_of_ble_eq_true rfl, Nat.le_of_ble_eq_true rfl⟩ ⟨Nat.le_of_ble_eq_true rfl, Nat.le_of_ble_eq_true rfl⟩ rfl (tm_cell (TI.rf I).1 gb47) (Nat.le_of_ble_eq_true rfl) (dk rfl) ?_
  rintro _ ⟨n49, hn50, rfl⟩
  refine fst1_ok X (dk rfl) rfl ?_
  rw [show (Int8.ofInt 32).toInt32 = nI 32 by decide +kernel]
  refine mminx_ok X (by omega) (by omega) mlX1_101 (dk rfl) (by decide) (Nat.le_of_ble_eq_true rfl) (Nat.le_of_ble_eq_true rfl) (Nat.le_of_ble_eq_true rfl) (fun mn51 hm52 => ?_)
  iterate 5 refine fst1_ok X (dk rfl) rfl ?_
  exact L21 _ _ mn51 (by omega) _ _ rfl
set_option maxHeartbeats 4000000 in
theorem FZ.c1_placeFor (h : AH) (I : Tyg Γ h) {o0 : Nat} (T0 : ClassT Γ o0) (x1 : Int32) : CT la D cA B0 pa yX1_placeFor cX1_placeFor 6 (some .int) (rmD 2 0 0) [.ref o0, .int (x1)] h (RdO iP h) := by
  refine CT_of (by decide +kernel) (Nat.le_of_ble_eq_true rfl) ?_
  intro p e s m args below meth c X E hr hlk hnm
  have dk : ∀ {pc : Nat} {q : Instr × Nat}, lkd DX1_placeFor pc = some q → decode cX1_placeFor pc = .ok q := lkd_ok DX1_placeFor_ok
  obtain ⟨bo1, co2, ho3, st4, pr5, gb6, tb7, gc8, gh9, gs10, tp11⟩ := id T0
  have L41 : ∀ j12 : Nat, j12 ≤ 32 → ∀ (y13 : Int32) (y14 : Int32) (l : List (Nat × Value)), lsel l [5, 4, 3, 1, 0] = [(5, vI j12), (4, .int (y13)), (3, .int (y14)), (1, .int (x1)), (0, .ref o0)] → WR p la e (rmD 2 0 0) s m args below meth c D cA B0 6 (RdO iP h) 41 l [] h 0 0 := by
    refine loopN (fun j12 hj12 ih41 => ?_)
    intro y13 y14 l hl
    refine WS.sel [5, 4, 3, 1, 0] hl ?_
    iterate 2 refine fst1_ok X (dk rfl) rfl ?_
    have hx17 := is_open (TI.rf I).1 gb6
    refine getf_ok X flX1_16 (dk rfl) hx17 rfl ?_
    obtain ⟨hL19, q18, gb20, gl21⟩ := id tb7
    refine callVR_ok (ci := 7) (T := TX5) (N := 3) (av := []) (r := [_]) X E (c5_length _ (TI.rf I).1 tb7) lkX5_length mlX1_55 lmX5_length lpX5_length ⟨Nat.le_of_ble_eq_true rfl, Nat.le_of_ble_eq_true rfl⟩ ⟨Nat.le_of_ble_eq_true rfl, Nat.le_of_ble_eq_true rfl⟩ rfl (tm_cell (TI.rf I).1 gb20) (Nat.le_of_ble_eq_true rfl) (dk rfl) ?_
    rintro _ ⟨n22, hn23, rfl⟩
    refine br_ok X (dk rfl) rfl (show ((50 : Nat) : Int) + 52 = ((102 : Nat) : Int) from rfl) (fun c24 => ?_) (fun c25 => ?_)
    · refine fst1_ok X (dk rfl) rfl ?_
      refine getf_ok X flX1_16 (dk rfl) hx17 rfl ?_
      refine fst1_ok X (dk rfl) rfl ?_
      refine callVR_ok (ci := 7) (T := TX5) (N := 3) (av := [.int _]) (r := []) X E (c5_letterAt _ (TI.rf I).1 tb7 _) lkX5_letterAt mlX1_45 lmX5_letterAt lpX5_letterAt ⟨Nat.le_of_ble_eq_true rfl, Nat.le_of_ble_eq_true rfl⟩ ⟨Nat.le_of_ble_eq_true rfl, Nat.le_of_ble_eq_true rfl⟩ rfl (tm_cell (TI.rf I).1 gb20) (Nat.le_of_ble_eq_true rfl) (dk rfl) ?_
      rintro _ ⟨x26, hx27, rfl⟩
      refine fst1_ok X (dk rfl) rfl ?_
      refine br_ok X (dk rfl) rfl (show ((112 : Nat) : Int) + 7 = ((119 : Nat) : Int) from rfl) (fun c28 => ?_) (fun c29 => ?_)
      · refine fst1_ok X (dk rfl) rfl ?_
        exact reti_ok X hr hlk rfl (dk rfl) ⟨⟨_, rfl⟩, rfl⟩ (Nat.le_of_ble_eq_true rfl) (Nat.le_of_ble_eq_true rfl)
      · refine fst1_ok X (dk rfl) rfl ?_
        refine br_ok X (dk rfl) rfl (show ((116 : Nat) : Int) + 5 = ((121 : Nat) : Int) from rfl) (fun _ => ?_) (fun q => absurd trivial q)
        exact reti_ok X hr hlk rfl (dk rfl) ⟨⟨_, rfl⟩, rfl⟩ (Nat.le_of_ble_eq_true rfl) (Nat.le_of_ble_eq_true rfl)
    · iterate 2 refine fst1_ok X (dk rfl) rfl ?_
      refine br_ok X (dk rfl) rfl (show ((57 : Nat) : Int) + 45 = ((102 : Nat) : Int) from rfl) (fun c30 => ?_) (fun c31 => ?_)
      · refine fst1_ok X (dk rfl) rfl ?_
        refine getf_ok X flX1_16 (dk rfl) hx17 rfl ?_
        refine fst1_ok X (dk rfl) rfl ?_
        refine callVR_ok (ci := 7) (T := TX5) (N := 3) (av := [.int _]) (r := []) X E (c5_letterAt _ (TI.rf I).1 tb7 _) lkX5_letterAt mlX1_45 lmX5_letterAt lpX5_letterAt ⟨Nat.le_of_ble_eq_true rfl, Nat.le_of_ble_eq_true rfl⟩ ⟨Nat.le_of_ble_eq_true rfl, Nat.le_of_ble_eq_true rfl⟩ rfl (tm_cell (TI.rf I).1 gb20) (Nat.le_of_ble_eq_true rfl) (dk rfl) ?_
        rintro _ ⟨x32, hx33, rfl⟩
        refine fst1_ok X (dk rfl) rfl ?_
        refine br_ok X (dk rfl) rfl (show ((112 : Nat) : Int) + 7 = ((119 : Nat) : Int) from rfl) (fun c34 => ?_) (fun c35 => ?_)
        · refine fst1_ok X (dk rfl) rfl ?_
          exact reti_ok X hr hlk rfl (dk rfl) ⟨⟨_, rfl⟩, rfl⟩ (Nat.le_of_ble_eq_true rfl) (Nat.le_of_ble_eq_true rfl)
        · refine fst1_ok X (dk rfl) rfl ?_
          refine br_ok X (dk rfl) rfl (show ((116 : Nat) : Int) + 5 = ((121 : Nat) : Int) from rfl) (fun _ => ?_) (fun q => absurd trivial q)
          exact reti_ok X hr hlk rfl (dk rfl) ⟨⟨_, rfl⟩, rfl⟩ (Nat.le_of_ble_eq_true rfl) (Nat.le_of_ble_eq_true rfl)
      · refine fst1_ok X (dk rfl) rfl ?_
        refine getf_ok X flX1_20 (dk rfl) hx17 rfl ?_
        refine fst1_ok X (dk rfl) rfl ?_
        obtain ⟨xs36, hx37, hn38⟩ := rw_open (TI.rf I).1 gc8
        refine ald7_ok X (dk rfl) hx37 (nI_pos (by omega)) (by rw [hn38]; exact ix_ok (by omega) (nI_pos (by omega)) (by rw [show nI 32 = (Int8.ofInt 32).toInt32 by decide +kernel]; exact c31)) (fun x39 hm40 => ?_)
        refine fst1_ok X (dk rfl) rfl ?_
        refine br_ok X (dk rfl) rfl (show ((68 : Nat) : Int) + 28 = ((96 : Nat) : Int) from rfl) (fun c41 => ?_) (fun c42 => ?_)
        · refine fst1_ok X (dk rfl) rfl ?_
          refine br_ok X (dk rfl) rfl (show ((99 : Nat) : Int) + (-58) = ((41 : Nat) : Int) from rfl) (fun _ => ?_) (fun q => absurd trivial q)
          exact ih41 (nat_lt (K := 32) (by omega) (by rw [show nI 32 = (Int8.ofInt 32).toInt32 by decide +kernel]; exact c31)) _ _ _ (by rw [← vI_succ j12]; rfl)
        · refine fst1_ok X (dk rfl) rfl ?_
          refine getf_ok X flX1_16 (dk rfl) hx17 rfl ?_
          refine fst1_ok X (dk rfl) rfl ?_
          refine callVR_ok (ci := 7) (T := TX5) (N := 3) (av := [.int _]) (r := []) X E (c5_letterAt _ (TI.rf I).1 tb7 _) lkX5_letterAt mlX1_45 lmX5_letterAt lpX5_letterAt ⟨Nat.le_of_ble_eq_true rfl, Nat.le_of_ble_eq_true rfl⟩ ⟨Nat.le_of_ble_eq_true rfl, Nat.le_of_ble_eq_true rfl⟩ rfl (tm_cell (TI.rf I).1 gb20) (Nat.le_of_ble_eq_true rfl) (dk rfl) ?_
          rintro _ ⟨x43, hx44, rfl⟩
          refine fst1_ok X (dk rfl) rfl ?_
          refine getf_ok X flX1_16 (dk rfl) hx17 rfl ?_
          refine fst1_ok X (dk rfl) rfl ?_
          refine callVR_ok (ci := 7) (T := TX5) (N := 3) (av := [.int _]) (r := [_]) X E (c5_letterAt _ (TI.rf I).1 tb7 _) lkX5_letterAt mlX1_45 lmX5_letterAt lpX5_letterAt ⟨Nat.le_of_ble_eq_true rfl, Nat.le_of_ble_eq_true rfl⟩ ⟨Nat.le_of_ble_eq_true rfl, Nat.le_of_ble_eq_true rfl⟩ rfl (tm_cell (TI.rf I).1 gb20) (Nat.le_of_ble_eq_true rfl) (dk rfl) ?_
          rintro _ ⟨x45, hx46, rfl⟩
          refine br_ok X (dk rfl) rfl (show ((89 : Nat) : Int) + 7 = ((96 : Nat) : Int) from rfl) (fun c47 => ?_) (fun c48 => ?_)
          · refine fst1_ok X (dk rfl) rfl ?_
            refine br_ok X (dk rfl) rfl (show ((99 : Nat) : Int) + (-58) = ((41 : Nat) : Int) from rfl) (fun _ => ?_) (fun q => absurd trivial q)
            exact ih41 (nat_lt (K := 32) (by omega) (by rw [show nI 32 = (Int8.ofInt 32).toInt32 by decide +kernel]; exact c31)) _ _ _ (by rw [← vI_succ j12]; rfl)
          · iterate 3 refine fst1_ok X (dk rfl) rfl ?_
            refine br_ok X (dk rfl) rfl (show ((99 : Nat) : Int) + (-58) = ((41 : Nat) : Int) from rfl) (fun _ => ?_) (fun q => absurd trivial q)
            exact ih41 (nat_lt (K := 32) (by omega) (by rw [show nI 32 = (Int8.ofInt 32).toInt32 by decide +kernel]; exact c31)) _ _ _ (by rw [← vI_succ j12]; rfl)
  refine fst1_ok X (dk rfl) rfl ?_
  have hx49 := is_open (TI.rf I).1 gb6
  refine getf_ok X flX1_16 (dk rfl) hx49 rfl ?_
  refine fst1_ok X (dk rfl) rfl ?_
  obtain ⟨hL51, q50, gb52, gl53⟩ := id tb7
  refine callVR_ok (ci := 7) (T := TX5) (N := 3) (av := [.int _]) (r := []) X E (c5_firstPlaceOf _ (TI.rf I).1 tb7 _) lkX5_firstPlaceOf mlX1_117 lmX5_firstPlaceOf lpX5_firstPlaceOf ⟨Nat.le_of_ble_eq_true rfl, Nat.le_of_ble_eq_true rfl⟩ ⟨Nat.le_of_ble_eq_true rfl, Nat.le_of_ble_eq_true rfl⟩ rfl (tm_cell (TI.rf I).1 gb52) (Nat.le_of_ble_eq_true rfl) (dk rfl) ?_
  rintro _ ⟨x54, rfl⟩
  iterate 3 refine fst1_ok X (dk rfl) rfl ?_
  refine callVR_ok (ci := 3) (T := TX1) (N := 5) (av := [.int _]) (r := []) X E (c1_classAt _ (TI.rf I).1 T0 _) lkX1_classAt mlX1_68 lmX1_classAt lpX1_classAt ⟨Nat.le_of_ble_eq_true rfl, Nat.le_of_ble_eq_true rfl⟩ ⟨Nat.le_of_ble_eq_true rfl, Nat.le_of_ble_eq_true rfl⟩ rfl (is_cell (TI.rf I).1 gb6) (Nat.le_of_ble_eq_true rfl) (dk rfl) ?_
  rintro _ ⟨x55, rfl⟩
  iterate 3 refine fst1_ok X (dk rfl) rfl ?_
  refine br_ok X (dk rfl) rfl (show ((17 : Nat) : Int) + 12 = ((29 : Nat) : Int) from rfl) (fun c56 => ?_) (fun c57 => ?_)
  · iterate 2 refine fst1_ok X (dk rfl) rfl ?_
    refine callVR_ok (ci := 3) (T := TX1) (N := 5) (av := [.int _]) (r := []) X E (c1_headAt _ (TI.rf I).1 T0 _) lkX1_headAt mlX1_94 lmX1_headAt lpX1_headAt ⟨Nat.le_of_ble_eq_true rfl, Nat.le_of_ble_eq_true rfl⟩ ⟨Nat.le_of_ble_eq_true rfl, Nat.le_of_ble_eq_true rfl⟩ rfl (is_cell (TI.rf I).1 gb6) (Nat.le_of_ble_eq_true rfl) (dk rfl) ?_
    rintro _ ⟨x58, rfl⟩
    exact reti_ok X hr hlk rfl (dk rfl) ⟨⟨_, rfl⟩, rfl⟩ (Nat.le_of_ble_eq_true rfl) (Nat.le_of_ble_eq_true rfl)
  · iterate 2 refine fst1_ok X (dk rfl) rfl ?_
    refine callVR_ok (ci := 3) (T := TX1) (N := 5) (av := [.int _]) (r := []) X E (c1_headAt _ (TI.rf I).1 T0 _) lkX1_headAt mlX1_94 lmX1_headAt lpX1_headAt ⟨Nat.le_of_ble_eq_true rfl, Nat.le_of_ble_eq_true rfl⟩ ⟨Nat.le_of_ble_eq_true rfl, Nat.le_of_ble_eq_true rfl⟩ rfl (is_cell (TI.rf I).1 gb6) (Nat.le_of_ble_eq_true rfl) (dk rfl) ?_
    rintro _ ⟨x59, rfl⟩
    refine fst1_ok X (dk rfl) rfl ?_
    refine br_ok X (dk rfl) rfl (show ((26 : Nat) : Int) + 9 = ((35 : Nat) : Int) from rfl) (fun c60 => ?_) (fun c61 => ?_)
    · iterate 4 refine fst1_ok X (dk rfl) rfl ?_
      exact L41 0 (by omega) _ _ _ rfl
    · iterate 2 refine fst1_ok X (dk rfl) rfl ?_
      refine callVR_ok (ci := 3) (T := TX1) (N := 5) (av := [.int _]) (r := []) X E (c1_headAt _ (TI.rf I).1 T0 _) lkX1_headAt mlX1_94 lmX1_headAt lpX1_headAt ⟨Nat.le_of_ble_eq_true rfl, Nat.le_of_ble_eq_true rfl⟩ ⟨Nat.le_of_ble_eq_true rfl, Nat.le_of_ble_eq_true rfl⟩ rfl (is_cell (TI.rf I).1 gb6) (Nat.le_of_ble_eq_true rfl) (dk rfl) ?_
      rintro _ ⟨x62, rfl⟩
      exact reti_ok X hr hlk rfl (dk rfl) ⟨⟨_, rfl⟩, rfl⟩ (Nat.le_of_ble_eq_true rfl) (Nat.le_of_ble_eq_true rfl)
set_option maxHeartbeats 4000000 in
theorem FZ.c1_tellInto (h : AH) (I : Tyg Γ h) {o0 : Nat} (T0 : ClassT Γ o0) {o1 : Nat} (T1 : AnsG true Γ o1) : CT la D cA B0 pa yX1_tellInto cX1_tellInto 3 none (rmD 4 0 0) [.ref o0, .ref o1] h (WrO Γ voidP h) := by
  refine CT_of (by decide +kernel) (Nat.le_of_ble_eq_true rfl) ?_
  intro p e s m args below meth c X E hr hlk hnm
  have dk : ∀ {pc : Nat} {q : Instr × Nat}, lkd DX1_tellInto pc = some q → decode cX1_tellInto pc = .ok q := lkd_ok DX1_tellInto_ok
  obtain ⟨bo1, co2, ho3, st4, pr5, gb6, tb7, gc8, gh9, gs10, tp11⟩ := id T0
  obtain ⟨ar12, ts13, gb14, ga15, tl16, tt17⟩ := id T1
  have L2 : ∀ j18 : Nat, j18 ≤ 8 → ∀ (h21 : AH) (J22 : TI Γ h h21) (l : List (Nat × Value)), lsel l [2, 1, 0] = [(2, vI j18), (1, .ref o1), (0, .ref o0)] → WR p la e (rmD 4 0 0) s m args below meth c D cA B0 3 (WrO Γ voidP h) 2 l [] h21 0 0 := by
    refine loopN (fun j18 hj18 ih2 => ?_)
    intro h21 J22 l hl
    refine WS.sel [2, 1, 0] hl ?_
    iterate 2 refine fst1_ok X (dk rfl) rfl ?_
    refine br_ok X (dk rfl) rfl (show ((5 : Nat) : Int) + 20 = ((25 : Nat) : Int) from rfl) (fun c23 => ?_) (fun c24 => ?_)
    · iterate 2 refine fst1_ok X (dk rfl) rfl ?_
      have hx25 := is_open J22.1 gb6
      refine getf_ok X flX1_16 (dk rfl) hx25 rfl ?_
      refine fst1_ok X (dk rfl) rfl ?_
      refine getf_ok X flX1_27 (dk rfl) hx25 rfl ?_
      refine callVW_ok (ci := 2) (T := TX0) (N := 1) (av := [.ref _, .ref _]) (r := []) X E J22 (c0_becomeWholeOf _ J22.1 T1 tb7 gs10) lkX0_becomeWholeOf mlX1_88 lmX0_becomeWholeOf lpX0_becomeWholeOf ⟨Nat.le_of_ble_eq_true rfl, Nat.le_of_ble_eq_true rfl⟩ ⟨Nat.le_of_ble_eq_true rfl, Nat.le_of_ble_eq_true rfl⟩ rfl (is_cell J22.1 gb14) (Nat.le_of_ble_eq_true rfl) (dk rfl) ?_
      rintro _ h26 rfl J27
      exact retv_ok X hr hlk (dk rfl) ⟨rfl, J27⟩ (Nat.le_of_ble_eq_true rfl) (Nat.le_of_ble_eq_true rfl)
    · refine fst1_ok X (dk rfl) rfl ?_
      have hx28 := is_open J22.1 gb6
      refine getf_ok X flX1_27 (dk rfl) hx28 rfl ?_
      iterate 3 refine fst1_ok X (dk rfl) rfl ?_
      refine callVR_ok (ci := 3) (T := TX1) (N := 5) (av := [.int _]) (r := [_, _]) X E (c1_placeFor _ J22.1 T0 _) lkX1_placeFor mlX1_85 lmX1_placeFor lpX1_placeFor ⟨Nat.le_of_ble_eq_true rfl, Nat.le_of_ble_eq_true rfl⟩ ⟨Nat.le_of_ble_eq_true rfl, Nat.le_of_ble_eq_true rfl⟩ rfl (is_cell J22.1 gb6) (Nat.le_of_ble_eq_true rfl) (dk rfl) ?_
      rintro _ ⟨x29, rfl⟩
      obtain ⟨xs30, hx31, hn32⟩ := rw_open J22.1 gs10
      refine astT_ok X (dk rfl) hx31 (nI_pos (by omega)) (by rw [hn32]; exact ix_ok (by omega) (nI_pos (by omega)) (by rw [show nI 8 = (Int8.ofInt 8).toInt32 by decide +kernel]; exact c24)) J22 gs10 (rowφ_set hn32 _ _) (fun h33 J34 ho35 => ?_)
      have hx36 := (ho35 o0 (k_ne hx28 hx31 (by decide))).trans hx28
      refine fst1_ok X (dk rfl) rfl ?_
      refine br_ok X (dk rfl) rfl (show ((22 : Nat) : Int) + (-20) = ((2 : Nat) : Int) from rfl) (fun _ => ?_) (fun q => absurd trivial q)
      exact ih2 (nat_lt (K := 8) (by omega) (by rw [show nI 8 = (Int8.ofInt 8).toInt32 by decide +kernel]; exact c24)) h33 J34 _ (by rw [← vI_succ j18]; rfl)
  iterate 2 refine fst1_ok X (dk rfl) rfl ?_
  exact L2 0 (by omega) h (TI.rf I) _ rfl
set_option maxHeartbeats 4000000 in
theorem FZ.c1_makeAlike (h : AH) (I : Tyg Γ h) {o0 : Nat} (T0 : ClassT Γ o0) {o1 L1 : Nat} {w1 : Bool} (T1 : TermG w1 Γ o1 L1) {o2 L2 : Nat} {w2 : Bool} (T2 : TermG w2 Γ o2 L2) : CT la D cA B0 pa yX1_makeAlike cX1_makeAlike 8 (some .boolean) (rmD 4 0 0) [.ref o0, .ref o1, .ref o2] h (WrO Γ bP h) := by
  refine CT_of (by decide +kernel) (Nat.le_of_ble_eq_true rfl) ?_
  intro p e s m args below meth c X E hr hlk hnm
  have dk : ∀ {pc : Nat} {q : Instr × Nat}, lkd DX1_makeAlike pc = some q → decode cX1_makeAlike pc = .ok q := lkd_ok DX1_makeAlike_ok
  obtain ⟨bo1, co2, ho3, st4, pr5, gb6, tb7, gc8, gh9, gs10, tp11⟩ := id T0
  obtain ⟨hL13, q12, gb14, gl15⟩ := id T1
  obtain ⟨hL17, q16, gb18, gl19⟩ := id T2
  have L86 : ∀ j20 : Int32, ∀ (y21 : Bool) (h23 : AH) (J24 : TI Γ h h23) (l : List (Nat × Value)), lsel l [4, 3, 0] = [(4, .int (j20)), (3, .int (bI y21)), (0, .ref o0)] → WR p la e (rmD 4 0 0) s m args below meth c D cA B0 8 (WrO Γ bP h) 86 l [] h23 0 0 := by
    refine loopUp (fun j20 ih86 => ?_)
    intro y21 h23 J24 l hl
    refine WS.sel [4, 3, 0] hl ?_
    refine fst1_ok X (dk rfl) rfl ?_
    refine ldc_ok X csX1_63 (dk rfl) ?_
    refine br_ok X (dk rfl) rfl (show ((90 : Nat) : Int) + 95 = ((185 : Nat) : Int) from rfl) (fun c25 => ?_) (fun c26 => ?_)
    · refine fst1_ok X (dk rfl) rfl ?_
      refine br_ok X (dk rfl) rfl (show ((186 : Nat) : Int) + 14 = ((200 : Nat) : Int) from rfl) (fun c27 => ?_) (fun c28 => ?_)
      · refine fst1_ok X (dk rfl) rfl ?_
        exact reti_ok X hr hlk (bI_n false) (dk rfl) ⟨⟨false, rfl⟩, J24⟩ (Nat.le_of_ble_eq_true rfl) (Nat.le_of_ble_eq_true rfl)
      · refine fst1_ok X (dk rfl) rfl ?_
        refine callVR_ok (ci := 3) (T := TX1) (N := 5) (av := []) (r := []) X E (c1_isNoneInItself _ J24.1 T0) lkX1_isNoneInItself mlX1_81 lmX1_isNoneInItself lpX1_isNoneInItself ⟨Nat.le_of_ble_eq_true rfl, Nat.le_of_ble_eq_true rfl⟩ ⟨Nat.le_of_ble_eq_true rfl, Nat.le_of_ble_eq_true rfl⟩ rfl (is_cell J24.1 gb6) (Nat.le_of_ble_eq_true rfl) (dk rfl) ?_
        rintro _ ⟨b29, rfl⟩
        refine br_ok X (dk rfl) rfl (show ((193 : Nat) : Int) + 7 = ((200 : Nat) : Int) from rfl) (fun c30 => ?_) (fun c31 => ?_)
        · refine fst1_ok X (dk rfl) rfl ?_
          exact reti_ok X hr hlk (bI_n false) (dk rfl) ⟨⟨false, rfl⟩, J24⟩ (Nat.le_of_ble_eq_true rfl) (Nat.le_of_ble_eq_true rfl)
        · refine fst1_ok X (dk rfl) rfl ?_
          refine br_ok X (dk rfl) rfl (show ((197 : Nat) : Int) + 4 = ((201 : Nat) : Int) from rfl) (fun _ => ?_) (fun q => absurd trivial q)
          exact reti_ok X hr hlk (bI_n true) (dk rfl) ⟨⟨true, rfl⟩, J24⟩ (Nat.le_of_ble_eq_true rfl) (Nat.le_of_ble_eq_true rfl)
    · refine fst1_ok X (dk rfl) rfl ?_
      refine br_ok X (dk rfl) rfl (show ((94 : Nat) : Int) + 91 = ((185 : Nat) : Int) from rfl) (fun c32 => ?_) (fun c33 => ?_)
      · refine fst1_ok X (dk rfl) rfl ?_
        refine br_ok X (dk rfl) rfl (show ((186 : Nat) : Int) + 14 = ((200 : Nat) : Int) from rfl) (fun c34 => ?_) (fun c35 => ?_)
        · refine fst1_ok X (dk rfl) rfl ?_
          exact reti_ok X hr hlk (bI_n false) (dk rfl) ⟨⟨false, rfl⟩, J24⟩ (Nat.le_of_ble_eq_true rfl) (Nat.le_of_ble_eq_true rfl)
        · refine fst1_ok X (dk rfl) rfl ?_
          refine callVR_ok (ci := 3) (T := TX1) (N := 5) (av := []) (r := []) X E (c1_isNoneInItself _ J24.1 T0) lkX1_isNoneInItself mlX1_81 lmX1_isNoneInItself lpX1_isNoneInItself ⟨Nat.le_of_ble_eq_true rfl, Nat.le_of_ble_eq_true rfl⟩ ⟨Nat.le_of_ble_eq_true rfl, Nat.le_of_ble_eq_true rfl⟩ rfl (is_cell J24.1 gb6) (Nat.le_of_ble_eq_true rfl) (dk rfl) ?_
          rintro _ ⟨b36, rfl⟩
          refine br_ok X (dk rfl) rfl (show ((193 : Nat) : Int) + 7 = ((200 : Nat) : Int) from rfl) (fun c37 => ?_) (fun c38 => ?_)
          · refine fst1_ok X (dk rfl) rfl ?_
            exact reti_ok X hr hlk (bI_n false) (dk rfl) ⟨⟨false, rfl⟩, J24⟩ (Nat.le_of_ble_eq_true rfl) (Nat.le_of_ble_eq_true rfl)
          · refine fst1_ok X (dk rfl) rfl ?_
            refine br_ok X (dk rfl) rfl (show ((197 : Nat) : Int) + 4 = ((201 : Nat) : Int) from rfl) (fun _ => ?_) (fun q => absurd trivial q)
            exact reti_ok X hr hlk (bI_n true) (dk rfl) ⟨⟨true, rfl⟩, J24⟩ (Nat.le_of_ble_eq_true rfl) (Nat.le_of_ble_eq_true rfl)
      · refine fst1_ok X (dk rfl) rfl ?_
        have hx39 := is_open J24.1 gb6
        refine getf_ok X flX1_33 (dk rfl) hx39 rfl ?_
        obtain ⟨a40, a41, gb42, g43, g44⟩ := id tp11
        refine callVR_ok (ci := 4) (T := TX2) (N := 3) (av := []) (r := []) X E (c2_length _ J24.1 tp11) lkX2_length mlX1_64 lmX2_length lpX2_length ⟨Nat.le_of_ble_eq_true rfl, Nat.le_of_ble_eq_true rfl⟩ ⟨Nat.le_of_ble_eq_true rfl, Nat.le_of_ble_eq_true rfl⟩ rfl (pr_cell J24.1 gb42) (Nat.le_of_ble_eq_true rfl) (dk rfl) ?_
        rintro _ ⟨n45, hn46, rfl⟩
        refine br_ok X (dk rfl) rfl (show ((104 : Nat) : Int) + 81 = ((185 : Nat) : Int) from rfl) (fun c47 => ?_) (fun c48 => ?_)
        · refine fst1_ok X (dk rfl) rfl ?_
          refine br_ok X (dk rfl) rfl (show ((186 : Nat) : Int) + 14 = ((200 : Nat) : Int) from rfl) (fun c49 => ?_) (fun c50 => ?_)
          · refine fst1_ok X (dk rfl) rfl ?_
            exact reti_ok X hr hlk (bI_n false) (dk rfl) ⟨⟨false, rfl⟩, J24⟩ (Nat.le_of_ble_eq_true rfl) (Nat.le_of_ble_eq_true rfl)
          · refine fst1_ok X (dk rfl) rfl ?_
            refine callVR_ok (ci := 3) (T := TX1) (N := 5) (av := []) (r := []) X E (c1_isNoneInItself _ J24.1 T0) lkX1_isNoneInItself mlX1_81 lmX1_isNoneInItself lpX1_isNoneInItself ⟨Nat.le_of_ble_eq_true rfl, Nat.le_of_ble_eq_true rfl⟩ ⟨Nat.le_of_ble_eq_true rfl, Nat.le_of_ble_eq_true rfl⟩ rfl (is_cell J24.1 gb6) (Nat.le_of_ble_eq_true rfl) (dk rfl) ?_
            rintro _ ⟨b51, rfl⟩
            refine br_ok X (dk rfl) rfl (show ((193 : Nat) : Int) + 7 = ((200 : Nat) : Int) from rfl) (fun c52 => ?_) (fun c53 => ?_)
            · refine fst1_ok X (dk rfl) rfl ?_
              exact reti_ok X hr hlk (bI_n false) (dk rfl) ⟨⟨false, rfl⟩, J24⟩ (Nat.le_of_ble_eq_true rfl) (Nat.le_of_ble_eq_true rfl)
            · refine fst1_ok X (dk rfl) rfl ?_
              refine br_ok X (dk rfl) rfl (show ((197 : Nat) : Int) + 4 = ((201 : Nat) : Int) from rfl) (fun _ => ?_) (fun q => absurd trivial q)
              exact reti_ok X hr hlk (bI_n true) (dk rfl) ⟨⟨true, rfl⟩, J24⟩ (Nat.le_of_ble_eq_true rfl) (Nat.le_of_ble_eq_true rfl)
        · refine fst1_ok X (dk rfl) rfl ?_
          refine getf_ok X flX1_33 (dk rfl) hx39 rfl ?_
          refine callVR_ok (ci := 4) (T := TX2) (N := 3) (av := []) (r := []) X E (c2_length _ J24.1 tp11) lkX2_length mlX1_64 lmX2_length lpX2_length ⟨Nat.le_of_ble_eq_true rfl, Nat.le_of_ble_eq_true rfl⟩ ⟨Nat.le_of_ble_eq_true rfl, Nat.le_of_ble_eq_true rfl⟩ rfl (pr_cell J24.1 gb42) (Nat.le_of_ble_eq_true rfl) (dk rfl) ?_
          rintro _ ⟨n54, hn55, rfl⟩
          iterate 5 refine fst1_ok X (dk rfl) rfl ?_
          refine getf_ok X flX1_33 (dk rfl) hx39 rfl ?_
          refine fst1_ok X (dk rfl) rfl ?_
          refine callVR_ok (ci := 4) (T := TX2) (N := 3) (av := [.int _]) (r := [_]) X E (c2_oneAt _ J24.1 tp11 _) lkX2_oneAt mlX1_65 lmX2_oneAt lpX2_oneAt ⟨Nat.le_of_ble_eq_true rfl, Nat.le_of_ble_eq_true rfl⟩ ⟨Nat.le_of_ble_eq_true rfl, Nat.le_of_ble_eq_true rfl⟩ rfl (pr_cell J24.1 gb42) (Nat.le_of_ble_eq_true rfl) (dk rfl) ?_
          rintro _ ⟨x56, rfl⟩
          refine callVR_ok (ci := 3) (T := TX1) (N := 5) (av := [.int _]) (r := []) X E (c1_classAt _ J24.1 T0 _) lkX1_classAt mlX1_68 lmX1_classAt lpX1_classAt ⟨Nat.le_of_ble_eq_true rfl, Nat.le_of_ble_eq_true rfl⟩ ⟨Nat.le_of_ble_eq_true rfl, Nat.le_of_ble_eq_true rfl⟩ rfl (is_cell J24.1 gb6) (Nat.le_of_ble_eq_true rfl) (dk rfl) ?_
          rintro _ ⟨x57, rfl⟩
          iterate 3 refine fst1_ok X (dk rfl) rfl ?_
          refine getf_ok X flX1_33 (dk rfl) hx39 rfl ?_
          refine fst1_ok X (dk rfl) rfl ?_
          refine callVR_ok (ci := 4) (T := TX2) (N := 3) (av := [.int _]) (r := [_]) X E (c2_otherAt _ J24.1 tp11 _) lkX2_otherAt mlX1_71 lmX2_otherAt lpX2_otherAt ⟨Nat.le_of_ble_eq_true rfl, Nat.le_of_ble_eq_true rfl⟩ ⟨Nat.le_of_ble_eq_true rfl, Nat.le_of_ble_eq_true rfl⟩ rfl (pr_cell J24.1 gb42) (Nat.le_of_ble_eq_true rfl) (dk rfl) ?_
          rintro _ ⟨x58, rfl⟩
          refine callVR_ok (ci := 3) (T := TX1) (N := 5) (av := [.int _]) (r := []) X E (c1_classAt _ J24.1 T0 _) lkX1_classAt mlX1_68 lmX1_classAt lpX1_classAt ⟨Nat.le_of_ble_eq_true rfl, Nat.le_of_ble_eq_true rfl⟩ ⟨Nat.le_of_ble_eq_true rfl, Nat.le_of_ble_eq_true rfl⟩ rfl (is_cell J24.1 gb6) (Nat.le_of_ble_eq_true rfl) (dk rfl) ?_
          rintro _ ⟨x59, rfl⟩
          iterate 2 refine fst1_ok X (dk rfl) rfl ?_
          refine getf_ok X flX1_33 (dk rfl) hx39 rfl ?_
          refine callVW_ok (ci := 4) (T := TX2) (N := 3) (av := []) (r := []) X E J24 (c2_dropNext _ J24.1 tp11) lkX2_dropNext mlX1_74 lmX2_dropNext lpX2_dropNext ⟨Nat.le_of_ble_eq_true rfl, Nat.le_of_ble_eq_true rfl⟩ ⟨Nat.le_of_ble_eq_true rfl, Nat.le_of_ble_eq_true rfl⟩ rfl (pr_cell J24.1 gb42) (Nat.le_of_ble_eq_true rfl) (dk rfl) ?_
          rintro _ h60 rfl J61
          iterate 2 refine fst1_ok X (dk rfl) rfl ?_
          refine br_ok X (dk rfl) rfl (show ((159 : Nat) : Int) + 14 = ((173 : Nat) : Int) from rfl) (fun c62 => ?_) (fun c63 => ?_)
          · refine fst1_ok X (dk rfl) rfl ?_
            refine br_ok X (dk rfl) rfl (show ((174 : Nat) : Int) + 4 = ((178 : Nat) : Int) from rfl) (fun _ => ?_) (fun q => absurd trivial q)
            iterate 2 refine fst1_ok X (dk rfl) rfl ?_
            refine br_ok X (dk rfl) rfl (show ((182 : Nat) : Int) + (-96) = ((86 : Nat) : Int) from rfl) (fun _ => ?_) (fun q => absurd trivial q)
            exact ih86 _ (nlt_of c26) true h60 J61 _ rfl
          · iterate 3 refine fst1_ok X (dk rfl) rfl ?_
            refine callVW_ok (ci := 3) (T := TX1) (N := 5) (av := [.int _, .int _]) (r := []) X E J61 (c1_join _ J61.1 T0 _ _) lkX1_join mlX1_77 lmX1_join lpX1_join ⟨Nat.le_of_ble_eq_true rfl, Nat.le_of_ble_eq_true rfl⟩ ⟨Nat.le_of_ble_eq_true rfl, Nat.le_of_ble_eq_true rfl⟩ rfl (is_cell J61.1 gb6) (Nat.le_of_ble_eq_true rfl) (dk rfl) ?_
            rintro _ h65 ⟨b64, rfl⟩ J66
            refine br_ok X (dk rfl) rfl (show ((170 : Nat) : Int) + 7 = ((177 : Nat) : Int) from rfl) (fun c67 => ?_) (fun c68 => ?_)
            · iterate 3 refine fst1_ok X (dk rfl) rfl ?_
              refine br_ok X (dk rfl) rfl (show ((182 : Nat) : Int) + (-96) = ((86 : Nat) : Int) from rfl) (fun _ => ?_) (fun q => absurd trivial q)
              exact ih86 _ (nlt_of c26) false h65 J66 _ rfl
            · refine fst1_ok X (dk rfl) rfl ?_
              refine br_ok X (dk rfl) rfl (show ((174 : Nat) : Int) + 4 = ((178 : Nat) : Int) from rfl) (fun _ => ?_) (fun q => absurd trivial q)
              iterate 2 refine fst1_ok X (dk rfl) rfl ?_
              refine br_ok X (dk rfl) rfl (show ((182 : Nat) : Int) + (-96) = ((86 : Nat) : Int) from rfl) (fun _ => ?_) (fun q => absurd trivial q)
              exact ih86 _ (nlt_of c26) true h65 J66 _ rfl
  have L11 : ∀ j69 : Nat, j69 ≤ 32 → ∀ (h73 : AH) (J74 : TI Γ h h73) (l : List (Nat × Value)), lsel l [3, 2, 1, 0] = [(3, vI j69), (2, .ref o2), (1, .ref o1), (0, .ref o0)] → WR p la e (rmD 4 0 0) s m args below meth c D cA B0 8 (WrO Γ bP h) 11 l [] h73 0 0 := by
    refine loopN (fun j69 hj69 ih11 => ?_)
    intro h73 J74 l hl
    refine WS.sel [3, 2, 1, 0] hl ?_
    iterate 2 refine fst1_ok X (dk rfl) rfl ?_
    refine br_ok X (dk rfl) rfl (show ((14 : Nat) : Int) + 48 = ((62 : Nat) : Int) from rfl) (fun c75 => ?_) (fun c76 => ?_)
    · refine fst1_ok X (dk rfl) rfl ?_
      have hx77 := is_open J74.1 gb6
      refine getf_ok X flX1_33 (dk rfl) hx77 rfl ?_
      obtain ⟨a78, a79, gb80, g81, g82⟩ := id tp11
      refine callVW_ok (ci := 4) (T := TX2) (N := 3) (av := []) (r := []) X E J74 (c2_empty _ J74.1 tp11) lkX2_empty mlX1_52 lmX2_empty lpX2_empty ⟨Nat.le_of_ble_eq_true rfl, Nat.le_of_ble_eq_true rfl⟩ ⟨Nat.le_of_ble_eq_true rfl, Nat.le_of_ble_eq_true rfl⟩ rfl (pr_cell J74.1 gb80) (Nat.le_of_ble_eq_true rfl) (dk rfl) ?_
      rintro _ h83 rfl J84
      refine fst1_ok X (dk rfl) rfl ?_
      have hx85 := is_open J84.1 gb6
      refine getf_ok X flX1_33 (dk rfl) hx85 rfl ?_
      iterate 2 refine fst1_ok X (dk rfl) rfl ?_
      refine callVR_ok (ci := 7) (T := TX5) (N := 3) (av := []) (r := [_, _]) X E (c5_length _ J84.1 T1) lkX5_length mlX1_55 lmX5_length lpX5_length ⟨Nat.le_of_ble_eq_true rfl, Nat.le_of_ble_eq_true rfl⟩ ⟨Nat.le_of_ble_eq_true rfl, Nat.le_of_ble_eq_true rfl⟩ rfl (tm_cell J84.1 gb14) (Nat.le_of_ble_eq_true rfl) (dk rfl) ?_
      rintro _ ⟨n86, hn87, rfl⟩
      refine callVW_ok (ci := 4) (T := TX2) (N := 3) (av := [.int _, .int _]) (r := []) X E J84 (c2_add _ J84.1 tp11 _ _) lkX2_add mlX1_59 lmX2_add lpX2_add ⟨Nat.le_of_ble_eq_true rfl, Nat.le_of_ble_eq_true rfl⟩ ⟨Nat.le_of_ble_eq_true rfl, Nat.le_of_ble_eq_true rfl⟩ rfl (pr_cell J84.1 gb80) (Nat.le_of_ble_eq_true rfl) (dk rfl) ?_
      rintro _ h88 rfl J89
      iterate 4 refine fst1_ok X (dk rfl) rfl ?_
      exact L86 _ true h88 J89 _ rfl
    · refine fst1_ok X (dk rfl) rfl ?_
      have hx90 := is_open J74.1 gb6
      refine getf_ok X flX1_20 (dk rfl) hx90 rfl ?_
      iterate 2 refine fst1_ok X (dk rfl) rfl ?_
      refine getf_ok X flX1_16 (dk rfl) hx90 rfl ?_
      refine fst1_ok X (dk rfl) rfl ?_
      obtain ⟨hL92, q91, gb93, gl94⟩ := id tb7
      refine callVR_ok (ci := 7) (T := TX5) (N := 3) (av := [.int _]) (r := [_, _]) X E (c5_firstLike _ J74.1 tb7 _) lkX5_firstLike mlX1_41 lmX5_firstLike lpX5_firstLike ⟨Nat.le_of_ble_eq_true rfl, Nat.le_of_ble_eq_true rfl⟩ ⟨Nat.le_of_ble_eq_true rfl, Nat.le_of_ble_eq_true rfl⟩ rfl (tm_cell J74.1 gb93) (Nat.le_of_ble_eq_true rfl) (dk rfl) ?_
      rintro _ ⟨x95, rfl⟩
      obtain ⟨xs96, hx97, hn98⟩ := rw_open J74.1 gc8
      refine astT_ok X (dk rfl) hx97 (nI_pos (by omega)) (by rw [hn98]; exact ix_ok (by omega) (nI_pos (by omega)) (by rw [show nI 32 = (Int8.ofInt 32).toInt32 by decide +kernel]; exact c76)) J74 gc8 (rowφ_set hn98 _ _) (fun h99 J100 ho101 => ?_)
      have hx102 := (ho101 o0 (k_ne hx90 hx97 (by decide))).trans hx90
      refine fst1_ok X (dk rfl) rfl ?_
      refine getf_ok X flX1_24 (dk rfl) hx102 rfl ?_
      iterate 2 refine fst1_ok X (dk rfl) rfl ?_
      refine getf_ok X flX1_16 (dk rfl) hx102 rfl ?_
      refine fst1_ok X (dk rfl) rfl ?_
      refine callVR_ok (ci := 7) (T := TX5) (N := 3) (av := [.int _]) (r := [_, _]) X E (c5_letterAt _ J100.1 tb7 _) lkX5_letterAt mlX1_45 lmX5_letterAt lpX5_letterAt ⟨Nat.le_of_ble_eq_true rfl, Nat.le_of_ble_eq_true rfl⟩ ⟨Nat.le_of_ble_eq_true rfl, Nat.le_of_ble_eq_true rfl⟩ rfl (tm_cell J100.1 gb93) (Nat.le_of_ble_eq_true rfl) (dk rfl) ?_
      rintro _ ⟨x103, hx104, rfl⟩
      refine callNR_ok (av := [.int _]) (r := [_, _]) X E (c6_isHead _ J100.1 _) lkX6_isHead mnX1_48 lsX6_isHead ⟨Nat.le_of_ble_eq_true rfl, Nat.le_of_ble_eq_true rfl⟩ ⟨Nat.le_of_ble_eq_true rfl, Nat.le_of_ble_eq_true rfl⟩ (Nat.le_of_ble_eq_true rfl) (dk rfl) ?_
      rintro _ ⟨b105, rfl⟩
      refine br_ok X (dk rfl) rfl (show ((47 : Nat) : Int) + 7 = ((54 : Nat) : Int) from rfl) (fun c106 => ?_) (fun c107 => ?_)
      · refine fst1_ok X (dk rfl) rfl ?_
        obtain ⟨xs108, hx109, hn110⟩ := rw_open J100.1 gh9
        refine astT_ok X (dk rfl) hx109 (nI_pos (by omega)) (by rw [hn110]; exact ix_ok (by omega) (nI_pos (by omega)) (by rw [show nI 32 = (Int8.ofInt 32).toInt32 by decide +kernel]; exact c76)) J100 gh9 (rowφ_set hn110 _ _) (fun h111 J112 ho113 => ?_)
        have hx114 := (ho113 o0 (k_ne hx102 hx109 (by decide))).trans hx102
        refine fst1_ok X (dk rfl) rfl ?_
        refine br_ok X (dk rfl) rfl (show ((59 : Nat) : Int) + (-48) = ((11 : Nat) : Int) from rfl) (fun _ => ?_) (fun q => absurd trivial q)
        exact ih11 (nat_lt (K := 32) (by omega) (by rw [show nI 32 = (Int8.ofInt 32).toInt32 by decide +kernel]; exact c76)) h111 J112 _ (by rw [← vI_succ j69]; rfl)
      · refine fst1_ok X (dk rfl) rfl ?_
        refine br_ok X (dk rfl) rfl (show ((51 : Nat) : Int) + 4 = ((55 : Nat) : Int) from rfl) (fun _ => ?_) (fun q => absurd trivial q)
        obtain ⟨xs115, hx116, hn117⟩ := rw_open J100.1 gh9
        refine astT_ok X (dk rfl) hx116 (nI_pos (by omega)) (by rw [hn117]; exact ix_ok (by omega) (nI_pos (by omega)) (by rw [show nI 32 = (Int8.ofInt 32).toInt32 by decide +kernel]; exact c76)) J100 gh9 (rowφ_set hn117 _ _) (fun h118 J119 ho120 => ?_)
        have hx121 := (ho120 o0 (k_ne hx102 hx116 (by decide))).trans hx102
        refine fst1_ok X (dk rfl) rfl ?_
        refine br_ok X (dk rfl) rfl (show ((59 : Nat) : Int) + (-48) = ((11 : Nat) : Int) from rfl) (fun _ => ?_) (fun q => absurd trivial q)
        exact ih11 (nat_lt (K := 32) (by omega) (by rw [show nI 32 = (Int8.ofInt 32).toInt32 by decide +kernel]; exact c76)) h118 J119 _ (by rw [← vI_succ j69]; rfl)
  refine fst1_ok X (dk rfl) rfl ?_
  have hx122 := is_open (TI.rf I).1 gb6
  refine getf_ok X flX1_16 (dk rfl) hx122 rfl ?_
  iterate 2 refine fst1_ok X (dk rfl) rfl ?_
  obtain ⟨hL124, q123, gb125, gl126⟩ := id tb7
  refine callVW_ok (ci := 7) (T := TX5) (N := 3) (av := [.ref _, .ref _]) (r := []) X E (TI.rf I) (c5_becomeBoth _ (TI.rf I).1 tb7 T1 T2) lkX5_becomeBoth mlX1_37 lmX5_becomeBoth lpX5_becomeBoth ⟨Nat.le_of_ble_eq_true rfl, Nat.le_of_ble_eq_true rfl⟩ ⟨Nat.le_of_ble_eq_true rfl, Nat.le_of_ble_eq_true rfl⟩ rfl (tm_cell (TI.rf I).1 gb125) (Nat.le_of_ble_eq_true rfl) (dk rfl) ?_
  rintro _ h127 rfl J128
  iterate 2 refine fst1_ok X (dk rfl) rfl ?_
  exact L11 0 (by omega) h127 J128 _ rfl
end M93
