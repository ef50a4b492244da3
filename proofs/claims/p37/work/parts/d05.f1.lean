section Ud05f1
/-! the class, weakly, over types that keep contents: classes (printed by wip/p20/genFZ.py from wip/p40/cl4.py) -/
section M93
variable {la : Launch} {D : va_G} {cA : Nat → ClassId} {B0 pa : Nat} {Γ : TY}
set_option maxHeartbeats 4000000 in
theorem FZ.c1_classAt (h : AH) (I : Tyg Γ h) {o0 : Nat} (T0 : ClassT Γ o0) (x1 : Int32) : CT la D cA B0 pa yX1_classAt cX1_classAt 2 (some .int) (rmD 0 0 0) [.ref o0, .int (x1)] h (RdO iP h) := by
  refine CT_of (by decide +kernel) (Nat.le_of_ble_eq_true rfl) ?_
  intro p e s m args below meth c X E hr hlk hnm
  have dk : ∀ {pc : Nat} {q : Instr × Nat}, lkd DX1_classAt pc = some q → decode cX1_classAt pc = .ok q := lkd_ok DX1_classAt_ok
  obtain ⟨bo1, co2, ho3, st4, pr5, gb6, tb7, gc8, gh9, gs10, tp11⟩ := id T0
  refine fst1_ok X (dk rfl) rfl ?_
  refine br_ok X (dk rfl) rfl (show ((1 : Nat) : Int) + 18 = ((19 : Nat) : Int) from rfl) (fun c12 => ?_) (fun c13 => ?_)
  · refine fst1_ok X (dk rfl) rfl ?_
    exact reti_ok X hr hlk rfl (dk rfl) ⟨⟨_, rfl⟩, rfl⟩ (Nat.le_of_ble_eq_true rfl) (Nat.le_of_ble_eq_true rfl)
  · iterate 2 refine fst1_ok X (dk rfl) rfl ?_
    refine br_ok X (dk rfl) rfl (show ((7 : Nat) : Int) + 12 = ((19 : Nat) : Int) from rfl) (fun c14 => ?_) (fun c15 => ?_)
    · refine fst1_ok X (dk rfl) rfl ?_
      exact reti_ok X hr hlk rfl (dk rfl) ⟨⟨_, rfl⟩, rfl⟩ (Nat.le_of_ble_eq_true rfl) (Nat.le_of_ble_eq_true rfl)
    · refine fst1_ok X (dk rfl) rfl ?_
      have hx16 := is_open (TI.rf I).1 gb6
      refine getf_ok X flX1_20 (dk rfl) hx16 rfl ?_
      refine fst1_ok X (dk rfl) rfl ?_
      obtain ⟨xs17, hx18, hn19⟩ := rw_open (TI.rf I).1 gc8
      refine ald7_ok X (dk rfl) hx18 c13 (by rw [hn19]; exact ix_ok (by omega) c13 (by rw [show nI 32 = (Int8.ofInt 32).toInt32 by decide +kernel]; exact c15)) (fun x20 hm21 => ?_)
      refine br_ok X (dk rfl) rfl (show ((16 : Nat) : Int) + 4 = ((20 : Nat) : Int) from rfl) (fun _ => ?_) (fun q => absurd trivial q)
      exact reti_ok X hr hlk rfl (dk rfl) ⟨⟨_, rfl⟩, rfl⟩ (Nat.le_of_ble_eq_true rfl) (Nat.le_of_ble_eq_true rfl)
set_option maxHeartbeats 4000000 in
theorem FZ.c1_headAt (h : AH) (I : Tyg Γ h) {o0 : Nat} (T0 : ClassT Γ o0) (x1 : Int32) : CT la D cA B0 pa yX1_headAt cX1_headAt 2 (some .int) (rmD 0 0 0) [.ref o0, .int (x1)] h (RdO iP h) := by
  refine CT_of (by decide +kernel) (Nat.le_of_ble_eq_true rfl) ?_
  intro p e s m args below meth c X E hr hlk hnm
  have dk : ∀ {pc : Nat} {q : Instr × Nat}, lkd DX1_headAt pc = some q → decode cX1_headAt pc = .ok q := lkd_ok DX1_headAt_ok
  obtain ⟨bo1, co2, ho3, st4, pr5, gb6, tb7, gc8, gh9, gs10, tp11⟩ := id T0
  refine fst1_ok X (dk rfl) rfl ?_
  refine br_ok X (dk rfl) rfl (show ((1 : Nat) : Int) + 18 = ((19 : Nat) : Int) from rfl) (fun c12 => ?_) (fun c13 => ?_)
  · refine fst1_ok X (dk rfl) rfl ?_
    exact reti_ok X hr hlk rfl (dk rfl) ⟨⟨_, rfl⟩, rfl⟩ (Nat.le_of_ble_eq_true rfl) (Nat.le_of_ble_eq_true rfl)
  · iterate 2 refine fst1_ok X (dk rfl) rfl ?_
    refine br_ok X (dk rfl) rfl (show ((7 : Nat) : Int) + 12 = ((19 : Nat) : Int) from rfl) (fun c14 => ?_) (fun c15 => ?_)
    · refine fst1_ok X (dk rfl) rfl ?_
      exact reti_ok X hr hlk rfl (dk rfl) ⟨⟨_, rfl⟩, rfl⟩ (Nat.le_of_ble_eq_true rfl) (Nat.le_of_ble_eq_true rfl)
    · refine fst1_ok X (dk rfl) rfl ?_
      have hx16 := is_open (TI.rf I).1 gb6
      refine getf_ok X flX1_24 (dk rfl) hx16 rfl ?_
      refine fst1_ok X (dk rfl) rfl ?_
      obtain ⟨xs17, hx18, hn19⟩ := rw_open (TI.rf I).1 gh9
      refine ald7_ok X (dk rfl) hx18 c13 (by rw [hn19]; exact ix_ok (by omega) c13 (by rw [show nI 32 = (Int8.ofInt 32).toInt32 by decide +kernel]; exact c15)) (fun x20 hm21 => ?_)
      refine br_ok X (dk rfl) rfl (show ((16 : Nat) : Int) + 4 = ((20 : Nat) : Int) from rfl) (fun _ => ?_) (fun q => absurd trivial q)
      exact reti_ok X hr hlk rfl (dk rfl) ⟨⟨_, rfl⟩, rfl⟩ (Nat.le_of_ble_eq_true rfl) (Nat.le_of_ble_eq_true rfl)
set_option maxHeartbeats 4000000 in
theorem FZ.c1_join (h : AH) (I : Tyg Γ h) {o0 : Nat} (T0 : ClassT Γ o0) (x1 : Int32) (x2 : Int32) : CT la D cA B0 pa yX1_join cX1_join 6 (some .boolean) (rmD 3 0 0) [.ref o0, .int (x1), .int (x2)] h (WrO Γ bP h) := by
  refine CT_of (by decide +kernel) (Nat.le_of_ble_eq_true rfl) ?_
  intro p e s m args below meth c X E hr hlk hnm
  have dk : ∀ {pc : Nat} {q : Instr × Nat}, lkd DX1_join pc = some q → decode cX1_join pc = .ok q := lkd_ok DX1_join_ok
  obtain ⟨bo1, co2, ho3, st4, pr5, gb6, tb7, gc8, gh9, gs10, tp11⟩ := id T0
  have L63 : ∀ j12 : Nat, j12 ≤ 32 → ∀ (y13 : Int32) (y14 : Int32) (h18 : AH) (J19 : TI Γ h h18) (l : List (Nat × Value)), lsel l [5, 4, 3, 2, 1, 0] = [(5, vI j12), (4, .int (y13)), (3, .int (y14)), (2, .int (x2)), (1, .int (x1)), (0, .ref o0)] → WR p la e (rmD 3 0 0) s m args below meth c D cA B0 6 (WrO Γ bP h) 63 l [] h18 0 0 := by
    refine loopN (fun j12 hj12 ih63 => ?_)
    intro y13 y14 h18 J19 l hl
    refine WS.sel [5, 4, 3, 2, 1, 0] hl ?_
    iterate 2 refine fst1_ok X (dk rfl) rfl ?_
    refine br_ok X (dk rfl) rfl (show ((67 : Nat) : Int) + 28 = ((95 : Nat) : Int) from rfl) (fun c20 => ?_) (fun c21 => ?_)
    · refine fst1_ok X (dk rfl) rfl ?_
      refine br_ok X (dk rfl) rfl (show ((96 : Nat) : Int) + 22 = ((118 : Nat) : Int) from rfl) (fun c22 => ?_) (fun c23 => ?_)
      · refine fst1_ok X (dk rfl) rfl ?_
        exact reti_ok X hr hlk (bI_n true) (dk rfl) ⟨⟨true, rfl⟩, J19⟩ (Nat.le_of_ble_eq_true rfl) (Nat.le_of_ble_eq_true rfl)
      · iterate 2 refine fst1_ok X (dk rfl) rfl ?_
        refine br_ok X (dk rfl) rfl (show ((102 : Nat) : Int) + 16 = ((118 : Nat) : Int) from rfl) (fun c24 => ?_) (fun c25 => ?_)
        · refine fst1_ok X (dk rfl) rfl ?_
          exact reti_ok X hr hlk (bI_n true) (dk rfl) ⟨⟨true, rfl⟩, J19⟩ (Nat.le_of_ble_eq_true rfl) (Nat.le_of_ble_eq_true rfl)
        · iterate 2 refine fst1_ok X (dk rfl) rfl ?_
          refine br_ok X (dk rfl) rfl (show ((107 : Nat) : Int) + 11 = ((118 : Nat) : Int) from rfl) (fun c26 => ?_) (fun c27 => ?_)
          · refine fst1_ok X (dk rfl) rfl ?_
            exact reti_ok X hr hlk (bI_n true) (dk rfl) ⟨⟨true, rfl⟩, J19⟩ (Nat.le_of_ble_eq_true rfl) (Nat.le_of_ble_eq_true rfl)
          · refine fst1_ok X (dk rfl) rfl ?_
            have hx28 := is_open J19.1 gb6
            refine getf_ok X flX1_24 (dk rfl) hx28 rfl ?_
            iterate 2 refine fst1_ok X (dk rfl) rfl ?_
            obtain ⟨xs29, hx30, hn31⟩ := rw_open J19.1 gh9
            refine astT_ok X (dk rfl) hx30 c23 (by rw [hn31]; exact ix_ok (by omega) c23 (by rw [show nI 32 = (Int8.ofInt 32).toInt32 by decide +kernel]; exact c25)) J19 gh9 (rowφ_set hn31 _ _) (fun h32 J33 ho34 => ?_)
            have hx35 := (ho34 o0 (k_ne hx28 hx30 (by decide))).trans hx28
            refine fst1_ok X (dk rfl) rfl ?_
            exact reti_ok X hr hlk (bI_n true) (dk rfl) ⟨⟨true, rfl⟩, J33⟩ (Nat.le_of_ble_eq_true rfl) (Nat.le_of_ble_eq_true rfl)
    · refine fst1_ok X (dk rfl) rfl ?_
      have hx36 := is_open J19.1 gb6
      refine getf_ok X flX1_20 (dk rfl) hx36 rfl ?_
      refine fst1_ok X (dk rfl) rfl ?_
      obtain ⟨xs37, hx38, hn39⟩ := rw_open J19.1 gc8
      refine ald7_ok X (dk rfl) hx38 (nI_pos (by omega)) (by rw [hn39]; exact ix_ok (by omega) (nI_pos (by omega)) (by rw [show nI 32 = (Int8.ofInt 32).toInt32 by decide +kernel]; exact c21)) (fun x40 hm41 => ?_)
      refine fst1_ok X (dk rfl) rfl ?_
      refine br_ok X (dk rfl) rfl (show ((78 : Nat) : Int) + 11 = ((89 : Nat) : Int) from rfl) (fun c42 => ?_) (fun c43 => ?_)
      · refine fst1_ok X (dk rfl) rfl ?_
        refine br_ok X (dk rfl) rfl (show ((92 : Nat) : Int) + (-29) = ((63 : Nat) : Int) from rfl) (fun _ => ?_) (fun q => absurd trivial q)
        exact ih63 (nat_lt (K := 32) (by omega) (by rw [show nI 32 = (Int8.ofInt 32).toInt32 by decide +kernel]; exact c21)) _ _ h18 J19 _ (by rw [← vI_succ j12]; rfl)
      · refine fst1_ok X (dk rfl) rfl ?_
        refine getf_ok X flX1_20 (dk rfl) hx36 rfl ?_
        iterate 2 refine fst1_ok X (dk rfl) rfl ?_
        refine astT_ok X (dk rfl) hx38 (nI_pos (by omega)) (by rw [hn39]; exact ix_ok (by omega) (nI_pos (by omega)) (by rw [show nI 32 = (Int8.ofInt 32).toInt32 by decide +kernel]; exact c21)) J19 gc8 (rowφ_set hn39 _ _) (fun h44 J45 ho46 => ?_)
        have hx47 := (ho46 o0 (k_ne hx36 hx38 (by decide))).trans hx36
        refine fst1_ok X (dk rfl) rfl ?_
        refine br_ok X (dk rfl) rfl (show ((92 : Nat) : Int) + (-29) = ((63 : Nat) : Int) from rfl) (fun _ => ?_) (fun q => absurd trivial q)
        exact ih63 (nat_lt (K := 32) (by omega) (by rw [show nI 32 = (Int8.ofInt 32).toInt32 by decide +kernel]; exact c21)) _ _ h44 J45 _ (by rw [← vI_succ j12]; rfl)
  iterate 2 refine fst1_ok X (dk rfl) rfl ?_
  refine callVR_ok (ci := 3) (T := TX1) (N := 5) (av := [.int _]) (r := []) X E (c1_headAt _ (TI.rf I).1 T0 _) lkX1_headAt mlX1_94 lmX1_headAt lpX1_headAt ⟨Nat.le_of_ble_eq_true rfl, Nat.le_of_ble_eq_true rfl⟩ ⟨Nat.le_of_ble_eq_true rfl, Nat.le_of_ble_eq_true rfl⟩ rfl (is_cell (TI.rf I).1 gb6) (Nat.le_of_ble_eq_true rfl) (dk rfl) ?_
  rintro _ ⟨x48, rfl⟩
  iterate 3 refine fst1_ok X (dk rfl) rfl ?_
  refine callVR_ok (ci := 3) (T := TX1) (N := 5) (av := [.int _]) (r := []) X E (c1_headAt _ (TI.rf I).1 T0 _) lkX1_headAt mlX1_94 lmX1_headAt lpX1_headAt ⟨Nat.le_of_ble_eq_true rfl, Nat.le_of_ble_eq_true rfl⟩ ⟨Nat.le_of_ble_eq_true rfl, Nat.le_of_ble_eq_true rfl⟩ rfl (is_cell (TI.rf I).1 gb6) (Nat.le_of_ble_eq_true rfl) (dk rfl) ?_
  rintro _ ⟨x49, rfl⟩
  iterate 3 refine fst1_ok X (dk rfl) rfl ?_
  refine br_ok X (dk rfl) rfl (show ((15 : Nat) : Int) + 45 = ((60 : Nat) : Int) from rfl) (fun c50 => ?_) (fun c51 => ?_)
  · iterate 2 refine fst1_ok X (dk rfl) rfl ?_
    exact L63 0 (by omega) _ _ h (TI.rf I) _ rfl
  · iterate 2 refine fst1_ok X (dk rfl) rfl ?_
    refine br_ok X (dk rfl) rfl (show ((21 : Nat) : Int) + 39 = ((60 : Nat) : Int) from rfl) (fun c52 => ?_) (fun c53 => ?_)
    · iterate 2 refine fst1_ok X (dk rfl) rfl ?_
      exact L63 0 (by omega) _ _ h (TI.rf I) _ rfl
    · refine fst1_ok X (dk rfl) rfl ?_
      have hx54 := is_open (TI.rf I).1 gb6
      refine getf_ok X flX1_16 (dk rfl) hx54 rfl ?_
      refine fst1_ok X (dk rfl) rfl ?_
      obtain ⟨hL56, q55, gb57, gl58⟩ := id tb7
      refine callVR_ok (ci := 7) (T := TX5) (N := 3) (av := [.int _]) (r := []) X E (c5_letterAt _ (TI.rf I).1 tb7 _) lkX5_letterAt mlX1_45 lmX5_letterAt lpX5_letterAt ⟨Nat.le_of_ble_eq_true rfl, Nat.le_of_ble_eq_true rfl⟩ ⟨Nat.le_of_ble_eq_true rfl, Nat.le_of_ble_eq_true rfl⟩ rfl (tm_cell (TI.rf I).1 gb57) (Nat.le_of_ble_eq_true rfl) (dk rfl) ?_
      rintro _ ⟨x59, hx60, rfl⟩
      refine fst1_ok X (dk rfl) rfl ?_
      refine getf_ok X flX1_16 (dk rfl) hx54 rfl ?_
      refine fst1_ok X (dk rfl) rfl ?_
      refine callVR_ok (ci := 7) (T := TX5) (N := 3) (av := [.int _]) (r := [_]) X E (c5_letterAt _ (TI.rf I).1 tb7 _) lkX5_letterAt mlX1_45 lmX5_letterAt lpX5_letterAt ⟨Nat.le_of_ble_eq_true rfl, Nat.le_of_ble_eq_true rfl⟩ ⟨Nat.le_of_ble_eq_true rfl, Nat.le_of_ble_eq_true rfl⟩ rfl (tm_cell (TI.rf I).1 gb57) (Nat.le_of_ble_eq_true rfl) (dk rfl) ?_
      rintro _ ⟨x61, hx62, rfl⟩
      refine br_ok X (dk rfl) rfl (show ((41 : Nat) : Int) + 5 = ((46 : Nat) : Int) from rfl) (fun c63 => ?_) (fun c64 => ?_)
      · refine fst1_ok X (dk rfl) rfl ?_
        refine getf_ok X flX1_33 (dk rfl) hx54 rfl ?_
        refine fst1_ok X (dk rfl) rfl ?_
        refine getf_ok X flX1_16 (dk rfl) hx54 rfl ?_
        iterate 2 refine fst1_ok X (dk rfl) rfl ?_
        obtain ⟨a65, a66, gb67, g68, g69⟩ := id tp11
        refine callVW_ok (ci := 4) (T := TX2) (N := 3) (av := [.ref _, .int _, .int _]) (r := []) X E (TI.rf I) (c2_addParts _ (TI.rf I).1 tp11 tb7 _ _) lkX2_addParts mlX1_97 lmX2_addParts lpX2_addParts ⟨Nat.le_of_ble_eq_true rfl, Nat.le_of_ble_eq_true rfl⟩ ⟨Nat.le_of_ble_eq_true rfl, Nat.le_of_ble_eq_true rfl⟩ rfl (pr_cell (TI.rf I).1 gb67) (Nat.le_of_ble_eq_true rfl) (dk rfl) ?_
        rintro _ h70 rfl J71
        iterate 2 refine fst1_ok X (dk rfl) rfl ?_
        exact L63 0 (by omega) _ _ h70 J71 _ rfl
      · refine fst1_ok X (dk rfl) rfl ?_
        exact reti_ok X hr hlk (bI_n false) (dk rfl) ⟨⟨false, rfl⟩, (TI.rf I)⟩ (Nat.le_of_ble_eq_true rfl) (Nat.le_of_ble_eq_true rfl)
set_option maxHeartbeats 4000000 in
theorem FZ.c1_isClear (h : AH) (I : Tyg Γ h) {o0 : Nat} (T0 : ClassT Γ o0) (x1 : Int32) (x2 : Int64) : CT la D cA B0 pa yX1_isClear cX1_isClear 7 (some .boolean) (rmD 2 0 0) [.ref o0, .int (x1), .long (x2)] h (RdO bP h) := by
  refine CT_of (by decide +kernel) (Nat.le_of_ble_eq_true rfl) ?_
  intro p e s m args below meth c X E hr hlk hnm
  have dk : ∀ {pc : Nat} {q : Instr × Nat}, lkd DX1_isClear pc = some q → decode cX1_isClear pc = .ok q := lkd_ok DX1_isClear_ok
  obtain ⟨bo1, co2, ho3, st4, pr5, gb6, tb7, gc8, gh9, gs10, tp11⟩ := id T0
  have L35 : ∀ j12 : Int32, ∀ (y13 : Int32) (l : List (Nat × Value)), lsel l [6, 5, 2, 0] = [(6, .int (j12)), (5, .int (y13)), (2, .long (x2)), (0, .ref o0)] → WR p la e (rmD 2 0 0) s m args below meth c D cA B0 7 (RdO bP h) 35 l [] h 0 0 := by
    refine loopDn (fun j12 ih35 => ?_)
    intro y13 l hl
    refine WS.sel [6, 5, 2, 0] hl ?_
    refine fst1_ok X (dk rfl) rfl ?_
    refine br_ok X (dk rfl) rfl (show ((37 : Nat) : Int) + 37 = ((74 : Nat) : Int) from rfl) (fun c16 => ?_) (fun c17 => ?_)
    · refine fst1_ok X (dk rfl) rfl ?_
      exact reti_ok X hr hlk (bI_n true) (dk rfl) ⟨⟨true, rfl⟩, rfl⟩ (Nat.le_of_ble_eq_true rfl) (Nat.le_of_ble_eq_true rfl)
    · iterate 3 refine fst1_ok X (dk rfl) rfl ?_
      refine callVR_ok (ci := 3) (T := TX1) (N := 5) (av := [.int _]) (r := [_]) X E (c1_classAt _ (TI.rf I).1 T0 _) lkX1_classAt mlX1_68 lmX1_classAt lpX1_classAt ⟨Nat.le_of_ble_eq_true rfl, Nat.le_of_ble_eq_true rfl⟩ ⟨Nat.le_of_ble_eq_true rfl, Nat.le_of_ble_eq_true rfl⟩ rfl (is_cell (TI.rf I).1 gb6) (Nat.le_of_ble_eq_true rfl) (dk rfl) ?_
      rintro _ ⟨x18, rfl⟩
      iterate 4 refine fst1_ok X (dk rfl) rfl ?_
      refine lcmpx_ok X (dk rfl) (fun z19 => ?_)
      refine br_ok X (dk rfl) rfl (show ((52 : Nat) : Int) + 5 = ((57 : Nat) : Int) from rfl) (fun c20 => ?_) (fun c21 => ?_)
      · refine fst1_ok X (dk rfl) rfl ?_
        have hx22 := is_open (TI.rf I).1 gb6
        refine getf_ok X flX1_16 (dk rfl) hx22 rfl ?_
        refine fst1_ok X (dk rfl) rfl ?_
        obtain ⟨hL24, q23, gb25, gl26⟩ := id tb7
        refine callVR_ok (ci := 7) (T := TX5) (N := 3) (av := [.int _]) (r := []) X E (c5_endOf _ (TI.rf I).1 tb7 _) lkX5_endOf mlX1_114 lmX5_endOf lpX5_endOf ⟨Nat.le_of_ble_eq_true rfl, Nat.le_of_ble_eq_true rfl⟩ ⟨Nat.le_of_ble_eq_true rfl, Nat.le_of_ble_eq_true rfl⟩ rfl (tm_cell (TI.rf I).1 gb25) (Nat.le_of_ble_eq_true rfl) (dk rfl) ?_
        rintro _ ⟨x27, rfl⟩
        iterate 2 refine fst1_ok X (dk rfl) rfl ?_
        refine br_ok X (dk rfl) rfl (show ((71 : Nat) : Int) + (-36) = ((35 : Nat) : Int) from rfl) (fun _ => ?_) (fun q => absurd trivial q)
        exact ih35 _ (nlt_of c17) _ _ rfl
      · refine fst1_ok X (dk rfl) rfl ?_
        exact reti_ok X hr hlk (bI_n false) (dk rfl) ⟨⟨false, rfl⟩, rfl⟩ (Nat.le_of_ble_eq_true rfl) (Nat.le_of_ble_eq_true rfl)
  iterate 2 refine fst1_ok X (dk rfl) rfl ?_
  refine callVR_ok (ci := 3) (T := TX1) (N := 5) (av := [.int _]) (r := []) X E (c1_headAt _ (TI.rf I).1 T0 _) lkX1_headAt mlX1_94 lmX1_headAt lpX1_headAt ⟨Nat.le_of_ble_eq_true rfl, Nat.le_of_ble_eq_true rfl⟩ ⟨Nat.le_of_ble_eq_true rfl, Nat.le_of_ble_eq_true rfl⟩ rfl (is_cell (TI.rf I).1 gb6) (Nat.le_of_ble_eq_true rfl) (dk rfl) ?_
  rintro _ ⟨x28, rfl⟩
  iterate 3 refine fst1_ok X (dk rfl) rfl ?_
  refine br_ok X (dk rfl) rfl (show ((10 : Nat) : Int) + 5 = ((15 : Nat) : Int) from rfl) (fun c29 => ?_) (fun c30 => ?_)
  · iterate 5 refine fst1_ok X (dk rfl) rfl ?_
    have hx31 := is_open (TI.rf I).1 gb6
    refine getf_ok X flX1_16 (dk rfl) hx31 rfl ?_
    refine fst1_ok X (dk rfl) rfl ?_
    obtain ⟨hL33, q32, gb34, gl35⟩ := id tb7
    refine callVR_ok (ci := 7) (T := TX5) (N := 3) (av := [.int _]) (r := []) X E (c5_letterAt _ (TI.rf I).1 tb7 _) lkX5_letterAt mlX1_45 lmX5_letterAt lpX5_letterAt ⟨Nat.le_of_ble_eq_true rfl, Nat.le_of_ble_eq_true rfl⟩ ⟨Nat.le_of_ble_eq_true rfl, Nat.le_of_ble_eq_true rfl⟩ rfl (tm_cell (TI.rf I).1 gb34) (Nat.le_of_ble_eq_true rfl) (dk rfl) ?_
    rintro _ ⟨x36, hx37, rfl⟩
    refine callNR_ok (av := [.int _]) (r := []) X E (c6_partsOf _ (TI.rf I).1 _) lkX6_partsOf mnX1_111 lsX6_partsOf ⟨Nat.le_of_ble_eq_true rfl, Nat.le_of_ble_eq_true rfl⟩ ⟨Nat.le_of_ble_eq_true rfl, Nat.le_of_ble_eq_true rfl⟩ (Nat.le_of_ble_eq_true rfl) (dk rfl) ?_
    rintro _ ⟨n38, hn39, rfl⟩
    refine fst1_ok X (dk rfl) rfl ?_
    exact L35 _ _ _ rfl
  · refine fst1_ok X (dk rfl) rfl ?_
    exact reti_ok X hr hlk (bI_n true) (dk rfl) ⟨⟨true, rfl⟩, rfl⟩ (Nat.le_of_ble_eq_true rfl) (Nat.le_of_ble_eq_true rfl)
set_option maxHeartbeats 4000000 in
theorem FZ.c1_isNoneInItself (h : AH) (I : Tyg Γ h) {o0 : Nat} (T0 : ClassT Γ o0) : CT la D cA B0 pa yX1_isNoneInItself cX1_isNoneInItself 7 (some .boolean) (rmD 3 0 0) [.ref o0] h (RdO bP h) := by
  refine CT_of (by decide +kernel) (Nat.le_of_ble_eq_true rfl) ?_
  intro p e s m args below meth c X E hr hlk hnm
  have dk : ∀ {pc : Nat} {q : Instr × Nat}, lkd DX1_isNoneInItself pc = some q → decode cX1_isNoneInItself pc = .ok q := lkd_ok DX1_isNoneInItself_ok
  obtain ⟨bo1, co2, ho3, st4, pr5, gb6, tb7, gc8, gh9, gs10, tp11⟩ := id T0
  have L21 : ∀ j12 : Int32, ∀ (y13 : Int32) (y14 : Nat) (hy14 : y14 ≤ 32) (y15 : Int64) (l : List (Nat × Value)), lsel l [5, 4, 3, 1, 0] = [(5, .int (j12)), (4, .int (y13)), (3, vI y14), (1, .long (y15)), (0, .ref o0)] → WR p la e (rmD 3 0 0) s m args below meth c D cA B0 7 (RdO bP h) 21 l [] h 0 0 := by
    refine loopUp (fun j12 ih21 => ?_)
    intro y13 y14 hy14 y15 l hl
    refine WS.sel [5, 4, 3, 1, 0] hl ?_
    iterate 2 refine fst1_ok X (dk rfl) rfl ?_
    refine br_ok X (dk rfl) rfl (show ((25 : Nat) : Int) + 65 = ((90 : Nat) : Int) from rfl) (fun c17 => ?_) (fun c18 => ?_)
    · refine fst1_ok X (dk rfl) rfl ?_
      refine br_ok X (dk rfl) rfl (show ((92 : Nat) : Int) + 7 = ((99 : Nat) : Int) from rfl) (fun c19 => ?_) (fun c20 => ?_)
      · refine fst1_ok X (dk rfl) rfl ?_
        exact reti_ok X hr hlk (bI_n false) (dk rfl) ⟨⟨false, rfl⟩, rfl⟩ (Nat.le_of_ble_eq_true rfl) (Nat.le_of_ble_eq_true rfl)
      · refine fst1_ok X (dk rfl) rfl ?_
        refine br_ok X (dk rfl) rfl (show ((96 : Nat) : Int) + 4 = ((100 : Nat) : Int) from rfl) (fun _ => ?_) (fun q => absurd trivial q)
        exact reti_ok X hr hlk (bI_n true) (dk rfl) ⟨⟨true, rfl⟩, rfl⟩ (Nat.le_of_ble_eq_true rfl) (Nat.le_of_ble_eq_true rfl)
    · refine fst1_ok X (dk rfl) rfl ?_
      refine br_ok X (dk rfl) rfl (show ((30 : Nat) : Int) + 60 = ((90 : Nat) : Int) from rfl) (fun c21 => ?_) (fun c22 => ?_)
      · refine fst1_ok X (dk rfl) rfl ?_
        refine br_ok X (dk rfl) rfl (show ((92 : Nat) : Int) + 7 = ((99 : Nat) : Int) from rfl) (fun c23 => ?_) (fun c24 => ?_)
        · refine fst1_ok X (dk rfl) rfl ?_
          exact reti_ok X hr hlk (bI_n false) (dk rfl) ⟨⟨false, rfl⟩, rfl⟩ (Nat.le_of_ble_eq_true rfl) (Nat.le_of_ble_eq_true rfl)
        · refine fst1_ok X (dk rfl) rfl ?_
          refine br_ok X (dk rfl) rfl (show ((96 : Nat) : Int) + 4 = ((100 : Nat) : Int) from rfl) (fun _ => ?_) (fun q => absurd trivial q)
          exact reti_ok X hr hlk (bI_n true) (dk rfl) ⟨⟨true, rfl⟩, rfl⟩ (Nat.le_of_ble_eq_true rfl) (Nat.le_of_ble_eq_true rfl)
      · iterate 4 refine fst1_ok X (dk rfl) rfl ?_
        have L39 : ∀ j25 : Nat, j25 ≤ y14 → ∀ (y27 : Int32) (y29 : Int64) (l : List (Nat × Value)), lsel l [6, 5, 4, 3, 1, 0] = [(6, vI j25), (5, .int (j12)), (4, .int (y27)), (3, vI y14), (1, .long (y29)), (0, .ref o0)] → WR p la e (rmD 3 0 0) s m args below meth c D cA B0 7 (RdO bP h) 39 l [] h 0 0 := by
          refine loopN (fun j25 hj25 ih39 => ?_)
          intro y27 y29 l hl
          refine WS.sel [6, 5, 4, 3, 1, 0] hl ?_
          iterate 2 refine fst1_ok X (dk rfl) rfl ?_
          refine br_ok X (dk rfl) rfl (show ((42 : Nat) : Int) + 42 = ((84 : Nat) : Int) from rfl) (fun c31 => ?_) (fun c32 => ?_)
          · refine fst1_ok X (dk rfl) rfl ?_
            refine br_ok X (dk rfl) rfl (show ((87 : Nat) : Int) + (-66) = ((21 : Nat) : Int) from rfl) (fun _ => ?_) (fun q => absurd trivial q)
            exact ih21 _ (nlt_of c18) _ y14 (by omega) _ _ rfl
          · iterate 2 refine fst1_ok X (dk rfl) rfl ?_
            have hx33 := is_open (TI.rf I).1 gb6
            refine getf_ok X flX1_20 (dk rfl) hx33 rfl ?_
            refine fst1_ok X (dk rfl) rfl ?_
            obtain ⟨xs34, hx35, hn36⟩ := rw_open (TI.rf I).1 gc8
            refine ald7_ok X (dk rfl) hx35 (nI_pos (by omega)) (by rw [hn36, nI_clamp (by omega)]; have := nat_lt (K := y14) (by omega) c32; omega) (fun x37 hm38 => ?_)
            refine fst1_ok X (dk rfl) rfl ?_
            refine callVR_ok (ci := 3) (T := TX1) (N := 5) (av := [.int _, .long _]) (r := []) X E (c1_isClear _ (TI.rf I).1 T0 _ _) lkX1_isClear mlX1_107 lmX1_isClear lpX1_isClear ⟨Nat.le_of_ble_eq_true rfl, Nat.le_of_ble_eq_true rfl⟩ ⟨Nat.le_of_ble_eq_true rfl, Nat.le_of_ble_eq_true rfl⟩ rfl (is_cell (TI.rf I).1 gb6) (Nat.le_of_ble_eq_true rfl) (dk rfl) ?_
            rintro _ ⟨b39, rfl⟩
            refine br_ok X (dk rfl) rfl (show ((57 : Nat) : Int) + 18 = ((75 : Nat) : Int) from rfl) (fun c40 => ?_) (fun c41 => ?_)
            · iterate 2 refine fst1_ok X (dk rfl) rfl ?_
              refine br_ok X (dk rfl) rfl (show ((81 : Nat) : Int) + (-42) = ((39 : Nat) : Int) from rfl) (fun _ => ?_) (fun q => absurd trivial q)
              exact ih39 (nat_lt (K := y14) (by omega) c32) _ _ _ (by rw [← vI_succ j25]; rfl)
            · iterate 3 refine fst1_ok X (dk rfl) rfl ?_
              refine getf_ok X flX1_20 (dk rfl) hx33 rfl ?_
              refine fst1_ok X (dk rfl) rfl ?_
              refine ald7_ok X (dk rfl) hx35 (nI_pos (by omega)) (by rw [hn36, nI_clamp (by omega)]; have := nat_lt (K := y14) (by omega) c32; omega) (fun x42 hm43 => ?_)
              iterate 3 refine fst1_ok X (dk rfl) rfl ?_
              refine br_ok X (dk rfl) rfl (show ((72 : Nat) : Int) + 6 = ((78 : Nat) : Int) from rfl) (fun _ => ?_) (fun q => absurd trivial q)
              refine fst1_ok X (dk rfl) rfl ?_
              refine br_ok X (dk rfl) rfl (show ((81 : Nat) : Int) + (-42) = ((39 : Nat) : Int) from rfl) (fun _ => ?_) (fun q => absurd trivial q)
              exact ih39 (nat_lt (K := y14) (by omega) c32) _ _ _ (by rw [← vI_succ j25]; rfl)
        exact L39 0 (by omega) _ _ _ rfl
  iterate 3 refine fst1_ok X (dk rfl) rfl ?_
  have hx44 := is_open (TI.rf I).1 gb6
  refine getf_ok X flX1_16 (dk rfl) hx44 rfl ?_
  obtain ⟨hL46, q45, gb47, gl48⟩ := id tb7
  refine callVR_ok (ci := 7) (T := TX5) (N := 3) (av := []) (r := []) X E (c5_length _ (TI.rf I).1 tb7) lkX5_length mlX1_55 lmX5_length lpX5_length ⟨Nat.le_of_ble_eq_true rfl, Nat.le_of_ble_eq_true rfl⟩ ⟨Nat.le_of_ble_eq_true rfl, Nat.le_of_ble_eq_true rfl⟩ rfl (tm_cell (TI.rf I).1 gb47) (Nat.le_of_ble_eq_true rfl) (dk rfl) ?_
  rintro _ ⟨n49, hn50, rfl⟩
  refine fst1_ok X (dk rfl) rfl ?_
  rw [show (Int8.ofInt 32).toInt32 = nI 32 by decide +kernel]
  refine mminx_ok X (by omega) (by omega) mlX1_101 (dk rfl) (by decide) (Nat.le_of_ble_eq_true rfl) (Nat.le_of_ble_eq_true rfl) (Nat.le_of_ble_eq_true rfl) (fun mn51 hm52 => ?_)
  iterate 5 refine fst1_ok X (dk rfl) rfl ?_
  exact L21 _ _ mn51 (by omega) _ _ rfl
set_option maxHeartbeats 4000000 in
theorem FZ.c1_placeFor (h : AH) (I : Tyg Γ h) {o0 : Nat} (T0 : ClassT Γ o0) (x1 : Int32) : CT la D cA B0 pa yX1_placeFor cX1_placeFor 6 (some .int) (rmD 2 0 0) [.ref o0, .int (x1)] h (RdO iP h) := by
  refine CT_of (by decide +kernel) (Nat.le_of_ble_eq_true rfl) ?_
  intro p e s m args below meth c X E hr hlk hnm
  have dk : ∀ {pc : Nat} {q : Instr × Nat}, lkd DX1_placeFor pc = some q → decode cX1_placeFor pc = .ok q := lkd_ok DX1_placeFor_ok
  obtain ⟨bo1, co2, ho3, st4, pr5, gb6, tb7, gc8, gh9, gs10, tp11⟩ := id T0
  have L41 : ∀ j12 : Nat, j12 ≤ 32 → ∀ (y13 : Int32) (y14 : Int32) (l : List (Nat × Value)), lsel l [5, 4, 3, 1, 0] = [(5, vI j12), (4, .int (y13)), (3, .int (y14)), (1, .int (x1)), (0, .ref o0)] → WR p la e (rmD 2 0 0) s m args below meth c D cA B0 6 (RdO iP h) 41 l [] h 0 0 := by
    refine loopN (fun j12 hj12 ih41 => ?_)
    intro y13 y14 l hl
    refine WS.sel [5, 4, 3, 1, 0] hl ?_
    iterate 2 refine fst1_ok X (dk rfl) rfl ?_
    have hx17 := is_open (TI.rf I).1 gb6
    refine getf_ok X flX1_16 (dk rfl) hx17 rfl ?_
    obtain ⟨hL19, q18, gb20, gl21⟩ := id tb7
    refine callVR_ok (ci := 7) (T := TX5) (N := 3) (av := []) (r := [_]) X E (c5_length _ (TI.rf I).1 tb7) lkX5_length mlX1_55 lmX5_length lpX5_length ⟨Nat.le_of_ble_eq_true rfl, Nat.le_of_ble_eq_true rfl⟩ ⟨Nat.le_of_ble_eq_true rfl, Nat.le_of_ble_eq_true rfl⟩ rfl (tm_cell (TI.rf I).1 gb20) (Nat.le_of_ble_eq_true rfl) (dk rfl) ?_
    rintro _ ⟨n22, hn23, rfl⟩
    refine br_ok X (dk rfl) rfl (show ((50 : Nat) : Int) + 52 = ((102 : Nat) : Int) from rfl) (fun c24 => ?_) (fun c25 => ?_)
    · refine fst1_ok X (dk rfl) rfl ?_
      refine getf_ok X flX1_16 (dk rfl) hx17 rfl ?_
      refine fst1_ok X (dk rfl) rfl ?_
      refine callVR_ok (ci := 7) (T := TX5) (N := 3) (av := [.int _]) (r := []) X E (c5_letterAt _ (TI.rf I).1 tb7 _) lkX5_letterAt mlX1_45 lmX5_letterAt lpX5_letterAt ⟨Nat.le_of_ble_eq_true rfl, Nat.le_of_ble_eq_true rfl⟩ ⟨Nat.le_of_ble_eq_true rfl, Nat.le_of_ble_eq_true rfl⟩ rfl (tm_cell (TI.rf I).1 gb20) (Nat.le_of_ble_eq_true rfl) (dk rfl) ?_
      rintro _ ⟨x26, hx27, rfl⟩
      refine fst1_ok X (dk rfl) rfl ?_
      refine br_ok X (dk rfl) rfl (show ((112 : Nat) : Int) + 7 = ((119 : Nat) : Int) from rfl) (fun c28 => ?_) (fun c29 => ?_)
      · refine fst1_ok X (dk rfl) rfl ?_
        exact reti_ok X hr hlk rfl (dk rfl) ⟨⟨_, rfl⟩, rfl⟩ (Nat.le_of_ble_eq_true rfl) (Nat.le_of_ble_eq_true rfl)
      · refine fst1_ok X (dk rfl) rfl ?_
        refine br_ok X (dk rfl) rfl (show ((116 : Nat) : Int) + 5 = ((121 : Nat) : Int) from rfl) (fun _ => ?_) (fun q => absurd trivial q)
        exact reti_ok X hr hlk rfl (dk rfl) ⟨⟨_, rfl⟩, rfl⟩ (Nat.le_of_ble_eq_true rfl) (Nat.le_of_ble_eq_true rfl)
    · iterate 2 refine fst1_ok X (dk rfl) rfl ?_
      refine br_ok X (dk rfl) rfl (show ((57 : Nat) : Int) + 45 = ((102 : Nat) : Int) from rfl) (fun c30 => ?_) (fun c31 => ?_)
      · refine fst1_ok X (dk rfl) rfl ?_
        refine getf_ok X flX1_16 (dk rfl) hx17 rfl ?_
        refine fst1_ok X (dk rfl) rfl ?_
        refine callVR_ok (ci := 7) (T := TX5) (N := 3) (av := [.int _]) (r := []) X E (c5_letterAt _ (TI.rf I).1 tb7 _) lkX5_letterAt mlX1_45 lmX5_letterAt lpX5_letterAt ⟨Nat.le_of_ble_eq_true rfl, Nat.le_of_ble_eq_true rfl⟩ ⟨Nat.le_of_ble_eq_true rfl, Nat.le_of_ble_eq_true rfl⟩ rfl (tm_cell (TI.rf I).1 gb20) (Nat.le_of_ble_eq_true rfl) (dk rfl) ?_
        rintro _ ⟨x32, hx33, rfl⟩
        refine fst1_ok X (dk rfl) rfl ?_
        refine br_ok X (dk rfl) rfl (show ((112 : Nat) : Int) + 7 = ((119 : Nat) : Int) from rfl) (fun c34 => ?_) (fun c35 => ?_)
        · refine fst1_ok X (dk rfl) rfl ?_
          exact reti_ok X hr hlk rfl (dk rfl) ⟨⟨_, rfl⟩, rfl⟩ (Nat.le_of_ble_eq_true rfl) (Nat.le_of_ble_eq_true rfl)
        · refine fst1_ok X (dk rfl) rfl ?_
          refine br_ok X (dk rfl) rfl (show ((116 : Nat) : Int) + 5 = ((121 : Nat) : Int) from rfl) (fun _ => ?_) (fun q => absurd trivial q)
          exact reti_ok X hr hlk rfl (dk rfl) ⟨⟨_, rfl⟩, rfl⟩ (Nat.le_of_ble_eq_true rfl) (Nat.le_of_ble_eq_true rfl)
      · refine fst1_ok X (dk rfl) rfl ?_
        refine getf_ok X flX1_20 (dk rfl) hx17 rfl ?_
        refine fst1_ok X (dk rfl) rfl ?_
        obtain ⟨xs36, hx37, hn38⟩ := rw_open (TI.rf I).1 gc8
        refine ald7_ok X (dk rfl) hx37 (nI_pos (by omega)) (by rw [hn38]; exact ix_ok (by omega) (nI_pos (by omega)) (by rw [show nI 32 = (Int8.ofInt 32).toInt32 by decide +kernel]; exact c31)) (fun x39 hm40 => ?_)
        refine fst1_ok X (dk rfl) rfl ?_
        refine br_ok X (dk rfl) rfl (show ((68 : Nat) : Int) + 28 = ((96 : Nat) : Int) from rfl) (fun c41 => ?_) (fun c42 => ?_)
        · refine fst1_ok X (dk rfl) rfl ?_
          refine br_ok X (dk rfl) rfl (show ((99 : Nat) : Int) + (-58) = ((41 : Nat) : Int) from rfl) (fun _ => ?_) (fun q => absurd trivial q)
          exact ih41 (nat_lt (K := 32) (by omega) (by rw [show nI 32 = (Int8.ofInt 32).toInt32 by decide +kernel]; exact c31)) _ _ _ (by rw [← vI_succ j12]; rfl)
        · refine fst1_ok X (dk rfl) rfl ?_
          refine getf_ok X flX1_16 (dk rfl) hx17 rfl ?_
          refine fst1_ok X (dk rfl) rfl ?_
          refine callVR_ok (ci := 7) (T := TX5) (N := 3) (av := [.int _]) (r := []) X E (c5_letterAt _ (TI.rf I).1 tb7 _) lkX5_letterAt mlX1_45 lmX5_letterAt lpX5_letterAt ⟨Nat.le_of_ble_eq_true rfl, Nat.le_of_ble_eq_true rfl⟩ ⟨Nat.le_of_ble_eq_true rfl, Nat.le_of_ble_eq_true rfl⟩ rfl (tm_cell (TI.rf I).1 gb20) (Nat.le_of_ble_eq_true rfl) (dk rfl) ?_
          rintro _ ⟨x43, hx44, rfl⟩
          refine fst1_ok X (dk rfl) rfl ?_
          refine getf_ok X flX1_16 (dk rfl) hx17 rfl ?_
          refine fst1_ok X (dk rfl) rfl ?_
          refine callVR_ok (ci := 7) (T := TX5) (N := 3) (av := [.int _]) (r := [_]) X E (c5_letterAt _ (TI.rf I).1 tb7 _) lkX5_letterAt mlX1_45 lmX5_letterAt lpX5_letterAt ⟨Nat.le_of_ble_eq_true rfl, Nat.le_of_ble_eq_true rfl⟩ ⟨Nat.le_of_ble_eq_true rfl, Nat.le_of_ble_eq_true rfl⟩ rfl (tm_cell (TI.rf I).1 gb20) (Nat.le_of_ble_eq_true rfl) (dk rfl) ?_
          rintro _ ⟨x45, hx46, rfl⟩
          refine br_ok X (dk rfl) rfl (show ((89 : Nat) : Int) + 7 = ((96 : Nat) : Int) from rfl) (fun c47 => ?_) (fun c48 => ?_)
          · refine fst1_ok X (dk rfl) rfl ?_
            refine br_ok X (dk rfl) rfl (show ((99 : Nat) : Int) + (-58) = ((41 : Nat) : Int) from rfl) (fun _ => ?_) (fun q => absurd trivial q)
            exact ih41 (nat_lt (K := 32) (by omega) (by rw [show nI 32 = (Int8.ofInt 32).toInt32 by decide +kernel]; exact c31)) _ _ _ (by rw [← vI_succ j12]; rfl)
          · iterate 3 refine fst1_ok X (dk rfl) rfl ?_
            refine br_ok X (dk rfl) rfl (show ((99 : Nat) : Int) + (-58) = ((41 : Nat) : Int) from rfl) (fun _ => ?_) (fun q => absurd trivial q)
            exact ih41 (nat_lt (K := 32) (by omega) (by rw [show nI 32 = (Int8.ofInt 32).toInt32 by decide +kernel]; exact c31)) _ _ _ (by rw [← vI_succ j12]; rfl)
  refine fst1_ok X (dk rfl) rfl ?_
  have hx49 := is_open (TI.rf I).1 gb6
  refine getf_ok X flX1_16 (dk rfl) hx49 rfl ?_
  refine fst1_ok X (dk rfl) rfl ?_
  obtain ⟨hL51, q50, gb52, gl53⟩ := id tb7
  refine callVR_ok (ci := 7) (T := TX5) (N := 3) (av := [.int _]) (r := []) X E (c5_firstPlaceOf _ (TI.rf I).1 tb7 _) lkX5_firstPlaceOf mlX1_117 lmX5_firstPlaceOf lpX5_firstPlaceOf ⟨Nat.le_of_ble_eq_true rfl, Nat.le_of_ble_eq_true rfl⟩ ⟨Nat.le_of_ble_eq_true rfl, Nat.le_of_ble_eq_true rfl⟩ rfl (tm_cell (TI.rf I).1 gb52) (Nat.le_of_ble_eq_true rfl) (dk rfl) ?_
  rintro _ ⟨x54, rfl⟩
  iterate 3 refine fst1_ok X (dk rfl) rfl ?_
  refine callVR_ok (ci := 3) (T := TX1) (N := 5) (av := [.int _]) (r := []) X E (c1_classAt _ (TI.rf I).1 T0 _) lkX1_classAt mlX1_68 lmX1_classAt lpX1_classAt ⟨Nat.le_of_ble_eq_true rfl, Nat.le_of_ble_eq_true rfl⟩ ⟨Nat.le_of_ble_eq_true rfl, Nat.le_of_ble_eq_true rfl⟩ rfl (is_cell (TI.rf I).1 gb6) (Nat.le_of_ble_eq_true rfl) (dk rfl) ?_
  rintro _ ⟨x55, rfl⟩
  iterate 3 refine fst1_ok X (dk rfl) rfl ?_
  refine br_ok X (dk rfl) rfl (show ((17 : Nat) : Int) + 12 = ((29 : Nat) : Int) from rfl) (fun c56 => ?_) (fun c57 => ?_)
  · iterate 2 refine fst1_ok X (dk rfl) rfl ?_
    refine callVR_ok (ci := 3) (T := TX1) (N := 5) (av := [.int _]) (r := []) X E (c1_headAt _ (TI.rf I).1 T0 _) lkX1_headAt mlX1_94 lmX1_headAt lpX1_headAt ⟨Nat.le_of_ble_eq_true rfl, Nat.le_of_ble_eq_true rfl⟩ ⟨Nat.le_of_ble_eq_true rfl, Nat.le_of_ble_eq_true rfl⟩ rfl (is_cell (TI.rf I).1 gb6) (Nat.le_of_ble_eq_true rfl) (dk rfl) ?_
    rintro _ ⟨x58, rfl⟩
    exact reti_ok X hr hlk rfl (dk rfl) ⟨⟨_, rfl⟩, rfl⟩ (Nat.le_of_ble_eq_true rfl) (Nat.le_of_ble_eq_true rfl)
  · iterate 2 refine fst1_ok X (dk rfl) rfl ?_
    refine callVR_ok (ci := 3) (T := TX1) (N := 5) (av := [.int _]) (r := []) X E (c1_headAt _ (TI.rf I).1 T0 _) lkX1_headAt mlX1_94 lmX1_headAt lpX1_headAt ⟨Nat.le_of_ble_eq_true rfl, Nat.le_of_ble_eq_true rfl⟩ ⟨Nat.le_of_ble_eq_true rfl, Nat.le_of_ble_eq_true rfl⟩ rfl (is_cell (TI.rf I).1 gb6) (Nat.le_of_ble_eq_true rfl) (dk rfl) ?_
    rintro _ ⟨x59, rfl⟩
    refine fst1_ok X (dk rfl) rfl ?_
    refine br_ok X (dk rfl) rfl (show ((26 : Nat) : Int) + 9 = ((35 : Nat) : Int) from rfl) (fun c60 => ?_) (fun c61 => ?_)
    · iterate 4 refine fst1_ok X (dk rfl) rfl ?_
      exact L41 0 (by omega) _ _ _ rfl
    · iterate 2 refine fst1_ok X (dk rfl) rfl ?_
      refine callVR_ok (ci := 3) (T := TX1) (N := 5) (av := [.int _]) (r := []) X E (c1_headAt _ (TI.rf I).1 T0 _) lkX1_headAt mlX1_94 lmX1_headAt lpX1_headAt ⟨Nat.le_of_ble_eq_true rfl, Nat.le_of_ble_eq_true rfl⟩ ⟨Nat.le_of_ble_eq_true rfl, Nat.le_of_ble_eq_true rfl⟩ rfl (is_cell (TI.rf I).1 gb6) (Nat.le_of_ble_eq_true rfl) (dk rfl) ?_
      rintro _ ⟨x62, rfl⟩
      exact reti_ok X hr hlk rfl (dk rfl) ⟨⟨_, rfl⟩, rfl⟩ (Nat.le_of_ble_eq_true rfl) (Nat.le_of_ble_eq_true rfl)
set_option maxHeartbeats 4000000 in
theorem FZ.c1_tellInto (h : AH) (I : Tyg Γ h) {o0 : Nat} (T0 : ClassT Γ o0) {o1 : Nat} (T1 : AnsG true Γ o1) : CT la D cA B0 pa yX1_tellInto cX1_tellInto 3 none (rmD 4 0 0) [.ref o0, .ref o1] h (WrO Γ voidP h) := by
  refine CT_of (by decide +kernel) (Nat.le_of_ble_eq_true rfl) ?_
  intro p e s m args below meth c X E hr hlk hnm
  have dk : ∀ {pc : Nat} {q : Instr × Nat}, lkd DX1_tellInto pc = some q → decode cX1_tellInto pc = .ok q := lkd_ok DX1_tellInto_ok
  obtain ⟨bo1, co2, ho3, st4, pr5, gb6, tb7, gc8, gh9, gs10, tp11⟩ := id T0
  obtain ⟨ar12, ts13, gb14, ga15, tl16, tt17⟩ := id T1
  have L2 : ∀ j18 : Nat, j18 ≤ 8 → ∀ (h21 : AH) (J22 : TI Γ h h21) (l : List (Nat × Value)), lsel l [2, 1, 0] = [(2, vI j18), (1, .ref o1), (0, .ref o0)] → WR p la e (rmD 4 0 0) s m args below meth c D cA B0 3 (WrO Γ voidP h) 2 l [] h21 0 0 := by
    refine loopN (fun j18 hj18 ih2 => ?_)
    intro h21 J22 l hl
    refine WS.sel [2, 1, 0] hl ?_
    iterate 2 refine fst1_ok X (dk rfl) rfl ?_
    refine br_ok X (dk rfl) rfl (show ((5 : Nat) : Int) + 20 = ((25 : Nat) : Int) from rfl) (fun c23 => ?_) (fun c24 => ?_)
    · iterate 2 refine fst1_ok X (dk rfl) rfl ?_
      have hx25 := is_open J22.1 gb6
      refine getf_ok X flX1_16 (dk rfl) hx25 rfl ?_
      refine fst1_ok X (dk rfl) rfl ?_
      refine getf_ok X flX1_27 (dk rfl) hx25 rfl ?_
      refine callVW_ok (ci := 2) (T := TX0) (N := 1) (av := [.ref _, .ref _]) (r := []) X E J22 (c0_becomeWholeOf _ J22.1 T1 tb7 gs10) lkX0_becomeWholeOf mlX1_88 lmX0_becomeWholeOf lpX0_becomeWholeOf ⟨Nat.le_of_ble_eq_true rfl, Nat.le_of_ble_eq_true rfl⟩ ⟨Nat.le_of_ble_eq_true rfl, Nat.le_of_ble_eq_true rfl⟩ rfl (is_cell J22.1 gb14) (Nat.le_of_ble_eq_true rfl) (dk rfl) ?_
      rintro _ h26 rfl J27
      exact retv_ok X hr hlk (dk rfl) ⟨rfl, J27⟩ (Nat.le_of_ble_eq_true rfl) (Nat.le_of_ble_eq_true rfl)
    · refine fst1_ok X (dk rfl) rfl ?_
      have hx28 := is_open J22.1 gb6
      refine getf_ok X flX1_27 (dk rfl) hx28 rfl ?_
      iterate 3 refine fst1_ok X (dk rfl) rfl ?_
      refine callVR_ok (ci := 3) (T := TX1) (N := 5) (av := [.int _]) (r := [_, _]) X E (c1_placeFor _ J22.1 T0 _) lkX1_placeFor mlX1_85 lmX1_placeFor lpX1_placeFor ⟨Nat.le_of_ble_eq_true rfl, Nat.le_of_ble_eq_true rfl⟩ ⟨Nat.le_of_ble_eq_true rfl, Nat.le_of_ble_eq_true rfl⟩ rfl (is_cell J22.1 gb6) (Nat.le_of_ble_eq_true rfl) (dk rfl) ?_
      rintro _ ⟨x29, rfl⟩
      obtain ⟨xs30, hx31, hn32⟩ := rw_open J22.1 gs10
      refine astT_ok X (dk rfl) hx31 (nI_pos (by omega)) (by rw [hn32]; exact ix_ok (by omega) (nI_pos (by omega)) (by rw [show nI 8 = (Int8.ofInt 8).toInt32 by decide +kernel]; exact c24)) J22 gs10 (rowφ_set hn32 _ _) (fun h33 J34 ho35 => ?_)
      have hx36 := (ho35 o0 (k_ne hx28 hx31 (by decide))).trans hx28
      refine fst1_ok X (dk rfl) rfl ?_
      refine br_ok X (dk rfl) rfl (show ((22 : Nat) : Int) + (-20) = ((2 : Nat) : Int) from rfl) (fun _ => ?_) (fun q => absurd trivial q)
      exact ih2 (nat_lt (K := 8) (by omega) (by rw [show nI 8 = (Int8.ofInt 8).toInt32 by decide +kernel]; exact c24)) h33 J34 _ (by rw [← vI_succ j18]; rfl)
  iterate 2 refine fst1_ok X (dk rfl) rfl ?_
  exact L2 0 (by omega) h (TI.rf I) _ rfl
set_option maxHeartbeats 4000000 in
theorem FZ.c1_makeAlike (h : AH) (I : Tyg Γ h) {o0 : Nat} (T0 : ClassT Γ o0) {o1 L1 : Nat} {w1 : Bool} (T1 : TermG w1 Γ o1 L1) {o2 L2 : Nat} {w2 : Bool} (T2 : TermG w2 Γ o2 L2) : CT la D cA B0 pa yX1_makeAlike cX1_makeAlike 8 (some .boolean) (rmD 4 0 0) [.ref o0, .ref o1, .ref o2] h (WrO Γ bP h) := by
  refine CT_of (by decide +kernel) (Nat.le_of_ble_eq_true rfl) ?_
  intro p e s m args below meth c X E hr hlk hnm
  have dk : ∀ {pc : Nat} {q : Instr × Nat}, lkd DX1_makeAlike pc = some q → decode cX1_makeAlike pc = .ok q := lkd_ok DX1_makeAlike_ok
  obtain ⟨bo1, co2, ho3, st4, pr5, gb6, tb7, gc8, gh9, gs10, tp11⟩ := id T0
  obtain ⟨hL13, q12, gb14, gl15⟩ := id T1
  obtain ⟨hL17, q16, gb18, gl19⟩ := id T2
  have L86 : ∀ j20 : Int32, ∀ (y21 : Bool) (h23 : AH) (J24 : TI Γ h h23) (l : List (Nat × Value)), lsel l [4, 3, 0] = [(4, .int (j20)), (3, .int (bI y21)), (0, .ref o0)] → WR p la e (rmD 4 0 0) s m args below meth c D cA B0 8 (WrO Γ bP h) 86 l [] h23 0 0 := by
    refine loopUp (fun j20 ih86 => ?_)
    intro y21 h23 J24 l hl
    refine WS.sel [4, 3, 0] hl ?_
    refine fst1_ok X (dk rfl) rfl ?_
    refine ldc_ok X csX1_63 (dk rfl) ?_
    refine br_ok X (dk rfl) rfl (show ((90 : Nat) : Int) + 95 = ((185 : Nat) : Int) from rfl) (fun c25 => ?_) (fun c26 => ?_)
    · refine fst1_ok X (dk rfl) rfl ?_
      refine br_ok X (dk rfl) rfl (show ((186 : Nat) : Int) + 14 = ((200 : Nat) : Int) from rfl) (fun c27 => ?_) (fun c28 => ?_)
      · refine fst1_ok X (dk rfl) rfl ?_
        exact reti_ok X hr hlk (bI_n false) (dk rfl) ⟨⟨false, rfl⟩, J24⟩ (Nat.le_of_ble_eq_true rfl) (Nat.le_of_ble_eq_true rfl)
      · refine fst1_ok X (dk rfl) rfl ?_
        refine callVR_ok (ci := 3) (T := TX1) (N := 5) (av := []) (r := []) X E (c1_isNoneInItself _ J24.1 T0) lkX1_isNoneInItself mlX1_81 lmX1_isNoneInItself lpX1_isNoneInItself ⟨Nat.le_of_ble_eq_true rfl, Nat.le_of_ble_eq_true rfl⟩ ⟨Nat.le_of_ble_eq_true rfl, Nat.le_of_ble_eq_true rfl⟩ rfl (is_cell J24.1 gb6) (Nat.le_of_ble_eq_true rfl) (dk rfl) ?_
        rintro _ ⟨b29, rfl⟩
        refine br_ok X (dk rfl) rfl (show ((193 : Nat) : Int) + 7 = ((200 : Nat) : Int) from rfl) (fun c30 => ?_) (fun c31 => ?_)
        · refine fst1_ok X (dk rfl) rfl ?_
          exact reti_ok X hr hlk (bI_n false) (dk rfl) ⟨⟨false, rfl⟩, J24⟩ (Nat.le_of_ble_eq_true rfl) (Nat.le_of_ble_eq_true rfl)
        · refine fst1_ok X (dk rfl) rfl ?_
          refine br_ok X (dk rfl) rfl (show ((197 : Nat) : Int) + 4 = ((201 : Nat) : Int) from rfl) (fun _ => ?_) (fun q => absurd trivial q)
          exact reti_ok X hr hlk (bI_n true) (dk rfl) ⟨⟨true, rfl⟩, J24⟩ (Nat.le_of_ble_eq_true rfl) (Nat.le_of_ble_eq_true rfl)
    · refine fst1_ok X (dk rfl) rfl ?_
      refine br_ok X (dk rfl) rfl (show ((94 : Nat) : Int) + 91 = ((185 : Nat) : Int) from rfl) (fun c32 => ?_) (fun c33 => ?_)
      · refine fst1_ok X (dk rfl) rfl ?_
        refine br_ok X (dk rfl) rfl (show ((186 : Nat) : Int) + 14 = ((200 : Nat) : Int) from rfl) (fun c34 => ?_) (fun c35 => ?_)
        · refine fst1_ok X (dk rfl) rfl ?_
          exact reti_ok X hr hlk (bI_n false) (dk rfl) ⟨⟨false, rfl⟩, J24⟩ (Nat.le_of_ble_eq_true rfl) (Nat.le_of_ble_eq_true rfl)
        · refine fst1_ok X (dk rfl) rfl ?_
          refine callVR_ok (ci := 3) (T := TX1) (N := 5) (av := []) (r := []) X E (c1_isNoneInItself _ J24.1 T0) lkX1_isNoneInItself mlX1_81 lmX1_isNoneInItself lpX1_isNoneInItself ⟨Nat.le_of_ble_eq_true rfl, Nat.le_of_ble_eq_true rfl⟩ ⟨Nat.le_of_ble_eq_true rfl, Nat.le_of_ble_eq_true rfl⟩ rfl (is_cell J24.1 gb6) (Nat.le_of_ble_eq_true rfl) (dk rfl) ?_
          rintro _ ⟨b36, rfl⟩
          refine br_ok X (dk rfl) rfl (show ((193 : Nat) : Int) + 7 = ((200 : Nat) : Int) from rfl) (fun c37 => ?_) (fun c38 => ?_)
          · refine fst1_ok X (dk rfl) rfl ?_
            exact reti_ok X hr hlk (bI_n false) (dk rfl) ⟨⟨false, rfl⟩, J24⟩ (Nat.le_of_ble_eq_true rfl) (Nat.le_of_ble_eq_true rfl)
          · refine fst1_ok X (dk rfl) rfl ?_
            refine br_ok X (dk rfl) rfl (show ((197 : Nat) : Int) + 4 = ((201 : Nat) : Int) from rfl) (fun _ => ?_) (fun q => absurd trivial q)
            exact reti_ok X hr hlk (bI_n true) (dk rfl) ⟨⟨true, rfl⟩, J24⟩ (Nat.le_of_ble_eq_true rfl) (Nat.le_of_ble_eq_true rfl)
      · refine fst1_ok X (dk rfl) rfl ?_
        have hx39 := is_open J24.1 gb6
        refine getf_ok X flX1_33 (dk rfl) hx39 rfl ?_
        obtain ⟨a40, a41, gb42, g43, g44⟩ := id tp11
        refine callVR_ok (ci := 4) (T := TX2) (N := 3) (av := []) (r := []) X E (c2_length _ J24.1 tp11) lkX2_length mlX1_64 lmX2_length lpX2_length ⟨Nat.le_of_ble_eq_true rfl, Nat.le_of_ble_eq_true rfl⟩ ⟨Nat.le_of_ble_eq_true rfl, Nat.le_of_ble_eq_true rfl⟩ rfl (pr_cell J24.1 gb42) (Nat.le_of_ble_eq_true rfl) (dk rfl) ?_
        rintro _ ⟨n45, hn46, rfl⟩
        refine br_ok X (dk rfl) rfl (show ((104 : Nat) : Int) + 81 = ((185 : Nat) : Int) from rfl) (fun c47 => ?_) (fun c48 => ?_)
        · refine fst1_ok X (dk rfl) rfl ?_
          refine br_ok X (dk rfl) rfl (show ((186 : Nat) : Int) + 14 = ((200 : Nat) : Int) from rfl) (fun c49 => ?_) (fun c50 => ?_)
          · refine fst1_ok X (dk rfl) rfl ?_
            exact reti_ok X hr hlk (bI_n false) (dk rfl) ⟨⟨false, rfl⟩, J24⟩ (Nat.le_of_ble_eq_true rfl) (Nat.le_of_ble_eq_true rfl)
          · refine fst1_ok X (dk rfl) rfl ?_
            refine callVR_ok (ci := 3) (T := TX1) (N := 5) (av := []) (r := []) X E (c1_isNoneInItself _ J24.1 T0) lkX1_isNoneInItself mlX1_81 lmX1_isNoneInItself lpX1_isNoneInItself ⟨Nat.le_of_ble_eq_true rfl, Nat.le_of_ble_eq_true rfl⟩ ⟨Nat.le_of_ble_eq_true rfl, Nat.le_of_ble_eq_true rfl⟩ rfl (is_cell J24.1 gb6) (Nat.le_of_ble_eq_true rfl) (dk rfl) ?_
            rintro _ ⟨b51, rfl⟩
            refine br_ok X (dk rfl) rfl (show ((193 : Nat) : Int) + 7 = ((200 : Nat) : Int) from rfl) (fun c52 => ?_) (fun c53 => ?_)
            · refine fst1_ok X (dk rfl) rfl ?_
              exact reti_ok X hr hlk (bI_n false) (dk rfl) ⟨⟨false, rfl⟩, J24⟩ (Nat.le_of_ble_eq_true rfl) (Nat.le_of_ble_eq_true rfl)
            · refine fst1_ok X (dk rfl) rfl ?_
              refine br_ok X (dk rfl) rfl (show ((197 : Nat) : Int) + 4 = ((201 : Nat) : Int) from rfl) (fun _ => ?_) (fun q => absurd trivial q)
              exact reti_ok X hr hlk (bI_n true) (dk rfl) ⟨⟨true, rfl⟩, J24⟩ (Nat.le_of_ble_eq_true rfl) (Nat.le_of_ble_eq_true rfl)
        · refine fst1_ok X (dk rfl) rfl ?_
          refine getf_ok X flX1_33 (dk rfl) hx39 rfl ?_
          refine callVR_ok (ci := 4) (T := TX2) (N := 3) (av := []) (r := []) X E (c2_length _ J24.1 tp11) lkX2_length mlX1_64 lmX2_length lpX2_length ⟨Nat.le_of_ble_eq_true rfl, Nat.le_of_ble_eq_true rfl⟩ ⟨Nat.le_of_ble_eq_true rfl, Nat.le_of_ble_eq_true rfl⟩ rfl (pr_cell J24.1 gb42) (Nat.le_of_ble_eq_true rfl) (dk rfl) ?_
          rintro _ ⟨n54, hn55, rfl⟩
          iterate 5 refine fst1_ok X (dk rfl) rfl ?_
          refine getf_ok X flX1_33 (dk rfl) hx39 rfl ?_
          refine fst1_ok X (dk rfl) rfl ?_
          refine callVR_ok (ci := 4) (T := TX2) (N := 3) (av := [.int _]) (r := [_]) X E (c2_oneAt _ J24.1 tp11 _) lkX2_oneAt mlX1_65 lmX2_oneAt lpX2_oneAt ⟨Nat.le_of_ble_eq_true rfl, Nat.le_of_ble_eq_true rfl⟩ ⟨Nat.le_of_ble_eq_true rfl, Nat.le_of_ble_eq_true rfl⟩ rfl (pr_cell J24.1 gb42) (Nat.le_of_ble_eq_true rfl) (dk rfl) ?_
          rintro _ ⟨x56, rfl⟩
          refine callVR_ok (ci := 3) (T := TX1) (N := 5) (av := [.int _]) (r := []) X E (c1_classAt _ J24.1 T0 _) lkX1_classAt mlX1_68 lmX1_classAt lpX1_classAt ⟨Nat.le_of_ble_eq_true rfl, Nat.le_of_ble_eq_true rfl⟩ ⟨Nat.le_of_ble_eq_true rfl, Nat.le_of_ble_eq_true rfl⟩ rfl (is_cell J24.1 gb6) (Nat.le_of_ble_eq_true rfl) (dk rfl) ?_
          rintro _ ⟨x57, rfl⟩
          iterate 3 refine fst1_ok X (dk rfl) rfl ?_
          refine getf_ok X flX1_33 (dk rfl) hx39 rfl ?_
          refine fst1_ok X (dk rfl) rfl ?_
          refine callVR_ok (ci := 4) (T := TX2) (N := 3) (av := [.int _]) (r := [_]) X E (c2_otherAt _ J24.1 tp11 _) lkX2_otherAt mlX1_71 lmX2_otherAt lpX2_otherAt ⟨Nat.le_of_ble_eq_true rfl, Nat.le_of_ble_eq_true rfl⟩ ⟨Nat.le_of_ble_eq_true rfl, Nat.le_of_ble_eq_true rfl⟩ rfl (pr_cell J24.1 gb42) (Nat.le_of_ble_eq_true rfl) (dk rfl) ?_
          rintro _ ⟨x58, rfl⟩
          refine callVR_ok (ci := 3) (T := TX1) (N := 5) (av := [.int _]) (r := []) X E (c1_classAt _ J24.1 T0 _) lkX1_classAt mlX1_68 lmX1_classAt lpX1_classAt ⟨Nat.le_of_ble_eq_true rfl, Nat.le_of_ble_eq_true rfl⟩ ⟨Nat.le_of_ble_eq_true rfl, Nat.le_of_ble_eq_true rfl⟩ rfl (is_cell J24.1 gb6) (Nat.le_of_ble_eq_true rfl) (dk rfl) ?_
          rintro _ ⟨x59, rfl⟩
          iterate 2 refine fst1_ok X (dk rfl) rfl ?_
          refine getf_ok X flX1_33 (dk rfl) hx39 rfl ?_
          refine callVW_ok (ci := 4) (T := TX2) (N := 3) (av := []) (r := []) X E J24 (c2_dropNext _ J24.1 tp11) lkX2_dropNext mlX1_74 lmX2_dropNext lpX2_dropNext ⟨Nat.le_of_ble_eq_true rfl, Nat.le_of_ble_eq_true rfl⟩ ⟨Nat.le_of_ble_eq_true rfl, Nat.le_of_ble_eq_true rfl⟩ rfl (pr_cell J24.1 gb42) (Nat.le_of_ble_eq_true rfl) (dk rfl) ?_
          rintro _ h60 rfl J61
          iterate 2 refine fst1_ok X (dk rfl) rfl ?_
          refine br_ok X (dk rfl) rfl (show ((159 : Nat) : Int) + 14 = ((173 : Nat) : Int) from rfl) (fun c62 => ?_) (fun c63 => ?_)
          · refine fst1_ok X (dk rfl) rfl ?_
            refine br_ok X (dk rfl) rfl (show ((174 : Nat) : Int) + 4 = ((178 : Nat) : Int) from rfl) (fun _ => ?_) (fun q => absurd trivial q)
            iterate 2 refine fst1_ok X (dk rfl) rfl ?_
            refine br_ok X (dk rfl) rfl (show ((182 : Nat) : Int) + (-96) = ((86 : Nat) : Int) from rfl) (fun _ => ?_) (fun q => absurd trivial q)
            exact ih86 _ (nlt_of c26) true h60 J61 _ rfl
          · iterate 3 refine fst1_ok X (dk rfl) rfl ?_
            refine callVW_ok (ci := 3) (T := TX1) (N := 5) (av := [.int _, .int _]) (r := []) X E J61 (c1_join _ J61.1 T0 _ _) lkX1_join mlX1_77 lmX1_join lpX1_join ⟨Nat.le_of_ble_eq_true rfl, Nat.le_of_ble_eq_true rfl⟩ ⟨Nat.le_of_ble_eq_true rfl, Nat.le_of_ble_eq_true rfl⟩ rfl (is_cell J61.1 gb6) (Nat.le_of_ble_eq_true rfl) (dk rfl) ?_
            rintro _ h65 ⟨b64, rfl⟩ J66
            refine br_ok X (dk rfl) rfl (show ((170 : Nat) : Int) + 7 = ((177 : Nat) : Int) from rfl) (fun c67 => ?_) (fun c68 => ?_)
            · iterate 3 refine fst1_ok X (dk rfl) rfl ?_
              refine br_ok X (dk rfl) rfl (show ((182 : Nat) : Int) + (-96) = ((86 : Nat) : Int) from rfl) (fun _ => ?_) (fun q => absurd trivial q)
              exact ih86 _ (nlt_of c26) false h65 J66 _ rfl
            · refine fst1_ok X (dk rfl) rfl ?_
              refine br_ok X (dk rfl) rfl (show ((174 : Nat) : Int) + 4 = ((178 : Nat) : Int) from rfl) (fun _ => ?_) (fun q => absurd trivial q)
              iterate 2 refine fst1_ok X (dk rfl) rfl ?_
              refine br_ok X (dk rfl) rfl (show ((182 : Nat) : Int) + (-96) = ((86 : Nat) : Int) from rfl) (fun _ => ?_) (fun q => absurd trivial q)
              exact ih86 _ (nlt_of c26) true h65 J66 _ rfl
  have L11 : ∀ j69 : Nat, j69 ≤ 32 → ∀ (h73 : AH) (J74 : TI Γ h h73) (l : List (Nat × Value)), lsel l [3, 2, 1, 0] = [(3, vI j69), (2, .ref o2), (1, .ref o1), (0, .ref o0)] → WR p la e (rmD 4 0 0) s m args below meth c D cA B0 8 (WrO Γ bP h) 11 l [] h73 0 0 := by
    refine loopN (fun j69 hj69 ih11 => ?_)
    intro h73 J74 l hl
    refine WS.sel [3, 2, 1, 0] hl ?_
    iterate 2 refine fst1_ok X (dk rfl) rfl ?_
    refine br_ok X (dk rfl) rfl (show ((14 : Nat) : Int) + 48 = ((62 : Nat) : Int) from rfl) (fun c75 => ?_) (fun c76 => ?_)
    · refine fst1_ok X (dk rfl) rfl ?_
      have hx77 := is_open J74.1 gb6
      refine getf_ok X flX1_33 (dk rfl) hx77 rfl ?_
      obtain ⟨a78, a79, gb80, g81, g82⟩ := id tp11
      refine callVW_ok (ci := 4) (T := TX2) (N := 3) (av := []) (r := []) X E J74 (c2_empty _ J74.1 tp11) lkX2_empty mlX1_52 lmX2_empty lpX2_empty ⟨Nat.le_of_ble_eq_true rfl, Nat.le_of_ble_eq_true rfl⟩ ⟨Nat.le_of_ble_eq_true rfl, Nat.le_of_ble_eq_true rfl⟩ rfl (pr_cell J74.1 gb80) (Nat.le_of_ble_eq_true rfl) (dk rfl) ?_
      rintro _ h83 rfl J84
      refine fst1_ok X (dk rfl) rfl ?_
      have hx85 := is_open J84.1 gb6
      refine getf_ok X flX1_33 (dk rfl) hx85 rfl ?_
      iterate 2 refine fst1_ok X (dk rfl) rfl ?_
      refine callVR_ok (ci := 7) (T := TX5) (N := 3) (av := []) (r := [_, _]) X E (c5_length _ J84.1 T1) lkX5_length mlX1_55 lmX5_length lpX5_length ⟨Nat.le_of_ble_eq_true rfl, Nat.le_of_ble_eq_true rfl⟩ ⟨Nat.le_of_ble_eq_true rfl, Nat.le_of_ble_eq_true rfl⟩ rfl (tm_cell J84.1 gb14) (Nat.le_of_ble_eq_true rfl) (dk rfl) ?_
      rintro _ ⟨n86, hn87, rfl⟩
      refine callVW_ok (ci := 4) (T := TX2) (N := 3) (av := [.int _, .int _]) (r := []) X E J84 (c2_add _ J84.1 tp11 _ _) lkX2_add mlX1_59 lmX2_add lpX2_add ⟨Nat.le_of_ble_eq_true rfl, Nat.le_of_ble_eq_true rfl⟩ ⟨Nat.le_of_ble_eq_true rfl, Nat.le_of_ble_eq_true rfl⟩ rfl (pr_cell J84.1 gb80) (Nat.le_of_ble_eq_true rfl) (dk rfl) ?_
      rintro _ h88 rfl J89
      iterate 4 refine fst1_ok X (dk rfl) rfl ?_
      exact L86 _ true h88 J89 _ rfl
    · refine fst1_ok X (dk rfl) rfl ?_
      have hx90 := is_open J74.1 gb6
      refine getf_ok X flX1_20 (dk rfl) hx90 rfl ?_
      iterate 2 refine fst1_ok X (dk rfl) rfl ?_
      refine getf_ok X flX1_16 (dk rfl) hx90 rfl ?_
      refine fst1_ok X (dk rfl) rfl ?_
      obtain ⟨hL92, q91, gb93, gl94⟩ := id tb7
      refine callVR_ok (ci := 7) (T := TX5) (N := 3) (av := [.int _]) (r := [_, _]) X E (c5_firstLike _ J74.1 tb7 _) lkX5_firstLike mlX1_41 lmX5_firstLike lpX5_firstLike ⟨Nat.le_of_ble_eq_true rfl, Nat.le_of_ble_eq_true rfl⟩ ⟨Nat.le_of_ble_eq_true rfl, Nat.le_of_ble_eq_true rfl⟩ rfl (tm_cell J74.1 gb93) (Nat.le_of_ble_eq_true rfl) (dk rfl) ?_
      rintro _ ⟨x95, rfl⟩
      obtain ⟨xs96, hx97, hn98⟩ := rw_open J74.1 gc8
      refine astT_ok X (dk rfl) hx97 (nI_pos (by omega)) (by rw [hn98]; exact ix_ok (by omega) (nI_pos (by omega)) (by rw [show nI 32 = (Int8.ofInt 32).toInt32 by decide +kernel]; exact c76)) J74 gc8 (rowφ_set hn98 _ _) (fun h99 J100 ho101 => ?_)
      have hx102 := (ho101 o0 (k_ne hx90 hx97 (by decide))).trans hx90
      refine fst1_ok X (dk rfl) rfl ?_
      refine getf_ok X flX1_24 (dk rfl) hx102 rfl ?_
      iterate 2 refine fst1_ok X (dk rfl) rfl ?_
      refine getf_ok X flX1_16 (dk rfl) hx102 rfl ?_
      refine fst1_ok X (dk rfl) rfl ?_
      refine callVR_ok (ci := 7) (T := TX5) (N := 3) (av := [.int _]) (r := [_, _]) X E (c5_letterAt _ J100.1 tb7 _) lkX5_letterAt mlX1_45 lmX5_letterAt lpX5_letterAt ⟨Nat.le_of_ble_eq_true rfl, Nat.le_of_ble_eq_true rfl⟩ ⟨Nat.le_of_ble_eq_true rfl, Nat.le_of_ble_eq_true rfl⟩ rfl (tm_cell J100.1 gb93) (Nat.le_of_ble_eq_true rfl) (dk rfl) ?_
      rintro _ ⟨x103, hx104, rfl⟩
      refine callNR_ok (av := [.int _]) (r := [_, _]) X E (c6_isHead _ J100.1 _) lkX6_isHead mnX1_48 lsX6_isHead ⟨Nat.le_of_ble_eq_true rfl, Nat.le_of_ble_eq_true rfl⟩ ⟨Nat.le_of_ble_eq_true rfl, Nat.le_of_ble_eq_true rfl⟩ (Nat.le_of_ble_eq_true rfl) (dk rfl) ?_
      rintro _ ⟨b105, rfl⟩
      refine br_ok X (dk rfl) rfl (show ((47 : Nat) : Int) + 7 = ((54 : Nat) : Int) from rfl) (fun c106 => ?_) (fun c107 => ?_)
      · refine fst1_ok X (dk rfl) rfl ?_
        obtain ⟨xs108, hx109, hn110⟩ := rw_open J100.1 gh9
        refine astT_ok X (dk rfl) hx109 (nI_pos (by omega)) (by rw [hn110]; exact ix_ok (by omega) (nI_pos (by omega)) (by rw [show nI 32 = (Int8.ofInt 32).toInt32 by decide +kernel]; exact c76)) J100 gh9 (rowφ_set hn110 _ _) (fun h111 J112 ho113 => ?_)
        have hx114 := (ho113 o0 (k_ne hx102 hx109 (by decide))).trans hx102
        refine fst1_ok X (dk rfl) rfl ?_
        refine br_ok X (dk rfl) rfl (show ((59 : Nat) : Int) + (-48) = ((11 : Nat) : Int) from rfl) (fun _ => ?_) (fun q => absurd trivial q)
        exact ih11 (nat_lt (K := 32) (by omega) (by rw [show nI 32 = (Int8.ofInt 32).toInt32 by decide +kernel]; exact c76)) h111 J112 _ (by rw [← vI_succ j69]; rfl)
      · refine fst1_ok X (dk rfl) rfl ?_
        refine br_ok X (dk rfl) rfl (show ((51 : Nat) : Int) + 4 = ((55 : Nat) : Int) from rfl) (fun _ => ?_) (fun q => absurd trivial q)
        obtain ⟨xs115, hx116, hn117⟩ := rw_open J100.1 gh9
        refine astT_ok X (dk rfl) hx116 (nI_pos (by omega)) (by rw [hn117]; exact ix_ok (by omega) (nI_pos (by omega)) (by rw [show nI 32 = (Int8.ofInt 32).toInt32 by decide +kernel]; exact c76)) J100 gh9 (rowφ_set hn117 _ _) (fun h118 J119 ho120 => ?_)
        have hx121 := (ho120 o0 (k_ne hx102 hx116 (by decide))).trans hx102
        refine fst1_ok X (dk rfl) rfl ?_
        refine br_ok X (dk rfl) rfl (show ((59 : Nat) : Int) + (-48) = ((11 : Nat) : Int) from rfl) (fun _ => ?_) (fun q => absurd trivial q)
        exact ih11 (nat_lt (K := 32) (by omega) (by rw [show nI 32 = (Int8.ofInt 32).toInt32 by decide +kernel]; exact c76)) h118 J119 _ (by rw [← vI_succ j69]; rfl)
  refine fst1_ok X (dk rfl) rfl ?_
  have hx122 := is_open (TI.rf I).1 gb6
  refine getf_ok X flX1_16 (dk rfl) hx122 rfl ?_
  iterate 2 refine fst1_ok X (dk rfl) rfl ?_
  obtain ⟨hL124, q123, gb125, gl126⟩ := id tb7
  refine callVW_ok (ci := 7) (T := TX5) (N := 3) (av := [.ref _, .ref _]) (r := []) X E (TI.rf I) (c5_becomeBoth _ (TI.rf I).1 tb7 T1 T2) lkX5_becomeBoth mlX1_37 lmX5_becomeBoth lpX5_becomeBoth ⟨Nat.le_of_ble_eq_true rfl, Nat.le_of_ble_eq_true rfl⟩ ⟨Nat.le_of_ble_eq_true rfl, Nat.le_of_ble_eq_true rfl⟩ rfl (tm_cell (TI.rf I).1 gb125) (Nat.le_of_ble_eq_true rfl) (dk rfl) ?_
  rintro _ h127 rfl J128
  iterate 2 refine fst1_ok X (dk rfl) rfl ?_
  exact L11 0 (by omega) h127 J128 _ rfl
end M93
end Ud05f1
section Ud06f3
/-! the class, weakly, over types that keep contents: shapes (printed by wip/p20/genFZ.py from wip/p40/cl4.py) -/
section M94
variable {la : Launch} {D : va_G} {cA : Nat → ClassId} {B0 pa : Nat} {Γ : TY}
set_option maxHeartbeats 4000000 in
theorem FZ.c3_nameFor (h : AH) (I : Tyg Γ h) {o0 : Nat} (T0 : ShapeT Γ o0) {o1 L1 : Nat} {w1 : Bool} (T1 : TermG w1 Γ o1 L1) (x2 : Int32) {o3 L3 : Nat} {w3 : Bool} (T3 : TermG w3 Γ o3 L3) (x4 : Int32) : CT la D cA B0 pa yX3_nameFor cX3_nameFor 6 (some .int) (rmD 2 0 0) [.ref o0, .ref o1, .int (x2), .ref o3, .int (x4)] h (WrO Γ lP h) := by
  refine CT_of (by decide +kernel) (Nat.le_of_ble_eq_true rfl) ?_
  intro p e s m args below meth c X E hr hlk hnm
  have dk : ∀ {pc : Nat} {q : Instr × Nat}, lkd DX3_nameFor pc = some q → decode cX3_nameFor pc = .ok q := lkd_ok DX3_nameFor_ok
  obtain ⟨pr1, gb2, tp3⟩ := id T0
  obtain ⟨hL5, q4, gb6, gl7⟩ := id T1
  obtain ⟨hL9, q8, gb10, gl11⟩ := id T3
  have L3 : ∀ j12 : Nat, j12 ≤ 128 → ∀ (h18 : AH) (J19 : TI Γ h h18) (l : List (Nat × Value)), lsel l [5, 4, 3, 2, 1, 0] = [(5, vI j12), (4, .int (x4)), (3, .ref o3), (2, .int (x2)), (1, .ref o1), (0, .ref o0)] → WR p la e (rmD 2 0 0) s m args below meth c D cA B0 6 (WrO Γ lP h) 3 l [] h18 0 0 := by
    refine loopN (fun j12 hj12 ih3 => ?_)
    intro h18 J19 l hl
    refine WS.sel [5, 4, 3, 2, 1, 0] hl ?_
    iterate 2 refine fst1_ok X (dk rfl) rfl ?_
    have hx20 := is_open J19.1 gb2
    refine getf_ok X flX3_12 (dk rfl) hx20 rfl ?_
    obtain ⟨a21, a22, gb23, g24, g25⟩ := id tp3
    refine callVR_ok (ci := 4) (T := TX2) (N := 3) (av := []) (r := [_]) X E (c2_length _ J19.1 tp3) lkX2_length mlX3_47 lmX2_length lpX2_length ⟨Nat.le_of_ble_eq_true rfl, Nat.le_of_ble_eq_true rfl⟩ ⟨Nat.le_of_ble_eq_true rfl, Nat.le_of_ble_eq_true rfl⟩ rfl (pr_cell J19.1 gb23) (Nat.le_of_ble_eq_true rfl) (dk rfl) ?_
    rintro _ ⟨n26, hn27, rfl⟩
    refine br_ok X (dk rfl) rfl (show ((12 : Nat) : Int) + 49 = ((61 : Nat) : Int) from rfl) (fun c28 => ?_) (fun c29 => ?_)
    · refine fst1_ok X (dk rfl) rfl ?_
      refine getf_ok X flX3_12 (dk rfl) hx20 rfl ?_
      iterate 2 refine fst1_ok X (dk rfl) rfl ?_
      refine callVW_ok (ci := 4) (T := TX2) (N := 3) (av := [.int _, .int _]) (r := []) X E J19 (c2_add _ J19.1 tp3 _ _) lkX2_add mlX3_58 lmX2_add lpX2_add ⟨Nat.le_of_ble_eq_true rfl, Nat.le_of_ble_eq_true rfl⟩ ⟨Nat.le_of_ble_eq_true rfl, Nat.le_of_ble_eq_true rfl⟩ rfl (pr_cell J19.1 gb23) (Nat.le_of_ble_eq_true rfl) (dk rfl) ?_
      rintro _ h30 rfl J31
      refine fst1_ok X (dk rfl) rfl ?_
      have hx32 := is_open J31.1 gb2
      refine getf_ok X flX3_12 (dk rfl) hx32 rfl ?_
      refine callVR_ok (ci := 4) (T := TX2) (N := 3) (av := []) (r := []) X E (c2_length _ J31.1 tp3) lkX2_length mlX3_47 lmX2_length lpX2_length ⟨Nat.le_of_ble_eq_true rfl, Nat.le_of_ble_eq_true rfl⟩ ⟨Nat.le_of_ble_eq_true rfl, Nat.le_of_ble_eq_true rfl⟩ rfl (pr_cell J31.1 gb23) (Nat.le_of_ble_eq_true rfl) (dk rfl) ?_
      rintro _ ⟨n33, hn34, rfl⟩
      iterate 2 refine fst1_ok X (dk rfl) rfl ?_
      exact reti_ok X hr hlk rfl (dk rfl) ⟨⟨_, (LR_dec (by omega)), rfl⟩, J31⟩ (Nat.le_of_ble_eq_true rfl) (Nat.le_of_ble_eq_true rfl)
    · iterate 2 refine fst1_ok X (dk rfl) rfl ?_
      refine getf_ok X flX3_12 (dk rfl) hx20 rfl ?_
      refine fst1_ok X (dk rfl) rfl ?_
      refine callVR_ok (ci := 4) (T := TX2) (N := 3) (av := [.int _]) (r := [_]) X E (c2_oneAt _ J19.1 tp3 _) lkX2_oneAt mlX3_48 lmX2_oneAt lpX2_oneAt ⟨Nat.le_of_ble_eq_true rfl, Nat.le_of_ble_eq_true rfl⟩ ⟨Nat.le_of_ble_eq_true rfl, Nat.le_of_ble_eq_true rfl⟩ rfl (pr_cell J19.1 gb23) (Nat.le_of_ble_eq_true rfl) (dk rfl) ?_
      rintro _ ⟨x35, rfl⟩
      iterate 2 refine fst1_ok X (dk rfl) rfl ?_
      refine callVR_ok (ci := 7) (T := TX5) (N := 3) (av := [.int _, .ref _, .int _]) (r := []) X E (c5_isLikeAt _ J19.1 T1 _ T1 _) lkX5_isLikeAt mlX3_51 lmX5_isLikeAt lpX5_isLikeAt ⟨Nat.le_of_ble_eq_true rfl, Nat.le_of_ble_eq_true rfl⟩ ⟨Nat.le_of_ble_eq_true rfl, Nat.le_of_ble_eq_true rfl⟩ rfl (tm_cell J19.1 gb6) (Nat.le_of_ble_eq_true rfl) (dk rfl) ?_
      rintro _ ⟨b36, rfl⟩
      refine br_ok X (dk rfl) rfl (show ((30 : Nat) : Int) + 25 = ((55 : Nat) : Int) from rfl) (fun c37 => ?_) (fun c38 => ?_)
      · refine fst1_ok X (dk rfl) rfl ?_
        refine br_ok X (dk rfl) rfl (show ((58 : Nat) : Int) + (-55) = ((3 : Nat) : Int) from rfl) (fun _ => ?_) (fun q => absurd trivial q)
        exact ih3 (by have := nat_lt (K := n26) (by omega) c29; omega) h18 J19 _ (by rw [← vI_succ j12]; rfl)
      · iterate 2 refine fst1_ok X (dk rfl) rfl ?_
        refine getf_ok X flX3_12 (dk rfl) hx20 rfl ?_
        refine fst1_ok X (dk rfl) rfl ?_
        refine callVR_ok (ci := 4) (T := TX2) (N := 3) (av := [.int _]) (r := [_]) X E (c2_otherAt _ J19.1 tp3 _) lkX2_otherAt mlX3_55 lmX2_otherAt lpX2_otherAt ⟨Nat.le_of_ble_eq_true rfl, Nat.le_of_ble_eq_true rfl⟩ ⟨Nat.le_of_ble_eq_true rfl, Nat.le_of_ble_eq_true rfl⟩ rfl (pr_cell J19.1 gb23) (Nat.le_of_ble_eq_true rfl) (dk rfl) ?_
        rintro _ ⟨x39, rfl⟩
        iterate 2 refine fst1_ok X (dk rfl) rfl ?_
        refine callVR_ok (ci := 7) (T := TX5) (N := 3) (av := [.int _, .ref _, .int _]) (r := []) X E (c5_isLikeAt _ J19.1 T3 _ T3 _) lkX5_isLikeAt mlX3_51 lmX5_isLikeAt lpX5_isLikeAt ⟨Nat.le_of_ble_eq_true rfl, Nat.le_of_ble_eq_true rfl⟩ ⟨Nat.le_of_ble_eq_true rfl, Nat.le_of_ble_eq_true rfl⟩ rfl (tm_cell J19.1 gb10) (Nat.le_of_ble_eq_true rfl) (dk rfl) ?_
        rintro _ ⟨b40, rfl⟩
        refine br_ok X (dk rfl) rfl (show ((49 : Nat) : Int) + 6 = ((55 : Nat) : Int) from rfl) (fun c41 => ?_) (fun c42 => ?_)
        · refine fst1_ok X (dk rfl) rfl ?_
          refine br_ok X (dk rfl) rfl (show ((58 : Nat) : Int) + (-55) = ((3 : Nat) : Int) from rfl) (fun _ => ?_) (fun q => absurd trivial q)
          exact ih3 (by have := nat_lt (K := n26) (by omega) c29; omega) h18 J19 _ (by rw [← vI_succ j12]; rfl)
        · refine fst1_ok X (dk rfl) rfl ?_
          exact reti_ok X hr hlk rfl (dk rfl) ⟨⟨_, (LR_nI (by omega)), rfl⟩, J19⟩ (Nat.le_of_ble_eq_true rfl) (Nat.le_of_ble_eq_true rfl)
  iterate 2 refine fst1_ok X (dk rfl) rfl ?_
  exact L3 0 (by omega) h (TI.rf I) _ rfl
set_option maxHeartbeats 4000000 in
theorem FZ.c3_drawInto (h : AH) (I : Tyg Γ h) {o0 : Nat} (T0 : ShapeT Γ o0) {o1 L1 : Nat} {w1 : Bool} (T1 : TermG w1 Γ o1 L1) {o2 L2 : Nat} {w2 : Bool} (T2 : TermG w2 Γ o2 L2) {o3 L3 : Nat} (T3 : TermG true Γ o3 L3) : CT la D cA B0 pa yX3_drawInto cX3_drawInto 8 (some .boolean) (rmD 3 0 0) [.ref o0, .ref o1, .ref o2, .ref o3] h (WrO Γ bP h) := by
  refine CT_of (by decide +kernel) (Nat.le_of_ble_eq_true rfl) ?_
  intro p e s m args below meth c X E hr hlk hnm
  have dk : ∀ {pc : Nat} {q : Instr × Nat}, lkd DX3_drawInto pc = some q → decode cX3_drawInto pc = .ok q := lkd_ok DX3_drawInto_ok
  obtain ⟨pr1, gb2, tp3⟩ := id T0
  obtain ⟨hL5, q4, gb6, gl7⟩ := id T1
  obtain ⟨hL9, q8, gb10, gl11⟩ := id T2
  obtain ⟨hL13, q12, gb14, gl15⟩ := id T3
  have L20 : ∀ j16 : Int32, ∀ (y17 : Int32) (y18 : Int32) (h23 : AH) (J24 : TI Γ h h23) (l : List (Nat × Value)), lsel l [6, 5, 4, 3, 2, 1, 0] = [(6, .int (j16)), (5, .int (y17)), (4, .int (y18)), (3, .ref o3), (2, .ref o2), (1, .ref o1), (0, .ref o0)] → WR p la e (rmD 3 0 0) s m args below meth c D cA B0 8 (WrO Γ bP h) 20 l [] h23 0 0 := by
    refine loopUp (fun j16 ih20 => ?_)
    intro y17 y18 h23 J24 l hl
    refine WS.sel [6, 5, 4, 3, 2, 1, 0] hl ?_
    iterate 2 refine fst1_ok X (dk rfl) rfl ?_
    refine br_ok X (dk rfl) rfl (show ((24 : Nat) : Int) + 90 = ((114 : Nat) : Int) from rfl) (fun c25 => ?_) (fun c26 => ?_)
    · refine fst1_ok X (dk rfl) rfl ?_
      have hx27 := is_open J24.1 gb2
      refine getf_ok X flX3_12 (dk rfl) hx27 rfl ?_
      obtain ⟨a28, a29, gb30, g31, g32⟩ := id tp3
      refine callVR_ok (ci := 4) (T := TX2) (N := 3) (av := []) (r := []) X E (c2_length _ J24.1 tp3) lkX2_length mlX3_47 lmX2_length lpX2_length ⟨Nat.le_of_ble_eq_true rfl, Nat.le_of_ble_eq_true rfl⟩ ⟨Nat.le_of_ble_eq_true rfl, Nat.le_of_ble_eq_true rfl⟩ rfl (pr_cell J24.1 gb30) (Nat.le_of_ble_eq_true rfl) (dk rfl) ?_
      rintro _ ⟨n33, hn34, rfl⟩
      refine fst1_ok X (dk rfl) rfl ?_
      refine br_ok X (dk rfl) rfl (show ((123 : Nat) : Int) + 7 = ((130 : Nat) : Int) from rfl) (fun c35 => ?_) (fun c36 => ?_)
      · refine fst1_ok X (dk rfl) rfl ?_
        exact reti_ok X hr hlk (bI_n false) (dk rfl) ⟨⟨false, rfl⟩, J24⟩ (Nat.le_of_ble_eq_true rfl) (Nat.le_of_ble_eq_true rfl)
      · refine fst1_ok X (dk rfl) rfl ?_
        refine br_ok X (dk rfl) rfl (show ((127 : Nat) : Int) + 4 = ((131 : Nat) : Int) from rfl) (fun _ => ?_) (fun q => absurd trivial q)
        exact reti_ok X hr hlk (bI_n true) (dk rfl) ⟨⟨true, rfl⟩, J24⟩ (Nat.le_of_ble_eq_true rfl) (Nat.le_of_ble_eq_true rfl)
    · iterate 2 refine fst1_ok X (dk rfl) rfl ?_
      refine callVR_ok (ci := 7) (T := TX5) (N := 3) (av := []) (r := [_]) X E (c5_length _ J24.1 T1) lkX5_length mlX3_24 lmX5_length lpX5_length ⟨Nat.le_of_ble_eq_true rfl, Nat.le_of_ble_eq_true rfl⟩ ⟨Nat.le_of_ble_eq_true rfl, Nat.le_of_ble_eq_true rfl⟩ rfl (tm_cell J24.1 gb6) (Nat.le_of_ble_eq_true rfl) (dk rfl) ?_
      rintro _ ⟨n37, hn38, rfl⟩
      refine br_ok X (dk rfl) rfl (show ((33 : Nat) : Int) + 81 = ((114 : Nat) : Int) from rfl) (fun c39 => ?_) (fun c40 => ?_)
      · refine fst1_ok X (dk rfl) rfl ?_
        have hx41 := is_open J24.1 gb2
        refine getf_ok X flX3_12 (dk rfl) hx41 rfl ?_
        obtain ⟨a42, a43, gb44, g45, g46⟩ := id tp3
        refine callVR_ok (ci := 4) (T := TX2) (N := 3) (av := []) (r := []) X E (c2_length _ J24.1 tp3) lkX2_length mlX3_47 lmX2_length lpX2_length ⟨Nat.le_of_ble_eq_true rfl, Nat.le_of_ble_eq_true rfl⟩ ⟨Nat.le_of_ble_eq_true rfl, Nat.le_of_ble_eq_true rfl⟩ rfl (pr_cell J24.1 gb44) (Nat.le_of_ble_eq_true rfl) (dk rfl) ?_
        rintro _ ⟨n47, hn48, rfl⟩
        refine fst1_ok X (dk rfl) rfl ?_
        refine br_ok X (dk rfl) rfl (show ((123 : Nat) : Int) + 7 = ((130 : Nat) : Int) from rfl) (fun c49 => ?_) (fun c50 => ?_)
        · refine fst1_ok X (dk rfl) rfl ?_
          exact reti_ok X hr hlk (bI_n false) (dk rfl) ⟨⟨false, rfl⟩, J24⟩ (Nat.le_of_ble_eq_true rfl) (Nat.le_of_ble_eq_true rfl)
        · refine fst1_ok X (dk rfl) rfl ?_
          refine br_ok X (dk rfl) rfl (show ((127 : Nat) : Int) + 4 = ((131 : Nat) : Int) from rfl) (fun _ => ?_) (fun q => absurd trivial q)
          exact reti_ok X hr hlk (bI_n true) (dk rfl) ⟨⟨true, rfl⟩, J24⟩ (Nat.le_of_ble_eq_true rfl) (Nat.le_of_ble_eq_true rfl)
      · iterate 2 refine fst1_ok X (dk rfl) rfl ?_
        refine callVR_ok (ci := 7) (T := TX5) (N := 3) (av := [.int _]) (r := []) X E (c5_letterAt _ J24.1 T1 _) lkX5_letterAt mlX3_28 lmX5_letterAt lpX5_letterAt ⟨Nat.le_of_ble_eq_true rfl, Nat.le_of_ble_eq_true rfl⟩ ⟨Nat.le_of_ble_eq_true rfl, Nat.le_of_ble_eq_true rfl⟩ rfl (tm_cell J24.1 gb6) (Nat.le_of_ble_eq_true rfl) (dk rfl) ?_
        rintro _ ⟨x51, hx52, rfl⟩
        iterate 2 refine fst1_ok X (dk rfl) rfl ?_
        refine callNR_ok (av := [.int _]) (r := []) X E (c6_isHead _ J24.1 _) lkX6_isHead mnX3_32 lsX6_isHead ⟨Nat.le_of_ble_eq_true rfl, Nat.le_of_ble_eq_true rfl⟩ ⟨Nat.le_of_ble_eq_true rfl, Nat.le_of_ble_eq_true rfl⟩ (Nat.le_of_ble_eq_true rfl) (dk rfl) ?_
        rintro _ ⟨b53, rfl⟩
        refine br_ok X (dk rfl) rfl (show ((49 : Nat) : Int) + 29 = ((78 : Nat) : Int) from rfl) (fun c54 => ?_) (fun c55 => ?_)
        · iterate 6 refine fst1_ok X (dk rfl) rfl ?_
          refine callVW_ok (ci := 5) (T := TX3) (N := 1) (av := [.ref _, .int _, .ref _, .int _]) (r := [_]) X E J24 (c3_nameFor _ J24.1 T0 T1 _ T2 _) lkX3_nameFor mlX3_40 lmX3_nameFor lpX3_nameFor ⟨Nat.le_of_ble_eq_true rfl, Nat.le_of_ble_eq_true rfl⟩ ⟨Nat.le_of_ble_eq_true rfl, Nat.le_of_ble_eq_true rfl⟩ rfl (is_cell J24.1 gb2) (Nat.le_of_ble_eq_true rfl) (dk rfl) ?_
          rintro _ h58 ⟨x56, hx57, rfl⟩ J59
          refine callVW_ok (ci := 7) (T := TX5) (N := 3) (av := [.int _]) (r := []) X E J59 (c5_add _ J59.1 T3 _ hx57) lkX5_add mlX3_36 lmX5_add lpX5_add ⟨Nat.le_of_ble_eq_true rfl, Nat.le_of_ble_eq_true rfl⟩ ⟨Nat.le_of_ble_eq_true rfl, Nat.le_of_ble_eq_true rfl⟩ rfl (tm_cell J59.1 gb14) (Nat.le_of_ble_eq_true rfl) (dk rfl) ?_
          rintro _ h60 rfl J61
          iterate 2 refine fst1_ok X (dk rfl) rfl ?_
          refine callVR_ok (ci := 7) (T := TX5) (N := 3) (av := [.int _]) (r := []) X E (c5_endOf _ J61.1 T1 _) lkX5_endOf mlX3_44 lmX5_endOf lpX5_endOf ⟨Nat.le_of_ble_eq_true rfl, Nat.le_of_ble_eq_true rfl⟩ ⟨Nat.le_of_ble_eq_true rfl, Nat.le_of_ble_eq_true rfl⟩ rfl (tm_cell J61.1 gb6) (Nat.le_of_ble_eq_true rfl) (dk rfl) ?_
          rintro _ ⟨x62, rfl⟩
          iterate 3 refine fst1_ok X (dk rfl) rfl ?_
          refine callVR_ok (ci := 7) (T := TX5) (N := 3) (av := [.int _]) (r := []) X E (c5_endOf _ J61.1 T2 _) lkX5_endOf mlX3_44 lmX5_endOf lpX5_endOf ⟨Nat.le_of_ble_eq_true rfl, Nat.le_of_ble_eq_true rfl⟩ ⟨Nat.le_of_ble_eq_true rfl, Nat.le_of_ble_eq_true rfl⟩ rfl (tm_cell J61.1 gb10) (Nat.le_of_ble_eq_true rfl) (dk rfl) ?_
          rintro _ ⟨x63, rfl⟩
          iterate 2 refine fst1_ok X (dk rfl) rfl ?_
          refine br_ok X (dk rfl) rfl (show ((111 : Nat) : Int) + (-91) = ((20 : Nat) : Int) from rfl) (fun _ => ?_) (fun q => absurd trivial q)
          exact ih20 _ (nlt_of c26) _ _ h60 J61 _ rfl
        · iterate 3 refine fst1_ok X (dk rfl) rfl ?_
          refine callVR_ok (ci := 7) (T := TX5) (N := 3) (av := [.int _]) (r := [_]) X E (c5_letterAt _ J24.1 T2 _) lkX5_letterAt mlX3_28 lmX5_letterAt lpX5_letterAt ⟨Nat.le_of_ble_eq_true rfl, Nat.le_of_ble_eq_true rfl⟩ ⟨Nat.le_of_ble_eq_true rfl, Nat.le_of_ble_eq_true rfl⟩ rfl (tm_cell J24.1 gb10) (Nat.le_of_ble_eq_true rfl) (dk rfl) ?_
          rintro _ ⟨x64, hx65, rfl⟩
          refine br_ok X (dk rfl) rfl (show ((60 : Nat) : Int) + 18 = ((78 : Nat) : Int) from rfl) (fun c66 => ?_) (fun c67 => ?_)
          · iterate 6 refine fst1_ok X (dk rfl) rfl ?_
            refine callVW_ok (ci := 5) (T := TX3) (N := 1) (av := [.ref _, .int _, .ref _, .int _]) (r := [_]) X E J24 (c3_nameFor _ J24.1 T0 T1 _ T2 _) lkX3_nameFor mlX3_40 lmX3_nameFor lpX3_nameFor ⟨Nat.le_of_ble_eq_true rfl, Nat.le_of_ble_eq_true rfl⟩ ⟨Nat.le_of_ble_eq_true rfl, Nat.le_of_ble_eq_true rfl⟩ rfl (is_cell J24.1 gb2) (Nat.le_of_ble_eq_true rfl) (dk rfl) ?_
            rintro _ h70 ⟨x68, hx69, rfl⟩ J71
            refine callVW_ok (ci := 7) (T := TX5) (N := 3) (av := [.int _]) (r := []) X E J71 (c5_add _ J71.1 T3 _ hx69) lkX5_add mlX3_36 lmX5_add lpX5_add ⟨Nat.le_of_ble_eq_true rfl, Nat.le_of_ble_eq_true rfl⟩ ⟨Nat.le_of_ble_eq_true rfl, Nat.le_of_ble_eq_true rfl⟩ rfl (tm_cell J71.1 gb14) (Nat.le_of_ble_eq_true rfl) (dk rfl) ?_
            rintro _ h72 rfl J73
            iterate 2 refine fst1_ok X (dk rfl) rfl ?_
            refine callVR_ok (ci := 7) (T := TX5) (N := 3) (av := [.int _]) (r := []) X E (c5_endOf _ J73.1 T1 _) lkX5_endOf mlX3_44 lmX5_endOf lpX5_endOf ⟨Nat.le_of_ble_eq_true rfl, Nat.le_of_ble_eq_true rfl⟩ ⟨Nat.le_of_ble_eq_true rfl, Nat.le_of_ble_eq_true rfl⟩ rfl (tm_cell J73.1 gb6) (Nat.le_of_ble_eq_true rfl) (dk rfl) ?_
            rintro _ ⟨x74, rfl⟩
            iterate 3 refine fst1_ok X (dk rfl) rfl ?_
            refine callVR_ok (ci := 7) (T := TX5) (N := 3) (av := [.int _]) (r := []) X E (c5_endOf _ J73.1 T2 _) lkX5_endOf mlX3_44 lmX5_endOf lpX5_endOf ⟨Nat.le_of_ble_eq_true rfl, Nat.le_of_ble_eq_true rfl⟩ ⟨Nat.le_of_ble_eq_true rfl, Nat.le_of_ble_eq_true rfl⟩ rfl (tm_cell J73.1 gb10) (Nat.le_of_ble_eq_true rfl) (dk rfl) ?_
            rintro _ ⟨x75, rfl⟩
            iterate 2 refine fst1_ok X (dk rfl) rfl ?_
            refine br_ok X (dk rfl) rfl (show ((111 : Nat) : Int) + (-91) = ((20 : Nat) : Int) from rfl) (fun _ => ?_) (fun q => absurd trivial q)
            exact ih20 _ (nlt_of c26) _ _ h72 J73 _ rfl
          · iterate 2 refine fst1_ok X (dk rfl) rfl ?_
            refine callVW_ok (ci := 7) (T := TX5) (N := 3) (av := [.int _]) (r := []) X E J24 (c5_add _ J24.1 T3 _ hx52) lkX5_add mlX3_36 lmX5_add lpX5_add ⟨Nat.le_of_ble_eq_true rfl, Nat.le_of_ble_eq_true rfl⟩ ⟨Nat.le_of_ble_eq_true rfl, Nat.le_of_ble_eq_true rfl⟩ rfl (tm_cell J24.1 gb14) (Nat.le_of_ble_eq_true rfl) (dk rfl) ?_
            rintro _ h76 rfl J77
            iterate 2 refine fst1_ok X (dk rfl) rfl ?_
            refine br_ok X (dk rfl) rfl (show ((75 : Nat) : Int) + 33 = ((108 : Nat) : Int) from rfl) (fun _ => ?_) (fun q => absurd trivial q)
            refine fst1_ok X (dk rfl) rfl ?_
            refine br_ok X (dk rfl) rfl (show ((111 : Nat) : Int) + (-91) = ((20 : Nat) : Int) from rfl) (fun _ => ?_) (fun q => absurd trivial q)
            exact ih20 _ (nlt_of c26) _ _ h76 J77 _ rfl
  refine fst1_ok X (dk rfl) rfl ?_
  have hx78 := is_open (TI.rf I).1 gb2
  refine getf_ok X flX3_12 (dk rfl) hx78 rfl ?_
  obtain ⟨a79, a80, gb81, g82, g83⟩ := id tp3
  refine callVW_ok (ci := 4) (T := TX2) (N := 3) (av := []) (r := []) X E (TI.rf I) (c2_empty _ (TI.rf I).1 tp3) lkX2_empty mlX3_18 lmX2_empty lpX2_empty ⟨Nat.le_of_ble_eq_true rfl, Nat.le_of_ble_eq_true rfl⟩ ⟨Nat.le_of_ble_eq_true rfl, Nat.le_of_ble_eq_true rfl⟩ rfl (pr_cell (TI.rf I).1 gb81) (Nat.le_of_ble_eq_true rfl) (dk rfl) ?_
  rintro _ h84 rfl J85
  refine fst1_ok X (dk rfl) rfl ?_
  refine callVW_ok (ci := 7) (T := TX5) (N := 3) (av := []) (r := []) X E J85 (c5_empty _ J85.1 T3) lkX5_empty mlX3_21 lmX5_empty lpX5_empty ⟨Nat.le_of_ble_eq_true rfl, Nat.le_of_ble_eq_true rfl⟩ ⟨Nat.le_of_ble_eq_true rfl, Nat.le_of_ble_eq_true rfl⟩ rfl (tm_cell J85.1 gb14) (Nat.le_of_ble_eq_true rfl) (dk rfl) ?_
  rintro _ h86 rfl J87
  iterate 6 refine fst1_ok X (dk rfl) rfl ?_
  exact L20 _ _ _ h86 J87 _ rfl
end M94
end Ud06f3
section Ud07f6a
/-! the class, weakly, over types that keep contents: what its methods have in common (printed by wip/p20/genFZ.py from wip/p40/cl6.py) -/
section M95
variable {la : Launch} {D : va_G} {cA : Nat → ClassId} {B0 pa : Nat} {Γ : TY}
set_option maxHeartbeats 4000000 in
theorem FZ.c6_termOf (h : AH) (hl : la.stackTraces = false) (I : Tyg Γ h) {o0 : Nat} {kn : Int32} (T0 : BmT Γ o0 kn) (x1 : Int32) : CTX la D cA B0 pa yX6_termOf cX6_termOf 2 (some (.object "Branchmatch$Term")) (rmD 6 1 6) [.ref o0, .int (x1)] h (WrO Γ (fun v => ∃ b : Nat, v = some (.ref b) ∧ TermG false Γ b 16) h) (pxW [ioobe] Γ h) := by
  refine CTX_of (by decide +kernel) (Nat.le_of_ble_eq_true rfl) ?_
  intro p e s m args below meth c X E hr hlk hnm ht
  have dk : ∀ {pc : Nat} {q : Instr × Nat}, lkd DX6_termOf pc = some q → decode cX6_termOf pc = .ok q := lkd_ok DX6_termOf_ok
  obtain ⟨S1, A2, sp3, os4, wd5, ow6, sa7, oa8, bs9, bc10, sh11, ss12, as13, gb14, gS15, gA16, sl17, sT18, al19, aT20, tsp21, tos22, twd23, tow24, tsa25, toa26, tbs27, tbc28, tsh29⟩ := id T0
  refine fst1_ok X (dk rfl) rfl ?_
  refine br_ok X (dk rfl) rfl (show ((1 : Nat) : Int) + 9 = ((10 : Nat) : Int) from rfl) (fun c30 => ?_) (fun c31 => ?_)
  · exact throwW_ok X E hl ht hlk xwX6_310 (List.mem_of_getElem? (i := 4) rfl) (dk rfl) (dk rfl) (dk rfl) (dk rfl) (dk rfl) ⟨Nat.le_of_ble_eq_true rfl, Nat.le_of_ble_eq_true rfl⟩ ⟨Nat.le_of_ble_eq_true rfl, Nat.le_of_ble_eq_true rfl⟩ ⟨(by simp), (TI.rf I)⟩
  · iterate 2 refine fst1_ok X (dk rfl) rfl ?_
    refine br_ok X (dk rfl) rfl (show ((7 : Nat) : Int) + 14 = ((21 : Nat) : Int) from rfl) (fun c32 => ?_) (fun c33 => ?_)
    · refine fst1_ok X (dk rfl) rfl ?_
      obtain ⟨dn35, rf36, hx34⟩ := bm_open (TI.rf I).1 gb14
      refine getf_ok X flX6_11 (dk rfl) hx34 rfl ?_
      refine fst1_ok X (dk rfl) rfl ?_
      have hx37 := is_open (TI.rf I).1 gS15
      refine aldx_ok X (by decide) (by decide) (dk rfl) hx37 sl17 sT18 (inN_of (N := 6) (by decide) c31 (Int32.not_le.mpr (by rw [show nI 6 = (Int8.ofInt 6).toInt32 by decide +kernel]; exact c32))) (fun b38 tb39 => ?_)
      refine WRX.ret ?_
      exact reta_ok X hr hlk (Or.inl ⟨_, rfl⟩) (Or.inr ⟨_, rfl⟩) (dk rfl) ⟨⟨_, rfl, tb39⟩, (TI.rf I)⟩ (Nat.le_of_ble_eq_true rfl) (Nat.le_of_ble_eq_true rfl)
    · exact throwW_ok X E hl ht hlk xwX6_310 (List.mem_of_getElem? (i := 4) rfl) (dk rfl) (dk rfl) (dk rfl) (dk rfl) (dk rfl) ⟨Nat.le_of_ble_eq_true rfl, Nat.le_of_ble_eq_true rfl⟩ ⟨Nat.le_of_ble_eq_true rfl, Nat.le_of_ble_eq_true rfl⟩ ⟨(by simp), (TI.rf I)⟩
set_option maxHeartbeats 4000000 in
theorem FZ.c6_termOfN (h : AH) (I : Tyg Γ h) {o0 : Nat} {kn : Int32} (T0 : BmT Γ o0 kn) (x1 : Int32) (hx1 : inN 6 x1) : CT la D cA B0 pa yX6_termOf cX6_termOf 2 (some (.object "Branchmatch$Term")) (rmD 0 0 0) [.ref o0, .int (x1)] h (RdO (fun v => ∃ b : Nat, v = some (.ref b) ∧ TermG false Γ b 16) h) := by
  refine CT_of (by decide +kernel) (Nat.le_of_ble_eq_true rfl) ?_
  intro p e s m args below meth c X E hr hlk hnm
  have dk : ∀ {pc : Nat} {q : Instr × Nat}, lkd DX6_termOf pc = some q → decode cX6_termOf pc = .ok q := lkd_ok DX6_termOf_ok
  obtain ⟨S1, A2, sp3, os4, wd5, ow6, sa7, oa8, bs9, bc10, sh11, ss12, as13, gb14, gS15, gA16, sl17, sT18, al19, aT20, tsp21, tos22, twd23, tow24, tsa25, toa26, tbs27, tbc28, tsh29⟩ := id T0
  refine fst1_ok X (dk rfl) rfl ?_
  refine br_ok X (dk rfl) rfl (show ((1 : Nat) : Int) + 9 = ((10 : Nat) : Int) from rfl) (fun c30 => ?_) (fun c31 => ?_)
  · exact absurd c30 (inN_pos hx1 (by decide))
  · iterate 2 refine fst1_ok X (dk rfl) rfl ?_
    refine br_ok X (dk rfl) rfl (show ((7 : Nat) : Int) + 14 = ((21 : Nat) : Int) from rfl) (fun c32 => ?_) (fun c33 => ?_)
    · refine fst1_ok X (dk rfl) rfl ?_
      obtain ⟨dn35, rf36, hx34⟩ := bm_open (TI.rf I).1 gb14
      refine getf_ok X flX6_11 (dk rfl) hx34 rfl ?_
      refine fst1_ok X (dk rfl) rfl ?_
      have hx37 := is_open (TI.rf I).1 gS15
      refine aldx_ok X (by decide) (by decide) (dk rfl) hx37 sl17 sT18 hx1 (fun b38 tb39 => ?_)
      exact reta_ok X hr hlk (Or.inl ⟨_, rfl⟩) (Or.inr ⟨_, rfl⟩) (dk rfl) ⟨⟨_, rfl, tb39⟩, rfl⟩ (Nat.le_of_ble_eq_true rfl) (Nat.le_of_ble_eq_true rfl)
    · exact absurd (by rw [show (Int8.ofInt 6).toInt32 = nI 6 by decide +kernel]; exact inN_lt hx1 (by decide)) c33
set_option maxHeartbeats 4000000 in
theorem FZ.c6_answerOf (h : AH) (hl : la.stackTraces = false) (I : Tyg Γ h) {o0 : Nat} {kn : Int32} (T0 : BmT Γ o0 kn) (x1 : Int32) : CTX la D cA B0 pa yX6_answerOf cX6_answerOf 2 (some (.object "Branchmatch$Answer")) (rmD 6 1 6) [.ref o0, .int (x1)] h (WrO Γ (fun v => ∃ b : Nat, v = some (.ref b) ∧ AnsG false Γ b) h) (pxW [ioobe] Γ h) := by
  refine CTX_of (by decide +kernel) (Nat.le_of_ble_eq_true rfl) ?_
  intro p e s m args below meth c X E hr hlk hnm ht
  have dk : ∀ {pc : Nat} {q : Instr × Nat}, lkd DX6_answerOf pc = some q → decode cX6_answerOf pc = .ok q := lkd_ok DX6_answerOf_ok
  obtain ⟨S1, A2, sp3, os4, wd5, ow6, sa7, oa8, bs9, bc10, sh11, ss12, as13, gb14, gS15, gA16, sl17, sT18, al19, aT20, tsp21, tos22, twd23, tow24, tsa25, toa26, tbs27, tbc28, tsh29⟩ := id T0
  refine fst1_ok X (dk rfl) rfl ?_
  refine br_ok X (dk rfl) rfl (show ((1 : Nat) : Int) + 8 = ((9 : Nat) : Int) from rfl) (fun c30 => ?_) (fun c31 => ?_)
  · exact throwW_ok X E hl ht hlk xwX6_310 (List.mem_of_getElem? (i := 5) rfl) (dk rfl) (dk rfl) (dk rfl) (dk rfl) (dk rfl) ⟨Nat.le_of_ble_eq_true rfl, Nat.le_of_ble_eq_true rfl⟩ ⟨Nat.le_of_ble_eq_true rfl, Nat.le_of_ble_eq_true rfl⟩ ⟨(by simp), (TI.rf I)⟩
  · iterate 2 refine fst1_ok X (dk rfl) rfl ?_
    refine br_ok X (dk rfl) rfl (show ((6 : Nat) : Int) + 14 = ((20 : Nat) : Int) from rfl) (fun c32 => ?_) (fun c33 => ?_)
    · refine fst1_ok X (dk rfl) rfl ?_
      obtain ⟨dn35, rf36, hx34⟩ := bm_open (TI.rf I).1 gb14
      refine getf_ok X flX6_17 (dk rfl) hx34 rfl ?_
      refine fst1_ok X (dk rfl) rfl ?_
      have hx37 := is_open (TI.rf I).1 gA16
      refine aldx_ok X (by decide) (by decide) (dk rfl) hx37 al19 aT20 (inN_of (N := 3) (by decide) c31 (Int32.not_le.mpr (by rw [show nI 3 = Int32.ofInt 3 by decide +kernel]; exact c32))) (fun b38 tb39 => ?_)
      refine WRX.ret ?_
      exact reta_ok X hr hlk (Or.inl ⟨_, rfl⟩) (Or.inr ⟨_, rfl⟩) (dk rfl) ⟨⟨_, rfl, tb39⟩, (TI.rf I)⟩ (Nat.le_of_ble_eq_true rfl) (Nat.le_of_ble_eq_true rfl)
    · exact throwW_ok X E hl ht hlk xwX6_310 (List.mem_of_getElem? (i := 5) rfl) (dk rfl) (dk rfl) (dk rfl) (dk rfl) (dk rfl) ⟨Nat.le_of_ble_eq_true rfl, Nat.le_of_ble_eq_true rfl⟩ ⟨Nat.le_of_ble_eq_true rfl, Nat.le_of_ble_eq_true rfl⟩ ⟨(by simp), (TI.rf I)⟩
set_option maxHeartbeats 4000000 in
theorem FZ.c0_ofN (h : AH) (I : Tyg Γ h) {o0 : Nat} {w0 : Bool} (T0 : AnsG w0 Γ o0) (x1 : Int32) (hx1 : inN 8 x1) : CT la D cA B0 pa yX0_of cX0_of 2 (some (.object "Branchmatch$Term")) (rmD 1 0 0) [.ref o0, .int (x1)] h (RdO (fun v => ∃ b : Nat, v = some (.ref b) ∧ TermG w0 Γ b 16) h) := by
  refine CT_of (by decide +kernel) (Nat.le_of_ble_eq_true rfl) ?_
  intro p e s m args below meth c X E hr hlk hnm
  have dk : ∀ {pc : Nat} {q : Instr × Nat}, lkd DX0_of pc = some q → decode cX0_of pc = .ok q := lkd_ok DX0_of_ok
  obtain ⟨ar1, ts2, gb3, ga4, tl5, tt6⟩ := id T0
  refine fst1_ok X (dk rfl) rfl ?_
  refine callNR_ok (av := [.int _]) (r := []) X E (c6_isName _ (TI.rf I).1 _) lkX6_isName mnX0_23 lsX6_isName ⟨Nat.le_of_ble_eq_true rfl, Nat.le_of_ble_eq_true rfl⟩ ⟨Nat.le_of_ble_eq_true rfl, Nat.le_of_ble_eq_true rfl⟩ (Nat.le_of_ble_eq_true rfl) (dk rfl) ?_
  rintro _ ⟨b7, rfl, hb8, hn9⟩
  refine br_ok X (dk rfl) rfl (show ((4 : Nat) : Int) + 13 = ((17 : Nat) : Int) from rfl) (fun c10 => ?_) (fun c11 => ?_)
  · refine fst1_ok X (dk rfl) rfl ?_
    have hx12 := is_open (TI.rf I).1 gb3
    refine getf_ok X flX0_11 (dk rfl) hx12 rfl ?_
    refine fst1_ok X (dk rfl) rfl ?_
    have hx13 := is_open (TI.rf I).1 ga4
    refine aldx_ok X (by decide) (by decide) (dk rfl) hx13 tl5 tt6 hx1 (fun b14 tb15 => ?_)
    exact reta_ok X hr hlk (Or.inl ⟨_, rfl⟩) (Or.inr ⟨_, rfl⟩) (dk rfl) ⟨⟨_, rfl, tb15⟩, rfl⟩ (Nat.le_of_ble_eq_true rfl) (Nat.le_of_ble_eq_true rfl)
  · exact absurd hx1 (hn9 (bI_z (Decidable.not_not.mp c11)))
set_option maxHeartbeats 4000000 in
theorem FZ.c6_needName (h : AH) (hl : la.stackTraces = false) (I : Tyg Γ h) (x0 : Int32) : CTX la D cA B0 pa yX6_needName cX6_needName 1 none (rmD 6 1 6) [.int (x0)] h (WrO Γ (fun v => v = none ∧ inN 8 x0) h) (pxW [iae] Γ h) := by
  refine CTX_of (by decide +kernel) (Nat.le_of_ble_eq_true rfl) ?_
  intro p e s m args below meth c X E hr hlk hnm ht
  have dk : ∀ {pc : Nat} {q : Instr × Nat}, lkd DX6_needName pc = some q → decode cX6_needName pc = .ok q := lkd_ok DX6_needName_ok
  refine fst1_ok X (dk rfl) rfl ?_
  refine callSR_ok (av := [.int _]) (r := []) X E (c6_isName _ (TI.rf I).1 _) lkX6_isName mlX6_137 lsX6_isName ⟨Nat.le_of_ble_eq_true rfl, Nat.le_of_ble_eq_true rfl⟩ ⟨Nat.le_of_ble_eq_true rfl, Nat.le_of_ble_eq_true rfl⟩ (Nat.le_of_ble_eq_true rfl) (dk rfl) ?_
  rintro _ ⟨b1, rfl, hb2, hn3⟩
  refine br_ok X (dk rfl) rfl (show ((4 : Nat) : Int) + 14 = ((18 : Nat) : Int) from rfl) (fun c4 => ?_) (fun c5 => ?_)
  · refine WRX.ret ?_
    exact retv_ok X hr hlk (dk rfl) ⟨⟨rfl, (hb2 (bI_nz c4))⟩, (TI.rf I)⟩ (Nat.le_of_ble_eq_true rfl) (Nat.le_of_ble_eq_true rfl)
  · exact throwW_ok X E hl ht hlk xwX6_88 (List.mem_of_getElem? (i := 6) rfl) (dk rfl) (dk rfl) (dk rfl) (dk rfl) (dk rfl) ⟨Nat.le_of_ble_eq_true rfl, Nat.le_of_ble_eq_true rfl⟩ ⟨Nat.le_of_ble_eq_true rfl, Nat.le_of_ble_eq_true rfl⟩ ⟨(by simp), (TI.rf I)⟩
set_option maxHeartbeats 4000000 in
theorem FZ.c6_isMadeAlikeBy (h : AH) (I : Tyg Γ h) {o0 : Nat} {kn : Int32} (T0 : BmT Γ o0 kn) {o1 : Nat} {w1 : Bool} (T1 : AnsG w1 Γ o1) {o2 : Nat} {w2 : Bool} (T2 : TermG w2 Γ o2 16) {o3 : Nat} {w3 : Bool} (T3 : TermG w3 Γ o3 16) : CT la D cA B0 pa yX6_isMadeAlikeBy cX6_isMadeAlikeBy 4 (some .boolean) (rmD 3 0 0) [.ref o0, .ref o1, .ref o2, .ref o3] h (WrO Γ bP h) := by
  refine CT_of (by decide +kernel) (Nat.le_of_ble_eq_true rfl) ?_
  intro p e s m args below meth c X E hr hlk hnm
  have dk : ∀ {pc : Nat} {q : Instr × Nat}, lkd DX6_isMadeAlikeBy pc = some q → decode cX6_isMadeAlikeBy pc = .ok q := lkd_ok DX6_isMadeAlikeBy_ok
  obtain ⟨S1, A2, sp3, os4, wd5, ow6, sa7, oa8, bs9, bc10, sh11, ss12, as13, gb14, gS15, gA16, sl17, sT18, al19, aT20, tsp21, tos22, twd23, tow24, tsa25, toa26, tbs27, tbc28, tsh29⟩ := id T0
  obtain ⟨ar30, ts31, gb32, ga33, tl34, tt35⟩ := id T1
  obtain ⟨hL37, q36, gb38, gl39⟩ := id T2
  obtain ⟨hL41, q40, gb42, gl43⟩ := id T3
  refine fst1_ok X (dk rfl) rfl ?_
  obtain ⟨dn45, rf46, hx44⟩ := bm_open (TI.rf I).1 gb14
  refine getf_ok X flX6_31 (dk rfl) hx44 rfl ?_
  obtain ⟨hL48, q47, gb49, gl50⟩ := id twd23
  refine callVW_ok (ci := 7) (T := TX5) (N := 3) (av := []) (r := []) X E (TI.rf I) (c5_empty _ (TI.rf I).1 twd23) lkX5_empty mlX6_94 lmX5_empty lpX5_empty ⟨Nat.le_of_ble_eq_true rfl, Nat.le_of_ble_eq_true rfl⟩ ⟨Nat.le_of_ble_eq_true rfl, Nat.le_of_ble_eq_true rfl⟩ rfl (tm_cell (TI.rf I).1 gb49) (Nat.le_of_ble_eq_true rfl) (dk rfl) ?_
  rintro _ h51 rfl J52
  iterate 4 refine fst1_ok X (dk rfl) rfl ?_
  refine callVR_ok (ci := 7) (T := TX5) (N := 3) (av := []) (r := [_, _, _]) X E (c5_length _ J52.1 T2) lkX5_length mlX6_76 lmX5_length lpX5_length ⟨Nat.le_of_ble_eq_true rfl, Nat.le_of_ble_eq_true rfl⟩ ⟨Nat.le_of_ble_eq_true rfl, Nat.le_of_ble_eq_true rfl⟩ rfl (tm_cell J52.1 gb38) (Nat.le_of_ble_eq_true rfl) (dk rfl) ?_
  rintro _ ⟨n53, hn54, rfl⟩
  refine fst1_ok X (dk rfl) rfl ?_
  obtain ⟨dn56, rf57, hx55⟩ := bm_open J52.1 gb14
  refine getf_ok X flX6_31 (dk rfl) hx55 rfl ?_
  refine callVW_ok (ci := 2) (T := TX0) (N := 1) (av := [.ref _, .int _, .int _, .ref _]) (r := []) X E J52 (c0_addUsed _ J52.1 T1 T2 _ _ twd23) lkX0_addUsed mlX6_155 lmX0_addUsed lpX0_addUsed ⟨Nat.le_of_ble_eq_true rfl, Nat.le_of_ble_eq_true rfl⟩ ⟨Nat.le_of_ble_eq_true rfl, Nat.le_of_ble_eq_true rfl⟩ rfl (is_cell J52.1 gb32) (Nat.le_of_ble_eq_true rfl) (dk rfl) ?_
  rintro _ h58 rfl J59
  refine fst1_ok X (dk rfl) rfl ?_
  obtain ⟨dn61, rf62, hx60⟩ := bm_open J59.1 gb14
  refine getf_ok X flX6_34 (dk rfl) hx60 rfl ?_
  obtain ⟨hL64, q63, gb65, gl66⟩ := id tow24
  refine callVW_ok (ci := 7) (T := TX5) (N := 3) (av := []) (r := []) X E J59 (c5_empty _ J59.1 tow24) lkX5_empty mlX6_94 lmX5_empty lpX5_empty ⟨Nat.le_of_ble_eq_true rfl, Nat.le_of_ble_eq_true rfl⟩ ⟨Nat.le_of_ble_eq_true rfl, Nat.le_of_ble_eq_true rfl⟩ rfl (tm_cell J59.1 gb65) (Nat.le_of_ble_eq_true rfl) (dk rfl) ?_
  rintro _ h67 rfl J68
  iterate 4 refine fst1_ok X (dk rfl) rfl ?_
  refine callVR_ok (ci := 7) (T := TX5) (N := 3) (av := []) (r := [_, _, _]) X E (c5_length _ J68.1 T3) lkX5_length mlX6_76 lmX5_length lpX5_length ⟨Nat.le_of_ble_eq_true rfl, Nat.le_of_ble_eq_true rfl⟩ ⟨Nat.le_of_ble_eq_true rfl, Nat.le_of_ble_eq_true rfl⟩ rfl (tm_cell J68.1 gb42) (Nat.le_of_ble_eq_true rfl) (dk rfl) ?_
  rintro _ ⟨n69, hn70, rfl⟩
  refine fst1_ok X (dk rfl) rfl ?_
  obtain ⟨dn72, rf73, hx71⟩ := bm_open J68.1 gb14
  refine getf_ok X flX6_34 (dk rfl) hx71 rfl ?_
  refine callVW_ok (ci := 2) (T := TX0) (N := 1) (av := [.ref _, .int _, .int _, .ref _]) (r := []) X E J68 (c0_addUsed _ J68.1 T1 T3 _ _ tow24) lkX0_addUsed mlX6_155 lmX0_addUsed lpX0_addUsed ⟨Nat.le_of_ble_eq_true rfl, Nat.le_of_ble_eq_true rfl⟩ ⟨Nat.le_of_ble_eq_true rfl, Nat.le_of_ble_eq_true rfl⟩ rfl (is_cell J68.1 gb32) (Nat.le_of_ble_eq_true rfl) (dk rfl) ?_
  rintro _ h74 rfl J75
  refine fst1_ok X (dk rfl) rfl ?_
  obtain ⟨dn77, rf78, hx76⟩ := bm_open J75.1 gb14
  refine getf_ok X flX6_31 (dk rfl) hx76 rfl ?_
  refine fst1_ok X (dk rfl) rfl ?_
  refine getf_ok X flX6_34 (dk rfl) hx76 rfl ?_
  refine callVR_ok (ci := 7) (T := TX5) (N := 3) (av := [.ref _]) (r := []) X E (c5_isLike _ J75.1 twd23 tow24) lkX5_isLike mlX6_111 lmX5_isLike lpX5_isLike ⟨Nat.le_of_ble_eq_true rfl, Nat.le_of_ble_eq_true rfl⟩ ⟨Nat.le_of_ble_eq_true rfl, Nat.le_of_ble_eq_true rfl⟩ rfl (tm_cell J75.1 gb49) (Nat.le_of_ble_eq_true rfl) (dk rfl) ?_
  rintro _ ⟨b79, rfl⟩
  exact reti_ok X hr hlk (bI_n b79) (dk rfl) ⟨⟨b79, rfl⟩, J75⟩ (Nat.le_of_ble_eq_true rfl) (Nat.le_of_ble_eq_true rfl)
set_option maxHeartbeats 4000000 in
theorem FZ.c6_sizesTogether (h : AH) (I : Tyg Γ h) {o0 : Nat} {kn : Int32} (T0 : BmT Γ o0 kn) : CT la D cA B0 pa yX6_sizesTogether cX6_sizesTogether 6 (some .int) (rmD 1 0 0) [.ref o0] h (RdO iP h) := by
  refine CT_of (by decide +kernel) (Nat.le_of_ble_eq_true rfl) ?_
  intro p e s m args below meth c X E hr hlk hnm
  have dk : ∀ {pc : Nat} {q : Instr × Nat}, lkd DX6_sizesTogether pc = some q → decode cX6_sizesTogether pc = .ok q := lkd_ok DX6_sizesTogether_ok
  obtain ⟨S1, A2, sp3, os4, wd5, ow6, sa7, oa8, bs9, bc10, sh11, ss12, as13, gb14, gS15, gA16, sl17, sT18, al19, aT20, tsp21, tos22, twd23, tow24, tsa25, toa26, tbs27, tbc28, tsh29⟩ := id T0
  have L13 : ∀ j30 : Nat, j30 ≤ 6 → ∀ (y33 : Int32) (l : List (Nat × Value)), lsel l [4, 3, 2, 1] = [(4, vI j30), (3, vI 6), (2, .ref S1), (1, .int (y33))] → WR p la e (rmD 1 0 0) s m args below meth c D cA B0 6 (RdO iP h) 13 l [] h 0 0 := by
    refine loopN (fun j30 hj30 ih13 => ?_)
    intro y33 l hl
    refine WS.sel [4, 3, 2, 1] hl ?_
    iterate 2 refine fst1_ok X (dk rfl) rfl ?_
    refine br_ok X (dk rfl) rfl (show ((16 : Nat) : Int) + 23 = ((39 : Nat) : Int) from rfl) (fun c34 => ?_) (fun c35 => ?_)
    · refine fst1_ok X (dk rfl) rfl ?_
      exact reti_ok X hr hlk rfl (dk rfl) ⟨⟨_, rfl⟩, rfl⟩ (Nat.le_of_ble_eq_true rfl) (Nat.le_of_ble_eq_true rfl)
    · iterate 2 refine fst1_ok X (dk rfl) rfl ?_
      have hx36 := is_open (TI.rf I).1 gS15
      refine aldx_ok X (by decide) (by decide) (dk rfl) hx36 sl17 sT18 ⟨_, (nat_lt (K := 6) (by omega) c35), rfl⟩ (fun b37 tb38 => ?_)
      iterate 3 refine fst1_ok X (dk rfl) rfl ?_
      obtain ⟨hL40, q39, gb41, gl42⟩ := id tb38
      refine callVR_ok (ci := 7) (T := TX5) (N := 3) (av := []) (r := [_]) X E (c5_length _ (TI.rf I).1 tb38) lkX5_length mlX6_76 lmX5_length lpX5_length ⟨Nat.le_of_ble_eq_true rfl, Nat.le_of_ble_eq_true rfl⟩ ⟨Nat.le_of_ble_eq_true rfl, Nat.le_of_ble_eq_true rfl⟩ rfl (tm_cell (TI.rf I).1 gb41) (Nat.le_of_ble_eq_true rfl) (dk rfl) ?_
      rintro _ ⟨n43, hn44, rfl⟩
      iterate 3 refine fst1_ok X (dk rfl) rfl ?_
      refine br_ok X (dk rfl) rfl (show ((36 : Nat) : Int) + (-23) = ((13 : Nat) : Int) from rfl) (fun _ => ?_) (fun q => absurd trivial q)
      exact ih13 (nat_lt (K := 6) (by omega) c35) _ _ (by rw [← vI_succ j30]; rfl)
  iterate 3 refine fst1_ok X (dk rfl) rfl ?_
  obtain ⟨dn46, rf47, hx45⟩ := bm_open (TI.rf I).1 gb14
  refine getf_ok X flX6_11 (dk rfl) hx45 rfl ?_
  iterate 2 refine fst1_ok X (dk rfl) rfl ?_
  have hx48 := is_open (TI.rf I).1 gS15
  refine alenr_ok X (by decide) (dk rfl) hx48 sl17 ?_
  iterate 3 refine fst1_ok X (dk rfl) rfl ?_
  exact L13 0 (by omega) _ _ rfl
set_option maxHeartbeats 4000000 in
theorem FZ.c6_movesTogether (h : AH) (I : Tyg Γ h) {o0 : Nat} {kn : Int32} (T0 : BmT Γ o0 kn) : CT la D cA B0 pa yX6_movesTogether cX6_movesTogether 6 (some .int) (rmD 4 0 0) [.ref o0] h (RdO iP h) := by
  refine CT_of (by decide +kernel) (Nat.le_of_ble_eq_true rfl) ?_
  intro p e s m args below meth c X E hr hlk hnm
  have dk : ∀ {pc : Nat} {q : Instr × Nat}, lkd DX6_movesTogether pc = some q → decode cX6_movesTogether pc = .ok q := lkd_ok DX6_movesTogether_ok
  obtain ⟨S1, A2, sp3, os4, wd5, ow6, sa7, oa8, bs9, bc10, sh11, ss12, as13, gb14, gS15, gA16, sl17, sT18, al19, aT20, tsp21, tos22, twd23, tow24, tsa25, toa26, tbs27, tbc28, tsh29⟩ := id T0
  have L13 : ∀ j30 : Nat, j30 ≤ 3 → ∀ (y33 : Int32) (l : List (Nat × Value)), lsel l [4, 3, 2, 1] = [(4, vI j30), (3, vI 3), (2, .ref A2), (1, .int (y33))] → WR p la e (rmD 4 0 0) s m args below meth c D cA B0 6 (RdO iP h) 13 l [] h 0 0 := by
    refine loopN (fun j30 hj30 ih13 => ?_)
    intro y33 l hl
    refine WS.sel [4, 3, 2, 1] hl ?_
    iterate 2 refine fst1_ok X (dk rfl) rfl ?_
    refine br_ok X (dk rfl) rfl (show ((16 : Nat) : Int) + 23 = ((39 : Nat) : Int) from rfl) (fun c34 => ?_) (fun c35 => ?_)
    · refine fst1_ok X (dk rfl) rfl ?_
      exact reti_ok X hr hlk rfl (dk rfl) ⟨⟨_, rfl⟩, rfl⟩ (Nat.le_of_ble_eq_true rfl) (Nat.le_of_ble_eq_true rfl)
    · iterate 2 refine fst1_ok X (dk rfl) rfl ?_
      have hx36 := is_open (TI.rf I).1 gA16
      refine aldx_ok X (by decide) (by decide) (dk rfl) hx36 al19 aT20 ⟨_, (nat_lt (K := 3) (by omega) c35), rfl⟩ (fun b37 tb38 => ?_)
      iterate 3 refine fst1_ok X (dk rfl) rfl ?_
      obtain ⟨ar39, ts40, gb41, ga42, tl43, tt44⟩ := id tb38
      refine callVR_ok (ci := 2) (T := TX0) (N := 1) (av := []) (r := [_]) X E (c0_movedCount _ (TI.rf I).1 tb38) lkX0_movedCount mlX6_163 lmX0_movedCount lpX0_movedCount ⟨Nat.le_of_ble_eq_true rfl, Nat.le_of_ble_eq_true rfl⟩ ⟨Nat.le_of_ble_eq_true rfl, Nat.le_of_ble_eq_true rfl⟩ rfl (is_cell (TI.rf I).1 gb41) (Nat.le_of_ble_eq_true rfl) (dk rfl) ?_
      rintro _ ⟨x45, rfl⟩
      iterate 3 refine fst1_ok X (dk rfl) rfl ?_
      refine br_ok X (dk rfl) rfl (show ((36 : Nat) : Int) + (-23) = ((13 : Nat) : Int) from rfl) (fun _ => ?_) (fun q => absurd trivial q)
      exact ih13 (nat_lt (K := 3) (by omega) c35) _ _ (by rw [← vI_succ j30]; rfl)
  iterate 3 refine fst1_ok X (dk rfl) rfl ?_
  obtain ⟨dn47, rf48, hx46⟩ := bm_open (TI.rf I).1 gb14
  refine getf_ok X flX6_17 (dk rfl) hx46 rfl ?_
  iterate 2 refine fst1_ok X (dk rfl) rfl ?_
  have hx49 := is_open (TI.rf I).1 gA16
  refine alenr_ok X (by decide) (dk rfl) hx49 al19 ?_
  iterate 3 refine fst1_ok X (dk rfl) rfl ?_
  exact L13 0 (by omega) _ _ rfl
set_option maxHeartbeats 4000000 in
theorem FZ.c6_areAnswersSound (h : AH) (I : Tyg Γ h) {o0 : Nat} {kn : Int32} (T0 : BmT Γ o0 kn) {o1 : Nat} {w1 : Bool} (T1 : TermG w1 Γ o1 16) {o2 : Nat} {w2 : Bool} (T2 : TermG w2 Γ o2 16) : CT la D cA B0 pa yX6_areAnswersSound cX6_areAnswersSound 3 (some .boolean) (rmD 4 0 0) [.ref o0, .ref o1, .ref o2] h (WrO Γ bP h) := by
  refine CT_of (by decide +kernel) (Nat.le_of_ble_eq_true rfl) ?_
  intro p e s m args below meth c X E hr hlk hnm
  have dk : ∀ {pc : Nat} {q : Instr × Nat}, lkd DX6_areAnswersSound pc = some q → decode cX6_areAnswersSound pc = .ok q := lkd_ok DX6_areAnswersSound_ok
  obtain ⟨S1, A2, sp3, os4, wd5, ow6, sa7, oa8, bs9, bc10, sh11, ss12, as13, gb14, gS15, gA16, sl17, sT18, al19, aT20, tsp21, tos22, twd23, tow24, tsa25, toa26, tbs27, tbc28, tsh29⟩ := id T0
  obtain ⟨hL31, q30, gb32, gl33⟩ := id T1
  obtain ⟨hL35, q34, gb36, gl37⟩ := id T2
  refine fst1_ok X (dk rfl) rfl ?_
  obtain ⟨dn39, rf40, hx38⟩ := bm_open (TI.rf I).1 gb14
  refine getf_ok X flX6_38 (dk rfl) hx38 rfl ?_
  obtain ⟨ar41, ts42, gb43, ga44, tl45, tt46⟩ := id tsa25
  refine callVR_ok (ci := 2) (T := TX0) (N := 1) (av := []) (r := []) X E (c0_isTooLong _ (TI.rf I).1 tsa25) lkX0_isTooLong mlX6_230 lmX0_isTooLong lpX0_isTooLong ⟨Nat.le_of_ble_eq_true rfl, Nat.le_of_ble_eq_true rfl⟩ ⟨Nat.le_of_ble_eq_true rfl, Nat.le_of_ble_eq_true rfl⟩ rfl (is_cell (TI.rf I).1 gb43) (Nat.le_of_ble_eq_true rfl) (dk rfl) ?_
  rintro _ ⟨b47, rfl⟩
  refine br_ok X (dk rfl) rfl (show ((7 : Nat) : Int) + 15 = ((22 : Nat) : Int) from rfl) (fun c48 => ?_) (fun c49 => ?_)
  · refine fst1_ok X (dk rfl) rfl ?_
    refine getf_ok X flX6_38 (dk rfl) hx38 rfl ?_
    refine callVR_ok (ci := 2) (T := TX0) (N := 1) (av := []) (r := []) X E (c0_isTooLong _ (TI.rf I).1 tsa25) lkX0_isTooLong mlX6_230 lmX0_isTooLong lpX0_isTooLong ⟨Nat.le_of_ble_eq_true rfl, Nat.le_of_ble_eq_true rfl⟩ ⟨Nat.le_of_ble_eq_true rfl, Nat.le_of_ble_eq_true rfl⟩ rfl (is_cell (TI.rf I).1 gb43) (Nat.le_of_ble_eq_true rfl) (dk rfl) ?_
    rintro _ ⟨b50, rfl⟩
    refine br_ok X (dk rfl) rfl (show ((29 : Nat) : Int) + 45 = ((74 : Nat) : Int) from rfl) (fun c51 => ?_) (fun c52 => ?_)
    · refine fst1_ok X (dk rfl) rfl ?_
      exact reti_ok X hr hlk (bI_n false) (dk rfl) ⟨⟨false, rfl⟩, (TI.rf I)⟩ (Nat.le_of_ble_eq_true rfl) (Nat.le_of_ble_eq_true rfl)
    · refine fst1_ok X (dk rfl) rfl ?_
      refine getf_ok X flX6_42 (dk rfl) hx38 rfl ?_
      obtain ⟨ar53, ts54, gb55, ga56, tl57, tt58⟩ := id toa26
      refine callVR_ok (ci := 2) (T := TX0) (N := 1) (av := []) (r := []) X E (c0_isTooLong _ (TI.rf I).1 toa26) lkX0_isTooLong mlX6_230 lmX0_isTooLong lpX0_isTooLong ⟨Nat.le_of_ble_eq_true rfl, Nat.le_of_ble_eq_true rfl⟩ ⟨Nat.le_of_ble_eq_true rfl, Nat.le_of_ble_eq_true rfl⟩ rfl (is_cell (TI.rf I).1 gb55) (Nat.le_of_ble_eq_true rfl) (dk rfl) ?_
      rintro _ ⟨b59, rfl⟩
      refine br_ok X (dk rfl) rfl (show ((39 : Nat) : Int) + 35 = ((74 : Nat) : Int) from rfl) (fun c60 => ?_) (fun c61 => ?_)
      · refine fst1_ok X (dk rfl) rfl ?_
        exact reti_ok X hr hlk (bI_n false) (dk rfl) ⟨⟨false, rfl⟩, (TI.rf I)⟩ (Nat.le_of_ble_eq_true rfl) (Nat.le_of_ble_eq_true rfl)
      · refine fst1_ok X (dk rfl) rfl ?_
        refine getf_ok X flX6_38 (dk rfl) hx38 rfl ?_
        refine fst1_ok X (dk rfl) rfl ?_
        refine getf_ok X flX6_42 (dk rfl) hx38 rfl ?_
        refine callVR_ok (ci := 2) (T := TX0) (N := 1) (av := [.ref _]) (r := []) X E (c0_firstUnlike _ (TI.rf I).1 tsa25 toa26) lkX0_firstUnlike mlX6_233 lmX0_firstUnlike lpX0_firstUnlike ⟨Nat.le_of_ble_eq_true rfl, Nat.le_of_ble_eq_true rfl⟩ ⟨Nat.le_of_ble_eq_true rfl, Nat.le_of_ble_eq_true rfl⟩ rfl (is_cell (TI.rf I).1 gb43) (Nat.le_of_ble_eq_true rfl) (dk rfl) ?_
        rintro _ ⟨x62, rfl⟩
        refine fst1_ok X (dk rfl) rfl ?_
        refine br_ok X (dk rfl) rfl (show ((54 : Nat) : Int) + 20 = ((74 : Nat) : Int) from rfl) (fun c63 => ?_) (fun c64 => ?_)
        · refine fst1_ok X (dk rfl) rfl ?_
          exact reti_ok X hr hlk (bI_n false) (dk rfl) ⟨⟨false, rfl⟩, (TI.rf I)⟩ (Nat.le_of_ble_eq_true rfl) (Nat.le_of_ble_eq_true rfl)
        · iterate 2 refine fst1_ok X (dk rfl) rfl ?_
          refine getf_ok X flX6_38 (dk rfl) hx38 rfl ?_
          iterate 2 refine fst1_ok X (dk rfl) rfl ?_
          refine callVW_ok (ci := 8) (T := TX6) (N := 14) (av := [.ref _, .ref _, .ref _]) (r := []) X E (TI.rf I) (c6_isMadeAlikeBy _ (TI.rf I).1 T0 tsa25 T1 T2) lkX6_isMadeAlikeBy mlX6_222 lmX6_isMadeAlikeBy lpX6_isMadeAlikeBy ⟨Nat.le_of_ble_eq_true rfl, Nat.le_of_ble_eq_true rfl⟩ ⟨Nat.le_of_ble_eq_true rfl, Nat.le_of_ble_eq_true rfl⟩ rfl (bm_cell (TI.rf I).1 gb14) (Nat.le_of_ble_eq_true rfl) (dk rfl) ?_
          rintro _ h66 ⟨b65, rfl⟩ J67
          refine br_ok X (dk rfl) rfl (show ((67 : Nat) : Int) + 7 = ((74 : Nat) : Int) from rfl) (fun c68 => ?_) (fun c69 => ?_)
          · refine fst1_ok X (dk rfl) rfl ?_
            exact reti_ok X hr hlk (bI_n false) (dk rfl) ⟨⟨false, rfl⟩, J67⟩ (Nat.le_of_ble_eq_true rfl) (Nat.le_of_ble_eq_true rfl)
          · refine fst1_ok X (dk rfl) rfl ?_
            refine br_ok X (dk rfl) rfl (show ((71 : Nat) : Int) + 4 = ((75 : Nat) : Int) from rfl) (fun _ => ?_) (fun q => absurd trivial q)
            exact reti_ok X hr hlk (bI_n true) (dk rfl) ⟨⟨true, rfl⟩, J67⟩ (Nat.le_of_ble_eq_true rfl) (Nat.le_of_ble_eq_true rfl)
  · refine fst1_ok X (dk rfl) rfl ?_
    refine getf_ok X flX6_42 (dk rfl) hx38 rfl ?_
    obtain ⟨ar70, ts71, gb72, ga73, tl74, tt75⟩ := id toa26
    refine callVR_ok (ci := 2) (T := TX0) (N := 1) (av := []) (r := []) X E (c0_isTooLong _ (TI.rf I).1 toa26) lkX0_isTooLong mlX6_230 lmX0_isTooLong lpX0_isTooLong ⟨Nat.le_of_ble_eq_true rfl, Nat.le_of_ble_eq_true rfl⟩ ⟨Nat.le_of_ble_eq_true rfl, Nat.le_of_ble_eq_true rfl⟩ rfl (is_cell (TI.rf I).1 gb72) (Nat.le_of_ble_eq_true rfl) (dk rfl) ?_
    rintro _ ⟨b76, rfl⟩
    refine br_ok X (dk rfl) rfl (show ((17 : Nat) : Int) + 5 = ((22 : Nat) : Int) from rfl) (fun c77 => ?_) (fun c78 => ?_)
    · refine fst1_ok X (dk rfl) rfl ?_
      refine getf_ok X flX6_38 (dk rfl) hx38 rfl ?_
      refine callVR_ok (ci := 2) (T := TX0) (N := 1) (av := []) (r := []) X E (c0_isTooLong _ (TI.rf I).1 tsa25) lkX0_isTooLong mlX6_230 lmX0_isTooLong lpX0_isTooLong ⟨Nat.le_of_ble_eq_true rfl, Nat.le_of_ble_eq_true rfl⟩ ⟨Nat.le_of_ble_eq_true rfl, Nat.le_of_ble_eq_true rfl⟩ rfl (is_cell (TI.rf I).1 gb43) (Nat.le_of_ble_eq_true rfl) (dk rfl) ?_
      rintro _ ⟨b79, rfl⟩
      refine br_ok X (dk rfl) rfl (show ((29 : Nat) : Int) + 45 = ((74 : Nat) : Int) from rfl) (fun c80 => ?_) (fun c81 => ?_)
      · refine fst1_ok X (dk rfl) rfl ?_
        exact reti_ok X hr hlk (bI_n false) (dk rfl) ⟨⟨false, rfl⟩, (TI.rf I)⟩ (Nat.le_of_ble_eq_true rfl) (Nat.le_of_ble_eq_true rfl)
      · refine fst1_ok X (dk rfl) rfl ?_
        refine getf_ok X flX6_42 (dk rfl) hx38 rfl ?_
        refine callVR_ok (ci := 2) (T := TX0) (N := 1) (av := []) (r := []) X E (c0_isTooLong _ (TI.rf I).1 toa26) lkX0_isTooLong mlX6_230 lmX0_isTooLong lpX0_isTooLong ⟨Nat.le_of_ble_eq_true rfl, Nat.le_of_ble_eq_true rfl⟩ ⟨Nat.le_of_ble_eq_true rfl, Nat.le_of_ble_eq_true rfl⟩ rfl (is_cell (TI.rf I).1 gb72) (Nat.le_of_ble_eq_true rfl) (dk rfl) ?_
        rintro _ ⟨b82, rfl⟩
        refine br_ok X (dk rfl) rfl (show ((39 : Nat) : Int) + 35 = ((74 : Nat) : Int) from rfl) (fun c83 => ?_) (fun c84 => ?_)
        · refine fst1_ok X (dk rfl) rfl ?_
          exact reti_ok X hr hlk (bI_n false) (dk rfl) ⟨⟨false, rfl⟩, (TI.rf I)⟩ (Nat.le_of_ble_eq_true rfl) (Nat.le_of_ble_eq_true rfl)
        · refine fst1_ok X (dk rfl) rfl ?_
          refine getf_ok X flX6_38 (dk rfl) hx38 rfl ?_
          refine fst1_ok X (dk rfl) rfl ?_
          refine getf_ok X flX6_42 (dk rfl) hx38 rfl ?_
          refine callVR_ok (ci := 2) (T := TX0) (N := 1) (av := [.ref _]) (r := []) X E (c0_firstUnlike _ (TI.rf I).1 tsa25 toa26) lkX0_firstUnlike mlX6_233 lmX0_firstUnlike lpX0_firstUnlike ⟨Nat.le_of_ble_eq_true rfl, Nat.le_of_ble_eq_true rfl⟩ ⟨Nat.le_of_ble_eq_true rfl, Nat.le_of_ble_eq_true rfl⟩ rfl (is_cell (TI.rf I).1 gb43) (Nat.le_of_ble_eq_true rfl) (dk rfl) ?_
          rintro _ ⟨x85, rfl⟩
          refine fst1_ok X (dk rfl) rfl ?_
          refine br_ok X (dk rfl) rfl (show ((54 : Nat) : Int) + 20 = ((74 : Nat) : Int) from rfl) (fun c86 => ?_) (fun c87 => ?_)
          · refine fst1_ok X (dk rfl) rfl ?_
            exact reti_ok X hr hlk (bI_n false) (dk rfl) ⟨⟨false, rfl⟩, (TI.rf I)⟩ (Nat.le_of_ble_eq_true rfl) (Nat.le_of_ble_eq_true rfl)
          · iterate 2 refine fst1_ok X (dk rfl) rfl ?_
            refine getf_ok X flX6_38 (dk rfl) hx38 rfl ?_
            iterate 2 refine fst1_ok X (dk rfl) rfl ?_
            refine callVW_ok (ci := 8) (T := TX6) (N := 14) (av := [.ref _, .ref _, .ref _]) (r := []) X E (TI.rf I) (c6_isMadeAlikeBy _ (TI.rf I).1 T0 tsa25 T1 T2) lkX6_isMadeAlikeBy mlX6_222 lmX6_isMadeAlikeBy lpX6_isMadeAlikeBy ⟨Nat.le_of_ble_eq_true rfl, Nat.le_of_ble_eq_true rfl⟩ ⟨Nat.le_of_ble_eq_true rfl, Nat.le_of_ble_eq_true rfl⟩ rfl (bm_cell (TI.rf I).1 gb14) (Nat.le_of_ble_eq_true rfl) (dk rfl) ?_
            rintro _ h89 ⟨b88, rfl⟩ J90
            refine br_ok X (dk rfl) rfl (show ((67 : Nat) : Int) + 7 = ((74 : Nat) : Int) from rfl) (fun c91 => ?_) (fun c92 => ?_)
            · refine fst1_ok X (dk rfl) rfl ?_
              exact reti_ok X hr hlk (bI_n false) (dk rfl) ⟨⟨false, rfl⟩, J90⟩ (Nat.le_of_ble_eq_true rfl) (Nat.le_of_ble_eq_true rfl)
            · refine fst1_ok X (dk rfl) rfl ?_
              refine br_ok X (dk rfl) rfl (show ((71 : Nat) : Int) + 4 = ((75 : Nat) : Int) from rfl) (fun _ => ?_) (fun q => absurd trivial q)
              exact reti_ok X hr hlk (bI_n true) (dk rfl) ⟨⟨true, rfl⟩, J90⟩ (Nat.le_of_ble_eq_true rfl) (Nat.le_of_ble_eq_true rfl)
    · refine fst1_ok X (dk rfl) rfl ?_
      exact reti_ok X hr hlk (bI_n true) (dk rfl) ⟨⟨true, rfl⟩, (TI.rf I)⟩ (Nat.le_of_ble_eq_true rfl) (Nat.le_of_ble_eq_true rfl)
set_option maxHeartbeats 4000000 in
theorem FZ.c6_isCommonSound (h : AH) (I : Tyg Γ h) {o0 : Nat} {kn : Int32} (T0 : BmT Γ o0 kn) {o1 : Nat} {w1 : Bool} (T1 : TermG w1 Γ o1 16) {o2 : Nat} {w2 : Bool} (T2 : TermG w2 Γ o2 16) : CT la D cA B0 pa yX6_isCommonSound cX6_isCommonSound 3 (some .boolean) (rmD 4 0 0) [.ref o0, .ref o1, .ref o2] h (WrO Γ bP h) := by
  refine CT_of (by decide +kernel) (Nat.le_of_ble_eq_true rfl) ?_
  intro p e s m args below meth c X E hr hlk hnm
  have dk : ∀ {pc : Nat} {q : Instr × Nat}, lkd DX6_isCommonSound pc = some q → decode cX6_isCommonSound pc = .ok q := lkd_ok DX6_isCommonSound_ok
  obtain ⟨S1, A2, sp3, os4, wd5, ow6, sa7, oa8, bs9, bc10, sh11, ss12, as13, gb14, gS15, gA16, sl17, sT18, al19, aT20, tsp21, tos22, twd23, tow24, tsa25, toa26, tbs27, tbc28, tsh29⟩ := id T0
  obtain ⟨hL31, q30, gb32, gl33⟩ := id T1
  obtain ⟨hL35, q34, gb36, gl37⟩ := id T2
  refine fst1_ok X (dk rfl) rfl ?_
  obtain ⟨dn39, rf40, hx38⟩ := bm_open (TI.rf I).1 gb14
  refine getf_ok X flX6_62 (dk rfl) hx38 rfl ?_
  iterate 3 refine fst1_ok X (dk rfl) rfl ?_
  refine getf_ok X flX6_24 (dk rfl) hx38 rfl ?_
  obtain ⟨pr41, gb42, tp43⟩ := id tsh29
  refine callVW_ok (ci := 5) (T := TX3) (N := 1) (av := [.ref _, .ref _, .ref _]) (r := []) X E (TI.rf I) (c3_drawInto _ (TI.rf I).1 tsh29 T1 T2 tsp21) lkX3_drawInto mlX6_159 lmX3_drawInto lpX3_drawInto ⟨Nat.le_of_ble_eq_true rfl, Nat.le_of_ble_eq_true rfl⟩ ⟨Nat.le_of_ble_eq_true rfl, Nat.le_of_ble_eq_true rfl⟩ rfl (is_cell (TI.rf I).1 gb42) (Nat.le_of_ble_eq_true rfl) (dk rfl) ?_
  rintro _ h45 ⟨b44, rfl⟩ J46
  refine br_ok X (dk rfl) rfl (show ((13 : Nat) : Int) + 33 = ((46 : Nat) : Int) from rfl) (fun c47 => ?_) (fun c48 => ?_)
  · refine fst1_ok X (dk rfl) rfl ?_
    refine br_ok X (dk rfl) rfl (show ((47 : Nat) : Int) + 4 = ((51 : Nat) : Int) from rfl) (fun _ => ?_) (fun q => absurd trivial q)
    exact reti_ok X hr hlk (bI_n true) (dk rfl) ⟨⟨true, rfl⟩, J46⟩ (Nat.le_of_ble_eq_true rfl) (Nat.le_of_ble_eq_true rfl)
  · refine fst1_ok X (dk rfl) rfl ?_
    obtain ⟨dn50, rf51, hx49⟩ := bm_open J46.1 gb14
    refine getf_ok X flX6_38 (dk rfl) hx49 rfl ?_
    refine fst1_ok X (dk rfl) rfl ?_
    refine getf_ok X flX6_24 (dk rfl) hx49 rfl ?_
    refine fst1_ok X (dk rfl) rfl ?_
    obtain ⟨ar52, ts53, gb54, ga55, tl56, tt57⟩ := id tsa25
    refine callVW_ok (ci := 2) (T := TX0) (N := 1) (av := [.ref _, .ref _]) (r := []) X E J46 (c0_becomeMatch _ J46.1 tsa25 tsp21 T1) lkX0_becomeMatch mlX6_194 lmX0_becomeMatch lpX0_becomeMatch ⟨Nat.le_of_ble_eq_true rfl, Nat.le_of_ble_eq_true rfl⟩ ⟨Nat.le_of_ble_eq_true rfl, Nat.le_of_ble_eq_true rfl⟩ rfl (is_cell J46.1 gb54) (Nat.le_of_ble_eq_true rfl) (dk rfl) ?_
    rintro _ h59 ⟨b58, rfl⟩ J60
    refine br_ok X (dk rfl) rfl (show ((28 : Nat) : Int) + 22 = ((50 : Nat) : Int) from rfl) (fun c61 => ?_) (fun c62 => ?_)
    · refine fst1_ok X (dk rfl) rfl ?_
      exact reti_ok X hr hlk (bI_n false) (dk rfl) ⟨⟨false, rfl⟩, J60⟩ (Nat.le_of_ble_eq_true rfl) (Nat.le_of_ble_eq_true rfl)
    · refine fst1_ok X (dk rfl) rfl ?_
      obtain ⟨dn64, rf65, hx63⟩ := bm_open J60.1 gb14
      refine getf_ok X flX6_38 (dk rfl) hx63 rfl ?_
      refine fst1_ok X (dk rfl) rfl ?_
      refine getf_ok X flX6_24 (dk rfl) hx63 rfl ?_
      refine fst1_ok X (dk rfl) rfl ?_
      refine callVW_ok (ci := 2) (T := TX0) (N := 1) (av := [.ref _, .ref _]) (r := []) X E J60 (c0_becomeMatch _ J60.1 tsa25 tsp21 T2) lkX0_becomeMatch mlX6_194 lmX0_becomeMatch lpX0_becomeMatch ⟨Nat.le_of_ble_eq_true rfl, Nat.le_of_ble_eq_true rfl⟩ ⟨Nat.le_of_ble_eq_true rfl, Nat.le_of_ble_eq_true rfl⟩ rfl (is_cell J60.1 gb54) (Nat.le_of_ble_eq_true rfl) (dk rfl) ?_
      rintro _ h67 ⟨b66, rfl⟩ J68
      refine br_ok X (dk rfl) rfl (show ((43 : Nat) : Int) + 7 = ((50 : Nat) : Int) from rfl) (fun c69 => ?_) (fun c70 => ?_)
      · refine fst1_ok X (dk rfl) rfl ?_
        exact reti_ok X hr hlk (bI_n false) (dk rfl) ⟨⟨false, rfl⟩, J68⟩ (Nat.le_of_ble_eq_true rfl) (Nat.le_of_ble_eq_true rfl)
      · refine fst1_ok X (dk rfl) rfl ?_
        refine br_ok X (dk rfl) rfl (show ((47 : Nat) : Int) + 4 = ((51 : Nat) : Int) from rfl) (fun _ => ?_) (fun q => absurd trivial q)
        exact reti_ok X hr hlk (bI_n true) (dk rfl) ⟨⟨true, rfl⟩, J68⟩ (Nat.le_of_ble_eq_true rfl) (Nat.le_of_ble_eq_true rfl)
set_option maxHeartbeats 4000000 in
theorem FZ.c6_isPlainSound (h : AH) (I : Tyg Γ h) {o0 : Nat} {kn : Int32} (T0 : BmT Γ o0 kn) {o1 : Nat} {w1 : Bool} (T1 : TermG w1 Γ o1 16) : CT la D cA B0 pa yX6_isPlainSound cX6_isPlainSound 2 (some .boolean) (rmD 4 0 0) [.ref o0, .ref o1] h (WrO Γ bP h) := by
  refine CT_of (by decide +kernel) (Nat.le_of_ble_eq_true rfl) ?_
  intro p e s m args below meth c X E hr hlk hnm
  have dk : ∀ {pc : Nat} {q : Instr × Nat}, lkd DX6_isPlainSound pc = some q → decode cX6_isPlainSound pc = .ok q := lkd_ok DX6_isPlainSound_ok
  obtain ⟨S1, A2, sp3, os4, wd5, ow6, sa7, oa8, bs9, bc10, sh11, ss12, as13, gb14, gS15, gA16, sl17, sT18, al19, aT20, tsp21, tos22, twd23, tow24, tsa25, toa26, tbs27, tbc28, tsh29⟩ := id T0
  obtain ⟨hL31, q30, gb32, gl33⟩ := id T1
  refine fst1_ok X (dk rfl) rfl ?_
  obtain ⟨dn35, rf36, hx34⟩ := bm_open (TI.rf I).1 gb14
  refine getf_ok X flX6_24 (dk rfl) hx34 rfl ?_
  refine fst1_ok X (dk rfl) rfl ?_
  obtain ⟨hL38, q37, gb39, gl40⟩ := id tsp21
  refine callVW_ok (ci := 7) (T := TX5) (N := 3) (av := [.ref _]) (r := []) X E (TI.rf I) (c5_becomePlainOf _ (TI.rf I).1 tsp21 T1) lkX5_becomePlainOf mlX6_148 lmX5_becomePlainOf lpX5_becomePlainOf ⟨Nat.le_of_ble_eq_true rfl, Nat.le_of_ble_eq_true rfl⟩ ⟨Nat.le_of_ble_eq_true rfl, Nat.le_of_ble_eq_true rfl⟩ rfl (tm_cell (TI.rf I).1 gb39) (Nat.le_of_ble_eq_true rfl) (dk rfl) ?_
  rintro _ h41 rfl J42
  refine fst1_ok X (dk rfl) rfl ?_
  obtain ⟨dn44, rf45, hx43⟩ := bm_open J42.1 gb14
  refine getf_ok X flX6_38 (dk rfl) hx43 rfl ?_
  iterate 2 refine fst1_ok X (dk rfl) rfl ?_
  refine getf_ok X flX6_24 (dk rfl) hx43 rfl ?_
  obtain ⟨ar46, ts47, gb48, ga49, tl50, tt51⟩ := id tsa25
  refine callVW_ok (ci := 2) (T := TX0) (N := 1) (av := [.ref _, .ref _]) (r := []) X E J42 (c0_becomeMatch _ J42.1 tsa25 T1 tsp21) lkX0_becomeMatch mlX6_194 lmX0_becomeMatch lpX0_becomeMatch ⟨Nat.le_of_ble_eq_true rfl, Nat.le_of_ble_eq_true rfl⟩ ⟨Nat.le_of_ble_eq_true rfl, Nat.le_of_ble_eq_true rfl⟩ rfl (is_cell J42.1 gb48) (Nat.le_of_ble_eq_true rfl) (dk rfl) ?_
  rintro _ h53 ⟨b52, rfl⟩ J54
  refine br_ok X (dk rfl) rfl (show ((20 : Nat) : Int) + 22 = ((42 : Nat) : Int) from rfl) (fun c55 => ?_) (fun c56 => ?_)
  · refine fst1_ok X (dk rfl) rfl ?_
    exact reti_ok X hr hlk (bI_n false) (dk rfl) ⟨⟨false, rfl⟩, J54⟩ (Nat.le_of_ble_eq_true rfl) (Nat.le_of_ble_eq_true rfl)
  · refine fst1_ok X (dk rfl) rfl ?_
    obtain ⟨dn58, rf59, hx57⟩ := bm_open J54.1 gb14
    refine getf_ok X flX6_38 (dk rfl) hx57 rfl ?_
    refine fst1_ok X (dk rfl) rfl ?_
    refine getf_ok X flX6_24 (dk rfl) hx57 rfl ?_
    refine fst1_ok X (dk rfl) rfl ?_
    refine callVW_ok (ci := 2) (T := TX0) (N := 1) (av := [.ref _, .ref _]) (r := []) X E J54 (c0_becomeMatch _ J54.1 tsa25 tsp21 T1) lkX0_becomeMatch mlX6_194 lmX0_becomeMatch lpX0_becomeMatch ⟨Nat.le_of_ble_eq_true rfl, Nat.le_of_ble_eq_true rfl⟩ ⟨Nat.le_of_ble_eq_true rfl, Nat.le_of_ble_eq_true rfl⟩ rfl (is_cell J54.1 gb48) (Nat.le_of_ble_eq_true rfl) (dk rfl) ?_
    rintro _ h61 ⟨b60, rfl⟩ J62
    refine br_ok X (dk rfl) rfl (show ((35 : Nat) : Int) + 7 = ((42 : Nat) : Int) from rfl) (fun c63 => ?_) (fun c64 => ?_)
    · refine fst1_ok X (dk rfl) rfl ?_
      exact reti_ok X hr hlk (bI_n false) (dk rfl) ⟨⟨false, rfl⟩, J62⟩ (Nat.le_of_ble_eq_true rfl) (Nat.le_of_ble_eq_true rfl)
    · refine fst1_ok X (dk rfl) rfl ?_
      refine br_ok X (dk rfl) rfl (show ((39 : Nat) : Int) + 4 = ((43 : Nat) : Int) from rfl) (fun _ => ?_) (fun q => absurd trivial q)
      exact reti_ok X hr hlk (bI_n true) (dk rfl) ⟨⟨true, rfl⟩, J62⟩ (Nat.le_of_ble_eq_true rfl) (Nat.le_of_ble_eq_true rfl)
set_option maxHeartbeats 4000000 in
theorem FZ.c6_areSizesSound (h : AH) (I : Tyg Γ h) {o0 : Nat} {kn : Int32} (T0 : BmT Γ o0 kn) : CT la D cA B0 pa yX6_areSizesSound cX6_areSizesSound 5 (some .boolean) (rmD 4 0 0) [.ref o0] h (RdO bP h) := by
  refine CT_of (by decide +kernel) (Nat.le_of_ble_eq_true rfl) ?_
  intro p e s m args below meth c X E hr hlk hnm
  have dk : ∀ {pc : Nat} {q : Instr × Nat}, lkd DX6_areSizesSound pc = some q → decode cX6_areSizesSound pc = .ok q := lkd_ok DX6_areSizesSound_ok
  obtain ⟨S1, A2, sp3, os4, wd5, ow6, sa7, oa8, bs9, bc10, sh11, ss12, as13, gb14, gS15, gA16, sl17, sT18, al19, aT20, tsp21, tos22, twd23, tow24, tsa25, toa26, tbs27, tbc28, tsh29⟩ := id T0
  have L10 : ∀ j30 : Nat, j30 ≤ 6 → ∀ (l : List (Nat × Value)), lsel l [3, 2, 1] = [(3, vI j30), (2, vI 6), (1, .ref S1)] → WR p la e (rmD 4 0 0) s m args below meth c D cA B0 5 (RdO bP h) 10 l [] h 0 0 := by
    refine loopN (fun j30 hj30 ih10 => ?_)
    intro l hl
    refine WS.sel [3, 2, 1] hl ?_
    iterate 2 refine fst1_ok X (dk rfl) rfl ?_
    refine br_ok X (dk rfl) rfl (show ((12 : Nat) : Int) + 39 = ((51 : Nat) : Int) from rfl) (fun c33 => ?_) (fun c34 => ?_)
    · refine fst1_ok X (dk rfl) rfl ?_
      exact reti_ok X hr hlk (bI_n true) (dk rfl) ⟨⟨true, rfl⟩, rfl⟩ (Nat.le_of_ble_eq_true rfl) (Nat.le_of_ble_eq_true rfl)
    · iterate 2 refine fst1_ok X (dk rfl) rfl ?_
      have hx35 := is_open (TI.rf I).1 gS15
      refine aldx_ok X (by decide) (by decide) (dk rfl) hx35 sl17 sT18 ⟨_, (nat_lt (K := 6) (by omega) c34), rfl⟩ (fun b36 tb37 => ?_)
      iterate 2 refine fst1_ok X (dk rfl) rfl ?_
      obtain ⟨hL39, q38, gb40, gl41⟩ := id tb37
      refine callVR_ok (ci := 7) (T := TX5) (N := 3) (av := []) (r := []) X E (c5_length _ (TI.rf I).1 tb37) lkX5_length mlX6_76 lmX5_length lpX5_length ⟨Nat.le_of_ble_eq_true rfl, Nat.le_of_ble_eq_true rfl⟩ ⟨Nat.le_of_ble_eq_true rfl, Nat.le_of_ble_eq_true rfl⟩ rfl (tm_cell (TI.rf I).1 gb40) (Nat.le_of_ble_eq_true rfl) (dk rfl) ?_
      rintro _ ⟨n42, hn43, rfl⟩
      refine fst1_ok X (dk rfl) rfl ?_
      refine br_ok X (dk rfl) rfl (show ((27 : Nat) : Int) + 16 = ((43 : Nat) : Int) from rfl) (fun c44 => ?_) (fun c45 => ?_)
      · refine fst1_ok X (dk rfl) rfl ?_
        exact reti_ok X hr hlk (bI_n false) (dk rfl) ⟨⟨false, rfl⟩, rfl⟩ (Nat.le_of_ble_eq_true rfl) (Nat.le_of_ble_eq_true rfl)
      · refine fst1_ok X (dk rfl) rfl ?_
        refine callVR_ok (ci := 7) (T := TX5) (N := 3) (av := []) (r := []) X E (c5_unlikePlaces _ (TI.rf I).1 tb37) lkX5_unlikePlaces mlX6_204 lmX5_unlikePlaces lpX5_unlikePlaces ⟨Nat.le_of_ble_eq_true rfl, Nat.le_of_ble_eq_true rfl⟩ ⟨Nat.le_of_ble_eq_true rfl, Nat.le_of_ble_eq_true rfl⟩ rfl (tm_cell (TI.rf I).1 gb40) (Nat.le_of_ble_eq_true rfl) (dk rfl) ?_
        rintro _ ⟨x46, rfl⟩
        refine fst1_ok X (dk rfl) rfl ?_
        refine callVR_ok (ci := 7) (T := TX5) (N := 3) (av := []) (r := [_]) X E (c5_length _ (TI.rf I).1 tb37) lkX5_length mlX6_76 lmX5_length lpX5_length ⟨Nat.le_of_ble_eq_true rfl, Nat.le_of_ble_eq_true rfl⟩ ⟨Nat.le_of_ble_eq_true rfl, Nat.le_of_ble_eq_true rfl⟩ rfl (tm_cell (TI.rf I).1 gb40) (Nat.le_of_ble_eq_true rfl) (dk rfl) ?_
        rintro _ ⟨n47, hn48, rfl⟩
        refine br_ok X (dk rfl) rfl (show ((40 : Nat) : Int) + 5 = ((45 : Nat) : Int) from rfl) (fun c49 => ?_) (fun c50 => ?_)
        · refine fst1_ok X (dk rfl) rfl ?_
          refine br_ok X (dk rfl) rfl (show ((48 : Nat) : Int) + (-38) = ((10 : Nat) : Int) from rfl) (fun _ => ?_) (fun q => absurd trivial q)
          exact ih10 (nat_lt (K := 6) (by omega) c34) _ (by rw [← vI_succ j30]; rfl)
        · refine fst1_ok X (dk rfl) rfl ?_
          exact reti_ok X hr hlk (bI_n false) (dk rfl) ⟨⟨false, rfl⟩, rfl⟩ (Nat.le_of_ble_eq_true rfl) (Nat.le_of_ble_eq_true rfl)
  refine fst1_ok X (dk rfl) rfl ?_
  obtain ⟨dn52, rf53, hx51⟩ := bm_open (TI.rf I).1 gb14
  refine getf_ok X flX6_11 (dk rfl) hx51 rfl ?_
  iterate 2 refine fst1_ok X (dk rfl) rfl ?_
  have hx54 := is_open (TI.rf I).1 gS15
  refine alenr_ok X (by decide) (dk rfl) hx54 sl17 ?_
  iterate 3 refine fst1_ok X (dk rfl) rfl ?_
  exact L10 0 (by omega) _ rfl
set_option maxHeartbeats 4000000 in
theorem FZ.c6_isSound (h : AH) (I : Tyg Γ h) {o0 : Nat} {kn : Int32} (T0 : BmT Γ o0 kn) : CT la D cA B0 pa yX6_isSound cX6_isSound 5 (some .boolean) (rmD 5 0 0) [.ref o0] h (WrO Γ bP h) := by
  refine CT_of (by decide +kernel) (Nat.le_of_ble_eq_true rfl) ?_
  intro p e s m args below meth c X E hr hlk hnm
  have dk : ∀ {pc : Nat} {q : Instr × Nat}, lkd DX6_isSound pc = some q → decode cX6_isSound pc = .ok q := lkd_ok DX6_isSound_ok
  obtain ⟨S1, A2, sp3, os4, wd5, ow6, sa7, oa8, bs9, bc10, sh11, ss12, as13, gb14, gS15, gA16, sl17, sT18, al19, aT20, tsp21, tos22, twd23, tow24, tsa25, toa26, tbs27, tbc28, tsh29⟩ := id T0
  refine fst1_ok X (dk rfl) rfl ?_
  obtain ⟨dn31, rf32, hx30⟩ := bm_open (TI.rf I).1 gb14
  refine getf_ok X flX6_11 (dk rfl) hx30 rfl ?_
  refine fst1_ok X (dk rfl) rfl ?_
  have hx33 := is_open (TI.rf I).1 gS15
  refine aldx_ok X (by decide) (by decide) (dk rfl) hx33 sl17 sT18 ⟨0, by decide, by decide +kernel⟩ (fun b34 tb35 => ?_)
  iterate 2 refine fst1_ok X (dk rfl) rfl ?_
  refine getf_ok X flX6_11 (dk rfl) hx30 rfl ?_
  refine fst1_ok X (dk rfl) rfl ?_
  refine aldx_ok X (by decide) (by decide) (dk rfl) hx33 sl17 sT18 ⟨1, by decide, by decide +kernel⟩ (fun b36 tb37 => ?_)
  iterate 2 refine fst1_ok X (dk rfl) rfl ?_
  refine getf_ok X flX6_48 (dk rfl) hx30 rfl ?_
  iterate 2 refine fst1_ok X (dk rfl) rfl ?_
  obtain ⟨bo38, st39, pr40, gb41, tb42, gs43, tp44⟩ := id tbs27
  refine callVW_ok (ci := 6) (T := TX4) (N := 5) (av := [.ref _, .ref _]) (r := []) X E (TI.rf I) (c4_makeAlike _ (TI.rf I).1 tbs27 tb35 tb37) lkX4_makeAlike mlX6_185 lmX4_makeAlike lpX4_makeAlike ⟨Nat.le_of_ble_eq_true rfl, Nat.le_of_ble_eq_true rfl⟩ ⟨Nat.le_of_ble_eq_true rfl, Nat.le_of_ble_eq_true rfl⟩ rfl (st_cell (TI.rf I).1 gb41) (Nat.le_of_ble_eq_true rfl) (dk rfl) ?_
  rintro _ h46 ⟨b45, rfl⟩ J47
  iterate 2 refine fst1_ok X (dk rfl) rfl ?_
  obtain ⟨dn49, rf50, hx48⟩ := bm_open J47.1 gb14
  refine getf_ok X flX6_55 (dk rfl) hx48 rfl ?_
  iterate 2 refine fst1_ok X (dk rfl) rfl ?_
  obtain ⟨bo51, co52, ho53, st54, pr55, gb56, tb57, gc58, gh59, gs60, tp61⟩ := id tbc28
  refine callVW_ok (ci := 3) (T := TX1) (N := 5) (av := [.ref _, .ref _]) (r := []) X E J47 (c1_makeAlike _ J47.1 tbc28 tb35 tb37) lkX1_makeAlike mlX6_189 lmX1_makeAlike lpX1_makeAlike ⟨Nat.le_of_ble_eq_true rfl, Nat.le_of_ble_eq_true rfl⟩ ⟨Nat.le_of_ble_eq_true rfl, Nat.le_of_ble_eq_true rfl⟩ rfl (is_cell J47.1 gb56) (Nat.le_of_ble_eq_true rfl) (dk rfl) ?_
  rintro _ h63 ⟨b62, rfl⟩ J64
  iterate 2 refine fst1_ok X (dk rfl) rfl ?_
  refine br_ok X (dk rfl) rfl (show ((36 : Nat) : Int) + 30 = ((66 : Nat) : Int) from rfl) (fun c65 => ?_) (fun c66 => ?_)
  · iterate 2 refine fst1_ok X (dk rfl) rfl ?_
    refine br_ok X (dk rfl) rfl (show ((69 : Nat) : Int) + 44 = ((113 : Nat) : Int) from rfl) (fun c67 => ?_) (fun c68 => ?_)
    · refine fst1_ok X (dk rfl) rfl ?_
      exact reti_ok X hr hlk (bI_n false) (dk rfl) ⟨⟨false, rfl⟩, J64⟩ (Nat.le_of_ble_eq_true rfl) (Nat.le_of_ble_eq_true rfl)
    · refine fst1_ok X (dk rfl) rfl ?_
      refine br_ok X (dk rfl) rfl (show ((73 : Nat) : Int) + 12 = ((85 : Nat) : Int) from rfl) (fun c69 => ?_) (fun c70 => ?_)
      · iterate 3 refine fst1_ok X (dk rfl) rfl ?_
        refine callVW_ok (ci := 8) (T := TX6) (N := 14) (av := [.ref _, .ref _]) (r := []) X E J64 (c6_isCommonSound _ J64.1 T0 tb35 tb37) lkX6_isCommonSound mlX6_260 lmX6_isCommonSound lpX6_isCommonSound ⟨Nat.le_of_ble_eq_true rfl, Nat.le_of_ble_eq_true rfl⟩ ⟨Nat.le_of_ble_eq_true rfl, Nat.le_of_ble_eq_true rfl⟩ rfl (bm_cell J64.1 gb14) (Nat.le_of_ble_eq_true rfl) (dk rfl) ?_
        rintro _ h72 ⟨b71, rfl⟩ J73
        refine br_ok X (dk rfl) rfl (show ((91 : Nat) : Int) + 22 = ((113 : Nat) : Int) from rfl) (fun c74 => ?_) (fun c75 => ?_)
        · refine fst1_ok X (dk rfl) rfl ?_
          exact reti_ok X hr hlk (bI_n false) (dk rfl) ⟨⟨false, rfl⟩, J73⟩ (Nat.le_of_ble_eq_true rfl) (Nat.le_of_ble_eq_true rfl)
        · iterate 2 refine fst1_ok X (dk rfl) rfl ?_
          refine callVW_ok (ci := 8) (T := TX6) (N := 14) (av := [.ref _]) (r := []) X E J73 (c6_isPlainSound _ J73.1 T0 tb35) lkX6_isPlainSound mlX6_263 lmX6_isPlainSound lpX6_isPlainSound ⟨Nat.le_of_ble_eq_true rfl, Nat.le_of_ble_eq_true rfl⟩ ⟨Nat.le_of_ble_eq_true rfl, Nat.le_of_ble_eq_true rfl⟩ rfl (bm_cell J73.1 gb14) (Nat.le_of_ble_eq_true rfl) (dk rfl) ?_
          rintro _ h77 ⟨b76, rfl⟩ J78
          refine br_ok X (dk rfl) rfl (show ((99 : Nat) : Int) + 14 = ((113 : Nat) : Int) from rfl) (fun c79 => ?_) (fun c80 => ?_)
          · refine fst1_ok X (dk rfl) rfl ?_
            exact reti_ok X hr hlk (bI_n false) (dk rfl) ⟨⟨false, rfl⟩, J78⟩ (Nat.le_of_ble_eq_true rfl) (Nat.le_of_ble_eq_true rfl)
          · refine fst1_ok X (dk rfl) rfl ?_
            refine callVR_ok (ci := 8) (T := TX6) (N := 14) (av := []) (r := []) X E (c6_areSizesSound _ J78.1 T0) lkX6_areSizesSound mlX6_266 lmX6_areSizesSound lpX6_areSizesSound ⟨Nat.le_of_ble_eq_true rfl, Nat.le_of_ble_eq_true rfl⟩ ⟨Nat.le_of_ble_eq_true rfl, Nat.le_of_ble_eq_true rfl⟩ rfl (bm_cell J78.1 gb14) (Nat.le_of_ble_eq_true rfl) (dk rfl) ?_
            rintro _ ⟨b81, rfl⟩
            refine br_ok X (dk rfl) rfl (show ((106 : Nat) : Int) + 7 = ((113 : Nat) : Int) from rfl) (fun c82 => ?_) (fun c83 => ?_)
            · refine fst1_ok X (dk rfl) rfl ?_
              exact reti_ok X hr hlk (bI_n false) (dk rfl) ⟨⟨false, rfl⟩, J78⟩ (Nat.le_of_ble_eq_true rfl) (Nat.le_of_ble_eq_true rfl)
            · refine fst1_ok X (dk rfl) rfl ?_
              refine br_ok X (dk rfl) rfl (show ((110 : Nat) : Int) + 4 = ((114 : Nat) : Int) from rfl) (fun _ => ?_) (fun q => absurd trivial q)
              exact reti_ok X hr hlk (bI_n true) (dk rfl) ⟨⟨true, rfl⟩, J78⟩ (Nat.le_of_ble_eq_true rfl) (Nat.le_of_ble_eq_true rfl)
      · iterate 3 refine fst1_ok X (dk rfl) rfl ?_
        refine callVW_ok (ci := 8) (T := TX6) (N := 14) (av := [.ref _, .ref _]) (r := []) X E J64 (c6_areAnswersSound _ J64.1 T0 tb35 tb37) lkX6_areAnswersSound mlX6_257 lmX6_areAnswersSound lpX6_areAnswersSound ⟨Nat.le_of_ble_eq_true rfl, Nat.le_of_ble_eq_true rfl⟩ ⟨Nat.le_of_ble_eq_true rfl, Nat.le_of_ble_eq_true rfl⟩ rfl (bm_cell J64.1 gb14) (Nat.le_of_ble_eq_true rfl) (dk rfl) ?_
        rintro _ h85 ⟨b84, rfl⟩ J86
        refine br_ok X (dk rfl) rfl (show ((82 : Nat) : Int) + 31 = ((113 : Nat) : Int) from rfl) (fun c87 => ?_) (fun c88 => ?_)
        · refine fst1_ok X (dk rfl) rfl ?_
          exact reti_ok X hr hlk (bI_n false) (dk rfl) ⟨⟨false, rfl⟩, J86⟩ (Nat.le_of_ble_eq_true rfl) (Nat.le_of_ble_eq_true rfl)
        · iterate 3 refine fst1_ok X (dk rfl) rfl ?_
          refine callVW_ok (ci := 8) (T := TX6) (N := 14) (av := [.ref _, .ref _]) (r := []) X E J86 (c6_isCommonSound _ J86.1 T0 tb35 tb37) lkX6_isCommonSound mlX6_260 lmX6_isCommonSound lpX6_isCommonSound ⟨Nat.le_of_ble_eq_true rfl, Nat.le_of_ble_eq_true rfl⟩ ⟨Nat.le_of_ble_eq_true rfl, Nat.le_of_ble_eq_true rfl⟩ rfl (bm_cell J86.1 gb14) (Nat.le_of_ble_eq_true rfl) (dk rfl) ?_
          rintro _ h90 ⟨b89, rfl⟩ J91
          refine br_ok X (dk rfl) rfl (show ((91 : Nat) : Int) + 22 = ((113 : Nat) : Int) from rfl) (fun c92 => ?_) (fun c93 => ?_)
          · refine fst1_ok X (dk rfl) rfl ?_
            exact reti_ok X hr hlk (bI_n false) (dk rfl) ⟨⟨false, rfl⟩, J91⟩ (Nat.le_of_ble_eq_true rfl) (Nat.le_of_ble_eq_true rfl)
          · iterate 2 refine fst1_ok X (dk rfl) rfl ?_
            refine callVW_ok (ci := 8) (T := TX6) (N := 14) (av := [.ref _]) (r := []) X E J91 (c6_isPlainSound _ J91.1 T0 tb35) lkX6_isPlainSound mlX6_263 lmX6_isPlainSound lpX6_isPlainSound ⟨Nat.le_of_ble_eq_true rfl, Nat.le_of_ble_eq_true rfl⟩ ⟨Nat.le_of_ble_eq_true rfl, Nat.le_of_ble_eq_true rfl⟩ rfl (bm_cell J91.1 gb14) (Nat.le_of_ble_eq_true rfl) (dk rfl) ?_
            rintro _ h95 ⟨b94, rfl⟩ J96
            refine br_ok X (dk rfl) rfl (show ((99 : Nat) : Int) + 14 = ((113 : Nat) : Int) from rfl) (fun c97 => ?_) (fun c98 => ?_)
            · refine fst1_ok X (dk rfl) rfl ?_
              exact reti_ok X hr hlk (bI_n false) (dk rfl) ⟨⟨false, rfl⟩, J96⟩ (Nat.le_of_ble_eq_true rfl) (Nat.le_of_ble_eq_true rfl)
            · refine fst1_ok X (dk rfl) rfl ?_
              refine callVR_ok (ci := 8) (T := TX6) (N := 14) (av := []) (r := []) X E (c6_areSizesSound _ J96.1 T0) lkX6_areSizesSound mlX6_266 lmX6_areSizesSound lpX6_areSizesSound ⟨Nat.le_of_ble_eq_true rfl, Nat.le_of_ble_eq_true rfl⟩ ⟨Nat.le_of_ble_eq_true rfl, Nat.le_of_ble_eq_true rfl⟩ rfl (bm_cell J96.1 gb14) (Nat.le_of_ble_eq_true rfl) (dk rfl) ?_
              rintro _ ⟨b99, rfl⟩
              refine br_ok X (dk rfl) rfl (show ((106 : Nat) : Int) + 7 = ((113 : Nat) : Int) from rfl) (fun c100 => ?_) (fun c101 => ?_)
              · refine fst1_ok X (dk rfl) rfl ?_
                exact reti_ok X hr hlk (bI_n false) (dk rfl) ⟨⟨false, rfl⟩, J96⟩ (Nat.le_of_ble_eq_true rfl) (Nat.le_of_ble_eq_true rfl)
              · refine fst1_ok X (dk rfl) rfl ?_
                refine br_ok X (dk rfl) rfl (show ((110 : Nat) : Int) + 4 = ((114 : Nat) : Int) from rfl) (fun _ => ?_) (fun q => absurd trivial q)
                exact reti_ok X hr hlk (bI_n true) (dk rfl) ⟨⟨true, rfl⟩, J96⟩ (Nat.le_of_ble_eq_true rfl) (Nat.le_of_ble_eq_true rfl)
  · refine fst1_ok X (dk rfl) rfl ?_
    refine br_ok X (dk rfl) rfl (show ((41 : Nat) : Int) + 25 = ((66 : Nat) : Int) from rfl) (fun c102 => ?_) (fun c103 => ?_)
    · iterate 2 refine fst1_ok X (dk rfl) rfl ?_
      refine br_ok X (dk rfl) rfl (show ((69 : Nat) : Int) + 44 = ((113 : Nat) : Int) from rfl) (fun c104 => ?_) (fun c105 => ?_)
      · refine fst1_ok X (dk rfl) rfl ?_
        exact reti_ok X hr hlk (bI_n false) (dk rfl) ⟨⟨false, rfl⟩, J64⟩ (Nat.le_of_ble_eq_true rfl) (Nat.le_of_ble_eq_true rfl)
      · refine fst1_ok X (dk rfl) rfl ?_
        refine br_ok X (dk rfl) rfl (show ((73 : Nat) : Int) + 12 = ((85 : Nat) : Int) from rfl) (fun c106 => ?_) (fun c107 => ?_)
        · iterate 3 refine fst1_ok X (dk rfl) rfl ?_
          refine callVW_ok (ci := 8) (T := TX6) (N := 14) (av := [.ref _, .ref _]) (r := []) X E J64 (c6_isCommonSound _ J64.1 T0 tb35 tb37) lkX6_isCommonSound mlX6_260 lmX6_isCommonSound lpX6_isCommonSound ⟨Nat.le_of_ble_eq_true rfl, Nat.le_of_ble_eq_true rfl⟩ ⟨Nat.le_of_ble_eq_true rfl, Nat.le_of_ble_eq_true rfl⟩ rfl (bm_cell J64.1 gb14) (Nat.le_of_ble_eq_true rfl) (dk rfl) ?_
          rintro _ h109 ⟨b108, rfl⟩ J110
          refine br_ok X (dk rfl) rfl (show ((91 : Nat) : Int) + 22 = ((113 : Nat) : Int) from rfl) (fun c111 => ?_) (fun c112 => ?_)
          · refine fst1_ok X (dk rfl) rfl ?_
            exact reti_ok X hr hlk (bI_n false) (dk rfl) ⟨⟨false, rfl⟩, J110⟩ (Nat.le_of_ble_eq_true rfl) (Nat.le_of_ble_eq_true rfl)
          · iterate 2 refine fst1_ok X (dk rfl) rfl ?_
            refine callVW_ok (ci := 8) (T := TX6) (N := 14) (av := [.ref _]) (r := []) X E J110 (c6_isPlainSound _ J110.1 T0 tb35) lkX6_isPlainSound mlX6_263 lmX6_isPlainSound lpX6_isPlainSound ⟨Nat.le_of_ble_eq_true rfl, Nat.le_of_ble_eq_true rfl⟩ ⟨Nat.le_of_ble_eq_true rfl, Nat.le_of_ble_eq_true rfl⟩ rfl (bm_cell J110.1 gb14) (Nat.le_of_ble_eq_true rfl) (dk rfl) ?_
            rintro _ h114 ⟨b113, rfl⟩ J115
            refine br_ok X (dk rfl) rfl (show ((99 : Nat) : Int) + 14 = ((113 : Nat) : Int) from rfl) (fun c116 => ?_) (fun c117 => ?_)
            · refine fst1_ok X (dk rfl) rfl ?_
              exact reti_ok X hr hlk (bI_n false) (dk rfl) ⟨⟨false, rfl⟩, J115⟩ (Nat.le_of_ble_eq_true rfl) (Nat.le_of_ble_eq_true rfl)
            · refine fst1_ok X (dk rfl) rfl ?_
              refine callVR_ok (ci := 8) (T := TX6) (N := 14) (av := []) (r := []) X E (c6_areSizesSound _ J115.1 T0) lkX6_areSizesSound mlX6_266 lmX6_areSizesSound lpX6_areSizesSound ⟨Nat.le_of_ble_eq_true rfl, Nat.le_of_ble_eq_true rfl⟩ ⟨Nat.le_of_ble_eq_true rfl, Nat.le_of_ble_eq_true rfl⟩ rfl (bm_cell J115.1 gb14) (Nat.le_of_ble_eq_true rfl) (dk rfl) ?_
              rintro _ ⟨b118, rfl⟩
              refine br_ok X (dk rfl) rfl (show ((106 : Nat) : Int) + 7 = ((113 : Nat) : Int) from rfl) (fun c119 => ?_) (fun c120 => ?_)
              · refine fst1_ok X (dk rfl) rfl ?_
                exact reti_ok X hr hlk (bI_n false) (dk rfl) ⟨⟨false, rfl⟩, J115⟩ (Nat.le_of_ble_eq_true rfl) (Nat.le_of_ble_eq_true rfl)
              · refine fst1_ok X (dk rfl) rfl ?_
                refine br_ok X (dk rfl) rfl (show ((110 : Nat) : Int) + 4 = ((114 : Nat) : Int) from rfl) (fun _ => ?_) (fun q => absurd trivial q)
                exact reti_ok X hr hlk (bI_n true) (dk rfl) ⟨⟨true, rfl⟩, J115⟩ (Nat.le_of_ble_eq_true rfl) (Nat.le_of_ble_eq_true rfl)
        · iterate 3 refine fst1_ok X (dk rfl) rfl ?_
          refine callVW_ok (ci := 8) (T := TX6) (N := 14) (av := [.ref _, .ref _]) (r := []) X E J64 (c6_areAnswersSound _ J64.1 T0 tb35 tb37) lkX6_areAnswersSound mlX6_257 lmX6_areAnswersSound lpX6_areAnswersSound ⟨Nat.le_of_ble_eq_true rfl, Nat.le_of_ble_eq_true rfl⟩ ⟨Nat.le_of_ble_eq_true rfl, Nat.le_of_ble_eq_true rfl⟩ rfl (bm_cell J64.1 gb14) (Nat.le_of_ble_eq_true rfl) (dk rfl) ?_
          rintro _ h122 ⟨b121, rfl⟩ J123
          refine br_ok X (dk rfl) rfl (show ((82 : Nat) : Int) + 31 = ((113 : Nat) : Int) from rfl) (fun c124 => ?_) (fun c125 => ?_)
          · refine fst1_ok X (dk rfl) rfl ?_
            exact reti_ok X hr hlk (bI_n false) (dk rfl) ⟨⟨false, rfl⟩, J123⟩ (Nat.le_of_ble_eq_true rfl) (Nat.le_of_ble_eq_true rfl)
          · iterate 3 refine fst1_ok X (dk rfl) rfl ?_
            refine callVW_ok (ci := 8) (T := TX6) (N := 14) (av := [.ref _, .ref _]) (r := []) X E J123 (c6_isCommonSound _ J123.1 T0 tb35 tb37) lkX6_isCommonSound mlX6_260 lmX6_isCommonSound lpX6_isCommonSound ⟨Nat.le_of_ble_eq_true rfl, Nat.le_of_ble_eq_true rfl⟩ ⟨Nat.le_of_ble_eq_true rfl, Nat.le_of_ble_eq_true rfl⟩ rfl (bm_cell J123.1 gb14) (Nat.le_of_ble_eq_true rfl) (dk rfl) ?_
            rintro _ h127 ⟨b126, rfl⟩ J128
            refine br_ok X (dk rfl) rfl (show ((91 : Nat) : Int) + 22 = ((113 : Nat) : Int) from rfl) (fun c129 => ?_) (fun c130 => ?_)
            · refine fst1_ok X (dk rfl) rfl ?_
              exact reti_ok X hr hlk (bI_n false) (dk rfl) ⟨⟨false, rfl⟩, J128⟩ (Nat.le_of_ble_eq_true rfl) (Nat.le_of_ble_eq_true rfl)
            · iterate 2 refine fst1_ok X (dk rfl) rfl ?_
              refine callVW_ok (ci := 8) (T := TX6) (N := 14) (av := [.ref _]) (r := []) X E J128 (c6_isPlainSound _ J128.1 T0 tb35) lkX6_isPlainSound mlX6_263 lmX6_isPlainSound lpX6_isPlainSound ⟨Nat.le_of_ble_eq_true rfl, Nat.le_of_ble_eq_true rfl⟩ ⟨Nat.le_of_ble_eq_true rfl, Nat.le_of_ble_eq_true rfl⟩ rfl (bm_cell J128.1 gb14) (Nat.le_of_ble_eq_true rfl) (dk rfl) ?_
              rintro _ h132 ⟨b131, rfl⟩ J133
              refine br_ok X (dk rfl) rfl (show ((99 : Nat) : Int) + 14 = ((113 : Nat) : Int) from rfl) (fun c134 => ?_) (fun c135 => ?_)
              · refine fst1_ok X (dk rfl) rfl ?_
                exact reti_ok X hr hlk (bI_n false) (dk rfl) ⟨⟨false, rfl⟩, J133⟩ (Nat.le_of_ble_eq_true rfl) (Nat.le_of_ble_eq_true rfl)
              · refine fst1_ok X (dk rfl) rfl ?_
                refine callVR_ok (ci := 8) (T := TX6) (N := 14) (av := []) (r := []) X E (c6_areSizesSound _ J133.1 T0) lkX6_areSizesSound mlX6_266 lmX6_areSizesSound lpX6_areSizesSound ⟨Nat.le_of_ble_eq_true rfl, Nat.le_of_ble_eq_true rfl⟩ ⟨Nat.le_of_ble_eq_true rfl, Nat.le_of_ble_eq_true rfl⟩ rfl (bm_cell J133.1 gb14) (Nat.le_of_ble_eq_true rfl) (dk rfl) ?_
                rintro _ ⟨b136, rfl⟩
                refine br_ok X (dk rfl) rfl (show ((106 : Nat) : Int) + 7 = ((113 : Nat) : Int) from rfl) (fun c137 => ?_) (fun c138 => ?_)
                · refine fst1_ok X (dk rfl) rfl ?_
                  exact reti_ok X hr hlk (bI_n false) (dk rfl) ⟨⟨false, rfl⟩, J133⟩ (Nat.le_of_ble_eq_true rfl) (Nat.le_of_ble_eq_true rfl)
                · refine fst1_ok X (dk rfl) rfl ?_
                  refine br_ok X (dk rfl) rfl (show ((110 : Nat) : Int) + 4 = ((114 : Nat) : Int) from rfl) (fun _ => ?_) (fun q => absurd trivial q)
                  exact reti_ok X hr hlk (bI_n true) (dk rfl) ⟨⟨true, rfl⟩, J133⟩ (Nat.le_of_ble_eq_true rfl) (Nat.le_of_ble_eq_true rfl)
    · refine fst1_ok X (dk rfl) rfl ?_
      obtain ⟨dn140, rf141, hx139⟩ := bm_open J64.1 gb14
      refine getf_ok X flX6_48 (dk rfl) hx139 rfl ?_
      refine fst1_ok X (dk rfl) rfl ?_
      refine getf_ok X flX6_38 (dk rfl) hx139 rfl ?_
      refine callVW_ok (ci := 6) (T := TX4) (N := 5) (av := [.ref _]) (r := []) X E J64 (c4_tellInto _ J64.1 tbs27 tsa25) lkX4_tellInto mlX6_190 lmX4_tellInto lpX4_tellInto ⟨Nat.le_of_ble_eq_true rfl, Nat.le_of_ble_eq_true rfl⟩ ⟨Nat.le_of_ble_eq_true rfl, Nat.le_of_ble_eq_true rfl⟩ rfl (st_cell J64.1 gb41) (Nat.le_of_ble_eq_true rfl) (dk rfl) ?_
      rintro _ h142 rfl J143
      refine fst1_ok X (dk rfl) rfl ?_
      obtain ⟨dn145, rf146, hx144⟩ := bm_open J143.1 gb14
      refine getf_ok X flX6_55 (dk rfl) hx144 rfl ?_
      refine fst1_ok X (dk rfl) rfl ?_
      refine getf_ok X flX6_42 (dk rfl) hx144 rfl ?_
      refine callVW_ok (ci := 3) (T := TX1) (N := 5) (av := [.ref _]) (r := []) X E J143 (c1_tellInto _ J143.1 tbc28 toa26) lkX1_tellInto mlX6_193 lmX1_tellInto lpX1_tellInto ⟨Nat.le_of_ble_eq_true rfl, Nat.le_of_ble_eq_true rfl⟩ ⟨Nat.le_of_ble_eq_true rfl, Nat.le_of_ble_eq_true rfl⟩ rfl (is_cell J143.1 gb56) (Nat.le_of_ble_eq_true rfl) (dk rfl) ?_
      rintro _ h147 rfl J148
      iterate 2 refine fst1_ok X (dk rfl) rfl ?_
      refine br_ok X (dk rfl) rfl (show ((69 : Nat) : Int) + 44 = ((113 : Nat) : Int) from rfl) (fun c149 => ?_) (fun c150 => ?_)
      · refine fst1_ok X (dk rfl) rfl ?_
        exact reti_ok X hr hlk (bI_n false) (dk rfl) ⟨⟨false, rfl⟩, J148⟩ (Nat.le_of_ble_eq_true rfl) (Nat.le_of_ble_eq_true rfl)
      · refine fst1_ok X (dk rfl) rfl ?_
        refine br_ok X (dk rfl) rfl (show ((73 : Nat) : Int) + 12 = ((85 : Nat) : Int) from rfl) (fun c151 => ?_) (fun c152 => ?_)
        · iterate 3 refine fst1_ok X (dk rfl) rfl ?_
          refine callVW_ok (ci := 8) (T := TX6) (N := 14) (av := [.ref _, .ref _]) (r := []) X E J148 (c6_isCommonSound _ J148.1 T0 tb35 tb37) lkX6_isCommonSound mlX6_260 lmX6_isCommonSound lpX6_isCommonSound ⟨Nat.le_of_ble_eq_true rfl, Nat.le_of_ble_eq_true rfl⟩ ⟨Nat.le_of_ble_eq_true rfl, Nat.le_of_ble_eq_true rfl⟩ rfl (bm_cell J148.1 gb14) (Nat.le_of_ble_eq_true rfl) (dk rfl) ?_
          rintro _ h154 ⟨b153, rfl⟩ J155
          refine br_ok X (dk rfl) rfl (show ((91 : Nat) : Int) + 22 = ((113 : Nat) : Int) from rfl) (fun c156 => ?_) (fun c157 => ?_)
          · refine fst1_ok X (dk rfl) rfl ?_
            exact reti_ok X hr hlk (bI_n false) (dk rfl) ⟨⟨false, rfl⟩, J155⟩ (Nat.le_of_ble_eq_true rfl) (Nat.le_of_ble_eq_true rfl)
          · iterate 2 refine fst1_ok X (dk rfl) rfl ?_
            refine callVW_ok (ci := 8) (T := TX6) (N := 14) (av := [.ref _]) (r := []) X E J155 (c6_isPlainSound _ J155.1 T0 tb35) lkX6_isPlainSound mlX6_263 lmX6_isPlainSound lpX6_isPlainSound ⟨Nat.le_of_ble_eq_true rfl, Nat.le_of_ble_eq_true rfl⟩ ⟨Nat.le_of_ble_eq_true rfl, Nat.le_of_ble_eq_true rfl⟩ rfl (bm_cell J155.1 gb14) (Nat.le_of_ble_eq_true rfl) (dk rfl) ?_
            rintro _ h159 ⟨b158, rfl⟩ J160
            refine br_ok X (dk rfl) rfl (show ((99 : Nat) : Int) + 14 = ((113 : Nat) : Int) from rfl) (fun c161 => ?_) (fun c162 => ?_)
            · refine fst1_ok X (dk rfl) rfl ?_
              exact reti_ok X hr hlk (bI_n false) (dk rfl) ⟨⟨false, rfl⟩, J160⟩ (Nat.le_of_ble_eq_true rfl) (Nat.le_of_ble_eq_true rfl)
            · refine fst1_ok X (dk rfl) rfl ?_
              refine callVR_ok (ci := 8) (T := TX6) (N := 14) (av := []) (r := []) X E (c6_areSizesSound _ J160.1 T0) lkX6_areSizesSound mlX6_266 lmX6_areSizesSound lpX6_areSizesSound ⟨Nat.le_of_ble_eq_true rfl, Nat.le_of_ble_eq_true rfl⟩ ⟨Nat.le_of_ble_eq_true rfl, Nat.le_of_ble_eq_true rfl⟩ rfl (bm_cell J160.1 gb14) (Nat.le_of_ble_eq_true rfl) (dk rfl) ?_
              rintro _ ⟨b163, rfl⟩
              refine br_ok X (dk rfl) rfl (show ((106 : Nat) : Int) + 7 = ((113 : Nat) : Int) from rfl) (fun c164 => ?_) (fun c165 => ?_)
              · refine fst1_ok X (dk rfl) rfl ?_
                exact reti_ok X hr hlk (bI_n false) (dk rfl) ⟨⟨false, rfl⟩, J160⟩ (Nat.le_of_ble_eq_true rfl) (Nat.le_of_ble_eq_true rfl)
              · refine fst1_ok X (dk rfl) rfl ?_
                refine br_ok X (dk rfl) rfl (show ((110 : Nat) : Int) + 4 = ((114 : Nat) : Int) from rfl) (fun _ => ?_) (fun q => absurd trivial q)
                exact reti_ok X hr hlk (bI_n true) (dk rfl) ⟨⟨true, rfl⟩, J160⟩ (Nat.le_of_ble_eq_true rfl) (Nat.le_of_ble_eq_true rfl)
        · iterate 3 refine fst1_ok X (dk rfl) rfl ?_
          refine callVW_ok (ci := 8) (T := TX6) (N := 14) (av := [.ref _, .ref _]) (r := []) X E J148 (c6_areAnswersSound _ J148.1 T0 tb35 tb37) lkX6_areAnswersSound mlX6_257 lmX6_areAnswersSound lpX6_areAnswersSound ⟨Nat.le_of_ble_eq_true rfl, Nat.le_of_ble_eq_true rfl⟩ ⟨Nat.le_of_ble_eq_true rfl, Nat.le_of_ble_eq_true rfl⟩ rfl (bm_cell J148.1 gb14) (Nat.le_of_ble_eq_true rfl) (dk rfl) ?_
          rintro _ h167 ⟨b166, rfl⟩ J168
          refine br_ok X (dk rfl) rfl (show ((82 : Nat) : Int) + 31 = ((113 : Nat) : Int) from rfl) (fun c169 => ?_) (fun c170 => ?_)
          · refine fst1_ok X (dk rfl) rfl ?_
            exact reti_ok X hr hlk (bI_n false) (dk rfl) ⟨⟨false, rfl⟩, J168⟩ (Nat.le_of_ble_eq_true rfl) (Nat.le_of_ble_eq_true rfl)
          · iterate 3 refine fst1_ok X (dk rfl) rfl ?_
            refine callVW_ok (ci := 8) (T := TX6) (N := 14) (av := [.ref _, .ref _]) (r := []) X E J168 (c6_isCommonSound _ J168.1 T0 tb35 tb37) lkX6_isCommonSound mlX6_260 lmX6_isCommonSound lpX6_isCommonSound ⟨Nat.le_of_ble_eq_true rfl, Nat.le_of_ble_eq_true rfl⟩ ⟨Nat.le_of_ble_eq_true rfl, Nat.le_of_ble_eq_true rfl⟩ rfl (bm_cell J168.1 gb14) (Nat.le_of_ble_eq_true rfl) (dk rfl) ?_
            rintro _ h172 ⟨b171, rfl⟩ J173
            refine br_ok X (dk rfl) rfl (show ((91 : Nat) : Int) + 22 = ((113 : Nat) : Int) from rfl) (fun c174 => ?_) (fun c175 => ?_)
            · refine fst1_ok X (dk rfl) rfl ?_
              exact reti_ok X hr hlk (bI_n false) (dk rfl) ⟨⟨false, rfl⟩, J173⟩ (Nat.le_of_ble_eq_true rfl) (Nat.le_of_ble_eq_true rfl)
            · iterate 2 refine fst1_ok X (dk rfl) rfl ?_
              refine callVW_ok (ci := 8) (T := TX6) (N := 14) (av := [.ref _]) (r := []) X E J173 (c6_isPlainSound _ J173.1 T0 tb35) lkX6_isPlainSound mlX6_263 lmX6_isPlainSound lpX6_isPlainSound ⟨Nat.le_of_ble_eq_true rfl, Nat.le_of_ble_eq_true rfl⟩ ⟨Nat.le_of_ble_eq_true rfl, Nat.le_of_ble_eq_true rfl⟩ rfl (bm_cell J173.1 gb14) (Nat.le_of_ble_eq_true rfl) (dk rfl) ?_
              rintro _ h177 ⟨b176, rfl⟩ J178
              refine br_ok X (dk rfl) rfl (show ((99 : Nat) : Int) + 14 = ((113 : Nat) : Int) from rfl) (fun c179 => ?_) (fun c180 => ?_)
              · refine fst1_ok X (dk rfl) rfl ?_
                exact reti_ok X hr hlk (bI_n false) (dk rfl) ⟨⟨false, rfl⟩, J178⟩ (Nat.le_of_ble_eq_true rfl) (Nat.le_of_ble_eq_true rfl)
              · refine fst1_ok X (dk rfl) rfl ?_
                refine callVR_ok (ci := 8) (T := TX6) (N := 14) (av := []) (r := []) X E (c6_areSizesSound _ J178.1 T0) lkX6_areSizesSound mlX6_266 lmX6_areSizesSound lpX6_areSizesSound ⟨Nat.le_of_ble_eq_true rfl, Nat.le_of_ble_eq_true rfl⟩ ⟨Nat.le_of_ble_eq_true rfl, Nat.le_of_ble_eq_true rfl⟩ rfl (bm_cell J178.1 gb14) (Nat.le_of_ble_eq_true rfl) (dk rfl) ?_
                rintro _ ⟨b181, rfl⟩
                refine br_ok X (dk rfl) rfl (show ((106 : Nat) : Int) + 7 = ((113 : Nat) : Int) from rfl) (fun c182 => ?_) (fun c183 => ?_)
                · refine fst1_ok X (dk rfl) rfl ?_
                  exact reti_ok X hr hlk (bI_n false) (dk rfl) ⟨⟨false, rfl⟩, J178⟩ (Nat.le_of_ble_eq_true rfl) (Nat.le_of_ble_eq_true rfl)
                · refine fst1_ok X (dk rfl) rfl ?_
                  refine br_ok X (dk rfl) rfl (show ((110 : Nat) : Int) + 4 = ((114 : Nat) : Int) from rfl) (fun _ => ?_) (fun q => absurd trivial q)
                  exact reti_ok X hr hlk (bI_n true) (dk rfl) ⟨⟨true, rfl⟩, J178⟩ (Nat.le_of_ble_eq_true rfl) (Nat.le_of_ble_eq_true rfl)
set_option maxHeartbeats 4000000 in
theorem FZ.c6_withLetters (h : AH) (I : Tyg Γ h) (x0 : Int64) {o1 L1 : Nat} {w1 : Bool} (T1 : TermG w1 Γ o1 L1) : CT la D cA B0 pa yX6_withLetters cX6_withLetters 6 (some .long) (rmD 1 0 0) [.long (x0), .ref o1] h (RdO jP h) := by
  refine CT_of (by decide +kernel) (Nat.le_of_ble_eq_true rfl) ?_
  intro p e s m args below meth c X E hr hlk hnm
  have dk : ∀ {pc : Nat} {q : Instr × Nat}, lkd DX6_withLetters pc = some q → decode cX6_withLetters pc = .ok q := lkd_ok DX6_withLetters_ok
  obtain ⟨hL2, q1, gb3, gl4⟩ := id T1
  have L5 : ∀ j5 : Int32, ∀ (y6 : Int64) (l : List (Nat × Value)), lsel l [5, 3, 2] = [(5, .int (j5)), (3, .long (y6)), (2, .ref o1)] → WR p la e (rmD 1 0 0) s m args below meth c D cA B0 6 (RdO jP h) 5 l [] h 0 0 := by
    refine loopUp (fun j5 ih5 => ?_)
    intro y6 l hl
    refine WS.sel [5, 3, 2] hl ?_
    iterate 2 refine fst1_ok X (dk rfl) rfl ?_
    refine callVR_ok (ci := 7) (T := TX5) (N := 3) (av := []) (r := [_]) X E (c5_length _ (TI.rf I).1 T1) lkX5_length mlX6_76 lmX5_length lpX5_length ⟨Nat.le_of_ble_eq_true rfl, Nat.le_of_ble_eq_true rfl⟩ ⟨Nat.le_of_ble_eq_true rfl, Nat.le_of_ble_eq_true rfl⟩ rfl (tm_cell (TI.rf I).1 gb3) (Nat.le_of_ble_eq_true rfl) (dk rfl) ?_
    rintro _ ⟨n8, hn9, rfl⟩
    refine br_ok X (dk rfl) rfl (show ((11 : Nat) : Int) + 23 = ((34 : Nat) : Int) from rfl) (fun c10 => ?_) (fun c11 => ?_)
    · refine fst1_ok X (dk rfl) rfl ?_
      exact retl_ok X hr hlk (dk rfl) ⟨⟨_, rfl⟩, rfl⟩ (Nat.le_of_ble_eq_true rfl) (Nat.le_of_ble_eq_true rfl)
    · refine fst1_ok X (dk rfl) rfl ?_
      refine ldc2_ok X csX6_271 (dk rfl) ?_
      iterate 3 refine fst1_ok X (dk rfl) rfl ?_
      refine callVR_ok (ci := 7) (T := TX5) (N := 3) (av := [.int _]) (r := [_]) X E (c5_letterAt _ (TI.rf I).1 T1 _) lkX5_letterAt mlX6_132 lmX5_letterAt lpX5_letterAt ⟨Nat.le_of_ble_eq_true rfl, Nat.le_of_ble_eq_true rfl⟩ ⟨Nat.le_of_ble_eq_true rfl, Nat.le_of_ble_eq_true rfl⟩ rfl (tm_cell (TI.rf I).1 gb3) (Nat.le_of_ble_eq_true rfl) (dk rfl) ?_
      rintro _ ⟨x12, hx13, rfl⟩
      iterate 4 refine fst1_ok X (dk rfl) rfl ?_
      refine br_ok X (dk rfl) rfl (show ((31 : Nat) : Int) + (-26) = ((5 : Nat) : Int) from rfl) (fun _ => ?_) (fun q => absurd trivial q)
      exact ih5 _ (nlt_of c11) _ _ rfl
  iterate 4 refine fst1_ok X (dk rfl) rfl ?_
  exact L5 _ _ _ rfl
set_option maxHeartbeats 4000000 in
theorem FZ.c6_withAnswer (h : AH) (I : Tyg Γ h) (x0 : Int64) {o1 : Nat} {w1 : Bool} (T1 : AnsG w1 Γ o1) : CT la D cA B0 pa yX6_withAnswer cX6_withAnswer 6 (some .long) (rmD 3 0 0) [.long (x0), .ref o1] h (RdO jP h) := by
  refine CT_of (by decide +kernel) (Nat.le_of_ble_eq_true rfl) ?_
  intro p e s m args below meth c X E hr hlk hnm
  have dk : ∀ {pc : Nat} {q : Instr × Nat}, lkd DX6_withAnswer pc = some q → decode cX6_withAnswer pc = .ok q := lkd_ok DX6_withAnswer_ok
  obtain ⟨ar1, ts2, gb3, ga4, tl5, tt6⟩ := id T1
  have L15 : ∀ j7 : Nat, j7 ≤ 8 → ∀ (y8 : Int64) (l : List (Nat × Value)), lsel l [5, 3, 2] = [(5, vI j7), (3, .long (y8)), (2, .ref o1)] → WR p la e (rmD 3 0 0) s m args below meth c D cA B0 6 (RdO jP h) 15 l [] h 0 0 := by
    refine loopN (fun j7 hj7 ih15 => ?_)
    intro y8 l hl
    refine WS.sel [5, 3, 2] hl ?_
    iterate 2 refine fst1_ok X (dk rfl) rfl ?_
    refine br_ok X (dk rfl) rfl (show ((19 : Nat) : Int) + 56 = ((75 : Nat) : Int) from rfl) (fun c10 => ?_) (fun c11 => ?_)
    · refine fst1_ok X (dk rfl) rfl ?_
      exact retl_ok X hr hlk (dk rfl) ⟨⟨_, rfl⟩, rfl⟩ (Nat.le_of_ble_eq_true rfl) (Nat.le_of_ble_eq_true rfl)
    · iterate 2 refine fst1_ok X (dk rfl) rfl ?_
      refine callVR_ok (ci := 2) (T := TX0) (N := 1) (av := [.int _]) (r := []) X E (c0_moves _ (TI.rf I).1 T1 _) lkX0_moves mlX6_316 lmX0_moves lpX0_moves ⟨Nat.le_of_ble_eq_true rfl, Nat.le_of_ble_eq_true rfl⟩ ⟨Nat.le_of_ble_eq_true rfl, Nat.le_of_ble_eq_true rfl⟩ rfl (is_cell (TI.rf I).1 gb3) (Nat.le_of_ble_eq_true rfl) (dk rfl) ?_
      rintro _ ⟨b12, rfl⟩
      refine br_ok X (dk rfl) rfl (show ((28 : Nat) : Int) + 41 = ((69 : Nat) : Int) from rfl) (fun c13 => ?_) (fun c14 => ?_)
      · refine fst1_ok X (dk rfl) rfl ?_
        refine br_ok X (dk rfl) rfl (show ((72 : Nat) : Int) + (-57) = ((15 : Nat) : Int) from rfl) (fun _ => ?_) (fun q => absurd trivial q)
        exact ih15 (nat_lt (K := 8) (by omega) (by rw [show nI 8 = (Int8.ofInt 8).toInt32 by decide +kernel]; exact c11)) _ _ (by rw [← vI_succ j7]; rfl)
      · refine fst1_ok X (dk rfl) rfl ?_
        refine ldc2_ok X csX6_271 (dk rfl) ?_
        iterate 6 refine fst1_ok X (dk rfl) rfl ?_
        refine ldc2_ok X csX6_271 (dk rfl) ?_
        iterate 3 refine fst1_ok X (dk rfl) rfl ?_
        refine callVR_ok (ci := 2) (T := TX0) (N := 1) (av := [.int _]) (r := [_]) X E (c0_ofN _ (TI.rf I).1 T1 _ ⟨_, (nat_lt (K := 8) (by omega) (by rw [show nI 8 = (Int8.ofInt 8).toInt32 by decide +kernel]; exact c11)), rfl⟩) lkX0_of mlX6_169 lmX0_of lpX0_of ⟨Nat.le_of_ble_eq_true rfl, Nat.le_of_ble_eq_true rfl⟩ ⟨Nat.le_of_ble_eq_true rfl, Nat.le_of_ble_eq_true rfl⟩ rfl (is_cell (TI.rf I).1 gb3) (Nat.le_of_ble_eq_true rfl) (dk rfl) ?_
        rintro _ ⟨b15, rfl, tb16⟩
        obtain ⟨hL18, q17, gb19, gl20⟩ := id tb16
        refine callVR_ok (ci := 7) (T := TX5) (N := 3) (av := []) (r := [_]) X E (c5_length _ (TI.rf I).1 tb16) lkX5_length mlX6_76 lmX5_length lpX5_length ⟨Nat.le_of_ble_eq_true rfl, Nat.le_of_ble_eq_true rfl⟩ ⟨Nat.le_of_ble_eq_true rfl, Nat.le_of_ble_eq_true rfl⟩ rfl (tm_cell (TI.rf I).1 gb19) (Nat.le_of_ble_eq_true rfl) (dk rfl) ?_
        rintro _ ⟨n21, hn22, rfl⟩
        iterate 6 refine fst1_ok X (dk rfl) rfl ?_
        refine callVR_ok (ci := 2) (T := TX0) (N := 1) (av := [.int _]) (r := [_]) X E (c0_ofN _ (TI.rf I).1 T1 _ ⟨_, (nat_lt (K := 8) (by omega) (by rw [show nI 8 = (Int8.ofInt 8).toInt32 by decide +kernel]; exact c11)), rfl⟩) lkX0_of mlX6_169 lmX0_of lpX0_of ⟨Nat.le_of_ble_eq_true rfl, Nat.le_of_ble_eq_true rfl⟩ ⟨Nat.le_of_ble_eq_true rfl, Nat.le_of_ble_eq_true rfl⟩ rfl (is_cell (TI.rf I).1 gb3) (Nat.le_of_ble_eq_true rfl) (dk rfl) ?_
        rintro _ ⟨b23, rfl, tb24⟩
        refine callSR_ok (av := [.long _, .ref _]) (r := []) X E (c6_withLetters _ (TI.rf I).1 _ tb24) lkX6_withLetters mlX6_285 lsX6_withLetters ⟨Nat.le_of_ble_eq_true rfl, Nat.le_of_ble_eq_true rfl⟩ ⟨Nat.le_of_ble_eq_true rfl, Nat.le_of_ble_eq_true rfl⟩ (Nat.le_of_ble_eq_true rfl) (dk rfl) ?_
        rintro _ ⟨x25, rfl⟩
        iterate 2 refine fst1_ok X (dk rfl) rfl ?_
        refine br_ok X (dk rfl) rfl (show ((72 : Nat) : Int) + (-57) = ((15 : Nat) : Int) from rfl) (fun _ => ?_) (fun q => absurd trivial q)
        exact ih15 (nat_lt (K := 8) (by omega) (by rw [show nI 8 = (Int8.ofInt 8).toInt32 by decide +kernel]; exact c11)) _ _ (by rw [← vI_succ j7]; rfl)
  refine fst1_ok X (dk rfl) rfl ?_
  refine ldc2_ok X csX6_271 (dk rfl) ?_
  iterate 2 refine fst1_ok X (dk rfl) rfl ?_
  refine callVR_ok (ci := 2) (T := TX0) (N := 1) (av := []) (r := [_]) X E (c0_movedNames _ (TI.rf I).1 T1) lkX0_movedNames mlX6_219 lmX0_movedNames lpX0_movedNames ⟨Nat.le_of_ble_eq_true rfl, Nat.le_of_ble_eq_true rfl⟩ ⟨Nat.le_of_ble_eq_true rfl, Nat.le_of_ble_eq_true rfl⟩ rfl (is_cell (TI.rf I).1 gb3) (Nat.le_of_ble_eq_true rfl) (dk rfl) ?_
  rintro _ ⟨x26, rfl⟩
  iterate 5 refine fst1_ok X (dk rfl) rfl ?_
  exact L15 0 (by omega) _ _ rfl
end M95
end Ud07f6a
