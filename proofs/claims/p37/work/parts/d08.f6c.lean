section Ud08f6c
/-! the class, weakly, over types that keep contents: questions (printed by wip/p20/genFZ.py from wip/p40/cl6.py) -/
section M97
variable {la : Launch} {D : va_G} {cA : Nat → ClassId} {B0 pa : Nat} {Γ : TY}
set_option maxHeartbeats 4000000 in
theorem FZ.c6_sizeN (h : AH) (I : Tyg Γ h) {o0 : Nat} {kn : Int32} (T0 : BmT Γ o0 kn) (x1 : Int32) (hx1 : inN 6 x1) : CT la D cA B0 pa yX6_size cX6_size 2 (some .int) (rmD 1 0 0) [.ref o0, .int (x1)] h (RdO iP h) := by
  refine CT_of (by decide +kernel) (Nat.le_of_ble_eq_true rfl) ?_
  intro p e s m args below meth c X E hr hlk hnm
  have dk : ∀ {pc : Nat} {q : Instr × Nat}, lkd DX6_size pc = some q → decode cX6_size pc = .ok q := lkd_ok DX6_size_ok
  obtain ⟨S1, A2, sp3, os4, wd5, ow6, sa7, oa8, bs9, bc10, sh11, ss12, as13, gb14, gS15, gA16, sl17, sT18, al19, aT20, tsp21, tos22, twd23, tow24, tsa25, toa26, tbs27, tbc28, tsh29⟩ := id T0
  iterate 2 refine fst1_ok X (dk rfl) rfl ?_
  refine callVR_ok (ci := 8) (T := TX6) (N := 14) (av := [.int _]) (r := []) X E (c6_termOfN _ (TI.rf I).1 T0 _ hx1) lkX6_termOf mlX6_69 lmX6_termOf lpX6_termOf ⟨Nat.le_of_ble_eq_true rfl, Nat.le_of_ble_eq_true rfl⟩ ⟨Nat.le_of_ble_eq_true rfl, Nat.le_of_ble_eq_true rfl⟩ rfl (bm_cell (TI.rf I).1 gb14) (Nat.le_of_ble_eq_true rfl) (dk rfl) ?_
  rintro _ ⟨b30, rfl, tb31⟩
  obtain ⟨hL33, q32, gb34, gl35⟩ := id tb31
  refine callVR_ok (ci := 7) (T := TX5) (N := 3) (av := []) (r := []) X E (c5_length _ (TI.rf I).1 tb31) lkX5_length mlX6_76 lmX5_length lpX5_length ⟨Nat.le_of_ble_eq_true rfl, Nat.le_of_ble_eq_true rfl⟩ ⟨Nat.le_of_ble_eq_true rfl, Nat.le_of_ble_eq_true rfl⟩ rfl (tm_cell (TI.rf I).1 gb34) (Nat.le_of_ble_eq_true rfl) (dk rfl) ?_
  rintro _ ⟨n36, hn37, rfl⟩
  exact reti_ok X hr hlk rfl (dk rfl) ⟨⟨_, rfl⟩, rfl⟩ (Nat.le_of_ble_eq_true rfl) (Nat.le_of_ble_eq_true rfl)
set_option maxHeartbeats 4000000 in
theorem FZ.c6_depth (h : AH) (hl : la.stackTraces = false) (I : Tyg Γ h) {o0 : Nat} {kn : Int32} (T0 : BmT Γ o0 kn) (x1 : Int32) : CTX la D cA B0 pa yX6_depth cX6_depth 2 (some .int) (rmD 7 1 6) [.ref o0, .int (x1)] h (WrO Γ iP h) (pxW [ioobe] Γ h) := by
  refine CTX_of (by decide +kernel) (Nat.le_of_ble_eq_true rfl) ?_
  intro p e s m args below meth c X E hr hlk hnm ht
  have dk : ∀ {pc : Nat} {q : Instr × Nat}, lkd DX6_depth pc = some q → decode cX6_depth pc = .ok q := lkd_ok DX6_depth_ok
  obtain ⟨S1, A2, sp3, os4, wd5, ow6, sa7, oa8, bs9, bc10, sh11, ss12, as13, gb14, gS15, gA16, sl17, sT18, al19, aT20, tsp21, tos22, twd23, tow24, tsa25, toa26, tbs27, tbc28, tsh29⟩ := id T0
  iterate 2 refine fst1_ok X (dk rfl) rfl ?_
  refine callVXW_ok (ci := 8) (T := TX6) (N := 14) (av := [.int _]) (r := []) X E (TI.rf I) ht hlk (c6_termOf _ hl (TI.rf I).1 T0 _) (by simp) lkX6_termOf mlX6_69 lmX6_termOf lpX6_termOf ⟨Nat.le_of_ble_eq_true rfl, Nat.le_of_ble_eq_true rfl⟩ ⟨Nat.le_of_ble_eq_true rfl, Nat.le_of_ble_eq_true rfl⟩ rfl (bm_cell (TI.rf I).1 gb14) (Nat.le_of_ble_eq_true rfl) (dk rfl) ?_
  rintro _ h32 ⟨b30, rfl, tb31⟩ J33
  obtain ⟨hL35, q34, gb36, gl37⟩ := id tb31
  refine callVR_ok (ci := 7) (T := TX5) (N := 3) (av := []) (r := []) X E (c5_levels _ J33.1 tb31) lkX5_levels mlX6_201 lmX5_levels lpX5_levels ⟨Nat.le_of_ble_eq_true rfl, Nat.le_of_ble_eq_true rfl⟩ ⟨Nat.le_of_ble_eq_true rfl, Nat.le_of_ble_eq_true rfl⟩ rfl (tm_cell J33.1 gb36) (Nat.le_of_ble_eq_true rfl) (dk rfl) ?_
  rintro _ ⟨x38, rfl⟩
  refine WRX.ret ?_
  exact reti_ok X hr hlk rfl (dk rfl) ⟨⟨_, rfl⟩, J33⟩ (Nat.le_of_ble_eq_true rfl) (Nat.le_of_ble_eq_true rfl)
set_option maxHeartbeats 4000000 in
theorem FZ.c6_depthN (h : AH) (I : Tyg Γ h) {o0 : Nat} {kn : Int32} (T0 : BmT Γ o0 kn) (x1 : Int32) (hx1 : inN 6 x1) : CT la D cA B0 pa yX6_depth cX6_depth 2 (some .int) (rmD 4 0 0) [.ref o0, .int (x1)] h (RdO iP h) := by
  refine CT_of (by decide +kernel) (Nat.le_of_ble_eq_true rfl) ?_
  intro p e s m args below meth c X E hr hlk hnm
  have dk : ∀ {pc : Nat} {q : Instr × Nat}, lkd DX6_depth pc = some q → decode cX6_depth pc = .ok q := lkd_ok DX6_depth_ok
  obtain ⟨S1, A2, sp3, os4, wd5, ow6, sa7, oa8, bs9, bc10, sh11, ss12, as13, gb14, gS15, gA16, sl17, sT18, al19, aT20, tsp21, tos22, twd23, tow24, tsa25, toa26, tbs27, tbc28, tsh29⟩ := id T0
  iterate 2 refine fst1_ok X (dk rfl) rfl ?_
  refine callVR_ok (ci := 8) (T := TX6) (N := 14) (av := [.int _]) (r := []) X E (c6_termOfN _ (TI.rf I).1 T0 _ hx1) lkX6_termOf mlX6_69 lmX6_termOf lpX6_termOf ⟨Nat.le_of_ble_eq_true rfl, Nat.le_of_ble_eq_true rfl⟩ ⟨Nat.le_of_ble_eq_true rfl, Nat.le_of_ble_eq_true rfl⟩ rfl (bm_cell (TI.rf I).1 gb14) (Nat.le_of_ble_eq_true rfl) (dk rfl) ?_
  rintro _ ⟨b30, rfl, tb31⟩
  obtain ⟨hL33, q32, gb34, gl35⟩ := id tb31
  refine callVR_ok (ci := 7) (T := TX5) (N := 3) (av := []) (r := []) X E (c5_levels _ (TI.rf I).1 tb31) lkX5_levels mlX6_201 lmX5_levels lpX5_levels ⟨Nat.le_of_ble_eq_true rfl, Nat.le_of_ble_eq_true rfl⟩ ⟨Nat.le_of_ble_eq_true rfl, Nat.le_of_ble_eq_true rfl⟩ rfl (tm_cell (TI.rf I).1 gb34) (Nat.le_of_ble_eq_true rfl) (dk rfl) ?_
  rintro _ ⟨x36, rfl⟩
  exact reti_ok X hr hlk rfl (dk rfl) ⟨⟨_, rfl⟩, rfl⟩ (Nat.le_of_ble_eq_true rfl) (Nat.le_of_ble_eq_true rfl)
set_option maxHeartbeats 4000000 in
theorem FZ.c6_shared (h : AH) (hl : la.stackTraces = false) (I : Tyg Γ h) {o0 : Nat} {kn : Int32} (T0 : BmT Γ o0 kn) (x1 : Int32) : CTX la D cA B0 pa yX6_shared cX6_shared 2 (some .int) (rmD 7 1 6) [.ref o0, .int (x1)] h (WrO Γ iP h) (pxW [ioobe] Γ h) := by
  refine CTX_of (by decide +kernel) (Nat.le_of_ble_eq_true rfl) ?_
  intro p e s m args below meth c X E hr hlk hnm ht
  have dk : ∀ {pc : Nat} {q : Instr × Nat}, lkd DX6_shared pc = some q → decode cX6_shared pc = .ok q := lkd_ok DX6_shared_ok
  obtain ⟨S1, A2, sp3, os4, wd5, ow6, sa7, oa8, bs9, bc10, sh11, ss12, as13, gb14, gS15, gA16, sl17, sT18, al19, aT20, tsp21, tos22, twd23, tow24, tsa25, toa26, tbs27, tbc28, tsh29⟩ := id T0
  iterate 2 refine fst1_ok X (dk rfl) rfl ?_
  refine callVXW_ok (ci := 8) (T := TX6) (N := 14) (av := [.int _]) (r := []) X E (TI.rf I) ht hlk (c6_termOf _ hl (TI.rf I).1 T0 _) (by simp) lkX6_termOf mlX6_69 lmX6_termOf lpX6_termOf ⟨Nat.le_of_ble_eq_true rfl, Nat.le_of_ble_eq_true rfl⟩ ⟨Nat.le_of_ble_eq_true rfl, Nat.le_of_ble_eq_true rfl⟩ rfl (bm_cell (TI.rf I).1 gb14) (Nat.le_of_ble_eq_true rfl) (dk rfl) ?_
  rintro _ h32 ⟨b30, rfl, tb31⟩ J33
  obtain ⟨hL35, q34, gb36, gl37⟩ := id tb31
  refine callVR_ok (ci := 7) (T := TX5) (N := 3) (av := []) (r := []) X E (c5_unlikePlaces _ J33.1 tb31) lkX5_unlikePlaces mlX6_204 lmX5_unlikePlaces lpX5_unlikePlaces ⟨Nat.le_of_ble_eq_true rfl, Nat.le_of_ble_eq_true rfl⟩ ⟨Nat.le_of_ble_eq_true rfl, Nat.le_of_ble_eq_true rfl⟩ rfl (tm_cell J33.1 gb36) (Nat.le_of_ble_eq_true rfl) (dk rfl) ?_
  rintro _ ⟨x38, rfl⟩
  refine WRX.ret ?_
  exact reti_ok X hr hlk rfl (dk rfl) ⟨⟨_, rfl⟩, J33⟩ (Nat.le_of_ble_eq_true rfl) (Nat.le_of_ble_eq_true rfl)
set_option maxHeartbeats 4000000 in
theorem FZ.c6_sharedN (h : AH) (I : Tyg Γ h) {o0 : Nat} {kn : Int32} (T0 : BmT Γ o0 kn) (x1 : Int32) (hx1 : inN 6 x1) : CT la D cA B0 pa yX6_shared cX6_shared 2 (some .int) (rmD 4 0 0) [.ref o0, .int (x1)] h (RdO iP h) := by
  refine CT_of (by decide +kernel) (Nat.le_of_ble_eq_true rfl) ?_
  intro p e s m args below meth c X E hr hlk hnm
  have dk : ∀ {pc : Nat} {q : Instr × Nat}, lkd DX6_shared pc = some q → decode cX6_shared pc = .ok q := lkd_ok DX6_shared_ok
  obtain ⟨S1, A2, sp3, os4, wd5, ow6, sa7, oa8, bs9, bc10, sh11, ss12, as13, gb14, gS15, gA16, sl17, sT18, al19, aT20, tsp21, tos22, twd23, tow24, tsa25, toa26, tbs27, tbc28, tsh29⟩ := id T0
  iterate 2 refine fst1_ok X (dk rfl) rfl ?_
  refine callVR_ok (ci := 8) (T := TX6) (N := 14) (av := [.int _]) (r := []) X E (c6_termOfN _ (TI.rf I).1 T0 _ hx1) lkX6_termOf mlX6_69 lmX6_termOf lpX6_termOf ⟨Nat.le_of_ble_eq_true rfl, Nat.le_of_ble_eq_true rfl⟩ ⟨Nat.le_of_ble_eq_true rfl, Nat.le_of_ble_eq_true rfl⟩ rfl (bm_cell (TI.rf I).1 gb14) (Nat.le_of_ble_eq_true rfl) (dk rfl) ?_
  rintro _ ⟨b30, rfl, tb31⟩
  obtain ⟨hL33, q32, gb34, gl35⟩ := id tb31
  refine callVR_ok (ci := 7) (T := TX5) (N := 3) (av := []) (r := []) X E (c5_unlikePlaces _ (TI.rf I).1 tb31) lkX5_unlikePlaces mlX6_204 lmX5_unlikePlaces lpX5_unlikePlaces ⟨Nat.le_of_ble_eq_true rfl, Nat.le_of_ble_eq_true rfl⟩ ⟨Nat.le_of_ble_eq_true rfl, Nat.le_of_ble_eq_true rfl⟩ rfl (tm_cell (TI.rf I).1 gb34) (Nat.le_of_ble_eq_true rfl) (dk rfl) ?_
  rintro _ ⟨x36, rfl⟩
  exact reti_ok X hr hlk rfl (dk rfl) ⟨⟨_, rfl⟩, rfl⟩ (Nat.le_of_ble_eq_true rfl) (Nat.le_of_ble_eq_true rfl)
set_option maxHeartbeats 4000000 in
theorem FZ.c6_names (h : AH) (hl : la.stackTraces = false) (I : Tyg Γ h) {o0 : Nat} {kn : Int32} (T0 : BmT Γ o0 kn) (x1 : Int32) : CTX la D cA B0 pa yX6_names cX6_names 2 (some .int) (rmD 7 1 6) [.ref o0, .int (x1)] h (WrO Γ iP h) (pxW [ioobe] Γ h) := by
  refine CTX_of (by decide +kernel) (Nat.le_of_ble_eq_true rfl) ?_
  intro p e s m args below meth c X E hr hlk hnm ht
  have dk : ∀ {pc : Nat} {q : Instr × Nat}, lkd DX6_names pc = some q → decode cX6_names pc = .ok q := lkd_ok DX6_names_ok
  obtain ⟨S1, A2, sp3, os4, wd5, ow6, sa7, oa8, bs9, bc10, sh11, ss12, as13, gb14, gS15, gA16, sl17, sT18, al19, aT20, tsp21, tos22, twd23, tow24, tsa25, toa26, tbs27, tbc28, tsh29⟩ := id T0
  iterate 2 refine fst1_ok X (dk rfl) rfl ?_
  refine callVXW_ok (ci := 8) (T := TX6) (N := 14) (av := [.int _]) (r := []) X E (TI.rf I) ht hlk (c6_termOf _ hl (TI.rf I).1 T0 _) (by simp) lkX6_termOf mlX6_69 lmX6_termOf lpX6_termOf ⟨Nat.le_of_ble_eq_true rfl, Nat.le_of_ble_eq_true rfl⟩ ⟨Nat.le_of_ble_eq_true rfl, Nat.le_of_ble_eq_true rfl⟩ rfl (bm_cell (TI.rf I).1 gb14) (Nat.le_of_ble_eq_true rfl) (dk rfl) ?_
  rintro _ h32 ⟨b30, rfl, tb31⟩ J33
  obtain ⟨hL35, q34, gb36, gl37⟩ := id tb31
  refine callVR_ok (ci := 7) (T := TX5) (N := 3) (av := []) (r := []) X E (c5_allNames _ J33.1 tb31) lkX5_allNames mlX6_140 lmX5_allNames lpX5_allNames ⟨Nat.le_of_ble_eq_true rfl, Nat.le_of_ble_eq_true rfl⟩ ⟨Nat.le_of_ble_eq_true rfl, Nat.le_of_ble_eq_true rfl⟩ rfl (tm_cell J33.1 gb36) (Nat.le_of_ble_eq_true rfl) (dk rfl) ?_
  rintro _ ⟨x38, rfl⟩
  refine WRX.ret ?_
  exact reti_ok X hr hlk rfl (dk rfl) ⟨⟨_, rfl⟩, J33⟩ (Nat.le_of_ble_eq_true rfl) (Nat.le_of_ble_eq_true rfl)
set_option maxHeartbeats 4000000 in
theorem FZ.c6_namesN (h : AH) (I : Tyg Γ h) {o0 : Nat} {kn : Int32} (T0 : BmT Γ o0 kn) (x1 : Int32) (hx1 : inN 6 x1) : CT la D cA B0 pa yX6_names cX6_names 2 (some .int) (rmD 3 0 0) [.ref o0, .int (x1)] h (RdO iP h) := by
  refine CT_of (by decide +kernel) (Nat.le_of_ble_eq_true rfl) ?_
  intro p e s m args below meth c X E hr hlk hnm
  have dk : ∀ {pc : Nat} {q : Instr × Nat}, lkd DX6_names pc = some q → decode cX6_names pc = .ok q := lkd_ok DX6_names_ok
  obtain ⟨S1, A2, sp3, os4, wd5, ow6, sa7, oa8, bs9, bc10, sh11, ss12, as13, gb14, gS15, gA16, sl17, sT18, al19, aT20, tsp21, tos22, twd23, tow24, tsa25, toa26, tbs27, tbc28, tsh29⟩ := id T0
  iterate 2 refine fst1_ok X (dk rfl) rfl ?_
  refine callVR_ok (ci := 8) (T := TX6) (N := 14) (av := [.int _]) (r := []) X E (c6_termOfN _ (TI.rf I).1 T0 _ hx1) lkX6_termOf mlX6_69 lmX6_termOf lpX6_termOf ⟨Nat.le_of_ble_eq_true rfl, Nat.le_of_ble_eq_true rfl⟩ ⟨Nat.le_of_ble_eq_true rfl, Nat.le_of_ble_eq_true rfl⟩ rfl (bm_cell (TI.rf I).1 gb14) (Nat.le_of_ble_eq_true rfl) (dk rfl) ?_
  rintro _ ⟨b30, rfl, tb31⟩
  obtain ⟨hL33, q32, gb34, gl35⟩ := id tb31
  refine callVR_ok (ci := 7) (T := TX5) (N := 3) (av := []) (r := []) X E (c5_allNames _ (TI.rf I).1 tb31) lkX5_allNames mlX6_140 lmX5_allNames lpX5_allNames ⟨Nat.le_of_ble_eq_true rfl, Nat.le_of_ble_eq_true rfl⟩ ⟨Nat.le_of_ble_eq_true rfl, Nat.le_of_ble_eq_true rfl⟩ rfl (tm_cell (TI.rf I).1 gb34) (Nat.le_of_ble_eq_true rfl) (dk rfl) ?_
  rintro _ ⟨x36, rfl⟩
  exact reti_ok X hr hlk rfl (dk rfl) ⟨⟨_, rfl⟩, rfl⟩ (Nat.le_of_ble_eq_true rfl) (Nat.le_of_ble_eq_true rfl)
set_option maxHeartbeats 4000000 in
theorem FZ.c6_letter (h : AH) (hl : la.stackTraces = false) (I : Tyg Γ h) {o0 : Nat} {kn : Int32} (T0 : BmT Γ o0 kn) (x1 : Int32) (x2 : Int32) : CTX la D cA B0 pa yX6_letter cX6_letter 3 (some .int) (rmD 7 1 6) [.ref o0, .int (x1), .int (x2)] h (WrO Γ iP h) (pxW [ioobe] Γ h) := by
  refine CTX_of (by decide +kernel) (Nat.le_of_ble_eq_true rfl) ?_
  intro p e s m args below meth c X E hr hlk hnm ht
  have dk : ∀ {pc : Nat} {q : Instr × Nat}, lkd DX6_letter pc = some q → decode cX6_letter pc = .ok q := lkd_ok DX6_letter_ok
  obtain ⟨S1, A2, sp3, os4, wd5, ow6, sa7, oa8, bs9, bc10, sh11, ss12, as13, gb14, gS15, gA16, sl17, sT18, al19, aT20, tsp21, tos22, twd23, tow24, tsa25, toa26, tbs27, tbc28, tsh29⟩ := id T0
  iterate 2 refine fst1_ok X (dk rfl) rfl ?_
  refine callVXW_ok (ci := 8) (T := TX6) (N := 14) (av := [.int _]) (r := []) X E (TI.rf I) ht hlk (c6_termOf _ hl (TI.rf I).1 T0 _) (by simp) lkX6_termOf mlX6_69 lmX6_termOf lpX6_termOf ⟨Nat.le_of_ble_eq_true rfl, Nat.le_of_ble_eq_true rfl⟩ ⟨Nat.le_of_ble_eq_true rfl, Nat.le_of_ble_eq_true rfl⟩ rfl (bm_cell (TI.rf I).1 gb14) (Nat.le_of_ble_eq_true rfl) (dk rfl) ?_
  rintro _ h32 ⟨b30, rfl, tb31⟩ J33
  refine fst1_ok X (dk rfl) rfl ?_
  obtain ⟨hL35, q34, gb36, gl37⟩ := id tb31
  refine callVR_ok (ci := 7) (T := TX5) (N := 3) (av := [.int _]) (r := []) X E (c5_letterAt _ J33.1 tb31 _) lkX5_letterAt mlX6_132 lmX5_letterAt lpX5_letterAt ⟨Nat.le_of_ble_eq_true rfl, Nat.le_of_ble_eq_true rfl⟩ ⟨Nat.le_of_ble_eq_true rfl, Nat.le_of_ble_eq_true rfl⟩ rfl (tm_cell J33.1 gb36) (Nat.le_of_ble_eq_true rfl) (dk rfl) ?_
  rintro _ ⟨x38, hx39, rfl⟩
  refine WRX.ret ?_
  exact reti_ok X hr hlk rfl (dk rfl) ⟨⟨_, rfl⟩, J33⟩ (Nat.le_of_ble_eq_true rfl) (Nat.le_of_ble_eq_true rfl)
set_option maxHeartbeats 4000000 in
theorem FZ.c6_sizeAt (h : AH) (hl : la.stackTraces = false) (I : Tyg Γ h) {o0 : Nat} {kn : Int32} (T0 : BmT Γ o0 kn) (x1 : Int32) (x2 : Int32) : CTX la D cA B0 pa yX6_sizeAt cX6_sizeAt 4 (some .int) (rmD 7 1 6) [.ref o0, .int (x1), .int (x2)] h (WrO Γ iP h) (pxW [ioobe] Γ h) := by
  refine CTX_of (by decide +kernel) (Nat.le_of_ble_eq_true rfl) ?_
  intro p e s m args below meth c X E hr hlk hnm ht
  have dk : ∀ {pc : Nat} {q : Instr × Nat}, lkd DX6_sizeAt pc = some q → decode cX6_sizeAt pc = .ok q := lkd_ok DX6_sizeAt_ok
  obtain ⟨S1, A2, sp3, os4, wd5, ow6, sa7, oa8, bs9, bc10, sh11, ss12, as13, gb14, gS15, gA16, sl17, sT18, al19, aT20, tsp21, tos22, twd23, tow24, tsa25, toa26, tbs27, tbc28, tsh29⟩ := id T0
  iterate 2 refine fst1_ok X (dk rfl) rfl ?_
  refine callVXW_ok (ci := 8) (T := TX6) (N := 14) (av := [.int _]) (r := []) X E (TI.rf I) ht hlk (c6_termOf _ hl (TI.rf I).1 T0 _) (by simp) lkX6_termOf mlX6_69 lmX6_termOf lpX6_termOf ⟨Nat.le_of_ble_eq_true rfl, Nat.le_of_ble_eq_true rfl⟩ ⟨Nat.le_of_ble_eq_true rfl, Nat.le_of_ble_eq_true rfl⟩ rfl (bm_cell (TI.rf I).1 gb14) (Nat.le_of_ble_eq_true rfl) (dk rfl) ?_
  rintro _ h32 ⟨b30, rfl, tb31⟩ J33
  iterate 3 refine fst1_ok X (dk rfl) rfl ?_
  obtain ⟨hL35, q34, gb36, gl37⟩ := id tb31
  refine callVR_ok (ci := 7) (T := TX5) (N := 3) (av := [.int _]) (r := []) X E (c5_hasPlace _ J33.1 tb31 _) lkX5_hasPlace mlX6_115 lmX5_hasPlace lpX5_hasPlace ⟨Nat.le_of_ble_eq_true rfl, Nat.le_of_ble_eq_true rfl⟩ ⟨Nat.le_of_ble_eq_true rfl, Nat.le_of_ble_eq_true rfl⟩ rfl (tm_cell J33.1 gb36) (Nat.le_of_ble_eq_true rfl) (dk rfl) ?_
  rintro _ ⟨b38, rfl⟩
  refine br_ok X (dk rfl) rfl (show ((11 : Nat) : Int) + 13 = ((24 : Nat) : Int) from rfl) (fun c39 => ?_) (fun c40 => ?_)
  · refine fst1_ok X (dk rfl) rfl ?_
    refine WRX.ret ?_
    exact reti_ok X hr hlk rfl (dk rfl) ⟨⟨_, rfl⟩, J33⟩ (Nat.le_of_ble_eq_true rfl) (Nat.le_of_ble_eq_true rfl)
  · iterate 2 refine fst1_ok X (dk rfl) rfl ?_
    refine callVR_ok (ci := 7) (T := TX5) (N := 3) (av := [.int _]) (r := []) X E (c5_endOf _ J33.1 tb31 _) lkX5_endOf mlX6_122 lmX5_endOf lpX5_endOf ⟨Nat.le_of_ble_eq_true rfl, Nat.le_of_ble_eq_true rfl⟩ ⟨Nat.le_of_ble_eq_true rfl, Nat.le_of_ble_eq_true rfl⟩ rfl (tm_cell J33.1 gb36) (Nat.le_of_ble_eq_true rfl) (dk rfl) ?_
    rintro _ ⟨x41, rfl⟩
    iterate 2 refine fst1_ok X (dk rfl) rfl ?_
    refine br_ok X (dk rfl) rfl (show ((21 : Nat) : Int) + 5 = ((26 : Nat) : Int) from rfl) (fun _ => ?_) (fun q => absurd trivial q)
    refine WRX.ret ?_
    exact reti_ok X hr hlk rfl (dk rfl) ⟨⟨_, rfl⟩, J33⟩ (Nat.le_of_ble_eq_true rfl) (Nat.le_of_ble_eq_true rfl)
set_option maxHeartbeats 4000000 in
theorem FZ.c6_count (h : AH) (hl : la.stackTraces = false) (I : Tyg Γ h) {o0 : Nat} {kn : Int32} (T0 : BmT Γ o0 kn) (x1 : Int32) (x2 : Int32) : CTX la D cA B0 pa yX6_count cX6_count 4 (some .int) (rmD 7 2 12) [.ref o0, .int (x1), .int (x2)] h (WrO Γ iP h) (pxW [ioobe, iae] Γ h) := by
  refine CTX_of (by decide +kernel) (Nat.le_of_ble_eq_true rfl) ?_
  intro p e s m args below meth c X E hr hlk hnm ht
  have dk : ∀ {pc : Nat} {q : Instr × Nat}, lkd DX6_count pc = some q → decode cX6_count pc = .ok q := lkd_ok DX6_count_ok
  obtain ⟨S1, A2, sp3, os4, wd5, ow6, sa7, oa8, bs9, bc10, sh11, ss12, as13, gb14, gS15, gA16, sl17, sT18, al19, aT20, tsp21, tos22, twd23, tow24, tsa25, toa26, tbs27, tbc28, tsh29⟩ := id T0
  iterate 2 refine fst1_ok X (dk rfl) rfl ?_
  refine callVXW_ok (ci := 8) (T := TX6) (N := 14) (av := [.int _]) (r := []) X E (TI.rf I) ht hlk (c6_termOf _ hl (TI.rf I).1 T0 _) (by simp) lkX6_termOf mlX6_69 lmX6_termOf lpX6_termOf ⟨Nat.le_of_ble_eq_true rfl, Nat.le_of_ble_eq_true rfl⟩ ⟨Nat.le_of_ble_eq_true rfl, Nat.le_of_ble_eq_true rfl⟩ rfl (bm_cell (TI.rf I).1 gb14) (Nat.le_of_ble_eq_true rfl) (dk rfl) ?_
  rintro _ h32 ⟨b30, rfl, tb31⟩ J33
  iterate 2 refine fst1_ok X (dk rfl) rfl ?_
  refine callSXW_ok (av := [.int _]) (r := []) X E J33 ht hlk (c6_needName _ hl J33.1 _) (by simp) lkX6_needName mlX6_73 lsX6_needName ⟨Nat.le_of_ble_eq_true rfl, Nat.le_of_ble_eq_true rfl⟩ ⟨Nat.le_of_ble_eq_true rfl, Nat.le_of_ble_eq_true rfl⟩ (Nat.le_of_ble_eq_true rfl) (dk rfl) ?_
  rintro _ h35 ⟨rfl, hN34⟩ J36
  iterate 2 refine fst1_ok X (dk rfl) rfl ?_
  obtain ⟨hL38, q37, gb39, gl40⟩ := id tb31
  refine callVR_ok (ci := 7) (T := TX5) (N := 3) (av := [.int _]) (r := []) X E (c5_placesOf _ J36.1 tb31 _) lkX5_placesOf mlX6_129 lmX5_placesOf lpX5_placesOf ⟨Nat.le_of_ble_eq_true rfl, Nat.le_of_ble_eq_true rfl⟩ ⟨Nat.le_of_ble_eq_true rfl, Nat.le_of_ble_eq_true rfl⟩ rfl (tm_cell J36.1 gb39) (Nat.le_of_ble_eq_true rfl) (dk rfl) ?_
  rintro _ ⟨x41, rfl⟩
  refine WRX.ret ?_
  exact reti_ok X hr hlk rfl (dk rfl) ⟨⟨_, rfl⟩, J36⟩ (Nat.le_of_ble_eq_true rfl) (Nat.le_of_ble_eq_true rfl)
set_option maxHeartbeats 4000000 in
theorem FZ.c6_find (h : AH) (hl : la.stackTraces = false) (I : Tyg Γ h) {o0 : Nat} {kn : Int32} (T0 : BmT Γ o0 kn) (x1 : Int32) (x2 : Int32) : CTX la D cA B0 pa yX6_find cX6_find 6 (some .int) (rmD 7 2 12) [.ref o0, .int (x1), .int (x2)] h (WrO Γ iP h) (pxW [ioobe] Γ h) := by
  refine CTX_of (by decide +kernel) (Nat.le_of_ble_eq_true rfl) ?_
  intro p e s m args below meth c X E hr hlk hnm ht
  have dk : ∀ {pc : Nat} {q : Instr × Nat}, lkd DX6_find pc = some q → decode cX6_find pc = .ok q := lkd_ok DX6_find_ok
  obtain ⟨S1, A2, sp3, os4, wd5, ow6, sa7, oa8, bs9, bc10, sh11, ss12, as13, gb14, gS15, gA16, sl17, sT18, al19, aT20, tsp21, tos22, twd23, tow24, tsa25, toa26, tbs27, tbc28, tsh29⟩ := id T0
  iterate 2 refine fst1_ok X (dk rfl) rfl ?_
  refine callVXW_ok (ci := 8) (T := TX6) (N := 14) (av := [.int _]) (r := []) X E (TI.rf I) ht hlk (c6_termOf _ hl (TI.rf I).1 T0 _) (by simp) lkX6_termOf mlX6_69 lmX6_termOf lpX6_termOf ⟨Nat.le_of_ble_eq_true rfl, Nat.le_of_ble_eq_true rfl⟩ ⟨Nat.le_of_ble_eq_true rfl, Nat.le_of_ble_eq_true rfl⟩ rfl (bm_cell (TI.rf I).1 gb14) (Nat.le_of_ble_eq_true rfl) (dk rfl) ?_
  rintro _ h32 ⟨b30, rfl, tb31⟩ J33
  iterate 3 refine fst1_ok X (dk rfl) rfl ?_
  refine callVXW_ok (ci := 8) (T := TX6) (N := 14) (av := [.int _]) (r := []) X E J33 ht hlk (c6_termOf _ hl J33.1 T0 _) (by simp) lkX6_termOf mlX6_69 lmX6_termOf lpX6_termOf ⟨Nat.le_of_ble_eq_true rfl, Nat.le_of_ble_eq_true rfl⟩ ⟨Nat.le_of_ble_eq_true rfl, Nat.le_of_ble_eq_true rfl⟩ rfl (bm_cell J33.1 gb14) (Nat.le_of_ble_eq_true rfl) (dk rfl) ?_
  rintro _ h36 ⟨b34, rfl, tb35⟩ J37
  iterate 3 refine fst1_ok X (dk rfl) rfl ?_
  have L16 : ∀ j38 : Int32, ∀ (h41 : AH) (J42 : TI Γ h h41) (l : List (Nat × Value)), lsel l [5, 4, 3] = [(5, .int (j38)), (4, .ref b34), (3, .ref b30)] → WRX p la e (rmD 7 2 12) s m args below meth c D cA B0 6 (WrO Γ iP h) (pxW [ioobe] Γ h) 16 l [] h41 2 12 := by
    refine loopUp (fun j38 ih16 => ?_)
    intro h41 J42 l hl
    refine WS.sel [5, 4, 3] hl ?_
    iterate 2 refine fst1_ok X (dk rfl) rfl ?_
    obtain ⟨hL44, q43, gb45, gl46⟩ := id tb31
    refine callVR_ok (ci := 7) (T := TX5) (N := 3) (av := []) (r := [_]) X E (c5_length _ J42.1 tb31) lkX5_length mlX6_76 lmX5_length lpX5_length ⟨Nat.le_of_ble_eq_true rfl, Nat.le_of_ble_eq_true rfl⟩ ⟨Nat.le_of_ble_eq_true rfl, Nat.le_of_ble_eq_true rfl⟩ rfl (tm_cell J42.1 gb45) (Nat.le_of_ble_eq_true rfl) (dk rfl) ?_
    rintro _ ⟨n47, hn48, rfl⟩
    refine br_ok X (dk rfl) rfl (show ((22 : Nat) : Int) + 24 = ((46 : Nat) : Int) from rfl) (fun c49 => ?_) (fun c50 => ?_)
    · refine fst1_ok X (dk rfl) rfl ?_
      refine WRX.ret ?_
      exact reti_ok X hr hlk rfl (dk rfl) ⟨⟨_, rfl⟩, J42⟩ (Nat.le_of_ble_eq_true rfl) (Nat.le_of_ble_eq_true rfl)
    · iterate 4 refine fst1_ok X (dk rfl) rfl ?_
      refine callVR_ok (ci := 7) (T := TX5) (N := 3) (av := [.int _, .ref _, .int _]) (r := []) X E (c5_isLikeAt _ J42.1 tb31 _ tb35 _) lkX5_isLikeAt mlX6_207 lmX5_isLikeAt lpX5_isLikeAt ⟨Nat.le_of_ble_eq_true rfl, Nat.le_of_ble_eq_true rfl⟩ ⟨Nat.le_of_ble_eq_true rfl, Nat.le_of_ble_eq_true rfl⟩ rfl (tm_cell J42.1 gb45) (Nat.le_of_ble_eq_true rfl) (dk rfl) ?_
      rintro _ ⟨b51, rfl⟩
      refine br_ok X (dk rfl) rfl (show ((34 : Nat) : Int) + 6 = ((40 : Nat) : Int) from rfl) (fun c52 => ?_) (fun c53 => ?_)
      · refine fst1_ok X (dk rfl) rfl ?_
        refine br_ok X (dk rfl) rfl (show ((43 : Nat) : Int) + (-27) = ((16 : Nat) : Int) from rfl) (fun _ => ?_) (fun q => absurd trivial q)
        exact ih16 _ (nlt_of c50) h41 J42 _ rfl
      · refine fst1_ok X (dk rfl) rfl ?_
        refine WRX.ret ?_
        exact reti_ok X hr hlk rfl (dk rfl) ⟨⟨_, rfl⟩, J42⟩ (Nat.le_of_ble_eq_true rfl) (Nat.le_of_ble_eq_true rfl)
  exact L16 _ h36 J37 _ rfl
set_option maxHeartbeats 4000000 in
theorem FZ.c6_differ (h : AH) (hl : la.stackTraces = false) (I : Tyg Γ h) {o0 : Nat} {kn : Int32} (T0 : BmT Γ o0 kn) (x1 : Int32) (x2 : Int32) : CTX la D cA B0 pa yX6_differ cX6_differ 6 (some .int) (rmD 7 2 12) [.ref o0, .int (x1), .int (x2)] h (WrO Γ iP h) (pxW [ioobe] Γ h) := by
  refine CTX_of (by decide +kernel) (Nat.le_of_ble_eq_true rfl) ?_
  intro p e s m args below meth c X E hr hlk hnm ht
  have dk : ∀ {pc : Nat} {q : Instr × Nat}, lkd DX6_differ pc = some q → decode cX6_differ pc = .ok q := lkd_ok DX6_differ_ok
  obtain ⟨S1, A2, sp3, os4, wd5, ow6, sa7, oa8, bs9, bc10, sh11, ss12, as13, gb14, gS15, gA16, sl17, sT18, al19, aT20, tsp21, tos22, twd23, tow24, tsa25, toa26, tbs27, tbc28, tsh29⟩ := id T0
  iterate 2 refine fst1_ok X (dk rfl) rfl ?_
  refine callVXW_ok (ci := 8) (T := TX6) (N := 14) (av := [.int _]) (r := []) X E (TI.rf I) ht hlk (c6_termOf _ hl (TI.rf I).1 T0 _) (by simp) lkX6_termOf mlX6_69 lmX6_termOf lpX6_termOf ⟨Nat.le_of_ble_eq_true rfl, Nat.le_of_ble_eq_true rfl⟩ ⟨Nat.le_of_ble_eq_true rfl, Nat.le_of_ble_eq_true rfl⟩ rfl (bm_cell (TI.rf I).1 gb14) (Nat.le_of_ble_eq_true rfl) (dk rfl) ?_
  rintro _ h32 ⟨b30, rfl, tb31⟩ J33
  iterate 3 refine fst1_ok X (dk rfl) rfl ?_
  refine callVXW_ok (ci := 8) (T := TX6) (N := 14) (av := [.int _]) (r := []) X E J33 ht hlk (c6_termOf _ hl J33.1 T0 _) (by simp) lkX6_termOf mlX6_69 lmX6_termOf lpX6_termOf ⟨Nat.le_of_ble_eq_true rfl, Nat.le_of_ble_eq_true rfl⟩ ⟨Nat.le_of_ble_eq_true rfl, Nat.le_of_ble_eq_true rfl⟩ rfl (bm_cell J33.1 gb14) (Nat.le_of_ble_eq_true rfl) (dk rfl) ?_
  rintro _ h36 ⟨b34, rfl, tb35⟩ J37
  iterate 3 refine fst1_ok X (dk rfl) rfl ?_
  have L16 : ∀ j38 : Int32, ∀ (h41 : AH) (J42 : TI Γ h h41) (l : List (Nat × Value)), lsel l [5, 4, 3] = [(5, .int (j38)), (4, .ref b34), (3, .ref b30)] → WRX p la e (rmD 7 2 12) s m args below meth c D cA B0 6 (WrO Γ iP h) (pxW [ioobe] Γ h) 16 l [] h41 2 12 := by
    refine loopUp (fun j38 ih16 => ?_)
    intro h41 J42 l hl
    refine WS.sel [5, 4, 3] hl ?_
    iterate 2 refine fst1_ok X (dk rfl) rfl ?_
    obtain ⟨hL44, q43, gb45, gl46⟩ := id tb31
    refine callVR_ok (ci := 7) (T := TX5) (N := 3) (av := []) (r := [_]) X E (c5_length _ J42.1 tb31) lkX5_length mlX6_76 lmX5_length lpX5_length ⟨Nat.le_of_ble_eq_true rfl, Nat.le_of_ble_eq_true rfl⟩ ⟨Nat.le_of_ble_eq_true rfl, Nat.le_of_ble_eq_true rfl⟩ rfl (tm_cell J42.1 gb45) (Nat.le_of_ble_eq_true rfl) (dk rfl) ?_
    rintro _ ⟨n47, hn48, rfl⟩
    refine br_ok X (dk rfl) rfl (show ((22 : Nat) : Int) + 13 = ((35 : Nat) : Int) from rfl) (fun c49 => ?_) (fun c50 => ?_)
    · iterate 2 refine fst1_ok X (dk rfl) rfl ?_
      refine callVR_ok (ci := 7) (T := TX5) (N := 3) (av := [.int _]) (r := []) X E (c5_letterAt _ J42.1 tb31 _) lkX5_letterAt mlX6_132 lmX5_letterAt lpX5_letterAt ⟨Nat.le_of_ble_eq_true rfl, Nat.le_of_ble_eq_true rfl⟩ ⟨Nat.le_of_ble_eq_true rfl, Nat.le_of_ble_eq_true rfl⟩ rfl (tm_cell J42.1 gb45) (Nat.le_of_ble_eq_true rfl) (dk rfl) ?_
      rintro _ ⟨x51, hx52, rfl⟩
      iterate 2 refine fst1_ok X (dk rfl) rfl ?_
      obtain ⟨hL54, q53, gb55, gl56⟩ := id tb35
      refine callVR_ok (ci := 7) (T := TX5) (N := 3) (av := [.int _]) (r := [_]) X E (c5_letterAt _ J42.1 tb35 _) lkX5_letterAt mlX6_132 lmX5_letterAt lpX5_letterAt ⟨Nat.le_of_ble_eq_true rfl, Nat.le_of_ble_eq_true rfl⟩ ⟨Nat.le_of_ble_eq_true rfl, Nat.le_of_ble_eq_true rfl⟩ rfl (tm_cell J42.1 gb55) (Nat.le_of_ble_eq_true rfl) (dk rfl) ?_
      rintro _ ⟨x57, hx58, rfl⟩
      refine br_ok X (dk rfl) rfl (show ((48 : Nat) : Int) + 6 = ((54 : Nat) : Int) from rfl) (fun c59 => ?_) (fun c60 => ?_)
      · refine fst1_ok X (dk rfl) rfl ?_
        refine br_ok X (dk rfl) rfl (show ((57 : Nat) : Int) + (-41) = ((16 : Nat) : Int) from rfl) (fun _ => ?_) (fun q => absurd trivial q)
        exact ih16 _ c49 h41 J42 _ rfl
      · refine fst1_ok X (dk rfl) rfl ?_
        refine WRX.ret ?_
        exact reti_ok X hr hlk rfl (dk rfl) ⟨⟨_, rfl⟩, J42⟩ (Nat.le_of_ble_eq_true rfl) (Nat.le_of_ble_eq_true rfl)
    · iterate 2 refine fst1_ok X (dk rfl) rfl ?_
      obtain ⟨hL62, q61, gb63, gl64⟩ := id tb35
      refine callVR_ok (ci := 7) (T := TX5) (N := 3) (av := []) (r := [_]) X E (c5_length _ J42.1 tb35) lkX5_length mlX6_76 lmX5_length lpX5_length ⟨Nat.le_of_ble_eq_true rfl, Nat.le_of_ble_eq_true rfl⟩ ⟨Nat.le_of_ble_eq_true rfl, Nat.le_of_ble_eq_true rfl⟩ rfl (tm_cell J42.1 gb63) (Nat.le_of_ble_eq_true rfl) (dk rfl) ?_
      rintro _ ⟨n65, hn66, rfl⟩
      refine br_ok X (dk rfl) rfl (show ((32 : Nat) : Int) + 28 = ((60 : Nat) : Int) from rfl) (fun c67 => ?_) (fun c68 => ?_)
      · refine fst1_ok X (dk rfl) rfl ?_
        refine WRX.ret ?_
        exact reti_ok X hr hlk rfl (dk rfl) ⟨⟨_, rfl⟩, J42⟩ (Nat.le_of_ble_eq_true rfl) (Nat.le_of_ble_eq_true rfl)
      · iterate 2 refine fst1_ok X (dk rfl) rfl ?_
        refine callVR_ok (ci := 7) (T := TX5) (N := 3) (av := [.int _]) (r := []) X E (c5_letterAt _ J42.1 tb31 _) lkX5_letterAt mlX6_132 lmX5_letterAt lpX5_letterAt ⟨Nat.le_of_ble_eq_true rfl, Nat.le_of_ble_eq_true rfl⟩ ⟨Nat.le_of_ble_eq_true rfl, Nat.le_of_ble_eq_true rfl⟩ rfl (tm_cell J42.1 gb45) (Nat.le_of_ble_eq_true rfl) (dk rfl) ?_
        rintro _ ⟨x69, hx70, rfl⟩
        iterate 2 refine fst1_ok X (dk rfl) rfl ?_
        refine callVR_ok (ci := 7) (T := TX5) (N := 3) (av := [.int _]) (r := [_]) X E (c5_letterAt _ J42.1 tb35 _) lkX5_letterAt mlX6_132 lmX5_letterAt lpX5_letterAt ⟨Nat.le_of_ble_eq_true rfl, Nat.le_of_ble_eq_true rfl⟩ ⟨Nat.le_of_ble_eq_true rfl, Nat.le_of_ble_eq_true rfl⟩ rfl (tm_cell J42.1 gb63) (Nat.le_of_ble_eq_true rfl) (dk rfl) ?_
        rintro _ ⟨x71, hx72, rfl⟩
        refine br_ok X (dk rfl) rfl (show ((48 : Nat) : Int) + 6 = ((54 : Nat) : Int) from rfl) (fun c73 => ?_) (fun c74 => ?_)
        · refine fst1_ok X (dk rfl) rfl ?_
          refine br_ok X (dk rfl) rfl (show ((57 : Nat) : Int) + (-41) = ((16 : Nat) : Int) from rfl) (fun _ => ?_) (fun q => absurd trivial q)
          exact ih16 _ (nlt_of c68) h41 J42 _ rfl
        · refine fst1_ok X (dk rfl) rfl ?_
          refine WRX.ret ?_
          exact reti_ok X hr hlk rfl (dk rfl) ⟨⟨_, rfl⟩, J42⟩ (Nat.le_of_ble_eq_true rfl) (Nat.le_of_ble_eq_true rfl)
  exact L16 _ h36 J37 _ rfl
set_option maxHeartbeats 4000000 in
theorem FZ.c6_is (h : AH) (hl : la.stackTraces = false) (I : Tyg Γ h) {o0 : Nat} {kn : Int32} (T0 : BmT Γ o0 kn) (x1 : Int32) (x2 : Int32) (x3 : Int32) : CTX la D cA B0 pa yX6_is cX6_is 6 (some .boolean) (rmD 7 3 18) [.ref o0, .int (x1), .int (x2), .int (x3)] h (WrO Γ bP h) (pxW [ioobe, iae] Γ h) := by
  refine CTX_of (by decide +kernel) (Nat.le_of_ble_eq_true rfl) ?_
  intro p e s m args below meth c X E hr hlk hnm ht
  have dk : ∀ {pc : Nat} {q : Instr × Nat}, lkd DX6_is pc = some q → decode cX6_is pc = .ok q := lkd_ok DX6_is_ok
  obtain ⟨S1, A2, sp3, os4, wd5, ow6, sa7, oa8, bs9, bc10, sh11, ss12, as13, gb14, gS15, gA16, sl17, sT18, al19, aT20, tsp21, tos22, twd23, tow24, tsa25, toa26, tbs27, tbc28, tsh29⟩ := id T0
  iterate 2 refine fst1_ok X (dk rfl) rfl ?_
  refine callVXW_ok (ci := 8) (T := TX6) (N := 14) (av := [.int _]) (r := []) X E (TI.rf I) ht hlk (c6_termOf _ hl (TI.rf I).1 T0 _) (by simp) lkX6_termOf mlX6_69 lmX6_termOf lpX6_termOf ⟨Nat.le_of_ble_eq_true rfl, Nat.le_of_ble_eq_true rfl⟩ ⟨Nat.le_of_ble_eq_true rfl, Nat.le_of_ble_eq_true rfl⟩ rfl (bm_cell (TI.rf I).1 gb14) (Nat.le_of_ble_eq_true rfl) (dk rfl) ?_
  rintro _ h32 ⟨b30, rfl, tb31⟩ J33
  iterate 3 refine fst1_ok X (dk rfl) rfl ?_
  refine callVXW_ok (ci := 8) (T := TX6) (N := 14) (av := [.int _]) (r := []) X E J33 ht hlk (c6_termOf _ hl J33.1 T0 _) (by simp) lkX6_termOf mlX6_69 lmX6_termOf lpX6_termOf ⟨Nat.le_of_ble_eq_true rfl, Nat.le_of_ble_eq_true rfl⟩ ⟨Nat.le_of_ble_eq_true rfl, Nat.le_of_ble_eq_true rfl⟩ rfl (bm_cell J33.1 gb14) (Nat.le_of_ble_eq_true rfl) (dk rfl) ?_
  rintro _ h36 ⟨b34, rfl, tb35⟩ J37
  iterate 2 refine fst1_ok X (dk rfl) rfl ?_
  refine br_ok X (dk rfl) rfl (show ((15 : Nat) : Int) + 8 = ((23 : Nat) : Int) from rfl) (fun c38 => ?_) (fun c39 => ?_)
  · exact throwS_ok X E hl ht hlk xwX6_88 (List.mem_of_getElem? (i := 2) rfl) (dk rfl) (dk rfl) (dk rfl) (dk rfl) (dk rfl) ⟨Nat.le_of_ble_eq_true rfl, Nat.le_of_ble_eq_true rfl⟩ ⟨Nat.le_of_ble_eq_true rfl, Nat.le_of_ble_eq_true rfl⟩ ⟨(by simp), J37⟩
  · iterate 2 refine fst1_ok X (dk rfl) rfl ?_
    refine br_ok X (dk rfl) rfl (show ((20 : Nat) : Int) + 13 = ((33 : Nat) : Int) from rfl) (fun c40 => ?_) (fun c41 => ?_)
    · refine fst1_ok X (dk rfl) rfl ?_
      refine br_ok X (dk rfl) rfl (show ((34 : Nat) : Int) + 11 = ((45 : Nat) : Int) from rfl) (fun c42 => ?_) (fun c43 => ?_)
      · iterate 2 refine fst1_ok X (dk rfl) rfl ?_
        refine br_ok X (dk rfl) rfl (show ((47 : Nat) : Int) + 15 = ((62 : Nat) : Int) from rfl) (fun c44 => ?_) (fun c45 => ?_)
        · refine fst1_ok X (dk rfl) rfl ?_
          obtain ⟨dn47, rf48, hx46⟩ := bm_open J37.1 gb14
          refine getf_ok X flX6_24 (dk rfl) hx46 rfl ?_
          refine fst1_ok X (dk rfl) rfl ?_
          obtain ⟨hL50, q49, gb51, gl52⟩ := id tsp21
          refine callVW_ok (ci := 7) (T := TX5) (N := 3) (av := [.ref _]) (r := []) X E J37 (c5_becomePlainOf _ J37.1 tsp21 tb31) lkX5_becomePlainOf mlX6_148 lmX5_becomePlainOf lpX5_becomePlainOf ⟨Nat.le_of_ble_eq_true rfl, Nat.le_of_ble_eq_true rfl⟩ ⟨Nat.le_of_ble_eq_true rfl, Nat.le_of_ble_eq_true rfl⟩ rfl (tm_cell J37.1 gb51) (Nat.le_of_ble_eq_true rfl) (dk rfl) ?_
          rintro _ h53 rfl J54
          refine fst1_ok X (dk rfl) rfl ?_
          obtain ⟨dn56, rf57, hx55⟩ := bm_open J54.1 gb14
          refine getf_ok X flX6_28 (dk rfl) hx55 rfl ?_
          refine fst1_ok X (dk rfl) rfl ?_
          obtain ⟨hL59, q58, gb60, gl61⟩ := id tos22
          refine callVW_ok (ci := 7) (T := TX5) (N := 3) (av := [.ref _]) (r := []) X E J54 (c5_becomePlainOf _ J54.1 tos22 tb35) lkX5_becomePlainOf mlX6_148 lmX5_becomePlainOf lpX5_becomePlainOf ⟨Nat.le_of_ble_eq_true rfl, Nat.le_of_ble_eq_true rfl⟩ ⟨Nat.le_of_ble_eq_true rfl, Nat.le_of_ble_eq_true rfl⟩ rfl (tm_cell J54.1 gb60) (Nat.le_of_ble_eq_true rfl) (dk rfl) ?_
          rintro _ h62 rfl J63
          refine fst1_ok X (dk rfl) rfl ?_
          obtain ⟨dn65, rf66, hx64⟩ := bm_open J63.1 gb14
          refine getf_ok X flX6_24 (dk rfl) hx64 rfl ?_
          refine fst1_ok X (dk rfl) rfl ?_
          refine getf_ok X flX6_28 (dk rfl) hx64 rfl ?_
          refine callVR_ok (ci := 7) (T := TX5) (N := 3) (av := [.ref _]) (r := []) X E (c5_isLike _ J63.1 tsp21 tos22) lkX5_isLike mlX6_111 lmX5_isLike lpX5_isLike ⟨Nat.le_of_ble_eq_true rfl, Nat.le_of_ble_eq_true rfl⟩ ⟨Nat.le_of_ble_eq_true rfl, Nat.le_of_ble_eq_true rfl⟩ rfl (tm_cell J63.1 gb51) (Nat.le_of_ble_eq_true rfl) (dk rfl) ?_
          rintro _ ⟨b67, rfl⟩
          refine WRX.ret ?_
          exact reti_ok X hr hlk (bI_n b67) (dk rfl) ⟨⟨b67, rfl⟩, J63⟩ (Nat.le_of_ble_eq_true rfl) (Nat.le_of_ble_eq_true rfl)
        · refine fst1_ok X (dk rfl) rfl ?_
          obtain ⟨dn69, rf70, hx68⟩ := bm_open J37.1 gb14
          refine getf_ok X flX6_38 (dk rfl) hx68 rfl ?_
          iterate 2 refine fst1_ok X (dk rfl) rfl ?_
          obtain ⟨ar71, ts72, gb73, ga74, tl75, tt76⟩ := id tsa25
          refine callVW_ok (ci := 2) (T := TX0) (N := 1) (av := [.ref _, .ref _]) (r := []) X E J37 (c0_becomeMatch _ J37.1 tsa25 tb35 tb31) lkX0_becomeMatch mlX6_194 lmX0_becomeMatch lpX0_becomeMatch ⟨Nat.le_of_ble_eq_true rfl, Nat.le_of_ble_eq_true rfl⟩ ⟨Nat.le_of_ble_eq_true rfl, Nat.le_of_ble_eq_true rfl⟩ rfl (is_cell J37.1 gb73) (Nat.le_of_ble_eq_true rfl) (dk rfl) ?_
          rintro _ h78 ⟨b77, rfl⟩ J79
          refine WRX.ret ?_
          exact reti_ok X hr hlk (bI_n b77) (dk rfl) ⟨⟨b77, rfl⟩, J79⟩ (Nat.le_of_ble_eq_true rfl) (Nat.le_of_ble_eq_true rfl)
      · iterate 2 refine fst1_ok X (dk rfl) rfl ?_
        obtain ⟨hL81, q80, gb82, gl83⟩ := id tb31
        refine callVR_ok (ci := 7) (T := TX5) (N := 3) (av := [.ref _]) (r := []) X E (c5_isLike _ J37.1 tb31 tb35) lkX5_isLike mlX6_111 lmX5_isLike lpX5_isLike ⟨Nat.le_of_ble_eq_true rfl, Nat.le_of_ble_eq_true rfl⟩ ⟨Nat.le_of_ble_eq_true rfl, Nat.le_of_ble_eq_true rfl⟩ rfl (tm_cell J37.1 gb82) (Nat.le_of_ble_eq_true rfl) (dk rfl) ?_
        rintro _ ⟨b84, rfl⟩
        refine WRX.ret ?_
        exact reti_ok X hr hlk (bI_n b84) (dk rfl) ⟨⟨b84, rfl⟩, J37⟩ (Nat.le_of_ble_eq_true rfl) (Nat.le_of_ble_eq_true rfl)
    · exact throwS_ok X E hl ht hlk xwX6_88 (List.mem_of_getElem? (i := 2) rfl) (dk rfl) (dk rfl) (dk rfl) (dk rfl) (dk rfl) ⟨Nat.le_of_ble_eq_true rfl, Nat.le_of_ble_eq_true rfl⟩ ⟨Nat.le_of_ble_eq_true rfl, Nat.le_of_ble_eq_true rfl⟩ ⟨(by simp), J37⟩
set_option maxHeartbeats 4000000 in
theorem FZ.c6_can (h : AH) (hl : la.stackTraces = false) (I : Tyg Γ h) {o0 : Nat} {kn : Int32} (T0 : BmT Γ o0 kn) (x1 : Int32) (x2 : Int32) (x3 : Int32) : CTX la D cA B0 pa yX6_can cX6_can 6 (some .boolean) (rmD 7 3 18) [.ref o0, .int (x1), .int (x2), .int (x3)] h (WrO Γ bP h) (pxW [ioobe, iae] Γ h) := by
  refine CTX_of (by decide +kernel) (Nat.le_of_ble_eq_true rfl) ?_
  intro p e s m args below meth c X E hr hlk hnm ht
  have dk : ∀ {pc : Nat} {q : Instr × Nat}, lkd DX6_can pc = some q → decode cX6_can pc = .ok q := lkd_ok DX6_can_ok
  obtain ⟨S1, A2, sp3, os4, wd5, ow6, sa7, oa8, bs9, bc10, sh11, ss12, as13, gb14, gS15, gA16, sl17, sT18, al19, aT20, tsp21, tos22, twd23, tow24, tsa25, toa26, tbs27, tbc28, tsh29⟩ := id T0
  iterate 2 refine fst1_ok X (dk rfl) rfl ?_
  refine callVXW_ok (ci := 8) (T := TX6) (N := 14) (av := [.int _]) (r := []) X E (TI.rf I) ht hlk (c6_termOf _ hl (TI.rf I).1 T0 _) (by simp) lkX6_termOf mlX6_69 lmX6_termOf lpX6_termOf ⟨Nat.le_of_ble_eq_true rfl, Nat.le_of_ble_eq_true rfl⟩ ⟨Nat.le_of_ble_eq_true rfl, Nat.le_of_ble_eq_true rfl⟩ rfl (bm_cell (TI.rf I).1 gb14) (Nat.le_of_ble_eq_true rfl) (dk rfl) ?_
  rintro _ h32 ⟨b30, rfl, tb31⟩ J33
  iterate 3 refine fst1_ok X (dk rfl) rfl ?_
  refine callVXW_ok (ci := 8) (T := TX6) (N := 14) (av := [.int _]) (r := []) X E J33 ht hlk (c6_termOf _ hl J33.1 T0 _) (by simp) lkX6_termOf mlX6_69 lmX6_termOf lpX6_termOf ⟨Nat.le_of_ble_eq_true rfl, Nat.le_of_ble_eq_true rfl⟩ ⟨Nat.le_of_ble_eq_true rfl, Nat.le_of_ble_eq_true rfl⟩ rfl (bm_cell J33.1 gb14) (Nat.le_of_ble_eq_true rfl) (dk rfl) ?_
  rintro _ h36 ⟨b34, rfl, tb35⟩ J37
  iterate 2 refine fst1_ok X (dk rfl) rfl ?_
  refine br_ok X (dk rfl) rfl (show ((15 : Nat) : Int) + 18 = ((33 : Nat) : Int) from rfl) (fun c38 => ?_) (fun c39 => ?_)
  · refine fst1_ok X (dk rfl) rfl ?_
    refine br_ok X (dk rfl) rfl (show ((34 : Nat) : Int) + 17 = ((51 : Nat) : Int) from rfl) (fun c40 => ?_) (fun c41 => ?_)
    · refine fst1_ok X (dk rfl) rfl ?_
      obtain ⟨dn43, rf44, hx42⟩ := bm_open J37.1 gb14
      refine getf_ok X flX6_55 (dk rfl) hx42 rfl ?_
      iterate 2 refine fst1_ok X (dk rfl) rfl ?_
      obtain ⟨bo45, co46, ho47, st48, pr49, gb50, tb51, gc52, gh53, gs54, tp55⟩ := id tbc28
      refine callVW_ok (ci := 3) (T := TX1) (N := 5) (av := [.ref _, .ref _]) (r := []) X E J37 (c1_makeAlike _ J37.1 tbc28 tb31 tb35) lkX1_makeAlike mlX6_189 lmX1_makeAlike lpX1_makeAlike ⟨Nat.le_of_ble_eq_true rfl, Nat.le_of_ble_eq_true rfl⟩ ⟨Nat.le_of_ble_eq_true rfl, Nat.le_of_ble_eq_true rfl⟩ rfl (is_cell J37.1 gb50) (Nat.le_of_ble_eq_true rfl) (dk rfl) ?_
      rintro _ h57 ⟨b56, rfl⟩ J58
      refine WRX.ret ?_
      exact reti_ok X hr hlk (bI_n b56) (dk rfl) ⟨⟨b56, rfl⟩, J58⟩ (Nat.le_of_ble_eq_true rfl) (Nat.le_of_ble_eq_true rfl)
    · refine fst1_ok X (dk rfl) rfl ?_
      obtain ⟨dn60, rf61, hx59⟩ := bm_open J37.1 gb14
      refine getf_ok X flX6_48 (dk rfl) hx59 rfl ?_
      iterate 2 refine fst1_ok X (dk rfl) rfl ?_
      obtain ⟨bo62, st63, pr64, gb65, tb66, gs67, tp68⟩ := id tbs27
      refine callVW_ok (ci := 6) (T := TX4) (N := 5) (av := [.ref _, .ref _]) (r := []) X E J37 (c4_makeAlike _ J37.1 tbs27 tb31 tb35) lkX4_makeAlike mlX6_185 lmX4_makeAlike lpX4_makeAlike ⟨Nat.le_of_ble_eq_true rfl, Nat.le_of_ble_eq_true rfl⟩ ⟨Nat.le_of_ble_eq_true rfl, Nat.le_of_ble_eq_true rfl⟩ rfl (st_cell J37.1 gb65) (Nat.le_of_ble_eq_true rfl) (dk rfl) ?_
      rintro _ h70 ⟨b69, rfl⟩ J71
      refine br_ok X (dk rfl) rfl (show ((48 : Nat) : Int) + 14 = ((62 : Nat) : Int) from rfl) (fun _ => ?_) (fun q => absurd trivial q)
      refine WRX.ret ?_
      exact reti_ok X hr hlk (bI_n b69) (dk rfl) ⟨⟨b69, rfl⟩, J71⟩ (Nat.le_of_ble_eq_true rfl) (Nat.le_of_ble_eq_true rfl)
  · iterate 2 refine fst1_ok X (dk rfl) rfl ?_
    refine br_ok X (dk rfl) rfl (show ((20 : Nat) : Int) + 13 = ((33 : Nat) : Int) from rfl) (fun c72 => ?_) (fun c73 => ?_)
    · refine fst1_ok X (dk rfl) rfl ?_
      refine br_ok X (dk rfl) rfl (show ((34 : Nat) : Int) + 17 = ((51 : Nat) : Int) from rfl) (fun c74 => ?_) (fun c75 => ?_)
      · refine fst1_ok X (dk rfl) rfl ?_
        obtain ⟨dn77, rf78, hx76⟩ := bm_open J37.1 gb14
        refine getf_ok X flX6_55 (dk rfl) hx76 rfl ?_
        iterate 2 refine fst1_ok X (dk rfl) rfl ?_
        obtain ⟨bo79, co80, ho81, st82, pr83, gb84, tb85, gc86, gh87, gs88, tp89⟩ := id tbc28
        refine callVW_ok (ci := 3) (T := TX1) (N := 5) (av := [.ref _, .ref _]) (r := []) X E J37 (c1_makeAlike _ J37.1 tbc28 tb31 tb35) lkX1_makeAlike mlX6_189 lmX1_makeAlike lpX1_makeAlike ⟨Nat.le_of_ble_eq_true rfl, Nat.le_of_ble_eq_true rfl⟩ ⟨Nat.le_of_ble_eq_true rfl, Nat.le_of_ble_eq_true rfl⟩ rfl (is_cell J37.1 gb84) (Nat.le_of_ble_eq_true rfl) (dk rfl) ?_
        rintro _ h91 ⟨b90, rfl⟩ J92
        refine WRX.ret ?_
        exact reti_ok X hr hlk (bI_n b90) (dk rfl) ⟨⟨b90, rfl⟩, J92⟩ (Nat.le_of_ble_eq_true rfl) (Nat.le_of_ble_eq_true rfl)
      · refine fst1_ok X (dk rfl) rfl ?_
        obtain ⟨dn94, rf95, hx93⟩ := bm_open J37.1 gb14
        refine getf_ok X flX6_48 (dk rfl) hx93 rfl ?_
        iterate 2 refine fst1_ok X (dk rfl) rfl ?_
        obtain ⟨bo96, st97, pr98, gb99, tb100, gs101, tp102⟩ := id tbs27
        refine callVW_ok (ci := 6) (T := TX4) (N := 5) (av := [.ref _, .ref _]) (r := []) X E J37 (c4_makeAlike _ J37.1 tbs27 tb31 tb35) lkX4_makeAlike mlX6_185 lmX4_makeAlike lpX4_makeAlike ⟨Nat.le_of_ble_eq_true rfl, Nat.le_of_ble_eq_true rfl⟩ ⟨Nat.le_of_ble_eq_true rfl, Nat.le_of_ble_eq_true rfl⟩ rfl (st_cell J37.1 gb99) (Nat.le_of_ble_eq_true rfl) (dk rfl) ?_
        rintro _ h104 ⟨b103, rfl⟩ J105
        refine br_ok X (dk rfl) rfl (show ((48 : Nat) : Int) + 14 = ((62 : Nat) : Int) from rfl) (fun _ => ?_) (fun q => absurd trivial q)
        refine WRX.ret ?_
        exact reti_ok X hr hlk (bI_n b103) (dk rfl) ⟨⟨b103, rfl⟩, J105⟩ (Nat.le_of_ble_eq_true rfl) (Nat.le_of_ble_eq_true rfl)
    · exact throwS_ok X E hl ht hlk xwX6_88 (List.mem_of_getElem? (i := 1) rfl) (dk rfl) (dk rfl) (dk rfl) (dk rfl) (dk rfl) ⟨Nat.le_of_ble_eq_true rfl, Nat.le_of_ble_eq_true rfl⟩ ⟨Nat.le_of_ble_eq_true rfl, Nat.le_of_ble_eq_true rfl⟩ ⟨(by simp), J37⟩
set_option maxHeartbeats 4000000 in
theorem FZ.c6_steps (h : AH) (hl : la.stackTraces = false) (I : Tyg Γ h) {o0 : Nat} {kn : Int32} (T0 : BmT Γ o0 kn) (x1 : Int32) (x2 : Int32) : CTX la D cA B0 pa yX6_steps cX6_steps 5 (some .int) (rmD 7 2 12) [.ref o0, .int (x1), .int (x2)] h (WrO Γ iP h) (pxW [ioobe] Γ h) := by
  refine CTX_of (by decide +kernel) (Nat.le_of_ble_eq_true rfl) ?_
  intro p e s m args below meth c X E hr hlk hnm ht
  have dk : ∀ {pc : Nat} {q : Instr × Nat}, lkd DX6_steps pc = some q → decode cX6_steps pc = .ok q := lkd_ok DX6_steps_ok
  obtain ⟨S1, A2, sp3, os4, wd5, ow6, sa7, oa8, bs9, bc10, sh11, ss12, as13, gb14, gS15, gA16, sl17, sT18, al19, aT20, tsp21, tos22, twd23, tow24, tsa25, toa26, tbs27, tbc28, tsh29⟩ := id T0
  iterate 2 refine fst1_ok X (dk rfl) rfl ?_
  refine callVXW_ok (ci := 8) (T := TX6) (N := 14) (av := [.int _]) (r := []) X E (TI.rf I) ht hlk (c6_termOf _ hl (TI.rf I).1 T0 _) (by simp) lkX6_termOf mlX6_69 lmX6_termOf lpX6_termOf ⟨Nat.le_of_ble_eq_true rfl, Nat.le_of_ble_eq_true rfl⟩ ⟨Nat.le_of_ble_eq_true rfl, Nat.le_of_ble_eq_true rfl⟩ rfl (bm_cell (TI.rf I).1 gb14) (Nat.le_of_ble_eq_true rfl) (dk rfl) ?_
  rintro _ h32 ⟨b30, rfl, tb31⟩ J33
  iterate 3 refine fst1_ok X (dk rfl) rfl ?_
  refine callVXW_ok (ci := 8) (T := TX6) (N := 14) (av := [.int _]) (r := []) X E J33 ht hlk (c6_termOf _ hl J33.1 T0 _) (by simp) lkX6_termOf mlX6_69 lmX6_termOf lpX6_termOf ⟨Nat.le_of_ble_eq_true rfl, Nat.le_of_ble_eq_true rfl⟩ ⟨Nat.le_of_ble_eq_true rfl, Nat.le_of_ble_eq_true rfl⟩ rfl (bm_cell J33.1 gb14) (Nat.le_of_ble_eq_true rfl) (dk rfl) ?_
  rintro _ h36 ⟨b34, rfl, tb35⟩ J37
  iterate 2 refine fst1_ok X (dk rfl) rfl ?_
  obtain ⟨dn39, rf40, hx38⟩ := bm_open J37.1 gb14
  refine getf_ok X flX6_48 (dk rfl) hx38 rfl ?_
  iterate 2 refine fst1_ok X (dk rfl) rfl ?_
  obtain ⟨bo41, st42, pr43, gb44, tb45, gs46, tp47⟩ := id tbs27
  refine callVW_ok (ci := 6) (T := TX4) (N := 5) (av := [.ref _, .ref _]) (r := []) X E J37 (c4_makeAlike _ J37.1 tbs27 tb31 tb35) lkX4_makeAlike mlX6_185 lmX4_makeAlike lpX4_makeAlike ⟨Nat.le_of_ble_eq_true rfl, Nat.le_of_ble_eq_true rfl⟩ ⟨Nat.le_of_ble_eq_true rfl, Nat.le_of_ble_eq_true rfl⟩ rfl (st_cell J37.1 gb44) (Nat.le_of_ble_eq_true rfl) (dk rfl) ?_
  rintro _ h49 ⟨b48, rfl⟩ J50
  iterate 2 refine fst1_ok X (dk rfl) rfl ?_
  obtain ⟨dn52, rf53, hx51⟩ := bm_open J50.1 gb14
  refine getf_ok X flX6_48 (dk rfl) hx51 rfl ?_
  refine callVR_ok (ci := 6) (T := TX4) (N := 5) (av := []) (r := []) X E (c4_stepsTaken _ J50.1 tbs27) lkX4_stepsTaken mlX6_213 lmX4_stepsTaken lpX4_stepsTaken ⟨Nat.le_of_ble_eq_true rfl, Nat.le_of_ble_eq_true rfl⟩ ⟨Nat.le_of_ble_eq_true rfl, Nat.le_of_ble_eq_true rfl⟩ rfl (st_cell J50.1 gb44) (Nat.le_of_ble_eq_true rfl) (dk rfl) ?_
  rintro _ ⟨x54, rfl⟩
  refine WRX.ret ?_
  exact reti_ok X hr hlk rfl (dk rfl) ⟨⟨_, rfl⟩, J50⟩ (Nat.le_of_ble_eq_true rfl) (Nat.le_of_ble_eq_true rfl)
set_option maxHeartbeats 4000000 in
theorem FZ.c6_stepsN (h : AH) (I : Tyg Γ h) {o0 : Nat} {kn : Int32} (T0 : BmT Γ o0 kn) (x1 : Int32) (hx1 : inN 6 x1) (x2 : Int32) (hx2 : inN 6 x2) : CT la D cA B0 pa yX6_steps cX6_steps 5 (some .int) (rmD 5 0 0) [.ref o0, .int (x1), .int (x2)] h (WrO Γ iP h) := by
  refine CT_of (by decide +kernel) (Nat.le_of_ble_eq_true rfl) ?_
  intro p e s m args below meth c X E hr hlk hnm
  have dk : ∀ {pc : Nat} {q : Instr × Nat}, lkd DX6_steps pc = some q → decode cX6_steps pc = .ok q := lkd_ok DX6_steps_ok
  obtain ⟨S1, A2, sp3, os4, wd5, ow6, sa7, oa8, bs9, bc10, sh11, ss12, as13, gb14, gS15, gA16, sl17, sT18, al19, aT20, tsp21, tos22, twd23, tow24, tsa25, toa26, tbs27, tbc28, tsh29⟩ := id T0
  iterate 2 refine fst1_ok X (dk rfl) rfl ?_
  refine callVR_ok (ci := 8) (T := TX6) (N := 14) (av := [.int _]) (r := []) X E (c6_termOfN _ (TI.rf I).1 T0 _ hx1) lkX6_termOf mlX6_69 lmX6_termOf lpX6_termOf ⟨Nat.le_of_ble_eq_true rfl, Nat.le_of_ble_eq_true rfl⟩ ⟨Nat.le_of_ble_eq_true rfl, Nat.le_of_ble_eq_true rfl⟩ rfl (bm_cell (TI.rf I).1 gb14) (Nat.le_of_ble_eq_true rfl) (dk rfl) ?_
  rintro _ ⟨b30, rfl, tb31⟩
  iterate 3 refine fst1_ok X (dk rfl) rfl ?_
  refine callVR_ok (ci := 8) (T := TX6) (N := 14) (av := [.int _]) (r := []) X E (c6_termOfN _ (TI.rf I).1 T0 _ hx2) lkX6_termOf mlX6_69 lmX6_termOf lpX6_termOf ⟨Nat.le_of_ble_eq_true rfl, Nat.le_of_ble_eq_true rfl⟩ ⟨Nat.le_of_ble_eq_true rfl, Nat.le_of_ble_eq_true rfl⟩ rfl (bm_cell (TI.rf I).1 gb14) (Nat.le_of_ble_eq_true rfl) (dk rfl) ?_
  rintro _ ⟨b32, rfl, tb33⟩
  iterate 2 refine fst1_ok X (dk rfl) rfl ?_
  obtain ⟨dn35, rf36, hx34⟩ := bm_open (TI.rf I).1 gb14
  refine getf_ok X flX6_48 (dk rfl) hx34 rfl ?_
  iterate 2 refine fst1_ok X (dk rfl) rfl ?_
  obtain ⟨bo37, st38, pr39, gb40, tb41, gs42, tp43⟩ := id tbs27
  refine callVW_ok (ci := 6) (T := TX4) (N := 5) (av := [.ref _, .ref _]) (r := []) X E (TI.rf I) (c4_makeAlike _ (TI.rf I).1 tbs27 tb31 tb33) lkX4_makeAlike mlX6_185 lmX4_makeAlike lpX4_makeAlike ⟨Nat.le_of_ble_eq_true rfl, Nat.le_of_ble_eq_true rfl⟩ ⟨Nat.le_of_ble_eq_true rfl, Nat.le_of_ble_eq_true rfl⟩ rfl (st_cell (TI.rf I).1 gb40) (Nat.le_of_ble_eq_true rfl) (dk rfl) ?_
  rintro _ h45 ⟨b44, rfl⟩ J46
  iterate 2 refine fst1_ok X (dk rfl) rfl ?_
  obtain ⟨dn48, rf49, hx47⟩ := bm_open J46.1 gb14
  refine getf_ok X flX6_48 (dk rfl) hx47 rfl ?_
  refine callVR_ok (ci := 6) (T := TX4) (N := 5) (av := []) (r := []) X E (c4_stepsTaken _ J46.1 tbs27) lkX4_stepsTaken mlX6_213 lmX4_stepsTaken lpX4_stepsTaken ⟨Nat.le_of_ble_eq_true rfl, Nat.le_of_ble_eq_true rfl⟩ ⟨Nat.le_of_ble_eq_true rfl, Nat.le_of_ble_eq_true rfl⟩ rfl (st_cell J46.1 gb40) (Nat.le_of_ble_eq_true rfl) (dk rfl) ?_
  rintro _ ⟨x50, rfl⟩
  exact reti_ok X hr hlk rfl (dk rfl) ⟨⟨_, rfl⟩, J46⟩ (Nat.le_of_ble_eq_true rfl) (Nat.le_of_ble_eq_true rfl)
set_option maxHeartbeats 4000000 in
theorem FZ.c6_why (h : AH) (hl : la.stackTraces = false) (I : Tyg Γ h) {o0 : Nat} {kn : Int32} (T0 : BmT Γ o0 kn) (x1 : Int32) (x2 : Int32) : CTX la D cA B0 pa yX6_why cX6_why 5 (some .int) (rmD 7 2 12) [.ref o0, .int (x1), .int (x2)] h (WrO Γ iP h) (pxW [ioobe] Γ h) := by
  refine CTX_of (by decide +kernel) (Nat.le_of_ble_eq_true rfl) ?_
  intro p e s m args below meth c X E hr hlk hnm ht
  have dk : ∀ {pc : Nat} {q : Instr × Nat}, lkd DX6_why pc = some q → decode cX6_why pc = .ok q := lkd_ok DX6_why_ok
  obtain ⟨S1, A2, sp3, os4, wd5, ow6, sa7, oa8, bs9, bc10, sh11, ss12, as13, gb14, gS15, gA16, sl17, sT18, al19, aT20, tsp21, tos22, twd23, tow24, tsa25, toa26, tbs27, tbc28, tsh29⟩ := id T0
  iterate 2 refine fst1_ok X (dk rfl) rfl ?_
  refine callVXW_ok (ci := 8) (T := TX6) (N := 14) (av := [.int _]) (r := []) X E (TI.rf I) ht hlk (c6_termOf _ hl (TI.rf I).1 T0 _) (by simp) lkX6_termOf mlX6_69 lmX6_termOf lpX6_termOf ⟨Nat.le_of_ble_eq_true rfl, Nat.le_of_ble_eq_true rfl⟩ ⟨Nat.le_of_ble_eq_true rfl, Nat.le_of_ble_eq_true rfl⟩ rfl (bm_cell (TI.rf I).1 gb14) (Nat.le_of_ble_eq_true rfl) (dk rfl) ?_
  rintro _ h32 ⟨b30, rfl, tb31⟩ J33
  iterate 3 refine fst1_ok X (dk rfl) rfl ?_
  refine callVXW_ok (ci := 8) (T := TX6) (N := 14) (av := [.int _]) (r := []) X E J33 ht hlk (c6_termOf _ hl J33.1 T0 _) (by simp) lkX6_termOf mlX6_69 lmX6_termOf lpX6_termOf ⟨Nat.le_of_ble_eq_true rfl, Nat.le_of_ble_eq_true rfl⟩ ⟨Nat.le_of_ble_eq_true rfl, Nat.le_of_ble_eq_true rfl⟩ rfl (bm_cell J33.1 gb14) (Nat.le_of_ble_eq_true rfl) (dk rfl) ?_
  rintro _ h36 ⟨b34, rfl, tb35⟩ J37
  iterate 2 refine fst1_ok X (dk rfl) rfl ?_
  obtain ⟨dn39, rf40, hx38⟩ := bm_open J37.1 gb14
  refine getf_ok X flX6_48 (dk rfl) hx38 rfl ?_
  iterate 2 refine fst1_ok X (dk rfl) rfl ?_
  obtain ⟨bo41, st42, pr43, gb44, tb45, gs46, tp47⟩ := id tbs27
  refine callVW_ok (ci := 6) (T := TX4) (N := 5) (av := [.ref _, .ref _]) (r := []) X E J37 (c4_makeAlike _ J37.1 tbs27 tb31 tb35) lkX4_makeAlike mlX6_185 lmX4_makeAlike lpX4_makeAlike ⟨Nat.le_of_ble_eq_true rfl, Nat.le_of_ble_eq_true rfl⟩ ⟨Nat.le_of_ble_eq_true rfl, Nat.le_of_ble_eq_true rfl⟩ rfl (st_cell J37.1 gb44) (Nat.le_of_ble_eq_true rfl) (dk rfl) ?_
  rintro _ h49 ⟨b48, rfl⟩ J50
  iterate 2 refine fst1_ok X (dk rfl) rfl ?_
  obtain ⟨dn52, rf53, hx51⟩ := bm_open J50.1 gb14
  refine getf_ok X flX6_48 (dk rfl) hx51 rfl ?_
  refine callVR_ok (ci := 6) (T := TX4) (N := 5) (av := []) (r := []) X E (c4_howEnded _ J50.1 tbs27) lkX4_howEnded mlX6_216 lmX4_howEnded lpX4_howEnded ⟨Nat.le_of_ble_eq_true rfl, Nat.le_of_ble_eq_true rfl⟩ ⟨Nat.le_of_ble_eq_true rfl, Nat.le_of_ble_eq_true rfl⟩ rfl (st_cell J50.1 gb44) (Nat.le_of_ble_eq_true rfl) (dk rfl) ?_
  rintro _ ⟨x54, rfl⟩
  refine WRX.ret ?_
  exact reti_ok X hr hlk rfl (dk rfl) ⟨⟨_, rfl⟩, J50⟩ (Nat.le_of_ble_eq_true rfl) (Nat.le_of_ble_eq_true rfl)
set_option maxHeartbeats 4000000 in
theorem FZ.c6_whyN (h : AH) (I : Tyg Γ h) {o0 : Nat} {kn : Int32} (T0 : BmT Γ o0 kn) (x1 : Int32) (hx1 : inN 6 x1) (x2 : Int32) (hx2 : inN 6 x2) : CT la D cA B0 pa yX6_why cX6_why 5 (some .int) (rmD 5 0 0) [.ref o0, .int (x1), .int (x2)] h (WrO Γ iP h) := by
  refine CT_of (by decide +kernel) (Nat.le_of_ble_eq_true rfl) ?_
  intro p e s m args below meth c X E hr hlk hnm
  have dk : ∀ {pc : Nat} {q : Instr × Nat}, lkd DX6_why pc = some q → decode cX6_why pc = .ok q := lkd_ok DX6_why_ok
  obtain ⟨S1, A2, sp3, os4, wd5, ow6, sa7, oa8, bs9, bc10, sh11, ss12, as13, gb14, gS15, gA16, sl17, sT18, al19, aT20, tsp21, tos22, twd23, tow24, tsa25, toa26, tbs27, tbc28, tsh29⟩ := id T0
  iterate 2 refine fst1_ok X (dk rfl) rfl ?_
  refine callVR_ok (ci := 8) (T := TX6) (N := 14) (av := [.int _]) (r := []) X E (c6_termOfN _ (TI.rf I).1 T0 _ hx1) lkX6_termOf mlX6_69 lmX6_termOf lpX6_termOf ⟨Nat.le_of_ble_eq_true rfl, Nat.le_of_ble_eq_true rfl⟩ ⟨Nat.le_of_ble_eq_true rfl, Nat.le_of_ble_eq_true rfl⟩ rfl (bm_cell (TI.rf I).1 gb14) (Nat.le_of_ble_eq_true rfl) (dk rfl) ?_
  rintro _ ⟨b30, rfl, tb31⟩
  iterate 3 refine fst1_ok X (dk rfl) rfl ?_
  refine callVR_ok (ci := 8) (T := TX6) (N := 14) (av := [.int _]) (r := []) X E (c6_termOfN _ (TI.rf I).1 T0 _ hx2) lkX6_termOf mlX6_69 lmX6_termOf lpX6_termOf ⟨Nat.le_of_ble_eq_true rfl, Nat.le_of_ble_eq_true rfl⟩ ⟨Nat.le_of_ble_eq_true rfl, Nat.le_of_ble_eq_true rfl⟩ rfl (bm_cell (TI.rf I).1 gb14) (Nat.le_of_ble_eq_true rfl) (dk rfl) ?_
  rintro _ ⟨b32, rfl, tb33⟩
  iterate 2 refine fst1_ok X (dk rfl) rfl ?_
  obtain ⟨dn35, rf36, hx34⟩ := bm_open (TI.rf I).1 gb14
  refine getf_ok X flX6_48 (dk rfl) hx34 rfl ?_
  iterate 2 refine fst1_ok X (dk rfl) rfl ?_
  obtain ⟨bo37, st38, pr39, gb40, tb41, gs42, tp43⟩ := id tbs27
  refine callVW_ok (ci := 6) (T := TX4) (N := 5) (av := [.ref _, .ref _]) (r := []) X E (TI.rf I) (c4_makeAlike _ (TI.rf I).1 tbs27 tb31 tb33) lkX4_makeAlike mlX6_185 lmX4_makeAlike lpX4_makeAlike ⟨Nat.le_of_ble_eq_true rfl, Nat.le_of_ble_eq_true rfl⟩ ⟨Nat.le_of_ble_eq_true rfl, Nat.le_of_ble_eq_true rfl⟩ rfl (st_cell (TI.rf I).1 gb40) (Nat.le_of_ble_eq_true rfl) (dk rfl) ?_
  rintro _ h45 ⟨b44, rfl⟩ J46
  iterate 2 refine fst1_ok X (dk rfl) rfl ?_
  obtain ⟨dn48, rf49, hx47⟩ := bm_open J46.1 gb14
  refine getf_ok X flX6_48 (dk rfl) hx47 rfl ?_
  refine callVR_ok (ci := 6) (T := TX4) (N := 5) (av := []) (r := []) X E (c4_howEnded _ J46.1 tbs27) lkX4_howEnded mlX6_216 lmX4_howEnded lpX4_howEnded ⟨Nat.le_of_ble_eq_true rfl, Nat.le_of_ble_eq_true rfl⟩ ⟨Nat.le_of_ble_eq_true rfl, Nat.le_of_ble_eq_true rfl⟩ rfl (st_cell J46.1 gb40) (Nat.le_of_ble_eq_true rfl) (dk rfl) ?_
  rintro _ ⟨x50, rfl⟩
  exact reti_ok X hr hlk rfl (dk rfl) ⟨⟨_, rfl⟩, J46⟩ (Nat.le_of_ble_eq_true rfl) (Nat.le_of_ble_eq_true rfl)
set_option maxHeartbeats 4000000 in
theorem FZ.c6_moved (h : AH) (hl : la.stackTraces = false) (I : Tyg Γ h) {o0 : Nat} {kn : Int32} (T0 : BmT Γ o0 kn) (x1 : Int32) : CTX la D cA B0 pa yX6_moved cX6_moved 2 (some .int) (rmD 7 1 6) [.ref o0, .int (x1)] h (WrO Γ iP h) (pxW [ioobe] Γ h) := by
  refine CTX_of (by decide +kernel) (Nat.le_of_ble_eq_true rfl) ?_
  intro p e s m args below meth c X E hr hlk hnm ht
  have dk : ∀ {pc : Nat} {q : Instr × Nat}, lkd DX6_moved pc = some q → decode cX6_moved pc = .ok q := lkd_ok DX6_moved_ok
  obtain ⟨S1, A2, sp3, os4, wd5, ow6, sa7, oa8, bs9, bc10, sh11, ss12, as13, gb14, gS15, gA16, sl17, sT18, al19, aT20, tsp21, tos22, twd23, tow24, tsa25, toa26, tbs27, tbc28, tsh29⟩ := id T0
  iterate 2 refine fst1_ok X (dk rfl) rfl ?_
  refine callVXW_ok (ci := 8) (T := TX6) (N := 14) (av := [.int _]) (r := []) X E (TI.rf I) ht hlk (c6_answerOf _ hl (TI.rf I).1 T0 _) (by simp) lkX6_answerOf mlX6_151 lmX6_answerOf lpX6_answerOf ⟨Nat.le_of_ble_eq_true rfl, Nat.le_of_ble_eq_true rfl⟩ ⟨Nat.le_of_ble_eq_true rfl, Nat.le_of_ble_eq_true rfl⟩ rfl (bm_cell (TI.rf I).1 gb14) (Nat.le_of_ble_eq_true rfl) (dk rfl) ?_
  rintro _ h32 ⟨b30, rfl, tb31⟩ J33
  obtain ⟨ar34, ts35, gb36, ga37, tl38, tt39⟩ := id tb31
  refine callVR_ok (ci := 2) (T := TX0) (N := 1) (av := []) (r := []) X E (c0_movedNames _ J33.1 tb31) lkX0_movedNames mlX6_219 lmX0_movedNames lpX0_movedNames ⟨Nat.le_of_ble_eq_true rfl, Nat.le_of_ble_eq_true rfl⟩ ⟨Nat.le_of_ble_eq_true rfl, Nat.le_of_ble_eq_true rfl⟩ rfl (is_cell J33.1 gb36) (Nat.le_of_ble_eq_true rfl) (dk rfl) ?_
  rintro _ ⟨x40, rfl⟩
  refine WRX.ret ?_
  exact reti_ok X hr hlk rfl (dk rfl) ⟨⟨_, rfl⟩, J33⟩ (Nat.le_of_ble_eq_true rfl) (Nat.le_of_ble_eq_true rfl)
set_option maxHeartbeats 4000000 in
theorem FZ.c6_makes (h : AH) (hl : la.stackTraces = false) (I : Tyg Γ h) {o0 : Nat} {kn : Int32} (T0 : BmT Γ o0 kn) (x1 : Int32) (x2 : Int32) (x3 : Int32) : CTX la D cA B0 pa yX6_makes cX6_makes 7 (some .boolean) (rmD 7 3 18) [.ref o0, .int (x1), .int (x2), .int (x3)] h (WrO Γ bP h) (pxW [ioobe] Γ h) := by
  refine CTX_of (by decide +kernel) (Nat.le_of_ble_eq_true rfl) ?_
  intro p e s m args below meth c X E hr hlk hnm ht
  have dk : ∀ {pc : Nat} {q : Instr × Nat}, lkd DX6_makes pc = some q → decode cX6_makes pc = .ok q := lkd_ok DX6_makes_ok
  obtain ⟨S1, A2, sp3, os4, wd5, ow6, sa7, oa8, bs9, bc10, sh11, ss12, as13, gb14, gS15, gA16, sl17, sT18, al19, aT20, tsp21, tos22, twd23, tow24, tsa25, toa26, tbs27, tbc28, tsh29⟩ := id T0
  iterate 2 refine fst1_ok X (dk rfl) rfl ?_
  refine callVXW_ok (ci := 8) (T := TX6) (N := 14) (av := [.int _]) (r := []) X E (TI.rf I) ht hlk (c6_answerOf _ hl (TI.rf I).1 T0 _) (by simp) lkX6_answerOf mlX6_151 lmX6_answerOf lpX6_answerOf ⟨Nat.le_of_ble_eq_true rfl, Nat.le_of_ble_eq_true rfl⟩ ⟨Nat.le_of_ble_eq_true rfl, Nat.le_of_ble_eq_true rfl⟩ rfl (bm_cell (TI.rf I).1 gb14) (Nat.le_of_ble_eq_true rfl) (dk rfl) ?_
  rintro _ h32 ⟨b30, rfl, tb31⟩ J33
  iterate 3 refine fst1_ok X (dk rfl) rfl ?_
  refine callVXW_ok (ci := 8) (T := TX6) (N := 14) (av := [.int _]) (r := []) X E J33 ht hlk (c6_termOf _ hl J33.1 T0 _) (by simp) lkX6_termOf mlX6_69 lmX6_termOf lpX6_termOf ⟨Nat.le_of_ble_eq_true rfl, Nat.le_of_ble_eq_true rfl⟩ ⟨Nat.le_of_ble_eq_true rfl, Nat.le_of_ble_eq_true rfl⟩ rfl (bm_cell J33.1 gb14) (Nat.le_of_ble_eq_true rfl) (dk rfl) ?_
  rintro _ h36 ⟨b34, rfl, tb35⟩ J37
  iterate 3 refine fst1_ok X (dk rfl) rfl ?_
  refine callVXW_ok (ci := 8) (T := TX6) (N := 14) (av := [.int _]) (r := []) X E J37 ht hlk (c6_termOf _ hl J37.1 T0 _) (by simp) lkX6_termOf mlX6_69 lmX6_termOf lpX6_termOf ⟨Nat.le_of_ble_eq_true rfl, Nat.le_of_ble_eq_true rfl⟩ ⟨Nat.le_of_ble_eq_true rfl, Nat.le_of_ble_eq_true rfl⟩ rfl (bm_cell J37.1 gb14) (Nat.le_of_ble_eq_true rfl) (dk rfl) ?_
  rintro _ h40 ⟨b38, rfl, tb39⟩ J41
  iterate 5 refine fst1_ok X (dk rfl) rfl ?_
  refine callVW_ok (ci := 8) (T := TX6) (N := 14) (av := [.ref _, .ref _, .ref _]) (r := []) X E J41 (c6_isMadeAlikeBy _ J41.1 T0 tb31 tb35 tb39) lkX6_isMadeAlikeBy mlX6_222 lmX6_isMadeAlikeBy lpX6_isMadeAlikeBy ⟨Nat.le_of_ble_eq_true rfl, Nat.le_of_ble_eq_true rfl⟩ ⟨Nat.le_of_ble_eq_true rfl, Nat.le_of_ble_eq_true rfl⟩ rfl (bm_cell J41.1 gb14) (Nat.le_of_ble_eq_true rfl) (dk rfl) ?_
  rintro _ h43 ⟨b42, rfl⟩ J44
  refine WRX.ret ?_
  exact reti_ok X hr hlk (bI_n b42) (dk rfl) ⟨⟨b42, rfl⟩, J44⟩ (Nat.le_of_ble_eq_true rfl) (Nat.le_of_ble_eq_true rfl)
set_option maxHeartbeats 4000000 in
theorem FZ.c6_isSo (h : AH) (hl : la.stackTraces = false) (I : Tyg Γ h) {o0 : Nat} {kn : Int32} (T0 : BmT Γ o0 kn) (x1 : Int32) (x2 : Int32) : CTX la D cA B0 pa yX6_isSo cX6_isSo 4 (some .boolean) (rmD 7 2 12) [.ref o0, .int (x1), .int (x2)] h (WrO Γ bP h) (pxW [ioobe, iae] Γ h) := by
  refine CTX_of (by decide +kernel) (Nat.le_of_ble_eq_true rfl) ?_
  intro p e s m args below meth c X E hr hlk hnm ht
  have dk : ∀ {pc : Nat} {q : Instr × Nat}, lkd DX6_isSo pc = some q → decode cX6_isSo pc = .ok q := lkd_ok DX6_isSo_ok
  obtain ⟨S1, A2, sp3, os4, wd5, ow6, sa7, oa8, bs9, bc10, sh11, ss12, as13, gb14, gS15, gA16, sl17, sT18, al19, aT20, tsp21, tos22, twd23, tow24, tsa25, toa26, tbs27, tbc28, tsh29⟩ := id T0
  iterate 2 refine fst1_ok X (dk rfl) rfl ?_
  refine callVXW_ok (ci := 8) (T := TX6) (N := 14) (av := [.int _]) (r := []) X E (TI.rf I) ht hlk (c6_answerOf _ hl (TI.rf I).1 T0 _) (by simp) lkX6_answerOf mlX6_151 lmX6_answerOf lpX6_answerOf ⟨Nat.le_of_ble_eq_true rfl, Nat.le_of_ble_eq_true rfl⟩ ⟨Nat.le_of_ble_eq_true rfl, Nat.le_of_ble_eq_true rfl⟩ rfl (bm_cell (TI.rf I).1 gb14) (Nat.le_of_ble_eq_true rfl) (dk rfl) ?_
  rintro _ h32 ⟨b30, rfl, tb31⟩ J33
  iterate 2 refine fst1_ok X (dk rfl) rfl ?_
  refine br_ok X (dk rfl) rfl (show ((7 : Nat) : Int) + 18 = ((25 : Nat) : Int) from rfl) (fun c34 => ?_) (fun c35 => ?_)
  · iterate 2 refine fst1_ok X (dk rfl) rfl ?_
    refine br_ok X (dk rfl) rfl (show ((27 : Nat) : Int) + 8 = ((35 : Nat) : Int) from rfl) (fun c36 => ?_) (fun c37 => ?_)
    · refine fst1_ok X (dk rfl) rfl ?_
      obtain ⟨dn39, rf40, hx38⟩ := bm_open J33.1 gb14
      refine getf_ok X flX6_38 (dk rfl) hx38 rfl ?_
      iterate 2 refine fst1_ok X (dk rfl) rfl ?_
      obtain ⟨ar41, ts42, gb43, ga44, tl45, tt46⟩ := id tsa25
      refine callVW_ok (ci := 2) (T := TX0) (N := 1) (av := [.ref _, .ref _]) (r := []) X E J33 (c0_becomeBoth _ J33.1 tsa25 tb31 tb31) lkX0_becomeBoth mlX6_175 lmX0_becomeBoth lpX0_becomeBoth ⟨Nat.le_of_ble_eq_true rfl, Nat.le_of_ble_eq_true rfl⟩ ⟨Nat.le_of_ble_eq_true rfl, Nat.le_of_ble_eq_true rfl⟩ rfl (is_cell J33.1 gb43) (Nat.le_of_ble_eq_true rfl) (dk rfl) ?_
      rintro _ h47 rfl J48
      refine fst1_ok X (dk rfl) rfl ?_
      obtain ⟨dn50, rf51, hx49⟩ := bm_open J48.1 gb14
      refine getf_ok X flX6_38 (dk rfl) hx49 rfl ?_
      refine callVR_ok (ci := 2) (T := TX0) (N := 1) (av := []) (r := []) X E (c0_isTooLong _ J48.1 tsa25) lkX0_isTooLong mlX6_230 lmX0_isTooLong lpX0_isTooLong ⟨Nat.le_of_ble_eq_true rfl, Nat.le_of_ble_eq_true rfl⟩ ⟨Nat.le_of_ble_eq_true rfl, Nat.le_of_ble_eq_true rfl⟩ rfl (is_cell J48.1 gb43) (Nat.le_of_ble_eq_true rfl) (dk rfl) ?_
      rintro _ ⟨b52, rfl⟩
      refine br_ok X (dk rfl) rfl (show ((51 : Nat) : Int) + 19 = ((70 : Nat) : Int) from rfl) (fun c53 => ?_) (fun c54 => ?_)
      · refine fst1_ok X (dk rfl) rfl ?_
        refine WRX.ret ?_
        exact reti_ok X hr hlk (bI_n false) (dk rfl) ⟨⟨false, rfl⟩, J48⟩ (Nat.le_of_ble_eq_true rfl) (Nat.le_of_ble_eq_true rfl)
      · refine fst1_ok X (dk rfl) rfl ?_
        refine getf_ok X flX6_38 (dk rfl) hx49 rfl ?_
        refine fst1_ok X (dk rfl) rfl ?_
        refine callVR_ok (ci := 2) (T := TX0) (N := 1) (av := [.ref _]) (r := []) X E (c0_firstUnlike _ J48.1 tsa25 tb31) lkX0_firstUnlike mlX6_233 lmX0_firstUnlike lpX0_firstUnlike ⟨Nat.le_of_ble_eq_true rfl, Nat.le_of_ble_eq_true rfl⟩ ⟨Nat.le_of_ble_eq_true rfl, Nat.le_of_ble_eq_true rfl⟩ rfl (is_cell J48.1 gb43) (Nat.le_of_ble_eq_true rfl) (dk rfl) ?_
        rintro _ ⟨x55, rfl⟩
        refine fst1_ok X (dk rfl) rfl ?_
        refine br_ok X (dk rfl) rfl (show ((63 : Nat) : Int) + 7 = ((70 : Nat) : Int) from rfl) (fun c56 => ?_) (fun c57 => ?_)
        · refine fst1_ok X (dk rfl) rfl ?_
          refine WRX.ret ?_
          exact reti_ok X hr hlk (bI_n false) (dk rfl) ⟨⟨false, rfl⟩, J48⟩ (Nat.le_of_ble_eq_true rfl) (Nat.le_of_ble_eq_true rfl)
        · refine fst1_ok X (dk rfl) rfl ?_
          refine br_ok X (dk rfl) rfl (show ((67 : Nat) : Int) + 4 = ((71 : Nat) : Int) from rfl) (fun _ => ?_) (fun q => absurd trivial q)
          refine WRX.ret ?_
          exact reti_ok X hr hlk (bI_n true) (dk rfl) ⟨⟨true, rfl⟩, J48⟩ (Nat.le_of_ble_eq_true rfl) (Nat.le_of_ble_eq_true rfl)
    · refine fst1_ok X (dk rfl) rfl ?_
      obtain ⟨ar58, ts59, gb60, ga61, tl62, tt63⟩ := id tb31
      refine callVR_ok (ci := 2) (T := TX0) (N := 1) (av := []) (r := []) X E (c0_renamesOnly _ J33.1 tb31) lkX0_renamesOnly mlX6_226 lmX0_renamesOnly lpX0_renamesOnly ⟨Nat.le_of_ble_eq_true rfl, Nat.le_of_ble_eq_true rfl⟩ ⟨Nat.le_of_ble_eq_true rfl, Nat.le_of_ble_eq_true rfl⟩ rfl (is_cell J33.1 gb60) (Nat.le_of_ble_eq_true rfl) (dk rfl) ?_
      rintro _ ⟨b64, rfl⟩
      refine WRX.ret ?_
      exact reti_ok X hr hlk (bI_n b64) (dk rfl) ⟨⟨b64, rfl⟩, J33⟩ (Nat.le_of_ble_eq_true rfl) (Nat.le_of_ble_eq_true rfl)
  · iterate 2 refine fst1_ok X (dk rfl) rfl ?_
    refine br_ok X (dk rfl) rfl (show ((12 : Nat) : Int) + 13 = ((25 : Nat) : Int) from rfl) (fun c65 => ?_) (fun c66 => ?_)
    · iterate 2 refine fst1_ok X (dk rfl) rfl ?_
      refine br_ok X (dk rfl) rfl (show ((27 : Nat) : Int) + 8 = ((35 : Nat) : Int) from rfl) (fun c67 => ?_) (fun c68 => ?_)
      · refine fst1_ok X (dk rfl) rfl ?_
        obtain ⟨dn70, rf71, hx69⟩ := bm_open J33.1 gb14
        refine getf_ok X flX6_38 (dk rfl) hx69 rfl ?_
        iterate 2 refine fst1_ok X (dk rfl) rfl ?_
        obtain ⟨ar72, ts73, gb74, ga75, tl76, tt77⟩ := id tsa25
        refine callVW_ok (ci := 2) (T := TX0) (N := 1) (av := [.ref _, .ref _]) (r := []) X E J33 (c0_becomeBoth _ J33.1 tsa25 tb31 tb31) lkX0_becomeBoth mlX6_175 lmX0_becomeBoth lpX0_becomeBoth ⟨Nat.le_of_ble_eq_true rfl, Nat.le_of_ble_eq_true rfl⟩ ⟨Nat.le_of_ble_eq_true rfl, Nat.le_of_ble_eq_true rfl⟩ rfl (is_cell J33.1 gb74) (Nat.le_of_ble_eq_true rfl) (dk rfl) ?_
        rintro _ h78 rfl J79
        refine fst1_ok X (dk rfl) rfl ?_
        obtain ⟨dn81, rf82, hx80⟩ := bm_open J79.1 gb14
        refine getf_ok X flX6_38 (dk rfl) hx80 rfl ?_
        refine callVR_ok (ci := 2) (T := TX0) (N := 1) (av := []) (r := []) X E (c0_isTooLong _ J79.1 tsa25) lkX0_isTooLong mlX6_230 lmX0_isTooLong lpX0_isTooLong ⟨Nat.le_of_ble_eq_true rfl, Nat.le_of_ble_eq_true rfl⟩ ⟨Nat.le_of_ble_eq_true rfl, Nat.le_of_ble_eq_true rfl⟩ rfl (is_cell J79.1 gb74) (Nat.le_of_ble_eq_true rfl) (dk rfl) ?_
        rintro _ ⟨b83, rfl⟩
        refine br_ok X (dk rfl) rfl (show ((51 : Nat) : Int) + 19 = ((70 : Nat) : Int) from rfl) (fun c84 => ?_) (fun c85 => ?_)
        · refine fst1_ok X (dk rfl) rfl ?_
          refine WRX.ret ?_
          exact reti_ok X hr hlk (bI_n false) (dk rfl) ⟨⟨false, rfl⟩, J79⟩ (Nat.le_of_ble_eq_true rfl) (Nat.le_of_ble_eq_true rfl)
        · refine fst1_ok X (dk rfl) rfl ?_
          refine getf_ok X flX6_38 (dk rfl) hx80 rfl ?_
          refine fst1_ok X (dk rfl) rfl ?_
          refine callVR_ok (ci := 2) (T := TX0) (N := 1) (av := [.ref _]) (r := []) X E (c0_firstUnlike _ J79.1 tsa25 tb31) lkX0_firstUnlike mlX6_233 lmX0_firstUnlike lpX0_firstUnlike ⟨Nat.le_of_ble_eq_true rfl, Nat.le_of_ble_eq_true rfl⟩ ⟨Nat.le_of_ble_eq_true rfl, Nat.le_of_ble_eq_true rfl⟩ rfl (is_cell J79.1 gb74) (Nat.le_of_ble_eq_true rfl) (dk rfl) ?_
          rintro _ ⟨x86, rfl⟩
          refine fst1_ok X (dk rfl) rfl ?_
          refine br_ok X (dk rfl) rfl (show ((63 : Nat) : Int) + 7 = ((70 : Nat) : Int) from rfl) (fun c87 => ?_) (fun c88 => ?_)
          · refine fst1_ok X (dk rfl) rfl ?_
            refine WRX.ret ?_
            exact reti_ok X hr hlk (bI_n false) (dk rfl) ⟨⟨false, rfl⟩, J79⟩ (Nat.le_of_ble_eq_true rfl) (Nat.le_of_ble_eq_true rfl)
          · refine fst1_ok X (dk rfl) rfl ?_
            refine br_ok X (dk rfl) rfl (show ((67 : Nat) : Int) + 4 = ((71 : Nat) : Int) from rfl) (fun _ => ?_) (fun q => absurd trivial q)
            refine WRX.ret ?_
            exact reti_ok X hr hlk (bI_n true) (dk rfl) ⟨⟨true, rfl⟩, J79⟩ (Nat.le_of_ble_eq_true rfl) (Nat.le_of_ble_eq_true rfl)
      · refine fst1_ok X (dk rfl) rfl ?_
        obtain ⟨ar89, ts90, gb91, ga92, tl93, tt94⟩ := id tb31
        refine callVR_ok (ci := 2) (T := TX0) (N := 1) (av := []) (r := []) X E (c0_renamesOnly _ J33.1 tb31) lkX0_renamesOnly mlX6_226 lmX0_renamesOnly lpX0_renamesOnly ⟨Nat.le_of_ble_eq_true rfl, Nat.le_of_ble_eq_true rfl⟩ ⟨Nat.le_of_ble_eq_true rfl, Nat.le_of_ble_eq_true rfl⟩ rfl (is_cell J33.1 gb91) (Nat.le_of_ble_eq_true rfl) (dk rfl) ?_
        rintro _ ⟨b95, rfl⟩
        refine WRX.ret ?_
        exact reti_ok X hr hlk (bI_n b95) (dk rfl) ⟨⟨b95, rfl⟩, J33⟩ (Nat.le_of_ble_eq_true rfl) (Nat.le_of_ble_eq_true rfl)
    · exact throwS_ok X E hl ht hlk xwX6_88 (List.mem_of_getElem? (i := 1) rfl) (dk rfl) (dk rfl) (dk rfl) (dk rfl) (dk rfl) ⟨Nat.le_of_ble_eq_true rfl, Nat.le_of_ble_eq_true rfl⟩ ⟨Nat.le_of_ble_eq_true rfl, Nat.le_of_ble_eq_true rfl⟩ ⟨(by simp), J33⟩
set_option maxHeartbeats 4000000 in
theorem FZ.c6_weight (h : AH) (hl : la.stackTraces = false) (I : Tyg Γ h) {o0 : Nat} {kn : Int32} (T0 : BmT Γ o0 kn) (x1 : Int32) (x2 : Bool) : CTX la D cA B0 pa yX6_weight cX6_weight 4 (some .int) (rmD 7 1 6) [.ref o0, .int (x1), .int (bI x2)] h (WrO Γ iP h) (pxW [ioobe] Γ h) := by
  refine CTX_of (by decide +kernel) (Nat.le_of_ble_eq_true rfl) ?_
  intro p e s m args below meth c X E hr hlk hnm ht
  have dk : ∀ {pc : Nat} {q : Instr × Nat}, lkd DX6_weight pc = some q → decode cX6_weight pc = .ok q := lkd_ok DX6_weight_ok
  obtain ⟨S1, A2, sp3, os4, wd5, ow6, sa7, oa8, bs9, bc10, sh11, ss12, as13, gb14, gS15, gA16, sl17, sT18, al19, aT20, tsp21, tos22, twd23, tow24, tsa25, toa26, tbs27, tbc28, tsh29⟩ := id T0
  iterate 2 refine fst1_ok X (dk rfl) rfl ?_
  refine callVXW_ok (ci := 8) (T := TX6) (N := 14) (av := [.int _]) (r := []) X E (TI.rf I) ht hlk (c6_answerOf _ hl (TI.rf I).1 T0 _) (by simp) lkX6_answerOf mlX6_151 lmX6_answerOf lpX6_answerOf ⟨Nat.le_of_ble_eq_true rfl, Nat.le_of_ble_eq_true rfl⟩ ⟨Nat.le_of_ble_eq_true rfl, Nat.le_of_ble_eq_true rfl⟩ rfl (bm_cell (TI.rf I).1 gb14) (Nat.le_of_ble_eq_true rfl) (dk rfl) ?_
  rintro _ h32 ⟨b30, rfl, tb31⟩ J33
  iterate 2 refine fst1_ok X (dk rfl) rfl ?_
  obtain ⟨dn35, rf36, hx34⟩ := bm_open J33.1 gb14
  refine getf_ok X flX6_31 (dk rfl) hx34 rfl ?_
  obtain ⟨hL38, q37, gb39, gl40⟩ := id twd23
  refine callVW_ok (ci := 7) (T := TX5) (N := 3) (av := []) (r := []) X E J33 (c5_empty _ J33.1 twd23) lkX5_empty mlX6_94 lmX5_empty lpX5_empty ⟨Nat.le_of_ble_eq_true rfl, Nat.le_of_ble_eq_true rfl⟩ ⟨Nat.le_of_ble_eq_true rfl, Nat.le_of_ble_eq_true rfl⟩ rfl (tm_cell J33.1 gb39) (Nat.le_of_ble_eq_true rfl) (dk rfl) ?_
  rintro _ h41 rfl J42
  iterate 2 refine fst1_ok X (dk rfl) rfl ?_
  obtain ⟨dn44, rf45, hx43⟩ := bm_open J42.1 gb14
  refine getf_ok X flX6_31 (dk rfl) hx43 rfl ?_
  obtain ⟨ar46, ts47, gb48, ga49, tl50, tt51⟩ := id tb31
  refine callVW_ok (ci := 2) (T := TX0) (N := 1) (av := [.ref _]) (r := []) X E J42 (c0_addMoved _ J42.1 tb31 twd23) lkX0_addMoved mlX6_236 lmX0_addMoved lpX0_addMoved ⟨Nat.le_of_ble_eq_true rfl, Nat.le_of_ble_eq_true rfl⟩ ⟨Nat.le_of_ble_eq_true rfl, Nat.le_of_ble_eq_true rfl⟩ rfl (is_cell J42.1 gb48) (Nat.le_of_ble_eq_true rfl) (dk rfl) ?_
  rintro _ h52 rfl J53
  refine fst1_ok X (dk rfl) rfl ?_
  refine br_ok X (dk rfl) rfl (show ((22 : Nat) : Int) + 13 = ((35 : Nat) : Int) from rfl) (fun c54 => ?_) (fun c55 => ?_)
  · refine fst1_ok X (dk rfl) rfl ?_
    obtain ⟨dn57, rf58, hx56⟩ := bm_open J53.1 gb14
    refine getf_ok X flX6_31 (dk rfl) hx56 rfl ?_
    refine callVR_ok (ci := 7) (T := TX5) (N := 3) (av := []) (r := []) X E (c5_length _ J53.1 twd23) lkX5_length mlX6_76 lmX5_length lpX5_length ⟨Nat.le_of_ble_eq_true rfl, Nat.le_of_ble_eq_true rfl⟩ ⟨Nat.le_of_ble_eq_true rfl, Nat.le_of_ble_eq_true rfl⟩ rfl (tm_cell J53.1 gb39) (Nat.le_of_ble_eq_true rfl) (dk rfl) ?_
    rintro _ ⟨n59, hn60, rfl⟩
    refine WRX.ret ?_
    exact reti_ok X hr hlk rfl (dk rfl) ⟨⟨_, rfl⟩, J53⟩ (Nat.le_of_ble_eq_true rfl) (Nat.le_of_ble_eq_true rfl)
  · refine fst1_ok X (dk rfl) rfl ?_
    obtain ⟨dn62, rf63, hx61⟩ := bm_open J53.1 gb14
    refine getf_ok X flX6_31 (dk rfl) hx61 rfl ?_
    refine callVR_ok (ci := 7) (T := TX5) (N := 3) (av := []) (r := []) X E (c5_unlikePlaces _ J53.1 twd23) lkX5_unlikePlaces mlX6_204 lmX5_unlikePlaces lpX5_unlikePlaces ⟨Nat.le_of_ble_eq_true rfl, Nat.le_of_ble_eq_true rfl⟩ ⟨Nat.le_of_ble_eq_true rfl, Nat.le_of_ble_eq_true rfl⟩ rfl (tm_cell J53.1 gb39) (Nat.le_of_ble_eq_true rfl) (dk rfl) ?_
    rintro _ ⟨x64, rfl⟩
    refine br_ok X (dk rfl) rfl (show ((32 : Nat) : Int) + 10 = ((42 : Nat) : Int) from rfl) (fun _ => ?_) (fun q => absurd trivial q)
    refine WRX.ret ?_
    exact reti_ok X hr hlk rfl (dk rfl) ⟨⟨_, rfl⟩, J53⟩ (Nat.le_of_ble_eq_true rfl) (Nat.le_of_ble_eq_true rfl)
end M97
end Ud08f6c
section Ud09f6d
/-! the class, weakly, over types that keep contents: house, digest (printed by wip/p20/genFZ.py from wip/p40/cl6.py) -/
section M98
variable {la : Launch} {D : va_G} {cA : Nat → ClassId} {B0 pa : Nat} {Γ : TY}
set_option maxHeartbeats 4000000 in
theorem FZ.c6_house (h : AH) (hl : la.stackTraces = false) (I : Tyg Γ h) {o0 : Nat} {kn : Int32} (T0 : BmT Γ o0 kn) (x1 : Int32) : CTX la D cA B0 pa yX6_house cX6_house 2 (some .int) (rmD 6 1 6) [.ref o0, .int (x1)] h (WrO Γ iP h) (pxW [iae] Γ h) := by
  refine CTX_of (by decide +kernel) (Nat.le_of_ble_eq_true rfl) ?_
  intro p e s m args below meth c X E hr hlk hnm ht
  have dk : ∀ {pc : Nat} {q : Instr × Nat}, lkd DX6_house pc = some q → decode cX6_house pc = .ok q := lkd_ok DX6_house_ok
  obtain ⟨S1, A2, sp3, os4, wd5, ow6, sa7, oa8, bs9, bc10, sh11, ss12, as13, gb14, gS15, gA16, sl17, sT18, al19, aT20, tsp21, tos22, twd23, tow24, tsa25, toa26, tbs27, tbc28, tsh29⟩ := id T0
  refine fst1_ok X (dk rfl) rfl ?_
  refine br_ok X (dk rfl) rfl (show ((1 : Nat) : Int) + 8 = ((9 : Nat) : Int) from rfl) (fun c30 => ?_) (fun c31 => ?_)
  · exact throwS_ok X E hl ht hlk xwX6_88 (List.mem_of_getElem? (i := 3) rfl) (dk rfl) (dk rfl) (dk rfl) (dk rfl) (dk rfl) ⟨Nat.le_of_ble_eq_true rfl, Nat.le_of_ble_eq_true rfl⟩ ⟨Nat.le_of_ble_eq_true rfl, Nat.le_of_ble_eq_true rfl⟩ ⟨(by simp), (TI.rf I)⟩
  · iterate 2 refine fst1_ok X (dk rfl) rfl ?_
    refine br_ok X (dk rfl) rfl (show ((6 : Nat) : Int) + 13 = ((19 : Nat) : Int) from rfl) (fun c32 => ?_) (fun c33 => ?_)
    · refine fst1_ok X (dk rfl) rfl ?_
      obtain ⟨n34, hn35, hen34⟩ := (inN_le (K := 4) (by omega) c31 (by rw [show nI 4 = Int32.ofInt 4 by decide +kernel]; exact c32))
      rw [hen34]
      match n34, hn35 with
      | 0, _ =>
        refine tsw_ok X (off := 32) (tgt := 52) (dk rfl) (by decide +kernel) (by decide +kernel) (by decide +kernel) rfl ?_
        refine fst1_ok X (dk rfl) rfl ?_
        obtain ⟨dn37, rf38, hx36⟩ := bm_open (TI.rf I).1 gb14
        refine getf_ok X flX6_241 (dk rfl) hx36 rfl ?_
        refine WRX.ret ?_
        exact reti_ok X hr hlk rfl (dk rfl) ⟨⟨_, rfl⟩, (TI.rf I)⟩ (Nat.le_of_ble_eq_true rfl) (Nat.le_of_ble_eq_true rfl)
      | 1, _ =>
        refine tsw_ok X (off := 37) (tgt := 57) (dk rfl) (by decide +kernel) (by decide +kernel) (by decide +kernel) rfl ?_
        refine fst1_ok X (dk rfl) rfl ?_
        obtain ⟨dn40, rf41, hx39⟩ := bm_open (TI.rf I).1 gb14
        refine getf_ok X flX6_245 (dk rfl) hx39 rfl ?_
        refine WRX.ret ?_
        exact reti_ok X hr hlk rfl (dk rfl) ⟨⟨_, rfl⟩, (TI.rf I)⟩ (Nat.le_of_ble_eq_true rfl) (Nat.le_of_ble_eq_true rfl)
      | 2, _ =>
        refine tsw_ok X (off := 42) (tgt := 62) (dk rfl) (by decide +kernel) (by decide +kernel) (by decide +kernel) rfl ?_
        refine fst1_ok X (dk rfl) rfl ?_
        obtain ⟨dn43, rf44, hx42⟩ := bm_open (TI.rf I).1 gb14
        refine getf_ok X flX6_248 (dk rfl) hx42 rfl ?_
        refine WRX.ret ?_
        exact reti_ok X hr hlk rfl (dk rfl) ⟨⟨_, rfl⟩, (TI.rf I)⟩ (Nat.le_of_ble_eq_true rfl) (Nat.le_of_ble_eq_true rfl)
      | 3, _ =>
        refine tsw_ok X (off := 47) (tgt := 67) (dk rfl) (by decide +kernel) (by decide +kernel) (by decide +kernel) rfl ?_
        refine fst1_ok X (dk rfl) rfl ?_
        refine callVR_ok (ci := 8) (T := TX6) (N := 14) (av := []) (r := []) X E (c6_sizesTogether _ (TI.rf I).1 T0) lkX6_sizesTogether mlX6_251 lmX6_sizesTogether lpX6_sizesTogether ⟨Nat.le_of_ble_eq_true rfl, Nat.le_of_ble_eq_true rfl⟩ ⟨Nat.le_of_ble_eq_true rfl, Nat.le_of_ble_eq_true rfl⟩ rfl (bm_cell (TI.rf I).1 gb14) (Nat.le_of_ble_eq_true rfl) (dk rfl) ?_
        rintro _ ⟨x45, rfl⟩
        refine WRX.ret ?_
        exact reti_ok X hr hlk rfl (dk rfl) ⟨⟨_, rfl⟩, (TI.rf I)⟩ (Nat.le_of_ble_eq_true rfl) (Nat.le_of_ble_eq_true rfl)
      | 4, _ =>
        refine tswo_ok X (tgt := 72) (dk rfl) (by decide +kernel) rfl ?_
        refine fst1_ok X (dk rfl) rfl ?_
        refine callVR_ok (ci := 8) (T := TX6) (N := 14) (av := []) (r := []) X E (c6_movesTogether _ (TI.rf I).1 T0) lkX6_movesTogether mlX6_254 lmX6_movesTogether lpX6_movesTogether ⟨Nat.le_of_ble_eq_true rfl, Nat.le_of_ble_eq_true rfl⟩ ⟨Nat.le_of_ble_eq_true rfl, Nat.le_of_ble_eq_true rfl⟩ rfl (bm_cell (TI.rf I).1 gb14) (Nat.le_of_ble_eq_true rfl) (dk rfl) ?_
        rintro _ ⟨x46, rfl⟩
        refine WRX.ret ?_
        exact reti_ok X hr hlk rfl (dk rfl) ⟨⟨_, rfl⟩, (TI.rf I)⟩ (Nat.le_of_ble_eq_true rfl) (Nat.le_of_ble_eq_true rfl)
    · exact throwS_ok X E hl ht hlk xwX6_88 (List.mem_of_getElem? (i := 3) rfl) (dk rfl) (dk rfl) (dk rfl) (dk rfl) (dk rfl) ⟨Nat.le_of_ble_eq_true rfl, Nat.le_of_ble_eq_true rfl⟩ ⟨Nat.le_of_ble_eq_true rfl, Nat.le_of_ble_eq_true rfl⟩ ⟨(by simp), (TI.rf I)⟩
set_option maxHeartbeats 4000000 in
theorem FZ.c6_houseN (h : AH) (I : Tyg Γ h) {o0 : Nat} {kn : Int32} (T0 : BmT Γ o0 kn) (x1 : Int32) (hx1 : inN 5 x1) : CT la D cA B0 pa yX6_house cX6_house 2 (some .int) (rmD 5 0 0) [.ref o0, .int (x1)] h (RdO iP h) := by
  refine CT_of (by decide +kernel) (Nat.le_of_ble_eq_true rfl) ?_
  intro p e s m args below meth c X E hr hlk hnm
  have dk : ∀ {pc : Nat} {q : Instr × Nat}, lkd DX6_house pc = some q → decode cX6_house pc = .ok q := lkd_ok DX6_house_ok
  obtain ⟨S1, A2, sp3, os4, wd5, ow6, sa7, oa8, bs9, bc10, sh11, ss12, as13, gb14, gS15, gA16, sl17, sT18, al19, aT20, tsp21, tos22, twd23, tow24, tsa25, toa26, tbs27, tbc28, tsh29⟩ := id T0
  refine fst1_ok X (dk rfl) rfl ?_
  refine br_ok X (dk rfl) rfl (show ((1 : Nat) : Int) + 8 = ((9 : Nat) : Int) from rfl) (fun c30 => ?_) (fun c31 => ?_)
  · exact absurd c30 (inN_pos hx1 (by decide))
  · iterate 2 refine fst1_ok X (dk rfl) rfl ?_
    refine br_ok X (dk rfl) rfl (show ((6 : Nat) : Int) + 13 = ((19 : Nat) : Int) from rfl) (fun c32 => ?_) (fun c33 => ?_)
    · refine fst1_ok X (dk rfl) rfl ?_
      obtain ⟨n34, hn35, hen34⟩ := hx1
      rw [hen34]
      match n34, hn35 with
      | 0, _ =>
        refine tsw_ok X (off := 32) (tgt := 52) (dk rfl) (by decide +kernel) (by decide +kernel) (by decide +kernel) rfl ?_
        refine fst1_ok X (dk rfl) rfl ?_
        obtain ⟨dn37, rf38, hx36⟩ := bm_open (TI.rf I).1 gb14
        refine getf_ok X flX6_241 (dk rfl) hx36 rfl ?_
        exact reti_ok X hr hlk rfl (dk rfl) ⟨⟨_, rfl⟩, rfl⟩ (Nat.le_of_ble_eq_true rfl) (Nat.le_of_ble_eq_true rfl)
      | 1, _ =>
        refine tsw_ok X (off := 37) (tgt := 57) (dk rfl) (by decide +kernel) (by decide +kernel) (by decide +kernel) rfl ?_
        refine fst1_ok X (dk rfl) rfl ?_
        obtain ⟨dn40, rf41, hx39⟩ := bm_open (TI.rf I).1 gb14
        refine getf_ok X flX6_245 (dk rfl) hx39 rfl ?_
        exact reti_ok X hr hlk rfl (dk rfl) ⟨⟨_, rfl⟩, rfl⟩ (Nat.le_of_ble_eq_true rfl) (Nat.le_of_ble_eq_true rfl)
      | 2, _ =>
        refine tsw_ok X (off := 42) (tgt := 62) (dk rfl) (by decide +kernel) (by decide +kernel) (by decide +kernel) rfl ?_
        refine fst1_ok X (dk rfl) rfl ?_
        obtain ⟨dn43, rf44, hx42⟩ := bm_open (TI.rf I).1 gb14
        refine getf_ok X flX6_248 (dk rfl) hx42 rfl ?_
        exact reti_ok X hr hlk rfl (dk rfl) ⟨⟨_, rfl⟩, rfl⟩ (Nat.le_of_ble_eq_true rfl) (Nat.le_of_ble_eq_true rfl)
      | 3, _ =>
        refine tsw_ok X (off := 47) (tgt := 67) (dk rfl) (by decide +kernel) (by decide +kernel) (by decide +kernel) rfl ?_
        refine fst1_ok X (dk rfl) rfl ?_
        refine callVR_ok (ci := 8) (T := TX6) (N := 14) (av := []) (r := []) X E (c6_sizesTogether _ (TI.rf I).1 T0) lkX6_sizesTogether mlX6_251 lmX6_sizesTogether lpX6_sizesTogether ⟨Nat.le_of_ble_eq_true rfl, Nat.le_of_ble_eq_true rfl⟩ ⟨Nat.le_of_ble_eq_true rfl, Nat.le_of_ble_eq_true rfl⟩ rfl (bm_cell (TI.rf I).1 gb14) (Nat.le_of_ble_eq_true rfl) (dk rfl) ?_
        rintro _ ⟨x45, rfl⟩
        exact reti_ok X hr hlk rfl (dk rfl) ⟨⟨_, rfl⟩, rfl⟩ (Nat.le_of_ble_eq_true rfl) (Nat.le_of_ble_eq_true rfl)
      | 4, _ =>
        refine tswo_ok X (tgt := 72) (dk rfl) (by decide +kernel) rfl ?_
        refine fst1_ok X (dk rfl) rfl ?_
        refine callVR_ok (ci := 8) (T := TX6) (N := 14) (av := []) (r := []) X E (c6_movesTogether _ (TI.rf I).1 T0) lkX6_movesTogether mlX6_254 lmX6_movesTogether lpX6_movesTogether ⟨Nat.le_of_ble_eq_true rfl, Nat.le_of_ble_eq_true rfl⟩ ⟨Nat.le_of_ble_eq_true rfl, Nat.le_of_ble_eq_true rfl⟩ rfl (bm_cell (TI.rf I).1 gb14) (Nat.le_of_ble_eq_true rfl) (dk rfl) ?_
        rintro _ ⟨x46, rfl⟩
        exact reti_ok X hr hlk rfl (dk rfl) ⟨⟨_, rfl⟩, rfl⟩ (Nat.le_of_ble_eq_true rfl) (Nat.le_of_ble_eq_true rfl)
    · exact absurd (by rw [show Int32.ofInt 4 = nI 4 by decide +kernel]; exact inN_leN hx1 (by decide)) c33
set_option maxHeartbeats 4000000 in
theorem FZ.c6_digest (h : AH) (I : Tyg Γ h) {o0 : Nat} {kn : Int32} (T0 : BmT Γ o0 kn) : CT la D cA B0 pa yX6_digest cX6_digest 4 (some .long) (rmD 6 0 0) [.ref o0] h (WrO Γ jP h) := by
  refine CT_of (by decide +kernel) (Nat.le_of_ble_eq_true rfl) ?_
  intro p e s m args below meth c X E hr hlk hnm
  have dk : ∀ {pc : Nat} {q : Instr × Nat}, lkd DX6_digest pc = some q → decode cX6_digest pc = .ok q := lkd_ok DX6_digest_ok
  obtain ⟨S1, A2, sp3, os4, wd5, ow6, sa7, oa8, bs9, bc10, sh11, ss12, as13, gb14, gS15, gA16, sl17, sT18, al19, aT20, tsp21, tos22, twd23, tow24, tsa25, toa26, tbs27, tbc28, tsh29⟩ := id T0
  have L135 : ∀ j30 : Nat, j30 ≤ 5 → ∀ (y31 : Int64) (h33 : AH) (J34 : TI Γ h h33) (l : List (Nat × Value)), lsel l [3, 1, 0] = [(3, vI j30), (1, .long (y31)), (0, .ref o0)] → WR p la e (rmD 6 0 0) s m args below meth c D cA B0 4 (WrO Γ jP h) 135 l [] h33 0 0 := by
    refine loopN (fun j30 hj30 ih135 => ?_)
    intro y31 h33 J34 l hl
    refine WS.sel [3, 1, 0] hl ?_
    iterate 2 refine fst1_ok X (dk rfl) rfl ?_
    refine br_ok X (dk rfl) rfl (show ((137 : Nat) : Int) + 22 = ((159 : Nat) : Int) from rfl) (fun c35 => ?_) (fun c36 => ?_)
    · refine fst1_ok X (dk rfl) rfl ?_
      refine ldc2_ok X csX6_271 (dk rfl) ?_
      iterate 2 refine fst1_ok X (dk rfl) rfl ?_
      refine callVW_ok (ci := 8) (T := TX6) (N := 14) (av := []) (r := [_]) X E J34 (c6_isSound _ J34.1 T0) lkX6_isSound mlX6_303 lmX6_isSound lpX6_isSound ⟨Nat.le_of_ble_eq_true rfl, Nat.le_of_ble_eq_true rfl⟩ ⟨Nat.le_of_ble_eq_true rfl, Nat.le_of_ble_eq_true rfl⟩ rfl (bm_cell J34.1 gb14) (Nat.le_of_ble_eq_true rfl) (dk rfl) ?_
      rintro _ h38 ⟨b37, rfl⟩ J39
      refine br_ok X (dk rfl) rfl (show ((168 : Nat) : Int) + 7 = ((175 : Nat) : Int) from rfl) (fun c40 => ?_) (fun c41 => ?_)
      · iterate 3 refine fst1_ok X (dk rfl) rfl ?_
        exact retl_ok X hr hlk (dk rfl) ⟨⟨_, rfl⟩, J39⟩ (Nat.le_of_ble_eq_true rfl) (Nat.le_of_ble_eq_true rfl)
      · refine fst1_ok X (dk rfl) rfl ?_
        refine br_ok X (dk rfl) rfl (show ((172 : Nat) : Int) + 4 = ((176 : Nat) : Int) from rfl) (fun _ => ?_) (fun q => absurd trivial q)
        iterate 2 refine fst1_ok X (dk rfl) rfl ?_
        exact retl_ok X hr hlk (dk rfl) ⟨⟨_, rfl⟩, J39⟩ (Nat.le_of_ble_eq_true rfl) (Nat.le_of_ble_eq_true rfl)
    · refine fst1_ok X (dk rfl) rfl ?_
      refine ldc2_ok X csX6_271 (dk rfl) ?_
      iterate 3 refine fst1_ok X (dk rfl) rfl ?_
      refine callVR_ok (ci := 8) (T := TX6) (N := 14) (av := [.int _]) (r := [_]) X E (c6_houseN _ J34.1 T0 _ ⟨_, (nat_nlt (K := 4) (by omega) (by rw [show nI 4 = Int32.ofInt 4 by decide +kernel]; exact c36)), rfl⟩) lkX6_house mlX6_300 lmX6_house lpX6_house ⟨Nat.le_of_ble_eq_true rfl, Nat.le_of_ble_eq_true rfl⟩ ⟨Nat.le_of_ble_eq_true rfl, Nat.le_of_ble_eq_true rfl⟩ rfl (bm_cell J34.1 gb14) (Nat.le_of_ble_eq_true rfl) (dk rfl) ?_
      rintro _ ⟨x42, rfl⟩
      iterate 4 refine fst1_ok X (dk rfl) rfl ?_
      refine br_ok X (dk rfl) rfl (show ((156 : Nat) : Int) + (-21) = ((135 : Nat) : Int) from rfl) (fun _ => ?_) (fun q => absurd trivial q)
      exact ih135 (nat_nlt (K := 4) (by omega) (by rw [show nI 4 = Int32.ofInt 4 by decide +kernel]; exact c36)) _ h33 J34 _ (by rw [← vI_succ j30]; rfl)
  have L83 : ∀ j43 : Nat, j43 ≤ 3 → ∀ (y44 : Int64) (h46 : AH) (J47 : TI Γ h h46) (l : List (Nat × Value)), lsel l [3, 1, 0] = [(3, vI j43), (1, .long (y44)), (0, .ref o0)] → WR p la e (rmD 6 0 0) s m args below meth c D cA B0 4 (WrO Γ jP h) 83 l [] h46 0 0 := by
    refine loopN (fun j43 hj43 ih83 => ?_)
    intro y44 h46 J47 l hl
    refine WS.sel [3, 1, 0] hl ?_
    iterate 2 refine fst1_ok X (dk rfl) rfl ?_
    refine br_ok X (dk rfl) rfl (show ((85 : Nat) : Int) + 20 = ((105 : Nat) : Int) from rfl) (fun c48 => ?_) (fun c49 => ?_)
    · refine fst1_ok X (dk rfl) rfl ?_
      refine ldc2_ok X csX6_271 (dk rfl) ?_
      iterate 4 refine fst1_ok X (dk rfl) rfl ?_
      refine callVW_ok (ci := 8) (T := TX6) (N := 14) (av := [.int _, .int _]) (r := [_]) X E J47 (c6_stepsN _ J47.1 T0 _ ⟨0, by decide, by decide +kernel⟩ _ ⟨1, by decide, by decide +kernel⟩) lkX6_steps mlX6_293 lmX6_steps lpX6_steps ⟨Nat.le_of_ble_eq_true rfl, Nat.le_of_ble_eq_true rfl⟩ ⟨Nat.le_of_ble_eq_true rfl, Nat.le_of_ble_eq_true rfl⟩ rfl (bm_cell J47.1 gb14) (Nat.le_of_ble_eq_true rfl) (dk rfl) ?_
      rintro _ h51 ⟨x50, rfl⟩ J52
      iterate 4 refine fst1_ok X (dk rfl) rfl ?_
      refine ldc2_ok X csX6_271 (dk rfl) ?_
      iterate 4 refine fst1_ok X (dk rfl) rfl ?_
      refine callVW_ok (ci := 8) (T := TX6) (N := 14) (av := [.int _, .int _]) (r := [_]) X E J52 (c6_whyN _ J52.1 T0 _ ⟨0, by decide, by decide +kernel⟩ _ ⟨1, by decide, by decide +kernel⟩) lkX6_why mlX6_297 lmX6_why lpX6_why ⟨Nat.le_of_ble_eq_true rfl, Nat.le_of_ble_eq_true rfl⟩ ⟨Nat.le_of_ble_eq_true rfl, Nat.le_of_ble_eq_true rfl⟩ rfl (bm_cell J52.1 gb14) (Nat.le_of_ble_eq_true rfl) (dk rfl) ?_
      rintro _ h54 ⟨x53, rfl⟩ J55
      iterate 5 refine fst1_ok X (dk rfl) rfl ?_
      exact L135 0 (by omega) _ h54 J55 _ rfl
    · iterate 2 refine fst1_ok X (dk rfl) rfl ?_
      obtain ⟨dn57, rf58, hx56⟩ := bm_open J47.1 gb14
      refine getf_ok X flX6_17 (dk rfl) hx56 rfl ?_
      refine fst1_ok X (dk rfl) rfl ?_
      have hx59 := is_open J47.1 gA16
      refine aldx_ok X (by decide) (by decide) (dk rfl) hx59 al19 aT20 ⟨_, (nat_lt (K := 3) (by omega) (by rw [show nI 3 = Int32.ofInt 3 by decide +kernel]; exact c49)), rfl⟩ (fun b60 tb61 => ?_)
      refine callSR_ok (av := [.long _, .ref _]) (r := []) X E (c6_withAnswer _ J47.1 _ tb61) lkX6_withAnswer mlX6_289 lsX6_withAnswer ⟨Nat.le_of_ble_eq_true rfl, Nat.le_of_ble_eq_true rfl⟩ ⟨Nat.le_of_ble_eq_true rfl, Nat.le_of_ble_eq_true rfl⟩ (Nat.le_of_ble_eq_true rfl) (dk rfl) ?_
      rintro _ ⟨x62, rfl⟩
      iterate 2 refine fst1_ok X (dk rfl) rfl ?_
      refine br_ok X (dk rfl) rfl (show ((102 : Nat) : Int) + (-19) = ((83 : Nat) : Int) from rfl) (fun _ => ?_) (fun q => absurd trivial q)
      exact ih83 (nat_lt (K := 3) (by omega) (by rw [show nI 3 = Int32.ofInt 3 by decide +kernel]; exact c49)) _ h46 J47 _ (by rw [← vI_succ j43]; rfl)
  have L6 : ∀ j63 : Nat, j63 ≤ 6 → ∀ (y64 : Int64) (h66 : AH) (J67 : TI Γ h h66) (l : List (Nat × Value)), lsel l [3, 1, 0] = [(3, vI j63), (1, .long (y64)), (0, .ref o0)] → WR p la e (rmD 6 0 0) s m args below meth c D cA B0 4 (WrO Γ jP h) 6 l [] h66 0 0 := by
    refine loopN (fun j63 hj63 ih6 => ?_)
    intro y64 h66 J67 l hl
    refine WS.sel [3, 1, 0] hl ?_
    iterate 2 refine fst1_ok X (dk rfl) rfl ?_
    refine br_ok X (dk rfl) rfl (show ((9 : Nat) : Int) + 72 = ((81 : Nat) : Int) from rfl) (fun c68 => ?_) (fun c69 => ?_)
    · iterate 2 refine fst1_ok X (dk rfl) rfl ?_
      exact L83 0 (by omega) _ h66 J67 _ rfl
    · refine fst1_ok X (dk rfl) rfl ?_
      refine ldc2_ok X csX6_271 (dk rfl) ?_
      iterate 3 refine fst1_ok X (dk rfl) rfl ?_
      refine callVR_ok (ci := 8) (T := TX6) (N := 14) (av := [.int _]) (r := [_]) X E (c6_sizeN _ J67.1 T0 _ ⟨_, (nat_lt (K := 6) (by omega) (by rw [show nI 6 = (Int8.ofInt 6).toInt32 by decide +kernel]; exact c69)), rfl⟩) lkX6_size mlX6_273 lmX6_size lpX6_size ⟨Nat.le_of_ble_eq_true rfl, Nat.le_of_ble_eq_true rfl⟩ ⟨Nat.le_of_ble_eq_true rfl, Nat.le_of_ble_eq_true rfl⟩ rfl (bm_cell J67.1 gb14) (Nat.le_of_ble_eq_true rfl) (dk rfl) ?_
      rintro _ ⟨x70, rfl⟩
      iterate 4 refine fst1_ok X (dk rfl) rfl ?_
      refine ldc2_ok X csX6_271 (dk rfl) ?_
      iterate 3 refine fst1_ok X (dk rfl) rfl ?_
      refine callVR_ok (ci := 8) (T := TX6) (N := 14) (av := [.int _]) (r := [_]) X E (c6_depthN _ J67.1 T0 _ ⟨_, (nat_lt (K := 6) (by omega) (by rw [show nI 6 = (Int8.ofInt 6).toInt32 by decide +kernel]; exact c69)), rfl⟩) lkX6_depth mlX6_276 lmX6_depth lpX6_depth ⟨Nat.le_of_ble_eq_true rfl, Nat.le_of_ble_eq_true rfl⟩ ⟨Nat.le_of_ble_eq_true rfl, Nat.le_of_ble_eq_true rfl⟩ rfl (bm_cell J67.1 gb14) (Nat.le_of_ble_eq_true rfl) (dk rfl) ?_
      rintro _ ⟨x71, rfl⟩
      iterate 4 refine fst1_ok X (dk rfl) rfl ?_
      refine ldc2_ok X csX6_271 (dk rfl) ?_
      iterate 3 refine fst1_ok X (dk rfl) rfl ?_
      refine callVR_ok (ci := 8) (T := TX6) (N := 14) (av := [.int _]) (r := [_]) X E (c6_sharedN _ J67.1 T0 _ ⟨_, (nat_lt (K := 6) (by omega) (by rw [show nI 6 = (Int8.ofInt 6).toInt32 by decide +kernel]; exact c69)), rfl⟩) lkX6_shared mlX6_279 lmX6_shared lpX6_shared ⟨Nat.le_of_ble_eq_true rfl, Nat.le_of_ble_eq_true rfl⟩ ⟨Nat.le_of_ble_eq_true rfl, Nat.le_of_ble_eq_true rfl⟩ rfl (bm_cell J67.1 gb14) (Nat.le_of_ble_eq_true rfl) (dk rfl) ?_
      rintro _ ⟨x72, rfl⟩
      iterate 4 refine fst1_ok X (dk rfl) rfl ?_
      refine ldc2_ok X csX6_271 (dk rfl) ?_
      iterate 3 refine fst1_ok X (dk rfl) rfl ?_
      refine callVR_ok (ci := 8) (T := TX6) (N := 14) (av := [.int _]) (r := [_]) X E (c6_namesN _ J67.1 T0 _ ⟨_, (nat_lt (K := 6) (by omega) (by rw [show nI 6 = (Int8.ofInt 6).toInt32 by decide +kernel]; exact c69)), rfl⟩) lkX6_names mlX6_282 lmX6_names lpX6_names ⟨Nat.le_of_ble_eq_true rfl, Nat.le_of_ble_eq_true rfl⟩ ⟨Nat.le_of_ble_eq_true rfl, Nat.le_of_ble_eq_true rfl⟩ rfl (bm_cell J67.1 gb14) (Nat.le_of_ble_eq_true rfl) (dk rfl) ?_
      rintro _ ⟨x73, rfl⟩
      iterate 5 refine fst1_ok X (dk rfl) rfl ?_
      obtain ⟨dn75, rf76, hx74⟩ := bm_open J67.1 gb14
      refine getf_ok X flX6_11 (dk rfl) hx74 rfl ?_
      refine fst1_ok X (dk rfl) rfl ?_
      have hx77 := is_open J67.1 gS15
      refine aldx_ok X (by decide) (by decide) (dk rfl) hx77 sl17 sT18 ⟨_, (nat_lt (K := 6) (by omega) (by rw [show nI 6 = (Int8.ofInt 6).toInt32 by decide +kernel]; exact c69)), rfl⟩ (fun b78 tb79 => ?_)
      refine callSR_ok (av := [.long _, .ref _]) (r := []) X E (c6_withLetters _ J67.1 _ tb79) lkX6_withLetters mlX6_285 lsX6_withLetters ⟨Nat.le_of_ble_eq_true rfl, Nat.le_of_ble_eq_true rfl⟩ ⟨Nat.le_of_ble_eq_true rfl, Nat.le_of_ble_eq_true rfl⟩ (Nat.le_of_ble_eq_true rfl) (dk rfl) ?_
      rintro _ ⟨x80, rfl⟩
      iterate 2 refine fst1_ok X (dk rfl) rfl ?_
      refine br_ok X (dk rfl) rfl (show ((78 : Nat) : Int) + (-72) = ((6 : Nat) : Int) from rfl) (fun _ => ?_) (fun q => absurd trivial q)
      exact ih6 (nat_lt (K := 6) (by omega) (by rw [show nI 6 = (Int8.ofInt 6).toInt32 by decide +kernel]; exact c69)) _ h66 J67 _ (by rw [← vI_succ j63]; rfl)
  refine ldc2_ok X csX6_269 (dk rfl) ?_
  iterate 3 refine fst1_ok X (dk rfl) rfl ?_
  exact L6 0 (by omega) _ h (TI.rf I) _ rfl
end M98
end Ud09f6d
section Ud10bridge
/-! while the class is only asked: all its cells keep their contents but those that it writes to in between -/
noncomputable def FZt (B Q P : Nat → Nat) (h : AH) : TY := fun a => by
  classical exact if h1 : ∃ i, (30 ≤ i ∧ i < 52) ∧ a = B i then some (termφ (Q h1.choose) (rmI h1.choose))
  else if h2 : ∃ i, (30 ≤ i ∧ i < 52) ∧ a = Q i then some (FZ.letφ (rmI h2.choose))
  else if h3 : ∃ j, (60 ≤ j ∧ j < 70) ∧ a = Q j then some (rowφ (rlI h3.choose))
  else if a = P 4 then some (stepφ (B 50) (Q 60) (P 13))
  else if h5 : ∃ k, k < 3 ∧ a = P (13 + k) then some (pairφ (Q (64 + 2 * h5.choose)) (Q (65 + 2 * h5.choose)))
  else (h a).map isφ
section FZb
variable {B Q P : Nat → Nat} {ox : Nat} {kn : Int32} {d r : Int32} {h h' : AH} {F : Nat → TC} {a k : Nat} {vs : List Value}
theorem fz_nB (S : TS B Q h F) (e : h a = some (k, vs)) (hk : k ≠ 7) : ¬ ∃ i, (30 ≤ i ∧ i < 52) ∧ a = B i := fun ⟨i, hi, z⟩ => k_ne e (S i hi.2).2.1 hk z
theorem fz_nQ (S : TS B Q h F) (e : h a = some (k, vs)) (hk : k ≠ 107) : ¬ ∃ i, (30 ≤ i ∧ i < 52) ∧ a = Q i := fun ⟨i, hi, z⟩ => by
  obtain ⟨-, -, xs, x1, -⟩ := S i hi.2
  exact k_ne e x1 hk z
theorem fz_nR (R : ROWS Q h) (e : h a = some (k, vs)) (hk : k ≠ 107) : ¬ ∃ j, (60 ≤ j ∧ j < 70) ∧ a = Q j := fun ⟨j, hj, z⟩ => by
  obtain ⟨xs, x1, -⟩ := R j hj.1 hj.2
  exact k_ne e x1 hk z
theorem fz_n4 (R : SCR B Q P h) (e : h a = some (k, vs)) (hk : k ≠ 6) : a ≠ P 4 := fun z => by
  obtain ⟨⟨t, e2, r1⟩, -⟩ := R
  exact k_ne e r1 hk z
theorem fz_np (R : SCR B Q P h) (e : h a = some (k, vs)) (hk : k ≠ 4) : ¬ ∃ k, k < 3 ∧ a = P (13 + k) := fun ⟨i, hi, z⟩ => by
  obtain ⟨w, -, w2⟩ := R.2.2.2.1 i hi
  exact k_ne e w2 hk z
theorem FZt_B (Y : LYO B Q) {i : Nat} (h1 : 30 ≤ i) (h2 : i < 52) : FZt B Q P h (B i) = some (termφ (Q i) (rmI i)) := by
  have hx : ∃ i', (30 ≤ i' ∧ i' < 52) ∧ B i = B i' := ⟨i, ⟨h1, h2⟩, rfl⟩
  have e := hx.choose_spec
  have ei : hx.choose = i := Y.1 _ _ e.1.2 h2 e.2.symm
  unfold FZt
  rw [dif_pos hx, ei]
theorem FZt_Q (Y : LYO B Q) (S : TS B Q h F) {i : Nat} (h1 : 30 ≤ i) (h2 : i < 52) : FZt B Q P h (Q i) = some (FZ.letφ (rmI i)) := by
  obtain ⟨-, -, xs, x1, -⟩ := S i h2
  have hx : ∃ i', (30 ≤ i' ∧ i' < 52) ∧ Q i = Q i' := ⟨i, ⟨h1, h2⟩, rfl⟩
  have e := hx.choose_spec
  have ei : hx.choose = i := Y.2 _ _ (by omega) (by omega) e.2.symm
  unfold FZt
  rw [dif_neg (fz_nB S x1 (by decide)), dif_pos hx, ei]
theorem FZt_R (Y : LYO B Q) (S : TS B Q h F) (R : ROWS Q h) {j : Nat} (h1 : 60 ≤ j) (h2 : j < 70) : FZt B Q P h (Q j) = some (rowφ (rlI j)) := by
  obtain ⟨xs, x1, -⟩ := R j h1 h2
  have hx : ∃ i', (60 ≤ i' ∧ i' < 70) ∧ Q j = Q i' := ⟨j, ⟨h1, h2⟩, rfl⟩
  have e := hx.choose_spec
  have ei : hx.choose = j := Y.2 _ _ e.1.2 h2 e.2.symm
  unfold FZt
  rw [dif_neg (fz_nB S x1 (by decide)), dif_neg (fun ⟨i, hi, z⟩ => by have := Y.2 _ _ h2 (by omega) z; omega), dif_pos hx, ei]
theorem FZt_4 (S : TS B Q h F) (R : SCR B Q P h) : FZt B Q P h (P 4) = some (stepφ (B 50) (Q 60) (P 13)) := by
  obtain ⟨⟨t, e2, r1⟩, -, -, -, r5⟩ := R
  unfold FZt
  rw [dif_neg (fz_nB S r1 (by decide)), dif_neg (fz_nQ S r1 (by decide)), dif_neg (fz_nR r5 r1 (by decide)), if_pos rfl]
theorem FZt_p (Y : LYO B Q) (S : TS B Q h F) (R : SCR B Q P h) {i : Nat} (hi : i < 3) : FZt B Q P h (P (13 + i)) = some (pairφ (Q (64 + 2 * i)) (Q (65 + 2 * i))) := by
  obtain ⟨w, -, w2⟩ := R.2.2.2.1 i hi
  have hx : ∃ k, k < 3 ∧ P (13 + i) = P (13 + k) := ⟨i, hi, rfl⟩
  have e := hx.choose_spec
  have ei : hx.choose = i := by
    rcases Nat.decEq hx.choose i with z | z
    · exact absurd e.2.symm (R.pne Y e.1 hi z)
    · exact z
  unfold FZt
  rw [dif_neg (fz_nB S w2 (by decide)), dif_neg (fz_nQ S w2 (by decide)), dif_neg (fz_nR R.2.2.2.2 w2 (by decide)), if_neg (fz_n4 R w2 (by decide)), dif_pos hx, ei]
theorem FZt_k (S : TS B Q h F) (R : SCR B Q P h) (e : h a = some (k, vs)) (h7 : k ≠ 7) (h1 : k ≠ 107) (h6 : k ≠ 6) (h4 : k ≠ 4) : FZt B Q P h a = some (isφ (k, vs)) := by
  unfold FZt
  rw [dif_neg (fz_nB S e h7), dif_neg (fz_nQ S e h1), dif_neg (fz_nR R.2.2.2.2 e h1), if_neg (fz_n4 R e h6), dif_neg (fz_np R e h4), e]
  rfl
theorem FZt_b (Y : LYO B Q) (S : TS B Q h F) (R : SCR B Q P h) {i : Nat} (hi : i < 30) (e : h (B i) = some (7, vs)) : FZt B Q P h (B i) = some (isφ (7, vs)) := by
  unfold FZt
  rw [dif_neg (fun ⟨j, hj, z⟩ => by have := Y.1 _ _ (by omega) hj.2 z; omega), dif_neg (fz_nQ S e (by decide)), dif_neg (fz_nR R.2.2.2.2 e (by decide)), if_neg (fz_n4 R e (by decide)), dif_neg (fz_np R e (by decide)), e]
  rfl
theorem FZt_q (Y : LYO B Q) (S : TS B Q h F) (R : SCR B Q P h) {i : Nat} (hi : i < 30) (e : h (Q i) = some (107, vs)) : FZt B Q P h (Q i) = some (isφ (107, vs)) := by
  unfold FZt
  rw [dif_neg (fz_nB S e (by decide)), dif_neg (fun ⟨j, hj, z⟩ => by have := Y.2 _ _ (by omega) (by omega) z; omega), dif_neg (fun ⟨j, hj, z⟩ => by have := Y.2 _ _ (by omega) hj.2 z; omega), if_neg (fz_n4 R e (by decide)), dif_neg (fz_np R e (by decide)), e]
  rfl
theorem FZt_ok (S : TS B Q h F) (R : SCR B Q P h) : Tyg (FZt B Q P h) h := by
  intro a φ g
  unfold FZt at g
  split at g
  · rename_i hx
    obtain ⟨e1, e2⟩ := hx.choose_spec
    obtain ⟨s1, s2, -⟩ := S _ e1.2
    cases g
    exact ⟨_, (congrArg h e2).trans s2, _, _, rfl, s1⟩
  · split at g
    · rename_i hx
      obtain ⟨e1, e2⟩ := hx.choose_spec
      obtain ⟨-, -, xs, x1, x2, -⟩ := S _ e1.2
      cases g
      exact ⟨_, (congrArg h e2).trans x1, xs, rfl, x2, fun _ _ => trivial⟩
    · split at g
      · rename_i hx
        obtain ⟨e1, e2⟩ := hx.choose_spec
        obtain ⟨xs, x1, x2⟩ := R.2.2.2.2 _ e1.1 e1.2
        cases g
        exact ⟨_, (congrArg h e2).trans x1, xs, rfl, x2⟩
      · split at g
        · rename_i hx
          obtain ⟨⟨t, e2, r1⟩, -⟩ := R
          cases g
          exact ⟨_, (congrArg h hx).trans r1, t, e2, rfl⟩
        · split at g
          · rename_i hx
            obtain ⟨e1, e2⟩ := hx.choose_spec
            obtain ⟨w, w1, w2⟩ := R.2.2.2.1 _ e1
            cases g
            exact ⟨_, (congrArg h e2).trans w2, w, rfl, w1⟩
          · cases e : h a with
            | none => rw [e] at g; cases g
            | some c =>
              rw [e] at g
              cases g
              exact ⟨c, rfl, rfl⟩
theorem FZt_T (Y : LYO B Q) (S : TS B Q h F) {i : Nat} (h1 : 30 ≤ i) (h2 : i < 52) {L : Nat} (hL : L = rmI i) : FZ.TermG true (FZt B Q P h) (B i) L := by
  subst hL
  exact ⟨rmI_le i, Q i, FZt_B Y h1 h2, FZt_Q Y S h1 h2⟩
theorem FZt_F (Y : LYO B Q) (S : TS B Q h F) (R : SCR B Q P h) {i : Nat} (hi : i < 30) : FZ.TermG false (FZt B Q P h) (B i) 16 := by
  have hrm : rmI i = 16 := by unfold rmI; rw [if_pos (by omega)]
  obtain ⟨s1, s2, xs, x1, x2, -⟩ := S i (by omega)
  rw [hrm] at s1 x2
  exact ⟨by decide, Q i, ⟨_, FZt_b Y S R hi s2, fun c hc => by rw [hc]; exact ⟨_, _, rfl, s1⟩⟩, ⟨_, FZt_q Y S R hi x1, fun c hc => by rw [hc]; exact ⟨xs, rfl, x2, fun _ _ => trivial⟩⟩⟩
theorem FZt_A (Y : LYO B Q) (S : TS B Q h F) (R : SCR B Q P h) {o f : Nat} (O : AnO B h o f) {w : Bool} (ht : ∀ n, n < 8 → FZ.TermG w (FZt B Q P h) (B (f + n)) 16) : FZ.AnsG w (FZt B Q P h) o := by
  obtain ⟨h1, arr, h2, h3⟩ := O
  refine ⟨arr, rgB B f 8, FZt_k S R h2 (by decide) (by decide) (by decide) (by decide), FZt_k S R h3 (by decide) (by decide) (by decide) (by decide), by unfold rgB; rw [List.length_map, List.length_range], fun t ht2 => ?_⟩
  unfold rgB at ht2
  rw [List.mem_map] at ht2
  obtain ⟨n, hn, rfl⟩ := ht2
  exact ht n (List.mem_range.mp hn)
theorem FZt_Pr (Y : LYO B Q) (S : TS B Q h F) (R : SCR B Q P h) {i : Nat} (hi : i < 3) : PairsT (FZt B Q P h) (P (13 + i)) := by
  refine ⟨_, _, FZt_p Y S R hi, ?_, ?_⟩
  · rw [FZt_R Y S R.2.2.2.2 (by omega) (by omega)]
    unfold rlI
    rw [if_neg (by omega), if_neg (by omega)]
  · rw [FZt_R Y S R.2.2.2.2 (by omega) (by omega)]
    unfold rlI
    rw [if_neg (by omega), if_neg (by omega)]
theorem FZt_Bm (Y : LYO B Q) (C : CLS B Q P ox kn h F d r) : FZ.BmT (FZt B Q P h) ox kn := by
  obtain ⟨S, c2, ⟨p0, p1, pa, pb, pc⟩, R⟩ := id C
  obtain ⟨-, r2, r3, -, -⟩ := id R
  have lt16 : ∀ i, i < 50 → 34 ≤ i → (16 : Nat) = rmI i := fun i h1 h2 => by unfold rmI; rw [if_neg (by omega), if_neg (by omega), if_pos h1]
  refine ⟨P 0, P 1, B 30, B 31, B 32, B 33, P 2, P 3, P 4, P 5, P 6, rgB B 0 6, rgB P 7 3, ⟨_, FZt_k S R c2 (by decide) (by decide) (by decide) (by decide), fun c hc => by rw [hc]; exact ⟨d, r, rfl⟩⟩, FZt_k S R p0 (by decide) (by decide) (by decide) (by decide), FZt_k S R p1 (by decide) (by decide) (by decide) (by decide), by unfold rgB; rw [List.length_map, List.length_range], fun t ht => ?_, by unfold rgB; rw [List.length_map, List.length_range], fun t ht => ?_,
    FZt_T Y S (by decide) (by decide) rfl, FZt_T Y S (by decide) (by decide) rfl, FZt_T Y S (by decide) (by decide) rfl, FZt_T Y S (by decide) (by decide) rfl, FZt_A Y S R pb (fun n hn => FZt_T Y S (by omega) (by omega) (lt16 _ (by omega) (by omega))), FZt_A Y S R pc (fun n hn => FZt_T Y S (by omega) (by omega) (lt16 _ (by omega) (by omega))), ?_, ?_, ?_⟩
  · unfold rgB at ht
    rw [List.mem_map] at ht
    obtain ⟨n, hn, rfl⟩ := ht
    have := List.mem_range.mp hn
    exact FZt_F Y S R (by omega)
  · unfold rgB at ht
    rw [List.mem_map] at ht
    obtain ⟨n, hn, rfl⟩ := ht
    have hn3 := List.mem_range.mp hn
    exact FZt_A Y S R (pa n hn3) (fun i hi => FZt_F Y S R (by omega))
  · exact ⟨B 50, Q 60, P 13, FZt_4 S R, FZt_T Y S (by decide) (by decide) rfl, FZt_R Y S R.2.2.2.2 (by decide) (by decide), FZt_Pr Y S R (i := 0) (by decide)⟩
  · exact ⟨B 51, Q 61, Q 62, Q 63, P 14, FZt_k S R r2 (by decide) (by decide) (by decide) (by decide), FZt_T Y S (by decide) (by decide) rfl, FZt_R Y S R.2.2.2.2 (by decide) (by decide), FZt_R Y S R.2.2.2.2 (by decide) (by decide), FZt_R Y S R.2.2.2.2 (by decide) (by decide), FZt_Pr Y S R (i := 1) (by decide)⟩
  · exact ⟨P 15, FZt_k S R r3 (by decide) (by decide) (by decide) (by decide), FZt_Pr Y S R (i := 2) (by decide)⟩
theorem fz_is {a : Nat} {c : AC} (J : Tyg (FZt B Q P h) h') (e : FZt B Q P h a = some (isφ c)) : h' a = some c := by
  obtain ⟨c', h1, h2⟩ := J a _ e
  rw [h1, h2]
/-- what it was asked left all but what it writes to in between -/
theorem FZ_fin (Y : LYO B Q) (C : CLS B Q P ox kn h F d r) (J : Tyg (FZt B Q P h) h') : FrC h h' ∧ ∃ F' : Nat → TC, CLS B Q P ox kn h' F' d r ∧ ∀ i, i < 30 → F' i = F i := by
  obtain ⟨S, c2, ⟨p0, p1, pa, pb, pc⟩, R⟩ := id C
  obtain ⟨-, r2, r3, -, -⟩ := id R
  have kp : ∀ {a k : Nat} {vs : List Value}, h a = some (k, vs) → k ≠ 7 → k ≠ 107 → k ≠ 6 → k ≠ 4 → h' a = some (k, vs) := fun {a k vs} e h1 h2 h3 h4 => fz_is J (FZt_k S R e h1 h2 h3 h4)
  have ka : ∀ {o f : Nat}, AnO B h o f → AnO B h' o f := fun {o f} ⟨h1, arr, h2, h3⟩ => ⟨h1, arr, kp h2 (by decide) (by decide) (by decide) (by decide), kp h3 (by decide) (by decide) (by decide) (by decide)⟩
  have ex : ∀ i, ∃ t : TC, (i < 52 → TmX h' (B i) (Q i) (rmI i) t) ∧ (i < 30 → t = F i) := fun i => by
    rcases Nat.lt_or_ge i 30 with c | c
    · obtain ⟨s1, s2, xs, x1, x2, x3⟩ := S i (by omega)
      exact ⟨F i, fun _ => ⟨s1, fz_is J (FZt_b Y S R c s2), xs, fz_is J (FZt_q Y S R c x1), x2, x3⟩, fun _ => rfl⟩
    · rcases Nat.lt_or_ge i 52 with c2 | c2
      · obtain ⟨c1, h1, f, t, rfl, hf⟩ := J _ _ (FZt_B Y c c2)
        obtain ⟨c3, h3, xs, rfl, x2, -⟩ := J _ _ (FZt_Q Y S c c2)
        have el : (xs.take f).length = f := by rw [List.length_take]; omega
        exact ⟨(xs.take f, t), fun _ => ⟨by rw [el]; exact hf, by rw [el]; exact h1, xs, h3, x2, by rw [el]⟩, fun z => by omega⟩
      · exact ⟨([], false), fun z => by omega, fun z => by omega⟩
  obtain ⟨F', hF⟩ := Classical.axiomOfChoice ex
  refine ⟨fun a c e ck0 => ?_, F', ⟨fun i hi => (hF i).1 hi, kp c2 (by decide) (by decide) (by decide) (by decide), ⟨kp p0 (by decide) (by decide) (by decide) (by decide), kp p1 (by decide) (by decide) (by decide) (by decide), fun k hk => ka (pa k hk), ka pb, ka pc⟩, ?_, kp r2 (by decide) (by decide) (by decide) (by decide), kp r3 (by decide) (by decide) (by decide) (by decide), fun k hk => ?_, fun j h1 h2 => ?_⟩, fun i hi => (hF i).2 hi⟩
  · obtain ⟨k, vs⟩ := c
    exact kp e (fun z => by rw [z] at ck0; cases ck0) (fun z => by rw [z] at ck0; cases ck0) (fun z => by rw [z] at ck0; cases ck0) (fun z => by rw [z] at ck0; cases ck0)
  · obtain ⟨c, h1, t, e, rfl⟩ := J _ _ (FZt_4 S R)
    exact ⟨t, e, h1⟩
  · obtain ⟨c, h1, w, rfl, hw⟩ := J _ _ (FZt_p Y S R hk)
    exact ⟨w, hw, h1⟩
  · obtain ⟨c, h3, xs, rfl, x2⟩ := J _ _ (FZt_R Y S R.2.2.2.2 h1 h2)
    exact ⟨xs, h3, x2⟩
theorem FZ_st (Y : LYO B Q) {st : ST} (C0 : StC B Q P ox kn h st) : Tyg (FZt B Q P h) h ∧ FZ.BmT (FZt B Q P h) ox kn ∧ ∀ {h' : AH}, Tyg (FZt B Q P h) h' → StC B Q P ox kn h' st ∧ FrC h h' := by
  obtain ⟨F, C, H, O⟩ := C0
  refine ⟨FZt_ok C.1 C.2.2.2, FZt_Bm Y C, fun {h'} J => ?_⟩
  obtain ⟨f, F', C', e⟩ := FZ_fin Y C J
  exact ⟨⟨F', C', H.cg e, O⟩, f⟩
end FZb
end Ud10bridge
section Ud11texts
/-! texts, size, knock of the class, strongly (printed by wip/p20/genD11.py) -/
abbrev LR0 (x : Int32) : Prop := LR x
theorem ltX_LR {ns : List Nat} (h : ∀ x ∈ ns, okL x) (x : Int32) : LR0 (ltX (ns.map nI) x) := by
  unfold ltX
  split
  · exact LR_9
  · cases e : (ns.map nI)[x.toNatClampNeg]? with
    | none => exact LR_9
    | some y =>
      obtain ⟨z, hz, rfl⟩ := List.mem_map.mp (List.mem_of_getElem? e)
      have := (h z hz).lt
      exact LR_nI (by omega)
section F11
variable {la : Launch} {D : va_G} {cA : Nat → ClassId} {B0 pa : Nat} {Γ : TY}
set_option maxHeartbeats 8000000 in
theorem FZ.c6_written (h : AH) (I : Tyg Γ h) {o0 : Nat} {w0 : Bool} (T0 : TermG w0 Γ o0 16) (HL : ∀ (h2 : AH), Tyg Γ h2 → ∀ j : Nat, ∃ x : Int32, LR0 x ∧ CT la D cA B0 pa yX5_letterAt cX5_letterAt 2 (some .int) (rmD 0 0 0) [.ref o0, vI j] h2 (RP (.int x) h2)) : CT la D cA B0 pa yX6_written cX6_written 6 (some (.object "java/lang/String")) (rmD 6 156 46400) [.ref o0] h (WrO Γ (fun v => ∃ sa : Nat, v = some (.ref sa)) h) := by
  refine CT_of (by decide +kernel) (Nat.le_of_ble_eq_true rfl) ?_
  intro p e s m args below meth c X E hr hlk hnm
  have dk : ∀ {pc : Nat} {q : Instr × Nat}, lkd DX6_written pc = some q → decode cX6_written pc = .ok q := lkd_ok DX6_written_ok
  obtain ⟨hL, q, gb, gl⟩ := id T0
  refine newSB_ok X E ncX6_332 mlX6_334 (dk rfl) (dk rfl) (dk rfl) ⟨Nat.le_of_ble_eq_true rfl, Nat.le_of_ble_eq_true rfl⟩ ⟨Nat.le_of_ble_eq_true rfl, Nat.le_of_ble_eq_true rfl⟩ (Nat.le_of_ble_eq_true rfl) (fun b h1 S1 => ?_)
  iterate 3 refine fst1_ok X (dk rfl) rfl ?_
  have loop : ∀ (d i nn : Nat) (hc : AH), 16 - i ≤ d → i ≤ 16 → nn ≤ wsum i → SBst h hc b nn → ∀ (l : List (Nat × Value)), lsel l [2, 1, 0] = [(2, vI i), (1, .ref b), (0, .ref o0)] → WR p la e (rmD 6 156 46400) s m args below meth c D cA B0 6 (WrO Γ (fun v => ∃ sa : Nat, v = some (.ref sa)) h) 10 l [] hc (2 + wsum i) (20 + 304 * wsum i) := by
    intro d
    induction d with
    | zero =>
      intro i nn hc hd hi hnn S l hl
      have hi2 : i = 16 := by omega
      have hw := wsum_le i hi
      have Ic := S.base.tyg I
      refine WS.sel [2, 1, 0] hl ?_
      iterate 2 refine fst1_ok X (dk rfl) rfl ?_
      refine callVR_ok (ci := 7) (T := TX5) (N := 3) (av := []) (r := [vI i]) X E (c5_length hc Ic T0) lkX5_length mlX6_76 lmX5_length lpX5_length ⟨Nat.le_of_ble_eq_true rfl, Nat.le_of_ble_eq_true rfl⟩ ⟨by show _ ≤ 156; omega, by show _ ≤ 46400; omega⟩ rfl (tm_cell Ic gb) (Nat.le_of_ble_eq_true rfl) (dk rfl) ?_
      rintro _ ⟨z, hz, rfl⟩
      refine br_ok X (dk rfl) rfl (show ((15 : Nat) : Int) + 88 = ((103 : Nat) : Int) from rfl) (fun _ => ?_) (fun q => absurd ((nI_leI (by omega) (by omega)).mpr (by omega)) q)
      refine fst1_ok X (dk rfl) rfl ?_
      refine toS_ok X E S mlX6_345 ⟨Nat.le_of_ble_eq_true rfl, Nat.le_of_ble_eq_true rfl⟩ ⟨by show 2 + wsum i + 2 ≤ 156; omega, by show 20 + 304 * wsum i + (4 + nn) ≤ 46400; omega⟩ (Nat.le_of_ble_eq_true rfl) (dk rfl) (fun sa h4 S4 => ?_)
      obtain ⟨sa2, va2, -, -, -, -, XQ⟩ := id S4
      exact reta_ok X hr hlk (Or.inl ⟨_, rfl⟩) (Or.inr ⟨_, rfl⟩) (dk rfl) ⟨⟨_, rfl⟩, Ext.ti XQ I⟩ (by show 2 + wsum i + 2 ≤ 156; omega) (by show 20 + 304 * wsum i + (4 + nn) ≤ 46400; omega)
    | succ d ih =>
      intro i nn hc hd hi hnn S l hl
      have hw := wsum_le i hi
      have Ic := S.base.tyg I
      refine WS.sel [2, 1, 0] hl ?_
      iterate 2 refine fst1_ok X (dk rfl) rfl ?_
      refine callVR_ok (ci := 7) (T := TX5) (N := 3) (av := []) (r := [vI i]) X E (c5_length hc Ic T0) lkX5_length mlX6_76 lmX5_length lpX5_length ⟨Nat.le_of_ble_eq_true rfl, Nat.le_of_ble_eq_true rfl⟩ ⟨by show _ ≤ 156; omega, by show _ ≤ 46400; omega⟩ rfl (tm_cell Ic gb) (Nat.le_of_ble_eq_true rfl) (dk rfl) ?_
      rintro _ ⟨z, hz, rfl⟩
      refine br_ok X (dk rfl) rfl (show ((15 : Nat) : Int) + 88 = ((103 : Nat) : Int) from rfl) (fun c1 => ?_) (fun c1 => ?_)
      · refine fst1_ok X (dk rfl) rfl ?_
        refine toS_ok X E S mlX6_345 ⟨Nat.le_of_ble_eq_true rfl, Nat.le_of_ble_eq_true rfl⟩ ⟨by show 2 + wsum i + 2 ≤ 156; omega, by show 20 + 304 * wsum i + (4 + nn) ≤ 46400; omega⟩ (Nat.le_of_ble_eq_true rfl) (dk rfl) (fun sa h4 S4 => ?_)
        obtain ⟨sa2, va2, -, -, -, -, XQ⟩ := id S4
        exact reta_ok X hr hlk (Or.inl ⟨_, rfl⟩) (Or.inr ⟨_, rfl⟩) (dk rfl) ⟨⟨_, rfl⟩, Ext.ti XQ I⟩ (by show 2 + wsum i + 2 ≤ 156; omega) (by show 20 + 304 * wsum i + (4 + nn) ≤ 46400; omega)
      · have hi16 : i < 16 := by
          rcases Nat.lt_or_ge i z with q | q
          · omega
          · exact absurd ((nI_leI (by omega) (by omega)).mpr q) c1
        have hw1 : wsum i + (i + 2) ≤ 152 := wsum_le (i + 1) (by omega)
        iterate 2 refine fst1_ok X (dk rfl) rfl ?_
        obtain ⟨x, hx, HC⟩ := HL hc Ic i
        refine callVR_ok (ci := 7) (T := TX5) (N := 3) (av := [vI i]) (r := []) X E HC lkX5_letterAt mlX6_132 lmX5_letterAt lpX5_letterAt ⟨Nat.le_of_ble_eq_true rfl, Nat.le_of_ble_eq_true rfl⟩ ⟨by show 2 + wsum i ≤ 156; omega, by show 20 + 304 * wsum i ≤ 46400; omega⟩ rfl (tm_cell Ic gb) (Nat.le_of_ble_eq_true rfl) (dk rfl) ?_
        rintro _ rfl
        iterate 3 refine fst1_ok X (dk rfl) rfl ?_
        refine callS_ok (av := [.int x]) (r := [.ref b]) X E (c6_signOf _ x hx) lkX6_signOf mlX6_335 lsX6_signOf ⟨Nat.le_of_ble_eq_true rfl, Nat.le_of_ble_eq_true rfl⟩ ⟨by show 2 + wsum i + 0 ≤ 156; omega, by show 20 + 304 * wsum i + 0 ≤ 46400; omega⟩ (Nat.le_of_ble_eq_true rfl) (dk rfl) ?_
        rintro _ _ ⟨⟨c0, hc0, rfl⟩, rfl⟩
        refine appC_ok (N := 152) X E S hc0 (by omega) (by omega) mlX6_338 ⟨Nat.le_of_ble_eq_true rfl, Nat.le_of_ble_eq_true rfl⟩ ⟨by show 2 + wsum i + 0 + 1 ≤ 156; omega, by show 20 + 304 * wsum i + 0 + 2 * 152 ≤ 46400; omega⟩ (Nat.le_of_ble_eq_true rfl) (dk rfl) (fun h2 S2 => ?_)
        refine WS.widen (k' := 2 + wsum i + 1) (n' := 20 + 304 * wsum i + 304) (by show 2 + wsum i + 0 + 1 ≤ _; omega) (by show 20 + 304 * wsum i + 0 + 2 * 152 ≤ _; omega) ?_
        have I2 := S2.base.tyg I
        iterate 2 refine fst1_ok X (dk rfl) rfl ?_
        refine callS_ok (av := [.int x]) (r := []) X E (c6_partsOf _ I2 x) lkX6_partsOf mlX6_91 lsX6_partsOf ⟨Nat.le_of_ble_eq_true rfl, Nat.le_of_ble_eq_true rfl⟩ ⟨by show 2 + wsum i + 1 + 0 ≤ 156; omega, by show 20 + 304 * wsum i + 304 + 0 ≤ 46400; omega⟩ (Nat.le_of_ble_eq_true rfl) (dk rfl) ?_
        rintro _ _ ⟨⟨pz, hpz, rfl⟩, rfl⟩
        have f2 : Value.int (nI i + Int32.ofInt 1) = vI (i + 1) := congrArg Value.int (by rw [nI_1', nI_add])
        have nxt : ∀ (h3 : AH) (n3 : Nat), n3 ≤ wsum i + (i + 2) → SBst h h3 b n3 → ∀ (l : List (Nat × Value)), lsel l [2, 1, 0] = [(2, vI i), (1, .ref b), (0, .ref o0)] → WR p la e (rmD 6 156 46400) s m args below meth c D cA B0 6 (WrO Γ (fun v => ∃ sa : Nat, v = some (.ref sa)) h) 97 l [] h3 (2 + wsum i + (i + 2)) (20 + 304 * wsum i + 304 * (i + 2)) := by
          intro h3 n3 hn3 S3 l hl
          refine WS.sel [2, 1, 0] hl ?_
          refine fst1_ok X (dk rfl) rfl ?_
          refine br_ok X (dk rfl) rfl (show ((100 : Nat) : Int) + (-90) = ((10 : Nat) : Int) from rfl) (fun _ => ?_) (fun q => absurd trivial q)
          refine WS.sel (l' := [(2, vI (i + 1)), (1, .ref b), (0, .ref o0)]) [2, 1, 0] (by rw [← f2]; rfl) ?_
          refine WS.widen (k' := 2 + wsum (i + 1)) (n' := 20 + 304 * wsum (i + 1)) (by show _ ≤ 2 + (wsum i + (i + 2)); omega) (by show _ ≤ 20 + 304 * (wsum i + (i + 2)); omega) ?_
          exact ih (i + 1) n3 h3 (by omega) (by omega) (by show n3 ≤ wsum i + (i + 2); omega) S3 _ rfl
        refine br_ok X (dk rfl) rfl (show ((37 : Nat) : Int) + 13 = ((50 : Nat) : Int) from rfl) (fun c2 => ?_) (fun c2 => ?_)
        · iterate 2 refine fst1_ok X (dk rfl) rfl ?_
          refine callVR_ok (ci := 7) (T := TX5) (N := 3) (av := [vI i]) (r := []) X E (c5_closedBehind _ I2 T0 (nI i)) lkX5_closedBehind mlX6_342 lmX5_closedBehind lpX5_closedBehind ⟨Nat.le_of_ble_eq_true rfl, Nat.le_of_ble_eq_true rfl⟩ ⟨by show 2 + wsum i + 1 + 0 ≤ 156; omega, by show 20 + 304 * wsum i + 304 + 0 ≤ 46400; omega⟩ rfl (tm_cell I2 gb) (Nat.le_of_ble_eq_true rfl) (dk rfl) ?_
          rintro _ ⟨z2, hz2, rfl⟩
          have hz3 : z2 ≤ i := by
            have e : (nI i).toInt = (i : Int) := Int32.toInt_ofNat_of_lt (by omega)
            rw [e] at hz2
            omega
          iterate 3 refine fst1_ok X (dk rfl) rfl ?_
          have inner : ∀ (d t n2 : Nat) (h3 : AH), z2 - t ≤ d → t ≤ z2 → n2 ≤ wsum i + 1 + t → SBst h h3 b n2 → ∀ (l : List (Nat × Value)), lsel l [5, 4, 2, 1, 0] = [(5, vI t), (4, vI z2), (2, vI i), (1, .ref b), (0, .ref o0)] → WR p la e (rmD 6 156 46400) s m args below meth c D cA B0 6 (WrO Γ (fun v => ∃ sa : Nat, v = some (.ref sa)) h) 60 l [] h3 (2 + wsum i + 1 + t) (20 + 304 * wsum i + 304 + 304 * t) := by
            intro d
            induction d with
            | zero =>
              intro t n2 h3 hd2 ht hn2 S3 l hl
              have ht2 : t = z2 := by omega
              subst ht2
              have I3 := S3.base.tyg I
              refine WS.sel [5, 4, 2, 1, 0] hl ?_
              iterate 2 refine fst1_ok X (dk rfl) rfl ?_
              refine br_ok X (dk rfl) rfl (show ((64 : Nat) : Int) + 16 = ((80 : Nat) : Int) from rfl) (fun _ => ?_) (fun q => absurd (Int32.le_refl _) q)
              iterate 4 refine fst1_ok X (dk rfl) rfl ?_
              refine callVR_ok (ci := 7) (T := TX5) (N := 3) (av := []) (r := [.int (nI i + Int32.ofInt 1)]) X E (c5_length h3 I3 T0) lkX5_length mlX6_76 lmX5_length lpX5_length ⟨Nat.le_of_ble_eq_true rfl, Nat.le_of_ble_eq_true rfl⟩ ⟨by show _ ≤ 156; omega, by show _ ≤ 46400; omega⟩ rfl (tm_cell I3 gb) (Nat.le_of_ble_eq_true rfl) (dk rfl) ?_
              rintro _ ⟨z4, hz4, rfl⟩
              refine br_ok X (dk rfl) rfl (show ((87 : Nat) : Int) + 10 = ((97 : Nat) : Int) from rfl) (fun c4 => ?_) (fun c4 => ?_)
              · refine WS.widen (k' := 2 + wsum i + (i + 2)) (n' := 20 + 304 * wsum i + 304 * (i + 2)) (by show 2 + wsum i + 1 + t ≤ _; omega) (by show 20 + 304 * wsum i + 304 + 304 * t ≤ _; omega) ?_
                exact nxt h3 n2 (by omega) S3 _ rfl
              · iterate 2 refine fst1_ok X (dk rfl) rfl ?_
                rw [show (Int8.ofInt 44).toInt32 = nI 44 by decide +kernel]
                refine appC_ok (N := 152) X E S3 (c0 := 44) (by omega) (by omega) (by omega) mlX6_338 ⟨Nat.le_of_ble_eq_true rfl, Nat.le_of_ble_eq_true rfl⟩ ⟨by show 2 + wsum i + 1 + t + 1 ≤ 156; omega, by show 20 + 304 * wsum i + 304 + 304 * t + 2 * 152 ≤ 46400; omega⟩ (Nat.le_of_ble_eq_true rfl) (dk rfl) (fun h4 S4 => ?_)
                refine fst1_ok X (dk rfl) rfl ?_
                refine WS.widen (k' := 2 + wsum i + (i + 2)) (n' := 20 + 304 * wsum i + 304 * (i + 2)) (by show 2 + wsum i + 1 + t + 1 ≤ _; omega) (by show 20 + 304 * wsum i + 304 + 304 * t + 2 * 152 ≤ _; omega) ?_
                exact nxt h4 _ (by omega) S4 _ rfl
            | succ d ih2 =>
              intro t n2 h3 hd2 ht hn2 S3 l hl
              rcases Nat.eq_or_lt_of_le ht with ht2 | ht2
              · exact ih2 t n2 h3 (by omega) ht hn2 S3 l hl
              refine WS.sel [5, 4, 2, 1, 0] hl ?_
              iterate 2 refine fst1_ok X (dk rfl) rfl ?_
              refine br_ok X (dk rfl) rfl (show ((64 : Nat) : Int) + 16 = ((80 : Nat) : Int) from rfl) (fun q => absurd q (nI_ge (by omega) (by omega))) (fun _ => ?_)
              iterate 2 refine fst1_ok X (dk rfl) rfl ?_
              rw [show (Int8.ofInt 41).toInt32 = nI 41 by decide +kernel]
              refine appC_ok (N := 152) X E S3 (c0 := 41) (by omega) (by omega) (by omega) mlX6_338 ⟨Nat.le_of_ble_eq_true rfl, Nat.le_of_ble_eq_true rfl⟩ ⟨by show 2 + wsum i + 1 + t + 1 ≤ 156; omega, by show 20 + 304 * wsum i + 304 + 304 * t + 2 * 152 ≤ 46400; omega⟩ (Nat.le_of_ble_eq_true rfl) (dk rfl) (fun h4 S4 => ?_)
              iterate 2 refine fst1_ok X (dk rfl) rfl ?_
              refine br_ok X (dk rfl) rfl (show ((77 : Nat) : Int) + (-17) = ((60 : Nat) : Int) from rfl) (fun _ => ?_) (fun q => absurd trivial q)
              have f3 : Value.int (nI t + Int32.ofInt 1) = vI (t + 1) := congrArg Value.int (by rw [nI_1', nI_add])
              refine WS.sel (l' := [(5, vI (t + 1)), (4, vI z2), (2, vI i), (1, .ref b), (0, .ref o0)]) [5, 4, 2, 1, 0] (by rw [← f3]; rfl) ?_
              refine WS.widen (k' := 2 + wsum i + 1 + (t + 1)) (n' := 20 + 304 * wsum i + 304 + 304 * (t + 1)) (by show 2 + wsum i + 1 + t + 1 ≤ _; omega) (by show 20 + 304 * wsum i + 304 + 304 * t + 2 * 152 ≤ _; omega) ?_
              exact ih2 (t + 1) (n2 + 1) h4 (by omega) (by omega) (by omega) S4 _ rfl
          refine WS.widen (k' := 2 + wsum i + 1 + 0) (n' := 20 + 304 * wsum i + 304 + 304 * 0) (by show 2 + wsum i + 1 + 0 ≤ _; omega) (by show 20 + 304 * wsum i + 304 + 0 ≤ _; omega) ?_
          exact inner (z2 - 0) 0 _ _ (Nat.le_refl _) (Nat.zero_le _) (by omega) S2 _ rfl
        · iterate 2 refine fst1_ok X (dk rfl) rfl ?_
          rw [show (Int8.ofInt 40).toInt32 = nI 40 by decide +kernel]
          refine appC_ok (N := 152) X E S2 (c0 := 40) (by omega) (by omega) (by omega) mlX6_338 ⟨Nat.le_of_ble_eq_true rfl, Nat.le_of_ble_eq_true rfl⟩ ⟨by show 2 + wsum i + 1 + 0 + 1 ≤ 156; omega, by show 20 + 304 * wsum i + 304 + 0 + 2 * 152 ≤ 46400; omega⟩ (Nat.le_of_ble_eq_true rfl) (dk rfl) (fun h4 S4 => ?_)
          refine fst1_ok X (dk rfl) rfl ?_
          refine br_ok X (dk rfl) rfl (show ((47 : Nat) : Int) + 50 = ((97 : Nat) : Int) from rfl) (fun _ => ?_) (fun q => absurd trivial q)
          refine WS.widen (k' := 2 + wsum i + (i + 2)) (n' := 20 + 304 * wsum i + 304 * (i + 2)) (by show 2 + wsum i + 1 + 0 + 1 ≤ _; omega) (by show 20 + 304 * wsum i + 304 + 0 + 2 * 152 ≤ _; omega) ?_
          exact nxt h4 _ (by omega) S4 _ rfl
  exact loop 16 0 0 h1 (by omega) (by omega) (Nat.le_refl _) S1 _ rfl
end F11
def aSize (x1 : Int32) (st : ST) : RS := if okI 6 x1 then ((0, nI (st.1.getD (xI x1) []).length), st) else ((1, 0), st)
def aTold (x1 x2 : Int32) (st : ST) : RS := if okI 3 x1 then (if okI 8 x2 then ((0, 0), st) else ((2, 0), st)) else ((1, 0), st)
def QT (B Q P : Nat → Nat) (ox : Nat) (kn : Int32) (st : ST) (h : AH) (v : Option Value) (h' : AH) : Prop := (∃ sa : Nat, v = some (.ref sa)) ∧ StC B Q P ox kn h' st ∧ FrC h h'
section S11d
variable {la : Launch} {D : va_G} {cA : Nat → ClassId} {B0 pa : Nat} {B Q P : Nat → Nat} {ox : Nat} {kn d r : Int32} {F : Nat → TC}
theorem HL_ok {h : AH} (Y : LYO B Q) (C : CLS B Q P ox kn h F d r) {i : Nat} (hi : i < 30) {ns : List Nat} (N : TN (F i) ns) : ∀ (h2 : AH), Tyg (FZt B Q P h) h2 → ∀ j : Nat, ∃ x : Int32, LR0 x ∧ CT la D cA B0 pa yX5_letterAt cX5_letterAt 2 (some .int) (rmD 0 0 0) [.ref (B i), vI j] h2 (RP (.int x) h2) := fun h2 J j => by
  obtain ⟨-, F', C', e⟩ := FZ_fin Y C J
  exact ⟨ltX (F' i).1 (nI j), by rw [e i hi, N.1]; exact ltX_LR N.2 _, s5_letterAt h2 C'.1 (by omega) (nI j)⟩
theorem CLS.knk {h : AH} (C : CLS B Q P ox kn h F d r) (kn' : Int32) : CLS B Q P ox kn' (hup h ox (OXc B P d r kn')) F d r ∧ FrC h (hup h ox (OXc B P d r kn')) := by
  obtain ⟨S, x, ⟨c1, c2, c3, c4, c5⟩, ⟨t, e, r1⟩, r2, r3, r4, r5⟩ := C
  have x' : h ox = some (8, (OXc B P d r kn).2) := x
  have kp : ∀ {b k : Nat} {vs : List Value}, h b = some (k, vs) → k ≠ 8 → hup h ox (OXc B P d r kn') b = some (k, vs) := fun {b k vs} eb hk => by rw [hup_ne _ _ (k_ne eb x' hk)]; exact eb
  refine ⟨⟨S.out x' (by decide) (by decide) _, hup_self _ _ _, ⟨kp c1 (by decide), kp c2 (by decide), fun k hk => (c3 k hk).out x' (by decide) (by decide) _, c4.out x' (by decide) (by decide) _, c5.out x' (by decide) (by decide) _⟩, ⟨t, e, kp r1 (by decide)⟩, kp r2 (by decide), kp r3 (by decide), fun k hk => ?_, fun j h1 h2 => ?_⟩, FrC.put x rfl _⟩
  · obtain ⟨w, w1, w2⟩ := r4 k hk
    exact ⟨w, w1, kp w2 (by decide)⟩
  · obtain ⟨xs, e1, e2⟩ := r5 j h1 h2
    exact ⟨xs, kp e1 (by decide), e2⟩
set_option maxHeartbeats 8000000 in
theorem s6_text (h : AH) (hl : la.stackTraces = false) (Y : LYO B Q) {st : ST} (C0 : StC B Q P ox kn h st) (x1 : Int32) : CTX la D cA B0 pa yX6_text cX6_text 2 (some (.object "java/lang/String")) (rmD 7 157 46406) [.ref ox, .int x1] h (QT B Q P ox kn st h) (AX (aSize x1 st) st h) := by
  refine CTX_of (by decide +kernel) (Nat.le_of_ble_eq_true rfl) ?_
  intro p e s m args below meth c X E hr hlk hnm ht
  have dk : ∀ {pc : Nat} {q : Instr × Nat}, lkd DX6_text pc = some q → decode cX6_text pc = .ok q := lkd_ok DX6_text_ok
  obtain ⟨F, C, H, O⟩ := id C0
  obtain ⟨Ig, Tb, fin⟩ := FZ_st Y C0
  iterate 2 refine fst1_ok X (dk rfl) rfl ?_
  refine callVX_ok (ci := 8) (T := TX6) (N := 14) (av := [.int x1]) (r := []) X E ht hlk (s6_termOf h hl C x1) (fun E1 h1 z => AX.one (by unfold aSize; rw [if_neg (by rw [okI_f z.2.1]; decide)]) ⟨z.1, z.2.2⟩) lkX6_termOf mlX6_69 lmX6_termOf lpX6_termOf ⟨Nat.le_of_ble_eq_true rfl, Nat.le_of_ble_eq_true rfl⟩ ⟨Nat.le_of_ble_eq_true rfl, Nat.le_of_ble_eq_true rfl⟩ rfl C.2.1 (Nat.le_of_ble_eq_true rfl) (dk rfl) ?_
  rintro _ h1 ⟨⟨j, hj, rfl, rfl⟩, eh⟩
  obtain rfl := eh.symm
  obtain ⟨nj, sj, ej, tj, wj, lj⟩ := H.slot O hj
  refine callS_ok (av := [.ref (B j)]) (r := []) X E (FZ.c6_written _ Ig (FZt_F Y C.1 C.2.2.2 (i := j) (by omega)) (HL_ok Y C (i := j) (by omega) tj)) lkX6_written mlX6_197 lsX6_written ⟨Nat.le_of_ble_eq_true rfl, Nat.le_of_ble_eq_true rfl⟩ ⟨Nat.le_of_ble_eq_true rfl, Nat.le_of_ble_eq_true rfl⟩ (Nat.le_of_ble_eq_true rfl) (dk rfl) ?_
  rintro _ h3 ⟨⟨sa, rfl⟩, J2⟩
  refine WRX.ret ?_
  exact reta_ok X hr hlk (Or.inl ⟨_, rfl⟩) (Or.inr ⟨_, rfl⟩) (dk rfl) (⟨⟨_, rfl⟩, fin J2.1⟩) (Nat.le_of_ble_eq_true rfl) (Nat.le_of_ble_eq_true rfl)
set_option maxHeartbeats 8000000 in
theorem s6_told (h : AH) (hl : la.stackTraces = false) (Y : LYO B Q) {st : ST} (C0 : StC B Q P ox kn h st) (x1 x2 : Int32) : CTX la D cA B0 pa yX6_told cX6_told 3 (some (.object "java/lang/String")) (rmD 7 158 46412) [.ref ox, .int x1, .int x2] h (QT B Q P ox kn st h) (AX (aTold x1 x2 st) st h) := by
  refine CTX_of (by decide +kernel) (Nat.le_of_ble_eq_true rfl) ?_
  intro p e s m args below meth c X E hr hlk hnm ht
  have dk : ∀ {pc : Nat} {q : Instr × Nat}, lkd DX6_told pc = some q → decode cX6_told pc = .ok q := lkd_ok DX6_told_ok
  obtain ⟨F, C, H, O⟩ := id C0
  obtain ⟨Ig, Tb, fin⟩ := FZ_st Y C0
  iterate 2 refine fst1_ok X (dk rfl) rfl ?_
  refine callVX_ok (ci := 8) (T := TX6) (N := 14) (av := [.int x1]) (r := []) X E ht hlk (s6_answerOf h hl C x1) (fun E1 h1 z => AX.one (by unfold aTold; rw [if_neg (by rw [okI_f z.2.1]; decide)]) ⟨z.1, z.2.2⟩) lkX6_answerOf mlX6_151 lmX6_answerOf lpX6_answerOf ⟨Nat.le_of_ble_eq_true rfl, Nat.le_of_ble_eq_true rfl⟩ ⟨Nat.le_of_ble_eq_true rfl, Nat.le_of_ble_eq_true rfl⟩ rfl C.2.1 (Nat.le_of_ble_eq_true rfl) (dk rfl) ?_
  rintro _ h1 ⟨⟨k, hk, rfl, rfl⟩, eh⟩
  obtain rfl := eh.symm
  obtain ⟨rows, sk, rk⟩ := H.2 k hk
  have ok := C.2.2.1.2.2.1 k hk
  refine fst1_ok X (dk rfl) rfl ?_
  refine callVX_ok (ci := 2) (T := TX0) (N := 1) (av := [.int x2]) (r := []) X E ht hlk (s0_of _ hl C.1 ok x2) (fun E1 h1 z => AX.two (by unfold aTold; rw [if_pos (okI_t hk (by decide)), if_neg (by rw [okI_f z.2.1]; decide)]) ⟨z.1, z.2.2⟩) lkX0_of mlX6_169 lmX0_of lpX0_of ⟨Nat.le_of_ble_eq_true rfl, Nat.le_of_ble_eq_true rfl⟩ ⟨Nat.le_of_ble_eq_true rfl, Nat.le_of_ble_eq_true rfl⟩ rfl ok.2.choose_spec.1 (Nat.le_of_ble_eq_true rfl) (dk rfl) ?_
  rintro _ h1 ⟨⟨n, hn, rfl, rfl⟩, eh⟩
  obtain rfl := eh.symm
  obtain ⟨zs, z1, z2, z3, z4⟩ := rk.2 n hn
  have tz : TN (F (6 + 8 * k + n)) zs := ⟨by rw [z2], z3.2⟩
  refine callS_ok (av := [.ref (B (6 + 8 * k + n))]) (r := []) X E (FZ.c6_written _ Ig (FZt_F Y C.1 C.2.2.2 (i := 6 + 8 * k + n) (by omega)) (HL_ok Y C (i := 6 + 8 * k + n) (by omega) tz)) lkX6_written mlX6_197 lsX6_written ⟨Nat.le_of_ble_eq_true rfl, Nat.le_of_ble_eq_true rfl⟩ ⟨Nat.le_of_ble_eq_true rfl, Nat.le_of_ble_eq_true rfl⟩ (Nat.le_of_ble_eq_true rfl) (dk rfl) ?_
  rintro _ h3 ⟨⟨sa, rfl⟩, J2⟩
  refine WRX.ret ?_
  exact reta_ok X hr hlk (Or.inl ⟨_, rfl⟩) (Or.inr ⟨_, rfl⟩) (dk rfl) (⟨⟨_, rfl⟩, fin J2.1⟩) (Nat.le_of_ble_eq_true rfl) (Nat.le_of_ble_eq_true rfl)
set_option maxHeartbeats 8000000 in
theorem s6_size (h : AH) (hl : la.stackTraces = false) (Y : LYO B Q) {st : ST} (C0 : StC B Q P ox kn h st) (x1 : Int32) : CTX la D cA B0 pa yX6_size cX6_size 2 (some .int) (rmD 7 1 6) [.ref ox, .int x1] h (AP B Q P ox kn (aSize x1 st) h) (AX (aSize x1 st) st h) := by
  refine CTX_of (by decide +kernel) (Nat.le_of_ble_eq_true rfl) ?_
  intro p e s m args below meth c X E hr hlk hnm ht
  have dk : ∀ {pc : Nat} {q : Instr × Nat}, lkd DX6_size pc = some q → decode cX6_size pc = .ok q := lkd_ok DX6_size_ok
  obtain ⟨F, C, H, O⟩ := id C0
  iterate 2 refine fst1_ok X (dk rfl) rfl ?_
  refine callVX_ok (ci := 8) (T := TX6) (N := 14) (av := [.int x1]) (r := []) X E ht hlk (s6_termOf h hl C x1) (fun E1 h1 z => AX.one (by unfold aSize; rw [if_neg (by rw [okI_f z.2.1]; decide)]) ⟨z.1, z.2.2⟩) lkX6_termOf mlX6_69 lmX6_termOf lpX6_termOf ⟨Nat.le_of_ble_eq_true rfl, Nat.le_of_ble_eq_true rfl⟩ ⟨Nat.le_of_ble_eq_true rfl, Nat.le_of_ble_eq_true rfl⟩ rfl C.2.1 (Nat.le_of_ble_eq_true rfl) (dk rfl) ?_
  rintro _ h1 ⟨⟨j, hj, rfl, rfl⟩, eh⟩
  obtain rfl := eh.symm
  obtain ⟨nj, sj, ej, tj, wj, lj⟩ := H.slot O hj
  refine callVR_ok (ci := 7) (T := TX5) (N := 3) (av := []) (r := []) X E (s5_length _ C.1 (i := j) (by omega)) lkX5_length mlX6_76 lmX5_length lpX5_length ⟨Nat.le_of_ble_eq_true rfl, Nat.le_of_ble_eq_true rfl⟩ ⟨Nat.le_of_ble_eq_true rfl, Nat.le_of_ble_eq_true rfl⟩ rfl ⟨_, (C.1 j (by omega)).2.1⟩ (Nat.le_of_ble_eq_true rfl) (dk rfl) ?_
  rintro _ rfl
  rw [tj.len]
  have e : aSize (nI j) st = ((0, nI nj.length), st) := by
    unfold aSize
    rw [if_pos (okI_t hj (by decide)), xI_n (by omega), getD_of sj]
  rw [e]
  refine WRX.ret ?_
  exact reti_ok X hr hlk rfl (dk rfl) (⟨rfl, rfl, ⟨F, C, H, O⟩, FrC.rf _⟩) (Nat.le_of_ble_eq_true rfl) (Nat.le_of_ble_eq_true rfl)
set_option maxHeartbeats 4000000 in
theorem s6_knock (h : AH) {st : ST} (C0 : StC B Q P ox kn h st) : CT la D cA B0 pa yX6_knock cX6_knock 1 (some .int) (rmD 0 0 0) [.ref ox] h (fun v h' => v = some (.int (kn + Int32.ofInt 1)) ∧ StC B Q P ox (kn + Int32.ofInt 1) h' st ∧ FrC h h') := by
  refine CT_of (by decide +kernel) (Nat.le_of_ble_eq_true rfl) ?_
  intro p e s m args below meth c X E hr hlk hnm
  have dk : ∀ {pc : Nat} {q : Instr × Nat}, lkd DX6_knock pc = some q → decode cX6_knock pc = .ok q := lkd_ok DX6_knock_ok
  obtain ⟨F, C, H, O⟩ := id C0
  iterate 2 refine fst1_ok X (dk rfl) rfl ?_
  refine getf_ok X flX6_248 (dk rfl) C.2.1 rfl ?_
  iterate 2 refine fst1_ok X (dk rfl) rfl ?_
  refine putf_ok X flX6_248 ftX6_4 (Or.inl rfl) rfl rfl (dk rfl) C.2.1 (Nat.le_of_ble_eq_true rfl) ?_
  have C2 := C.knk (kn + Int32.ofInt 1)
  refine fst1_ok X (dk rfl) rfl ?_
  refine getf_ok X flX6_248 (dk rfl) C2.1.2.1 rfl ?_
  exact reti_ok X hr hlk rfl (dk rfl) (⟨rfl, ⟨F, C2.1, H, O⟩, C2.2⟩) (Nat.le_of_ble_eq_true rfl) (Nat.le_of_ble_eq_true rfl)
end S11d
end Ud11texts
