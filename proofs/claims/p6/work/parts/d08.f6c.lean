/-! the class, weakly, over types that keep contents: questions (printed by wip/p20/genFZ.py from wip/p40/cl6.py) -/
section M97
variable {la : Launch} {D : va_G} {cA : Nat → ClassId} {B0 pa : Nat} {Γ : TY}
set_option maxHeartbeats 4000000 in
theorem FZ.c6_sizeN (h : AH) (I : Tyg Γ h) {o0 : Nat} {kn : Int32} (T0 : BmT Γ o0 kn) (x1 : Int32) (hx1 : inN 6 x1) : CT la D cA B0 pa yX6_size cX6_size 2 (some .int) (rmD 1 0 0) [.ref o0, .int (x1)] h (RdO iP h) := by
  refine CT_of (by decide +kernel) (Nat.le_of_ble_eq_true rfl) ?_
  intro p e s m args below meth c X E hr hlk hnm
  have dk : ∀ {pc : Nat} {q : Instr × Nat}, lkd DX6_size pc = some q → decode cX6_size pc = .ok q := lkd_ok DX6_size_ok
  obtain ⟨S1, A2, sp3, os4, wd5, ow6, sa7, oa8, bs9, bc10, sh11, ss12, as13, gb14, gS15, gA16, sl17, sT18, al19, aT20, tsp21, tos22, twd23, tow24, tsa25, toa26, tbs27, tbc28, tsh29⟩ := id T0
  iterate 2 refine fst1_ok X (dk rfl) rfl ?_
  refine callVR_ok (ci := 8) (T := TX6) (N := 14) (av := [.int _]) (r := []) X E (c6_termOfN _ (TI.rf I).1 T0 _ hx1) lkX6_termOf mlX6_69 lmX6_termOf lpX6_termOf ⟨Nat.le_of_ble_eq_true rfl, Nat.le_of_ble_eq_true rfl⟩ ⟨Nat.le_of_ble_eq_true rfl, Nat.le_of_ble_eq_true rfl⟩ rfl (bm_cell (TI.rf I).1 gb14) (Nat.le_of_ble_eq_true rfl) (dk rfl) ?_
  rintro _ ⟨b30, rfl, tb31⟩
  obtain ⟨hL33, q32, gb34, gl35⟩ := id tb31
  refine callVR_ok (ci := 7) (T := TX5) (N := 3) (av := []) (r := []) X E (c5_length _ (TI.rf I).1 tb31) lkX5_length mlX6_76 lmX5_length lpX5_length ⟨Nat.le_of_ble_eq_true rfl, Nat.le_of_ble_eq_true rfl⟩ ⟨Nat.le_of_ble_eq_true rfl, Nat.le_of_ble_eq_true rfl⟩ rfl (tm_cell (TI.rf I).1 gb34) (Nat.le_of_ble_eq_true rfl) (dk rfl) ?_
  rintro _ ⟨n36, hn37, rfl⟩
  exact reti_ok X hr hlk rfl (dk rfl) ⟨⟨_, rfl⟩, rfl⟩ (Nat.le_of_ble_eq_true rfl) (Nat.le_of_ble_eq_true rfl)
set_option maxHeartbeats 4000000 in
theorem FZ.c6_depth (h : AH) (hl : la.stackTraces = false) (I : Tyg Γ h) {o0 : Nat} {kn : Int32} (T0 : BmT Γ o0 kn) (x1 : Int32) : CTX la D cA B0 pa yX6_depth cX6_depth 2 (some .int) (rmD 7 1 6) [.ref o0, .int (x1)] h (WrO Γ iP h) (pxW [ioobe] Γ h) := by
  refine CTX_of (by decide +kernel) (Nat.le_of_ble_eq_true rfl) ?_
  intro p e s m args below meth c X E hr hlk hnm ht
  have dk : ∀ {pc : Nat} {q : Instr × Nat}, lkd DX6_depth pc = some q → decode cX6_depth pc = .ok q := lkd_ok DX6_depth_ok
  obtain ⟨S1, A2, sp3, os4, wd5, ow6, sa7, oa8, bs9, bc10, sh11, ss12, as13, gb14, gS15, gA16, sl17, sT18, al19, aT20, tsp21, tos22, twd23, tow24, tsa25, toa26, tbs27, tbc28, tsh29⟩ := id T0
  iterate 2 refine fst1_ok X (dk rfl) rfl ?_
  refine callVXW_ok (ci := 8) (T := TX6) (N := 14) (av := [.int _]) (r := []) X E (TI.rf I) ht hlk (c6_termOf _ hl (TI.rf I).1 T0 _) (by simp) lkX6_termOf mlX6_69 lmX6_termOf lpX6_termOf ⟨Nat.le_of_ble_eq_true rfl, Nat.le_of_ble_eq_true rfl⟩ ⟨Nat.le_of_ble_eq_true rfl, Nat.le_of_ble_eq_true rfl⟩ rfl (bm_cell (TI.rf I).1 gb14) (Nat.le_of_ble_eq_true rfl) (dk rfl) ?_
  rintro _ h32 ⟨b30, rfl, tb31⟩ J33
  obtain ⟨hL35, q34, gb36, gl37⟩ := id tb31
  refine callVR_ok (ci := 7) (T := TX5) (N := 3) (av := []) (r := []) X E (c5_levels _ J33.1 tb31) lkX5_levels mlX6_201 lmX5_levels lpX5_levels ⟨Nat.le_of_ble_eq_true rfl, Nat.le_of_ble_eq_true rfl⟩ ⟨Nat.le_of_ble_eq_true rfl, Nat.le_of_ble_eq_true rfl⟩ rfl (tm_cell J33.1 gb36) (Nat.le_of_ble_eq_true rfl) (dk rfl) ?_
  rintro _ ⟨x38, rfl⟩
  refine WRX.ret ?_
  exact reti_ok X hr hlk rfl (dk rfl) ⟨⟨_, rfl⟩, J33⟩ (Nat.le_of_ble_eq_true rfl) (Nat.le_of_ble_eq_true rfl)
set_option maxHeartbeats 4000000 in
theorem FZ.c6_depthN (h : AH) (I : Tyg Γ h) {o0 : Nat} {kn : Int32} (T0 : BmT Γ o0 kn) (x1 : Int32) (hx1 : inN 6 x1) : CT la D cA B0 pa yX6_depth cX6_depth 2 (some .int) (rmD 4 0 0) [.ref o0, .int (x1)] h (RdO iP h) := by
  refine CT_of (by decide +kernel) (Nat.le_of_ble_eq_true rfl) ?_
  intro p e s m args below meth c X E hr hlk hnm
  have dk : ∀ {pc : Nat} {q : Instr × Nat}, lkd DX6_depth pc = some q → decode cX6_depth pc = .ok q := lkd_ok DX6_depth_ok
  obtain ⟨S1, A2, sp3, os4, wd5, ow6, sa7, oa8, bs9, bc10, sh11, ss12, as13, gb14, gS15, gA16, sl17, sT18, al19, aT20, tsp21, tos22, twd23, tow24, tsa25, toa26, tbs27, tbc28, tsh29⟩ := id T0
  iterate 2 refine fst1_ok X (dk rfl) rfl ?_
  refine callVR_ok (ci := 8) (T := TX6) (N := 14) (av := [.int _]) (r := []) X E (c6_termOfN _ (TI.rf I).1 T0 _ hx1) lkX6_termOf mlX6_69 lmX6_termOf lpX6_termOf ⟨Nat.le_of_ble_eq_true rfl, Nat.le_of_ble_eq_true rfl⟩ ⟨Nat.le_of_ble_eq_true rfl, Nat.le_of_ble_eq_true rfl⟩ rfl (bm_cell (TI.rf I).1 gb14) (Nat.le_of_ble_eq_true rfl) (dk rfl) ?_
  rintro _ ⟨b30, rfl, tb31⟩
  obtain ⟨hL33, q32, gb34, gl35⟩ := id tb31
  refine callVR_ok (ci := 7) (T := TX5) (N := 3) (av := []) (r := []) X E (c5_levels _ (TI.rf I).1 tb31) lkX5_levels mlX6_201 lmX5_levels lpX5_levels ⟨Nat.le_of_ble_eq_true rfl, Nat.le_of_ble_eq_true rfl⟩ ⟨Nat.le_of_ble_eq_true rfl, Nat.le_of_ble_eq_true rfl⟩ rfl (tm_cell (TI.rf I).1 gb34) (Nat.le_of_ble_eq_true rfl) (dk rfl) ?_
  rintro _ ⟨x36, rfl⟩
  exact reti_ok X hr hlk rfl (dk rfl) ⟨⟨_, rfl⟩, rfl⟩ (Nat.le_of_ble_eq_true rfl) (Nat.le_of_ble_eq_true rfl)
set_option maxHeartbeats 4000000 in
theorem FZ.c6_shared (h : AH) (hl : la.stackTraces = false) (I : Tyg Γ h) {o0 : Nat} {kn : Int32} (T0 : BmT Γ o0 kn) (x1 : Int32) : CTX la D cA B0 pa yX6_shared cX6_shared 2 (some .int) (rmD 7 1 6) [.ref o0, .int (x1)] h (WrO Γ iP h) (pxW [ioobe] Γ h) := by
  refine CTX_of (by decide +kernel) (Nat.le_of_ble_eq_true rfl) ?_
  intro p e s m args below meth c X E hr hlk hnm ht
  have dk : ∀ {pc : Nat} {q : Instr × Nat}, lkd DX6_shared pc = some q → decode cX6_shared pc = .ok q := lkd_ok DX6_shared_ok
  obtain ⟨S1, A2, sp3, os4, wd5, ow6, sa7, oa8, bs9, bc10, sh11, ss12, as13, gb14, gS15, gA16, sl17, sT18, al19, aT20, tsp21, tos22, twd23, tow24, tsa25, toa26, tbs27, tbc28, tsh29⟩ := id T0
  iterate 2 refine fst1_ok X (dk rfl) rfl ?_
  refine callVXW_ok (ci := 8) (T := TX6) (N := 14) (av := [.int _]) (r := []) X E (TI.rf I) ht hlk (c6_termOf _ hl (TI.rf I).1 T0 _) (by simp) lkX6_termOf mlX6_69 lmX6_termOf lpX6_termOf ⟨Nat.le_of_ble_eq_true rfl, Nat.le_of_ble_eq_true rfl⟩ ⟨Nat.le_of_ble_eq_true rfl, Nat.le_of_ble_eq_true rfl⟩ rfl (bm_cell (TI.rf I).1 gb14) (Nat.le_of_ble_eq_true rfl) (dk rfl) ?_
  rintro _ h32 ⟨b30, rfl, tb31⟩ J33
  obtain ⟨hL35, q34, gb36, gl37⟩ := id tb31
  refine callVR_ok (ci := 7) (T := TX5) (N := 3) (av := []) (r := []) X E (c5_unlikePlaces _ J33.1 tb31) lkX5_unlikePlaces mlX6_204 lmX5_unlikePlaces lpX5_unlikePlaces ⟨Nat.le_of_ble_eq_true rfl, Nat.le_of_ble_eq_true rfl⟩ ⟨Nat.le_of_ble_eq_true rfl, Nat.le_of_ble_eq_true rfl⟩ rfl (tm_cell J33.1 gb36) (Nat.le_of_ble_eq_true rfl) (dk rfl) ?_
  rintro _ ⟨x38, rfl⟩
  refine WRX.ret ?_
  exact reti_ok X hr hlk rfl (dk rfl) ⟨⟨_, rfl⟩, J33⟩ (Nat.le_of_ble_eq_true rfl) (Nat.le_of_ble_eq_true rfl)
set_option maxHeartbeats 4000000 in
theorem FZ.c6_sharedN (h : AH) (I : Tyg Γ h) {o0 : Nat} {kn : Int32} (T0 : BmT Γ o0 kn) (x1 : Int32) (hx1 : inN 6 x1) : CT la D cA B0 pa yX6_shared cX6_shared 2 (some .int) (rmD 4 0 0) [.ref o0, .int (x1)] h (RdO iP h) := by
  refine CT_of (by decide +kernel) (Nat.le_of_ble_eq_true rfl) ?_
  intro p e s m args below meth c X E hr hlk hnm
  have dk : ∀ {pc : Nat} {q : Instr × Nat}, lkd DX6_shared pc = some q → decode cX6_shared pc = .ok q := lkd_ok DX6_shared_ok
  obtain ⟨S1, A2, sp3, os4, wd5, ow6, sa7, oa8, bs9, bc10, sh11, ss12, as13, gb14, gS15, gA16, sl17, sT18, al19, aT20, tsp21, tos22, twd23, tow24, tsa25, toa26, tbs27, tbc28, tsh29⟩ := id T0
  iterate 2 refine fst1_ok X (dk rfl) rfl ?_
  refine callVR_ok (ci := 8) (T := TX6) (N := 14) (av := [.int _]) (r := []) X E (c6_termOfN _ (TI.rf I).1 T0 _ hx1) lkX6_termOf mlX6_69 lmX6_termOf lpX6_termOf ⟨Nat.le_of_ble_eq_true rfl, Nat.le_of_ble_eq_true rfl⟩ ⟨Nat.le_of_ble_eq_true rfl, Nat.le_of_ble_eq_true rfl⟩ rfl (bm_cell (TI.rf I).1 gb14) (Nat.le_of_ble_eq_true rfl) (dk rfl) ?_
  rintro _ ⟨b30, rfl, tb31⟩
  obtain ⟨hL33, q32, gb34, gl35⟩ := id tb31
  refine callVR_ok (ci := 7) (T := TX5) (N := 3) (av := []) (r := []) X E (c5_unlikePlaces _ (TI.rf I).1 tb31) lkX5_unlikePlaces mlX6_204 lmX5_unlikePlaces lpX5_unlikePlaces ⟨Nat.le_of_ble_eq_true rfl, Nat.le_of_ble_eq_true rfl⟩ ⟨Nat.le_of_ble_eq_true rfl, Nat.le_of_ble_eq_true rfl⟩ rfl (tm_cell (TI.rf I).1 gb34) (Nat.le_of_ble_eq_true rfl) (dk rfl) ?_
  rintro _ ⟨x36, rfl⟩
  exact reti_ok X hr hlk rfl (dk rfl) ⟨⟨_, rfl⟩, rfl⟩ (Nat.le_of_ble_eq_true rfl) (Nat.le_of_ble_eq_true rfl)
set_option maxHeartbeats 4000000 in
theorem FZ.c6_names (h : AH) (hl : la.stackTraces = false) (I : Tyg Γ h) {o0 : Nat} {kn : Int32} (T0 : BmT Γ o0 kn) (x1 : Int32) : CTX la D cA B0 pa yX6_names cX6_names 2 (some .int) (rmD 7 1 6) [.ref o0, .int (x1)] h (WrO Γ iP h) (pxW [ioobe] Γ h) := by
  refine CTX_of (by decide +kernel) (Nat.le_of_ble_eq_true rfl) ?_
  intro p e s m args below meth c X E hr hlk hnm ht
  have dk : ∀ {pc : Nat} {q : Instr × Nat}, lkd DX6_names pc = some q → decode cX6_names pc = .ok q := lkd_ok DX6_names_ok
  obtain ⟨S1, A2, sp3, os4, wd5, ow6, sa7, oa8, bs9, bc10, sh11, ss12, as13, gb14, gS15, gA16, sl17, sT18, al19, aT20, tsp21, tos22, twd23, tow24, tsa25, toa26, tbs27, tbc28, tsh29⟩ := id T0
  iterate 2 refine fst1_ok X (dk rfl) rfl ?_
  refine callVXW_ok (ci := 8) (T := TX6) (N := 14) (av := [.int _]) (r := []) X E (TI.rf I) ht hlk (c6_termOf _ hl (TI.rf I).1 T0 _) (by simp) lkX6_termOf mlX6_69 lmX6_termOf lpX6_termOf ⟨Nat.le_of_ble_eq_true rfl, Nat.le_of_ble_eq_true rfl⟩ ⟨Nat.le_of_ble_eq_true rfl, Nat.le_of_ble_eq_true rfl⟩ rfl (bm_cell (TI.rf I).1 gb14) (Nat.le_of_ble_eq_true rfl) (dk rfl) ?_
  rintro _ h32 ⟨b30, rfl, tb31⟩ J33
  obtain ⟨hL35, q34, gb36, gl37⟩ := id tb31
  refine callVR_ok (ci := 7) (T := TX5) (N := 3) (av := []) (r := []) X E (c5_allNames _ J33.1 tb31) lkX5_allNames mlX6_140 lmX5_allNames lpX5_allNames ⟨Nat.le_of_ble_eq_true rfl, Nat.le_of_ble_eq_true rfl⟩ ⟨Nat.le_of_ble_eq_true rfl, Nat.le_of_ble_eq_true rfl⟩ rfl (tm_cell J33.1 gb36) (Nat.le_of_ble_eq_true rfl) (dk rfl) ?_
  rintro _ ⟨x38, rfl⟩
  refine WRX.ret ?_
  exact reti_ok X hr hlk rfl (dk rfl) ⟨⟨_, rfl⟩, J33⟩ (Nat.le_of_ble_eq_true rfl) (Nat.le_of_ble_eq_true rfl)
set_option maxHeartbeats 4000000 in
theorem FZ.c6_namesN (h : AH) (I : Tyg Γ h) {o0 : Nat} {kn : Int32} (T0 : BmT Γ o0 kn) (x1 : Int32) (hx1 : inN 6 x1) : CT la D cA B0 pa yX6_names cX6_names 2 (some .int) (rmD 3 0 0) [.ref o0, .int (x1)] h (RdO iP h) := by
  refine CT_of (by decide +kernel) (Nat.le_of_ble_eq_true rfl) ?_
  intro p e s m args below meth c X E hr hlk hnm
  have dk : ∀ {pc : Nat} {q : Instr × Nat}, lkd DX6_names pc = some q → decode cX6_names pc = .ok q := lkd_ok DX6_names_ok
  obtain ⟨S1, A2, sp3, os4, wd5, ow6, sa7, oa8, bs9, bc10, sh11, ss12, as13, gb14, gS15, gA16, sl17, sT18, al19, aT20, tsp21, tos22, twd23, tow24, tsa25, toa26, tbs27, tbc28, tsh29⟩ := id T0
  iterate 2 refine fst1_ok X (dk rfl) rfl ?_
  refine callVR_ok (ci := 8) (T := TX6) (N := 14) (av := [.int _]) (r := []) X E (c6_termOfN _ (TI.rf I).1 T0 _ hx1) lkX6_termOf mlX6_69 lmX6_termOf lpX6_termOf ⟨Nat.le_of_ble_eq_true rfl, Nat.le_of_ble_eq_true rfl⟩ ⟨Nat.le_of_ble_eq_true rfl, Nat.le_of_ble_eq_true rfl⟩ rfl (bm_cell (TI.rf I).1 gb14) (Nat.le_of_ble_eq_true rfl) (dk rfl) ?_
  rintro _ ⟨b30, rfl, tb31⟩
  obtain ⟨hL33, q32, gb34, gl35⟩ := id tb31
  refine callVR_ok (ci := 7) (T := TX5) (N := 3) (av := []) (r := []) X E (c5_allNames _ (TI.rf I).1 tb31) lkX5_allNames mlX6_140 lmX5_allNames lpX5_allNames ⟨Nat.le_of_ble_eq_true rfl, Nat.le_of_ble_eq_true rfl⟩ ⟨Nat.le_of_ble_eq_true rfl, Nat.le_of_ble_eq_true rfl⟩ rfl (tm_cell (TI.rf I).1 gb34) (Nat.le_of_ble_eq_true rfl) (dk rfl) ?_
  rintro _ ⟨x36, rfl⟩
  exact reti_ok X hr hlk rfl (dk rfl) ⟨⟨_, rfl⟩, rfl⟩ (Nat.le_of_ble_eq_true rfl) (Nat.le_of_ble_eq_true rfl)
set_option maxHeartbeats 4000000 in
theorem FZ.c6_letter (h : AH) (hl : la.stackTraces = false) (I : Tyg Γ h) {o0 : Nat} {kn : Int32} (T0 : BmT Γ o0 kn) (x1 : Int32) (x2 : Int32) : CTX la D cA B0 pa yX6_letter cX6_letter 3 (some .int) (rmD 7 1 6) [.ref o0, .int (x1), .int (x2)] h (WrO Γ iP h) (pxW [ioobe] Γ h) := by
  refine CTX_of (by decide +kernel) (Nat.le_of_ble_eq_true rfl) ?_
  intro p e s m args below meth c X E hr hlk hnm ht
  have dk : ∀ {pc : Nat} {q : Instr × Nat}, lkd DX6_letter pc = some q → decode cX6_letter pc = .ok q := lkd_ok DX6_letter_ok
  obtain ⟨S1, A2, sp3, os4, wd5, ow6, sa7, oa8, bs9, bc10, sh11, ss12, as13, gb14, gS15, gA16, sl17, sT18, al19, aT20, tsp21, tos22, twd23, tow24, tsa25, toa26, tbs27, tbc28, tsh29⟩ := id T0
  iterate 2 refine fst1_ok X (dk rfl) rfl ?_
  refine callVXW_ok (ci := 8) (T := TX6) (N := 14) (av := [.int _]) (r := []) X E (TI.rf I) ht hlk (c6_termOf _ hl (TI.rf I).1 T0 _) (by simp) lkX6_termOf mlX6_69 lmX6_termOf lpX6_termOf ⟨Nat.le_of_ble_eq_true rfl, Nat.le_of_ble_eq_true rfl⟩ ⟨Nat.le_of_ble_eq_true rfl, Nat.le_of_ble_eq_true rfl⟩ rfl (bm_cell (TI.rf I).1 gb14) (Nat.le_of_ble_eq_true rfl) (dk rfl) ?_
  rintro _ h32 ⟨b30, rfl, tb31⟩ J33
  refine fst1_ok X (dk rfl) rfl ?_
  obtain ⟨hL35, q34, gb36, gl37⟩ := id tb31
  refine callVR_ok (ci := 7) (T := TX5) (N := 3) (av := [.int _]) (r := []) X E (c5_letterAt _ J33.1 tb31 _) lkX5_letterAt mlX6_132 lmX5_letterAt lpX5_letterAt ⟨Nat.le_of_ble_eq_true rfl, Nat.le_of_ble_eq_true rfl⟩ ⟨Nat.le_of_ble_eq_true rfl, Nat.le_of_ble_eq_true rfl⟩ rfl (tm_cell J33.1 gb36) (Nat.le_of_ble_eq_true rfl) (dk rfl) ?_
  rintro _ ⟨x38, hx39, rfl⟩
  refine WRX.ret ?_
  exact reti_ok X hr hlk rfl (dk rfl) ⟨⟨_, rfl⟩, J33⟩ (Nat.le_of_ble_eq_true rfl) (Nat.le_of_ble_eq_true rfl)
set_option maxHeartbeats 4000000 in
theorem FZ.c6_sizeAt (h : AH) (hl : la.stackTraces = false) (I : Tyg Γ h) {o0 : Nat} {kn : Int32} (T0 : BmT Γ o0 kn) (x1 : Int32) (x2 : Int32) : CTX la D cA B0 pa yX6_sizeAt cX6_sizeAt 4 (some .int) (rmD 7 1 6) [.ref o0, .int (x1), .int (x2)] h (WrO Γ iP h) (pxW [ioobe] Γ h) := by
  refine CTX_of (by decide +kernel) (Nat.le_of_ble_eq_true rfl) ?_
  intro p e s m args below meth c X E hr hlk hnm ht
  have dk : ∀ {pc : Nat} {q : Instr × Nat}, lkd DX6_sizeAt pc = some q → decode cX6_sizeAt pc = .ok q := lkd_ok DX6_sizeAt_ok
  obtain ⟨S1, A2, sp3, os4, wd5, ow6, sa7, oa8, bs9, bc10, sh11, ss12, as13, gb14, gS15, gA16, sl17, sT18, al19, aT20, tsp21, tos22, twd23, tow24, tsa25, toa26, tbs27, tbc28, tsh29⟩ := id T0
  iterate 2 refine fst1_ok X (dk rfl) rfl ?_
  refine callVXW_ok (ci := 8) (T := TX6) (N := 14) (av := [.int _]) (r := []) X E (TI.rf I) ht hlk (c6_termOf _ hl (TI.rf I).1 T0 _) (by simp) lkX6_termOf mlX6_69 lmX6_termOf lpX6_termOf ⟨Nat.le_of_ble_eq_true rfl, Nat.le_of_ble_eq_true rfl⟩ ⟨Nat.le_of_ble_eq_true rfl, Nat.le_of_ble_eq_true rfl⟩ rfl (bm_cell (TI.rf I).1 gb14) (Nat.le_of_ble_eq_true rfl) (dk rfl) ?_
  rintro _ h32 ⟨b30, rfl, tb31⟩ J33
  iterate 3 refine fst1_ok X (dk rfl) rfl ?_
  obtain ⟨hL35, q34, gb36, gl37⟩ := id tb31
  refine callVR_ok (ci := 7) (T := TX5) (N := 3) (av := [.int _]) (r := []) X E (c5_hasPlace _ J33.1 tb31 _) lkX5_hasPlace mlX6_115 lmX5_hasPlace lpX5_hasPlace ⟨Nat.le_of_ble_eq_true rfl, Nat.le_of_ble_eq_true rfl⟩ ⟨Nat.le_of_ble_eq_true rfl, Nat.le_of_ble_eq_true rfl⟩ rfl (tm_cell J33.1 gb36) (Nat.le_of_ble_eq_true rfl) (dk rfl) ?_
  rintro _ ⟨b38, rfl⟩
  refine br_ok X (dk rfl) rfl (show ((11 : Nat) : Int) + 13 = ((24 : Nat) : Int) from rfl) (fun c39 => ?_) (fun c40 => ?_)
  · refine fst1_ok X (dk rfl) rfl ?_
    refine WRX.ret ?_
    exact reti_ok X hr hlk rfl (dk rfl) ⟨⟨_, rfl⟩, J33⟩ (Nat.le_of_ble_eq_true rfl) (Nat.le_of_ble_eq_true rfl)
  · iterate 2 refine fst1_ok X (dk rfl) rfl ?_
    refine callVR_ok (ci := 7) (T := TX5) (N := 3) (av := [.int _]) (r := []) X E (c5_endOf _ J33.1 tb31 _) lkX5_endOf mlX6_122 lmX5_endOf lpX5_endOf ⟨Nat.le_of_ble_eq_true rfl, Nat.le_of_ble_eq_true rfl⟩ ⟨Nat.le_of_ble_eq_true rfl, Nat.le_of_ble_eq_true rfl⟩ rfl (tm_cell J33.1 gb36) (Nat.le_of_ble_eq_true rfl) (dk rfl) ?_
    rintro _ ⟨x41, rfl⟩
    iterate 2 refine fst1_ok X (dk rfl) rfl ?_
    refine br_ok X (dk rfl) rfl (show ((21 : Nat) : Int) + 5 = ((26 : Nat) : Int) from rfl) (fun _ => ?_) (fun q => absurd trivial q)
    refine WRX.ret ?_
    exact reti_ok X hr hlk rfl (dk rfl) ⟨⟨_, rfl⟩, J33⟩ (Nat.le_of_ble_eq_true rfl) (Nat.le_of_ble_eq_true rfl)
set_option maxHeartbeats 4000000 in
theorem FZ.c6_count (h : AH) (hl : la.stackTraces = false) (I : Tyg Γ h) {o0 : Nat} {kn : Int32} (T0 : BmT Γ o0 kn) (x1 : Int32) (x2 : Int32) : CTX la D cA B0 pa yX6_count cX6_count 4 (some .int) (rmD 7 2 12) [.ref o0, .int (x1), .int (x2)] h (WrO Γ iP h) (pxW [ioobe, iae] Γ h) := by
  refine CTX_of (by decide +kernel) (Nat.le_of_ble_eq_true rfl) ?_
  intro p e s m args below meth c X E hr hlk hnm ht
  have dk : ∀ {pc : Nat} {q : Instr × Nat}, lkd DX6_count pc = some q → decode cX6_count pc = .ok q := lkd_ok DX6_count_ok
  obtain ⟨S1, A2, sp3, os4, wd5, ow6, sa7, oa8, bs9, bc10, sh11, ss12, as13, gb14, gS15, gA16, sl17, sT18, al19, aT20, tsp21, tos22, twd23, tow24, tsa25, toa26, tbs27, tbc28, tsh29⟩ := id T0
  iterate 2 refine fst1_ok X (dk rfl) rfl ?_
  refine callVXW_ok (ci := 8) (T := TX6) (N := 14) (av := [.int _]) (r := []) X E (TI.rf I) ht hlk (c6_termOf _ hl (TI.rf I).1 T0 _) (by simp) lkX6_termOf mlX6_69 lmX6_termOf lpX6_termOf ⟨Nat.le_of_ble_eq_true rfl, Nat.le_of_ble_eq_true rfl⟩ ⟨Nat.le_of_ble_eq_true rfl, Nat.le_of_ble_eq_true rfl⟩ rfl (bm_cell (TI.rf I).1 gb14) (Nat.le_of_ble_eq_true rfl) (dk rfl) ?_
  rintro _ h32 ⟨b30, rfl, tb31⟩ J33
  iterate 2 refine fst1_ok X (dk rfl) rfl ?_
  refine callSXW_ok (av := [.int _]) (r := []) X E J33 ht hlk (c6_needName _ hl J33.1 _) (by simp) lkX6_needName mlX6_73 lsX6_needName ⟨Nat.le_of_ble_eq_true rfl, Nat.le_of_ble_eq_true rfl⟩ ⟨Nat.le_of_ble_eq_true rfl, Nat.le_of_ble_eq_true rfl⟩ (Nat.le_of_ble_eq_true rfl) (dk rfl) ?_
  rintro _ h35 ⟨rfl, hN34⟩ J36
  iterate 2 refine fst1_ok X (dk rfl) rfl ?_
  obtain ⟨hL38, q37, gb39, gl40⟩ := id tb31
  refine callVR_ok (ci := 7) (T := TX5) (N := 3) (av := [.int _]) (r := []) X E (c5_placesOf _ J36.1 tb31 _) lkX5_placesOf mlX6_129 lmX5_placesOf lpX5_placesOf ⟨Nat.le_of_ble_eq_true rfl, Nat.le_of_ble_eq_true rfl⟩ ⟨Nat.le_of_ble_eq_true rfl, Nat.le_of_ble_eq_true rfl⟩ rfl (tm_cell J36.1 gb39) (Nat.le_of_ble_eq_true rfl) (dk rfl) ?_
  rintro _ ⟨x41, rfl⟩
  refine WRX.ret ?_
  exact reti_ok X hr hlk rfl (dk rfl) ⟨⟨_, rfl⟩, J36⟩ (Nat.le_of_ble_eq_true rfl) (Nat.le_of_ble_eq_true rfl)
set_option maxHeartbeats 4000000 in
theorem FZ.c6_find (h : AH) (hl : la.stackTraces = false) (I : Tyg Γ h) {o0 : Nat} {kn : Int32} (T0 : BmT Γ o0 kn) (x1 : Int32) (x2 : Int32) : CTX la D cA B0 pa yX6_find cX6_find 6 (some .int) (rmD 7 2 12) [.ref o0, .int (x1), .int (x2)] h (WrO Γ iP h) (pxW [ioobe] Γ h) := by
  refine CTX_of (by decide +kernel) (Nat.le_of_ble_eq_true rfl) ?_
  intro p e s m args below meth c X E hr hlk hnm ht
  have dk : ∀ {pc : Nat} {q : Instr × Nat}, lkd DX6_find pc = some q → decode cX6_find pc = .ok q := lkd_ok DX6_find_ok
  obtain ⟨S1, A2, sp3, os4, wd5, ow6, sa7, oa8, bs9, bc10, sh11, ss12, as13, gb14, gS15, gA16, sl17, sT18, al19, aT20, tsp21, tos22, twd23, tow24, tsa25, toa26, tbs27, tbc28, tsh29⟩ := id T0
  iterate 2 refine fst1_ok X (dk rfl) rfl ?_
  refine callVXW_ok (ci := 8) (T := TX6) (N := 14) (av := [.int _]) (r := []) X E (TI.rf I) ht hlk (c6_termOf _ hl (TI.rf I).1 T0 _) (by simp) lkX6_termOf mlX6_69 lmX6_termOf lpX6_termOf ⟨Nat.le_of_ble_eq_true rfl, Nat.le_of_ble_eq_true rfl⟩ ⟨Nat.le_of_ble_eq_true rfl, Nat.le_of_ble_eq_true rfl⟩ rfl (bm_cell (TI.rf I).1 gb14) (Nat.le_of_ble_eq_true rfl) (dk rfl) ?_
  rintro _ h32 ⟨b30, rfl, tb31⟩ J33
  iterate 3 refine fst1_ok X (dk rfl) rfl ?_
  refine callVXW_ok (ci := 8) (T := TX6) (N := 14) (av := [.int _]) (r := []) X E J33 ht hlk (c6_termOf _ hl J33.1 T0 _) (by simp) lkX6_termOf mlX6_69 lmX6_termOf lpX6_termOf ⟨Nat.le_of_ble_eq_true rfl, Nat.le_of_ble_eq_true rfl⟩ ⟨Nat.le_of_ble_eq_true rfl, Nat.le_of_ble_eq_true rfl⟩ rfl (bm_cell J33.1 gb14) (Nat.le_of_ble_eq_true rfl) (dk rfl) ?_
  rintro _ h36 ⟨b34, rfl, tb35⟩ J37
  iterate 3 refine fst1_ok X (dk rfl) rfl ?_
  have L16 : ∀ j38 : Int32, ∀ (h41 : AH) (J42 : TI Γ h h41) (l : List (Nat × Value)), lsel l [5, 4, 3] = [(5, .int (j38)), (4, .ref b34), (3, .ref b30)] → WRX p la e (rmD 7 2 12) s m args below meth c D cA B0 6 (WrO Γ iP h) (pxW [ioobe] Γ h) 16 l [] h41 2 12 := by
    refine loopUp (fun j38 ih16 => ?_)
    intro h41 J42 l hl
    refine WS.sel [5, 4, 3] hl ?_
    iterate 2 refine fst1_ok X (dk rfl) rfl ?_
    obtain ⟨hL44, q43, gb45, gl46⟩ := id tb31
    refine callVR_ok (ci := 7) (T := TX5) (N := 3) (av := []) (r := [_]) X E (c5_length _ J42.1 tb31) lkX5_length mlX6_76 lmX5_length lpX5_length ⟨Nat.le_of_ble_eq_true rfl, Nat.le_of_ble_eq_true rfl⟩ ⟨Nat.le_of_ble_eq_true rfl, Nat.le_of_ble_eq_true rfl⟩ rfl (tm_cell J42.1 gb45) (Nat.le_of_ble_eq_true rfl) (dk rfl) ?_
    rintro _ ⟨n47, hn48, rfl⟩
    refine br_ok X (dk rfl) rfl (show ((22 : Nat) : Int) + 24 = ((46 : Nat) : Int) from rfl) (fun c49 => ?_) (fun c50 => ?_)
    · refine fst1_ok X (dk rfl) rfl ?_
      refine WRX.ret ?_
      exact reti_ok X hr hlk rfl (dk rfl) ⟨⟨_, rfl⟩, J42⟩ (Nat.le_of_ble_eq_true rfl) (Nat.le_of_ble_eq_true rfl)
    · iterate 4 refine fst1_ok X (dk rfl) rfl ?_
      refine callVR_ok (ci := 7) (T := TX5) (N := 3) (av := [.int _, .ref _, .int _]) (r := []) X E (c5_isLikeAt _ J42.1 tb31 _ tb35 _) lkX5_isLikeAt mlX6_207 lmX5_isLikeAt lpX5_isLikeAt ⟨Nat.le_of_ble_eq_true rfl, Nat.le_of_ble_eq_true rfl⟩ ⟨Nat.le_of_ble_eq_true rfl, Nat.le_of_ble_eq_true rfl⟩ rfl (tm_cell J42.1 gb45) (Nat.le_of_ble_eq_true rfl) (dk rfl) ?_
      rintro _ ⟨b51, rfl⟩
      refine br_ok X (dk rfl) rfl (show ((34 : Nat) : Int) + 6 = ((40 : Nat) : Int) from rfl) (fun c52 => ?_) (fun c53 => ?_)
      · refine fst1_ok X (dk rfl) rfl ?_
        refine br_ok X (dk rfl) rfl (show ((43 : Nat) : Int) + (-27) = ((16 : Nat) : Int) from rfl) (fun _ => ?_) (fun q => absurd trivial q)
        exact ih16 _ (nlt_of c50) h41 J42 _ rfl
      · refine fst1_ok X (dk rfl) rfl ?_
        refine WRX.ret ?_
        exact reti_ok X hr hlk rfl (dk rfl) ⟨⟨_, rfl⟩, J42⟩ (Nat.le_of_ble_eq_true rfl) (Nat.le_of_ble_eq_true rfl)
  exact L16 _ h36 J37 _ rfl
set_option maxHeartbeats 4000000 in
theorem FZ.c6_differ (h : AH) (hl : la.stackTraces = false) (I : Tyg Γ h) {o0 : Nat} {kn : Int32} (T0 : BmT Γ o0 kn) (x1 : Int32) (x2 : Int32) : CTX la D cA B0 pa yX6_differ cX6_differ 6 (some .int) (rmD 7 2 12) [.ref o0, .int (x1), .int (x2)] h (WrO Γ iP h) (pxW [ioobe] Γ h) := by
  refine CTX_of (by decide +kernel) (Nat.le_of_ble_eq_true rfl) ?_
  intro p e s m args below meth c X E hr hlk hnm ht
  have dk : ∀ {pc : Nat} {q : Instr × Nat}, lkd DX6_differ pc = some q → decode cX6_differ pc = .ok q := lkd_ok DX6_differ_ok
  obtain ⟨S1, A2, sp3, os4, wd5, ow6, sa7, oa8, bs9, bc10, sh11, ss12, as13, gb14, gS15, gA16, sl17, sT18, al19, aT20, tsp21, tos22, twd23, tow24, tsa25, toa26, tbs27, tbc28, tsh29⟩ := id T0
  iterate 2 refine fst1_ok X (dk rfl) rfl ?_
  refine callVXW_ok (ci := 8) (T := TX6) (N := 14) (av := [.int _]) (r := []) X E (TI.rf I) ht hlk (c6_termOf _ hl (TI.rf I).1 T0 _) (by simp) lkX6_termOf mlX6_69 lmX6_termOf lpX6_termOf ⟨Nat.le_of_ble_eq_true rfl, Nat.le_of_ble_eq_true rfl⟩ ⟨Nat.le_of_ble_eq_true rfl, Nat.le_of_ble_eq_true rfl⟩ rfl (bm_cell (TI.rf I).1 gb14) (Nat.le_of_ble_eq_true rfl) (dk rfl) ?_
  rintro _ h32 ⟨b30, rfl, tb31⟩ J33
  iterate 3 refine fst1_ok X (dk rfl) rfl ?_
  refine callVXW_ok (ci := 8) (T := TX6) (N := 14) (av := [.int _]) (r := []) X E J33 ht hlk (c6_termOf _ hl J33.1 T0 _) (by simp) lkX6_termOf mlX6_69 lmX6_termOf lpX6_termOf ⟨Nat.le_of_ble_eq_true rfl, Nat.le_of_ble_eq_true rfl⟩ ⟨Nat.le_of_ble_eq_true rfl, Nat.le_of_ble_eq_true rfl⟩ rfl (bm_cell J33.1 gb14) (Nat.le_of_ble_eq_true rfl) (dk rfl) ?_
  rintro _ h36 ⟨b34, rfl, tb35⟩ J37
  iterate 3 refine fst1_ok X (dk rfl) rfl ?_
  have L16 : ∀ j38 : Int32, ∀ (h41 : AH) (J42 : TI Γ h h41) (l : List (Nat × Value)), lsel l [5, 4, 3] = [(5, .int (j38)), (4, .ref b34), (3, .ref b30)] → WRX p la e (rmD 7 2 12) s m args below meth c D cA B0 6 (WrO Γ iP h) (pxW [ioobe] Γ h) 16 l [] h41 2 12 := by
    refine loopUp (fun j38 ih16 => ?_)
    intro h41 J42 l hl
    refine WS.sel [5, 4, 3] hl ?_
    iterate 2 refine fst1_ok X (dk rfl) rfl ?_
    obtain ⟨hL44, q43, gb45, gl46⟩ := id tb31
    refine callVR_ok (ci := 7) (T := TX5) (N := 3) (av := []) (r := [_]) X E (c5_length _ J42.1 tb31) lkX5_length mlX6_76 lmX5_length lpX5_length ⟨Nat.le_of_ble_eq_true rfl, Nat.le_of_ble_eq_true rfl⟩ ⟨Nat.le_of_ble_eq_true rfl, Nat.le_of_ble_eq_true rfl⟩ rfl (tm_cell J42.1 gb45) (Nat.le_of_ble_eq_true rfl) (dk rfl) ?_
    rintro _ ⟨n47, hn48, rfl⟩
    refine br_ok X (dk rfl) rfl (show ((22 : Nat) : Int) + 13 = ((35 : Nat) : Int) from rfl) (fun c49 => ?_) (fun c50 => ?_)
    · iterate 2 refine fst1_ok X (dk rfl) rfl ?_
      refine callVR_ok (ci := 7) (T := TX5) (N := 3) (av := [.int _]) (r := []) X E (c5_letterAt _ J42.1 tb31 _) lkX5_letterAt mlX6_132 lmX5_letterAt lpX5_letterAt ⟨Nat.le_of_ble_eq_true rfl, Nat.le_of_ble_eq_true rfl⟩ ⟨Nat.le_of_ble_eq_true rfl, Nat.le_of_ble_eq_true rfl⟩ rfl (tm_cell J42.1 gb45) (Nat.le_of_ble_eq_true rfl) (dk rfl) ?_
      rintro _ ⟨x51, hx52, rfl⟩
      iterate 2 refine fst1_ok X (dk rfl) rfl ?_
      obtain ⟨hL54, q53, gb55, gl56⟩ := id tb35
      refine callVR_ok (ci := 7) (T := TX5) (N := 3) (av := [.int _]) (r := [_]) X E (c5_letterAt _ J42.1 tb35 _) lkX5_letterAt mlX6_132 lmX5_letterAt lpX5_letterAt ⟨Nat.le_of_ble_eq_true rfl, Nat.le_of_ble_eq_true rfl⟩ ⟨Nat.le_of_ble_eq_true rfl, Nat.le_of_ble_eq_true rfl⟩ rfl (tm_cell J42.1 gb55) (Nat.le_of_ble_eq_true rfl) (dk rfl) ?_
      rintro _ ⟨x57, hx58, rfl⟩
      refine br_ok X (dk rfl) rfl (show ((48 : Nat) : Int) + 6 = ((54 : Nat) : Int) from rfl) (fun c59 => ?_) (fun c60 => ?_)
      · refine fst1_ok X (dk rfl) rfl ?_
        refine br_ok X (dk rfl) rfl (show ((57 : Nat) : Int) + (-41) = ((16 : Nat) : Int) from rfl) (fun _ => ?_) (fun q => absurd trivial q)
        exact ih16 _ c49 h41 J42 _ rfl
      · refine fst1_ok X (dk rfl) rfl ?_
        refine WRX.ret ?_
        exact reti_ok X hr hlk rfl (dk rfl) ⟨⟨_, rfl⟩, J42⟩ (Nat.le_of_ble_eq_true rfl) (Nat.le_of_ble_eq_true rfl)
    · iterate 2 refine fst1_ok X (dk rfl) rfl ?_
      obtain ⟨hL62, q61, gb63, gl64⟩ := id tb35
      refine callVR_ok (ci := 7) (T := TX5) (N := 3) (av := []) (r := [_]) X E (c5_length _ J42.1 tb35) lkX5_length mlX6_76 lmX5_length lpX5_length ⟨Nat.le_of_ble_eq_true rfl, Nat.le_of_ble_eq_true rfl⟩ ⟨Nat.le_of_ble_eq_true rfl, Nat.le_of_ble_eq_true rfl⟩ rfl (tm_cell J42.1 gb63) (Nat.le_of_ble_eq_true rfl) (dk rfl) ?_
      rintro _ ⟨n65, hn66, rfl⟩
      refine br_ok X (dk rfl) rfl (show ((32 : Nat) : Int) + 28 = ((60 : Nat) : Int) from rfl) (fun c67 => ?_) (fun c68 => ?_)
      · refine fst1_ok X (dk rfl) rfl ?_
        refine WRX.ret ?_
        exact reti_ok X hr hlk rfl (dk rfl) ⟨⟨_, rfl⟩, J42⟩ (Nat.le_of_ble_eq_true rfl) (Nat.le_of_ble_eq_true rfl)
      · iterate 2 refine fst1_ok X (dk rfl) rfl ?_
        refine callVR_ok (ci := 7) (T := TX5) (N := 3) (av := [.int _]) (r := []) X E (c5_letterAt _ J42.1 tb31 _) lkX5_letterAt mlX6_132 lmX5_letterAt lpX5_letterAt ⟨Nat.le_of_ble_eq_true rfl, Nat.le_of_ble_eq_true rfl⟩ ⟨Nat.le_of_ble_eq_true rfl, Nat.le_of_ble_eq_true rfl⟩ rfl (tm_cell J42.1 gb45) (Nat.le_of_ble_eq_true rfl) (dk rfl) ?_
        rintro _ ⟨x69, hx70, rfl⟩
        iterate 2 refine fst1_ok X (dk rfl) rfl ?_
        refine callVR_ok (ci := 7) (T := TX5) (N := 3) (av := [.int _]) (r := [_]) X E (c5_letterAt _ J42.1 tb35 _) lkX5_letterAt mlX6_132 lmX5_letterAt lpX5_letterAt ⟨Nat.le_of_ble_eq_true rfl, Nat.le_of_ble_eq_true rfl⟩ ⟨Nat.le_of_ble_eq_true rfl, Nat.le_of_ble_eq_true rfl⟩ rfl (tm_cell J42.1 gb63) (Nat.le_of_ble_eq_true rfl) (dk rfl) ?_
        rintro _ ⟨x71, hx72, rfl⟩
        refine br_ok X (dk rfl) rfl (show ((48 : Nat) : Int) + 6 = ((54 : Nat) : Int) from rfl) (fun c73 => ?_) (fun c74 => ?_)
        · refine fst1_ok X (dk rfl) rfl ?_
          refine br_ok X (dk rfl) rfl (show ((57 : Nat) : Int) + (-41) = ((16 : Nat) : Int) from rfl) (fun _ => ?_) (fun q => absurd trivial q)
          exact ih16 _ (nlt_of c68) h41 J42 _ rfl
        · refine fst1_ok X (dk rfl) rfl ?_
          refine WRX.ret ?_
          exact reti_ok X hr hlk rfl (dk rfl) ⟨⟨_, rfl⟩, J42⟩ (Nat.le_of_ble_eq_true rfl) (Nat.le_of_ble_eq_true rfl)
  exact L16 _ h36 J37 _ rfl
set_option maxHeartbeats 4000000 in
theorem FZ.c6_is (h : AH) (hl : la.stackTraces = false) (I : Tyg Γ h) {o0 : Nat} {kn : Int32} (T0 : BmT Γ o0 kn) (x1 : Int32) (x2 : Int32) (x3 : Int32) : CTX la D cA B0 pa yX6_is cX6_is 6 (some .boolean) (rmD 7 3 18) [.ref o0, .int (x1), .int (x2), .int (x3)] h (WrO Γ bP h) (pxW [ioobe, iae] Γ h) := by
  refine CTX_of (by decide +kernel) (Nat.le_of_ble_eq_true rfl) ?_
  intro p e s m args below meth c X E hr hlk hnm ht
  have dk : ∀ {pc : Nat} {q : Instr × Nat}, lkd DX6_is pc = some q → decode cX6_is pc = .ok q := lkd_ok DX6_is_ok
  obtain ⟨S1, A2, sp3, os4, wd5, ow6, sa7, oa8, bs9, bc10, sh11, ss12, as13, gb14, gS15, gA16, sl17, sT18, al19, aT20, tsp21, tos22, twd23, tow24, tsa25, toa26, tbs27, tbc28, tsh29⟩ := id T0
  iterate 2 refine fst1_ok X (dk rfl) rfl ?_
  refine callVXW_ok (ci := 8) (T := TX6) (N := 14) (av := [.int _]) (r := []) X E (TI.rf I) ht hlk (c6_termOf _ hl (TI.rf I).1 T0 _) (by simp) lkX6_termOf mlX6_69 lmX6_termOf lpX6_termOf ⟨Nat.le_of_ble_eq_true rfl, Nat.le_of_ble_eq_true rfl⟩ ⟨Nat.le_of_ble_eq_true rfl, Nat.le_of_ble_eq_true rfl⟩ rfl (bm_cell (TI.rf I).1 gb14) (Nat.le_of_ble_eq_true rfl) (dk rfl) ?_
  rintro _ h32 ⟨b30, rfl, tb31⟩ J33
  iterate 3 refine fst1_ok X (dk rfl) rfl ?_
  refine callVXW_ok (ci := 8) (T := TX6) (N := 14) (av := [.int _]) (r := []) X E J33 ht hlk (c6_termOf _ hl J33.1 T0 _) (by simp) lkX6_termOf mlX6_69 lmX6_termOf lpX6_termOf ⟨Nat.le_of_ble_eq_true rfl, Nat.le_of_ble_eq_true rfl⟩ ⟨Nat.le_of_ble_eq_true rfl, Nat.le_of_ble_eq_true rfl⟩ rfl (bm_cell J33.1 gb14) (Nat.le_of_ble_eq_true rfl) (dk rfl) ?_
  rintro _ h36 ⟨b34, rfl, tb35⟩ J37
  iterate 2 refine fst1_ok X (dk rfl) rfl ?_
  refine br_ok X (dk rfl) rfl (show ((15 : Nat) : Int) + 8 = ((23 : Nat) : Int) from rfl) (fun c38 => ?_) (fun c39 => ?_)
  · exact throwS_ok X E hl ht hlk xwX6_88 (List.mem_of_getElem? (i := 2) rfl) (dk rfl) (dk rfl) (dk rfl) (dk rfl) (dk rfl) ⟨Nat.le_of_ble_eq_true rfl, Nat.le_of_ble_eq_true rfl⟩ ⟨Nat.le_of_ble_eq_true rfl, Nat.le_of_ble_eq_true rfl⟩ ⟨(by simp), J37⟩
  · iterate 2 refine fst1_ok X (dk rfl) rfl ?_
    refine br_ok X (dk rfl) rfl (show ((20 : Nat) : Int) + 13 = ((33 : Nat) : Int) from rfl) (fun c40 => ?_) (fun c41 => ?_)
    · refine fst1_ok X (dk rfl) rfl ?_
      refine br_ok X (dk rfl) rfl (show ((34 : Nat) : Int) + 11 = ((45 : Nat) : Int) from rfl) (fun c42 => ?_) (fun c43 => ?_)
      · iterate 2 refine fst1_ok X (dk rfl) rfl ?_
        refine br_ok X (dk rfl) rfl (show ((47 : Nat) : Int) + 15 = ((62 : Nat) : Int) from rfl) (fun c44 => ?_) (fun c45 => ?_)
        · refine fst1_ok X (dk rfl) rfl ?_
          obtain ⟨dn47, rf48, hx46⟩ := bm_open J37.1 gb14
          refine getf_ok X flX6_24 (dk rfl) hx46 rfl ?_
          refine fst1_ok X (dk rfl) rfl ?_
          obtain ⟨hL50, q49, gb51, gl52⟩ := id tsp21
          refine callVW_ok (ci := 7) (T := TX5) (N := 3) (av := [.ref _]) (r := []) X E J37 (c5_becomePlainOf _ J37.1 tsp21 tb31) lkX5_becomePlainOf mlX6_148 lmX5_becomePlainOf lpX5_becomePlainOf ⟨Nat.le_of_ble_eq_true rfl, Nat.le_of_ble_eq_true rfl⟩ ⟨Nat.le_of_ble_eq_true rfl, Nat.le_of_ble_eq_true rfl⟩ rfl (tm_cell J37.1 gb51) (Nat.le_of_ble_eq_true rfl) (dk rfl) ?_
          rintro _ h53 rfl J54
          refine fst1_ok X (dk rfl) rfl ?_
          obtain ⟨dn56, rf57, hx55⟩ := bm_open J54.1 gb14
          refine getf_ok X flX6_28 (dk rfl) hx55 rfl ?_
          refine fst1_ok X (dk rfl) rfl ?_
          obtain ⟨hL59, q58, gb60, gl61⟩ := id tos22
          refine callVW_ok (ci := 7) (T := TX5) (N := 3) (av := [.ref _]) (r := []) X E J54 (c5_becomePlainOf _ J54.1 tos22 tb35) lkX5_becomePlainOf mlX6_148 lmX5_becomePlainOf lpX5_becomePlainOf ⟨Nat.le_of_ble_eq_true rfl, Nat.le_of_ble_eq_true rfl⟩ ⟨Nat.le_of_ble_eq_true rfl, Nat.le_of_ble_eq_true rfl⟩ rfl (tm_cell J54.1 gb60) (Nat.le_of_ble_eq_true rfl) (dk rfl) ?_
          rintro _ h62 rfl J63
          refine fst1_ok X (dk rfl) rfl ?_
          obtain ⟨dn65, rf66, hx64⟩ := bm_open J63.1 gb14
          refine getf_ok X flX6_24 (dk rfl) hx64 rfl ?_
          refine fst1_ok X (dk rfl) rfl ?_
          refine getf_ok X flX6_28 (dk rfl) hx64 rfl ?_
          refine callVR_ok (ci := 7) (T := TX5) (N := 3) (av := [.ref _]) (r := []) X E (c5_isLike _ J63.1 tsp21 tos22) lkX5_isLike mlX6_111 lmX5_isLike lpX5_isLike ⟨Nat.le_of_ble_eq_true rfl, Nat.le_of_ble_eq_true rfl⟩ ⟨Nat.le_of_ble_eq_true rfl, Nat.le_of_ble_eq_true rfl⟩ rfl (tm_cell J63.1 gb51) (Nat.le_of_ble_eq_true rfl) (dk rfl) ?_
          rintro _ ⟨b67, rfl⟩
          refine WRX.ret ?_
          exact reti_ok X hr hlk (bI_n b67) (dk rfl) ⟨⟨b67, rfl⟩, J63⟩ (Nat.le_of_ble_eq_true rfl) (Nat.le_of_ble_eq_true rfl)
        · refine fst1_ok X (dk rfl) rfl ?_
          obtain ⟨dn69, rf70, hx68⟩ := bm_open J37.1 gb14
          refine getf_ok X flX6_38 (dk rfl) hx68 rfl ?_
          iterate 2 refine fst1_ok X (dk rfl) rfl ?_
          obtain ⟨ar71, ts72, gb73, ga74, tl75, tt76⟩ := id tsa25
          refine callVW_ok (ci := 2) (T := TX0) (N := 1) (av := [.ref _, .ref _]) (r := []) X E J37 (c0_becomeMatch _ J37.1 tsa25 tb35 tb31) lkX0_becomeMatch mlX6_194 lmX0_becomeMatch lpX0_becomeMatch ⟨Nat.le_of_ble_eq_true rfl, Nat.le_of_ble_eq_true rfl⟩ ⟨Nat.le_of_ble_eq_true rfl, Nat.le_of_ble_eq_true rfl⟩ rfl (is_cell J37.1 gb73) (Nat.le_of_ble_eq_true rfl) (dk rfl) ?_
          rintro _ h78 ⟨b77, rfl⟩ J79
          refine WRX.ret ?_
          exact reti_ok X hr hlk (bI_n b77) (dk rfl) ⟨⟨b77, rfl⟩, J79⟩ (Nat.le_of_ble_eq_true rfl) (Nat.le_of_ble_eq_true rfl)
      · iterate 2 refine fst1_ok X (dk rfl) rfl ?_
        obtain ⟨hL81, q80, gb82, gl83⟩ := id tb31
        refine callVR_ok (ci := 7) (T := TX5) (N := 3) (av := [.ref _]) (r := []) X E (c5_isLike _ J37.1 tb31 tb35) lkX5_isLike mlX6_111 lmX5_isLike lpX5_isLike ⟨Nat.le_of_ble_eq_true rfl, Nat.le_of_ble_eq_true rfl⟩ ⟨Nat.le_of_ble_eq_true rfl, Nat.le_of_ble_eq_true rfl⟩ rfl (tm_cell J37.1 gb82) (Nat.le_of_ble_eq_true rfl) (dk rfl) ?_
        rintro _ ⟨b84, rfl⟩
        refine WRX.ret ?_
        exact reti_ok X hr hlk (bI_n b84) (dk rfl) ⟨⟨b84, rfl⟩, J37⟩ (Nat.le_of_ble_eq_true rfl) (Nat.le_of_ble_eq_true rfl)
    · exact throwS_ok X E hl ht hlk xwX6_88 (List.mem_of_getElem? (i := 2) rfl) (dk rfl) (dk rfl) (dk rfl) (dk rfl) (dk rfl) ⟨Nat.le_of_ble_eq_true rfl, Nat.le_of_ble_eq_true rfl⟩ ⟨Nat.le_of_ble_eq_true rfl, Nat.le_of_ble_eq_true rfl⟩ ⟨(by simp), J37⟩
set_option maxHeartbeats 4000000 in
theorem FZ.c6_can (h : AH) (hl : la.stackTraces = false) (I : Tyg Γ h) {o0 : Nat} {kn : Int32} (T0 : BmT Γ o0 kn) (x1 : Int32) (x2 : Int32) (x3 : Int32) : CTX la D cA B0 pa yX6_can cX6_can 6 (some .boolean) (rmD 7 3 18) [.ref o0, .int (x1), .int (x2), .int (x3)] h (WrO Γ bP h) (pxW [ioobe, iae] Γ h) := by
  refine CTX_of (by decide +kernel) (Nat.le_of_ble_eq_true rfl) ?_
  intro p e s m args below meth c X E hr hlk hnm ht
  have dk : ∀ {pc : Nat} {q : Instr × Nat}, lkd DX6_can pc = some q → decode cX6_can pc = .ok q := lkd_ok DX6_can_ok
  obtain ⟨S1, A2, sp3, os4, wd5, ow6, sa7, oa8, bs9, bc10, sh11, ss12, as13, gb14, gS15, gA16, sl17, sT18, al19, aT20, tsp21, tos22, twd23, tow24, tsa25, toa26, tbs27, tbc28, tsh29⟩ := id T0
  iterate 2 refine fst1_ok X (dk rfl) rfl ?_
  refine callVXW_ok (ci := 8) (T := TX6) (N := 14) (av := [.int _]) (r := []) X E (TI.rf I) ht hlk (c6_termOf _ hl (TI.rf I).1 T0 _) (by simp) lkX6_termOf mlX6_69 lmX6_termOf lpX6_termOf ⟨Nat.le_of_ble_eq_true rfl, Nat.le_of_ble_eq_true rfl⟩ ⟨Nat.le_of_ble_eq_true rfl, Nat.le_of_ble_eq_true rfl⟩ rfl (bm_cell (TI.rf I).1 gb14) (Nat.le_of_ble_eq_true rfl) (dk rfl) ?_
  rintro _ h32 ⟨b30, rfl, tb31⟩ J33
  iterate 3 refine fst1_ok X (dk rfl) rfl ?_
  refine callVXW_ok (ci := 8) (T := TX6) (N := 14) (av := [.int _]) (r := []) X E J33 ht hlk (c6_termOf _ hl J33.1 T0 _) (by simp) lkX6_termOf mlX6_69 lmX6_termOf lpX6_termOf ⟨Nat.le_of_ble_eq_true rfl, Nat.le_of_ble_eq_true rfl⟩ ⟨Nat.le_of_ble_eq_true rfl, Nat.le_of_ble_eq_true rfl⟩ rfl (bm_cell J33.1 gb14) (Nat.le_of_ble_eq_true rfl) (dk rfl) ?_
  rintro _ h36 ⟨b34, rfl, tb35⟩ J37
  iterate 2 refine fst1_ok X (dk rfl) rfl ?_
  refine br_ok X (dk rfl) rfl (show ((15 : Nat) : Int) + 18 = ((33 : Nat) : Int) from rfl) (fun c38 => ?_) (fun c39 => ?_)
  · refine fst1_ok X (dk rfl) rfl ?_
    refine br_ok X (dk rfl) rfl (show ((34 : Nat) : Int) + 17 = ((51 : Nat) : Int) from rfl) (fun c40 => ?_) (fun c41 => ?_)
    · refine fst1_ok X (dk rfl) rfl ?_
      obtain ⟨dn43, rf44, hx42⟩ := bm_open J37.1 gb14
      refine getf_ok X flX6_55 (dk rfl) hx42 rfl ?_
      iterate 2 refine fst1_ok X (dk rfl) rfl ?_
      obtain ⟨bo45, co46, ho47, st48, pr49, gb50, tb51, gc52, gh53, gs54, tp55⟩ := id tbc28
      refine callVW_ok (ci := 3) (T := TX1) (N := 5) (av := [.ref _, .ref _]) (r := []) X E J37 (c1_makeAlike _ J37.1 tbc28 tb31 tb35) lkX1_makeAlike mlX6_189 lmX1_makeAlike lpX1_makeAlike ⟨Nat.le_of_ble_eq_true rfl, Nat.le_of_ble_eq_true rfl⟩ ⟨Nat.le_of_ble_eq_true rfl, Nat.le_of_ble_eq_true rfl⟩ rfl (is_cell J37.1 gb50) (Nat.le_of_ble_eq_true rfl) (dk rfl) ?_
      rintro _ h57 ⟨b56, rfl⟩ J58
      refine WRX.ret ?_
      exact reti_ok X hr hlk (bI_n b56) (dk rfl) ⟨⟨b56, rfl⟩, J58⟩ (Nat.le_of_ble_eq_true rfl) (Nat.le_of_ble_eq_true rfl)
    · refine fst1_ok X (dk rfl) rfl ?_
      obtain ⟨dn60, rf61, hx59⟩ := bm_open J37.1 gb14
      refine getf_ok X flX6_48 (dk rfl) hx59 rfl ?_
      iterate 2 refine fst1_ok X (dk rfl) rfl ?_
      obtain ⟨bo62, st63, pr64, gb65, tb66, gs67, tp68⟩ := id tbs27
      refine callVW_ok (ci := 6) (T := TX4) (N := 5) (av := [.ref _, .ref _]) (r := []) X E J37 (c4_makeAlike _ J37.1 tbs27 tb31 tb35) lkX4_makeAlike mlX6_185 lmX4_makeAlike lpX4_makeAlike ⟨Nat.le_of_ble_eq_true rfl, Nat.le_of_ble_eq_true rfl⟩ ⟨Nat.le_of_ble_eq_true rfl, Nat.le_of_ble_eq_true rfl⟩ rfl (st_cell J37.1 gb65) (Nat.le_of_ble_eq_true rfl) (dk rfl) ?_
      rintro _ h70 ⟨b69, rfl⟩ J71
      refine br_ok X (dk rfl) rfl (show ((48 : Nat) : Int) + 14 = ((62 : Nat) : Int) from rfl) (fun _ => ?_) (fun q => absurd trivial q)
      refine WRX.ret ?_
      exact reti_ok X hr hlk (bI_n b69) (dk rfl) ⟨⟨b69, rfl⟩, J71⟩ (Nat.le_of_ble_eq_true rfl) (Nat.le_of_ble_eq_true rfl)
  · iterate 2 refine fst1_ok X (dk rfl) rfl ?_
    refine br_ok X (dk rfl) rfl (show ((20 : Nat) : Int) + 13 = ((33 : Nat) : Int) from rfl) (fun c72 => ?_) (fun c73 => ?_)
    · refine fst1_ok X (dk rfl) rfl ?_
      refine br_ok X (dk rfl) rfl (show ((34 : Nat) : Int) + 17 = ((51 : Nat) : Int) from rfl) (fun c74 => ?_) (fun c75 => ?_)
      · refine fst1_ok X (dk rfl) rfl ?_
        obtain ⟨dn77, rf78, hx76⟩ := bm_open J37.1 gb14
        refine getf_ok X flX6_55 (dk rfl) hx76 rfl ?_
        iterate 2 refine fst1_ok X (dk rfl) rfl ?_
        obtain ⟨bo79, co80, ho81, st82, pr83, gb84, tb85, gc86, gh87, gs88, tp89⟩ := id tbc28
        refine callVW_ok (ci := 3) (T := TX1) (N := 5) (av := [.ref _, .ref _]) (r := []) X E J37 (c1_makeAlike _ J37.1 tbc28 tb31 tb35) lkX1_makeAlike mlX6_189 lmX1_makeAlike lpX1_makeAlike ⟨Nat.le_of_ble_eq_true rfl, Nat.le_of_ble_eq_true rfl⟩ ⟨Nat.le_of_ble_eq_true rfl, Nat.le_of_ble_eq_true rfl⟩ rfl (is_cell J37.1 gb84) (Nat.le_of_ble_eq_true rfl) (dk rfl) ?_
        rintro _ h91 ⟨b90, rfl⟩ J92
        refine WRX.ret ?_
        exact reti_ok X hr hlk (bI_n b90) (dk rfl) ⟨⟨b90, rfl⟩, J92⟩ (Nat.le_of_ble_eq_true rfl) (Nat.le_of_ble_eq_true rfl)
      · refine fst1_ok X (dk rfl) rfl ?_
        obtain ⟨dn94, rf95, hx93⟩ := bm_open J37.1 gb14
        refine getf_ok X flX6_48 (dk rfl) hx93 rfl ?_
        iterate 2 refine fst1_ok X (dk rfl) rfl ?_
        obtain ⟨bo96, st97, pr98, gb99, tb100, gs101, tp102⟩ := id tbs27
        refine callVW_ok (ci := 6) (T := TX4) (N := 5) (av := [.ref _, .ref _]) (r := []) X E J37 (c4_makeAlike _ J37.1 tbs27 tb31 tb35) lkX4_makeAlike mlX6_185 lmX4_makeAlike lpX4_makeAlike ⟨Nat.le_of_ble_eq_true rfl, Nat.le_of_ble_eq_true rfl⟩ ⟨Nat.le_of_ble_eq_true rfl, Nat.le_of_ble_eq_true rfl⟩ rfl (st_cell J37.1 gb99) (Nat.le_of_ble_eq_true rfl) (dk rfl) ?_
        rintro _ h104 ⟨b103, rfl⟩ J105
        refine br_ok X (dk rfl) rfl (show ((48 : Nat) : Int) + 14 = ((62 : Nat) : Int) from rfl) (fun _ => ?_) (fun q => absurd trivial q)
        refine WRX.ret ?_
        exact reti_ok X hr hlk (bI_n b103) (dk rfl) ⟨⟨b103, rfl⟩, J105⟩ (Nat.le_of_ble_eq_true rfl) (Nat.le_of_ble_eq_true rfl)
    · exact throwS_ok X E hl ht hlk xwX6_88 (List.mem_of_getElem? (i := 1) rfl) (dk rfl) (dk rfl) (dk rfl) (dk rfl) (dk rfl) ⟨Nat.le_of_ble_eq_true rfl, Nat.le_of_ble_eq_true rfl⟩ ⟨Nat.le_of_ble_eq_true rfl, Nat.le_of_ble_eq_true rfl⟩ ⟨(by simp), J37⟩
set_option maxHeartbeats 4000000 in
theorem FZ.c6_steps (h : AH) (hl : la.stackTraces = false) (I : Tyg Γ h) {o0 : Nat} {kn : Int32} (T0 : BmT Γ o0 kn) (x1 : Int32) (x2 : Int32) : CTX la D cA B0 pa yX6_steps cX6_steps 5 (some .int) (rmD 7 2 12) [.ref o0, .int (x1), .int (x2)] h (WrO Γ iP h) (pxW [ioobe] Γ h) := by
  refine CTX_of (by decide +kernel) (Nat.le_of_ble_eq_true rfl) ?_
  intro p e s m args below meth c X E hr hlk hnm ht
  have dk : ∀ {pc : Nat} {q : Instr × Nat}, lkd DX6_steps pc = some q → decode cX6_steps pc = .ok q := lkd_ok DX6_steps_ok
  obtain ⟨S1, A2, sp3, os4, wd5, ow6, sa7, oa8, bs9, bc10, sh11, ss12, as13, gb14, gS15, gA16, sl17, sT18, al19, aT20, tsp21, tos22, twd23, tow24, tsa25, toa26, tbs27, tbc28, tsh29⟩ := id T0
  iterate 2 refine fst1_ok X (dk rfl) rfl ?_
  refine callVXW_ok (ci := 8) (T := TX6) (N := 14) (av := [.int _]) (r := []) X E (TI.rf I) ht hlk (c6_termOf _ hl (TI.rf I).1 T0 _) (by simp) lkX6_termOf mlX6_69 lmX6_termOf lpX6_termOf ⟨Nat.le_of_ble_eq_true rfl, Nat.le_of_ble_eq_true rfl⟩ ⟨Nat.le_of_ble_eq_true rfl, Nat.le_of_ble_eq_true rfl⟩ rfl (bm_cell (TI.rf I).1 gb14) (Nat.le_of_ble_eq_true rfl) (dk rfl) ?_
  rintro _ h32 ⟨b30, rfl, tb31⟩ J33
  iterate 3 refine fst1_ok X (dk rfl) rfl ?_
  refine callVXW_ok (ci := 8) (T := TX6) (N := 14) (av := [.int _]) (r := []) X E J33 ht hlk (c6_termOf _ hl J33.1 T0 _) (by simp) lkX6_termOf mlX6_69 lmX6_termOf lpX6_termOf ⟨Nat.le_of_ble_eq_true rfl, Nat.le_of_ble_eq_true rfl⟩ ⟨Nat.le_of_ble_eq_true rfl, Nat.le_of_ble_eq_true rfl⟩ rfl (bm_cell J33.1 gb14) (Nat.le_of_ble_eq_true rfl) (dk rfl) ?_
  rintro _ h36 ⟨b34, rfl, tb35⟩ J37
  iterate 2 refine fst1_ok X (dk rfl) rfl ?_
  obtain ⟨dn39, rf40, hx38⟩ := bm_open J37.1 gb14
  refine getf_ok X flX6_48 (dk rfl) hx38 rfl ?_
  iterate 2 refine fst1_ok X (dk rfl) rfl ?_
  obtain ⟨bo41, st42, pr43, gb44, tb45, gs46, tp47⟩ := id tbs27
  refine callVW_ok (ci := 6) (T := TX4) (N := 5) (av := [.ref _, .ref _]) (r := []) X E J37 (c4_makeAlike _ J37.1 tbs27 tb31 tb35) lkX4_makeAlike mlX6_185 lmX4_makeAlike lpX4_makeAlike ⟨Nat.le_of_ble_eq_true rfl, Nat.le_of_ble_eq_true rfl⟩ ⟨Nat.le_of_ble_eq_true rfl, Nat.le_of_ble_eq_true rfl⟩ rfl (st_cell J37.1 gb44) (Nat.le_of_ble_eq_true rfl) (dk rfl) ?_
  rintro _ h49 ⟨b48, rfl⟩ J50
  iterate 2 refine fst1_ok X (dk rfl) rfl ?_
  obtain ⟨dn52, rf53, hx51⟩ := bm_open J50.1 gb14
  refine getf_ok X flX6_48 (dk rfl) hx51 rfl ?_
  refine callVR_ok (ci := 6) (T := TX4) (N := 5) (av := []) (r := []) X E (c4_stepsTaken _ J50.1 tbs27) lkX4_stepsTaken mlX6_213 lmX4_stepsTaken lpX4_stepsTaken ⟨Nat.le_of_ble_eq_true rfl, Nat.le_of_ble_eq_true rfl⟩ ⟨Nat.le_of_ble_eq_true rfl, Nat.le_of_ble_eq_true rfl⟩ rfl (st_cell J50.1 gb44) (Nat.le_of_ble_eq_true rfl) (dk rfl) ?_
  rintro _ ⟨x54, rfl⟩
  refine WRX.ret ?_
  exact reti_ok X hr hlk rfl (dk rfl) ⟨⟨_, rfl⟩, J50⟩ (Nat.le_of_ble_eq_true rfl) (Nat.le_of_ble_eq_true rfl)
set_option maxHeartbeats 4000000 in
theorem FZ.c6_stepsN (h : AH) (I : Tyg Γ h) {o0 : Nat} {kn : Int32} (T0 : BmT Γ o0 kn) (x1 : Int32) (hx1 : inN 6 x1) (x2 : Int32) (hx2 : inN 6 x2) : CT la D cA B0 pa yX6_steps cX6_steps 5 (some .int) (rmD 5 0 0) [.ref o0, .int (x1), .int (x2)] h (WrO Γ iP h) := by
  refine CT_of (by decide +kernel) (Nat.le_of_ble_eq_true rfl) ?_
  intro p e s m args below meth c X E hr hlk hnm
  have dk : ∀ {pc : Nat} {q : Instr × Nat}, lkd DX6_steps pc = some q → decode cX6_steps pc = .ok q := lkd_ok DX6_steps_ok
  obtain ⟨S1, A2, sp3, os4, wd5, ow6, sa7, oa8, bs9, bc10, sh11, ss12, as13, gb14, gS15, gA16, sl17, sT18, al19, aT20, tsp21, tos22, twd23, tow24, tsa25, toa26, tbs27, tbc28, tsh29⟩ := id T0
  iterate 2 refine fst1_ok X (dk rfl) rfl ?_
  refine callVR_ok (ci := 8) (T := TX6) (N := 14) (av := [.int _]) (r := []) X E (c6_termOfN _ (TI.rf I).1 T0 _ hx1) lkX6_termOf mlX6_69 lmX6_termOf lpX6_termOf ⟨Nat.le_of_ble_eq_true rfl, Nat.le_of_ble_eq_true rfl⟩ ⟨Nat.le_of_ble_eq_true rfl, Nat.le_of_ble_eq_true rfl⟩ rfl (bm_cell (TI.rf I).1 gb14) (Nat.le_of_ble_eq_true rfl) (dk rfl) ?_
  rintro _ ⟨b30, rfl, tb31⟩
  iterate 3 refine fst1_ok X (dk rfl) rfl ?_
  refine callVR_ok (ci := 8) (T := TX6) (N := 14) (av := [.int _]) (r := []) X E (c6_termOfN _ (TI.rf I).1 T0 _ hx2) lkX6_termOf mlX6_69 lmX6_termOf lpX6_termOf ⟨Nat.le_of_ble_eq_true rfl, Nat.le_of_ble_eq_true rfl⟩ ⟨Nat.le_of_ble_eq_true rfl, Nat.le_of_ble_eq_true rfl⟩ rfl (bm_cell (TI.rf I).1 gb14) (Nat.le_of_ble_eq_true rfl) (dk rfl) ?_
  rintro _ ⟨b32, rfl, tb33⟩
  iterate 2 refine fst1_ok X (dk rfl) rfl ?_
  obtain ⟨dn35, rf36, hx34⟩ := bm_open (TI.rf I).1 gb14
  refine getf_ok X flX6_48 (dk rfl) hx34 rfl ?_
  iterate 2 refine fst1_ok X (dk rfl) rfl ?_
  obtain ⟨bo37, st38, pr39, gb40, tb41, gs42, tp43⟩ := id tbs27
  refine callVW_ok (ci := 6) (T := TX4) (N := 5) (av := [.ref _, .ref _]) (r := []) X E (TI.rf I) (c4_makeAlike _ (TI.rf I).1 tbs27 tb31 tb33) lkX4_makeAlike mlX6_185 lmX4_makeAlike lpX4_makeAlike ⟨Nat.le_of_ble_eq_true rfl, Nat.le_of_ble_eq_true rfl⟩ ⟨Nat.le_of_ble_eq_true rfl, Nat.le_of_ble_eq_true rfl⟩ rfl (st_cell (TI.rf I).1 gb40) (Nat.le_of_ble_eq_true rfl) (dk rfl) ?_
  rintro _ h45 ⟨b44, rfl⟩ J46
  iterate 2 refine fst1_ok X (dk rfl) rfl ?_
  obtain ⟨dn48, rf49, hx47⟩ := bm_open J46.1 gb14
  refine getf_ok X flX6_48 (dk rfl) hx47 rfl ?_
  refine callVR_ok (ci := 6) (T := TX4) (N := 5) (av := []) (r := []) X E (c4_stepsTaken _ J46.1 tbs27) lkX4_stepsTaken mlX6_213 lmX4_stepsTaken lpX4_stepsTaken ⟨Nat.le_of_ble_eq_true rfl, Nat.le_of_ble_eq_true rfl⟩ ⟨Nat.le_of_ble_eq_true rfl, Nat.le_of_ble_eq_true rfl⟩ rfl (st_cell J46.1 gb40) (Nat.le_of_ble_eq_true rfl) (dk rfl) ?_
  rintro _ ⟨x50, rfl⟩
  exact reti_ok X hr hlk rfl (dk rfl) ⟨⟨_, rfl⟩, J46⟩ (Nat.le_of_ble_eq_true rfl) (Nat.le_of_ble_eq_true rfl)
set_option maxHeartbeats 4000000 in
theorem FZ.c6_why (h : AH) (hl : la.stackTraces = false) (I : Tyg Γ h) {o0 : Nat} {kn : Int32} (T0 : BmT Γ o0 kn) (x1 : Int32) (x2 : Int32) : CTX la D cA B0 pa yX6_why cX6_why 5 (some .int) (rmD 7 2 12) [.ref o0, .int (x1), .int (x2)] h (WrO Γ iP h) (pxW [ioobe] Γ h) := by
  refine CTX_of (by decide +kernel) (Nat.le_of_ble_eq_true rfl) ?_
  intro p e s m args below meth c X E hr hlk hnm ht
  have dk : ∀ {pc : Nat} {q : Instr × Nat}, lkd DX6_why pc = some q → decode cX6_why pc = .ok q := lkd_ok DX6_why_ok
  obtain ⟨S1, A2, sp3, os4, wd5, ow6, sa7, oa8, bs9, bc10, sh11, ss12, as13, gb14, gS15, gA16, sl17, sT18, al19, aT20, tsp21, tos22, twd23, tow24, tsa25, toa26, tbs27, tbc28, tsh29⟩ := id T0
  iterate 2 refine fst1_ok X (dk rfl) rfl ?_
  refine callVXW_ok (ci := 8) (T := TX6) (N := 14) (av := [.int _]) (r := []) X E (TI.rf I) ht hlk (c6_termOf _ hl (TI.rf I).1 T0 _) (by simp) lkX6_termOf mlX6_69 lmX6_termOf lpX6_termOf ⟨Nat.le_of_ble_eq_true rfl, Nat.le_of_ble_eq_true rfl⟩ ⟨Nat.le_of_ble_eq_true rfl, Nat.le_of_ble_eq_true rfl⟩ rfl (bm_cell (TI.rf I).1 gb14) (Nat.le_of_ble_eq_true rfl) (dk rfl) ?_
  rintro _ h32 ⟨b30, rfl, tb31⟩ J33
  iterate 3 refine fst1_ok X (dk rfl) rfl ?_
  refine callVXW_ok (ci := 8) (T := TX6) (N := 14) (av := [.int _]) (r := []) X E J33 ht hlk (c6_termOf _ hl J33.1 T0 _) (by simp) lkX6_termOf mlX6_69 lmX6_termOf lpX6_termOf ⟨Nat.le_of_ble_eq_true rfl, Nat.le_of_ble_eq_true rfl⟩ ⟨Nat.le_of_ble_eq_true rfl, Nat.le_of_ble_eq_true rfl⟩ rfl (bm_cell J33.1 gb14) (Nat.le_of_ble_eq_true rfl) (dk rfl) ?_
  rintro _ h36 ⟨b34, rfl, tb35⟩ J37
  iterate 2 refine fst1_ok X (dk rfl) rfl ?_
  obtain ⟨dn39, rf40, hx38⟩ := bm_open J37.1 gb14
  refine getf_ok X flX6_48 (dk rfl) hx38 rfl ?_
  iterate 2 refine fst1_ok X (dk rfl) rfl ?_
  obtain ⟨bo41, st42, pr43, gb44, tb45, gs46, tp47⟩ := id tbs27
  refine callVW_ok (ci := 6) (T := TX4) (N := 5) (av := [.ref _, .ref _]) (r := []) X E J37 (c4_makeAlike _ J37.1 tbs27 tb31 tb35) lkX4_makeAlike mlX6_185 lmX4_makeAlike lpX4_makeAlike ⟨Nat.le_of_ble_eq_true rfl, Nat.le_of_ble_eq_true rfl⟩ ⟨Nat.le_of_ble_eq_true rfl, Nat.le_of_ble_eq_true rfl⟩ rfl (st_cell J37.1 gb44) (Nat.le_of_ble_eq_true rfl) (dk rfl) ?_
  rintro _ h49 ⟨b48, rfl⟩ J50
  iterate 2 refine fst1_ok X (dk rfl) rfl ?_
  obtain ⟨dn52, rf53, hx51⟩ := bm_open J50.1 gb14
  refine getf_ok X flX6_48 (dk rfl) hx51 rfl ?_
  refine callVR_ok (ci := 6) (T := TX4) (N := 5) (av := []) (r := []) X E (c4_howEnded _ J50.1 tbs27) lkX4_howEnded mlX6_216 lmX4_howEnded lpX4_howEnded ⟨Nat.le_of_ble_eq_true rfl, Nat.le_of_ble_eq_true rfl⟩ ⟨Nat.le_of_ble_eq_true rfl, Nat.le_of_ble_eq_true rfl⟩ rfl (st_cell J50.1 gb44) (Nat.le_of_ble_eq_true rfl) (dk rfl) ?_
  rintro _ ⟨x54, rfl⟩
  refine WRX.ret ?_
  exact reti_ok X hr hlk rfl (dk rfl) ⟨⟨_, rfl⟩, J50⟩ (Nat.le_of_ble_eq_true rfl) (Nat.le_of_ble_eq_true rfl)
set_option maxHeartbeats 4000000 in
theorem FZ.c6_whyN (h : AH) (I : Tyg Γ h) {o0 : Nat} {kn : Int32} (T0 : BmT Γ o0 kn) (x1 : Int32) (hx1 : inN 6 x1) (x2 : Int32) (hx2 : inN 6 x2) : CT la D cA B0 pa yX6_why cX6_why 5 (some .int) (rmD 5 0 0) [.ref o0, .int (x1), .int (x2)] h (WrO Γ iP h) := by
  refine CT_of (by decide +kernel) (Nat.le_of_ble_eq_true rfl) ?_
  intro p e s m args below meth c X E hr hlk hnm
  have dk : ∀ {pc : Nat} {q : Instr × Nat}, lkd DX6_why pc = some q → decode cX6_why pc = .ok q := lkd_ok DX6_why_ok
  obtain ⟨S1, A2, sp3, os4, wd5, ow6, sa7, oa8, bs9, bc10, sh11, ss12, as13, gb14, gS15, gA16, sl17, sT18, al19, aT20, tsp21, tos22, twd23, tow24, tsa25, toa26, tbs27, tbc28, tsh29⟩ := id T0
  iterate 2 refine fst1_ok X (dk rfl) rfl ?_
  refine callVR_ok (ci := 8) (T := TX6) (N := 14) (av := [.int _]) (r := []) X E (c6_termOfN _ (TI.rf I).1 T0 _ hx1) lkX6_termOf mlX6_69 lmX6_termOf lpX6_termOf ⟨Nat.le_of_ble_eq_true rfl, Nat.le_of_ble_eq_true rfl⟩ ⟨Nat.le_of_ble_eq_true rfl, Nat.le_of_ble_eq_true rfl⟩ rfl (bm_cell (TI.rf I).1 gb14) (Nat.le_of_ble_eq_true rfl) (dk rfl) ?_
  rintro _ ⟨b30, rfl, tb31⟩
  iterate 3 refine fst1_ok X (dk rfl) rfl ?_
  refine callVR_ok (ci := 8) (T := TX6) (N := 14) (av := [.int _]) (r := []) X E (c6_termOfN _ (TI.rf I).1 T0 _ hx2) lkX6_termOf mlX6_69 lmX6_termOf lpX6_termOf ⟨Nat.le_of_ble_eq_true rfl, Nat.le_of_ble_eq_true rfl⟩ ⟨Nat.le_of_ble_eq_true rfl, Nat.le_of_ble_eq_true rfl⟩ rfl (bm_cell (TI.rf I).1 gb14) (Nat.le_of_ble_eq_true rfl) (dk rfl) ?_
  rintro _ ⟨b32, rfl, tb33⟩
  iterate 2 refine fst1_ok X (dk rfl) rfl ?_
  obtain ⟨dn35, rf36, hx34⟩ := bm_open (TI.rf I).1 gb14
  refine getf_ok X flX6_48 (dk rfl) hx34 rfl ?_
  iterate 2 refine fst1_ok X (dk rfl) rfl ?_
  obtain ⟨bo37, st38, pr39, gb40, tb41, gs42, tp43⟩ := id tbs27
  refine callVW_ok (ci := 6) (T := TX4) (N := 5) (av := [.ref _, .ref _]) (r := []) X E (TI.rf I) (c4_makeAlike _ (TI.rf I).1 tbs27 tb31 tb33) lkX4_makeAlike mlX6_185 lmX4_makeAlike lpX4_makeAlike ⟨Nat.le_of_ble_eq_true rfl, Nat.le_of_ble_eq_true rfl⟩ ⟨Nat.le_of_ble_eq_true rfl, Nat.le_of_ble_eq_true rfl⟩ rfl (st_cell (TI.rf I).1 gb40) (Nat.le_of_ble_eq_true rfl) (dk rfl) ?_
  rintro _ h45 ⟨b44, rfl⟩ J46
  iterate 2 refine fst1_ok X (dk rfl) rfl ?_
  obtain ⟨dn48, rf49, hx47⟩ := bm_open J46.1 gb14
  refine getf_ok X flX6_48 (dk rfl) hx47 rfl ?_
  refine callVR_ok (ci := 6) (T := TX4) (N := 5) (av := []) (r := []) X E (c4_howEnded _ J46.1 tbs27) lkX4_howEnded mlX6_216 lmX4_howEnded lpX4_howEnded ⟨Nat.le_of_ble_eq_true rfl, Nat.le_of_ble_eq_true rfl⟩ ⟨Nat.le_of_ble_eq_true rfl, Nat.le_of_ble_eq_true rfl⟩ rfl (st_cell J46.1 gb40) (Nat.le_of_ble_eq_true rfl) (dk rfl) ?_
  rintro _ ⟨x50, rfl⟩
  exact reti_ok X hr hlk rfl (dk rfl) ⟨⟨_, rfl⟩, J46⟩ (Nat.le_of_ble_eq_true rfl) (Nat.le_of_ble_eq_true rfl)
set_option maxHeartbeats 4000000 in
theorem FZ.c6_moved (h : AH) (hl : la.stackTraces = false) (I : Tyg Γ h) {o0 : Nat} {kn : Int32} (T0 : BmT Γ o0 kn) (x1 : Int32) : CTX la D cA B0 pa yX6_moved cX6_moved 2 (some .int) (rmD 7 1 6) [.ref o0, .int (x1)] h (WrO Γ iP h) (pxW [ioobe] Γ h) := by
  refine CTX_of (by decide +kernel) (Nat.le_of_ble_eq_true rfl) ?_
  intro p e s m args below meth c X E hr hlk hnm ht
  have dk : ∀ {pc : Nat} {q : Instr × Nat}, lkd DX6_moved pc = some q → decode cX6_moved pc = .ok q := lkd_ok DX6_moved_ok
  obtain ⟨S1, A2, sp3, os4, wd5, ow6, sa7, oa8, bs9, bc10, sh11, ss12, as13, gb14, gS15, gA16, sl17, sT18, al19, aT20, tsp21, tos22, twd23, tow24, tsa25, toa26, tbs27, tbc28, tsh29⟩ := id T0
  iterate 2 refine fst1_ok X (dk rfl) rfl ?_
  refine callVXW_ok (ci := 8) (T := TX6) (N := 14) (av := [.int _]) (r := []) X E (TI.rf I) ht hlk (c6_answerOf _ hl (TI.rf I).1 T0 _) (by simp) lkX6_answerOf mlX6_151 lmX6_answerOf lpX6_answerOf ⟨Nat.le_of_ble_eq_true rfl, Nat.le_of_ble_eq_true rfl⟩ ⟨Nat.le_of_ble_eq_true rfl, Nat.le_of_ble_eq_true rfl⟩ rfl (bm_cell (TI.rf I).1 gb14) (Nat.le_of_ble_eq_true rfl) (dk rfl) ?_
  rintro _ h32 ⟨b30, rfl, tb31⟩ J33
  obtain ⟨ar34, ts35, gb36, ga37, tl38, tt39⟩ := id tb31
  refine callVR_ok (ci := 2) (T := TX0) (N := 1) (av := []) (r := []) X E (c0_movedNames _ J33.1 tb31) lkX0_movedNames mlX6_219 lmX0_movedNames lpX0_movedNames ⟨Nat.le_of_ble_eq_true rfl, Nat.le_of_ble_eq_true rfl⟩ ⟨Nat.le_of_ble_eq_true rfl, Nat.le_of_ble_eq_true rfl⟩ rfl (is_cell J33.1 gb36) (Nat.le_of_ble_eq_true rfl) (dk rfl) ?_
  rintro _ ⟨x40, rfl⟩
  refine WRX.ret ?_
  exact reti_ok X hr hlk rfl (dk rfl) ⟨⟨_, rfl⟩, J33⟩ (Nat.le_of_ble_eq_true rfl) (Nat.le_of_ble_eq_true rfl)
set_option maxHeartbeats 4000000 in
theorem FZ.c6_makes (h : AH) (hl : la.stackTraces = false) (I : Tyg Γ h) {o0 : Nat} {kn : Int32} (T0 : BmT Γ o0 kn) (x1 : Int32) (x2 : Int32) (x3 : Int32) : CTX la D cA B0 pa yX6_makes cX6_makes 7 (some .boolean) (rmD 7 3 18) [.ref o0, .int (x1), .int (x2), .int (x3)] h (WrO Γ bP h) (pxW [ioobe] Γ h) := by
  refine CTX_of (by decide +kernel) (Nat.le_of_ble_eq_true rfl) ?_
  intro p e s m args below meth c X E hr hlk hnm ht
  have dk : ∀ {pc : Nat} {q : Instr × Nat}, lkd DX6_makes pc = some q → decode cX6_makes pc = .ok q := lkd_ok DX6_makes_ok
  obtain ⟨S1, A2, sp3, os4, wd5, ow6, sa7, oa8, bs9, bc10, sh11, ss12, as13, gb14, gS15, gA16, sl17, sT18, al19, aT20, tsp21, tos22, twd23, tow24, tsa25, toa26, tbs27, tbc28, tsh29⟩ := id T0
  iterate 2 refine fst1_ok X (dk rfl) rfl ?_
  refine callVXW_ok (ci := 8) (T := TX6) (N := 14) (av := [.int _]) (r := []) X E (TI.rf I) ht hlk (c6_answerOf _ hl (TI.rf I).1 T0 _) (by simp) lkX6_answerOf mlX6_151 lmX6_answerOf lpX6_answerOf ⟨Nat.le_of_ble_eq_true rfl, Nat.le_of_ble_eq_true rfl⟩ ⟨Nat.le_of_ble_eq_true rfl, Nat.le_of_ble_eq_true rfl⟩ rfl (bm_cell (TI.rf I).1 gb14) (Nat.le_of_ble_eq_true rfl) (dk rfl) ?_
  rintro _ h32 ⟨b30, rfl, tb31⟩ J33
  iterate 3 refine fst1_ok X (dk rfl) rfl ?_
  refine callVXW_ok (ci := 8) (T := TX6) (N := 14) (av := [.int _]) (r := []) X E J33 ht hlk (c6_termOf _ hl J33.1 T0 _) (by simp) lkX6_termOf mlX6_69 lmX6_termOf lpX6_termOf ⟨Nat.le_of_ble_eq_true rfl, Nat.le_of_ble_eq_true rfl⟩ ⟨Nat.le_of_ble_eq_true rfl, Nat.le_of_ble_eq_true rfl⟩ rfl (bm_cell J33.1 gb14) (Nat.le_of_ble_eq_true rfl) (dk rfl) ?_
  rintro _ h36 ⟨b34, rfl, tb35⟩ J37
  iterate 3 refine fst1_ok X (dk rfl) rfl ?_
  refine callVXW_ok (ci := 8) (T := TX6) (N := 14) (av := [.int _]) (r := []) X E J37 ht hlk (c6_termOf _ hl J37.1 T0 _) (by simp) lkX6_termOf mlX6_69 lmX6_termOf lpX6_termOf ⟨Nat.le_of_ble_eq_true rfl, Nat.le_of_ble_eq_true rfl⟩ ⟨Nat.le_of_ble_eq_true rfl, Nat.le_of_ble_eq_true rfl⟩ rfl (bm_cell J37.1 gb14) (Nat.le_of_ble_eq_true rfl) (dk rfl) ?_
  rintro _ h40 ⟨b38, rfl, tb39⟩ J41
  iterate 5 refine fst1_ok X (dk rfl) rfl ?_
  refine callVW_ok (ci := 8) (T := TX6) (N := 14) (av := [.ref _, .ref _, .ref _]) (r := []) X E J41 (c6_isMadeAlikeBy _ J41.1 T0 tb31 tb35 tb39) lkX6_isMadeAlikeBy mlX6_222 lmX6_isMadeAlikeBy lpX6_isMadeAlikeBy ⟨Nat.le_of_ble_eq_true rfl, Nat.le_of_ble_eq_true rfl⟩ ⟨Nat.le_of_ble_eq_true rfl, Nat.le_of_ble_eq_true rfl⟩ rfl (bm_cell J41.1 gb14) (Nat.le_of_ble_eq_true rfl) (dk rfl) ?_
  rintro _ h43 ⟨b42, rfl⟩ J44
  refine WRX.ret ?_
  exact reti_ok X hr hlk (bI_n b42) (dk rfl) ⟨⟨b42, rfl⟩, J44⟩ (Nat.le_of_ble_eq_true rfl) (Nat.le_of_ble_eq_true rfl)
set_option maxHeartbeats 4000000 in
theorem FZ.c6_isSo (h : AH) (hl : la.stackTraces = false) (I : Tyg Γ h) {o0 : Nat} {kn : Int32} (T0 : BmT Γ o0 kn) (x1 : Int32) (x2 : Int32) : CTX la D cA B0 pa yX6_isSo cX6_isSo 4 (some .boolean) (rmD 7 2 12) [.ref o0, .int (x1), .int (x2)] h (WrO Γ bP h) (pxW [ioobe, iae] Γ h) := by
  refine CTX_of (by decide +kernel) (Nat.le_of_ble_eq_true rfl) ?_
  intro p e s m args below meth c X E hr hlk hnm ht
  have dk : ∀ {pc : Nat} {q : Instr × Nat}, lkd DX6_isSo pc = some q → decode cX6_isSo pc = .ok q := lkd_ok DX6_isSo_ok
  obtain ⟨S1, A2, sp3, os4, wd5, ow6, sa7, oa8, bs9, bc10, sh11, ss12, as13, gb14, gS15, gA16, sl17, sT18, al19, aT20, tsp21, tos22, twd23, tow24, tsa25, toa26, tbs27, tbc28, tsh29⟩ := id T0
  iterate 2 refine fst1_ok X (dk rfl) rfl ?_
  refine callVXW_ok (ci := 8) (T := TX6) (N := 14) (av := [.int _]) (r := []) X E (TI.rf I) ht hlk (c6_answerOf _ hl (TI.rf I).1 T0 _) (by simp) lkX6_answerOf mlX6_151 lmX6_answerOf lpX6_answerOf ⟨Nat.le_of_ble_eq_true rfl, Nat.le_of_ble_eq_true rfl⟩ ⟨Nat.le_of_ble_eq_true rfl, Nat.le_of_ble_eq_true rfl⟩ rfl (bm_cell (TI.rf I).1 gb14) (Nat.le_of_ble_eq_true rfl) (dk rfl) ?_
  rintro _ h32 ⟨b30, rfl, tb31⟩ J33
  iterate 2 refine fst1_ok X (dk rfl) rfl ?_
  refine br_ok X (dk rfl) rfl (show ((7 : Nat) : Int) + 18 = ((25 : Nat) : Int) from rfl) (fun c34 => ?_) (fun c35 => ?_)
  · iterate 2 refine fst1_ok X (dk rfl) rfl ?_
    refine br_ok X (dk rfl) rfl (show ((27 : Nat) : Int) + 8 = ((35 : Nat) : Int) from rfl) (fun c36 => ?_) (fun c37 => ?_)
    · refine fst1_ok X (dk rfl) rfl ?_
      obtain ⟨dn39, rf40, hx38⟩ := bm_open J33.1 gb14
      refine getf_ok X flX6_38 (dk rfl) hx38 rfl ?_
      iterate 2 refine fst1_ok X (dk rfl) rfl ?_
      obtain ⟨ar41, ts42, gb43, ga44, tl45, tt46⟩ := id tsa25
      refine callVW_ok (ci := 2) (T := TX0) (N := 1) (av := [.ref _, .ref _]) (r := []) X E J33 (c0_becomeBoth _ J33.1 tsa25 tb31 tb31) lkX0_becomeBoth mlX6_175 lmX0_becomeBoth lpX0_becomeBoth ⟨Nat.le_of_ble_eq_true rfl, Nat.le_of_ble_eq_true rfl⟩ ⟨Nat.le_of_ble_eq_true rfl, Nat.le_of_ble_eq_true rfl⟩ rfl (is_cell J33.1 gb43) (Nat.le_of_ble_eq_true rfl) (dk rfl) ?_
      rintro _ h47 rfl J48
      refine fst1_ok X (dk rfl) rfl ?_
      obtain ⟨dn50, rf51, hx49⟩ := bm_open J48.1 gb14
      refine getf_ok X flX6_38 (dk rfl) hx49 rfl ?_
      refine callVR_ok (ci := 2) (T := TX0) (N := 1) (av := []) (r := []) X E (c0_isTooLong _ J48.1 tsa25) lkX0_isTooLong mlX6_230 lmX0_isTooLong lpX0_isTooLong ⟨Nat.le_of_ble_eq_true rfl, Nat.le_of_ble_eq_true rfl⟩ ⟨Nat.le_of_ble_eq_true rfl, Nat.le_of_ble_eq_true rfl⟩ rfl (is_cell J48.1 gb43) (Nat.le_of_ble_eq_true rfl) (dk rfl) ?_
      rintro _ ⟨b52, rfl⟩
      refine br_ok X (dk rfl) rfl (show ((51 : Nat) : Int) + 19 = ((70 : Nat) : Int) from rfl) (fun c53 => ?_) (fun c54 => ?_)
      · refine fst1_ok X (dk rfl) rfl ?_
        refine WRX.ret ?_
        exact reti_ok X hr hlk (bI_n false) (dk rfl) ⟨⟨false, rfl⟩, J48⟩ (Nat.le_of_ble_eq_true rfl) (Nat.le_of_ble_eq_true rfl)
      · refine fst1_ok X (dk rfl) rfl ?_
        refine getf_ok X flX6_38 (dk rfl) hx49 rfl ?_
        refine fst1_ok X (dk rfl) rfl ?_
        refine callVR_ok (ci := 2) (T := TX0) (N := 1) (av := [.ref _]) (r := []) X E (c0_firstUnlike _ J48.1 tsa25 tb31) lkX0_firstUnlike mlX6_233 lmX0_firstUnlike lpX0_firstUnlike ⟨Nat.le_of_ble_eq_true rfl, Nat.le_of_ble_eq_true rfl⟩ ⟨Nat.le_of_ble_eq_true rfl, Nat.le_of_ble_eq_true rfl⟩ rfl (is_cell J48.1 gb43) (Nat.le_of_ble_eq_true rfl) (dk rfl) ?_
        rintro _ ⟨x55, rfl⟩
        refine fst1_ok X (dk rfl) rfl ?_
        refine br_ok X (dk rfl) rfl (show ((63 : Nat) : Int) + 7 = ((70 : Nat) : Int) from rfl) (fun c56 => ?_) (fun c57 => ?_)
        · refine fst1_ok X (dk rfl) rfl ?_
          refine WRX.ret ?_
          exact reti_ok X hr hlk (bI_n false) (dk rfl) ⟨⟨false, rfl⟩, J48⟩ (Nat.le_of_ble_eq_true rfl) (Nat.le_of_ble_eq_true rfl)
        · refine fst1_ok X (dk rfl) rfl ?_
          refine br_ok X (dk rfl) rfl (show ((67 : Nat) : Int) + 4 = ((71 : Nat) : Int) from rfl) (fun _ => ?_) (fun q => absurd trivial q)
          refine WRX.ret ?_
          exact reti_ok X hr hlk (bI_n true) (dk rfl) ⟨⟨true, rfl⟩, J48⟩ (Nat.le_of_ble_eq_true rfl) (Nat.le_of_ble_eq_true rfl)
    · refine fst1_ok X (dk rfl) rfl ?_
      obtain ⟨ar58, ts59, gb60, ga61, tl62, tt63⟩ := id tb31
      refine callVR_ok (ci := 2) (T := TX0) (N := 1) (av := []) (r := []) X E (c0_renamesOnly _ J33.1 tb31) lkX0_renamesOnly mlX6_226 lmX0_renamesOnly lpX0_renamesOnly ⟨Nat.le_of_ble_eq_true rfl, Nat.le_of_ble_eq_true rfl⟩ ⟨Nat.le_of_ble_eq_true rfl, Nat.le_of_ble_eq_true rfl⟩ rfl (is_cell J33.1 gb60) (Nat.le_of_ble_eq_true rfl) (dk rfl) ?_
      rintro _ ⟨b64, rfl⟩
      refine WRX.ret ?_
      exact reti_ok X hr hlk (bI_n b64) (dk rfl) ⟨⟨b64, rfl⟩, J33⟩ (Nat.le_of_ble_eq_true rfl) (Nat.le_of_ble_eq_true rfl)
  · iterate 2 refine fst1_ok X (dk rfl) rfl ?_
    refine br_ok X (dk rfl) rfl (show ((12 : Nat) : Int) + 13 = ((25 : Nat) : Int) from rfl) (fun c65 => ?_) (fun c66 => ?_)
    · iterate 2 refine fst1_ok X (dk rfl) rfl ?_
      refine br_ok X (dk rfl) rfl (show ((27 : Nat) : Int) + 8 = ((35 : Nat) : Int) from rfl) (fun c67 => ?_) (fun c68 => ?_)
      · refine fst1_ok X (dk rfl) rfl ?_
        obtain ⟨dn70, rf71, hx69⟩ := bm_open J33.1 gb14
        refine getf_ok X flX6_38 (dk rfl) hx69 rfl ?_
        iterate 2 refine fst1_ok X (dk rfl) rfl ?_
        obtain ⟨ar72, ts73, gb74, ga75, tl76, tt77⟩ := id tsa25
        refine callVW_ok (ci := 2) (T := TX0) (N := 1) (av := [.ref _, .ref _]) (r := []) X E J33 (c0_becomeBoth _ J33.1 tsa25 tb31 tb31) lkX0_becomeBoth mlX6_175 lmX0_becomeBoth lpX0_becomeBoth ⟨Nat.le_of_ble_eq_true rfl, Nat.le_of_ble_eq_true rfl⟩ ⟨Nat.le_of_ble_eq_true rfl, Nat.le_of_ble_eq_true rfl⟩ rfl (is_cell J33.1 gb74) (Nat.le_of_ble_eq_true rfl) (dk rfl) ?_
        rintro _ h78 rfl J79
        refine fst1_ok X (dk rfl) rfl ?_
        obtain ⟨dn81, rf82, hx80⟩ := bm_open J79.1 gb14
        refine getf_ok X flX6_38 (dk rfl) hx80 rfl ?_
        refine callVR_ok (ci := 2) (T := TX0) (N := 1) (av := []) (r := []) X E (c0_isTooLong _ J79.1 tsa25) lkX0_isTooLong mlX6_230 lmX0_isTooLong lpX0_isTooLong ⟨Nat.le_of_ble_eq_true rfl, Nat.le_of_ble_eq_true rfl⟩ ⟨Nat.le_of_ble_eq_true rfl, Nat.le_of_ble_eq_true rfl⟩ rfl (is_cell J79.1 gb74) (Nat.le_of_ble_eq_true rfl) (dk rfl) ?_
        rintro _ ⟨b83, rfl⟩
        refine br_ok X (dk rfl) rfl (show ((51 : Nat) : Int) + 19 = ((70 : Nat) : Int) from rfl) (fun c84 => ?_) (fun c85 => ?_)
        · refine fst1_ok X (dk rfl) rfl ?_
          refine WRX.ret ?_
          exact reti_ok X hr hlk (bI_n false) (dk rfl) ⟨⟨false, rfl⟩, J79⟩ (Nat.le_of_ble_eq_true rfl) (Nat.le_of_ble_eq_true rfl)
        · refine fst1_ok X (dk rfl) rfl ?_
          refine getf_ok X flX6_38 (dk rfl) hx80 rfl ?_
          refine fst1_ok X (dk rfl) rfl ?_
          refine callVR_ok (ci := 2) (T := TX0) (N := 1) (av := [.ref _]) (r := []) X E (c0_firstUnlike _ J79.1 tsa25 tb31) lkX0_firstUnlike mlX6_233 lmX0_firstUnlike lpX0_firstUnlike ⟨Nat.le_of_ble_eq_true rfl, Nat.le_of_ble_eq_true rfl⟩ ⟨Nat.le_of_ble_eq_true rfl, Nat.le_of_ble_eq_true rfl⟩ rfl (is_cell J79.1 gb74) (Nat.le_of_ble_eq_true rfl) (dk rfl) ?_
          rintro _ ⟨x86, rfl⟩
          refine fst1_ok X (dk rfl) rfl ?_
          refine br_ok X (dk rfl) rfl (show ((63 : Nat) : Int) + 7 = ((70 : Nat) : Int) from rfl) (fun c87 => ?_) (fun c88 => ?_)
          · refine fst1_ok X (dk rfl) rfl ?_
            refine WRX.ret ?_
            exact reti_ok X hr hlk (bI_n false) (dk rfl) ⟨⟨false, rfl⟩, J79⟩ (Nat.le_of_ble_eq_true rfl) (Nat.le_of_ble_eq_true rfl)
          · refine fst1_ok X (dk rfl) rfl ?_
            refine br_ok X (dk rfl) rfl (show ((67 : Nat) : Int) + 4 = ((71 : Nat) : Int) from rfl) (fun _ => ?_) (fun q => absurd trivial q)
            refine WRX.ret ?_
            exact reti_ok X hr hlk (bI_n true) (dk rfl) ⟨⟨true, rfl⟩, J79⟩ (Nat.le_of_ble_eq_true rfl) (Nat.le_of_ble_eq_true rfl)
      · refine fst1_ok X (dk rfl) rfl ?_
        obtain ⟨ar89, ts90, gb91, ga92, tl93, tt94⟩ := id tb31
        refine callVR_ok (ci := 2) (T := TX0) (N := 1) (av := []) (r := []) X E (c0_renamesOnly _ J33.1 tb31) lkX0_renamesOnly mlX6_226 lmX0_renamesOnly lpX0_renamesOnly ⟨Nat.le_of_ble_eq_true rfl, Nat.le_of_ble_eq_true rfl⟩ ⟨Nat.le_of_ble_eq_true rfl, Nat.le_of_ble_eq_true rfl⟩ rfl (is_cell J33.1 gb91) (Nat.le_of_ble_eq_true rfl) (dk rfl) ?_
        rintro _ ⟨b95, rfl⟩
        refine WRX.ret ?_
        exact reti_ok X hr hlk (bI_n b95) (dk rfl) ⟨⟨b95, rfl⟩, J33⟩ (Nat.le_of_ble_eq_true rfl) (Nat.le_of_ble_eq_true rfl)
    · exact throwS_ok X E hl ht hlk xwX6_88 (List.mem_of_getElem? (i := 1) rfl) (dk rfl) (dk rfl) (dk rfl) (dk rfl) (dk rfl) ⟨Nat.le_of_ble_eq_true rfl, Nat.le_of_ble_eq_true rfl⟩ ⟨Nat.le_of_ble_eq_true rfl, Nat.le_of_ble_eq_true rfl⟩ ⟨(by simp), J33⟩
set_option maxHeartbeats 4000000 in
theorem FZ.c6_unlike (h : AH) (hl : la.stackTraces = false) (I : Tyg Γ h) {o0 : Nat} {kn : Int32} (T0 : BmT Γ o0 kn) (x1 : Int32) (x2 : Int32) : CTX la D cA B0 pa yX6_unlike cX6_unlike 5 (some .int) (rmD 7 2 12) [.ref o0, .int (x1), .int (x2)] h (WrO Γ iP h) (pxW [ioobe] Γ h) := by
  refine CTX_of (by decide +kernel) (Nat.le_of_ble_eq_true rfl) ?_
  intro p e s m args below meth c X E hr hlk hnm ht
  have dk : ∀ {pc : Nat} {q : Instr × Nat}, lkd DX6_unlike pc = some q → decode cX6_unlike pc = .ok q := lkd_ok DX6_unlike_ok
  obtain ⟨S1, A2, sp3, os4, wd5, ow6, sa7, oa8, bs9, bc10, sh11, ss12, as13, gb14, gS15, gA16, sl17, sT18, al19, aT20, tsp21, tos22, twd23, tow24, tsa25, toa26, tbs27, tbc28, tsh29⟩ := id T0
  iterate 2 refine fst1_ok X (dk rfl) rfl ?_
  refine callVXW_ok (ci := 8) (T := TX6) (N := 14) (av := [.int _]) (r := []) X E (TI.rf I) ht hlk (c6_answerOf _ hl (TI.rf I).1 T0 _) (by simp) lkX6_answerOf mlX6_151 lmX6_answerOf lpX6_answerOf ⟨Nat.le_of_ble_eq_true rfl, Nat.le_of_ble_eq_true rfl⟩ ⟨Nat.le_of_ble_eq_true rfl, Nat.le_of_ble_eq_true rfl⟩ rfl (bm_cell (TI.rf I).1 gb14) (Nat.le_of_ble_eq_true rfl) (dk rfl) ?_
  rintro _ h32 ⟨b30, rfl, tb31⟩ J33
  iterate 3 refine fst1_ok X (dk rfl) rfl ?_
  refine callVXW_ok (ci := 8) (T := TX6) (N := 14) (av := [.int _]) (r := []) X E J33 ht hlk (c6_answerOf _ hl J33.1 T0 _) (by simp) lkX6_answerOf mlX6_151 lmX6_answerOf lpX6_answerOf ⟨Nat.le_of_ble_eq_true rfl, Nat.le_of_ble_eq_true rfl⟩ ⟨Nat.le_of_ble_eq_true rfl, Nat.le_of_ble_eq_true rfl⟩ rfl (bm_cell J33.1 gb14) (Nat.le_of_ble_eq_true rfl) (dk rfl) ?_
  rintro _ h36 ⟨b34, rfl, tb35⟩ J37
  iterate 3 refine fst1_ok X (dk rfl) rfl ?_
  obtain ⟨ar38, ts39, gb40, ga41, tl42, tt43⟩ := id tb31
  refine callVR_ok (ci := 2) (T := TX0) (N := 1) (av := [.ref _]) (r := []) X E (c0_firstUnlike _ J37.1 tb31 tb35) lkX0_firstUnlike mlX6_233 lmX0_firstUnlike lpX0_firstUnlike ⟨Nat.le_of_ble_eq_true rfl, Nat.le_of_ble_eq_true rfl⟩ ⟨Nat.le_of_ble_eq_true rfl, Nat.le_of_ble_eq_true rfl⟩ rfl (is_cell J37.1 gb40) (Nat.le_of_ble_eq_true rfl) (dk rfl) ?_
  rintro _ ⟨x44, rfl⟩
  refine WRX.ret ?_
  exact reti_ok X hr hlk rfl (dk rfl) ⟨⟨_, rfl⟩, J37⟩ (Nat.le_of_ble_eq_true rfl) (Nat.le_of_ble_eq_true rfl)
set_option maxHeartbeats 4000000 in
theorem FZ.c6_weight (h : AH) (hl : la.stackTraces = false) (I : Tyg Γ h) {o0 : Nat} {kn : Int32} (T0 : BmT Γ o0 kn) (x1 : Int32) (x2 : Bool) : CTX la D cA B0 pa yX6_weight cX6_weight 4 (some .int) (rmD 7 1 6) [.ref o0, .int (x1), .int (bI x2)] h (WrO Γ iP h) (pxW [ioobe] Γ h) := by
  refine CTX_of (by decide +kernel) (Nat.le_of_ble_eq_true rfl) ?_
  intro p e s m args below meth c X E hr hlk hnm ht
  have dk : ∀ {pc : Nat} {q : Instr × Nat}, lkd DX6_weight pc = some q → decode cX6_weight pc = .ok q := lkd_ok DX6_weight_ok
  obtain ⟨S1, A2, sp3, os4, wd5, ow6, sa7, oa8, bs9, bc10, sh11, ss12, as13, gb14, gS15, gA16, sl17, sT18, al19, aT20, tsp21, tos22, twd23, tow24, tsa25, toa26, tbs27, tbc28, tsh29⟩ := id T0
  iterate 2 refine fst1_ok X (dk rfl) rfl ?_
  refine callVXW_ok (ci := 8) (T := TX6) (N := 14) (av := [.int _]) (r := []) X E (TI.rf I) ht hlk (c6_answerOf _ hl (TI.rf I).1 T0 _) (by simp) lkX6_answerOf mlX6_151 lmX6_answerOf lpX6_answerOf ⟨Nat.le_of_ble_eq_true rfl, Nat.le_of_ble_eq_true rfl⟩ ⟨Nat.le_of_ble_eq_true rfl, Nat.le_of_ble_eq_true rfl⟩ rfl (bm_cell (TI.rf I).1 gb14) (Nat.le_of_ble_eq_true rfl) (dk rfl) ?_
  rintro _ h32 ⟨b30, rfl, tb31⟩ J33
  iterate 2 refine fst1_ok X (dk rfl) rfl ?_
  obtain ⟨dn35, rf36, hx34⟩ := bm_open J33.1 gb14
  refine getf_ok X flX6_31 (dk rfl) hx34 rfl ?_
  obtain ⟨hL38, q37, gb39, gl40⟩ := id twd23
  refine callVW_ok (ci := 7) (T := TX5) (N := 3) (av := []) (r := []) X E J33 (c5_empty _ J33.1 twd23) lkX5_empty mlX6_94 lmX5_empty lpX5_empty ⟨Nat.le_of_ble_eq_true rfl, Nat.le_of_ble_eq_true rfl⟩ ⟨Nat.le_of_ble_eq_true rfl, Nat.le_of_ble_eq_true rfl⟩ rfl (tm_cell J33.1 gb39) (Nat.le_of_ble_eq_true rfl) (dk rfl) ?_
  rintro _ h41 rfl J42
  iterate 2 refine fst1_ok X (dk rfl) rfl ?_
  obtain ⟨dn44, rf45, hx43⟩ := bm_open J42.1 gb14
  refine getf_ok X flX6_31 (dk rfl) hx43 rfl ?_
  obtain ⟨ar46, ts47, gb48, ga49, tl50, tt51⟩ := id tb31
  refine callVW_ok (ci := 2) (T := TX0) (N := 1) (av := [.ref _]) (r := []) X E J42 (c0_addMoved _ J42.1 tb31 twd23) lkX0_addMoved mlX6_236 lmX0_addMoved lpX0_addMoved ⟨Nat.le_of_ble_eq_true rfl, Nat.le_of_ble_eq_true rfl⟩ ⟨Nat.le_of_ble_eq_true rfl, Nat.le_of_ble_eq_true rfl⟩ rfl (is_cell J42.1 gb48) (Nat.le_of_ble_eq_true rfl) (dk rfl) ?_
  rintro _ h52 rfl J53
  refine fst1_ok X (dk rfl) rfl ?_
  refine br_ok X (dk rfl) rfl (show ((22 : Nat) : Int) + 13 = ((35 : Nat) : Int) from rfl) (fun c54 => ?_) (fun c55 => ?_)
  · refine fst1_ok X (dk rfl) rfl ?_
    obtain ⟨dn57, rf58, hx56⟩ := bm_open J53.1 gb14
    refine getf_ok X flX6_31 (dk rfl) hx56 rfl ?_
    refine callVR_ok (ci := 7) (T := TX5) (N := 3) (av := []) (r := []) X E (c5_length _ J53.1 twd23) lkX5_length mlX6_76 lmX5_length lpX5_length ⟨Nat.le_of_ble_eq_true rfl, Nat.le_of_ble_eq_true rfl⟩ ⟨Nat.le_of_ble_eq_true rfl, Nat.le_of_ble_eq_true rfl⟩ rfl (tm_cell J53.1 gb39) (Nat.le_of_ble_eq_true rfl) (dk rfl) ?_
    rintro _ ⟨n59, hn60, rfl⟩
    refine WRX.ret ?_
    exact reti_ok X hr hlk rfl (dk rfl) ⟨⟨_, rfl⟩, J53⟩ (Nat.le_of_ble_eq_true rfl) (Nat.le_of_ble_eq_true rfl)
  · refine fst1_ok X (dk rfl) rfl ?_
    obtain ⟨dn62, rf63, hx61⟩ := bm_open J53.1 gb14
    refine getf_ok X flX6_31 (dk rfl) hx61 rfl ?_
    refine callVR_ok (ci := 7) (T := TX5) (N := 3) (av := []) (r := []) X E (c5_unlikePlaces _ J53.1 twd23) lkX5_unlikePlaces mlX6_204 lmX5_unlikePlaces lpX5_unlikePlaces ⟨Nat.le_of_ble_eq_true rfl, Nat.le_of_ble_eq_true rfl⟩ ⟨Nat.le_of_ble_eq_true rfl, Nat.le_of_ble_eq_true rfl⟩ rfl (tm_cell J53.1 gb39) (Nat.le_of_ble_eq_true rfl) (dk rfl) ?_
    rintro _ ⟨x64, rfl⟩
    refine br_ok X (dk rfl) rfl (show ((32 : Nat) : Int) + 10 = ((42 : Nat) : Int) from rfl) (fun _ => ?_) (fun q => absurd trivial q)
    refine WRX.ret ?_
    exact reti_ok X hr hlk rfl (dk rfl) ⟨⟨_, rfl⟩, J53⟩ (Nat.le_of_ble_eq_true rfl) (Nat.le_of_ble_eq_true rfl)
end M97
