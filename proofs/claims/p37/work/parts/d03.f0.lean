section Ud03f0
/-! the class, weakly, over types that keep contents: answers (printed by wip/p20/genFZ.py from wip/p40/cl0.py) -/
section M90
variable {la : Launch} {D : va_G} {cA : Nat → ClassId} {B0 pa : Nat} {Γ : TY}
set_option maxHeartbeats 4000000 in
theorem FZ.c0_moves (h : AH) (I : Tyg Γ h) {o0 : Nat} {w0 : Bool} (T0 : AnsG w0 Γ o0) (x1 : Int32) : CT la D cA B0 pa yX0_moves cX0_moves 2 (some .boolean) (rmD 1 0 0) [.ref o0, .int (x1)] h (RdO bP h) := by
  refine CT_of (by decide +kernel) (Nat.le_of_ble_eq_true rfl) ?_
  intro p e s m args below meth c X E hr hlk hnm
  have dk : ∀ {pc : Nat} {q : Instr × Nat}, lkd DX0_moves pc = some q → decode cX0_moves pc = .ok q := lkd_ok DX0_moves_ok
  obtain ⟨ar1, ts2, gb3, ga4, tl5, tt6⟩ := id T0
  refine fst1_ok X (dk rfl) rfl ?_
  refine callNR_ok (av := [.int _]) (r := []) X E (c6_isName _ (TI.rf I).1 _) lkX6_isName mnX0_23 lsX6_isName ⟨Nat.le_of_ble_eq_true rfl, Nat.le_of_ble_eq_true rfl⟩ ⟨Nat.le_of_ble_eq_true rfl, Nat.le_of_ble_eq_true rfl⟩ (Nat.le_of_ble_eq_true rfl) (dk rfl) ?_
  rintro _ ⟨b7, rfl, hb8, hn9⟩
  refine br_ok X (dk rfl) rfl (show ((4 : Nat) : Int) + 34 = ((38 : Nat) : Int) from rfl) (fun c10 => ?_) (fun c11 => ?_)
  · refine fst1_ok X (dk rfl) rfl ?_
    exact reti_ok X hr hlk (bI_n false) (dk rfl) ⟨⟨false, rfl⟩, rfl⟩ (Nat.le_of_ble_eq_true rfl) (Nat.le_of_ble_eq_true rfl)
  · refine fst1_ok X (dk rfl) rfl ?_
    have hx12 := is_open (TI.rf I).1 gb3
    refine getf_ok X flX0_11 (dk rfl) hx12 rfl ?_
    refine fst1_ok X (dk rfl) rfl ?_
    have hx13 := is_open (TI.rf I).1 ga4
    refine aldx_ok X (by decide) (by decide) (dk rfl) hx13 tl5 tt6 (hb8 (bI_nz c11)) (fun b14 tb15 => ?_)
    obtain ⟨hL17, q16, gb18, gl19⟩ := id tb15
    refine callVR_ok (ci := 7) (T := TX5) (N := 3) (av := []) (r := []) X E (c5_length _ (TI.rf I).1 tb15) lkX5_length mlX0_34 lmX5_length lpX5_length ⟨Nat.le_of_ble_eq_true rfl, Nat.le_of_ble_eq_true rfl⟩ ⟨Nat.le_of_ble_eq_true rfl, Nat.le_of_ble_eq_true rfl⟩ rfl (tm_cell (TI.rf I).1 gb18) (Nat.le_of_ble_eq_true rfl) (dk rfl) ?_
    rintro _ ⟨n20, hn21, rfl⟩
    refine fst1_ok X (dk rfl) rfl ?_
    refine br_ok X (dk rfl) rfl (show ((17 : Nat) : Int) + 17 = ((34 : Nat) : Int) from rfl) (fun c22 => ?_) (fun c23 => ?_)
    · refine fst1_ok X (dk rfl) rfl ?_
      refine br_ok X (dk rfl) rfl (show ((35 : Nat) : Int) + 4 = ((39 : Nat) : Int) from rfl) (fun _ => ?_) (fun q => absurd trivial q)
      exact reti_ok X hr hlk (bI_n true) (dk rfl) ⟨⟨true, rfl⟩, rfl⟩ (Nat.le_of_ble_eq_true rfl) (Nat.le_of_ble_eq_true rfl)
    · refine fst1_ok X (dk rfl) rfl ?_
      refine getf_ok X flX0_11 (dk rfl) hx12 rfl ?_
      refine fst1_ok X (dk rfl) rfl ?_
      refine aldx_ok X (by decide) (by decide) (dk rfl) hx13 tl5 tt6 (hb8 (bI_nz c11)) (fun b24 tb25 => ?_)
      refine fst1_ok X (dk rfl) rfl ?_
      obtain ⟨hL27, q26, gb28, gl29⟩ := id tb25
      refine callVR_ok (ci := 7) (T := TX5) (N := 3) (av := [.int _]) (r := []) X E (c5_letterAt _ (TI.rf I).1 tb25 _) lkX5_letterAt mlX0_38 lmX5_letterAt lpX5_letterAt ⟨Nat.le_of_ble_eq_true rfl, Nat.le_of_ble_eq_true rfl⟩ ⟨Nat.le_of_ble_eq_true rfl, Nat.le_of_ble_eq_true rfl⟩ rfl (tm_cell (TI.rf I).1 gb28) (Nat.le_of_ble_eq_true rfl) (dk rfl) ?_
      rintro _ ⟨x30, hx31, rfl⟩
      refine fst1_ok X (dk rfl) rfl ?_
      refine br_ok X (dk rfl) rfl (show ((31 : Nat) : Int) + 7 = ((38 : Nat) : Int) from rfl) (fun c32 => ?_) (fun c33 => ?_)
      · refine fst1_ok X (dk rfl) rfl ?_
        exact reti_ok X hr hlk (bI_n false) (dk rfl) ⟨⟨false, rfl⟩, rfl⟩ (Nat.le_of_ble_eq_true rfl) (Nat.le_of_ble_eq_true rfl)
      · refine fst1_ok X (dk rfl) rfl ?_
        refine br_ok X (dk rfl) rfl (show ((35 : Nat) : Int) + 4 = ((39 : Nat) : Int) from rfl) (fun _ => ?_) (fun q => absurd trivial q)
        exact reti_ok X hr hlk (bI_n true) (dk rfl) ⟨⟨true, rfl⟩, rfl⟩ (Nat.le_of_ble_eq_true rfl) (Nat.le_of_ble_eq_true rfl)
set_option maxHeartbeats 4000000 in
theorem FZ.c0_movedNames (h : AH) (I : Tyg Γ h) {o0 : Nat} {w0 : Bool} (T0 : AnsG w0 Γ o0) : CT la D cA B0 pa yX0_movedNames cX0_movedNames 3 (some .int) (rmD 2 0 0) [.ref o0] h (RdO iP h) := by
  refine CT_of (by decide +kernel) (Nat.le_of_ble_eq_true rfl) ?_
  intro p e s m args below meth c X E hr hlk hnm
  have dk : ∀ {pc : Nat} {q : Instr × Nat}, lkd DX0_movedNames pc = some q → decode cX0_movedNames pc = .ok q := lkd_ok DX0_movedNames_ok
  obtain ⟨ar1, ts2, gb3, ga4, tl5, tt6⟩ := id T0
  have L4 : ∀ j7 : Int32, ∀ (y8 : Int32) (l : List (Nat × Value)), lsel l [2, 1, 0] = [(2, .int (j7)), (1, .int (y8)), (0, .ref o0)] → WR p la e (rmD 2 0 0) s m args below meth c D cA B0 3 (RdO iP h) 4 l [] h 0 0 := by
    refine loopUp (fun j7 ih4 => ?_)
    intro y8 l hl
    refine WS.sel [2, 1, 0] hl ?_
    iterate 2 refine fst1_ok X (dk rfl) rfl ?_
    refine br_ok X (dk rfl) rfl (show ((7 : Nat) : Int) + 23 = ((30 : Nat) : Int) from rfl) (fun c10 => ?_) (fun c11 => ?_)
    · refine fst1_ok X (dk rfl) rfl ?_
      exact reti_ok X hr hlk rfl (dk rfl) ⟨⟨_, rfl⟩, rfl⟩ (Nat.le_of_ble_eq_true rfl) (Nat.le_of_ble_eq_true rfl)
    · iterate 2 refine fst1_ok X (dk rfl) rfl ?_
      refine callVR_ok (ci := 2) (T := TX0) (N := 1) (av := [.int _]) (r := []) X E (c0_moves _ (TI.rf I).1 T0 _) lkX0_moves mlX0_42 lmX0_moves lpX0_moves ⟨Nat.le_of_ble_eq_true rfl, Nat.le_of_ble_eq_true rfl⟩ ⟨Nat.le_of_ble_eq_true rfl, Nat.le_of_ble_eq_true rfl⟩ rfl (is_cell (TI.rf I).1 gb3) (Nat.le_of_ble_eq_true rfl) (dk rfl) ?_
      rintro _ ⟨b12, rfl⟩
      refine br_ok X (dk rfl) rfl (show ((15 : Nat) : Int) + 9 = ((24 : Nat) : Int) from rfl) (fun c13 => ?_) (fun c14 => ?_)
      · refine fst1_ok X (dk rfl) rfl ?_
        refine br_ok X (dk rfl) rfl (show ((27 : Nat) : Int) + (-23) = ((4 : Nat) : Int) from rfl) (fun _ => ?_) (fun q => absurd trivial q)
        exact ih4 _ (nlt_of c11) _ _ rfl
      · iterate 7 refine fst1_ok X (dk rfl) rfl ?_
        refine br_ok X (dk rfl) rfl (show ((27 : Nat) : Int) + (-23) = ((4 : Nat) : Int) from rfl) (fun _ => ?_) (fun q => absurd trivial q)
        exact ih4 _ (nlt_of c11) _ _ rfl
  iterate 4 refine fst1_ok X (dk rfl) rfl ?_
  exact L4 _ _ _ rfl
set_option maxHeartbeats 4000000 in
theorem FZ.c0_movedCount (h : AH) (I : Tyg Γ h) {o0 : Nat} {w0 : Bool} (T0 : AnsG w0 Γ o0) : CT la D cA B0 pa yX0_movedCount cX0_movedCount 1 (some .int) (rmD 3 0 0) [.ref o0] h (RdO iP h) := by
  refine CT_of (by decide +kernel) (Nat.le_of_ble_eq_true rfl) ?_
  intro p e s m args below meth c X E hr hlk hnm
  have dk : ∀ {pc : Nat} {q : Instr × Nat}, lkd DX0_movedCount pc = some q → decode cX0_movedCount pc = .ok q := lkd_ok DX0_movedCount_ok
  obtain ⟨ar1, ts2, gb3, ga4, tl5, tt6⟩ := id T0
  refine fst1_ok X (dk rfl) rfl ?_
  refine callVR_ok (ci := 2) (T := TX0) (N := 1) (av := []) (r := []) X E (c0_movedNames _ (TI.rf I).1 T0) lkX0_movedNames mlX0_45 lmX0_movedNames lpX0_movedNames ⟨Nat.le_of_ble_eq_true rfl, Nat.le_of_ble_eq_true rfl⟩ ⟨Nat.le_of_ble_eq_true rfl, Nat.le_of_ble_eq_true rfl⟩ rfl (is_cell (TI.rf I).1 gb3) (Nat.le_of_ble_eq_true rfl) (dk rfl) ?_
  rintro _ ⟨x7, rfl⟩
  refine callSR_ok (av := [.int _]) (r := []) X E (c_bitCount _ _) lkJ6_bitCount_0f7a4 mlX0_48 lsJ6_bitCount_0f7a4 ⟨Nat.le_of_ble_eq_true rfl, Nat.le_of_ble_eq_true rfl⟩ ⟨Nat.le_of_ble_eq_true rfl, Nat.le_of_ble_eq_true rfl⟩ (Nat.le_of_ble_eq_true rfl) (dk rfl) ?_
  rintro _ rfl
  exact reti_ok X hr hlk rfl (dk rfl) ⟨⟨_, rfl⟩, rfl⟩ (Nat.le_of_ble_eq_true rfl) (Nat.le_of_ble_eq_true rfl)
set_option maxHeartbeats 4000000 in
theorem FZ.c0_addUsed (h : AH) (I : Tyg Γ h) {o0 : Nat} {w0 : Bool} (T0 : AnsG w0 Γ o0) {o1 L1 : Nat} {w1 : Bool} (T1 : TermG w1 Γ o1 L1) (x2 : Int32) (x3 : Int32) {o4 L4 : Nat} (T4 : TermG true Γ o4 L4) : CT la D cA B0 pa yX0_addUsed cX0_addUsed 7 none (rmD 2 0 0) [.ref o0, .ref o1, .int (x2), .int (x3), .ref o4] h (WrO Γ voidP h) := by
  refine CT_of (by decide +kernel) (Nat.le_of_ble_eq_true rfl) ?_
  intro p e s m args below meth c X E hr hlk hnm
  have dk : ∀ {pc : Nat} {q : Instr × Nat}, lkd DX0_addUsed pc = some q → decode cX0_addUsed pc = .ok q := lkd_ok DX0_addUsed_ok
  obtain ⟨ar1, ts2, gb3, ga4, tl5, tt6⟩ := id T0
  obtain ⟨hL8, q7, gb9, gl10⟩ := id T1
  obtain ⟨hL12, q11, gb13, gl14⟩ := id T4
  have L3 : ∀ j15 : Int32, ∀ (h20 : AH) (J21 : TI Γ h h20) (l : List (Nat × Value)), lsel l [5, 4, 3, 1, 0] = [(5, .int (j15)), (4, .ref o4), (3, .int (x3)), (1, .ref o1), (0, .ref o0)] → WR p la e (rmD 2 0 0) s m args below meth c D cA B0 7 (WrO Γ voidP h) 3 l [] h20 0 0 := by
    refine loopUp (fun j15 ih3 => ?_)
    intro h20 J21 l hl
    refine WS.sel [5, 4, 3, 1, 0] hl ?_
    iterate 2 refine fst1_ok X (dk rfl) rfl ?_
    refine br_ok X (dk rfl) rfl (show ((6 : Nat) : Int) + 47 = ((53 : Nat) : Int) from rfl) (fun c22 => ?_) (fun c23 => ?_)
    · exact retv_ok X hr hlk (dk rfl) ⟨rfl, J21⟩ (Nat.le_of_ble_eq_true rfl) (Nat.le_of_ble_eq_true rfl)
    · iterate 2 refine fst1_ok X (dk rfl) rfl ?_
      refine callVR_ok (ci := 7) (T := TX5) (N := 3) (av := [.int _]) (r := []) X E (c5_letterAt _ J21.1 T1 _) lkX5_letterAt mlX0_38 lmX5_letterAt lpX5_letterAt ⟨Nat.le_of_ble_eq_true rfl, Nat.le_of_ble_eq_true rfl⟩ ⟨Nat.le_of_ble_eq_true rfl, Nat.le_of_ble_eq_true rfl⟩ rfl (tm_cell J21.1 gb9) (Nat.le_of_ble_eq_true rfl) (dk rfl) ?_
      rintro _ ⟨x24, hx25, rfl⟩
      iterate 2 refine fst1_ok X (dk rfl) rfl ?_
      refine callNR_ok (av := [.int _]) (r := []) X E (c6_isName _ J21.1 _) lkX6_isName mnX0_23 lsX6_isName ⟨Nat.le_of_ble_eq_true rfl, Nat.le_of_ble_eq_true rfl⟩ ⟨Nat.le_of_ble_eq_true rfl, Nat.le_of_ble_eq_true rfl⟩ (Nat.le_of_ble_eq_true rfl) (dk rfl) ?_
      rintro _ ⟨b26, rfl, hb27, hn28⟩
      refine br_ok X (dk rfl) rfl (show ((22 : Nat) : Int) + 18 = ((40 : Nat) : Int) from rfl) (fun c29 => ?_) (fun c30 => ?_)
      · iterate 2 refine fst1_ok X (dk rfl) rfl ?_
        refine callVW_ok (ci := 7) (T := TX5) (N := 3) (av := [.int _]) (r := []) X E J21 (c5_add _ J21.1 T4 _ hx25) lkX5_add mlX0_67 lmX5_add lpX5_add ⟨Nat.le_of_ble_eq_true rfl, Nat.le_of_ble_eq_true rfl⟩ ⟨Nat.le_of_ble_eq_true rfl, Nat.le_of_ble_eq_true rfl⟩ rfl (tm_cell J21.1 gb13) (Nat.le_of_ble_eq_true rfl) (dk rfl) ?_
        rintro _ h31 rfl J32
        refine fst1_ok X (dk rfl) rfl ?_
        refine br_ok X (dk rfl) rfl (show ((50 : Nat) : Int) + (-47) = ((3 : Nat) : Int) from rfl) (fun _ => ?_) (fun q => absurd trivial q)
        exact ih3 _ (nlt_of c23) h31 J32 _ rfl
      · iterate 2 refine fst1_ok X (dk rfl) rfl ?_
        have hx33 := is_open J21.1 gb3
        refine getf_ok X flX0_11 (dk rfl) hx33 rfl ?_
        refine fst1_ok X (dk rfl) rfl ?_
        have hx34 := is_open J21.1 ga4
        refine aldx_ok X (by decide) (by decide) (dk rfl) hx34 tl5 tt6 (hb27 (bI_nz c30)) (fun b35 tb36 => ?_)
        refine callVW_ok (ci := 7) (T := TX5) (N := 3) (av := [.ref _]) (r := []) X E J21 (c5_addTerm _ J21.1 T4 tb36) lkX5_addTerm mlX0_64 lmX5_addTerm lpX5_addTerm ⟨Nat.le_of_ble_eq_true rfl, Nat.le_of_ble_eq_true rfl⟩ ⟨Nat.le_of_ble_eq_true rfl, Nat.le_of_ble_eq_true rfl⟩ rfl (tm_cell J21.1 gb13) (Nat.le_of_ble_eq_true rfl) (dk rfl) ?_
        rintro _ h37 rfl J38
        refine br_ok X (dk rfl) rfl (show ((37 : Nat) : Int) + 10 = ((47 : Nat) : Int) from rfl) (fun _ => ?_) (fun q => absurd trivial q)
        refine fst1_ok X (dk rfl) rfl ?_
        refine br_ok X (dk rfl) rfl (show ((50 : Nat) : Int) + (-47) = ((3 : Nat) : Int) from rfl) (fun _ => ?_) (fun q => absurd trivial q)
        exact ih3 _ (nlt_of c23) h37 J38 _ rfl
  iterate 2 refine fst1_ok X (dk rfl) rfl ?_
  exact L3 _ h (TI.rf I) _ rfl
set_option maxHeartbeats 4000000 in
theorem FZ.c0_becomeBoth (h : AH) (I : Tyg Γ h) {o0 : Nat} (T0 : AnsG true Γ o0) {o1 : Nat} {w1 : Bool} (T1 : AnsG w1 Γ o1) {o2 : Nat} {w2 : Bool} (T2 : AnsG w2 Γ o2) : CT la D cA B0 pa yX0_becomeBoth cX0_becomeBoth 4 none (rmD 3 0 0) [.ref o0, .ref o1, .ref o2] h (WrO Γ voidP h) := by
  refine CT_of (by decide +kernel) (Nat.le_of_ble_eq_true rfl) ?_
  intro p e s m args below meth c X E hr hlk hnm
  have dk : ∀ {pc : Nat} {q : Instr × Nat}, lkd DX0_becomeBoth pc = some q → decode cX0_becomeBoth pc = .ok q := lkd_ok DX0_becomeBoth_ok
  obtain ⟨ar1, ts2, gb3, ga4, tl5, tt6⟩ := id T0
  obtain ⟨ar7, ts8, gb9, ga10, tl11, tt12⟩ := id T1
  obtain ⟨ar13, ts14, gb15, ga16, tl17, tt18⟩ := id T2
  have L2 : ∀ j19 : Nat, j19 ≤ 8 → ∀ (h23 : AH) (J24 : TI Γ h h23) (l : List (Nat × Value)), lsel l [3, 2, 1, 0] = [(3, vI j19), (2, .ref o2), (1, .ref o1), (0, .ref o0)] → WR p la e (rmD 3 0 0) s m args below meth c D cA B0 4 (WrO Γ voidP h) 2 l [] h23 0 0 := by
    refine loopN (fun j19 hj19 ih2 => ?_)
    intro h23 J24 l hl
    refine WS.sel [3, 2, 1, 0] hl ?_
    iterate 2 refine fst1_ok X (dk rfl) rfl ?_
    refine br_ok X (dk rfl) rfl (show ((5 : Nat) : Int) + 44 = ((49 : Nat) : Int) from rfl) (fun c25 => ?_) (fun c26 => ?_)
    · exact retv_ok X hr hlk (dk rfl) ⟨rfl, J24⟩ (Nat.le_of_ble_eq_true rfl) (Nat.le_of_ble_eq_true rfl)
    · refine fst1_ok X (dk rfl) rfl ?_
      have hx27 := is_open J24.1 gb3
      refine getf_ok X flX0_11 (dk rfl) hx27 rfl ?_
      refine fst1_ok X (dk rfl) rfl ?_
      have hx28 := is_open J24.1 ga4
      refine aldx_ok X (by decide) (by decide) (dk rfl) hx28 tl5 tt6 ⟨_, (nat_lt (K := 8) (by omega) (by rw [show nI 8 = (Int8.ofInt 8).toInt32 by decide +kernel]; exact c26)), rfl⟩ (fun b29 tb30 => ?_)
      obtain ⟨hL32, q31, gb33, gl34⟩ := id tb30
      refine callVW_ok (ci := 7) (T := TX5) (N := 3) (av := []) (r := []) X E J24 (c5_empty _ J24.1 tb30) lkX5_empty mlX0_57 lmX5_empty lpX5_empty ⟨Nat.le_of_ble_eq_true rfl, Nat.le_of_ble_eq_true rfl⟩ ⟨Nat.le_of_ble_eq_true rfl, Nat.le_of_ble_eq_true rfl⟩ rfl (tm_cell J24.1 gb33) (Nat.le_of_ble_eq_true rfl) (dk rfl) ?_
      rintro _ h35 rfl J36
      iterate 2 refine fst1_ok X (dk rfl) rfl ?_
      have hx37 := is_open J36.1 gb9
      refine getf_ok X flX0_11 (dk rfl) hx37 rfl ?_
      refine fst1_ok X (dk rfl) rfl ?_
      have hx38 := is_open J36.1 ga10
      refine aldx_ok X (by decide) (by decide) (dk rfl) hx38 tl11 tt12 ⟨_, (nat_lt (K := 8) (by omega) (by rw [show nI 8 = (Int8.ofInt 8).toInt32 by decide +kernel]; exact c26)), rfl⟩ (fun b39 tb40 => ?_)
      iterate 2 refine fst1_ok X (dk rfl) rfl ?_
      refine getf_ok X flX0_11 (dk rfl) hx37 rfl ?_
      refine fst1_ok X (dk rfl) rfl ?_
      refine aldx_ok X (by decide) (by decide) (dk rfl) hx38 tl11 tt12 ⟨_, (nat_lt (K := 8) (by omega) (by rw [show nI 8 = (Int8.ofInt 8).toInt32 by decide +kernel]; exact c26)), rfl⟩ (fun b41 tb42 => ?_)
      obtain ⟨hL44, q43, gb45, gl46⟩ := id tb42
      refine callVR_ok (ci := 7) (T := TX5) (N := 3) (av := []) (r := [_, _, _]) X E (c5_length _ J36.1 tb42) lkX5_length mlX0_34 lmX5_length lpX5_length ⟨Nat.le_of_ble_eq_true rfl, Nat.le_of_ble_eq_true rfl⟩ ⟨Nat.le_of_ble_eq_true rfl, Nat.le_of_ble_eq_true rfl⟩ rfl (tm_cell J36.1 gb45) (Nat.le_of_ble_eq_true rfl) (dk rfl) ?_
      rintro _ ⟨n47, hn48, rfl⟩
      refine fst1_ok X (dk rfl) rfl ?_
      have hx49 := is_open J36.1 gb3
      refine getf_ok X flX0_11 (dk rfl) hx49 rfl ?_
      refine fst1_ok X (dk rfl) rfl ?_
      have hx50 := is_open J36.1 ga4
      refine aldx_ok X (by decide) (by decide) (dk rfl) hx50 tl5 tt6 ⟨_, (nat_lt (K := 8) (by omega) (by rw [show nI 8 = (Int8.ofInt 8).toInt32 by decide +kernel]; exact c26)), rfl⟩ (fun b51 tb52 => ?_)
      refine callVW_ok (ci := 2) (T := TX0) (N := 1) (av := [.ref _, .int _, .int _, .ref _]) (r := []) X E J36 (c0_addUsed _ J36.1 T2 tb40 _ _ tb52) lkX0_addUsed mlX0_60 lmX0_addUsed lpX0_addUsed ⟨Nat.le_of_ble_eq_true rfl, Nat.le_of_ble_eq_true rfl⟩ ⟨Nat.le_of_ble_eq_true rfl, Nat.le_of_ble_eq_true rfl⟩ rfl (is_cell J36.1 gb15) (Nat.le_of_ble_eq_true rfl) (dk rfl) ?_
      rintro _ h53 rfl J54
      refine fst1_ok X (dk rfl) rfl ?_
      refine br_ok X (dk rfl) rfl (show ((46 : Nat) : Int) + (-44) = ((2 : Nat) : Int) from rfl) (fun _ => ?_) (fun q => absurd trivial q)
      exact ih2 (nat_lt (K := 8) (by omega) (by rw [show nI 8 = (Int8.ofInt 8).toInt32 by decide +kernel]; exact c26)) h53 J54 _ (by rw [← vI_succ j19]; rfl)
  iterate 2 refine fst1_ok X (dk rfl) rfl ?_
  exact L2 0 (by omega) h (TI.rf I) _ rfl
set_option maxHeartbeats 4000000 in
theorem FZ.c0_addMoved (h : AH) (I : Tyg Γ h) {o0 : Nat} {w0 : Bool} (T0 : AnsG w0 Γ o0) {o1 L1 : Nat} (T1 : TermG true Γ o1 L1) : CT la D cA B0 pa yX0_addMoved cX0_addMoved 3 none (rmD 2 0 0) [.ref o0, .ref o1] h (WrO Γ voidP h) := by
  refine CT_of (by decide +kernel) (Nat.le_of_ble_eq_true rfl) ?_
  intro p e s m args below meth c X E hr hlk hnm
  have dk : ∀ {pc : Nat} {q : Instr × Nat}, lkd DX0_addMoved pc = some q → decode cX0_addMoved pc = .ok q := lkd_ok DX0_addMoved_ok
  obtain ⟨ar1, ts2, gb3, ga4, tl5, tt6⟩ := id T0
  obtain ⟨hL8, q7, gb9, gl10⟩ := id T1
  have L2 : ∀ j11 : Nat, j11 ≤ 8 → ∀ (h14 : AH) (J15 : TI Γ h h14) (l : List (Nat × Value)), lsel l [2, 1, 0] = [(2, vI j11), (1, .ref o1), (0, .ref o0)] → WR p la e (rmD 2 0 0) s m args below meth c D cA B0 3 (WrO Γ voidP h) 2 l [] h14 0 0 := by
    refine loopN (fun j11 hj11 ih2 => ?_)
    intro h14 J15 l hl
    refine WS.sel [2, 1, 0] hl ?_
    iterate 2 refine fst1_ok X (dk rfl) rfl ?_
    refine br_ok X (dk rfl) rfl (show ((5 : Nat) : Int) + 27 = ((32 : Nat) : Int) from rfl) (fun c16 => ?_) (fun c17 => ?_)
    · exact retv_ok X hr hlk (dk rfl) ⟨rfl, J15⟩ (Nat.le_of_ble_eq_true rfl) (Nat.le_of_ble_eq_true rfl)
    · iterate 2 refine fst1_ok X (dk rfl) rfl ?_
      refine callVR_ok (ci := 2) (T := TX0) (N := 1) (av := [.int _]) (r := []) X E (c0_moves _ J15.1 T0 _) lkX0_moves mlX0_42 lmX0_moves lpX0_moves ⟨Nat.le_of_ble_eq_true rfl, Nat.le_of_ble_eq_true rfl⟩ ⟨Nat.le_of_ble_eq_true rfl, Nat.le_of_ble_eq_true rfl⟩ rfl (is_cell J15.1 gb3) (Nat.le_of_ble_eq_true rfl) (dk rfl) ?_
      rintro _ ⟨b18, rfl⟩
      refine br_ok X (dk rfl) rfl (show ((13 : Nat) : Int) + 13 = ((26 : Nat) : Int) from rfl) (fun c19 => ?_) (fun c20 => ?_)
      · refine fst1_ok X (dk rfl) rfl ?_
        refine br_ok X (dk rfl) rfl (show ((29 : Nat) : Int) + (-27) = ((2 : Nat) : Int) from rfl) (fun _ => ?_) (fun q => absurd trivial q)
        exact ih2 (nat_lt (K := 8) (by omega) (by rw [show nI 8 = (Int8.ofInt 8).toInt32 by decide +kernel]; exact c17)) h14 J15 _ (by rw [← vI_succ j11]; rfl)
      · iterate 2 refine fst1_ok X (dk rfl) rfl ?_
        have hx21 := is_open J15.1 gb3
        refine getf_ok X flX0_11 (dk rfl) hx21 rfl ?_
        refine fst1_ok X (dk rfl) rfl ?_
        have hx22 := is_open J15.1 ga4
        refine aldx_ok X (by decide) (by decide) (dk rfl) hx22 tl5 tt6 ⟨_, (nat_lt (K := 8) (by omega) (by rw [show nI 8 = (Int8.ofInt 8).toInt32 by decide +kernel]; exact c17)), rfl⟩ (fun b23 tb24 => ?_)
        refine callVW_ok (ci := 7) (T := TX5) (N := 3) (av := [.ref _]) (r := []) X E J15 (c5_addTerm _ J15.1 T1 tb24) lkX5_addTerm mlX0_64 lmX5_addTerm lpX5_addTerm ⟨Nat.le_of_ble_eq_true rfl, Nat.le_of_ble_eq_true rfl⟩ ⟨Nat.le_of_ble_eq_true rfl, Nat.le_of_ble_eq_true rfl⟩ rfl (tm_cell J15.1 gb9) (Nat.le_of_ble_eq_true rfl) (dk rfl) ?_
        rintro _ h25 rfl J26
        refine fst1_ok X (dk rfl) rfl ?_
        refine br_ok X (dk rfl) rfl (show ((29 : Nat) : Int) + (-27) = ((2 : Nat) : Int) from rfl) (fun _ => ?_) (fun q => absurd trivial q)
        exact ih2 (nat_lt (K := 8) (by omega) (by rw [show nI 8 = (Int8.ofInt 8).toInt32 by decide +kernel]; exact c17)) h25 J26 _ (by rw [← vI_succ j11]; rfl)
  iterate 2 refine fst1_ok X (dk rfl) rfl ?_
  exact L2 0 (by omega) h (TI.rf I) _ rfl
set_option maxHeartbeats 4000000 in
theorem FZ.c0_isTooLong (h : AH) (I : Tyg Γ h) {o0 : Nat} {w0 : Bool} (T0 : AnsG w0 Γ o0) : CT la D cA B0 pa yX0_isTooLong cX0_isTooLong 5 (some .boolean) (rmD 1 0 0) [.ref o0] h (RdO bP h) := by
  refine CT_of (by decide +kernel) (Nat.le_of_ble_eq_true rfl) ?_
  intro p e s m args below meth c X E hr hlk hnm
  have dk : ∀ {pc : Nat} {q : Instr × Nat}, lkd DX0_isTooLong pc = some q → decode cX0_isTooLong pc = .ok q := lkd_ok DX0_isTooLong_ok
  obtain ⟨ar1, ts2, gb3, ga4, tl5, tt6⟩ := id T0
  have L10 : ∀ j7 : Nat, j7 ≤ 8 → ∀ (l : List (Nat × Value)), lsel l [3, 2, 1] = [(3, vI j7), (2, vI 8), (1, .ref ar1)] → WR p la e (rmD 1 0 0) s m args below meth c D cA B0 5 (RdO bP h) 10 l [] h 0 0 := by
    refine loopN (fun j7 hj7 ih10 => ?_)
    intro l hl
    refine WS.sel [3, 2, 1] hl ?_
    iterate 2 refine fst1_ok X (dk rfl) rfl ?_
    refine br_ok X (dk rfl) rfl (show ((12 : Nat) : Int) + 24 = ((36 : Nat) : Int) from rfl) (fun c10 => ?_) (fun c11 => ?_)
    · refine fst1_ok X (dk rfl) rfl ?_
      exact reti_ok X hr hlk (bI_n false) (dk rfl) ⟨⟨false, rfl⟩, rfl⟩ (Nat.le_of_ble_eq_true rfl) (Nat.le_of_ble_eq_true rfl)
    · iterate 2 refine fst1_ok X (dk rfl) rfl ?_
      have hx12 := is_open (TI.rf I).1 ga4
      refine aldx_ok X (by decide) (by decide) (dk rfl) hx12 tl5 tt6 ⟨_, (nat_lt (K := 8) (by omega) c11), rfl⟩ (fun b13 tb14 => ?_)
      iterate 2 refine fst1_ok X (dk rfl) rfl ?_
      obtain ⟨hL16, q15, gb17, gl18⟩ := id tb14
      refine callVR_ok (ci := 7) (T := TX5) (N := 3) (av := []) (r := []) X E (c5_isTooLong _ (TI.rf I).1 tb14) lkX5_isTooLong mlX0_70 lmX5_isTooLong lpX5_isTooLong ⟨Nat.le_of_ble_eq_true rfl, Nat.le_of_ble_eq_true rfl⟩ ⟨Nat.le_of_ble_eq_true rfl, Nat.le_of_ble_eq_true rfl⟩ rfl (tm_cell (TI.rf I).1 gb17) (Nat.le_of_ble_eq_true rfl) (dk rfl) ?_
      rintro _ ⟨b19, rfl⟩
      refine br_ok X (dk rfl) rfl (show ((25 : Nat) : Int) + 5 = ((30 : Nat) : Int) from rfl) (fun c20 => ?_) (fun c21 => ?_)
      · refine fst1_ok X (dk rfl) rfl ?_
        refine br_ok X (dk rfl) rfl (show ((33 : Nat) : Int) + (-23) = ((10 : Nat) : Int) from rfl) (fun _ => ?_) (fun q => absurd trivial q)
        exact ih10 (nat_lt (K := 8) (by omega) c11) _ (by rw [← vI_succ j7]; rfl)
      · refine fst1_ok X (dk rfl) rfl ?_
        exact reti_ok X hr hlk (bI_n true) (dk rfl) ⟨⟨true, rfl⟩, rfl⟩ (Nat.le_of_ble_eq_true rfl) (Nat.le_of_ble_eq_true rfl)
  refine fst1_ok X (dk rfl) rfl ?_
  have hx22 := is_open (TI.rf I).1 gb3
  refine getf_ok X flX0_11 (dk rfl) hx22 rfl ?_
  iterate 2 refine fst1_ok X (dk rfl) rfl ?_
  have hx23 := is_open (TI.rf I).1 ga4
  refine alenr_ok X (by decide) (dk rfl) hx23 tl5 ?_
  iterate 3 refine fst1_ok X (dk rfl) rfl ?_
  exact L10 0 (by omega) _ rfl
set_option maxHeartbeats 4000000 in
theorem FZ.c0_firstUnlike (h : AH) (I : Tyg Γ h) {o0 : Nat} {w0 : Bool} (T0 : AnsG w0 Γ o0) {o1 : Nat} {w1 : Bool} (T1 : AnsG w1 Γ o1) : CT la D cA B0 pa yX0_firstUnlike cX0_firstUnlike 3 (some .int) (rmD 3 0 0) [.ref o0, .ref o1] h (RdO iP h) := by
  refine CT_of (by decide +kernel) (Nat.le_of_ble_eq_true rfl) ?_
  intro p e s m args below meth c X E hr hlk hnm
  have dk : ∀ {pc : Nat} {q : Instr × Nat}, lkd DX0_firstUnlike pc = some q → decode cX0_firstUnlike pc = .ok q := lkd_ok DX0_firstUnlike_ok
  obtain ⟨ar1, ts2, gb3, ga4, tl5, tt6⟩ := id T0
  obtain ⟨ar7, ts8, gb9, ga10, tl11, tt12⟩ := id T1
  have L2 : ∀ j13 : Nat, j13 ≤ 8 → ∀ (l : List (Nat × Value)), lsel l [2, 1, 0] = [(2, vI j13), (1, .ref o1), (0, .ref o0)] → WR p la e (rmD 3 0 0) s m args below meth c D cA B0 3 (RdO iP h) 2 l [] h 0 0 := by
    refine loopN (fun j13 hj13 ih2 => ?_)
    intro l hl
    refine WS.sel [2, 1, 0] hl ?_
    iterate 2 refine fst1_ok X (dk rfl) rfl ?_
    refine br_ok X (dk rfl) rfl (show ((5 : Nat) : Int) + 29 = ((34 : Nat) : Int) from rfl) (fun c16 => ?_) (fun c17 => ?_)
    · refine fst1_ok X (dk rfl) rfl ?_
      exact reti_ok X hr hlk rfl (dk rfl) ⟨⟨_, rfl⟩, rfl⟩ (Nat.le_of_ble_eq_true rfl) (Nat.le_of_ble_eq_true rfl)
    · refine fst1_ok X (dk rfl) rfl ?_
      have hx18 := is_open (TI.rf I).1 gb3
      refine getf_ok X flX0_11 (dk rfl) hx18 rfl ?_
      refine fst1_ok X (dk rfl) rfl ?_
      have hx19 := is_open (TI.rf I).1 ga4
      refine aldx_ok X (by decide) (by decide) (dk rfl) hx19 tl5 tt6 ⟨_, (nat_lt (K := 8) (by omega) (by rw [show nI 8 = (Int8.ofInt 8).toInt32 by decide +kernel]; exact c17)), rfl⟩ (fun b20 tb21 => ?_)
      refine fst1_ok X (dk rfl) rfl ?_
      have hx22 := is_open (TI.rf I).1 gb9
      refine getf_ok X flX0_11 (dk rfl) hx22 rfl ?_
      refine fst1_ok X (dk rfl) rfl ?_
      have hx23 := is_open (TI.rf I).1 ga10
      refine aldx_ok X (by decide) (by decide) (dk rfl) hx23 tl11 tt12 ⟨_, (nat_lt (K := 8) (by omega) (by rw [show nI 8 = (Int8.ofInt 8).toInt32 by decide +kernel]; exact c17)), rfl⟩ (fun b24 tb25 => ?_)
      obtain ⟨hL27, q26, gb28, gl29⟩ := id tb21
      refine callVR_ok (ci := 7) (T := TX5) (N := 3) (av := [.ref _]) (r := []) X E (c5_isLike _ (TI.rf I).1 tb21 tb25) lkX5_isLike mlX0_74 lmX5_isLike lpX5_isLike ⟨Nat.le_of_ble_eq_true rfl, Nat.le_of_ble_eq_true rfl⟩ ⟨Nat.le_of_ble_eq_true rfl, Nat.le_of_ble_eq_true rfl⟩ rfl (tm_cell (TI.rf I).1 gb28) (Nat.le_of_ble_eq_true rfl) (dk rfl) ?_
      rintro _ ⟨b30, rfl⟩
      refine br_ok X (dk rfl) rfl (show ((23 : Nat) : Int) + 5 = ((28 : Nat) : Int) from rfl) (fun c31 => ?_) (fun c32 => ?_)
      · refine fst1_ok X (dk rfl) rfl ?_
        refine br_ok X (dk rfl) rfl (show ((31 : Nat) : Int) + (-29) = ((2 : Nat) : Int) from rfl) (fun _ => ?_) (fun q => absurd trivial q)
        exact ih2 (nat_lt (K := 8) (by omega) (by rw [show nI 8 = (Int8.ofInt 8).toInt32 by decide +kernel]; exact c17)) _ (by rw [← vI_succ j13]; rfl)
      · refine fst1_ok X (dk rfl) rfl ?_
        exact reti_ok X hr hlk rfl (dk rfl) ⟨⟨_, rfl⟩, rfl⟩ (Nat.le_of_ble_eq_true rfl) (Nat.le_of_ble_eq_true rfl)
  iterate 2 refine fst1_ok X (dk rfl) rfl ?_
  exact L2 0 (by omega) _ rfl
set_option maxHeartbeats 4000000 in
theorem FZ.c0_renamesOnly (h : AH) (I : Tyg Γ h) {o0 : Nat} {w0 : Bool} (T0 : AnsG w0 Γ o0) : CT la D cA B0 pa yX0_renamesOnly cX0_renamesOnly 6 (some .boolean) (rmD 3 0 0) [.ref o0] h (RdO bP h) := by
  refine CT_of (by decide +kernel) (Nat.le_of_ble_eq_true rfl) ?_
  intro p e s m args below meth c X E hr hlk hnm
  have dk : ∀ {pc : Nat} {q : Instr × Nat}, lkd DX0_renamesOnly pc = some q → decode cX0_renamesOnly pc = .ok q := lkd_ok DX0_renamesOnly_ok
  obtain ⟨ar1, ts2, gb3, ga4, tl5, tt6⟩ := id T0
  have L13 : ∀ j7 : Nat, j7 ≤ 8 → ∀ (y10 : Int32) (l : List (Nat × Value)), lsel l [4, 3, 2, 1] = [(4, vI j7), (3, vI 8), (2, .ref ar1), (1, .int (y10))] → WR p la e (rmD 3 0 0) s m args below meth c D cA B0 6 (RdO bP h) 13 l [] h 0 0 := by
    refine loopN (fun j7 hj7 ih13 => ?_)
    intro y10 l hl
    refine WS.sel [4, 3, 2, 1] hl ?_
    iterate 2 refine fst1_ok X (dk rfl) rfl ?_
    refine br_ok X (dk rfl) rfl (show ((16 : Nat) : Int) + 32 = ((48 : Nat) : Int) from rfl) (fun c11 => ?_) (fun c12 => ?_)
    · refine fst1_ok X (dk rfl) rfl ?_
      refine callSR_ok (av := [.int _]) (r := []) X E (c_bitCount _ _) lkJ6_bitCount_0f7a4 mlX0_48 lsJ6_bitCount_0f7a4 ⟨Nat.le_of_ble_eq_true rfl, Nat.le_of_ble_eq_true rfl⟩ ⟨Nat.le_of_ble_eq_true rfl, Nat.le_of_ble_eq_true rfl⟩ (Nat.le_of_ble_eq_true rfl) (dk rfl) ?_
      rintro _ rfl
      refine fst1_ok X (dk rfl) rfl ?_
      refine br_ok X (dk rfl) rfl (show ((54 : Nat) : Int) + 7 = ((61 : Nat) : Int) from rfl) (fun c13 => ?_) (fun c14 => ?_)
      · refine fst1_ok X (dk rfl) rfl ?_
        exact reti_ok X hr hlk (bI_n false) (dk rfl) ⟨⟨false, rfl⟩, rfl⟩ (Nat.le_of_ble_eq_true rfl) (Nat.le_of_ble_eq_true rfl)
      · refine fst1_ok X (dk rfl) rfl ?_
        refine br_ok X (dk rfl) rfl (show ((58 : Nat) : Int) + 4 = ((62 : Nat) : Int) from rfl) (fun _ => ?_) (fun q => absurd trivial q)
        exact reti_ok X hr hlk (bI_n true) (dk rfl) ⟨⟨true, rfl⟩, rfl⟩ (Nat.le_of_ble_eq_true rfl) (Nat.le_of_ble_eq_true rfl)
    · iterate 2 refine fst1_ok X (dk rfl) rfl ?_
      have hx15 := is_open (TI.rf I).1 ga4
      refine aldx_ok X (by decide) (by decide) (dk rfl) hx15 tl5 tt6 ⟨_, (nat_lt (K := 8) (by omega) c12), rfl⟩ (fun b16 tb17 => ?_)
      iterate 2 refine fst1_ok X (dk rfl) rfl ?_
      obtain ⟨hL19, q18, gb20, gl21⟩ := id tb17
      refine callVR_ok (ci := 7) (T := TX5) (N := 3) (av := []) (r := []) X E (c5_length _ (TI.rf I).1 tb17) lkX5_length mlX0_34 lmX5_length lpX5_length ⟨Nat.le_of_ble_eq_true rfl, Nat.le_of_ble_eq_true rfl⟩ ⟨Nat.le_of_ble_eq_true rfl, Nat.le_of_ble_eq_true rfl⟩ rfl (tm_cell (TI.rf I).1 gb20) (Nat.le_of_ble_eq_true rfl) (dk rfl) ?_
      rintro _ ⟨n22, hn23, rfl⟩
      refine fst1_ok X (dk rfl) rfl ?_
      refine br_ok X (dk rfl) rfl (show ((31 : Nat) : Int) + 11 = ((42 : Nat) : Int) from rfl) (fun c24 => ?_) (fun c25 => ?_)
      · refine fst1_ok X (dk rfl) rfl ?_
        refine br_ok X (dk rfl) rfl (show ((45 : Nat) : Int) + (-32) = ((13 : Nat) : Int) from rfl) (fun _ => ?_) (fun q => absurd trivial q)
        exact ih13 (nat_lt (K := 8) (by omega) c12) _ _ (by rw [← vI_succ j7]; rfl)
      · iterate 2 refine fst1_ok X (dk rfl) rfl ?_
        refine callVR_ok (ci := 7) (T := TX5) (N := 3) (av := []) (r := [_]) X E (c5_allNames _ (TI.rf I).1 tb17) lkX5_allNames mlX0_78 lmX5_allNames lpX5_allNames ⟨Nat.le_of_ble_eq_true rfl, Nat.le_of_ble_eq_true rfl⟩ ⟨Nat.le_of_ble_eq_true rfl, Nat.le_of_ble_eq_true rfl⟩ rfl (tm_cell (TI.rf I).1 gb20) (Nat.le_of_ble_eq_true rfl) (dk rfl) ?_
        rintro _ ⟨x26, rfl⟩
        iterate 3 refine fst1_ok X (dk rfl) rfl ?_
        refine br_ok X (dk rfl) rfl (show ((45 : Nat) : Int) + (-32) = ((13 : Nat) : Int) from rfl) (fun _ => ?_) (fun q => absurd trivial q)
        exact ih13 (nat_lt (K := 8) (by omega) c12) _ _ (by rw [← vI_succ j7]; rfl)
  iterate 3 refine fst1_ok X (dk rfl) rfl ?_
  have hx27 := is_open (TI.rf I).1 gb3
  refine getf_ok X flX0_11 (dk rfl) hx27 rfl ?_
  iterate 2 refine fst1_ok X (dk rfl) rfl ?_
  have hx28 := is_open (TI.rf I).1 ga4
  refine alenr_ok X (by decide) (dk rfl) hx28 tl5 ?_
  iterate 3 refine fst1_ok X (dk rfl) rfl ?_
  exact L13 0 (by omega) _ _ rfl
set_option maxHeartbeats 4000000 in
theorem FZ.c0_tellUntoldOfThemselves (h : AH) (I : Tyg Γ h) {o0 : Nat} (T0 : AnsG true Γ o0) : CT la D cA B0 pa yX0_tellUntoldOfThemselves cX0_tellUntoldOfThemselves 2 none (rmD 2 0 0) [.ref o0] h (WrO Γ voidP h) := by
  refine CT_of (by decide +kernel) (Nat.le_of_ble_eq_true rfl) ?_
  intro p e s m args below meth c X E hr hlk hnm
  have dk : ∀ {pc : Nat} {q : Instr × Nat}, lkd DX0_tellUntoldOfThemselves pc = some q → decode cX0_tellUntoldOfThemselves pc = .ok q := lkd_ok DX0_tellUntoldOfThemselves_ok
  obtain ⟨ar1, ts2, gb3, ga4, tl5, tt6⟩ := id T0
  have L2 : ∀ j7 : Nat, j7 ≤ 8 → ∀ (h9 : AH) (J10 : TI Γ h h9) (l : List (Nat × Value)), lsel l [1, 0] = [(1, vI j7), (0, .ref o0)] → WR p la e (rmD 2 0 0) s m args below meth c D cA B0 2 (WrO Γ voidP h) 2 l [] h9 0 0 := by
    refine loopN (fun j7 hj7 ih2 => ?_)
    intro h9 J10 l hl
    refine WS.sel [1, 0] hl ?_
    iterate 2 refine fst1_ok X (dk rfl) rfl ?_
    refine br_ok X (dk rfl) rfl (show ((5 : Nat) : Int) + 31 = ((36 : Nat) : Int) from rfl) (fun c11 => ?_) (fun c12 => ?_)
    · exact retv_ok X hr hlk (dk rfl) ⟨rfl, J10⟩ (Nat.le_of_ble_eq_true rfl) (Nat.le_of_ble_eq_true rfl)
    · refine fst1_ok X (dk rfl) rfl ?_
      have hx13 := is_open J10.1 gb3
      refine getf_ok X flX0_11 (dk rfl) hx13 rfl ?_
      refine fst1_ok X (dk rfl) rfl ?_
      have hx14 := is_open J10.1 ga4
      refine aldx_ok X (by decide) (by decide) (dk rfl) hx14 tl5 tt6 ⟨_, (nat_lt (K := 8) (by omega) (by rw [show nI 8 = (Int8.ofInt 8).toInt32 by decide +kernel]; exact c12)), rfl⟩ (fun b15 tb16 => ?_)
      obtain ⟨hL18, q17, gb19, gl20⟩ := id tb16
      refine callVR_ok (ci := 7) (T := TX5) (N := 3) (av := []) (r := []) X E (c5_length _ J10.1 tb16) lkX5_length mlX0_34 lmX5_length lpX5_length ⟨Nat.le_of_ble_eq_true rfl, Nat.le_of_ble_eq_true rfl⟩ ⟨Nat.le_of_ble_eq_true rfl, Nat.le_of_ble_eq_true rfl⟩ rfl (tm_cell J10.1 gb19) (Nat.le_of_ble_eq_true rfl) (dk rfl) ?_
      rintro _ ⟨n21, hn22, rfl⟩
      refine br_ok X (dk rfl) rfl (show ((17 : Nat) : Int) + 13 = ((30 : Nat) : Int) from rfl) (fun c23 => ?_) (fun c24 => ?_)
      · refine fst1_ok X (dk rfl) rfl ?_
        refine br_ok X (dk rfl) rfl (show ((33 : Nat) : Int) + (-31) = ((2 : Nat) : Int) from rfl) (fun _ => ?_) (fun q => absurd trivial q)
        exact ih2 (nat_lt (K := 8) (by omega) (by rw [show nI 8 = (Int8.ofInt 8).toInt32 by decide +kernel]; exact c12)) h9 J10 _ (by rw [← vI_succ j7]; rfl)
      · refine fst1_ok X (dk rfl) rfl ?_
        refine getf_ok X flX0_11 (dk rfl) hx13 rfl ?_
        refine fst1_ok X (dk rfl) rfl ?_
        refine aldx_ok X (by decide) (by decide) (dk rfl) hx14 tl5 tt6 ⟨_, (nat_lt (K := 8) (by omega) (by rw [show nI 8 = (Int8.ofInt 8).toInt32 by decide +kernel]; exact c12)), rfl⟩ (fun b25 tb26 => ?_)
        refine fst1_ok X (dk rfl) rfl ?_
        obtain ⟨hL28, q27, gb29, gl30⟩ := id tb26
        refine callVW_ok (ci := 7) (T := TX5) (N := 3) (av := [.int _]) (r := []) X E J10 (c5_becomeName _ J10.1 tb26 _ (LR_nI (by omega))) lkX5_becomeName mlX0_20 lmX5_becomeName lpX5_becomeName ⟨Nat.le_of_ble_eq_true rfl, Nat.le_of_ble_eq_true rfl⟩ ⟨Nat.le_of_ble_eq_true rfl, Nat.le_of_ble_eq_true rfl⟩ rfl (tm_cell J10.1 gb29) (Nat.le_of_ble_eq_true rfl) (dk rfl) ?_
        rintro _ h31 rfl J32
        refine fst1_ok X (dk rfl) rfl ?_
        refine br_ok X (dk rfl) rfl (show ((33 : Nat) : Int) + (-31) = ((2 : Nat) : Int) from rfl) (fun _ => ?_) (fun q => absurd trivial q)
        exact ih2 (nat_lt (K := 8) (by omega) (by rw [show nI 8 = (Int8.ofInt 8).toInt32 by decide +kernel]; exact c12)) h31 J32 _ (by rw [← vI_succ j7]; rfl)
  iterate 2 refine fst1_ok X (dk rfl) rfl ?_
  exact L2 0 (by omega) h (TI.rf I) _ rfl
set_option maxHeartbeats 4000000 in
theorem FZ.c0_becomeMatch (h : AH) (I : Tyg Γ h) {o0 : Nat} (T0 : AnsG true Γ o0) {o1 L1 : Nat} {w1 : Bool} (T1 : TermG w1 Γ o1 L1) {o2 L2 : Nat} {w2 : Bool} (T2 : TermG w2 Γ o2 L2) : CT la D cA B0 pa yX0_becomeMatch cX0_becomeMatch 7 (some .boolean) (rmD 3 0 0) [.ref o0, .ref o1, .ref o2] h (WrO Γ bP h) := by
  refine CT_of (by decide +kernel) (Nat.le_of_ble_eq_true rfl) ?_
  intro p e s m args below meth c X E hr hlk hnm
  have dk : ∀ {pc : Nat} {q : Instr × Nat}, lkd DX0_becomeMatch pc = some q → decode cX0_becomeMatch pc = .ok q := lkd_ok DX0_becomeMatch_ok
  obtain ⟨ar1, ts2, gb3, ga4, tl5, tt6⟩ := id T0
  obtain ⟨hL8, q7, gb9, gl10⟩ := id T1
  obtain ⟨hL12, q11, gb13, gl14⟩ := id T2
  have L154 : ∀ (y15 : Bool) (h17 : AH) (J18 : TI Γ h h17) (l : List (Nat × Value)), lsel l [4, 0] = [(4, .int (bI y15)), (0, .ref o0)] → WR p la e (rmD 3 0 0) s m args below meth c D cA B0 7 (WrO Γ bP h) 154 l [] h17 0 0 := by
    intro y15 h17 J18 l hl
    refine WS.sel [4, 0] hl ?_
    refine fst1_ok X (dk rfl) rfl ?_
    refine callVW_ok (ci := 2) (T := TX0) (N := 1) (av := []) (r := []) X E J18 (c0_tellUntoldOfThemselves _ J18.1 T0) lkX0_tellUntoldOfThemselves mlX0_92 lmX0_tellUntoldOfThemselves lpX0_tellUntoldOfThemselves ⟨Nat.le_of_ble_eq_true rfl, Nat.le_of_ble_eq_true rfl⟩ ⟨Nat.le_of_ble_eq_true rfl, Nat.le_of_ble_eq_true rfl⟩ rfl (is_cell J18.1 gb3) (Nat.le_of_ble_eq_true rfl) (dk rfl) ?_
    rintro _ h19 rfl J20
    refine fst1_ok X (dk rfl) rfl ?_
    exact reti_ok X hr hlk (bI_n y15) (dk rfl) ⟨⟨y15, rfl⟩, J20⟩ (Nat.le_of_ble_eq_true rfl) (Nat.le_of_ble_eq_true rfl)
  have L44 : ∀ j21 : Int32, ∀ (y22 : Bool) (y23 : Int32) (h27 : AH) (J28 : TI Γ h h27) (l : List (Nat × Value)), lsel l [5, 4, 3, 2, 1, 0] = [(5, .int (j21)), (4, .int (bI y22)), (3, .int (y23)), (2, .ref o2), (1, .ref o1), (0, .ref o0)] → WR p la e (rmD 3 0 0) s m args below meth c D cA B0 7 (WrO Γ bP h) 44 l [] h27 0 0 := by
    refine loopUp (fun j21 ih44 => ?_)
    intro y22 y23 h27 J28 l hl
    refine WS.sel [5, 4, 3, 2, 1, 0] hl ?_
    iterate 2 refine fst1_ok X (dk rfl) rfl ?_
    refine callVR_ok (ci := 7) (T := TX5) (N := 3) (av := []) (r := [_]) X E (c5_length _ J28.1 T1) lkX5_length mlX0_34 lmX5_length lpX5_length ⟨Nat.le_of_ble_eq_true rfl, Nat.le_of_ble_eq_true rfl⟩ ⟨Nat.le_of_ble_eq_true rfl, Nat.le_of_ble_eq_true rfl⟩ rfl (tm_cell J28.1 gb9) (Nat.le_of_ble_eq_true rfl) (dk rfl) ?_
    rintro _ ⟨n29, hn30, rfl⟩
    refine br_ok X (dk rfl) rfl (show ((50 : Nat) : Int) + 104 = ((154 : Nat) : Int) from rfl) (fun c31 => ?_) (fun c32 => ?_)
    · exact L154 y22 h27 J28 _ rfl
    · refine fst1_ok X (dk rfl) rfl ?_
      refine br_ok X (dk rfl) rfl (show ((55 : Nat) : Int) + 99 = ((154 : Nat) : Int) from rfl) (fun c33 => ?_) (fun c34 => ?_)
      · exact L154 y22 h27 J28 _ rfl
      · iterate 2 refine fst1_ok X (dk rfl) rfl ?_
        refine callVR_ok (ci := 7) (T := TX5) (N := 3) (av := [.int _]) (r := []) X E (c5_letterAt _ J28.1 T1 _) lkX5_letterAt mlX0_38 lmX5_letterAt lpX5_letterAt ⟨Nat.le_of_ble_eq_true rfl, Nat.le_of_ble_eq_true rfl⟩ ⟨Nat.le_of_ble_eq_true rfl, Nat.le_of_ble_eq_true rfl⟩ rfl (tm_cell J28.1 gb9) (Nat.le_of_ble_eq_true rfl) (dk rfl) ?_
        rintro _ ⟨x35, hx36, rfl⟩
        iterate 2 refine fst1_ok X (dk rfl) rfl ?_
        refine callNR_ok (av := [.int _]) (r := []) X E (c6_isName _ J28.1 _) lkX6_isName mnX0_23 lsX6_isName ⟨Nat.le_of_ble_eq_true rfl, Nat.le_of_ble_eq_true rfl⟩ ⟨Nat.le_of_ble_eq_true rfl, Nat.le_of_ble_eq_true rfl⟩ (Nat.le_of_ble_eq_true rfl) (dk rfl) ?_
        rintro _ ⟨b37, rfl, hb38, hn39⟩
        refine br_ok X (dk rfl) rfl (show ((71 : Nat) : Int) + 57 = ((128 : Nat) : Int) from rfl) (fun c40 => ?_) (fun c41 => ?_)
        · iterate 3 refine fst1_ok X (dk rfl) rfl ?_
          refine callVR_ok (ci := 7) (T := TX5) (N := 3) (av := [.int _]) (r := [_]) X E (c5_letterAt _ J28.1 T2 _) lkX5_letterAt mlX0_38 lmX5_letterAt lpX5_letterAt ⟨Nat.le_of_ble_eq_true rfl, Nat.le_of_ble_eq_true rfl⟩ ⟨Nat.le_of_ble_eq_true rfl, Nat.le_of_ble_eq_true rfl⟩ rfl (tm_cell J28.1 gb13) (Nat.le_of_ble_eq_true rfl) (dk rfl) ?_
          rintro _ ⟨x42, hx43, rfl⟩
          refine br_ok X (dk rfl) rfl (show ((135 : Nat) : Int) + 7 = ((142 : Nat) : Int) from rfl) (fun c44 => ?_) (fun c45 => ?_)
          · iterate 4 refine fst1_ok X (dk rfl) rfl ?_
            refine br_ok X (dk rfl) rfl (show ((151 : Nat) : Int) + (-107) = ((44 : Nat) : Int) from rfl) (fun _ => ?_) (fun q => absurd trivial q)
            exact ih44 _ (nlt_of c32) false _ h27 J28 _ rfl
          · refine fst1_ok X (dk rfl) rfl ?_
            refine br_ok X (dk rfl) rfl (show ((139 : Nat) : Int) + 4 = ((143 : Nat) : Int) from rfl) (fun _ => ?_) (fun q => absurd trivial q)
            iterate 3 refine fst1_ok X (dk rfl) rfl ?_
            refine br_ok X (dk rfl) rfl (show ((151 : Nat) : Int) + (-107) = ((44 : Nat) : Int) from rfl) (fun _ => ?_) (fun q => absurd trivial q)
            exact ih44 _ (nlt_of c32) true _ h27 J28 _ rfl
        · refine fst1_ok X (dk rfl) rfl ?_
          have hx46 := is_open J28.1 gb3
          refine getf_ok X flX0_11 (dk rfl) hx46 rfl ?_
          refine fst1_ok X (dk rfl) rfl ?_
          have hx47 := is_open J28.1 ga4
          refine aldx_ok X (by decide) (by decide) (dk rfl) hx47 tl5 tt6 (hb38 (bI_nz c41)) (fun b48 tb49 => ?_)
          obtain ⟨hL51, q50, gb52, gl53⟩ := id tb49
          refine callVR_ok (ci := 7) (T := TX5) (N := 3) (av := []) (r := []) X E (c5_length _ J28.1 tb49) lkX5_length mlX0_34 lmX5_length lpX5_length ⟨Nat.le_of_ble_eq_true rfl, Nat.le_of_ble_eq_true rfl⟩ ⟨Nat.le_of_ble_eq_true rfl, Nat.le_of_ble_eq_true rfl⟩ rfl (tm_cell J28.1 gb52) (Nat.le_of_ble_eq_true rfl) (dk rfl) ?_
          rintro _ ⟨n54, hn55, rfl⟩
          refine br_ok X (dk rfl) rfl (show ((84 : Nat) : Int) + 20 = ((104 : Nat) : Int) from rfl) (fun c56 => ?_) (fun c57 => ?_)
          · refine fst1_ok X (dk rfl) rfl ?_
            refine getf_ok X flX0_11 (dk rfl) hx46 rfl ?_
            refine fst1_ok X (dk rfl) rfl ?_
            refine aldx_ok X (by decide) (by decide) (dk rfl) hx47 tl5 tt6 (hb38 (bI_nz c41)) (fun b58 tb59 => ?_)
            iterate 3 refine fst1_ok X (dk rfl) rfl ?_
            obtain ⟨hL61, q60, gb62, gl63⟩ := id tb59
            refine callVR_ok (ci := 7) (T := TX5) (N := 3) (av := [.int _, .ref _, .int _]) (r := []) X E (c5_isLikeAt _ J28.1 tb59 _ T2 _) lkX5_isLikeAt mlX0_88 lmX5_isLikeAt lpX5_isLikeAt ⟨Nat.le_of_ble_eq_true rfl, Nat.le_of_ble_eq_true rfl⟩ ⟨Nat.le_of_ble_eq_true rfl, Nat.le_of_ble_eq_true rfl⟩ rfl (tm_cell J28.1 gb62) (Nat.le_of_ble_eq_true rfl) (dk rfl) ?_
            rintro _ ⟨b64, rfl⟩
            iterate 3 refine fst1_ok X (dk rfl) rfl ?_
            refine callVR_ok (ci := 7) (T := TX5) (N := 3) (av := [.int _]) (r := []) X E (c5_endOf _ J28.1 T2 _) lkX5_endOf mlX0_81 lmX5_endOf lpX5_endOf ⟨Nat.le_of_ble_eq_true rfl, Nat.le_of_ble_eq_true rfl⟩ ⟨Nat.le_of_ble_eq_true rfl, Nat.le_of_ble_eq_true rfl⟩ rfl (tm_cell J28.1 gb13) (Nat.le_of_ble_eq_true rfl) (dk rfl) ?_
            rintro _ ⟨x65, rfl⟩
            refine fst1_ok X (dk rfl) rfl ?_
            refine br_ok X (dk rfl) rfl (show ((125 : Nat) : Int) + 23 = ((148 : Nat) : Int) from rfl) (fun _ => ?_) (fun q => absurd trivial q)
            refine fst1_ok X (dk rfl) rfl ?_
            refine br_ok X (dk rfl) rfl (show ((151 : Nat) : Int) + (-107) = ((44 : Nat) : Int) from rfl) (fun _ => ?_) (fun q => absurd trivial q)
            exact ih44 _ (nlt_of c32) b64 _ h27 J28 _ rfl
          · refine fst1_ok X (dk rfl) rfl ?_
            refine getf_ok X flX0_11 (dk rfl) hx46 rfl ?_
            refine fst1_ok X (dk rfl) rfl ?_
            refine aldx_ok X (by decide) (by decide) (dk rfl) hx47 tl5 tt6 (hb38 (bI_nz c41)) (fun b66 tb67 => ?_)
            iterate 4 refine fst1_ok X (dk rfl) rfl ?_
            refine callVR_ok (ci := 7) (T := TX5) (N := 3) (av := [.int _]) (r := [_, _, _]) X E (c5_endOf _ J28.1 T2 _) lkX5_endOf mlX0_81 lmX5_endOf lpX5_endOf ⟨Nat.le_of_ble_eq_true rfl, Nat.le_of_ble_eq_true rfl⟩ ⟨Nat.le_of_ble_eq_true rfl, Nat.le_of_ble_eq_true rfl⟩ rfl (tm_cell J28.1 gb13) (Nat.le_of_ble_eq_true rfl) (dk rfl) ?_
            rintro _ ⟨x68, rfl⟩
            obtain ⟨hL70, q69, gb71, gl72⟩ := id tb67
            refine callVW_ok (ci := 7) (T := TX5) (N := 3) (av := [.ref _, .int _, .int _]) (r := []) X E J28 (c5_addRow _ J28.1 tb67 T2 _ _) lkX5_addRow mlX0_84 lmX5_addRow lpX5_addRow ⟨Nat.le_of_ble_eq_true rfl, Nat.le_of_ble_eq_true rfl⟩ ⟨Nat.le_of_ble_eq_true rfl, Nat.le_of_ble_eq_true rfl⟩ rfl (tm_cell J28.1 gb71) (Nat.le_of_ble_eq_true rfl) (dk rfl) ?_
            rintro _ h73 rfl J74
            refine fst1_ok X (dk rfl) rfl ?_
            have hx75 := is_open J74.1 gb3
            refine getf_ok X flX0_11 (dk rfl) hx75 rfl ?_
            refine fst1_ok X (dk rfl) rfl ?_
            have hx76 := is_open J74.1 ga4
            refine aldx_ok X (by decide) (by decide) (dk rfl) hx76 tl5 tt6 (hb38 (bI_nz c41)) (fun b77 tb78 => ?_)
            iterate 3 refine fst1_ok X (dk rfl) rfl ?_
            obtain ⟨hL80, q79, gb81, gl82⟩ := id tb78
            refine callVR_ok (ci := 7) (T := TX5) (N := 3) (av := [.int _, .ref _, .int _]) (r := []) X E (c5_isLikeAt _ J74.1 tb78 _ T2 _) lkX5_isLikeAt mlX0_88 lmX5_isLikeAt lpX5_isLikeAt ⟨Nat.le_of_ble_eq_true rfl, Nat.le_of_ble_eq_true rfl⟩ ⟨Nat.le_of_ble_eq_true rfl, Nat.le_of_ble_eq_true rfl⟩ rfl (tm_cell J74.1 gb81) (Nat.le_of_ble_eq_true rfl) (dk rfl) ?_
            rintro _ ⟨b83, rfl⟩
            iterate 3 refine fst1_ok X (dk rfl) rfl ?_
            refine callVR_ok (ci := 7) (T := TX5) (N := 3) (av := [.int _]) (r := []) X E (c5_endOf _ J74.1 T2 _) lkX5_endOf mlX0_81 lmX5_endOf lpX5_endOf ⟨Nat.le_of_ble_eq_true rfl, Nat.le_of_ble_eq_true rfl⟩ ⟨Nat.le_of_ble_eq_true rfl, Nat.le_of_ble_eq_true rfl⟩ rfl (tm_cell J74.1 gb13) (Nat.le_of_ble_eq_true rfl) (dk rfl) ?_
            rintro _ ⟨x84, rfl⟩
            refine fst1_ok X (dk rfl) rfl ?_
            refine br_ok X (dk rfl) rfl (show ((125 : Nat) : Int) + 23 = ((148 : Nat) : Int) from rfl) (fun _ => ?_) (fun q => absurd trivial q)
            refine fst1_ok X (dk rfl) rfl ?_
            refine br_ok X (dk rfl) rfl (show ((151 : Nat) : Int) + (-107) = ((44 : Nat) : Int) from rfl) (fun _ => ?_) (fun q => absurd trivial q)
            exact ih44 _ (nlt_of c32) b83 _ h73 J74 _ rfl
  have L12 : ∀ j85 : Nat, j85 ≤ 8 → ∀ (h91 : AH) (J92 : TI Γ h h91) (l : List (Nat × Value)), lsel l [5, 4, 3, 2, 1, 0] = [(5, vI j85), (4, vI 8), (3, .ref ar1), (2, .ref o2), (1, .ref o1), (0, .ref o0)] → WR p la e (rmD 3 0 0) s m args below meth c D cA B0 7 (WrO Γ bP h) 12 l [] h91 0 0 := by
    refine loopN (fun j85 hj85 ih12 => ?_)
    intro h91 J92 l hl
    refine WS.sel [5, 4, 3, 2, 1, 0] hl ?_
    iterate 2 refine fst1_ok X (dk rfl) rfl ?_
    refine br_ok X (dk rfl) rfl (show ((16 : Nat) : Int) + 20 = ((36 : Nat) : Int) from rfl) (fun c93 => ?_) (fun c94 => ?_)
    · iterate 6 refine fst1_ok X (dk rfl) rfl ?_
      exact L44 _ true _ h91 J92 _ rfl
    · iterate 2 refine fst1_ok X (dk rfl) rfl ?_
      have hx95 := is_open J92.1 ga4
      refine aldx_ok X (by decide) (by decide) (dk rfl) hx95 tl5 tt6 ⟨_, (nat_lt (K := 8) (by omega) c94), rfl⟩ (fun b96 tb97 => ?_)
      iterate 2 refine fst1_ok X (dk rfl) rfl ?_
      obtain ⟨hL99, q98, gb100, gl101⟩ := id tb97
      refine callVW_ok (ci := 7) (T := TX5) (N := 3) (av := []) (r := []) X E J92 (c5_empty _ J92.1 tb97) lkX5_empty mlX0_57 lmX5_empty lpX5_empty ⟨Nat.le_of_ble_eq_true rfl, Nat.le_of_ble_eq_true rfl⟩ ⟨Nat.le_of_ble_eq_true rfl, Nat.le_of_ble_eq_true rfl⟩ rfl (tm_cell J92.1 gb100) (Nat.le_of_ble_eq_true rfl) (dk rfl) ?_
      rintro _ h102 rfl J103
      refine fst1_ok X (dk rfl) rfl ?_
      refine br_ok X (dk rfl) rfl (show ((33 : Nat) : Int) + (-21) = ((12 : Nat) : Int) from rfl) (fun _ => ?_) (fun q => absurd trivial q)
      exact ih12 (nat_lt (K := 8) (by omega) c94) h102 J103 _ (by rw [← vI_succ j85]; rfl)
  refine fst1_ok X (dk rfl) rfl ?_
  have hx104 := is_open (TI.rf I).1 gb3
  refine getf_ok X flX0_11 (dk rfl) hx104 rfl ?_
  iterate 2 refine fst1_ok X (dk rfl) rfl ?_
  have hx105 := is_open (TI.rf I).1 ga4
  refine alenr_ok X (by decide) (dk rfl) hx105 tl5 ?_
  iterate 3 refine fst1_ok X (dk rfl) rfl ?_
  exact L12 0 (by omega) h (TI.rf I) _ rfl
set_option maxHeartbeats 4000000 in
theorem FZ.c0_becomeWholeOf (h : AH) (I : Tyg Γ h) {o0 : Nat} (T0 : AnsG true Γ o0) {o1 L1 : Nat} {w1 : Bool} (T1 : TermG w1 Γ o1 L1) {o2 : Nat} (T2 : Γ o2 = some (rowφ 8)) : CT la D cA B0 pa yX0_becomeWholeOf cX0_becomeWholeOf 8 none (rmD 3 0 0) [.ref o0, .ref o1, .ref o2] h (WrO Γ voidP h) := by
  refine CT_of (by decide +kernel) (Nat.le_of_ble_eq_true rfl) ?_
  intro p e s m args below meth c X E hr hlk hnm
  have dk : ∀ {pc : Nat} {q : Instr × Nat}, lkd DX0_becomeWholeOf pc = some q → decode cX0_becomeWholeOf pc = .ok q := lkd_ok DX0_becomeWholeOf_ok
  obtain ⟨ar1, ts2, gb3, ga4, tl5, tt6⟩ := id T0
  obtain ⟨hL8, q7, gb9, gl10⟩ := id T1
  have L5 : ∀ j11 : Int32, ∀ (y12 : Int32) (h16 : AH) (J17 : TI Γ h h16) (l : List (Nat × Value)), lsel l [4, 3, 2, 1, 0] = [(4, .int (j11)), (3, .int (y12)), (2, .ref o2), (1, .ref o1), (0, .ref o0)] → WR p la e (rmD 3 0 0) s m args below meth c D cA B0 8 (WrO Γ voidP h) 5 l [] h16 0 0 := by
    refine loopUp (fun j11 ih5 => ?_)
    intro y12 h16 J17 l hl
    refine WS.sel [4, 3, 2, 1, 0] hl ?_
    iterate 2 refine fst1_ok X (dk rfl) rfl ?_
    refine br_ok X (dk rfl) rfl (show ((9 : Nat) : Int) + 131 = ((140 : Nat) : Int) from rfl) (fun c18 => ?_) (fun c19 => ?_)
    · exact retv_ok X hr hlk (dk rfl) ⟨rfl, J17⟩ (Nat.le_of_ble_eq_true rfl) (Nat.le_of_ble_eq_true rfl)
    · iterate 2 refine fst1_ok X (dk rfl) rfl ?_
      have L15 : ∀ j20 : Nat, j20 ≤ 8 → ∀ (y22 : Int32) (h26 : AH) (J27 : TI Γ h h26) (l : List (Nat × Value)), lsel l [5, 4, 3, 2, 1, 0] = [(5, vI j20), (4, .int (j11)), (3, .int (y22)), (2, .ref o2), (1, .ref o1), (0, .ref o0)] → WR p la e (rmD 3 0 0) s m args below meth c D cA B0 8 (WrO Γ voidP h) 15 l [] h26 0 0 := by
        refine loopN (fun j20 hj20 ih15 => ?_)
        intro y22 h26 J27 l hl
        refine WS.sel [5, 4, 3, 2, 1, 0] hl ?_
        iterate 2 refine fst1_ok X (dk rfl) rfl ?_
        refine br_ok X (dk rfl) rfl (show ((19 : Nat) : Int) + 115 = ((134 : Nat) : Int) from rfl) (fun c28 => ?_) (fun c29 => ?_)
        · refine fst1_ok X (dk rfl) rfl ?_
          refine br_ok X (dk rfl) rfl (show ((137 : Nat) : Int) + (-132) = ((5 : Nat) : Int) from rfl) (fun _ => ?_) (fun q => absurd trivial q)
          exact ih5 _ (nlt_of c19) _ h26 J27 _ rfl
        · iterate 2 refine fst1_ok X (dk rfl) rfl ?_
          obtain ⟨xs30, hx31, hn32⟩ := rw_open J27.1 T2
          refine alen7_ok X (dk rfl) hx31 hn32 ?_
          refine br_ok X (dk rfl) rfl (show ((26 : Nat) : Int) + 108 = ((134 : Nat) : Int) from rfl) (fun c33 => ?_) (fun c34 => ?_)
          · refine fst1_ok X (dk rfl) rfl ?_
            refine br_ok X (dk rfl) rfl (show ((137 : Nat) : Int) + (-132) = ((5 : Nat) : Int) from rfl) (fun _ => ?_) (fun q => absurd trivial q)
            exact ih5 _ (nlt_of c19) _ h26 J27 _ rfl
          · iterate 2 refine fst1_ok X (dk rfl) rfl ?_
            refine ald7_ok X (dk rfl) hx31 (nI_pos (by omega)) (by rw [hn32]; exact ix_ok (by omega) (nI_pos (by omega)) c34) (fun x35 hm36 => ?_)
            iterate 3 refine fst1_ok X (dk rfl) rfl ?_
            refine callVR_ok (ci := 7) (T := TX5) (N := 3) (av := [.int _]) (r := []) X E (c5_endOf _ J27.1 T1 _) lkX5_endOf mlX0_81 lmX5_endOf lpX5_endOf ⟨Nat.le_of_ble_eq_true rfl, Nat.le_of_ble_eq_true rfl⟩ ⟨Nat.le_of_ble_eq_true rfl, Nat.le_of_ble_eq_true rfl⟩ rfl (tm_cell J27.1 gb9) (Nat.le_of_ble_eq_true rfl) (dk rfl) ?_
            rintro _ ⟨x37, rfl⟩
            iterate 3 refine fst1_ok X (dk rfl) rfl ?_
            refine br_ok X (dk rfl) rfl (show ((46 : Nat) : Int) + 25 = ((71 : Nat) : Int) from rfl) (fun c38 => ?_) (fun c39 => ?_)
            · iterate 5 refine fst1_ok X (dk rfl) rfl ?_
              refine br_ok X (dk rfl) rfl (show ((77 : Nat) : Int) + 51 = ((128 : Nat) : Int) from rfl) (fun c40 => ?_) (fun c41 => ?_)
              · refine fst1_ok X (dk rfl) rfl ?_
                refine br_ok X (dk rfl) rfl (show ((131 : Nat) : Int) + (-116) = ((15 : Nat) : Int) from rfl) (fun _ => ?_) (fun q => absurd trivial q)
                exact ih15 (nat_lt (K := 8) (by omega) c34) _ h26 J27 _ (by rw [← vI_succ j20]; rfl)
              · iterate 3 refine fst1_ok X (dk rfl) rfl ?_
                refine callVR_ok (ci := 7) (T := TX5) (N := 3) (av := [.int _, .int _]) (r := []) X E (c5_namesIn _ J27.1 T1 _ _) lkX5_namesIn mlX0_95 lmX5_namesIn lpX5_namesIn ⟨Nat.le_of_ble_eq_true rfl, Nat.le_of_ble_eq_true rfl⟩ ⟨Nat.le_of_ble_eq_true rfl, Nat.le_of_ble_eq_true rfl⟩ rfl (tm_cell J27.1 gb9) (Nat.le_of_ble_eq_true rfl) (dk rfl) ?_
                rintro _ ⟨x42, rfl⟩
                iterate 4 refine fst1_ok X (dk rfl) rfl ?_
                refine br_ok X (dk rfl) rfl (show ((92 : Nat) : Int) + 36 = ((128 : Nat) : Int) from rfl) (fun c43 => ?_) (fun c44 => ?_)
                · refine fst1_ok X (dk rfl) rfl ?_
                  refine br_ok X (dk rfl) rfl (show ((131 : Nat) : Int) + (-116) = ((15 : Nat) : Int) from rfl) (fun _ => ?_) (fun q => absurd trivial q)
                  exact ih15 (nat_lt (K := 8) (by omega) c34) _ h26 J27 _ (by rw [← vI_succ j20]; rfl)
                · refine fst1_ok X (dk rfl) rfl ?_
                  have hx45 := is_open J27.1 gb3
                  refine getf_ok X flX0_11 (dk rfl) hx45 rfl ?_
                  refine fst1_ok X (dk rfl) rfl ?_
                  have hx46 := is_open J27.1 ga4
                  refine aldx_ok X (by decide) (by decide) (dk rfl) hx46 tl5 tt6 ⟨_, (nat_lt (K := 8) (by omega) c34), rfl⟩ (fun b47 tb48 => ?_)
                  obtain ⟨hL50, q49, gb51, gl52⟩ := id tb48
                  refine callVW_ok (ci := 7) (T := TX5) (N := 3) (av := []) (r := []) X E J27 (c5_empty _ J27.1 tb48) lkX5_empty mlX0_57 lmX5_empty lpX5_empty ⟨Nat.le_of_ble_eq_true rfl, Nat.le_of_ble_eq_true rfl⟩ ⟨Nat.le_of_ble_eq_true rfl, Nat.le_of_ble_eq_true rfl⟩ rfl (tm_cell J27.1 gb51) (Nat.le_of_ble_eq_true rfl) (dk rfl) ?_
                  rintro _ h53 rfl J54
                  iterate 5 refine fst1_ok X (dk rfl) rfl ?_
                  have hx55 := is_open J54.1 gb3
                  refine getf_ok X flX0_11 (dk rfl) hx55 rfl ?_
                  refine fst1_ok X (dk rfl) rfl ?_
                  have hx56 := is_open J54.1 ga4
                  refine aldx_ok X (by decide) (by decide) (dk rfl) hx56 tl5 tt6 ⟨_, (nat_lt (K := 8) (by omega) c34), rfl⟩ (fun b57 tb58 => ?_)
                  refine callVW_ok (ci := 2) (T := TX0) (N := 1) (av := [.ref _, .int _, .int _, .ref _]) (r := []) X E J54 (c0_addUsed _ J54.1 T0 T1 _ _ tb58) lkX0_addUsed mlX0_60 lmX0_addUsed lpX0_addUsed ⟨Nat.le_of_ble_eq_true rfl, Nat.le_of_ble_eq_true rfl⟩ ⟨Nat.le_of_ble_eq_true rfl, Nat.le_of_ble_eq_true rfl⟩ rfl (is_cell J54.1 gb3) (Nat.le_of_ble_eq_true rfl) (dk rfl) ?_
                  rintro _ h59 rfl J60
                  iterate 7 refine fst1_ok X (dk rfl) rfl ?_
                  refine br_ok X (dk rfl) rfl (show ((131 : Nat) : Int) + (-116) = ((15 : Nat) : Int) from rfl) (fun _ => ?_) (fun q => absurd trivial q)
                  exact ih15 (nat_lt (K := 8) (by omega) c34) _ h59 J60 _ (by rw [← vI_succ j20]; rfl)
            · refine fst1_ok X (dk rfl) rfl ?_
              have hx61 := is_open J27.1 gb3
              refine getf_ok X flX0_11 (dk rfl) hx61 rfl ?_
              refine fst1_ok X (dk rfl) rfl ?_
              have hx62 := is_open J27.1 ga4
              refine aldx_ok X (by decide) (by decide) (dk rfl) hx62 tl5 tt6 ⟨_, (nat_lt (K := 8) (by omega) c34), rfl⟩ (fun b63 tb64 => ?_)
              refine fst1_ok X (dk rfl) rfl ?_
              obtain ⟨hL66, q65, gb67, gl68⟩ := id tb64
              refine callVW_ok (ci := 7) (T := TX5) (N := 3) (av := [.int _]) (r := []) X E J27 (c5_becomeName _ J27.1 tb64 _ (LR_nI (by omega))) lkX5_becomeName mlX0_20 lmX5_becomeName lpX5_becomeName ⟨Nat.le_of_ble_eq_true rfl, Nat.le_of_ble_eq_true rfl⟩ ⟨Nat.le_of_ble_eq_true rfl, Nat.le_of_ble_eq_true rfl⟩ rfl (tm_cell J27.1 gb67) (Nat.le_of_ble_eq_true rfl) (dk rfl) ?_
              rintro _ h69 rfl J70
              iterate 6 refine fst1_ok X (dk rfl) rfl ?_
              refine br_ok X (dk rfl) rfl (show ((68 : Nat) : Int) + 60 = ((128 : Nat) : Int) from rfl) (fun _ => ?_) (fun q => absurd trivial q)
              refine fst1_ok X (dk rfl) rfl ?_
              refine br_ok X (dk rfl) rfl (show ((131 : Nat) : Int) + (-116) = ((15 : Nat) : Int) from rfl) (fun _ => ?_) (fun q => absurd trivial q)
              exact ih15 (nat_lt (K := 8) (by omega) c34) _ h69 J70 _ (by rw [← vI_succ j20]; rfl)
      exact L15 0 (by omega) _ h16 J17 _ rfl
  iterate 4 refine fst1_ok X (dk rfl) rfl ?_
  exact L5 _ _ h (TI.rf I) _ rfl
end M90
end Ud03f0
section Ud04f4
/-! the class, weakly, over types that keep contents: steps (printed by wip/p20/genFZ.py from wip/p40/cl4.py) -/
section M92
variable {la : Launch} {D : va_G} {cA : Nat → ClassId} {B0 pa : Nat} {Γ : TY}
set_option maxHeartbeats 4000000 in
theorem FZ.c4_stepsTaken (h : AH) (I : Tyg Γ h) {o0 : Nat} (T0 : StepsT Γ o0) : CT la D cA B0 pa yX4_stepsTaken cX4_stepsTaken 1 (some .int) (rmD 0 0 0) [.ref o0] h (RdO iP h) := by
  refine CT_of (by decide +kernel) (Nat.le_of_ble_eq_true rfl) ?_
  intro p e s m args below meth c X E hr hlk hnm
  have dk : ∀ {pc : Nat} {q : Instr × Nat}, lkd DX4_stepsTaken pc = some q → decode cX4_stepsTaken pc = .ok q := lkd_ok DX4_stepsTaken_ok
  obtain ⟨bo1, st2, pr3, gb4, tb5, gs6, tp7⟩ := id T0
  refine fst1_ok X (dk rfl) rfl ?_
  obtain ⟨t9, e10, hx8⟩ := st_open (TI.rf I).1 gb4
  refine getf_ok X flX4_52 (dk rfl) hx8 rfl ?_
  exact reti_ok X hr hlk rfl (dk rfl) ⟨⟨_, rfl⟩, rfl⟩ (Nat.le_of_ble_eq_true rfl) (Nat.le_of_ble_eq_true rfl)
set_option maxHeartbeats 4000000 in
theorem FZ.c4_howEnded (h : AH) (I : Tyg Γ h) {o0 : Nat} (T0 : StepsT Γ o0) : CT la D cA B0 pa yX4_howEnded cX4_howEnded 1 (some .int) (rmD 0 0 0) [.ref o0] h (RdO iP h) := by
  refine CT_of (by decide +kernel) (Nat.le_of_ble_eq_true rfl) ?_
  intro p e s m args below meth c X E hr hlk hnm
  have dk : ∀ {pc : Nat} {q : Instr × Nat}, lkd DX4_howEnded pc = some q → decode cX4_howEnded pc = .ok q := lkd_ok DX4_howEnded_ok
  obtain ⟨bo1, st2, pr3, gb4, tb5, gs6, tp7⟩ := id T0
  refine fst1_ok X (dk rfl) rfl ?_
  obtain ⟨t9, e10, hx8⟩ := st_open (TI.rf I).1 gb4
  refine getf_ok X flX4_56 (dk rfl) hx8 rfl ?_
  exact reti_ok X hr hlk rfl (dk rfl) ⟨⟨_, rfl⟩, rfl⟩ (Nat.le_of_ble_eq_true rfl) (Nat.le_of_ble_eq_true rfl)
set_option maxHeartbeats 4000000 in
theorem FZ.c4_tellInto (h : AH) (I : Tyg Γ h) {o0 : Nat} (T0 : StepsT Γ o0) {o1 : Nat} (T1 : AnsG true Γ o1) : CT la D cA B0 pa yX4_tellInto cX4_tellInto 2 none (rmD 4 0 0) [.ref o0, .ref o1] h (WrO Γ voidP h) := by
  refine CT_of (by decide +kernel) (Nat.le_of_ble_eq_true rfl) ?_
  intro p e s m args below meth c X E hr hlk hnm
  have dk : ∀ {pc : Nat} {q : Instr × Nat}, lkd DX4_tellInto pc = some q → decode cX4_tellInto pc = .ok q := lkd_ok DX4_tellInto_ok
  obtain ⟨bo1, st2, pr3, gb4, tb5, gs6, tp7⟩ := id T0
  obtain ⟨ar8, ts9, gb10, ga11, tl12, tt13⟩ := id T1
  iterate 2 refine fst1_ok X (dk rfl) rfl ?_
  obtain ⟨t15, e16, hx14⟩ := st_open (TI.rf I).1 gb4
  refine getf_ok X flX4_14 (dk rfl) hx14 rfl ?_
  refine fst1_ok X (dk rfl) rfl ?_
  refine getf_ok X flX4_20 (dk rfl) hx14 rfl ?_
  refine callVW_ok (ci := 2) (T := TX0) (N := 1) (av := [.ref _, .ref _]) (r := []) X E (TI.rf I) (c0_becomeWholeOf _ (TI.rf I).1 T1 tb5 gs6) lkX0_becomeWholeOf mlX4_64 lmX0_becomeWholeOf lpX0_becomeWholeOf ⟨Nat.le_of_ble_eq_true rfl, Nat.le_of_ble_eq_true rfl⟩ ⟨Nat.le_of_ble_eq_true rfl, Nat.le_of_ble_eq_true rfl⟩ rfl (is_cell (TI.rf I).1 gb10) (Nat.le_of_ble_eq_true rfl) (dk rfl) ?_
  rintro _ h17 rfl J18
  exact retv_ok X hr hlk (dk rfl) ⟨rfl, J18⟩ (Nat.le_of_ble_eq_true rfl) (Nat.le_of_ble_eq_true rfl)
set_option maxHeartbeats 4000000 in
theorem FZ.c4_lookedUp (h : AH) (I : Tyg Γ h) {o0 : Nat} (T0 : StepsT Γ o0) (x1 : Int32) : CT la D cA B0 pa yX4_lookedUp cX4_lookedUp 5 (some .int) (rmD 1 0 0) [.ref o0, .int (x1)] h (RdO iP h) := by
  refine CT_of (by decide +kernel) (Nat.le_of_ble_eq_true rfl) ?_
  intro p e s m args below meth c X E hr hlk hnm
  have dk : ∀ {pc : Nat} {q : Instr × Nat}, lkd DX4_lookedUp pc = some q → decode cX4_lookedUp pc = .ok q := lkd_ok DX4_lookedUp_ok
  obtain ⟨bo1, st2, pr3, gb4, tb5, gs6, tp7⟩ := id T0
  have L4 : ∀ j8 : Int32, ∀ (y9 : Int32) (l : List (Nat × Value)), lsel l [3, 2, 0] = [(3, .int (j8)), (2, .int (y9)), (0, .ref o0)] → WR p la e (rmD 1 0 0) s m args below meth c D cA B0 5 (RdO iP h) 4 l [] h 0 0 := by
    refine loopUp (fun j8 ih4 => ?_)
    intro y9 l hl
    refine WS.sel [3, 2, 0] hl ?_
    iterate 2 refine fst1_ok X (dk rfl) rfl ?_
    refine br_ok X (dk rfl) rfl (show ((7 : Nat) : Int) + 48 = ((55 : Nat) : Int) from rfl) (fun c11 => ?_) (fun c12 => ?_)
    · refine fst1_ok X (dk rfl) rfl ?_
      exact reti_ok X hr hlk rfl (dk rfl) ⟨⟨_, rfl⟩, rfl⟩ (Nat.le_of_ble_eq_true rfl) (Nat.le_of_ble_eq_true rfl)
    · refine fst1_ok X (dk rfl) rfl ?_
      obtain ⟨t14, e15, hx13⟩ := st_open (TI.rf I).1 gb4
      refine getf_ok X flX4_14 (dk rfl) hx13 rfl ?_
      refine fst1_ok X (dk rfl) rfl ?_
      obtain ⟨hL17, q16, gb18, gl19⟩ := id tb5
      refine callVR_ok (ci := 7) (T := TX5) (N := 3) (av := [.int _]) (r := []) X E (c5_letterAt _ (TI.rf I).1 tb5 _) lkX5_letterAt mlX4_83 lmX5_letterAt lpX5_letterAt ⟨Nat.le_of_ble_eq_true rfl, Nat.le_of_ble_eq_true rfl⟩ ⟨Nat.le_of_ble_eq_true rfl, Nat.le_of_ble_eq_true rfl⟩ rfl (tm_cell (TI.rf I).1 gb18) (Nat.le_of_ble_eq_true rfl) (dk rfl) ?_
      rintro _ ⟨x20, hx21, rfl⟩
      iterate 2 refine fst1_ok X (dk rfl) rfl ?_
      refine callNR_ok (av := [.int _]) (r := []) X E (c6_isName _ (TI.rf I).1 _) lkX6_isName mnX4_86 lsX6_isName ⟨Nat.le_of_ble_eq_true rfl, Nat.le_of_ble_eq_true rfl⟩ ⟨Nat.le_of_ble_eq_true rfl, Nat.le_of_ble_eq_true rfl⟩ (Nat.le_of_ble_eq_true rfl) (dk rfl) ?_
      rintro _ ⟨b22, rfl, hb23, hn24⟩
      refine br_ok X (dk rfl) rfl (show ((25 : Nat) : Int) + 14 = ((39 : Nat) : Int) from rfl) (fun c25 => ?_) (fun c26 => ?_)
      · refine fst1_ok X (dk rfl) rfl ?_
        exact reti_ok X hr hlk rfl (dk rfl) ⟨⟨_, rfl⟩, rfl⟩ (Nat.le_of_ble_eq_true rfl) (Nat.le_of_ble_eq_true rfl)
      · refine fst1_ok X (dk rfl) rfl ?_
        refine getf_ok X flX4_20 (dk rfl) hx13 rfl ?_
        refine fst1_ok X (dk rfl) rfl ?_
        obtain ⟨xs27, hx28, hn29⟩ := rw_open (TI.rf I).1 gs6
        refine ald7_ok X (dk rfl) hx28 (inN_pos (hb23 (bI_nz c26)) (by decide)) (by rw [hn29]; exact inN_ix (hb23 (bI_nz c26)) (by decide)) (fun x30 hm31 => ?_)
        refine fst1_ok X (dk rfl) rfl ?_
        refine br_ok X (dk rfl) rfl (show ((36 : Nat) : Int) + 5 = ((41 : Nat) : Int) from rfl) (fun c32 => ?_) (fun c33 => ?_)
        · refine fst1_ok X (dk rfl) rfl ?_
          refine getf_ok X flX4_20 (dk rfl) hx13 rfl ?_
          refine fst1_ok X (dk rfl) rfl ?_
          refine ald7_ok X (dk rfl) hx28 (inN_pos (hb23 (bI_nz c26)) (by decide)) (by rw [hn29]; exact inN_ix (hb23 (bI_nz c26)) (by decide)) (fun x34 hm35 => ?_)
          iterate 2 refine fst1_ok X (dk rfl) rfl ?_
          refine br_ok X (dk rfl) rfl (show ((52 : Nat) : Int) + (-48) = ((4 : Nat) : Int) from rfl) (fun _ => ?_) (fun q => absurd trivial q)
          exact ih4 _ (nlt_of c12) _ _ rfl
        · refine fst1_ok X (dk rfl) rfl ?_
          exact reti_ok X hr hlk rfl (dk rfl) ⟨⟨_, rfl⟩, rfl⟩ (Nat.le_of_ble_eq_true rfl) (Nat.le_of_ble_eq_true rfl)
  iterate 4 refine fst1_ok X (dk rfl) rfl ?_
  exact L4 _ _ _ rfl
set_option maxHeartbeats 4000000 in
theorem FZ.c4_joinNames (h : AH) (I : Tyg Γ h) {o0 : Nat} (T0 : StepsT Γ o0) (x1 : Int32) (x2 : Int32) : CT la D cA B0 pa yX4_joinNames cX4_joinNames 5 none (rmD 1 0 0) [.ref o0, .int (x1), .int (x2)] h (WrO Γ voidP h) := by
  refine CT_of (by decide +kernel) (Nat.le_of_ble_eq_true rfl) ?_
  intro p e s m args below meth c X E hr hlk hnm
  have dk : ∀ {pc : Nat} {q : Instr × Nat}, lkd DX4_joinNames pc = some q → decode cX4_joinNames pc = .ok q := lkd_ok DX4_joinNames_ok
  obtain ⟨bo1, st2, pr3, gb4, tb5, gs6, tp7⟩ := id T0
  refine fst1_ok X (dk rfl) rfl ?_
  obtain ⟨t9, e10, hx8⟩ := st_open (TI.rf I).1 gb4
  refine getf_ok X flX4_14 (dk rfl) hx8 rfl ?_
  refine fst1_ok X (dk rfl) rfl ?_
  obtain ⟨hL12, q11, gb13, gl14⟩ := id tb5
  refine callVR_ok (ci := 7) (T := TX5) (N := 3) (av := [.int _]) (r := []) X E (c5_letterAt _ (TI.rf I).1 tb5 _) lkX5_letterAt mlX4_83 lmX5_letterAt lpX5_letterAt ⟨Nat.le_of_ble_eq_true rfl, Nat.le_of_ble_eq_true rfl⟩ ⟨Nat.le_of_ble_eq_true rfl, Nat.le_of_ble_eq_true rfl⟩ rfl (tm_cell (TI.rf I).1 gb13) (Nat.le_of_ble_eq_true rfl) (dk rfl) ?_
  rintro _ ⟨x15, hx16, rfl⟩
  iterate 2 refine fst1_ok X (dk rfl) rfl ?_
  refine getf_ok X flX4_14 (dk rfl) hx8 rfl ?_
  refine fst1_ok X (dk rfl) rfl ?_
  refine callVR_ok (ci := 7) (T := TX5) (N := 3) (av := [.int _]) (r := []) X E (c5_letterAt _ (TI.rf I).1 tb5 _) lkX5_letterAt mlX4_83 lmX5_letterAt lpX5_letterAt ⟨Nat.le_of_ble_eq_true rfl, Nat.le_of_ble_eq_true rfl⟩ ⟨Nat.le_of_ble_eq_true rfl, Nat.le_of_ble_eq_true rfl⟩ rfl (tm_cell (TI.rf I).1 gb13) (Nat.le_of_ble_eq_true rfl) (dk rfl) ?_
  rintro _ ⟨x17, hx18, rfl⟩
  iterate 2 refine fst1_ok X (dk rfl) rfl ?_
  refine callNR_ok (av := [.int _]) (r := []) X E (c6_isName _ (TI.rf I).1 _) lkX6_isName mnX4_86 lsX6_isName ⟨Nat.le_of_ble_eq_true rfl, Nat.le_of_ble_eq_true rfl⟩ ⟨Nat.le_of_ble_eq_true rfl, Nat.le_of_ble_eq_true rfl⟩ (Nat.le_of_ble_eq_true rfl) (dk rfl) ?_
  rintro _ ⟨b19, rfl, hb20, hn21⟩
  refine br_ok X (dk rfl) rfl (show ((23 : Nat) : Int) + 19 = ((42 : Nat) : Int) from rfl) (fun c22 => ?_) (fun c23 => ?_)
  · refine fst1_ok X (dk rfl) rfl ?_
    refine callNR_ok (av := [.int _]) (r := []) X E (c6_isName _ (TI.rf I).1 _) lkX6_isName mnX4_86 lsX6_isName ⟨Nat.le_of_ble_eq_true rfl, Nat.le_of_ble_eq_true rfl⟩ ⟨Nat.le_of_ble_eq_true rfl, Nat.le_of_ble_eq_true rfl⟩ (Nat.le_of_ble_eq_true rfl) (dk rfl) ?_
    rintro _ ⟨b24, rfl, hb25, hn26⟩
    refine br_ok X (dk rfl) rfl (show ((47 : Nat) : Int) + 17 = ((64 : Nat) : Int) from rfl) (fun c27 => ?_) (fun c28 => ?_)
    · exact retv_ok X hr hlk (dk rfl) ⟨rfl, (TI.rf I)⟩ (Nat.le_of_ble_eq_true rfl) (Nat.le_of_ble_eq_true rfl)
    · iterate 2 refine fst1_ok X (dk rfl) rfl ?_
      refine br_ok X (dk rfl) rfl (show ((53 : Nat) : Int) + 11 = ((64 : Nat) : Int) from rfl) (fun c29 => ?_) (fun c30 => ?_)
      · exact retv_ok X hr hlk (dk rfl) ⟨rfl, (TI.rf I)⟩ (Nat.le_of_ble_eq_true rfl) (Nat.le_of_ble_eq_true rfl)
      · refine fst1_ok X (dk rfl) rfl ?_
        refine getf_ok X flX4_20 (dk rfl) hx8 rfl ?_
        iterate 2 refine fst1_ok X (dk rfl) rfl ?_
        obtain ⟨xs31, hx32, hn33⟩ := rw_open (TI.rf I).1 gs6
        refine astT_ok X (dk rfl) hx32 (inN_pos (hb25 (bI_nz c28)) (by decide)) (by rw [hn33]; exact inN_ix (hb25 (bI_nz c28)) (by decide)) (TI.rf I) gs6 (rowφ_set hn33 _ _) (fun h34 J35 ho36 => ?_)
        have hx37 := (ho36 o0 (k_ne hx8 hx32 (by decide))).trans hx8
        exact retv_ok X hr hlk (dk rfl) ⟨rfl, J35⟩ (Nat.le_of_ble_eq_true rfl) (Nat.le_of_ble_eq_true rfl)
  · iterate 2 refine fst1_ok X (dk rfl) rfl ?_
    refine br_ok X (dk rfl) rfl (show ((29 : Nat) : Int) + 13 = ((42 : Nat) : Int) from rfl) (fun c38 => ?_) (fun c39 => ?_)
    · refine fst1_ok X (dk rfl) rfl ?_
      refine callNR_ok (av := [.int _]) (r := []) X E (c6_isName _ (TI.rf I).1 _) lkX6_isName mnX4_86 lsX6_isName ⟨Nat.le_of_ble_eq_true rfl, Nat.le_of_ble_eq_true rfl⟩ ⟨Nat.le_of_ble_eq_true rfl, Nat.le_of_ble_eq_true rfl⟩ (Nat.le_of_ble_eq_true rfl) (dk rfl) ?_
      rintro _ ⟨b40, rfl, hb41, hn42⟩
      refine br_ok X (dk rfl) rfl (show ((47 : Nat) : Int) + 17 = ((64 : Nat) : Int) from rfl) (fun c43 => ?_) (fun c44 => ?_)
      · exact retv_ok X hr hlk (dk rfl) ⟨rfl, (TI.rf I)⟩ (Nat.le_of_ble_eq_true rfl) (Nat.le_of_ble_eq_true rfl)
      · iterate 2 refine fst1_ok X (dk rfl) rfl ?_
        refine br_ok X (dk rfl) rfl (show ((53 : Nat) : Int) + 11 = ((64 : Nat) : Int) from rfl) (fun c45 => ?_) (fun c46 => ?_)
        · exact retv_ok X hr hlk (dk rfl) ⟨rfl, (TI.rf I)⟩ (Nat.le_of_ble_eq_true rfl) (Nat.le_of_ble_eq_true rfl)
        · refine fst1_ok X (dk rfl) rfl ?_
          refine getf_ok X flX4_20 (dk rfl) hx8 rfl ?_
          iterate 2 refine fst1_ok X (dk rfl) rfl ?_
          obtain ⟨xs47, hx48, hn49⟩ := rw_open (TI.rf I).1 gs6
          refine astT_ok X (dk rfl) hx48 (inN_pos (hb41 (bI_nz c44)) (by decide)) (by rw [hn49]; exact inN_ix (hb41 (bI_nz c44)) (by decide)) (TI.rf I) gs6 (rowφ_set hn49 _ _) (fun h50 J51 ho52 => ?_)
          have hx53 := (ho52 o0 (k_ne hx8 hx48 (by decide))).trans hx8
          exact retv_ok X hr hlk (dk rfl) ⟨rfl, J51⟩ (Nat.le_of_ble_eq_true rfl) (Nat.le_of_ble_eq_true rfl)
    · refine fst1_ok X (dk rfl) rfl ?_
      refine getf_ok X flX4_20 (dk rfl) hx8 rfl ?_
      iterate 2 refine fst1_ok X (dk rfl) rfl ?_
      obtain ⟨xs54, hx55, hn56⟩ := rw_open (TI.rf I).1 gs6
      refine astT_ok X (dk rfl) hx55 (inN_pos (hb20 (bI_nz c23)) (by decide)) (by rw [hn56]; exact inN_ix (hb20 (bI_nz c23)) (by decide)) (TI.rf I) gs6 (rowφ_set hn56 _ _) (fun h57 J58 ho59 => ?_)
      have hx60 := (ho59 o0 (k_ne hx8 hx55 (by decide))).trans hx8
      refine br_ok X (dk rfl) rfl (show ((39 : Nat) : Int) + 25 = ((64 : Nat) : Int) from rfl) (fun _ => ?_) (fun q => absurd trivial q)
      exact retv_ok X hr hlk (dk rfl) ⟨rfl, J58⟩ (Nat.le_of_ble_eq_true rfl) (Nat.le_of_ble_eq_true rfl)
set_option maxHeartbeats 4000000 in
theorem FZ.c4_standFor (h : AH) (I : Tyg Γ h) {o0 : Nat} (T0 : StepsT Γ o0) (x1 : Int32) (x2 : Int32) : CT la D cA B0 pa yX4_standFor cX4_standFor 6 none (rmD 2 0 0) [.ref o0, .int (x1), .int (x2)] h (WrO Γ voidP h) := by
  refine CT_of (by decide +kernel) (Nat.le_of_ble_eq_true rfl) ?_
  intro p e s m args below meth c X E hr hlk hnm
  have dk : ∀ {pc : Nat} {q : Instr × Nat}, lkd DX4_standFor pc = some q → decode cX4_standFor pc = .ok q := lkd_ok DX4_standFor_ok
  obtain ⟨bo1, st2, pr3, gb4, tb5, gs6, tp7⟩ := id T0
  have L20 : ∀ j8 : Int32, ∀ (y9 : Int32) (h13 : AH) (J14 : TI Γ h h13) (l : List (Nat × Value)), lsel l [4, 3, 2, 1, 0] = [(4, .int (j8)), (3, .int (y9)), (2, .int (x2)), (1, .int (x1)), (0, .ref o0)] → WR p la e (rmD 2 0 0) s m args below meth c D cA B0 6 (WrO Γ voidP h) 20 l [] h13 0 0 := by
    refine loopUp (fun j8 ih20 => ?_)
    intro y9 h13 J14 l hl
    refine WS.sel [4, 3, 2, 1, 0] hl ?_
    iterate 2 refine fst1_ok X (dk rfl) rfl ?_
    refine br_ok X (dk rfl) rfl (show ((24 : Nat) : Int) + 77 = ((101 : Nat) : Int) from rfl) (fun c15 => ?_) (fun c16 => ?_)
    · iterate 6 refine fst1_ok X (dk rfl) rfl ?_
      refine br_ok X (dk rfl) rfl (show ((107 : Nat) : Int) + 11 = ((118 : Nat) : Int) from rfl) (fun c17 => ?_) (fun c18 => ?_)
      · refine fst1_ok X (dk rfl) rfl ?_
        refine callNR_ok (av := [.int _]) (r := []) X E (c6_isName _ J14.1 _) lkX6_isName mnX4_86 lsX6_isName ⟨Nat.le_of_ble_eq_true rfl, Nat.le_of_ble_eq_true rfl⟩ ⟨Nat.le_of_ble_eq_true rfl, Nat.le_of_ble_eq_true rfl⟩ (Nat.le_of_ble_eq_true rfl) (dk rfl) ?_
        rintro _ ⟨b19, rfl, hb20, hn21⟩
        refine br_ok X (dk rfl) rfl (show ((122 : Nat) : Int) + 10 = ((132 : Nat) : Int) from rfl) (fun c22 => ?_) (fun c23 => ?_)
        · exact retv_ok X hr hlk (dk rfl) ⟨rfl, J14⟩ (Nat.le_of_ble_eq_true rfl) (Nat.le_of_ble_eq_true rfl)
        · refine fst1_ok X (dk rfl) rfl ?_
          obtain ⟨t25, e26, hx24⟩ := st_open J14.1 gb4
          refine getf_ok X flX4_20 (dk rfl) hx24 rfl ?_
          iterate 2 refine fst1_ok X (dk rfl) rfl ?_
          obtain ⟨xs27, hx28, hn29⟩ := rw_open J14.1 gs6
          refine astT_ok X (dk rfl) hx28 (inN_pos (hb20 (bI_nz c23)) (by decide)) (by rw [hn29]; exact inN_ix (hb20 (bI_nz c23)) (by decide)) J14 gs6 (rowφ_set hn29 _ _) (fun h30 J31 ho32 => ?_)
          have hx33 := (ho32 o0 (k_ne hx24 hx28 (by decide))).trans hx24
          exact retv_ok X hr hlk (dk rfl) ⟨rfl, J31⟩ (Nat.le_of_ble_eq_true rfl) (Nat.le_of_ble_eq_true rfl)
      · iterate 2 refine fst1_ok X (dk rfl) rfl ?_
        obtain ⟨t35, e36, hx34⟩ := st_open J14.1 gb4
        refine putT_ok X flX4_56 ftX4_4 rfl rfl (dk rfl) hx34 (Nat.le_of_ble_eq_true rfl) J14 gb4 rfl (st_set4 _) (fun h37 J38 hx39 ho40 => ?_)
        refine br_ok X (dk rfl) rfl (show ((115 : Nat) : Int) + 17 = ((132 : Nat) : Int) from rfl) (fun _ => ?_) (fun q => absurd trivial q)
        exact retv_ok X hr hlk (dk rfl) ⟨rfl, J38⟩ (Nat.le_of_ble_eq_true rfl) (Nat.le_of_ble_eq_true rfl)
    · iterate 2 refine fst1_ok X (dk rfl) rfl ?_
      have L30 : ∀ j41 : Nat, j41 ≤ 8 → ∀ (y43 : Int32) (h47 : AH) (J48 : TI Γ h h47) (l : List (Nat × Value)), lsel l [5, 4, 3, 2, 1, 0] = [(5, vI j41), (4, .int (j8)), (3, .int (y43)), (2, .int (x2)), (1, .int (x1)), (0, .ref o0)] → WR p la e (rmD 2 0 0) s m args below meth c D cA B0 6 (WrO Γ voidP h) 30 l [] h47 0 0 := by
        refine loopN (fun j41 hj41 ih30 => ?_)
        intro y43 h47 J48 l hl
        refine WS.sel [5, 4, 3, 2, 1, 0] hl ?_
        iterate 2 refine fst1_ok X (dk rfl) rfl ?_
        refine br_ok X (dk rfl) rfl (show ((34 : Nat) : Int) + 61 = ((95 : Nat) : Int) from rfl) (fun c49 => ?_) (fun c50 => ?_)
        · refine fst1_ok X (dk rfl) rfl ?_
          refine br_ok X (dk rfl) rfl (show ((98 : Nat) : Int) + (-78) = ((20 : Nat) : Int) from rfl) (fun _ => ?_) (fun q => absurd trivial q)
          exact ih20 _ (nlt_of c16) _ h47 J48 _ rfl
        · iterate 6 refine fst1_ok X (dk rfl) rfl ?_
          refine br_ok X (dk rfl) rfl (show ((44 : Nat) : Int) + 45 = ((89 : Nat) : Int) from rfl) (fun c51 => ?_) (fun c52 => ?_)
          · refine fst1_ok X (dk rfl) rfl ?_
            refine br_ok X (dk rfl) rfl (show ((92 : Nat) : Int) + (-62) = ((30 : Nat) : Int) from rfl) (fun _ => ?_) (fun q => absurd trivial q)
            exact ih30 (nat_lt (K := 8) (by omega) (by rw [show nI 8 = (Int8.ofInt 8).toInt32 by decide +kernel]; exact c50)) _ h47 J48 _ (by rw [← vI_succ j41]; rfl)
          · refine fst1_ok X (dk rfl) rfl ?_
            obtain ⟨t54, e55, hx53⟩ := st_open J48.1 gb4
            refine getf_ok X flX4_20 (dk rfl) hx53 rfl ?_
            refine fst1_ok X (dk rfl) rfl ?_
            obtain ⟨xs56, hx57, hn58⟩ := rw_open J48.1 gs6
            refine ald7_ok X (dk rfl) hx57 (nI_pos (by omega)) (by rw [hn58]; exact ix_ok (by omega) (nI_pos (by omega)) (by rw [show nI 8 = (Int8.ofInt 8).toInt32 by decide +kernel]; exact c50)) (fun x59 hm60 => ?_)
            refine fst1_ok X (dk rfl) rfl ?_
            refine br_ok X (dk rfl) rfl (show ((55 : Nat) : Int) + 34 = ((89 : Nat) : Int) from rfl) (fun c61 => ?_) (fun c62 => ?_)
            · refine fst1_ok X (dk rfl) rfl ?_
              refine br_ok X (dk rfl) rfl (show ((92 : Nat) : Int) + (-62) = ((30 : Nat) : Int) from rfl) (fun _ => ?_) (fun q => absurd trivial q)
              exact ih30 (nat_lt (K := 8) (by omega) (by rw [show nI 8 = (Int8.ofInt 8).toInt32 by decide +kernel]; exact c50)) _ h47 J48 _ (by rw [← vI_succ j41]; rfl)
            · iterate 2 refine fst1_ok X (dk rfl) rfl ?_
              refine getf_ok X flX4_14 (dk rfl) hx53 rfl ?_
              refine fst1_ok X (dk rfl) rfl ?_
              refine getf_ok X flX4_20 (dk rfl) hx53 rfl ?_
              refine fst1_ok X (dk rfl) rfl ?_
              refine ald7_ok X (dk rfl) hx57 (nI_pos (by omega)) (by rw [hn58]; exact ix_ok (by omega) (nI_pos (by omega)) (by rw [show nI 8 = (Int8.ofInt 8).toInt32 by decide +kernel]; exact c50)) (fun x63 hm64 => ?_)
              refine fst1_ok X (dk rfl) rfl ?_
              refine getf_ok X flX4_14 (dk rfl) hx53 rfl ?_
              refine fst1_ok X (dk rfl) rfl ?_
              refine getf_ok X flX4_20 (dk rfl) hx53 rfl ?_
              refine fst1_ok X (dk rfl) rfl ?_
              refine ald7_ok X (dk rfl) hx57 (nI_pos (by omega)) (by rw [hn58]; exact ix_ok (by omega) (nI_pos (by omega)) (by rw [show nI 8 = (Int8.ofInt 8).toInt32 by decide +kernel]; exact c50)) (fun x65 hm66 => ?_)
              obtain ⟨hL68, q67, gb69, gl70⟩ := id tb5
              refine callVR_ok (ci := 7) (T := TX5) (N := 3) (av := [.int _]) (r := [_, _, _]) X E (c5_endOf _ J48.1 tb5 _) lkX5_endOf mlX4_100 lmX5_endOf lpX5_endOf ⟨Nat.le_of_ble_eq_true rfl, Nat.le_of_ble_eq_true rfl⟩ ⟨Nat.le_of_ble_eq_true rfl, Nat.le_of_ble_eq_true rfl⟩ rfl (tm_cell J48.1 gb69) (Nat.le_of_ble_eq_true rfl) (dk rfl) ?_
              rintro _ ⟨x71, rfl⟩
              refine callVR_ok (ci := 7) (T := TX5) (N := 3) (av := [.int _, .int _]) (r := [_]) X E (c5_namesIn _ J48.1 tb5 _ _) lkX5_namesIn mlX4_103 lmX5_namesIn lpX5_namesIn ⟨Nat.le_of_ble_eq_true rfl, Nat.le_of_ble_eq_true rfl⟩ ⟨Nat.le_of_ble_eq_true rfl, Nat.le_of_ble_eq_true rfl⟩ rfl (tm_cell J48.1 gb69) (Nat.le_of_ble_eq_true rfl) (dk rfl) ?_
              rintro _ ⟨x72, rfl⟩
              iterate 3 refine fst1_ok X (dk rfl) rfl ?_
              refine br_ok X (dk rfl) rfl (show ((92 : Nat) : Int) + (-62) = ((30 : Nat) : Int) from rfl) (fun _ => ?_) (fun q => absurd trivial q)
              exact ih30 (nat_lt (K := 8) (by omega) (by rw [show nI 8 = (Int8.ofInt 8).toInt32 by decide +kernel]; exact c50)) _ h47 J48 _ (by rw [← vI_succ j41]; rfl)
      exact L30 0 (by omega) _ h13 J14 _ rfl
  refine fst1_ok X (dk rfl) rfl ?_
  obtain ⟨t74, e75, hx73⟩ := st_open (TI.rf I).1 gb4
  refine getf_ok X flX4_14 (dk rfl) hx73 rfl ?_
  iterate 2 refine fst1_ok X (dk rfl) rfl ?_
  refine getf_ok X flX4_14 (dk rfl) hx73 rfl ?_
  refine fst1_ok X (dk rfl) rfl ?_
  obtain ⟨hL77, q76, gb78, gl79⟩ := id tb5
  refine callVR_ok (ci := 7) (T := TX5) (N := 3) (av := [.int _]) (r := [_, _]) X E (c5_endOf _ (TI.rf I).1 tb5 _) lkX5_endOf mlX4_100 lmX5_endOf lpX5_endOf ⟨Nat.le_of_ble_eq_true rfl, Nat.le_of_ble_eq_true rfl⟩ ⟨Nat.le_of_ble_eq_true rfl, Nat.le_of_ble_eq_true rfl⟩ rfl (tm_cell (TI.rf I).1 gb78) (Nat.le_of_ble_eq_true rfl) (dk rfl) ?_
  rintro _ ⟨x80, rfl⟩
  refine callVR_ok (ci := 7) (T := TX5) (N := 3) (av := [.int _, .int _]) (r := []) X E (c5_namesIn _ (TI.rf I).1 tb5 _ _) lkX5_namesIn mlX4_103 lmX5_namesIn lpX5_namesIn ⟨Nat.le_of_ble_eq_true rfl, Nat.le_of_ble_eq_true rfl⟩ ⟨Nat.le_of_ble_eq_true rfl, Nat.le_of_ble_eq_true rfl⟩ rfl (tm_cell (TI.rf I).1 gb78) (Nat.le_of_ble_eq_true rfl) (dk rfl) ?_
  rintro _ ⟨x81, rfl⟩
  iterate 3 refine fst1_ok X (dk rfl) rfl ?_
  exact L20 _ _ h (TI.rf I) _ rfl
set_option maxHeartbeats 4000000 in
theorem FZ.c4_takeStep (h : AH) (I : Tyg Γ h) {o0 : Nat} (T0 : StepsT Γ o0) : CT la D cA B0 pa yX4_takeStep cX4_takeStep 6 none (rmD 3 0 0) [.ref o0] h (WrO Γ voidP h) := by
  refine CT_of (by decide +kernel) (Nat.le_of_ble_eq_true rfl) ?_
  intro p e s m args below meth c X E hr hlk hnm
  have dk : ∀ {pc : Nat} {q : Instr × Nat}, lkd DX4_takeStep pc = some q → decode cX4_takeStep pc = .ok q := lkd_ok DX4_takeStep_ok
  obtain ⟨bo1, st2, pr3, gb4, tb5, gs6, tp7⟩ := id T0
  iterate 2 refine fst1_ok X (dk rfl) rfl ?_
  obtain ⟨t9, e10, hx8⟩ := st_open (TI.rf I).1 gb4
  refine getf_ok X flX4_52 (dk rfl) hx8 rfl ?_
  iterate 2 refine fst1_ok X (dk rfl) rfl ?_
  refine putT_ok X flX4_52 ftX4_3 rfl rfl (dk rfl) hx8 (Nat.le_of_ble_eq_true rfl) (TI.rf I) gb4 rfl (st_set3 _) (fun h11 J12 hx13 ho14 => ?_)
  refine fst1_ok X (dk rfl) rfl ?_
  refine getf_ok X flX4_27 (dk rfl) hx13 rfl ?_
  obtain ⟨a15, a16, gb17, g18, g19⟩ := id tp7
  refine callVR_ok (ci := 4) (T := TX2) (N := 3) (av := []) (r := []) X E (c2_length _ J12.1 tp7) lkX2_length mlX4_60 lmX2_length lpX2_length ⟨Nat.le_of_ble_eq_true rfl, Nat.le_of_ble_eq_true rfl⟩ ⟨Nat.le_of_ble_eq_true rfl, Nat.le_of_ble_eq_true rfl⟩ rfl (pr_cell J12.1 gb17) (Nat.le_of_ble_eq_true rfl) (dk rfl) ?_
  rintro _ ⟨n20, hn21, rfl⟩
  iterate 5 refine fst1_ok X (dk rfl) rfl ?_
  refine getf_ok X flX4_27 (dk rfl) hx13 rfl ?_
  refine fst1_ok X (dk rfl) rfl ?_
  refine callVR_ok (ci := 4) (T := TX2) (N := 3) (av := [.int _]) (r := [_]) X E (c2_oneAt _ J12.1 tp7 _) lkX2_oneAt mlX4_70 lmX2_oneAt lpX2_oneAt ⟨Nat.le_of_ble_eq_true rfl, Nat.le_of_ble_eq_true rfl⟩ ⟨Nat.le_of_ble_eq_true rfl, Nat.le_of_ble_eq_true rfl⟩ rfl (pr_cell J12.1 gb17) (Nat.le_of_ble_eq_true rfl) (dk rfl) ?_
  rintro _ ⟨x22, rfl⟩
  refine callVR_ok (ci := 6) (T := TX4) (N := 5) (av := [.int _]) (r := []) X E (c4_lookedUp _ J12.1 T0 _) lkX4_lookedUp mlX4_74 lmX4_lookedUp lpX4_lookedUp ⟨Nat.le_of_ble_eq_true rfl, Nat.le_of_ble_eq_true rfl⟩ ⟨Nat.le_of_ble_eq_true rfl, Nat.le_of_ble_eq_true rfl⟩ rfl (st_cell J12.1 gb4) (Nat.le_of_ble_eq_true rfl) (dk rfl) ?_
  rintro _ ⟨x23, rfl⟩
  iterate 3 refine fst1_ok X (dk rfl) rfl ?_
  refine getf_ok X flX4_27 (dk rfl) hx13 rfl ?_
  refine fst1_ok X (dk rfl) rfl ?_
  refine callVR_ok (ci := 4) (T := TX2) (N := 3) (av := [.int _]) (r := [_]) X E (c2_otherAt _ J12.1 tp7 _) lkX2_otherAt mlX4_77 lmX2_otherAt lpX2_otherAt ⟨Nat.le_of_ble_eq_true rfl, Nat.le_of_ble_eq_true rfl⟩ ⟨Nat.le_of_ble_eq_true rfl, Nat.le_of_ble_eq_true rfl⟩ rfl (pr_cell J12.1 gb17) (Nat.le_of_ble_eq_true rfl) (dk rfl) ?_
  rintro _ ⟨x24, rfl⟩
  refine callVR_ok (ci := 6) (T := TX4) (N := 5) (av := [.int _]) (r := []) X E (c4_lookedUp _ J12.1 T0 _) lkX4_lookedUp mlX4_74 lmX4_lookedUp lpX4_lookedUp ⟨Nat.le_of_ble_eq_true rfl, Nat.le_of_ble_eq_true rfl⟩ ⟨Nat.le_of_ble_eq_true rfl, Nat.le_of_ble_eq_true rfl⟩ rfl (st_cell J12.1 gb4) (Nat.le_of_ble_eq_true rfl) (dk rfl) ?_
  rintro _ ⟨x25, rfl⟩
  iterate 2 refine fst1_ok X (dk rfl) rfl ?_
  refine getf_ok X flX4_27 (dk rfl) hx13 rfl ?_
  refine callVW_ok (ci := 4) (T := TX2) (N := 3) (av := []) (r := []) X E J12 (c2_dropNext _ J12.1 tp7) lkX2_dropNext mlX4_80 lmX2_dropNext lpX2_dropNext ⟨Nat.le_of_ble_eq_true rfl, Nat.le_of_ble_eq_true rfl⟩ ⟨Nat.le_of_ble_eq_true rfl, Nat.le_of_ble_eq_true rfl⟩ rfl (pr_cell J12.1 gb17) (Nat.le_of_ble_eq_true rfl) (dk rfl) ?_
  rintro _ h26 rfl J27
  refine fst1_ok X (dk rfl) rfl ?_
  obtain ⟨t29, e30, hx28⟩ := st_open J27.1 gb4
  refine getf_ok X flX4_14 (dk rfl) hx28 rfl ?_
  refine fst1_ok X (dk rfl) rfl ?_
  obtain ⟨hL32, q31, gb33, gl34⟩ := id tb5
  refine callVR_ok (ci := 7) (T := TX5) (N := 3) (av := [.int _]) (r := []) X E (c5_letterAt _ J27.1 tb5 _) lkX5_letterAt mlX4_83 lmX5_letterAt lpX5_letterAt ⟨Nat.le_of_ble_eq_true rfl, Nat.le_of_ble_eq_true rfl⟩ ⟨Nat.le_of_ble_eq_true rfl, Nat.le_of_ble_eq_true rfl⟩ rfl (tm_cell J27.1 gb33) (Nat.le_of_ble_eq_true rfl) (dk rfl) ?_
  rintro _ ⟨x35, hx36, rfl⟩
  iterate 2 refine fst1_ok X (dk rfl) rfl ?_
  refine getf_ok X flX4_14 (dk rfl) hx28 rfl ?_
  refine fst1_ok X (dk rfl) rfl ?_
  refine callVR_ok (ci := 7) (T := TX5) (N := 3) (av := [.int _]) (r := []) X E (c5_letterAt _ J27.1 tb5 _) lkX5_letterAt mlX4_83 lmX5_letterAt lpX5_letterAt ⟨Nat.le_of_ble_eq_true rfl, Nat.le_of_ble_eq_true rfl⟩ ⟨Nat.le_of_ble_eq_true rfl, Nat.le_of_ble_eq_true rfl⟩ rfl (tm_cell J27.1 gb33) (Nat.le_of_ble_eq_true rfl) (dk rfl) ?_
  rintro _ ⟨x37, hx38, rfl⟩
  iterate 2 refine fst1_ok X (dk rfl) rfl ?_
  refine callNR_ok (av := [.int _]) (r := []) X E (c6_isName _ J27.1 _) lkX6_isName mnX4_86 lsX6_isName ⟨Nat.le_of_ble_eq_true rfl, Nat.le_of_ble_eq_true rfl⟩ ⟨Nat.le_of_ble_eq_true rfl, Nat.le_of_ble_eq_true rfl⟩ (Nat.le_of_ble_eq_true rfl) (dk rfl) ?_
  rintro _ ⟨b39, rfl, hb40, hn41⟩
  refine br_ok X (dk rfl) rfl (show ((78 : Nat) : Int) + 20 = ((98 : Nat) : Int) from rfl) (fun c42 => ?_) (fun c43 => ?_)
  · refine fst1_ok X (dk rfl) rfl ?_
    refine callNR_ok (av := [.int _]) (r := []) X E (c6_isName _ J27.1 _) lkX6_isName mnX4_86 lsX6_isName ⟨Nat.le_of_ble_eq_true rfl, Nat.le_of_ble_eq_true rfl⟩ ⟨Nat.le_of_ble_eq_true rfl, Nat.le_of_ble_eq_true rfl⟩ (Nat.le_of_ble_eq_true rfl) (dk rfl) ?_
    rintro _ ⟨b44, rfl, hb45, hn46⟩
    refine br_ok X (dk rfl) rfl (show ((103 : Nat) : Int) + 13 = ((116 : Nat) : Int) from rfl) (fun c47 => ?_) (fun c48 => ?_)
    · refine fst1_ok X (dk rfl) rfl ?_
      refine callNR_ok (av := [.int _]) (r := []) X E (c6_isName _ J27.1 _) lkX6_isName mnX4_86 lsX6_isName ⟨Nat.le_of_ble_eq_true rfl, Nat.le_of_ble_eq_true rfl⟩ ⟨Nat.le_of_ble_eq_true rfl, Nat.le_of_ble_eq_true rfl⟩ (Nat.le_of_ble_eq_true rfl) (dk rfl) ?_
      rintro _ ⟨b49, rfl, hb50, hn51⟩
      refine br_ok X (dk rfl) rfl (show ((121 : Nat) : Int) + 13 = ((134 : Nat) : Int) from rfl) (fun c52 => ?_) (fun c53 => ?_)
      · iterate 2 refine fst1_ok X (dk rfl) rfl ?_
        refine br_ok X (dk rfl) rfl (show ((138 : Nat) : Int) + 11 = ((149 : Nat) : Int) from rfl) (fun c54 => ?_) (fun c55 => ?_)
        · refine fst1_ok X (dk rfl) rfl ?_
          refine getf_ok X flX4_27 (dk rfl) hx28 rfl ?_
          refine fst1_ok X (dk rfl) rfl ?_
          refine getf_ok X flX4_14 (dk rfl) hx28 rfl ?_
          iterate 2 refine fst1_ok X (dk rfl) rfl ?_
          refine callVW_ok (ci := 4) (T := TX2) (N := 3) (av := [.ref _, .int _, .int _]) (r := []) X E J27 (c2_addParts _ J27.1 tp7 tb5 _ _) lkX2_addParts mlX4_96 lmX2_addParts lpX2_addParts ⟨Nat.le_of_ble_eq_true rfl, Nat.le_of_ble_eq_true rfl⟩ ⟨Nat.le_of_ble_eq_true rfl, Nat.le_of_ble_eq_true rfl⟩ rfl (pr_cell J27.1 gb17) (Nat.le_of_ble_eq_true rfl) (dk rfl) ?_
          rintro _ h56 rfl J57
          exact retv_ok X hr hlk (dk rfl) ⟨rfl, J57⟩ (Nat.le_of_ble_eq_true rfl) (Nat.le_of_ble_eq_true rfl)
        · iterate 2 refine fst1_ok X (dk rfl) rfl ?_
          refine putT_ok X flX4_56 ftX4_4 rfl rfl (dk rfl) hx28 (Nat.le_of_ble_eq_true rfl) J27 gb4 rfl (st_set4 _) (fun h58 J59 hx60 ho61 => ?_)
          refine br_ok X (dk rfl) rfl (show ((146 : Nat) : Int) + 16 = ((162 : Nat) : Int) from rfl) (fun _ => ?_) (fun q => absurd trivial q)
          exact retv_ok X hr hlk (dk rfl) ⟨rfl, J59⟩ (Nat.le_of_ble_eq_true rfl) (Nat.le_of_ble_eq_true rfl)
      · iterate 3 refine fst1_ok X (dk rfl) rfl ?_
        refine callVW_ok (ci := 6) (T := TX4) (N := 5) (av := [.int _, .int _]) (r := []) X E J27 (c4_standFor _ J27.1 T0 _ _) lkX4_standFor mlX4_93 lmX4_standFor lpX4_standFor ⟨Nat.le_of_ble_eq_true rfl, Nat.le_of_ble_eq_true rfl⟩ ⟨Nat.le_of_ble_eq_true rfl, Nat.le_of_ble_eq_true rfl⟩ rfl (st_cell J27.1 gb4) (Nat.le_of_ble_eq_true rfl) (dk rfl) ?_
        rintro _ h62 rfl J63
        refine br_ok X (dk rfl) rfl (show ((131 : Nat) : Int) + 31 = ((162 : Nat) : Int) from rfl) (fun _ => ?_) (fun q => absurd trivial q)
        exact retv_ok X hr hlk (dk rfl) ⟨rfl, J63⟩ (Nat.le_of_ble_eq_true rfl) (Nat.le_of_ble_eq_true rfl)
    · iterate 3 refine fst1_ok X (dk rfl) rfl ?_
      refine callVW_ok (ci := 6) (T := TX4) (N := 5) (av := [.int _, .int _]) (r := []) X E J27 (c4_standFor _ J27.1 T0 _ _) lkX4_standFor mlX4_93 lmX4_standFor lpX4_standFor ⟨Nat.le_of_ble_eq_true rfl, Nat.le_of_ble_eq_true rfl⟩ ⟨Nat.le_of_ble_eq_true rfl, Nat.le_of_ble_eq_true rfl⟩ rfl (st_cell J27.1 gb4) (Nat.le_of_ble_eq_true rfl) (dk rfl) ?_
      rintro _ h64 rfl J65
      refine br_ok X (dk rfl) rfl (show ((113 : Nat) : Int) + 49 = ((162 : Nat) : Int) from rfl) (fun _ => ?_) (fun q => absurd trivial q)
      exact retv_ok X hr hlk (dk rfl) ⟨rfl, J65⟩ (Nat.le_of_ble_eq_true rfl) (Nat.le_of_ble_eq_true rfl)
  · refine fst1_ok X (dk rfl) rfl ?_
    refine callNR_ok (av := [.int _]) (r := []) X E (c6_isName _ J27.1 _) lkX6_isName mnX4_86 lsX6_isName ⟨Nat.le_of_ble_eq_true rfl, Nat.le_of_ble_eq_true rfl⟩ ⟨Nat.le_of_ble_eq_true rfl, Nat.le_of_ble_eq_true rfl⟩ (Nat.le_of_ble_eq_true rfl) (dk rfl) ?_
    rintro _ ⟨b66, rfl, hb67, hn68⟩
    refine br_ok X (dk rfl) rfl (show ((86 : Nat) : Int) + 12 = ((98 : Nat) : Int) from rfl) (fun c69 => ?_) (fun c70 => ?_)
    · refine fst1_ok X (dk rfl) rfl ?_
      refine callNR_ok (av := [.int _]) (r := []) X E (c6_isName _ J27.1 _) lkX6_isName mnX4_86 lsX6_isName ⟨Nat.le_of_ble_eq_true rfl, Nat.le_of_ble_eq_true rfl⟩ ⟨Nat.le_of_ble_eq_true rfl, Nat.le_of_ble_eq_true rfl⟩ (Nat.le_of_ble_eq_true rfl) (dk rfl) ?_
      rintro _ ⟨b71, rfl, hb72, hn73⟩
      refine br_ok X (dk rfl) rfl (show ((103 : Nat) : Int) + 13 = ((116 : Nat) : Int) from rfl) (fun c74 => ?_) (fun c75 => ?_)
      · refine fst1_ok X (dk rfl) rfl ?_
        refine callNR_ok (av := [.int _]) (r := []) X E (c6_isName _ J27.1 _) lkX6_isName mnX4_86 lsX6_isName ⟨Nat.le_of_ble_eq_true rfl, Nat.le_of_ble_eq_true rfl⟩ ⟨Nat.le_of_ble_eq_true rfl, Nat.le_of_ble_eq_true rfl⟩ (Nat.le_of_ble_eq_true rfl) (dk rfl) ?_
        rintro _ ⟨b76, rfl, hb77, hn78⟩
        refine br_ok X (dk rfl) rfl (show ((121 : Nat) : Int) + 13 = ((134 : Nat) : Int) from rfl) (fun c79 => ?_) (fun c80 => ?_)
        · iterate 2 refine fst1_ok X (dk rfl) rfl ?_
          refine br_ok X (dk rfl) rfl (show ((138 : Nat) : Int) + 11 = ((149 : Nat) : Int) from rfl) (fun c81 => ?_) (fun c82 => ?_)
          · refine fst1_ok X (dk rfl) rfl ?_
            refine getf_ok X flX4_27 (dk rfl) hx28 rfl ?_
            refine fst1_ok X (dk rfl) rfl ?_
            refine getf_ok X flX4_14 (dk rfl) hx28 rfl ?_
            iterate 2 refine fst1_ok X (dk rfl) rfl ?_
            refine callVW_ok (ci := 4) (T := TX2) (N := 3) (av := [.ref _, .int _, .int _]) (r := []) X E J27 (c2_addParts _ J27.1 tp7 tb5 _ _) lkX2_addParts mlX4_96 lmX2_addParts lpX2_addParts ⟨Nat.le_of_ble_eq_true rfl, Nat.le_of_ble_eq_true rfl⟩ ⟨Nat.le_of_ble_eq_true rfl, Nat.le_of_ble_eq_true rfl⟩ rfl (pr_cell J27.1 gb17) (Nat.le_of_ble_eq_true rfl) (dk rfl) ?_
            rintro _ h83 rfl J84
            exact retv_ok X hr hlk (dk rfl) ⟨rfl, J84⟩ (Nat.le_of_ble_eq_true rfl) (Nat.le_of_ble_eq_true rfl)
          · iterate 2 refine fst1_ok X (dk rfl) rfl ?_
            refine putT_ok X flX4_56 ftX4_4 rfl rfl (dk rfl) hx28 (Nat.le_of_ble_eq_true rfl) J27 gb4 rfl (st_set4 _) (fun h85 J86 hx87 ho88 => ?_)
            refine br_ok X (dk rfl) rfl (show ((146 : Nat) : Int) + 16 = ((162 : Nat) : Int) from rfl) (fun _ => ?_) (fun q => absurd trivial q)
            exact retv_ok X hr hlk (dk rfl) ⟨rfl, J86⟩ (Nat.le_of_ble_eq_true rfl) (Nat.le_of_ble_eq_true rfl)
        · iterate 3 refine fst1_ok X (dk rfl) rfl ?_
          refine callVW_ok (ci := 6) (T := TX4) (N := 5) (av := [.int _, .int _]) (r := []) X E J27 (c4_standFor _ J27.1 T0 _ _) lkX4_standFor mlX4_93 lmX4_standFor lpX4_standFor ⟨Nat.le_of_ble_eq_true rfl, Nat.le_of_ble_eq_true rfl⟩ ⟨Nat.le_of_ble_eq_true rfl, Nat.le_of_ble_eq_true rfl⟩ rfl (st_cell J27.1 gb4) (Nat.le_of_ble_eq_true rfl) (dk rfl) ?_
          rintro _ h89 rfl J90
          refine br_ok X (dk rfl) rfl (show ((131 : Nat) : Int) + 31 = ((162 : Nat) : Int) from rfl) (fun _ => ?_) (fun q => absurd trivial q)
          exact retv_ok X hr hlk (dk rfl) ⟨rfl, J90⟩ (Nat.le_of_ble_eq_true rfl) (Nat.le_of_ble_eq_true rfl)
      · iterate 3 refine fst1_ok X (dk rfl) rfl ?_
        refine callVW_ok (ci := 6) (T := TX4) (N := 5) (av := [.int _, .int _]) (r := []) X E J27 (c4_standFor _ J27.1 T0 _ _) lkX4_standFor mlX4_93 lmX4_standFor lpX4_standFor ⟨Nat.le_of_ble_eq_true rfl, Nat.le_of_ble_eq_true rfl⟩ ⟨Nat.le_of_ble_eq_true rfl, Nat.le_of_ble_eq_true rfl⟩ rfl (st_cell J27.1 gb4) (Nat.le_of_ble_eq_true rfl) (dk rfl) ?_
        rintro _ h91 rfl J92
        refine br_ok X (dk rfl) rfl (show ((113 : Nat) : Int) + 49 = ((162 : Nat) : Int) from rfl) (fun _ => ?_) (fun q => absurd trivial q)
        exact retv_ok X hr hlk (dk rfl) ⟨rfl, J92⟩ (Nat.le_of_ble_eq_true rfl) (Nat.le_of_ble_eq_true rfl)
    · iterate 3 refine fst1_ok X (dk rfl) rfl ?_
      refine callVW_ok (ci := 6) (T := TX4) (N := 5) (av := [.int _, .int _]) (r := []) X E J27 (c4_joinNames _ J27.1 T0 _ _) lkX4_joinNames mlX4_90 lmX4_joinNames lpX4_joinNames ⟨Nat.le_of_ble_eq_true rfl, Nat.le_of_ble_eq_true rfl⟩ ⟨Nat.le_of_ble_eq_true rfl, Nat.le_of_ble_eq_true rfl⟩ rfl (st_cell J27.1 gb4) (Nat.le_of_ble_eq_true rfl) (dk rfl) ?_
      rintro _ h93 rfl J94
      refine br_ok X (dk rfl) rfl (show ((95 : Nat) : Int) + 67 = ((162 : Nat) : Int) from rfl) (fun _ => ?_) (fun q => absurd trivial q)
      exact retv_ok X hr hlk (dk rfl) ⟨rfl, J94⟩ (Nat.le_of_ble_eq_true rfl) (Nat.le_of_ble_eq_true rfl)
set_option maxHeartbeats 4000000 in
theorem FZ.c4_makeAlike (h : AH) (I : Tyg Γ h) {o0 : Nat} (T0 : StepsT Γ o0) {o1 L1 : Nat} {w1 : Bool} (T1 : TermG w1 Γ o1 L1) {o2 L2 : Nat} {w2 : Bool} (T2 : TermG w2 Γ o2 L2) : CT la D cA B0 pa yX4_makeAlike cX4_makeAlike 4 (some .boolean) (rmD 4 0 0) [.ref o0, .ref o1, .ref o2] h (WrO Γ bP h) := by
  refine CT_of (by decide +kernel) (Nat.le_of_ble_eq_true rfl) ?_
  intro p e s m args below meth c X E hr hlk hnm
  have dk : ∀ {pc : Nat} {q : Instr × Nat}, lkd DX4_makeAlike pc = some q → decode cX4_makeAlike pc = .ok q := lkd_ok DX4_makeAlike_ok
  obtain ⟨bo1, st2, pr3, gb4, tb5, gs6, tp7⟩ := id T0
  obtain ⟨hL9, q8, gb10, gl11⟩ := id T1
  obtain ⟨hL13, q12, gb14, gl15⟩ := id T2
  have L48 : ∀ j16 : Int32, ∀ (h18 : AH) (J19 : TI Γ h h18) (l : List (Nat × Value)), lsel l [3, 0] = [(3, .int (j16)), (0, .ref o0)] → WR p la e (rmD 4 0 0) s m args below meth c D cA B0 4 (WrO Γ bP h) 48 l [] h18 0 0 := by
    refine loopUp (fun j16 ih48 => ?_)
    intro h18 J19 l hl
    refine WS.sel [3, 0] hl ?_
    refine fst1_ok X (dk rfl) rfl ?_
    refine ldc_ok X csX4_59 (dk rfl) ?_
    refine br_ok X (dk rfl) rfl (show ((51 : Nat) : Int) + 30 = ((81 : Nat) : Int) from rfl) (fun c20 => ?_) (fun c21 => ?_)
    · refine fst1_ok X (dk rfl) rfl ?_
      obtain ⟨t23, e24, hx22⟩ := st_open J19.1 gb4
      refine getf_ok X flX4_56 (dk rfl) hx22 rfl ?_
      refine br_ok X (dk rfl) rfl (show ((85 : Nat) : Int) + 7 = ((92 : Nat) : Int) from rfl) (fun c25 => ?_) (fun c26 => ?_)
      · refine fst1_ok X (dk rfl) rfl ?_
        exact reti_ok X hr hlk (bI_n false) (dk rfl) ⟨⟨false, rfl⟩, J19⟩ (Nat.le_of_ble_eq_true rfl) (Nat.le_of_ble_eq_true rfl)
      · refine fst1_ok X (dk rfl) rfl ?_
        refine br_ok X (dk rfl) rfl (show ((89 : Nat) : Int) + 4 = ((93 : Nat) : Int) from rfl) (fun _ => ?_) (fun q => absurd trivial q)
        exact reti_ok X hr hlk (bI_n true) (dk rfl) ⟨⟨true, rfl⟩, J19⟩ (Nat.le_of_ble_eq_true rfl) (Nat.le_of_ble_eq_true rfl)
    · refine fst1_ok X (dk rfl) rfl ?_
      obtain ⟨t28, e29, hx27⟩ := st_open J19.1 gb4
      refine getf_ok X flX4_27 (dk rfl) hx27 rfl ?_
      obtain ⟨a30, a31, gb32, g33, g34⟩ := id tp7
      refine callVR_ok (ci := 4) (T := TX2) (N := 3) (av := []) (r := []) X E (c2_length _ J19.1 tp7) lkX2_length mlX4_60 lmX2_length lpX2_length ⟨Nat.le_of_ble_eq_true rfl, Nat.le_of_ble_eq_true rfl⟩ ⟨Nat.le_of_ble_eq_true rfl, Nat.le_of_ble_eq_true rfl⟩ rfl (pr_cell J19.1 gb32) (Nat.le_of_ble_eq_true rfl) (dk rfl) ?_
      rintro _ ⟨n35, hn36, rfl⟩
      refine br_ok X (dk rfl) rfl (show ((61 : Nat) : Int) + 20 = ((81 : Nat) : Int) from rfl) (fun c37 => ?_) (fun c38 => ?_)
      · refine fst1_ok X (dk rfl) rfl ?_
        refine getf_ok X flX4_56 (dk rfl) hx27 rfl ?_
        refine br_ok X (dk rfl) rfl (show ((85 : Nat) : Int) + 7 = ((92 : Nat) : Int) from rfl) (fun c39 => ?_) (fun c40 => ?_)
        · refine fst1_ok X (dk rfl) rfl ?_
          exact reti_ok X hr hlk (bI_n false) (dk rfl) ⟨⟨false, rfl⟩, J19⟩ (Nat.le_of_ble_eq_true rfl) (Nat.le_of_ble_eq_true rfl)
        · refine fst1_ok X (dk rfl) rfl ?_
          refine br_ok X (dk rfl) rfl (show ((89 : Nat) : Int) + 4 = ((93 : Nat) : Int) from rfl) (fun _ => ?_) (fun q => absurd trivial q)
          exact reti_ok X hr hlk (bI_n true) (dk rfl) ⟨⟨true, rfl⟩, J19⟩ (Nat.le_of_ble_eq_true rfl) (Nat.le_of_ble_eq_true rfl)
      · refine fst1_ok X (dk rfl) rfl ?_
        refine getf_ok X flX4_56 (dk rfl) hx27 rfl ?_
        refine br_ok X (dk rfl) rfl (show ((68 : Nat) : Int) + 13 = ((81 : Nat) : Int) from rfl) (fun c41 => ?_) (fun c42 => ?_)
        · refine fst1_ok X (dk rfl) rfl ?_
          refine getf_ok X flX4_56 (dk rfl) hx27 rfl ?_
          refine br_ok X (dk rfl) rfl (show ((85 : Nat) : Int) + 7 = ((92 : Nat) : Int) from rfl) (fun c43 => ?_) (fun c44 => ?_)
          · refine fst1_ok X (dk rfl) rfl ?_
            exact reti_ok X hr hlk (bI_n false) (dk rfl) ⟨⟨false, rfl⟩, J19⟩ (Nat.le_of_ble_eq_true rfl) (Nat.le_of_ble_eq_true rfl)
          · refine fst1_ok X (dk rfl) rfl ?_
            refine br_ok X (dk rfl) rfl (show ((89 : Nat) : Int) + 4 = ((93 : Nat) : Int) from rfl) (fun _ => ?_) (fun q => absurd trivial q)
            exact reti_ok X hr hlk (bI_n true) (dk rfl) ⟨⟨true, rfl⟩, J19⟩ (Nat.le_of_ble_eq_true rfl) (Nat.le_of_ble_eq_true rfl)
        · refine fst1_ok X (dk rfl) rfl ?_
          refine callVW_ok (ci := 6) (T := TX4) (N := 5) (av := []) (r := []) X E J19 (c4_takeStep _ J19.1 T0) lkX4_takeStep mlX4_61 lmX4_takeStep lpX4_takeStep ⟨Nat.le_of_ble_eq_true rfl, Nat.le_of_ble_eq_true rfl⟩ ⟨Nat.le_of_ble_eq_true rfl, Nat.le_of_ble_eq_true rfl⟩ rfl (st_cell J19.1 gb4) (Nat.le_of_ble_eq_true rfl) (dk rfl) ?_
          rintro _ h45 rfl J46
          refine fst1_ok X (dk rfl) rfl ?_
          refine br_ok X (dk rfl) rfl (show ((78 : Nat) : Int) + (-30) = ((48 : Nat) : Int) from rfl) (fun _ => ?_) (fun q => absurd trivial q)
          exact ih48 _ (nlt_of c21) h45 J46 _ rfl
  refine fst1_ok X (dk rfl) rfl ?_
  obtain ⟨t48, e49, hx47⟩ := st_open (TI.rf I).1 gb4
  refine getf_ok X flX4_14 (dk rfl) hx47 rfl ?_
  iterate 2 refine fst1_ok X (dk rfl) rfl ?_
  obtain ⟨hL51, q50, gb52, gl53⟩ := id tb5
  refine callVW_ok (ci := 7) (T := TX5) (N := 3) (av := [.ref _, .ref _]) (r := []) X E (TI.rf I) (c5_becomeBoth _ (TI.rf I).1 tb5 T1 T2) lkX5_becomeBoth mlX4_31 lmX5_becomeBoth lpX5_becomeBoth ⟨Nat.le_of_ble_eq_true rfl, Nat.le_of_ble_eq_true rfl⟩ ⟨Nat.le_of_ble_eq_true rfl, Nat.le_of_ble_eq_true rfl⟩ rfl (tm_cell (TI.rf I).1 gb52) (Nat.le_of_ble_eq_true rfl) (dk rfl) ?_
  rintro _ h54 rfl J55
  refine fst1_ok X (dk rfl) rfl ?_
  obtain ⟨t57, e58, hx56⟩ := st_open J55.1 gb4
  refine getf_ok X flX4_20 (dk rfl) hx56 rfl ?_
  refine fst1_ok X (dk rfl) rfl ?_
  refine callSW_ok (av := [.ref _, .int _]) (r := []) X E J55 (cJ7_fill _ J55.1 gs6 _ (by decide)) lkJ7_fill_53178 mlX4_35 lsJ7_fill_53178 ⟨Nat.le_of_ble_eq_true rfl, Nat.le_of_ble_eq_true rfl⟩ ⟨Nat.le_of_ble_eq_true rfl, Nat.le_of_ble_eq_true rfl⟩ (Nat.le_of_ble_eq_true rfl) (dk rfl) ?_
  rintro _ h59 rfl J60
  refine fst1_ok X (dk rfl) rfl ?_
  obtain ⟨t62, e63, hx61⟩ := st_open J60.1 gb4
  refine getf_ok X flX4_27 (dk rfl) hx61 rfl ?_
  obtain ⟨a64, a65, gb66, g67, g68⟩ := id tp7
  refine callVW_ok (ci := 4) (T := TX2) (N := 3) (av := []) (r := []) X E J60 (c2_empty _ J60.1 tp7) lkX2_empty mlX4_41 lmX2_empty lpX2_empty ⟨Nat.le_of_ble_eq_true rfl, Nat.le_of_ble_eq_true rfl⟩ ⟨Nat.le_of_ble_eq_true rfl, Nat.le_of_ble_eq_true rfl⟩ rfl (pr_cell J60.1 gb66) (Nat.le_of_ble_eq_true rfl) (dk rfl) ?_
  rintro _ h69 rfl J70
  refine fst1_ok X (dk rfl) rfl ?_
  obtain ⟨t72, e73, hx71⟩ := st_open J70.1 gb4
  refine getf_ok X flX4_27 (dk rfl) hx71 rfl ?_
  iterate 2 refine fst1_ok X (dk rfl) rfl ?_
  refine callVR_ok (ci := 7) (T := TX5) (N := 3) (av := []) (r := [_, _]) X E (c5_length _ J70.1 T1) lkX5_length mlX4_44 lmX5_length lpX5_length ⟨Nat.le_of_ble_eq_true rfl, Nat.le_of_ble_eq_true rfl⟩ ⟨Nat.le_of_ble_eq_true rfl, Nat.le_of_ble_eq_true rfl⟩ rfl (tm_cell J70.1 gb10) (Nat.le_of_ble_eq_true rfl) (dk rfl) ?_
  rintro _ ⟨n74, hn75, rfl⟩
  refine callVW_ok (ci := 4) (T := TX2) (N := 3) (av := [.int _, .int _]) (r := []) X E J70 (c2_add _ J70.1 tp7 _ _) lkX2_add mlX4_48 lmX2_add lpX2_add ⟨Nat.le_of_ble_eq_true rfl, Nat.le_of_ble_eq_true rfl⟩ ⟨Nat.le_of_ble_eq_true rfl, Nat.le_of_ble_eq_true rfl⟩ rfl (pr_cell J70.1 gb66) (Nat.le_of_ble_eq_true rfl) (dk rfl) ?_
  rintro _ h76 rfl J77
  iterate 2 refine fst1_ok X (dk rfl) rfl ?_
  obtain ⟨t79, e80, hx78⟩ := st_open J77.1 gb4
  refine putT_ok X flX4_52 ftX4_3 rfl rfl (dk rfl) hx78 (Nat.le_of_ble_eq_true rfl) J77 gb4 rfl (st_set3 _) (fun h81 J82 hx83 ho84 => ?_)
  iterate 2 refine fst1_ok X (dk rfl) rfl ?_
  refine putT_ok X flX4_56 ftX4_4 rfl rfl (dk rfl) hx83 (Nat.le_of_ble_eq_true rfl) J82 gb4 rfl (st_set4 _) (fun h85 J86 hx87 ho88 => ?_)
  iterate 2 refine fst1_ok X (dk rfl) rfl ?_
  exact L48 _ h85 J86 _ rfl
end M92
end Ud04f4
