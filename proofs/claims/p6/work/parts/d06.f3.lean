/-! the class, weakly, over types that keep contents: shapes (printed by wip/p20/genFZ.py from wip/p40/cl4.py) -/
section M94
variable {la : Launch} {D : va_G} {cA : Nat → ClassId} {B0 pa : Nat} {Γ : TY}
set_option maxHeartbeats 4000000 in
theorem FZ.c3_nameFor (h : AH) (I : Tyg Γ h) {o0 : Nat} (T0 : ShapeT Γ o0) {o1 L1 : Nat} {w1 : Bool} (T1 : TermG w1 Γ o1 L1) (x2 : Int32) {o3 L3 : Nat} {w3 : Bool} (T3 : TermG w3 Γ o3 L3) (x4 : Int32) : CT la D cA B0 pa yX3_nameFor cX3_nameFor 6 (some .int) (rmD 2 0 0) [.ref o0, .ref o1, .int (x2), .ref o3, .int (x4)] h (WrO Γ lP h) := by
  refine CT_of (by decide +kernel) (Nat.le_of_ble_eq_true rfl) ?_
  intro p e s m args below meth c X E hr hlk hnm
  have dk : ∀ {pc : Nat} {q : Instr × Nat}, lkd DX3_nameFor pc = some q → decode cX3_nameFor pc = .ok q := lkd_ok DX3_nameFor_ok
  obtain ⟨pr1, gb2, tp3⟩ := id T0
  obtain ⟨hL5, q4, gb6, gl7⟩ := id T1
  obtain ⟨hL9, q8, gb10, gl11⟩ := id T3
  have L3 : ∀ j12 : Nat, j12 ≤ 128 → ∀ (h18 : AH) (J19 : TI Γ h h18) (l : List (Nat × Value)), lsel l [5, 4, 3, 2, 1, 0] = [(5, vI j12), (4, .int (x4)), (3, .ref o3), (2, .int (x2)), (1, .ref o1), (0, .ref o0)] → WR p la e (rmD 2 0 0) s m args below meth c D cA B0 6 (WrO Γ lP h) 3 l [] h18 0 0 := by
    refine loopN (fun j12 hj12 ih3 => ?_)
    intro h18 J19 l hl
    refine WS.sel [5, 4, 3, 2, 1, 0] hl ?_
    iterate 2 refine fst1_ok X (dk rfl) rfl ?_
    have hx20 := is_open J19.1 gb2
    refine getf_ok X flX3_12 (dk rfl) hx20 rfl ?_
    obtain ⟨a21, a22, gb23, g24, g25⟩ := id tp3
    refine callVR_ok (ci := 4) (T := TX2) (N := 3) (av := []) (r := [_]) X E (c2_length _ J19.1 tp3) lkX2_length mlX3_47 lmX2_length lpX2_length ⟨Nat.le_of_ble_eq_true rfl, Nat.le_of_ble_eq_true rfl⟩ ⟨Nat.le_of_ble_eq_true rfl, Nat.le_of_ble_eq_true rfl⟩ rfl (pr_cell J19.1 gb23) (Nat.le_of_ble_eq_true rfl) (dk rfl) ?_
    rintro _ ⟨n26, hn27, rfl⟩
    refine br_ok X (dk rfl) rfl (show ((12 : Nat) : Int) + 49 = ((61 : Nat) : Int) from rfl) (fun c28 => ?_) (fun c29 => ?_)
    · refine fst1_ok X (dk rfl) rfl ?_
      refine getf_ok X flX3_12 (dk rfl) hx20 rfl ?_
      iterate 2 refine fst1_ok X (dk rfl) rfl ?_
      refine callVW_ok (ci := 4) (T := TX2) (N := 3) (av := [.int _, .int _]) (r := []) X E J19 (c2_add _ J19.1 tp3 _ _) lkX2_add mlX3_58 lmX2_add lpX2_add ⟨Nat.le_of_ble_eq_true rfl, Nat.le_of_ble_eq_true rfl⟩ ⟨Nat.le_of_ble_eq_true rfl, Nat.le_of_ble_eq_true rfl⟩ rfl (pr_cell J19.1 gb23) (Nat.le_of_ble_eq_true rfl) (dk rfl) ?_
      rintro _ h30 rfl J31
      refine fst1_ok X (dk rfl) rfl ?_
      have hx32 := is_open J31.1 gb2
      refine getf_ok X flX3_12 (dk rfl) hx32 rfl ?_
      refine callVR_ok (ci := 4) (T := TX2) (N := 3) (av := []) (r := []) X E (c2_length _ J31.1 tp3) lkX2_length mlX3_47 lmX2_length lpX2_length ⟨Nat.le_of_ble_eq_true rfl, Nat.le_of_ble_eq_true rfl⟩ ⟨Nat.le_of_ble_eq_true rfl, Nat.le_of_ble_eq_true rfl⟩ rfl (pr_cell J31.1 gb23) (Nat.le_of_ble_eq_true rfl) (dk rfl) ?_
      rintro _ ⟨n33, hn34, rfl⟩
      iterate 2 refine fst1_ok X (dk rfl) rfl ?_
      exact reti_ok X hr hlk rfl (dk rfl) ⟨⟨_, (LR_dec (by omega)), rfl⟩, J31⟩ (Nat.le_of_ble_eq_true rfl) (Nat.le_of_ble_eq_true rfl)
    · iterate 2 refine fst1_ok X (dk rfl) rfl ?_
      refine getf_ok X flX3_12 (dk rfl) hx20 rfl ?_
      refine fst1_ok X (dk rfl) rfl ?_
      refine callVR_ok (ci := 4) (T := TX2) (N := 3) (av := [.int _]) (r := [_]) X E (c2_oneAt _ J19.1 tp3 _) lkX2_oneAt mlX3_48 lmX2_oneAt lpX2_oneAt ⟨Nat.le_of_ble_eq_true rfl, Nat.le_of_ble_eq_true rfl⟩ ⟨Nat.le_of_ble_eq_true rfl, Nat.le_of_ble_eq_true rfl⟩ rfl (pr_cell J19.1 gb23) (Nat.le_of_ble_eq_true rfl) (dk rfl) ?_
      rintro _ ⟨x35, rfl⟩
      iterate 2 refine fst1_ok X (dk rfl) rfl ?_
      refine callVR_ok (ci := 7) (T := TX5) (N := 3) (av := [.int _, .ref _, .int _]) (r := []) X E (c5_isLikeAt _ J19.1 T1 _ T1 _) lkX5_isLikeAt mlX3_51 lmX5_isLikeAt lpX5_isLikeAt ⟨Nat.le_of_ble_eq_true rfl, Nat.le_of_ble_eq_true rfl⟩ ⟨Nat.le_of_ble_eq_true rfl, Nat.le_of_ble_eq_true rfl⟩ rfl (tm_cell J19.1 gb6) (Nat.le_of_ble_eq_true rfl) (dk rfl) ?_
      rintro _ ⟨b36, rfl⟩
      refine br_ok X (dk rfl) rfl (show ((30 : Nat) : Int) + 25 = ((55 : Nat) : Int) from rfl) (fun c37 => ?_) (fun c38 => ?_)
      · refine fst1_ok X (dk rfl) rfl ?_
        refine br_ok X (dk rfl) rfl (show ((58 : Nat) : Int) + (-55) = ((3 : Nat) : Int) from rfl) (fun _ => ?_) (fun q => absurd trivial q)
        exact ih3 (by have := nat_lt (K := n26) (by omega) c29; omega) h18 J19 _ (by rw [← vI_succ j12]; rfl)
      · iterate 2 refine fst1_ok X (dk rfl) rfl ?_
        refine getf_ok X flX3_12 (dk rfl) hx20 rfl ?_
        refine fst1_ok X (dk rfl) rfl ?_
        refine callVR_ok (ci := 4) (T := TX2) (N := 3) (av := [.int _]) (r := [_]) X E (c2_otherAt _ J19.1 tp3 _) lkX2_otherAt mlX3_55 lmX2_otherAt lpX2_otherAt ⟨Nat.le_of_ble_eq_true rfl, Nat.le_of_ble_eq_true rfl⟩ ⟨Nat.le_of_ble_eq_true rfl, Nat.le_of_ble_eq_true rfl⟩ rfl (pr_cell J19.1 gb23) (Nat.le_of_ble_eq_true rfl) (dk rfl) ?_
        rintro _ ⟨x39, rfl⟩
        iterate 2 refine fst1_ok X (dk rfl) rfl ?_
        refine callVR_ok (ci := 7) (T := TX5) (N := 3) (av := [.int _, .ref _, .int _]) (r := []) X E (c5_isLikeAt _ J19.1 T3 _ T3 _) lkX5_isLikeAt mlX3_51 lmX5_isLikeAt lpX5_isLikeAt ⟨Nat.le_of_ble_eq_true rfl, Nat.le_of_ble_eq_true rfl⟩ ⟨Nat.le_of_ble_eq_true rfl, Nat.le_of_ble_eq_true rfl⟩ rfl (tm_cell J19.1 gb10) (Nat.le_of_ble_eq_true rfl) (dk rfl) ?_
        rintro _ ⟨b40, rfl⟩
        refine br_ok X (dk rfl) rfl (show ((49 : Nat) : Int) + 6 = ((55 : Nat) : Int) from rfl) (fun c41 => ?_) (fun c42 => ?_)
        · refine fst1_ok X (dk rfl) rfl ?_
          refine br_ok X (dk rfl) rfl (show ((58 : Nat) : Int) + (-55) = ((3 : Nat) : Int) from rfl) (fun _ => ?_) (fun q => absurd trivial q)
          exact ih3 (by have := nat_lt (K := n26) (by omega) c29; omega) h18 J19 _ (by rw [← vI_succ j12]; rfl)
        · refine fst1_ok X (dk rfl) rfl ?_
          exact reti_ok X hr hlk rfl (dk rfl) ⟨⟨_, (LR_nI (by omega)), rfl⟩, J19⟩ (Nat.le_of_ble_eq_true rfl) (Nat.le_of_ble_eq_true rfl)
  iterate 2 refine fst1_ok X (dk rfl) rfl ?_
  exact L3 0 (by omega) h (TI.rf I) _ rfl
set_option maxHeartbeats 4000000 in
theorem FZ.c3_drawInto (h : AH) (I : Tyg Γ h) {o0 : Nat} (T0 : ShapeT Γ o0) {o1 L1 : Nat} {w1 : Bool} (T1 : TermG w1 Γ o1 L1) {o2 L2 : Nat} {w2 : Bool} (T2 : TermG w2 Γ o2 L2) {o3 L3 : Nat} (T3 : TermG true Γ o3 L3) : CT la D cA B0 pa yX3_drawInto cX3_drawInto 8 (some .boolean) (rmD 3 0 0) [.ref o0, .ref o1, .ref o2, .ref o3] h (WrO Γ bP h) := by
  refine CT_of (by decide +kernel) (Nat.le_of_ble_eq_true rfl) ?_
  intro p e s m args below meth c X E hr hlk hnm
  have dk : ∀ {pc : Nat} {q : Instr × Nat}, lkd DX3_drawInto pc = some q → decode cX3_drawInto pc = .ok q := lkd_ok DX3_drawInto_ok
  obtain ⟨pr1, gb2, tp3⟩ := id T0
  obtain ⟨hL5, q4, gb6, gl7⟩ := id T1
  obtain ⟨hL9, q8, gb10, gl11⟩ := id T2
  obtain ⟨hL13, q12, gb14, gl15⟩ := id T3
  have L20 : ∀ j16 : Int32, ∀ (y17 : Int32) (y18 : Int32) (h23 : AH) (J24 : TI Γ h h23) (l : List (Nat × Value)), lsel l [6, 5, 4, 3, 2, 1, 0] = [(6, .int (j16)), (5, .int (y17)), (4, .int (y18)), (3, .ref o3), (2, .ref o2), (1, .ref o1), (0, .ref o0)] → WR p la e (rmD 3 0 0) s m args below meth c D cA B0 8 (WrO Γ bP h) 20 l [] h23 0 0 := by
    refine loopUp (fun j16 ih20 => ?_)
    intro y17 y18 h23 J24 l hl
    refine WS.sel [6, 5, 4, 3, 2, 1, 0] hl ?_
    iterate 2 refine fst1_ok X (dk rfl) rfl ?_
    refine br_ok X (dk rfl) rfl (show ((24 : Nat) : Int) + 90 = ((114 : Nat) : Int) from rfl) (fun c25 => ?_) (fun c26 => ?_)
    · refine fst1_ok X (dk rfl) rfl ?_
      have hx27 := is_open J24.1 gb2
      refine getf_ok X flX3_12 (dk rfl) hx27 rfl ?_
      obtain ⟨a28, a29, gb30, g31, g32⟩ := id tp3
      refine callVR_ok (ci := 4) (T := TX2) (N := 3) (av := []) (r := []) X E (c2_length _ J24.1 tp3) lkX2_length mlX3_47 lmX2_length lpX2_length ⟨Nat.le_of_ble_eq_true rfl, Nat.le_of_ble_eq_true rfl⟩ ⟨Nat.le_of_ble_eq_true rfl, Nat.le_of_ble_eq_true rfl⟩ rfl (pr_cell J24.1 gb30) (Nat.le_of_ble_eq_true rfl) (dk rfl) ?_
      rintro _ ⟨n33, hn34, rfl⟩
      refine fst1_ok X (dk rfl) rfl ?_
      refine br_ok X (dk rfl) rfl (show ((123 : Nat) : Int) + 7 = ((130 : Nat) : Int) from rfl) (fun c35 => ?_) (fun c36 => ?_)
      · refine fst1_ok X (dk rfl) rfl ?_
        exact reti_ok X hr hlk (bI_n false) (dk rfl) ⟨⟨false, rfl⟩, J24⟩ (Nat.le_of_ble_eq_true rfl) (Nat.le_of_ble_eq_true rfl)
      · refine fst1_ok X (dk rfl) rfl ?_
        refine br_ok X (dk rfl) rfl (show ((127 : Nat) : Int) + 4 = ((131 : Nat) : Int) from rfl) (fun _ => ?_) (fun q => absurd trivial q)
        exact reti_ok X hr hlk (bI_n true) (dk rfl) ⟨⟨true, rfl⟩, J24⟩ (Nat.le_of_ble_eq_true rfl) (Nat.le_of_ble_eq_true rfl)
    · iterate 2 refine fst1_ok X (dk rfl) rfl ?_
      refine callVR_ok (ci := 7) (T := TX5) (N := 3) (av := []) (r := [_]) X E (c5_length _ J24.1 T1) lkX5_length mlX3_24 lmX5_length lpX5_length ⟨Nat.le_of_ble_eq_true rfl, Nat.le_of_ble_eq_true rfl⟩ ⟨Nat.le_of_ble_eq_true rfl, Nat.le_of_ble_eq_true rfl⟩ rfl (tm_cell J24.1 gb6) (Nat.le_of_ble_eq_true rfl) (dk rfl) ?_
      rintro _ ⟨n37, hn38, rfl⟩
      refine br_ok X (dk rfl) rfl (show ((33 : Nat) : Int) + 81 = ((114 : Nat) : Int) from rfl) (fun c39 => ?_) (fun c40 => ?_)
      · refine fst1_ok X (dk rfl) rfl ?_
        have hx41 := is_open J24.1 gb2
        refine getf_ok X flX3_12 (dk rfl) hx41 rfl ?_
        obtain ⟨a42, a43, gb44, g45, g46⟩ := id tp3
        refine callVR_ok (ci := 4) (T := TX2) (N := 3) (av := []) (r := []) X E (c2_length _ J24.1 tp3) lkX2_length mlX3_47 lmX2_length lpX2_length ⟨Nat.le_of_ble_eq_true rfl, Nat.le_of_ble_eq_true rfl⟩ ⟨Nat.le_of_ble_eq_true rfl, Nat.le_of_ble_eq_true rfl⟩ rfl (pr_cell J24.1 gb44) (Nat.le_of_ble_eq_true rfl) (dk rfl) ?_
        rintro _ ⟨n47, hn48, rfl⟩
        refine fst1_ok X (dk rfl) rfl ?_
        refine br_ok X (dk rfl) rfl (show ((123 : Nat) : Int) + 7 = ((130 : Nat) : Int) from rfl) (fun c49 => ?_) (fun c50 => ?_)
        · refine fst1_ok X (dk rfl) rfl ?_
          exact reti_ok X hr hlk (bI_n false) (dk rfl) ⟨⟨false, rfl⟩, J24⟩ (Nat.le_of_ble_eq_true rfl) (Nat.le_of_ble_eq_true rfl)
        · refine fst1_ok X (dk rfl) rfl ?_
          refine br_ok X (dk rfl) rfl (show ((127 : Nat) : Int) + 4 = ((131 : Nat) : Int) from rfl) (fun _ => ?_) (fun q => absurd trivial q)
          exact reti_ok X hr hlk (bI_n true) (dk rfl) ⟨⟨true, rfl⟩, J24⟩ (Nat.le_of_ble_eq_true rfl) (Nat.le_of_ble_eq_true rfl)
      · iterate 2 refine fst1_ok X (dk rfl) rfl ?_
        refine callVR_ok (ci := 7) (T := TX5) (N := 3) (av := [.int _]) (r := []) X E (c5_letterAt _ J24.1 T1 _) lkX5_letterAt mlX3_28 lmX5_letterAt lpX5_letterAt ⟨Nat.le_of_ble_eq_true rfl, Nat.le_of_ble_eq_true rfl⟩ ⟨Nat.le_of_ble_eq_true rfl, Nat.le_of_ble_eq_true rfl⟩ rfl (tm_cell J24.1 gb6) (Nat.le_of_ble_eq_true rfl) (dk rfl) ?_
        rintro _ ⟨x51, hx52, rfl⟩
        iterate 2 refine fst1_ok X (dk rfl) rfl ?_
        refine callNR_ok (av := [.int _]) (r := []) X E (c6_isHead _ J24.1 _) lkX6_isHead mnX3_32 lsX6_isHead ⟨Nat.le_of_ble_eq_true rfl, Nat.le_of_ble_eq_true rfl⟩ ⟨Nat.le_of_ble_eq_true rfl, Nat.le_of_ble_eq_true rfl⟩ (Nat.le_of_ble_eq_true rfl) (dk rfl) ?_
        rintro _ ⟨b53, rfl⟩
        refine br_ok X (dk rfl) rfl (show ((49 : Nat) : Int) + 29 = ((78 : Nat) : Int) from rfl) (fun c54 => ?_) (fun c55 => ?_)
        · iterate 6 refine fst1_ok X (dk rfl) rfl ?_
          refine callVW_ok (ci := 5) (T := TX3) (N := 1) (av := [.ref _, .int _, .ref _, .int _]) (r := [_]) X E J24 (c3_nameFor _ J24.1 T0 T1 _ T2 _) lkX3_nameFor mlX3_40 lmX3_nameFor lpX3_nameFor ⟨Nat.le_of_ble_eq_true rfl, Nat.le_of_ble_eq_true rfl⟩ ⟨Nat.le_of_ble_eq_true rfl, Nat.le_of_ble_eq_true rfl⟩ rfl (is_cell J24.1 gb2) (Nat.le_of_ble_eq_true rfl) (dk rfl) ?_
          rintro _ h58 ⟨x56, hx57, rfl⟩ J59
          refine callVW_ok (ci := 7) (T := TX5) (N := 3) (av := [.int _]) (r := []) X E J59 (c5_add _ J59.1 T3 _ hx57) lkX5_add mlX3_36 lmX5_add lpX5_add ⟨Nat.le_of_ble_eq_true rfl, Nat.le_of_ble_eq_true rfl⟩ ⟨Nat.le_of_ble_eq_true rfl, Nat.le_of_ble_eq_true rfl⟩ rfl (tm_cell J59.1 gb14) (Nat.le_of_ble_eq_true rfl) (dk rfl) ?_
          rintro _ h60 rfl J61
          iterate 2 refine fst1_ok X (dk rfl) rfl ?_
          refine callVR_ok (ci := 7) (T := TX5) (N := 3) (av := [.int _]) (r := []) X E (c5_endOf _ J61.1 T1 _) lkX5_endOf mlX3_44 lmX5_endOf lpX5_endOf ⟨Nat.le_of_ble_eq_true rfl, Nat.le_of_ble_eq_true rfl⟩ ⟨Nat.le_of_ble_eq_true rfl, Nat.le_of_ble_eq_true rfl⟩ rfl (tm_cell J61.1 gb6) (Nat.le_of_ble_eq_true rfl) (dk rfl) ?_
          rintro _ ⟨x62, rfl⟩
          iterate 3 refine fst1_ok X (dk rfl) rfl ?_
          refine callVR_ok (ci := 7) (T := TX5) (N := 3) (av := [.int _]) (r := []) X E (c5_endOf _ J61.1 T2 _) lkX5_endOf mlX3_44 lmX5_endOf lpX5_endOf ⟨Nat.le_of_ble_eq_true rfl, Nat.le_of_ble_eq_true rfl⟩ ⟨Nat.le_of_ble_eq_true rfl, Nat.le_of_ble_eq_true rfl⟩ rfl (tm_cell J61.1 gb10) (Nat.le_of_ble_eq_true rfl) (dk rfl) ?_
          rintro _ ⟨x63, rfl⟩
          iterate 2 refine fst1_ok X (dk rfl) rfl ?_
          refine br_ok X (dk rfl) rfl (show ((111 : Nat) : Int) + (-91) = ((20 : Nat) : Int) from rfl) (fun _ => ?_) (fun q => absurd trivial q)
          exact ih20 _ (nlt_of c26) _ _ h60 J61 _ rfl
        · iterate 3 refine fst1_ok X (dk rfl) rfl ?_
          refine callVR_ok (ci := 7) (T := TX5) (N := 3) (av := [.int _]) (r := [_]) X E (c5_letterAt _ J24.1 T2 _) lkX5_letterAt mlX3_28 lmX5_letterAt lpX5_letterAt ⟨Nat.le_of_ble_eq_true rfl, Nat.le_of_ble_eq_true rfl⟩ ⟨Nat.le_of_ble_eq_true rfl, Nat.le_of_ble_eq_true rfl⟩ rfl (tm_cell J24.1 gb10) (Nat.le_of_ble_eq_true rfl) (dk rfl) ?_
          rintro _ ⟨x64, hx65, rfl⟩
          refine br_ok X (dk rfl) rfl (show ((60 : Nat) : Int) + 18 = ((78 : Nat) : Int) from rfl) (fun c66 => ?_) (fun c67 => ?_)
          · iterate 6 refine fst1_ok X (dk rfl) rfl ?_
            refine callVW_ok (ci := 5) (T := TX3) (N := 1) (av := [.ref _, .int _, .ref _, .int _]) (r := [_]) X E J24 (c3_nameFor _ J24.1 T0 T1 _ T2 _) lkX3_nameFor mlX3_40 lmX3_nameFor lpX3_nameFor ⟨Nat.le_of_ble_eq_true rfl, Nat.le_of_ble_eq_true rfl⟩ ⟨Nat.le_of_ble_eq_true rfl, Nat.le_of_ble_eq_true rfl⟩ rfl (is_cell J24.1 gb2) (Nat.le_of_ble_eq_true rfl) (dk rfl) ?_
            rintro _ h70 ⟨x68, hx69, rfl⟩ J71
            refine callVW_ok (ci := 7) (T := TX5) (N := 3) (av := [.int _]) (r := []) X E J71 (c5_add _ J71.1 T3 _ hx69) lkX5_add mlX3_36 lmX5_add lpX5_add ⟨Nat.le_of_ble_eq_true rfl, Nat.le_of_ble_eq_true rfl⟩ ⟨Nat.le_of_ble_eq_true rfl, Nat.le_of_ble_eq_true rfl⟩ rfl (tm_cell J71.1 gb14) (Nat.le_of_ble_eq_true rfl) (dk rfl) ?_
            rintro _ h72 rfl J73
            iterate 2 refine fst1_ok X (dk rfl) rfl ?_
            refine callVR_ok (ci := 7) (T := TX5) (N := 3) (av := [.int _]) (r := []) X E (c5_endOf _ J73.1 T1 _) lkX5_endOf mlX3_44 lmX5_endOf lpX5_endOf ⟨Nat.le_of_ble_eq_true rfl, Nat.le_of_ble_eq_true rfl⟩ ⟨Nat.le_of_ble_eq_true rfl, Nat.le_of_ble_eq_true rfl⟩ rfl (tm_cell J73.1 gb6) (Nat.le_of_ble_eq_true rfl) (dk rfl) ?_
            rintro _ ⟨x74, rfl⟩
            iterate 3 refine fst1_ok X (dk rfl) rfl ?_
            refine callVR_ok (ci := 7) (T := TX5) (N := 3) (av := [.int _]) (r := []) X E (c5_endOf _ J73.1 T2 _) lkX5_endOf mlX3_44 lmX5_endOf lpX5_endOf ⟨Nat.le_of_ble_eq_true rfl, Nat.le_of_ble_eq_true rfl⟩ ⟨Nat.le_of_ble_eq_true rfl, Nat.le_of_ble_eq_true rfl⟩ rfl (tm_cell J73.1 gb10) (Nat.le_of_ble_eq_true rfl) (dk rfl) ?_
            rintro _ ⟨x75, rfl⟩
            iterate 2 refine fst1_ok X (dk rfl) rfl ?_
            refine br_ok X (dk rfl) rfl (show ((111 : Nat) : Int) + (-91) = ((20 : Nat) : Int) from rfl) (fun _ => ?_) (fun q => absurd trivial q)
            exact ih20 _ (nlt_of c26) _ _ h72 J73 _ rfl
          · iterate 2 refine fst1_ok X (dk rfl) rfl ?_
            refine callVW_ok (ci := 7) (T := TX5) (N := 3) (av := [.int _]) (r := []) X E J24 (c5_add _ J24.1 T3 _ hx52) lkX5_add mlX3_36 lmX5_add lpX5_add ⟨Nat.le_of_ble_eq_true rfl, Nat.le_of_ble_eq_true rfl⟩ ⟨Nat.le_of_ble_eq_true rfl, Nat.le_of_ble_eq_true rfl⟩ rfl (tm_cell J24.1 gb14) (Nat.le_of_ble_eq_true rfl) (dk rfl) ?_
            rintro _ h76 rfl J77
            iterate 2 refine fst1_ok X (dk rfl) rfl ?_
            refine br_ok X (dk rfl) rfl (show ((75 : Nat) : Int) + 33 = ((108 : Nat) : Int) from rfl) (fun _ => ?_) (fun q => absurd trivial q)
            refine fst1_ok X (dk rfl) rfl ?_
            refine br_ok X (dk rfl) rfl (show ((111 : Nat) : Int) + (-91) = ((20 : Nat) : Int) from rfl) (fun _ => ?_) (fun q => absurd trivial q)
            exact ih20 _ (nlt_of c26) _ _ h76 J77 _ rfl
  refine fst1_ok X (dk rfl) rfl ?_
  have hx78 := is_open (TI.rf I).1 gb2
  refine getf_ok X flX3_12 (dk rfl) hx78 rfl ?_
  obtain ⟨a79, a80, gb81, g82, g83⟩ := id tp3
  refine callVW_ok (ci := 4) (T := TX2) (N := 3) (av := []) (r := []) X E (TI.rf I) (c2_empty _ (TI.rf I).1 tp3) lkX2_empty mlX3_18 lmX2_empty lpX2_empty ⟨Nat.le_of_ble_eq_true rfl, Nat.le_of_ble_eq_true rfl⟩ ⟨Nat.le_of_ble_eq_true rfl, Nat.le_of_ble_eq_true rfl⟩ rfl (pr_cell (TI.rf I).1 gb81) (Nat.le_of_ble_eq_true rfl) (dk rfl) ?_
  rintro _ h84 rfl J85
  refine fst1_ok X (dk rfl) rfl ?_
  refine callVW_ok (ci := 7) (T := TX5) (N := 3) (av := []) (r := []) X E J85 (c5_empty _ J85.1 T3) lkX5_empty mlX3_21 lmX5_empty lpX5_empty ⟨Nat.le_of_ble_eq_true rfl, Nat.le_of_ble_eq_true rfl⟩ ⟨Nat.le_of_ble_eq_true rfl, Nat.le_of_ble_eq_true rfl⟩ rfl (tm_cell J85.1 gb14) (Nat.le_of_ble_eq_true rfl) (dk rfl) ?_
  rintro _ h86 rfl J87
  iterate 6 refine fst1_ok X (dk rfl) rfl ?_
  exact L20 _ _ _ h86 J87 _ rfl
end M94
