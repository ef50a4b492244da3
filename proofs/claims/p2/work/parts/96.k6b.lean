/-! the class, weakly: acts (printed by wip/p40/cl6.py) -/
section M96
variable {la : Launch} {D : va_G} {cA : Nat → ClassId} {B0 pa : Nat} {Γ : TY}
set_option maxHeartbeats 4000000 in
theorem c6_name (h : AH) (hl : la.stackTraces = false) (I : Tyg Γ h) {o0 : Nat} {kn : Int32} (T0 : BmT Γ o0 kn) (x1 : Int32) (x2 : Int32) : CTX la D cA B0 pa yX6_name cX6_name 5 (some .int) (rmD 7 2 12) [.ref o0, .int (x1), .int (x2)] h (WrO Γ iP h) (pxW [ioobe, iae] Γ h) := by
  refine CTX_of (by decide +kernel) (Nat.le_of_ble_eq_true rfl) ?_
  intro p e s m args below meth c X E hr hlk hnm ht
  have dk : ∀ {pc : Nat} {q : Instr × Nat}, lkd DX6_name pc = some q → decode cX6_name pc = .ok q := lkd_ok DX6_name_ok
  obtain ⟨S1, A2, sp3, os4, wd5, ow6, sa7, oa8, bs9, bc10, sh11, ss12, as13, gb14, gS15, gA16, sl17, sT18, al19, aT20, tsp21, tos22, twd23, tow24, tsa25, toa26, tbs27, tbc28, tsh29⟩ := id T0
  iterate 2 refine fst1_ok X (dk rfl) rfl ?_
  refine callVXW_ok (ci := 8) (T := TX6) (N := 14) (av := [.int _]) (r := []) X E (TI.rf I) ht hlk (c6_termOf _ hl (TI.rf I).1 T0 _) (by simp) lkX6_termOf mlX6_69 lmX6_termOf lpX6_termOf ⟨Nat.le_of_ble_eq_true rfl, Nat.le_of_ble_eq_true rfl⟩ ⟨Nat.le_of_ble_eq_true rfl, Nat.le_of_ble_eq_true rfl⟩ rfl (bm_cell (TI.rf I).1 gb14) (Nat.le_of_ble_eq_true rfl) (dk rfl) ?_
  rintro _ h32 ⟨b30, rfl, tb31⟩ J33
  iterate 2 refine fst1_ok X (dk rfl) rfl ?_
  refine callSXW_ok (av := [.int _]) (r := []) X E J33 ht hlk (c6_needName _ hl J33.1 _) (by simp) lkX6_needName mlX6_73 lsX6_needName ⟨Nat.le_of_ble_eq_true rfl, Nat.le_of_ble_eq_true rfl⟩ ⟨Nat.le_of_ble_eq_true rfl, Nat.le_of_ble_eq_true rfl⟩ (Nat.le_of_ble_eq_true rfl) (dk rfl) ?_
  rintro _ h35 ⟨rfl, hN34⟩ J36
  refine fst1_ok X (dk rfl) rfl ?_
  obtain ⟨hL38, q37, gb39, gl40⟩ := id tb31
  refine callVR_ok (ci := 7) (T := TX5) (N := 3) (av := []) (r := []) X E (c5_length _ J36.1 tb31) lkX5_length mlX6_76 lmX5_length lpX5_length ⟨Nat.le_of_ble_eq_true rfl, Nat.le_of_ble_eq_true rfl⟩ ⟨Nat.le_of_ble_eq_true rfl, Nat.le_of_ble_eq_true rfl⟩ rfl (tm_cell J36.1 gb39) (Nat.le_of_ble_eq_true rfl) (dk rfl) ?_
  rintro _ ⟨n41, hn42, rfl⟩
  iterate 3 refine fst1_ok X (dk rfl) rfl ?_
  refine callVW_ok (ci := 7) (T := TX5) (N := 3) (av := [.int _]) (r := []) X E J36 (c5_becomeName _ J36.1 tb31 _ (LR_inN hN34 (by decide))) lkX5_becomeName mlX6_66 lmX5_becomeName lpX5_becomeName ⟨Nat.le_of_ble_eq_true rfl, Nat.le_of_ble_eq_true rfl⟩ ⟨Nat.le_of_ble_eq_true rfl, Nat.le_of_ble_eq_true rfl⟩ rfl (tm_cell J36.1 gb39) (Nat.le_of_ble_eq_true rfl) (dk rfl) ?_
  rintro _ h43 rfl J44
  iterate 2 refine fst1_ok X (dk rfl) rfl ?_
  refine callVW_ok (ci := 8) (T := TX6) (N := 14) (av := [.int _]) (r := []) X E J44 (c6_did _ J44.1 T0 _) lkX6_did mlX6_80 lmX6_did lpX6_did ⟨Nat.le_of_ble_eq_true rfl, Nat.le_of_ble_eq_true rfl⟩ ⟨Nat.le_of_ble_eq_true rfl, Nat.le_of_ble_eq_true rfl⟩ rfl (bm_cell J44.1 gb14) (Nat.le_of_ble_eq_true rfl) (dk rfl) ?_
  rintro _ h46 ⟨x45, rfl⟩ J47
  refine WRX.ret ?_
  exact reti_ok X hr hlk rfl (dk rfl) ⟨⟨_, rfl⟩, J47⟩ (Nat.le_of_ble_eq_true rfl) (Nat.le_of_ble_eq_true rfl)
set_option maxHeartbeats 4000000 in
theorem c6_head (h : AH) (hl : la.stackTraces = false) (I : Tyg Γ h) {o0 : Nat} {kn : Int32} (T0 : BmT Γ o0 kn) (x1 : Int32) (x2 : Int32) (x3 : Int32) (x4 : Int32) (x5 : Int32) : CTX la D cA B0 pa yX6_head cX6_head 12 (some .int) (rmD 7 5 30) [.ref o0, .int (x1), .int (x2), .int (x3), .int (x4), .int (x5)] h (WrO Γ iP h) (pxW [ioobe, iae] Γ h) := by
  refine CTX_of (by decide +kernel) (Nat.le_of_ble_eq_true rfl) ?_
  intro p e s m args below meth c X E hr hlk hnm ht
  have dk : ∀ {pc : Nat} {q : Instr × Nat}, lkd DX6_head pc = some q → decode cX6_head pc = .ok q := lkd_ok DX6_head_ok
  obtain ⟨S1, A2, sp3, os4, wd5, ow6, sa7, oa8, bs9, bc10, sh11, ss12, as13, gb14, gS15, gA16, sl17, sT18, al19, aT20, tsp21, tos22, twd23, tow24, tsa25, toa26, tbs27, tbc28, tsh29⟩ := id T0
  iterate 2 refine fst1_ok X (dk rfl) rfl ?_
  refine callVXW_ok (ci := 8) (T := TX6) (N := 14) (av := [.int _]) (r := []) X E (TI.rf I) ht hlk (c6_termOf _ hl (TI.rf I).1 T0 _) (by simp) lkX6_termOf mlX6_69 lmX6_termOf lpX6_termOf ⟨Nat.le_of_ble_eq_true rfl, Nat.le_of_ble_eq_true rfl⟩ ⟨Nat.le_of_ble_eq_true rfl, Nat.le_of_ble_eq_true rfl⟩ rfl (bm_cell (TI.rf I).1 gb14) (Nat.le_of_ble_eq_true rfl) (dk rfl) ?_
  rintro _ h32 ⟨b30, rfl, tb31⟩ J33
  iterate 3 refine fst1_ok X (dk rfl) rfl ?_
  refine callVXW_ok (ci := 8) (T := TX6) (N := 14) (av := [.int _]) (r := []) X E J33 ht hlk (c6_termOf _ hl J33.1 T0 _) (by simp) lkX6_termOf mlX6_69 lmX6_termOf lpX6_termOf ⟨Nat.le_of_ble_eq_true rfl, Nat.le_of_ble_eq_true rfl⟩ ⟨Nat.le_of_ble_eq_true rfl, Nat.le_of_ble_eq_true rfl⟩ rfl (bm_cell J33.1 gb14) (Nat.le_of_ble_eq_true rfl) (dk rfl) ?_
  rintro _ h36 ⟨b34, rfl, tb35⟩ J37
  iterate 3 refine fst1_ok X (dk rfl) rfl ?_
  refine callVXW_ok (ci := 8) (T := TX6) (N := 14) (av := [.int _]) (r := []) X E J37 ht hlk (c6_termOf _ hl J37.1 T0 _) (by simp) lkX6_termOf mlX6_69 lmX6_termOf lpX6_termOf ⟨Nat.le_of_ble_eq_true rfl, Nat.le_of_ble_eq_true rfl⟩ ⟨Nat.le_of_ble_eq_true rfl, Nat.le_of_ble_eq_true rfl⟩ rfl (bm_cell J37.1 gb14) (Nat.le_of_ble_eq_true rfl) (dk rfl) ?_
  rintro _ h40 ⟨b38, rfl, tb39⟩ J41
  iterate 3 refine fst1_ok X (dk rfl) rfl ?_
  refine callVXW_ok (ci := 8) (T := TX6) (N := 14) (av := [.int _]) (r := []) X E J41 ht hlk (c6_termOf _ hl J41.1 T0 _) (by simp) lkX6_termOf mlX6_69 lmX6_termOf lpX6_termOf ⟨Nat.le_of_ble_eq_true rfl, Nat.le_of_ble_eq_true rfl⟩ ⟨Nat.le_of_ble_eq_true rfl, Nat.le_of_ble_eq_true rfl⟩ rfl (bm_cell J41.1 gb14) (Nat.le_of_ble_eq_true rfl) (dk rfl) ?_
  rintro _ h44 ⟨b42, rfl, tb43⟩ J45
  iterate 2 refine fst1_ok X (dk rfl) rfl ?_
  refine br_ok X (dk rfl) rfl (show ((31 : Nat) : Int) + 9 = ((40 : Nat) : Int) from rfl) (fun c46 => ?_) (fun c47 => ?_)
  · exact throwS_ok X E hl ht hlk xwX6_88 (List.mem_of_getElem? (i := 7) rfl) (dk rfl) (dk rfl) (dk rfl) (dk rfl) (dk rfl) ⟨Nat.le_of_ble_eq_true rfl, Nat.le_of_ble_eq_true rfl⟩ ⟨Nat.le_of_ble_eq_true rfl, Nat.le_of_ble_eq_true rfl⟩ ⟨(by simp), J45⟩
  · iterate 2 refine fst1_ok X (dk rfl) rfl ?_
    refine br_ok X (dk rfl) rfl (show ((37 : Nat) : Int) + 13 = ((50 : Nat) : Int) from rfl) (fun c48 => ?_) (fun c49 => ?_)
    · iterate 5 refine fst1_ok X (dk rfl) rfl ?_
      refine callSR_ok (av := [.int _]) (r := []) X E (c6_partsOf _ J45.1 _) lkX6_partsOf mlX6_91 lsX6_partsOf ⟨Nat.le_of_ble_eq_true rfl, Nat.le_of_ble_eq_true rfl⟩ ⟨Nat.le_of_ble_eq_true rfl, Nat.le_of_ble_eq_true rfl⟩ (Nat.le_of_ble_eq_true rfl) (dk rfl) ?_
      rintro _ ⟨n50, hn51, rfl⟩
      iterate 2 refine fst1_ok X (dk rfl) rfl ?_
      obtain ⟨dn53, rf54, hx52⟩ := bm_open J45.1 gb14
      refine getf_ok X flX6_24 (dk rfl) hx52 rfl ?_
      obtain ⟨hL56, q55, gb57, gl58⟩ := id tsp21
      refine callVW_ok (ci := 7) (T := TX5) (N := 3) (av := []) (r := []) X E J45 (c5_empty _ J45.1 tsp21) lkX5_empty mlX6_94 lmX5_empty lpX5_empty ⟨Nat.le_of_ble_eq_true rfl, Nat.le_of_ble_eq_true rfl⟩ ⟨Nat.le_of_ble_eq_true rfl, Nat.le_of_ble_eq_true rfl⟩ rfl (tm_cell J45.1 gb57) (Nat.le_of_ble_eq_true rfl) (dk rfl) ?_
      rintro _ h59 rfl J60
      refine fst1_ok X (dk rfl) rfl ?_
      obtain ⟨dn62, rf63, hx61⟩ := bm_open J60.1 gb14
      refine getf_ok X flX6_24 (dk rfl) hx61 rfl ?_
      refine fst1_ok X (dk rfl) rfl ?_
      refine callVW_ok (ci := 7) (T := TX5) (N := 3) (av := [.int _]) (r := []) X E J60 (c5_add _ J60.1 tsp21 _ (LR_add10 (inN_of (N := 8) (by decide) c47 (Int32.not_le.mpr (by rw [show nI 8 = (Int8.ofInt 8).toInt32 by decide +kernel]; exact c48))))) lkX5_add mlX6_97 lmX5_add lpX5_add ⟨Nat.le_of_ble_eq_true rfl, Nat.le_of_ble_eq_true rfl⟩ ⟨Nat.le_of_ble_eq_true rfl, Nat.le_of_ble_eq_true rfl⟩ rfl (tm_cell J60.1 gb57) (Nat.le_of_ble_eq_true rfl) (dk rfl) ?_
      rintro _ h64 rfl J65
      refine fst1_ok X (dk rfl) rfl ?_
      refine br_ok X (dk rfl) rfl (show ((81 : Nat) : Int) + 12 = ((93 : Nat) : Int) from rfl) (fun c66 => ?_) (fun c67 => ?_)
      · iterate 2 refine fst1_ok X (dk rfl) rfl ?_
        refine br_ok X (dk rfl) rfl (show ((96 : Nat) : Int) + 12 = ((108 : Nat) : Int) from rfl) (fun c68 => ?_) (fun c69 => ?_)
        · iterate 2 refine fst1_ok X (dk rfl) rfl ?_
          refine br_ok X (dk rfl) rfl (show ((111 : Nat) : Int) + 12 = ((123 : Nat) : Int) from rfl) (fun c70 => ?_) (fun c71 => ?_)
          · iterate 2 refine fst1_ok X (dk rfl) rfl ?_
            refine callVW_ok (ci := 8) (T := TX6) (N := 14) (av := [.ref _]) (r := []) X E J65 (c6_putSpareInto _ J65.1 T0 tb31) lkX6_putSpareInto mlX6_104 lmX6_putSpareInto lpX6_putSpareInto ⟨Nat.le_of_ble_eq_true rfl, Nat.le_of_ble_eq_true rfl⟩ ⟨Nat.le_of_ble_eq_true rfl, Nat.le_of_ble_eq_true rfl⟩ rfl (bm_cell J65.1 gb14) (Nat.le_of_ble_eq_true rfl) (dk rfl) ?_
            rintro _ h73 ⟨x72, rfl⟩ J74
            refine WRX.ret ?_
            exact reti_ok X hr hlk rfl (dk rfl) ⟨⟨_, rfl⟩, J74⟩ (Nat.le_of_ble_eq_true rfl) (Nat.le_of_ble_eq_true rfl)
          · refine fst1_ok X (dk rfl) rfl ?_
            obtain ⟨dn76, rf77, hx75⟩ := bm_open J65.1 gb14
            refine getf_ok X flX6_24 (dk rfl) hx75 rfl ?_
            refine fst1_ok X (dk rfl) rfl ?_
            refine callVW_ok (ci := 7) (T := TX5) (N := 3) (av := [.ref _]) (r := []) X E J65 (c5_addTerm _ J65.1 tsp21 tb43) lkX5_addTerm mlX6_100 lmX5_addTerm lpX5_addTerm ⟨Nat.le_of_ble_eq_true rfl, Nat.le_of_ble_eq_true rfl⟩ ⟨Nat.le_of_ble_eq_true rfl, Nat.le_of_ble_eq_true rfl⟩ rfl (tm_cell J65.1 gb57) (Nat.le_of_ble_eq_true rfl) (dk rfl) ?_
            rintro _ h78 rfl J79
            iterate 2 refine fst1_ok X (dk rfl) rfl ?_
            refine callVW_ok (ci := 8) (T := TX6) (N := 14) (av := [.ref _]) (r := []) X E J79 (c6_putSpareInto _ J79.1 T0 tb31) lkX6_putSpareInto mlX6_104 lmX6_putSpareInto lpX6_putSpareInto ⟨Nat.le_of_ble_eq_true rfl, Nat.le_of_ble_eq_true rfl⟩ ⟨Nat.le_of_ble_eq_true rfl, Nat.le_of_ble_eq_true rfl⟩ rfl (bm_cell J79.1 gb14) (Nat.le_of_ble_eq_true rfl) (dk rfl) ?_
            rintro _ h81 ⟨x80, rfl⟩ J82
            refine WRX.ret ?_
            exact reti_ok X hr hlk rfl (dk rfl) ⟨⟨_, rfl⟩, J82⟩ (Nat.le_of_ble_eq_true rfl) (Nat.le_of_ble_eq_true rfl)
        · refine fst1_ok X (dk rfl) rfl ?_
          obtain ⟨dn84, rf85, hx83⟩ := bm_open J65.1 gb14
          refine getf_ok X flX6_24 (dk rfl) hx83 rfl ?_
          refine fst1_ok X (dk rfl) rfl ?_
          refine callVW_ok (ci := 7) (T := TX5) (N := 3) (av := [.ref _]) (r := []) X E J65 (c5_addTerm _ J65.1 tsp21 tb39) lkX5_addTerm mlX6_100 lmX5_addTerm lpX5_addTerm ⟨Nat.le_of_ble_eq_true rfl, Nat.le_of_ble_eq_true rfl⟩ ⟨Nat.le_of_ble_eq_true rfl, Nat.le_of_ble_eq_true rfl⟩ rfl (tm_cell J65.1 gb57) (Nat.le_of_ble_eq_true rfl) (dk rfl) ?_
          rintro _ h86 rfl J87
          iterate 2 refine fst1_ok X (dk rfl) rfl ?_
          refine br_ok X (dk rfl) rfl (show ((111 : Nat) : Int) + 12 = ((123 : Nat) : Int) from rfl) (fun c88 => ?_) (fun c89 => ?_)
          · iterate 2 refine fst1_ok X (dk rfl) rfl ?_
            refine callVW_ok (ci := 8) (T := TX6) (N := 14) (av := [.ref _]) (r := []) X E J87 (c6_putSpareInto _ J87.1 T0 tb31) lkX6_putSpareInto mlX6_104 lmX6_putSpareInto lpX6_putSpareInto ⟨Nat.le_of_ble_eq_true rfl, Nat.le_of_ble_eq_true rfl⟩ ⟨Nat.le_of_ble_eq_true rfl, Nat.le_of_ble_eq_true rfl⟩ rfl (bm_cell J87.1 gb14) (Nat.le_of_ble_eq_true rfl) (dk rfl) ?_
            rintro _ h91 ⟨x90, rfl⟩ J92
            refine WRX.ret ?_
            exact reti_ok X hr hlk rfl (dk rfl) ⟨⟨_, rfl⟩, J92⟩ (Nat.le_of_ble_eq_true rfl) (Nat.le_of_ble_eq_true rfl)
          · refine fst1_ok X (dk rfl) rfl ?_
            obtain ⟨dn94, rf95, hx93⟩ := bm_open J87.1 gb14
            refine getf_ok X flX6_24 (dk rfl) hx93 rfl ?_
            refine fst1_ok X (dk rfl) rfl ?_
            refine callVW_ok (ci := 7) (T := TX5) (N := 3) (av := [.ref _]) (r := []) X E J87 (c5_addTerm _ J87.1 tsp21 tb43) lkX5_addTerm mlX6_100 lmX5_addTerm lpX5_addTerm ⟨Nat.le_of_ble_eq_true rfl, Nat.le_of_ble_eq_true rfl⟩ ⟨Nat.le_of_ble_eq_true rfl, Nat.le_of_ble_eq_true rfl⟩ rfl (tm_cell J87.1 gb57) (Nat.le_of_ble_eq_true rfl) (dk rfl) ?_
            rintro _ h96 rfl J97
            iterate 2 refine fst1_ok X (dk rfl) rfl ?_
            refine callVW_ok (ci := 8) (T := TX6) (N := 14) (av := [.ref _]) (r := []) X E J97 (c6_putSpareInto _ J97.1 T0 tb31) lkX6_putSpareInto mlX6_104 lmX6_putSpareInto lpX6_putSpareInto ⟨Nat.le_of_ble_eq_true rfl, Nat.le_of_ble_eq_true rfl⟩ ⟨Nat.le_of_ble_eq_true rfl, Nat.le_of_ble_eq_true rfl⟩ rfl (bm_cell J97.1 gb14) (Nat.le_of_ble_eq_true rfl) (dk rfl) ?_
            rintro _ h99 ⟨x98, rfl⟩ J100
            refine WRX.ret ?_
            exact reti_ok X hr hlk rfl (dk rfl) ⟨⟨_, rfl⟩, J100⟩ (Nat.le_of_ble_eq_true rfl) (Nat.le_of_ble_eq_true rfl)
      · refine fst1_ok X (dk rfl) rfl ?_
        obtain ⟨dn102, rf103, hx101⟩ := bm_open J65.1 gb14
        refine getf_ok X flX6_24 (dk rfl) hx101 rfl ?_
        refine fst1_ok X (dk rfl) rfl ?_
        refine callVW_ok (ci := 7) (T := TX5) (N := 3) (av := [.ref _]) (r := []) X E J65 (c5_addTerm _ J65.1 tsp21 tb35) lkX5_addTerm mlX6_100 lmX5_addTerm lpX5_addTerm ⟨Nat.le_of_ble_eq_true rfl, Nat.le_of_ble_eq_true rfl⟩ ⟨Nat.le_of_ble_eq_true rfl, Nat.le_of_ble_eq_true rfl⟩ rfl (tm_cell J65.1 gb57) (Nat.le_of_ble_eq_true rfl) (dk rfl) ?_
        rintro _ h104 rfl J105
        iterate 2 refine fst1_ok X (dk rfl) rfl ?_
        refine br_ok X (dk rfl) rfl (show ((96 : Nat) : Int) + 12 = ((108 : Nat) : Int) from rfl) (fun c106 => ?_) (fun c107 => ?_)
        · iterate 2 refine fst1_ok X (dk rfl) rfl ?_
          refine br_ok X (dk rfl) rfl (show ((111 : Nat) : Int) + 12 = ((123 : Nat) : Int) from rfl) (fun c108 => ?_) (fun c109 => ?_)
          · iterate 2 refine fst1_ok X (dk rfl) rfl ?_
            refine callVW_ok (ci := 8) (T := TX6) (N := 14) (av := [.ref _]) (r := []) X E J105 (c6_putSpareInto _ J105.1 T0 tb31) lkX6_putSpareInto mlX6_104 lmX6_putSpareInto lpX6_putSpareInto ⟨Nat.le_of_ble_eq_true rfl, Nat.le_of_ble_eq_true rfl⟩ ⟨Nat.le_of_ble_eq_true rfl, Nat.le_of_ble_eq_true rfl⟩ rfl (bm_cell J105.1 gb14) (Nat.le_of_ble_eq_true rfl) (dk rfl) ?_
            rintro _ h111 ⟨x110, rfl⟩ J112
            refine WRX.ret ?_
            exact reti_ok X hr hlk rfl (dk rfl) ⟨⟨_, rfl⟩, J112⟩ (Nat.le_of_ble_eq_true rfl) (Nat.le_of_ble_eq_true rfl)
          · refine fst1_ok X (dk rfl) rfl ?_
            obtain ⟨dn114, rf115, hx113⟩ := bm_open J105.1 gb14
            refine getf_ok X flX6_24 (dk rfl) hx113 rfl ?_
            refine fst1_ok X (dk rfl) rfl ?_
            refine callVW_ok (ci := 7) (T := TX5) (N := 3) (av := [.ref _]) (r := []) X E J105 (c5_addTerm _ J105.1 tsp21 tb43) lkX5_addTerm mlX6_100 lmX5_addTerm lpX5_addTerm ⟨Nat.le_of_ble_eq_true rfl, Nat.le_of_ble_eq_true rfl⟩ ⟨Nat.le_of_ble_eq_true rfl, Nat.le_of_ble_eq_true rfl⟩ rfl (tm_cell J105.1 gb57) (Nat.le_of_ble_eq_true rfl) (dk rfl) ?_
            rintro _ h116 rfl J117
            iterate 2 refine fst1_ok X (dk rfl) rfl ?_
            refine callVW_ok (ci := 8) (T := TX6) (N := 14) (av := [.ref _]) (r := []) X E J117 (c6_putSpareInto _ J117.1 T0 tb31) lkX6_putSpareInto mlX6_104 lmX6_putSpareInto lpX6_putSpareInto ⟨Nat.le_of_ble_eq_true rfl, Nat.le_of_ble_eq_true rfl⟩ ⟨Nat.le_of_ble_eq_true rfl, Nat.le_of_ble_eq_true rfl⟩ rfl (bm_cell J117.1 gb14) (Nat.le_of_ble_eq_true rfl) (dk rfl) ?_
            rintro _ h119 ⟨x118, rfl⟩ J120
            refine WRX.ret ?_
            exact reti_ok X hr hlk rfl (dk rfl) ⟨⟨_, rfl⟩, J120⟩ (Nat.le_of_ble_eq_true rfl) (Nat.le_of_ble_eq_true rfl)
        · refine fst1_ok X (dk rfl) rfl ?_
          obtain ⟨dn122, rf123, hx121⟩ := bm_open J105.1 gb14
          refine getf_ok X flX6_24 (dk rfl) hx121 rfl ?_
          refine fst1_ok X (dk rfl) rfl ?_
          refine callVW_ok (ci := 7) (T := TX5) (N := 3) (av := [.ref _]) (r := []) X E J105 (c5_addTerm _ J105.1 tsp21 tb39) lkX5_addTerm mlX6_100 lmX5_addTerm lpX5_addTerm ⟨Nat.le_of_ble_eq_true rfl, Nat.le_of_ble_eq_true rfl⟩ ⟨Nat.le_of_ble_eq_true rfl, Nat.le_of_ble_eq_true rfl⟩ rfl (tm_cell J105.1 gb57) (Nat.le_of_ble_eq_true rfl) (dk rfl) ?_
          rintro _ h124 rfl J125
          iterate 2 refine fst1_ok X (dk rfl) rfl ?_
          refine br_ok X (dk rfl) rfl (show ((111 : Nat) : Int) + 12 = ((123 : Nat) : Int) from rfl) (fun c126 => ?_) (fun c127 => ?_)
          · iterate 2 refine fst1_ok X (dk rfl) rfl ?_
            refine callVW_ok (ci := 8) (T := TX6) (N := 14) (av := [.ref _]) (r := []) X E J125 (c6_putSpareInto _ J125.1 T0 tb31) lkX6_putSpareInto mlX6_104 lmX6_putSpareInto lpX6_putSpareInto ⟨Nat.le_of_ble_eq_true rfl, Nat.le_of_ble_eq_true rfl⟩ ⟨Nat.le_of_ble_eq_true rfl, Nat.le_of_ble_eq_true rfl⟩ rfl (bm_cell J125.1 gb14) (Nat.le_of_ble_eq_true rfl) (dk rfl) ?_
            rintro _ h129 ⟨x128, rfl⟩ J130
            refine WRX.ret ?_
            exact reti_ok X hr hlk rfl (dk rfl) ⟨⟨_, rfl⟩, J130⟩ (Nat.le_of_ble_eq_true rfl) (Nat.le_of_ble_eq_true rfl)
          · refine fst1_ok X (dk rfl) rfl ?_
            obtain ⟨dn132, rf133, hx131⟩ := bm_open J125.1 gb14
            refine getf_ok X flX6_24 (dk rfl) hx131 rfl ?_
            refine fst1_ok X (dk rfl) rfl ?_
            refine callVW_ok (ci := 7) (T := TX5) (N := 3) (av := [.ref _]) (r := []) X E J125 (c5_addTerm _ J125.1 tsp21 tb43) lkX5_addTerm mlX6_100 lmX5_addTerm lpX5_addTerm ⟨Nat.le_of_ble_eq_true rfl, Nat.le_of_ble_eq_true rfl⟩ ⟨Nat.le_of_ble_eq_true rfl, Nat.le_of_ble_eq_true rfl⟩ rfl (tm_cell J125.1 gb57) (Nat.le_of_ble_eq_true rfl) (dk rfl) ?_
            rintro _ h134 rfl J135
            iterate 2 refine fst1_ok X (dk rfl) rfl ?_
            refine callVW_ok (ci := 8) (T := TX6) (N := 14) (av := [.ref _]) (r := []) X E J135 (c6_putSpareInto _ J135.1 T0 tb31) lkX6_putSpareInto mlX6_104 lmX6_putSpareInto lpX6_putSpareInto ⟨Nat.le_of_ble_eq_true rfl, Nat.le_of_ble_eq_true rfl⟩ ⟨Nat.le_of_ble_eq_true rfl, Nat.le_of_ble_eq_true rfl⟩ rfl (bm_cell J135.1 gb14) (Nat.le_of_ble_eq_true rfl) (dk rfl) ?_
            rintro _ h137 ⟨x136, rfl⟩ J138
            refine WRX.ret ?_
            exact reti_ok X hr hlk rfl (dk rfl) ⟨⟨_, rfl⟩, J138⟩ (Nat.le_of_ble_eq_true rfl) (Nat.le_of_ble_eq_true rfl)
    · exact throwS_ok X E hl ht hlk xwX6_88 (List.mem_of_getElem? (i := 7) rfl) (dk rfl) (dk rfl) (dk rfl) (dk rfl) (dk rfl) ⟨Nat.le_of_ble_eq_true rfl, Nat.le_of_ble_eq_true rfl⟩ ⟨Nat.le_of_ble_eq_true rfl, Nat.le_of_ble_eq_true rfl⟩ ⟨(by simp), J45⟩
set_option maxHeartbeats 4000000 in
theorem c6_copy (h : AH) (hl : la.stackTraces = false) (I : Tyg Γ h) {o0 : Nat} {kn : Int32} (T0 : BmT Γ o0 kn) (x1 : Int32) (x2 : Int32) : CTX la D cA B0 pa yX6_copy cX6_copy 5 (some .int) (rmD 7 2 12) [.ref o0, .int (x1), .int (x2)] h (WrO Γ iP h) (pxW [ioobe] Γ h) := by
  refine CTX_of (by decide +kernel) (Nat.le_of_ble_eq_true rfl) ?_
  intro p e s m args below meth c X E hr hlk hnm ht
  have dk : ∀ {pc : Nat} {q : Instr × Nat}, lkd DX6_copy pc = some q → decode cX6_copy pc = .ok q := lkd_ok DX6_copy_ok
  obtain ⟨S1, A2, sp3, os4, wd5, ow6, sa7, oa8, bs9, bc10, sh11, ss12, as13, gb14, gS15, gA16, sl17, sT18, al19, aT20, tsp21, tos22, twd23, tow24, tsa25, toa26, tbs27, tbc28, tsh29⟩ := id T0
  iterate 2 refine fst1_ok X (dk rfl) rfl ?_
  refine callVXW_ok (ci := 8) (T := TX6) (N := 14) (av := [.int _]) (r := []) X E (TI.rf I) ht hlk (c6_termOf _ hl (TI.rf I).1 T0 _) (by simp) lkX6_termOf mlX6_69 lmX6_termOf lpX6_termOf ⟨Nat.le_of_ble_eq_true rfl, Nat.le_of_ble_eq_true rfl⟩ ⟨Nat.le_of_ble_eq_true rfl, Nat.le_of_ble_eq_true rfl⟩ rfl (bm_cell (TI.rf I).1 gb14) (Nat.le_of_ble_eq_true rfl) (dk rfl) ?_
  rintro _ h32 ⟨b30, rfl, tb31⟩ J33
  iterate 3 refine fst1_ok X (dk rfl) rfl ?_
  refine callVXW_ok (ci := 8) (T := TX6) (N := 14) (av := [.int _]) (r := []) X E J33 ht hlk (c6_termOf _ hl J33.1 T0 _) (by simp) lkX6_termOf mlX6_69 lmX6_termOf lpX6_termOf ⟨Nat.le_of_ble_eq_true rfl, Nat.le_of_ble_eq_true rfl⟩ ⟨Nat.le_of_ble_eq_true rfl, Nat.le_of_ble_eq_true rfl⟩ rfl (bm_cell J33.1 gb14) (Nat.le_of_ble_eq_true rfl) (dk rfl) ?_
  rintro _ h36 ⟨b34, rfl, tb35⟩ J37
  iterate 3 refine fst1_ok X (dk rfl) rfl ?_
  obtain ⟨hL39, q38, gb40, gl41⟩ := id tb35
  refine callVW_ok (ci := 7) (T := TX5) (N := 3) (av := [.ref _]) (r := []) X E J37 (c5_becomeAs _ J37.1 tb35 tb31) lkX5_becomeAs mlX6_108 lmX5_becomeAs lpX5_becomeAs ⟨Nat.le_of_ble_eq_true rfl, Nat.le_of_ble_eq_true rfl⟩ ⟨Nat.le_of_ble_eq_true rfl, Nat.le_of_ble_eq_true rfl⟩ rfl (tm_cell J37.1 gb40) (Nat.le_of_ble_eq_true rfl) (dk rfl) ?_
  rintro _ h42 rfl J43
  iterate 2 refine fst1_ok X (dk rfl) rfl ?_
  refine callVR_ok (ci := 7) (T := TX5) (N := 3) (av := []) (r := [_]) X E (c5_length _ J43.1 tb35) lkX5_length mlX6_76 lmX5_length lpX5_length ⟨Nat.le_of_ble_eq_true rfl, Nat.le_of_ble_eq_true rfl⟩ ⟨Nat.le_of_ble_eq_true rfl, Nat.le_of_ble_eq_true rfl⟩ rfl (tm_cell J43.1 gb40) (Nat.le_of_ble_eq_true rfl) (dk rfl) ?_
  rintro _ ⟨n44, hn45, rfl⟩
  refine callVW_ok (ci := 8) (T := TX6) (N := 14) (av := [.int _]) (r := []) X E J43 (c6_did _ J43.1 T0 _) lkX6_did mlX6_80 lmX6_did lpX6_did ⟨Nat.le_of_ble_eq_true rfl, Nat.le_of_ble_eq_true rfl⟩ ⟨Nat.le_of_ble_eq_true rfl, Nat.le_of_ble_eq_true rfl⟩ rfl (bm_cell J43.1 gb14) (Nat.le_of_ble_eq_true rfl) (dk rfl) ?_
  rintro _ h47 ⟨x46, rfl⟩ J48
  refine WRX.ret ?_
  exact reti_ok X hr hlk rfl (dk rfl) ⟨⟨_, rfl⟩, J48⟩ (Nat.le_of_ble_eq_true rfl) (Nat.le_of_ble_eq_true rfl)
set_option maxHeartbeats 4000000 in
theorem c6_swap (h : AH) (hl : la.stackTraces = false) (I : Tyg Γ h) {o0 : Nat} {kn : Int32} (T0 : BmT Γ o0 kn) (x1 : Int32) (x2 : Int32) : CTX la D cA B0 pa yX6_swap cX6_swap 6 (some .int) (rmD 7 2 12) [.ref o0, .int (x1), .int (x2)] h (WrO Γ iP h) (pxW [ioobe] Γ h) := by
  refine CTX_of (by decide +kernel) (Nat.le_of_ble_eq_true rfl) ?_
  intro p e s m args below meth c X E hr hlk hnm ht
  have dk : ∀ {pc : Nat} {q : Instr × Nat}, lkd DX6_swap pc = some q → decode cX6_swap pc = .ok q := lkd_ok DX6_swap_ok
  obtain ⟨S1, A2, sp3, os4, wd5, ow6, sa7, oa8, bs9, bc10, sh11, ss12, as13, gb14, gS15, gA16, sl17, sT18, al19, aT20, tsp21, tos22, twd23, tow24, tsa25, toa26, tbs27, tbc28, tsh29⟩ := id T0
  iterate 2 refine fst1_ok X (dk rfl) rfl ?_
  refine callVXW_ok (ci := 8) (T := TX6) (N := 14) (av := [.int _]) (r := []) X E (TI.rf I) ht hlk (c6_termOf _ hl (TI.rf I).1 T0 _) (by simp) lkX6_termOf mlX6_69 lmX6_termOf lpX6_termOf ⟨Nat.le_of_ble_eq_true rfl, Nat.le_of_ble_eq_true rfl⟩ ⟨Nat.le_of_ble_eq_true rfl, Nat.le_of_ble_eq_true rfl⟩ rfl (bm_cell (TI.rf I).1 gb14) (Nat.le_of_ble_eq_true rfl) (dk rfl) ?_
  rintro _ h32 ⟨b30, rfl, tb31⟩ J33
  iterate 3 refine fst1_ok X (dk rfl) rfl ?_
  refine callVXW_ok (ci := 8) (T := TX6) (N := 14) (av := [.int _]) (r := []) X E J33 ht hlk (c6_termOf _ hl J33.1 T0 _) (by simp) lkX6_termOf mlX6_69 lmX6_termOf lpX6_termOf ⟨Nat.le_of_ble_eq_true rfl, Nat.le_of_ble_eq_true rfl⟩ ⟨Nat.le_of_ble_eq_true rfl, Nat.le_of_ble_eq_true rfl⟩ rfl (bm_cell J33.1 gb14) (Nat.le_of_ble_eq_true rfl) (dk rfl) ?_
  rintro _ h36 ⟨b34, rfl, tb35⟩ J37
  iterate 3 refine fst1_ok X (dk rfl) rfl ?_
  obtain ⟨hL39, q38, gb40, gl41⟩ := id tb31
  refine callVR_ok (ci := 7) (T := TX5) (N := 3) (av := [.ref _]) (r := []) X E (c5_isLike _ J37.1 tb31 tb35) lkX5_isLike mlX6_111 lmX5_isLike lpX5_isLike ⟨Nat.le_of_ble_eq_true rfl, Nat.le_of_ble_eq_true rfl⟩ ⟨Nat.le_of_ble_eq_true rfl, Nat.le_of_ble_eq_true rfl⟩ rfl (tm_cell J37.1 gb40) (Nat.le_of_ble_eq_true rfl) (dk rfl) ?_
  rintro _ ⟨b42, rfl⟩
  iterate 2 refine fst1_ok X (dk rfl) rfl ?_
  obtain ⟨dn44, rf45, hx43⟩ := bm_open J37.1 gb14
  refine getf_ok X flX6_24 (dk rfl) hx43 rfl ?_
  refine fst1_ok X (dk rfl) rfl ?_
  obtain ⟨hL47, q46, gb48, gl49⟩ := id tsp21
  refine callVW_ok (ci := 7) (T := TX5) (N := 3) (av := [.ref _]) (r := []) X E J37 (c5_becomeAs _ J37.1 tsp21 tb31) lkX5_becomeAs mlX6_108 lmX5_becomeAs lpX5_becomeAs ⟨Nat.le_of_ble_eq_true rfl, Nat.le_of_ble_eq_true rfl⟩ ⟨Nat.le_of_ble_eq_true rfl, Nat.le_of_ble_eq_true rfl⟩ rfl (tm_cell J37.1 gb48) (Nat.le_of_ble_eq_true rfl) (dk rfl) ?_
  rintro _ h50 rfl J51
  iterate 2 refine fst1_ok X (dk rfl) rfl ?_
  refine callVW_ok (ci := 7) (T := TX5) (N := 3) (av := [.ref _]) (r := []) X E J51 (c5_becomeAs _ J51.1 tb31 tb35) lkX5_becomeAs mlX6_108 lmX5_becomeAs lpX5_becomeAs ⟨Nat.le_of_ble_eq_true rfl, Nat.le_of_ble_eq_true rfl⟩ ⟨Nat.le_of_ble_eq_true rfl, Nat.le_of_ble_eq_true rfl⟩ rfl (tm_cell J51.1 gb40) (Nat.le_of_ble_eq_true rfl) (dk rfl) ?_
  rintro _ h52 rfl J53
  iterate 2 refine fst1_ok X (dk rfl) rfl ?_
  obtain ⟨dn55, rf56, hx54⟩ := bm_open J53.1 gb14
  refine getf_ok X flX6_24 (dk rfl) hx54 rfl ?_
  obtain ⟨hL58, q57, gb59, gl60⟩ := id tb35
  refine callVW_ok (ci := 7) (T := TX5) (N := 3) (av := [.ref _]) (r := []) X E J53 (c5_becomeAs _ J53.1 tb35 tsp21) lkX5_becomeAs mlX6_108 lmX5_becomeAs lpX5_becomeAs ⟨Nat.le_of_ble_eq_true rfl, Nat.le_of_ble_eq_true rfl⟩ ⟨Nat.le_of_ble_eq_true rfl, Nat.le_of_ble_eq_true rfl⟩ rfl (tm_cell J53.1 gb59) (Nat.le_of_ble_eq_true rfl) (dk rfl) ?_
  rintro _ h61 rfl J62
  iterate 2 refine fst1_ok X (dk rfl) rfl ?_
  refine br_ok X (dk rfl) rfl (show ((47 : Nat) : Int) + 7 = ((54 : Nat) : Int) from rfl) (fun c63 => ?_) (fun c64 => ?_)
  · refine fst1_ok X (dk rfl) rfl ?_
    refine callVW_ok (ci := 8) (T := TX6) (N := 14) (av := [.int _]) (r := []) X E J62 (c6_did _ J62.1 T0 _) lkX6_did mlX6_80 lmX6_did lpX6_did ⟨Nat.le_of_ble_eq_true rfl, Nat.le_of_ble_eq_true rfl⟩ ⟨Nat.le_of_ble_eq_true rfl, Nat.le_of_ble_eq_true rfl⟩ rfl (bm_cell J62.1 gb14) (Nat.le_of_ble_eq_true rfl) (dk rfl) ?_
    rintro _ h66 ⟨x65, rfl⟩ J67
    refine WRX.ret ?_
    exact reti_ok X hr hlk rfl (dk rfl) ⟨⟨_, rfl⟩, J67⟩ (Nat.le_of_ble_eq_true rfl) (Nat.le_of_ble_eq_true rfl)
  · refine fst1_ok X (dk rfl) rfl ?_
    refine br_ok X (dk rfl) rfl (show ((51 : Nat) : Int) + 4 = ((55 : Nat) : Int) from rfl) (fun _ => ?_) (fun q => absurd trivial q)
    refine callVW_ok (ci := 8) (T := TX6) (N := 14) (av := [.int _]) (r := []) X E J62 (c6_did _ J62.1 T0 _) lkX6_did mlX6_80 lmX6_did lpX6_did ⟨Nat.le_of_ble_eq_true rfl, Nat.le_of_ble_eq_true rfl⟩ ⟨Nat.le_of_ble_eq_true rfl, Nat.le_of_ble_eq_true rfl⟩ rfl (bm_cell J62.1 gb14) (Nat.le_of_ble_eq_true rfl) (dk rfl) ?_
    rintro _ h69 ⟨x68, rfl⟩ J70
    refine WRX.ret ?_
    exact reti_ok X hr hlk rfl (dk rfl) ⟨⟨_, rfl⟩, J70⟩ (Nat.le_of_ble_eq_true rfl) (Nat.le_of_ble_eq_true rfl)
set_option maxHeartbeats 4000000 in
theorem c6_part (h : AH) (hl : la.stackTraces = false) (I : Tyg Γ h) {o0 : Nat} {kn : Int32} (T0 : BmT Γ o0 kn) (x1 : Int32) (x2 : Int32) (x3 : Int32) : CTX la D cA B0 pa yX6_part cX6_part 6 (some .int) (rmD 7 2 12) [.ref o0, .int (x1), .int (x2), .int (x3)] h (WrO Γ iP h) (pxW [ioobe] Γ h) := by
  refine CTX_of (by decide +kernel) (Nat.le_of_ble_eq_true rfl) ?_
  intro p e s m args below meth c X E hr hlk hnm ht
  have dk : ∀ {pc : Nat} {q : Instr × Nat}, lkd DX6_part pc = some q → decode cX6_part pc = .ok q := lkd_ok DX6_part_ok
  obtain ⟨S1, A2, sp3, os4, wd5, ow6, sa7, oa8, bs9, bc10, sh11, ss12, as13, gb14, gS15, gA16, sl17, sT18, al19, aT20, tsp21, tos22, twd23, tow24, tsa25, toa26, tbs27, tbc28, tsh29⟩ := id T0
  iterate 2 refine fst1_ok X (dk rfl) rfl ?_
  refine callVXW_ok (ci := 8) (T := TX6) (N := 14) (av := [.int _]) (r := []) X E (TI.rf I) ht hlk (c6_termOf _ hl (TI.rf I).1 T0 _) (by simp) lkX6_termOf mlX6_69 lmX6_termOf lpX6_termOf ⟨Nat.le_of_ble_eq_true rfl, Nat.le_of_ble_eq_true rfl⟩ ⟨Nat.le_of_ble_eq_true rfl, Nat.le_of_ble_eq_true rfl⟩ rfl (bm_cell (TI.rf I).1 gb14) (Nat.le_of_ble_eq_true rfl) (dk rfl) ?_
  rintro _ h32 ⟨b30, rfl, tb31⟩ J33
  iterate 3 refine fst1_ok X (dk rfl) rfl ?_
  refine callVXW_ok (ci := 8) (T := TX6) (N := 14) (av := [.int _]) (r := []) X E J33 ht hlk (c6_termOf _ hl J33.1 T0 _) (by simp) lkX6_termOf mlX6_69 lmX6_termOf lpX6_termOf ⟨Nat.le_of_ble_eq_true rfl, Nat.le_of_ble_eq_true rfl⟩ ⟨Nat.le_of_ble_eq_true rfl, Nat.le_of_ble_eq_true rfl⟩ rfl (bm_cell J33.1 gb14) (Nat.le_of_ble_eq_true rfl) (dk rfl) ?_
  rintro _ h36 ⟨b34, rfl, tb35⟩ J37
  iterate 3 refine fst1_ok X (dk rfl) rfl ?_
  obtain ⟨hL39, q38, gb40, gl41⟩ := id tb31
  refine callVR_ok (ci := 7) (T := TX5) (N := 3) (av := [.int _]) (r := []) X E (c5_hasPlace _ J37.1 tb31 _) lkX5_hasPlace mlX6_115 lmX5_hasPlace lpX5_hasPlace ⟨Nat.le_of_ble_eq_true rfl, Nat.le_of_ble_eq_true rfl⟩ ⟨Nat.le_of_ble_eq_true rfl, Nat.le_of_ble_eq_true rfl⟩ rfl (tm_cell J37.1 gb40) (Nat.le_of_ble_eq_true rfl) (dk rfl) ?_
  rintro _ ⟨b42, rfl⟩
  refine br_ok X (dk rfl) rfl (show ((20 : Nat) : Int) + 8 = ((28 : Nat) : Int) from rfl) (fun c43 => ?_) (fun c44 => ?_)
  · refine fst1_ok X (dk rfl) rfl ?_
    obtain ⟨dn46, rf47, hx45⟩ := bm_open J37.1 gb14
    refine getf_ok X flX6_24 (dk rfl) hx45 rfl ?_
    obtain ⟨hL49, q48, gb50, gl51⟩ := id tsp21
    refine callVW_ok (ci := 7) (T := TX5) (N := 3) (av := []) (r := []) X E J37 (c5_empty _ J37.1 tsp21) lkX5_empty mlX6_94 lmX5_empty lpX5_empty ⟨Nat.le_of_ble_eq_true rfl, Nat.le_of_ble_eq_true rfl⟩ ⟨Nat.le_of_ble_eq_true rfl, Nat.le_of_ble_eq_true rfl⟩ rfl (tm_cell J37.1 gb50) (Nat.le_of_ble_eq_true rfl) (dk rfl) ?_
    rintro _ h52 rfl J53
    refine fst1_ok X (dk rfl) rfl ?_
    obtain ⟨dn55, rf56, hx54⟩ := bm_open J53.1 gb14
    refine getf_ok X flX6_24 (dk rfl) hx54 rfl ?_
    iterate 4 refine fst1_ok X (dk rfl) rfl ?_
    refine callVR_ok (ci := 7) (T := TX5) (N := 3) (av := [.int _]) (r := [_, _, _]) X E (c5_endOf _ J53.1 tb31 _) lkX5_endOf mlX6_122 lmX5_endOf lpX5_endOf ⟨Nat.le_of_ble_eq_true rfl, Nat.le_of_ble_eq_true rfl⟩ ⟨Nat.le_of_ble_eq_true rfl, Nat.le_of_ble_eq_true rfl⟩ rfl (tm_cell J53.1 gb40) (Nat.le_of_ble_eq_true rfl) (dk rfl) ?_
    rintro _ ⟨x57, rfl⟩
    refine callVW_ok (ci := 7) (T := TX5) (N := 3) (av := [.ref _, .int _, .int _]) (r := []) X E J53 (c5_addRow _ J53.1 tsp21 tb31 _ _) lkX5_addRow mlX6_125 lmX5_addRow lpX5_addRow ⟨Nat.le_of_ble_eq_true rfl, Nat.le_of_ble_eq_true rfl⟩ ⟨Nat.le_of_ble_eq_true rfl, Nat.le_of_ble_eq_true rfl⟩ rfl (tm_cell J53.1 gb50) (Nat.le_of_ble_eq_true rfl) (dk rfl) ?_
    rintro _ h58 rfl J59
    iterate 2 refine fst1_ok X (dk rfl) rfl ?_
    refine callVW_ok (ci := 8) (T := TX6) (N := 14) (av := [.ref _]) (r := []) X E J59 (c6_putSpareInto _ J59.1 T0 tb35) lkX6_putSpareInto mlX6_104 lmX6_putSpareInto lpX6_putSpareInto ⟨Nat.le_of_ble_eq_true rfl, Nat.le_of_ble_eq_true rfl⟩ ⟨Nat.le_of_ble_eq_true rfl, Nat.le_of_ble_eq_true rfl⟩ rfl (bm_cell J59.1 gb14) (Nat.le_of_ble_eq_true rfl) (dk rfl) ?_
    rintro _ h61 ⟨x60, rfl⟩ J62
    refine WRX.ret ?_
    exact reti_ok X hr hlk rfl (dk rfl) ⟨⟨_, rfl⟩, J62⟩ (Nat.le_of_ble_eq_true rfl) (Nat.le_of_ble_eq_true rfl)
  · refine fst1_ok X (dk rfl) rfl ?_
    refine callVW_ok (ci := 8) (T := TX6) (N := 14) (av := []) (r := []) X E J37 (c6_refuse _ J37.1 T0) lkX6_refuse mlX6_119 lmX6_refuse lpX6_refuse ⟨Nat.le_of_ble_eq_true rfl, Nat.le_of_ble_eq_true rfl⟩ ⟨Nat.le_of_ble_eq_true rfl, Nat.le_of_ble_eq_true rfl⟩ rfl (bm_cell J37.1 gb14) (Nat.le_of_ble_eq_true rfl) (dk rfl) ?_
    rintro _ h64 ⟨x63, rfl⟩ J65
    refine WRX.ret ?_
    exact reti_ok X hr hlk rfl (dk rfl) ⟨⟨_, rfl⟩, J65⟩ (Nat.le_of_ble_eq_true rfl) (Nat.le_of_ble_eq_true rfl)
set_option maxHeartbeats 4000000 in
theorem c6_graft (h : AH) (hl : la.stackTraces = false) (I : Tyg Γ h) {o0 : Nat} {kn : Int32} (T0 : BmT Γ o0 kn) (x1 : Int32) (x2 : Int32) (x3 : Int32) : CTX la D cA B0 pa yX6_graft cX6_graft 6 (some .int) (rmD 7 2 12) [.ref o0, .int (x1), .int (x2), .int (x3)] h (WrO Γ iP h) (pxW [ioobe] Γ h) := by
  refine CTX_of (by decide +kernel) (Nat.le_of_ble_eq_true rfl) ?_
  intro p e s m args below meth c X E hr hlk hnm ht
  have dk : ∀ {pc : Nat} {q : Instr × Nat}, lkd DX6_graft pc = some q → decode cX6_graft pc = .ok q := lkd_ok DX6_graft_ok
  obtain ⟨S1, A2, sp3, os4, wd5, ow6, sa7, oa8, bs9, bc10, sh11, ss12, as13, gb14, gS15, gA16, sl17, sT18, al19, aT20, tsp21, tos22, twd23, tow24, tsa25, toa26, tbs27, tbc28, tsh29⟩ := id T0
  iterate 2 refine fst1_ok X (dk rfl) rfl ?_
  refine callVXW_ok (ci := 8) (T := TX6) (N := 14) (av := [.int _]) (r := []) X E (TI.rf I) ht hlk (c6_termOf _ hl (TI.rf I).1 T0 _) (by simp) lkX6_termOf mlX6_69 lmX6_termOf lpX6_termOf ⟨Nat.le_of_ble_eq_true rfl, Nat.le_of_ble_eq_true rfl⟩ ⟨Nat.le_of_ble_eq_true rfl, Nat.le_of_ble_eq_true rfl⟩ rfl (bm_cell (TI.rf I).1 gb14) (Nat.le_of_ble_eq_true rfl) (dk rfl) ?_
  rintro _ h32 ⟨b30, rfl, tb31⟩ J33
  iterate 3 refine fst1_ok X (dk rfl) rfl ?_
  refine callVXW_ok (ci := 8) (T := TX6) (N := 14) (av := [.int _]) (r := []) X E J33 ht hlk (c6_termOf _ hl J33.1 T0 _) (by simp) lkX6_termOf mlX6_69 lmX6_termOf lpX6_termOf ⟨Nat.le_of_ble_eq_true rfl, Nat.le_of_ble_eq_true rfl⟩ ⟨Nat.le_of_ble_eq_true rfl, Nat.le_of_ble_eq_true rfl⟩ rfl (bm_cell J33.1 gb14) (Nat.le_of_ble_eq_true rfl) (dk rfl) ?_
  rintro _ h36 ⟨b34, rfl, tb35⟩ J37
  iterate 3 refine fst1_ok X (dk rfl) rfl ?_
  obtain ⟨hL39, q38, gb40, gl41⟩ := id tb31
  refine callVR_ok (ci := 7) (T := TX5) (N := 3) (av := [.int _]) (r := []) X E (c5_hasPlace _ J37.1 tb31 _) lkX5_hasPlace mlX6_115 lmX5_hasPlace lpX5_hasPlace ⟨Nat.le_of_ble_eq_true rfl, Nat.le_of_ble_eq_true rfl⟩ ⟨Nat.le_of_ble_eq_true rfl, Nat.le_of_ble_eq_true rfl⟩ rfl (tm_cell J37.1 gb40) (Nat.le_of_ble_eq_true rfl) (dk rfl) ?_
  rintro _ ⟨b42, rfl⟩
  refine br_ok X (dk rfl) rfl (show ((20 : Nat) : Int) + 8 = ((28 : Nat) : Int) from rfl) (fun c43 => ?_) (fun c44 => ?_)
  · refine fst1_ok X (dk rfl) rfl ?_
    obtain ⟨dn46, rf47, hx45⟩ := bm_open J37.1 gb14
    refine getf_ok X flX6_24 (dk rfl) hx45 rfl ?_
    obtain ⟨hL49, q48, gb50, gl51⟩ := id tsp21
    refine callVW_ok (ci := 7) (T := TX5) (N := 3) (av := []) (r := []) X E J37 (c5_empty _ J37.1 tsp21) lkX5_empty mlX6_94 lmX5_empty lpX5_empty ⟨Nat.le_of_ble_eq_true rfl, Nat.le_of_ble_eq_true rfl⟩ ⟨Nat.le_of_ble_eq_true rfl, Nat.le_of_ble_eq_true rfl⟩ rfl (tm_cell J37.1 gb50) (Nat.le_of_ble_eq_true rfl) (dk rfl) ?_
    rintro _ h52 rfl J53
    refine fst1_ok X (dk rfl) rfl ?_
    obtain ⟨dn55, rf56, hx54⟩ := bm_open J53.1 gb14
    refine getf_ok X flX6_24 (dk rfl) hx54 rfl ?_
    iterate 3 refine fst1_ok X (dk rfl) rfl ?_
    refine callVW_ok (ci := 7) (T := TX5) (N := 3) (av := [.ref _, .int _, .int _]) (r := []) X E J53 (c5_addRow _ J53.1 tsp21 tb31 _ _) lkX5_addRow mlX6_125 lmX5_addRow lpX5_addRow ⟨Nat.le_of_ble_eq_true rfl, Nat.le_of_ble_eq_true rfl⟩ ⟨Nat.le_of_ble_eq_true rfl, Nat.le_of_ble_eq_true rfl⟩ rfl (tm_cell J53.1 gb50) (Nat.le_of_ble_eq_true rfl) (dk rfl) ?_
    rintro _ h57 rfl J58
    refine fst1_ok X (dk rfl) rfl ?_
    obtain ⟨dn60, rf61, hx59⟩ := bm_open J58.1 gb14
    refine getf_ok X flX6_24 (dk rfl) hx59 rfl ?_
    refine fst1_ok X (dk rfl) rfl ?_
    refine callVW_ok (ci := 7) (T := TX5) (N := 3) (av := [.ref _]) (r := []) X E J58 (c5_addTerm _ J58.1 tsp21 tb35) lkX5_addTerm mlX6_100 lmX5_addTerm lpX5_addTerm ⟨Nat.le_of_ble_eq_true rfl, Nat.le_of_ble_eq_true rfl⟩ ⟨Nat.le_of_ble_eq_true rfl, Nat.le_of_ble_eq_true rfl⟩ rfl (tm_cell J58.1 gb50) (Nat.le_of_ble_eq_true rfl) (dk rfl) ?_
    rintro _ h62 rfl J63
    refine fst1_ok X (dk rfl) rfl ?_
    obtain ⟨dn65, rf66, hx64⟩ := bm_open J63.1 gb14
    refine getf_ok X flX6_24 (dk rfl) hx64 rfl ?_
    iterate 3 refine fst1_ok X (dk rfl) rfl ?_
    refine callVR_ok (ci := 7) (T := TX5) (N := 3) (av := [.int _]) (r := [_, _]) X E (c5_endOf _ J63.1 tb31 _) lkX5_endOf mlX6_122 lmX5_endOf lpX5_endOf ⟨Nat.le_of_ble_eq_true rfl, Nat.le_of_ble_eq_true rfl⟩ ⟨Nat.le_of_ble_eq_true rfl, Nat.le_of_ble_eq_true rfl⟩ rfl (tm_cell J63.1 gb40) (Nat.le_of_ble_eq_true rfl) (dk rfl) ?_
    rintro _ ⟨x67, rfl⟩
    refine fst1_ok X (dk rfl) rfl ?_
    refine callVR_ok (ci := 7) (T := TX5) (N := 3) (av := []) (r := [_, _, _]) X E (c5_length _ J63.1 tb31) lkX5_length mlX6_76 lmX5_length lpX5_length ⟨Nat.le_of_ble_eq_true rfl, Nat.le_of_ble_eq_true rfl⟩ ⟨Nat.le_of_ble_eq_true rfl, Nat.le_of_ble_eq_true rfl⟩ rfl (tm_cell J63.1 gb40) (Nat.le_of_ble_eq_true rfl) (dk rfl) ?_
    rintro _ ⟨n68, hn69, rfl⟩
    refine callVW_ok (ci := 7) (T := TX5) (N := 3) (av := [.ref _, .int _, .int _]) (r := []) X E J63 (c5_addRow _ J63.1 tsp21 tb31 _ _) lkX5_addRow mlX6_125 lmX5_addRow lpX5_addRow ⟨Nat.le_of_ble_eq_true rfl, Nat.le_of_ble_eq_true rfl⟩ ⟨Nat.le_of_ble_eq_true rfl, Nat.le_of_ble_eq_true rfl⟩ rfl (tm_cell J63.1 gb50) (Nat.le_of_ble_eq_true rfl) (dk rfl) ?_
    rintro _ h70 rfl J71
    iterate 2 refine fst1_ok X (dk rfl) rfl ?_
    refine callVW_ok (ci := 8) (T := TX6) (N := 14) (av := [.ref _]) (r := []) X E J71 (c6_putSpareInto _ J71.1 T0 tb31) lkX6_putSpareInto mlX6_104 lmX6_putSpareInto lpX6_putSpareInto ⟨Nat.le_of_ble_eq_true rfl, Nat.le_of_ble_eq_true rfl⟩ ⟨Nat.le_of_ble_eq_true rfl, Nat.le_of_ble_eq_true rfl⟩ rfl (bm_cell J71.1 gb14) (Nat.le_of_ble_eq_true rfl) (dk rfl) ?_
    rintro _ h73 ⟨x72, rfl⟩ J74
    refine WRX.ret ?_
    exact reti_ok X hr hlk rfl (dk rfl) ⟨⟨_, rfl⟩, J74⟩ (Nat.le_of_ble_eq_true rfl) (Nat.le_of_ble_eq_true rfl)
  · refine fst1_ok X (dk rfl) rfl ?_
    refine callVW_ok (ci := 8) (T := TX6) (N := 14) (av := []) (r := []) X E J37 (c6_refuse _ J37.1 T0) lkX6_refuse mlX6_119 lmX6_refuse lpX6_refuse ⟨Nat.le_of_ble_eq_true rfl, Nat.le_of_ble_eq_true rfl⟩ ⟨Nat.le_of_ble_eq_true rfl, Nat.le_of_ble_eq_true rfl⟩ rfl (bm_cell J37.1 gb14) (Nat.le_of_ble_eq_true rfl) (dk rfl) ?_
    rintro _ h76 ⟨x75, rfl⟩ J77
    refine WRX.ret ?_
    exact reti_ok X hr hlk rfl (dk rfl) ⟨⟨_, rfl⟩, J77⟩ (Nat.le_of_ble_eq_true rfl) (Nat.le_of_ble_eq_true rfl)
set_option maxHeartbeats 4000000 in
theorem c6_put (h : AH) (hl : la.stackTraces = false) (I : Tyg Γ h) {o0 : Nat} {kn : Int32} (T0 : BmT Γ o0 kn) (x1 : Int32) (x2 : Int32) (x3 : Int32) : CTX la D cA B0 pa yX6_put cX6_put 8 (some .int) (rmD 7 3 18) [.ref o0, .int (x1), .int (x2), .int (x3)] h (WrO Γ iP h) (pxW [ioobe, iae] Γ h) := by
  refine CTX_of (by decide +kernel) (Nat.le_of_ble_eq_true rfl) ?_
  intro p e s m args below meth c X E hr hlk hnm ht
  have dk : ∀ {pc : Nat} {q : Instr × Nat}, lkd DX6_put pc = some q → decode cX6_put pc = .ok q := lkd_ok DX6_put_ok
  obtain ⟨S1, A2, sp3, os4, wd5, ow6, sa7, oa8, bs9, bc10, sh11, ss12, as13, gb14, gS15, gA16, sl17, sT18, al19, aT20, tsp21, tos22, twd23, tow24, tsa25, toa26, tbs27, tbc28, tsh29⟩ := id T0
  iterate 2 refine fst1_ok X (dk rfl) rfl ?_
  refine callVXW_ok (ci := 8) (T := TX6) (N := 14) (av := [.int _]) (r := []) X E (TI.rf I) ht hlk (c6_termOf _ hl (TI.rf I).1 T0 _) (by simp) lkX6_termOf mlX6_69 lmX6_termOf lpX6_termOf ⟨Nat.le_of_ble_eq_true rfl, Nat.le_of_ble_eq_true rfl⟩ ⟨Nat.le_of_ble_eq_true rfl, Nat.le_of_ble_eq_true rfl⟩ rfl (bm_cell (TI.rf I).1 gb14) (Nat.le_of_ble_eq_true rfl) (dk rfl) ?_
  rintro _ h32 ⟨b30, rfl, tb31⟩ J33
  iterate 3 refine fst1_ok X (dk rfl) rfl ?_
  refine callVXW_ok (ci := 8) (T := TX6) (N := 14) (av := [.int _]) (r := []) X E J33 ht hlk (c6_termOf _ hl J33.1 T0 _) (by simp) lkX6_termOf mlX6_69 lmX6_termOf lpX6_termOf ⟨Nat.le_of_ble_eq_true rfl, Nat.le_of_ble_eq_true rfl⟩ ⟨Nat.le_of_ble_eq_true rfl, Nat.le_of_ble_eq_true rfl⟩ rfl (bm_cell J33.1 gb14) (Nat.le_of_ble_eq_true rfl) (dk rfl) ?_
  rintro _ h36 ⟨b34, rfl, tb35⟩ J37
  iterate 2 refine fst1_ok X (dk rfl) rfl ?_
  refine callSXW_ok (av := [.int _]) (r := []) X E J37 ht hlk (c6_needName _ hl J37.1 _) (by simp) lkX6_needName mlX6_73 lsX6_needName ⟨Nat.le_of_ble_eq_true rfl, Nat.le_of_ble_eq_true rfl⟩ ⟨Nat.le_of_ble_eq_true rfl, Nat.le_of_ble_eq_true rfl⟩ (Nat.le_of_ble_eq_true rfl) (dk rfl) ?_
  rintro _ h39 ⟨rfl, hN38⟩ J40
  iterate 2 refine fst1_ok X (dk rfl) rfl ?_
  obtain ⟨hL42, q41, gb43, gl44⟩ := id tb31
  refine callVR_ok (ci := 7) (T := TX5) (N := 3) (av := [.int _]) (r := []) X E (c5_placesOf _ J40.1 tb31 _) lkX5_placesOf mlX6_129 lmX5_placesOf lpX5_placesOf ⟨Nat.le_of_ble_eq_true rfl, Nat.le_of_ble_eq_true rfl⟩ ⟨Nat.le_of_ble_eq_true rfl, Nat.le_of_ble_eq_true rfl⟩ rfl (tm_cell J40.1 gb43) (Nat.le_of_ble_eq_true rfl) (dk rfl) ?_
  rintro _ ⟨x45, rfl⟩
  iterate 2 refine fst1_ok X (dk rfl) rfl ?_
  obtain ⟨dn47, rf48, hx46⟩ := bm_open J40.1 gb14
  refine getf_ok X flX6_24 (dk rfl) hx46 rfl ?_
  obtain ⟨hL50, q49, gb51, gl52⟩ := id tsp21
  refine callVW_ok (ci := 7) (T := TX5) (N := 3) (av := []) (r := []) X E J40 (c5_empty _ J40.1 tsp21) lkX5_empty mlX6_94 lmX5_empty lpX5_empty ⟨Nat.le_of_ble_eq_true rfl, Nat.le_of_ble_eq_true rfl⟩ ⟨Nat.le_of_ble_eq_true rfl, Nat.le_of_ble_eq_true rfl⟩ rfl (tm_cell J40.1 gb51) (Nat.le_of_ble_eq_true rfl) (dk rfl) ?_
  rintro _ h53 rfl J54
  iterate 2 refine fst1_ok X (dk rfl) rfl ?_
  have L36 : ∀ j55 : Int32, ∀ (y56 : Int32) (h61 : AH) (J62 : TI Γ h h61) (l : List (Nat × Value)), lsel l [7, 6, 5, 4, 2, 0] = [(7, .int (j55)), (6, .int (y56)), (5, .ref b34), (4, .ref b30), (2, .int (x2)), (0, .ref o0)] → WRX p la e (rmD 7 3 18) s m args below meth c D cA B0 8 (WrO Γ iP h) (pxW [ioobe, iae] Γ h) 36 l [] h61 3 18 := by
    refine loopUp (fun j55 ih36 => ?_)
    intro y56 h61 J62 l hl
    refine WS.sel [7, 6, 5, 4, 2, 0] hl ?_
    iterate 2 refine fst1_ok X (dk rfl) rfl ?_
    refine callVR_ok (ci := 7) (T := TX5) (N := 3) (av := []) (r := [_]) X E (c5_length _ J62.1 tb31) lkX5_length mlX6_76 lmX5_length lpX5_length ⟨Nat.le_of_ble_eq_true rfl, Nat.le_of_ble_eq_true rfl⟩ ⟨Nat.le_of_ble_eq_true rfl, Nat.le_of_ble_eq_true rfl⟩ rfl (tm_cell J62.1 gb43) (Nat.le_of_ble_eq_true rfl) (dk rfl) ?_
    rintro _ ⟨n63, hn64, rfl⟩
    refine br_ok X (dk rfl) rfl (show ((43 : Nat) : Int) + 46 = ((89 : Nat) : Int) from rfl) (fun c65 => ?_) (fun c66 => ?_)
    · iterate 2 refine fst1_ok X (dk rfl) rfl ?_
      refine callVW_ok (ci := 8) (T := TX6) (N := 14) (av := [.ref _]) (r := []) X E J62 (c6_putSpareInto _ J62.1 T0 tb31) lkX6_putSpareInto mlX6_104 lmX6_putSpareInto lpX6_putSpareInto ⟨Nat.le_of_ble_eq_true rfl, Nat.le_of_ble_eq_true rfl⟩ ⟨Nat.le_of_ble_eq_true rfl, Nat.le_of_ble_eq_true rfl⟩ rfl (bm_cell J62.1 gb14) (Nat.le_of_ble_eq_true rfl) (dk rfl) ?_
      rintro _ h68 ⟨x67, rfl⟩ J69
      refine fst1_ok X (dk rfl) rfl ?_
      refine br_ok X (dk rfl) rfl (show ((97 : Nat) : Int) + 8 = ((105 : Nat) : Int) from rfl) (fun c70 => ?_) (fun c71 => ?_)
      · refine fst1_ok X (dk rfl) rfl ?_
        refine WRX.ret ?_
        exact reti_ok X hr hlk rfl (dk rfl) ⟨⟨_, rfl⟩, J69⟩ (Nat.le_of_ble_eq_true rfl) (Nat.le_of_ble_eq_true rfl)
      · refine fst1_ok X (dk rfl) rfl ?_
        refine br_ok X (dk rfl) rfl (show ((102 : Nat) : Int) + 5 = ((107 : Nat) : Int) from rfl) (fun _ => ?_) (fun q => absurd trivial q)
        refine WRX.ret ?_
        exact reti_ok X hr hlk rfl (dk rfl) ⟨⟨_, rfl⟩, J69⟩ (Nat.le_of_ble_eq_true rfl) (Nat.le_of_ble_eq_true rfl)
    · iterate 2 refine fst1_ok X (dk rfl) rfl ?_
      refine callVR_ok (ci := 7) (T := TX5) (N := 3) (av := [.int _]) (r := []) X E (c5_letterAt _ J62.1 tb31 _) lkX5_letterAt mlX6_132 lmX5_letterAt lpX5_letterAt ⟨Nat.le_of_ble_eq_true rfl, Nat.le_of_ble_eq_true rfl⟩ ⟨Nat.le_of_ble_eq_true rfl, Nat.le_of_ble_eq_true rfl⟩ rfl (tm_cell J62.1 gb43) (Nat.le_of_ble_eq_true rfl) (dk rfl) ?_
      rintro _ ⟨x72, hx73, rfl⟩
      refine fst1_ok X (dk rfl) rfl ?_
      refine br_ok X (dk rfl) rfl (show ((54 : Nat) : Int) + 15 = ((69 : Nat) : Int) from rfl) (fun c74 => ?_) (fun c75 => ?_)
      · refine fst1_ok X (dk rfl) rfl ?_
        obtain ⟨dn77, rf78, hx76⟩ := bm_open J62.1 gb14
        refine getf_ok X flX6_24 (dk rfl) hx76 rfl ?_
        iterate 2 refine fst1_ok X (dk rfl) rfl ?_
        refine callVR_ok (ci := 7) (T := TX5) (N := 3) (av := [.int _]) (r := [_]) X E (c5_letterAt _ J62.1 tb31 _) lkX5_letterAt mlX6_132 lmX5_letterAt lpX5_letterAt ⟨Nat.le_of_ble_eq_true rfl, Nat.le_of_ble_eq_true rfl⟩ ⟨Nat.le_of_ble_eq_true rfl, Nat.le_of_ble_eq_true rfl⟩ rfl (tm_cell J62.1 gb43) (Nat.le_of_ble_eq_true rfl) (dk rfl) ?_
        rintro _ ⟨x79, hx80, rfl⟩
        refine callVW_ok (ci := 7) (T := TX5) (N := 3) (av := [.int _]) (r := []) X E J62 (c5_add _ J62.1 tsp21 _ hx80) lkX5_add mlX6_97 lmX5_add lpX5_add ⟨Nat.le_of_ble_eq_true rfl, Nat.le_of_ble_eq_true rfl⟩ ⟨Nat.le_of_ble_eq_true rfl, Nat.le_of_ble_eq_true rfl⟩ rfl (tm_cell J62.1 gb51) (Nat.le_of_ble_eq_true rfl) (dk rfl) ?_
        rintro _ h81 rfl J82
        refine fst1_ok X (dk rfl) rfl ?_
        refine br_ok X (dk rfl) rfl (show ((86 : Nat) : Int) + (-50) = ((36 : Nat) : Int) from rfl) (fun _ => ?_) (fun q => absurd trivial q)
        exact ih36 _ (nlt_of c66) _ h81 J82 _ rfl
      · refine fst1_ok X (dk rfl) rfl ?_
        obtain ⟨dn84, rf85, hx83⟩ := bm_open J62.1 gb14
        refine getf_ok X flX6_24 (dk rfl) hx83 rfl ?_
        refine fst1_ok X (dk rfl) rfl ?_
        refine callVW_ok (ci := 7) (T := TX5) (N := 3) (av := [.ref _]) (r := []) X E J62 (c5_addTerm _ J62.1 tsp21 tb35) lkX5_addTerm mlX6_100 lmX5_addTerm lpX5_addTerm ⟨Nat.le_of_ble_eq_true rfl, Nat.le_of_ble_eq_true rfl⟩ ⟨Nat.le_of_ble_eq_true rfl, Nat.le_of_ble_eq_true rfl⟩ rfl (tm_cell J62.1 gb51) (Nat.le_of_ble_eq_true rfl) (dk rfl) ?_
        rintro _ h86 rfl J87
        refine br_ok X (dk rfl) rfl (show ((66 : Nat) : Int) + 17 = ((83 : Nat) : Int) from rfl) (fun _ => ?_) (fun q => absurd trivial q)
        refine fst1_ok X (dk rfl) rfl ?_
        refine br_ok X (dk rfl) rfl (show ((86 : Nat) : Int) + (-50) = ((36 : Nat) : Int) from rfl) (fun _ => ?_) (fun q => absurd trivial q)
        exact ih36 _ (nlt_of c66) _ h86 J87 _ rfl
  exact L36 _ _ h53 J54 _ rfl
set_option maxHeartbeats 4000000 in
theorem c6_shift (h : AH) (hl : la.stackTraces = false) (I : Tyg Γ h) {o0 : Nat} {kn : Int32} (T0 : BmT Γ o0 kn) (x1 : Int32) (x2 : Int32) : CTX la D cA B0 pa yX6_shift cX6_shift 6 (some .int) (rmD 7 2 12) [.ref o0, .int (x1), .int (x2)] h (WrO Γ iP h) (pxW [ioobe, iae] Γ h) := by
  refine CTX_of (by decide +kernel) (Nat.le_of_ble_eq_true rfl) ?_
  intro p e s m args below meth c X E hr hlk hnm ht
  have dk : ∀ {pc : Nat} {q : Instr × Nat}, lkd DX6_shift pc = some q → decode cX6_shift pc = .ok q := lkd_ok DX6_shift_ok
  obtain ⟨S1, A2, sp3, os4, wd5, ow6, sa7, oa8, bs9, bc10, sh11, ss12, as13, gb14, gS15, gA16, sl17, sT18, al19, aT20, tsp21, tos22, twd23, tow24, tsa25, toa26, tbs27, tbc28, tsh29⟩ := id T0
  iterate 2 refine fst1_ok X (dk rfl) rfl ?_
  refine callVXW_ok (ci := 8) (T := TX6) (N := 14) (av := [.int _]) (r := []) X E (TI.rf I) ht hlk (c6_termOf _ hl (TI.rf I).1 T0 _) (by simp) lkX6_termOf mlX6_69 lmX6_termOf lpX6_termOf ⟨Nat.le_of_ble_eq_true rfl, Nat.le_of_ble_eq_true rfl⟩ ⟨Nat.le_of_ble_eq_true rfl, Nat.le_of_ble_eq_true rfl⟩ rfl (bm_cell (TI.rf I).1 gb14) (Nat.le_of_ble_eq_true rfl) (dk rfl) ?_
  rintro _ h32 ⟨b30, rfl, tb31⟩ J33
  iterate 2 refine fst1_ok X (dk rfl) rfl ?_
  refine br_ok X (dk rfl) rfl (show ((7 : Nat) : Int) + 9 = ((16 : Nat) : Int) from rfl) (fun c34 => ?_) (fun c35 => ?_)
  · exact throwS_ok X E hl ht hlk xwX6_88 (List.mem_of_getElem? (i := 0) rfl) (dk rfl) (dk rfl) (dk rfl) (dk rfl) (dk rfl) ⟨Nat.le_of_ble_eq_true rfl, Nat.le_of_ble_eq_true rfl⟩ ⟨Nat.le_of_ble_eq_true rfl, Nat.le_of_ble_eq_true rfl⟩ ⟨(by simp), J33⟩
  · iterate 2 refine fst1_ok X (dk rfl) rfl ?_
    refine br_ok X (dk rfl) rfl (show ((13 : Nat) : Int) + 13 = ((26 : Nat) : Int) from rfl) (fun c36 => ?_) (fun c37 => ?_)
    · refine fst1_ok X (dk rfl) rfl ?_
      obtain ⟨dn39, rf40, hx38⟩ := bm_open J33.1 gb14
      refine getf_ok X flX6_24 (dk rfl) hx38 rfl ?_
      obtain ⟨hL42, q41, gb43, gl44⟩ := id tsp21
      refine callVW_ok (ci := 7) (T := TX5) (N := 3) (av := []) (r := []) X E J33 (c5_empty _ J33.1 tsp21) lkX5_empty mlX6_94 lmX5_empty lpX5_empty ⟨Nat.le_of_ble_eq_true rfl, Nat.le_of_ble_eq_true rfl⟩ ⟨Nat.le_of_ble_eq_true rfl, Nat.le_of_ble_eq_true rfl⟩ rfl (tm_cell J33.1 gb43) (Nat.le_of_ble_eq_true rfl) (dk rfl) ?_
      rintro _ h45 rfl J46
      iterate 2 refine fst1_ok X (dk rfl) rfl ?_
      have L36 : ∀ j47 : Int32, ∀ (h51 : AH) (J52 : TI Γ h h51) (l : List (Nat × Value)), lsel l [4, 3, 2, 0] = [(4, .int (j47)), (3, .ref b30), (2, .int (x2)), (0, .ref o0)] → WRX p la e (rmD 7 2 12) s m args below meth c D cA B0 6 (WrO Γ iP h) (pxW [ioobe, iae] Γ h) 36 l [] h51 1 6 := by
        refine loopUp (fun j47 ih36 => ?_)
        intro h51 J52 l hl
        refine WS.sel [4, 3, 2, 0] hl ?_
        iterate 2 refine fst1_ok X (dk rfl) rfl ?_
        obtain ⟨hL54, q53, gb55, gl56⟩ := id tb31
        refine callVR_ok (ci := 7) (T := TX5) (N := 3) (av := []) (r := [_]) X E (c5_length _ J52.1 tb31) lkX5_length mlX6_76 lmX5_length lpX5_length ⟨Nat.le_of_ble_eq_true rfl, Nat.le_of_ble_eq_true rfl⟩ ⟨Nat.le_of_ble_eq_true rfl, Nat.le_of_ble_eq_true rfl⟩ rfl (tm_cell J52.1 gb55) (Nat.le_of_ble_eq_true rfl) (dk rfl) ?_
        rintro _ ⟨n57, hn58, rfl⟩
        refine br_ok X (dk rfl) rfl (show ((42 : Nat) : Int) + 44 = ((86 : Nat) : Int) from rfl) (fun c59 => ?_) (fun c60 => ?_)
        · iterate 2 refine fst1_ok X (dk rfl) rfl ?_
          obtain ⟨dn62, rf63, hx61⟩ := bm_open J52.1 gb14
          refine getf_ok X flX6_24 (dk rfl) hx61 rfl ?_
          refine callVW_ok (ci := 7) (T := TX5) (N := 3) (av := [.ref _]) (r := []) X E J52 (c5_becomeAs _ J52.1 tb31 tsp21) lkX5_becomeAs mlX6_108 lmX5_becomeAs lpX5_becomeAs ⟨Nat.le_of_ble_eq_true rfl, Nat.le_of_ble_eq_true rfl⟩ ⟨Nat.le_of_ble_eq_true rfl, Nat.le_of_ble_eq_true rfl⟩ rfl (tm_cell J52.1 gb55) (Nat.le_of_ble_eq_true rfl) (dk rfl) ?_
          rintro _ h64 rfl J65
          iterate 2 refine fst1_ok X (dk rfl) rfl ?_
          refine callVR_ok (ci := 7) (T := TX5) (N := 3) (av := []) (r := [_]) X E (c5_allNames _ J65.1 tb31) lkX5_allNames mlX6_140 lmX5_allNames lpX5_allNames ⟨Nat.le_of_ble_eq_true rfl, Nat.le_of_ble_eq_true rfl⟩ ⟨Nat.le_of_ble_eq_true rfl, Nat.le_of_ble_eq_true rfl⟩ rfl (tm_cell J65.1 gb55) (Nat.le_of_ble_eq_true rfl) (dk rfl) ?_
          rintro _ ⟨x66, rfl⟩
          refine callSR_ok (av := [.int _]) (r := [_]) X E (c_bitCount _ _) lkJ6_bitCount_0f7a4 mlX6_143 lsJ6_bitCount_0f7a4 ⟨Nat.le_of_ble_eq_true rfl, Nat.le_of_ble_eq_true rfl⟩ ⟨Nat.le_of_ble_eq_true rfl, Nat.le_of_ble_eq_true rfl⟩ (Nat.le_of_ble_eq_true rfl) (dk rfl) ?_
          rintro _ rfl
          refine callVW_ok (ci := 8) (T := TX6) (N := 14) (av := [.int _]) (r := []) X E J65 (c6_did _ J65.1 T0 _) lkX6_did mlX6_80 lmX6_did lpX6_did ⟨Nat.le_of_ble_eq_true rfl, Nat.le_of_ble_eq_true rfl⟩ ⟨Nat.le_of_ble_eq_true rfl, Nat.le_of_ble_eq_true rfl⟩ rfl (bm_cell J65.1 gb14) (Nat.le_of_ble_eq_true rfl) (dk rfl) ?_
          rintro _ h68 ⟨x67, rfl⟩ J69
          refine WRX.ret ?_
          exact reti_ok X hr hlk rfl (dk rfl) ⟨⟨_, rfl⟩, J69⟩ (Nat.le_of_ble_eq_true rfl) (Nat.le_of_ble_eq_true rfl)
        · iterate 2 refine fst1_ok X (dk rfl) rfl ?_
          refine callVR_ok (ci := 7) (T := TX5) (N := 3) (av := [.int _]) (r := []) X E (c5_letterAt _ J52.1 tb31 _) lkX5_letterAt mlX6_132 lmX5_letterAt lpX5_letterAt ⟨Nat.le_of_ble_eq_true rfl, Nat.le_of_ble_eq_true rfl⟩ ⟨Nat.le_of_ble_eq_true rfl, Nat.le_of_ble_eq_true rfl⟩ rfl (tm_cell J52.1 gb55) (Nat.le_of_ble_eq_true rfl) (dk rfl) ?_
          rintro _ ⟨x70, hx71, rfl⟩
          iterate 2 refine fst1_ok X (dk rfl) rfl ?_
          obtain ⟨dn73, rf74, hx72⟩ := bm_open J52.1 gb14
          refine getf_ok X flX6_24 (dk rfl) hx72 rfl ?_
          refine fst1_ok X (dk rfl) rfl ?_
          refine callSR_ok (av := [.int _]) (r := [_]) X E (c6_isName _ J52.1 _) lkX6_isName mlX6_137 lsX6_isName ⟨Nat.le_of_ble_eq_true rfl, Nat.le_of_ble_eq_true rfl⟩ ⟨Nat.le_of_ble_eq_true rfl, Nat.le_of_ble_eq_true rfl⟩ (Nat.le_of_ble_eq_true rfl) (dk rfl) ?_
          rintro _ ⟨b75, rfl, hb76, hn77⟩
          refine br_ok X (dk rfl) rfl (show ((62 : Nat) : Int) + 13 = ((75 : Nat) : Int) from rfl) (fun c78 => ?_) (fun c79 => ?_)
          · refine fst1_ok X (dk rfl) rfl ?_
            refine callVW_ok (ci := 7) (T := TX5) (N := 3) (av := [.int _]) (r := []) X E J52 (c5_add _ J52.1 tsp21 _ hx71) lkX5_add mlX6_97 lmX5_add lpX5_add ⟨Nat.le_of_ble_eq_true rfl, Nat.le_of_ble_eq_true rfl⟩ ⟨Nat.le_of_ble_eq_true rfl, Nat.le_of_ble_eq_true rfl⟩ rfl (tm_cell J52.1 gb43) (Nat.le_of_ble_eq_true rfl) (dk rfl) ?_
            rintro _ h80 rfl J81
            refine fst1_ok X (dk rfl) rfl ?_
            refine br_ok X (dk rfl) rfl (show ((83 : Nat) : Int) + (-47) = ((36 : Nat) : Int) from rfl) (fun _ => ?_) (fun q => absurd trivial q)
            exact ih36 _ (nlt_of c60) h80 J81 _ rfl
          · iterate 5 refine fst1_ok X (dk rfl) rfl ?_
            refine br_ok X (dk rfl) rfl (show ((72 : Nat) : Int) + 5 = ((77 : Nat) : Int) from rfl) (fun _ => ?_) (fun q => absurd trivial q)
            refine callVW_ok (ci := 7) (T := TX5) (N := 3) (av := [.int _]) (r := []) X E J52 (c5_add _ J52.1 tsp21 _ (LR_rem8 _)) lkX5_add mlX6_97 lmX5_add lpX5_add ⟨Nat.le_of_ble_eq_true rfl, Nat.le_of_ble_eq_true rfl⟩ ⟨Nat.le_of_ble_eq_true rfl, Nat.le_of_ble_eq_true rfl⟩ rfl (tm_cell J52.1 gb43) (Nat.le_of_ble_eq_true rfl) (dk rfl) ?_
            rintro _ h82 rfl J83
            refine fst1_ok X (dk rfl) rfl ?_
            refine br_ok X (dk rfl) rfl (show ((83 : Nat) : Int) + (-47) = ((36 : Nat) : Int) from rfl) (fun _ => ?_) (fun q => absurd trivial q)
            exact ih36 _ (nlt_of c60) h82 J83 _ rfl
      exact L36 _ h45 J46 _ rfl
    · exact throwS_ok X E hl ht hlk xwX6_88 (List.mem_of_getElem? (i := 0) rfl) (dk rfl) (dk rfl) (dk rfl) (dk rfl) (dk rfl) ⟨Nat.le_of_ble_eq_true rfl, Nat.le_of_ble_eq_true rfl⟩ ⟨Nat.le_of_ble_eq_true rfl, Nat.le_of_ble_eq_true rfl⟩ ⟨(by simp), J33⟩
set_option maxHeartbeats 4000000 in
theorem c6_plain (h : AH) (hl : la.stackTraces = false) (I : Tyg Γ h) {o0 : Nat} {kn : Int32} (T0 : BmT Γ o0 kn) (x1 : Int32) : CTX la D cA B0 pa yX6_plain cX6_plain 3 (some .int) (rmD 7 1 6) [.ref o0, .int (x1)] h (WrO Γ iP h) (pxW [ioobe] Γ h) := by
  refine CTX_of (by decide +kernel) (Nat.le_of_ble_eq_true rfl) ?_
  intro p e s m args below meth c X E hr hlk hnm ht
  have dk : ∀ {pc : Nat} {q : Instr × Nat}, lkd DX6_plain pc = some q → decode cX6_plain pc = .ok q := lkd_ok DX6_plain_ok
  obtain ⟨S1, A2, sp3, os4, wd5, ow6, sa7, oa8, bs9, bc10, sh11, ss12, as13, gb14, gS15, gA16, sl17, sT18, al19, aT20, tsp21, tos22, twd23, tow24, tsa25, toa26, tbs27, tbc28, tsh29⟩ := id T0
  iterate 2 refine fst1_ok X (dk rfl) rfl ?_
  refine callVXW_ok (ci := 8) (T := TX6) (N := 14) (av := [.int _]) (r := []) X E (TI.rf I) ht hlk (c6_termOf _ hl (TI.rf I).1 T0 _) (by simp) lkX6_termOf mlX6_69 lmX6_termOf lpX6_termOf ⟨Nat.le_of_ble_eq_true rfl, Nat.le_of_ble_eq_true rfl⟩ ⟨Nat.le_of_ble_eq_true rfl, Nat.le_of_ble_eq_true rfl⟩ rfl (bm_cell (TI.rf I).1 gb14) (Nat.le_of_ble_eq_true rfl) (dk rfl) ?_
  rintro _ h32 ⟨b30, rfl, tb31⟩ J33
  iterate 2 refine fst1_ok X (dk rfl) rfl ?_
  obtain ⟨dn35, rf36, hx34⟩ := bm_open J33.1 gb14
  refine getf_ok X flX6_24 (dk rfl) hx34 rfl ?_
  refine fst1_ok X (dk rfl) rfl ?_
  obtain ⟨hL38, q37, gb39, gl40⟩ := id tsp21
  refine callVW_ok (ci := 7) (T := TX5) (N := 3) (av := [.ref _]) (r := []) X E J33 (c5_becomePlainOf _ J33.1 tsp21 tb31) lkX5_becomePlainOf mlX6_148 lmX5_becomePlainOf lpX5_becomePlainOf ⟨Nat.le_of_ble_eq_true rfl, Nat.le_of_ble_eq_true rfl⟩ ⟨Nat.le_of_ble_eq_true rfl, Nat.le_of_ble_eq_true rfl⟩ rfl (tm_cell J33.1 gb39) (Nat.le_of_ble_eq_true rfl) (dk rfl) ?_
  rintro _ h41 rfl J42
  iterate 2 refine fst1_ok X (dk rfl) rfl ?_
  obtain ⟨dn44, rf45, hx43⟩ := bm_open J42.1 gb14
  refine getf_ok X flX6_24 (dk rfl) hx43 rfl ?_
  obtain ⟨hL47, q46, gb48, gl49⟩ := id tb31
  refine callVW_ok (ci := 7) (T := TX5) (N := 3) (av := [.ref _]) (r := []) X E J42 (c5_becomeAs _ J42.1 tb31 tsp21) lkX5_becomeAs mlX6_108 lmX5_becomeAs lpX5_becomeAs ⟨Nat.le_of_ble_eq_true rfl, Nat.le_of_ble_eq_true rfl⟩ ⟨Nat.le_of_ble_eq_true rfl, Nat.le_of_ble_eq_true rfl⟩ rfl (tm_cell J42.1 gb48) (Nat.le_of_ble_eq_true rfl) (dk rfl) ?_
  rintro _ h50 rfl J51
  iterate 2 refine fst1_ok X (dk rfl) rfl ?_
  refine callVR_ok (ci := 7) (T := TX5) (N := 3) (av := []) (r := [_]) X E (c5_allNames _ J51.1 tb31) lkX5_allNames mlX6_140 lmX5_allNames lpX5_allNames ⟨Nat.le_of_ble_eq_true rfl, Nat.le_of_ble_eq_true rfl⟩ ⟨Nat.le_of_ble_eq_true rfl, Nat.le_of_ble_eq_true rfl⟩ rfl (tm_cell J51.1 gb48) (Nat.le_of_ble_eq_true rfl) (dk rfl) ?_
  rintro _ ⟨x52, rfl⟩
  refine callSR_ok (av := [.int _]) (r := [_]) X E (c_bitCount _ _) lkJ6_bitCount_0f7a4 mlX6_143 lsJ6_bitCount_0f7a4 ⟨Nat.le_of_ble_eq_true rfl, Nat.le_of_ble_eq_true rfl⟩ ⟨Nat.le_of_ble_eq_true rfl, Nat.le_of_ble_eq_true rfl⟩ (Nat.le_of_ble_eq_true rfl) (dk rfl) ?_
  rintro _ rfl
  refine callVW_ok (ci := 8) (T := TX6) (N := 14) (av := [.int _]) (r := []) X E J51 (c6_did _ J51.1 T0 _) lkX6_did mlX6_80 lmX6_did lpX6_did ⟨Nat.le_of_ble_eq_true rfl, Nat.le_of_ble_eq_true rfl⟩ ⟨Nat.le_of_ble_eq_true rfl, Nat.le_of_ble_eq_true rfl⟩ rfl (bm_cell J51.1 gb14) (Nat.le_of_ble_eq_true rfl) (dk rfl) ?_
  rintro _ h54 ⟨x53, rfl⟩ J55
  refine WRX.ret ?_
  exact reti_ok X hr hlk rfl (dk rfl) ⟨⟨_, rfl⟩, J55⟩ (Nat.le_of_ble_eq_true rfl) (Nat.le_of_ble_eq_true rfl)
set_option maxHeartbeats 4000000 in
theorem c6_use (h : AH) (hl : la.stackTraces = false) (I : Tyg Γ h) {o0 : Nat} {kn : Int32} (T0 : BmT Γ o0 kn) (x1 : Int32) (x2 : Int32) (x3 : Int32) : CTX la D cA B0 pa yX6_use cX6_use 7 (some .int) (rmD 7 3 18) [.ref o0, .int (x1), .int (x2), .int (x3)] h (WrO Γ iP h) (pxW [ioobe] Γ h) := by
  refine CTX_of (by decide +kernel) (Nat.le_of_ble_eq_true rfl) ?_
  intro p e s m args below meth c X E hr hlk hnm ht
  have dk : ∀ {pc : Nat} {q : Instr × Nat}, lkd DX6_use pc = some q → decode cX6_use pc = .ok q := lkd_ok DX6_use_ok
  obtain ⟨S1, A2, sp3, os4, wd5, ow6, sa7, oa8, bs9, bc10, sh11, ss12, as13, gb14, gS15, gA16, sl17, sT18, al19, aT20, tsp21, tos22, twd23, tow24, tsa25, toa26, tbs27, tbc28, tsh29⟩ := id T0
  iterate 2 refine fst1_ok X (dk rfl) rfl ?_
  refine callVXW_ok (ci := 8) (T := TX6) (N := 14) (av := [.int _]) (r := []) X E (TI.rf I) ht hlk (c6_answerOf _ hl (TI.rf I).1 T0 _) (by simp) lkX6_answerOf mlX6_151 lmX6_answerOf lpX6_answerOf ⟨Nat.le_of_ble_eq_true rfl, Nat.le_of_ble_eq_true rfl⟩ ⟨Nat.le_of_ble_eq_true rfl, Nat.le_of_ble_eq_true rfl⟩ rfl (bm_cell (TI.rf I).1 gb14) (Nat.le_of_ble_eq_true rfl) (dk rfl) ?_
  rintro _ h32 ⟨b30, rfl, tb31⟩ J33
  iterate 3 refine fst1_ok X (dk rfl) rfl ?_
  refine callVXW_ok (ci := 8) (T := TX6) (N := 14) (av := [.int _]) (r := []) X E J33 ht hlk (c6_termOf _ hl J33.1 T0 _) (by simp) lkX6_termOf mlX6_69 lmX6_termOf lpX6_termOf ⟨Nat.le_of_ble_eq_true rfl, Nat.le_of_ble_eq_true rfl⟩ ⟨Nat.le_of_ble_eq_true rfl, Nat.le_of_ble_eq_true rfl⟩ rfl (bm_cell J33.1 gb14) (Nat.le_of_ble_eq_true rfl) (dk rfl) ?_
  rintro _ h36 ⟨b34, rfl, tb35⟩ J37
  iterate 3 refine fst1_ok X (dk rfl) rfl ?_
  refine callVXW_ok (ci := 8) (T := TX6) (N := 14) (av := [.int _]) (r := []) X E J37 ht hlk (c6_termOf _ hl J37.1 T0 _) (by simp) lkX6_termOf mlX6_69 lmX6_termOf lpX6_termOf ⟨Nat.le_of_ble_eq_true rfl, Nat.le_of_ble_eq_true rfl⟩ ⟨Nat.le_of_ble_eq_true rfl, Nat.le_of_ble_eq_true rfl⟩ rfl (bm_cell J37.1 gb14) (Nat.le_of_ble_eq_true rfl) (dk rfl) ?_
  rintro _ h40 ⟨b38, rfl, tb39⟩ J41
  iterate 2 refine fst1_ok X (dk rfl) rfl ?_
  obtain ⟨dn43, rf44, hx42⟩ := bm_open J41.1 gb14
  refine getf_ok X flX6_24 (dk rfl) hx42 rfl ?_
  obtain ⟨hL46, q45, gb47, gl48⟩ := id tsp21
  refine callVW_ok (ci := 7) (T := TX5) (N := 3) (av := []) (r := []) X E J41 (c5_empty _ J41.1 tsp21) lkX5_empty mlX6_94 lmX5_empty lpX5_empty ⟨Nat.le_of_ble_eq_true rfl, Nat.le_of_ble_eq_true rfl⟩ ⟨Nat.le_of_ble_eq_true rfl, Nat.le_of_ble_eq_true rfl⟩ rfl (tm_cell J41.1 gb47) (Nat.le_of_ble_eq_true rfl) (dk rfl) ?_
  rintro _ h49 rfl J50
  iterate 4 refine fst1_ok X (dk rfl) rfl ?_
  obtain ⟨hL52, q51, gb53, gl54⟩ := id tb35
  refine callVR_ok (ci := 7) (T := TX5) (N := 3) (av := []) (r := [_, _, _]) X E (c5_length _ J50.1 tb35) lkX5_length mlX6_76 lmX5_length lpX5_length ⟨Nat.le_of_ble_eq_true rfl, Nat.le_of_ble_eq_true rfl⟩ ⟨Nat.le_of_ble_eq_true rfl, Nat.le_of_ble_eq_true rfl⟩ rfl (tm_cell J50.1 gb53) (Nat.le_of_ble_eq_true rfl) (dk rfl) ?_
  rintro _ ⟨n55, hn56, rfl⟩
  refine fst1_ok X (dk rfl) rfl ?_
  obtain ⟨dn58, rf59, hx57⟩ := bm_open J50.1 gb14
  refine getf_ok X flX6_24 (dk rfl) hx57 rfl ?_
  obtain ⟨ar60, ts61, gb62, ga63, tl64, tt65⟩ := id tb31
  refine callVW_ok (ci := 2) (T := TX0) (N := 1) (av := [.ref _, .int _, .int _, .ref _]) (r := []) X E J50 (c0_addUsed _ J50.1 tb31 tb35 _ _ tsp21) lkX0_addUsed mlX6_155 lmX0_addUsed lpX0_addUsed ⟨Nat.le_of_ble_eq_true rfl, Nat.le_of_ble_eq_true rfl⟩ ⟨Nat.le_of_ble_eq_true rfl, Nat.le_of_ble_eq_true rfl⟩ rfl (is_cell J50.1 gb62) (Nat.le_of_ble_eq_true rfl) (dk rfl) ?_
  rintro _ h66 rfl J67
  iterate 2 refine fst1_ok X (dk rfl) rfl ?_
  refine callVW_ok (ci := 8) (T := TX6) (N := 14) (av := [.ref _]) (r := []) X E J67 (c6_putSpareInto _ J67.1 T0 tb39) lkX6_putSpareInto mlX6_104 lmX6_putSpareInto lpX6_putSpareInto ⟨Nat.le_of_ble_eq_true rfl, Nat.le_of_ble_eq_true rfl⟩ ⟨Nat.le_of_ble_eq_true rfl, Nat.le_of_ble_eq_true rfl⟩ rfl (bm_cell J67.1 gb14) (Nat.le_of_ble_eq_true rfl) (dk rfl) ?_
  rintro _ h69 ⟨x68, rfl⟩ J70
  refine WRX.ret ?_
  exact reti_ok X hr hlk rfl (dk rfl) ⟨⟨_, rfl⟩, J70⟩ (Nat.le_of_ble_eq_true rfl) (Nat.le_of_ble_eq_true rfl)
set_option maxHeartbeats 4000000 in
theorem c6_common (h : AH) (hl : la.stackTraces = false) (I : Tyg Γ h) {o0 : Nat} {kn : Int32} (T0 : BmT Γ o0 kn) (x1 : Int32) (x2 : Int32) (x3 : Int32) : CTX la D cA B0 pa yX6_common cX6_common 7 (some .int) (rmD 7 3 18) [.ref o0, .int (x1), .int (x2), .int (x3)] h (WrO Γ iP h) (pxW [ioobe] Γ h) := by
  refine CTX_of (by decide +kernel) (Nat.le_of_ble_eq_true rfl) ?_
  intro p e s m args below meth c X E hr hlk hnm ht
  have dk : ∀ {pc : Nat} {q : Instr × Nat}, lkd DX6_common pc = some q → decode cX6_common pc = .ok q := lkd_ok DX6_common_ok
  obtain ⟨S1, A2, sp3, os4, wd5, ow6, sa7, oa8, bs9, bc10, sh11, ss12, as13, gb14, gS15, gA16, sl17, sT18, al19, aT20, tsp21, tos22, twd23, tow24, tsa25, toa26, tbs27, tbc28, tsh29⟩ := id T0
  iterate 2 refine fst1_ok X (dk rfl) rfl ?_
  refine callVXW_ok (ci := 8) (T := TX6) (N := 14) (av := [.int _]) (r := []) X E (TI.rf I) ht hlk (c6_termOf _ hl (TI.rf I).1 T0 _) (by simp) lkX6_termOf mlX6_69 lmX6_termOf lpX6_termOf ⟨Nat.le_of_ble_eq_true rfl, Nat.le_of_ble_eq_true rfl⟩ ⟨Nat.le_of_ble_eq_true rfl, Nat.le_of_ble_eq_true rfl⟩ rfl (bm_cell (TI.rf I).1 gb14) (Nat.le_of_ble_eq_true rfl) (dk rfl) ?_
  rintro _ h32 ⟨b30, rfl, tb31⟩ J33
  iterate 3 refine fst1_ok X (dk rfl) rfl ?_
  refine callVXW_ok (ci := 8) (T := TX6) (N := 14) (av := [.int _]) (r := []) X E J33 ht hlk (c6_termOf _ hl J33.1 T0 _) (by simp) lkX6_termOf mlX6_69 lmX6_termOf lpX6_termOf ⟨Nat.le_of_ble_eq_true rfl, Nat.le_of_ble_eq_true rfl⟩ ⟨Nat.le_of_ble_eq_true rfl, Nat.le_of_ble_eq_true rfl⟩ rfl (bm_cell J33.1 gb14) (Nat.le_of_ble_eq_true rfl) (dk rfl) ?_
  rintro _ h36 ⟨b34, rfl, tb35⟩ J37
  iterate 3 refine fst1_ok X (dk rfl) rfl ?_
  refine callVXW_ok (ci := 8) (T := TX6) (N := 14) (av := [.int _]) (r := []) X E J37 ht hlk (c6_termOf _ hl J37.1 T0 _) (by simp) lkX6_termOf mlX6_69 lmX6_termOf lpX6_termOf ⟨Nat.le_of_ble_eq_true rfl, Nat.le_of_ble_eq_true rfl⟩ ⟨Nat.le_of_ble_eq_true rfl, Nat.le_of_ble_eq_true rfl⟩ rfl (bm_cell J37.1 gb14) (Nat.le_of_ble_eq_true rfl) (dk rfl) ?_
  rintro _ h40 ⟨b38, rfl, tb39⟩ J41
  iterate 2 refine fst1_ok X (dk rfl) rfl ?_
  obtain ⟨dn43, rf44, hx42⟩ := bm_open J41.1 gb14
  refine getf_ok X flX6_62 (dk rfl) hx42 rfl ?_
  iterate 3 refine fst1_ok X (dk rfl) rfl ?_
  refine getf_ok X flX6_24 (dk rfl) hx42 rfl ?_
  obtain ⟨pr45, gb46, tp47⟩ := id tsh29
  refine callVW_ok (ci := 5) (T := TX3) (N := 1) (av := [.ref _, .ref _, .ref _]) (r := []) X E J41 (c3_drawInto _ J41.1 tsh29 tb31 tb35 tsp21) lkX3_drawInto mlX6_159 lmX3_drawInto lpX3_drawInto ⟨Nat.le_of_ble_eq_true rfl, Nat.le_of_ble_eq_true rfl⟩ ⟨Nat.le_of_ble_eq_true rfl, Nat.le_of_ble_eq_true rfl⟩ rfl (is_cell J41.1 gb46) (Nat.le_of_ble_eq_true rfl) (dk rfl) ?_
  rintro _ h49 ⟨b48, rfl⟩ J50
  refine br_ok X (dk rfl) rfl (show ((36 : Nat) : Int) + 12 = ((48 : Nat) : Int) from rfl) (fun c51 => ?_) (fun c52 => ?_)
  · refine fst1_ok X (dk rfl) rfl ?_
    refine callVW_ok (ci := 8) (T := TX6) (N := 14) (av := []) (r := []) X E J50 (c6_refuse _ J50.1 T0) lkX6_refuse mlX6_119 lmX6_refuse lpX6_refuse ⟨Nat.le_of_ble_eq_true rfl, Nat.le_of_ble_eq_true rfl⟩ ⟨Nat.le_of_ble_eq_true rfl, Nat.le_of_ble_eq_true rfl⟩ rfl (bm_cell J50.1 gb14) (Nat.le_of_ble_eq_true rfl) (dk rfl) ?_
    rintro _ h54 ⟨x53, rfl⟩ J55
    refine WRX.ret ?_
    exact reti_ok X hr hlk rfl (dk rfl) ⟨⟨_, rfl⟩, J55⟩ (Nat.le_of_ble_eq_true rfl) (Nat.le_of_ble_eq_true rfl)
  · iterate 2 refine fst1_ok X (dk rfl) rfl ?_
    refine callVW_ok (ci := 8) (T := TX6) (N := 14) (av := [.ref _]) (r := []) X E J50 (c6_putSpareInto _ J50.1 T0 tb39) lkX6_putSpareInto mlX6_104 lmX6_putSpareInto lpX6_putSpareInto ⟨Nat.le_of_ble_eq_true rfl, Nat.le_of_ble_eq_true rfl⟩ ⟨Nat.le_of_ble_eq_true rfl, Nat.le_of_ble_eq_true rfl⟩ rfl (bm_cell J50.1 gb14) (Nat.le_of_ble_eq_true rfl) (dk rfl) ?_
    rintro _ h57 ⟨x56, rfl⟩ J58
    refine br_ok X (dk rfl) rfl (show ((45 : Nat) : Int) + 7 = ((52 : Nat) : Int) from rfl) (fun _ => ?_) (fun q => absurd trivial q)
    refine WRX.ret ?_
    exact reti_ok X hr hlk rfl (dk rfl) ⟨⟨_, rfl⟩, J58⟩ (Nat.le_of_ble_eq_true rfl) (Nat.le_of_ble_eq_true rfl)
set_option maxHeartbeats 4000000 in
theorem c6_forget (h : AH) (hl : la.stackTraces = false) (I : Tyg Γ h) {o0 : Nat} {kn : Int32} (T0 : BmT Γ o0 kn) (x1 : Int32) : CTX la D cA B0 pa yX6_forget cX6_forget 4 (some .int) (rmD 7 1 6) [.ref o0, .int (x1)] h (WrO Γ iP h) (pxW [ioobe] Γ h) := by
  refine CTX_of (by decide +kernel) (Nat.le_of_ble_eq_true rfl) ?_
  intro p e s m args below meth c X E hr hlk hnm ht
  have dk : ∀ {pc : Nat} {q : Instr × Nat}, lkd DX6_forget pc = some q → decode cX6_forget pc = .ok q := lkd_ok DX6_forget_ok
  obtain ⟨S1, A2, sp3, os4, wd5, ow6, sa7, oa8, bs9, bc10, sh11, ss12, as13, gb14, gS15, gA16, sl17, sT18, al19, aT20, tsp21, tos22, twd23, tow24, tsa25, toa26, tbs27, tbc28, tsh29⟩ := id T0
  iterate 2 refine fst1_ok X (dk rfl) rfl ?_
  refine callVXW_ok (ci := 8) (T := TX6) (N := 14) (av := [.int _]) (r := []) X E (TI.rf I) ht hlk (c6_answerOf _ hl (TI.rf I).1 T0 _) (by simp) lkX6_answerOf mlX6_151 lmX6_answerOf lpX6_answerOf ⟨Nat.le_of_ble_eq_true rfl, Nat.le_of_ble_eq_true rfl⟩ ⟨Nat.le_of_ble_eq_true rfl, Nat.le_of_ble_eq_true rfl⟩ rfl (bm_cell (TI.rf I).1 gb14) (Nat.le_of_ble_eq_true rfl) (dk rfl) ?_
  rintro _ h32 ⟨b30, rfl, tb31⟩ J33
  iterate 2 refine fst1_ok X (dk rfl) rfl ?_
  obtain ⟨ar34, ts35, gb36, ga37, tl38, tt39⟩ := id tb31
  refine callVR_ok (ci := 2) (T := TX0) (N := 1) (av := []) (r := []) X E (c0_movedCount _ J33.1 tb31) lkX0_movedCount mlX6_163 lmX0_movedCount lpX0_movedCount ⟨Nat.le_of_ble_eq_true rfl, Nat.le_of_ble_eq_true rfl⟩ ⟨Nat.le_of_ble_eq_true rfl, Nat.le_of_ble_eq_true rfl⟩ rfl (is_cell J33.1 gb36) (Nat.le_of_ble_eq_true rfl) (dk rfl) ?_
  rintro _ ⟨x40, rfl⟩
  iterate 2 refine fst1_ok X (dk rfl) rfl ?_
  refine callVW_ok (ci := 2) (T := TX0) (N := 1) (av := []) (r := []) X E J33 (c0_moveNone _ J33.1 tb31) lkX0_moveNone mlX6_166 lmX0_moveNone lpX0_moveNone ⟨Nat.le_of_ble_eq_true rfl, Nat.le_of_ble_eq_true rfl⟩ ⟨Nat.le_of_ble_eq_true rfl, Nat.le_of_ble_eq_true rfl⟩ rfl (is_cell J33.1 gb36) (Nat.le_of_ble_eq_true rfl) (dk rfl) ?_
  rintro _ h41 rfl J42
  iterate 2 refine fst1_ok X (dk rfl) rfl ?_
  refine callVW_ok (ci := 8) (T := TX6) (N := 14) (av := [.int _]) (r := []) X E J42 (c6_did _ J42.1 T0 _) lkX6_did mlX6_80 lmX6_did lpX6_did ⟨Nat.le_of_ble_eq_true rfl, Nat.le_of_ble_eq_true rfl⟩ ⟨Nat.le_of_ble_eq_true rfl, Nat.le_of_ble_eq_true rfl⟩ rfl (bm_cell J42.1 gb14) (Nat.le_of_ble_eq_true rfl) (dk rfl) ?_
  rintro _ h44 ⟨x43, rfl⟩ J45
  refine WRX.ret ?_
  exact reti_ok X hr hlk rfl (dk rfl) ⟨⟨_, rfl⟩, J45⟩ (Nat.le_of_ble_eq_true rfl) (Nat.le_of_ble_eq_true rfl)
set_option maxHeartbeats 4000000 in
theorem c6_tell (h : AH) (hl : la.stackTraces = false) (I : Tyg Γ h) {o0 : Nat} {kn : Int32} (T0 : BmT Γ o0 kn) (x1 : Int32) (x2 : Int32) (x3 : Int32) : CTX la D cA B0 pa yX6_tell cX6_tell 8 (some .int) (rmD 7 3 18) [.ref o0, .int (x1), .int (x2), .int (x3)] h (WrO Γ iP h) (pxW [ioobe, iae] Γ h) := by
  refine CTX_of (by decide +kernel) (Nat.le_of_ble_eq_true rfl) ?_
  intro p e s m args below meth c X E hr hlk hnm ht
  have dk : ∀ {pc : Nat} {q : Instr × Nat}, lkd DX6_tell pc = some q → decode cX6_tell pc = .ok q := lkd_ok DX6_tell_ok
  obtain ⟨S1, A2, sp3, os4, wd5, ow6, sa7, oa8, bs9, bc10, sh11, ss12, as13, gb14, gS15, gA16, sl17, sT18, al19, aT20, tsp21, tos22, twd23, tow24, tsa25, toa26, tbs27, tbc28, tsh29⟩ := id T0
  iterate 2 refine fst1_ok X (dk rfl) rfl ?_
  refine callVXW_ok (ci := 8) (T := TX6) (N := 14) (av := [.int _]) (r := []) X E (TI.rf I) ht hlk (c6_answerOf _ hl (TI.rf I).1 T0 _) (by simp) lkX6_answerOf mlX6_151 lmX6_answerOf lpX6_answerOf ⟨Nat.le_of_ble_eq_true rfl, Nat.le_of_ble_eq_true rfl⟩ ⟨Nat.le_of_ble_eq_true rfl, Nat.le_of_ble_eq_true rfl⟩ rfl (bm_cell (TI.rf I).1 gb14) (Nat.le_of_ble_eq_true rfl) (dk rfl) ?_
  rintro _ h32 ⟨b30, rfl, tb31⟩ J33
  iterate 3 refine fst1_ok X (dk rfl) rfl ?_
  refine callVXW_ok (ci := 8) (T := TX6) (N := 14) (av := [.int _]) (r := []) X E J33 ht hlk (c6_termOf _ hl J33.1 T0 _) (by simp) lkX6_termOf mlX6_69 lmX6_termOf lpX6_termOf ⟨Nat.le_of_ble_eq_true rfl, Nat.le_of_ble_eq_true rfl⟩ ⟨Nat.le_of_ble_eq_true rfl, Nat.le_of_ble_eq_true rfl⟩ rfl (bm_cell J33.1 gb14) (Nat.le_of_ble_eq_true rfl) (dk rfl) ?_
  rintro _ h36 ⟨b34, rfl, tb35⟩ J37
  iterate 3 refine fst1_ok X (dk rfl) rfl ?_
  obtain ⟨ar38, ts39, gb40, ga41, tl42, tt43⟩ := id tb31
  refine callVXW_ok (ci := 2) (T := TX0) (N := 1) (av := [.int _]) (r := []) X E J37 ht hlk (c0_of _ hl J37.1 tb31 _) (by simp) lkX0_of mlX6_169 lmX0_of lpX0_of ⟨Nat.le_of_ble_eq_true rfl, Nat.le_of_ble_eq_true rfl⟩ ⟨Nat.le_of_ble_eq_true rfl, Nat.le_of_ble_eq_true rfl⟩ rfl (is_cell J37.1 gb40) (Nat.le_of_ble_eq_true rfl) (dk rfl) ?_
  rintro _ h46 ⟨b44, rfl, tb45⟩ J47
  iterate 3 refine fst1_ok X (dk rfl) rfl ?_
  obtain ⟨hL49, q48, gb50, gl51⟩ := id tb45
  refine callVR_ok (ci := 7) (T := TX5) (N := 3) (av := [.ref _]) (r := []) X E (c5_isLike _ J47.1 tb45 tb35) lkX5_isLike mlX6_111 lmX5_isLike lpX5_isLike ⟨Nat.le_of_ble_eq_true rfl, Nat.le_of_ble_eq_true rfl⟩ ⟨Nat.le_of_ble_eq_true rfl, Nat.le_of_ble_eq_true rfl⟩ rfl (tm_cell J47.1 gb50) (Nat.le_of_ble_eq_true rfl) (dk rfl) ?_
  rintro _ ⟨b52, rfl⟩
  iterate 3 refine fst1_ok X (dk rfl) rfl ?_
  refine callVW_ok (ci := 7) (T := TX5) (N := 3) (av := [.ref _]) (r := []) X E J47 (c5_becomeAs _ J47.1 tb45 tb35) lkX5_becomeAs mlX6_108 lmX5_becomeAs lpX5_becomeAs ⟨Nat.le_of_ble_eq_true rfl, Nat.le_of_ble_eq_true rfl⟩ ⟨Nat.le_of_ble_eq_true rfl, Nat.le_of_ble_eq_true rfl⟩ rfl (tm_cell J47.1 gb50) (Nat.le_of_ble_eq_true rfl) (dk rfl) ?_
  rintro _ h53 rfl J54
  iterate 2 refine fst1_ok X (dk rfl) rfl ?_
  refine br_ok X (dk rfl) rfl (show ((41 : Nat) : Int) + 7 = ((48 : Nat) : Int) from rfl) (fun c55 => ?_) (fun c56 => ?_)
  · refine fst1_ok X (dk rfl) rfl ?_
    refine callVW_ok (ci := 8) (T := TX6) (N := 14) (av := [.int _]) (r := []) X E J54 (c6_did _ J54.1 T0 _) lkX6_did mlX6_80 lmX6_did lpX6_did ⟨Nat.le_of_ble_eq_true rfl, Nat.le_of_ble_eq_true rfl⟩ ⟨Nat.le_of_ble_eq_true rfl, Nat.le_of_ble_eq_true rfl⟩ rfl (bm_cell J54.1 gb14) (Nat.le_of_ble_eq_true rfl) (dk rfl) ?_
    rintro _ h58 ⟨x57, rfl⟩ J59
    refine WRX.ret ?_
    exact reti_ok X hr hlk rfl (dk rfl) ⟨⟨_, rfl⟩, J59⟩ (Nat.le_of_ble_eq_true rfl) (Nat.le_of_ble_eq_true rfl)
  · refine fst1_ok X (dk rfl) rfl ?_
    refine br_ok X (dk rfl) rfl (show ((45 : Nat) : Int) + 4 = ((49 : Nat) : Int) from rfl) (fun _ => ?_) (fun q => absurd trivial q)
    refine callVW_ok (ci := 8) (T := TX6) (N := 14) (av := [.int _]) (r := []) X E J54 (c6_did _ J54.1 T0 _) lkX6_did mlX6_80 lmX6_did lpX6_did ⟨Nat.le_of_ble_eq_true rfl, Nat.le_of_ble_eq_true rfl⟩ ⟨Nat.le_of_ble_eq_true rfl, Nat.le_of_ble_eq_true rfl⟩ rfl (bm_cell J54.1 gb14) (Nat.le_of_ble_eq_true rfl) (dk rfl) ?_
    rintro _ h61 ⟨x60, rfl⟩ J62
    refine WRX.ret ?_
    exact reti_ok X hr hlk rfl (dk rfl) ⟨⟨_, rfl⟩, J62⟩ (Nat.le_of_ble_eq_true rfl) (Nat.le_of_ble_eq_true rfl)
set_option maxHeartbeats 4000000 in
theorem c6_take (h : AH) (hl : la.stackTraces = false) (I : Tyg Γ h) {o0 : Nat} {kn : Int32} (T0 : BmT Γ o0 kn) (x1 : Int32) (x2 : Int32) : CTX la D cA B0 pa yX6_take cX6_take 5 (some .int) (rmD 7 2 12) [.ref o0, .int (x1), .int (x2)] h (WrO Γ iP h) (pxW [ioobe] Γ h) := by
  refine CTX_of (by decide +kernel) (Nat.le_of_ble_eq_true rfl) ?_
  intro p e s m args below meth c X E hr hlk hnm ht
  have dk : ∀ {pc : Nat} {q : Instr × Nat}, lkd DX6_take pc = some q → decode cX6_take pc = .ok q := lkd_ok DX6_take_ok
  obtain ⟨S1, A2, sp3, os4, wd5, ow6, sa7, oa8, bs9, bc10, sh11, ss12, as13, gb14, gS15, gA16, sl17, sT18, al19, aT20, tsp21, tos22, twd23, tow24, tsa25, toa26, tbs27, tbc28, tsh29⟩ := id T0
  iterate 2 refine fst1_ok X (dk rfl) rfl ?_
  refine callVXW_ok (ci := 8) (T := TX6) (N := 14) (av := [.int _]) (r := []) X E (TI.rf I) ht hlk (c6_answerOf _ hl (TI.rf I).1 T0 _) (by simp) lkX6_answerOf mlX6_151 lmX6_answerOf lpX6_answerOf ⟨Nat.le_of_ble_eq_true rfl, Nat.le_of_ble_eq_true rfl⟩ ⟨Nat.le_of_ble_eq_true rfl, Nat.le_of_ble_eq_true rfl⟩ rfl (bm_cell (TI.rf I).1 gb14) (Nat.le_of_ble_eq_true rfl) (dk rfl) ?_
  rintro _ h32 ⟨b30, rfl, tb31⟩ J33
  iterate 3 refine fst1_ok X (dk rfl) rfl ?_
  refine callVXW_ok (ci := 8) (T := TX6) (N := 14) (av := [.int _]) (r := []) X E J33 ht hlk (c6_answerOf _ hl J33.1 T0 _) (by simp) lkX6_answerOf mlX6_151 lmX6_answerOf lpX6_answerOf ⟨Nat.le_of_ble_eq_true rfl, Nat.le_of_ble_eq_true rfl⟩ ⟨Nat.le_of_ble_eq_true rfl, Nat.le_of_ble_eq_true rfl⟩ rfl (bm_cell J33.1 gb14) (Nat.le_of_ble_eq_true rfl) (dk rfl) ?_
  rintro _ h36 ⟨b34, rfl, tb35⟩ J37
  iterate 3 refine fst1_ok X (dk rfl) rfl ?_
  obtain ⟨ar38, ts39, gb40, ga41, tl42, tt43⟩ := id tb35
  refine callVW_ok (ci := 2) (T := TX0) (N := 1) (av := [.ref _]) (r := []) X E J37 (c0_becomeAs _ J37.1 tb35 tb31) lkX0_becomeAs mlX6_172 lmX0_becomeAs lpX0_becomeAs ⟨Nat.le_of_ble_eq_true rfl, Nat.le_of_ble_eq_true rfl⟩ ⟨Nat.le_of_ble_eq_true rfl, Nat.le_of_ble_eq_true rfl⟩ rfl (is_cell J37.1 gb40) (Nat.le_of_ble_eq_true rfl) (dk rfl) ?_
  rintro _ h44 rfl J45
  iterate 2 refine fst1_ok X (dk rfl) rfl ?_
  refine callVR_ok (ci := 2) (T := TX0) (N := 1) (av := []) (r := [_]) X E (c0_movedCount _ J45.1 tb35) lkX0_movedCount mlX6_163 lmX0_movedCount lpX0_movedCount ⟨Nat.le_of_ble_eq_true rfl, Nat.le_of_ble_eq_true rfl⟩ ⟨Nat.le_of_ble_eq_true rfl, Nat.le_of_ble_eq_true rfl⟩ rfl (is_cell J45.1 gb40) (Nat.le_of_ble_eq_true rfl) (dk rfl) ?_
  rintro _ ⟨x46, rfl⟩
  refine callVW_ok (ci := 8) (T := TX6) (N := 14) (av := [.int _]) (r := []) X E J45 (c6_did _ J45.1 T0 _) lkX6_did mlX6_80 lmX6_did lpX6_did ⟨Nat.le_of_ble_eq_true rfl, Nat.le_of_ble_eq_true rfl⟩ ⟨Nat.le_of_ble_eq_true rfl, Nat.le_of_ble_eq_true rfl⟩ rfl (bm_cell J45.1 gb14) (Nat.le_of_ble_eq_true rfl) (dk rfl) ?_
  rintro _ h48 ⟨x47, rfl⟩ J49
  refine WRX.ret ?_
  exact reti_ok X hr hlk rfl (dk rfl) ⟨⟨_, rfl⟩, J49⟩ (Nat.le_of_ble_eq_true rfl) (Nat.le_of_ble_eq_true rfl)
set_option maxHeartbeats 4000000 in
theorem c6_behind (h : AH) (hl : la.stackTraces = false) (I : Tyg Γ h) {o0 : Nat} {kn : Int32} (T0 : BmT Γ o0 kn) (x1 : Int32) (x2 : Int32) (x3 : Int32) : CTX la D cA B0 pa yX6_behind cX6_behind 7 (some .int) (rmD 7 3 18) [.ref o0, .int (x1), .int (x2), .int (x3)] h (WrO Γ iP h) (pxW [ioobe] Γ h) := by
  refine CTX_of (by decide +kernel) (Nat.le_of_ble_eq_true rfl) ?_
  intro p e s m args below meth c X E hr hlk hnm ht
  have dk : ∀ {pc : Nat} {q : Instr × Nat}, lkd DX6_behind pc = some q → decode cX6_behind pc = .ok q := lkd_ok DX6_behind_ok
  obtain ⟨S1, A2, sp3, os4, wd5, ow6, sa7, oa8, bs9, bc10, sh11, ss12, as13, gb14, gS15, gA16, sl17, sT18, al19, aT20, tsp21, tos22, twd23, tow24, tsa25, toa26, tbs27, tbc28, tsh29⟩ := id T0
  iterate 2 refine fst1_ok X (dk rfl) rfl ?_
  refine callVXW_ok (ci := 8) (T := TX6) (N := 14) (av := [.int _]) (r := []) X E (TI.rf I) ht hlk (c6_answerOf _ hl (TI.rf I).1 T0 _) (by simp) lkX6_answerOf mlX6_151 lmX6_answerOf lpX6_answerOf ⟨Nat.le_of_ble_eq_true rfl, Nat.le_of_ble_eq_true rfl⟩ ⟨Nat.le_of_ble_eq_true rfl, Nat.le_of_ble_eq_true rfl⟩ rfl (bm_cell (TI.rf I).1 gb14) (Nat.le_of_ble_eq_true rfl) (dk rfl) ?_
  rintro _ h32 ⟨b30, rfl, tb31⟩ J33
  iterate 3 refine fst1_ok X (dk rfl) rfl ?_
  refine callVXW_ok (ci := 8) (T := TX6) (N := 14) (av := [.int _]) (r := []) X E J33 ht hlk (c6_answerOf _ hl J33.1 T0 _) (by simp) lkX6_answerOf mlX6_151 lmX6_answerOf lpX6_answerOf ⟨Nat.le_of_ble_eq_true rfl, Nat.le_of_ble_eq_true rfl⟩ ⟨Nat.le_of_ble_eq_true rfl, Nat.le_of_ble_eq_true rfl⟩ rfl (bm_cell J33.1 gb14) (Nat.le_of_ble_eq_true rfl) (dk rfl) ?_
  rintro _ h36 ⟨b34, rfl, tb35⟩ J37
  iterate 3 refine fst1_ok X (dk rfl) rfl ?_
  refine callVXW_ok (ci := 8) (T := TX6) (N := 14) (av := [.int _]) (r := []) X E J37 ht hlk (c6_answerOf _ hl J37.1 T0 _) (by simp) lkX6_answerOf mlX6_151 lmX6_answerOf lpX6_answerOf ⟨Nat.le_of_ble_eq_true rfl, Nat.le_of_ble_eq_true rfl⟩ ⟨Nat.le_of_ble_eq_true rfl, Nat.le_of_ble_eq_true rfl⟩ rfl (bm_cell J37.1 gb14) (Nat.le_of_ble_eq_true rfl) (dk rfl) ?_
  rintro _ h40 ⟨b38, rfl, tb39⟩ J41
  iterate 2 refine fst1_ok X (dk rfl) rfl ?_
  obtain ⟨dn43, rf44, hx42⟩ := bm_open J41.1 gb14
  refine getf_ok X flX6_38 (dk rfl) hx42 rfl ?_
  iterate 2 refine fst1_ok X (dk rfl) rfl ?_
  obtain ⟨ar45, ts46, gb47, ga48, tl49, tt50⟩ := id tsa25
  refine callVW_ok (ci := 2) (T := TX0) (N := 1) (av := [.ref _, .ref _]) (r := []) X E J41 (c0_becomeBoth _ J41.1 tsa25 tb31 tb35) lkX0_becomeBoth mlX6_175 lmX0_becomeBoth lpX0_becomeBoth ⟨Nat.le_of_ble_eq_true rfl, Nat.le_of_ble_eq_true rfl⟩ ⟨Nat.le_of_ble_eq_true rfl, Nat.le_of_ble_eq_true rfl⟩ rfl (is_cell J41.1 gb47) (Nat.le_of_ble_eq_true rfl) (dk rfl) ?_
  rintro _ h51 rfl J52
  iterate 2 refine fst1_ok X (dk rfl) rfl ?_
  refine callVW_ok (ci := 8) (T := TX6) (N := 14) (av := [.ref _]) (r := []) X E J52 (c6_putSpareAnswerInto _ J52.1 T0 tb39) lkX6_putSpareAnswerInto mlX6_179 lmX6_putSpareAnswerInto lpX6_putSpareAnswerInto ⟨Nat.le_of_ble_eq_true rfl, Nat.le_of_ble_eq_true rfl⟩ ⟨Nat.le_of_ble_eq_true rfl, Nat.le_of_ble_eq_true rfl⟩ rfl (bm_cell J52.1 gb14) (Nat.le_of_ble_eq_true rfl) (dk rfl) ?_
  rintro _ h54 ⟨x53, rfl⟩ J55
  refine WRX.ret ?_
  exact reti_ok X hr hlk rfl (dk rfl) ⟨⟨_, rfl⟩, J55⟩ (Nat.le_of_ble_eq_true rfl) (Nat.le_of_ble_eq_true rfl)
set_option maxHeartbeats 4000000 in
theorem c6_alike (h : AH) (hl : la.stackTraces = false) (I : Tyg Γ h) {o0 : Nat} {kn : Int32} (T0 : BmT Γ o0 kn) (x1 : Int32) (x2 : Int32) (x3 : Int32) (x4 : Int32) : CTX la D cA B0 pa yX6_alike cX6_alike 9 (some .int) (rmD 7 4 24) [.ref o0, .int (x1), .int (x2), .int (x3), .int (x4)] h (WrO Γ iP h) (pxW [ioobe, iae] Γ h) := by
  refine CTX_of (by decide +kernel) (Nat.le_of_ble_eq_true rfl) ?_
  intro p e s m args below meth c X E hr hlk hnm ht
  have dk : ∀ {pc : Nat} {q : Instr × Nat}, lkd DX6_alike pc = some q → decode cX6_alike pc = .ok q := lkd_ok DX6_alike_ok
  obtain ⟨S1, A2, sp3, os4, wd5, ow6, sa7, oa8, bs9, bc10, sh11, ss12, as13, gb14, gS15, gA16, sl17, sT18, al19, aT20, tsp21, tos22, twd23, tow24, tsa25, toa26, tbs27, tbc28, tsh29⟩ := id T0
  iterate 2 refine fst1_ok X (dk rfl) rfl ?_
  refine callVXW_ok (ci := 8) (T := TX6) (N := 14) (av := [.int _]) (r := []) X E (TI.rf I) ht hlk (c6_termOf _ hl (TI.rf I).1 T0 _) (by simp) lkX6_termOf mlX6_69 lmX6_termOf lpX6_termOf ⟨Nat.le_of_ble_eq_true rfl, Nat.le_of_ble_eq_true rfl⟩ ⟨Nat.le_of_ble_eq_true rfl, Nat.le_of_ble_eq_true rfl⟩ rfl (bm_cell (TI.rf I).1 gb14) (Nat.le_of_ble_eq_true rfl) (dk rfl) ?_
  rintro _ h32 ⟨b30, rfl, tb31⟩ J33
  iterate 3 refine fst1_ok X (dk rfl) rfl ?_
  refine callVXW_ok (ci := 8) (T := TX6) (N := 14) (av := [.int _]) (r := []) X E J33 ht hlk (c6_termOf _ hl J33.1 T0 _) (by simp) lkX6_termOf mlX6_69 lmX6_termOf lpX6_termOf ⟨Nat.le_of_ble_eq_true rfl, Nat.le_of_ble_eq_true rfl⟩ ⟨Nat.le_of_ble_eq_true rfl, Nat.le_of_ble_eq_true rfl⟩ rfl (bm_cell J33.1 gb14) (Nat.le_of_ble_eq_true rfl) (dk rfl) ?_
  rintro _ h36 ⟨b34, rfl, tb35⟩ J37
  iterate 3 refine fst1_ok X (dk rfl) rfl ?_
  refine callVXW_ok (ci := 8) (T := TX6) (N := 14) (av := [.int _]) (r := []) X E J37 ht hlk (c6_answerOf _ hl J37.1 T0 _) (by simp) lkX6_answerOf mlX6_151 lmX6_answerOf lpX6_answerOf ⟨Nat.le_of_ble_eq_true rfl, Nat.le_of_ble_eq_true rfl⟩ ⟨Nat.le_of_ble_eq_true rfl, Nat.le_of_ble_eq_true rfl⟩ rfl (bm_cell J37.1 gb14) (Nat.le_of_ble_eq_true rfl) (dk rfl) ?_
  rintro _ h40 ⟨b38, rfl, tb39⟩ J41
  iterate 2 refine fst1_ok X (dk rfl) rfl ?_
  refine br_ok X (dk rfl) rfl (show ((23 : Nat) : Int) + 19 = ((42 : Nat) : Int) from rfl) (fun c42 => ?_) (fun c43 => ?_)
  · refine fst1_ok X (dk rfl) rfl ?_
    refine br_ok X (dk rfl) rfl (show ((44 : Nat) : Int) + 17 = ((61 : Nat) : Int) from rfl) (fun c44 => ?_) (fun c45 => ?_)
    · refine fst1_ok X (dk rfl) rfl ?_
      obtain ⟨dn47, rf48, hx46⟩ := bm_open J41.1 gb14
      refine getf_ok X flX6_55 (dk rfl) hx46 rfl ?_
      iterate 2 refine fst1_ok X (dk rfl) rfl ?_
      obtain ⟨bo49, co50, ho51, st52, pr53, gb54, tb55, gc56, gh57, gs58, tp59⟩ := id tbc28
      refine callVW_ok (ci := 3) (T := TX1) (N := 5) (av := [.ref _, .ref _]) (r := []) X E J41 (c1_makeAlike _ J41.1 tbc28 tb31 tb35) lkX1_makeAlike mlX6_189 lmX1_makeAlike lpX1_makeAlike ⟨Nat.le_of_ble_eq_true rfl, Nat.le_of_ble_eq_true rfl⟩ ⟨Nat.le_of_ble_eq_true rfl, Nat.le_of_ble_eq_true rfl⟩ rfl (is_cell J41.1 gb54) (Nat.le_of_ble_eq_true rfl) (dk rfl) ?_
      rintro _ h61 ⟨b60, rfl⟩ J62
      iterate 2 refine fst1_ok X (dk rfl) rfl ?_
      refine br_ok X (dk rfl) rfl (show ((76 : Nat) : Int) + 9 = ((85 : Nat) : Int) from rfl) (fun c63 => ?_) (fun c64 => ?_)
      · refine fst1_ok X (dk rfl) rfl ?_
        refine br_ok X (dk rfl) rfl (show ((87 : Nat) : Int) + 17 = ((104 : Nat) : Int) from rfl) (fun c65 => ?_) (fun c66 => ?_)
        · refine fst1_ok X (dk rfl) rfl ?_
          obtain ⟨dn68, rf69, hx67⟩ := bm_open J62.1 gb14
          refine getf_ok X flX6_55 (dk rfl) hx67 rfl ?_
          refine fst1_ok X (dk rfl) rfl ?_
          refine getf_ok X flX6_38 (dk rfl) hx67 rfl ?_
          refine callVW_ok (ci := 3) (T := TX1) (N := 5) (av := [.ref _]) (r := []) X E J62 (c1_tellInto _ J62.1 tbc28 tsa25) lkX1_tellInto mlX6_193 lmX1_tellInto lpX1_tellInto ⟨Nat.le_of_ble_eq_true rfl, Nat.le_of_ble_eq_true rfl⟩ ⟨Nat.le_of_ble_eq_true rfl, Nat.le_of_ble_eq_true rfl⟩ rfl (is_cell J62.1 gb54) (Nat.le_of_ble_eq_true rfl) (dk rfl) ?_
          rintro _ h70 rfl J71
          iterate 2 refine fst1_ok X (dk rfl) rfl ?_
          refine callVW_ok (ci := 8) (T := TX6) (N := 14) (av := [.ref _]) (r := []) X E J71 (c6_putSpareAnswerInto _ J71.1 T0 tb39) lkX6_putSpareAnswerInto mlX6_179 lmX6_putSpareAnswerInto lpX6_putSpareAnswerInto ⟨Nat.le_of_ble_eq_true rfl, Nat.le_of_ble_eq_true rfl⟩ ⟨Nat.le_of_ble_eq_true rfl, Nat.le_of_ble_eq_true rfl⟩ rfl (bm_cell J71.1 gb14) (Nat.le_of_ble_eq_true rfl) (dk rfl) ?_
          rintro _ h73 ⟨x72, rfl⟩ J74
          refine WRX.ret ?_
          exact reti_ok X hr hlk rfl (dk rfl) ⟨⟨_, rfl⟩, J74⟩ (Nat.le_of_ble_eq_true rfl) (Nat.le_of_ble_eq_true rfl)
        · refine fst1_ok X (dk rfl) rfl ?_
          obtain ⟨dn76, rf77, hx75⟩ := bm_open J62.1 gb14
          refine getf_ok X flX6_48 (dk rfl) hx75 rfl ?_
          refine fst1_ok X (dk rfl) rfl ?_
          refine getf_ok X flX6_38 (dk rfl) hx75 rfl ?_
          obtain ⟨bo78, st79, pr80, gb81, tb82, gs83, tp84⟩ := id tbs27
          refine callVW_ok (ci := 6) (T := TX4) (N := 5) (av := [.ref _]) (r := []) X E J62 (c4_tellInto _ J62.1 tbs27 tsa25) lkX4_tellInto mlX6_190 lmX4_tellInto lpX4_tellInto ⟨Nat.le_of_ble_eq_true rfl, Nat.le_of_ble_eq_true rfl⟩ ⟨Nat.le_of_ble_eq_true rfl, Nat.le_of_ble_eq_true rfl⟩ rfl (st_cell J62.1 gb81) (Nat.le_of_ble_eq_true rfl) (dk rfl) ?_
          rintro _ h85 rfl J86
          refine br_ok X (dk rfl) rfl (show ((101 : Nat) : Int) + 14 = ((115 : Nat) : Int) from rfl) (fun _ => ?_) (fun q => absurd trivial q)
          iterate 2 refine fst1_ok X (dk rfl) rfl ?_
          refine callVW_ok (ci := 8) (T := TX6) (N := 14) (av := [.ref _]) (r := []) X E J86 (c6_putSpareAnswerInto _ J86.1 T0 tb39) lkX6_putSpareAnswerInto mlX6_179 lmX6_putSpareAnswerInto lpX6_putSpareAnswerInto ⟨Nat.le_of_ble_eq_true rfl, Nat.le_of_ble_eq_true rfl⟩ ⟨Nat.le_of_ble_eq_true rfl, Nat.le_of_ble_eq_true rfl⟩ rfl (bm_cell J86.1 gb14) (Nat.le_of_ble_eq_true rfl) (dk rfl) ?_
          rintro _ h88 ⟨x87, rfl⟩ J89
          refine WRX.ret ?_
          exact reti_ok X hr hlk rfl (dk rfl) ⟨⟨_, rfl⟩, J89⟩ (Nat.le_of_ble_eq_true rfl) (Nat.le_of_ble_eq_true rfl)
      · iterate 2 refine fst1_ok X (dk rfl) rfl ?_
        refine callVW_ok (ci := 8) (T := TX6) (N := 14) (av := [.int _]) (r := []) X E J62 (c6_did _ J62.1 T0 _) lkX6_did mlX6_80 lmX6_did lpX6_did ⟨Nat.le_of_ble_eq_true rfl, Nat.le_of_ble_eq_true rfl⟩ ⟨Nat.le_of_ble_eq_true rfl, Nat.le_of_ble_eq_true rfl⟩ rfl (bm_cell J62.1 gb14) (Nat.le_of_ble_eq_true rfl) (dk rfl) ?_
        rintro _ h91 ⟨x90, rfl⟩ J92
        refine WRX.ret ?_
        exact reti_ok X hr hlk rfl (dk rfl) ⟨⟨_, rfl⟩, J92⟩ (Nat.le_of_ble_eq_true rfl) (Nat.le_of_ble_eq_true rfl)
    · refine fst1_ok X (dk rfl) rfl ?_
      obtain ⟨dn94, rf95, hx93⟩ := bm_open J41.1 gb14
      refine getf_ok X flX6_48 (dk rfl) hx93 rfl ?_
      iterate 2 refine fst1_ok X (dk rfl) rfl ?_
      obtain ⟨bo96, st97, pr98, gb99, tb100, gs101, tp102⟩ := id tbs27
      refine callVW_ok (ci := 6) (T := TX4) (N := 5) (av := [.ref _, .ref _]) (r := []) X E J41 (c4_makeAlike _ J41.1 tbs27 tb31 tb35) lkX4_makeAlike mlX6_185 lmX4_makeAlike lpX4_makeAlike ⟨Nat.le_of_ble_eq_true rfl, Nat.le_of_ble_eq_true rfl⟩ ⟨Nat.le_of_ble_eq_true rfl, Nat.le_of_ble_eq_true rfl⟩ rfl (st_cell J41.1 gb99) (Nat.le_of_ble_eq_true rfl) (dk rfl) ?_
      rintro _ h104 ⟨b103, rfl⟩ J105
      refine br_ok X (dk rfl) rfl (show ((58 : Nat) : Int) + 14 = ((72 : Nat) : Int) from rfl) (fun _ => ?_) (fun q => absurd trivial q)
      iterate 2 refine fst1_ok X (dk rfl) rfl ?_
      refine br_ok X (dk rfl) rfl (show ((76 : Nat) : Int) + 9 = ((85 : Nat) : Int) from rfl) (fun c106 => ?_) (fun c107 => ?_)
      · refine fst1_ok X (dk rfl) rfl ?_
        refine br_ok X (dk rfl) rfl (show ((87 : Nat) : Int) + 17 = ((104 : Nat) : Int) from rfl) (fun c108 => ?_) (fun c109 => ?_)
        · refine fst1_ok X (dk rfl) rfl ?_
          obtain ⟨dn111, rf112, hx110⟩ := bm_open J105.1 gb14
          refine getf_ok X flX6_55 (dk rfl) hx110 rfl ?_
          refine fst1_ok X (dk rfl) rfl ?_
          refine getf_ok X flX6_38 (dk rfl) hx110 rfl ?_
          obtain ⟨bo113, co114, ho115, st116, pr117, gb118, tb119, gc120, gh121, gs122, tp123⟩ := id tbc28
          refine callVW_ok (ci := 3) (T := TX1) (N := 5) (av := [.ref _]) (r := []) X E J105 (c1_tellInto _ J105.1 tbc28 tsa25) lkX1_tellInto mlX6_193 lmX1_tellInto lpX1_tellInto ⟨Nat.le_of_ble_eq_true rfl, Nat.le_of_ble_eq_true rfl⟩ ⟨Nat.le_of_ble_eq_true rfl, Nat.le_of_ble_eq_true rfl⟩ rfl (is_cell J105.1 gb118) (Nat.le_of_ble_eq_true rfl) (dk rfl) ?_
          rintro _ h124 rfl J125
          iterate 2 refine fst1_ok X (dk rfl) rfl ?_
          refine callVW_ok (ci := 8) (T := TX6) (N := 14) (av := [.ref _]) (r := []) X E J125 (c6_putSpareAnswerInto _ J125.1 T0 tb39) lkX6_putSpareAnswerInto mlX6_179 lmX6_putSpareAnswerInto lpX6_putSpareAnswerInto ⟨Nat.le_of_ble_eq_true rfl, Nat.le_of_ble_eq_true rfl⟩ ⟨Nat.le_of_ble_eq_true rfl, Nat.le_of_ble_eq_true rfl⟩ rfl (bm_cell J125.1 gb14) (Nat.le_of_ble_eq_true rfl) (dk rfl) ?_
          rintro _ h127 ⟨x126, rfl⟩ J128
          refine WRX.ret ?_
          exact reti_ok X hr hlk rfl (dk rfl) ⟨⟨_, rfl⟩, J128⟩ (Nat.le_of_ble_eq_true rfl) (Nat.le_of_ble_eq_true rfl)
        · refine fst1_ok X (dk rfl) rfl ?_
          obtain ⟨dn130, rf131, hx129⟩ := bm_open J105.1 gb14
          refine getf_ok X flX6_48 (dk rfl) hx129 rfl ?_
          refine fst1_ok X (dk rfl) rfl ?_
          refine getf_ok X flX6_38 (dk rfl) hx129 rfl ?_
          refine callVW_ok (ci := 6) (T := TX4) (N := 5) (av := [.ref _]) (r := []) X E J105 (c4_tellInto _ J105.1 tbs27 tsa25) lkX4_tellInto mlX6_190 lmX4_tellInto lpX4_tellInto ⟨Nat.le_of_ble_eq_true rfl, Nat.le_of_ble_eq_true rfl⟩ ⟨Nat.le_of_ble_eq_true rfl, Nat.le_of_ble_eq_true rfl⟩ rfl (st_cell J105.1 gb99) (Nat.le_of_ble_eq_true rfl) (dk rfl) ?_
          rintro _ h132 rfl J133
          refine br_ok X (dk rfl) rfl (show ((101 : Nat) : Int) + 14 = ((115 : Nat) : Int) from rfl) (fun _ => ?_) (fun q => absurd trivial q)
          iterate 2 refine fst1_ok X (dk rfl) rfl ?_
          refine callVW_ok (ci := 8) (T := TX6) (N := 14) (av := [.ref _]) (r := []) X E J133 (c6_putSpareAnswerInto _ J133.1 T0 tb39) lkX6_putSpareAnswerInto mlX6_179 lmX6_putSpareAnswerInto lpX6_putSpareAnswerInto ⟨Nat.le_of_ble_eq_true rfl, Nat.le_of_ble_eq_true rfl⟩ ⟨Nat.le_of_ble_eq_true rfl, Nat.le_of_ble_eq_true rfl⟩ rfl (bm_cell J133.1 gb14) (Nat.le_of_ble_eq_true rfl) (dk rfl) ?_
          rintro _ h135 ⟨x134, rfl⟩ J136
          refine WRX.ret ?_
          exact reti_ok X hr hlk rfl (dk rfl) ⟨⟨_, rfl⟩, J136⟩ (Nat.le_of_ble_eq_true rfl) (Nat.le_of_ble_eq_true rfl)
      · iterate 2 refine fst1_ok X (dk rfl) rfl ?_
        refine callVW_ok (ci := 8) (T := TX6) (N := 14) (av := [.int _]) (r := []) X E J105 (c6_did _ J105.1 T0 _) lkX6_did mlX6_80 lmX6_did lpX6_did ⟨Nat.le_of_ble_eq_true rfl, Nat.le_of_ble_eq_true rfl⟩ ⟨Nat.le_of_ble_eq_true rfl, Nat.le_of_ble_eq_true rfl⟩ rfl (bm_cell J105.1 gb14) (Nat.le_of_ble_eq_true rfl) (dk rfl) ?_
        rintro _ h138 ⟨x137, rfl⟩ J139
        refine WRX.ret ?_
        exact reti_ok X hr hlk rfl (dk rfl) ⟨⟨_, rfl⟩, J139⟩ (Nat.le_of_ble_eq_true rfl) (Nat.le_of_ble_eq_true rfl)
  · iterate 2 refine fst1_ok X (dk rfl) rfl ?_
    refine br_ok X (dk rfl) rfl (show ((29 : Nat) : Int) + 13 = ((42 : Nat) : Int) from rfl) (fun c140 => ?_) (fun c141 => ?_)
    · refine fst1_ok X (dk rfl) rfl ?_
      refine br_ok X (dk rfl) rfl (show ((44 : Nat) : Int) + 17 = ((61 : Nat) : Int) from rfl) (fun c142 => ?_) (fun c143 => ?_)
      · refine fst1_ok X (dk rfl) rfl ?_
        obtain ⟨dn145, rf146, hx144⟩ := bm_open J41.1 gb14
        refine getf_ok X flX6_55 (dk rfl) hx144 rfl ?_
        iterate 2 refine fst1_ok X (dk rfl) rfl ?_
        obtain ⟨bo147, co148, ho149, st150, pr151, gb152, tb153, gc154, gh155, gs156, tp157⟩ := id tbc28
        refine callVW_ok (ci := 3) (T := TX1) (N := 5) (av := [.ref _, .ref _]) (r := []) X E J41 (c1_makeAlike _ J41.1 tbc28 tb31 tb35) lkX1_makeAlike mlX6_189 lmX1_makeAlike lpX1_makeAlike ⟨Nat.le_of_ble_eq_true rfl, Nat.le_of_ble_eq_true rfl⟩ ⟨Nat.le_of_ble_eq_true rfl, Nat.le_of_ble_eq_true rfl⟩ rfl (is_cell J41.1 gb152) (Nat.le_of_ble_eq_true rfl) (dk rfl) ?_
        rintro _ h159 ⟨b158, rfl⟩ J160
        iterate 2 refine fst1_ok X (dk rfl) rfl ?_
        refine br_ok X (dk rfl) rfl (show ((76 : Nat) : Int) + 9 = ((85 : Nat) : Int) from rfl) (fun c161 => ?_) (fun c162 => ?_)
        · refine fst1_ok X (dk rfl) rfl ?_
          refine br_ok X (dk rfl) rfl (show ((87 : Nat) : Int) + 17 = ((104 : Nat) : Int) from rfl) (fun c163 => ?_) (fun c164 => ?_)
          · refine fst1_ok X (dk rfl) rfl ?_
            obtain ⟨dn166, rf167, hx165⟩ := bm_open J160.1 gb14
            refine getf_ok X flX6_55 (dk rfl) hx165 rfl ?_
            refine fst1_ok X (dk rfl) rfl ?_
            refine getf_ok X flX6_38 (dk rfl) hx165 rfl ?_
            refine callVW_ok (ci := 3) (T := TX1) (N := 5) (av := [.ref _]) (r := []) X E J160 (c1_tellInto _ J160.1 tbc28 tsa25) lkX1_tellInto mlX6_193 lmX1_tellInto lpX1_tellInto ⟨Nat.le_of_ble_eq_true rfl, Nat.le_of_ble_eq_true rfl⟩ ⟨Nat.le_of_ble_eq_true rfl, Nat.le_of_ble_eq_true rfl⟩ rfl (is_cell J160.1 gb152) (Nat.le_of_ble_eq_true rfl) (dk rfl) ?_
            rintro _ h168 rfl J169
            iterate 2 refine fst1_ok X (dk rfl) rfl ?_
            refine callVW_ok (ci := 8) (T := TX6) (N := 14) (av := [.ref _]) (r := []) X E J169 (c6_putSpareAnswerInto _ J169.1 T0 tb39) lkX6_putSpareAnswerInto mlX6_179 lmX6_putSpareAnswerInto lpX6_putSpareAnswerInto ⟨Nat.le_of_ble_eq_true rfl, Nat.le_of_ble_eq_true rfl⟩ ⟨Nat.le_of_ble_eq_true rfl, Nat.le_of_ble_eq_true rfl⟩ rfl (bm_cell J169.1 gb14) (Nat.le_of_ble_eq_true rfl) (dk rfl) ?_
            rintro _ h171 ⟨x170, rfl⟩ J172
            refine WRX.ret ?_
            exact reti_ok X hr hlk rfl (dk rfl) ⟨⟨_, rfl⟩, J172⟩ (Nat.le_of_ble_eq_true rfl) (Nat.le_of_ble_eq_true rfl)
          · refine fst1_ok X (dk rfl) rfl ?_
            obtain ⟨dn174, rf175, hx173⟩ := bm_open J160.1 gb14
            refine getf_ok X flX6_48 (dk rfl) hx173 rfl ?_
            refine fst1_ok X (dk rfl) rfl ?_
            refine getf_ok X flX6_38 (dk rfl) hx173 rfl ?_
            obtain ⟨bo176, st177, pr178, gb179, tb180, gs181, tp182⟩ := id tbs27
            refine callVW_ok (ci := 6) (T := TX4) (N := 5) (av := [.ref _]) (r := []) X E J160 (c4_tellInto _ J160.1 tbs27 tsa25) lkX4_tellInto mlX6_190 lmX4_tellInto lpX4_tellInto ⟨Nat.le_of_ble_eq_true rfl, Nat.le_of_ble_eq_true rfl⟩ ⟨Nat.le_of_ble_eq_true rfl, Nat.le_of_ble_eq_true rfl⟩ rfl (st_cell J160.1 gb179) (Nat.le_of_ble_eq_true rfl) (dk rfl) ?_
            rintro _ h183 rfl J184
            refine br_ok X (dk rfl) rfl (show ((101 : Nat) : Int) + 14 = ((115 : Nat) : Int) from rfl) (fun _ => ?_) (fun q => absurd trivial q)
            iterate 2 refine fst1_ok X (dk rfl) rfl ?_
            refine callVW_ok (ci := 8) (T := TX6) (N := 14) (av := [.ref _]) (r := []) X E J184 (c6_putSpareAnswerInto _ J184.1 T0 tb39) lkX6_putSpareAnswerInto mlX6_179 lmX6_putSpareAnswerInto lpX6_putSpareAnswerInto ⟨Nat.le_of_ble_eq_true rfl, Nat.le_of_ble_eq_true rfl⟩ ⟨Nat.le_of_ble_eq_true rfl, Nat.le_of_ble_eq_true rfl⟩ rfl (bm_cell J184.1 gb14) (Nat.le_of_ble_eq_true rfl) (dk rfl) ?_
            rintro _ h186 ⟨x185, rfl⟩ J187
            refine WRX.ret ?_
            exact reti_ok X hr hlk rfl (dk rfl) ⟨⟨_, rfl⟩, J187⟩ (Nat.le_of_ble_eq_true rfl) (Nat.le_of_ble_eq_true rfl)
        · iterate 2 refine fst1_ok X (dk rfl) rfl ?_
          refine callVW_ok (ci := 8) (T := TX6) (N := 14) (av := [.int _]) (r := []) X E J160 (c6_did _ J160.1 T0 _) lkX6_did mlX6_80 lmX6_did lpX6_did ⟨Nat.le_of_ble_eq_true rfl, Nat.le_of_ble_eq_true rfl⟩ ⟨Nat.le_of_ble_eq_true rfl, Nat.le_of_ble_eq_true rfl⟩ rfl (bm_cell J160.1 gb14) (Nat.le_of_ble_eq_true rfl) (dk rfl) ?_
          rintro _ h189 ⟨x188, rfl⟩ J190
          refine WRX.ret ?_
          exact reti_ok X hr hlk rfl (dk rfl) ⟨⟨_, rfl⟩, J190⟩ (Nat.le_of_ble_eq_true rfl) (Nat.le_of_ble_eq_true rfl)
      · refine fst1_ok X (dk rfl) rfl ?_
        obtain ⟨dn192, rf193, hx191⟩ := bm_open J41.1 gb14
        refine getf_ok X flX6_48 (dk rfl) hx191 rfl ?_
        iterate 2 refine fst1_ok X (dk rfl) rfl ?_
        obtain ⟨bo194, st195, pr196, gb197, tb198, gs199, tp200⟩ := id tbs27
        refine callVW_ok (ci := 6) (T := TX4) (N := 5) (av := [.ref _, .ref _]) (r := []) X E J41 (c4_makeAlike _ J41.1 tbs27 tb31 tb35) lkX4_makeAlike mlX6_185 lmX4_makeAlike lpX4_makeAlike ⟨Nat.le_of_ble_eq_true rfl, Nat.le_of_ble_eq_true rfl⟩ ⟨Nat.le_of_ble_eq_true rfl, Nat.le_of_ble_eq_true rfl⟩ rfl (st_cell J41.1 gb197) (Nat.le_of_ble_eq_true rfl) (dk rfl) ?_
        rintro _ h202 ⟨b201, rfl⟩ J203
        refine br_ok X (dk rfl) rfl (show ((58 : Nat) : Int) + 14 = ((72 : Nat) : Int) from rfl) (fun _ => ?_) (fun q => absurd trivial q)
        iterate 2 refine fst1_ok X (dk rfl) rfl ?_
        refine br_ok X (dk rfl) rfl (show ((76 : Nat) : Int) + 9 = ((85 : Nat) : Int) from rfl) (fun c204 => ?_) (fun c205 => ?_)
        · refine fst1_ok X (dk rfl) rfl ?_
          refine br_ok X (dk rfl) rfl (show ((87 : Nat) : Int) + 17 = ((104 : Nat) : Int) from rfl) (fun c206 => ?_) (fun c207 => ?_)
          · refine fst1_ok X (dk rfl) rfl ?_
            obtain ⟨dn209, rf210, hx208⟩ := bm_open J203.1 gb14
            refine getf_ok X flX6_55 (dk rfl) hx208 rfl ?_
            refine fst1_ok X (dk rfl) rfl ?_
            refine getf_ok X flX6_38 (dk rfl) hx208 rfl ?_
            obtain ⟨bo211, co212, ho213, st214, pr215, gb216, tb217, gc218, gh219, gs220, tp221⟩ := id tbc28
            refine callVW_ok (ci := 3) (T := TX1) (N := 5) (av := [.ref _]) (r := []) X E J203 (c1_tellInto _ J203.1 tbc28 tsa25) lkX1_tellInto mlX6_193 lmX1_tellInto lpX1_tellInto ⟨Nat.le_of_ble_eq_true rfl, Nat.le_of_ble_eq_true rfl⟩ ⟨Nat.le_of_ble_eq_true rfl, Nat.le_of_ble_eq_true rfl⟩ rfl (is_cell J203.1 gb216) (Nat.le_of_ble_eq_true rfl) (dk rfl) ?_
            rintro _ h222 rfl J223
            iterate 2 refine fst1_ok X (dk rfl) rfl ?_
            refine callVW_ok (ci := 8) (T := TX6) (N := 14) (av := [.ref _]) (r := []) X E J223 (c6_putSpareAnswerInto _ J223.1 T0 tb39) lkX6_putSpareAnswerInto mlX6_179 lmX6_putSpareAnswerInto lpX6_putSpareAnswerInto ⟨Nat.le_of_ble_eq_true rfl, Nat.le_of_ble_eq_true rfl⟩ ⟨Nat.le_of_ble_eq_true rfl, Nat.le_of_ble_eq_true rfl⟩ rfl (bm_cell J223.1 gb14) (Nat.le_of_ble_eq_true rfl) (dk rfl) ?_
            rintro _ h225 ⟨x224, rfl⟩ J226
            refine WRX.ret ?_
            exact reti_ok X hr hlk rfl (dk rfl) ⟨⟨_, rfl⟩, J226⟩ (Nat.le_of_ble_eq_true rfl) (Nat.le_of_ble_eq_true rfl)
          · refine fst1_ok X (dk rfl) rfl ?_
            obtain ⟨dn228, rf229, hx227⟩ := bm_open J203.1 gb14
            refine getf_ok X flX6_48 (dk rfl) hx227 rfl ?_
            refine fst1_ok X (dk rfl) rfl ?_
            refine getf_ok X flX6_38 (dk rfl) hx227 rfl ?_
            refine callVW_ok (ci := 6) (T := TX4) (N := 5) (av := [.ref _]) (r := []) X E J203 (c4_tellInto _ J203.1 tbs27 tsa25) lkX4_tellInto mlX6_190 lmX4_tellInto lpX4_tellInto ⟨Nat.le_of_ble_eq_true rfl, Nat.le_of_ble_eq_true rfl⟩ ⟨Nat.le_of_ble_eq_true rfl, Nat.le_of_ble_eq_true rfl⟩ rfl (st_cell J203.1 gb197) (Nat.le_of_ble_eq_true rfl) (dk rfl) ?_
            rintro _ h230 rfl J231
            refine br_ok X (dk rfl) rfl (show ((101 : Nat) : Int) + 14 = ((115 : Nat) : Int) from rfl) (fun _ => ?_) (fun q => absurd trivial q)
            iterate 2 refine fst1_ok X (dk rfl) rfl ?_
            refine callVW_ok (ci := 8) (T := TX6) (N := 14) (av := [.ref _]) (r := []) X E J231 (c6_putSpareAnswerInto _ J231.1 T0 tb39) lkX6_putSpareAnswerInto mlX6_179 lmX6_putSpareAnswerInto lpX6_putSpareAnswerInto ⟨Nat.le_of_ble_eq_true rfl, Nat.le_of_ble_eq_true rfl⟩ ⟨Nat.le_of_ble_eq_true rfl, Nat.le_of_ble_eq_true rfl⟩ rfl (bm_cell J231.1 gb14) (Nat.le_of_ble_eq_true rfl) (dk rfl) ?_
            rintro _ h233 ⟨x232, rfl⟩ J234
            refine WRX.ret ?_
            exact reti_ok X hr hlk rfl (dk rfl) ⟨⟨_, rfl⟩, J234⟩ (Nat.le_of_ble_eq_true rfl) (Nat.le_of_ble_eq_true rfl)
        · iterate 2 refine fst1_ok X (dk rfl) rfl ?_
          refine callVW_ok (ci := 8) (T := TX6) (N := 14) (av := [.int _]) (r := []) X E J203 (c6_did _ J203.1 T0 _) lkX6_did mlX6_80 lmX6_did lpX6_did ⟨Nat.le_of_ble_eq_true rfl, Nat.le_of_ble_eq_true rfl⟩ ⟨Nat.le_of_ble_eq_true rfl, Nat.le_of_ble_eq_true rfl⟩ rfl (bm_cell J203.1 gb14) (Nat.le_of_ble_eq_true rfl) (dk rfl) ?_
          rintro _ h236 ⟨x235, rfl⟩ J237
          refine WRX.ret ?_
          exact reti_ok X hr hlk rfl (dk rfl) ⟨⟨_, rfl⟩, J237⟩ (Nat.le_of_ble_eq_true rfl) (Nat.le_of_ble_eq_true rfl)
    · exact throwS_ok X E hl ht hlk xwX6_88 (List.mem_of_getElem? (i := 1) rfl) (dk rfl) (dk rfl) (dk rfl) (dk rfl) (dk rfl) ⟨Nat.le_of_ble_eq_true rfl, Nat.le_of_ble_eq_true rfl⟩ ⟨Nat.le_of_ble_eq_true rfl, Nat.le_of_ble_eq_true rfl⟩ ⟨(by simp), J41⟩
set_option maxHeartbeats 4000000 in
theorem c6_match (h : AH) (hl : la.stackTraces = false) (I : Tyg Γ h) {o0 : Nat} {kn : Int32} (T0 : BmT Γ o0 kn) (x1 : Int32) (x2 : Int32) (x3 : Int32) : CTX la D cA B0 pa yX6_match cX6_match 7 (some .int) (rmD 7 3 18) [.ref o0, .int (x1), .int (x2), .int (x3)] h (WrO Γ iP h) (pxW [ioobe] Γ h) := by
  refine CTX_of (by decide +kernel) (Nat.le_of_ble_eq_true rfl) ?_
  intro p e s m args below meth c X E hr hlk hnm ht
  have dk : ∀ {pc : Nat} {q : Instr × Nat}, lkd DX6_match pc = some q → decode cX6_match pc = .ok q := lkd_ok DX6_match_ok
  obtain ⟨S1, A2, sp3, os4, wd5, ow6, sa7, oa8, bs9, bc10, sh11, ss12, as13, gb14, gS15, gA16, sl17, sT18, al19, aT20, tsp21, tos22, twd23, tow24, tsa25, toa26, tbs27, tbc28, tsh29⟩ := id T0
  iterate 2 refine fst1_ok X (dk rfl) rfl ?_
  refine callVXW_ok (ci := 8) (T := TX6) (N := 14) (av := [.int _]) (r := []) X E (TI.rf I) ht hlk (c6_termOf _ hl (TI.rf I).1 T0 _) (by simp) lkX6_termOf mlX6_69 lmX6_termOf lpX6_termOf ⟨Nat.le_of_ble_eq_true rfl, Nat.le_of_ble_eq_true rfl⟩ ⟨Nat.le_of_ble_eq_true rfl, Nat.le_of_ble_eq_true rfl⟩ rfl (bm_cell (TI.rf I).1 gb14) (Nat.le_of_ble_eq_true rfl) (dk rfl) ?_
  rintro _ h32 ⟨b30, rfl, tb31⟩ J33
  iterate 3 refine fst1_ok X (dk rfl) rfl ?_
  refine callVXW_ok (ci := 8) (T := TX6) (N := 14) (av := [.int _]) (r := []) X E J33 ht hlk (c6_termOf _ hl J33.1 T0 _) (by simp) lkX6_termOf mlX6_69 lmX6_termOf lpX6_termOf ⟨Nat.le_of_ble_eq_true rfl, Nat.le_of_ble_eq_true rfl⟩ ⟨Nat.le_of_ble_eq_true rfl, Nat.le_of_ble_eq_true rfl⟩ rfl (bm_cell J33.1 gb14) (Nat.le_of_ble_eq_true rfl) (dk rfl) ?_
  rintro _ h36 ⟨b34, rfl, tb35⟩ J37
  iterate 3 refine fst1_ok X (dk rfl) rfl ?_
  refine callVXW_ok (ci := 8) (T := TX6) (N := 14) (av := [.int _]) (r := []) X E J37 ht hlk (c6_answerOf _ hl J37.1 T0 _) (by simp) lkX6_answerOf mlX6_151 lmX6_answerOf lpX6_answerOf ⟨Nat.le_of_ble_eq_true rfl, Nat.le_of_ble_eq_true rfl⟩ ⟨Nat.le_of_ble_eq_true rfl, Nat.le_of_ble_eq_true rfl⟩ rfl (bm_cell J37.1 gb14) (Nat.le_of_ble_eq_true rfl) (dk rfl) ?_
  rintro _ h40 ⟨b38, rfl, tb39⟩ J41
  iterate 2 refine fst1_ok X (dk rfl) rfl ?_
  obtain ⟨dn43, rf44, hx42⟩ := bm_open J41.1 gb14
  refine getf_ok X flX6_38 (dk rfl) hx42 rfl ?_
  iterate 2 refine fst1_ok X (dk rfl) rfl ?_
  obtain ⟨ar45, ts46, gb47, ga48, tl49, tt50⟩ := id tsa25
  refine callVW_ok (ci := 2) (T := TX0) (N := 1) (av := [.ref _, .ref _]) (r := []) X E J41 (c0_becomeMatch _ J41.1 tsa25 tb31 tb35) lkX0_becomeMatch mlX6_194 lmX0_becomeMatch lpX0_becomeMatch ⟨Nat.le_of_ble_eq_true rfl, Nat.le_of_ble_eq_true rfl⟩ ⟨Nat.le_of_ble_eq_true rfl, Nat.le_of_ble_eq_true rfl⟩ rfl (is_cell J41.1 gb47) (Nat.le_of_ble_eq_true rfl) (dk rfl) ?_
  rintro _ h52 ⟨b51, rfl⟩ J53
  refine br_ok X (dk rfl) rfl (show ((32 : Nat) : Int) + 12 = ((44 : Nat) : Int) from rfl) (fun c54 => ?_) (fun c55 => ?_)
  · iterate 2 refine fst1_ok X (dk rfl) rfl ?_
    refine callVW_ok (ci := 8) (T := TX6) (N := 14) (av := [.int _]) (r := []) X E J53 (c6_did _ J53.1 T0 _) lkX6_did mlX6_80 lmX6_did lpX6_did ⟨Nat.le_of_ble_eq_true rfl, Nat.le_of_ble_eq_true rfl⟩ ⟨Nat.le_of_ble_eq_true rfl, Nat.le_of_ble_eq_true rfl⟩ rfl (bm_cell J53.1 gb14) (Nat.le_of_ble_eq_true rfl) (dk rfl) ?_
    rintro _ h57 ⟨x56, rfl⟩ J58
    refine WRX.ret ?_
    exact reti_ok X hr hlk rfl (dk rfl) ⟨⟨_, rfl⟩, J58⟩ (Nat.le_of_ble_eq_true rfl) (Nat.le_of_ble_eq_true rfl)
  · iterate 2 refine fst1_ok X (dk rfl) rfl ?_
    refine callVW_ok (ci := 8) (T := TX6) (N := 14) (av := [.ref _]) (r := []) X E J53 (c6_putSpareAnswerInto _ J53.1 T0 tb39) lkX6_putSpareAnswerInto mlX6_179 lmX6_putSpareAnswerInto lpX6_putSpareAnswerInto ⟨Nat.le_of_ble_eq_true rfl, Nat.le_of_ble_eq_true rfl⟩ ⟨Nat.le_of_ble_eq_true rfl, Nat.le_of_ble_eq_true rfl⟩ rfl (bm_cell J53.1 gb14) (Nat.le_of_ble_eq_true rfl) (dk rfl) ?_
    rintro _ h60 ⟨x59, rfl⟩ J61
    refine br_ok X (dk rfl) rfl (show ((41 : Nat) : Int) + 8 = ((49 : Nat) : Int) from rfl) (fun _ => ?_) (fun q => absurd trivial q)
    refine WRX.ret ?_
    exact reti_ok X hr hlk rfl (dk rfl) ⟨⟨_, rfl⟩, J61⟩ (Nat.le_of_ble_eq_true rfl) (Nat.le_of_ble_eq_true rfl)
end M96
