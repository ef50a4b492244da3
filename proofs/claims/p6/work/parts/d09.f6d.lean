/-! the class, weakly, over types that keep contents: house, digest (printed by wip/p20/genFZ.py from wip/p40/cl6.py) -/
section M98
variable {la : Launch} {D : va_G} {cA : Nat → ClassId} {B0 pa : Nat} {Γ : TY}
set_option maxHeartbeats 4000000 in
theorem FZ.c6_house (h : AH) (hl : la.stackTraces = false) (I : Tyg Γ h) {o0 : Nat} {kn : Int32} (T0 : BmT Γ o0 kn) (x1 : Int32) : CTX la D cA B0 pa yX6_house cX6_house 2 (some .int) (rmD 6 1 6) [.ref o0, .int (x1)] h (WrO Γ iP h) (pxW [iae] Γ h) := by
  refine CTX_of (by decide +kernel) (Nat.le_of_ble_eq_true rfl) ?_
  intro p e s m args below meth c X E hr hlk hnm ht
  have dk : ∀ {pc : Nat} {q : Instr × Nat}, lkd DX6_house pc = some q → decode cX6_house pc = .ok q := lkd_ok DX6_house_ok
  obtain ⟨S1, A2, sp3, os4, wd5, ow6, sa7, oa8, bs9, bc10, sh11, ss12, as13, gb14, gS15, gA16, sl17, sT18, al19, aT20, tsp21, tos22, twd23, tow24, tsa25, toa26, tbs27, tbc28, tsh29⟩ := id T0
  refine fst1_ok X (dk rfl) rfl ?_
  refine br_ok X (dk rfl) rfl (show ((1 : Nat) : Int) + 8 = ((9 : Nat) : Int) from rfl) (fun c30 => ?_) (fun c31 => ?_)
  · exact throwS_ok X E hl ht hlk xwX6_88 (List.mem_of_getElem? (i := 3) rfl) (dk rfl) (dk rfl) (dk rfl) (dk rfl) (dk rfl) ⟨Nat.le_of_ble_eq_true rfl, Nat.le_of_ble_eq_true rfl⟩ ⟨Nat.le_of_ble_eq_true rfl, Nat.le_of_ble_eq_true rfl⟩ ⟨(by simp), (TI.rf I)⟩
  · iterate 2 refine fst1_ok X (dk rfl) rfl ?_
    refine br_ok X (dk rfl) rfl (show ((6 : Nat) : Int) + 13 = ((19 : Nat) : Int) from rfl) (fun c32 => ?_) (fun c33 => ?_)
    · refine fst1_ok X (dk rfl) rfl ?_
      obtain ⟨n34, hn35, hen34⟩ := (inN_le (K := 4) (by omega) c31 (by rw [show nI 4 = Int32.ofInt 4 by decide +kernel]; exact c32))
      rw [hen34]
      match n34, hn35 with
      | 0, _ =>
        refine tsw_ok X (off := 32) (tgt := 52) (dk rfl) (by decide +kernel) (by decide +kernel) (by decide +kernel) rfl ?_
        refine fst1_ok X (dk rfl) rfl ?_
        obtain ⟨dn37, rf38, hx36⟩ := bm_open (TI.rf I).1 gb14
        refine getf_ok X flX6_241 (dk rfl) hx36 rfl ?_
        refine WRX.ret ?_
        exact reti_ok X hr hlk rfl (dk rfl) ⟨⟨_, rfl⟩, (TI.rf I)⟩ (Nat.le_of_ble_eq_true rfl) (Nat.le_of_ble_eq_true rfl)
      | 1, _ =>
        refine tsw_ok X (off := 37) (tgt := 57) (dk rfl) (by decide +kernel) (by decide +kernel) (by decide +kernel) rfl ?_
        refine fst1_ok X (dk rfl) rfl ?_
        obtain ⟨dn40, rf41, hx39⟩ := bm_open (TI.rf I).1 gb14
        refine getf_ok X flX6_245 (dk rfl) hx39 rfl ?_
        refine WRX.ret ?_
        exact reti_ok X hr hlk rfl (dk rfl) ⟨⟨_, rfl⟩, (TI.rf I)⟩ (Nat.le_of_ble_eq_true rfl) (Nat.le_of_ble_eq_true rfl)
      | 2, _ =>
        refine tsw_ok X (off := 42) (tgt := 62) (dk rfl) (by decide +kernel) (by decide +kernel) (by decide +kernel) rfl ?_
        refine fst1_ok X (dk rfl) rfl ?_
        obtain ⟨dn43, rf44, hx42⟩ := bm_open (TI.rf I).1 gb14
        refine getf_ok X flX6_248 (dk rfl) hx42 rfl ?_
        refine WRX.ret ?_
        exact reti_ok X hr hlk rfl (dk rfl) ⟨⟨_, rfl⟩, (TI.rf I)⟩ (Nat.le_of_ble_eq_true rfl) (Nat.le_of_ble_eq_true rfl)
      | 3, _ =>
        refine tsw_ok X (off := 47) (tgt := 67) (dk rfl) (by decide +kernel) (by decide +kernel) (by decide +kernel) rfl ?_
        refine fst1_ok X (dk rfl) rfl ?_
        refine callVR_ok (ci := 8) (T := TX6) (N := 14) (av := []) (r := []) X E (c6_sizesTogether _ (TI.rf I).1 T0) lkX6_sizesTogether mlX6_251 lmX6_sizesTogether lpX6_sizesTogether ⟨Nat.le_of_ble_eq_true rfl, Nat.le_of_ble_eq_true rfl⟩ ⟨Nat.le_of_ble_eq_true rfl, Nat.le_of_ble_eq_true rfl⟩ rfl (bm_cell (TI.rf I).1 gb14) (Nat.le_of_ble_eq_true rfl) (dk rfl) ?_
        rintro _ ⟨x45, rfl⟩
        refine WRX.ret ?_
        exact reti_ok X hr hlk rfl (dk rfl) ⟨⟨_, rfl⟩, (TI.rf I)⟩ (Nat.le_of_ble_eq_true rfl) (Nat.le_of_ble_eq_true rfl)
      | 4, _ =>
        refine tswo_ok X (tgt := 72) (dk rfl) (by decide +kernel) rfl ?_
        refine fst1_ok X (dk rfl) rfl ?_
        refine callVR_ok (ci := 8) (T := TX6) (N := 14) (av := []) (r := []) X E (c6_movesTogether _ (TI.rf I).1 T0) lkX6_movesTogether mlX6_254 lmX6_movesTogether lpX6_movesTogether ⟨Nat.le_of_ble_eq_true rfl, Nat.le_of_ble_eq_true rfl⟩ ⟨Nat.le_of_ble_eq_true rfl, Nat.le_of_ble_eq_true rfl⟩ rfl (bm_cell (TI.rf I).1 gb14) (Nat.le_of_ble_eq_true rfl) (dk rfl) ?_
        rintro _ ⟨x46, rfl⟩
        refine WRX.ret ?_
        exact reti_ok X hr hlk rfl (dk rfl) ⟨⟨_, rfl⟩, (TI.rf I)⟩ (Nat.le_of_ble_eq_true rfl) (Nat.le_of_ble_eq_true rfl)
    · exact throwS_ok X E hl ht hlk xwX6_88 (List.mem_of_getElem? (i := 3) rfl) (dk rfl) (dk rfl) (dk rfl) (dk rfl) (dk rfl) ⟨Nat.le_of_ble_eq_true rfl, Nat.le_of_ble_eq_true rfl⟩ ⟨Nat.le_of_ble_eq_true rfl, Nat.le_of_ble_eq_true rfl⟩ ⟨(by simp), (TI.rf I)⟩
set_option maxHeartbeats 4000000 in
theorem FZ.c6_houseN (h : AH) (I : Tyg Γ h) {o0 : Nat} {kn : Int32} (T0 : BmT Γ o0 kn) (x1 : Int32) (hx1 : inN 5 x1) : CT la D cA B0 pa yX6_house cX6_house 2 (some .int) (rmD 5 0 0) [.ref o0, .int (x1)] h (RdO iP h) := by
  refine CT_of (by decide +kernel) (Nat.le_of_ble_eq_true rfl) ?_
  intro p e s m args below meth c X E hr hlk hnm
  have dk : ∀ {pc : Nat} {q : Instr × Nat}, lkd DX6_house pc = some q → decode cX6_house pc = .ok q := lkd_ok DX6_house_ok
  obtain ⟨S1, A2, sp3, os4, wd5, ow6, sa7, oa8, bs9, bc10, sh11, ss12, as13, gb14, gS15, gA16, sl17, sT18, al19, aT20, tsp21, tos22, twd23, tow24, tsa25, toa26, tbs27, tbc28, tsh29⟩ := id T0
  refine fst1_ok X (dk rfl) rfl ?_
  refine br_ok X (dk rfl) rfl (show ((1 : Nat) : Int) + 8 = ((9 : Nat) : Int) from rfl) (fun c30 => ?_) (fun c31 => ?_)
  · exact absurd c30 (inN_pos hx1 (by decide))
  · iterate 2 refine fst1_ok X (dk rfl) rfl ?_
    refine br_ok X (dk rfl) rfl (show ((6 : Nat) : Int) + 13 = ((19 : Nat) : Int) from rfl) (fun c32 => ?_) (fun c33 => ?_)
    · refine fst1_ok X (dk rfl) rfl ?_
      obtain ⟨n34, hn35, hen34⟩ := hx1
      rw [hen34]
      match n34, hn35 with
      | 0, _ =>
        refine tsw_ok X (off := 32) (tgt := 52) (dk rfl) (by decide +kernel) (by decide +kernel) (by decide +kernel) rfl ?_
        refine fst1_ok X (dk rfl) rfl ?_
        obtain ⟨dn37, rf38, hx36⟩ := bm_open (TI.rf I).1 gb14
        refine getf_ok X flX6_241 (dk rfl) hx36 rfl ?_
        exact reti_ok X hr hlk rfl (dk rfl) ⟨⟨_, rfl⟩, rfl⟩ (Nat.le_of_ble_eq_true rfl) (Nat.le_of_ble_eq_true rfl)
      | 1, _ =>
        refine tsw_ok X (off := 37) (tgt := 57) (dk rfl) (by decide +kernel) (by decide +kernel) (by decide +kernel) rfl ?_
        refine fst1_ok X (dk rfl) rfl ?_
        obtain ⟨dn40, rf41, hx39⟩ := bm_open (TI.rf I).1 gb14
        refine getf_ok X flX6_245 (dk rfl) hx39 rfl ?_
        exact reti_ok X hr hlk rfl (dk rfl) ⟨⟨_, rfl⟩, rfl⟩ (Nat.le_of_ble_eq_true rfl) (Nat.le_of_ble_eq_true rfl)
      | 2, _ =>
        refine tsw_ok X (off := 42) (tgt := 62) (dk rfl) (by decide +kernel) (by decide +kernel) (by decide +kernel) rfl ?_
        refine fst1_ok X (dk rfl) rfl ?_
        obtain ⟨dn43, rf44, hx42⟩ := bm_open (TI.rf I).1 gb14
        refine getf_ok X flX6_248 (dk rfl) hx42 rfl ?_
        exact reti_ok X hr hlk rfl (dk rfl) ⟨⟨_, rfl⟩, rfl⟩ (Nat.le_of_ble_eq_true rfl) (Nat.le_of_ble_eq_true rfl)
      | 3, _ =>
        refine tsw_ok X (off := 47) (tgt := 67) (dk rfl) (by decide +kernel) (by decide +kernel) (by decide +kernel) rfl ?_
        refine fst1_ok X (dk rfl) rfl ?_
        refine callVR_ok (ci := 8) (T := TX6) (N := 14) (av := []) (r := []) X E (c6_sizesTogether _ (TI.rf I).1 T0) lkX6_sizesTogether mlX6_251 lmX6_sizesTogether lpX6_sizesTogether ⟨Nat.le_of_ble_eq_true rfl, Nat.le_of_ble_eq_true rfl⟩ ⟨Nat.le_of_ble_eq_true rfl, Nat.le_of_ble_eq_true rfl⟩ rfl (bm_cell (TI.rf I).1 gb14) (Nat.le_of_ble_eq_true rfl) (dk rfl) ?_
        rintro _ ⟨x45, rfl⟩
        exact reti_ok X hr hlk rfl (dk rfl) ⟨⟨_, rfl⟩, rfl⟩ (Nat.le_of_ble_eq_true rfl) (Nat.le_of_ble_eq_true rfl)
      | 4, _ =>
        refine tswo_ok X (tgt := 72) (dk rfl) (by decide +kernel) rfl ?_
        refine fst1_ok X (dk rfl) rfl ?_
        refine callVR_ok (ci := 8) (T := TX6) (N := 14) (av := []) (r := []) X E (c6_movesTogether _ (TI.rf I).1 T0) lkX6_movesTogether mlX6_254 lmX6_movesTogether lpX6_movesTogether ⟨Nat.le_of_ble_eq_true rfl, Nat.le_of_ble_eq_true rfl⟩ ⟨Nat.le_of_ble_eq_true rfl, Nat.le_of_ble_eq_true rfl⟩ rfl (bm_cell (TI.rf I).1 gb14) (Nat.le_of_ble_eq_true rfl) (dk rfl) ?_
        rintro _ ⟨x46, rfl⟩
        exact reti_ok X hr hlk rfl (dk rfl) ⟨⟨_, rfl⟩, rfl⟩ (Nat.le_of_ble_eq_true rfl) (Nat.le_of_ble_eq_true rfl)
    · exact absurd (by rw [show Int32.ofInt 4 = nI 4 by decide +kernel]; exact inN_leN hx1 (by decide)) c33
set_option maxHeartbeats 4000000 in
theorem FZ.c6_digest (h : AH) (I : Tyg Γ h) {o0 : Nat} {kn : Int32} (T0 : BmT Γ o0 kn) : CT la D cA B0 pa yX6_digest cX6_digest 4 (some .long) (rmD 6 0 0) [.ref o0] h (WrO Γ jP h) := by
  refine CT_of (by decide +kernel) (Nat.le_of_ble_eq_true rfl) ?_
  intro p e s m args below meth c X E hr hlk hnm
  have dk : ∀ {pc : Nat} {q : Instr × Nat}, lkd DX6_digest pc = some q → decode cX6_digest pc = .ok q := lkd_ok DX6_digest_ok
  obtain ⟨S1, A2, sp3, os4, wd5, ow6, sa7, oa8, bs9, bc10, sh11, ss12, as13, gb14, gS15, gA16, sl17, sT18, al19, aT20, tsp21, tos22, twd23, tow24, tsa25, toa26, tbs27, tbc28, tsh29⟩ := id T0
  have L135 : ∀ j30 : Nat, j30 ≤ 5 → ∀ (y31 : Int64) (h33 : AH) (J34 : TI Γ h h33) (l : List (Nat × Value)), lsel l [3, 1, 0] = [(3, vI j30), (1, .long (y31)), (0, .ref o0)] → WR p la e (rmD 6 0 0) s m args below meth c D cA B0 4 (WrO Γ jP h) 135 l [] h33 0 0 := by
    refine loopN (fun j30 hj30 ih135 => ?_)
    intro y31 h33 J34 l hl
    refine WS.sel [3, 1, 0] hl ?_
    iterate 2 refine fst1_ok X (dk rfl) rfl ?_
    refine br_ok X (dk rfl) rfl (show ((137 : Nat) : Int) + 22 = ((159 : Nat) : Int) from rfl) (fun c35 => ?_) (fun c36 => ?_)
    · refine fst1_ok X (dk rfl) rfl ?_
      refine ldc2_ok X csX6_271 (dk rfl) ?_
      iterate 2 refine fst1_ok X (dk rfl) rfl ?_
      refine callVW_ok (ci := 8) (T := TX6) (N := 14) (av := []) (r := [_]) X E J34 (c6_isSound _ J34.1 T0) lkX6_isSound mlX6_303 lmX6_isSound lpX6_isSound ⟨Nat.le_of_ble_eq_true rfl, Nat.le_of_ble_eq_true rfl⟩ ⟨Nat.le_of_ble_eq_true rfl, Nat.le_of_ble_eq_true rfl⟩ rfl (bm_cell J34.1 gb14) (Nat.le_of_ble_eq_true rfl) (dk rfl) ?_
      rintro _ h38 ⟨b37, rfl⟩ J39
      refine br_ok X (dk rfl) rfl (show ((168 : Nat) : Int) + 7 = ((175 : Nat) : Int) from rfl) (fun c40 => ?_) (fun c41 => ?_)
      · iterate 3 refine fst1_ok X (dk rfl) rfl ?_
        exact retl_ok X hr hlk (dk rfl) ⟨⟨_, rfl⟩, J39⟩ (Nat.le_of_ble_eq_true rfl) (Nat.le_of_ble_eq_true rfl)
      · refine fst1_ok X (dk rfl) rfl ?_
        refine br_ok X (dk rfl) rfl (show ((172 : Nat) : Int) + 4 = ((176 : Nat) : Int) from rfl) (fun _ => ?_) (fun q => absurd trivial q)
        iterate 2 refine fst1_ok X (dk rfl) rfl ?_
        exact retl_ok X hr hlk (dk rfl) ⟨⟨_, rfl⟩, J39⟩ (Nat.le_of_ble_eq_true rfl) (Nat.le_of_ble_eq_true rfl)
    · refine fst1_ok X (dk rfl) rfl ?_
      refine ldc2_ok X csX6_271 (dk rfl) ?_
      iterate 3 refine fst1_ok X (dk rfl) rfl ?_
      refine callVR_ok (ci := 8) (T := TX6) (N := 14) (av := [.int _]) (r := [_]) X E (c6_houseN _ J34.1 T0 _ ⟨_, (nat_nlt (K := 4) (by omega) (by rw [show nI 4 = Int32.ofInt 4 by decide +kernel]; exact c36)), rfl⟩) lkX6_house mlX6_300 lmX6_house lpX6_house ⟨Nat.le_of_ble_eq_true rfl, Nat.le_of_ble_eq_true rfl⟩ ⟨Nat.le_of_ble_eq_true rfl, Nat.le_of_ble_eq_true rfl⟩ rfl (bm_cell J34.1 gb14) (Nat.le_of_ble_eq_true rfl) (dk rfl) ?_
      rintro _ ⟨x42, rfl⟩
      iterate 4 refine fst1_ok X (dk rfl) rfl ?_
      refine br_ok X (dk rfl) rfl (show ((156 : Nat) : Int) + (-21) = ((135 : Nat) : Int) from rfl) (fun _ => ?_) (fun q => absurd trivial q)
      exact ih135 (nat_nlt (K := 4) (by omega) (by rw [show nI 4 = Int32.ofInt 4 by decide +kernel]; exact c36)) _ h33 J34 _ (by rw [← vI_succ j30]; rfl)
  have L83 : ∀ j43 : Nat, j43 ≤ 3 → ∀ (y44 : Int64) (h46 : AH) (J47 : TI Γ h h46) (l : List (Nat × Value)), lsel l [3, 1, 0] = [(3, vI j43), (1, .long (y44)), (0, .ref o0)] → WR p la e (rmD 6 0 0) s m args below meth c D cA B0 4 (WrO Γ jP h) 83 l [] h46 0 0 := by
    refine loopN (fun j43 hj43 ih83 => ?_)
    intro y44 h46 J47 l hl
    refine WS.sel [3, 1, 0] hl ?_
    iterate 2 refine fst1_ok X (dk rfl) rfl ?_
    refine br_ok X (dk rfl) rfl (show ((85 : Nat) : Int) + 20 = ((105 : Nat) : Int) from rfl) (fun c48 => ?_) (fun c49 => ?_)
    · refine fst1_ok X (dk rfl) rfl ?_
      refine ldc2_ok X csX6_271 (dk rfl) ?_
      iterate 4 refine fst1_ok X (dk rfl) rfl ?_
      refine callVW_ok (ci := 8) (T := TX6) (N := 14) (av := [.int _, .int _]) (r := [_]) X E J47 (c6_stepsN _ J47.1 T0 _ ⟨0, by decide, by decide +kernel⟩ _ ⟨1, by decide, by decide +kernel⟩) lkX6_steps mlX6_293 lmX6_steps lpX6_steps ⟨Nat.le_of_ble_eq_true rfl, Nat.le_of_ble_eq_true rfl⟩ ⟨Nat.le_of_ble_eq_true rfl, Nat.le_of_ble_eq_true rfl⟩ rfl (bm_cell J47.1 gb14) (Nat.le_of_ble_eq_true rfl) (dk rfl) ?_
      rintro _ h51 ⟨x50, rfl⟩ J52
      iterate 4 refine fst1_ok X (dk rfl) rfl ?_
      refine ldc2_ok X csX6_271 (dk rfl) ?_
      iterate 4 refine fst1_ok X (dk rfl) rfl ?_
      refine callVW_ok (ci := 8) (T := TX6) (N := 14) (av := [.int _, .int _]) (r := [_]) X E J52 (c6_whyN _ J52.1 T0 _ ⟨0, by decide, by decide +kernel⟩ _ ⟨1, by decide, by decide +kernel⟩) lkX6_why mlX6_297 lmX6_why lpX6_why ⟨Nat.le_of_ble_eq_true rfl, Nat.le_of_ble_eq_true rfl⟩ ⟨Nat.le_of_ble_eq_true rfl, Nat.le_of_ble_eq_true rfl⟩ rfl (bm_cell J52.1 gb14) (Nat.le_of_ble_eq_true rfl) (dk rfl) ?_
      rintro _ h54 ⟨x53, rfl⟩ J55
      iterate 5 refine fst1_ok X (dk rfl) rfl ?_
      exact L135 0 (by omega) _ h54 J55 _ rfl
    · iterate 2 refine fst1_ok X (dk rfl) rfl ?_
      obtain ⟨dn57, rf58, hx56⟩ := bm_open J47.1 gb14
      refine getf_ok X flX6_17 (dk rfl) hx56 rfl ?_
      refine fst1_ok X (dk rfl) rfl ?_
      have hx59 := is_open J47.1 gA16
      refine aldx_ok X (by decide) (by decide) (dk rfl) hx59 al19 aT20 ⟨_, (nat_lt (K := 3) (by omega) (by rw [show nI 3 = Int32.ofInt 3 by decide +kernel]; exact c49)), rfl⟩ (fun b60 tb61 => ?_)
      refine callSR_ok (av := [.long _, .ref _]) (r := []) X E (c6_withAnswer _ J47.1 _ tb61) lkX6_withAnswer mlX6_289 lsX6_withAnswer ⟨Nat.le_of_ble_eq_true rfl, Nat.le_of_ble_eq_true rfl⟩ ⟨Nat.le_of_ble_eq_true rfl, Nat.le_of_ble_eq_true rfl⟩ (Nat.le_of_ble_eq_true rfl) (dk rfl) ?_
      rintro _ ⟨x62, rfl⟩
      iterate 2 refine fst1_ok X (dk rfl) rfl ?_
      refine br_ok X (dk rfl) rfl (show ((102 : Nat) : Int) + (-19) = ((83 : Nat) : Int) from rfl) (fun _ => ?_) (fun q => absurd trivial q)
      exact ih83 (nat_lt (K := 3) (by omega) (by rw [show nI 3 = Int32.ofInt 3 by decide +kernel]; exact c49)) _ h46 J47 _ (by rw [← vI_succ j43]; rfl)
  have L6 : ∀ j63 : Nat, j63 ≤ 6 → ∀ (y64 : Int64) (h66 : AH) (J67 : TI Γ h h66) (l : List (Nat × Value)), lsel l [3, 1, 0] = [(3, vI j63), (1, .long (y64)), (0, .ref o0)] → WR p la e (rmD 6 0 0) s m args below meth c D cA B0 4 (WrO Γ jP h) 6 l [] h66 0 0 := by
    refine loopN (fun j63 hj63 ih6 => ?_)
    intro y64 h66 J67 l hl
    refine WS.sel [3, 1, 0] hl ?_
    iterate 2 refine fst1_ok X (dk rfl) rfl ?_
    refine br_ok X (dk rfl) rfl (show ((9 : Nat) : Int) + 72 = ((81 : Nat) : Int) from rfl) (fun c68 => ?_) (fun c69 => ?_)
    · iterate 2 refine fst1_ok X (dk rfl) rfl ?_
      exact L83 0 (by omega) _ h66 J67 _ rfl
    · refine fst1_ok X (dk rfl) rfl ?_
      refine ldc2_ok X csX6_271 (dk rfl) ?_
      iterate 3 refine fst1_ok X (dk rfl) rfl ?_
      refine callVR_ok (ci := 8) (T := TX6) (N := 14) (av := [.int _]) (r := [_]) X E (c6_sizeN _ J67.1 T0 _ ⟨_, (nat_lt (K := 6) (by omega) (by rw [show nI 6 = (Int8.ofInt 6).toInt32 by decide +kernel]; exact c69)), rfl⟩) lkX6_size mlX6_273 lmX6_size lpX6_size ⟨Nat.le_of_ble_eq_true rfl, Nat.le_of_ble_eq_true rfl⟩ ⟨Nat.le_of_ble_eq_true rfl, Nat.le_of_ble_eq_true rfl⟩ rfl (bm_cell J67.1 gb14) (Nat.le_of_ble_eq_true rfl) (dk rfl) ?_
      rintro _ ⟨x70, rfl⟩
      iterate 4 refine fst1_ok X (dk rfl) rfl ?_
      refine ldc2_ok X csX6_271 (dk rfl) ?_
      iterate 3 refine fst1_ok X (dk rfl) rfl ?_
      refine callVR_ok (ci := 8) (T := TX6) (N := 14) (av := [.int _]) (r := [_]) X E (c6_depthN _ J67.1 T0 _ ⟨_, (nat_lt (K := 6) (by omega) (by rw [show nI 6 = (Int8.ofInt 6).toInt32 by decide +kernel]; exact c69)), rfl⟩) lkX6_depth mlX6_276 lmX6_depth lpX6_depth ⟨Nat.le_of_ble_eq_true rfl, Nat.le_of_ble_eq_true rfl⟩ ⟨Nat.le_of_ble_eq_true rfl, Nat.le_of_ble_eq_true rfl⟩ rfl (bm_cell J67.1 gb14) (Nat.le_of_ble_eq_true rfl) (dk rfl) ?_
      rintro _ ⟨x71, rfl⟩
      iterate 4 refine fst1_ok X (dk rfl) rfl ?_
      refine ldc2_ok X csX6_271 (dk rfl) ?_
      iterate 3 refine fst1_ok X (dk rfl) rfl ?_
      refine callVR_ok (ci := 8) (T := TX6) (N := 14) (av := [.int _]) (r := [_]) X E (c6_sharedN _ J67.1 T0 _ ⟨_, (nat_lt (K := 6) (by omega) (by rw [show nI 6 = (Int8.ofInt 6).toInt32 by decide +kernel]; exact c69)), rfl⟩) lkX6_shared mlX6_279 lmX6_shared lpX6_shared ⟨Nat.le_of_ble_eq_true rfl, Nat.le_of_ble_eq_true rfl⟩ ⟨Nat.le_of_ble_eq_true rfl, Nat.le_of_ble_eq_true rfl⟩ rfl (bm_cell J67.1 gb14) (Nat.le_of_ble_eq_true rfl) (dk rfl) ?_
      rintro _ ⟨x72, rfl⟩
      iterate 4 refine fst1_ok X (dk rfl) rfl ?_
      refine ldc2_ok X csX6_271 (dk rfl) ?_
      iterate 3 refine fst1_ok X (dk rfl) rfl ?_
      refine callVR_ok (ci := 8) (T := TX6) (N := 14) (av := [.int _]) (r := [_]) X E (c6_namesN _ J67.1 T0 _ ⟨_, (nat_lt (K := 6) (by omega) (by rw [show nI 6 = (Int8.ofInt 6).toInt32 by decide +kernel]; exact c69)), rfl⟩) lkX6_names mlX6_282 lmX6_names lpX6_names ⟨Nat.le_of_ble_eq_true rfl, Nat.le_of_ble_eq_true rfl⟩ ⟨Nat.le_of_ble_eq_true rfl, Nat.le_of_ble_eq_true rfl⟩ rfl (bm_cell J67.1 gb14) (Nat.le_of_ble_eq_true rfl) (dk rfl) ?_
      rintro _ ⟨x73, rfl⟩
      iterate 5 refine fst1_ok X (dk rfl) rfl ?_
      obtain ⟨dn75, rf76, hx74⟩ := bm_open J67.1 gb14
      refine getf_ok X flX6_11 (dk rfl) hx74 rfl ?_
      refine fst1_ok X (dk rfl) rfl ?_
      have hx77 := is_open J67.1 gS15
      refine aldx_ok X (by decide) (by decide) (dk rfl) hx77 sl17 sT18 ⟨_, (nat_lt (K := 6) (by omega) (by rw [show nI 6 = (Int8.ofInt 6).toInt32 by decide +kernel]; exact c69)), rfl⟩ (fun b78 tb79 => ?_)
      refine callSR_ok (av := [.long _, .ref _]) (r := []) X E (c6_withLetters _ J67.1 _ tb79) lkX6_withLetters mlX6_285 lsX6_withLetters ⟨Nat.le_of_ble_eq_true rfl, Nat.le_of_ble_eq_true rfl⟩ ⟨Nat.le_of_ble_eq_true rfl, Nat.le_of_ble_eq_true rfl⟩ (Nat.le_of_ble_eq_true rfl) (dk rfl) ?_
      rintro _ ⟨x80, rfl⟩
      iterate 2 refine fst1_ok X (dk rfl) rfl ?_
      refine br_ok X (dk rfl) rfl (show ((78 : Nat) : Int) + (-72) = ((6 : Nat) : Int) from rfl) (fun _ => ?_) (fun q => absurd trivial q)
      exact ih6 (nat_lt (K := 6) (by omega) (by rw [show nI 6 = (Int8.ofInt 6).toInt32 by decide +kernel]; exact c69)) _ h66 J67 _ (by rw [← vI_succ j63]; rfl)
  refine ldc2_ok X csX6_269 (dk rfl) ?_
  iterate 3 refine fst1_ok X (dk rfl) rfl ?_
  exact L6 0 (by omega) _ h (TI.rf I) _ rfl
end M98
