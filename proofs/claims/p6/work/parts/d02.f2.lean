/-! the class, weakly, over types that keep contents: pairs (printed by wip/p20/genFZ.py from wip/p40/cl0.py) -/
section M89
variable {la : Launch} {D : va_G} {cA : Nat → ClassId} {B0 pa : Nat} {Γ : TY}
set_option maxHeartbeats 4000000 in
theorem FZ.c2_length (h : AH) (I : Tyg Γ h) {o0 : Nat} (T0 : PairsT Γ o0) : CT la D cA B0 pa yX2_length cX2_length 1 (some .int) (rmD 0 0 0) [.ref o0] h (RdO (nP 128) h) := by
  refine CT_of (by decide +kernel) (Nat.le_of_ble_eq_true rfl) ?_
  intro p e s m args below meth c X E hr hlk hnm
  have dk : ∀ {pc : Nat} {q : Instr × Nat}, lkd DX2_length pc = some q → decode cX2_length pc = .ok q := lkd_ok DX2_length_ok
  obtain ⟨a1, a2, gb3, g4, g5⟩ := id T0
  refine fst1_ok X (dk rfl) rfl ?_
  obtain ⟨w6, hx7, hf8⟩ := pr_open (TI.rf I).1 gb3
  refine getf_ok X flX2_18 (dk rfl) hx7 rfl ?_
  exact reti_ok X hr hlk rfl (dk rfl) ⟨⟨_, hf8, rfl⟩, rfl⟩ (Nat.le_of_ble_eq_true rfl) (Nat.le_of_ble_eq_true rfl)
set_option maxHeartbeats 4000000 in
theorem FZ.c2_empty (h : AH) (I : Tyg Γ h) {o0 : Nat} (T0 : PairsT Γ o0) : CT la D cA B0 pa yX2_empty cX2_empty 1 none (rmD 0 0 0) [.ref o0] h (WrO Γ voidP h) := by
  refine CT_of (by decide +kernel) (Nat.le_of_ble_eq_true rfl) ?_
  intro p e s m args below meth c X E hr hlk hnm
  have dk : ∀ {pc : Nat} {q : Instr × Nat}, lkd DX2_empty pc = some q → decode cX2_empty pc = .ok q := lkd_ok DX2_empty_ok
  obtain ⟨a1, a2, gb3, g4, g5⟩ := id T0
  iterate 2 refine fst1_ok X (dk rfl) rfl ?_
  obtain ⟨w6, hx7, hf8⟩ := pr_open (TI.rf I).1 gb3
  refine putT_ok X flX2_18 ftX2_2 rfl rfl (dk rfl) hx7 (Nat.le_of_ble_eq_true rfl) (TI.rf I) gb3 rfl (pr_set (w' := 0) nI_0' (by omega)) (fun h9 J10 hx11 ho12 => ?_)
  exact retv_ok X hr hlk (dk rfl) ⟨rfl, J10⟩ (Nat.le_of_ble_eq_true rfl) (Nat.le_of_ble_eq_true rfl)
set_option maxHeartbeats 4000000 in
theorem FZ.c2_add (h : AH) (I : Tyg Γ h) {o0 : Nat} (T0 : PairsT Γ o0) (x1 : Int32) (x2 : Int32) : CT la D cA B0 pa yX2_add cX2_add 3 none (rmD 0 0 0) [.ref o0, .int (x1), .int (x2)] h (WrO Γ voidP h) := by
  refine CT_of (by decide +kernel) (Nat.le_of_ble_eq_true rfl) ?_
  intro p e s m args below meth c X E hr hlk hnm
  have dk : ∀ {pc : Nat} {q : Instr × Nat}, lkd DX2_add pc = some q → decode cX2_add pc = .ok q := lkd_ok DX2_add_ok
  obtain ⟨a1, a2, gb3, g4, g5⟩ := id T0
  refine fst1_ok X (dk rfl) rfl ?_
  obtain ⟨w6, hx7, hf8⟩ := pr_open (TI.rf I).1 gb3
  refine getf_ok X flX2_18 (dk rfl) hx7 rfl ?_
  refine br_ok X (dk rfl) rfl (show ((4 : Nat) : Int) + 43 = ((47 : Nat) : Int) from rfl) (fun c9 => ?_) (fun c10 => ?_)
  · exact retv_ok X hr hlk (dk rfl) ⟨rfl, (TI.rf I)⟩ (Nat.le_of_ble_eq_true rfl) (Nat.le_of_ble_eq_true rfl)
  · refine fst1_ok X (dk rfl) rfl ?_
    refine getf_ok X flX2_18 (dk rfl) hx7 rfl ?_
    refine fst1_ok X (dk rfl) rfl ?_
    refine br_ok X (dk rfl) rfl (show ((14 : Nat) : Int) + 33 = ((47 : Nat) : Int) from rfl) (fun c11 => ?_) (fun c12 => ?_)
    · exact retv_ok X hr hlk (dk rfl) ⟨rfl, (TI.rf I)⟩ (Nat.le_of_ble_eq_true rfl) (Nat.le_of_ble_eq_true rfl)
    · refine fst1_ok X (dk rfl) rfl ?_
      refine getf_ok X flX2_11 (dk rfl) hx7 rfl ?_
      refine fst1_ok X (dk rfl) rfl ?_
      refine getf_ok X flX2_18 (dk rfl) hx7 rfl ?_
      refine fst1_ok X (dk rfl) rfl ?_
      obtain ⟨xs13, hx14, hn15⟩ := rw_open (TI.rf I).1 g4
      refine astT_ok X (dk rfl) hx14 (nI_pos (by omega)) (by rw [hn15]; exact ix_ok (by omega) (nI_pos (by omega)) (by rw [show nI 128 = (Int16.ofInt 128).toInt32 by decide +kernel]; exact c12)) (TI.rf I) g4 (rowφ_set hn15 _ _) (fun h16 J17 ho18 => ?_)
      have hx19 := (ho18 o0 (k_ne hx7 hx14 (by decide))).trans hx7
      refine fst1_ok X (dk rfl) rfl ?_
      refine getf_ok X flX2_15 (dk rfl) hx19 rfl ?_
      refine fst1_ok X (dk rfl) rfl ?_
      refine getf_ok X flX2_18 (dk rfl) hx19 rfl ?_
      refine fst1_ok X (dk rfl) rfl ?_
      obtain ⟨xs20, hx21, hn22⟩ := rw_open J17.1 g5
      refine astT_ok X (dk rfl) hx21 (nI_pos (by omega)) (by rw [hn22]; exact ix_ok (by omega) (nI_pos (by omega)) (by rw [show nI 128 = (Int16.ofInt 128).toInt32 by decide +kernel]; exact c12)) J17 g5 (rowφ_set hn22 _ _) (fun h23 J24 ho25 => ?_)
      have hx26 := (ho25 o0 (k_ne hx19 hx21 (by decide))).trans hx19
      iterate 2 refine fst1_ok X (dk rfl) rfl ?_
      refine getf_ok X flX2_18 (dk rfl) hx26 rfl ?_
      iterate 2 refine fst1_ok X (dk rfl) rfl ?_
      refine putT_ok X flX2_18 ftX2_2 rfl rfl (dk rfl) hx26 (Nat.le_of_ble_eq_true rfl) J24 gb3 rfl (pr_set (w' := w6 + 1) (by rw [nI_1', nI_add]) (nat_lt (K := 128) (by omega) (by rw [show nI 128 = (Int16.ofInt 128).toInt32 by decide +kernel]; exact c12))) (fun h27 J28 hx29 ho30 => ?_)
      exact retv_ok X hr hlk (dk rfl) ⟨rfl, J28⟩ (Nat.le_of_ble_eq_true rfl) (Nat.le_of_ble_eq_true rfl)
set_option maxHeartbeats 4000000 in
theorem FZ.c2_oneAt (h : AH) (I : Tyg Γ h) {o0 : Nat} (T0 : PairsT Γ o0) (x1 : Int32) : CT la D cA B0 pa yX2_oneAt cX2_oneAt 2 (some .int) (rmD 0 0 0) [.ref o0, .int (x1)] h (RdO iP h) := by
  refine CT_of (by decide +kernel) (Nat.le_of_ble_eq_true rfl) ?_
  intro p e s m args below meth c X E hr hlk hnm
  have dk : ∀ {pc : Nat} {q : Instr × Nat}, lkd DX2_oneAt pc = some q → decode cX2_oneAt pc = .ok q := lkd_ok DX2_oneAt_ok
  obtain ⟨a1, a2, gb3, g4, g5⟩ := id T0
  refine fst1_ok X (dk rfl) rfl ?_
  refine br_ok X (dk rfl) rfl (show ((1 : Nat) : Int) + 27 = ((28 : Nat) : Int) from rfl) (fun c6 => ?_) (fun c7 => ?_)
  · refine fst1_ok X (dk rfl) rfl ?_
    exact reti_ok X hr hlk rfl (dk rfl) ⟨⟨_, rfl⟩, rfl⟩ (Nat.le_of_ble_eq_true rfl) (Nat.le_of_ble_eq_true rfl)
  · iterate 2 refine fst1_ok X (dk rfl) rfl ?_
    obtain ⟨w8, hx9, hf10⟩ := pr_open (TI.rf I).1 gb3
    refine getf_ok X flX2_18 (dk rfl) hx9 rfl ?_
    refine br_ok X (dk rfl) rfl (show ((9 : Nat) : Int) + 19 = ((28 : Nat) : Int) from rfl) (fun c11 => ?_) (fun c12 => ?_)
    · refine fst1_ok X (dk rfl) rfl ?_
      exact reti_ok X hr hlk rfl (dk rfl) ⟨⟨_, rfl⟩, rfl⟩ (Nat.le_of_ble_eq_true rfl) (Nat.le_of_ble_eq_true rfl)
    · iterate 2 refine fst1_ok X (dk rfl) rfl ?_
      refine br_ok X (dk rfl) rfl (show ((16 : Nat) : Int) + 12 = ((28 : Nat) : Int) from rfl) (fun c13 => ?_) (fun c14 => ?_)
      · refine fst1_ok X (dk rfl) rfl ?_
        exact reti_ok X hr hlk rfl (dk rfl) ⟨⟨_, rfl⟩, rfl⟩ (Nat.le_of_ble_eq_true rfl) (Nat.le_of_ble_eq_true rfl)
      · refine fst1_ok X (dk rfl) rfl ?_
        refine getf_ok X flX2_11 (dk rfl) hx9 rfl ?_
        refine fst1_ok X (dk rfl) rfl ?_
        obtain ⟨xs15, hx16, hn17⟩ := rw_open (TI.rf I).1 g4
        refine ald7_ok X (dk rfl) hx16 c7 (by rw [hn17]; exact ix_ok (by omega) c7 (by rw [show nI 128 = (Int16.ofInt 128).toInt32 by decide +kernel]; exact c14)) (fun x18 hm19 => ?_)
        refine br_ok X (dk rfl) rfl (show ((25 : Nat) : Int) + 4 = ((29 : Nat) : Int) from rfl) (fun _ => ?_) (fun q => absurd trivial q)
        exact reti_ok X hr hlk rfl (dk rfl) ⟨⟨_, rfl⟩, rfl⟩ (Nat.le_of_ble_eq_true rfl) (Nat.le_of_ble_eq_true rfl)
set_option maxHeartbeats 4000000 in
theorem FZ.c2_otherAt (h : AH) (I : Tyg Γ h) {o0 : Nat} (T0 : PairsT Γ o0) (x1 : Int32) : CT la D cA B0 pa yX2_otherAt cX2_otherAt 2 (some .int) (rmD 0 0 0) [.ref o0, .int (x1)] h (RdO iP h) := by
  refine CT_of (by decide +kernel) (Nat.le_of_ble_eq_true rfl) ?_
  intro p e s m args below meth c X E hr hlk hnm
  have dk : ∀ {pc : Nat} {q : Instr × Nat}, lkd DX2_otherAt pc = some q → decode cX2_otherAt pc = .ok q := lkd_ok DX2_otherAt_ok
  obtain ⟨a1, a2, gb3, g4, g5⟩ := id T0
  refine fst1_ok X (dk rfl) rfl ?_
  refine br_ok X (dk rfl) rfl (show ((1 : Nat) : Int) + 27 = ((28 : Nat) : Int) from rfl) (fun c6 => ?_) (fun c7 => ?_)
  · refine fst1_ok X (dk rfl) rfl ?_
    exact reti_ok X hr hlk rfl (dk rfl) ⟨⟨_, rfl⟩, rfl⟩ (Nat.le_of_ble_eq_true rfl) (Nat.le_of_ble_eq_true rfl)
  · iterate 2 refine fst1_ok X (dk rfl) rfl ?_
    obtain ⟨w8, hx9, hf10⟩ := pr_open (TI.rf I).1 gb3
    refine getf_ok X flX2_18 (dk rfl) hx9 rfl ?_
    refine br_ok X (dk rfl) rfl (show ((9 : Nat) : Int) + 19 = ((28 : Nat) : Int) from rfl) (fun c11 => ?_) (fun c12 => ?_)
    · refine fst1_ok X (dk rfl) rfl ?_
      exact reti_ok X hr hlk rfl (dk rfl) ⟨⟨_, rfl⟩, rfl⟩ (Nat.le_of_ble_eq_true rfl) (Nat.le_of_ble_eq_true rfl)
    · iterate 2 refine fst1_ok X (dk rfl) rfl ?_
      refine br_ok X (dk rfl) rfl (show ((16 : Nat) : Int) + 12 = ((28 : Nat) : Int) from rfl) (fun c13 => ?_) (fun c14 => ?_)
      · refine fst1_ok X (dk rfl) rfl ?_
        exact reti_ok X hr hlk rfl (dk rfl) ⟨⟨_, rfl⟩, rfl⟩ (Nat.le_of_ble_eq_true rfl) (Nat.le_of_ble_eq_true rfl)
      · refine fst1_ok X (dk rfl) rfl ?_
        refine getf_ok X flX2_15 (dk rfl) hx9 rfl ?_
        refine fst1_ok X (dk rfl) rfl ?_
        obtain ⟨xs15, hx16, hn17⟩ := rw_open (TI.rf I).1 g5
        refine ald7_ok X (dk rfl) hx16 c7 (by rw [hn17]; exact ix_ok (by omega) c7 (by rw [show nI 128 = (Int16.ofInt 128).toInt32 by decide +kernel]; exact c14)) (fun x18 hm19 => ?_)
        refine br_ok X (dk rfl) rfl (show ((25 : Nat) : Int) + 4 = ((29 : Nat) : Int) from rfl) (fun _ => ?_) (fun q => absurd trivial q)
        exact reti_ok X hr hlk rfl (dk rfl) ⟨⟨_, rfl⟩, rfl⟩ (Nat.le_of_ble_eq_true rfl) (Nat.le_of_ble_eq_true rfl)
set_option maxHeartbeats 4000000 in
theorem FZ.c2_dropNext (h : AH) (I : Tyg Γ h) {o0 : Nat} (T0 : PairsT Γ o0) : CT la D cA B0 pa yX2_dropNext cX2_dropNext 1 none (rmD 0 0 0) [.ref o0] h (WrO Γ voidP h) := by
  refine CT_of (by decide +kernel) (Nat.le_of_ble_eq_true rfl) ?_
  intro p e s m args below meth c X E hr hlk hnm
  have dk : ∀ {pc : Nat} {q : Instr × Nat}, lkd DX2_dropNext pc = some q → decode cX2_dropNext pc = .ok q := lkd_ok DX2_dropNext_ok
  obtain ⟨a1, a2, gb3, g4, g5⟩ := id T0
  refine fst1_ok X (dk rfl) rfl ?_
  obtain ⟨w6, hx7, hf8⟩ := pr_open (TI.rf I).1 gb3
  refine getf_ok X flX2_18 (dk rfl) hx7 rfl ?_
  refine br_ok X (dk rfl) rfl (show ((4 : Nat) : Int) + 13 = ((17 : Nat) : Int) from rfl) (fun c9 => ?_) (fun c10 => ?_)
  · exact retv_ok X hr hlk (dk rfl) ⟨rfl, (TI.rf I)⟩ (Nat.le_of_ble_eq_true rfl) (Nat.le_of_ble_eq_true rfl)
  · iterate 2 refine fst1_ok X (dk rfl) rfl ?_
    refine getf_ok X flX2_18 (dk rfl) hx7 rfl ?_
    iterate 2 refine fst1_ok X (dk rfl) rfl ?_
    refine putT_ok X flX2_18 ftX2_2 rfl rfl (dk rfl) hx7 (Nat.le_of_ble_eq_true rfl) (TI.rf I) gb3 rfl (pr_set (w' := w6 - 1) (by rw [nI_1']; exact nI_sub (nI_ngt0 (by omega) c10)) (by omega)) (fun h11 J12 hx13 ho14 => ?_)
    exact retv_ok X hr hlk (dk rfl) ⟨rfl, J12⟩ (Nat.le_of_ble_eq_true rfl) (Nat.le_of_ble_eq_true rfl)
end M89
section M89b
variable {la : Launch} {D : va_G} {cA : Nat → ClassId} {B0 pa : Nat} {Γ : TY}
set_option maxHeartbeats 4000000 in
theorem FZ.c2_addParts (h : AH) (I : Tyg Γ h) {o0 : Nat} (T0 : PairsT Γ o0) {o1 L1 : Nat} {w1 : Bool} (T1 : TermG w1 Γ o1 L1) (x2 : Int32) (x3 : Int32) : CT la D cA B0 pa yX2_addParts cX2_addParts 8 none (rmD 2 0 0) [.ref o0, .ref o1, .int (x2), .int (x3)] h (WrO Γ voidP h) := by
  refine CT_of (by decide +kernel) (Nat.le_of_ble_eq_true rfl) ?_
  intro p e s m args below meth c X E hr hlk hnm
  have dk : ∀ {pc : Nat} {q : Instr × Nat}, lkd DX2_addParts pc = some q → decode cX2_addParts pc = .ok q := lkd_ok DX2_addParts_ok
  obtain ⟨a1, a2, gb, g1, g2⟩ := id T0
  obtain ⟨hL1, q1, gb1, gl1⟩ := id T1
  obtain ⟨w, hx, hw⟩ := pr_open I gb
  iterate 2 refine fst1_ok X (dk rfl) rfl ?_
  refine callVR_ok (ci := 7) (T := TX5) (N := 3) (av := [.int _]) (r := []) X E (c5_letterAt _ I T1 _) lkX5_letterAt mlX2_22 lmX5_letterAt lpX5_letterAt ⟨Nat.le_of_ble_eq_true rfl, Nat.le_of_ble_eq_true rfl⟩ ⟨Nat.le_of_ble_eq_true rfl, Nat.le_of_ble_eq_true rfl⟩ rfl (tm_cell I gb1) (Nat.le_of_ble_eq_true rfl) (dk rfl) ?_
  rintro _ ⟨z1, -, rfl⟩
  refine callNR_ok (av := [.int _]) (r := []) X E (c6_partsOf _ I _) lkX6_partsOf mnX2_28 lsX6_partsOf ⟨Nat.le_of_ble_eq_true rfl, Nat.le_of_ble_eq_true rfl⟩ ⟨Nat.le_of_ble_eq_true rfl, Nat.le_of_ble_eq_true rfl⟩ (Nat.le_of_ble_eq_true rfl) (dk rfl) ?_
  rintro _ ⟨np, hnp, rfl⟩
  iterate 2 refine fst1_ok X (dk rfl) rfl ?_
  refine getf_ok X flX2_18 (dk rfl) hx rfl ?_
  have e1 : (nI w + nI np : Int32) = nI (w + np) := nI_add w np
  have fin' : ∀ l : List (Nat × Value), WR p la e (rmD 2 0 0) s m args below meth c D cA B0 8 (WrO Γ voidP h) 30 l [] h 0 0 := fun l => retv_ok X hr hlk (dk rfl) ⟨rfl, TI.rf I⟩ (Nat.le_of_ble_eq_true rfl) (Nat.le_of_ble_eq_true rfl)
  refine br_ok X (dk rfl) rfl (show ((14 : Nat) : Int) + 16 = ((30 : Nat) : Int) from rfl) (fun _ => fin' _) (fun _ => ?_)
  refine fst1_ok X (dk rfl) rfl ?_
  refine getf_ok X flX2_18 (dk rfl) hx rfl ?_
  iterate 3 refine fst1_ok X (dk rfl) rfl ?_
  refine br_ok X (dk rfl) rfl (show ((27 : Nat) : Int) + 4 = ((31 : Nat) : Int) from rfl) (fun c1 => ?_) (fun _ => fin' _)
  have hwp : w + np ≤ 128 := by
    rw [e1, show (Int16.ofInt 128).toInt32 = nI 128 by decide +kernel] at c1
    exact nI_ge' (by omega) (by omega) c1
  have loop : ∀ i : Nat, i ≤ np → ∀ (y5 y6 : Int32) (h1 : AH) (J1 : TI Γ h h1) (hx1 : h1 o0 = some (4, [.ref a1, .ref a2, vI w])) (l : List (Nat × Value)), lsel l [7, 6, 5, 4, 1, 0] = [(7, .int (nI (w + i) + Int32.ofInt (-1))), (6, .int y6), (5, .int y5), (4, vI np), (1, .ref o1), (0, .ref o0)] → WR p la e (rmD 2 0 0) s m args below meth c D cA B0 8 (WrO Γ voidP h) 52 l [] h1 0 0 := by
    intro i
    induction i with
    | zero =>
      intro hi y5 y6 h1 J1 hx1 l hl
      refine WS.sel [7, 6, 5, 4, 1, 0] hl ?_
      iterate 2 refine fst1_ok X (dk rfl) rfl ?_
      refine getf_ok X flX2_18 (dk rfl) hx1 rfl ?_
      have hlt : (nI (w + 0) + Int32.ofInt (-1) : Int32) < nI w := by
        rw [Nat.add_zero, Int32.lt_iff_toInt_lt, Int32.toInt_add, show (Int32.ofInt (-1)).toInt = -1 by decide]
        have e2 : (nI w).toInt = (w : Int) := by
          show (Int32.ofNat w).toInt = _
          exact Int32.toInt_ofNat_of_lt (by omega)
        rw [e2, Int.bmod_eq_of_le (by omega) (by omega)]
        omega
      refine br_ok X (dk rfl) rfl (show ((58 : Nat) : Int) + 43 = ((101 : Nat) : Int) from rfl) (fun _ => ?_) (fun q => absurd hlt q)
      iterate 2 refine fst1_ok X (dk rfl) rfl ?_
      refine getf_ok X flX2_18 (dk rfl) hx1 rfl ?_
      iterate 2 refine fst1_ok X (dk rfl) rfl ?_
      refine putT_ok X flX2_18 ftX2_2 rfl rfl (dk rfl) hx1 (Nat.le_of_ble_eq_true rfl) J1 gb rfl (pr_set e1 hwp) (fun h2 J2 _ _ => ?_)
      exact retv_ok X hr hlk (dk rfl) ⟨rfl, J2⟩ (Nat.le_of_ble_eq_true rfl) (Nat.le_of_ble_eq_true rfl)
    | succ i ih =>
      intro hi y5 y6 h1 J1 hx1 l hl
      have es : (nI (w + (i + 1)) + Int32.ofInt (-1) : Int32) = nI (w + i) := nI_dec (w + i)
      rw [es] at hl
      obtain ⟨s1, s2⟩ := spot_ix hnp hwp (show i < np by omega)
      refine WS.sel [7, 6, 5, 4, 1, 0] hl ?_
      iterate 2 refine fst1_ok X (dk rfl) rfl ?_
      refine getf_ok X flX2_18 (dk rfl) hx1 rfl ?_
      refine br_ok X (dk rfl) rfl (show ((58 : Nat) : Int) + 43 = ((101 : Nat) : Int) from rfl) (fun q => absurd ((nI_ltI (by omega) (by omega)).mp q) (by omega)) (fun _ => ?_)
      refine fst1_ok X (dk rfl) rfl ?_
      refine getf_ok X flX2_11 (dk rfl) hx1 rfl ?_
      iterate 2 refine fst1_ok X (dk rfl) rfl ?_
      obtain ⟨xs1, hr1, hn1⟩ := rw_open J1.1 g1
      refine astT_ok X (dk rfl) hr1 s1 (by rw [hn1]; exact s2) J1 g1 (rowφ_set hn1 _ _) (fun h2 J2 ho2 => ?_)
      have hx2 := (ho2 o0 (k_ne hx1 hr1 (by decide))).trans hx1
      refine fst1_ok X (dk rfl) rfl ?_
      refine getf_ok X flX2_15 (dk rfl) hx2 rfl ?_
      iterate 2 refine fst1_ok X (dk rfl) rfl ?_
      obtain ⟨xs2, hr2, hn2⟩ := rw_open J2.1 g2
      refine astT_ok X (dk rfl) hr2 s1 (by rw [hn2]; exact s2) J2 g2 (rowφ_set hn2 _ _) (fun h3 J3 ho3 => ?_)
      have hx3 := (ho3 o0 (k_ne hx2 hr2 (by decide))).trans hx2
      iterate 2 refine fst1_ok X (dk rfl) rfl ?_
      refine callVR_ok (ci := 7) (T := TX5) (N := 3) (av := [.int _]) (r := []) X E (c5_endOf _ J3.1 T1 _) lkX5_endOf mlX2_31 lmX5_endOf lpX5_endOf ⟨Nat.le_of_ble_eq_true rfl, Nat.le_of_ble_eq_true rfl⟩ ⟨Nat.le_of_ble_eq_true rfl, Nat.le_of_ble_eq_true rfl⟩ rfl (tm_cell J3.1 gb1) (Nat.le_of_ble_eq_true rfl) (dk rfl) ?_
      rintro _ ⟨z5, rfl⟩
      iterate 3 refine fst1_ok X (dk rfl) rfl ?_
      refine callVR_ok (ci := 7) (T := TX5) (N := 3) (av := [.int _]) (r := []) X E (c5_endOf _ J3.1 T1 _) lkX5_endOf mlX2_31 lmX5_endOf lpX5_endOf ⟨Nat.le_of_ble_eq_true rfl, Nat.le_of_ble_eq_true rfl⟩ ⟨Nat.le_of_ble_eq_true rfl, Nat.le_of_ble_eq_true rfl⟩ rfl (tm_cell J3.1 gb1) (Nat.le_of_ble_eq_true rfl) (dk rfl) ?_
      rintro _ ⟨z6, rfl⟩
      iterate 2 refine fst1_ok X (dk rfl) rfl ?_
      refine br_ok X (dk rfl) rfl (show ((98 : Nat) : Int) + (-46) = ((52 : Nat) : Int) from rfl) (fun _ => ?_) (fun q => absurd trivial q)
      exact ih (by omega) z5 z6 h3 J3 hx3 _ rfl
  iterate 9 refine fst1_ok X (dk rfl) rfl ?_
  refine getf_ok X flX2_18 (dk rfl) hx rfl ?_
  iterate 5 refine fst1_ok X (dk rfl) rfl ?_
  have e3 : (nI w + nI np - Int32.ofInt 1 : Int32) = nI (w + np) + Int32.ofInt (-1) := by
    rw [e1]
    apply Int32.toInt_inj.mp
    have e2 : (nI (w + np)).toInt = ((w + np : Nat) : Int) := by
      show (Int32.ofNat (w + np)).toInt = _
      exact Int32.toInt_ofNat_of_lt (by omega)
    rw [Int32.toInt_sub, Int32.toInt_add, show (Int32.ofInt (-1)).toInt = -1 by decide, show (Int32.ofInt 1).toInt = 1 by decide]
    rfl
  exact loop np (Nat.le_refl _) _ _ h (TI.rf I) hx _ (by rw [← e3]; rfl)
end M89b
