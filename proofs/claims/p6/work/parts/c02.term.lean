/-! the class, strongly: its terms' methods (printed by wip/p20/genS1.py) -/
section S02
variable {la : Launch} {D : va_G} {cA : Nat → ClassId} {B0 pa : Nat} {B Q : Nat → Nat} {F : Nat → TC}
/-- a method that changes terms alone -/
def TP (B Q : Nat → Nat) (F' : Nat → TC) (h : AH) (v : Option Value) (h' : AH) : Prop := v = none ∧ TS B Q h' F' ∧ FrT B Q h h'
/-- a method that reads -/
abbrev RP (x : Value) (h : AH) : Option Value → AH → Prop := RdO (fun v => v = some x) h
set_option maxHeartbeats 4000000 in
theorem s5_length (h : AH) (S : TS B Q h F) {i : Nat} (hi : i < 52) : CT la D cA B0 pa yX5_length cX5_length 1 (some .int) (rmD 0 0 0) [.ref (B i)] h (RP (vI (F i).1.length) h) := by
  refine CT_of (by decide +kernel) (Nat.le_of_ble_eq_true rfl) ?_
  intro p e s m args below meth c X E hr hlk hnm
  have dk : ∀ {pc : Nat} {q : Instr × Nat}, lkd DX5_length pc = some q → decode cX5_length pc = .ok q := lkd_ok DX5_length_ok
  obtain ⟨a1, a2, xs, a3, a4, a5⟩ := S i hi
  refine fst1_ok X (dk rfl) rfl ?_
  refine getf_ok X flX5_21 (dk rfl) a2 rfl ?_
  exact reti_ok X hr hlk rfl (dk rfl) ⟨rfl, rfl⟩ (Nat.le_of_ble_eq_true rfl) (Nat.le_of_ble_eq_true rfl)
set_option maxHeartbeats 4000000 in
theorem s5_isTooLong (h : AH) (S : TS B Q h F) {i : Nat} (hi : i < 52) : CT la D cA B0 pa yX5_isTooLong cX5_isTooLong 1 (some .boolean) (rmD 0 0 0) [.ref (B i)] h (RP (.int (bI (F i).2)) h) := by
  refine CT_of (by decide +kernel) (Nat.le_of_ble_eq_true rfl) ?_
  intro p e s m args below meth c X E hr hlk hnm
  have dk : ∀ {pc : Nat} {q : Instr × Nat}, lkd DX5_isTooLong pc = some q → decode cX5_isTooLong pc = .ok q := lkd_ok DX5_isTooLong_ok
  obtain ⟨a1, a2, xs, a3, a4, a5⟩ := S i hi
  refine fst1_ok X (dk rfl) rfl ?_
  refine getf_ok X flX5_25 (dk rfl) a2 rfl ?_
  exact reti_ok X hr hlk (bI_n _) (dk rfl) ⟨rfl, rfl⟩ (Nat.le_of_ble_eq_true rfl) (Nat.le_of_ble_eq_true rfl)
set_option maxHeartbeats 4000000 in
theorem s5_hasPlace (h : AH) (S : TS B Q h F) {i : Nat} (hi : i < 52) (x : Int32) : CT la D cA B0 pa yX5_hasPlace cX5_hasPlace 2 (some .boolean) (rmD 0 0 0) [.ref (B i), .int x] h (RP (.int (bI (decide (¬ x < 0 ∧ x.toNatClampNeg < (F i).1.length)))) h) := by
  refine CT_of (by decide +kernel) (Nat.le_of_ble_eq_true rfl) ?_
  intro p e s m args below meth c X E hr hlk hnm
  have dk : ∀ {pc : Nat} {q : Instr × Nat}, lkd DX5_hasPlace pc = some q → decode cX5_hasPlace pc = .ok q := lkd_ok DX5_hasPlace_ok
  obtain ⟨a1, a2, xs, a3, a4, a5⟩ := S i hi
  have hL := rmI_le i
  refine fst1_ok X (dk rfl) rfl ?_
  refine br_ok X (dk rfl) rfl (show ((1 : Nat) : Int) + 15 = ((16 : Nat) : Int) from rfl) (fun c1 => ?_) (fun c1 => ?_)
  · rw [decide_eq_false (fun z => z.1 c1)]
    refine fst1_ok X (dk rfl) rfl ?_
    exact reti_ok X hr hlk (bI_n false) (dk rfl) ⟨rfl, rfl⟩ (Nat.le_of_ble_eq_true rfl) (Nat.le_of_ble_eq_true rfl)
  · iterate 2 refine fst1_ok X (dk rfl) rfl ?_
    refine getf_ok X flX5_21 (dk rfl) a2 rfl ?_
    refine br_ok X (dk rfl) rfl (show ((9 : Nat) : Int) + 7 = ((16 : Nat) : Int) from rfl) (fun c2 => ?_) (fun c2 => ?_)
    · have h2 : ¬ x.toNatClampNeg < (F i).1.length := fun z => absurd c2 (Int32.not_le.mpr (nI_lt_of c1 z (by omega)))
      rw [decide_eq_false (fun z => h2 z.2)]
      refine fst1_ok X (dk rfl) rfl ?_
      exact reti_ok X hr hlk (bI_n false) (dk rfl) ⟨rfl, rfl⟩ (Nat.le_of_ble_eq_true rfl) (Nat.le_of_ble_eq_true rfl)
    · rw [decide_eq_true ⟨c1, ix_ok (by omega) c1 c2⟩]
      refine fst1_ok X (dk rfl) rfl ?_
      refine br_ok X (dk rfl) rfl (show ((13 : Nat) : Int) + 4 = ((17 : Nat) : Int) from rfl) (fun _ => ?_) (fun q => absurd trivial q)
      exact reti_ok X hr hlk (bI_n true) (dk rfl) ⟨rfl, rfl⟩ (Nat.le_of_ble_eq_true rfl) (Nat.le_of_ble_eq_true rfl)
set_option maxHeartbeats 4000000 in
theorem s5_letterAt (h : AH) (S : TS B Q h F) {i : Nat} (hi : i < 52) (x : Int32) : CT la D cA B0 pa yX5_letterAt cX5_letterAt 2 (some .int) (rmD 0 0 0) [.ref (B i), .int x] h (RP (.int (ltX (F i).1 x)) h) := by
  refine CT_of (by decide +kernel) (Nat.le_of_ble_eq_true rfl) ?_
  intro p e s m args below meth c X E hr hlk hnm
  have dk : ∀ {pc : Nat} {q : Instr × Nat}, lkd DX5_letterAt pc = some q → decode cX5_letterAt pc = .ok q := lkd_ok DX5_letterAt_ok
  obtain ⟨a1, a2, xs, a3, a4, a5⟩ := S i hi
  have hL := rmI_le i
  refine fst1_ok X (dk rfl) rfl ?_
  refine br_ok X (dk rfl) rfl (show ((1 : Nat) : Int) + 29 = ((30 : Nat) : Int) from rfl) (fun c1 => ?_) (fun c1 => ?_)
  · unfold ltX
    rw [if_pos c1]
    refine fst1_ok X (dk rfl) rfl ?_
    exact reti_ok X hr hlk rfl (dk rfl) ⟨rfl, rfl⟩ (Nat.le_of_ble_eq_true rfl) (Nat.le_of_ble_eq_true rfl)
  · unfold ltX
    rw [if_neg c1]
    iterate 2 refine fst1_ok X (dk rfl) rfl ?_
    refine getf_ok X flX5_21 (dk rfl) a2 rfl ?_
    refine br_ok X (dk rfl) rfl (show ((9 : Nat) : Int) + 21 = ((30 : Nat) : Int) from rfl) (fun c2 => ?_) (fun c2 => ?_)
    · have h2 : (F i).1.length ≤ x.toNatClampNeg := by
        rcases Nat.lt_or_ge x.toNatClampNeg (F i).1.length with z | z
        · exact absurd c2 (Int32.not_le.mpr (nI_lt_of c1 z (by omega)))
        · exact z
      rw [List.getElem?_eq_none h2]
      refine fst1_ok X (dk rfl) rfl ?_
      exact reti_ok X hr hlk rfl (dk rfl) ⟨rfl, rfl⟩ (Nat.le_of_ble_eq_true rfl) (Nat.le_of_ble_eq_true rfl)
    · have h2 := ix_ok (by omega) c1 c2
      obtain ⟨y, hy⟩ : ∃ y, (F i).1[x.toNatClampNeg]? = some y := ⟨_, List.getElem?_eq_getElem h2⟩
      rw [hy]
      iterate 2 refine fst1_ok X (dk rfl) rfl ?_
      refine getf_ok X flX5_15 (dk rfl) a2 rfl ?_
      refine alen7_ok X (dk rfl) a3 a4 ?_
      refine br_ok X (dk rfl) rfl (show ((18 : Nat) : Int) + 12 = ((30 : Nat) : Int) from rfl) (fun q => absurd q (Int32.not_le.mpr (nI_lt_of c1 (by omega) (by omega)))) (fun _ => ?_)
      refine fst1_ok X (dk rfl) rfl ?_
      refine getf_ok X flX5_15 (dk rfl) a2 rfl ?_
      refine fst1_ok X (dk rfl) rfl ?_
      refine ald7v_ok X (dk rfl) a3 c1 (take_get a5 hy) ?_
      refine br_ok X (dk rfl) rfl (show ((27 : Nat) : Int) + 5 = ((32 : Nat) : Int) from rfl) (fun _ => ?_) (fun q => absurd trivial q)
      exact reti_ok X hr hlk rfl (dk rfl) ⟨rfl, rfl⟩ (Nat.le_of_ble_eq_true rfl) (Nat.le_of_ble_eq_true rfl)
set_option maxHeartbeats 4000000 in
theorem s5_empty (h : AH) (Y : LYO B Q) (S : TS B Q h F) {i : Nat} (hi : i < 52) : CT la D cA B0 pa yX5_empty cX5_empty 1 none (rmD 0 0 0) [.ref (B i)] h (TP B Q (upF F i ([], false)) h) := by
  refine CT_of (by decide +kernel) (Nat.le_of_ble_eq_true rfl) ?_
  intro p e s m args below meth c X E hr hlk hnm
  have dk : ∀ {pc : Nat} {q : Instr × Nat}, lkd DX5_empty pc = some q → decode cX5_empty pc = .ok q := lkd_ok DX5_empty_ok
  obtain ⟨a1, a2, xs, a3, a4, a5⟩ := S i hi
  iterate 2 refine fst1_ok X (dk rfl) rfl ?_
  refine putf_ok X flX5_21 ftX5_1 (Or.inl rfl) rfl rfl (dk rfl) a2 (Nat.le_of_ble_eq_true rfl) ?_
  iterate 2 refine fst1_ok X (dk rfl) rfl ?_
  refine putf_ok X flX5_25 ftX5_2 (Or.inl rfl) (by decide +kernel) (by decide +kernel) (dk rfl) (hup_self _ _ _) (Nat.le_of_ble_eq_true rfl) ?_
  rw [hup_hup]
  exact retv_ok X hr hlk (dk rfl) ⟨rfl, TS.fld (t := ([], false)) Y S hi (Nat.zero_le _) a3 a4 rfl, (FrT.rf h).setB hi _⟩ (Nat.le_of_ble_eq_true rfl) (Nat.le_of_ble_eq_true rfl)
set_option maxHeartbeats 4000000 in
theorem s5_add (h : AH) (Y : LYO B Q) (S : TS B Q h F) {i : Nat} (hi : i < 52) (x : Int32) : CT la D cA B0 pa yX5_add cX5_add 2 none (rmD 0 0 0) [.ref (B i), .int x] h (TP B Q (upF F i (addC (rmI i) (F i) x)) h) := by
  refine CT_of (by decide +kernel) (Nat.le_of_ble_eq_true rfl) ?_
  intro p e s m args below meth c X E hr hlk hnm
  have dk : ∀ {pc : Nat} {q : Instr × Nat}, lkd DX5_add pc = some q → decode cX5_add pc = .ok q := lkd_ok DX5_add_ok
  obtain ⟨a1, a2, xs, a3, a4, a5⟩ := S i hi
  have hL := rmI_le i
  refine fst1_ok X (dk rfl) rfl ?_
  refine getf_ok X flX5_21 (dk rfl) a2 rfl ?_
  refine br_ok X (dk rfl) rfl (show ((4 : Nat) : Int) + 38 = ((42 : Nat) : Int) from rfl) (fun q => absurd q (nI_pos (by omega))) (fun _ => ?_)
  refine fst1_ok X (dk rfl) rfl ?_
  refine getf_ok X flX5_21 (dk rfl) a2 rfl ?_
  refine fst1_ok X (dk rfl) rfl ?_
  refine getf_ok X flX5_15 (dk rfl) a2 rfl ?_
  refine alen7_ok X (dk rfl) a3 a4 ?_
  refine br_ok X (dk rfl) rfl (show ((16 : Nat) : Int) + 26 = ((42 : Nat) : Int) from rfl) (fun c1 => ?_) (fun c1 => ?_)
  · have h1 : ¬ (F i).1.length < rmI i := fun z => nI_ge z (by omega) c1
    unfold addC
    rw [if_neg h1]
    iterate 2 refine fst1_ok X (dk rfl) rfl ?_
    refine putf_ok X flX5_25 ftX5_2 (Or.inl rfl) (by decide +kernel) (by decide +kernel) (dk rfl) a2 (Nat.le_of_ble_eq_true rfl) ?_
    exact retv_ok X hr hlk (dk rfl) ⟨rfl, TS.fld (t := ((F i).1, true)) Y S hi a1 a3 a4 a5, (FrT.rf h).setB hi _⟩ (Nat.le_of_ble_eq_true rfl) (Nat.le_of_ble_eq_true rfl)
  · have h1 : (F i).1.length < rmI i := by
      rcases Nat.lt_or_ge (F i).1.length (rmI i) with z | z
      · exact z
      · exact absurd ((nI_leI (by omega) (by omega)).mpr z) c1
    unfold addC
    rw [if_pos h1]
    refine fst1_ok X (dk rfl) rfl ?_
    refine getf_ok X flX5_15 (dk rfl) a2 rfl ?_
    refine fst1_ok X (dk rfl) rfl ?_
    refine getf_ok X flX5_21 (dk rfl) a2 rfl ?_
    refine fst1_ok X (dk rfl) rfl ?_
    refine ast7_ok X (dk rfl) a3 (nI_pos (by omega)) (by rw [nI_clamp (by omega), a4]; exact h1) ?_
    rw [nI_clamp (by omega)]
    have S1 := S.arr Y hi a4 a5 (Nat.le_refl _) x
    have b2 : hup h (Q i) (107, (xs.set (F i).1.length x).map Value.int) (B i) = some (7, [.ref (Q i), vI (F i).1.length, .int (bI (F i).2)]) := by rw [hup_ne _ _ (S.bq hi hi)]; exact a2
    iterate 2 refine fst1_ok X (dk rfl) rfl ?_
    refine getf_ok X flX5_21 (dk rfl) b2 rfl ?_
    iterate 2 refine fst1_ok X (dk rfl) rfl ?_
    refine putf_ok X flX5_21 ftX5_1 (Or.inl rfl) rfl rfl (dk rfl) b2 (Nat.le_of_ble_eq_true rfl) ?_
    refine br_ok X (dk rfl) rfl (show ((39 : Nat) : Int) + 8 = ((47 : Nat) : Int) from rfl) (fun _ => ?_) (fun q => absurd trivial q)
    have e1 : Value.int (nI (F i).1.length + Int32.ofInt 1) = vI ((F i).1 ++ [x]).length := congrArg Value.int (by rw [nI_1', nI_add, List.length_append]; rfl)
    have S2 := TS.fld (t := ((F i).1 ++ [x], (F i).2)) Y S1 hi (by simp; omega) (hup_self _ _ _) (by rw [List.length_set]; exact a4) (by
      show (xs.set (F i).1.length x).take ((F i).1 ++ [x]).length = (F i).1 ++ [x]
      rw [List.length_append, List.length_singleton, List.take_add_one, List.take_set, List.set_eq_of_length_le (by rw [List.length_take]; omega), a5, List.getElem?_set_self (by omega)]
      rfl)
    rw [← e1] at S2
    exact retv_ok X hr hlk (dk rfl) ⟨rfl, S2, ((FrT.rf h).setQ hi _).setB hi _⟩ (Nat.le_of_ble_eq_true rfl) (Nat.le_of_ble_eq_true rfl)
end S02
