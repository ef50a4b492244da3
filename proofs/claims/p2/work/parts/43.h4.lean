/-! shift, tell, behind -/
/-- a row, mapped up to a place -/
def mixL (f : Nat → Nat) (xs : List Nat) (j : Nat) : List Nat := (xs.take j).map f ++ xs.drop j
theorem mix_len {f : Nat → Nat} {xs : List Nat} {j : Nat} (h : j ≤ xs.length) : (mixL f xs j).length = xs.length := by
  unfold mixL
  rw [List.length_append, List.length_map, List.length_take, List.length_drop]
  omega
theorem mix_get {f : Nat → Nat} {xs : List Nat} {j x : Nat} (h : xs[j]? = some x) : (mixL f xs j)[j]? = some x := by
  have hj := (List.getElem?_eq_some_iff.mp h).1
  unfold mixL
  rw [List.getElem?_append_right (by rw [List.length_map, List.length_take]; omega), List.length_map, List.length_take, Nat.min_eq_left (by omega), Nat.sub_self, List.getElem?_drop, Nat.add_zero]
  exact h
theorem mix_succ {f : Nat → Nat} {xs : List Nat} {j x : Nat} (h : xs[j]? = some x) : mixL f xs (j + 1) = (xs.take j).map f ++ f x :: xs.drop (j + 1) := by
  unfold mixL
  rw [List.take_add_one, h]
  simp
theorem mix_set {f : Nat → Nat} {xs : List Nat} {j x : Nat} (h : xs[j]? = some x) : (mixL f xs j).set j (f x) = mixL f xs (j + 1) := by
  have hj := (List.getElem?_eq_some_iff.mp h).1
  rw [mix_succ h]
  unfold mixL
  rw [drop_cons h, List.set_append_right _ _ (by rw [List.length_map, List.length_take]; omega), List.length_map, List.length_take, Nat.min_eq_left (by omega), Nat.sub_self]
  rfl
theorem mix_same {f : Nat → Nat} {xs : List Nat} {j x : Nat} (h : xs[j]? = some x) (hf : f x = x) : mixL f xs j = mixL f xs (j + 1) := by
  rw [mix_succ h, hf]
  unfold mixL
  rw [drop_cons h]
theorem rem8 {x : Nat} (h : x < 100) : nI x - nI x / (Int8.ofInt 8).toInt32 * (Int8.ofInt 8).toInt32 = nI (x % 8) := by
  have : ∀ x : Nat, x < 100 → nI x - nI x / (Int8.ofInt 8).toInt32 * (Int8.ofInt 8).toInt32 = nI (x % 8) := by decide +kernel
  exact this x h
section M39
variable {la : Launch} {D : va_G} {cA : Nat → ClassId} {B0 pa : Nat} {o S A : Nat} {sl : List (List Nat)} {an : List (List (List Nat))} {a r kn th : Int32}
set_option maxHeartbeats 4000000 in
theorem c_shift (h : AH) (M : MD h o S A sl an a r kn th) (x1 x2 : Int32) : CT la D cA B0 pa yX10_shift cX10_shift 5 (some .int) (rmD 2 1 16) [.ref o, .int x1, .int x2] h (intR o S A kn h) := by
  refine CT_of (by decide +kernel) (Nat.le_of_ble_eq_true rfl) ?_
  intro p e s m args below meth c X E hr hlk hnm
  have dk : ∀ {pc : Nat} {q : Instr × Nat}, lkd DX10_shift pc = some q → decode cX10_shift pc = .ok q := lkd_ok DX10_shift_ok
  have mid2 : ∀ t1 t2 : Bool, (t1 = false → inN 6 x1) → (t2 = false → inN 8 x2) → WR p la e (rmD 2 1 16) s m args below meth c D cA B0 5 (intR o S A kn h) 25 (lv_args 0 [.ref o, .int x1, .int x2]) [.int (bI t2), .int (bI t1), .ref o] h 0 0 := by
    intro t1 t2 ht1 ht2
    refine thr2_ok X E M ⟨Nat.le_of_ble_eq_true rfl, Nat.le_of_ble_eq_true rfl⟩ ⟨Nat.le_of_ble_eq_true rfl, Nat.le_of_ble_eq_true rfl⟩ (Nat.le_of_ble_eq_true rfl) (dk rfl) (fun h1 a1 r1 th1 M1 F1 => ?_)
    cases hb : (t1 || t2) with
    | true =>
      refine br_ok X (dk rfl) rfl (show ((28 : Nat) : Int) + 5 = ((33 : Nat) : Int) from rfl) (fun q => absurd q bI_t) (fun _ => ?_)
      refine fst1_ok X (dk rfl) rfl ?_
      exact reti_ok X hr hlk rfl (dk rfl) ⟨⟨_, rfl⟩, ⟨_, _, _, _, _, M1⟩, F1⟩ (Nat.zero_le _) (Nat.zero_le _)
    | false =>
      refine br_ok X (dk rfl) rfl (show ((28 : Nat) : Int) + 5 = ((33 : Nat) : Int) from rfl) (fun _ => ?_) (fun q => absurd bI_f' q)
      obtain ⟨hb1, hb2⟩ := Bool.or_eq_false_iff.mp hb
      obtain ⟨j1, hj1, rfl⟩ := ht1 hb1
      obtain ⟨j2, hj2, rfl⟩ := ht2 hb2
      obtain ⟨ss, s1, s2, s3⟩ := M1.slot
      obtain ⟨as, a1, a2, a3⟩ := M1.ans
      obtain ⟨b1, y1, e1, f1, g1, w1, n1⟩ := s3 j1 hj1
      have ly1 : (y1.map vI).length = y1.length := List.length_map _
      repeat refine fst1_ok X (dk rfl) rfl ?_
      refine getf_ok X flX10_11 (dk rfl) M1.obj rfl ?_
      refine fst1_ok X (dk rfl) rfl ?_
      refine ldr_ok X (dk rfl) s2 e1 (by omega) ?_
      repeat refine fst1_ok X (dk rfl) rfl ?_
      refine getf_ok X flX10_11 (dk rfl) M1.obj rfl ?_
      refine fst1_ok X (dk rfl) rfl ?_
      refine ldr_ok X (dk rfl) s2 e1 (by omega) ?_
      refine alen_ok X (by decide) (dk rfl) g1 ?_
      rw [ly1]
      refine callS_ok (av := [.ref b1, vI 0, vI y1.length]) (r := []) X E (c_piece h1 (f := 0) (t := y1.length) g1 (Nat.zero_le _) (Nat.le_refl _) (by omega) rfl) lkX10_piece mlX10_40 lsX10_piece ⟨Nat.le_of_ble_eq_true rfl, Nat.le_of_ble_eq_true rfl⟩ ⟨Nat.le_of_ble_eq_true rfl, by show 0 + (y1.length - 0) ≤ 16; omega⟩ (Nat.le_of_ble_eq_true rfl) (dk rfl) ?_
      rintro v h2 ⟨q, rfl, hq, hBq, rfl⟩
      refine WS.widen (k' := 1) (n' := 16) (Nat.le_of_ble_eq_true rfl) (by show 0 + (y1.length - 0) ≤ 16; omega) ?_
      have e0 : (y1.drop 0).take (y1.length - 0) = mixL (shL j2) y1 0 := by unfold mixL; rw [List.drop_zero, Nat.sub_zero, List.take_length, List.take_zero, List.map_nil, List.nil_append]
      rw [e0]
      have loop : ∀ (d i : Nat), d = y1.length - i → i ≤ y1.length → ∀ (l : List (Nat × Value)), lsel l [4, 3, 2, 1, 0] = [(4, vI i), (3, .ref q), (2, vI j2), (1, vI j1), (0, .ref o)] → WR p la e (rmD 2 1 16) s m args below meth c D cA B0 5 (intR o S A kn h) 54 l [] (hup h1 q (IA (mixL (shL j2) y1 i))) 1 16 := by
        intro d
        induction d with
        | zero =>
          intro i hd hi l hl
          have hi2 : i = y1.length := by omega
          subst hi2
          refine WS.sel [4, 3, 2, 1, 0] hl ?_
          have eN : mixL (shL j2) y1 y1.length = y1.map (shL j2) := by unfold mixL; rw [List.take_length, List.drop_length, List.append_nil]
          rw [eN]
          have X2 := Ext.new hq (IA (y1.map (shL j2)))
          have M2 := M1.ext X2
          have tS := w1.shift j2
          repeat refine fst1_ok X (dk rfl) rfl ?_
          refine alen_ok (kd := 100) (vs := (y1.map (shL j2)).map vI) X (by decide) (dk rfl) (hup_self _ _ _) ?_
          rw [show ((y1.map (shL j2)).map vI).length = y1.length by simp]
          refine br_ok X (dk rfl) rfl (show ((58 : Nat) : Int) + 31 = ((89 : Nat) : Int) from rfl) (fun _ => ?_) (fun c1 => absurd (Int32.le_refl _) c1)
          repeat refine fst1_ok X (dk rfl) rfl ?_
          refine getf_ok X flX10_11 (dk rfl) M2.obj rfl ?_
          repeat refine fst1_ok X (dk rfl) rfl ?_
          obtain ⟨vs, v1, v2, M3⟩ := M2.setS hj1 (hup_self _ _ _) ⟨tS, by rw [List.length_map]; omega⟩
          refine str_ok X (dk rfl) v1 (hup_self _ _ _) (by omega) (by omega) ?_
          repeat refine fst1_ok X (dk rfl) rfl ?_
          refine callS_ok (av := [.ref q]) (r := [.ref o]) X E (c_namesOf _ (by rw [hup_ne _ _ (IA_ne (hup_self _ _ _) v1)]; exact hup_self _ _ _) (by rw [List.length_map]; omega) tS.lt) lkX10_namesOf mlX10_124 lsX10_namesOf ⟨Nat.le_of_ble_eq_true rfl, Nat.le_of_ble_eq_true rfl⟩ ⟨Nat.le_of_ble_eq_true rfl, Nat.le_of_ble_eq_true rfl⟩ (Nat.le_of_ble_eq_true rfl) (dk rfl) ?_
          rintro v h3 ⟨rfl, rfl⟩
          refine callS_ok (av := [vI (namesN (y1.map (shL j2)))]) (r := [.ref o]) X E (c_ones _ (nI (namesN (y1.map (shL j2))))) lkX10_ones mlX10_128 lsX10_ones ⟨Nat.le_of_ble_eq_true rfl, Nat.le_of_ble_eq_true rfl⟩ ⟨Nat.le_of_ble_eq_true rfl, Nat.le_of_ble_eq_true rfl⟩ (Nat.le_of_ble_eq_true rfl) (dk rfl) ?_
          rintro v h3 ⟨rfl, rfl⟩
          refine done_ok X E M3 ⟨Nat.le_of_ble_eq_true rfl, Nat.le_of_ble_eq_true rfl⟩ ⟨Nat.le_of_ble_eq_true rfl, Nat.le_of_ble_eq_true rfl⟩ (Nat.le_of_ble_eq_true rfl) (dk rfl) (fun h9 a9 r9 th9 M9 F9 => ?_)
          exact reti_ok X hr hlk rfl (dk rfl) ⟨⟨_, rfl⟩, MI.trans (F1.trans ((Fr.ext X2).set (Or.inr (Or.inl rfl)) _)) ⟨⟨_, _, _, _, _, M9⟩, F9⟩⟩ (Nat.le_of_ble_eq_true rfl) (Nat.le_of_ble_eq_true rfl)
        | succ d ih =>
          intro i hd hi l hl
          obtain ⟨x, hx⟩ : ∃ x, y1[i]? = some x := ⟨y1[i]'(by omega), by simp⟩
          have hx18 := (w1.2 x (List.mem_of_getElem? hx)).lt
          have lm : ((mixL (shL j2) y1 i).map vI).length = y1.length := by rw [List.length_map, mix_len (by omega)]
          have f2 : Value.int (nI i + Int32.ofInt 1) = vI (i + 1) := congrArg Value.int (by rw [nI_1', nI_add])
          have go9 : ∀ (l : List (Nat × Value)), lsel l [4, 3, 2, 1, 0] = [(4, vI i), (3, .ref q), (2, vI j2), (1, vI j1), (0, .ref o)] → WR p la e (rmD 2 1 16) s m args below meth c D cA B0 5 (intR o S A kn h) 83 l [] (hup h1 q (IA (mixL (shL j2) y1 (i + 1)))) 1 16 := by
            intro l hl
            refine WS.sel [4, 3, 2, 1, 0] hl ?_
            repeat refine fst1_ok X (dk rfl) rfl ?_
            refine br_ok X (dk rfl) rfl (show ((86 : Nat) : Int) + (-32) = ((54 : Nat) : Int) from rfl) (fun _ => ?_) (fun q => absurd trivial q)
            refine WS.sel (l' := [(4, vI (i + 1)), (3, .ref q), (2, vI j2), (1, vI j1), (0, .ref o)]) [4, 3, 2, 1, 0] (by rw [← f2]; rfl) ?_
            exact ih (i + 1) (by omega) (by omega) _ rfl
          refine WS.sel [4, 3, 2, 1, 0] hl ?_
          repeat refine fst1_ok X (dk rfl) rfl ?_
          refine alen_ok (kd := 100) (vs := (mixL (shL j2) y1 i).map vI) X (by decide) (dk rfl) (hup_self _ _ _) ?_
          rw [lm]
          refine br_ok X (dk rfl) rfl (show ((58 : Nat) : Int) + 31 = ((89 : Nat) : Int) from rfl) (fun c1 => absurd c1 (nI_ge (by omega) (by omega))) (fun _ => ?_)
          repeat refine fst1_ok X (dk rfl) rfl ?_
          refine ald_ok (kd := 100) (vs := (mixL (shL j2) y1 i).map vI) X (Or.inl ⟨rfl, rfl⟩) (dk rfl) (hup_self _ _ _) (inA_nI (by omega) (IA_get (mix_get hx))) ?_
          repeat refine fst1_ok X (dk rfl) rfl ?_
          refine br_ok X (dk rfl) rfl (show ((67 : Nat) : Int) + 16 = ((83 : Nat) : Int) from rfl) (fun c2 => ?_) (fun c2 => ?_)
          · rw [nI_10] at c2
            have hx10 : 10 ≤ x := nI_ge' (by omega) (by omega) c2
            rw [mix_same hx (show shL j2 x = x by unfold shL; rw [if_neg (by omega)])]
            exact go9 _ rfl
          · rw [nI_10] at c2
            have hx10 : x < 10 := nI_lt' (by omega) (by omega) c2
            repeat refine fst1_ok X (dk rfl) rfl ?_
            refine ald_ok (kd := 100) (vs := (mixL (shL j2) y1 i).map vI) X (Or.inl ⟨rfl, rfl⟩) (dk rfl) (hup_self _ _ _) (inA_nI (by omega) (IA_get (mix_get hx))) ?_
            repeat refine fst1_ok X (dk rfl) rfl ?_
            refine sti_ok X (dk rfl) (hup_self _ _ _) (by rw [lm]; omega) (by rw [lm]; omega) ?_
            rw [hup_hup, nI_add, rem8 (show x + j2 < 100 by omega), show Value.int (nI ((x + j2) % 8)) = vI (shL j2 x) by unfold shL; rw [if_pos hx10]; rfl, ← List.map_set, mix_set hx]
            exact go9 _ rfl
      iterate 3 refine fst1_ok X (dk rfl) rfl ?_
      exact loop _ 0 rfl (Nat.zero_le _) _ rfl
  have mid1 : ∀ t1 : Bool, (t1 = false → inN 6 x1) → WR p la e (rmD 2 1 16) s m args below meth c D cA B0 5 (intR o S A kn h) 13 (lv_args 0 [.ref o, .int x1, .int x2]) [.int (bI t1), .ref o] h 0 0 := by
    intro t1 ht1
    have mid2 := fun t2 => mid2 t1 t2 ht1
    iterate 1 refine fst1_ok X (dk rfl) rfl ?_
    refine isName_ok X E mlX10_99 ⟨Nat.le_of_ble_eq_true rfl, Nat.le_of_ble_eq_true rfl⟩ ⟨Nat.le_of_ble_eq_true rfl, Nat.le_of_ble_eq_true rfl⟩ (Nat.le_of_ble_eq_true rfl) (dk rfl) (fun mid2b0 mid2h0 => ?_)
    cases mid2b0 with
    | false =>
      refine br_ok X (dk rfl) rfl (show ((17 : Nat) : Int) + 7 = ((24 : Nat) : Int) from rfl) (fun q => absurd q bI_f) (fun _ => ?_)
      refine fst1_ok X (dk rfl) rfl ?_
      refine br_ok X (dk rfl) rfl (show ((21 : Nat) : Int) + 4 = ((25 : Nat) : Int) from rfl) (fun _ => ?_) (fun q => absurd trivial q)
      exact mid2 true (fun z => by cases z)
    | true =>
      refine br_ok X (dk rfl) rfl (show ((17 : Nat) : Int) + 7 = ((24 : Nat) : Int) from rfl) (fun _ => ?_) (fun q => absurd bI_t q)
      refine fst1_ok X (dk rfl) rfl ?_
      exact mid2 false (fun _ => mid2h0 rfl)
  iterate 2 refine fst1_ok X (dk rfl) rfl ?_
  refine isSlot_ok X E mlX10_95 ⟨Nat.le_of_ble_eq_true rfl, Nat.le_of_ble_eq_true rfl⟩ ⟨Nat.le_of_ble_eq_true rfl, Nat.le_of_ble_eq_true rfl⟩ (Nat.le_of_ble_eq_true rfl) (dk rfl) (fun mid1b0 mid1h0 => ?_)
  cases mid1b0 with
  | false =>
    refine br_ok X (dk rfl) rfl (show ((5 : Nat) : Int) + 7 = ((12 : Nat) : Int) from rfl) (fun q => absurd q bI_f) (fun _ => ?_)
    refine fst1_ok X (dk rfl) rfl ?_
    refine br_ok X (dk rfl) rfl (show ((9 : Nat) : Int) + 4 = ((13 : Nat) : Int) from rfl) (fun _ => ?_) (fun q => absurd trivial q)
    exact mid1 true (fun z => by cases z)
  | true =>
    refine br_ok X (dk rfl) rfl (show ((5 : Nat) : Int) + 7 = ((12 : Nat) : Int) from rfl) (fun _ => ?_) (fun q => absurd bI_t q)
    refine fst1_ok X (dk rfl) rfl ?_
    exact mid1 false (fun _ => mid1h0 rfl)
set_option maxHeartbeats 4000000 in
theorem c_tell (h : AH) (M : MD h o S A sl an a r kn th) (x1 x2 x3 : Int32) : CT la D cA B0 pa yX10_tell cX10_tell 7 (some .int) (rmD 3 9 16) [.ref o, .int x1, .int x2, .int x3] h (intR o S A kn h) := by
  refine CT_of (by decide +kernel) (Nat.le_of_ble_eq_true rfl) ?_
  intro p e s m args below meth c X E hr hlk hnm
  have dk : ∀ {pc : Nat} {q : Instr × Nat}, lkd DX10_tell pc = some q → decode cX10_tell pc = .ok q := lkd_ok DX10_tell_ok
  have mid2 : ∀ t1 t2 : Bool, (t1 = false → inN 3 x1 ∧ inN 6 x3) → (t2 = false → inN 8 x2) → WR p la e (rmD 3 9 16) s m args below meth c D cA B0 7 (intR o S A kn h) 32 (lv_args 0 [.ref o, .int x1, .int x2, .int x3]) [.int (bI t2), .int (bI t1), .ref o] h 0 0 := by
    intro t1 t2 ht1 ht2
    refine thr2_ok X E M ⟨Nat.le_of_ble_eq_true rfl, Nat.le_of_ble_eq_true rfl⟩ ⟨Nat.le_of_ble_eq_true rfl, Nat.le_of_ble_eq_true rfl⟩ (Nat.le_of_ble_eq_true rfl) (dk rfl) (fun h1 a1 r1 th1 M1 F1 => ?_)
    cases hb : (t1 || t2) with
    | true =>
      refine br_ok X (dk rfl) rfl (show ((35 : Nat) : Int) + 5 = ((40 : Nat) : Int) from rfl) (fun q => absurd q bI_t) (fun _ => ?_)
      refine fst1_ok X (dk rfl) rfl ?_
      exact reti_ok X hr hlk rfl (dk rfl) ⟨⟨_, rfl⟩, ⟨_, _, _, _, _, M1⟩, F1⟩ (Nat.zero_le _) (Nat.zero_le _)
    | false =>
      refine br_ok X (dk rfl) rfl (show ((35 : Nat) : Int) + 5 = ((40 : Nat) : Int) from rfl) (fun _ => ?_) (fun q => absurd bI_f' q)
      obtain ⟨hb1, hb2⟩ := Bool.or_eq_false_iff.mp hb
      obtain ⟨⟨j1, hj1, rfl⟩, ⟨j3, hj3, rfl⟩⟩ := ht1 hb1
      obtain ⟨j2, hj2, rfl⟩ := ht2 hb2
      obtain ⟨ss, s1, s2, s3⟩ := M1.slot
      obtain ⟨as, a1, a2, a3⟩ := M1.ans
      obtain ⟨b1, y1, e1, f1, g1, w1, n1⟩ := a3 j1 hj1
      obtain ⟨b3, y3, e3, f3, g3, w3, n3⟩ := s3 j3 hj3
      have ly3 : (y3.map vI).length = y3.length := List.length_map _
      repeat refine fst1_ok X (dk rfl) rfl ?_
      refine getf_ok X flX10_16 (dk rfl) M1.obj rfl ?_
      refine fst1_ok X (dk rfl) rfl ?_
      refine lda_ok X (dk rfl) a2 e1 (by omega) ?_
      obtain ⟨as1, as2, as3, as4⟩ := g1.row
      obtain ⟨c2, z2, i2, i3, i4⟩ := as4 j2 (by rw [w1.1]; omega)
      have oz := w1.2 z2 (List.mem_of_getElem? i3)
      refine fst1_ok X (dk rfl) rfl ?_
      refine ldr_ok X (dk rfl) as3 i2 (by rw [as2, w1.1]; decide) ?_
      repeat refine fst1_ok X (dk rfl) rfl ?_
      refine getf_ok X flX10_11 (dk rfl) M1.obj rfl ?_
      refine fst1_ok X (dk rfl) rfl ?_
      refine ldr_ok X (dk rfl) s2 e3 (by omega) ?_
      refine callS_ok (av := [.ref c2, .ref b3]) (r := []) X E (c_same h1 i4 g3 (by omega) (by omega) oz.1.lt w3.lt) lkX10_same mlX10_54 lsX10_same ⟨Nat.le_of_ble_eq_true rfl, Nat.le_of_ble_eq_true rfl⟩ ⟨Nat.le_of_ble_eq_true rfl, Nat.le_of_ble_eq_true rfl⟩ (Nat.le_of_ble_eq_true rfl) (dk rfl) ?_
      rintro v h2 ⟨rfl, rfl⟩
      generalize hz : (if z2 = y3 then (1 : Int32) else 0) = z
      repeat refine fst1_ok X (dk rfl) rfl ?_
      refine callS_ok (av := []) (r := []) X E (c_none h2) lkX10_none mlX10_24 lsX10_none ⟨Nat.le_of_ble_eq_true rfl, Nat.le_of_ble_eq_true rfl⟩ ⟨Nat.le_of_ble_eq_true rfl, Nat.le_of_ble_eq_true rfl⟩ (Nat.le_of_ble_eq_true rfl) (dk rfl) ?_
      rintro v h3 ⟨N, rfl, hN, hBN, XN, nN⟩
      have hNS : N ≠ S := fun z => by rw [z, s2] at hN; cases hN
      have fin9 : ∀ (t : Int32) (l : List (Nat × Value)) (hh : AH), MI o S A kn h hh → WR p la e (rmD 3 9 16) s m args below meth c D cA B0 7 (intR o S A kn h) 128 l [.int t, .ref o] hh 9 16 := by
        intro t l hh ⟨⟨sl9, an9, a8, r8, th8, M8⟩, F8⟩
        refine done_ok X E M8 ⟨Nat.le_of_ble_eq_true rfl, Nat.le_of_ble_eq_true rfl⟩ ⟨Nat.le_of_ble_eq_true rfl, Nat.le_of_ble_eq_true rfl⟩ (Nat.le_of_ble_eq_true rfl) (dk rfl) (fun h9 a9 r9 th9 M9 F9 => ?_)
        exact reti_ok X hr hlk rfl (dk rfl) ⟨⟨_, rfl⟩, MI.trans (F8) ⟨⟨_, _, _, _, _, M9⟩, F9⟩⟩ (Nat.le_of_ble_eq_true rfl) (Nat.le_of_ble_eq_true rfl)
      have loop : ∀ (d i : Nat), d = 8 - i → i ≤ 8 → ∀ (hh : AH) (rows : List (List Nat)) (l : List (Nat × Value)), lsel l [6, 5, 4, 3, 2, 1, 0] = [(6, vI i), (5, .ref N), (4, .int z), (3, vI j3), (2, vI j2), (1, vI j1), (0, .ref o)] → Ext h2 hh → Ans hh N rows → AO rows → WR p la e (rmD 3 9 16) s m args below meth c D cA B0 7 (intR o S A kn h) 67 l [] hh 9 16 := by
        intro d
        induction d with
        | zero =>
          intro i hd hi hh rows l hl XX nR oR
          have hi2 : i = 8 := by omega
          subst hi2
          have M2 := M1.ext XX
          obtain ⟨vn, kn1⟩ := nR.kind
          obtain ⟨vs, v1, v2, M3⟩ := M2.setA hj1 nR oR hNS
          refine WS.sel [6, 5, 4, 3, 2, 1, 0] hl ?_
          repeat refine fst1_ok X (dk rfl) rfl ?_
          refine br_ok X (dk rfl) rfl (show ((71 : Nat) : Int) + 38 = ((109 : Nat) : Int) from rfl) (fun _ => ?_) (fun c1 => absurd (by decide) c1)
          repeat refine fst1_ok X (dk rfl) rfl ?_
          refine getf_ok X flX10_16 (dk rfl) M2.obj rfl ?_
          repeat refine fst1_ok X (dk rfl) rfl ?_
          refine sta_ok X (dk rfl) v1 kn1 (by omega) (by omega) ?_
          repeat refine fst1_ok X (dk rfl) rfl ?_
          have I9 : MI o S A kn h (hup hh A (106, vs.set j1 (.ref N))) := ⟨⟨_, _, _, _, _, M3⟩, F1.trans ((Fr.ext XX).set (Or.inr (Or.inr rfl)) _)⟩
          by_cases hz0 : z = 0
          · refine br_ok X (dk rfl) rfl (show ((120 : Nat) : Int) + 7 = ((127 : Nat) : Int) from rfl) (fun _ => ?_) (fun q => absurd hz0 q)
            refine fst1_ok X (dk rfl) rfl ?_
            exact fin9 _ _ _ I9
          · refine br_ok X (dk rfl) rfl (show ((120 : Nat) : Int) + 7 = ((127 : Nat) : Int) from rfl) (fun q => absurd q hz0) (fun _ => ?_)
            refine fst1_ok X (dk rfl) rfl ?_
            refine br_ok X (dk rfl) rfl (show ((124 : Nat) : Int) + 4 = ((128 : Nat) : Int) from rfl) (fun _ => ?_) (fun q => absurd trivial q)
            exact fin9 _ _ _ I9
        | succ d ih =>
          intro i hd hi hh rows l hl XX nR oR
          have M2 := M1.ext XX
          have f2 : Value.int (nI i + Int32.ofInt 1) = vI (i + 1) := congrArg Value.int (by rw [nI_1', nI_add])
          have go9 : ∀ (u : Nat) (w : List Nat) (l : List (Nat × Value)), lsel l [6, 5, 4, 3, 2, 1, 0] = [(6, vI i), (5, .ref N), (4, .int z), (3, vI j3), (2, vI j2), (1, vI j1), (0, .ref o)] → hh u = some (IA w) → TW w ∧ w.length ≤ 16 → WR p la e (rmD 3 9 16) s m args below meth c D cA B0 7 (intR o S A kn h) 102 l [.ref u, vI i, .ref N] hh 9 16 := by
            intro u w l hl hu hw
            obtain ⟨vs0, p1, p2, nA⟩ := AnsPut nR (k := i) (n := 8) (by omega) hu oR.1
            refine WS.sel [6, 5, 4, 3, 2, 1, 0] hl ?_
            refine str_ok X (dk rfl) p1 hu (by omega) (by omega) ?_
            repeat refine fst1_ok X (dk rfl) rfl ?_
            refine br_ok X (dk rfl) rfl (show ((106 : Nat) : Int) + (-39) = ((67 : Nat) : Int) from rfl) (fun _ => ?_) (fun q => absurd trivial q)
            refine WS.sel (l' := [(6, vI (i + 1)), (5, .ref N), (4, .int z), (3, vI j3), (2, vI j2), (1, vI j1), (0, .ref o)]) [6, 5, 4, 3, 2, 1, 0] (by rw [← f2]; rfl) ?_
            exact ih (i + 1) (by omega) (by omega) _ _ _ rfl (XX.set hN _) nA (oR.set hw)
          refine WS.sel [6, 5, 4, 3, 2, 1, 0] hl ?_
          repeat refine fst1_ok X (dk rfl) rfl ?_
          refine br_ok X (dk rfl) rfl (show ((71 : Nat) : Int) + 38 = ((109 : Nat) : Int) from rfl) (fun c1 => absurd c1 (nI_ge (a := i) (b := 8) (by omega) (by omega))) (fun _ => ?_)
          repeat refine fst1_ok X (dk rfl) rfl ?_
          refine br_ok X (dk rfl) rfl (show ((81 : Nat) : Int) + 12 = ((93 : Nat) : Int) from rfl) (fun _ => ?_) (fun _ => ?_)
          · repeat refine fst1_ok X (dk rfl) rfl ?_
            refine getf_ok X flX10_16 (dk rfl) M2.obj rfl ?_
            refine fst1_ok X (dk rfl) rfl ?_
            refine lda_ok X (dk rfl) (XX _ _ a2) e1 (by omega) ?_
            obtain ⟨c5, z5, i5, i6, i7⟩ := as4 i (by rw [w1.1]; omega)
            refine fst1_ok X (dk rfl) rfl ?_
            refine ldr_ok X (dk rfl) (XX _ _ as3) i5 (by rw [as2, w1.1]; decide) ?_
            exact go9 c5 z5 _ rfl (XX _ _ i7) (w1.2 z5 (List.mem_of_getElem? i6))
          · repeat refine fst1_ok X (dk rfl) rfl ?_
            refine getf_ok X flX10_11 (dk rfl) M2.obj rfl ?_
            refine fst1_ok X (dk rfl) rfl ?_
            refine ldr_ok X (dk rfl) (XX _ _ s2) e3 (by omega) ?_
            refine br_ok X (dk rfl) rfl (show ((90 : Nat) : Int) + 12 = ((102 : Nat) : Int) from rfl) (fun _ => ?_) (fun q => absurd trivial q)
            exact go9 b3 y3 _ rfl (XX _ _ g3) ⟨w3, n3⟩
      iterate 3 refine fst1_ok X (dk rfl) rfl ?_
      exact loop 8 0 rfl (Nat.zero_le _) _ _ _ rfl XN nN AO_none
  have mid1 : ∀ t1 : Bool, (t1 = false → inN 3 x1 ∧ inN 6 x3) → WR p la e (rmD 3 9 16) s m args below meth c D cA B0 7 (intR o S A kn h) 20 (lv_args 0 [.ref o, .int x1, .int x2, .int x3]) [.int (bI t1), .ref o] h 0 0 := by
    intro t1 ht1
    have mid2 := fun t2 => mid2 t1 t2 ht1
    iterate 1 refine fst1_ok X (dk rfl) rfl ?_
    refine isName_ok X E mlX10_99 ⟨Nat.le_of_ble_eq_true rfl, Nat.le_of_ble_eq_true rfl⟩ ⟨Nat.le_of_ble_eq_true rfl, Nat.le_of_ble_eq_true rfl⟩ (Nat.le_of_ble_eq_true rfl) (dk rfl) (fun mid2b0 mid2h0 => ?_)
    cases mid2b0 with
    | false =>
      refine br_ok X (dk rfl) rfl (show ((24 : Nat) : Int) + 7 = ((31 : Nat) : Int) from rfl) (fun q => absurd q bI_f) (fun _ => ?_)
      refine fst1_ok X (dk rfl) rfl ?_
      refine br_ok X (dk rfl) rfl (show ((28 : Nat) : Int) + 4 = ((32 : Nat) : Int) from rfl) (fun _ => ?_) (fun q => absurd trivial q)
      exact mid2 true (fun z => by cases z)
    | true =>
      refine br_ok X (dk rfl) rfl (show ((24 : Nat) : Int) + 7 = ((31 : Nat) : Int) from rfl) (fun _ => ?_) (fun q => absurd bI_t q)
      refine fst1_ok X (dk rfl) rfl ?_
      exact mid2 false (fun _ => mid2h0 rfl)
  iterate 2 refine fst1_ok X (dk rfl) rfl ?_
  refine isAnswer_ok X E mlX10_135 ⟨Nat.le_of_ble_eq_true rfl, Nat.le_of_ble_eq_true rfl⟩ ⟨Nat.le_of_ble_eq_true rfl, Nat.le_of_ble_eq_true rfl⟩ (Nat.le_of_ble_eq_true rfl) (dk rfl) (fun mid1b0 mid1h0 => ?_)
  cases mid1b0 with
  | false =>
    refine br_ok X (dk rfl) rfl (show ((5 : Nat) : Int) + 10 = ((15 : Nat) : Int) from rfl) (fun _ => ?_) (fun q => absurd bI_f' q)
    refine fst1_ok X (dk rfl) rfl ?_
    refine br_ok X (dk rfl) rfl (show ((16 : Nat) : Int) + 4 = ((20 : Nat) : Int) from rfl) (fun _ => ?_) (fun q => absurd trivial q)
    exact mid1 true (fun z => by cases z)
  | true =>
    refine br_ok X (dk rfl) rfl (show ((5 : Nat) : Int) + 10 = ((15 : Nat) : Int) from rfl) (fun q => absurd q bI_t) (fun _ => ?_)
    iterate 1 refine fst1_ok X (dk rfl) rfl ?_
    refine isSlot_ok X E mlX10_95 ⟨Nat.le_of_ble_eq_true rfl, Nat.le_of_ble_eq_true rfl⟩ ⟨Nat.le_of_ble_eq_true rfl, Nat.le_of_ble_eq_true rfl⟩ (Nat.le_of_ble_eq_true rfl) (dk rfl) (fun mid1b1 mid1h1 => ?_)
    cases mid1b1 with
    | false =>
      refine br_ok X (dk rfl) rfl (show ((12 : Nat) : Int) + 7 = ((19 : Nat) : Int) from rfl) (fun q => absurd q bI_f) (fun _ => ?_)
      refine fst1_ok X (dk rfl) rfl ?_
      refine br_ok X (dk rfl) rfl (show ((16 : Nat) : Int) + 4 = ((20 : Nat) : Int) from rfl) (fun _ => ?_) (fun q => absurd trivial q)
      exact mid1 true (fun z => by cases z)
    | true =>
      refine br_ok X (dk rfl) rfl (show ((12 : Nat) : Int) + 7 = ((19 : Nat) : Int) from rfl) (fun _ => ?_) (fun q => absurd bI_t q)
      refine fst1_ok X (dk rfl) rfl ?_
      exact mid1 false (fun _ => ⟨mid1h0 rfl, mid1h1 rfl⟩)
set_option maxHeartbeats 4000000 in
theorem c_behind (h : AH) (M : MD h o S A sl an a r kn th) (x1 x2 x3 : Int32) : CT la D cA B0 pa yX10_behind cX10_behind 9 (some .int) (rmD 5 145 2192) [.ref o, .int x1, .int x2, .int x3] h (intR o S A kn h) := by
  refine CT_of (by decide +kernel) (Nat.le_of_ble_eq_true rfl) ?_
  intro p e s m args below meth c X E hr hlk hnm
  have dk : ∀ {pc : Nat} {q : Instr × Nat}, lkd DX10_behind pc = some q → decode cX10_behind pc = .ok q := lkd_ok DX10_behind_ok
  have mid1 : ∀ t1 : Bool, (t1 = false → inN 3 x1 ∧ inN 3 x2 ∧ inN 3 x3) → WR p la e (rmD 5 145 2192) s m args below meth c D cA B0 9 (intR o S A kn h) 27 (lv_args 0 [.ref o, .int x1, .int x2, .int x3]) [.int (bI t1), .ref o] h 0 0 := by
    intro t1 ht1
    refine thr1_ok X E M ⟨Nat.le_of_ble_eq_true rfl, Nat.le_of_ble_eq_true rfl⟩ ⟨Nat.le_of_ble_eq_true rfl, Nat.le_of_ble_eq_true rfl⟩ (Nat.le_of_ble_eq_true rfl) (dk rfl) (fun h1 a1 r1 th1 M1 F1 => ?_)
    cases hb : t1 with
    | true =>
      refine br_ok X (dk rfl) rfl (show ((30 : Nat) : Int) + 5 = ((35 : Nat) : Int) from rfl) (fun q => absurd q bI_t) (fun _ => ?_)
      refine fst1_ok X (dk rfl) rfl ?_
      exact reti_ok X hr hlk rfl (dk rfl) ⟨⟨_, rfl⟩, ⟨_, _, _, _, _, M1⟩, F1⟩ (Nat.zero_le _) (Nat.zero_le _)
    | false =>
      refine br_ok X (dk rfl) rfl (show ((30 : Nat) : Int) + 5 = ((35 : Nat) : Int) from rfl) (fun _ => ?_) (fun q => absurd bI_f' q)
      obtain ⟨⟨j1, hj1, rfl⟩, ⟨j2, hj2, rfl⟩, ⟨j3, hj3, rfl⟩⟩ := ht1 hb
      obtain ⟨ss, s1, s2, s3⟩ := M1.slot
      obtain ⟨as, a1, a2, a3⟩ := M1.ans
      obtain ⟨b1, y1, e1, f1, g1, w1, n1⟩ := a3 j1 hj1
      obtain ⟨b2, y2, e2, f2, g2, w2, n2⟩ := a3 j2 hj2
      obtain ⟨b3, y3, e3, f3, g3, w3, n3⟩ := a3 j3 hj3
      repeat refine fst1_ok X (dk rfl) rfl ?_
      refine getf_ok X flX10_16 (dk rfl) M1.obj rfl ?_
      refine fst1_ok X (dk rfl) rfl ?_
      refine lda_ok X (dk rfl) a2 e1 (by omega) ?_
      repeat refine fst1_ok X (dk rfl) rfl ?_
      refine getf_ok X flX10_16 (dk rfl) M1.obj rfl ?_
      refine fst1_ok X (dk rfl) rfl ?_
      refine lda_ok X (dk rfl) a2 e2 (by omega) ?_
      refine callS_ok (av := [.ref b1, .ref b2]) (r := []) X E (c_withBehind h1 g1 g2 w1 w2) lkX10_withBehind mlX10_149 lsX10_withBehind ⟨Nat.le_of_ble_eq_true rfl, Nat.le_of_ble_eq_true rfl⟩ ⟨Nat.le_of_ble_eq_true rfl, Nat.le_of_ble_eq_true rfl⟩ (Nat.le_of_ble_eq_true rfl) (dk rfl) ?_
      rintro v h2 ⟨N, rfl, hN, hBN, XN, nN⟩
      have hNS : N ≠ S := fun z => by rw [z, s2] at hN; cases hN
      have M2 := M1.ext XN
      obtain ⟨as1, as2, as3, as4⟩ := nN.row
      have lw : (y1.map (usedL y2)).length = 8 := by rw [List.length_map]; exact w1.1
      have tw : ∀ z ∈ y1.map (usedL y2), TW z ∧ z.length ≤ 256 := by
        intro z hz
        obtain ⟨t, ht, rfl⟩ := List.mem_map.mp hz
        have h5 := w1.2 t ht
        refine ⟨TW.used (fun z hz => (w2.2 z hz).1) (by rw [w2.1]; omega) h5.1, ?_⟩
        have := usedL_len y2 (M := 16) (fun z hz => (w2.2 z hz).2) (by omega) t
        omega
      generalize hrows : y1.map (usedL y2) = rows at nN as1 as2 as3 as4 lw tw
      have loop : ∀ (d i : Nat), d = 8 - i → i ≤ 8 → (∀ u z, u < i → rows[u]? = some z → z.length ≤ 16) → ∀ (l : List (Nat × Value)), lsel l [7, 6, 5, 4, 3, 0] = [(7, vI i), (6, vI 8), (5, .ref N), (4, .ref N), (3, vI j3), (0, .ref o)] → WR p la e (rmD 5 145 2192) s m args below meth c D cA B0 9 (intR o S A kn h) 64 l [] h2 137 2184 := by
        intro d
        induction d with
        | zero =>
          intro i hd hi hal l hl
          have hi2 : i = 8 := by omega
          subst hi2
          refine WS.sel [7, 6, 5, 4, 3, 0] hl ?_
          repeat refine fst1_ok X (dk rfl) rfl ?_
          refine br_ok X (dk rfl) rfl (show ((68 : Nat) : Int) + 29 = ((97 : Nat) : Int) from rfl) (fun _ => ?_) (fun c1 => absurd (Int32.le_refl _) c1)
          repeat refine fst1_ok X (dk rfl) rfl ?_
          have oN : AO rows := ⟨lw, fun z hz => ⟨(tw z hz).1, by obtain ⟨u, hu⟩ := List.getElem?_of_mem hz; exact hal u z (by have := (List.getElem?_eq_some_iff.mp hu).1; omega) hu⟩⟩
          refine callV_ok (ci := 12) (T := TX10) (N := 6) (av := [vI j3, .ref N]) (r := []) X E (c_become _ M2 hj3 nN oN hNS) lkX10_become mlX10_145 lmX10_become lpX10_become ⟨Nat.le_of_ble_eq_true rfl, Nat.le_of_ble_eq_true rfl⟩ ⟨Nat.le_of_ble_eq_true rfl, Nat.le_of_ble_eq_true rfl⟩ rfl M2.obj (Nat.le_of_ble_eq_true rfl) (dk rfl) ?_
          rintro v h9 ⟨⟨w9, rfl⟩, I9⟩
          exact reti_ok X hr hlk rfl (dk rfl) ⟨⟨_, rfl⟩, MI.trans (F1.trans (Fr.ext XN)) I9⟩ (Nat.le_of_ble_eq_true rfl) (Nat.le_of_ble_eq_true rfl)
        | succ d ih =>
          intro i hd hi hal l hl
          obtain ⟨c5, z5, i5, i6, i7⟩ := as4 i (by omega)
          have t5 := tw z5 (List.mem_of_getElem? i6)
          have f2 : Value.int (nI i + Int32.ofInt 1) = vI (i + 1) := congrArg Value.int (by rw [nI_1', nI_add])
          refine WS.sel [7, 6, 5, 4, 3, 0] hl ?_
          repeat refine fst1_ok X (dk rfl) rfl ?_
          refine br_ok X (dk rfl) rfl (show ((68 : Nat) : Int) + 29 = ((97 : Nat) : Int) from rfl) (fun c1 => absurd c1 (nI_ge (a := i) (b := 8) (by omega) (by omega))) (fun _ => ?_)
          repeat refine fst1_ok X (dk rfl) rfl ?_
          refine ldr_ok X (dk rfl) as3 i5 (by omega) ?_
          repeat refine fst1_ok X (dk rfl) rfl ?_
          refine alen_ok X (by decide) (dk rfl) i7 ?_
          rw [show (z5.map vI).length = z5.length from List.length_map _]
          repeat refine fst1_ok X (dk rfl) rfl ?_
          refine br_ok X (dk rfl) rfl (show ((83 : Nat) : Int) + 8 = ((91 : Nat) : Int) from rfl) (fun c2 => ?_) (fun _ => ?_)
          · rw [nI_16] at c2
            have l5 : z5.length ≤ 16 := (nI_leI (by omega) (by omega)).mp c2
            repeat refine fst1_ok X (dk rfl) rfl ?_
            refine br_ok X (dk rfl) rfl (show ((94 : Nat) : Int) + (-30) = ((64 : Nat) : Int) from rfl) (fun _ => ?_) (fun q => absurd trivial q)
            refine WS.sel (l' := [(7, vI (i + 1)), (6, vI 8), (5, .ref N), (4, .ref N), (3, vI j3), (0, .ref o)]) [7, 6, 5, 4, 3, 0] (by rw [← f2]; rfl) ?_
            refine ih (i + 1) (by omega) (by omega) (fun u z hu hz => ?_) _ rfl
            rcases Nat.lt_or_ge u i with q | q
            · exact hal u z q hz
            · rw [show u = i by omega, i6] at hz; cases hz; exact l5
          · repeat refine fst1_ok X (dk rfl) rfl ?_
            refine no_ok X E M2 ⟨Nat.le_of_ble_eq_true rfl, Nat.le_of_ble_eq_true rfl⟩ ⟨Nat.le_of_ble_eq_true rfl, Nat.le_of_ble_eq_true rfl⟩ (Nat.le_of_ble_eq_true rfl) (dk rfl) (fun h9 a9 r9 th9 M9 F9 => ?_)
            exact reti_ok X hr hlk rfl (dk rfl) ⟨⟨_, rfl⟩, MI.trans (F1.trans (Fr.ext XN)) ⟨⟨_, _, _, _, _, M9⟩, F9⟩⟩ (Nat.le_of_ble_eq_true rfl) (Nat.le_of_ble_eq_true rfl)
      iterate 4 refine fst1_ok X (dk rfl) rfl ?_
      refine alen_ok X (by decide) (dk rfl) as3 ?_
      rw [show (as1.map Value.ref).length = 8 by rw [List.length_map]; omega]
      iterate 3 refine fst1_ok X (dk rfl) rfl ?_
      exact loop 8 0 rfl (Nat.zero_le _) (fun u z hu _ => absurd hu (Nat.not_lt_zero _)) _ rfl
  iterate 2 refine fst1_ok X (dk rfl) rfl ?_
  refine isAnswer_ok X E mlX10_135 ⟨Nat.le_of_ble_eq_true rfl, Nat.le_of_ble_eq_true rfl⟩ ⟨Nat.le_of_ble_eq_true rfl, Nat.le_of_ble_eq_true rfl⟩ (Nat.le_of_ble_eq_true rfl) (dk rfl) (fun mid1b0 mid1h0 => ?_)
  cases mid1b0 with
  | false =>
    refine br_ok X (dk rfl) rfl (show ((5 : Nat) : Int) + 17 = ((22 : Nat) : Int) from rfl) (fun _ => ?_) (fun q => absurd bI_f' q)
    refine fst1_ok X (dk rfl) rfl ?_
    refine br_ok X (dk rfl) rfl (show ((23 : Nat) : Int) + 4 = ((27 : Nat) : Int) from rfl) (fun _ => ?_) (fun q => absurd trivial q)
    exact mid1 true (fun z => by cases z)
  | true =>
    refine br_ok X (dk rfl) rfl (show ((5 : Nat) : Int) + 17 = ((22 : Nat) : Int) from rfl) (fun q => absurd q bI_t) (fun _ => ?_)
    iterate 1 refine fst1_ok X (dk rfl) rfl ?_
    refine isAnswer_ok X E mlX10_135 ⟨Nat.le_of_ble_eq_true rfl, Nat.le_of_ble_eq_true rfl⟩ ⟨Nat.le_of_ble_eq_true rfl, Nat.le_of_ble_eq_true rfl⟩ (Nat.le_of_ble_eq_true rfl) (dk rfl) (fun mid1b1 mid1h1 => ?_)
    cases mid1b1 with
    | false =>
      refine br_ok X (dk rfl) rfl (show ((12 : Nat) : Int) + 10 = ((22 : Nat) : Int) from rfl) (fun _ => ?_) (fun q => absurd bI_f' q)
      refine fst1_ok X (dk rfl) rfl ?_
      refine br_ok X (dk rfl) rfl (show ((23 : Nat) : Int) + 4 = ((27 : Nat) : Int) from rfl) (fun _ => ?_) (fun q => absurd trivial q)
      exact mid1 true (fun z => by cases z)
    | true =>
      refine br_ok X (dk rfl) rfl (show ((12 : Nat) : Int) + 10 = ((22 : Nat) : Int) from rfl) (fun q => absurd q bI_t) (fun _ => ?_)
      iterate 1 refine fst1_ok X (dk rfl) rfl ?_
      refine isAnswer_ok X E mlX10_135 ⟨Nat.le_of_ble_eq_true rfl, Nat.le_of_ble_eq_true rfl⟩ ⟨Nat.le_of_ble_eq_true rfl, Nat.le_of_ble_eq_true rfl⟩ (Nat.le_of_ble_eq_true rfl) (dk rfl) (fun mid1b2 mid1h2 => ?_)
      cases mid1b2 with
      | false =>
        refine br_ok X (dk rfl) rfl (show ((19 : Nat) : Int) + 7 = ((26 : Nat) : Int) from rfl) (fun q => absurd q bI_f) (fun _ => ?_)
        refine fst1_ok X (dk rfl) rfl ?_
        refine br_ok X (dk rfl) rfl (show ((23 : Nat) : Int) + 4 = ((27 : Nat) : Int) from rfl) (fun _ => ?_) (fun q => absurd trivial q)
        exact mid1 true (fun z => by cases z)
      | true =>
        refine br_ok X (dk rfl) rfl (show ((19 : Nat) : Int) + 7 = ((26 : Nat) : Int) from rfl) (fun _ => ?_) (fun q => absurd bI_t q)
        refine fst1_ok X (dk rfl) rfl ?_
        exact mid1 false (fun _ => ⟨mid1h0 rfl, mid1h1 rfl, mid1h2 rfl⟩)
end M39
